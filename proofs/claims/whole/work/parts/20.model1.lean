
theorem in_key0 {i : Nat} {y : Int32} (e : y = nI i) (h : i < 64) : vp_in (5 * y) 320 := by
  rw [e, show (5 : Int32) = nI 5 from rfl, pk_mul]
  exact vp_in_nI (by omega) (by omega)
theorem in_keyj {i : Nat} {y : Int32} (j : Nat) (e : y = nI i) (h : i < 64) (hj : j < 4) : vp_in (5 * y + 1 + nI j) 320 := by
  rw [e, show (5 : Int32) = nI 5 from rfl, show (1 : Int32) = nI 1 from rfl, pk_mul, nI_add, nI_add]
  exact vp_in_nI (by omega) (by omega)
theorem lt_wt {i k : Nat} {y v : Int32} (e : y = nI i) (e2 : v = nI k) (h0 : 1 ≤ k) (h1 : k ≤ 64) (h2 : i + 1 ≤ k) (hc : ¬ v - 1 ≤ y) : i + 1 + 1 ≤ k := by
  rcases Nat.lt_or_ge (i + 1) k with h | h
  · exact h
  · obtain ⟨k', rfl⟩ : ∃ k', k = k' + 1 := ⟨k - 1, by omega⟩
    refine absurd (show v - 1 ≤ y from ?_) hc
    rw [e, e2, nI_pred]
    exact nI_le (by omega) (by omega)
theorem lt_N {i N : Nat} {y : Int32} (hN : N < 2 ^ 31) (e : y = nI i) (h1 : i ≤ N) (hc : ¬ nI N ≤ y) : i < N := by
  rcases Nat.lt_or_ge i N with h | h
  · exact h
  · exact absurd (show nI N ≤ y by rw [e]; exact nI_le h (by omega)) hc
def f_Mo_f (x_p0 : Int32) : Int32 :=
  ((x_p0 >>> (12 &&& 31)) &&& 7)
set_option maxHeartbeats 4000000 in
set_option maxRecDepth 100000 in
theorem ct_Mo_f (l : Launch) (dC : Nat → ClassId) (dI : Nat → Nat → Nat) (cI : ClassId) (x_p0 : Int32) : Met l y_Mo_f w_Mo_f ({ frames := 0, cells := 0, slots := 0, locals := 0 }) (pcR dC dI cI [] [.int x_p0]) (QcRead (f_Mo_f x_p0)) 0 0 (fun _ => False) := by
  refine Met.ofW (cc := c_Mo_f) (maxL := 1) (ret := (some .int)) (by decide) rfl ?_
  intro p e s m args below meth c s₁ B hml hv
  obtain ⟨rfl, hP, hK⟩ := hv
  have hx := B.exec
  have hb := B.bytes
  have hr := B.returns
  have hts : ∀ w ∈ wG, w.before _ s = true := fun w h => atoms_spec (ws := w_Mo_f) B.pre w (List.mem_cons_of_mem _ h)
  have hown : s.vm.findClass "LabelledCoreModel" = some m.cls := findClass_of_methodNamed B.named
  have hlocks := B.notSynchronized
  have hl := lv_entry ([.int x_p0]) (n := 1) (Nat.le_of_ble_eq_true rfl)
  rw [lg_entry_eq]
  generalize (lg_sl ([.int x_p0]) ++ List.replicate (1 - (lg_sl ([.int x_p0])).length) Slot.unset).toArray = ls at hl ⊢
  have hl : lv_has ls 1 [(0, .int x_p0)] := hl
  refine lv_iload_n hx hb d_Mo_f_0 rfl (lv_at hl 0 rfl) ?_
  refine lv_bipush (v := 12) hx hb d_Mo_f_1 (by decide) ?_
  refine lv_ishr hx hb d_Mo_f_3 ?_
  refine lv_bipush (v := 7) hx hb d_Mo_f_4 (by decide) ?_
  refine lv_iand hx hb d_Mo_f_6 ?_
  have ef : (f_Mo_f x_p0) = (((x_p0 >>> (12 &&& 31)) &&& 7) : Int32) := rfl
  exact W.iret (v := ((x_p0 >>> (12 &&& 31)) &&& 7)) hx hb hr (fun t ht hW => ⟨by rw [ef], ht⟩) (fun _ h => by cases h) d_Mo_f_7
def f_Mo_a (x_p0 : Int32) : Int32 :=
  ((x_p0 >>> (15 &&& 31)) &&& 31)
set_option maxHeartbeats 4000000 in
set_option maxRecDepth 100000 in
theorem ct_Mo_a (l : Launch) (dC : Nat → ClassId) (dI : Nat → Nat → Nat) (cI : ClassId) (x_p0 : Int32) : Met l y_Mo_a w_Mo_a ({ frames := 0, cells := 0, slots := 0, locals := 0 }) (pcR dC dI cI [] [.int x_p0]) (QcRead (f_Mo_a x_p0)) 0 0 (fun _ => False) := by
  refine Met.ofW (cc := c_Mo_a) (maxL := 1) (ret := (some .int)) (by decide) rfl ?_
  intro p e s m args below meth c s₁ B hml hv
  obtain ⟨rfl, hP, hK⟩ := hv
  have hx := B.exec
  have hb := B.bytes
  have hr := B.returns
  have hts : ∀ w ∈ wG, w.before _ s = true := fun w h => atoms_spec (ws := w_Mo_a) B.pre w (List.mem_cons_of_mem _ h)
  have hown : s.vm.findClass "LabelledCoreModel" = some m.cls := findClass_of_methodNamed B.named
  have hlocks := B.notSynchronized
  have hl := lv_entry ([.int x_p0]) (n := 1) (Nat.le_of_ble_eq_true rfl)
  rw [lg_entry_eq]
  generalize (lg_sl ([.int x_p0]) ++ List.replicate (1 - (lg_sl ([.int x_p0])).length) Slot.unset).toArray = ls at hl ⊢
  have hl : lv_has ls 1 [(0, .int x_p0)] := hl
  refine lv_iload_n hx hb d_Mo_a_0 rfl (lv_at hl 0 rfl) ?_
  refine lv_bipush (v := 15) hx hb d_Mo_a_1 (by decide) ?_
  refine lv_ishr hx hb d_Mo_a_3 ?_
  refine lv_bipush (v := 31) hx hb d_Mo_a_4 (by decide) ?_
  refine lv_iand hx hb d_Mo_a_6 ?_
  have ef : (f_Mo_a x_p0) = (((x_p0 >>> (15 &&& 31)) &&& 31) : Int32) := rfl
  exact W.iret (v := ((x_p0 >>> (15 &&& 31)) &&& 31)) hx hb hr (fun t ht hW => ⟨by rw [ef], ht⟩) (fun _ h => by cases h) d_Mo_a_7
def f_Mo_b (x_p0 : Int32) : Int32 :=
  ((x_p0 >>> (20 &&& 31)) &&& 31)
set_option maxHeartbeats 4000000 in
set_option maxRecDepth 100000 in
theorem ct_Mo_b (l : Launch) (dC : Nat → ClassId) (dI : Nat → Nat → Nat) (cI : ClassId) (x_p0 : Int32) : Met l y_Mo_b w_Mo_b ({ frames := 0, cells := 0, slots := 0, locals := 0 }) (pcR dC dI cI [] [.int x_p0]) (QcRead (f_Mo_b x_p0)) 0 0 (fun _ => False) := by
  refine Met.ofW (cc := c_Mo_b) (maxL := 1) (ret := (some .int)) (by decide) rfl ?_
  intro p e s m args below meth c s₁ B hml hv
  obtain ⟨rfl, hP, hK⟩ := hv
  have hx := B.exec
  have hb := B.bytes
  have hr := B.returns
  have hts : ∀ w ∈ wG, w.before _ s = true := fun w h => atoms_spec (ws := w_Mo_b) B.pre w (List.mem_cons_of_mem _ h)
  have hown : s.vm.findClass "LabelledCoreModel" = some m.cls := findClass_of_methodNamed B.named
  have hlocks := B.notSynchronized
  have hl := lv_entry ([.int x_p0]) (n := 1) (Nat.le_of_ble_eq_true rfl)
  rw [lg_entry_eq]
  generalize (lg_sl ([.int x_p0]) ++ List.replicate (1 - (lg_sl ([.int x_p0])).length) Slot.unset).toArray = ls at hl ⊢
  have hl : lv_has ls 1 [(0, .int x_p0)] := hl
  refine lv_iload_n hx hb d_Mo_b_0 rfl (lv_at hl 0 rfl) ?_
  refine lv_bipush (v := 20) hx hb d_Mo_b_1 (by decide) ?_
  refine lv_ishr hx hb d_Mo_b_3 ?_
  refine lv_bipush (v := 31) hx hb d_Mo_b_4 (by decide) ?_
  refine lv_iand hx hb d_Mo_b_6 ?_
  have ef : (f_Mo_b x_p0) = (((x_p0 >>> (20 &&& 31)) &&& 31) : Int32) := rfl
  exact W.iret (v := ((x_p0 >>> (20 &&& 31)) &&& 31)) hx hb hr (fun t ht hW => ⟨by rw [ef], ht⟩) (fun _ h => by cases h) d_Mo_b_7
def f_Mo_d (x_p0 : Int32) : Int32 :=
  ((x_p0 >>> (7 &&& 31)) &&& 31)
set_option maxHeartbeats 4000000 in
set_option maxRecDepth 100000 in
theorem ct_Mo_d (l : Launch) (dC : Nat → ClassId) (dI : Nat → Nat → Nat) (cI : ClassId) (x_p0 : Int32) : Met l y_Mo_d w_Mo_d ({ frames := 0, cells := 0, slots := 0, locals := 0 }) (pcR dC dI cI [] [.int x_p0]) (QcRead (f_Mo_d x_p0)) 0 0 (fun _ => False) := by
  refine Met.ofW (cc := c_Mo_d) (maxL := 1) (ret := (some .int)) (by decide) rfl ?_
  intro p e s m args below meth c s₁ B hml hv
  obtain ⟨rfl, hP, hK⟩ := hv
  have hx := B.exec
  have hb := B.bytes
  have hr := B.returns
  have hts : ∀ w ∈ wG, w.before _ s = true := fun w h => atoms_spec (ws := w_Mo_d) B.pre w (List.mem_cons_of_mem _ h)
  have hown : s.vm.findClass "LabelledCoreModel" = some m.cls := findClass_of_methodNamed B.named
  have hlocks := B.notSynchronized
  have hl := lv_entry ([.int x_p0]) (n := 1) (Nat.le_of_ble_eq_true rfl)
  rw [lg_entry_eq]
  generalize (lg_sl ([.int x_p0]) ++ List.replicate (1 - (lg_sl ([.int x_p0])).length) Slot.unset).toArray = ls at hl ⊢
  have hl : lv_has ls 1 [(0, .int x_p0)] := hl
  refine lv_iload_n hx hb d_Mo_d_0 rfl (lv_at hl 0 rfl) ?_
  refine lv_bipush (v := 7) hx hb d_Mo_d_1 (by decide) ?_
  refine lv_ishr hx hb d_Mo_d_3 ?_
  refine lv_bipush (v := 31) hx hb d_Mo_d_4 (by decide) ?_
  refine lv_iand hx hb d_Mo_d_6 ?_
  have ef : (f_Mo_d x_p0) = (((x_p0 >>> (7 &&& 31)) &&& 31) : Int32) := rfl
  exact W.iret (v := ((x_p0 >>> (7 &&& 31)) &&& 31)) hx hb hr (fun t ht hW => ⟨by rw [ef], ht⟩) (fun _ h => by cases h) d_Mo_d_7
def f_Mo_g (x_p0 : Int32) : Int32 :=
  ((x_p0 >>> (25 &&& 31)) &&& 127)
set_option maxHeartbeats 4000000 in
set_option maxRecDepth 100000 in
theorem ct_Mo_g (l : Launch) (dC : Nat → ClassId) (dI : Nat → Nat → Nat) (cI : ClassId) (x_p0 : Int32) : Met l y_Mo_g w_Mo_g ({ frames := 0, cells := 0, slots := 0, locals := 0 }) (pcR dC dI cI [] [.int x_p0]) (QcRead (f_Mo_g x_p0)) 0 0 (fun _ => False) := by
  refine Met.ofW (cc := c_Mo_g) (maxL := 1) (ret := (some .int)) (by decide) rfl ?_
  intro p e s m args below meth c s₁ B hml hv
  obtain ⟨rfl, hP, hK⟩ := hv
  have hx := B.exec
  have hb := B.bytes
  have hr := B.returns
  have hts : ∀ w ∈ wG, w.before _ s = true := fun w h => atoms_spec (ws := w_Mo_g) B.pre w (List.mem_cons_of_mem _ h)
  have hown : s.vm.findClass "LabelledCoreModel" = some m.cls := findClass_of_methodNamed B.named
  have hlocks := B.notSynchronized
  have hl := lv_entry ([.int x_p0]) (n := 1) (Nat.le_of_ble_eq_true rfl)
  rw [lg_entry_eq]
  generalize (lg_sl ([.int x_p0]) ++ List.replicate (1 - (lg_sl ([.int x_p0])).length) Slot.unset).toArray = ls at hl ⊢
  have hl : lv_has ls 1 [(0, .int x_p0)] := hl
  refine lv_iload_n hx hb d_Mo_g_0 rfl (lv_at hl 0 rfl) ?_
  refine lv_bipush (v := 25) hx hb d_Mo_g_1 (by decide) ?_
  refine lv_ishr hx hb d_Mo_g_3 ?_
  refine lv_bipush (v := 127) hx hb d_Mo_g_4 (by decide) ?_
  refine lv_iand hx hb d_Mo_g_6 ?_
  have ef : (f_Mo_g x_p0) = (((x_p0 >>> (25 &&& 31)) &&& 127) : Int32) := rfl
  exact W.iret (v := ((x_p0 >>> (25 &&& 31)) &&& 127)) hx hb hr (fun t ht hW => ⟨by rw [ef], ht⟩) (fun _ h => by cases h) d_Mo_g_7

theorem in_Mo_a (w : Int32) : vp_in (f_Mo_a w) 32 := in_and31 _
theorem in_Mo_b (w : Int32) : vp_in (f_Mo_b w) 32 := in_and31 _
theorem in_Mo_d (w : Int32) : vp_in (f_Mo_d w) 32 := in_and31 _
def f_Mo_thrown (v_thrown : Int32) : Int32 :=
  v_thrown
set_option maxHeartbeats 4000000 in
set_option maxRecDepth 100000 in
theorem ct_Mo_thrown (l : Launch) (dC : Nat → ClassId) (dI : Nat → Nat → Nat) (cI : ClassId) (h0 a_words a_rules a_registers a_registerLabels a_memory a_memoryLabels a_waiting a_waitingLabels a_out a_outLabels a_keys a_labels : Nat) (v_thrown : Int32) (v_size : Int32) (v_entries : Int32) (v_outcome : Int32) (v_pc : Int32) (v_pcLabel : Int32) (v_wait : Int32) (v_went : Int32) (v_done : Int32) (v_misses : Int32) (v_known : Int32) (v_group : Int32) : Met l y_Mo_thrown w_Mo_thrown ({ frames := 0, cells := 0, slots := 0, locals := 0 }) (pcR dC dI cI [(h0, .inr (6, [.int v_thrown, .ref a_words, .int v_size, .ref a_rules, .int v_entries, .int v_outcome, .int v_pc, .int v_pcLabel, .ref a_registers, .ref a_registerLabels, .ref a_memory, .ref a_memoryLabels, .ref a_waiting, .ref a_waitingLabels, .int v_wait, .ref a_out, .ref a_outLabels, .int v_went, .int v_done, .int v_misses, .ref a_keys, .int v_known, .int v_group, .ref a_labels]))] [.ref h0]) (QcRead (f_Mo_thrown v_thrown)) 0 0 (fun _ => False) := by
  refine Met.ofW (cc := c_Mo_thrown) (maxL := 1) (ret := (some .int)) (by decide) rfl ?_
  intro p e s m args below meth c s₁ B hml hv
  obtain ⟨rfl, hP, hK⟩ := hv
  have hx := B.exec
  have hb := B.bytes
  have hr := B.returns
  have hts : ∀ w ∈ wG, w.before _ s = true := fun w h => atoms_spec (ws := w_Mo_thrown) B.pre w (List.mem_cons_of_mem _ h)
  have hown : s.vm.findClass "LabelledCoreModel" = some m.cls := findClass_of_methodNamed B.named
  have hlocks := B.notSynchronized
  have hl := lv_entry ([.ref h0]) (n := 1) (Nat.le_of_ble_eq_true rfl)
  rw [lg_entry_eq]
  generalize (lg_sl ([.ref h0]) ++ List.replicate (1 - (lg_sl ([.ref h0])).length) Slot.unset).toArray = ls at hl ⊢
  have hl : lv_has ls 1 [(0, .ref h0)] := hl
  refine lv_aload_n hx hb d_Mo_thrown_0 rfl (lv_at hl 0 rfl) ?_
  refine va_get (D := (dC, dI)) (ci := 6) (v := .int v_thrown) (C := "LabelledCoreModel") (T := T_Mo) (N := 24) hx hb hts in_Mo hown hK hP 0 rfl rfl 0 (by decide) (hts _ wm_956) (fun _ h9 => h9) rfl d_Mo_thrown_1 ?_
  have ef : (f_Mo_thrown v_thrown) = (v_thrown : Int32) := rfl
  exact W.iret (v := v_thrown) hx hb hr (fun t ht hW => ⟨by rw [ef], ht⟩) (fun _ h => by cases h) d_Mo_thrown_4
def f_Mo_groupOf (x_p0 : Int32) : Int32 :=
  if (x_p0 &&& 127) = 3 then
    if (f_Mo_f x_p0) = 0 then
      1
    else
      if (f_Mo_f x_p0) = 2 then
        1
      else
        if (f_Mo_f x_p0) = 4 then
          1
        else
          (-1)
  else
    if (x_p0 &&& 127) = 11 then
      if (f_Mo_f x_p0) = 0 then
        7
      else
        if (f_Mo_f x_p0) = 1 then
          8
        else
          if (f_Mo_f x_p0) = 2 then
            9
          else
            (-1)
    else
      if (x_p0 &&& 127) = 19 then
        if (f_Mo_f x_p0) = 1 then
          if (f_Mo_g x_p0) = 0 then
            0
          else
            if (f_Mo_f x_p0) = 5 then
              if (f_Mo_g x_p0) = 32 then
                0
              else
                (-1)
            else
              (-1)
        else
          if (f_Mo_f x_p0) = 5 then
            if (f_Mo_g x_p0) = 0 then
              0
            else
              if (f_Mo_g x_p0) = 32 then
                0
              else
                (-1)
          else
            0
      else
        if (x_p0 &&& 127) = 23 then
          0
        else
          if (x_p0 &&& 127) = 35 then
            if (f_Mo_f x_p0) = 2 then
              2
            else
              if (f_Mo_f x_p0) = 0 then
                3
              else
                (-1)
          else
            if (x_p0 &&& 127) = 51 then
              if (f_Mo_g x_p0) = 0 then
                0
              else
                if (f_Mo_g x_p0) = 32 then
                  if (f_Mo_f x_p0) = 0 then
                    0
                  else
                    if (f_Mo_f x_p0) = 5 then
                      0
                    else
                      (-1)
                else
                  (-1)
            else
              if (x_p0 &&& 127) = 55 then
                0
              else
                if (x_p0 &&& 127) = 99 then
                  if (f_Mo_f x_p0) = 2 then
                    (-1)
                  else
                    if (f_Mo_f x_p0) = 3 then
                      (-1)
                    else
                      4
                else
                  if (x_p0 &&& 127) = 103 then
                    if (f_Mo_f x_p0) = 0 then
                      6
                    else
                      (-1)
                  else
                    if (x_p0 &&& 127) = 111 then
                      5
                    else
                      (-1)
set_option maxHeartbeats 4000000 in
set_option maxRecDepth 100000 in
theorem ct_Mo_groupOf (l : Launch) (dC : Nat → ClassId) (dI : Nat → Nat → Nat) (cI : ClassId) (x_p0 : Int32) : Met l y_Mo_groupOf w_Mo_groupOf ({ frames := 1, cells := 0, slots := 0, locals := 20 }) (pcR dC dI cI [] [.int x_p0]) (QcRead (f_Mo_groupOf x_p0)) 0 0 (fun _ => False) := by
  refine Met.ofW (cc := c_Mo_groupOf) (maxL := 3) (ret := (some .int)) (by decide) rfl ?_
  intro p e s m args below meth c s₁ B hml hv
  obtain ⟨rfl, hP, hK⟩ := hv
  have hx := B.exec
  have hb := B.bytes
  have hr := B.returns
  have hts : ∀ w ∈ wG, w.before _ s = true := fun w h => atoms_spec (ws := w_Mo_groupOf) B.pre w (List.mem_cons_of_mem _ h)
  have hown : s.vm.findClass "LabelledCoreModel" = some m.cls := findClass_of_methodNamed B.named
  have hlocks := B.notSynchronized
  have hl := lv_entry ([.int x_p0]) (n := 3) (Nat.le_of_ble_eq_true rfl)
  rw [lg_entry_eq]
  generalize (lg_sl ([.int x_p0]) ++ List.replicate (3 - (lg_sl ([.int x_p0])).length) Slot.unset).toArray = ls at hl ⊢
  have hl : lv_has ls 3 [(0, .int x_p0)] := hl
  refine lv_iload_n hx hb d_Mo_groupOf_0 rfl (lv_at hl 0 rfl) ?_
  have hPc := hP.sub (ws' := []) [] rfl
  refine W.callR ((W.runS (As := [.int x_p0]) (rest := []) ⟨hx, hb, hml, hown, hts⟩ (ct_Mo_f l dC dI cI x_p0) (va_cwS 1 hts (gS wm_1080 wm_1081 wm_42 wm_1082) rfl rfl rfl (by decide +kernel) ⟨Nat.le_of_ble_eq_true rfl, Nat.le_of_ble_eq_true rfl⟩) ⟨pcR_blind, pcR_pre hPc hK⟩ rfl rfl hl.1 rfl (lv_room (Nat.le_of_ble_eq_true rfl)) d_Mo_groupOf_1 ⟨Nat.le_of_ble_eq_true rfl, Nat.le_of_ble_eq_true rfl⟩)) ?_
  refine W.eq (g2 := F0 m 4 ls [.int (f_Mo_f x_p0)]) rfl ?_
  refine lv_istore_n (lv' := [(1, .int (f_Mo_f x_p0)), (0, .int x_p0)]) hx hb d_Mo_groupOf_4 rfl hl (by decide) rfl (fun ls hl => ?_)
  refine lv_iload_n hx hb d_Mo_groupOf_5 rfl (lv_at hl 1 rfl) ?_
  have hPc := hP.sub (ws' := []) [] rfl
  refine W.callR ((W.runS (As := [.int x_p0]) (rest := []) ⟨hx, hb, hml, hown, hts⟩ (ct_Mo_g l dC dI cI x_p0) (va_cwS 1 hts (gS wm_1083 wm_1084 wm_42 wm_1085) rfl rfl rfl (by decide +kernel) ⟨Nat.le_of_ble_eq_true rfl, Nat.le_of_ble_eq_true rfl⟩) ⟨pcR_blind, pcR_pre hPc hK⟩ rfl rfl hl.1 rfl (lv_room (Nat.le_of_ble_eq_true rfl)) d_Mo_groupOf_6 ⟨Nat.le_of_ble_eq_true rfl, Nat.le_of_ble_eq_true rfl⟩)) ?_
  refine W.eq (g2 := F0 m 9 ls [.int (f_Mo_g x_p0)]) rfl ?_
  refine lv_istore_n (lv' := [(2, .int (f_Mo_g x_p0)), (1, .int (f_Mo_f x_p0)), (0, .int x_p0)]) hx hb d_Mo_groupOf_9 rfl hl (by decide) rfl (fun ls hl => ?_)
  refine lv_iload_n hx hb d_Mo_groupOf_10 rfl (lv_at hl 2 rfl) ?_
  refine lv_bipush (v := 127) hx hb d_Mo_groupOf_11 (by decide) ?_
  refine lv_iand hx hb d_Mo_groupOf_13 ?_
  by_cases c_1 : (x_p0 &&& 127) = 3
  · refine lv_lookup (off := 148) (tgt := 162) hx hb d_Mo_groupOf_14 (by decide) (by rw [c_1]; decide +kernel) (by decide) ?_
    refine lv_iload_n hx hb d_Mo_groupOf_162 rfl (lv_at hl 1 rfl) ?_
    refine lv_if_eq (tgt := 176) hx hb d_Mo_groupOf_163 (by decide) (fun c_2 => ?_) (fun c_2 => ?_)
    · refine lv_iconst (v := 1) hx hb d_Mo_groupOf_176 (by decide) ?_
      refine lv_goto (tgt := 181) hx hb d_Mo_groupOf_177 (by decide) ?_
      have ef : (f_Mo_groupOf x_p0) = (1 : Int32) := (if_pos c_1).trans ((if_pos c_2).trans rfl)
      exact W.iret (v := 1) hx hb hr (fun t ht hW => ⟨by rw [ef], ht⟩) (fun _ h => by cases h) d_Mo_groupOf_181
    · refine lv_iload_n hx hb d_Mo_groupOf_166 rfl (lv_at hl 1 rfl) ?_
      refine lv_iconst (v := 2) hx hb d_Mo_groupOf_167 (by decide) ?_
      refine lv_icmp_eq (tgt := 176) hx hb d_Mo_groupOf_168 (by decide) (fun c_3 => ?_) (fun c_3 => ?_)
      · refine lv_iconst (v := 1) hx hb d_Mo_groupOf_176 (by decide) ?_
        refine lv_goto (tgt := 181) hx hb d_Mo_groupOf_177 (by decide) ?_
        have ef : (f_Mo_groupOf x_p0) = (1 : Int32) := (if_pos c_1).trans ((if_neg c_2).trans ((if_pos c_3).trans rfl))
        exact W.iret (v := 1) hx hb hr (fun t ht hW => ⟨by rw [ef], ht⟩) (fun _ h => by cases h) d_Mo_groupOf_181
      · refine lv_iload_n hx hb d_Mo_groupOf_171 rfl (lv_at hl 1 rfl) ?_
        refine lv_iconst (v := 4) hx hb d_Mo_groupOf_172 (by decide) ?_
        refine lv_icmp_ne (tgt := 180) hx hb d_Mo_groupOf_173 (by decide) (fun c_4 => ?_) (fun c_4 => ?_)
        · refine lv_iconst (v := (-1)) hx hb d_Mo_groupOf_180 (by decide) ?_
          have ef : (f_Mo_groupOf x_p0) = ((-1) : Int32) := (if_pos c_1).trans ((if_neg c_2).trans ((if_neg c_3).trans ((if_neg c_4).trans rfl)))
          exact W.iret (v := (-1)) hx hb hr (fun t ht hW => ⟨by rw [ef], ht⟩) (fun _ h => by cases h) d_Mo_groupOf_181
        · refine lv_iconst (v := 1) hx hb d_Mo_groupOf_176 (by decide) ?_
          refine lv_goto (tgt := 181) hx hb d_Mo_groupOf_177 (by decide) ?_
          have ef : (f_Mo_groupOf x_p0) = (1 : Int32) := (if_pos c_1).trans ((if_neg c_2).trans ((if_neg c_3).trans ((if_pos c_4).trans rfl)))
          exact W.iret (v := 1) hx hb hr (fun t ht hW => ⟨by rw [ef], ht⟩) (fun _ h => by cases h) d_Mo_groupOf_181
  · by_cases c_5 : (x_p0 &&& 127) = 11
    · refine lv_lookup (off := 216) (tgt := 230) hx hb d_Mo_groupOf_14 (by decide) (by rw [c_5]; decide +kernel) (by decide) ?_
      refine lv_iload_n hx hb d_Mo_groupOf_230 rfl (lv_at hl 1 rfl) ?_
      refine lv_if_ne (tgt := 239) hx hb d_Mo_groupOf_231 (by decide) (fun c_6 => ?_) (fun c_6 => ?_)
      · refine lv_iload_n hx hb d_Mo_groupOf_239 rfl (lv_at hl 1 rfl) ?_
        refine lv_iconst (v := 1) hx hb d_Mo_groupOf_240 (by decide) ?_
        refine lv_icmp_ne (tgt := 249) hx hb d_Mo_groupOf_241 (by decide) (fun c_7 => ?_) (fun c_7 => ?_)
        · refine lv_iload_n hx hb d_Mo_groupOf_249 rfl (lv_at hl 1 rfl) ?_
          refine lv_iconst (v := 2) hx hb d_Mo_groupOf_250 (by decide) ?_
          refine lv_icmp_ne (tgt := 259) hx hb d_Mo_groupOf_251 (by decide) (fun c_8 => ?_) (fun c_8 => ?_)
          · refine lv_iconst (v := (-1)) hx hb d_Mo_groupOf_259 (by decide) ?_
            have ef : (f_Mo_groupOf x_p0) = ((-1) : Int32) := (if_neg c_1).trans ((if_pos c_5).trans ((if_neg c_6).trans ((if_neg c_7).trans ((if_neg c_8).trans rfl))))
            exact W.iret (v := (-1)) hx hb hr (fun t ht hW => ⟨by rw [ef], ht⟩) (fun _ h => by cases h) d_Mo_groupOf_260
          · refine lv_bipush (v := 9) hx hb d_Mo_groupOf_254 (by decide) ?_
            refine lv_goto (tgt := 260) hx hb d_Mo_groupOf_256 (by decide) ?_
            have ef : (f_Mo_groupOf x_p0) = (9 : Int32) := (if_neg c_1).trans ((if_pos c_5).trans ((if_neg c_6).trans ((if_neg c_7).trans ((if_pos c_8).trans rfl))))
            exact W.iret (v := 9) hx hb hr (fun t ht hW => ⟨by rw [ef], ht⟩) (fun _ h => by cases h) d_Mo_groupOf_260
        · refine lv_bipush (v := 8) hx hb d_Mo_groupOf_244 (by decide) ?_
          refine lv_goto (tgt := 260) hx hb d_Mo_groupOf_246 (by decide) ?_
          have ef : (f_Mo_groupOf x_p0) = (8 : Int32) := (if_neg c_1).trans ((if_pos c_5).trans ((if_neg c_6).trans ((if_pos c_7).trans rfl)))
          exact W.iret (v := 8) hx hb hr (fun t ht hW => ⟨by rw [ef], ht⟩) (fun _ h => by cases h) d_Mo_groupOf_260
      · refine lv_bipush (v := 7) hx hb d_Mo_groupOf_234 (by decide) ?_
        refine lv_goto (tgt := 260) hx hb d_Mo_groupOf_236 (by decide) ?_
        have ef : (f_Mo_groupOf x_p0) = (7 : Int32) := (if_neg c_1).trans ((if_pos c_5).trans ((if_pos c_6).trans rfl))
        exact W.iret (v := 7) hx hb hr (fun t ht hW => ⟨by rw [ef], ht⟩) (fun _ h => by cases h) d_Mo_groupOf_260
    · by_cases c_9 : (x_p0 &&& 127) = 19
      · refine lv_lookup (off := 115) (tgt := 129) hx hb d_Mo_groupOf_14 (by decide) (by rw [c_9]; decide +kernel) (by decide) ?_
        refine lv_iload_n hx hb d_Mo_groupOf_129 rfl (lv_at hl 1 rfl) ?_
        refine lv_iconst (v := 1) hx hb d_Mo_groupOf_130 (by decide) ?_
        refine lv_icmp_eq (tgt := 139) hx hb d_Mo_groupOf_131 (by decide) (fun c_10 => ?_) (fun c_10 => ?_)
        · refine lv_iload_n hx hb d_Mo_groupOf_139 rfl (lv_at hl 0 rfl) ?_
          refine lv_if_eq (tgt := 154) hx hb d_Mo_groupOf_140 (by decide) (fun c_11 => ?_) (fun c_11 => ?_)
          · refine lv_iconst (v := 0) hx hb d_Mo_groupOf_154 (by decide) ?_
            refine lv_goto (tgt := 159) hx hb d_Mo_groupOf_155 (by decide) ?_
            have ef : (f_Mo_groupOf x_p0) = (0 : Int32) := (if_neg c_1).trans ((if_neg c_5).trans ((if_pos c_9).trans ((if_pos c_10).trans ((if_pos c_11).trans rfl))))
            exact W.iret (v := 0) hx hb hr (fun t ht hW => ⟨by rw [ef], ht⟩) (fun _ h => by cases h) d_Mo_groupOf_159
          · refine lv_iload_n hx hb d_Mo_groupOf_143 rfl (lv_at hl 1 rfl) ?_
            refine lv_iconst (v := 5) hx hb d_Mo_groupOf_144 (by decide) ?_
            refine lv_icmp_ne (tgt := 158) hx hb d_Mo_groupOf_145 (by decide) (fun c_12 => ?_) (fun c_12 => ?_)
            · refine lv_iconst (v := (-1)) hx hb d_Mo_groupOf_158 (by decide) ?_
              have ef : (f_Mo_groupOf x_p0) = ((-1) : Int32) := (if_neg c_1).trans ((if_neg c_5).trans ((if_pos c_9).trans ((if_pos c_10).trans ((if_neg c_11).trans ((if_neg c_12).trans rfl)))))
              exact W.iret (v := (-1)) hx hb hr (fun t ht hW => ⟨by rw [ef], ht⟩) (fun _ h => by cases h) d_Mo_groupOf_159
            · refine lv_iload_n hx hb d_Mo_groupOf_148 rfl (lv_at hl 0 rfl) ?_
              refine lv_bipush (v := 32) hx hb d_Mo_groupOf_149 (by decide) ?_
              refine lv_icmp_ne (tgt := 158) hx hb d_Mo_groupOf_151 (by decide) (fun c_13 => ?_) (fun c_13 => ?_)
              · refine lv_iconst (v := (-1)) hx hb d_Mo_groupOf_158 (by decide) ?_
                have ef : (f_Mo_groupOf x_p0) = ((-1) : Int32) := (if_neg c_1).trans ((if_neg c_5).trans ((if_pos c_9).trans ((if_pos c_10).trans ((if_neg c_11).trans ((if_pos c_12).trans ((if_neg c_13).trans rfl))))))
                exact W.iret (v := (-1)) hx hb hr (fun t ht hW => ⟨by rw [ef], ht⟩) (fun _ h => by cases h) d_Mo_groupOf_159
              · refine lv_iconst (v := 0) hx hb d_Mo_groupOf_154 (by decide) ?_
                refine lv_goto (tgt := 159) hx hb d_Mo_groupOf_155 (by decide) ?_
                have ef : (f_Mo_groupOf x_p0) = (0 : Int32) := (if_neg c_1).trans ((if_neg c_5).trans ((if_pos c_9).trans ((if_pos c_10).trans ((if_neg c_11).trans ((if_pos c_12).trans ((if_pos c_13).trans rfl))))))
                exact W.iret (v := 0) hx hb hr (fun t ht hW => ⟨by rw [ef], ht⟩) (fun _ h => by cases h) d_Mo_groupOf_159
        · refine lv_iload_n hx hb d_Mo_groupOf_134 rfl (lv_at hl 1 rfl) ?_
          refine lv_iconst (v := 5) hx hb d_Mo_groupOf_135 (by decide) ?_
          refine lv_icmp_ne (tgt := 154) hx hb d_Mo_groupOf_136 (by decide) (fun c_14 => ?_) (fun c_14 => ?_)
          · refine lv_iconst (v := 0) hx hb d_Mo_groupOf_154 (by decide) ?_
            refine lv_goto (tgt := 159) hx hb d_Mo_groupOf_155 (by decide) ?_
            have ef : (f_Mo_groupOf x_p0) = (0 : Int32) := (if_neg c_1).trans ((if_neg c_5).trans ((if_pos c_9).trans ((if_neg c_10).trans ((if_neg c_14).trans rfl))))
            exact W.iret (v := 0) hx hb hr (fun t ht hW => ⟨by rw [ef], ht⟩) (fun _ h => by cases h) d_Mo_groupOf_159
          · refine lv_iload_n hx hb d_Mo_groupOf_139 rfl (lv_at hl 0 rfl) ?_
            refine lv_if_eq (tgt := 154) hx hb d_Mo_groupOf_140 (by decide) (fun c_15 => ?_) (fun c_15 => ?_)
            · refine lv_iconst (v := 0) hx hb d_Mo_groupOf_154 (by decide) ?_
              refine lv_goto (tgt := 159) hx hb d_Mo_groupOf_155 (by decide) ?_
              have ef : (f_Mo_groupOf x_p0) = (0 : Int32) := (if_neg c_1).trans ((if_neg c_5).trans ((if_pos c_9).trans ((if_neg c_10).trans ((if_pos c_14).trans ((if_pos c_15).trans rfl)))))
              exact W.iret (v := 0) hx hb hr (fun t ht hW => ⟨by rw [ef], ht⟩) (fun _ h => by cases h) d_Mo_groupOf_159
            · refine lv_iload_n hx hb d_Mo_groupOf_143 rfl (lv_at hl 1 rfl) ?_
              refine lv_iconst (v := 5) hx hb d_Mo_groupOf_144 (by decide) ?_
              refine lv_icmp_ne (tgt := 158) hx hb d_Mo_groupOf_145 (by decide) (fun c_16 => absurd c_14 c_16) (fun c_16 => ?_)
              refine lv_iload_n hx hb d_Mo_groupOf_148 rfl (lv_at hl 0 rfl) ?_
              refine lv_bipush (v := 32) hx hb d_Mo_groupOf_149 (by decide) ?_
              refine lv_icmp_ne (tgt := 158) hx hb d_Mo_groupOf_151 (by decide) (fun c_17 => ?_) (fun c_17 => ?_)
              · refine lv_iconst (v := (-1)) hx hb d_Mo_groupOf_158 (by decide) ?_
                have ef : (f_Mo_groupOf x_p0) = ((-1) : Int32) := (if_neg c_1).trans ((if_neg c_5).trans ((if_pos c_9).trans ((if_neg c_10).trans ((if_pos c_14).trans ((if_neg c_15).trans ((if_neg c_17).trans rfl))))))
                exact W.iret (v := (-1)) hx hb hr (fun t ht hW => ⟨by rw [ef], ht⟩) (fun _ h => by cases h) d_Mo_groupOf_159
              · refine lv_iconst (v := 0) hx hb d_Mo_groupOf_154 (by decide) ?_
                refine lv_goto (tgt := 159) hx hb d_Mo_groupOf_155 (by decide) ?_
                have ef : (f_Mo_groupOf x_p0) = (0 : Int32) := (if_neg c_1).trans ((if_neg c_5).trans ((if_pos c_9).trans ((if_neg c_10).trans ((if_pos c_14).trans ((if_neg c_15).trans ((if_pos c_17).trans rfl))))))
                exact W.iret (v := 0) hx hb hr (fun t ht hW => ⟨by rw [ef], ht⟩) (fun _ h => by cases h) d_Mo_groupOf_159
      · by_cases c_18 : (x_p0 &&& 127) = 23
        · refine lv_lookup (off := 146) (tgt := 160) hx hb d_Mo_groupOf_14 (by decide) (by rw [c_18]; decide +kernel) (by decide) ?_
          refine lv_iconst (v := 0) hx hb d_Mo_groupOf_160 (by decide) ?_
          have ef : (f_Mo_groupOf x_p0) = (0 : Int32) := (if_neg c_1).trans ((if_neg c_5).trans ((if_neg c_9).trans ((if_pos c_18).trans rfl)))
          exact W.iret (v := 0) hx hb hr (fun t ht hW => ⟨by rw [ef], ht⟩) (fun _ h => by cases h) d_Mo_groupOf_161
        · by_cases c_19 : (x_p0 &&& 127) = 35
          · refine lv_lookup (off := 168) (tgt := 182) hx hb d_Mo_groupOf_14 (by decide) (by rw [c_19]; decide +kernel) (by decide) ?_
            refine lv_iload_n hx hb d_Mo_groupOf_182 rfl (lv_at hl 1 rfl) ?_
            refine lv_iconst (v := 2) hx hb d_Mo_groupOf_183 (by decide) ?_
            refine lv_icmp_ne (tgt := 191) hx hb d_Mo_groupOf_184 (by decide) (fun c_20 => ?_) (fun c_20 => ?_)
            · refine lv_iload_n hx hb d_Mo_groupOf_191 rfl (lv_at hl 1 rfl) ?_
              refine lv_if_ne (tgt := 199) hx hb d_Mo_groupOf_192 (by decide) (fun c_21 => ?_) (fun c_21 => ?_)
              · refine lv_iconst (v := (-1)) hx hb d_Mo_groupOf_199 (by decide) ?_
                have ef : (f_Mo_groupOf x_p0) = ((-1) : Int32) := (if_neg c_1).trans ((if_neg c_5).trans ((if_neg c_9).trans ((if_neg c_18).trans ((if_pos c_19).trans ((if_neg c_20).trans ((if_neg c_21).trans rfl))))))
                exact W.iret (v := (-1)) hx hb hr (fun t ht hW => ⟨by rw [ef], ht⟩) (fun _ h => by cases h) d_Mo_groupOf_200
              · refine lv_iconst (v := 3) hx hb d_Mo_groupOf_195 (by decide) ?_
                refine lv_goto (tgt := 200) hx hb d_Mo_groupOf_196 (by decide) ?_
                have ef : (f_Mo_groupOf x_p0) = (3 : Int32) := (if_neg c_1).trans ((if_neg c_5).trans ((if_neg c_9).trans ((if_neg c_18).trans ((if_pos c_19).trans ((if_neg c_20).trans ((if_pos c_21).trans rfl))))))
                exact W.iret (v := 3) hx hb hr (fun t ht hW => ⟨by rw [ef], ht⟩) (fun _ h => by cases h) d_Mo_groupOf_200
            · refine lv_iconst (v := 2) hx hb d_Mo_groupOf_187 (by decide) ?_
              refine lv_goto (tgt := 200) hx hb d_Mo_groupOf_188 (by decide) ?_
              have ef : (f_Mo_groupOf x_p0) = (2 : Int32) := (if_neg c_1).trans ((if_neg c_5).trans ((if_neg c_9).trans ((if_neg c_18).trans ((if_pos c_19).trans ((if_pos c_20).trans rfl)))))
              exact W.iret (v := 2) hx hb hr (fun t ht hW => ⟨by rw [ef], ht⟩) (fun _ h => by cases h) d_Mo_groupOf_200
          · by_cases c_22 : (x_p0 &&& 127) = 51
            · refine lv_lookup (off := 90) (tgt := 104) hx hb d_Mo_groupOf_14 (by decide) (by rw [c_22]; decide +kernel) (by decide) ?_
              refine lv_iload_n hx hb d_Mo_groupOf_104 rfl (lv_at hl 0 rfl) ?_
              refine lv_if_eq (tgt := 123) hx hb d_Mo_groupOf_105 (by decide) (fun c_23 => ?_) (fun c_23 => ?_)
              · refine lv_iconst (v := 0) hx hb d_Mo_groupOf_123 (by decide) ?_
                refine lv_goto (tgt := 128) hx hb d_Mo_groupOf_124 (by decide) ?_
                have ef : (f_Mo_groupOf x_p0) = (0 : Int32) := (if_neg c_1).trans ((if_neg c_5).trans ((if_neg c_9).trans ((if_neg c_18).trans ((if_neg c_19).trans ((if_pos c_22).trans ((if_pos c_23).trans rfl))))))
                exact W.iret (v := 0) hx hb hr (fun t ht hW => ⟨by rw [ef], ht⟩) (fun _ h => by cases h) d_Mo_groupOf_128
              · refine lv_iload_n hx hb d_Mo_groupOf_108 rfl (lv_at hl 0 rfl) ?_
                refine lv_bipush (v := 32) hx hb d_Mo_groupOf_109 (by decide) ?_
                refine lv_icmp_ne (tgt := 127) hx hb d_Mo_groupOf_111 (by decide) (fun c_24 => ?_) (fun c_24 => ?_)
                · refine lv_iconst (v := (-1)) hx hb d_Mo_groupOf_127 (by decide) ?_
                  have ef : (f_Mo_groupOf x_p0) = ((-1) : Int32) := (if_neg c_1).trans ((if_neg c_5).trans ((if_neg c_9).trans ((if_neg c_18).trans ((if_neg c_19).trans ((if_pos c_22).trans ((if_neg c_23).trans ((if_neg c_24).trans rfl)))))))
                  exact W.iret (v := (-1)) hx hb hr (fun t ht hW => ⟨by rw [ef], ht⟩) (fun _ h => by cases h) d_Mo_groupOf_128
                · refine lv_iload_n hx hb d_Mo_groupOf_114 rfl (lv_at hl 1 rfl) ?_
                  refine lv_if_eq (tgt := 123) hx hb d_Mo_groupOf_115 (by decide) (fun c_25 => ?_) (fun c_25 => ?_)
                  · refine lv_iconst (v := 0) hx hb d_Mo_groupOf_123 (by decide) ?_
                    refine lv_goto (tgt := 128) hx hb d_Mo_groupOf_124 (by decide) ?_
                    have ef : (f_Mo_groupOf x_p0) = (0 : Int32) := (if_neg c_1).trans ((if_neg c_5).trans ((if_neg c_9).trans ((if_neg c_18).trans ((if_neg c_19).trans ((if_pos c_22).trans ((if_neg c_23).trans ((if_pos c_24).trans ((if_pos c_25).trans rfl))))))))
                    exact W.iret (v := 0) hx hb hr (fun t ht hW => ⟨by rw [ef], ht⟩) (fun _ h => by cases h) d_Mo_groupOf_128
                  · refine lv_iload_n hx hb d_Mo_groupOf_118 rfl (lv_at hl 1 rfl) ?_
                    refine lv_iconst (v := 5) hx hb d_Mo_groupOf_119 (by decide) ?_
                    refine lv_icmp_ne (tgt := 127) hx hb d_Mo_groupOf_120 (by decide) (fun c_26 => ?_) (fun c_26 => ?_)
                    · refine lv_iconst (v := (-1)) hx hb d_Mo_groupOf_127 (by decide) ?_
                      have ef : (f_Mo_groupOf x_p0) = ((-1) : Int32) := (if_neg c_1).trans ((if_neg c_5).trans ((if_neg c_9).trans ((if_neg c_18).trans ((if_neg c_19).trans ((if_pos c_22).trans ((if_neg c_23).trans ((if_pos c_24).trans ((if_neg c_25).trans ((if_neg c_26).trans rfl)))))))))
                      exact W.iret (v := (-1)) hx hb hr (fun t ht hW => ⟨by rw [ef], ht⟩) (fun _ h => by cases h) d_Mo_groupOf_128
                    · refine lv_iconst (v := 0) hx hb d_Mo_groupOf_123 (by decide) ?_
                      refine lv_goto (tgt := 128) hx hb d_Mo_groupOf_124 (by decide) ?_
                      have ef : (f_Mo_groupOf x_p0) = (0 : Int32) := (if_neg c_1).trans ((if_neg c_5).trans ((if_neg c_9).trans ((if_neg c_18).trans ((if_neg c_19).trans ((if_pos c_22).trans ((if_neg c_23).trans ((if_pos c_24).trans ((if_neg c_25).trans ((if_pos c_26).trans rfl)))))))))
                      exact W.iret (v := 0) hx hb hr (fun t ht hW => ⟨by rw [ef], ht⟩) (fun _ h => by cases h) d_Mo_groupOf_128
            · by_cases c_27 : (x_p0 &&& 127) = 55
              · refine lv_lookup (off := 146) (tgt := 160) hx hb d_Mo_groupOf_14 (by decide) (by rw [c_27]; decide +kernel) (by decide) ?_
                refine lv_iconst (v := 0) hx hb d_Mo_groupOf_160 (by decide) ?_
                have ef : (f_Mo_groupOf x_p0) = (0 : Int32) := (if_neg c_1).trans ((if_neg c_5).trans ((if_neg c_9).trans ((if_neg c_18).trans ((if_neg c_19).trans ((if_neg c_22).trans ((if_pos c_27).trans rfl))))))
                exact W.iret (v := 0) hx hb hr (fun t ht hW => ⟨by rw [ef], ht⟩) (fun _ h => by cases h) d_Mo_groupOf_161
              · by_cases c_28 : (x_p0 &&& 127) = 99
                · refine lv_lookup (off := 187) (tgt := 201) hx hb d_Mo_groupOf_14 (by decide) (by rw [c_28]; decide +kernel) (by decide) ?_
                  refine lv_iload_n hx hb d_Mo_groupOf_201 rfl (lv_at hl 1 rfl) ?_
                  refine lv_iconst (v := 2) hx hb d_Mo_groupOf_202 (by decide) ?_
                  refine lv_icmp_eq (tgt := 211) hx hb d_Mo_groupOf_203 (by decide) (fun c_29 => ?_) (fun c_29 => ?_)
                  · refine lv_iconst (v := (-1)) hx hb d_Mo_groupOf_211 (by decide) ?_
                    refine lv_goto (tgt := 216) hx hb d_Mo_groupOf_212 (by decide) ?_
                    have ef : (f_Mo_groupOf x_p0) = ((-1) : Int32) := (if_neg c_1).trans ((if_neg c_5).trans ((if_neg c_9).trans ((if_neg c_18).trans ((if_neg c_19).trans ((if_neg c_22).trans ((if_neg c_27).trans ((if_pos c_28).trans ((if_pos c_29).trans rfl))))))))
                    exact W.iret (v := (-1)) hx hb hr (fun t ht hW => ⟨by rw [ef], ht⟩) (fun _ h => by cases h) d_Mo_groupOf_216
                  · refine lv_iload_n hx hb d_Mo_groupOf_206 rfl (lv_at hl 1 rfl) ?_
                    refine lv_iconst (v := 3) hx hb d_Mo_groupOf_207 (by decide) ?_
                    refine lv_icmp_ne (tgt := 215) hx hb d_Mo_groupOf_208 (by decide) (fun c_30 => ?_) (fun c_30 => ?_)
                    · refine lv_iconst (v := 4) hx hb d_Mo_groupOf_215 (by decide) ?_
                      have ef : (f_Mo_groupOf x_p0) = (4 : Int32) := (if_neg c_1).trans ((if_neg c_5).trans ((if_neg c_9).trans ((if_neg c_18).trans ((if_neg c_19).trans ((if_neg c_22).trans ((if_neg c_27).trans ((if_pos c_28).trans ((if_neg c_29).trans ((if_neg c_30).trans rfl)))))))))
                      exact W.iret (v := 4) hx hb hr (fun t ht hW => ⟨by rw [ef], ht⟩) (fun _ h => by cases h) d_Mo_groupOf_216
                    · refine lv_iconst (v := (-1)) hx hb d_Mo_groupOf_211 (by decide) ?_
                      refine lv_goto (tgt := 216) hx hb d_Mo_groupOf_212 (by decide) ?_
                      have ef : (f_Mo_groupOf x_p0) = ((-1) : Int32) := (if_neg c_1).trans ((if_neg c_5).trans ((if_neg c_9).trans ((if_neg c_18).trans ((if_neg c_19).trans ((if_neg c_22).trans ((if_neg c_27).trans ((if_pos c_28).trans ((if_neg c_29).trans ((if_pos c_30).trans rfl)))))))))
                      exact W.iret (v := (-1)) hx hb hr (fun t ht hW => ⟨by rw [ef], ht⟩) (fun _ h => by cases h) d_Mo_groupOf_216
                · by_cases c_31 : (x_p0 &&& 127) = 103
                  · refine lv_lookup (off := 205) (tgt := 219) hx hb d_Mo_groupOf_14 (by decide) (by rw [c_31]; decide +kernel) (by decide) ?_
                    refine lv_iload_n hx hb d_Mo_groupOf_219 rfl (lv_at hl 1 rfl) ?_
                    refine lv_if_ne (tgt := 228) hx hb d_Mo_groupOf_220 (by decide) (fun c_32 => ?_) (fun c_32 => ?_)
                    · refine lv_iconst (v := (-1)) hx hb d_Mo_groupOf_228 (by decide) ?_
                      have ef : (f_Mo_groupOf x_p0) = ((-1) : Int32) := (if_neg c_1).trans ((if_neg c_5).trans ((if_neg c_9).trans ((if_neg c_18).trans ((if_neg c_19).trans ((if_neg c_22).trans ((if_neg c_27).trans ((if_neg c_28).trans ((if_pos c_31).trans ((if_neg c_32).trans rfl)))))))))
                      exact W.iret (v := (-1)) hx hb hr (fun t ht hW => ⟨by rw [ef], ht⟩) (fun _ h => by cases h) d_Mo_groupOf_229
                    · refine lv_bipush (v := 6) hx hb d_Mo_groupOf_223 (by decide) ?_
                      refine lv_goto (tgt := 229) hx hb d_Mo_groupOf_225 (by decide) ?_
                      have ef : (f_Mo_groupOf x_p0) = (6 : Int32) := (if_neg c_1).trans ((if_neg c_5).trans ((if_neg c_9).trans ((if_neg c_18).trans ((if_neg c_19).trans ((if_neg c_22).trans ((if_neg c_27).trans ((if_neg c_28).trans ((if_pos c_31).trans ((if_pos c_32).trans rfl)))))))))
                      exact W.iret (v := 6) hx hb hr (fun t ht hW => ⟨by rw [ef], ht⟩) (fun _ h => by cases h) d_Mo_groupOf_229
                  · by_cases c_33 : (x_p0 &&& 127) = 111
                    · refine lv_lookup (off := 203) (tgt := 217) hx hb d_Mo_groupOf_14 (by decide) (by rw [c_33]; decide +kernel) (by decide) ?_
                      refine lv_iconst (v := 5) hx hb d_Mo_groupOf_217 (by decide) ?_
                      have ef : (f_Mo_groupOf x_p0) = (5 : Int32) := (if_neg c_1).trans ((if_neg c_5).trans ((if_neg c_9).trans ((if_neg c_18).trans ((if_neg c_19).trans ((if_neg c_22).trans ((if_neg c_27).trans ((if_neg c_28).trans ((if_neg c_31).trans ((if_pos c_33).trans rfl)))))))))
                      exact W.iret (v := 5) hx hb hr (fun t ht hW => ⟨by rw [ef], ht⟩) (fun _ h => by cases h) d_Mo_groupOf_218
                    · refine lv_lookup (off := 247) (tgt := 261) hx hb d_Mo_groupOf_14 (by decide) (by rw [lv_osw c_1 (show (3 : Int32).toInt = 3 by decide), lv_osw c_5 (show (11 : Int32).toInt = 11 by decide), lv_osw c_9 (show (19 : Int32).toInt = 19 by decide), lv_osw c_18 (show (23 : Int32).toInt = 23 by decide), lv_osw c_19 (show (35 : Int32).toInt = 35 by decide), lv_osw c_22 (show (51 : Int32).toInt = 51 by decide), lv_osw c_27 (show (55 : Int32).toInt = 55 by decide), lv_osw c_28 (show (99 : Int32).toInt = 99 by decide), lv_osw c_31 (show (103 : Int32).toInt = 103 by decide), lv_osw c_33 (show (111 : Int32).toInt = 111 by decide)]; rfl) (by decide) ?_
                      refine lv_iconst (v := (-1)) hx hb d_Mo_groupOf_261 (by decide) ?_
                      have ef : (f_Mo_groupOf x_p0) = ((-1) : Int32) := (if_neg c_1).trans ((if_neg c_5).trans ((if_neg c_9).trans ((if_neg c_18).trans ((if_neg c_19).trans ((if_neg c_22).trans ((if_neg c_27).trans ((if_neg c_28).trans ((if_neg c_31).trans ((if_neg c_33).trans rfl)))))))))
                      exact W.iret (v := (-1)) hx hb hr (fun t ht hW => ⟨by rw [ef], ht⟩) (fun _ h => by cases h) d_Mo_groupOf_262
def f_Mo_less (x_p0 : Int32) (x_p1 : Int32) (x_p2 : Int32) : Int32 :=
  if x_p2 = 0 then
    if x_p1 ≤ x_p0 then
      0
    else
      1
  else
    if 0 ≤ (lg_cmp ((Int32.toInt64 x_p0) &&& 4294967295) ((Int32.toInt64 x_p1) &&& 4294967295)) then
      0
    else
      1
set_option maxHeartbeats 4000000 in
set_option maxRecDepth 100000 in
theorem ct_Mo_less (l : Launch) (dC : Nat → ClassId) (dI : Nat → Nat → Nat) (cI : ClassId) (x_p0 : Int32) (x_p1 : Int32) (x_p2 : Int32) : Met l y_Mo_less w_Mo_less ({ frames := 0, cells := 0, slots := 0, locals := 0 }) (pcR dC dI cI [] [.int x_p0, .int x_p1, .int x_p2]) (QcRead (f_Mo_less x_p0 x_p1 x_p2)) 0 0 (fun _ => False) := by
  refine Met.ofW (cc := c_Mo_less) (maxL := 3) (ret := (some .boolean)) (by decide) rfl ?_
  intro p e s m args below meth c s₁ B hml hv
  obtain ⟨rfl, hP, hK⟩ := hv
  have hx := B.exec
  have hb := B.bytes
  have hr := B.returns
  have hts : ∀ w ∈ wG, w.before _ s = true := fun w h => atoms_spec (ws := w_Mo_less) B.pre w (List.mem_cons_of_mem _ h)
  have hown : s.vm.findClass "LabelledCoreModel" = some m.cls := findClass_of_methodNamed B.named
  have hlocks := B.notSynchronized
  have hl := lv_entry ([.int x_p0, .int x_p1, .int x_p2]) (n := 3) (Nat.le_of_ble_eq_true rfl)
  rw [lg_entry_eq]
  generalize (lg_sl ([.int x_p0, .int x_p1, .int x_p2]) ++ List.replicate (3 - (lg_sl ([.int x_p0, .int x_p1, .int x_p2])).length) Slot.unset).toArray = ls at hl ⊢
  have hl : lv_has ls 3 [(0, .int x_p0), (1, .int x_p1), (2, .int x_p2)] := hl
  refine lv_iload_n hx hb d_Mo_less_0 rfl (lv_at hl 2 rfl) ?_
  refine lv_if_eq (tgt := 28) hx hb d_Mo_less_1 (by decide) (fun c_1 => ?_) (fun c_1 => ?_)
  · refine lv_iload_n hx hb d_Mo_less_28 rfl (lv_at hl 0 rfl) ?_
    refine lv_iload_n hx hb d_Mo_less_29 rfl (lv_at hl 1 rfl) ?_
    refine lv_icmp_ge (tgt := 37) hx hb d_Mo_less_30 (by decide) (fun c_2 => ?_) (fun c_2 => ?_)
    · refine lv_iconst (v := 0) hx hb d_Mo_less_37 (by decide) ?_
      have ef : (f_Mo_less x_p0 x_p1 x_p2) = (0 : Int32) := (if_pos c_1).trans ((if_pos c_2).trans rfl)
      exact W.zret (v := 0) hx hb hr rfl (fun t ht hW => ⟨by rw [ef], ht⟩) (fun _ h => by cases h) d_Mo_less_38
    · refine lv_iconst (v := 1) hx hb d_Mo_less_33 (by decide) ?_
      refine lv_goto (tgt := 38) hx hb d_Mo_less_34 (by decide) ?_
      have ef : (f_Mo_less x_p0 x_p1 x_p2) = (1 : Int32) := (if_pos c_1).trans ((if_neg c_2).trans rfl)
      exact W.zret (v := 1) hx hb hr rfl (fun t ht hW => ⟨by rw [ef], ht⟩) (fun _ h => by cases h) d_Mo_less_38
  · refine lv_iload_n hx hb d_Mo_less_4 rfl (lv_at hl 0 rfl) ?_
    refine lv_i2l (v := (Int32.toInt64 x_p0)) hx hb d_Mo_less_5 rfl ?_
    refine lv_ldc2 (v := 4294967295) hx hb hown (hts _ wm_1140) d_Mo_less_6 ?_
    refine lv_land hx hb d_Mo_less_9 ?_
    refine lv_iload_n hx hb d_Mo_less_10 rfl (lv_at hl 1 rfl) ?_
    refine lv_i2l (v := (Int32.toInt64 x_p1)) hx hb d_Mo_less_11 rfl ?_
    refine lv_ldc2 (v := 4294967295) hx hb hown (hts _ wm_1140) d_Mo_less_12 ?_
    refine lv_land hx hb d_Mo_less_15 ?_
    refine W.lcmp hx hb d_Mo_less_16 ?_
    refine lv_if_ge (tgt := 24) hx hb d_Mo_less_17 (by decide) (fun c_3 => ?_) (fun c_3 => ?_)
    · refine lv_iconst (v := 0) hx hb d_Mo_less_24 (by decide) ?_
      refine lv_goto (tgt := 38) hx hb d_Mo_less_25 (by decide) ?_
      have ef : (f_Mo_less x_p0 x_p1 x_p2) = (0 : Int32) := (if_neg c_1).trans ((if_pos c_3).trans rfl)
      exact W.zret (v := 0) hx hb hr rfl (fun t ht hW => ⟨by rw [ef], ht⟩) (fun _ h => by cases h) d_Mo_less_38
    · refine lv_iconst (v := 1) hx hb d_Mo_less_20 (by decide) ?_
      refine lv_goto (tgt := 38) hx hb d_Mo_less_21 (by decide) ?_
      have ef : (f_Mo_less x_p0 x_p1 x_p2) = (1 : Int32) := (if_neg c_1).trans ((if_neg c_3).trans rfl)
      exact W.zret (v := 1) hx hb hr rfl (fun t ht hW => ⟨by rw [ef], ht⟩) (fun _ h => by cases h) d_Mo_less_38
theorem nb_f_Mo_less (x_p0 : Int32) (x_p1 : Int32) (x_p2 : Int32) : narrow .boolean (.int (f_Mo_less x_p0 x_p1 x_p2)) = .int (f_Mo_less x_p0 x_p1 x_p2) := by
  unfold f_Mo_less
  repeat' split
  all_goals first | rfl | (dsimp only; rfl)
def f_Mo_made (x_p0 : Int32) (x_p1 : Int32) (x_p2 : Int32) (x_p3 : Int32) : Int32 :=
  if x_p0 = 0 then
    if x_p3 = 0 then
      (x_p1 + x_p2)
    else
      (x_p1 - x_p2)
  else
    if x_p0 = 1 then
      (x_p1 <<< ((x_p2 &&& 31) &&& 31))
    else
      if x_p0 = 2 then
        if (f_Mo_less x_p1 x_p2 0) = 0 then
          0
        else
          1
      else
        if x_p0 = 3 then
          if (f_Mo_less x_p1 x_p2 1) = 0 then
            0
          else
            1
        else
          if x_p0 = 4 then
            (x_p1 ^^^ x_p2)
          else
            if x_p0 = 5 then
              if x_p3 = 0 then
                (Int64.toInt32 (((Int32.toInt64 x_p1) &&& 4294967295) >>> (Int32.toInt64 (x_p2 &&& 31) &&& 63)))
              else
                (x_p1 >>> ((x_p2 &&& 31) &&& 31))
            else
              if x_p0 = 6 then
                (x_p1 ||| x_p2)
              else
                (x_p1 &&& x_p2)
set_option maxHeartbeats 4000000 in
set_option maxRecDepth 100000 in
theorem ct_Mo_made (l : Launch) (dC : Nat → ClassId) (dI : Nat → Nat → Nat) (cI : ClassId) (x_p0 : Int32) (x_p1 : Int32) (x_p2 : Int32) (x_p3 : Int32) : Met l y_Mo_made w_Mo_made ({ frames := 1, cells := 0, slots := 0, locals := 22 }) (pcR dC dI cI [] [.int x_p0, .int x_p1, .int x_p2, .int x_p3]) (QcRead (f_Mo_made x_p0 x_p1 x_p2 x_p3)) 0 0 (fun _ => False) := by
  refine Met.ofW (cc := c_Mo_made) (maxL := 4) (ret := (some .int)) (by decide) rfl ?_
  intro p e s m args below meth c s₁ B hml hv
  obtain ⟨rfl, hP, hK⟩ := hv
  have hx := B.exec
  have hb := B.bytes
  have hr := B.returns
  have hts : ∀ w ∈ wG, w.before _ s = true := fun w h => atoms_spec (ws := w_Mo_made) B.pre w (List.mem_cons_of_mem _ h)
  have hown : s.vm.findClass "LabelledCoreModel" = some m.cls := findClass_of_methodNamed B.named
  have hlocks := B.notSynchronized
  have hl := lv_entry ([.int x_p0, .int x_p1, .int x_p2, .int x_p3]) (n := 4) (Nat.le_of_ble_eq_true rfl)
  rw [lg_entry_eq]
  generalize (lg_sl ([.int x_p0, .int x_p1, .int x_p2, .int x_p3]) ++ List.replicate (4 - (lg_sl ([.int x_p0, .int x_p1, .int x_p2, .int x_p3])).length) Slot.unset).toArray = ls at hl ⊢
  have hl : lv_has ls 4 [(0, .int x_p0), (1, .int x_p1), (2, .int x_p2), (3, .int x_p3)] := hl
  refine lv_iload_n hx hb d_Mo_made_0 rfl (lv_at hl 0 rfl) ?_
  by_cases c_1 : x_p0 = 0
  · refine lv_tableIn (off := 43) (tgt := 44) hx hb d_Mo_made_1 (by rw [c_1]; decide +kernel) (by rw [c_1]; decide +kernel) (by rw [c_1]; decide +kernel) (by decide) ?_
    refine lv_iload_n hx hb d_Mo_made_44 rfl (lv_at hl 3 rfl) ?_
    refine lv_if_eq (tgt := 54) hx hb d_Mo_made_45 (by decide) (fun c_2 => ?_) (fun c_2 => ?_)
    · refine lv_iload_n hx hb d_Mo_made_54 rfl (lv_at hl 1 rfl) ?_
      refine lv_iload_n hx hb d_Mo_made_55 rfl (lv_at hl 2 rfl) ?_
      refine lv_iadd hx hb d_Mo_made_56 ?_
      have ef : (f_Mo_made x_p0 x_p1 x_p2 x_p3) = ((x_p1 + x_p2) : Int32) := (if_pos c_1).trans ((if_pos c_2).trans rfl)
      exact W.iret (v := (x_p1 + x_p2)) hx hb hr (fun t ht hW => ⟨by rw [ef], ht⟩) (fun _ h => by cases h) d_Mo_made_57
    · refine lv_iload_n hx hb d_Mo_made_48 rfl (lv_at hl 1 rfl) ?_
      refine lv_iload_n hx hb d_Mo_made_49 rfl (lv_at hl 2 rfl) ?_
      refine lv_isub hx hb d_Mo_made_50 ?_
      refine lv_goto (tgt := 57) hx hb d_Mo_made_51 (by decide) ?_
      have ef : (f_Mo_made x_p0 x_p1 x_p2 x_p3) = ((x_p1 - x_p2) : Int32) := (if_pos c_1).trans ((if_neg c_2).trans rfl)
      exact W.iret (v := (x_p1 - x_p2)) hx hb hr (fun t ht hW => ⟨by rw [ef], ht⟩) (fun _ h => by cases h) d_Mo_made_57
  · by_cases c_3 : x_p0 = 1
    · refine lv_tableIn (off := 57) (tgt := 58) hx hb d_Mo_made_1 (by rw [c_3]; decide +kernel) (by rw [c_3]; decide +kernel) (by rw [c_3]; decide +kernel) (by decide) ?_
      refine lv_iload_n hx hb d_Mo_made_58 rfl (lv_at hl 1 rfl) ?_
      refine lv_iload_n hx hb d_Mo_made_59 rfl (lv_at hl 2 rfl) ?_
      refine lv_bipush (v := 31) hx hb d_Mo_made_60 (by decide) ?_
      refine lv_iand hx hb d_Mo_made_62 ?_
      refine lv_ishl hx hb d_Mo_made_63 ?_
      have ef : (f_Mo_made x_p0 x_p1 x_p2 x_p3) = ((x_p1 <<< ((x_p2 &&& 31) &&& 31)) : Int32) := (if_neg c_1).trans ((if_pos c_3).trans rfl)
      exact W.iret (v := (x_p1 <<< ((x_p2 &&& 31) &&& 31))) hx hb hr (fun t ht hW => ⟨by rw [ef], ht⟩) (fun _ h => by cases h) d_Mo_made_64
    · by_cases c_4 : x_p0 = 2
      · refine lv_tableIn (off := 64) (tgt := 65) hx hb d_Mo_made_1 (by rw [c_4]; decide +kernel) (by rw [c_4]; decide +kernel) (by rw [c_4]; decide +kernel) (by decide) ?_
        refine lv_iload_n hx hb d_Mo_made_65 rfl (lv_at hl 1 rfl) ?_
        refine lv_iload_n hx hb d_Mo_made_66 rfl (lv_at hl 2 rfl) ?_
        refine lv_iconst (v := 0) hx hb d_Mo_made_67 (by decide) ?_
        have hPc := hP.sub (ws' := []) [] rfl
        refine W.callR ((W.runS (As := [.int x_p1, .int x_p2, .int 0]) (rest := []) ⟨hx, hb, hml, hown, hts⟩ (ct_Mo_less l dC dI cI x_p1 x_p2 0) (va_cwS 3 hts (gS wm_1137 wm_1138 wm_42 wm_1139) rfl rfl rfl (by decide +kernel) ⟨Nat.le_of_ble_eq_true rfl, Nat.le_of_ble_eq_true rfl⟩) ⟨pcR_blind, pcR_pre hPc hK⟩ rfl rfl hl.1 rfl (lv_room (Nat.le_of_ble_eq_true rfl)) d_Mo_made_68 ⟨Nat.le_of_ble_eq_true rfl, Nat.le_of_ble_eq_true rfl⟩)) ?_
        refine W.eq (g2 := F0 m 71 ls [.int (f_Mo_less x_p1 x_p2 0)]) rfl ?_
        refine lv_if_eq (tgt := 78) hx hb d_Mo_made_71 (by decide) (fun c_5 => ?_) (fun c_5 => ?_)
        · refine lv_iconst (v := 0) hx hb d_Mo_made_78 (by decide) ?_
          have ef : (f_Mo_made x_p0 x_p1 x_p2 x_p3) = (0 : Int32) := (if_neg c_1).trans ((if_neg c_3).trans ((if_pos c_4).trans ((if_pos c_5).trans rfl)))
          exact W.iret (v := 0) hx hb hr (fun t ht hW => ⟨by rw [ef], ht⟩) (fun _ h => by cases h) d_Mo_made_79
        · refine lv_iconst (v := 1) hx hb d_Mo_made_74 (by decide) ?_
          refine lv_goto (tgt := 79) hx hb d_Mo_made_75 (by decide) ?_
          have ef : (f_Mo_made x_p0 x_p1 x_p2 x_p3) = (1 : Int32) := (if_neg c_1).trans ((if_neg c_3).trans ((if_pos c_4).trans ((if_neg c_5).trans rfl)))
          exact W.iret (v := 1) hx hb hr (fun t ht hW => ⟨by rw [ef], ht⟩) (fun _ h => by cases h) d_Mo_made_79
      · by_cases c_6 : x_p0 = 3
        · refine lv_tableIn (off := 79) (tgt := 80) hx hb d_Mo_made_1 (by rw [c_6]; decide +kernel) (by rw [c_6]; decide +kernel) (by rw [c_6]; decide +kernel) (by decide) ?_
          refine lv_iload_n hx hb d_Mo_made_80 rfl (lv_at hl 1 rfl) ?_
          refine lv_iload_n hx hb d_Mo_made_81 rfl (lv_at hl 2 rfl) ?_
          refine lv_iconst (v := 1) hx hb d_Mo_made_82 (by decide) ?_
          have hPc := hP.sub (ws' := []) [] rfl
          refine W.callR ((W.runS (As := [.int x_p1, .int x_p2, .int 1]) (rest := []) ⟨hx, hb, hml, hown, hts⟩ (ct_Mo_less l dC dI cI x_p1 x_p2 1) (va_cwS 3 hts (gS wm_1137 wm_1138 wm_42 wm_1139) rfl rfl rfl (by decide +kernel) ⟨Nat.le_of_ble_eq_true rfl, Nat.le_of_ble_eq_true rfl⟩) ⟨pcR_blind, pcR_pre hPc hK⟩ rfl rfl hl.1 rfl (lv_room (Nat.le_of_ble_eq_true rfl)) d_Mo_made_83 ⟨Nat.le_of_ble_eq_true rfl, Nat.le_of_ble_eq_true rfl⟩)) ?_
          refine W.eq (g2 := F0 m 86 ls [.int (f_Mo_less x_p1 x_p2 1)]) rfl ?_
          refine lv_if_eq (tgt := 93) hx hb d_Mo_made_86 (by decide) (fun c_7 => ?_) (fun c_7 => ?_)
          · refine lv_iconst (v := 0) hx hb d_Mo_made_93 (by decide) ?_
            have ef : (f_Mo_made x_p0 x_p1 x_p2 x_p3) = (0 : Int32) := (if_neg c_1).trans ((if_neg c_3).trans ((if_neg c_4).trans ((if_pos c_6).trans ((if_pos c_7).trans rfl))))
            exact W.iret (v := 0) hx hb hr (fun t ht hW => ⟨by rw [ef], ht⟩) (fun _ h => by cases h) d_Mo_made_94
          · refine lv_iconst (v := 1) hx hb d_Mo_made_89 (by decide) ?_
            refine lv_goto (tgt := 94) hx hb d_Mo_made_90 (by decide) ?_
            have ef : (f_Mo_made x_p0 x_p1 x_p2 x_p3) = (1 : Int32) := (if_neg c_1).trans ((if_neg c_3).trans ((if_neg c_4).trans ((if_pos c_6).trans ((if_neg c_7).trans rfl))))
            exact W.iret (v := 1) hx hb hr (fun t ht hW => ⟨by rw [ef], ht⟩) (fun _ h => by cases h) d_Mo_made_94
        · by_cases c_8 : x_p0 = 4
          · refine lv_tableIn (off := 94) (tgt := 95) hx hb d_Mo_made_1 (by rw [c_8]; decide +kernel) (by rw [c_8]; decide +kernel) (by rw [c_8]; decide +kernel) (by decide) ?_
            refine lv_iload_n hx hb d_Mo_made_95 rfl (lv_at hl 1 rfl) ?_
            refine lv_iload_n hx hb d_Mo_made_96 rfl (lv_at hl 2 rfl) ?_
            refine lv_ixor hx hb d_Mo_made_97 ?_
            have ef : (f_Mo_made x_p0 x_p1 x_p2 x_p3) = ((x_p1 ^^^ x_p2) : Int32) := (if_neg c_1).trans ((if_neg c_3).trans ((if_neg c_4).trans ((if_neg c_6).trans ((if_pos c_8).trans rfl))))
            exact W.iret (v := (x_p1 ^^^ x_p2)) hx hb hr (fun t ht hW => ⟨by rw [ef], ht⟩) (fun _ h => by cases h) d_Mo_made_98
          · by_cases c_9 : x_p0 = 5
            · refine lv_tableIn (off := 98) (tgt := 99) hx hb d_Mo_made_1 (by rw [c_9]; decide +kernel) (by rw [c_9]; decide +kernel) (by rw [c_9]; decide +kernel) (by decide) ?_
              refine lv_iload_n hx hb d_Mo_made_99 rfl (lv_at hl 3 rfl) ?_
              refine lv_if_eq (tgt := 112) hx hb d_Mo_made_100 (by decide) (fun c_10 => ?_) (fun c_10 => ?_)
              · refine lv_iload_n hx hb d_Mo_made_112 rfl (lv_at hl 1 rfl) ?_
                refine lv_i2l (v := (Int32.toInt64 x_p1)) hx hb d_Mo_made_113 rfl ?_
                refine lv_ldc2 (v := 4294967295) hx hb hown (hts _ wm_1140) d_Mo_made_114 ?_
                refine lv_land hx hb d_Mo_made_117 ?_
                refine lv_iload_n hx hb d_Mo_made_118 rfl (lv_at hl 2 rfl) ?_
                refine lv_bipush (v := 31) hx hb d_Mo_made_119 (by decide) ?_
                refine lv_iand hx hb d_Mo_made_121 ?_
                refine lv_lshr (v := (((Int32.toInt64 x_p1) &&& 4294967295) >>> (Int32.toInt64 (x_p2 &&& 31) &&& 63))) hx hb d_Mo_made_122 rfl ?_
                refine lv_l2i (v := (Int64.toInt32 (((Int32.toInt64 x_p1) &&& 4294967295) >>> (Int32.toInt64 (x_p2 &&& 31) &&& 63)))) hx hb d_Mo_made_123 rfl ?_
                have ef : (f_Mo_made x_p0 x_p1 x_p2 x_p3) = ((Int64.toInt32 (((Int32.toInt64 x_p1) &&& 4294967295) >>> (Int32.toInt64 (x_p2 &&& 31) &&& 63))) : Int32) := (if_neg c_1).trans ((if_neg c_3).trans ((if_neg c_4).trans ((if_neg c_6).trans ((if_neg c_8).trans ((if_pos c_9).trans ((if_pos c_10).trans rfl))))))
                exact W.iret (v := (Int64.toInt32 (((Int32.toInt64 x_p1) &&& 4294967295) >>> (Int32.toInt64 (x_p2 &&& 31) &&& 63)))) hx hb hr (fun t ht hW => ⟨by rw [ef], ht⟩) (fun _ h => by cases h) d_Mo_made_124
              · refine lv_iload_n hx hb d_Mo_made_103 rfl (lv_at hl 1 rfl) ?_
                refine lv_iload_n hx hb d_Mo_made_104 rfl (lv_at hl 2 rfl) ?_
                refine lv_bipush (v := 31) hx hb d_Mo_made_105 (by decide) ?_
                refine lv_iand hx hb d_Mo_made_107 ?_
                refine lv_ishr hx hb d_Mo_made_108 ?_
                refine lv_goto (tgt := 124) hx hb d_Mo_made_109 (by decide) ?_
                have ef : (f_Mo_made x_p0 x_p1 x_p2 x_p3) = ((x_p1 >>> ((x_p2 &&& 31) &&& 31)) : Int32) := (if_neg c_1).trans ((if_neg c_3).trans ((if_neg c_4).trans ((if_neg c_6).trans ((if_neg c_8).trans ((if_pos c_9).trans ((if_neg c_10).trans rfl))))))
                exact W.iret (v := (x_p1 >>> ((x_p2 &&& 31) &&& 31))) hx hb hr (fun t ht hW => ⟨by rw [ef], ht⟩) (fun _ h => by cases h) d_Mo_made_124
            · by_cases c_11 : x_p0 = 6
              · refine lv_tableIn (off := 124) (tgt := 125) hx hb d_Mo_made_1 (by rw [c_11]; decide +kernel) (by rw [c_11]; decide +kernel) (by rw [c_11]; decide +kernel) (by decide) ?_
                refine lv_iload_n hx hb d_Mo_made_125 rfl (lv_at hl 1 rfl) ?_
                refine lv_iload_n hx hb d_Mo_made_126 rfl (lv_at hl 2 rfl) ?_
                refine lv_ior hx hb d_Mo_made_127 ?_
                have ef : (f_Mo_made x_p0 x_p1 x_p2 x_p3) = ((x_p1 ||| x_p2) : Int32) := (if_neg c_1).trans ((if_neg c_3).trans ((if_neg c_4).trans ((if_neg c_6).trans ((if_neg c_8).trans ((if_neg c_9).trans ((if_pos c_11).trans rfl))))))
                exact W.iret (v := (x_p1 ||| x_p2)) hx hb hr (fun t ht hW => ⟨by rw [ef], ht⟩) (fun _ h => by cases h) d_Mo_made_128
              · refine lv_tableOut (tgt := 129) hx hb d_Mo_made_1 (by have q0 := lv_neT c_1 (show (0 : Int32).toInt = 0 by decide); have q1 := lv_neT c_3 (show (1 : Int32).toInt = 1 by decide); have q2 := lv_neT c_4 (show (2 : Int32).toInt = 2 by decide); have q3 := lv_neT c_6 (show (3 : Int32).toInt = 3 by decide); have q4 := lv_neT c_8 (show (4 : Int32).toInt = 4 by decide); have q5 := lv_neT c_9 (show (5 : Int32).toInt = 5 by decide); have q6 := lv_neT c_11 (show (6 : Int32).toInt = 6 by decide); omega) (by decide) ?_
                refine lv_iload_n hx hb d_Mo_made_129 rfl (lv_at hl 1 rfl) ?_
                refine lv_iload_n hx hb d_Mo_made_130 rfl (lv_at hl 2 rfl) ?_
                refine lv_iand hx hb d_Mo_made_131 ?_
                have ef : (f_Mo_made x_p0 x_p1 x_p2 x_p3) = ((x_p1 &&& x_p2) : Int32) := (if_neg c_1).trans ((if_neg c_3).trans ((if_neg c_4).trans ((if_neg c_6).trans ((if_neg c_8).trans ((if_neg c_9).trans ((if_neg c_11).trans rfl))))))
                exact W.iret (v := (x_p1 &&& x_p2)) hx hb hr (fun t ht hW => ⟨by rw [ef], ht⟩) (fun _ h => by cases h) d_Mo_made_132
def f_Mo_work (v_pc : Int32) (g_registers : Nat → Int32) (x_p0 : Int32) : Int32 :=
  if (x_p0 &&& 127) = 19 then
    if (f_Mo_f x_p0) = 1 then
      if (f_Mo_g x_p0) = 32 then
        (f_Mo_made (f_Mo_f x_p0) (g_registers (Int32.toNatClampNeg (f_Mo_a x_p0))) (f_Mo_b x_p0) 1)
      else
        (f_Mo_made (f_Mo_f x_p0) (g_registers (Int32.toNatClampNeg (f_Mo_a x_p0))) (f_Mo_b x_p0) 0)
    else
      if (f_Mo_f x_p0) = 5 then
        if (f_Mo_g x_p0) = 32 then
          (f_Mo_made (f_Mo_f x_p0) (g_registers (Int32.toNatClampNeg (f_Mo_a x_p0))) (f_Mo_b x_p0) 1)
        else
          (f_Mo_made (f_Mo_f x_p0) (g_registers (Int32.toNatClampNeg (f_Mo_a x_p0))) (f_Mo_b x_p0) 0)
      else
        (f_Mo_made (f_Mo_f x_p0) (g_registers (Int32.toNatClampNeg (f_Mo_a x_p0))) (x_p0 >>> (20 &&& 31)) 0)
  else
    if (x_p0 &&& 127) = 51 then
      if (f_Mo_g x_p0) = 32 then
        (f_Mo_made (f_Mo_f x_p0) (g_registers (Int32.toNatClampNeg (f_Mo_a x_p0))) (g_registers (Int32.toNatClampNeg (f_Mo_b x_p0))) 1)
      else
        (f_Mo_made (f_Mo_f x_p0) (g_registers (Int32.toNatClampNeg (f_Mo_a x_p0))) (g_registers (Int32.toNatClampNeg (f_Mo_b x_p0))) 0)
    else
      if (x_p0 &&& 127) = 55 then
        (x_p0 &&& (-4096))
      else
        ((x_p0 &&& (-4096)) + v_pc)
set_option maxHeartbeats 4000000 in
set_option maxRecDepth 100000 in
theorem ct_Mo_work (l : Launch) (dC : Nat → ClassId) (dI : Nat → Nat → Nat) (cI : ClassId) (h0 a_words a_rules a_registers a_registerLabels a_memory a_memoryLabels a_waiting a_waitingLabels a_out a_outLabels a_keys a_labels : Nat) (v_thrown : Int32) (v_size : Int32) (v_entries : Int32) (v_outcome : Int32) (v_pc : Int32) (v_pcLabel : Int32) (v_wait : Int32) (v_went : Int32) (v_done : Int32) (v_misses : Int32) (v_known : Int32) (v_group : Int32) (g_registers : Nat → Int32) (x_p0 : Int32) : Met l y_Mo_work w_Mo_work ({ frames := 2, cells := 0, slots := 0, locals := 45 }) (pcR dC dI cI [(h0, .inr (6, [.int v_thrown, .ref a_words, .int v_size, .ref a_rules, .int v_entries, .int v_outcome, .int v_pc, .int v_pcLabel, .ref a_registers, .ref a_registerLabels, .ref a_memory, .ref a_memoryLabels, .ref a_waiting, .ref a_waitingLabels, .int v_wait, .ref a_out, .ref a_outLabels, .int v_went, .int v_done, .int v_misses, .ref a_keys, .int v_known, .int v_group, .ref a_labels])), (a_registers, .inl (cI, 32, .inl g_registers))] [.ref h0, .int x_p0]) (QcRead (f_Mo_work v_pc g_registers x_p0)) 0 0 (fun _ => False) := by
  refine Met.ofW (cc := c_Mo_work) (maxL := 3) (ret := (some .int)) (by decide) rfl ?_
  intro p e s m args below meth c s₁ B hml hv
  obtain ⟨rfl, hP, hK⟩ := hv
  have hx := B.exec
  have hb := B.bytes
  have hr := B.returns
  have hts : ∀ w ∈ wG, w.before _ s = true := fun w h => atoms_spec (ws := w_Mo_work) B.pre w (List.mem_cons_of_mem _ h)
  have hown : s.vm.findClass "LabelledCoreModel" = some m.cls := findClass_of_methodNamed B.named
  have hlocks := B.notSynchronized
  have hl := lv_entry ([.ref h0, .int x_p0]) (n := 3) (Nat.le_of_ble_eq_true rfl)
  rw [lg_entry_eq]
  generalize (lg_sl ([.ref h0, .int x_p0]) ++ List.replicate (3 - (lg_sl ([.ref h0, .int x_p0])).length) Slot.unset).toArray = ls at hl ⊢
  have hl : lv_has ls 3 [(0, .ref h0), (1, .int x_p0)] := hl
  refine lv_aload_n hx hb d_Mo_work_0 rfl (lv_at hl 0 rfl) ?_
  refine va_get (D := (dC, dI)) (ci := 6) (v := .ref a_registers) (C := "LabelledCoreModel") (T := T_Mo) (N := 24) hx hb hts in_Mo hown hK hP 0 rfl rfl 8 (by decide) (hts _ wm_964) (fun _ h9 => h9) rfl d_Mo_work_1 ?_
  refine lv_iload_n hx hb d_Mo_work_4 rfl (lv_at hl 1 rfl) ?_
  have hPc := hP.sub (ws' := []) [] rfl
  refine W.callR ((W.runS (As := [.int x_p0]) (rest := [.ref a_registers]) ⟨hx, hb, hml, hown, hts⟩ (ct_Mo_a l dC dI cI x_p0) (va_cwS 1 hts (gS wm_1100 wm_1101 wm_42 wm_1102) rfl rfl rfl (by decide +kernel) ⟨Nat.le_of_ble_eq_true rfl, Nat.le_of_ble_eq_true rfl⟩) ⟨pcR_blind, pcR_pre hPc hK⟩ rfl rfl hl.1 rfl (lv_room (Nat.le_of_ble_eq_true rfl)) d_Mo_work_5 ⟨Nat.le_of_ble_eq_true rfl, Nat.le_of_ble_eq_true rfl⟩)) ?_
  refine W.eq (g2 := F0 m 8 ls [.int (f_Mo_a x_p0), .ref a_registers]) rfl ?_
  refine va_iald hx hb hK hP 1 0 rfl rfl (in_Mo_a _) d_Mo_work_8 ?_
  refine lv_istore_n (lv' := [(2, .int (g_registers (Int32.toNatClampNeg (f_Mo_a x_p0)))), (0, .ref h0), (1, .int x_p0)]) hx hb d_Mo_work_9 rfl hl (by decide) rfl (fun ls hl => ?_)
  refine lv_iload_n hx hb d_Mo_work_10 rfl (lv_at hl 2 rfl) ?_
  refine lv_bipush (v := 127) hx hb d_Mo_work_11 (by decide) ?_
  refine lv_iand hx hb d_Mo_work_13 ?_
  by_cases c_1 : (x_p0 &&& 127) = 19
  · refine lv_lookup (off := 66) (tgt := 80) hx hb d_Mo_work_14 (by decide) (by rw [c_1]; decide +kernel) (by decide) ?_
    refine lv_iload_n hx hb d_Mo_work_80 rfl (lv_at hl 2 rfl) ?_
    have hPc := hP.sub (ws' := []) [] rfl
    refine W.callR ((W.runS (As := [.int x_p0]) (rest := []) ⟨hx, hb, hml, hown, hts⟩ (ct_Mo_f l dC dI cI x_p0) (va_cwS 1 hts (gS wm_1080 wm_1081 wm_42 wm_1082) rfl rfl rfl (by decide +kernel) ⟨Nat.le_of_ble_eq_true rfl, Nat.le_of_ble_eq_true rfl⟩) ⟨pcR_blind, pcR_pre hPc hK⟩ rfl rfl hl.1 rfl (lv_room (Nat.le_of_ble_eq_true rfl)) d_Mo_work_81 ⟨Nat.le_of_ble_eq_true rfl, Nat.le_of_ble_eq_true rfl⟩)) ?_
    refine W.eq (g2 := F0 m 84 ls [.int (f_Mo_f x_p0)]) rfl ?_
    refine lv_iconst (v := 1) hx hb d_Mo_work_84 (by decide) ?_
    refine lv_icmp_eq (tgt := 96) hx hb d_Mo_work_85 (by decide) (fun c_2 => ?_) (fun c_2 => ?_)
    · refine lv_iload_n hx hb d_Mo_work_96 rfl (lv_at hl 2 rfl) ?_
      have hPc := hP.sub (ws' := []) [] rfl
      refine W.callR ((W.runS (As := [.int x_p0]) (rest := []) ⟨hx, hb, hml, hown, hts⟩ (ct_Mo_f l dC dI cI x_p0) (va_cwS 1 hts (gS wm_1080 wm_1081 wm_42 wm_1082) rfl rfl rfl (by decide +kernel) ⟨Nat.le_of_ble_eq_true rfl, Nat.le_of_ble_eq_true rfl⟩) ⟨pcR_blind, pcR_pre hPc hK⟩ rfl rfl hl.1 rfl (lv_room (Nat.le_of_ble_eq_true rfl)) d_Mo_work_97 ⟨Nat.le_of_ble_eq_true rfl, Nat.le_of_ble_eq_true rfl⟩)) ?_
      refine W.eq (g2 := F0 m 100 ls [.int (f_Mo_f x_p0)]) rfl ?_
      refine lv_iload_n hx hb d_Mo_work_100 rfl (lv_at hl 0 rfl) ?_
      refine lv_iload_n hx hb d_Mo_work_101 rfl (lv_at hl 2 rfl) ?_
      have hPc := hP.sub (ws' := []) [] rfl
      refine W.callR ((W.runS (As := [.int x_p0]) (rest := [.int (g_registers (Int32.toNatClampNeg (f_Mo_a x_p0))), .int (f_Mo_f x_p0)]) ⟨hx, hb, hml, hown, hts⟩ (ct_Mo_b l dC dI cI x_p0) (va_cwS 1 hts (gS wm_1107 wm_1108 wm_42 wm_1109) rfl rfl rfl (by decide +kernel) ⟨Nat.le_of_ble_eq_true rfl, Nat.le_of_ble_eq_true rfl⟩) ⟨pcR_blind, pcR_pre hPc hK⟩ rfl rfl hl.1 rfl (lv_room (Nat.le_of_ble_eq_true rfl)) d_Mo_work_102 ⟨Nat.le_of_ble_eq_true rfl, Nat.le_of_ble_eq_true rfl⟩)) ?_
      refine W.eq (g2 := F0 m 105 ls [.int (f_Mo_b x_p0), .int (g_registers (Int32.toNatClampNeg (f_Mo_a x_p0))), .int (f_Mo_f x_p0)]) rfl ?_
      refine lv_iload_n hx hb d_Mo_work_105 rfl (lv_at hl 2 rfl) ?_
      have hPc := hP.sub (ws' := []) [] rfl
      refine W.callR ((W.runS (As := [.int x_p0]) (rest := [.int (f_Mo_b x_p0), .int (g_registers (Int32.toNatClampNeg (f_Mo_a x_p0))), .int (f_Mo_f x_p0)]) ⟨hx, hb, hml, hown, hts⟩ (ct_Mo_g l dC dI cI x_p0) (va_cwS 1 hts (gS wm_1083 wm_1084 wm_42 wm_1085) rfl rfl rfl (by decide +kernel) ⟨Nat.le_of_ble_eq_true rfl, Nat.le_of_ble_eq_true rfl⟩) ⟨pcR_blind, pcR_pre hPc hK⟩ rfl rfl hl.1 rfl (lv_room (Nat.le_of_ble_eq_true rfl)) d_Mo_work_106 ⟨Nat.le_of_ble_eq_true rfl, Nat.le_of_ble_eq_true rfl⟩)) ?_
      refine W.eq (g2 := F0 m 109 ls [.int (f_Mo_g x_p0), .int (f_Mo_b x_p0), .int (g_registers (Int32.toNatClampNeg (f_Mo_a x_p0))), .int (f_Mo_f x_p0)]) rfl ?_
      refine lv_bipush (v := 32) hx hb d_Mo_work_109 (by decide) ?_
      refine lv_icmp_ne (tgt := 118) hx hb d_Mo_work_111 (by decide) (fun c_3 => ?_) (fun c_3 => ?_)
      · refine lv_iconst (v := 0) hx hb d_Mo_work_118 (by decide) ?_
        have hPc := hP.sub (ws' := []) [] rfl
        refine W.callR ((W.runS (As := [.int (f_Mo_f x_p0), .int (g_registers (Int32.toNatClampNeg (f_Mo_a x_p0))), .int (f_Mo_b x_p0), .int 0]) (rest := []) ⟨hx, hb, hml, hown, hts⟩ (ct_Mo_made l dC dI cI (f_Mo_f x_p0) (g_registers (Int32.toNatClampNeg (f_Mo_a x_p0))) (f_Mo_b x_p0) 0) (va_cwS 4 hts (gS wm_1134 wm_1135 wm_42 wm_1136) rfl rfl rfl (by decide +kernel) ⟨Nat.le_of_ble_eq_true rfl, Nat.le_of_ble_eq_true rfl⟩) ⟨pcR_blind, pcR_pre hPc hK⟩ rfl rfl hl.1 rfl (lv_room (Nat.le_of_ble_eq_true rfl)) d_Mo_work_119 ⟨Nat.le_of_ble_eq_true rfl, Nat.le_of_ble_eq_true rfl⟩)) ?_
        refine W.eq (g2 := F0 m 122 ls [.int (f_Mo_made (f_Mo_f x_p0) (g_registers (Int32.toNatClampNeg (f_Mo_a x_p0))) (f_Mo_b x_p0) 0)]) rfl ?_
        refine lv_goto (tgt := 138) hx hb d_Mo_work_122 (by decide) ?_
        have ef : (f_Mo_work v_pc g_registers x_p0) = ((f_Mo_made (f_Mo_f x_p0) (g_registers (Int32.toNatClampNeg (f_Mo_a x_p0))) (f_Mo_b x_p0) 0) : Int32) := (if_pos c_1).trans ((if_pos c_2).trans ((if_neg c_3).trans rfl))
        exact W.iret (v := (f_Mo_made (f_Mo_f x_p0) (g_registers (Int32.toNatClampNeg (f_Mo_a x_p0))) (f_Mo_b x_p0) 0)) hx hb hr (fun t ht hW => ⟨by rw [ef], ht⟩) (fun _ h => by cases h) d_Mo_work_138
      · refine lv_iconst (v := 1) hx hb d_Mo_work_114 (by decide) ?_
        refine lv_goto (tgt := 119) hx hb d_Mo_work_115 (by decide) ?_
        have hPc := hP.sub (ws' := []) [] rfl
        refine W.callR ((W.runS (As := [.int (f_Mo_f x_p0), .int (g_registers (Int32.toNatClampNeg (f_Mo_a x_p0))), .int (f_Mo_b x_p0), .int 1]) (rest := []) ⟨hx, hb, hml, hown, hts⟩ (ct_Mo_made l dC dI cI (f_Mo_f x_p0) (g_registers (Int32.toNatClampNeg (f_Mo_a x_p0))) (f_Mo_b x_p0) 1) (va_cwS 4 hts (gS wm_1134 wm_1135 wm_42 wm_1136) rfl rfl rfl (by decide +kernel) ⟨Nat.le_of_ble_eq_true rfl, Nat.le_of_ble_eq_true rfl⟩) ⟨pcR_blind, pcR_pre hPc hK⟩ rfl rfl hl.1 rfl (lv_room (Nat.le_of_ble_eq_true rfl)) d_Mo_work_119 ⟨Nat.le_of_ble_eq_true rfl, Nat.le_of_ble_eq_true rfl⟩)) ?_
        refine W.eq (g2 := F0 m 122 ls [.int (f_Mo_made (f_Mo_f x_p0) (g_registers (Int32.toNatClampNeg (f_Mo_a x_p0))) (f_Mo_b x_p0) 1)]) rfl ?_
        refine lv_goto (tgt := 138) hx hb d_Mo_work_122 (by decide) ?_
        have ef : (f_Mo_work v_pc g_registers x_p0) = ((f_Mo_made (f_Mo_f x_p0) (g_registers (Int32.toNatClampNeg (f_Mo_a x_p0))) (f_Mo_b x_p0) 1) : Int32) := (if_pos c_1).trans ((if_pos c_2).trans ((if_pos c_3).trans rfl))
        exact W.iret (v := (f_Mo_made (f_Mo_f x_p0) (g_registers (Int32.toNatClampNeg (f_Mo_a x_p0))) (f_Mo_b x_p0) 1)) hx hb hr (fun t ht hW => ⟨by rw [ef], ht⟩) (fun _ h => by cases h) d_Mo_work_138
    · refine lv_iload_n hx hb d_Mo_work_88 rfl (lv_at hl 2 rfl) ?_
      have hPc := hP.sub (ws' := []) [] rfl
      refine W.callR ((W.runS (As := [.int x_p0]) (rest := []) ⟨hx, hb, hml, hown, hts⟩ (ct_Mo_f l dC dI cI x_p0) (va_cwS 1 hts (gS wm_1080 wm_1081 wm_42 wm_1082) rfl rfl rfl (by decide +kernel) ⟨Nat.le_of_ble_eq_true rfl, Nat.le_of_ble_eq_true rfl⟩) ⟨pcR_blind, pcR_pre hPc hK⟩ rfl rfl hl.1 rfl (lv_room (Nat.le_of_ble_eq_true rfl)) d_Mo_work_89 ⟨Nat.le_of_ble_eq_true rfl, Nat.le_of_ble_eq_true rfl⟩)) ?_
      refine W.eq (g2 := F0 m 92 ls [.int (f_Mo_f x_p0)]) rfl ?_
      refine lv_iconst (v := 5) hx hb d_Mo_work_92 (by decide) ?_
      refine lv_icmp_ne (tgt := 125) hx hb d_Mo_work_93 (by decide) (fun c_4 => ?_) (fun c_4 => ?_)
      · refine lv_iload_n hx hb d_Mo_work_125 rfl (lv_at hl 2 rfl) ?_
        have hPc := hP.sub (ws' := []) [] rfl
        refine W.callR ((W.runS (As := [.int x_p0]) (rest := []) ⟨hx, hb, hml, hown, hts⟩ (ct_Mo_f l dC dI cI x_p0) (va_cwS 1 hts (gS wm_1080 wm_1081 wm_42 wm_1082) rfl rfl rfl (by decide +kernel) ⟨Nat.le_of_ble_eq_true rfl, Nat.le_of_ble_eq_true rfl⟩) ⟨pcR_blind, pcR_pre hPc hK⟩ rfl rfl hl.1 rfl (lv_room (Nat.le_of_ble_eq_true rfl)) d_Mo_work_126 ⟨Nat.le_of_ble_eq_true rfl, Nat.le_of_ble_eq_true rfl⟩)) ?_
        refine W.eq (g2 := F0 m 129 ls [.int (f_Mo_f x_p0)]) rfl ?_
        refine lv_iload_n hx hb d_Mo_work_129 rfl (lv_at hl 0 rfl) ?_
        refine lv_iload_n hx hb d_Mo_work_130 rfl (lv_at hl 2 rfl) ?_
        refine lv_bipush (v := 20) hx hb d_Mo_work_131 (by decide) ?_
        refine lv_ishr hx hb d_Mo_work_133 ?_
        refine lv_iconst (v := 0) hx hb d_Mo_work_134 (by decide) ?_
        have hPc := hP.sub (ws' := []) [] rfl
        refine W.callR ((W.runS (As := [.int (f_Mo_f x_p0), .int (g_registers (Int32.toNatClampNeg (f_Mo_a x_p0))), .int (x_p0 >>> (20 &&& 31)), .int 0]) (rest := []) ⟨hx, hb, hml, hown, hts⟩ (ct_Mo_made l dC dI cI (f_Mo_f x_p0) (g_registers (Int32.toNatClampNeg (f_Mo_a x_p0))) (x_p0 >>> (20 &&& 31)) 0) (va_cwS 4 hts (gS wm_1134 wm_1135 wm_42 wm_1136) rfl rfl rfl (by decide +kernel) ⟨Nat.le_of_ble_eq_true rfl, Nat.le_of_ble_eq_true rfl⟩) ⟨pcR_blind, pcR_pre hPc hK⟩ rfl rfl hl.1 rfl (lv_room (Nat.le_of_ble_eq_true rfl)) d_Mo_work_135 ⟨Nat.le_of_ble_eq_true rfl, Nat.le_of_ble_eq_true rfl⟩)) ?_
        refine W.eq (g2 := F0 m 138 ls [.int (f_Mo_made (f_Mo_f x_p0) (g_registers (Int32.toNatClampNeg (f_Mo_a x_p0))) (x_p0 >>> (20 &&& 31)) 0)]) rfl ?_
        have ef : (f_Mo_work v_pc g_registers x_p0) = ((f_Mo_made (f_Mo_f x_p0) (g_registers (Int32.toNatClampNeg (f_Mo_a x_p0))) (x_p0 >>> (20 &&& 31)) 0) : Int32) := (if_pos c_1).trans ((if_neg c_2).trans ((if_neg c_4).trans rfl))
        exact W.iret (v := (f_Mo_made (f_Mo_f x_p0) (g_registers (Int32.toNatClampNeg (f_Mo_a x_p0))) (x_p0 >>> (20 &&& 31)) 0)) hx hb hr (fun t ht hW => ⟨by rw [ef], ht⟩) (fun _ h => by cases h) d_Mo_work_138
      · refine lv_iload_n hx hb d_Mo_work_96 rfl (lv_at hl 2 rfl) ?_
        have hPc := hP.sub (ws' := []) [] rfl
        refine W.callR ((W.runS (As := [.int x_p0]) (rest := []) ⟨hx, hb, hml, hown, hts⟩ (ct_Mo_f l dC dI cI x_p0) (va_cwS 1 hts (gS wm_1080 wm_1081 wm_42 wm_1082) rfl rfl rfl (by decide +kernel) ⟨Nat.le_of_ble_eq_true rfl, Nat.le_of_ble_eq_true rfl⟩) ⟨pcR_blind, pcR_pre hPc hK⟩ rfl rfl hl.1 rfl (lv_room (Nat.le_of_ble_eq_true rfl)) d_Mo_work_97 ⟨Nat.le_of_ble_eq_true rfl, Nat.le_of_ble_eq_true rfl⟩)) ?_
        refine W.eq (g2 := F0 m 100 ls [.int (f_Mo_f x_p0)]) rfl ?_
        refine lv_iload_n hx hb d_Mo_work_100 rfl (lv_at hl 0 rfl) ?_
        refine lv_iload_n hx hb d_Mo_work_101 rfl (lv_at hl 2 rfl) ?_
        have hPc := hP.sub (ws' := []) [] rfl
        refine W.callR ((W.runS (As := [.int x_p0]) (rest := [.int (g_registers (Int32.toNatClampNeg (f_Mo_a x_p0))), .int (f_Mo_f x_p0)]) ⟨hx, hb, hml, hown, hts⟩ (ct_Mo_b l dC dI cI x_p0) (va_cwS 1 hts (gS wm_1107 wm_1108 wm_42 wm_1109) rfl rfl rfl (by decide +kernel) ⟨Nat.le_of_ble_eq_true rfl, Nat.le_of_ble_eq_true rfl⟩) ⟨pcR_blind, pcR_pre hPc hK⟩ rfl rfl hl.1 rfl (lv_room (Nat.le_of_ble_eq_true rfl)) d_Mo_work_102 ⟨Nat.le_of_ble_eq_true rfl, Nat.le_of_ble_eq_true rfl⟩)) ?_
        refine W.eq (g2 := F0 m 105 ls [.int (f_Mo_b x_p0), .int (g_registers (Int32.toNatClampNeg (f_Mo_a x_p0))), .int (f_Mo_f x_p0)]) rfl ?_
        refine lv_iload_n hx hb d_Mo_work_105 rfl (lv_at hl 2 rfl) ?_
        have hPc := hP.sub (ws' := []) [] rfl
        refine W.callR ((W.runS (As := [.int x_p0]) (rest := [.int (f_Mo_b x_p0), .int (g_registers (Int32.toNatClampNeg (f_Mo_a x_p0))), .int (f_Mo_f x_p0)]) ⟨hx, hb, hml, hown, hts⟩ (ct_Mo_g l dC dI cI x_p0) (va_cwS 1 hts (gS wm_1083 wm_1084 wm_42 wm_1085) rfl rfl rfl (by decide +kernel) ⟨Nat.le_of_ble_eq_true rfl, Nat.le_of_ble_eq_true rfl⟩) ⟨pcR_blind, pcR_pre hPc hK⟩ rfl rfl hl.1 rfl (lv_room (Nat.le_of_ble_eq_true rfl)) d_Mo_work_106 ⟨Nat.le_of_ble_eq_true rfl, Nat.le_of_ble_eq_true rfl⟩)) ?_
        refine W.eq (g2 := F0 m 109 ls [.int (f_Mo_g x_p0), .int (f_Mo_b x_p0), .int (g_registers (Int32.toNatClampNeg (f_Mo_a x_p0))), .int (f_Mo_f x_p0)]) rfl ?_
        refine lv_bipush (v := 32) hx hb d_Mo_work_109 (by decide) ?_
        refine lv_icmp_ne (tgt := 118) hx hb d_Mo_work_111 (by decide) (fun c_5 => ?_) (fun c_5 => ?_)
        · refine lv_iconst (v := 0) hx hb d_Mo_work_118 (by decide) ?_
          have hPc := hP.sub (ws' := []) [] rfl
          refine W.callR ((W.runS (As := [.int (f_Mo_f x_p0), .int (g_registers (Int32.toNatClampNeg (f_Mo_a x_p0))), .int (f_Mo_b x_p0), .int 0]) (rest := []) ⟨hx, hb, hml, hown, hts⟩ (ct_Mo_made l dC dI cI (f_Mo_f x_p0) (g_registers (Int32.toNatClampNeg (f_Mo_a x_p0))) (f_Mo_b x_p0) 0) (va_cwS 4 hts (gS wm_1134 wm_1135 wm_42 wm_1136) rfl rfl rfl (by decide +kernel) ⟨Nat.le_of_ble_eq_true rfl, Nat.le_of_ble_eq_true rfl⟩) ⟨pcR_blind, pcR_pre hPc hK⟩ rfl rfl hl.1 rfl (lv_room (Nat.le_of_ble_eq_true rfl)) d_Mo_work_119 ⟨Nat.le_of_ble_eq_true rfl, Nat.le_of_ble_eq_true rfl⟩)) ?_
          refine W.eq (g2 := F0 m 122 ls [.int (f_Mo_made (f_Mo_f x_p0) (g_registers (Int32.toNatClampNeg (f_Mo_a x_p0))) (f_Mo_b x_p0) 0)]) rfl ?_
          refine lv_goto (tgt := 138) hx hb d_Mo_work_122 (by decide) ?_
          have ef : (f_Mo_work v_pc g_registers x_p0) = ((f_Mo_made (f_Mo_f x_p0) (g_registers (Int32.toNatClampNeg (f_Mo_a x_p0))) (f_Mo_b x_p0) 0) : Int32) := (if_pos c_1).trans ((if_neg c_2).trans ((if_pos c_4).trans ((if_neg c_5).trans rfl)))
          exact W.iret (v := (f_Mo_made (f_Mo_f x_p0) (g_registers (Int32.toNatClampNeg (f_Mo_a x_p0))) (f_Mo_b x_p0) 0)) hx hb hr (fun t ht hW => ⟨by rw [ef], ht⟩) (fun _ h => by cases h) d_Mo_work_138
        · refine lv_iconst (v := 1) hx hb d_Mo_work_114 (by decide) ?_
          refine lv_goto (tgt := 119) hx hb d_Mo_work_115 (by decide) ?_
          have hPc := hP.sub (ws' := []) [] rfl
          refine W.callR ((W.runS (As := [.int (f_Mo_f x_p0), .int (g_registers (Int32.toNatClampNeg (f_Mo_a x_p0))), .int (f_Mo_b x_p0), .int 1]) (rest := []) ⟨hx, hb, hml, hown, hts⟩ (ct_Mo_made l dC dI cI (f_Mo_f x_p0) (g_registers (Int32.toNatClampNeg (f_Mo_a x_p0))) (f_Mo_b x_p0) 1) (va_cwS 4 hts (gS wm_1134 wm_1135 wm_42 wm_1136) rfl rfl rfl (by decide +kernel) ⟨Nat.le_of_ble_eq_true rfl, Nat.le_of_ble_eq_true rfl⟩) ⟨pcR_blind, pcR_pre hPc hK⟩ rfl rfl hl.1 rfl (lv_room (Nat.le_of_ble_eq_true rfl)) d_Mo_work_119 ⟨Nat.le_of_ble_eq_true rfl, Nat.le_of_ble_eq_true rfl⟩)) ?_
          refine W.eq (g2 := F0 m 122 ls [.int (f_Mo_made (f_Mo_f x_p0) (g_registers (Int32.toNatClampNeg (f_Mo_a x_p0))) (f_Mo_b x_p0) 1)]) rfl ?_
          refine lv_goto (tgt := 138) hx hb d_Mo_work_122 (by decide) ?_
          have ef : (f_Mo_work v_pc g_registers x_p0) = ((f_Mo_made (f_Mo_f x_p0) (g_registers (Int32.toNatClampNeg (f_Mo_a x_p0))) (f_Mo_b x_p0) 1) : Int32) := (if_pos c_1).trans ((if_neg c_2).trans ((if_pos c_4).trans ((if_pos c_5).trans rfl)))
          exact W.iret (v := (f_Mo_made (f_Mo_f x_p0) (g_registers (Int32.toNatClampNeg (f_Mo_a x_p0))) (f_Mo_b x_p0) 1)) hx hb hr (fun t ht hW => ⟨by rw [ef], ht⟩) (fun _ h => by cases h) d_Mo_work_138
  · by_cases c_6 : (x_p0 &&& 127) = 51
    · refine lv_lookup (off := 34) (tgt := 48) hx hb d_Mo_work_14 (by decide) (by rw [c_6]; decide +kernel) (by decide) ?_
      refine lv_iload_n hx hb d_Mo_work_48 rfl (lv_at hl 2 rfl) ?_
      have hPc := hP.sub (ws' := []) [] rfl
      refine W.callR ((W.runS (As := [.int x_p0]) (rest := []) ⟨hx, hb, hml, hown, hts⟩ (ct_Mo_f l dC dI cI x_p0) (va_cwS 1 hts (gS wm_1080 wm_1081 wm_42 wm_1082) rfl rfl rfl (by decide +kernel) ⟨Nat.le_of_ble_eq_true rfl, Nat.le_of_ble_eq_true rfl⟩) ⟨pcR_blind, pcR_pre hPc hK⟩ rfl rfl hl.1 rfl (lv_room (Nat.le_of_ble_eq_true rfl)) d_Mo_work_49 ⟨Nat.le_of_ble_eq_true rfl, Nat.le_of_ble_eq_true rfl⟩)) ?_
      refine W.eq (g2 := F0 m 52 ls [.int (f_Mo_f x_p0)]) rfl ?_
      refine lv_iload_n hx hb d_Mo_work_52 rfl (lv_at hl 0 rfl) ?_
      refine lv_aload_n hx hb d_Mo_work_53 rfl (lv_at hl 1 rfl) ?_
      refine va_get (D := (dC, dI)) (ci := 6) (v := .ref a_registers) (C := "LabelledCoreModel") (T := T_Mo) (N := 24) hx hb hts in_Mo hown hK hP 0 rfl rfl 8 (by decide) (hts _ wm_964) (fun _ h9 => h9) rfl d_Mo_work_54 ?_
      refine lv_iload_n hx hb d_Mo_work_57 rfl (lv_at hl 2 rfl) ?_
      have hPc := hP.sub (ws' := []) [] rfl
      refine W.callR ((W.runS (As := [.int x_p0]) (rest := [.ref a_registers, .int (g_registers (Int32.toNatClampNeg (f_Mo_a x_p0))), .int (f_Mo_f x_p0)]) ⟨hx, hb, hml, hown, hts⟩ (ct_Mo_b l dC dI cI x_p0) (va_cwS 1 hts (gS wm_1107 wm_1108 wm_42 wm_1109) rfl rfl rfl (by decide +kernel) ⟨Nat.le_of_ble_eq_true rfl, Nat.le_of_ble_eq_true rfl⟩) ⟨pcR_blind, pcR_pre hPc hK⟩ rfl rfl hl.1 rfl (lv_room (Nat.le_of_ble_eq_true rfl)) d_Mo_work_58 ⟨Nat.le_of_ble_eq_true rfl, Nat.le_of_ble_eq_true rfl⟩)) ?_
      refine W.eq (g2 := F0 m 61 ls [.int (f_Mo_b x_p0), .ref a_registers, .int (g_registers (Int32.toNatClampNeg (f_Mo_a x_p0))), .int (f_Mo_f x_p0)]) rfl ?_
      refine va_iald hx hb hK hP 1 0 rfl rfl (in_Mo_b _) d_Mo_work_61 ?_
      refine lv_iload_n hx hb d_Mo_work_62 rfl (lv_at hl 2 rfl) ?_
      have hPc := hP.sub (ws' := []) [] rfl
      refine W.callR ((W.runS (As := [.int x_p0]) (rest := [.int (g_registers (Int32.toNatClampNeg (f_Mo_b x_p0))), .int (g_registers (Int32.toNatClampNeg (f_Mo_a x_p0))), .int (f_Mo_f x_p0)]) ⟨hx, hb, hml, hown, hts⟩ (ct_Mo_g l dC dI cI x_p0) (va_cwS 1 hts (gS wm_1083 wm_1084 wm_42 wm_1085) rfl rfl rfl (by decide +kernel) ⟨Nat.le_of_ble_eq_true rfl, Nat.le_of_ble_eq_true rfl⟩) ⟨pcR_blind, pcR_pre hPc hK⟩ rfl rfl hl.1 rfl (lv_room (Nat.le_of_ble_eq_true rfl)) d_Mo_work_63 ⟨Nat.le_of_ble_eq_true rfl, Nat.le_of_ble_eq_true rfl⟩)) ?_
      refine W.eq (g2 := F0 m 66 ls [.int (f_Mo_g x_p0), .int (g_registers (Int32.toNatClampNeg (f_Mo_b x_p0))), .int (g_registers (Int32.toNatClampNeg (f_Mo_a x_p0))), .int (f_Mo_f x_p0)]) rfl ?_
      refine lv_bipush (v := 32) hx hb d_Mo_work_66 (by decide) ?_
      refine lv_icmp_ne (tgt := 75) hx hb d_Mo_work_68 (by decide) (fun c_7 => ?_) (fun c_7 => ?_)
      · refine lv_iconst (v := 0) hx hb d_Mo_work_75 (by decide) ?_
        have hPc := hP.sub (ws' := []) [] rfl
        refine W.callR ((W.runS (As := [.int (f_Mo_f x_p0), .int (g_registers (Int32.toNatClampNeg (f_Mo_a x_p0))), .int (g_registers (Int32.toNatClampNeg (f_Mo_b x_p0))), .int 0]) (rest := []) ⟨hx, hb, hml, hown, hts⟩ (ct_Mo_made l dC dI cI (f_Mo_f x_p0) (g_registers (Int32.toNatClampNeg (f_Mo_a x_p0))) (g_registers (Int32.toNatClampNeg (f_Mo_b x_p0))) 0) (va_cwS 4 hts (gS wm_1134 wm_1135 wm_42 wm_1136) rfl rfl rfl (by decide +kernel) ⟨Nat.le_of_ble_eq_true rfl, Nat.le_of_ble_eq_true rfl⟩) ⟨pcR_blind, pcR_pre hPc hK⟩ rfl rfl hl.1 rfl (lv_room (Nat.le_of_ble_eq_true rfl)) d_Mo_work_76 ⟨Nat.le_of_ble_eq_true rfl, Nat.le_of_ble_eq_true rfl⟩)) ?_
        refine W.eq (g2 := F0 m 79 ls [.int (f_Mo_made (f_Mo_f x_p0) (g_registers (Int32.toNatClampNeg (f_Mo_a x_p0))) (g_registers (Int32.toNatClampNeg (f_Mo_b x_p0))) 0)]) rfl ?_
        have ef : (f_Mo_work v_pc g_registers x_p0) = ((f_Mo_made (f_Mo_f x_p0) (g_registers (Int32.toNatClampNeg (f_Mo_a x_p0))) (g_registers (Int32.toNatClampNeg (f_Mo_b x_p0))) 0) : Int32) := (if_neg c_1).trans ((if_pos c_6).trans ((if_neg c_7).trans rfl))
        exact W.iret (v := (f_Mo_made (f_Mo_f x_p0) (g_registers (Int32.toNatClampNeg (f_Mo_a x_p0))) (g_registers (Int32.toNatClampNeg (f_Mo_b x_p0))) 0)) hx hb hr (fun t ht hW => ⟨by rw [ef], ht⟩) (fun _ h => by cases h) d_Mo_work_79
      · refine lv_iconst (v := 1) hx hb d_Mo_work_71 (by decide) ?_
        refine lv_goto (tgt := 76) hx hb d_Mo_work_72 (by decide) ?_
        have hPc := hP.sub (ws' := []) [] rfl
        refine W.callR ((W.runS (As := [.int (f_Mo_f x_p0), .int (g_registers (Int32.toNatClampNeg (f_Mo_a x_p0))), .int (g_registers (Int32.toNatClampNeg (f_Mo_b x_p0))), .int 1]) (rest := []) ⟨hx, hb, hml, hown, hts⟩ (ct_Mo_made l dC dI cI (f_Mo_f x_p0) (g_registers (Int32.toNatClampNeg (f_Mo_a x_p0))) (g_registers (Int32.toNatClampNeg (f_Mo_b x_p0))) 1) (va_cwS 4 hts (gS wm_1134 wm_1135 wm_42 wm_1136) rfl rfl rfl (by decide +kernel) ⟨Nat.le_of_ble_eq_true rfl, Nat.le_of_ble_eq_true rfl⟩) ⟨pcR_blind, pcR_pre hPc hK⟩ rfl rfl hl.1 rfl (lv_room (Nat.le_of_ble_eq_true rfl)) d_Mo_work_76 ⟨Nat.le_of_ble_eq_true rfl, Nat.le_of_ble_eq_true rfl⟩)) ?_
        refine W.eq (g2 := F0 m 79 ls [.int (f_Mo_made (f_Mo_f x_p0) (g_registers (Int32.toNatClampNeg (f_Mo_a x_p0))) (g_registers (Int32.toNatClampNeg (f_Mo_b x_p0))) 1)]) rfl ?_
        have ef : (f_Mo_work v_pc g_registers x_p0) = ((f_Mo_made (f_Mo_f x_p0) (g_registers (Int32.toNatClampNeg (f_Mo_a x_p0))) (g_registers (Int32.toNatClampNeg (f_Mo_b x_p0))) 1) : Int32) := (if_neg c_1).trans ((if_pos c_6).trans ((if_pos c_7).trans rfl))
        exact W.iret (v := (f_Mo_made (f_Mo_f x_p0) (g_registers (Int32.toNatClampNeg (f_Mo_a x_p0))) (g_registers (Int32.toNatClampNeg (f_Mo_b x_p0))) 1)) hx hb hr (fun t ht hW => ⟨by rw [ef], ht⟩) (fun _ h => by cases h) d_Mo_work_79
    · by_cases c_8 : (x_p0 &&& 127) = 55
      · refine lv_lookup (off := 125) (tgt := 139) hx hb d_Mo_work_14 (by decide) (by rw [c_8]; decide +kernel) (by decide) ?_
        refine lv_iload_n hx hb d_Mo_work_139 rfl (lv_at hl 2 rfl) ?_
        refine lv_sipush (v := (-4096)) hx hb d_Mo_work_140 (by decide) ?_
        refine lv_iand hx hb d_Mo_work_143 ?_
        have ef : (f_Mo_work v_pc g_registers x_p0) = ((x_p0 &&& (-4096)) : Int32) := (if_neg c_1).trans ((if_neg c_6).trans ((if_pos c_8).trans rfl))
        exact W.iret (v := (x_p0 &&& (-4096))) hx hb hr (fun t ht hW => ⟨by rw [ef], ht⟩) (fun _ h => by cases h) d_Mo_work_144
      · refine lv_lookup (off := 131) (tgt := 145) hx hb d_Mo_work_14 (by decide) (by rw [lv_osw c_1 (show (19 : Int32).toInt = 19 by decide), lv_osw c_6 (show (51 : Int32).toInt = 51 by decide), lv_osw c_8 (show (55 : Int32).toInt = 55 by decide)]; rfl) (by decide) ?_
        refine lv_iload_n hx hb d_Mo_work_145 rfl (lv_at hl 2 rfl) ?_
        refine lv_sipush (v := (-4096)) hx hb d_Mo_work_146 (by decide) ?_
        refine lv_iand hx hb d_Mo_work_149 ?_
        refine lv_aload_n hx hb d_Mo_work_150 rfl (lv_at hl 1 rfl) ?_
        refine va_get (D := (dC, dI)) (ci := 6) (v := .int v_pc) (C := "LabelledCoreModel") (T := T_Mo) (N := 24) hx hb hts in_Mo hown hK hP 0 rfl rfl 6 (by decide) (hts _ wm_962) (fun _ h9 => h9) rfl d_Mo_work_151 ?_
        refine lv_iadd hx hb d_Mo_work_154 ?_
        have ef : (f_Mo_work v_pc g_registers x_p0) = (((x_p0 &&& (-4096)) + v_pc) : Int32) := (if_neg c_1).trans ((if_neg c_6).trans ((if_neg c_8).trans rfl))
        exact W.iret (v := ((x_p0 &&& (-4096)) + v_pc)) hx hb hr (fun t ht hW => ⟨by rw [ef], ht⟩) (fun _ h => by cases h) d_Mo_work_155
def f_Mo_address (g_registers : Nat → Int32) (x_p0 : Int32) : Int32 :=
  if (x_p0 &&& 127) = 3 then
    ((g_registers (Int32.toNatClampNeg (f_Mo_a x_p0))) + (x_p0 >>> (20 &&& 31)))
  else
    ((g_registers (Int32.toNatClampNeg (f_Mo_a x_p0))) + (((x_p0 >>> (25 &&& 31)) <<< (5 &&& 31)) ||| (f_Mo_d x_p0)))
set_option maxHeartbeats 4000000 in
set_option maxRecDepth 100000 in
theorem ct_Mo_address (l : Launch) (dC : Nat → ClassId) (dI : Nat → Nat → Nat) (cI : ClassId) (h0 a_words a_rules a_registers a_registerLabels a_memory a_memoryLabels a_waiting a_waitingLabels a_out a_outLabels a_keys a_labels : Nat) (v_thrown : Int32) (v_size : Int32) (v_entries : Int32) (v_outcome : Int32) (v_pc : Int32) (v_pcLabel : Int32) (v_wait : Int32) (v_went : Int32) (v_done : Int32) (v_misses : Int32) (v_known : Int32) (v_group : Int32) (g_registers : Nat → Int32) (x_p0 : Int32) : Met l y_Mo_address w_Mo_address ({ frames := 1, cells := 0, slots := 0, locals := 20 }) (pcR dC dI cI [(h0, .inr (6, [.int v_thrown, .ref a_words, .int v_size, .ref a_rules, .int v_entries, .int v_outcome, .int v_pc, .int v_pcLabel, .ref a_registers, .ref a_registerLabels, .ref a_memory, .ref a_memoryLabels, .ref a_waiting, .ref a_waitingLabels, .int v_wait, .ref a_out, .ref a_outLabels, .int v_went, .int v_done, .int v_misses, .ref a_keys, .int v_known, .int v_group, .ref a_labels])), (a_registers, .inl (cI, 32, .inl g_registers))] [.ref h0, .int x_p0]) (QcRead (f_Mo_address g_registers x_p0)) 0 0 (fun _ => False) := by
  refine Met.ofW (cc := c_Mo_address) (maxL := 3) (ret := (some .int)) (by decide) rfl ?_
  intro p e s m args below meth c s₁ B hml hv
  obtain ⟨rfl, hP, hK⟩ := hv
  have hx := B.exec
  have hb := B.bytes
  have hr := B.returns
  have hts : ∀ w ∈ wG, w.before _ s = true := fun w h => atoms_spec (ws := w_Mo_address) B.pre w (List.mem_cons_of_mem _ h)
  have hown : s.vm.findClass "LabelledCoreModel" = some m.cls := findClass_of_methodNamed B.named
  have hlocks := B.notSynchronized
  have hl := lv_entry ([.ref h0, .int x_p0]) (n := 3) (Nat.le_of_ble_eq_true rfl)
  rw [lg_entry_eq]
  generalize (lg_sl ([.ref h0, .int x_p0]) ++ List.replicate (3 - (lg_sl ([.ref h0, .int x_p0])).length) Slot.unset).toArray = ls at hl ⊢
  have hl : lv_has ls 3 [(0, .ref h0), (1, .int x_p0)] := hl
  refine lv_iload_n hx hb d_Mo_address_0 rfl (lv_at hl 1 rfl) ?_
  refine lv_bipush (v := 127) hx hb d_Mo_address_1 (by decide) ?_
  refine lv_iand hx hb d_Mo_address_3 ?_
  refine lv_iconst (v := 3) hx hb d_Mo_address_4 (by decide) ?_
  refine lv_icmp_ne (tgt := 15) hx hb d_Mo_address_5 (by decide) (fun c_1 => ?_) (fun c_1 => ?_)
  · refine lv_iload_n hx hb d_Mo_address_15 rfl (lv_at hl 1 rfl) ?_
    refine lv_bipush (v := 25) hx hb d_Mo_address_16 (by decide) ?_
    refine lv_ishr hx hb d_Mo_address_18 ?_
    refine lv_iconst (v := 5) hx hb d_Mo_address_19 (by decide) ?_
    refine lv_ishl hx hb d_Mo_address_20 ?_
    refine lv_iload_n hx hb d_Mo_address_21 rfl (lv_at hl 1 rfl) ?_
    have hPc := hP.sub (ws' := []) [] rfl
    refine W.callR ((W.runS (As := [.int x_p0]) (rest := [.int ((x_p0 >>> (25 &&& 31)) <<< (5 &&& 31))]) ⟨hx, hb, hml, hown, hts⟩ (ct_Mo_d l dC dI cI x_p0) (va_cwS 1 hts (gS wm_1097 wm_1098 wm_42 wm_1099) rfl rfl rfl (by decide +kernel) ⟨Nat.le_of_ble_eq_true rfl, Nat.le_of_ble_eq_true rfl⟩) ⟨pcR_blind, pcR_pre hPc hK⟩ rfl rfl hl.1 rfl (lv_room (Nat.le_of_ble_eq_true rfl)) d_Mo_address_22 ⟨Nat.le_of_ble_eq_true rfl, Nat.le_of_ble_eq_true rfl⟩)) ?_
    refine W.eq (g2 := F0 m 25 ls [.int (f_Mo_d x_p0), .int ((x_p0 >>> (25 &&& 31)) <<< (5 &&& 31))]) rfl ?_
    refine lv_ior hx hb d_Mo_address_25 ?_
    refine lv_istore_n (lv' := [(2, .int (((x_p0 >>> (25 &&& 31)) <<< (5 &&& 31)) ||| (f_Mo_d x_p0))), (0, .ref h0), (1, .int x_p0)]) hx hb d_Mo_address_26 rfl hl (by decide) rfl (fun ls hl => ?_)
    refine lv_aload_n hx hb d_Mo_address_27 rfl (lv_at hl 1 rfl) ?_
    refine va_get (D := (dC, dI)) (ci := 6) (v := .ref a_registers) (C := "LabelledCoreModel") (T := T_Mo) (N := 24) hx hb hts in_Mo hown hK hP 0 rfl rfl 8 (by decide) (hts _ wm_964) (fun _ h9 => h9) rfl d_Mo_address_28 ?_
    refine lv_iload_n hx hb d_Mo_address_31 rfl (lv_at hl 2 rfl) ?_
    have hPc := hP.sub (ws' := []) [] rfl
    refine W.callR ((W.runS (As := [.int x_p0]) (rest := [.ref a_registers]) ⟨hx, hb, hml, hown, hts⟩ (ct_Mo_a l dC dI cI x_p0) (va_cwS 1 hts (gS wm_1100 wm_1101 wm_42 wm_1102) rfl rfl rfl (by decide +kernel) ⟨Nat.le_of_ble_eq_true rfl, Nat.le_of_ble_eq_true rfl⟩) ⟨pcR_blind, pcR_pre hPc hK⟩ rfl rfl hl.1 rfl (lv_room (Nat.le_of_ble_eq_true rfl)) d_Mo_address_32 ⟨Nat.le_of_ble_eq_true rfl, Nat.le_of_ble_eq_true rfl⟩)) ?_
    refine W.eq (g2 := F0 m 35 ls [.int (f_Mo_a x_p0), .ref a_registers]) rfl ?_
    refine va_iald hx hb hK hP 1 0 rfl rfl (in_Mo_a _) d_Mo_address_35 ?_
    refine lv_iload_n hx hb d_Mo_address_36 rfl (lv_at hl 0 rfl) ?_
    refine lv_iadd hx hb d_Mo_address_37 ?_
    have ef : (f_Mo_address g_registers x_p0) = (((g_registers (Int32.toNatClampNeg (f_Mo_a x_p0))) + (((x_p0 >>> (25 &&& 31)) <<< (5 &&& 31)) ||| (f_Mo_d x_p0))) : Int32) := (if_neg c_1).trans rfl
    exact W.iret (v := ((g_registers (Int32.toNatClampNeg (f_Mo_a x_p0))) + (((x_p0 >>> (25 &&& 31)) <<< (5 &&& 31)) ||| (f_Mo_d x_p0)))) hx hb hr (fun t ht hW => ⟨by rw [ef], ht⟩) (fun _ h => by cases h) d_Mo_address_38
  · refine lv_iload_n hx hb d_Mo_address_8 rfl (lv_at hl 1 rfl) ?_
    refine lv_bipush (v := 20) hx hb d_Mo_address_9 (by decide) ?_
    refine lv_ishr hx hb d_Mo_address_11 ?_
    refine lv_goto (tgt := 26) hx hb d_Mo_address_12 (by decide) ?_
    refine lv_istore_n (lv' := [(2, .int (x_p0 >>> (20 &&& 31))), (0, .ref h0), (1, .int x_p0)]) hx hb d_Mo_address_26 rfl hl (by decide) rfl (fun ls hl => ?_)
    refine lv_aload_n hx hb d_Mo_address_27 rfl (lv_at hl 1 rfl) ?_
    refine va_get (D := (dC, dI)) (ci := 6) (v := .ref a_registers) (C := "LabelledCoreModel") (T := T_Mo) (N := 24) hx hb hts in_Mo hown hK hP 0 rfl rfl 8 (by decide) (hts _ wm_964) (fun _ h9 => h9) rfl d_Mo_address_28 ?_
    refine lv_iload_n hx hb d_Mo_address_31 rfl (lv_at hl 2 rfl) ?_
    have hPc := hP.sub (ws' := []) [] rfl
    refine W.callR ((W.runS (As := [.int x_p0]) (rest := [.ref a_registers]) ⟨hx, hb, hml, hown, hts⟩ (ct_Mo_a l dC dI cI x_p0) (va_cwS 1 hts (gS wm_1100 wm_1101 wm_42 wm_1102) rfl rfl rfl (by decide +kernel) ⟨Nat.le_of_ble_eq_true rfl, Nat.le_of_ble_eq_true rfl⟩) ⟨pcR_blind, pcR_pre hPc hK⟩ rfl rfl hl.1 rfl (lv_room (Nat.le_of_ble_eq_true rfl)) d_Mo_address_32 ⟨Nat.le_of_ble_eq_true rfl, Nat.le_of_ble_eq_true rfl⟩)) ?_
    refine W.eq (g2 := F0 m 35 ls [.int (f_Mo_a x_p0), .ref a_registers]) rfl ?_
    refine va_iald hx hb hK hP 1 0 rfl rfl (in_Mo_a _) d_Mo_address_35 ?_
    refine lv_iload_n hx hb d_Mo_address_36 rfl (lv_at hl 0 rfl) ?_
    refine lv_iadd hx hb d_Mo_address_37 ?_
    have ef : (f_Mo_address g_registers x_p0) = (((g_registers (Int32.toNatClampNeg (f_Mo_a x_p0))) + (x_p0 >>> (20 &&& 31))) : Int32) := (if_pos c_1).trans rfl
    exact W.iret (v := ((g_registers (Int32.toNatClampNeg (f_Mo_a x_p0))) + (x_p0 >>> (20 &&& 31)))) hx hb hr (fun t ht hW => ⟨by rw [ef], ht⟩) (fun _ h => by cases h) d_Mo_address_38
def f_Mo_isMemory (x_p0 : Int32) : Int32 :=
  if x_p0 ≤ 0 then
    0
  else
    if 4 ≤ x_p0 then
      0
    else
      1
set_option maxHeartbeats 4000000 in
set_option maxRecDepth 100000 in
theorem ct_Mo_isMemory (l : Launch) (dC : Nat → ClassId) (dI : Nat → Nat → Nat) (cI : ClassId) (x_p0 : Int32) : Met l y_Mo_isMemory w_Mo_isMemory ({ frames := 0, cells := 0, slots := 0, locals := 0 }) (pcR dC dI cI [] [.int x_p0]) (QcRead (f_Mo_isMemory x_p0)) 0 0 (fun _ => False) := by
  refine Met.ofW (cc := c_Mo_isMemory) (maxL := 1) (ret := (some .boolean)) (by decide) rfl ?_
  intro p e s m args below meth c s₁ B hml hv
  obtain ⟨rfl, hP, hK⟩ := hv
  have hx := B.exec
  have hb := B.bytes
  have hr := B.returns
  have hts : ∀ w ∈ wG, w.before _ s = true := fun w h => atoms_spec (ws := w_Mo_isMemory) B.pre w (List.mem_cons_of_mem _ h)
  have hown : s.vm.findClass "LabelledCoreModel" = some m.cls := findClass_of_methodNamed B.named
  have hlocks := B.notSynchronized
  have hl := lv_entry ([.int x_p0]) (n := 1) (Nat.le_of_ble_eq_true rfl)
  rw [lg_entry_eq]
  generalize (lg_sl ([.int x_p0]) ++ List.replicate (1 - (lg_sl ([.int x_p0])).length) Slot.unset).toArray = ls at hl ⊢
  have hl : lv_has ls 1 [(0, .int x_p0)] := hl
  refine lv_iload_n hx hb d_Mo_isMemory_0 rfl (lv_at hl 0 rfl) ?_
  refine lv_if_le (tgt := 13) hx hb d_Mo_isMemory_1 (by decide) (fun c_1 => ?_) (fun c_1 => ?_)
  · refine lv_iconst (v := 0) hx hb d_Mo_isMemory_13 (by decide) ?_
    have ef : (f_Mo_isMemory x_p0) = (0 : Int32) := (if_pos c_1).trans rfl
    exact W.zret (v := 0) hx hb hr rfl (fun t ht hW => ⟨by rw [ef], ht⟩) (fun _ h => by cases h) d_Mo_isMemory_14
  · refine lv_iload_n hx hb d_Mo_isMemory_4 rfl (lv_at hl 0 rfl) ?_
    refine lv_iconst (v := 4) hx hb d_Mo_isMemory_5 (by decide) ?_
    refine lv_icmp_ge (tgt := 13) hx hb d_Mo_isMemory_6 (by decide) (fun c_2 => ?_) (fun c_2 => ?_)
    · refine lv_iconst (v := 0) hx hb d_Mo_isMemory_13 (by decide) ?_
      have ef : (f_Mo_isMemory x_p0) = (0 : Int32) := (if_neg c_1).trans ((if_pos c_2).trans rfl)
      exact W.zret (v := 0) hx hb hr rfl (fun t ht hW => ⟨by rw [ef], ht⟩) (fun _ h => by cases h) d_Mo_isMemory_14
    · refine lv_iconst (v := 1) hx hb d_Mo_isMemory_9 (by decide) ?_
      refine lv_goto (tgt := 14) hx hb d_Mo_isMemory_10 (by decide) ?_
      have ef : (f_Mo_isMemory x_p0) = (1 : Int32) := (if_neg c_1).trans ((if_neg c_2).trans rfl)
      exact W.zret (v := 1) hx hb hr rfl (fun t ht hW => ⟨by rw [ef], ht⟩) (fun _ h => by cases h) d_Mo_isMemory_14
def cu_Mo_isWrong_29 (x_p1 : Int32) (x_p0 : Int32) : Int32 :=
  if x_p1 = 2 then
    1
  else
    if x_p1 = 1 then
      if (f_Mo_f x_p0) = 2 then
        1
      else
        0
    else
      0
def f_Mo_isWrong (g_registers : Nat → Int32) (x_p0 : Int32) (x_p1 : Int32) : Int32 :=
  if (f_Mo_address g_registers x_p0) < 4096 then
    1
  else
    if 4351 < (f_Mo_address g_registers x_p0) then
      1
    else
      if (cu_Mo_isWrong_29 x_p1 x_p0) = 0 then
        0
      else
        if ((f_Mo_address g_registers x_p0) - (f_Mo_address g_registers x_p0) / 4 * 4) = 0 then
          0
        else
          1
set_option maxHeartbeats 4000000 in
set_option maxRecDepth 100000 in
theorem ct_Mo_isWrong (l : Launch) (dC : Nat → ClassId) (dI : Nat → Nat → Nat) (cI : ClassId) (h0 a_words a_rules a_registers a_registerLabels a_memory a_memoryLabels a_waiting a_waitingLabels a_out a_outLabels a_keys a_labels : Nat) (v_thrown : Int32) (v_size : Int32) (v_entries : Int32) (v_outcome : Int32) (v_pc : Int32) (v_pcLabel : Int32) (v_wait : Int32) (v_went : Int32) (v_done : Int32) (v_misses : Int32) (v_known : Int32) (v_group : Int32) (g_registers : Nat → Int32) (x_p0 : Int32) (x_p1 : Int32) : Met l y_Mo_isWrong w_Mo_isWrong ({ frames := 2, cells := 0, slots := 0, locals := 42 }) (pcR dC dI cI [(h0, .inr (6, [.int v_thrown, .ref a_words, .int v_size, .ref a_rules, .int v_entries, .int v_outcome, .int v_pc, .int v_pcLabel, .ref a_registers, .ref a_registerLabels, .ref a_memory, .ref a_memoryLabels, .ref a_waiting, .ref a_waitingLabels, .int v_wait, .ref a_out, .ref a_outLabels, .int v_went, .int v_done, .int v_misses, .ref a_keys, .int v_known, .int v_group, .ref a_labels])), (a_registers, .inl (cI, 32, .inl g_registers))] [.ref h0, .int x_p0, .int x_p1]) (QcRead (f_Mo_isWrong g_registers x_p0 x_p1)) 0 0 (fun _ => False) := by
  refine Met.ofW (cc := c_Mo_isWrong) (maxL := 5) (ret := (some .boolean)) (by decide) rfl ?_
  intro p e s m args below meth c s₁ B hml hv
  obtain ⟨rfl, hP, hK⟩ := hv
  have hx := B.exec
  have hb := B.bytes
  have hr := B.returns
  have hts : ∀ w ∈ wG, w.before _ s = true := fun w h => atoms_spec (ws := w_Mo_isWrong) B.pre w (List.mem_cons_of_mem _ h)
  have hown : s.vm.findClass "LabelledCoreModel" = some m.cls := findClass_of_methodNamed B.named
  have hlocks := B.notSynchronized
  have hl := lv_entry ([.ref h0, .int x_p0, .int x_p1]) (n := 5) (Nat.le_of_ble_eq_true rfl)
  rw [lg_entry_eq]
  generalize (lg_sl ([.ref h0, .int x_p0, .int x_p1]) ++ List.replicate (5 - (lg_sl ([.ref h0, .int x_p0, .int x_p1])).length) Slot.unset).toArray = ls at hl ⊢
  have hl : lv_has ls 5 [(0, .ref h0), (1, .int x_p0), (2, .int x_p1)] := hl
  refine lv_aload_n hx hb d_Mo_isWrong_0 rfl (lv_at hl 0 rfl) ?_
  refine lv_iload_n hx hb d_Mo_isWrong_1 rfl (lv_at hl 1 rfl) ?_
  have hPc := hP.sub (ws' := [(h0, .inr (6, [.int v_thrown, .ref a_words, .int v_size, .ref a_rules, .int v_entries, .int v_outcome, .int v_pc, .int v_pcLabel, .ref a_registers, .ref a_registerLabels, .ref a_memory, .ref a_memoryLabels, .ref a_waiting, .ref a_waitingLabels, .int v_wait, .ref a_out, .ref a_outLabels, .int v_went, .int v_done, .int v_misses, .ref a_keys, .int v_known, .int v_group, .ref a_labels])), (a_registers, .inl (cI, 32, .inl g_registers))]) [0, 1] rfl
  refine W.callR ((W.runV (As := [.int x_p0]) (rest := []) ⟨hx, hb, hml, hown, hts⟩ (ct_Mo_address l dC dI cI h0 a_words a_rules a_registers a_registerLabels a_memory a_memoryLabels a_waiting a_waitingLabels a_out a_outLabels a_keys a_labels v_thrown v_size v_entries v_outcome v_pc v_pcLabel v_wait v_went v_done v_misses v_known v_group g_registers x_p0) (cwV 1 hts (gV wm_1093 wm_1095 wm_22 wm_42 wm_1096) rfl rfl rfl (by decide +kernel) ⟨Nat.le_of_ble_eq_true rfl, Nat.le_of_ble_eq_true rfl⟩) ⟨pcR_blind, va_recv hK hPc (ci := 6) (q0 := 0) rfl rfl, pcR_pre hPc hK⟩ rfl rfl hl.1 rfl (lv_room (Nat.le_of_ble_eq_true rfl)) d_Mo_isWrong_2 ⟨Nat.le_of_ble_eq_true rfl, Nat.le_of_ble_eq_true rfl⟩)) ?_
  refine W.eq (g2 := F0 m 5 ls [.int (f_Mo_address g_registers x_p0)]) rfl ?_
  refine lv_istore_n (lv' := [(3, .int (f_Mo_address g_registers x_p0)), (0, .ref h0), (1, .int x_p0), (2, .int x_p1)]) hx hb d_Mo_isWrong_5 rfl hl (by decide) rfl (fun ls hl => ?_)
  have hcut_29 : W p l e (headSpec w_Mo_isWrong ({ frames := 2, cells := 0, slots := 0, locals := 42 })).room s m ([.ref h0, .int x_p0, .int x_p1] : List Value).toArray below meth c s.heap [] 0 0 (MQ below (QcRead (f_Mo_isWrong g_registers x_p0 x_p1)) ([.ref h0, .int x_p0, .int x_p1] : List Value).toArray s 0 0 (fun _ => False)) (F0 m 29 ls [.int (cu_Mo_isWrong_29 x_p1 x_p0)]) := by
    refine lv_istore (lv' := [(4, .int (cu_Mo_isWrong_29 x_p1 x_p0)), (3, .int (f_Mo_address g_registers x_p0)), (0, .ref h0), (1, .int x_p0), (2, .int x_p1)]) hx hb d_Mo_isWrong_29 hl (by decide) rfl (fun ls hl => ?_)
    refine lv_iload_n hx hb d_Mo_isWrong_31 rfl (lv_at hl 1 rfl) ?_
    refine lv_sipush (v := 4096) hx hb d_Mo_isWrong_32 (by decide) ?_
    refine lv_icmp_lt (tgt := 56) hx hb d_Mo_isWrong_35 (by decide) (fun c_1 => ?_) (fun c_1 => ?_)
    · refine lv_iconst (v := 1) hx hb d_Mo_isWrong_56 (by decide) ?_
      refine lv_goto (tgt := 61) hx hb d_Mo_isWrong_57 (by decide) ?_
      have ef : (f_Mo_isWrong g_registers x_p0 x_p1) = (1 : Int32) := (if_pos c_1).trans rfl
      exact W.zret (v := 1) hx hb hr rfl (fun t ht hW => ⟨by rw [ef], ht⟩) (fun _ h => by cases h) d_Mo_isWrong_61
    · refine lv_iload_n hx hb d_Mo_isWrong_38 rfl (lv_at hl 1 rfl) ?_
      refine lv_sipush (v := 4351) hx hb d_Mo_isWrong_39 (by decide) ?_
      refine lv_icmp_gt (tgt := 56) hx hb d_Mo_isWrong_42 (by decide) (fun c_2 => ?_) (fun c_2 => ?_)
      · refine lv_iconst (v := 1) hx hb d_Mo_isWrong_56 (by decide) ?_
        refine lv_goto (tgt := 61) hx hb d_Mo_isWrong_57 (by decide) ?_
        have ef : (f_Mo_isWrong g_registers x_p0 x_p1) = (1 : Int32) := (if_neg c_1).trans ((if_pos c_2).trans rfl)
        exact W.zret (v := 1) hx hb hr rfl (fun t ht hW => ⟨by rw [ef], ht⟩) (fun _ h => by cases h) d_Mo_isWrong_61
      · refine lv_iload hx hb d_Mo_isWrong_45 (lv_at hl 0 rfl) ?_
        refine lv_if_eq (tgt := 60) hx hb d_Mo_isWrong_47 (by decide) (fun c_3 => ?_) (fun c_3 => ?_)
        · refine lv_iconst (v := 0) hx hb d_Mo_isWrong_60 (by decide) ?_
          have ef : (f_Mo_isWrong g_registers x_p0 x_p1) = (0 : Int32) := (if_neg c_1).trans ((if_neg c_2).trans ((if_pos c_3).trans rfl))
          exact W.zret (v := 0) hx hb hr rfl (fun t ht hW => ⟨by rw [ef], ht⟩) (fun _ h => by cases h) d_Mo_isWrong_61
        · refine lv_iload_n hx hb d_Mo_isWrong_50 rfl (lv_at hl 1 rfl) ?_
          refine lv_iconst (v := 4) hx hb d_Mo_isWrong_51 (by decide) ?_
          refine lv_irem hx hb d_Mo_isWrong_52 (by decide) ?_
          refine lv_if_eq (tgt := 60) hx hb d_Mo_isWrong_53 (by decide) (fun c_4 => ?_) (fun c_4 => ?_)
          · refine lv_iconst (v := 0) hx hb d_Mo_isWrong_60 (by decide) ?_
            have ef : (f_Mo_isWrong g_registers x_p0 x_p1) = (0 : Int32) := (if_neg c_1).trans ((if_neg c_2).trans ((if_neg c_3).trans ((if_pos c_4).trans rfl)))
            exact W.zret (v := 0) hx hb hr rfl (fun t ht hW => ⟨by rw [ef], ht⟩) (fun _ h => by cases h) d_Mo_isWrong_61
          · refine lv_iconst (v := 1) hx hb d_Mo_isWrong_56 (by decide) ?_
            refine lv_goto (tgt := 61) hx hb d_Mo_isWrong_57 (by decide) ?_
            have ef : (f_Mo_isWrong g_registers x_p0 x_p1) = (1 : Int32) := (if_neg c_1).trans ((if_neg c_2).trans ((if_neg c_3).trans ((if_neg c_4).trans rfl)))
            exact W.zret (v := 1) hx hb hr rfl (fun t ht hW => ⟨by rw [ef], ht⟩) (fun _ h => by cases h) d_Mo_isWrong_61
  refine lv_iload_n hx hb d_Mo_isWrong_6 rfl (lv_at hl 3 rfl) ?_
  refine lv_iconst (v := 2) hx hb d_Mo_isWrong_7 (by decide) ?_
  refine lv_icmp_eq (tgt := 24) hx hb d_Mo_isWrong_8 (by decide) (fun c_5 => ?_) (fun c_5 => ?_)
  · refine lv_iconst (v := 1) hx hb d_Mo_isWrong_24 (by decide) ?_
    refine lv_goto (tgt := 29) hx hb d_Mo_isWrong_25 (by decide) ?_
    refine lv_toE (y := (cu_Mo_isWrong_29 x_p1 x_p0)) (show (cu_Mo_isWrong_29 x_p1 x_p0) = 1 from ((if_pos c_5).trans rfl)).symm ?_
    exact hcut_29
  · refine lv_iload_n hx hb d_Mo_isWrong_11 rfl (lv_at hl 3 rfl) ?_
    refine lv_iconst (v := 1) hx hb d_Mo_isWrong_12 (by decide) ?_
    refine lv_icmp_ne (tgt := 28) hx hb d_Mo_isWrong_13 (by decide) (fun c_6 => ?_) (fun c_6 => ?_)
    · refine lv_iconst (v := 0) hx hb d_Mo_isWrong_28 (by decide) ?_
      refine lv_toE (y := (cu_Mo_isWrong_29 x_p1 x_p0)) (show (cu_Mo_isWrong_29 x_p1 x_p0) = 0 from ((if_neg c_5).trans ((if_neg c_6).trans rfl))).symm ?_
      exact hcut_29
    · refine lv_iload_n hx hb d_Mo_isWrong_16 rfl (lv_at hl 2 rfl) ?_
      have hPc := hP.sub (ws' := []) [] rfl
      refine W.callR ((W.runS (As := [.int x_p0]) (rest := []) ⟨hx, hb, hml, hown, hts⟩ (ct_Mo_f l dC dI cI x_p0) (va_cwS 1 hts (gS wm_1080 wm_1081 wm_42 wm_1082) rfl rfl rfl (by decide +kernel) ⟨Nat.le_of_ble_eq_true rfl, Nat.le_of_ble_eq_true rfl⟩) ⟨pcR_blind, pcR_pre hPc hK⟩ rfl rfl hl.1 rfl (lv_room (Nat.le_of_ble_eq_true rfl)) d_Mo_isWrong_17 ⟨Nat.le_of_ble_eq_true rfl, Nat.le_of_ble_eq_true rfl⟩)) ?_
      refine W.eq (g2 := F0 m 20 ls [.int (f_Mo_f x_p0)]) rfl ?_
      refine lv_iconst (v := 2) hx hb d_Mo_isWrong_20 (by decide) ?_
      refine lv_icmp_ne (tgt := 28) hx hb d_Mo_isWrong_21 (by decide) (fun c_7 => ?_) (fun c_7 => ?_)
      · refine lv_iconst (v := 0) hx hb d_Mo_isWrong_28 (by decide) ?_
        refine lv_toE (y := (cu_Mo_isWrong_29 x_p1 x_p0)) (show (cu_Mo_isWrong_29 x_p1 x_p0) = 0 from ((if_neg c_5).trans ((if_pos c_6).trans ((if_neg c_7).trans rfl)))).symm ?_
        exact hcut_29
      · refine lv_iconst (v := 1) hx hb d_Mo_isWrong_24 (by decide) ?_
        refine lv_goto (tgt := 29) hx hb d_Mo_isWrong_25 (by decide) ?_
        refine lv_toE (y := (cu_Mo_isWrong_29 x_p1 x_p0)) (show (cu_Mo_isWrong_29 x_p1 x_p0) = 1 from ((if_neg c_5).trans ((if_pos c_6).trans ((if_pos c_7).trans rfl)))).symm ?_
        exact hcut_29
def f_Mo_branchOffset (x_p0 : Int32) : Int32 :=
  (((((x_p0 >>> (31 &&& 31)) <<< (12 &&& 31)) ||| (((x_p0 >>> (7 &&& 31)) &&& 1) <<< (11 &&& 31))) ||| (((x_p0 >>> (25 &&& 31)) &&& 63) <<< (5 &&& 31))) ||| (((x_p0 >>> (8 &&& 31)) &&& 15) <<< (1 &&& 31)))
set_option maxHeartbeats 4000000 in
set_option maxRecDepth 100000 in
theorem ct_Mo_branchOffset (l : Launch) (dC : Nat → ClassId) (dI : Nat → Nat → Nat) (cI : ClassId) (x_p0 : Int32) : Met l y_Mo_branchOffset w_Mo_branchOffset ({ frames := 0, cells := 0, slots := 0, locals := 0 }) (pcR dC dI cI [] [.int x_p0]) (QcRead (f_Mo_branchOffset x_p0)) 0 0 (fun _ => False) := by
  refine Met.ofW (cc := c_Mo_branchOffset) (maxL := 1) (ret := (some .int)) (by decide) rfl ?_
  intro p e s m args below meth c s₁ B hml hv
  obtain ⟨rfl, hP, hK⟩ := hv
  have hx := B.exec
  have hb := B.bytes
  have hr := B.returns
  have hts : ∀ w ∈ wG, w.before _ s = true := fun w h => atoms_spec (ws := w_Mo_branchOffset) B.pre w (List.mem_cons_of_mem _ h)
  have hown : s.vm.findClass "LabelledCoreModel" = some m.cls := findClass_of_methodNamed B.named
  have hlocks := B.notSynchronized
  have hl := lv_entry ([.int x_p0]) (n := 1) (Nat.le_of_ble_eq_true rfl)
  rw [lg_entry_eq]
  generalize (lg_sl ([.int x_p0]) ++ List.replicate (1 - (lg_sl ([.int x_p0])).length) Slot.unset).toArray = ls at hl ⊢
  have hl : lv_has ls 1 [(0, .int x_p0)] := hl
  refine lv_iload_n hx hb d_Mo_branchOffset_0 rfl (lv_at hl 0 rfl) ?_
  refine lv_bipush (v := 31) hx hb d_Mo_branchOffset_1 (by decide) ?_
  refine lv_ishr hx hb d_Mo_branchOffset_3 ?_
  refine lv_bipush (v := 12) hx hb d_Mo_branchOffset_4 (by decide) ?_
  refine lv_ishl hx hb d_Mo_branchOffset_6 ?_
  refine lv_iload_n hx hb d_Mo_branchOffset_7 rfl (lv_at hl 0 rfl) ?_
  refine lv_bipush (v := 7) hx hb d_Mo_branchOffset_8 (by decide) ?_
  refine lv_ishr hx hb d_Mo_branchOffset_10 ?_
  refine lv_iconst (v := 1) hx hb d_Mo_branchOffset_11 (by decide) ?_
  refine lv_iand hx hb d_Mo_branchOffset_12 ?_
  refine lv_bipush (v := 11) hx hb d_Mo_branchOffset_13 (by decide) ?_
  refine lv_ishl hx hb d_Mo_branchOffset_15 ?_
  refine lv_ior hx hb d_Mo_branchOffset_16 ?_
  refine lv_iload_n hx hb d_Mo_branchOffset_17 rfl (lv_at hl 0 rfl) ?_
  refine lv_bipush (v := 25) hx hb d_Mo_branchOffset_18 (by decide) ?_
  refine lv_ishr hx hb d_Mo_branchOffset_20 ?_
  refine lv_bipush (v := 63) hx hb d_Mo_branchOffset_21 (by decide) ?_
  refine lv_iand hx hb d_Mo_branchOffset_23 ?_
  refine lv_iconst (v := 5) hx hb d_Mo_branchOffset_24 (by decide) ?_
  refine lv_ishl hx hb d_Mo_branchOffset_25 ?_
  refine lv_ior hx hb d_Mo_branchOffset_26 ?_
  refine lv_iload_n hx hb d_Mo_branchOffset_27 rfl (lv_at hl 0 rfl) ?_
  refine lv_bipush (v := 8) hx hb d_Mo_branchOffset_28 (by decide) ?_
  refine lv_ishr hx hb d_Mo_branchOffset_30 ?_
  refine lv_bipush (v := 15) hx hb d_Mo_branchOffset_31 (by decide) ?_
  refine lv_iand hx hb d_Mo_branchOffset_33 ?_
  refine lv_iconst (v := 1) hx hb d_Mo_branchOffset_34 (by decide) ?_
  refine lv_ishl hx hb d_Mo_branchOffset_35 ?_
  refine lv_ior hx hb d_Mo_branchOffset_36 ?_
  have ef : (f_Mo_branchOffset x_p0) = ((((((x_p0 >>> (31 &&& 31)) <<< (12 &&& 31)) ||| (((x_p0 >>> (7 &&& 31)) &&& 1) <<< (11 &&& 31))) ||| (((x_p0 >>> (25 &&& 31)) &&& 63) <<< (5 &&& 31))) ||| (((x_p0 >>> (8 &&& 31)) &&& 15) <<< (1 &&& 31))) : Int32) := rfl
  exact W.iret (v := (((((x_p0 >>> (31 &&& 31)) <<< (12 &&& 31)) ||| (((x_p0 >>> (7 &&& 31)) &&& 1) <<< (11 &&& 31))) ||| (((x_p0 >>> (25 &&& 31)) &&& 63) <<< (5 &&& 31))) ||| (((x_p0 >>> (8 &&& 31)) &&& 15) <<< (1 &&& 31)))) hx hb hr (fun t ht hW => ⟨by rw [ef], ht⟩) (fun _ h => by cases h) d_Mo_branchOffset_37
def f_Mo_callOffset (x_p0 : Int32) : Int32 :=
  (((((x_p0 >>> (31 &&& 31)) <<< (20 &&& 31)) ||| (((x_p0 >>> (12 &&& 31)) &&& 255) <<< (12 &&& 31))) ||| (((x_p0 >>> (20 &&& 31)) &&& 1) <<< (11 &&& 31))) ||| (((x_p0 >>> (21 &&& 31)) &&& 1023) <<< (1 &&& 31)))
set_option maxHeartbeats 4000000 in
set_option maxRecDepth 100000 in
theorem ct_Mo_callOffset (l : Launch) (dC : Nat → ClassId) (dI : Nat → Nat → Nat) (cI : ClassId) (x_p0 : Int32) : Met l y_Mo_callOffset w_Mo_callOffset ({ frames := 0, cells := 0, slots := 0, locals := 0 }) (pcR dC dI cI [] [.int x_p0]) (QcRead (f_Mo_callOffset x_p0)) 0 0 (fun _ => False) := by
  refine Met.ofW (cc := c_Mo_callOffset) (maxL := 1) (ret := (some .int)) (by decide) rfl ?_
  intro p e s m args below meth c s₁ B hml hv
  obtain ⟨rfl, hP, hK⟩ := hv
  have hx := B.exec
  have hb := B.bytes
  have hr := B.returns
  have hts : ∀ w ∈ wG, w.before _ s = true := fun w h => atoms_spec (ws := w_Mo_callOffset) B.pre w (List.mem_cons_of_mem _ h)
  have hown : s.vm.findClass "LabelledCoreModel" = some m.cls := findClass_of_methodNamed B.named
  have hlocks := B.notSynchronized
  have hl := lv_entry ([.int x_p0]) (n := 1) (Nat.le_of_ble_eq_true rfl)
  rw [lg_entry_eq]
  generalize (lg_sl ([.int x_p0]) ++ List.replicate (1 - (lg_sl ([.int x_p0])).length) Slot.unset).toArray = ls at hl ⊢
  have hl : lv_has ls 1 [(0, .int x_p0)] := hl
  refine lv_iload_n hx hb d_Mo_callOffset_0 rfl (lv_at hl 0 rfl) ?_
  refine lv_bipush (v := 31) hx hb d_Mo_callOffset_1 (by decide) ?_
  refine lv_ishr hx hb d_Mo_callOffset_3 ?_
  refine lv_bipush (v := 20) hx hb d_Mo_callOffset_4 (by decide) ?_
  refine lv_ishl hx hb d_Mo_callOffset_6 ?_
  refine lv_iload_n hx hb d_Mo_callOffset_7 rfl (lv_at hl 0 rfl) ?_
  refine lv_bipush (v := 12) hx hb d_Mo_callOffset_8 (by decide) ?_
  refine lv_ishr hx hb d_Mo_callOffset_10 ?_
  refine lv_sipush (v := 255) hx hb d_Mo_callOffset_11 (by decide) ?_
  refine lv_iand hx hb d_Mo_callOffset_14 ?_
  refine lv_bipush (v := 12) hx hb d_Mo_callOffset_15 (by decide) ?_
  refine lv_ishl hx hb d_Mo_callOffset_17 ?_
  refine lv_ior hx hb d_Mo_callOffset_18 ?_
  refine lv_iload_n hx hb d_Mo_callOffset_19 rfl (lv_at hl 0 rfl) ?_
  refine lv_bipush (v := 20) hx hb d_Mo_callOffset_20 (by decide) ?_
  refine lv_ishr hx hb d_Mo_callOffset_22 ?_
  refine lv_iconst (v := 1) hx hb d_Mo_callOffset_23 (by decide) ?_
  refine lv_iand hx hb d_Mo_callOffset_24 ?_
  refine lv_bipush (v := 11) hx hb d_Mo_callOffset_25 (by decide) ?_
  refine lv_ishl hx hb d_Mo_callOffset_27 ?_
  refine lv_ior hx hb d_Mo_callOffset_28 ?_
  refine lv_iload_n hx hb d_Mo_callOffset_29 rfl (lv_at hl 0 rfl) ?_
  refine lv_bipush (v := 21) hx hb d_Mo_callOffset_30 (by decide) ?_
  refine lv_ishr hx hb d_Mo_callOffset_32 ?_
  refine lv_sipush (v := 1023) hx hb d_Mo_callOffset_33 (by decide) ?_
  refine lv_iand hx hb d_Mo_callOffset_36 ?_
  refine lv_iconst (v := 1) hx hb d_Mo_callOffset_37 (by decide) ?_
  refine lv_ishl hx hb d_Mo_callOffset_38 ?_
  refine lv_ior hx hb d_Mo_callOffset_39 ?_
  have ef : (f_Mo_callOffset x_p0) = ((((((x_p0 >>> (31 &&& 31)) <<< (20 &&& 31)) ||| (((x_p0 >>> (12 &&& 31)) &&& 255) <<< (12 &&& 31))) ||| (((x_p0 >>> (20 &&& 31)) &&& 1) <<< (11 &&& 31))) ||| (((x_p0 >>> (21 &&& 31)) &&& 1023) <<< (1 &&& 31))) : Int32) := rfl
  exact W.iret (v := (((((x_p0 >>> (31 &&& 31)) <<< (20 &&& 31)) ||| (((x_p0 >>> (12 &&& 31)) &&& 255) <<< (12 &&& 31))) ||| (((x_p0 >>> (20 &&& 31)) &&& 1) <<< (11 &&& 31))) ||| (((x_p0 >>> (21 &&& 31)) &&& 1023) <<< (1 &&& 31)))) hx hb hr (fun t ht hW => ⟨by rw [ef], ht⟩) (fun _ h => by cases h) d_Mo_callOffset_40
def f_Mo_holds (g_registers : Nat → Int32) (x_p0 : Int32) : Int32 :=
  if 2 ≤ (f_Mo_f x_p0) then
    if (f_Mo_f x_p0) ≤ 5 then
      if ((f_Mo_f x_p0) - (f_Mo_f x_p0) / 2 * 2) = 0 then
        (f_Mo_less (g_registers (Int32.toNatClampNeg (f_Mo_a x_p0))) (g_registers (Int32.toNatClampNeg (f_Mo_b x_p0))) 0)
      else
        if (f_Mo_less (g_registers (Int32.toNatClampNeg (f_Mo_a x_p0))) (g_registers (Int32.toNatClampNeg (f_Mo_b x_p0))) 0) = 0 then
          1
        else
          0
    else
      if ((f_Mo_f x_p0) - (f_Mo_f x_p0) / 2 * 2) = 0 then
        (f_Mo_less (g_registers (Int32.toNatClampNeg (f_Mo_a x_p0))) (g_registers (Int32.toNatClampNeg (f_Mo_b x_p0))) 1)
      else
        if (f_Mo_less (g_registers (Int32.toNatClampNeg (f_Mo_a x_p0))) (g_registers (Int32.toNatClampNeg (f_Mo_b x_p0))) 1) = 0 then
          1
        else
          0
  else
    if (g_registers (Int32.toNatClampNeg (f_Mo_a x_p0))) = (g_registers (Int32.toNatClampNeg (f_Mo_b x_p0))) then
      if ((f_Mo_f x_p0) - (f_Mo_f x_p0) / 2 * 2) = 0 then
        1
      else
        0
    else
      if ((f_Mo_f x_p0) - (f_Mo_f x_p0) / 2 * 2) = 0 then
        0
      else
        1
set_option maxHeartbeats 4000000 in
set_option maxRecDepth 100000 in
theorem ct_Mo_holds (l : Launch) (dC : Nat → ClassId) (dI : Nat → Nat → Nat) (cI : ClassId) (h0 a_words a_rules a_registers a_registerLabels a_memory a_memoryLabels a_waiting a_waitingLabels a_out a_outLabels a_keys a_labels : Nat) (v_thrown : Int32) (v_size : Int32) (v_entries : Int32) (v_outcome : Int32) (v_pc : Int32) (v_pcLabel : Int32) (v_wait : Int32) (v_went : Int32) (v_done : Int32) (v_misses : Int32) (v_known : Int32) (v_group : Int32) (g_registers : Nat → Int32) (x_p0 : Int32) : Met l y_Mo_holds w_Mo_holds ({ frames := 1, cells := 0, slots := 0, locals := 22 }) (pcR dC dI cI [(h0, .inr (6, [.int v_thrown, .ref a_words, .int v_size, .ref a_rules, .int v_entries, .int v_outcome, .int v_pc, .int v_pcLabel, .ref a_registers, .ref a_registerLabels, .ref a_memory, .ref a_memoryLabels, .ref a_waiting, .ref a_waitingLabels, .int v_wait, .ref a_out, .ref a_outLabels, .int v_went, .int v_done, .int v_misses, .ref a_keys, .int v_known, .int v_group, .ref a_labels])), (a_registers, .inl (cI, 32, .inl g_registers))] [.ref h0, .int x_p0]) (QcRead (f_Mo_holds g_registers x_p0)) 0 0 (fun _ => False) := by
  refine Met.ofW (cc := c_Mo_holds) (maxL := 5) (ret := (some .boolean)) (by decide) rfl ?_
  intro p e s m args below meth c s₁ B hml hv
  obtain ⟨rfl, hP, hK⟩ := hv
  have hx := B.exec
  have hb := B.bytes
  have hr := B.returns
  have hts : ∀ w ∈ wG, w.before _ s = true := fun w h => atoms_spec (ws := w_Mo_holds) B.pre w (List.mem_cons_of_mem _ h)
  have hown : s.vm.findClass "LabelledCoreModel" = some m.cls := findClass_of_methodNamed B.named
  have hlocks := B.notSynchronized
  have hl := lv_entry ([.ref h0, .int x_p0]) (n := 5) (Nat.le_of_ble_eq_true rfl)
  rw [lg_entry_eq]
  generalize (lg_sl ([.ref h0, .int x_p0]) ++ List.replicate (5 - (lg_sl ([.ref h0, .int x_p0])).length) Slot.unset).toArray = ls at hl ⊢
  have hl : lv_has ls 5 [(0, .ref h0), (1, .int x_p0)] := hl
  refine lv_aload_n hx hb d_Mo_holds_0 rfl (lv_at hl 0 rfl) ?_
  refine va_get (D := (dC, dI)) (ci := 6) (v := .ref a_registers) (C := "LabelledCoreModel") (T := T_Mo) (N := 24) hx hb hts in_Mo hown hK hP 0 rfl rfl 8 (by decide) (hts _ wm_964) (fun _ h9 => h9) rfl d_Mo_holds_1 ?_
  refine lv_iload_n hx hb d_Mo_holds_4 rfl (lv_at hl 1 rfl) ?_
  have hPc := hP.sub (ws' := []) [] rfl
  refine W.callR ((W.runS (As := [.int x_p0]) (rest := [.ref a_registers]) ⟨hx, hb, hml, hown, hts⟩ (ct_Mo_a l dC dI cI x_p0) (va_cwS 1 hts (gS wm_1100 wm_1101 wm_42 wm_1102) rfl rfl rfl (by decide +kernel) ⟨Nat.le_of_ble_eq_true rfl, Nat.le_of_ble_eq_true rfl⟩) ⟨pcR_blind, pcR_pre hPc hK⟩ rfl rfl hl.1 rfl (lv_room (Nat.le_of_ble_eq_true rfl)) d_Mo_holds_5 ⟨Nat.le_of_ble_eq_true rfl, Nat.le_of_ble_eq_true rfl⟩)) ?_
  refine W.eq (g2 := F0 m 8 ls [.int (f_Mo_a x_p0), .ref a_registers]) rfl ?_
  refine va_iald hx hb hK hP 1 0 rfl rfl (in_Mo_a _) d_Mo_holds_8 ?_
  refine lv_istore_n (lv' := [(2, .int (g_registers (Int32.toNatClampNeg (f_Mo_a x_p0)))), (0, .ref h0), (1, .int x_p0)]) hx hb d_Mo_holds_9 rfl hl (by decide) rfl (fun ls hl => ?_)
  refine lv_aload_n hx hb d_Mo_holds_10 rfl (lv_at hl 1 rfl) ?_
  refine va_get (D := (dC, dI)) (ci := 6) (v := .ref a_registers) (C := "LabelledCoreModel") (T := T_Mo) (N := 24) hx hb hts in_Mo hown hK hP 0 rfl rfl 8 (by decide) (hts _ wm_964) (fun _ h9 => h9) rfl d_Mo_holds_11 ?_
  refine lv_iload_n hx hb d_Mo_holds_14 rfl (lv_at hl 2 rfl) ?_
  have hPc := hP.sub (ws' := []) [] rfl
  refine W.callR ((W.runS (As := [.int x_p0]) (rest := [.ref a_registers]) ⟨hx, hb, hml, hown, hts⟩ (ct_Mo_b l dC dI cI x_p0) (va_cwS 1 hts (gS wm_1107 wm_1108 wm_42 wm_1109) rfl rfl rfl (by decide +kernel) ⟨Nat.le_of_ble_eq_true rfl, Nat.le_of_ble_eq_true rfl⟩) ⟨pcR_blind, pcR_pre hPc hK⟩ rfl rfl hl.1 rfl (lv_room (Nat.le_of_ble_eq_true rfl)) d_Mo_holds_15 ⟨Nat.le_of_ble_eq_true rfl, Nat.le_of_ble_eq_true rfl⟩)) ?_
  refine W.eq (g2 := F0 m 18 ls [.int (f_Mo_b x_p0), .ref a_registers]) rfl ?_
  refine va_iald hx hb hK hP 1 0 rfl rfl (in_Mo_b _) d_Mo_holds_18 ?_
  refine lv_istore_n (lv' := [(3, .int (g_registers (Int32.toNatClampNeg (f_Mo_b x_p0)))), (2, .int (g_registers (Int32.toNatClampNeg (f_Mo_a x_p0)))), (0, .ref h0), (1, .int x_p0)]) hx hb d_Mo_holds_19 rfl hl (by decide) rfl (fun ls hl => ?_)
  refine lv_iload_n hx hb d_Mo_holds_20 rfl (lv_at hl 3 rfl) ?_
  have hPc := hP.sub (ws' := []) [] rfl
  refine W.callR ((W.runS (As := [.int x_p0]) (rest := []) ⟨hx, hb, hml, hown, hts⟩ (ct_Mo_f l dC dI cI x_p0) (va_cwS 1 hts (gS wm_1080 wm_1081 wm_42 wm_1082) rfl rfl rfl (by decide +kernel) ⟨Nat.le_of_ble_eq_true rfl, Nat.le_of_ble_eq_true rfl⟩) ⟨pcR_blind, pcR_pre hPc hK⟩ rfl rfl hl.1 rfl (lv_room (Nat.le_of_ble_eq_true rfl)) d_Mo_holds_21 ⟨Nat.le_of_ble_eq_true rfl, Nat.le_of_ble_eq_true rfl⟩)) ?_
  refine W.eq (g2 := F0 m 24 ls [.int (f_Mo_f x_p0)]) rfl ?_
  refine lv_iconst (v := 2) hx hb d_Mo_holds_24 (by decide) ?_
  refine lv_icmp_ge (tgt := 41) hx hb d_Mo_holds_25 (by decide) (fun c_1 => ?_) (fun c_1 => ?_)
  · refine lv_iload_n hx hb d_Mo_holds_41 rfl (lv_at hl 1 rfl) ?_
    refine lv_iload_n hx hb d_Mo_holds_42 rfl (lv_at hl 0 rfl) ?_
    refine lv_iload_n hx hb d_Mo_holds_43 rfl (lv_at hl 3 rfl) ?_
    have hPc := hP.sub (ws' := []) [] rfl
    refine W.callR ((W.runS (As := [.int x_p0]) (rest := [.int (g_registers (Int32.toNatClampNeg (f_Mo_b x_p0))), .int (g_registers (Int32.toNatClampNeg (f_Mo_a x_p0)))]) ⟨hx, hb, hml, hown, hts⟩ (ct_Mo_f l dC dI cI x_p0) (va_cwS 1 hts (gS wm_1080 wm_1081 wm_42 wm_1082) rfl rfl rfl (by decide +kernel) ⟨Nat.le_of_ble_eq_true rfl, Nat.le_of_ble_eq_true rfl⟩) ⟨pcR_blind, pcR_pre hPc hK⟩ rfl rfl hl.1 rfl (lv_room (Nat.le_of_ble_eq_true rfl)) d_Mo_holds_44 ⟨Nat.le_of_ble_eq_true rfl, Nat.le_of_ble_eq_true rfl⟩)) ?_
    refine W.eq (g2 := F0 m 47 ls [.int (f_Mo_f x_p0), .int (g_registers (Int32.toNatClampNeg (f_Mo_b x_p0))), .int (g_registers (Int32.toNatClampNeg (f_Mo_a x_p0)))]) rfl ?_
    refine lv_iconst (v := 5) hx hb d_Mo_holds_47 (by decide) ?_
    refine lv_icmp_le (tgt := 55) hx hb d_Mo_holds_48 (by decide) (fun c_2 => ?_) (fun c_2 => ?_)
    · refine lv_iconst (v := 0) hx hb d_Mo_holds_55 (by decide) ?_
      have hPc := hP.sub (ws' := []) [] rfl
      refine W.callR ((W.runS (As := [.int (g_registers (Int32.toNatClampNeg (f_Mo_a x_p0))), .int (g_registers (Int32.toNatClampNeg (f_Mo_b x_p0))), .int 0]) (rest := []) ⟨hx, hb, hml, hown, hts⟩ (ct_Mo_less l dC dI cI (g_registers (Int32.toNatClampNeg (f_Mo_a x_p0))) (g_registers (Int32.toNatClampNeg (f_Mo_b x_p0))) 0) (va_cwS 3 hts (gS wm_1137 wm_1138 wm_42 wm_1139) rfl rfl rfl (by decide +kernel) ⟨Nat.le_of_ble_eq_true rfl, Nat.le_of_ble_eq_true rfl⟩) ⟨pcR_blind, pcR_pre hPc hK⟩ rfl rfl hl.1 rfl (lv_room (Nat.le_of_ble_eq_true rfl)) d_Mo_holds_56 ⟨Nat.le_of_ble_eq_true rfl, Nat.le_of_ble_eq_true rfl⟩)) ?_
      refine W.eq (g2 := F0 m 59 ls [.int (f_Mo_less (g_registers (Int32.toNatClampNeg (f_Mo_a x_p0))) (g_registers (Int32.toNatClampNeg (f_Mo_b x_p0))) 0)]) rfl ?_
      refine lv_istore (lv' := [(4, .int (f_Mo_less (g_registers (Int32.toNatClampNeg (f_Mo_a x_p0))) (g_registers (Int32.toNatClampNeg (f_Mo_b x_p0))) 0)), (3, .int (g_registers (Int32.toNatClampNeg (f_Mo_b x_p0)))), (2, .int (g_registers (Int32.toNatClampNeg (f_Mo_a x_p0)))), (0, .ref h0), (1, .int x_p0)]) hx hb d_Mo_holds_59 hl (by decide) rfl (fun ls hl => ?_)
      refine lv_iload_n hx hb d_Mo_holds_61 rfl (lv_at hl 4 rfl) ?_
      have hPc := hP.sub (ws' := []) [] rfl
      refine W.callR ((W.runS (As := [.int x_p0]) (rest := []) ⟨hx, hb, hml, hown, hts⟩ (ct_Mo_f l dC dI cI x_p0) (va_cwS 1 hts (gS wm_1080 wm_1081 wm_42 wm_1082) rfl rfl rfl (by decide +kernel) ⟨Nat.le_of_ble_eq_true rfl, Nat.le_of_ble_eq_true rfl⟩) ⟨pcR_blind, pcR_pre hPc hK⟩ rfl rfl hl.1 rfl (lv_room (Nat.le_of_ble_eq_true rfl)) d_Mo_holds_62 ⟨Nat.le_of_ble_eq_true rfl, Nat.le_of_ble_eq_true rfl⟩)) ?_
      refine W.eq (g2 := F0 m 65 ls [.int (f_Mo_f x_p0)]) rfl ?_
      refine lv_iconst (v := 2) hx hb d_Mo_holds_65 (by decide) ?_
      refine lv_irem hx hb d_Mo_holds_66 (by decide) ?_
      refine lv_if_ne (tgt := 75) hx hb d_Mo_holds_67 (by decide) (fun c_3 => ?_) (fun c_3 => ?_)
      · refine lv_iload hx hb d_Mo_holds_75 (lv_at hl 0 rfl) ?_
        refine lv_if_ne (tgt := 84) hx hb d_Mo_holds_77 (by decide) (fun c_4 => ?_) (fun c_4 => ?_)
        · refine lv_iconst (v := 0) hx hb d_Mo_holds_84 (by decide) ?_
          have ef : (f_Mo_holds g_registers x_p0) = (0 : Int32) := (if_pos c_1).trans ((if_pos c_2).trans ((if_neg c_3).trans ((if_neg c_4).trans rfl)))
          exact W.zret (v := 0) hx hb hr rfl (fun t ht hW => ⟨by rw [ef], ht⟩) (fun _ h => by cases h) d_Mo_holds_85
        · refine lv_iconst (v := 1) hx hb d_Mo_holds_80 (by decide) ?_
          refine lv_goto (tgt := 85) hx hb d_Mo_holds_81 (by decide) ?_
          have ef : (f_Mo_holds g_registers x_p0) = (1 : Int32) := (if_pos c_1).trans ((if_pos c_2).trans ((if_neg c_3).trans ((if_pos c_4).trans rfl)))
          exact W.zret (v := 1) hx hb hr rfl (fun t ht hW => ⟨by rw [ef], ht⟩) (fun _ h => by cases h) d_Mo_holds_85
      · refine lv_iload hx hb d_Mo_holds_70 (lv_at hl 0 rfl) ?_
        refine lv_goto (tgt := 85) hx hb d_Mo_holds_72 (by decide) ?_
        have ef : (f_Mo_holds g_registers x_p0) = ((f_Mo_less (g_registers (Int32.toNatClampNeg (f_Mo_a x_p0))) (g_registers (Int32.toNatClampNeg (f_Mo_b x_p0))) 0) : Int32) := (if_pos c_1).trans ((if_pos c_2).trans ((if_pos c_3).trans rfl))
        exact W.zret (v := (f_Mo_less (g_registers (Int32.toNatClampNeg (f_Mo_a x_p0))) (g_registers (Int32.toNatClampNeg (f_Mo_b x_p0))) 0)) hx hb hr (nb_f_Mo_less ..) (fun t ht hW => ⟨by rw [ef], ht⟩) (fun _ h => by cases h) d_Mo_holds_85
    · refine lv_iconst (v := 1) hx hb d_Mo_holds_51 (by decide) ?_
      refine lv_goto (tgt := 56) hx hb d_Mo_holds_52 (by decide) ?_
      have hPc := hP.sub (ws' := []) [] rfl
      refine W.callR ((W.runS (As := [.int (g_registers (Int32.toNatClampNeg (f_Mo_a x_p0))), .int (g_registers (Int32.toNatClampNeg (f_Mo_b x_p0))), .int 1]) (rest := []) ⟨hx, hb, hml, hown, hts⟩ (ct_Mo_less l dC dI cI (g_registers (Int32.toNatClampNeg (f_Mo_a x_p0))) (g_registers (Int32.toNatClampNeg (f_Mo_b x_p0))) 1) (va_cwS 3 hts (gS wm_1137 wm_1138 wm_42 wm_1139) rfl rfl rfl (by decide +kernel) ⟨Nat.le_of_ble_eq_true rfl, Nat.le_of_ble_eq_true rfl⟩) ⟨pcR_blind, pcR_pre hPc hK⟩ rfl rfl hl.1 rfl (lv_room (Nat.le_of_ble_eq_true rfl)) d_Mo_holds_56 ⟨Nat.le_of_ble_eq_true rfl, Nat.le_of_ble_eq_true rfl⟩)) ?_
      refine W.eq (g2 := F0 m 59 ls [.int (f_Mo_less (g_registers (Int32.toNatClampNeg (f_Mo_a x_p0))) (g_registers (Int32.toNatClampNeg (f_Mo_b x_p0))) 1)]) rfl ?_
      refine lv_istore (lv' := [(4, .int (f_Mo_less (g_registers (Int32.toNatClampNeg (f_Mo_a x_p0))) (g_registers (Int32.toNatClampNeg (f_Mo_b x_p0))) 1)), (3, .int (g_registers (Int32.toNatClampNeg (f_Mo_b x_p0)))), (2, .int (g_registers (Int32.toNatClampNeg (f_Mo_a x_p0)))), (0, .ref h0), (1, .int x_p0)]) hx hb d_Mo_holds_59 hl (by decide) rfl (fun ls hl => ?_)
      refine lv_iload_n hx hb d_Mo_holds_61 rfl (lv_at hl 4 rfl) ?_
      have hPc := hP.sub (ws' := []) [] rfl
      refine W.callR ((W.runS (As := [.int x_p0]) (rest := []) ⟨hx, hb, hml, hown, hts⟩ (ct_Mo_f l dC dI cI x_p0) (va_cwS 1 hts (gS wm_1080 wm_1081 wm_42 wm_1082) rfl rfl rfl (by decide +kernel) ⟨Nat.le_of_ble_eq_true rfl, Nat.le_of_ble_eq_true rfl⟩) ⟨pcR_blind, pcR_pre hPc hK⟩ rfl rfl hl.1 rfl (lv_room (Nat.le_of_ble_eq_true rfl)) d_Mo_holds_62 ⟨Nat.le_of_ble_eq_true rfl, Nat.le_of_ble_eq_true rfl⟩)) ?_
      refine W.eq (g2 := F0 m 65 ls [.int (f_Mo_f x_p0)]) rfl ?_
      refine lv_iconst (v := 2) hx hb d_Mo_holds_65 (by decide) ?_
      refine lv_irem hx hb d_Mo_holds_66 (by decide) ?_
      refine lv_if_ne (tgt := 75) hx hb d_Mo_holds_67 (by decide) (fun c_5 => ?_) (fun c_5 => ?_)
      · refine lv_iload hx hb d_Mo_holds_75 (lv_at hl 0 rfl) ?_
        refine lv_if_ne (tgt := 84) hx hb d_Mo_holds_77 (by decide) (fun c_6 => ?_) (fun c_6 => ?_)
        · refine lv_iconst (v := 0) hx hb d_Mo_holds_84 (by decide) ?_
          have ef : (f_Mo_holds g_registers x_p0) = (0 : Int32) := (if_pos c_1).trans ((if_neg c_2).trans ((if_neg c_5).trans ((if_neg c_6).trans rfl)))
          exact W.zret (v := 0) hx hb hr rfl (fun t ht hW => ⟨by rw [ef], ht⟩) (fun _ h => by cases h) d_Mo_holds_85
        · refine lv_iconst (v := 1) hx hb d_Mo_holds_80 (by decide) ?_
          refine lv_goto (tgt := 85) hx hb d_Mo_holds_81 (by decide) ?_
          have ef : (f_Mo_holds g_registers x_p0) = (1 : Int32) := (if_pos c_1).trans ((if_neg c_2).trans ((if_neg c_5).trans ((if_pos c_6).trans rfl)))
          exact W.zret (v := 1) hx hb hr rfl (fun t ht hW => ⟨by rw [ef], ht⟩) (fun _ h => by cases h) d_Mo_holds_85
      · refine lv_iload hx hb d_Mo_holds_70 (lv_at hl 0 rfl) ?_
        refine lv_goto (tgt := 85) hx hb d_Mo_holds_72 (by decide) ?_
        have ef : (f_Mo_holds g_registers x_p0) = ((f_Mo_less (g_registers (Int32.toNatClampNeg (f_Mo_a x_p0))) (g_registers (Int32.toNatClampNeg (f_Mo_b x_p0))) 1) : Int32) := (if_pos c_1).trans ((if_neg c_2).trans ((if_pos c_5).trans rfl))
        exact W.zret (v := (f_Mo_less (g_registers (Int32.toNatClampNeg (f_Mo_a x_p0))) (g_registers (Int32.toNatClampNeg (f_Mo_b x_p0))) 1)) hx hb hr (nb_f_Mo_less ..) (fun t ht hW => ⟨by rw [ef], ht⟩) (fun _ h => by cases h) d_Mo_holds_85
  · refine lv_iload_n hx hb d_Mo_holds_28 rfl (lv_at hl 1 rfl) ?_
    refine lv_iload_n hx hb d_Mo_holds_29 rfl (lv_at hl 0 rfl) ?_
    refine lv_icmp_ne (tgt := 37) hx hb d_Mo_holds_30 (by decide) (fun c_7 => ?_) (fun c_7 => ?_)
    · refine lv_iconst (v := 0) hx hb d_Mo_holds_37 (by decide) ?_
      refine lv_goto (tgt := 59) hx hb d_Mo_holds_38 (by decide) ?_
      refine lv_istore (lv' := [(4, .int 0), (3, .int (g_registers (Int32.toNatClampNeg (f_Mo_b x_p0)))), (2, .int (g_registers (Int32.toNatClampNeg (f_Mo_a x_p0)))), (0, .ref h0), (1, .int x_p0)]) hx hb d_Mo_holds_59 hl (by decide) rfl (fun ls hl => ?_)
      refine lv_iload_n hx hb d_Mo_holds_61 rfl (lv_at hl 4 rfl) ?_
      have hPc := hP.sub (ws' := []) [] rfl
      refine W.callR ((W.runS (As := [.int x_p0]) (rest := []) ⟨hx, hb, hml, hown, hts⟩ (ct_Mo_f l dC dI cI x_p0) (va_cwS 1 hts (gS wm_1080 wm_1081 wm_42 wm_1082) rfl rfl rfl (by decide +kernel) ⟨Nat.le_of_ble_eq_true rfl, Nat.le_of_ble_eq_true rfl⟩) ⟨pcR_blind, pcR_pre hPc hK⟩ rfl rfl hl.1 rfl (lv_room (Nat.le_of_ble_eq_true rfl)) d_Mo_holds_62 ⟨Nat.le_of_ble_eq_true rfl, Nat.le_of_ble_eq_true rfl⟩)) ?_
      refine W.eq (g2 := F0 m 65 ls [.int (f_Mo_f x_p0)]) rfl ?_
      refine lv_iconst (v := 2) hx hb d_Mo_holds_65 (by decide) ?_
      refine lv_irem hx hb d_Mo_holds_66 (by decide) ?_
      refine lv_if_ne (tgt := 75) hx hb d_Mo_holds_67 (by decide) (fun c_8 => ?_) (fun c_8 => ?_)
      · refine lv_iload hx hb d_Mo_holds_75 (lv_at hl 0 rfl) ?_
        refine lv_if_ne (tgt := 84) hx hb d_Mo_holds_77 (by decide) (fun c_9 => absurd (by decide) c_9) (fun c_9 => ?_)
        refine lv_iconst (v := 1) hx hb d_Mo_holds_80 (by decide) ?_
        refine lv_goto (tgt := 85) hx hb d_Mo_holds_81 (by decide) ?_
        have ef : (f_Mo_holds g_registers x_p0) = (1 : Int32) := (if_neg c_1).trans ((if_neg c_7).trans ((if_neg c_8).trans rfl))
        exact W.zret (v := 1) hx hb hr rfl (fun t ht hW => ⟨by rw [ef], ht⟩) (fun _ h => by cases h) d_Mo_holds_85
      · refine lv_iload hx hb d_Mo_holds_70 (lv_at hl 0 rfl) ?_
        refine lv_goto (tgt := 85) hx hb d_Mo_holds_72 (by decide) ?_
        have ef : (f_Mo_holds g_registers x_p0) = (0 : Int32) := (if_neg c_1).trans ((if_neg c_7).trans ((if_pos c_8).trans rfl))
        exact W.zret (v := 0) hx hb hr rfl (fun t ht hW => ⟨by rw [ef], ht⟩) (fun _ h => by cases h) d_Mo_holds_85
    · refine lv_iconst (v := 1) hx hb d_Mo_holds_33 (by decide) ?_
      refine lv_goto (tgt := 59) hx hb d_Mo_holds_34 (by decide) ?_
      refine lv_istore (lv' := [(4, .int 1), (3, .int (g_registers (Int32.toNatClampNeg (f_Mo_b x_p0)))), (2, .int (g_registers (Int32.toNatClampNeg (f_Mo_a x_p0)))), (0, .ref h0), (1, .int x_p0)]) hx hb d_Mo_holds_59 hl (by decide) rfl (fun ls hl => ?_)
      refine lv_iload_n hx hb d_Mo_holds_61 rfl (lv_at hl 4 rfl) ?_
      have hPc := hP.sub (ws' := []) [] rfl
      refine W.callR ((W.runS (As := [.int x_p0]) (rest := []) ⟨hx, hb, hml, hown, hts⟩ (ct_Mo_f l dC dI cI x_p0) (va_cwS 1 hts (gS wm_1080 wm_1081 wm_42 wm_1082) rfl rfl rfl (by decide +kernel) ⟨Nat.le_of_ble_eq_true rfl, Nat.le_of_ble_eq_true rfl⟩) ⟨pcR_blind, pcR_pre hPc hK⟩ rfl rfl hl.1 rfl (lv_room (Nat.le_of_ble_eq_true rfl)) d_Mo_holds_62 ⟨Nat.le_of_ble_eq_true rfl, Nat.le_of_ble_eq_true rfl⟩)) ?_
      refine W.eq (g2 := F0 m 65 ls [.int (f_Mo_f x_p0)]) rfl ?_
      refine lv_iconst (v := 2) hx hb d_Mo_holds_65 (by decide) ?_
      refine lv_irem hx hb d_Mo_holds_66 (by decide) ?_
      refine lv_if_ne (tgt := 75) hx hb d_Mo_holds_67 (by decide) (fun c_10 => ?_) (fun c_10 => ?_)
      · refine lv_iload hx hb d_Mo_holds_75 (lv_at hl 0 rfl) ?_
        refine lv_if_ne (tgt := 84) hx hb d_Mo_holds_77 (by decide) (fun c_11 => ?_) (fun c_11 => absurd c_11 (by decide))
        refine lv_iconst (v := 0) hx hb d_Mo_holds_84 (by decide) ?_
        have ef : (f_Mo_holds g_registers x_p0) = (0 : Int32) := (if_neg c_1).trans ((if_pos c_7).trans ((if_neg c_10).trans rfl))
        exact W.zret (v := 0) hx hb hr rfl (fun t ht hW => ⟨by rw [ef], ht⟩) (fun _ h => by cases h) d_Mo_holds_85
      · refine lv_iload hx hb d_Mo_holds_70 (lv_at hl 0 rfl) ?_
        refine lv_goto (tgt := 85) hx hb d_Mo_holds_72 (by decide) ?_
        have ef : (f_Mo_holds g_registers x_p0) = (1 : Int32) := (if_neg c_1).trans ((if_pos c_7).trans ((if_pos c_10).trans rfl))
        exact W.zret (v := 1) hx hb hr rfl (fun t ht hW => ⟨by rw [ef], ht⟩) (fun _ h => by cases h) d_Mo_holds_85
def f_Mo_join (g_labels : Nat → Int32) (x_p0 : Int32) : Int32 :=
  if ((x_p0 >>> (0 &&& 31)) &&& 1) = 1 then
    if ((x_p0 >>> (1 &&& 31)) &&& 1) = 1 then
      if ((x_p0 >>> (2 &&& 31)) &&& 1) = 1 then
        if ((x_p0 >>> (3 &&& 31)) &&& 1) = 1 then
          ((((0 ||| (g_labels (Int32.toNatClampNeg 0))) ||| (g_labels (Int32.toNatClampNeg 1))) ||| (g_labels (Int32.toNatClampNeg 2))) ||| (g_labels (Int32.toNatClampNeg 3)))
        else
          (((0 ||| (g_labels (Int32.toNatClampNeg 0))) ||| (g_labels (Int32.toNatClampNeg 1))) ||| (g_labels (Int32.toNatClampNeg 2)))
      else
        if ((x_p0 >>> (3 &&& 31)) &&& 1) = 1 then
          (((0 ||| (g_labels (Int32.toNatClampNeg 0))) ||| (g_labels (Int32.toNatClampNeg 1))) ||| (g_labels (Int32.toNatClampNeg 3)))
        else
          ((0 ||| (g_labels (Int32.toNatClampNeg 0))) ||| (g_labels (Int32.toNatClampNeg 1)))
    else
      if ((x_p0 >>> (2 &&& 31)) &&& 1) = 1 then
        if ((x_p0 >>> (3 &&& 31)) &&& 1) = 1 then
          (((0 ||| (g_labels (Int32.toNatClampNeg 0))) ||| (g_labels (Int32.toNatClampNeg 2))) ||| (g_labels (Int32.toNatClampNeg 3)))
        else
          ((0 ||| (g_labels (Int32.toNatClampNeg 0))) ||| (g_labels (Int32.toNatClampNeg 2)))
      else
        if ((x_p0 >>> (3 &&& 31)) &&& 1) = 1 then
          ((0 ||| (g_labels (Int32.toNatClampNeg 0))) ||| (g_labels (Int32.toNatClampNeg 3)))
        else
          (0 ||| (g_labels (Int32.toNatClampNeg 0)))
  else
    if ((x_p0 >>> (1 &&& 31)) &&& 1) = 1 then
      if ((x_p0 >>> (2 &&& 31)) &&& 1) = 1 then
        if ((x_p0 >>> (3 &&& 31)) &&& 1) = 1 then
          (((0 ||| (g_labels (Int32.toNatClampNeg 1))) ||| (g_labels (Int32.toNatClampNeg 2))) ||| (g_labels (Int32.toNatClampNeg 3)))
        else
          ((0 ||| (g_labels (Int32.toNatClampNeg 1))) ||| (g_labels (Int32.toNatClampNeg 2)))
      else
        if ((x_p0 >>> (3 &&& 31)) &&& 1) = 1 then
          ((0 ||| (g_labels (Int32.toNatClampNeg 1))) ||| (g_labels (Int32.toNatClampNeg 3)))
        else
          (0 ||| (g_labels (Int32.toNatClampNeg 1)))
    else
      if ((x_p0 >>> (2 &&& 31)) &&& 1) = 1 then
        if ((x_p0 >>> (3 &&& 31)) &&& 1) = 1 then
          ((0 ||| (g_labels (Int32.toNatClampNeg 2))) ||| (g_labels (Int32.toNatClampNeg 3)))
        else
          (0 ||| (g_labels (Int32.toNatClampNeg 2)))
      else
        if ((x_p0 >>> (3 &&& 31)) &&& 1) = 1 then
          (0 ||| (g_labels (Int32.toNatClampNeg 3)))
        else
          0
set_option maxHeartbeats 4000000 in
set_option maxRecDepth 100000 in
theorem ct_Mo_join (l : Launch) (dC : Nat → ClassId) (dI : Nat → Nat → Nat) (cI : ClassId) (h0 a_words a_rules a_registers a_registerLabels a_memory a_memoryLabels a_waiting a_waitingLabels a_out a_outLabels a_keys a_labels : Nat) (v_thrown : Int32) (v_size : Int32) (v_entries : Int32) (v_outcome : Int32) (v_pc : Int32) (v_pcLabel : Int32) (v_wait : Int32) (v_went : Int32) (v_done : Int32) (v_misses : Int32) (v_known : Int32) (v_group : Int32) (g_labels : Nat → Int32) (x_p0 : Int32) : Met l y_Mo_join w_Mo_join ({ frames := 0, cells := 0, slots := 0, locals := 0 }) (pcR dC dI cI [(h0, .inr (6, [.int v_thrown, .ref a_words, .int v_size, .ref a_rules, .int v_entries, .int v_outcome, .int v_pc, .int v_pcLabel, .ref a_registers, .ref a_registerLabels, .ref a_memory, .ref a_memoryLabels, .ref a_waiting, .ref a_waitingLabels, .int v_wait, .ref a_out, .ref a_outLabels, .int v_went, .int v_done, .int v_misses, .ref a_keys, .int v_known, .int v_group, .ref a_labels])), (a_labels, .inl (cI, 4, .inl g_labels))] [.ref h0, .int x_p0]) (QcRead (f_Mo_join g_labels x_p0)) 0 0 (fun _ => False) := by
  refine Met.ofW (cc := c_Mo_join) (maxL := 4) (ret := (some .int)) (by decide) rfl ?_
  intro p e s m args below meth c s₁ B hml hv
  obtain ⟨rfl, hP, hK⟩ := hv
  have hx := B.exec
  have hb := B.bytes
  have hr := B.returns
  have hts : ∀ w ∈ wG, w.before _ s = true := fun w h => atoms_spec (ws := w_Mo_join) B.pre w (List.mem_cons_of_mem _ h)
  have hown : s.vm.findClass "LabelledCoreModel" = some m.cls := findClass_of_methodNamed B.named
  have hlocks := B.notSynchronized
  have hl := lv_entry ([.ref h0, .int x_p0]) (n := 4) (Nat.le_of_ble_eq_true rfl)
  rw [lg_entry_eq]
  generalize (lg_sl ([.ref h0, .int x_p0]) ++ List.replicate (4 - (lg_sl ([.ref h0, .int x_p0])).length) Slot.unset).toArray = ls at hl ⊢
  have hl : lv_has ls 4 [(0, .ref h0), (1, .int x_p0)] := hl
  refine lv_iconst (v := 0) hx hb d_Mo_join_0 (by decide) ?_
  refine lv_istore_n (lv' := [(2, .int 0), (0, .ref h0), (1, .int x_p0)]) hx hb d_Mo_join_1 rfl hl (by decide) rfl (fun ls hl => ?_)
  refine lv_iconst (v := 0) hx hb d_Mo_join_2 (by decide) ?_
  refine lv_istore_n (lv' := [(3, .int 0), (2, .int 0), (0, .ref h0), (1, .int x_p0)]) hx hb d_Mo_join_3 rfl hl (by decide) rfl (fun ls hl => ?_)
  refine lv_iload_n hx hb d_Mo_join_4 rfl (lv_at hl 0 rfl) ?_
  refine lv_iconst (v := 4) hx hb d_Mo_join_5 (by decide) ?_
  refine lv_icmp_ge (tgt := 37) hx hb d_Mo_join_6 (by decide) (fun c_1 => absurd c_1 (by decide)) (fun c_1 => ?_)
  refine lv_iload_n hx hb d_Mo_join_9 rfl (lv_at hl 3 rfl) ?_
  refine lv_iload_n hx hb d_Mo_join_10 rfl (lv_at hl 0 rfl) ?_
  refine lv_ishr hx hb d_Mo_join_11 ?_
  refine lv_iconst (v := 1) hx hb d_Mo_join_12 (by decide) ?_
  refine lv_iand hx hb d_Mo_join_13 ?_
  refine lv_iconst (v := 1) hx hb d_Mo_join_14 (by decide) ?_
  refine lv_icmp_ne (tgt := 29) hx hb d_Mo_join_15 (by decide) (fun c_2 => ?_) (fun c_2 => ?_)
  · refine lv_iload_n hx hb d_Mo_join_29 rfl (lv_at hl 1 rfl) ?_
    refine lv_istore_n (lv' := [(2, .int 0), (3, .int 0), (0, .ref h0), (1, .int x_p0)]) hx hb d_Mo_join_30 rfl hl (by decide) rfl (fun ls hl => ?_)
    refine lv_iinc (v := 1) (lv' := [(3, .int 1), (2, .int 0), (0, .ref h0), (1, .int x_p0)]) hx hb d_Mo_join_31 hl (k := 1) rfl (by decide) (by decide) rfl (fun ls hl => ?_)
    refine lv_goto (tgt := 4) hx hb d_Mo_join_34 (by decide) ?_
    refine lv_iload_n hx hb d_Mo_join_4 rfl (lv_at hl 0 rfl) ?_
    refine lv_iconst (v := 4) hx hb d_Mo_join_5 (by decide) ?_
    refine lv_icmp_ge (tgt := 37) hx hb d_Mo_join_6 (by decide) (fun c_3 => absurd c_3 (by decide)) (fun c_3 => ?_)
    refine lv_iload_n hx hb d_Mo_join_9 rfl (lv_at hl 3 rfl) ?_
    refine lv_iload_n hx hb d_Mo_join_10 rfl (lv_at hl 0 rfl) ?_
    refine lv_ishr hx hb d_Mo_join_11 ?_
    refine lv_iconst (v := 1) hx hb d_Mo_join_12 (by decide) ?_
    refine lv_iand hx hb d_Mo_join_13 ?_
    refine lv_iconst (v := 1) hx hb d_Mo_join_14 (by decide) ?_
    refine lv_icmp_ne (tgt := 29) hx hb d_Mo_join_15 (by decide) (fun c_4 => ?_) (fun c_4 => ?_)
    · refine lv_iload_n hx hb d_Mo_join_29 rfl (lv_at hl 1 rfl) ?_
      refine lv_istore_n (lv' := [(2, .int 0), (3, .int 1), (0, .ref h0), (1, .int x_p0)]) hx hb d_Mo_join_30 rfl hl (by decide) rfl (fun ls hl => ?_)
      refine lv_iinc (v := 2) (lv' := [(3, .int 2), (2, .int 0), (0, .ref h0), (1, .int x_p0)]) hx hb d_Mo_join_31 hl (k := 1) rfl (by decide) (by decide) rfl (fun ls hl => ?_)
      refine lv_goto (tgt := 4) hx hb d_Mo_join_34 (by decide) ?_
      refine lv_iload_n hx hb d_Mo_join_4 rfl (lv_at hl 0 rfl) ?_
      refine lv_iconst (v := 4) hx hb d_Mo_join_5 (by decide) ?_
      refine lv_icmp_ge (tgt := 37) hx hb d_Mo_join_6 (by decide) (fun c_5 => absurd c_5 (by decide)) (fun c_5 => ?_)
      refine lv_iload_n hx hb d_Mo_join_9 rfl (lv_at hl 3 rfl) ?_
      refine lv_iload_n hx hb d_Mo_join_10 rfl (lv_at hl 0 rfl) ?_
      refine lv_ishr hx hb d_Mo_join_11 ?_
      refine lv_iconst (v := 1) hx hb d_Mo_join_12 (by decide) ?_
      refine lv_iand hx hb d_Mo_join_13 ?_
      refine lv_iconst (v := 1) hx hb d_Mo_join_14 (by decide) ?_
      refine lv_icmp_ne (tgt := 29) hx hb d_Mo_join_15 (by decide) (fun c_6 => ?_) (fun c_6 => ?_)
      · refine lv_iload_n hx hb d_Mo_join_29 rfl (lv_at hl 1 rfl) ?_
        refine lv_istore_n (lv' := [(2, .int 0), (3, .int 2), (0, .ref h0), (1, .int x_p0)]) hx hb d_Mo_join_30 rfl hl (by decide) rfl (fun ls hl => ?_)
        refine lv_iinc (v := 3) (lv' := [(3, .int 3), (2, .int 0), (0, .ref h0), (1, .int x_p0)]) hx hb d_Mo_join_31 hl (k := 1) rfl (by decide) (by decide) rfl (fun ls hl => ?_)
        refine lv_goto (tgt := 4) hx hb d_Mo_join_34 (by decide) ?_
        refine lv_iload_n hx hb d_Mo_join_4 rfl (lv_at hl 0 rfl) ?_
        refine lv_iconst (v := 4) hx hb d_Mo_join_5 (by decide) ?_
        refine lv_icmp_ge (tgt := 37) hx hb d_Mo_join_6 (by decide) (fun c_7 => absurd c_7 (by decide)) (fun c_7 => ?_)
        refine lv_iload_n hx hb d_Mo_join_9 rfl (lv_at hl 3 rfl) ?_
        refine lv_iload_n hx hb d_Mo_join_10 rfl (lv_at hl 0 rfl) ?_
        refine lv_ishr hx hb d_Mo_join_11 ?_
        refine lv_iconst (v := 1) hx hb d_Mo_join_12 (by decide) ?_
        refine lv_iand hx hb d_Mo_join_13 ?_
        refine lv_iconst (v := 1) hx hb d_Mo_join_14 (by decide) ?_
        refine lv_icmp_ne (tgt := 29) hx hb d_Mo_join_15 (by decide) (fun c_8 => ?_) (fun c_8 => ?_)
        · refine lv_iload_n hx hb d_Mo_join_29 rfl (lv_at hl 1 rfl) ?_
          refine lv_istore_n (lv' := [(2, .int 0), (3, .int 3), (0, .ref h0), (1, .int x_p0)]) hx hb d_Mo_join_30 rfl hl (by decide) rfl (fun ls hl => ?_)
          refine lv_iinc (v := 4) (lv' := [(3, .int 4), (2, .int 0), (0, .ref h0), (1, .int x_p0)]) hx hb d_Mo_join_31 hl (k := 1) rfl (by decide) (by decide) rfl (fun ls hl => ?_)
          refine lv_goto (tgt := 4) hx hb d_Mo_join_34 (by decide) ?_
          refine lv_iload_n hx hb d_Mo_join_4 rfl (lv_at hl 0 rfl) ?_
          refine lv_iconst (v := 4) hx hb d_Mo_join_5 (by decide) ?_
          refine lv_icmp_ge (tgt := 37) hx hb d_Mo_join_6 (by decide) (fun c_9 => ?_) (fun c_9 => absurd (by decide) c_9)
          refine lv_iload_n hx hb d_Mo_join_37 rfl (lv_at hl 1 rfl) ?_
          have ef : (f_Mo_join g_labels x_p0) = (0 : Int32) := (if_neg c_2).trans ((if_neg c_4).trans ((if_neg c_6).trans ((if_neg c_8).trans rfl)))
          exact W.iret (v := 0) hx hb hr (fun t ht hW => ⟨by rw [ef], ht⟩) (fun _ h => by cases h) d_Mo_join_38
        · refine lv_iload_n hx hb d_Mo_join_18 rfl (lv_at hl 1 rfl) ?_
          refine lv_aload_n hx hb d_Mo_join_19 rfl (lv_at hl 2 rfl) ?_
          refine va_get (D := (dC, dI)) (ci := 6) (v := .ref a_labels) (C := "LabelledCoreModel") (T := T_Mo) (N := 24) hx hb hts in_Mo hown hK hP 0 rfl rfl 23 (by decide) (hts _ wm_979) (fun _ h9 => h9) rfl d_Mo_join_20 ?_
          refine lv_iload_n hx hb d_Mo_join_23 rfl (lv_at hl 0 rfl) ?_
          refine va_iald hx hb hK hP 1 0 rfl rfl (by unfold vp_in; decide) d_Mo_join_24 ?_
          refine lv_ior hx hb d_Mo_join_25 ?_
          refine lv_goto (tgt := 30) hx hb d_Mo_join_26 (by decide) ?_
          refine lv_istore_n (lv' := [(2, .int (0 ||| (g_labels (Int32.toNatClampNeg 3)))), (3, .int 3), (0, .ref h0), (1, .int x_p0)]) hx hb d_Mo_join_30 rfl hl (by decide) rfl (fun ls hl => ?_)
          refine lv_iinc (v := 4) (lv' := [(3, .int 4), (2, .int (0 ||| (g_labels (Int32.toNatClampNeg 3)))), (0, .ref h0), (1, .int x_p0)]) hx hb d_Mo_join_31 hl (k := 1) rfl (by decide) (by decide) rfl (fun ls hl => ?_)
          refine lv_goto (tgt := 4) hx hb d_Mo_join_34 (by decide) ?_
          refine lv_iload_n hx hb d_Mo_join_4 rfl (lv_at hl 0 rfl) ?_
          refine lv_iconst (v := 4) hx hb d_Mo_join_5 (by decide) ?_
          refine lv_icmp_ge (tgt := 37) hx hb d_Mo_join_6 (by decide) (fun c_10 => ?_) (fun c_10 => absurd (by decide) c_10)
          refine lv_iload_n hx hb d_Mo_join_37 rfl (lv_at hl 1 rfl) ?_
          have ef : (f_Mo_join g_labels x_p0) = ((0 ||| (g_labels (Int32.toNatClampNeg 3))) : Int32) := (if_neg c_2).trans ((if_neg c_4).trans ((if_neg c_6).trans ((if_pos c_8).trans rfl)))
          exact W.iret (v := (0 ||| (g_labels (Int32.toNatClampNeg 3)))) hx hb hr (fun t ht hW => ⟨by rw [ef], ht⟩) (fun _ h => by cases h) d_Mo_join_38
      · refine lv_iload_n hx hb d_Mo_join_18 rfl (lv_at hl 1 rfl) ?_
        refine lv_aload_n hx hb d_Mo_join_19 rfl (lv_at hl 2 rfl) ?_
        refine va_get (D := (dC, dI)) (ci := 6) (v := .ref a_labels) (C := "LabelledCoreModel") (T := T_Mo) (N := 24) hx hb hts in_Mo hown hK hP 0 rfl rfl 23 (by decide) (hts _ wm_979) (fun _ h9 => h9) rfl d_Mo_join_20 ?_
        refine lv_iload_n hx hb d_Mo_join_23 rfl (lv_at hl 0 rfl) ?_
        refine va_iald hx hb hK hP 1 0 rfl rfl (by unfold vp_in; decide) d_Mo_join_24 ?_
        refine lv_ior hx hb d_Mo_join_25 ?_
        refine lv_goto (tgt := 30) hx hb d_Mo_join_26 (by decide) ?_
        refine lv_istore_n (lv' := [(2, .int (0 ||| (g_labels (Int32.toNatClampNeg 2)))), (3, .int 2), (0, .ref h0), (1, .int x_p0)]) hx hb d_Mo_join_30 rfl hl (by decide) rfl (fun ls hl => ?_)
        refine lv_iinc (v := 3) (lv' := [(3, .int 3), (2, .int (0 ||| (g_labels (Int32.toNatClampNeg 2)))), (0, .ref h0), (1, .int x_p0)]) hx hb d_Mo_join_31 hl (k := 1) rfl (by decide) (by decide) rfl (fun ls hl => ?_)
        refine lv_goto (tgt := 4) hx hb d_Mo_join_34 (by decide) ?_
        refine lv_iload_n hx hb d_Mo_join_4 rfl (lv_at hl 0 rfl) ?_
        refine lv_iconst (v := 4) hx hb d_Mo_join_5 (by decide) ?_
        refine lv_icmp_ge (tgt := 37) hx hb d_Mo_join_6 (by decide) (fun c_11 => absurd c_11 (by decide)) (fun c_11 => ?_)
        refine lv_iload_n hx hb d_Mo_join_9 rfl (lv_at hl 3 rfl) ?_
        refine lv_iload_n hx hb d_Mo_join_10 rfl (lv_at hl 0 rfl) ?_
        refine lv_ishr hx hb d_Mo_join_11 ?_
        refine lv_iconst (v := 1) hx hb d_Mo_join_12 (by decide) ?_
        refine lv_iand hx hb d_Mo_join_13 ?_
        refine lv_iconst (v := 1) hx hb d_Mo_join_14 (by decide) ?_
        refine lv_icmp_ne (tgt := 29) hx hb d_Mo_join_15 (by decide) (fun c_12 => ?_) (fun c_12 => ?_)
        · refine lv_iload_n hx hb d_Mo_join_29 rfl (lv_at hl 1 rfl) ?_
          refine lv_istore_n (lv' := [(2, .int (0 ||| (g_labels (Int32.toNatClampNeg 2)))), (3, .int 3), (0, .ref h0), (1, .int x_p0)]) hx hb d_Mo_join_30 rfl hl (by decide) rfl (fun ls hl => ?_)
          refine lv_iinc (v := 4) (lv' := [(3, .int 4), (2, .int (0 ||| (g_labels (Int32.toNatClampNeg 2)))), (0, .ref h0), (1, .int x_p0)]) hx hb d_Mo_join_31 hl (k := 1) rfl (by decide) (by decide) rfl (fun ls hl => ?_)
          refine lv_goto (tgt := 4) hx hb d_Mo_join_34 (by decide) ?_
          refine lv_iload_n hx hb d_Mo_join_4 rfl (lv_at hl 0 rfl) ?_
          refine lv_iconst (v := 4) hx hb d_Mo_join_5 (by decide) ?_
          refine lv_icmp_ge (tgt := 37) hx hb d_Mo_join_6 (by decide) (fun c_13 => ?_) (fun c_13 => absurd (by decide) c_13)
          refine lv_iload_n hx hb d_Mo_join_37 rfl (lv_at hl 1 rfl) ?_
          have ef : (f_Mo_join g_labels x_p0) = ((0 ||| (g_labels (Int32.toNatClampNeg 2))) : Int32) := (if_neg c_2).trans ((if_neg c_4).trans ((if_pos c_6).trans ((if_neg c_12).trans rfl)))
          exact W.iret (v := (0 ||| (g_labels (Int32.toNatClampNeg 2)))) hx hb hr (fun t ht hW => ⟨by rw [ef], ht⟩) (fun _ h => by cases h) d_Mo_join_38
        · refine lv_iload_n hx hb d_Mo_join_18 rfl (lv_at hl 1 rfl) ?_
          refine lv_aload_n hx hb d_Mo_join_19 rfl (lv_at hl 2 rfl) ?_
          refine va_get (D := (dC, dI)) (ci := 6) (v := .ref a_labels) (C := "LabelledCoreModel") (T := T_Mo) (N := 24) hx hb hts in_Mo hown hK hP 0 rfl rfl 23 (by decide) (hts _ wm_979) (fun _ h9 => h9) rfl d_Mo_join_20 ?_
          refine lv_iload_n hx hb d_Mo_join_23 rfl (lv_at hl 0 rfl) ?_
          refine va_iald hx hb hK hP 1 0 rfl rfl (by unfold vp_in; decide) d_Mo_join_24 ?_
          refine lv_ior hx hb d_Mo_join_25 ?_
          refine lv_goto (tgt := 30) hx hb d_Mo_join_26 (by decide) ?_
          refine lv_istore_n (lv' := [(2, .int ((0 ||| (g_labels (Int32.toNatClampNeg 2))) ||| (g_labels (Int32.toNatClampNeg 3)))), (3, .int 3), (0, .ref h0), (1, .int x_p0)]) hx hb d_Mo_join_30 rfl hl (by decide) rfl (fun ls hl => ?_)
          refine lv_iinc (v := 4) (lv' := [(3, .int 4), (2, .int ((0 ||| (g_labels (Int32.toNatClampNeg 2))) ||| (g_labels (Int32.toNatClampNeg 3)))), (0, .ref h0), (1, .int x_p0)]) hx hb d_Mo_join_31 hl (k := 1) rfl (by decide) (by decide) rfl (fun ls hl => ?_)
          refine lv_goto (tgt := 4) hx hb d_Mo_join_34 (by decide) ?_
          refine lv_iload_n hx hb d_Mo_join_4 rfl (lv_at hl 0 rfl) ?_
          refine lv_iconst (v := 4) hx hb d_Mo_join_5 (by decide) ?_
          refine lv_icmp_ge (tgt := 37) hx hb d_Mo_join_6 (by decide) (fun c_14 => ?_) (fun c_14 => absurd (by decide) c_14)
          refine lv_iload_n hx hb d_Mo_join_37 rfl (lv_at hl 1 rfl) ?_
          have ef : (f_Mo_join g_labels x_p0) = (((0 ||| (g_labels (Int32.toNatClampNeg 2))) ||| (g_labels (Int32.toNatClampNeg 3))) : Int32) := (if_neg c_2).trans ((if_neg c_4).trans ((if_pos c_6).trans ((if_pos c_12).trans rfl)))
          exact W.iret (v := ((0 ||| (g_labels (Int32.toNatClampNeg 2))) ||| (g_labels (Int32.toNatClampNeg 3)))) hx hb hr (fun t ht hW => ⟨by rw [ef], ht⟩) (fun _ h => by cases h) d_Mo_join_38
    · refine lv_iload_n hx hb d_Mo_join_18 rfl (lv_at hl 1 rfl) ?_
      refine lv_aload_n hx hb d_Mo_join_19 rfl (lv_at hl 2 rfl) ?_
      refine va_get (D := (dC, dI)) (ci := 6) (v := .ref a_labels) (C := "LabelledCoreModel") (T := T_Mo) (N := 24) hx hb hts in_Mo hown hK hP 0 rfl rfl 23 (by decide) (hts _ wm_979) (fun _ h9 => h9) rfl d_Mo_join_20 ?_
      refine lv_iload_n hx hb d_Mo_join_23 rfl (lv_at hl 0 rfl) ?_
      refine va_iald hx hb hK hP 1 0 rfl rfl (by unfold vp_in; decide) d_Mo_join_24 ?_
      refine lv_ior hx hb d_Mo_join_25 ?_
      refine lv_goto (tgt := 30) hx hb d_Mo_join_26 (by decide) ?_
      refine lv_istore_n (lv' := [(2, .int (0 ||| (g_labels (Int32.toNatClampNeg 1)))), (3, .int 1), (0, .ref h0), (1, .int x_p0)]) hx hb d_Mo_join_30 rfl hl (by decide) rfl (fun ls hl => ?_)
      refine lv_iinc (v := 2) (lv' := [(3, .int 2), (2, .int (0 ||| (g_labels (Int32.toNatClampNeg 1)))), (0, .ref h0), (1, .int x_p0)]) hx hb d_Mo_join_31 hl (k := 1) rfl (by decide) (by decide) rfl (fun ls hl => ?_)
      refine lv_goto (tgt := 4) hx hb d_Mo_join_34 (by decide) ?_
      refine lv_iload_n hx hb d_Mo_join_4 rfl (lv_at hl 0 rfl) ?_
      refine lv_iconst (v := 4) hx hb d_Mo_join_5 (by decide) ?_
      refine lv_icmp_ge (tgt := 37) hx hb d_Mo_join_6 (by decide) (fun c_15 => absurd c_15 (by decide)) (fun c_15 => ?_)
      refine lv_iload_n hx hb d_Mo_join_9 rfl (lv_at hl 3 rfl) ?_
      refine lv_iload_n hx hb d_Mo_join_10 rfl (lv_at hl 0 rfl) ?_
      refine lv_ishr hx hb d_Mo_join_11 ?_
      refine lv_iconst (v := 1) hx hb d_Mo_join_12 (by decide) ?_
      refine lv_iand hx hb d_Mo_join_13 ?_
      refine lv_iconst (v := 1) hx hb d_Mo_join_14 (by decide) ?_
      refine lv_icmp_ne (tgt := 29) hx hb d_Mo_join_15 (by decide) (fun c_16 => ?_) (fun c_16 => ?_)
      · refine lv_iload_n hx hb d_Mo_join_29 rfl (lv_at hl 1 rfl) ?_
        refine lv_istore_n (lv' := [(2, .int (0 ||| (g_labels (Int32.toNatClampNeg 1)))), (3, .int 2), (0, .ref h0), (1, .int x_p0)]) hx hb d_Mo_join_30 rfl hl (by decide) rfl (fun ls hl => ?_)
        refine lv_iinc (v := 3) (lv' := [(3, .int 3), (2, .int (0 ||| (g_labels (Int32.toNatClampNeg 1)))), (0, .ref h0), (1, .int x_p0)]) hx hb d_Mo_join_31 hl (k := 1) rfl (by decide) (by decide) rfl (fun ls hl => ?_)
        refine lv_goto (tgt := 4) hx hb d_Mo_join_34 (by decide) ?_
        refine lv_iload_n hx hb d_Mo_join_4 rfl (lv_at hl 0 rfl) ?_
        refine lv_iconst (v := 4) hx hb d_Mo_join_5 (by decide) ?_
        refine lv_icmp_ge (tgt := 37) hx hb d_Mo_join_6 (by decide) (fun c_17 => absurd c_17 (by decide)) (fun c_17 => ?_)
        refine lv_iload_n hx hb d_Mo_join_9 rfl (lv_at hl 3 rfl) ?_
        refine lv_iload_n hx hb d_Mo_join_10 rfl (lv_at hl 0 rfl) ?_
        refine lv_ishr hx hb d_Mo_join_11 ?_
        refine lv_iconst (v := 1) hx hb d_Mo_join_12 (by decide) ?_
        refine lv_iand hx hb d_Mo_join_13 ?_
        refine lv_iconst (v := 1) hx hb d_Mo_join_14 (by decide) ?_
        refine lv_icmp_ne (tgt := 29) hx hb d_Mo_join_15 (by decide) (fun c_18 => ?_) (fun c_18 => ?_)
        · refine lv_iload_n hx hb d_Mo_join_29 rfl (lv_at hl 1 rfl) ?_
          refine lv_istore_n (lv' := [(2, .int (0 ||| (g_labels (Int32.toNatClampNeg 1)))), (3, .int 3), (0, .ref h0), (1, .int x_p0)]) hx hb d_Mo_join_30 rfl hl (by decide) rfl (fun ls hl => ?_)
          refine lv_iinc (v := 4) (lv' := [(3, .int 4), (2, .int (0 ||| (g_labels (Int32.toNatClampNeg 1)))), (0, .ref h0), (1, .int x_p0)]) hx hb d_Mo_join_31 hl (k := 1) rfl (by decide) (by decide) rfl (fun ls hl => ?_)
          refine lv_goto (tgt := 4) hx hb d_Mo_join_34 (by decide) ?_
          refine lv_iload_n hx hb d_Mo_join_4 rfl (lv_at hl 0 rfl) ?_
          refine lv_iconst (v := 4) hx hb d_Mo_join_5 (by decide) ?_
          refine lv_icmp_ge (tgt := 37) hx hb d_Mo_join_6 (by decide) (fun c_19 => ?_) (fun c_19 => absurd (by decide) c_19)
          refine lv_iload_n hx hb d_Mo_join_37 rfl (lv_at hl 1 rfl) ?_
          have ef : (f_Mo_join g_labels x_p0) = ((0 ||| (g_labels (Int32.toNatClampNeg 1))) : Int32) := (if_neg c_2).trans ((if_pos c_4).trans ((if_neg c_16).trans ((if_neg c_18).trans rfl)))
          exact W.iret (v := (0 ||| (g_labels (Int32.toNatClampNeg 1)))) hx hb hr (fun t ht hW => ⟨by rw [ef], ht⟩) (fun _ h => by cases h) d_Mo_join_38
        · refine lv_iload_n hx hb d_Mo_join_18 rfl (lv_at hl 1 rfl) ?_
          refine lv_aload_n hx hb d_Mo_join_19 rfl (lv_at hl 2 rfl) ?_
          refine va_get (D := (dC, dI)) (ci := 6) (v := .ref a_labels) (C := "LabelledCoreModel") (T := T_Mo) (N := 24) hx hb hts in_Mo hown hK hP 0 rfl rfl 23 (by decide) (hts _ wm_979) (fun _ h9 => h9) rfl d_Mo_join_20 ?_
          refine lv_iload_n hx hb d_Mo_join_23 rfl (lv_at hl 0 rfl) ?_
          refine va_iald hx hb hK hP 1 0 rfl rfl (by unfold vp_in; decide) d_Mo_join_24 ?_
          refine lv_ior hx hb d_Mo_join_25 ?_
          refine lv_goto (tgt := 30) hx hb d_Mo_join_26 (by decide) ?_
          refine lv_istore_n (lv' := [(2, .int ((0 ||| (g_labels (Int32.toNatClampNeg 1))) ||| (g_labels (Int32.toNatClampNeg 3)))), (3, .int 3), (0, .ref h0), (1, .int x_p0)]) hx hb d_Mo_join_30 rfl hl (by decide) rfl (fun ls hl => ?_)
          refine lv_iinc (v := 4) (lv' := [(3, .int 4), (2, .int ((0 ||| (g_labels (Int32.toNatClampNeg 1))) ||| (g_labels (Int32.toNatClampNeg 3)))), (0, .ref h0), (1, .int x_p0)]) hx hb d_Mo_join_31 hl (k := 1) rfl (by decide) (by decide) rfl (fun ls hl => ?_)
          refine lv_goto (tgt := 4) hx hb d_Mo_join_34 (by decide) ?_
          refine lv_iload_n hx hb d_Mo_join_4 rfl (lv_at hl 0 rfl) ?_
          refine lv_iconst (v := 4) hx hb d_Mo_join_5 (by decide) ?_
          refine lv_icmp_ge (tgt := 37) hx hb d_Mo_join_6 (by decide) (fun c_20 => ?_) (fun c_20 => absurd (by decide) c_20)
          refine lv_iload_n hx hb d_Mo_join_37 rfl (lv_at hl 1 rfl) ?_
          have ef : (f_Mo_join g_labels x_p0) = (((0 ||| (g_labels (Int32.toNatClampNeg 1))) ||| (g_labels (Int32.toNatClampNeg 3))) : Int32) := (if_neg c_2).trans ((if_pos c_4).trans ((if_neg c_16).trans ((if_pos c_18).trans rfl)))
          exact W.iret (v := ((0 ||| (g_labels (Int32.toNatClampNeg 1))) ||| (g_labels (Int32.toNatClampNeg 3)))) hx hb hr (fun t ht hW => ⟨by rw [ef], ht⟩) (fun _ h => by cases h) d_Mo_join_38
      · refine lv_iload_n hx hb d_Mo_join_18 rfl (lv_at hl 1 rfl) ?_
        refine lv_aload_n hx hb d_Mo_join_19 rfl (lv_at hl 2 rfl) ?_
        refine va_get (D := (dC, dI)) (ci := 6) (v := .ref a_labels) (C := "LabelledCoreModel") (T := T_Mo) (N := 24) hx hb hts in_Mo hown hK hP 0 rfl rfl 23 (by decide) (hts _ wm_979) (fun _ h9 => h9) rfl d_Mo_join_20 ?_
        refine lv_iload_n hx hb d_Mo_join_23 rfl (lv_at hl 0 rfl) ?_
        refine va_iald hx hb hK hP 1 0 rfl rfl (by unfold vp_in; decide) d_Mo_join_24 ?_
        refine lv_ior hx hb d_Mo_join_25 ?_
        refine lv_goto (tgt := 30) hx hb d_Mo_join_26 (by decide) ?_
        refine lv_istore_n (lv' := [(2, .int ((0 ||| (g_labels (Int32.toNatClampNeg 1))) ||| (g_labels (Int32.toNatClampNeg 2)))), (3, .int 2), (0, .ref h0), (1, .int x_p0)]) hx hb d_Mo_join_30 rfl hl (by decide) rfl (fun ls hl => ?_)
        refine lv_iinc (v := 3) (lv' := [(3, .int 3), (2, .int ((0 ||| (g_labels (Int32.toNatClampNeg 1))) ||| (g_labels (Int32.toNatClampNeg 2)))), (0, .ref h0), (1, .int x_p0)]) hx hb d_Mo_join_31 hl (k := 1) rfl (by decide) (by decide) rfl (fun ls hl => ?_)
        refine lv_goto (tgt := 4) hx hb d_Mo_join_34 (by decide) ?_
        refine lv_iload_n hx hb d_Mo_join_4 rfl (lv_at hl 0 rfl) ?_
        refine lv_iconst (v := 4) hx hb d_Mo_join_5 (by decide) ?_
        refine lv_icmp_ge (tgt := 37) hx hb d_Mo_join_6 (by decide) (fun c_21 => absurd c_21 (by decide)) (fun c_21 => ?_)
        refine lv_iload_n hx hb d_Mo_join_9 rfl (lv_at hl 3 rfl) ?_
        refine lv_iload_n hx hb d_Mo_join_10 rfl (lv_at hl 0 rfl) ?_
        refine lv_ishr hx hb d_Mo_join_11 ?_
        refine lv_iconst (v := 1) hx hb d_Mo_join_12 (by decide) ?_
        refine lv_iand hx hb d_Mo_join_13 ?_
        refine lv_iconst (v := 1) hx hb d_Mo_join_14 (by decide) ?_
        refine lv_icmp_ne (tgt := 29) hx hb d_Mo_join_15 (by decide) (fun c_22 => ?_) (fun c_22 => ?_)
        · refine lv_iload_n hx hb d_Mo_join_29 rfl (lv_at hl 1 rfl) ?_
          refine lv_istore_n (lv' := [(2, .int ((0 ||| (g_labels (Int32.toNatClampNeg 1))) ||| (g_labels (Int32.toNatClampNeg 2)))), (3, .int 3), (0, .ref h0), (1, .int x_p0)]) hx hb d_Mo_join_30 rfl hl (by decide) rfl (fun ls hl => ?_)
          refine lv_iinc (v := 4) (lv' := [(3, .int 4), (2, .int ((0 ||| (g_labels (Int32.toNatClampNeg 1))) ||| (g_labels (Int32.toNatClampNeg 2)))), (0, .ref h0), (1, .int x_p0)]) hx hb d_Mo_join_31 hl (k := 1) rfl (by decide) (by decide) rfl (fun ls hl => ?_)
          refine lv_goto (tgt := 4) hx hb d_Mo_join_34 (by decide) ?_
          refine lv_iload_n hx hb d_Mo_join_4 rfl (lv_at hl 0 rfl) ?_
          refine lv_iconst (v := 4) hx hb d_Mo_join_5 (by decide) ?_
          refine lv_icmp_ge (tgt := 37) hx hb d_Mo_join_6 (by decide) (fun c_23 => ?_) (fun c_23 => absurd (by decide) c_23)
          refine lv_iload_n hx hb d_Mo_join_37 rfl (lv_at hl 1 rfl) ?_
          have ef : (f_Mo_join g_labels x_p0) = (((0 ||| (g_labels (Int32.toNatClampNeg 1))) ||| (g_labels (Int32.toNatClampNeg 2))) : Int32) := (if_neg c_2).trans ((if_pos c_4).trans ((if_pos c_16).trans ((if_neg c_22).trans rfl)))
          exact W.iret (v := ((0 ||| (g_labels (Int32.toNatClampNeg 1))) ||| (g_labels (Int32.toNatClampNeg 2)))) hx hb hr (fun t ht hW => ⟨by rw [ef], ht⟩) (fun _ h => by cases h) d_Mo_join_38
        · refine lv_iload_n hx hb d_Mo_join_18 rfl (lv_at hl 1 rfl) ?_
          refine lv_aload_n hx hb d_Mo_join_19 rfl (lv_at hl 2 rfl) ?_
          refine va_get (D := (dC, dI)) (ci := 6) (v := .ref a_labels) (C := "LabelledCoreModel") (T := T_Mo) (N := 24) hx hb hts in_Mo hown hK hP 0 rfl rfl 23 (by decide) (hts _ wm_979) (fun _ h9 => h9) rfl d_Mo_join_20 ?_
          refine lv_iload_n hx hb d_Mo_join_23 rfl (lv_at hl 0 rfl) ?_
          refine va_iald hx hb hK hP 1 0 rfl rfl (by unfold vp_in; decide) d_Mo_join_24 ?_
          refine lv_ior hx hb d_Mo_join_25 ?_
          refine lv_goto (tgt := 30) hx hb d_Mo_join_26 (by decide) ?_
          refine lv_istore_n (lv' := [(2, .int (((0 ||| (g_labels (Int32.toNatClampNeg 1))) ||| (g_labels (Int32.toNatClampNeg 2))) ||| (g_labels (Int32.toNatClampNeg 3)))), (3, .int 3), (0, .ref h0), (1, .int x_p0)]) hx hb d_Mo_join_30 rfl hl (by decide) rfl (fun ls hl => ?_)
          refine lv_iinc (v := 4) (lv' := [(3, .int 4), (2, .int (((0 ||| (g_labels (Int32.toNatClampNeg 1))) ||| (g_labels (Int32.toNatClampNeg 2))) ||| (g_labels (Int32.toNatClampNeg 3)))), (0, .ref h0), (1, .int x_p0)]) hx hb d_Mo_join_31 hl (k := 1) rfl (by decide) (by decide) rfl (fun ls hl => ?_)
          refine lv_goto (tgt := 4) hx hb d_Mo_join_34 (by decide) ?_
          refine lv_iload_n hx hb d_Mo_join_4 rfl (lv_at hl 0 rfl) ?_
          refine lv_iconst (v := 4) hx hb d_Mo_join_5 (by decide) ?_
          refine lv_icmp_ge (tgt := 37) hx hb d_Mo_join_6 (by decide) (fun c_24 => ?_) (fun c_24 => absurd (by decide) c_24)
          refine lv_iload_n hx hb d_Mo_join_37 rfl (lv_at hl 1 rfl) ?_
          have ef : (f_Mo_join g_labels x_p0) = ((((0 ||| (g_labels (Int32.toNatClampNeg 1))) ||| (g_labels (Int32.toNatClampNeg 2))) ||| (g_labels (Int32.toNatClampNeg 3))) : Int32) := (if_neg c_2).trans ((if_pos c_4).trans ((if_pos c_16).trans ((if_pos c_22).trans rfl)))
          exact W.iret (v := (((0 ||| (g_labels (Int32.toNatClampNeg 1))) ||| (g_labels (Int32.toNatClampNeg 2))) ||| (g_labels (Int32.toNatClampNeg 3)))) hx hb hr (fun t ht hW => ⟨by rw [ef], ht⟩) (fun _ h => by cases h) d_Mo_join_38
  · refine lv_iload_n hx hb d_Mo_join_18 rfl (lv_at hl 1 rfl) ?_
    refine lv_aload_n hx hb d_Mo_join_19 rfl (lv_at hl 2 rfl) ?_
    refine va_get (D := (dC, dI)) (ci := 6) (v := .ref a_labels) (C := "LabelledCoreModel") (T := T_Mo) (N := 24) hx hb hts in_Mo hown hK hP 0 rfl rfl 23 (by decide) (hts _ wm_979) (fun _ h9 => h9) rfl d_Mo_join_20 ?_
    refine lv_iload_n hx hb d_Mo_join_23 rfl (lv_at hl 0 rfl) ?_
    refine va_iald hx hb hK hP 1 0 rfl rfl (by unfold vp_in; decide) d_Mo_join_24 ?_
    refine lv_ior hx hb d_Mo_join_25 ?_
    refine lv_goto (tgt := 30) hx hb d_Mo_join_26 (by decide) ?_
    refine lv_istore_n (lv' := [(2, .int (0 ||| (g_labels (Int32.toNatClampNeg 0)))), (3, .int 0), (0, .ref h0), (1, .int x_p0)]) hx hb d_Mo_join_30 rfl hl (by decide) rfl (fun ls hl => ?_)
    refine lv_iinc (v := 1) (lv' := [(3, .int 1), (2, .int (0 ||| (g_labels (Int32.toNatClampNeg 0)))), (0, .ref h0), (1, .int x_p0)]) hx hb d_Mo_join_31 hl (k := 1) rfl (by decide) (by decide) rfl (fun ls hl => ?_)
    refine lv_goto (tgt := 4) hx hb d_Mo_join_34 (by decide) ?_
    refine lv_iload_n hx hb d_Mo_join_4 rfl (lv_at hl 0 rfl) ?_
    refine lv_iconst (v := 4) hx hb d_Mo_join_5 (by decide) ?_
    refine lv_icmp_ge (tgt := 37) hx hb d_Mo_join_6 (by decide) (fun c_25 => absurd c_25 (by decide)) (fun c_25 => ?_)
    refine lv_iload_n hx hb d_Mo_join_9 rfl (lv_at hl 3 rfl) ?_
    refine lv_iload_n hx hb d_Mo_join_10 rfl (lv_at hl 0 rfl) ?_
    refine lv_ishr hx hb d_Mo_join_11 ?_
    refine lv_iconst (v := 1) hx hb d_Mo_join_12 (by decide) ?_
    refine lv_iand hx hb d_Mo_join_13 ?_
    refine lv_iconst (v := 1) hx hb d_Mo_join_14 (by decide) ?_
    refine lv_icmp_ne (tgt := 29) hx hb d_Mo_join_15 (by decide) (fun c_26 => ?_) (fun c_26 => ?_)
    · refine lv_iload_n hx hb d_Mo_join_29 rfl (lv_at hl 1 rfl) ?_
      refine lv_istore_n (lv' := [(2, .int (0 ||| (g_labels (Int32.toNatClampNeg 0)))), (3, .int 1), (0, .ref h0), (1, .int x_p0)]) hx hb d_Mo_join_30 rfl hl (by decide) rfl (fun ls hl => ?_)
      refine lv_iinc (v := 2) (lv' := [(3, .int 2), (2, .int (0 ||| (g_labels (Int32.toNatClampNeg 0)))), (0, .ref h0), (1, .int x_p0)]) hx hb d_Mo_join_31 hl (k := 1) rfl (by decide) (by decide) rfl (fun ls hl => ?_)
      refine lv_goto (tgt := 4) hx hb d_Mo_join_34 (by decide) ?_
      refine lv_iload_n hx hb d_Mo_join_4 rfl (lv_at hl 0 rfl) ?_
      refine lv_iconst (v := 4) hx hb d_Mo_join_5 (by decide) ?_
      refine lv_icmp_ge (tgt := 37) hx hb d_Mo_join_6 (by decide) (fun c_27 => absurd c_27 (by decide)) (fun c_27 => ?_)
      refine lv_iload_n hx hb d_Mo_join_9 rfl (lv_at hl 3 rfl) ?_
      refine lv_iload_n hx hb d_Mo_join_10 rfl (lv_at hl 0 rfl) ?_
      refine lv_ishr hx hb d_Mo_join_11 ?_
      refine lv_iconst (v := 1) hx hb d_Mo_join_12 (by decide) ?_
      refine lv_iand hx hb d_Mo_join_13 ?_
      refine lv_iconst (v := 1) hx hb d_Mo_join_14 (by decide) ?_
      refine lv_icmp_ne (tgt := 29) hx hb d_Mo_join_15 (by decide) (fun c_28 => ?_) (fun c_28 => ?_)
      · refine lv_iload_n hx hb d_Mo_join_29 rfl (lv_at hl 1 rfl) ?_
        refine lv_istore_n (lv' := [(2, .int (0 ||| (g_labels (Int32.toNatClampNeg 0)))), (3, .int 2), (0, .ref h0), (1, .int x_p0)]) hx hb d_Mo_join_30 rfl hl (by decide) rfl (fun ls hl => ?_)
        refine lv_iinc (v := 3) (lv' := [(3, .int 3), (2, .int (0 ||| (g_labels (Int32.toNatClampNeg 0)))), (0, .ref h0), (1, .int x_p0)]) hx hb d_Mo_join_31 hl (k := 1) rfl (by decide) (by decide) rfl (fun ls hl => ?_)
        refine lv_goto (tgt := 4) hx hb d_Mo_join_34 (by decide) ?_
        refine lv_iload_n hx hb d_Mo_join_4 rfl (lv_at hl 0 rfl) ?_
        refine lv_iconst (v := 4) hx hb d_Mo_join_5 (by decide) ?_
        refine lv_icmp_ge (tgt := 37) hx hb d_Mo_join_6 (by decide) (fun c_29 => absurd c_29 (by decide)) (fun c_29 => ?_)
        refine lv_iload_n hx hb d_Mo_join_9 rfl (lv_at hl 3 rfl) ?_
        refine lv_iload_n hx hb d_Mo_join_10 rfl (lv_at hl 0 rfl) ?_
        refine lv_ishr hx hb d_Mo_join_11 ?_
        refine lv_iconst (v := 1) hx hb d_Mo_join_12 (by decide) ?_
        refine lv_iand hx hb d_Mo_join_13 ?_
        refine lv_iconst (v := 1) hx hb d_Mo_join_14 (by decide) ?_
        refine lv_icmp_ne (tgt := 29) hx hb d_Mo_join_15 (by decide) (fun c_30 => ?_) (fun c_30 => ?_)
        · refine lv_iload_n hx hb d_Mo_join_29 rfl (lv_at hl 1 rfl) ?_
          refine lv_istore_n (lv' := [(2, .int (0 ||| (g_labels (Int32.toNatClampNeg 0)))), (3, .int 3), (0, .ref h0), (1, .int x_p0)]) hx hb d_Mo_join_30 rfl hl (by decide) rfl (fun ls hl => ?_)
          refine lv_iinc (v := 4) (lv' := [(3, .int 4), (2, .int (0 ||| (g_labels (Int32.toNatClampNeg 0)))), (0, .ref h0), (1, .int x_p0)]) hx hb d_Mo_join_31 hl (k := 1) rfl (by decide) (by decide) rfl (fun ls hl => ?_)
          refine lv_goto (tgt := 4) hx hb d_Mo_join_34 (by decide) ?_
          refine lv_iload_n hx hb d_Mo_join_4 rfl (lv_at hl 0 rfl) ?_
          refine lv_iconst (v := 4) hx hb d_Mo_join_5 (by decide) ?_
          refine lv_icmp_ge (tgt := 37) hx hb d_Mo_join_6 (by decide) (fun c_31 => ?_) (fun c_31 => absurd (by decide) c_31)
          refine lv_iload_n hx hb d_Mo_join_37 rfl (lv_at hl 1 rfl) ?_
          have ef : (f_Mo_join g_labels x_p0) = ((0 ||| (g_labels (Int32.toNatClampNeg 0))) : Int32) := (if_pos c_2).trans ((if_neg c_26).trans ((if_neg c_28).trans ((if_neg c_30).trans rfl)))
          exact W.iret (v := (0 ||| (g_labels (Int32.toNatClampNeg 0)))) hx hb hr (fun t ht hW => ⟨by rw [ef], ht⟩) (fun _ h => by cases h) d_Mo_join_38
        · refine lv_iload_n hx hb d_Mo_join_18 rfl (lv_at hl 1 rfl) ?_
          refine lv_aload_n hx hb d_Mo_join_19 rfl (lv_at hl 2 rfl) ?_
          refine va_get (D := (dC, dI)) (ci := 6) (v := .ref a_labels) (C := "LabelledCoreModel") (T := T_Mo) (N := 24) hx hb hts in_Mo hown hK hP 0 rfl rfl 23 (by decide) (hts _ wm_979) (fun _ h9 => h9) rfl d_Mo_join_20 ?_
          refine lv_iload_n hx hb d_Mo_join_23 rfl (lv_at hl 0 rfl) ?_
          refine va_iald hx hb hK hP 1 0 rfl rfl (by unfold vp_in; decide) d_Mo_join_24 ?_
          refine lv_ior hx hb d_Mo_join_25 ?_
          refine lv_goto (tgt := 30) hx hb d_Mo_join_26 (by decide) ?_
          refine lv_istore_n (lv' := [(2, .int ((0 ||| (g_labels (Int32.toNatClampNeg 0))) ||| (g_labels (Int32.toNatClampNeg 3)))), (3, .int 3), (0, .ref h0), (1, .int x_p0)]) hx hb d_Mo_join_30 rfl hl (by decide) rfl (fun ls hl => ?_)
          refine lv_iinc (v := 4) (lv' := [(3, .int 4), (2, .int ((0 ||| (g_labels (Int32.toNatClampNeg 0))) ||| (g_labels (Int32.toNatClampNeg 3)))), (0, .ref h0), (1, .int x_p0)]) hx hb d_Mo_join_31 hl (k := 1) rfl (by decide) (by decide) rfl (fun ls hl => ?_)
          refine lv_goto (tgt := 4) hx hb d_Mo_join_34 (by decide) ?_
          refine lv_iload_n hx hb d_Mo_join_4 rfl (lv_at hl 0 rfl) ?_
          refine lv_iconst (v := 4) hx hb d_Mo_join_5 (by decide) ?_
          refine lv_icmp_ge (tgt := 37) hx hb d_Mo_join_6 (by decide) (fun c_32 => ?_) (fun c_32 => absurd (by decide) c_32)
          refine lv_iload_n hx hb d_Mo_join_37 rfl (lv_at hl 1 rfl) ?_
          have ef : (f_Mo_join g_labels x_p0) = (((0 ||| (g_labels (Int32.toNatClampNeg 0))) ||| (g_labels (Int32.toNatClampNeg 3))) : Int32) := (if_pos c_2).trans ((if_neg c_26).trans ((if_neg c_28).trans ((if_pos c_30).trans rfl)))
          exact W.iret (v := ((0 ||| (g_labels (Int32.toNatClampNeg 0))) ||| (g_labels (Int32.toNatClampNeg 3)))) hx hb hr (fun t ht hW => ⟨by rw [ef], ht⟩) (fun _ h => by cases h) d_Mo_join_38
      · refine lv_iload_n hx hb d_Mo_join_18 rfl (lv_at hl 1 rfl) ?_
        refine lv_aload_n hx hb d_Mo_join_19 rfl (lv_at hl 2 rfl) ?_
        refine va_get (D := (dC, dI)) (ci := 6) (v := .ref a_labels) (C := "LabelledCoreModel") (T := T_Mo) (N := 24) hx hb hts in_Mo hown hK hP 0 rfl rfl 23 (by decide) (hts _ wm_979) (fun _ h9 => h9) rfl d_Mo_join_20 ?_
        refine lv_iload_n hx hb d_Mo_join_23 rfl (lv_at hl 0 rfl) ?_
        refine va_iald hx hb hK hP 1 0 rfl rfl (by unfold vp_in; decide) d_Mo_join_24 ?_
        refine lv_ior hx hb d_Mo_join_25 ?_
        refine lv_goto (tgt := 30) hx hb d_Mo_join_26 (by decide) ?_
        refine lv_istore_n (lv' := [(2, .int ((0 ||| (g_labels (Int32.toNatClampNeg 0))) ||| (g_labels (Int32.toNatClampNeg 2)))), (3, .int 2), (0, .ref h0), (1, .int x_p0)]) hx hb d_Mo_join_30 rfl hl (by decide) rfl (fun ls hl => ?_)
        refine lv_iinc (v := 3) (lv' := [(3, .int 3), (2, .int ((0 ||| (g_labels (Int32.toNatClampNeg 0))) ||| (g_labels (Int32.toNatClampNeg 2)))), (0, .ref h0), (1, .int x_p0)]) hx hb d_Mo_join_31 hl (k := 1) rfl (by decide) (by decide) rfl (fun ls hl => ?_)
        refine lv_goto (tgt := 4) hx hb d_Mo_join_34 (by decide) ?_
        refine lv_iload_n hx hb d_Mo_join_4 rfl (lv_at hl 0 rfl) ?_
        refine lv_iconst (v := 4) hx hb d_Mo_join_5 (by decide) ?_
        refine lv_icmp_ge (tgt := 37) hx hb d_Mo_join_6 (by decide) (fun c_33 => absurd c_33 (by decide)) (fun c_33 => ?_)
        refine lv_iload_n hx hb d_Mo_join_9 rfl (lv_at hl 3 rfl) ?_
        refine lv_iload_n hx hb d_Mo_join_10 rfl (lv_at hl 0 rfl) ?_
        refine lv_ishr hx hb d_Mo_join_11 ?_
        refine lv_iconst (v := 1) hx hb d_Mo_join_12 (by decide) ?_
        refine lv_iand hx hb d_Mo_join_13 ?_
        refine lv_iconst (v := 1) hx hb d_Mo_join_14 (by decide) ?_
        refine lv_icmp_ne (tgt := 29) hx hb d_Mo_join_15 (by decide) (fun c_34 => ?_) (fun c_34 => ?_)
        · refine lv_iload_n hx hb d_Mo_join_29 rfl (lv_at hl 1 rfl) ?_
          refine lv_istore_n (lv' := [(2, .int ((0 ||| (g_labels (Int32.toNatClampNeg 0))) ||| (g_labels (Int32.toNatClampNeg 2)))), (3, .int 3), (0, .ref h0), (1, .int x_p0)]) hx hb d_Mo_join_30 rfl hl (by decide) rfl (fun ls hl => ?_)
          refine lv_iinc (v := 4) (lv' := [(3, .int 4), (2, .int ((0 ||| (g_labels (Int32.toNatClampNeg 0))) ||| (g_labels (Int32.toNatClampNeg 2)))), (0, .ref h0), (1, .int x_p0)]) hx hb d_Mo_join_31 hl (k := 1) rfl (by decide) (by decide) rfl (fun ls hl => ?_)
          refine lv_goto (tgt := 4) hx hb d_Mo_join_34 (by decide) ?_
          refine lv_iload_n hx hb d_Mo_join_4 rfl (lv_at hl 0 rfl) ?_
          refine lv_iconst (v := 4) hx hb d_Mo_join_5 (by decide) ?_
          refine lv_icmp_ge (tgt := 37) hx hb d_Mo_join_6 (by decide) (fun c_35 => ?_) (fun c_35 => absurd (by decide) c_35)
          refine lv_iload_n hx hb d_Mo_join_37 rfl (lv_at hl 1 rfl) ?_
          have ef : (f_Mo_join g_labels x_p0) = (((0 ||| (g_labels (Int32.toNatClampNeg 0))) ||| (g_labels (Int32.toNatClampNeg 2))) : Int32) := (if_pos c_2).trans ((if_neg c_26).trans ((if_pos c_28).trans ((if_neg c_34).trans rfl)))
          exact W.iret (v := ((0 ||| (g_labels (Int32.toNatClampNeg 0))) ||| (g_labels (Int32.toNatClampNeg 2)))) hx hb hr (fun t ht hW => ⟨by rw [ef], ht⟩) (fun _ h => by cases h) d_Mo_join_38
        · refine lv_iload_n hx hb d_Mo_join_18 rfl (lv_at hl 1 rfl) ?_
          refine lv_aload_n hx hb d_Mo_join_19 rfl (lv_at hl 2 rfl) ?_
          refine va_get (D := (dC, dI)) (ci := 6) (v := .ref a_labels) (C := "LabelledCoreModel") (T := T_Mo) (N := 24) hx hb hts in_Mo hown hK hP 0 rfl rfl 23 (by decide) (hts _ wm_979) (fun _ h9 => h9) rfl d_Mo_join_20 ?_
          refine lv_iload_n hx hb d_Mo_join_23 rfl (lv_at hl 0 rfl) ?_
          refine va_iald hx hb hK hP 1 0 rfl rfl (by unfold vp_in; decide) d_Mo_join_24 ?_
          refine lv_ior hx hb d_Mo_join_25 ?_
          refine lv_goto (tgt := 30) hx hb d_Mo_join_26 (by decide) ?_
          refine lv_istore_n (lv' := [(2, .int (((0 ||| (g_labels (Int32.toNatClampNeg 0))) ||| (g_labels (Int32.toNatClampNeg 2))) ||| (g_labels (Int32.toNatClampNeg 3)))), (3, .int 3), (0, .ref h0), (1, .int x_p0)]) hx hb d_Mo_join_30 rfl hl (by decide) rfl (fun ls hl => ?_)
          refine lv_iinc (v := 4) (lv' := [(3, .int 4), (2, .int (((0 ||| (g_labels (Int32.toNatClampNeg 0))) ||| (g_labels (Int32.toNatClampNeg 2))) ||| (g_labels (Int32.toNatClampNeg 3)))), (0, .ref h0), (1, .int x_p0)]) hx hb d_Mo_join_31 hl (k := 1) rfl (by decide) (by decide) rfl (fun ls hl => ?_)
          refine lv_goto (tgt := 4) hx hb d_Mo_join_34 (by decide) ?_
          refine lv_iload_n hx hb d_Mo_join_4 rfl (lv_at hl 0 rfl) ?_
          refine lv_iconst (v := 4) hx hb d_Mo_join_5 (by decide) ?_
          refine lv_icmp_ge (tgt := 37) hx hb d_Mo_join_6 (by decide) (fun c_36 => ?_) (fun c_36 => absurd (by decide) c_36)
          refine lv_iload_n hx hb d_Mo_join_37 rfl (lv_at hl 1 rfl) ?_
          have ef : (f_Mo_join g_labels x_p0) = ((((0 ||| (g_labels (Int32.toNatClampNeg 0))) ||| (g_labels (Int32.toNatClampNeg 2))) ||| (g_labels (Int32.toNatClampNeg 3))) : Int32) := (if_pos c_2).trans ((if_neg c_26).trans ((if_pos c_28).trans ((if_pos c_34).trans rfl)))
          exact W.iret (v := (((0 ||| (g_labels (Int32.toNatClampNeg 0))) ||| (g_labels (Int32.toNatClampNeg 2))) ||| (g_labels (Int32.toNatClampNeg 3)))) hx hb hr (fun t ht hW => ⟨by rw [ef], ht⟩) (fun _ h => by cases h) d_Mo_join_38
    · refine lv_iload_n hx hb d_Mo_join_18 rfl (lv_at hl 1 rfl) ?_
      refine lv_aload_n hx hb d_Mo_join_19 rfl (lv_at hl 2 rfl) ?_
      refine va_get (D := (dC, dI)) (ci := 6) (v := .ref a_labels) (C := "LabelledCoreModel") (T := T_Mo) (N := 24) hx hb hts in_Mo hown hK hP 0 rfl rfl 23 (by decide) (hts _ wm_979) (fun _ h9 => h9) rfl d_Mo_join_20 ?_
      refine lv_iload_n hx hb d_Mo_join_23 rfl (lv_at hl 0 rfl) ?_
      refine va_iald hx hb hK hP 1 0 rfl rfl (by unfold vp_in; decide) d_Mo_join_24 ?_
      refine lv_ior hx hb d_Mo_join_25 ?_
      refine lv_goto (tgt := 30) hx hb d_Mo_join_26 (by decide) ?_
      refine lv_istore_n (lv' := [(2, .int ((0 ||| (g_labels (Int32.toNatClampNeg 0))) ||| (g_labels (Int32.toNatClampNeg 1)))), (3, .int 1), (0, .ref h0), (1, .int x_p0)]) hx hb d_Mo_join_30 rfl hl (by decide) rfl (fun ls hl => ?_)
      refine lv_iinc (v := 2) (lv' := [(3, .int 2), (2, .int ((0 ||| (g_labels (Int32.toNatClampNeg 0))) ||| (g_labels (Int32.toNatClampNeg 1)))), (0, .ref h0), (1, .int x_p0)]) hx hb d_Mo_join_31 hl (k := 1) rfl (by decide) (by decide) rfl (fun ls hl => ?_)
      refine lv_goto (tgt := 4) hx hb d_Mo_join_34 (by decide) ?_
      refine lv_iload_n hx hb d_Mo_join_4 rfl (lv_at hl 0 rfl) ?_
      refine lv_iconst (v := 4) hx hb d_Mo_join_5 (by decide) ?_
      refine lv_icmp_ge (tgt := 37) hx hb d_Mo_join_6 (by decide) (fun c_37 => absurd c_37 (by decide)) (fun c_37 => ?_)
      refine lv_iload_n hx hb d_Mo_join_9 rfl (lv_at hl 3 rfl) ?_
      refine lv_iload_n hx hb d_Mo_join_10 rfl (lv_at hl 0 rfl) ?_
      refine lv_ishr hx hb d_Mo_join_11 ?_
      refine lv_iconst (v := 1) hx hb d_Mo_join_12 (by decide) ?_
      refine lv_iand hx hb d_Mo_join_13 ?_
      refine lv_iconst (v := 1) hx hb d_Mo_join_14 (by decide) ?_
      refine lv_icmp_ne (tgt := 29) hx hb d_Mo_join_15 (by decide) (fun c_38 => ?_) (fun c_38 => ?_)
      · refine lv_iload_n hx hb d_Mo_join_29 rfl (lv_at hl 1 rfl) ?_
        refine lv_istore_n (lv' := [(2, .int ((0 ||| (g_labels (Int32.toNatClampNeg 0))) ||| (g_labels (Int32.toNatClampNeg 1)))), (3, .int 2), (0, .ref h0), (1, .int x_p0)]) hx hb d_Mo_join_30 rfl hl (by decide) rfl (fun ls hl => ?_)
        refine lv_iinc (v := 3) (lv' := [(3, .int 3), (2, .int ((0 ||| (g_labels (Int32.toNatClampNeg 0))) ||| (g_labels (Int32.toNatClampNeg 1)))), (0, .ref h0), (1, .int x_p0)]) hx hb d_Mo_join_31 hl (k := 1) rfl (by decide) (by decide) rfl (fun ls hl => ?_)
        refine lv_goto (tgt := 4) hx hb d_Mo_join_34 (by decide) ?_
        refine lv_iload_n hx hb d_Mo_join_4 rfl (lv_at hl 0 rfl) ?_
        refine lv_iconst (v := 4) hx hb d_Mo_join_5 (by decide) ?_
        refine lv_icmp_ge (tgt := 37) hx hb d_Mo_join_6 (by decide) (fun c_39 => absurd c_39 (by decide)) (fun c_39 => ?_)
        refine lv_iload_n hx hb d_Mo_join_9 rfl (lv_at hl 3 rfl) ?_
        refine lv_iload_n hx hb d_Mo_join_10 rfl (lv_at hl 0 rfl) ?_
        refine lv_ishr hx hb d_Mo_join_11 ?_
        refine lv_iconst (v := 1) hx hb d_Mo_join_12 (by decide) ?_
        refine lv_iand hx hb d_Mo_join_13 ?_
        refine lv_iconst (v := 1) hx hb d_Mo_join_14 (by decide) ?_
        refine lv_icmp_ne (tgt := 29) hx hb d_Mo_join_15 (by decide) (fun c_40 => ?_) (fun c_40 => ?_)
        · refine lv_iload_n hx hb d_Mo_join_29 rfl (lv_at hl 1 rfl) ?_
          refine lv_istore_n (lv' := [(2, .int ((0 ||| (g_labels (Int32.toNatClampNeg 0))) ||| (g_labels (Int32.toNatClampNeg 1)))), (3, .int 3), (0, .ref h0), (1, .int x_p0)]) hx hb d_Mo_join_30 rfl hl (by decide) rfl (fun ls hl => ?_)
          refine lv_iinc (v := 4) (lv' := [(3, .int 4), (2, .int ((0 ||| (g_labels (Int32.toNatClampNeg 0))) ||| (g_labels (Int32.toNatClampNeg 1)))), (0, .ref h0), (1, .int x_p0)]) hx hb d_Mo_join_31 hl (k := 1) rfl (by decide) (by decide) rfl (fun ls hl => ?_)
          refine lv_goto (tgt := 4) hx hb d_Mo_join_34 (by decide) ?_
          refine lv_iload_n hx hb d_Mo_join_4 rfl (lv_at hl 0 rfl) ?_
          refine lv_iconst (v := 4) hx hb d_Mo_join_5 (by decide) ?_
          refine lv_icmp_ge (tgt := 37) hx hb d_Mo_join_6 (by decide) (fun c_41 => ?_) (fun c_41 => absurd (by decide) c_41)
          refine lv_iload_n hx hb d_Mo_join_37 rfl (lv_at hl 1 rfl) ?_
          have ef : (f_Mo_join g_labels x_p0) = (((0 ||| (g_labels (Int32.toNatClampNeg 0))) ||| (g_labels (Int32.toNatClampNeg 1))) : Int32) := (if_pos c_2).trans ((if_pos c_26).trans ((if_neg c_38).trans ((if_neg c_40).trans rfl)))
          exact W.iret (v := ((0 ||| (g_labels (Int32.toNatClampNeg 0))) ||| (g_labels (Int32.toNatClampNeg 1)))) hx hb hr (fun t ht hW => ⟨by rw [ef], ht⟩) (fun _ h => by cases h) d_Mo_join_38
        · refine lv_iload_n hx hb d_Mo_join_18 rfl (lv_at hl 1 rfl) ?_
          refine lv_aload_n hx hb d_Mo_join_19 rfl (lv_at hl 2 rfl) ?_
          refine va_get (D := (dC, dI)) (ci := 6) (v := .ref a_labels) (C := "LabelledCoreModel") (T := T_Mo) (N := 24) hx hb hts in_Mo hown hK hP 0 rfl rfl 23 (by decide) (hts _ wm_979) (fun _ h9 => h9) rfl d_Mo_join_20 ?_
          refine lv_iload_n hx hb d_Mo_join_23 rfl (lv_at hl 0 rfl) ?_
          refine va_iald hx hb hK hP 1 0 rfl rfl (by unfold vp_in; decide) d_Mo_join_24 ?_
          refine lv_ior hx hb d_Mo_join_25 ?_
          refine lv_goto (tgt := 30) hx hb d_Mo_join_26 (by decide) ?_
          refine lv_istore_n (lv' := [(2, .int (((0 ||| (g_labels (Int32.toNatClampNeg 0))) ||| (g_labels (Int32.toNatClampNeg 1))) ||| (g_labels (Int32.toNatClampNeg 3)))), (3, .int 3), (0, .ref h0), (1, .int x_p0)]) hx hb d_Mo_join_30 rfl hl (by decide) rfl (fun ls hl => ?_)
          refine lv_iinc (v := 4) (lv' := [(3, .int 4), (2, .int (((0 ||| (g_labels (Int32.toNatClampNeg 0))) ||| (g_labels (Int32.toNatClampNeg 1))) ||| (g_labels (Int32.toNatClampNeg 3)))), (0, .ref h0), (1, .int x_p0)]) hx hb d_Mo_join_31 hl (k := 1) rfl (by decide) (by decide) rfl (fun ls hl => ?_)
          refine lv_goto (tgt := 4) hx hb d_Mo_join_34 (by decide) ?_
          refine lv_iload_n hx hb d_Mo_join_4 rfl (lv_at hl 0 rfl) ?_
          refine lv_iconst (v := 4) hx hb d_Mo_join_5 (by decide) ?_
          refine lv_icmp_ge (tgt := 37) hx hb d_Mo_join_6 (by decide) (fun c_42 => ?_) (fun c_42 => absurd (by decide) c_42)
          refine lv_iload_n hx hb d_Mo_join_37 rfl (lv_at hl 1 rfl) ?_
          have ef : (f_Mo_join g_labels x_p0) = ((((0 ||| (g_labels (Int32.toNatClampNeg 0))) ||| (g_labels (Int32.toNatClampNeg 1))) ||| (g_labels (Int32.toNatClampNeg 3))) : Int32) := (if_pos c_2).trans ((if_pos c_26).trans ((if_neg c_38).trans ((if_pos c_40).trans rfl)))
          exact W.iret (v := (((0 ||| (g_labels (Int32.toNatClampNeg 0))) ||| (g_labels (Int32.toNatClampNeg 1))) ||| (g_labels (Int32.toNatClampNeg 3)))) hx hb hr (fun t ht hW => ⟨by rw [ef], ht⟩) (fun _ h => by cases h) d_Mo_join_38
      · refine lv_iload_n hx hb d_Mo_join_18 rfl (lv_at hl 1 rfl) ?_
        refine lv_aload_n hx hb d_Mo_join_19 rfl (lv_at hl 2 rfl) ?_
        refine va_get (D := (dC, dI)) (ci := 6) (v := .ref a_labels) (C := "LabelledCoreModel") (T := T_Mo) (N := 24) hx hb hts in_Mo hown hK hP 0 rfl rfl 23 (by decide) (hts _ wm_979) (fun _ h9 => h9) rfl d_Mo_join_20 ?_
        refine lv_iload_n hx hb d_Mo_join_23 rfl (lv_at hl 0 rfl) ?_
        refine va_iald hx hb hK hP 1 0 rfl rfl (by unfold vp_in; decide) d_Mo_join_24 ?_
        refine lv_ior hx hb d_Mo_join_25 ?_
        refine lv_goto (tgt := 30) hx hb d_Mo_join_26 (by decide) ?_
        refine lv_istore_n (lv' := [(2, .int (((0 ||| (g_labels (Int32.toNatClampNeg 0))) ||| (g_labels (Int32.toNatClampNeg 1))) ||| (g_labels (Int32.toNatClampNeg 2)))), (3, .int 2), (0, .ref h0), (1, .int x_p0)]) hx hb d_Mo_join_30 rfl hl (by decide) rfl (fun ls hl => ?_)
        refine lv_iinc (v := 3) (lv' := [(3, .int 3), (2, .int (((0 ||| (g_labels (Int32.toNatClampNeg 0))) ||| (g_labels (Int32.toNatClampNeg 1))) ||| (g_labels (Int32.toNatClampNeg 2)))), (0, .ref h0), (1, .int x_p0)]) hx hb d_Mo_join_31 hl (k := 1) rfl (by decide) (by decide) rfl (fun ls hl => ?_)
        refine lv_goto (tgt := 4) hx hb d_Mo_join_34 (by decide) ?_
        refine lv_iload_n hx hb d_Mo_join_4 rfl (lv_at hl 0 rfl) ?_
        refine lv_iconst (v := 4) hx hb d_Mo_join_5 (by decide) ?_
        refine lv_icmp_ge (tgt := 37) hx hb d_Mo_join_6 (by decide) (fun c_43 => absurd c_43 (by decide)) (fun c_43 => ?_)
        refine lv_iload_n hx hb d_Mo_join_9 rfl (lv_at hl 3 rfl) ?_
        refine lv_iload_n hx hb d_Mo_join_10 rfl (lv_at hl 0 rfl) ?_
        refine lv_ishr hx hb d_Mo_join_11 ?_
        refine lv_iconst (v := 1) hx hb d_Mo_join_12 (by decide) ?_
        refine lv_iand hx hb d_Mo_join_13 ?_
        refine lv_iconst (v := 1) hx hb d_Mo_join_14 (by decide) ?_
        refine lv_icmp_ne (tgt := 29) hx hb d_Mo_join_15 (by decide) (fun c_44 => ?_) (fun c_44 => ?_)
        · refine lv_iload_n hx hb d_Mo_join_29 rfl (lv_at hl 1 rfl) ?_
          refine lv_istore_n (lv' := [(2, .int (((0 ||| (g_labels (Int32.toNatClampNeg 0))) ||| (g_labels (Int32.toNatClampNeg 1))) ||| (g_labels (Int32.toNatClampNeg 2)))), (3, .int 3), (0, .ref h0), (1, .int x_p0)]) hx hb d_Mo_join_30 rfl hl (by decide) rfl (fun ls hl => ?_)
          refine lv_iinc (v := 4) (lv' := [(3, .int 4), (2, .int (((0 ||| (g_labels (Int32.toNatClampNeg 0))) ||| (g_labels (Int32.toNatClampNeg 1))) ||| (g_labels (Int32.toNatClampNeg 2)))), (0, .ref h0), (1, .int x_p0)]) hx hb d_Mo_join_31 hl (k := 1) rfl (by decide) (by decide) rfl (fun ls hl => ?_)
          refine lv_goto (tgt := 4) hx hb d_Mo_join_34 (by decide) ?_
          refine lv_iload_n hx hb d_Mo_join_4 rfl (lv_at hl 0 rfl) ?_
          refine lv_iconst (v := 4) hx hb d_Mo_join_5 (by decide) ?_
          refine lv_icmp_ge (tgt := 37) hx hb d_Mo_join_6 (by decide) (fun c_45 => ?_) (fun c_45 => absurd (by decide) c_45)
          refine lv_iload_n hx hb d_Mo_join_37 rfl (lv_at hl 1 rfl) ?_
          have ef : (f_Mo_join g_labels x_p0) = ((((0 ||| (g_labels (Int32.toNatClampNeg 0))) ||| (g_labels (Int32.toNatClampNeg 1))) ||| (g_labels (Int32.toNatClampNeg 2))) : Int32) := (if_pos c_2).trans ((if_pos c_26).trans ((if_pos c_38).trans ((if_neg c_44).trans rfl)))
          exact W.iret (v := (((0 ||| (g_labels (Int32.toNatClampNeg 0))) ||| (g_labels (Int32.toNatClampNeg 1))) ||| (g_labels (Int32.toNatClampNeg 2)))) hx hb hr (fun t ht hW => ⟨by rw [ef], ht⟩) (fun _ h => by cases h) d_Mo_join_38
        · refine lv_iload_n hx hb d_Mo_join_18 rfl (lv_at hl 1 rfl) ?_
          refine lv_aload_n hx hb d_Mo_join_19 rfl (lv_at hl 2 rfl) ?_
          refine va_get (D := (dC, dI)) (ci := 6) (v := .ref a_labels) (C := "LabelledCoreModel") (T := T_Mo) (N := 24) hx hb hts in_Mo hown hK hP 0 rfl rfl 23 (by decide) (hts _ wm_979) (fun _ h9 => h9) rfl d_Mo_join_20 ?_
          refine lv_iload_n hx hb d_Mo_join_23 rfl (lv_at hl 0 rfl) ?_
          refine va_iald hx hb hK hP 1 0 rfl rfl (by unfold vp_in; decide) d_Mo_join_24 ?_
          refine lv_ior hx hb d_Mo_join_25 ?_
          refine lv_goto (tgt := 30) hx hb d_Mo_join_26 (by decide) ?_
          refine lv_istore_n (lv' := [(2, .int ((((0 ||| (g_labels (Int32.toNatClampNeg 0))) ||| (g_labels (Int32.toNatClampNeg 1))) ||| (g_labels (Int32.toNatClampNeg 2))) ||| (g_labels (Int32.toNatClampNeg 3)))), (3, .int 3), (0, .ref h0), (1, .int x_p0)]) hx hb d_Mo_join_30 rfl hl (by decide) rfl (fun ls hl => ?_)
          refine lv_iinc (v := 4) (lv' := [(3, .int 4), (2, .int ((((0 ||| (g_labels (Int32.toNatClampNeg 0))) ||| (g_labels (Int32.toNatClampNeg 1))) ||| (g_labels (Int32.toNatClampNeg 2))) ||| (g_labels (Int32.toNatClampNeg 3)))), (0, .ref h0), (1, .int x_p0)]) hx hb d_Mo_join_31 hl (k := 1) rfl (by decide) (by decide) rfl (fun ls hl => ?_)
          refine lv_goto (tgt := 4) hx hb d_Mo_join_34 (by decide) ?_
          refine lv_iload_n hx hb d_Mo_join_4 rfl (lv_at hl 0 rfl) ?_
          refine lv_iconst (v := 4) hx hb d_Mo_join_5 (by decide) ?_
          refine lv_icmp_ge (tgt := 37) hx hb d_Mo_join_6 (by decide) (fun c_46 => ?_) (fun c_46 => absurd (by decide) c_46)
          refine lv_iload_n hx hb d_Mo_join_37 rfl (lv_at hl 1 rfl) ?_
          have ef : (f_Mo_join g_labels x_p0) = (((((0 ||| (g_labels (Int32.toNatClampNeg 0))) ||| (g_labels (Int32.toNatClampNeg 1))) ||| (g_labels (Int32.toNatClampNeg 2))) ||| (g_labels (Int32.toNatClampNeg 3))) : Int32) := (if_pos c_2).trans ((if_pos c_26).trans ((if_pos c_38).trans ((if_pos c_44).trans rfl)))
          exact W.iret (v := ((((0 ||| (g_labels (Int32.toNatClampNeg 0))) ||| (g_labels (Int32.toNatClampNeg 1))) ||| (g_labels (Int32.toNatClampNeg 2))) ||| (g_labels (Int32.toNatClampNeg 3)))) hx hb hr (fun t ht hW => ⟨by rw [ef], ht⟩) (fun _ h => by cases h) d_Mo_join_38
def f_Mo_noMask (x_p0 : Int32) : Int32 :=
  if x_p0 < 0 then
    1
  else
    if x_p0 ≤ 15 then
      0
    else
      1
set_option maxHeartbeats 4000000 in
set_option maxRecDepth 100000 in
theorem ct_Mo_noMask (l : Launch) (dC : Nat → ClassId) (dI : Nat → Nat → Nat) (cI : ClassId) (x_p0 : Int32) : Met l y_Mo_noMask w_Mo_noMask ({ frames := 0, cells := 0, slots := 0, locals := 0 }) (pcR dC dI cI [] [.int x_p0]) (QcRead (f_Mo_noMask x_p0)) 0 0 (fun _ => False) := by
  refine Met.ofW (cc := c_Mo_noMask) (maxL := 1) (ret := (some .boolean)) (by decide) rfl ?_
  intro p e s m args below meth c s₁ B hml hv
  obtain ⟨rfl, hP, hK⟩ := hv
  have hx := B.exec
  have hb := B.bytes
  have hr := B.returns
  have hts : ∀ w ∈ wG, w.before _ s = true := fun w h => atoms_spec (ws := w_Mo_noMask) B.pre w (List.mem_cons_of_mem _ h)
  have hown : s.vm.findClass "LabelledCoreModel" = some m.cls := findClass_of_methodNamed B.named
  have hlocks := B.notSynchronized
  have hl := lv_entry ([.int x_p0]) (n := 1) (Nat.le_of_ble_eq_true rfl)
  rw [lg_entry_eq]
  generalize (lg_sl ([.int x_p0]) ++ List.replicate (1 - (lg_sl ([.int x_p0])).length) Slot.unset).toArray = ls at hl ⊢
  have hl : lv_has ls 1 [(0, .int x_p0)] := hl
  refine lv_iload_n hx hb d_Mo_noMask_0 rfl (lv_at hl 0 rfl) ?_
  refine lv_if_lt (tgt := 10) hx hb d_Mo_noMask_1 (by decide) (fun c_1 => ?_) (fun c_1 => ?_)
  · refine lv_iconst (v := 1) hx hb d_Mo_noMask_10 (by decide) ?_
    refine lv_goto (tgt := 15) hx hb d_Mo_noMask_11 (by decide) ?_
    have ef : (f_Mo_noMask x_p0) = (1 : Int32) := (if_pos c_1).trans rfl
    exact W.zret (v := 1) hx hb hr rfl (fun t ht hW => ⟨by rw [ef], ht⟩) (fun _ h => by cases h) d_Mo_noMask_15
  · refine lv_iload_n hx hb d_Mo_noMask_4 rfl (lv_at hl 0 rfl) ?_
    refine lv_bipush (v := 15) hx hb d_Mo_noMask_5 (by decide) ?_
    refine lv_icmp_le (tgt := 14) hx hb d_Mo_noMask_7 (by decide) (fun c_2 => ?_) (fun c_2 => ?_)
    · refine lv_iconst (v := 0) hx hb d_Mo_noMask_14 (by decide) ?_
      have ef : (f_Mo_noMask x_p0) = (0 : Int32) := (if_neg c_1).trans ((if_pos c_2).trans rfl)
      exact W.zret (v := 0) hx hb hr rfl (fun t ht hW => ⟨by rw [ef], ht⟩) (fun _ h => by cases h) d_Mo_noMask_15
    · refine lv_iconst (v := 1) hx hb d_Mo_noMask_10 (by decide) ?_
      refine lv_goto (tgt := 15) hx hb d_Mo_noMask_11 (by decide) ?_
      have ef : (f_Mo_noMask x_p0) = (1 : Int32) := (if_neg c_1).trans ((if_neg c_2).trans rfl)
      exact W.zret (v := 1) hx hb hr rfl (fun t ht hW => ⟨by rw [ef], ht⟩) (fun _ h => by cases h) d_Mo_noMask_15
def f_Mo_both (x_p0 : Int32) (x_p1 : Int32) : Int64 :=
  (((Int32.toInt64 x_p1) <<< (Int32.toInt64 32 &&& 63)) ||| ((Int32.toInt64 x_p0) &&& 4294967295))
set_option maxHeartbeats 4000000 in
set_option maxRecDepth 100000 in
theorem ct_Mo_both (l : Launch) (dC : Nat → ClassId) (dI : Nat → Nat → Nat) (cI : ClassId) (x_p0 : Int32) (x_p1 : Int32) : Met l y_Mo_both w_Mo_both ({ frames := 0, cells := 0, slots := 0, locals := 0 }) (pcR dC dI cI [] [.int x_p0, .int x_p1]) (QcReadL (f_Mo_both x_p0 x_p1)) 0 0 (fun _ => False) := by
  refine Met.ofW (cc := c_Mo_both) (maxL := 2) (ret := (some .long)) (by decide) rfl ?_
  intro p e s m args below meth c s₁ B hml hv
  obtain ⟨rfl, hP, hK⟩ := hv
  have hx := B.exec
  have hb := B.bytes
  have hr := B.returns
  have hts : ∀ w ∈ wG, w.before _ s = true := fun w h => atoms_spec (ws := w_Mo_both) B.pre w (List.mem_cons_of_mem _ h)
  have hown : s.vm.findClass "LabelledCoreModel" = some m.cls := findClass_of_methodNamed B.named
  have hlocks := B.notSynchronized
  have hl := lv_entry ([.int x_p0, .int x_p1]) (n := 2) (Nat.le_of_ble_eq_true rfl)
  rw [lg_entry_eq]
  generalize (lg_sl ([.int x_p0, .int x_p1]) ++ List.replicate (2 - (lg_sl ([.int x_p0, .int x_p1])).length) Slot.unset).toArray = ls at hl ⊢
  have hl : lv_has ls 2 [(0, .int x_p0), (1, .int x_p1)] := hl
  refine lv_iload_n hx hb d_Mo_both_0 rfl (lv_at hl 1 rfl) ?_
  refine lv_i2l (v := (Int32.toInt64 x_p1)) hx hb d_Mo_both_1 rfl ?_
  refine lv_bipush (v := 32) hx hb d_Mo_both_2 (by decide) ?_
  refine lv_lshl (v := ((Int32.toInt64 x_p1) <<< (Int32.toInt64 32 &&& 63))) hx hb d_Mo_both_4 rfl ?_
  refine lv_iload_n hx hb d_Mo_both_5 rfl (lv_at hl 0 rfl) ?_
  refine lv_i2l (v := (Int32.toInt64 x_p0)) hx hb d_Mo_both_6 rfl ?_
  refine lv_ldc2 (v := 4294967295) hx hb hown (hts _ wm_1140) d_Mo_both_7 ?_
  refine lv_land hx hb d_Mo_both_10 ?_
  refine lv_lor hx hb d_Mo_both_11 ?_
  have ef : (f_Mo_both x_p0 x_p1) = ((((Int32.toInt64 x_p1) <<< (Int32.toInt64 32 &&& 63)) ||| ((Int32.toInt64 x_p0) &&& 4294967295)) : Int64) := rfl
  exact W.lret (v := (((Int32.toInt64 x_p1) <<< (Int32.toInt64 32 &&& 63)) ||| ((Int32.toInt64 x_p0) &&& 4294967295))) hx hb hr (fun t ht hW => ⟨by rw [ef], ht⟩) (fun _ h => by cases h) d_Mo_both_12
def lp_Mo_begin_50 (w_g_registers : Nat → Int32) (w_g_registerLabels : Nat → Int32) : Nat → (Int32) → (Nat → Int32) → (Nat → Int32) → Int32 × Int32 × Int32 × Int32 × Int32 × Int32 × Int32 × Int32 × Int32 × (Nat → Int32) × (Nat → Int32) × (Nat → Int32) × (Nat → Int32)
  | 0, _, _, _ => (0, 0, 0, 0, 0, 0, 0, 0, 0, (fun _ => 0), (fun _ => 0), (fun _ => 0), (fun _ => 0))
  | fu + 1, y_1, w_g_memory, w_g_memoryLabels =>
    if 64 ≤ y_1 then
      (0, 0, 0, 0, 0, 0, 0, 0, 0, w_g_registers, w_g_registerLabels, w_g_memory, w_g_memoryLabels)
    else
      (lp_Mo_begin_50 w_g_registers w_g_registerLabels fu (y_1 + 1) (upd w_g_memory (Int32.toNatClampNeg y_1) 0) (upd w_g_memoryLabels (Int32.toNatClampNeg y_1) 0))
def lp_Mo_begin_22 (g_memory : Nat → Int32) (g_memoryLabels : Nat → Int32) : Nat → (Int32) → (Nat → Int32) → (Nat → Int32) → Int32 × Int32 × Int32 × Int32 × Int32 × Int32 × Int32 × Int32 × Int32 × (Nat → Int32) × (Nat → Int32) × (Nat → Int32) × (Nat → Int32)
  | 0, _, _, _ => (0, 0, 0, 0, 0, 0, 0, 0, 0, (fun _ => 0), (fun _ => 0), (fun _ => 0), (fun _ => 0))
  | fu + 1, y_1, w_g_registers, w_g_registerLabels =>
    if 32 ≤ y_1 then
      (lp_Mo_begin_50 w_g_registers w_g_registerLabels (65) 0 g_memory g_memoryLabels)
    else
      (lp_Mo_begin_22 g_memory g_memoryLabels fu (y_1 + 1) (upd w_g_registers (Int32.toNatClampNeg y_1) 0) (upd w_g_registerLabels (Int32.toNatClampNeg y_1) 0))
def f_Mo_begin (g_registers : Nat → Int32) (g_registerLabels : Nat → Int32) (g_memory : Nat → Int32) (g_memoryLabels : Nat → Int32) : Int32 × Int32 × Int32 × Int32 × Int32 × Int32 × Int32 × Int32 × Int32 × (Nat → Int32) × (Nat → Int32) × (Nat → Int32) × (Nat → Int32) :=
  (lp_Mo_begin_22 g_memory g_memoryLabels (33) 0 g_registers g_registerLabels)
set_option maxHeartbeats 4000000 in
set_option maxRecDepth 100000 in
theorem ct_Mo_begin (l : Launch) (dC : Nat → ClassId) (dI : Nat → Nat → Nat) (cI : ClassId) (sz : Nat) (h0 a_words a_rules a_registers a_registerLabels a_memory a_memoryLabels a_waiting a_waitingLabels a_out a_outLabels a_keys a_labels : Nat) (v_thrown : Int32) (v_size : Int32) (v_entries : Int32) (v_outcome : Int32) (v_pc : Int32) (v_pcLabel : Int32) (v_wait : Int32) (v_went : Int32) (v_done : Int32) (v_misses : Int32) (v_known : Int32) (v_group : Int32) (g_registers : Nat → Int32) (g_registerLabels : Nat → Int32) (g_memory : Nat → Int32) (g_memoryLabels : Nat → Int32) : Met l y_Mo_begin w_Mo_begin ({ frames := 0, cells := 0, slots := 0, locals := 0 }) (pcW dC dI cI [(h0, .inr (6, [.int v_thrown, .ref a_words, .int v_size, .ref a_rules, .int v_entries, .int v_outcome, .int v_pc, .int v_pcLabel, .ref a_registers, .ref a_registerLabels, .ref a_memory, .ref a_memoryLabels, .ref a_waiting, .ref a_waitingLabels, .int v_wait, .ref a_out, .ref a_outLabels, .int v_went, .int v_done, .int v_misses, .ref a_keys, .int v_known, .int v_group, .ref a_labels])), (a_registers, .inl (cI, 32, .inl g_registers)), (a_registerLabels, .inl (cI, 32, .inl g_registerLabels)), (a_memory, .inl (cI, 64, .inl g_memory)), (a_memoryLabels, .inl (cI, 64, .inl g_memoryLabels))] sz [.ref h0]) (va_Qv (fun _ : Unit => True) (fun _ t => atW dC dI cI [(h0, .inr (6, [.int ((f_Mo_begin g_registers g_registerLabels g_memory g_memoryLabels).1), .ref a_words, .int v_size, .ref a_rules, .int v_entries, .int ((f_Mo_begin g_registers g_registerLabels g_memory g_memoryLabels).2.1), .int ((f_Mo_begin g_registers g_registerLabels g_memory g_memoryLabels).2.2.1), .int ((f_Mo_begin g_registers g_registerLabels g_memory g_memoryLabels).2.2.2.1), .ref a_registers, .ref a_registerLabels, .ref a_memory, .ref a_memoryLabels, .ref a_waiting, .ref a_waitingLabels, .int ((f_Mo_begin g_registers g_registerLabels g_memory g_memoryLabels).2.2.2.2.1), .ref a_out, .ref a_outLabels, .int ((f_Mo_begin g_registers g_registerLabels g_memory g_memoryLabels).2.2.2.2.2.1), .int ((f_Mo_begin g_registers g_registerLabels g_memory g_memoryLabels).2.2.2.2.2.2.1), .int ((f_Mo_begin g_registers g_registerLabels g_memory g_memoryLabels).2.2.2.2.2.2.2.1), .ref a_keys, .int ((f_Mo_begin g_registers g_registerLabels g_memory g_memoryLabels).2.2.2.2.2.2.2.2.1), .int v_group, .ref a_labels])), (a_registers, .inl (cI, 32, .inl ((f_Mo_begin g_registers g_registerLabels g_memory g_memoryLabels).2.2.2.2.2.2.2.2.2.1))), (a_registerLabels, .inl (cI, 32, .inl ((f_Mo_begin g_registers g_registerLabels g_memory g_memoryLabels).2.2.2.2.2.2.2.2.2.2.1))), (a_memory, .inl (cI, 64, .inl ((f_Mo_begin g_registers g_registerLabels g_memory g_memoryLabels).2.2.2.2.2.2.2.2.2.2.2.1))), (a_memoryLabels, .inl (cI, 64, .inl ((f_Mo_begin g_registers g_registerLabels g_memory g_memoryLabels).2.2.2.2.2.2.2.2.2.2.2.2)))] (va_A [(h0, .inr (6, [.int v_thrown, .ref a_words, .int v_size, .ref a_rules, .int v_entries, .int v_outcome, .int v_pc, .int v_pcLabel, .ref a_registers, .ref a_registerLabels, .ref a_memory, .ref a_memoryLabels, .ref a_waiting, .ref a_waitingLabels, .int v_wait, .ref a_out, .ref a_outLabels, .int v_went, .int v_done, .int v_misses, .ref a_keys, .int v_known, .int v_group, .ref a_labels])), (a_registers, .inl (cI, 32, .inl g_registers)), (a_registerLabels, .inl (cI, 32, .inl g_registerLabels)), (a_memory, .inl (cI, 64, .inl g_memory)), (a_memoryLabels, .inl (cI, 64, .inl g_memoryLabels))] sz) t) (va_A [(h0, .inr (6, [.int v_thrown, .ref a_words, .int v_size, .ref a_rules, .int v_entries, .int v_outcome, .int v_pc, .int v_pcLabel, .ref a_registers, .ref a_registerLabels, .ref a_memory, .ref a_memoryLabels, .ref a_waiting, .ref a_waitingLabels, .int v_wait, .ref a_out, .ref a_outLabels, .int v_went, .int v_done, .int v_misses, .ref a_keys, .int v_known, .int v_group, .ref a_labels])), (a_registers, .inl (cI, 32, .inl g_registers)), (a_registerLabels, .inl (cI, 32, .inl g_registerLabels)), (a_memory, .inl (cI, 64, .inl g_memory)), (a_memoryLabels, .inl (cI, 64, .inl g_memoryLabels))] sz)) 0 0 (va_A [(h0, .inr (6, [.int v_thrown, .ref a_words, .int v_size, .ref a_rules, .int v_entries, .int v_outcome, .int v_pc, .int v_pcLabel, .ref a_registers, .ref a_registerLabels, .ref a_memory, .ref a_memoryLabels, .ref a_waiting, .ref a_waitingLabels, .int v_wait, .ref a_out, .ref a_outLabels, .int v_went, .int v_done, .int v_misses, .ref a_keys, .int v_known, .int v_group, .ref a_labels])), (a_registers, .inl (cI, 32, .inl g_registers)), (a_registerLabels, .inl (cI, 32, .inl g_registerLabels)), (a_memory, .inl (cI, 64, .inl g_memory)), (a_memoryLabels, .inl (cI, 64, .inl g_memoryLabels))] sz) := by
  refine Met.ofW (cc := c_Mo_begin) (maxL := 2) (ret := none) (by decide) rfl ?_
  intro p e s m args below meth c s₁ B hml hv
  obtain ⟨rfl, hsz, hP, hK, hD0⟩ := hv
  have hx := B.exec
  have hb := B.bytes
  have hr := B.returns
  have hts : ∀ w ∈ wG, w.before _ s = true := fun w h => atoms_spec (ws := w_Mo_begin) B.pre w (List.mem_cons_of_mem _ h)
  have hown : s.vm.findClass "LabelledCoreModel" = some m.cls := findClass_of_methodNamed B.named
  have hlocks := B.notSynchronized
  subst hsz
  have hD := hD0.self (sz := s.heap.size)
  generalize hAe : va_A [(h0, .inr (6, [.int v_thrown, .ref a_words, .int v_size, .ref a_rules, .int v_entries, .int v_outcome, .int v_pc, .int v_pcLabel, .ref a_registers, .ref a_registerLabels, .ref a_memory, .ref a_memoryLabels, .ref a_waiting, .ref a_waitingLabels, .int v_wait, .ref a_out, .ref a_outLabels, .int v_went, .int v_done, .int v_misses, .ref a_keys, .int v_known, .int v_group, .ref a_labels])), (a_registers, .inl (cI, 32, .inl g_registers)), (a_registerLabels, .inl (cI, 32, .inl g_registerLabels)), (a_memory, .inl (cI, 64, .inl g_memory)), (a_memoryLabels, .inl (cI, 64, .inl g_memoryLabels))] s.heap.size = A at hD ⊢
  have hA : ∀ q : Nat, s.heap.size ≤ q → A q := fun q h => by rw [← hAe]; exact Or.inr h
  have hS : va_S A s.heap s.heap [] := va_S.rf
  have hP : va_P (dC, dI) clsL [(h0, .inr (6, [.int v_thrown, .ref a_words, .int v_size, .ref a_rules, .int v_entries, .int v_outcome, .int v_pc, .int v_pcLabel, .ref a_registers, .ref a_registerLabels, .ref a_memory, .ref a_memoryLabels, .ref a_waiting, .ref a_waitingLabels, .int v_wait, .ref a_out, .ref a_outLabels, .int v_went, .int v_done, .int v_misses, .ref a_keys, .int v_known, .int v_group, .ref a_labels])), (a_registers, .inl (cI, 32, .inl g_registers)), (a_registerLabels, .inl (cI, 32, .inl g_registerLabels)), (a_memory, .inl (cI, 64, .inl g_memory)), (a_memoryLabels, .inl (cI, 64, .inl g_memoryLabels))] s.heap := hP
  have hl := lv_entry ([.ref h0]) (n := 2) (Nat.le_of_ble_eq_true rfl)
  rw [lg_entry_eq]
  generalize (lg_sl ([.ref h0]) ++ List.replicate (2 - (lg_sl ([.ref h0])).length) Slot.unset).toArray = ls at hl ⊢
  have hl : lv_has ls 2 [(0, .ref h0)] := hl
  refine lv_aload_n hx hb d_Mo_begin_0 rfl (lv_at hl 0 rfl) ?_
  refine lv_iconst (v := 0) hx hb d_Mo_begin_1 (by decide) ?_
  refine va_put (D := (dC, dI)) (ci := 6) (v := .int 0) (ty := .int) (C := "LabelledCoreModel") (T := T_Mo) (N := 24) hx hb hts in_Mo t_Mo ty_Mo nm_Mo hown hK hP hD hS 0 rfl rfl 0 (by decide) (hts _ wm_956) (fun _ h9 => h9) rfl (by decide +kernel) rfl rfl (Nat.le_of_ble_eq_true rfl) d_Mo_begin_2 (fun H locs hP hD hS => ?_)
  have hP : va_P (dC, dI) clsL [(h0, .inr (6, [.int 0, .ref a_words, .int v_size, .ref a_rules, .int v_entries, .int v_outcome, .int v_pc, .int v_pcLabel, .ref a_registers, .ref a_registerLabels, .ref a_memory, .ref a_memoryLabels, .ref a_waiting, .ref a_waitingLabels, .int v_wait, .ref a_out, .ref a_outLabels, .int v_went, .int v_done, .int v_misses, .ref a_keys, .int v_known, .int v_group, .ref a_labels])), (a_registers, .inl (cI, 32, .inl g_registers)), (a_registerLabels, .inl (cI, 32, .inl g_registerLabels)), (a_memory, .inl (cI, 64, .inl g_memory)), (a_memoryLabels, .inl (cI, 64, .inl g_memoryLabels))] H := hP
  have hD : va_D A [(h0, .inr (6, [.int 0, .ref a_words, .int v_size, .ref a_rules, .int v_entries, .int v_outcome, .int v_pc, .int v_pcLabel, .ref a_registers, .ref a_registerLabels, .ref a_memory, .ref a_memoryLabels, .ref a_waiting, .ref a_waitingLabels, .int v_wait, .ref a_out, .ref a_outLabels, .int v_went, .int v_done, .int v_misses, .ref a_keys, .int v_known, .int v_group, .ref a_labels])), (a_registers, .inl (cI, 32, .inl g_registers)), (a_registerLabels, .inl (cI, 32, .inl g_registerLabels)), (a_memory, .inl (cI, 64, .inl g_memory)), (a_memoryLabels, .inl (cI, 64, .inl g_memoryLabels))] := hD
  refine lv_aload_n hx hb d_Mo_begin_5 rfl (lv_at hl 0 rfl) ?_
  refine lv_iconst (v := 0) hx hb d_Mo_begin_6 (by decide) ?_
  refine va_put (D := (dC, dI)) (ci := 6) (v := .int 0) (ty := .int) (C := "LabelledCoreModel") (T := T_Mo) (N := 24) hx hb hts in_Mo t_Mo ty_Mo nm_Mo hown hK hP hD hS 0 rfl rfl 5 (by decide) (hts _ wm_961) (fun _ h9 => h9) rfl (by decide +kernel) rfl rfl (Nat.le_of_ble_eq_true rfl) d_Mo_begin_7 (fun H locs hP hD hS => ?_)
  have hP : va_P (dC, dI) clsL [(h0, .inr (6, [.int 0, .ref a_words, .int v_size, .ref a_rules, .int v_entries, .int 0, .int v_pc, .int v_pcLabel, .ref a_registers, .ref a_registerLabels, .ref a_memory, .ref a_memoryLabels, .ref a_waiting, .ref a_waitingLabels, .int v_wait, .ref a_out, .ref a_outLabels, .int v_went, .int v_done, .int v_misses, .ref a_keys, .int v_known, .int v_group, .ref a_labels])), (a_registers, .inl (cI, 32, .inl g_registers)), (a_registerLabels, .inl (cI, 32, .inl g_registerLabels)), (a_memory, .inl (cI, 64, .inl g_memory)), (a_memoryLabels, .inl (cI, 64, .inl g_memoryLabels))] H := hP
  have hD : va_D A [(h0, .inr (6, [.int 0, .ref a_words, .int v_size, .ref a_rules, .int v_entries, .int 0, .int v_pc, .int v_pcLabel, .ref a_registers, .ref a_registerLabels, .ref a_memory, .ref a_memoryLabels, .ref a_waiting, .ref a_waitingLabels, .int v_wait, .ref a_out, .ref a_outLabels, .int v_went, .int v_done, .int v_misses, .ref a_keys, .int v_known, .int v_group, .ref a_labels])), (a_registers, .inl (cI, 32, .inl g_registers)), (a_registerLabels, .inl (cI, 32, .inl g_registerLabels)), (a_memory, .inl (cI, 64, .inl g_memory)), (a_memoryLabels, .inl (cI, 64, .inl g_memoryLabels))] := hD
  refine lv_aload_n hx hb d_Mo_begin_10 rfl (lv_at hl 0 rfl) ?_
  refine lv_iconst (v := 0) hx hb d_Mo_begin_11 (by decide) ?_
  refine va_put (D := (dC, dI)) (ci := 6) (v := .int 0) (ty := .int) (C := "LabelledCoreModel") (T := T_Mo) (N := 24) hx hb hts in_Mo t_Mo ty_Mo nm_Mo hown hK hP hD hS 0 rfl rfl 6 (by decide) (hts _ wm_962) (fun _ h9 => h9) rfl (by decide +kernel) rfl rfl (Nat.le_of_ble_eq_true rfl) d_Mo_begin_12 (fun H locs hP hD hS => ?_)
  have hP : va_P (dC, dI) clsL [(h0, .inr (6, [.int 0, .ref a_words, .int v_size, .ref a_rules, .int v_entries, .int 0, .int 0, .int v_pcLabel, .ref a_registers, .ref a_registerLabels, .ref a_memory, .ref a_memoryLabels, .ref a_waiting, .ref a_waitingLabels, .int v_wait, .ref a_out, .ref a_outLabels, .int v_went, .int v_done, .int v_misses, .ref a_keys, .int v_known, .int v_group, .ref a_labels])), (a_registers, .inl (cI, 32, .inl g_registers)), (a_registerLabels, .inl (cI, 32, .inl g_registerLabels)), (a_memory, .inl (cI, 64, .inl g_memory)), (a_memoryLabels, .inl (cI, 64, .inl g_memoryLabels))] H := hP
  have hD : va_D A [(h0, .inr (6, [.int 0, .ref a_words, .int v_size, .ref a_rules, .int v_entries, .int 0, .int 0, .int v_pcLabel, .ref a_registers, .ref a_registerLabels, .ref a_memory, .ref a_memoryLabels, .ref a_waiting, .ref a_waitingLabels, .int v_wait, .ref a_out, .ref a_outLabels, .int v_went, .int v_done, .int v_misses, .ref a_keys, .int v_known, .int v_group, .ref a_labels])), (a_registers, .inl (cI, 32, .inl g_registers)), (a_registerLabels, .inl (cI, 32, .inl g_registerLabels)), (a_memory, .inl (cI, 64, .inl g_memory)), (a_memoryLabels, .inl (cI, 64, .inl g_memoryLabels))] := hD
  refine lv_aload_n hx hb d_Mo_begin_15 rfl (lv_at hl 0 rfl) ?_
  refine lv_iconst (v := 0) hx hb d_Mo_begin_16 (by decide) ?_
  refine va_put (D := (dC, dI)) (ci := 6) (v := .int 0) (ty := .int) (C := "LabelledCoreModel") (T := T_Mo) (N := 24) hx hb hts in_Mo t_Mo ty_Mo nm_Mo hown hK hP hD hS 0 rfl rfl 7 (by decide) (hts _ wm_963) (fun _ h9 => h9) rfl (by decide +kernel) rfl rfl (Nat.le_of_ble_eq_true rfl) d_Mo_begin_17 (fun H locs hP hD hS => ?_)
  have hP : va_P (dC, dI) clsL [(h0, .inr (6, [.int 0, .ref a_words, .int v_size, .ref a_rules, .int v_entries, .int 0, .int 0, .int 0, .ref a_registers, .ref a_registerLabels, .ref a_memory, .ref a_memoryLabels, .ref a_waiting, .ref a_waitingLabels, .int v_wait, .ref a_out, .ref a_outLabels, .int v_went, .int v_done, .int v_misses, .ref a_keys, .int v_known, .int v_group, .ref a_labels])), (a_registers, .inl (cI, 32, .inl g_registers)), (a_registerLabels, .inl (cI, 32, .inl g_registerLabels)), (a_memory, .inl (cI, 64, .inl g_memory)), (a_memoryLabels, .inl (cI, 64, .inl g_memoryLabels))] H := hP
  have hD : va_D A [(h0, .inr (6, [.int 0, .ref a_words, .int v_size, .ref a_rules, .int v_entries, .int 0, .int 0, .int 0, .ref a_registers, .ref a_registerLabels, .ref a_memory, .ref a_memoryLabels, .ref a_waiting, .ref a_waitingLabels, .int v_wait, .ref a_out, .ref a_outLabels, .int v_went, .int v_done, .int v_misses, .ref a_keys, .int v_known, .int v_group, .ref a_labels])), (a_registers, .inl (cI, 32, .inl g_registers)), (a_registerLabels, .inl (cI, 32, .inl g_registerLabels)), (a_memory, .inl (cI, 64, .inl g_memory)), (a_memoryLabels, .inl (cI, 64, .inl g_memoryLabels))] := hD
  refine lv_iconst (v := 0) hx hb d_Mo_begin_20 (by decide) ?_
  refine lv_istore_n (lv' := [(1, .int 0), (0, .ref h0)]) hx hb d_Mo_begin_21 rfl hl (by decide) rfl (fun ls hl => ?_)
  have hloop_22 : ∀ (fu : Nat) (y_1 : Int32) (w_g_registers : Nat → Int32) (w_g_registerLabels : Nat → Int32), ((f_Mo_begin g_registers g_registerLabels g_memory g_memoryLabels) = (lp_Mo_begin_22 g_memory g_memoryLabels fu y_1 w_g_registers w_g_registerLabels)) → (∃ i : Nat, y_1 = nI i ∧ i ≤ 32 ∧ 33 ≤ i + fu) → ∀ (H : Heap) (locs : List Loc), va_P (dC, dI) clsL [(h0, .inr (6, [.int 0, .ref a_words, .int v_size, .ref a_rules, .int v_entries, .int 0, .int 0, .int 0, .ref a_registers, .ref a_registerLabels, .ref a_memory, .ref a_memoryLabels, .ref a_waiting, .ref a_waitingLabels, .int v_wait, .ref a_out, .ref a_outLabels, .int v_went, .int v_done, .int v_misses, .ref a_keys, .int v_known, .int v_group, .ref a_labels])), (a_registers, .inl (cI, 32, .inl w_g_registers)), (a_registerLabels, .inl (cI, 32, .inl w_g_registerLabels)), (a_memory, .inl (cI, 64, .inl g_memory)), (a_memoryLabels, .inl (cI, 64, .inl g_memoryLabels))] H → va_D A [(h0, .inr (6, [.int 0, .ref a_words, .int v_size, .ref a_rules, .int v_entries, .int 0, .int 0, .int 0, .ref a_registers, .ref a_registerLabels, .ref a_memory, .ref a_memoryLabels, .ref a_waiting, .ref a_waitingLabels, .int v_wait, .ref a_out, .ref a_outLabels, .int v_went, .int v_done, .int v_misses, .ref a_keys, .int v_known, .int v_group, .ref a_labels])), (a_registers, .inl (cI, 32, .inl w_g_registers)), (a_registerLabels, .inl (cI, 32, .inl w_g_registerLabels)), (a_memory, .inl (cI, 64, .inl g_memory)), (a_memoryLabels, .inl (cI, 64, .inl g_memoryLabels))] → va_S A s.heap H locs → ∀ (ls : Array Slot), lv_has ls 2 [(1, .int y_1), (0, .ref h0)] → W p l e (headSpec w_Mo_begin ({ frames := 0, cells := 0, slots := 0, locals := 0 })).room s m ([.ref h0] : List Value).toArray below meth c H locs 0 0 (MQ below (va_Qv (fun _ : Unit => True) (fun _ t => atW dC dI cI [(h0, .inr (6, [.int ((f_Mo_begin g_registers g_registerLabels g_memory g_memoryLabels).1), .ref a_words, .int v_size, .ref a_rules, .int v_entries, .int ((f_Mo_begin g_registers g_registerLabels g_memory g_memoryLabels).2.1), .int ((f_Mo_begin g_registers g_registerLabels g_memory g_memoryLabels).2.2.1), .int ((f_Mo_begin g_registers g_registerLabels g_memory g_memoryLabels).2.2.2.1), .ref a_registers, .ref a_registerLabels, .ref a_memory, .ref a_memoryLabels, .ref a_waiting, .ref a_waitingLabels, .int ((f_Mo_begin g_registers g_registerLabels g_memory g_memoryLabels).2.2.2.2.1), .ref a_out, .ref a_outLabels, .int ((f_Mo_begin g_registers g_registerLabels g_memory g_memoryLabels).2.2.2.2.2.1), .int ((f_Mo_begin g_registers g_registerLabels g_memory g_memoryLabels).2.2.2.2.2.2.1), .int ((f_Mo_begin g_registers g_registerLabels g_memory g_memoryLabels).2.2.2.2.2.2.2.1), .ref a_keys, .int ((f_Mo_begin g_registers g_registerLabels g_memory g_memoryLabels).2.2.2.2.2.2.2.2.1), .int v_group, .ref a_labels])), (a_registers, .inl (cI, 32, .inl ((f_Mo_begin g_registers g_registerLabels g_memory g_memoryLabels).2.2.2.2.2.2.2.2.2.1))), (a_registerLabels, .inl (cI, 32, .inl ((f_Mo_begin g_registers g_registerLabels g_memory g_memoryLabels).2.2.2.2.2.2.2.2.2.2.1))), (a_memory, .inl (cI, 64, .inl ((f_Mo_begin g_registers g_registerLabels g_memory g_memoryLabels).2.2.2.2.2.2.2.2.2.2.2.1))), (a_memoryLabels, .inl (cI, 64, .inl ((f_Mo_begin g_registers g_registerLabels g_memory g_memoryLabels).2.2.2.2.2.2.2.2.2.2.2.2)))] A t) A) ([.ref h0] : List Value).toArray s 0 0 A) (F0 m 22 ls []) := by
    intro fu
    induction fu with
    | zero =>
      intro y_1 w_g_registers w_g_registerLabels he_22 hinv
      exact absurd hinv (by rintro ⟨i, -, h1, h2⟩; omega)
    | succ fu ih_22 =>
      intro y_1 w_g_registers w_g_registerLabels he_22 hinv H locs hP hD hS ls hl
      refine lv_iload_n hx hb d_Mo_begin_22 rfl (lv_at hl 0 rfl) ?_
      refine lv_bipush (v := 32) hx hb d_Mo_begin_23 (by decide) ?_
      refine lv_icmp_ge (tgt := 48) hx hb d_Mo_begin_25 (by decide) (fun c_1 => ?_) (fun c_1 => ?_)
      · refine lv_iconst (v := 0) hx hb d_Mo_begin_48 (by decide) ?_
        refine lv_istore_n (lv' := [(1, .int 0), (0, .ref h0)]) hx hb d_Mo_begin_49 rfl hl (by decide) rfl (fun ls hl => ?_)
        have hloop_50 : ∀ (fu : Nat) (y_1 : Int32) (w_g_memory : Nat → Int32) (w_g_memoryLabels : Nat → Int32), ((f_Mo_begin g_registers g_registerLabels g_memory g_memoryLabels) = (lp_Mo_begin_50 w_g_registers w_g_registerLabels fu y_1 w_g_memory w_g_memoryLabels)) → (∃ i : Nat, y_1 = nI i ∧ i ≤ 64 ∧ 65 ≤ i + fu) → ∀ (H : Heap) (locs : List Loc), va_P (dC, dI) clsL [(h0, .inr (6, [.int 0, .ref a_words, .int v_size, .ref a_rules, .int v_entries, .int 0, .int 0, .int 0, .ref a_registers, .ref a_registerLabels, .ref a_memory, .ref a_memoryLabels, .ref a_waiting, .ref a_waitingLabels, .int v_wait, .ref a_out, .ref a_outLabels, .int v_went, .int v_done, .int v_misses, .ref a_keys, .int v_known, .int v_group, .ref a_labels])), (a_registers, .inl (cI, 32, .inl w_g_registers)), (a_registerLabels, .inl (cI, 32, .inl w_g_registerLabels)), (a_memory, .inl (cI, 64, .inl w_g_memory)), (a_memoryLabels, .inl (cI, 64, .inl w_g_memoryLabels))] H → va_D A [(h0, .inr (6, [.int 0, .ref a_words, .int v_size, .ref a_rules, .int v_entries, .int 0, .int 0, .int 0, .ref a_registers, .ref a_registerLabels, .ref a_memory, .ref a_memoryLabels, .ref a_waiting, .ref a_waitingLabels, .int v_wait, .ref a_out, .ref a_outLabels, .int v_went, .int v_done, .int v_misses, .ref a_keys, .int v_known, .int v_group, .ref a_labels])), (a_registers, .inl (cI, 32, .inl w_g_registers)), (a_registerLabels, .inl (cI, 32, .inl w_g_registerLabels)), (a_memory, .inl (cI, 64, .inl w_g_memory)), (a_memoryLabels, .inl (cI, 64, .inl w_g_memoryLabels))] → va_S A s.heap H locs → ∀ (ls : Array Slot), lv_has ls 2 [(1, .int y_1), (0, .ref h0)] → W p l e (headSpec w_Mo_begin ({ frames := 0, cells := 0, slots := 0, locals := 0 })).room s m ([.ref h0] : List Value).toArray below meth c H locs 0 0 (MQ below (va_Qv (fun _ : Unit => True) (fun _ t => atW dC dI cI [(h0, .inr (6, [.int ((f_Mo_begin g_registers g_registerLabels g_memory g_memoryLabels).1), .ref a_words, .int v_size, .ref a_rules, .int v_entries, .int ((f_Mo_begin g_registers g_registerLabels g_memory g_memoryLabels).2.1), .int ((f_Mo_begin g_registers g_registerLabels g_memory g_memoryLabels).2.2.1), .int ((f_Mo_begin g_registers g_registerLabels g_memory g_memoryLabels).2.2.2.1), .ref a_registers, .ref a_registerLabels, .ref a_memory, .ref a_memoryLabels, .ref a_waiting, .ref a_waitingLabels, .int ((f_Mo_begin g_registers g_registerLabels g_memory g_memoryLabels).2.2.2.2.1), .ref a_out, .ref a_outLabels, .int ((f_Mo_begin g_registers g_registerLabels g_memory g_memoryLabels).2.2.2.2.2.1), .int ((f_Mo_begin g_registers g_registerLabels g_memory g_memoryLabels).2.2.2.2.2.2.1), .int ((f_Mo_begin g_registers g_registerLabels g_memory g_memoryLabels).2.2.2.2.2.2.2.1), .ref a_keys, .int ((f_Mo_begin g_registers g_registerLabels g_memory g_memoryLabels).2.2.2.2.2.2.2.2.1), .int v_group, .ref a_labels])), (a_registers, .inl (cI, 32, .inl ((f_Mo_begin g_registers g_registerLabels g_memory g_memoryLabels).2.2.2.2.2.2.2.2.2.1))), (a_registerLabels, .inl (cI, 32, .inl ((f_Mo_begin g_registers g_registerLabels g_memory g_memoryLabels).2.2.2.2.2.2.2.2.2.2.1))), (a_memory, .inl (cI, 64, .inl ((f_Mo_begin g_registers g_registerLabels g_memory g_memoryLabels).2.2.2.2.2.2.2.2.2.2.2.1))), (a_memoryLabels, .inl (cI, 64, .inl ((f_Mo_begin g_registers g_registerLabels g_memory g_memoryLabels).2.2.2.2.2.2.2.2.2.2.2.2)))] A t) A) ([.ref h0] : List Value).toArray s 0 0 A) (F0 m 50 ls []) := by
          intro fu
          induction fu with
          | zero =>
            intro y_1 w_g_memory w_g_memoryLabels he_50 hinv
            exact absurd hinv (by rintro ⟨i, -, h1, h2⟩; omega)
          | succ fu ih_50 =>
            intro y_1 w_g_memory w_g_memoryLabels he_50 hinv H locs hP hD hS ls hl
            refine lv_iload_n hx hb d_Mo_begin_50 rfl (lv_at hl 0 rfl) ?_
            refine lv_bipush (v := 64) hx hb d_Mo_begin_51 (by decide) ?_
            refine lv_icmp_ge (tgt := 76) hx hb d_Mo_begin_53 (by decide) (fun c_2 => ?_) (fun c_2 => ?_)
            · refine lv_aload_n hx hb d_Mo_begin_76 rfl (lv_at hl 1 rfl) ?_
              refine lv_iconst (v := 0) hx hb d_Mo_begin_77 (by decide) ?_
              refine va_put (D := (dC, dI)) (ci := 6) (v := .int 0) (ty := .int) (C := "LabelledCoreModel") (T := T_Mo) (N := 24) hx hb hts in_Mo t_Mo ty_Mo nm_Mo hown hK hP hD hS 0 rfl rfl 14 (by decide) (hts _ wm_970) (fun _ h9 => h9) rfl (by decide +kernel) rfl rfl (Nat.le_of_ble_eq_true rfl) d_Mo_begin_78 (fun H locs hP hD hS => ?_)
              have hP : va_P (dC, dI) clsL [(h0, .inr (6, [.int 0, .ref a_words, .int v_size, .ref a_rules, .int v_entries, .int 0, .int 0, .int 0, .ref a_registers, .ref a_registerLabels, .ref a_memory, .ref a_memoryLabels, .ref a_waiting, .ref a_waitingLabels, .int 0, .ref a_out, .ref a_outLabels, .int v_went, .int v_done, .int v_misses, .ref a_keys, .int v_known, .int v_group, .ref a_labels])), (a_registers, .inl (cI, 32, .inl w_g_registers)), (a_registerLabels, .inl (cI, 32, .inl w_g_registerLabels)), (a_memory, .inl (cI, 64, .inl w_g_memory)), (a_memoryLabels, .inl (cI, 64, .inl w_g_memoryLabels))] H := hP
              have hD : va_D A [(h0, .inr (6, [.int 0, .ref a_words, .int v_size, .ref a_rules, .int v_entries, .int 0, .int 0, .int 0, .ref a_registers, .ref a_registerLabels, .ref a_memory, .ref a_memoryLabels, .ref a_waiting, .ref a_waitingLabels, .int 0, .ref a_out, .ref a_outLabels, .int v_went, .int v_done, .int v_misses, .ref a_keys, .int v_known, .int v_group, .ref a_labels])), (a_registers, .inl (cI, 32, .inl w_g_registers)), (a_registerLabels, .inl (cI, 32, .inl w_g_registerLabels)), (a_memory, .inl (cI, 64, .inl w_g_memory)), (a_memoryLabels, .inl (cI, 64, .inl w_g_memoryLabels))] := hD
              refine lv_aload_n hx hb d_Mo_begin_81 rfl (lv_at hl 1 rfl) ?_
              refine lv_iconst (v := 0) hx hb d_Mo_begin_82 (by decide) ?_
              refine va_put (D := (dC, dI)) (ci := 6) (v := .int 0) (ty := .int) (C := "LabelledCoreModel") (T := T_Mo) (N := 24) hx hb hts in_Mo t_Mo ty_Mo nm_Mo hown hK hP hD hS 0 rfl rfl 17 (by decide) (hts _ wm_973) (fun _ h9 => h9) rfl (by decide +kernel) rfl rfl (Nat.le_of_ble_eq_true rfl) d_Mo_begin_83 (fun H locs hP hD hS => ?_)
              have hP : va_P (dC, dI) clsL [(h0, .inr (6, [.int 0, .ref a_words, .int v_size, .ref a_rules, .int v_entries, .int 0, .int 0, .int 0, .ref a_registers, .ref a_registerLabels, .ref a_memory, .ref a_memoryLabels, .ref a_waiting, .ref a_waitingLabels, .int 0, .ref a_out, .ref a_outLabels, .int 0, .int v_done, .int v_misses, .ref a_keys, .int v_known, .int v_group, .ref a_labels])), (a_registers, .inl (cI, 32, .inl w_g_registers)), (a_registerLabels, .inl (cI, 32, .inl w_g_registerLabels)), (a_memory, .inl (cI, 64, .inl w_g_memory)), (a_memoryLabels, .inl (cI, 64, .inl w_g_memoryLabels))] H := hP
              have hD : va_D A [(h0, .inr (6, [.int 0, .ref a_words, .int v_size, .ref a_rules, .int v_entries, .int 0, .int 0, .int 0, .ref a_registers, .ref a_registerLabels, .ref a_memory, .ref a_memoryLabels, .ref a_waiting, .ref a_waitingLabels, .int 0, .ref a_out, .ref a_outLabels, .int 0, .int v_done, .int v_misses, .ref a_keys, .int v_known, .int v_group, .ref a_labels])), (a_registers, .inl (cI, 32, .inl w_g_registers)), (a_registerLabels, .inl (cI, 32, .inl w_g_registerLabels)), (a_memory, .inl (cI, 64, .inl w_g_memory)), (a_memoryLabels, .inl (cI, 64, .inl w_g_memoryLabels))] := hD
              refine lv_aload_n hx hb d_Mo_begin_86 rfl (lv_at hl 1 rfl) ?_
              refine lv_iconst (v := 0) hx hb d_Mo_begin_87 (by decide) ?_
              refine va_put (D := (dC, dI)) (ci := 6) (v := .int 0) (ty := .int) (C := "LabelledCoreModel") (T := T_Mo) (N := 24) hx hb hts in_Mo t_Mo ty_Mo nm_Mo hown hK hP hD hS 0 rfl rfl 18 (by decide) (hts _ wm_974) (fun _ h9 => h9) rfl (by decide +kernel) rfl rfl (Nat.le_of_ble_eq_true rfl) d_Mo_begin_88 (fun H locs hP hD hS => ?_)
              have hP : va_P (dC, dI) clsL [(h0, .inr (6, [.int 0, .ref a_words, .int v_size, .ref a_rules, .int v_entries, .int 0, .int 0, .int 0, .ref a_registers, .ref a_registerLabels, .ref a_memory, .ref a_memoryLabels, .ref a_waiting, .ref a_waitingLabels, .int 0, .ref a_out, .ref a_outLabels, .int 0, .int 0, .int v_misses, .ref a_keys, .int v_known, .int v_group, .ref a_labels])), (a_registers, .inl (cI, 32, .inl w_g_registers)), (a_registerLabels, .inl (cI, 32, .inl w_g_registerLabels)), (a_memory, .inl (cI, 64, .inl w_g_memory)), (a_memoryLabels, .inl (cI, 64, .inl w_g_memoryLabels))] H := hP
              have hD : va_D A [(h0, .inr (6, [.int 0, .ref a_words, .int v_size, .ref a_rules, .int v_entries, .int 0, .int 0, .int 0, .ref a_registers, .ref a_registerLabels, .ref a_memory, .ref a_memoryLabels, .ref a_waiting, .ref a_waitingLabels, .int 0, .ref a_out, .ref a_outLabels, .int 0, .int 0, .int v_misses, .ref a_keys, .int v_known, .int v_group, .ref a_labels])), (a_registers, .inl (cI, 32, .inl w_g_registers)), (a_registerLabels, .inl (cI, 32, .inl w_g_registerLabels)), (a_memory, .inl (cI, 64, .inl w_g_memory)), (a_memoryLabels, .inl (cI, 64, .inl w_g_memoryLabels))] := hD
              refine lv_aload_n hx hb d_Mo_begin_91 rfl (lv_at hl 1 rfl) ?_
              refine lv_iconst (v := 0) hx hb d_Mo_begin_92 (by decide) ?_
              refine va_put (D := (dC, dI)) (ci := 6) (v := .int 0) (ty := .int) (C := "LabelledCoreModel") (T := T_Mo) (N := 24) hx hb hts in_Mo t_Mo ty_Mo nm_Mo hown hK hP hD hS 0 rfl rfl 19 (by decide) (hts _ wm_975) (fun _ h9 => h9) rfl (by decide +kernel) rfl rfl (Nat.le_of_ble_eq_true rfl) d_Mo_begin_93 (fun H locs hP hD hS => ?_)
              have hP : va_P (dC, dI) clsL [(h0, .inr (6, [.int 0, .ref a_words, .int v_size, .ref a_rules, .int v_entries, .int 0, .int 0, .int 0, .ref a_registers, .ref a_registerLabels, .ref a_memory, .ref a_memoryLabels, .ref a_waiting, .ref a_waitingLabels, .int 0, .ref a_out, .ref a_outLabels, .int 0, .int 0, .int 0, .ref a_keys, .int v_known, .int v_group, .ref a_labels])), (a_registers, .inl (cI, 32, .inl w_g_registers)), (a_registerLabels, .inl (cI, 32, .inl w_g_registerLabels)), (a_memory, .inl (cI, 64, .inl w_g_memory)), (a_memoryLabels, .inl (cI, 64, .inl w_g_memoryLabels))] H := hP
              have hD : va_D A [(h0, .inr (6, [.int 0, .ref a_words, .int v_size, .ref a_rules, .int v_entries, .int 0, .int 0, .int 0, .ref a_registers, .ref a_registerLabels, .ref a_memory, .ref a_memoryLabels, .ref a_waiting, .ref a_waitingLabels, .int 0, .ref a_out, .ref a_outLabels, .int 0, .int 0, .int 0, .ref a_keys, .int v_known, .int v_group, .ref a_labels])), (a_registers, .inl (cI, 32, .inl w_g_registers)), (a_registerLabels, .inl (cI, 32, .inl w_g_registerLabels)), (a_memory, .inl (cI, 64, .inl w_g_memory)), (a_memoryLabels, .inl (cI, 64, .inl w_g_memoryLabels))] := hD
              refine lv_aload_n hx hb d_Mo_begin_96 rfl (lv_at hl 1 rfl) ?_
              refine lv_iconst (v := 0) hx hb d_Mo_begin_97 (by decide) ?_
              refine va_put (D := (dC, dI)) (ci := 6) (v := .int 0) (ty := .int) (C := "LabelledCoreModel") (T := T_Mo) (N := 24) hx hb hts in_Mo t_Mo ty_Mo nm_Mo hown hK hP hD hS 0 rfl rfl 21 (by decide) (hts _ wm_977) (fun _ h9 => h9) rfl (by decide +kernel) rfl rfl (Nat.le_of_ble_eq_true rfl) d_Mo_begin_98 (fun H locs hP hD hS => ?_)
              have hP : va_P (dC, dI) clsL [(h0, .inr (6, [.int 0, .ref a_words, .int v_size, .ref a_rules, .int v_entries, .int 0, .int 0, .int 0, .ref a_registers, .ref a_registerLabels, .ref a_memory, .ref a_memoryLabels, .ref a_waiting, .ref a_waitingLabels, .int 0, .ref a_out, .ref a_outLabels, .int 0, .int 0, .int 0, .ref a_keys, .int 0, .int v_group, .ref a_labels])), (a_registers, .inl (cI, 32, .inl w_g_registers)), (a_registerLabels, .inl (cI, 32, .inl w_g_registerLabels)), (a_memory, .inl (cI, 64, .inl w_g_memory)), (a_memoryLabels, .inl (cI, 64, .inl w_g_memoryLabels))] H := hP
              have hD : va_D A [(h0, .inr (6, [.int 0, .ref a_words, .int v_size, .ref a_rules, .int v_entries, .int 0, .int 0, .int 0, .ref a_registers, .ref a_registerLabels, .ref a_memory, .ref a_memoryLabels, .ref a_waiting, .ref a_waitingLabels, .int 0, .ref a_out, .ref a_outLabels, .int 0, .int 0, .int 0, .ref a_keys, .int 0, .int v_group, .ref a_labels])), (a_registers, .inl (cI, 32, .inl w_g_registers)), (a_registerLabels, .inl (cI, 32, .inl w_g_registerLabels)), (a_memory, .inl (cI, 64, .inl w_g_memory)), (a_memoryLabels, .inl (cI, 64, .inl w_g_memoryLabels))] := hD
              have ef : (f_Mo_begin g_registers g_registerLabels g_memory g_memoryLabels) = ((0, 0, 0, 0, 0, 0, 0, 0, 0, w_g_registers, w_g_registerLabels, w_g_memory, w_g_memoryLabels) : Int32 × Int32 × Int32 × Int32 × Int32 × Int32 × Int32 × Int32 × Int32 × (Nat → Int32) × (Nat → Int32) × (Nat → Int32) × (Nat → Int32)) := he_50.trans ((if_pos c_2).trans rfl)
              have hP9 := hP.sub (ws' := [(h0, .inr (6, [.int 0, .ref a_words, .int v_size, .ref a_rules, .int v_entries, .int 0, .int 0, .int 0, .ref a_registers, .ref a_registerLabels, .ref a_memory, .ref a_memoryLabels, .ref a_waiting, .ref a_waitingLabels, .int 0, .ref a_out, .ref a_outLabels, .int 0, .int 0, .int 0, .ref a_keys, .int 0, .int v_group, .ref a_labels])), (a_registers, .inl (cI, 32, .inl w_g_registers)), (a_registerLabels, .inl (cI, 32, .inl w_g_registerLabels)), (a_memory, .inl (cI, 64, .inl w_g_memory)), (a_memoryLabels, .inl (cI, 64, .inl w_g_memoryLabels))]) [0, 1, 2, 3, 4] rfl
              have hD9 := hD.sub (ws' := [(h0, .inr (6, [.int 0, .ref a_words, .int v_size, .ref a_rules, .int v_entries, .int 0, .int 0, .int 0, .ref a_registers, .ref a_registerLabels, .ref a_memory, .ref a_memoryLabels, .ref a_waiting, .ref a_waitingLabels, .int 0, .ref a_out, .ref a_outLabels, .int 0, .int 0, .int 0, .ref a_keys, .int 0, .int v_group, .ref a_labels])), (a_registers, .inl (cI, 32, .inl w_g_registers)), (a_registerLabels, .inl (cI, 32, .inl w_g_registerLabels)), (a_memory, .inl (cI, 64, .inl w_g_memory)), (a_memoryLabels, .inl (cI, 64, .inl w_g_memoryLabels))]) [0, 1, 2, 3, 4] (by decide) rfl
              exact W.vret hx hb hr (fun t ht hW => ⟨⟨(), rfl, trivial, by rw [ef, ht]; exact hP9, va_K.moved hW.alike hK, by rw [ef]; exact hD9⟩, hS.F ht⟩) hS.2.2 d_Mo_begin_101
            · refine lv_aload_n hx hb d_Mo_begin_56 rfl (lv_at hl 1 rfl) ?_
              refine va_get (D := (dC, dI)) (ci := 6) (v := .ref a_memory) (C := "LabelledCoreModel") (T := T_Mo) (N := 24) hx hb hts in_Mo hown hK hP 0 rfl rfl 10 (by decide) (hts _ wm_966) (fun _ h9 => h9) rfl d_Mo_begin_57 ?_
              refine lv_iload_n hx hb d_Mo_begin_60 rfl (lv_at hl 0 rfl) ?_
              refine lv_iconst (v := 0) hx hb d_Mo_begin_61 (by decide) ?_
              refine va_iast hx hb hK hP hD hS 3 0 rfl rfl (by obtain ⟨i, e, h1, h2⟩ := hinv; rw [e]; exact vp_in_nI (lt_N (N := 64) (by omega) e h1 (by assumption)) (by omega)) d_Mo_begin_62 (fun H locs hP hD hS => ?_)
              have hP : va_P (dC, dI) clsL [(h0, .inr (6, [.int 0, .ref a_words, .int v_size, .ref a_rules, .int v_entries, .int 0, .int 0, .int 0, .ref a_registers, .ref a_registerLabels, .ref a_memory, .ref a_memoryLabels, .ref a_waiting, .ref a_waitingLabels, .int v_wait, .ref a_out, .ref a_outLabels, .int v_went, .int v_done, .int v_misses, .ref a_keys, .int v_known, .int v_group, .ref a_labels])), (a_registers, .inl (cI, 32, .inl w_g_registers)), (a_registerLabels, .inl (cI, 32, .inl w_g_registerLabels)), (a_memory, .inl (cI, 64, .inl (upd w_g_memory (Int32.toNatClampNeg y_1) 0))), (a_memoryLabels, .inl (cI, 64, .inl w_g_memoryLabels))] H := hP
              have hD : va_D A [(h0, .inr (6, [.int 0, .ref a_words, .int v_size, .ref a_rules, .int v_entries, .int 0, .int 0, .int 0, .ref a_registers, .ref a_registerLabels, .ref a_memory, .ref a_memoryLabels, .ref a_waiting, .ref a_waitingLabels, .int v_wait, .ref a_out, .ref a_outLabels, .int v_went, .int v_done, .int v_misses, .ref a_keys, .int v_known, .int v_group, .ref a_labels])), (a_registers, .inl (cI, 32, .inl w_g_registers)), (a_registerLabels, .inl (cI, 32, .inl w_g_registerLabels)), (a_memory, .inl (cI, 64, .inl (upd w_g_memory (Int32.toNatClampNeg y_1) 0))), (a_memoryLabels, .inl (cI, 64, .inl w_g_memoryLabels))] := hD
              refine lv_aload_n hx hb d_Mo_begin_63 rfl (lv_at hl 1 rfl) ?_
              refine va_get (D := (dC, dI)) (ci := 6) (v := .ref a_memoryLabels) (C := "LabelledCoreModel") (T := T_Mo) (N := 24) hx hb hts in_Mo hown hK hP 0 rfl rfl 11 (by decide) (hts _ wm_967) (fun _ h9 => h9) rfl d_Mo_begin_64 ?_
              refine lv_iload_n hx hb d_Mo_begin_67 rfl (lv_at hl 0 rfl) ?_
              refine lv_iconst (v := 0) hx hb d_Mo_begin_68 (by decide) ?_
              refine va_iast hx hb hK hP hD hS 4 0 rfl rfl (by obtain ⟨i, e, h1, h2⟩ := hinv; rw [e]; exact vp_in_nI (lt_N (N := 64) (by omega) e h1 (by assumption)) (by omega)) d_Mo_begin_69 (fun H locs hP hD hS => ?_)
              have hP : va_P (dC, dI) clsL [(h0, .inr (6, [.int 0, .ref a_words, .int v_size, .ref a_rules, .int v_entries, .int 0, .int 0, .int 0, .ref a_registers, .ref a_registerLabels, .ref a_memory, .ref a_memoryLabels, .ref a_waiting, .ref a_waitingLabels, .int v_wait, .ref a_out, .ref a_outLabels, .int v_went, .int v_done, .int v_misses, .ref a_keys, .int v_known, .int v_group, .ref a_labels])), (a_registers, .inl (cI, 32, .inl w_g_registers)), (a_registerLabels, .inl (cI, 32, .inl w_g_registerLabels)), (a_memory, .inl (cI, 64, .inl (upd w_g_memory (Int32.toNatClampNeg y_1) 0))), (a_memoryLabels, .inl (cI, 64, .inl (upd w_g_memoryLabels (Int32.toNatClampNeg y_1) 0)))] H := hP
              have hD : va_D A [(h0, .inr (6, [.int 0, .ref a_words, .int v_size, .ref a_rules, .int v_entries, .int 0, .int 0, .int 0, .ref a_registers, .ref a_registerLabels, .ref a_memory, .ref a_memoryLabels, .ref a_waiting, .ref a_waitingLabels, .int v_wait, .ref a_out, .ref a_outLabels, .int v_went, .int v_done, .int v_misses, .ref a_keys, .int v_known, .int v_group, .ref a_labels])), (a_registers, .inl (cI, 32, .inl w_g_registers)), (a_registerLabels, .inl (cI, 32, .inl w_g_registerLabels)), (a_memory, .inl (cI, 64, .inl (upd w_g_memory (Int32.toNatClampNeg y_1) 0))), (a_memoryLabels, .inl (cI, 64, .inl (upd w_g_memoryLabels (Int32.toNatClampNeg y_1) 0)))] := hD
              refine lv_iinc (v := (y_1 + 1)) (lv' := [(1, .int (y_1 + 1)), (0, .ref h0)]) hx hb d_Mo_begin_70 hl (k := 0) rfl rfl (by decide) rfl (fun ls hl => ?_)
              refine lv_goto (tgt := 50) hx hb d_Mo_begin_73 (by decide) ?_
              have hc0 := c_2
              exact ih_50 (y_1 + 1) (upd w_g_memory (Int32.toNatClampNeg y_1) 0) (upd w_g_memoryLabels (Int32.toNatClampNeg y_1) 0) (he_50.trans ((if_neg c_2).trans rfl)) (by obtain ⟨i, e, h1, h2⟩ := hinv; exact ⟨i + 1, by rw [e]; exact nI_1 i, lt_N (N := 64) (by omega) e h1 hc0, by omega⟩) _ _ (hP.sub [0, 1, 2, 3, 4] rfl) (hD.sub [0, 1, 2, 3, 4] (by decide) rfl) hS ls (lv_sub hl [0, 1] rfl)
        have hc0 := c_1
        exact hloop_50 (65) 0 g_memory g_memoryLabels (he_22.trans ((if_pos c_1).trans rfl)) (⟨0, nI_0.symm, Nat.zero_le _, by omega⟩) _ _ (hP.sub [0, 1, 2, 3, 4] rfl) (hD.sub [0, 1, 2, 3, 4] (by decide) rfl) hS ls (lv_sub hl [0, 1] rfl)
      · refine lv_aload_n hx hb d_Mo_begin_28 rfl (lv_at hl 1 rfl) ?_
        refine va_get (D := (dC, dI)) (ci := 6) (v := .ref a_registers) (C := "LabelledCoreModel") (T := T_Mo) (N := 24) hx hb hts in_Mo hown hK hP 0 rfl rfl 8 (by decide) (hts _ wm_964) (fun _ h9 => h9) rfl d_Mo_begin_29 ?_
        refine lv_iload_n hx hb d_Mo_begin_32 rfl (lv_at hl 0 rfl) ?_
        refine lv_iconst (v := 0) hx hb d_Mo_begin_33 (by decide) ?_
        refine va_iast hx hb hK hP hD hS 1 0 rfl rfl (by obtain ⟨i, e, h1, h2⟩ := hinv; rw [e]; exact vp_in_nI (lt_N (N := 32) (by omega) e h1 (by assumption)) (by omega)) d_Mo_begin_34 (fun H locs hP hD hS => ?_)
        have hP : va_P (dC, dI) clsL [(h0, .inr (6, [.int 0, .ref a_words, .int v_size, .ref a_rules, .int v_entries, .int 0, .int 0, .int 0, .ref a_registers, .ref a_registerLabels, .ref a_memory, .ref a_memoryLabels, .ref a_waiting, .ref a_waitingLabels, .int v_wait, .ref a_out, .ref a_outLabels, .int v_went, .int v_done, .int v_misses, .ref a_keys, .int v_known, .int v_group, .ref a_labels])), (a_registers, .inl (cI, 32, .inl (upd w_g_registers (Int32.toNatClampNeg y_1) 0))), (a_registerLabels, .inl (cI, 32, .inl w_g_registerLabels)), (a_memory, .inl (cI, 64, .inl g_memory)), (a_memoryLabels, .inl (cI, 64, .inl g_memoryLabels))] H := hP
        have hD : va_D A [(h0, .inr (6, [.int 0, .ref a_words, .int v_size, .ref a_rules, .int v_entries, .int 0, .int 0, .int 0, .ref a_registers, .ref a_registerLabels, .ref a_memory, .ref a_memoryLabels, .ref a_waiting, .ref a_waitingLabels, .int v_wait, .ref a_out, .ref a_outLabels, .int v_went, .int v_done, .int v_misses, .ref a_keys, .int v_known, .int v_group, .ref a_labels])), (a_registers, .inl (cI, 32, .inl (upd w_g_registers (Int32.toNatClampNeg y_1) 0))), (a_registerLabels, .inl (cI, 32, .inl w_g_registerLabels)), (a_memory, .inl (cI, 64, .inl g_memory)), (a_memoryLabels, .inl (cI, 64, .inl g_memoryLabels))] := hD
        refine lv_aload_n hx hb d_Mo_begin_35 rfl (lv_at hl 1 rfl) ?_
        refine va_get (D := (dC, dI)) (ci := 6) (v := .ref a_registerLabels) (C := "LabelledCoreModel") (T := T_Mo) (N := 24) hx hb hts in_Mo hown hK hP 0 rfl rfl 9 (by decide) (hts _ wm_965) (fun _ h9 => h9) rfl d_Mo_begin_36 ?_
        refine lv_iload_n hx hb d_Mo_begin_39 rfl (lv_at hl 0 rfl) ?_
        refine lv_iconst (v := 0) hx hb d_Mo_begin_40 (by decide) ?_
        refine va_iast hx hb hK hP hD hS 2 0 rfl rfl (by obtain ⟨i, e, h1, h2⟩ := hinv; rw [e]; exact vp_in_nI (lt_N (N := 32) (by omega) e h1 (by assumption)) (by omega)) d_Mo_begin_41 (fun H locs hP hD hS => ?_)
        have hP : va_P (dC, dI) clsL [(h0, .inr (6, [.int 0, .ref a_words, .int v_size, .ref a_rules, .int v_entries, .int 0, .int 0, .int 0, .ref a_registers, .ref a_registerLabels, .ref a_memory, .ref a_memoryLabels, .ref a_waiting, .ref a_waitingLabels, .int v_wait, .ref a_out, .ref a_outLabels, .int v_went, .int v_done, .int v_misses, .ref a_keys, .int v_known, .int v_group, .ref a_labels])), (a_registers, .inl (cI, 32, .inl (upd w_g_registers (Int32.toNatClampNeg y_1) 0))), (a_registerLabels, .inl (cI, 32, .inl (upd w_g_registerLabels (Int32.toNatClampNeg y_1) 0))), (a_memory, .inl (cI, 64, .inl g_memory)), (a_memoryLabels, .inl (cI, 64, .inl g_memoryLabels))] H := hP
        have hD : va_D A [(h0, .inr (6, [.int 0, .ref a_words, .int v_size, .ref a_rules, .int v_entries, .int 0, .int 0, .int 0, .ref a_registers, .ref a_registerLabels, .ref a_memory, .ref a_memoryLabels, .ref a_waiting, .ref a_waitingLabels, .int v_wait, .ref a_out, .ref a_outLabels, .int v_went, .int v_done, .int v_misses, .ref a_keys, .int v_known, .int v_group, .ref a_labels])), (a_registers, .inl (cI, 32, .inl (upd w_g_registers (Int32.toNatClampNeg y_1) 0))), (a_registerLabels, .inl (cI, 32, .inl (upd w_g_registerLabels (Int32.toNatClampNeg y_1) 0))), (a_memory, .inl (cI, 64, .inl g_memory)), (a_memoryLabels, .inl (cI, 64, .inl g_memoryLabels))] := hD
        refine lv_iinc (v := (y_1 + 1)) (lv' := [(1, .int (y_1 + 1)), (0, .ref h0)]) hx hb d_Mo_begin_42 hl (k := 0) rfl rfl (by decide) rfl (fun ls hl => ?_)
        refine lv_goto (tgt := 22) hx hb d_Mo_begin_45 (by decide) ?_
        have hc0 := c_1
        exact ih_22 (y_1 + 1) (upd w_g_registers (Int32.toNatClampNeg y_1) 0) (upd w_g_registerLabels (Int32.toNatClampNeg y_1) 0) (he_22.trans ((if_neg c_1).trans rfl)) (by obtain ⟨i, e, h1, h2⟩ := hinv; exact ⟨i + 1, by rw [e]; exact nI_1 i, lt_N (N := 32) (by omega) e h1 hc0, by omega⟩) _ _ (hP.sub [0, 1, 2, 3, 4] rfl) (hD.sub [0, 1, 2, 3, 4] (by decide) rfl) hS ls (lv_sub hl [0, 1] rfl)
  exact hloop_22 (33) 0 g_registers g_registerLabels (rfl) (⟨0, nI_0.symm, Nat.zero_le _, by omega⟩) _ _ (hP.sub [0, 1, 2, 3, 4] rfl) (hD.sub [0, 1, 2, 3, 4] (by decide) rfl) hS ls (lv_sub hl [0, 1] rfl)
set_option maxHeartbeats 4000000 in
set_option maxRecDepth 100000 in
theorem ct_Mo_clear (l : Launch) (dC : Nat → ClassId) (dI : Nat → Nat → Nat) (cI : ClassId) (sz : Nat) (h0 a_words a_rules a_registers a_registerLabels a_memory a_memoryLabels a_waiting a_waitingLabels a_out a_outLabels a_keys a_labels : Nat) (v_thrown : Int32) (v_size : Int32) (v_entries : Int32) (v_outcome : Int32) (v_pc : Int32) (v_pcLabel : Int32) (v_wait : Int32) (v_went : Int32) (v_done : Int32) (v_misses : Int32) (v_known : Int32) (v_group : Int32) (g_registers : Nat → Int32) (g_registerLabels : Nat → Int32) (g_memory : Nat → Int32) (g_memoryLabels : Nat → Int32) : Met l y_Mo_clear w_Mo_clear ({ frames := 1, cells := 0, slots := 0, locals := 21 }) (pcW dC dI cI [(h0, .inr (6, [.int v_thrown, .ref a_words, .int v_size, .ref a_rules, .int v_entries, .int v_outcome, .int v_pc, .int v_pcLabel, .ref a_registers, .ref a_registerLabels, .ref a_memory, .ref a_memoryLabels, .ref a_waiting, .ref a_waitingLabels, .int v_wait, .ref a_out, .ref a_outLabels, .int v_went, .int v_done, .int v_misses, .ref a_keys, .int v_known, .int v_group, .ref a_labels])), (a_registers, .inl (cI, 32, .inl g_registers)), (a_registerLabels, .inl (cI, 32, .inl g_registerLabels)), (a_memory, .inl (cI, 64, .inl g_memory)), (a_memoryLabels, .inl (cI, 64, .inl g_memoryLabels))] sz [.ref h0]) (va_Qi (fun (r : Int32) (_ : Unit) => r = v_size) (fun _ t => atW dC dI cI [(h0, .inr (6, [.int ((f_Mo_begin g_registers g_registerLabels g_memory g_memoryLabels).1), .ref a_words, .int 0, .ref a_rules, .int v_entries, .int ((f_Mo_begin g_registers g_registerLabels g_memory g_memoryLabels).2.1), .int ((f_Mo_begin g_registers g_registerLabels g_memory g_memoryLabels).2.2.1), .int ((f_Mo_begin g_registers g_registerLabels g_memory g_memoryLabels).2.2.2.1), .ref a_registers, .ref a_registerLabels, .ref a_memory, .ref a_memoryLabels, .ref a_waiting, .ref a_waitingLabels, .int ((f_Mo_begin g_registers g_registerLabels g_memory g_memoryLabels).2.2.2.2.1), .ref a_out, .ref a_outLabels, .int ((f_Mo_begin g_registers g_registerLabels g_memory g_memoryLabels).2.2.2.2.2.1), .int ((f_Mo_begin g_registers g_registerLabels g_memory g_memoryLabels).2.2.2.2.2.2.1), .int ((f_Mo_begin g_registers g_registerLabels g_memory g_memoryLabels).2.2.2.2.2.2.2.1), .ref a_keys, .int ((f_Mo_begin g_registers g_registerLabels g_memory g_memoryLabels).2.2.2.2.2.2.2.2.1), .int v_group, .ref a_labels])), (a_registers, .inl (cI, 32, .inl ((f_Mo_begin g_registers g_registerLabels g_memory g_memoryLabels).2.2.2.2.2.2.2.2.2.1))), (a_registerLabels, .inl (cI, 32, .inl ((f_Mo_begin g_registers g_registerLabels g_memory g_memoryLabels).2.2.2.2.2.2.2.2.2.2.1))), (a_memory, .inl (cI, 64, .inl ((f_Mo_begin g_registers g_registerLabels g_memory g_memoryLabels).2.2.2.2.2.2.2.2.2.2.2.1))), (a_memoryLabels, .inl (cI, 64, .inl ((f_Mo_begin g_registers g_registerLabels g_memory g_memoryLabels).2.2.2.2.2.2.2.2.2.2.2.2)))] (va_A [(h0, .inr (6, [.int v_thrown, .ref a_words, .int v_size, .ref a_rules, .int v_entries, .int v_outcome, .int v_pc, .int v_pcLabel, .ref a_registers, .ref a_registerLabels, .ref a_memory, .ref a_memoryLabels, .ref a_waiting, .ref a_waitingLabels, .int v_wait, .ref a_out, .ref a_outLabels, .int v_went, .int v_done, .int v_misses, .ref a_keys, .int v_known, .int v_group, .ref a_labels])), (a_registers, .inl (cI, 32, .inl g_registers)), (a_registerLabels, .inl (cI, 32, .inl g_registerLabels)), (a_memory, .inl (cI, 64, .inl g_memory)), (a_memoryLabels, .inl (cI, 64, .inl g_memoryLabels))] sz) t) (va_A [(h0, .inr (6, [.int v_thrown, .ref a_words, .int v_size, .ref a_rules, .int v_entries, .int v_outcome, .int v_pc, .int v_pcLabel, .ref a_registers, .ref a_registerLabels, .ref a_memory, .ref a_memoryLabels, .ref a_waiting, .ref a_waitingLabels, .int v_wait, .ref a_out, .ref a_outLabels, .int v_went, .int v_done, .int v_misses, .ref a_keys, .int v_known, .int v_group, .ref a_labels])), (a_registers, .inl (cI, 32, .inl g_registers)), (a_registerLabels, .inl (cI, 32, .inl g_registerLabels)), (a_memory, .inl (cI, 64, .inl g_memory)), (a_memoryLabels, .inl (cI, 64, .inl g_memoryLabels))] sz)) 0 0 (va_A [(h0, .inr (6, [.int v_thrown, .ref a_words, .int v_size, .ref a_rules, .int v_entries, .int v_outcome, .int v_pc, .int v_pcLabel, .ref a_registers, .ref a_registerLabels, .ref a_memory, .ref a_memoryLabels, .ref a_waiting, .ref a_waitingLabels, .int v_wait, .ref a_out, .ref a_outLabels, .int v_went, .int v_done, .int v_misses, .ref a_keys, .int v_known, .int v_group, .ref a_labels])), (a_registers, .inl (cI, 32, .inl g_registers)), (a_registerLabels, .inl (cI, 32, .inl g_registerLabels)), (a_memory, .inl (cI, 64, .inl g_memory)), (a_memoryLabels, .inl (cI, 64, .inl g_memoryLabels))] sz) := by
  refine Met.ofW (cc := c_Mo_clear) (maxL := 2) (ret := (some .int)) (by decide) rfl ?_
  intro p e s m args below meth c s₁ B hml hv
  obtain ⟨rfl, hsz, hP, hK, hD0⟩ := hv
  have hx := B.exec
  have hb := B.bytes
  have hr := B.returns
  have hts : ∀ w ∈ wG, w.before _ s = true := fun w h => atoms_spec (ws := w_Mo_clear) B.pre w (List.mem_cons_of_mem _ h)
  have hown : s.vm.findClass "LabelledCoreModel" = some m.cls := findClass_of_methodNamed B.named
  have hlocks := B.notSynchronized
  subst hsz
  have hD := hD0.self (sz := s.heap.size)
  generalize hAe : va_A [(h0, .inr (6, [.int v_thrown, .ref a_words, .int v_size, .ref a_rules, .int v_entries, .int v_outcome, .int v_pc, .int v_pcLabel, .ref a_registers, .ref a_registerLabels, .ref a_memory, .ref a_memoryLabels, .ref a_waiting, .ref a_waitingLabels, .int v_wait, .ref a_out, .ref a_outLabels, .int v_went, .int v_done, .int v_misses, .ref a_keys, .int v_known, .int v_group, .ref a_labels])), (a_registers, .inl (cI, 32, .inl g_registers)), (a_registerLabels, .inl (cI, 32, .inl g_registerLabels)), (a_memory, .inl (cI, 64, .inl g_memory)), (a_memoryLabels, .inl (cI, 64, .inl g_memoryLabels))] s.heap.size = A at hD ⊢
  have hA : ∀ q : Nat, s.heap.size ≤ q → A q := fun q h => by rw [← hAe]; exact Or.inr h
  have hS : va_S A s.heap s.heap [] := va_S.rf
  have hP : va_P (dC, dI) clsL [(h0, .inr (6, [.int v_thrown, .ref a_words, .int v_size, .ref a_rules, .int v_entries, .int v_outcome, .int v_pc, .int v_pcLabel, .ref a_registers, .ref a_registerLabels, .ref a_memory, .ref a_memoryLabels, .ref a_waiting, .ref a_waitingLabels, .int v_wait, .ref a_out, .ref a_outLabels, .int v_went, .int v_done, .int v_misses, .ref a_keys, .int v_known, .int v_group, .ref a_labels])), (a_registers, .inl (cI, 32, .inl g_registers)), (a_registerLabels, .inl (cI, 32, .inl g_registerLabels)), (a_memory, .inl (cI, 64, .inl g_memory)), (a_memoryLabels, .inl (cI, 64, .inl g_memoryLabels))] s.heap := hP
  have hl := lv_entry ([.ref h0]) (n := 2) (Nat.le_of_ble_eq_true rfl)
  rw [lg_entry_eq]
  generalize (lg_sl ([.ref h0]) ++ List.replicate (2 - (lg_sl ([.ref h0])).length) Slot.unset).toArray = ls at hl ⊢
  have hl : lv_has ls 2 [(0, .ref h0)] := hl
  refine lv_aload_n hx hb d_Mo_clear_0 rfl (lv_at hl 0 rfl) ?_
  refine va_get (D := (dC, dI)) (ci := 6) (v := .int v_size) (C := "LabelledCoreModel") (T := T_Mo) (N := 24) hx hb hts in_Mo hown hK hP 0 rfl rfl 2 (by decide) (hts _ wm_958) (fun _ h9 => h9) rfl d_Mo_clear_1 ?_
  refine lv_istore_n (lv' := [(1, .int v_size), (0, .ref h0)]) hx hb d_Mo_clear_4 rfl hl (by decide) rfl (fun ls hl => ?_)
  refine lv_aload_n hx hb d_Mo_clear_5 rfl (lv_at hl 1 rfl) ?_
  refine lv_iconst (v := 0) hx hb d_Mo_clear_6 (by decide) ?_
  refine va_put (D := (dC, dI)) (ci := 6) (v := .int 0) (ty := .int) (C := "LabelledCoreModel") (T := T_Mo) (N := 24) hx hb hts in_Mo t_Mo ty_Mo nm_Mo hown hK hP hD hS 0 rfl rfl 2 (by decide) (hts _ wm_958) (fun _ h9 => h9) rfl (by decide +kernel) rfl rfl (Nat.le_of_ble_eq_true rfl) d_Mo_clear_7 (fun H locs hP hD hS => ?_)
  have hP : va_P (dC, dI) clsL [(h0, .inr (6, [.int v_thrown, .ref a_words, .int 0, .ref a_rules, .int v_entries, .int v_outcome, .int v_pc, .int v_pcLabel, .ref a_registers, .ref a_registerLabels, .ref a_memory, .ref a_memoryLabels, .ref a_waiting, .ref a_waitingLabels, .int v_wait, .ref a_out, .ref a_outLabels, .int v_went, .int v_done, .int v_misses, .ref a_keys, .int v_known, .int v_group, .ref a_labels])), (a_registers, .inl (cI, 32, .inl g_registers)), (a_registerLabels, .inl (cI, 32, .inl g_registerLabels)), (a_memory, .inl (cI, 64, .inl g_memory)), (a_memoryLabels, .inl (cI, 64, .inl g_memoryLabels))] H := hP
  have hD : va_D A [(h0, .inr (6, [.int v_thrown, .ref a_words, .int 0, .ref a_rules, .int v_entries, .int v_outcome, .int v_pc, .int v_pcLabel, .ref a_registers, .ref a_registerLabels, .ref a_memory, .ref a_memoryLabels, .ref a_waiting, .ref a_waitingLabels, .int v_wait, .ref a_out, .ref a_outLabels, .int v_went, .int v_done, .int v_misses, .ref a_keys, .int v_known, .int v_group, .ref a_labels])), (a_registers, .inl (cI, 32, .inl g_registers)), (a_registerLabels, .inl (cI, 32, .inl g_registerLabels)), (a_memory, .inl (cI, 64, .inl g_memory)), (a_memoryLabels, .inl (cI, 64, .inl g_memoryLabels))] := hD
  refine lv_aload_n hx hb d_Mo_clear_10 rfl (lv_at hl 1 rfl) ?_
  have hPc := hP.sub (ws' := [(h0, .inr (6, [.int v_thrown, .ref a_words, .int 0, .ref a_rules, .int v_entries, .int v_outcome, .int v_pc, .int v_pcLabel, .ref a_registers, .ref a_registerLabels, .ref a_memory, .ref a_memoryLabels, .ref a_waiting, .ref a_waitingLabels, .int v_wait, .ref a_out, .ref a_outLabels, .int v_went, .int v_done, .int v_misses, .ref a_keys, .int v_known, .int v_group, .ref a_labels])), (a_registers, .inl (cI, 32, .inl g_registers)), (a_registerLabels, .inl (cI, 32, .inl g_registerLabels)), (a_memory, .inl (cI, 64, .inl g_memory)), (a_memoryLabels, .inl (cI, 64, .inl g_memoryLabels))]) [0, 1, 2, 3, 4] rfl
  have hDc := hD.sub (ws' := [(h0, .inr (6, [.int v_thrown, .ref a_words, .int 0, .ref a_rules, .int v_entries, .int v_outcome, .int v_pc, .int v_pcLabel, .ref a_registers, .ref a_registerLabels, .ref a_memory, .ref a_memoryLabels, .ref a_waiting, .ref a_waitingLabels, .int v_wait, .ref a_out, .ref a_outLabels, .int v_went, .int v_done, .int v_misses, .ref a_keys, .int v_known, .int v_group, .ref a_labels])), (a_registers, .inl (cI, 32, .inl g_registers)), (a_registerLabels, .inl (cI, 32, .inl g_registerLabels)), (a_memory, .inl (cI, 64, .inl g_memory)), (a_memoryLabels, .inl (cI, 64, .inl g_memoryLabels))]) [0, 1, 2, 3, 4] (by decide) rfl
  have hFc := va_free (wc := [(h0, .inr (6, [.int v_thrown, .ref a_words, .int 0, .ref a_rules, .int v_entries, .int v_outcome, .int v_pc, .int v_pcLabel, .ref a_registers, .ref a_registerLabels, .ref a_memory, .ref a_memoryLabels, .ref a_waiting, .ref a_waitingLabels, .int v_wait, .ref a_out, .ref a_outLabels, .int v_went, .int v_done, .int v_misses, .ref a_keys, .int v_known, .int v_group, .ref a_labels])), (a_registers, .inl (cI, 32, .inl g_registers)), (a_registerLabels, .inl (cI, 32, .inl g_registerLabels)), (a_memory, .inl (cI, 64, .inl g_memory)), (a_memoryLabels, .inl (cI, 64, .inl g_memoryLabels))]) hD hS hA [0, 1, 2, 3, 4] rfl
  refine va_callv (va_runV (As := []) (rest := []) ⟨hx, hb, hml, hown, hts⟩ (ct_Mo_begin l dC dI cI H.size h0 a_words a_rules a_registers a_registerLabels a_memory a_memoryLabels a_waiting a_waitingLabels a_out a_outLabels a_keys a_labels v_thrown 0 v_entries v_outcome v_pc v_pcLabel v_wait v_went v_done v_misses v_known v_group g_registers g_registerLabels g_memory g_memoryLabels) (cwV 0 hts (gV wm_1041 wm_1042 wm_1043 wm_42 wm_1044) rfl rfl rfl (by decide +kernel) ⟨Nat.le_of_ble_eq_true rfl, Nat.le_of_ble_eq_true rfl⟩) ⟨pcW_blind, va_recv hK hPc (ci := 6) (q0 := 0) rfl rfl, pcW_pre hPc hK hDc⟩ rfl rfl hl.1 rfl (lv_room (Nat.le_of_ble_eq_true rfl)) d_Mo_clear_11 ⟨Nat.le_of_ble_eq_true rfl, Nat.le_of_ble_eq_true rfl⟩) hS (fun q _ h => hFc q h) hFc (fun u t H1 locs ht hvm hw hB hz1 hk1 hS => ?_)
  obtain ⟨hP1, -, hD1⟩ := hB
  rw [ht] at hP1
  obtain ⟨hP, hD⟩ := va_join (wr := []) (w1 := [(h0, .inr (6, [.int ((f_Mo_begin g_registers g_registerLabels g_memory g_memoryLabels).1), .ref a_words, .int 0, .ref a_rules, .int v_entries, .int ((f_Mo_begin g_registers g_registerLabels g_memory g_memoryLabels).2.1), .int ((f_Mo_begin g_registers g_registerLabels g_memory g_memoryLabels).2.2.1), .int ((f_Mo_begin g_registers g_registerLabels g_memory g_memoryLabels).2.2.2.1), .ref a_registers, .ref a_registerLabels, .ref a_memory, .ref a_memoryLabels, .ref a_waiting, .ref a_waitingLabels, .int ((f_Mo_begin g_registers g_registerLabels g_memory g_memoryLabels).2.2.2.2.1), .ref a_out, .ref a_outLabels, .int ((f_Mo_begin g_registers g_registerLabels g_memory g_memoryLabels).2.2.2.2.2.1), .int ((f_Mo_begin g_registers g_registerLabels g_memory g_memoryLabels).2.2.2.2.2.2.1), .int ((f_Mo_begin g_registers g_registerLabels g_memory g_memoryLabels).2.2.2.2.2.2.2.1), .ref a_keys, .int ((f_Mo_begin g_registers g_registerLabels g_memory g_memoryLabels).2.2.2.2.2.2.2.2.1), .int v_group, .ref a_labels])), (a_registers, .inl (cI, 32, .inl ((f_Mo_begin g_registers g_registerLabels g_memory g_memoryLabels).2.2.2.2.2.2.2.2.2.1))), (a_registerLabels, .inl (cI, 32, .inl ((f_Mo_begin g_registers g_registerLabels g_memory g_memoryLabels).2.2.2.2.2.2.2.2.2.2.1))), (a_memory, .inl (cI, 64, .inl ((f_Mo_begin g_registers g_registerLabels g_memory g_memoryLabels).2.2.2.2.2.2.2.2.2.2.2.1))), (a_memoryLabels, .inl (cI, 64, .inl ((f_Mo_begin g_registers g_registerLabels g_memory g_memoryLabels).2.2.2.2.2.2.2.2.2.2.2.2)))]) hP hD [0, 1, 2, 3, 4] [] rfl rfl (by decide) (by decide) hk1 hFc hP1 hD1
  clear hFc hDc hPc hP1 hD1 hk1 hz1 hvm ht
  generalize H1 = H at hP hS ⊢
  have hP : va_P (dC, dI) clsL [(h0, .inr (6, [.int ((f_Mo_begin g_registers g_registerLabels g_memory g_memoryLabels).1), .ref a_words, .int 0, .ref a_rules, .int v_entries, .int ((f_Mo_begin g_registers g_registerLabels g_memory g_memoryLabels).2.1), .int ((f_Mo_begin g_registers g_registerLabels g_memory g_memoryLabels).2.2.1), .int ((f_Mo_begin g_registers g_registerLabels g_memory g_memoryLabels).2.2.2.1), .ref a_registers, .ref a_registerLabels, .ref a_memory, .ref a_memoryLabels, .ref a_waiting, .ref a_waitingLabels, .int ((f_Mo_begin g_registers g_registerLabels g_memory g_memoryLabels).2.2.2.2.1), .ref a_out, .ref a_outLabels, .int ((f_Mo_begin g_registers g_registerLabels g_memory g_memoryLabels).2.2.2.2.2.1), .int ((f_Mo_begin g_registers g_registerLabels g_memory g_memoryLabels).2.2.2.2.2.2.1), .int ((f_Mo_begin g_registers g_registerLabels g_memory g_memoryLabels).2.2.2.2.2.2.2.1), .ref a_keys, .int ((f_Mo_begin g_registers g_registerLabels g_memory g_memoryLabels).2.2.2.2.2.2.2.2.1), .int v_group, .ref a_labels])), (a_registers, .inl (cI, 32, .inl ((f_Mo_begin g_registers g_registerLabels g_memory g_memoryLabels).2.2.2.2.2.2.2.2.2.1))), (a_registerLabels, .inl (cI, 32, .inl ((f_Mo_begin g_registers g_registerLabels g_memory g_memoryLabels).2.2.2.2.2.2.2.2.2.2.1))), (a_memory, .inl (cI, 64, .inl ((f_Mo_begin g_registers g_registerLabels g_memory g_memoryLabels).2.2.2.2.2.2.2.2.2.2.2.1))), (a_memoryLabels, .inl (cI, 64, .inl ((f_Mo_begin g_registers g_registerLabels g_memory g_memoryLabels).2.2.2.2.2.2.2.2.2.2.2.2)))] H := hP
  have hD : va_D A [(h0, .inr (6, [.int ((f_Mo_begin g_registers g_registerLabels g_memory g_memoryLabels).1), .ref a_words, .int 0, .ref a_rules, .int v_entries, .int ((f_Mo_begin g_registers g_registerLabels g_memory g_memoryLabels).2.1), .int ((f_Mo_begin g_registers g_registerLabels g_memory g_memoryLabels).2.2.1), .int ((f_Mo_begin g_registers g_registerLabels g_memory g_memoryLabels).2.2.2.1), .ref a_registers, .ref a_registerLabels, .ref a_memory, .ref a_memoryLabels, .ref a_waiting, .ref a_waitingLabels, .int ((f_Mo_begin g_registers g_registerLabels g_memory g_memoryLabels).2.2.2.2.1), .ref a_out, .ref a_outLabels, .int ((f_Mo_begin g_registers g_registerLabels g_memory g_memoryLabels).2.2.2.2.2.1), .int ((f_Mo_begin g_registers g_registerLabels g_memory g_memoryLabels).2.2.2.2.2.2.1), .int ((f_Mo_begin g_registers g_registerLabels g_memory g_memoryLabels).2.2.2.2.2.2.2.1), .ref a_keys, .int ((f_Mo_begin g_registers g_registerLabels g_memory g_memoryLabels).2.2.2.2.2.2.2.2.1), .int v_group, .ref a_labels])), (a_registers, .inl (cI, 32, .inl ((f_Mo_begin g_registers g_registerLabels g_memory g_memoryLabels).2.2.2.2.2.2.2.2.2.1))), (a_registerLabels, .inl (cI, 32, .inl ((f_Mo_begin g_registers g_registerLabels g_memory g_memoryLabels).2.2.2.2.2.2.2.2.2.2.1))), (a_memory, .inl (cI, 64, .inl ((f_Mo_begin g_registers g_registerLabels g_memory g_memoryLabels).2.2.2.2.2.2.2.2.2.2.2.1))), (a_memoryLabels, .inl (cI, 64, .inl ((f_Mo_begin g_registers g_registerLabels g_memory g_memoryLabels).2.2.2.2.2.2.2.2.2.2.2.2)))] := hD
  refine lv_iload_n hx hb d_Mo_clear_14 rfl (lv_at hl 0 rfl) ?_
  have hP9 := hP.sub (ws' := [(h0, .inr (6, [.int ((f_Mo_begin g_registers g_registerLabels g_memory g_memoryLabels).1), .ref a_words, .int 0, .ref a_rules, .int v_entries, .int ((f_Mo_begin g_registers g_registerLabels g_memory g_memoryLabels).2.1), .int ((f_Mo_begin g_registers g_registerLabels g_memory g_memoryLabels).2.2.1), .int ((f_Mo_begin g_registers g_registerLabels g_memory g_memoryLabels).2.2.2.1), .ref a_registers, .ref a_registerLabels, .ref a_memory, .ref a_memoryLabels, .ref a_waiting, .ref a_waitingLabels, .int ((f_Mo_begin g_registers g_registerLabels g_memory g_memoryLabels).2.2.2.2.1), .ref a_out, .ref a_outLabels, .int ((f_Mo_begin g_registers g_registerLabels g_memory g_memoryLabels).2.2.2.2.2.1), .int ((f_Mo_begin g_registers g_registerLabels g_memory g_memoryLabels).2.2.2.2.2.2.1), .int ((f_Mo_begin g_registers g_registerLabels g_memory g_memoryLabels).2.2.2.2.2.2.2.1), .ref a_keys, .int ((f_Mo_begin g_registers g_registerLabels g_memory g_memoryLabels).2.2.2.2.2.2.2.2.1), .int v_group, .ref a_labels])), (a_registers, .inl (cI, 32, .inl ((f_Mo_begin g_registers g_registerLabels g_memory g_memoryLabels).2.2.2.2.2.2.2.2.2.1))), (a_registerLabels, .inl (cI, 32, .inl ((f_Mo_begin g_registers g_registerLabels g_memory g_memoryLabels).2.2.2.2.2.2.2.2.2.2.1))), (a_memory, .inl (cI, 64, .inl ((f_Mo_begin g_registers g_registerLabels g_memory g_memoryLabels).2.2.2.2.2.2.2.2.2.2.2.1))), (a_memoryLabels, .inl (cI, 64, .inl ((f_Mo_begin g_registers g_registerLabels g_memory g_memoryLabels).2.2.2.2.2.2.2.2.2.2.2.2)))]) [0, 1, 2, 3, 4] rfl
  have hD9 := hD.sub (ws' := [(h0, .inr (6, [.int ((f_Mo_begin g_registers g_registerLabels g_memory g_memoryLabels).1), .ref a_words, .int 0, .ref a_rules, .int v_entries, .int ((f_Mo_begin g_registers g_registerLabels g_memory g_memoryLabels).2.1), .int ((f_Mo_begin g_registers g_registerLabels g_memory g_memoryLabels).2.2.1), .int ((f_Mo_begin g_registers g_registerLabels g_memory g_memoryLabels).2.2.2.1), .ref a_registers, .ref a_registerLabels, .ref a_memory, .ref a_memoryLabels, .ref a_waiting, .ref a_waitingLabels, .int ((f_Mo_begin g_registers g_registerLabels g_memory g_memoryLabels).2.2.2.2.1), .ref a_out, .ref a_outLabels, .int ((f_Mo_begin g_registers g_registerLabels g_memory g_memoryLabels).2.2.2.2.2.1), .int ((f_Mo_begin g_registers g_registerLabels g_memory g_memoryLabels).2.2.2.2.2.2.1), .int ((f_Mo_begin g_registers g_registerLabels g_memory g_memoryLabels).2.2.2.2.2.2.2.1), .ref a_keys, .int ((f_Mo_begin g_registers g_registerLabels g_memory g_memoryLabels).2.2.2.2.2.2.2.2.1), .int v_group, .ref a_labels])), (a_registers, .inl (cI, 32, .inl ((f_Mo_begin g_registers g_registerLabels g_memory g_memoryLabels).2.2.2.2.2.2.2.2.2.1))), (a_registerLabels, .inl (cI, 32, .inl ((f_Mo_begin g_registers g_registerLabels g_memory g_memoryLabels).2.2.2.2.2.2.2.2.2.2.1))), (a_memory, .inl (cI, 64, .inl ((f_Mo_begin g_registers g_registerLabels g_memory g_memoryLabels).2.2.2.2.2.2.2.2.2.2.2.1))), (a_memoryLabels, .inl (cI, 64, .inl ((f_Mo_begin g_registers g_registerLabels g_memory g_memoryLabels).2.2.2.2.2.2.2.2.2.2.2.2)))]) [0, 1, 2, 3, 4] (by decide) rfl
  exact W.iret (v := v_size) hx hb hr (fun t ht hW => ⟨⟨v_size, (), rfl, rfl, by rw [ht]; exact hP9, va_K.moved hW.alike hK, hD9⟩, hS.F ht⟩) hS.2.2 d_Mo_clear_15
def lp_Mo_isKnown_2 (v_known : Int32) (v_group : Int32) (g_keys : Nat → Int32) (g_labels : Nat → Int32) : Nat → (Int32) → Int32
  | 0, _ => 0
  | fu + 1, y_1 =>
    if v_known ≤ y_1 then
      0
    else
      if (g_keys (Int32.toNatClampNeg (5 * y_1))) = v_group then
        if (g_keys (Int32.toNatClampNeg (((5 * y_1) + 1) + 0))) = (g_labels (Int32.toNatClampNeg 0)) then
          if (g_keys (Int32.toNatClampNeg (((5 * y_1) + 1) + 1))) = (g_labels (Int32.toNatClampNeg 1)) then
            if (g_keys (Int32.toNatClampNeg (((5 * y_1) + 1) + 2))) = (g_labels (Int32.toNatClampNeg 2)) then
              if (g_keys (Int32.toNatClampNeg (((5 * y_1) + 1) + 3))) = (g_labels (Int32.toNatClampNeg 3)) then
                1
              else
                (lp_Mo_isKnown_2 v_known v_group g_keys g_labels fu (y_1 + 1))
            else
              (lp_Mo_isKnown_2 v_known v_group g_keys g_labels fu (y_1 + 1))
          else
            (lp_Mo_isKnown_2 v_known v_group g_keys g_labels fu (y_1 + 1))
        else
          (lp_Mo_isKnown_2 v_known v_group g_keys g_labels fu (y_1 + 1))
      else
        (lp_Mo_isKnown_2 v_known v_group g_keys g_labels fu (y_1 + 1))
def f_Mo_isKnown (v_known : Int32) (v_group : Int32) (g_keys : Nat → Int32) (g_labels : Nat → Int32) : Int32 :=
  (lp_Mo_isKnown_2 v_known v_group g_keys g_labels (65) 0)
set_option maxHeartbeats 4000000 in
set_option maxRecDepth 100000 in
theorem ct_Mo_isKnown (l : Launch) (dC : Nat → ClassId) (dI : Nat → Nat → Nat) (cI : ClassId) (h0 a_words a_rules a_registers a_registerLabels a_memory a_memoryLabels a_waiting a_waitingLabels a_out a_outLabels a_keys a_labels : Nat) (v_thrown : Int32) (v_size : Int32) (v_entries : Int32) (v_outcome : Int32) (v_pc : Int32) (v_pcLabel : Int32) (v_wait : Int32) (v_went : Int32) (v_done : Int32) (v_misses : Int32) (v_known : Int32) (v_group : Int32) (g_keys : Nat → Int32) (g_labels : Nat → Int32) (hct : ∃ ct : Nat, ct ≤ 64 ∧ v_known = nI ct) : Met l y_Mo_isKnown w_Mo_isKnown ({ frames := 0, cells := 0, slots := 0, locals := 0 }) (pcR dC dI cI [(h0, .inr (6, [.int v_thrown, .ref a_words, .int v_size, .ref a_rules, .int v_entries, .int v_outcome, .int v_pc, .int v_pcLabel, .ref a_registers, .ref a_registerLabels, .ref a_memory, .ref a_memoryLabels, .ref a_waiting, .ref a_waitingLabels, .int v_wait, .ref a_out, .ref a_outLabels, .int v_went, .int v_done, .int v_misses, .ref a_keys, .int v_known, .int v_group, .ref a_labels])), (a_keys, .inl (cI, 320, .inl g_keys)), (a_labels, .inl (cI, 4, .inl g_labels))] [.ref h0]) (QcRead (f_Mo_isKnown v_known v_group g_keys g_labels)) 0 0 (fun _ => False) := by
  refine Met.ofW (cc := c_Mo_isKnown) (maxL := 4) (ret := (some .boolean)) (by decide) rfl ?_
  intro p e s m args below meth c s₁ B hml hv
  obtain ⟨rfl, hP, hK⟩ := hv
  have hx := B.exec
  have hb := B.bytes
  have hr := B.returns
  have hts : ∀ w ∈ wG, w.before _ s = true := fun w h => atoms_spec (ws := w_Mo_isKnown) B.pre w (List.mem_cons_of_mem _ h)
  have hown : s.vm.findClass "LabelledCoreModel" = some m.cls := findClass_of_methodNamed B.named
  have hlocks := B.notSynchronized
  have hl := lv_entry ([.ref h0]) (n := 4) (Nat.le_of_ble_eq_true rfl)
  rw [lg_entry_eq]
  generalize (lg_sl ([.ref h0]) ++ List.replicate (4 - (lg_sl ([.ref h0])).length) Slot.unset).toArray = ls at hl ⊢
  have hl : lv_has ls 4 [(0, .ref h0)] := hl
  refine lv_iconst (v := 0) hx hb d_Mo_isKnown_0 (by decide) ?_
  refine lv_istore_n (lv' := [(1, .int 0), (0, .ref h0)]) hx hb d_Mo_isKnown_1 rfl hl (by decide) rfl (fun ls hl => ?_)
  have hloop_2 : ∀ (fu : Nat) (y_1 : Int32), ((f_Mo_isKnown v_known v_group g_keys g_labels) = (lp_Mo_isKnown_2 v_known v_group g_keys g_labels fu y_1)) → (∃ i ct : Nat, y_1 = nI i ∧ v_known = nI ct ∧ ct ≤ 64 ∧ i ≤ ct ∧ 65 ≤ i + fu) → ∀ (ls : Array Slot), lv_has ls 4 [(1, .int y_1), (0, .ref h0)] → W p l e (headSpec w_Mo_isKnown ({ frames := 0, cells := 0, slots := 0, locals := 0 })).room s m ([.ref h0] : List Value).toArray below meth c s.heap [] 0 0 (MQ below (QcRead (f_Mo_isKnown v_known v_group g_keys g_labels)) ([.ref h0] : List Value).toArray s 0 0 (fun _ => False)) (F0 m 2 ls []) := by
    intro fu
    induction fu with
    | zero =>
      intro y_1 he_2 hinv
      exact absurd hinv (by rintro ⟨i, ct, -, -, h1, h2, h3⟩; omega)
    | succ fu ih_2 =>
      intro y_1 he_2 hinv ls hl
      refine lv_iload_n hx hb d_Mo_isKnown_2 rfl (lv_at hl 0 rfl) ?_
      refine lv_aload_n hx hb d_Mo_isKnown_3 rfl (lv_at hl 1 rfl) ?_
      refine va_get (D := (dC, dI)) (ci := 6) (v := .int v_known) (C := "LabelledCoreModel") (T := T_Mo) (N := 24) hx hb hts in_Mo hown hK hP 0 rfl rfl 21 (by decide) (hts _ wm_977) (fun _ h9 => h9) rfl d_Mo_isKnown_4 ?_
      refine lv_icmp_ge (tgt := 87) hx hb d_Mo_isKnown_7 (by decide) (fun c_1 => ?_) (fun c_1 => ?_)
      · refine lv_iconst (v := 0) hx hb d_Mo_isKnown_87 (by decide) ?_
        have ef : (f_Mo_isKnown v_known v_group g_keys g_labels) = (0 : Int32) := he_2.trans ((if_pos c_1).trans rfl)
        exact W.zret (v := 0) hx hb hr rfl (fun t ht hW => ⟨by rw [ef], ht⟩) (fun _ h => by cases h) d_Mo_isKnown_88
      · refine lv_aload_n hx hb d_Mo_isKnown_10 rfl (lv_at hl 1 rfl) ?_
        refine va_get (D := (dC, dI)) (ci := 6) (v := .ref a_keys) (C := "LabelledCoreModel") (T := T_Mo) (N := 24) hx hb hts in_Mo hown hK hP 0 rfl rfl 20 (by decide) (hts _ wm_976) (fun _ h9 => h9) rfl d_Mo_isKnown_11 ?_
        refine lv_iconst (v := 5) hx hb d_Mo_isKnown_14 (by decide) ?_
        refine lv_iload_n hx hb d_Mo_isKnown_15 rfl (lv_at hl 0 rfl) ?_
        refine lv_imul hx hb d_Mo_isKnown_16 ?_
        refine va_iald hx hb hK hP 1 0 rfl rfl (by obtain ⟨i, ct, e, e2, h1, h2, h3⟩ := hinv; exact in_key0 e (Nat.lt_of_lt_of_le (lt_ct e e2 h1 h2 (by assumption)) h1)) d_Mo_isKnown_17 ?_
        refine lv_aload_n hx hb d_Mo_isKnown_18 rfl (lv_at hl 1 rfl) ?_
        refine va_get (D := (dC, dI)) (ci := 6) (v := .int v_group) (C := "LabelledCoreModel") (T := T_Mo) (N := 24) hx hb hts in_Mo hown hK hP 0 rfl rfl 22 (by decide) (hts _ wm_978) (fun _ h9 => h9) rfl d_Mo_isKnown_19 ?_
        refine lv_icmp_ne (tgt := 29) hx hb d_Mo_isKnown_22 (by decide) (fun c_2 => ?_) (fun c_2 => ?_)
        · refine lv_iconst (v := 0) hx hb d_Mo_isKnown_29 (by decide) ?_
          refine lv_istore_n (lv' := [(2, .int 0), (1, .int y_1), (0, .ref h0)]) hx hb d_Mo_isKnown_30 rfl hl (by decide) rfl (fun ls hl => ?_)
          refine lv_iconst (v := 0) hx hb d_Mo_isKnown_31 (by decide) ?_
          refine lv_istore_n (lv' := [(3, .int 0), (2, .int 0), (1, .int y_1), (0, .ref h0)]) hx hb d_Mo_isKnown_32 rfl hl (by decide) rfl (fun ls hl => ?_)
          refine lv_iload_n hx hb d_Mo_isKnown_33 rfl (lv_at hl 0 rfl) ?_
          refine lv_iconst (v := 4) hx hb d_Mo_isKnown_34 (by decide) ?_
          refine lv_icmp_ge (tgt := 75) hx hb d_Mo_isKnown_35 (by decide) (fun c_3 => absurd c_3 (by decide)) (fun c_3 => ?_)
          refine lv_iload_n hx hb d_Mo_isKnown_38 rfl (lv_at hl 1 rfl) ?_
          refine lv_if_eq (tgt := 67) hx hb d_Mo_isKnown_39 (by decide) (fun c_4 => ?_) (fun c_4 => absurd (by decide) c_4)
          refine lv_iconst (v := 0) hx hb d_Mo_isKnown_67 (by decide) ?_
          refine lv_istore_n (lv' := [(2, .int 0), (3, .int 0), (1, .int y_1), (0, .ref h0)]) hx hb d_Mo_isKnown_68 rfl hl (by decide) rfl (fun ls hl => ?_)
          refine lv_iinc (v := 1) (lv' := [(3, .int 1), (2, .int 0), (1, .int y_1), (0, .ref h0)]) hx hb d_Mo_isKnown_69 hl (k := 1) rfl (by decide) (by decide) rfl (fun ls hl => ?_)
          refine lv_goto (tgt := 33) hx hb d_Mo_isKnown_72 (by decide) ?_
          refine lv_iload_n hx hb d_Mo_isKnown_33 rfl (lv_at hl 0 rfl) ?_
          refine lv_iconst (v := 4) hx hb d_Mo_isKnown_34 (by decide) ?_
          refine lv_icmp_ge (tgt := 75) hx hb d_Mo_isKnown_35 (by decide) (fun c_5 => absurd c_5 (by decide)) (fun c_5 => ?_)
          refine lv_iload_n hx hb d_Mo_isKnown_38 rfl (lv_at hl 1 rfl) ?_
          refine lv_if_eq (tgt := 67) hx hb d_Mo_isKnown_39 (by decide) (fun c_6 => ?_) (fun c_6 => absurd (by decide) c_6)
          refine lv_iconst (v := 0) hx hb d_Mo_isKnown_67 (by decide) ?_
          refine lv_istore_n (lv' := [(2, .int 0), (3, .int 1), (1, .int y_1), (0, .ref h0)]) hx hb d_Mo_isKnown_68 rfl hl (by decide) rfl (fun ls hl => ?_)
          refine lv_iinc (v := 2) (lv' := [(3, .int 2), (2, .int 0), (1, .int y_1), (0, .ref h0)]) hx hb d_Mo_isKnown_69 hl (k := 1) rfl (by decide) (by decide) rfl (fun ls hl => ?_)
          refine lv_goto (tgt := 33) hx hb d_Mo_isKnown_72 (by decide) ?_
          refine lv_iload_n hx hb d_Mo_isKnown_33 rfl (lv_at hl 0 rfl) ?_
          refine lv_iconst (v := 4) hx hb d_Mo_isKnown_34 (by decide) ?_
          refine lv_icmp_ge (tgt := 75) hx hb d_Mo_isKnown_35 (by decide) (fun c_7 => absurd c_7 (by decide)) (fun c_7 => ?_)
          refine lv_iload_n hx hb d_Mo_isKnown_38 rfl (lv_at hl 1 rfl) ?_
          refine lv_if_eq (tgt := 67) hx hb d_Mo_isKnown_39 (by decide) (fun c_8 => ?_) (fun c_8 => absurd (by decide) c_8)
          refine lv_iconst (v := 0) hx hb d_Mo_isKnown_67 (by decide) ?_
          refine lv_istore_n (lv' := [(2, .int 0), (3, .int 2), (1, .int y_1), (0, .ref h0)]) hx hb d_Mo_isKnown_68 rfl hl (by decide) rfl (fun ls hl => ?_)
          refine lv_iinc (v := 3) (lv' := [(3, .int 3), (2, .int 0), (1, .int y_1), (0, .ref h0)]) hx hb d_Mo_isKnown_69 hl (k := 1) rfl (by decide) (by decide) rfl (fun ls hl => ?_)
          refine lv_goto (tgt := 33) hx hb d_Mo_isKnown_72 (by decide) ?_
          refine lv_iload_n hx hb d_Mo_isKnown_33 rfl (lv_at hl 0 rfl) ?_
          refine lv_iconst (v := 4) hx hb d_Mo_isKnown_34 (by decide) ?_
          refine lv_icmp_ge (tgt := 75) hx hb d_Mo_isKnown_35 (by decide) (fun c_9 => absurd c_9 (by decide)) (fun c_9 => ?_)
          refine lv_iload_n hx hb d_Mo_isKnown_38 rfl (lv_at hl 1 rfl) ?_
          refine lv_if_eq (tgt := 67) hx hb d_Mo_isKnown_39 (by decide) (fun c_10 => ?_) (fun c_10 => absurd (by decide) c_10)
          refine lv_iconst (v := 0) hx hb d_Mo_isKnown_67 (by decide) ?_
          refine lv_istore_n (lv' := [(2, .int 0), (3, .int 3), (1, .int y_1), (0, .ref h0)]) hx hb d_Mo_isKnown_68 rfl hl (by decide) rfl (fun ls hl => ?_)
          refine lv_iinc (v := 4) (lv' := [(3, .int 4), (2, .int 0), (1, .int y_1), (0, .ref h0)]) hx hb d_Mo_isKnown_69 hl (k := 1) rfl (by decide) (by decide) rfl (fun ls hl => ?_)
          refine lv_goto (tgt := 33) hx hb d_Mo_isKnown_72 (by decide) ?_
          refine lv_iload_n hx hb d_Mo_isKnown_33 rfl (lv_at hl 0 rfl) ?_
          refine lv_iconst (v := 4) hx hb d_Mo_isKnown_34 (by decide) ?_
          refine lv_icmp_ge (tgt := 75) hx hb d_Mo_isKnown_35 (by decide) (fun c_11 => ?_) (fun c_11 => absurd (by decide) c_11)
          refine lv_iload_n hx hb d_Mo_isKnown_75 rfl (lv_at hl 1 rfl) ?_
          refine lv_if_eq (tgt := 81) hx hb d_Mo_isKnown_76 (by decide) (fun c_12 => ?_) (fun c_12 => absurd (by decide) c_12)
          refine lv_iinc (v := (y_1 + 1)) (lv' := [(1, .int (y_1 + 1)), (3, .int 4), (2, .int 0), (0, .ref h0)]) hx hb d_Mo_isKnown_81 hl (k := 2) rfl rfl (by decide) rfl (fun ls hl => ?_)
          refine lv_goto (tgt := 2) hx hb d_Mo_isKnown_84 (by decide) ?_
          have hc0 := c_1
          have hc1 := c_2
          exact ih_2 (y_1 + 1) (he_2.trans ((if_neg c_1).trans ((if_neg c_2).trans rfl))) (by obtain ⟨i, ct, e, e2, h1, h2, h3⟩ := hinv; exact ⟨i + 1, ct, by rw [e]; exact nI_1 i, e2, h1, lt_ct e e2 h1 h2 hc0, by omega⟩)  ls (lv_sub hl [0, 3] rfl)
        · refine lv_iconst (v := 1) hx hb d_Mo_isKnown_25 (by decide) ?_
          refine lv_goto (tgt := 30) hx hb d_Mo_isKnown_26 (by decide) ?_
          refine lv_istore_n (lv' := [(2, .int 1), (1, .int y_1), (0, .ref h0)]) hx hb d_Mo_isKnown_30 rfl hl (by decide) rfl (fun ls hl => ?_)
          refine lv_iconst (v := 0) hx hb d_Mo_isKnown_31 (by decide) ?_
          refine lv_istore_n (lv' := [(3, .int 0), (2, .int 1), (1, .int y_1), (0, .ref h0)]) hx hb d_Mo_isKnown_32 rfl hl (by decide) rfl (fun ls hl => ?_)
          refine lv_iload_n hx hb d_Mo_isKnown_33 rfl (lv_at hl 0 rfl) ?_
          refine lv_iconst (v := 4) hx hb d_Mo_isKnown_34 (by decide) ?_
          refine lv_icmp_ge (tgt := 75) hx hb d_Mo_isKnown_35 (by decide) (fun c_13 => absurd c_13 (by decide)) (fun c_13 => ?_)
          refine lv_iload_n hx hb d_Mo_isKnown_38 rfl (lv_at hl 1 rfl) ?_
          refine lv_if_eq (tgt := 67) hx hb d_Mo_isKnown_39 (by decide) (fun c_14 => absurd c_14 (by decide)) (fun c_14 => ?_)
          refine lv_aload_n hx hb d_Mo_isKnown_42 rfl (lv_at hl 3 rfl) ?_
          refine va_get (D := (dC, dI)) (ci := 6) (v := .ref a_keys) (C := "LabelledCoreModel") (T := T_Mo) (N := 24) hx hb hts in_Mo hown hK hP 0 rfl rfl 20 (by decide) (hts _ wm_976) (fun _ h9 => h9) rfl d_Mo_isKnown_43 ?_
          refine lv_iconst (v := 5) hx hb d_Mo_isKnown_46 (by decide) ?_
          refine lv_iload_n hx hb d_Mo_isKnown_47 rfl (lv_at hl 2 rfl) ?_
          refine lv_imul hx hb d_Mo_isKnown_48 ?_
          refine lv_iconst (v := 1) hx hb d_Mo_isKnown_49 (by decide) ?_
          refine lv_iadd hx hb d_Mo_isKnown_50 ?_
          refine lv_iload_n hx hb d_Mo_isKnown_51 rfl (lv_at hl 0 rfl) ?_
          refine lv_iadd hx hb d_Mo_isKnown_52 ?_
          refine va_iald hx hb hK hP 1 0 rfl rfl (by obtain ⟨i, ct, e, e2, h1, h2, h3⟩ := hinv; exact in_keyj 0 e (Nat.lt_of_lt_of_le (lt_ct e e2 h1 h2 (by assumption)) h1) (by omega)) d_Mo_isKnown_53 ?_
          refine lv_aload_n hx hb d_Mo_isKnown_54 rfl (lv_at hl 3 rfl) ?_
          refine va_get (D := (dC, dI)) (ci := 6) (v := .ref a_labels) (C := "LabelledCoreModel") (T := T_Mo) (N := 24) hx hb hts in_Mo hown hK hP 0 rfl rfl 23 (by decide) (hts _ wm_979) (fun _ h9 => h9) rfl d_Mo_isKnown_55 ?_
          refine lv_iload_n hx hb d_Mo_isKnown_58 rfl (lv_at hl 0 rfl) ?_
          refine va_iald hx hb hK hP 2 0 rfl rfl (by unfold vp_in; decide) d_Mo_isKnown_59 ?_
          refine lv_icmp_ne (tgt := 67) hx hb d_Mo_isKnown_60 (by decide) (fun c_15 => ?_) (fun c_15 => ?_)
          · refine lv_iconst (v := 0) hx hb d_Mo_isKnown_67 (by decide) ?_
            refine lv_istore_n (lv' := [(2, .int 0), (3, .int 0), (1, .int y_1), (0, .ref h0)]) hx hb d_Mo_isKnown_68 rfl hl (by decide) rfl (fun ls hl => ?_)
            refine lv_iinc (v := 1) (lv' := [(3, .int 1), (2, .int 0), (1, .int y_1), (0, .ref h0)]) hx hb d_Mo_isKnown_69 hl (k := 1) rfl (by decide) (by decide) rfl (fun ls hl => ?_)
            refine lv_goto (tgt := 33) hx hb d_Mo_isKnown_72 (by decide) ?_
            refine lv_iload_n hx hb d_Mo_isKnown_33 rfl (lv_at hl 0 rfl) ?_
            refine lv_iconst (v := 4) hx hb d_Mo_isKnown_34 (by decide) ?_
            refine lv_icmp_ge (tgt := 75) hx hb d_Mo_isKnown_35 (by decide) (fun c_16 => absurd c_16 (by decide)) (fun c_16 => ?_)
            refine lv_iload_n hx hb d_Mo_isKnown_38 rfl (lv_at hl 1 rfl) ?_
            refine lv_if_eq (tgt := 67) hx hb d_Mo_isKnown_39 (by decide) (fun c_17 => ?_) (fun c_17 => absurd (by decide) c_17)
            refine lv_iconst (v := 0) hx hb d_Mo_isKnown_67 (by decide) ?_
            refine lv_istore_n (lv' := [(2, .int 0), (3, .int 1), (1, .int y_1), (0, .ref h0)]) hx hb d_Mo_isKnown_68 rfl hl (by decide) rfl (fun ls hl => ?_)
            refine lv_iinc (v := 2) (lv' := [(3, .int 2), (2, .int 0), (1, .int y_1), (0, .ref h0)]) hx hb d_Mo_isKnown_69 hl (k := 1) rfl (by decide) (by decide) rfl (fun ls hl => ?_)
            refine lv_goto (tgt := 33) hx hb d_Mo_isKnown_72 (by decide) ?_
            refine lv_iload_n hx hb d_Mo_isKnown_33 rfl (lv_at hl 0 rfl) ?_
            refine lv_iconst (v := 4) hx hb d_Mo_isKnown_34 (by decide) ?_
            refine lv_icmp_ge (tgt := 75) hx hb d_Mo_isKnown_35 (by decide) (fun c_18 => absurd c_18 (by decide)) (fun c_18 => ?_)
            refine lv_iload_n hx hb d_Mo_isKnown_38 rfl (lv_at hl 1 rfl) ?_
            refine lv_if_eq (tgt := 67) hx hb d_Mo_isKnown_39 (by decide) (fun c_19 => ?_) (fun c_19 => absurd (by decide) c_19)
            refine lv_iconst (v := 0) hx hb d_Mo_isKnown_67 (by decide) ?_
            refine lv_istore_n (lv' := [(2, .int 0), (3, .int 2), (1, .int y_1), (0, .ref h0)]) hx hb d_Mo_isKnown_68 rfl hl (by decide) rfl (fun ls hl => ?_)
            refine lv_iinc (v := 3) (lv' := [(3, .int 3), (2, .int 0), (1, .int y_1), (0, .ref h0)]) hx hb d_Mo_isKnown_69 hl (k := 1) rfl (by decide) (by decide) rfl (fun ls hl => ?_)
            refine lv_goto (tgt := 33) hx hb d_Mo_isKnown_72 (by decide) ?_
            refine lv_iload_n hx hb d_Mo_isKnown_33 rfl (lv_at hl 0 rfl) ?_
            refine lv_iconst (v := 4) hx hb d_Mo_isKnown_34 (by decide) ?_
            refine lv_icmp_ge (tgt := 75) hx hb d_Mo_isKnown_35 (by decide) (fun c_20 => absurd c_20 (by decide)) (fun c_20 => ?_)
            refine lv_iload_n hx hb d_Mo_isKnown_38 rfl (lv_at hl 1 rfl) ?_
            refine lv_if_eq (tgt := 67) hx hb d_Mo_isKnown_39 (by decide) (fun c_21 => ?_) (fun c_21 => absurd (by decide) c_21)
            refine lv_iconst (v := 0) hx hb d_Mo_isKnown_67 (by decide) ?_
            refine lv_istore_n (lv' := [(2, .int 0), (3, .int 3), (1, .int y_1), (0, .ref h0)]) hx hb d_Mo_isKnown_68 rfl hl (by decide) rfl (fun ls hl => ?_)
            refine lv_iinc (v := 4) (lv' := [(3, .int 4), (2, .int 0), (1, .int y_1), (0, .ref h0)]) hx hb d_Mo_isKnown_69 hl (k := 1) rfl (by decide) (by decide) rfl (fun ls hl => ?_)
            refine lv_goto (tgt := 33) hx hb d_Mo_isKnown_72 (by decide) ?_
            refine lv_iload_n hx hb d_Mo_isKnown_33 rfl (lv_at hl 0 rfl) ?_
            refine lv_iconst (v := 4) hx hb d_Mo_isKnown_34 (by decide) ?_
            refine lv_icmp_ge (tgt := 75) hx hb d_Mo_isKnown_35 (by decide) (fun c_22 => ?_) (fun c_22 => absurd (by decide) c_22)
            refine lv_iload_n hx hb d_Mo_isKnown_75 rfl (lv_at hl 1 rfl) ?_
            refine lv_if_eq (tgt := 81) hx hb d_Mo_isKnown_76 (by decide) (fun c_23 => ?_) (fun c_23 => absurd (by decide) c_23)
            refine lv_iinc (v := (y_1 + 1)) (lv' := [(1, .int (y_1 + 1)), (3, .int 4), (2, .int 0), (0, .ref h0)]) hx hb d_Mo_isKnown_81 hl (k := 2) rfl rfl (by decide) rfl (fun ls hl => ?_)
            refine lv_goto (tgt := 2) hx hb d_Mo_isKnown_84 (by decide) ?_
            have hc0 := c_1
            have hc1 := c_2
            have hc2 := c_15
            exact ih_2 (y_1 + 1) (he_2.trans ((if_neg c_1).trans ((if_pos c_2).trans ((if_neg c_15).trans rfl)))) (by obtain ⟨i, ct, e, e2, h1, h2, h3⟩ := hinv; exact ⟨i + 1, ct, by rw [e]; exact nI_1 i, e2, h1, lt_ct e e2 h1 h2 hc0, by omega⟩)  ls (lv_sub hl [0, 3] rfl)
          · refine lv_iconst (v := 1) hx hb d_Mo_isKnown_63 (by decide) ?_
            refine lv_goto (tgt := 68) hx hb d_Mo_isKnown_64 (by decide) ?_
            refine lv_istore_n (lv' := [(2, .int 1), (3, .int 0), (1, .int y_1), (0, .ref h0)]) hx hb d_Mo_isKnown_68 rfl hl (by decide) rfl (fun ls hl => ?_)
            refine lv_iinc (v := 1) (lv' := [(3, .int 1), (2, .int 1), (1, .int y_1), (0, .ref h0)]) hx hb d_Mo_isKnown_69 hl (k := 1) rfl (by decide) (by decide) rfl (fun ls hl => ?_)
            refine lv_goto (tgt := 33) hx hb d_Mo_isKnown_72 (by decide) ?_
            refine lv_iload_n hx hb d_Mo_isKnown_33 rfl (lv_at hl 0 rfl) ?_
            refine lv_iconst (v := 4) hx hb d_Mo_isKnown_34 (by decide) ?_
            refine lv_icmp_ge (tgt := 75) hx hb d_Mo_isKnown_35 (by decide) (fun c_24 => absurd c_24 (by decide)) (fun c_24 => ?_)
            refine lv_iload_n hx hb d_Mo_isKnown_38 rfl (lv_at hl 1 rfl) ?_
            refine lv_if_eq (tgt := 67) hx hb d_Mo_isKnown_39 (by decide) (fun c_25 => absurd c_25 (by decide)) (fun c_25 => ?_)
            refine lv_aload_n hx hb d_Mo_isKnown_42 rfl (lv_at hl 3 rfl) ?_
            refine va_get (D := (dC, dI)) (ci := 6) (v := .ref a_keys) (C := "LabelledCoreModel") (T := T_Mo) (N := 24) hx hb hts in_Mo hown hK hP 0 rfl rfl 20 (by decide) (hts _ wm_976) (fun _ h9 => h9) rfl d_Mo_isKnown_43 ?_
            refine lv_iconst (v := 5) hx hb d_Mo_isKnown_46 (by decide) ?_
            refine lv_iload_n hx hb d_Mo_isKnown_47 rfl (lv_at hl 2 rfl) ?_
            refine lv_imul hx hb d_Mo_isKnown_48 ?_
            refine lv_iconst (v := 1) hx hb d_Mo_isKnown_49 (by decide) ?_
            refine lv_iadd hx hb d_Mo_isKnown_50 ?_
            refine lv_iload_n hx hb d_Mo_isKnown_51 rfl (lv_at hl 0 rfl) ?_
            refine lv_iadd hx hb d_Mo_isKnown_52 ?_
            refine va_iald hx hb hK hP 1 0 rfl rfl (by obtain ⟨i, ct, e, e2, h1, h2, h3⟩ := hinv; exact in_keyj 1 e (Nat.lt_of_lt_of_le (lt_ct e e2 h1 h2 (by assumption)) h1) (by omega)) d_Mo_isKnown_53 ?_
            refine lv_aload_n hx hb d_Mo_isKnown_54 rfl (lv_at hl 3 rfl) ?_
            refine va_get (D := (dC, dI)) (ci := 6) (v := .ref a_labels) (C := "LabelledCoreModel") (T := T_Mo) (N := 24) hx hb hts in_Mo hown hK hP 0 rfl rfl 23 (by decide) (hts _ wm_979) (fun _ h9 => h9) rfl d_Mo_isKnown_55 ?_
            refine lv_iload_n hx hb d_Mo_isKnown_58 rfl (lv_at hl 0 rfl) ?_
            refine va_iald hx hb hK hP 2 0 rfl rfl (by unfold vp_in; decide) d_Mo_isKnown_59 ?_
            refine lv_icmp_ne (tgt := 67) hx hb d_Mo_isKnown_60 (by decide) (fun c_26 => ?_) (fun c_26 => ?_)
            · refine lv_iconst (v := 0) hx hb d_Mo_isKnown_67 (by decide) ?_
              refine lv_istore_n (lv' := [(2, .int 0), (3, .int 1), (1, .int y_1), (0, .ref h0)]) hx hb d_Mo_isKnown_68 rfl hl (by decide) rfl (fun ls hl => ?_)
              refine lv_iinc (v := 2) (lv' := [(3, .int 2), (2, .int 0), (1, .int y_1), (0, .ref h0)]) hx hb d_Mo_isKnown_69 hl (k := 1) rfl (by decide) (by decide) rfl (fun ls hl => ?_)
              refine lv_goto (tgt := 33) hx hb d_Mo_isKnown_72 (by decide) ?_
              refine lv_iload_n hx hb d_Mo_isKnown_33 rfl (lv_at hl 0 rfl) ?_
              refine lv_iconst (v := 4) hx hb d_Mo_isKnown_34 (by decide) ?_
              refine lv_icmp_ge (tgt := 75) hx hb d_Mo_isKnown_35 (by decide) (fun c_27 => absurd c_27 (by decide)) (fun c_27 => ?_)
              refine lv_iload_n hx hb d_Mo_isKnown_38 rfl (lv_at hl 1 rfl) ?_
              refine lv_if_eq (tgt := 67) hx hb d_Mo_isKnown_39 (by decide) (fun c_28 => ?_) (fun c_28 => absurd (by decide) c_28)
              refine lv_iconst (v := 0) hx hb d_Mo_isKnown_67 (by decide) ?_
              refine lv_istore_n (lv' := [(2, .int 0), (3, .int 2), (1, .int y_1), (0, .ref h0)]) hx hb d_Mo_isKnown_68 rfl hl (by decide) rfl (fun ls hl => ?_)
              refine lv_iinc (v := 3) (lv' := [(3, .int 3), (2, .int 0), (1, .int y_1), (0, .ref h0)]) hx hb d_Mo_isKnown_69 hl (k := 1) rfl (by decide) (by decide) rfl (fun ls hl => ?_)
              refine lv_goto (tgt := 33) hx hb d_Mo_isKnown_72 (by decide) ?_
              refine lv_iload_n hx hb d_Mo_isKnown_33 rfl (lv_at hl 0 rfl) ?_
              refine lv_iconst (v := 4) hx hb d_Mo_isKnown_34 (by decide) ?_
              refine lv_icmp_ge (tgt := 75) hx hb d_Mo_isKnown_35 (by decide) (fun c_29 => absurd c_29 (by decide)) (fun c_29 => ?_)
              refine lv_iload_n hx hb d_Mo_isKnown_38 rfl (lv_at hl 1 rfl) ?_
              refine lv_if_eq (tgt := 67) hx hb d_Mo_isKnown_39 (by decide) (fun c_30 => ?_) (fun c_30 => absurd (by decide) c_30)
              refine lv_iconst (v := 0) hx hb d_Mo_isKnown_67 (by decide) ?_
              refine lv_istore_n (lv' := [(2, .int 0), (3, .int 3), (1, .int y_1), (0, .ref h0)]) hx hb d_Mo_isKnown_68 rfl hl (by decide) rfl (fun ls hl => ?_)
              refine lv_iinc (v := 4) (lv' := [(3, .int 4), (2, .int 0), (1, .int y_1), (0, .ref h0)]) hx hb d_Mo_isKnown_69 hl (k := 1) rfl (by decide) (by decide) rfl (fun ls hl => ?_)
              refine lv_goto (tgt := 33) hx hb d_Mo_isKnown_72 (by decide) ?_
              refine lv_iload_n hx hb d_Mo_isKnown_33 rfl (lv_at hl 0 rfl) ?_
              refine lv_iconst (v := 4) hx hb d_Mo_isKnown_34 (by decide) ?_
              refine lv_icmp_ge (tgt := 75) hx hb d_Mo_isKnown_35 (by decide) (fun c_31 => ?_) (fun c_31 => absurd (by decide) c_31)
              refine lv_iload_n hx hb d_Mo_isKnown_75 rfl (lv_at hl 1 rfl) ?_
              refine lv_if_eq (tgt := 81) hx hb d_Mo_isKnown_76 (by decide) (fun c_32 => ?_) (fun c_32 => absurd (by decide) c_32)
              refine lv_iinc (v := (y_1 + 1)) (lv' := [(1, .int (y_1 + 1)), (3, .int 4), (2, .int 0), (0, .ref h0)]) hx hb d_Mo_isKnown_81 hl (k := 2) rfl rfl (by decide) rfl (fun ls hl => ?_)
              refine lv_goto (tgt := 2) hx hb d_Mo_isKnown_84 (by decide) ?_
              have hc0 := c_1
              have hc1 := c_2
              have hc2 := c_15
              have hc3 := c_26
              exact ih_2 (y_1 + 1) (he_2.trans ((if_neg c_1).trans ((if_pos c_2).trans ((if_pos c_15).trans ((if_neg c_26).trans rfl))))) (by obtain ⟨i, ct, e, e2, h1, h2, h3⟩ := hinv; exact ⟨i + 1, ct, by rw [e]; exact nI_1 i, e2, h1, lt_ct e e2 h1 h2 hc0, by omega⟩)  ls (lv_sub hl [0, 3] rfl)
            · refine lv_iconst (v := 1) hx hb d_Mo_isKnown_63 (by decide) ?_
              refine lv_goto (tgt := 68) hx hb d_Mo_isKnown_64 (by decide) ?_
              refine lv_istore_n (lv' := [(2, .int 1), (3, .int 1), (1, .int y_1), (0, .ref h0)]) hx hb d_Mo_isKnown_68 rfl hl (by decide) rfl (fun ls hl => ?_)
              refine lv_iinc (v := 2) (lv' := [(3, .int 2), (2, .int 1), (1, .int y_1), (0, .ref h0)]) hx hb d_Mo_isKnown_69 hl (k := 1) rfl (by decide) (by decide) rfl (fun ls hl => ?_)
              refine lv_goto (tgt := 33) hx hb d_Mo_isKnown_72 (by decide) ?_
              refine lv_iload_n hx hb d_Mo_isKnown_33 rfl (lv_at hl 0 rfl) ?_
              refine lv_iconst (v := 4) hx hb d_Mo_isKnown_34 (by decide) ?_
              refine lv_icmp_ge (tgt := 75) hx hb d_Mo_isKnown_35 (by decide) (fun c_33 => absurd c_33 (by decide)) (fun c_33 => ?_)
              refine lv_iload_n hx hb d_Mo_isKnown_38 rfl (lv_at hl 1 rfl) ?_
              refine lv_if_eq (tgt := 67) hx hb d_Mo_isKnown_39 (by decide) (fun c_34 => absurd c_34 (by decide)) (fun c_34 => ?_)
              refine lv_aload_n hx hb d_Mo_isKnown_42 rfl (lv_at hl 3 rfl) ?_
              refine va_get (D := (dC, dI)) (ci := 6) (v := .ref a_keys) (C := "LabelledCoreModel") (T := T_Mo) (N := 24) hx hb hts in_Mo hown hK hP 0 rfl rfl 20 (by decide) (hts _ wm_976) (fun _ h9 => h9) rfl d_Mo_isKnown_43 ?_
              refine lv_iconst (v := 5) hx hb d_Mo_isKnown_46 (by decide) ?_
              refine lv_iload_n hx hb d_Mo_isKnown_47 rfl (lv_at hl 2 rfl) ?_
              refine lv_imul hx hb d_Mo_isKnown_48 ?_
              refine lv_iconst (v := 1) hx hb d_Mo_isKnown_49 (by decide) ?_
              refine lv_iadd hx hb d_Mo_isKnown_50 ?_
              refine lv_iload_n hx hb d_Mo_isKnown_51 rfl (lv_at hl 0 rfl) ?_
              refine lv_iadd hx hb d_Mo_isKnown_52 ?_
              refine va_iald hx hb hK hP 1 0 rfl rfl (by obtain ⟨i, ct, e, e2, h1, h2, h3⟩ := hinv; exact in_keyj 2 e (Nat.lt_of_lt_of_le (lt_ct e e2 h1 h2 (by assumption)) h1) (by omega)) d_Mo_isKnown_53 ?_
              refine lv_aload_n hx hb d_Mo_isKnown_54 rfl (lv_at hl 3 rfl) ?_
              refine va_get (D := (dC, dI)) (ci := 6) (v := .ref a_labels) (C := "LabelledCoreModel") (T := T_Mo) (N := 24) hx hb hts in_Mo hown hK hP 0 rfl rfl 23 (by decide) (hts _ wm_979) (fun _ h9 => h9) rfl d_Mo_isKnown_55 ?_
              refine lv_iload_n hx hb d_Mo_isKnown_58 rfl (lv_at hl 0 rfl) ?_
              refine va_iald hx hb hK hP 2 0 rfl rfl (by unfold vp_in; decide) d_Mo_isKnown_59 ?_
              refine lv_icmp_ne (tgt := 67) hx hb d_Mo_isKnown_60 (by decide) (fun c_35 => ?_) (fun c_35 => ?_)
              · refine lv_iconst (v := 0) hx hb d_Mo_isKnown_67 (by decide) ?_
                refine lv_istore_n (lv' := [(2, .int 0), (3, .int 2), (1, .int y_1), (0, .ref h0)]) hx hb d_Mo_isKnown_68 rfl hl (by decide) rfl (fun ls hl => ?_)
                refine lv_iinc (v := 3) (lv' := [(3, .int 3), (2, .int 0), (1, .int y_1), (0, .ref h0)]) hx hb d_Mo_isKnown_69 hl (k := 1) rfl (by decide) (by decide) rfl (fun ls hl => ?_)
                refine lv_goto (tgt := 33) hx hb d_Mo_isKnown_72 (by decide) ?_
                refine lv_iload_n hx hb d_Mo_isKnown_33 rfl (lv_at hl 0 rfl) ?_
                refine lv_iconst (v := 4) hx hb d_Mo_isKnown_34 (by decide) ?_
                refine lv_icmp_ge (tgt := 75) hx hb d_Mo_isKnown_35 (by decide) (fun c_36 => absurd c_36 (by decide)) (fun c_36 => ?_)
                refine lv_iload_n hx hb d_Mo_isKnown_38 rfl (lv_at hl 1 rfl) ?_
                refine lv_if_eq (tgt := 67) hx hb d_Mo_isKnown_39 (by decide) (fun c_37 => ?_) (fun c_37 => absurd (by decide) c_37)
                refine lv_iconst (v := 0) hx hb d_Mo_isKnown_67 (by decide) ?_
                refine lv_istore_n (lv' := [(2, .int 0), (3, .int 3), (1, .int y_1), (0, .ref h0)]) hx hb d_Mo_isKnown_68 rfl hl (by decide) rfl (fun ls hl => ?_)
                refine lv_iinc (v := 4) (lv' := [(3, .int 4), (2, .int 0), (1, .int y_1), (0, .ref h0)]) hx hb d_Mo_isKnown_69 hl (k := 1) rfl (by decide) (by decide) rfl (fun ls hl => ?_)
                refine lv_goto (tgt := 33) hx hb d_Mo_isKnown_72 (by decide) ?_
                refine lv_iload_n hx hb d_Mo_isKnown_33 rfl (lv_at hl 0 rfl) ?_
                refine lv_iconst (v := 4) hx hb d_Mo_isKnown_34 (by decide) ?_
                refine lv_icmp_ge (tgt := 75) hx hb d_Mo_isKnown_35 (by decide) (fun c_38 => ?_) (fun c_38 => absurd (by decide) c_38)
                refine lv_iload_n hx hb d_Mo_isKnown_75 rfl (lv_at hl 1 rfl) ?_
                refine lv_if_eq (tgt := 81) hx hb d_Mo_isKnown_76 (by decide) (fun c_39 => ?_) (fun c_39 => absurd (by decide) c_39)
                refine lv_iinc (v := (y_1 + 1)) (lv' := [(1, .int (y_1 + 1)), (3, .int 4), (2, .int 0), (0, .ref h0)]) hx hb d_Mo_isKnown_81 hl (k := 2) rfl rfl (by decide) rfl (fun ls hl => ?_)
                refine lv_goto (tgt := 2) hx hb d_Mo_isKnown_84 (by decide) ?_
                have hc0 := c_1
                have hc1 := c_2
                have hc2 := c_15
                have hc3 := c_26
                have hc4 := c_35
                exact ih_2 (y_1 + 1) (he_2.trans ((if_neg c_1).trans ((if_pos c_2).trans ((if_pos c_15).trans ((if_pos c_26).trans ((if_neg c_35).trans rfl)))))) (by obtain ⟨i, ct, e, e2, h1, h2, h3⟩ := hinv; exact ⟨i + 1, ct, by rw [e]; exact nI_1 i, e2, h1, lt_ct e e2 h1 h2 hc0, by omega⟩)  ls (lv_sub hl [0, 3] rfl)
              · refine lv_iconst (v := 1) hx hb d_Mo_isKnown_63 (by decide) ?_
                refine lv_goto (tgt := 68) hx hb d_Mo_isKnown_64 (by decide) ?_
                refine lv_istore_n (lv' := [(2, .int 1), (3, .int 2), (1, .int y_1), (0, .ref h0)]) hx hb d_Mo_isKnown_68 rfl hl (by decide) rfl (fun ls hl => ?_)
                refine lv_iinc (v := 3) (lv' := [(3, .int 3), (2, .int 1), (1, .int y_1), (0, .ref h0)]) hx hb d_Mo_isKnown_69 hl (k := 1) rfl (by decide) (by decide) rfl (fun ls hl => ?_)
                refine lv_goto (tgt := 33) hx hb d_Mo_isKnown_72 (by decide) ?_
                refine lv_iload_n hx hb d_Mo_isKnown_33 rfl (lv_at hl 0 rfl) ?_
                refine lv_iconst (v := 4) hx hb d_Mo_isKnown_34 (by decide) ?_
                refine lv_icmp_ge (tgt := 75) hx hb d_Mo_isKnown_35 (by decide) (fun c_40 => absurd c_40 (by decide)) (fun c_40 => ?_)
                refine lv_iload_n hx hb d_Mo_isKnown_38 rfl (lv_at hl 1 rfl) ?_
                refine lv_if_eq (tgt := 67) hx hb d_Mo_isKnown_39 (by decide) (fun c_41 => absurd c_41 (by decide)) (fun c_41 => ?_)
                refine lv_aload_n hx hb d_Mo_isKnown_42 rfl (lv_at hl 3 rfl) ?_
                refine va_get (D := (dC, dI)) (ci := 6) (v := .ref a_keys) (C := "LabelledCoreModel") (T := T_Mo) (N := 24) hx hb hts in_Mo hown hK hP 0 rfl rfl 20 (by decide) (hts _ wm_976) (fun _ h9 => h9) rfl d_Mo_isKnown_43 ?_
                refine lv_iconst (v := 5) hx hb d_Mo_isKnown_46 (by decide) ?_
                refine lv_iload_n hx hb d_Mo_isKnown_47 rfl (lv_at hl 2 rfl) ?_
                refine lv_imul hx hb d_Mo_isKnown_48 ?_
                refine lv_iconst (v := 1) hx hb d_Mo_isKnown_49 (by decide) ?_
                refine lv_iadd hx hb d_Mo_isKnown_50 ?_
                refine lv_iload_n hx hb d_Mo_isKnown_51 rfl (lv_at hl 0 rfl) ?_
                refine lv_iadd hx hb d_Mo_isKnown_52 ?_
                refine va_iald hx hb hK hP 1 0 rfl rfl (by obtain ⟨i, ct, e, e2, h1, h2, h3⟩ := hinv; exact in_keyj 3 e (Nat.lt_of_lt_of_le (lt_ct e e2 h1 h2 (by assumption)) h1) (by omega)) d_Mo_isKnown_53 ?_
                refine lv_aload_n hx hb d_Mo_isKnown_54 rfl (lv_at hl 3 rfl) ?_
                refine va_get (D := (dC, dI)) (ci := 6) (v := .ref a_labels) (C := "LabelledCoreModel") (T := T_Mo) (N := 24) hx hb hts in_Mo hown hK hP 0 rfl rfl 23 (by decide) (hts _ wm_979) (fun _ h9 => h9) rfl d_Mo_isKnown_55 ?_
                refine lv_iload_n hx hb d_Mo_isKnown_58 rfl (lv_at hl 0 rfl) ?_
                refine va_iald hx hb hK hP 2 0 rfl rfl (by unfold vp_in; decide) d_Mo_isKnown_59 ?_
                refine lv_icmp_ne (tgt := 67) hx hb d_Mo_isKnown_60 (by decide) (fun c_42 => ?_) (fun c_42 => ?_)
                · refine lv_iconst (v := 0) hx hb d_Mo_isKnown_67 (by decide) ?_
                  refine lv_istore_n (lv' := [(2, .int 0), (3, .int 3), (1, .int y_1), (0, .ref h0)]) hx hb d_Mo_isKnown_68 rfl hl (by decide) rfl (fun ls hl => ?_)
                  refine lv_iinc (v := 4) (lv' := [(3, .int 4), (2, .int 0), (1, .int y_1), (0, .ref h0)]) hx hb d_Mo_isKnown_69 hl (k := 1) rfl (by decide) (by decide) rfl (fun ls hl => ?_)
                  refine lv_goto (tgt := 33) hx hb d_Mo_isKnown_72 (by decide) ?_
                  refine lv_iload_n hx hb d_Mo_isKnown_33 rfl (lv_at hl 0 rfl) ?_
                  refine lv_iconst (v := 4) hx hb d_Mo_isKnown_34 (by decide) ?_
                  refine lv_icmp_ge (tgt := 75) hx hb d_Mo_isKnown_35 (by decide) (fun c_43 => ?_) (fun c_43 => absurd (by decide) c_43)
                  refine lv_iload_n hx hb d_Mo_isKnown_75 rfl (lv_at hl 1 rfl) ?_
                  refine lv_if_eq (tgt := 81) hx hb d_Mo_isKnown_76 (by decide) (fun c_44 => ?_) (fun c_44 => absurd (by decide) c_44)
                  refine lv_iinc (v := (y_1 + 1)) (lv' := [(1, .int (y_1 + 1)), (3, .int 4), (2, .int 0), (0, .ref h0)]) hx hb d_Mo_isKnown_81 hl (k := 2) rfl rfl (by decide) rfl (fun ls hl => ?_)
                  refine lv_goto (tgt := 2) hx hb d_Mo_isKnown_84 (by decide) ?_
                  have hc0 := c_1
                  have hc1 := c_2
                  have hc2 := c_15
                  have hc3 := c_26
                  have hc4 := c_35
                  have hc5 := c_42
                  exact ih_2 (y_1 + 1) (he_2.trans ((if_neg c_1).trans ((if_pos c_2).trans ((if_pos c_15).trans ((if_pos c_26).trans ((if_pos c_35).trans ((if_neg c_42).trans rfl))))))) (by obtain ⟨i, ct, e, e2, h1, h2, h3⟩ := hinv; exact ⟨i + 1, ct, by rw [e]; exact nI_1 i, e2, h1, lt_ct e e2 h1 h2 hc0, by omega⟩)  ls (lv_sub hl [0, 3] rfl)
                · refine lv_iconst (v := 1) hx hb d_Mo_isKnown_63 (by decide) ?_
                  refine lv_goto (tgt := 68) hx hb d_Mo_isKnown_64 (by decide) ?_
                  refine lv_istore_n (lv' := [(2, .int 1), (3, .int 3), (1, .int y_1), (0, .ref h0)]) hx hb d_Mo_isKnown_68 rfl hl (by decide) rfl (fun ls hl => ?_)
                  refine lv_iinc (v := 4) (lv' := [(3, .int 4), (2, .int 1), (1, .int y_1), (0, .ref h0)]) hx hb d_Mo_isKnown_69 hl (k := 1) rfl (by decide) (by decide) rfl (fun ls hl => ?_)
                  refine lv_goto (tgt := 33) hx hb d_Mo_isKnown_72 (by decide) ?_
                  refine lv_iload_n hx hb d_Mo_isKnown_33 rfl (lv_at hl 0 rfl) ?_
                  refine lv_iconst (v := 4) hx hb d_Mo_isKnown_34 (by decide) ?_
                  refine lv_icmp_ge (tgt := 75) hx hb d_Mo_isKnown_35 (by decide) (fun c_45 => ?_) (fun c_45 => absurd (by decide) c_45)
                  refine lv_iload_n hx hb d_Mo_isKnown_75 rfl (lv_at hl 1 rfl) ?_
                  refine lv_if_eq (tgt := 81) hx hb d_Mo_isKnown_76 (by decide) (fun c_46 => absurd c_46 (by decide)) (fun c_46 => ?_)
                  refine lv_iconst (v := 1) hx hb d_Mo_isKnown_79 (by decide) ?_
                  have ef : (f_Mo_isKnown v_known v_group g_keys g_labels) = (1 : Int32) := he_2.trans ((if_neg c_1).trans ((if_pos c_2).trans ((if_pos c_15).trans ((if_pos c_26).trans ((if_pos c_35).trans ((if_pos c_42).trans rfl))))))
                  exact W.zret (v := 1) hx hb hr rfl (fun t ht hW => ⟨by rw [ef], ht⟩) (fun _ h => by cases h) d_Mo_isKnown_80
  exact hloop_2 (65) 0 (rfl) (by obtain ⟨ct, h1, h2⟩ := hct; exact ⟨0, ct, nI_0.symm, h2, h1, Nat.zero_le _, by omega⟩) ls (lv_sub hl [0, 1] rfl)
def lp_Mo_takeIn_19 (v_wait : Int32) (g_waiting : Nat → Int32) : Nat → (Int32) → (Nat → Int32) → (Nat → Int32) → Int32 × Int32 × (Nat → Int32) × (Nat → Int32)
  | 0, _, _, _ => (0, 0, (fun _ => 0), (fun _ => 0))
  | fu + 1, y_2, w_g_waiting, w_g_waitingLabels =>
    if (v_wait - 1) ≤ y_2 then
      ((g_waiting (Int32.toNatClampNeg 0)), (v_wait - 1), w_g_waiting, w_g_waitingLabels)
    else
      (lp_Mo_takeIn_19 v_wait g_waiting fu (y_2 + 1) (upd w_g_waiting (Int32.toNatClampNeg y_2) (w_g_waiting (Int32.toNatClampNeg (y_2 + 1)))) (upd w_g_waitingLabels (Int32.toNatClampNeg y_2) (w_g_waitingLabels (Int32.toNatClampNeg (y_2 + 1)))))
def f_Mo_takeIn (v_wait : Int32) (g_waiting : Nat → Int32) (g_waitingLabels : Nat → Int32) : Int32 × Int32 × (Nat → Int32) × (Nat → Int32) :=
  (lp_Mo_takeIn_19 v_wait g_waiting (65) 0 g_waiting g_waitingLabels)
set_option maxHeartbeats 4000000 in
set_option maxRecDepth 100000 in
theorem ct_Mo_takeIn (l : Launch) (dC : Nat → ClassId) (dI : Nat → Nat → Nat) (cI : ClassId) (sz : Nat) (h0 a_words a_rules a_registers a_registerLabels a_memory a_memoryLabels a_waiting a_waitingLabels a_out a_outLabels a_keys a_labels : Nat) (v_thrown : Int32) (v_size : Int32) (v_entries : Int32) (v_outcome : Int32) (v_pc : Int32) (v_pcLabel : Int32) (v_wait : Int32) (v_went : Int32) (v_done : Int32) (v_misses : Int32) (v_known : Int32) (v_group : Int32) (g_waiting : Nat → Int32) (g_waitingLabels : Nat → Int32) (hwt : ∃ k : Nat, 1 ≤ k ∧ k ≤ 64 ∧ v_wait = nI k) : Met l y_Mo_takeIn w_Mo_takeIn ({ frames := 0, cells := 0, slots := 0, locals := 0 }) (pcW dC dI cI [(h0, .inr (6, [.int v_thrown, .ref a_words, .int v_size, .ref a_rules, .int v_entries, .int v_outcome, .int v_pc, .int v_pcLabel, .ref a_registers, .ref a_registerLabels, .ref a_memory, .ref a_memoryLabels, .ref a_waiting, .ref a_waitingLabels, .int v_wait, .ref a_out, .ref a_outLabels, .int v_went, .int v_done, .int v_misses, .ref a_keys, .int v_known, .int v_group, .ref a_labels])), (a_waiting, .inl (cI, 64, .inl g_waiting)), (a_waitingLabels, .inl (cI, 64, .inl g_waitingLabels))] sz [.ref h0]) (va_Qi (fun (r : Int32) (_ : Unit) => r = (f_Mo_takeIn v_wait g_waiting g_waitingLabels).1) (fun _ t => atW dC dI cI [(h0, .inr (6, [.int v_thrown, .ref a_words, .int v_size, .ref a_rules, .int v_entries, .int v_outcome, .int v_pc, .int v_pcLabel, .ref a_registers, .ref a_registerLabels, .ref a_memory, .ref a_memoryLabels, .ref a_waiting, .ref a_waitingLabels, .int ((f_Mo_takeIn v_wait g_waiting g_waitingLabels).2.1), .ref a_out, .ref a_outLabels, .int v_went, .int v_done, .int v_misses, .ref a_keys, .int v_known, .int v_group, .ref a_labels])), (a_waiting, .inl (cI, 64, .inl ((f_Mo_takeIn v_wait g_waiting g_waitingLabels).2.2.1))), (a_waitingLabels, .inl (cI, 64, .inl ((f_Mo_takeIn v_wait g_waiting g_waitingLabels).2.2.2)))] (va_A [(h0, .inr (6, [.int v_thrown, .ref a_words, .int v_size, .ref a_rules, .int v_entries, .int v_outcome, .int v_pc, .int v_pcLabel, .ref a_registers, .ref a_registerLabels, .ref a_memory, .ref a_memoryLabels, .ref a_waiting, .ref a_waitingLabels, .int v_wait, .ref a_out, .ref a_outLabels, .int v_went, .int v_done, .int v_misses, .ref a_keys, .int v_known, .int v_group, .ref a_labels])), (a_waiting, .inl (cI, 64, .inl g_waiting)), (a_waitingLabels, .inl (cI, 64, .inl g_waitingLabels))] sz) t) (va_A [(h0, .inr (6, [.int v_thrown, .ref a_words, .int v_size, .ref a_rules, .int v_entries, .int v_outcome, .int v_pc, .int v_pcLabel, .ref a_registers, .ref a_registerLabels, .ref a_memory, .ref a_memoryLabels, .ref a_waiting, .ref a_waitingLabels, .int v_wait, .ref a_out, .ref a_outLabels, .int v_went, .int v_done, .int v_misses, .ref a_keys, .int v_known, .int v_group, .ref a_labels])), (a_waiting, .inl (cI, 64, .inl g_waiting)), (a_waitingLabels, .inl (cI, 64, .inl g_waitingLabels))] sz)) 0 0 (va_A [(h0, .inr (6, [.int v_thrown, .ref a_words, .int v_size, .ref a_rules, .int v_entries, .int v_outcome, .int v_pc, .int v_pcLabel, .ref a_registers, .ref a_registerLabels, .ref a_memory, .ref a_memoryLabels, .ref a_waiting, .ref a_waitingLabels, .int v_wait, .ref a_out, .ref a_outLabels, .int v_went, .int v_done, .int v_misses, .ref a_keys, .int v_known, .int v_group, .ref a_labels])), (a_waiting, .inl (cI, 64, .inl g_waiting)), (a_waitingLabels, .inl (cI, 64, .inl g_waitingLabels))] sz) := by
  refine Met.ofW (cc := c_Mo_takeIn) (maxL := 3) (ret := (some .int)) (by decide) rfl ?_
  intro p e s m args below meth c s₁ B hml hv
  obtain ⟨rfl, hsz, hP, hK, hD0⟩ := hv
  have hx := B.exec
  have hb := B.bytes
  have hr := B.returns
  have hts : ∀ w ∈ wG, w.before _ s = true := fun w h => atoms_spec (ws := w_Mo_takeIn) B.pre w (List.mem_cons_of_mem _ h)
  have hown : s.vm.findClass "LabelledCoreModel" = some m.cls := findClass_of_methodNamed B.named
  have hlocks := B.notSynchronized
  subst hsz
  have hD := hD0.self (sz := s.heap.size)
  generalize hAe : va_A [(h0, .inr (6, [.int v_thrown, .ref a_words, .int v_size, .ref a_rules, .int v_entries, .int v_outcome, .int v_pc, .int v_pcLabel, .ref a_registers, .ref a_registerLabels, .ref a_memory, .ref a_memoryLabels, .ref a_waiting, .ref a_waitingLabels, .int v_wait, .ref a_out, .ref a_outLabels, .int v_went, .int v_done, .int v_misses, .ref a_keys, .int v_known, .int v_group, .ref a_labels])), (a_waiting, .inl (cI, 64, .inl g_waiting)), (a_waitingLabels, .inl (cI, 64, .inl g_waitingLabels))] s.heap.size = A at hD ⊢
  have hA : ∀ q : Nat, s.heap.size ≤ q → A q := fun q h => by rw [← hAe]; exact Or.inr h
  have hS : va_S A s.heap s.heap [] := va_S.rf
  have hP : va_P (dC, dI) clsL [(h0, .inr (6, [.int v_thrown, .ref a_words, .int v_size, .ref a_rules, .int v_entries, .int v_outcome, .int v_pc, .int v_pcLabel, .ref a_registers, .ref a_registerLabels, .ref a_memory, .ref a_memoryLabels, .ref a_waiting, .ref a_waitingLabels, .int v_wait, .ref a_out, .ref a_outLabels, .int v_went, .int v_done, .int v_misses, .ref a_keys, .int v_known, .int v_group, .ref a_labels])), (a_waiting, .inl (cI, 64, .inl g_waiting)), (a_waitingLabels, .inl (cI, 64, .inl g_waitingLabels))] s.heap := hP
  have hl := lv_entry ([.ref h0]) (n := 3) (Nat.le_of_ble_eq_true rfl)
  rw [lg_entry_eq]
  generalize (lg_sl ([.ref h0]) ++ List.replicate (3 - (lg_sl ([.ref h0])).length) Slot.unset).toArray = ls at hl ⊢
  have hl : lv_has ls 3 [(0, .ref h0)] := hl
  refine lv_aload_n hx hb d_Mo_takeIn_0 rfl (lv_at hl 0 rfl) ?_
  refine va_get (D := (dC, dI)) (ci := 6) (v := .ref a_waiting) (C := "LabelledCoreModel") (T := T_Mo) (N := 24) hx hb hts in_Mo hown hK hP 0 rfl rfl 12 (by decide) (hts _ wm_968) (fun _ h9 => h9) rfl d_Mo_takeIn_1 ?_
  refine lv_iconst (v := 0) hx hb d_Mo_takeIn_4 (by decide) ?_
  refine va_iald hx hb hK hP 1 0 rfl rfl (by unfold vp_in; decide) d_Mo_takeIn_5 ?_
  refine lv_istore_n (lv' := [(1, .int (g_waiting (Int32.toNatClampNeg 0))), (0, .ref h0)]) hx hb d_Mo_takeIn_6 rfl hl (by decide) rfl (fun ls hl => ?_)
  refine lv_aload_n hx hb d_Mo_takeIn_7 rfl (lv_at hl 1 rfl) ?_
  refine lv_dup hx hb d_Mo_takeIn_8 rfl ?_
  refine va_get (D := (dC, dI)) (ci := 6) (v := .int v_wait) (C := "LabelledCoreModel") (T := T_Mo) (N := 24) hx hb hts in_Mo hown hK hP 0 rfl rfl 14 (by decide) (hts _ wm_970) (fun _ h9 => h9) rfl d_Mo_takeIn_9 ?_
  refine lv_iconst (v := 1) hx hb d_Mo_takeIn_12 (by decide) ?_
  refine lv_isub hx hb d_Mo_takeIn_13 ?_
  refine va_put (D := (dC, dI)) (ci := 6) (v := .int (v_wait - 1)) (ty := .int) (C := "LabelledCoreModel") (T := T_Mo) (N := 24) hx hb hts in_Mo t_Mo ty_Mo nm_Mo hown hK hP hD hS 0 rfl rfl 14 (by decide) (hts _ wm_970) (fun _ h9 => h9) rfl (by decide +kernel) rfl rfl (Nat.le_of_ble_eq_true rfl) d_Mo_takeIn_14 (fun H locs hP hD hS => ?_)
  have hP : va_P (dC, dI) clsL [(h0, .inr (6, [.int v_thrown, .ref a_words, .int v_size, .ref a_rules, .int v_entries, .int v_outcome, .int v_pc, .int v_pcLabel, .ref a_registers, .ref a_registerLabels, .ref a_memory, .ref a_memoryLabels, .ref a_waiting, .ref a_waitingLabels, .int (v_wait - 1), .ref a_out, .ref a_outLabels, .int v_went, .int v_done, .int v_misses, .ref a_keys, .int v_known, .int v_group, .ref a_labels])), (a_waiting, .inl (cI, 64, .inl g_waiting)), (a_waitingLabels, .inl (cI, 64, .inl g_waitingLabels))] H := hP
  have hD : va_D A [(h0, .inr (6, [.int v_thrown, .ref a_words, .int v_size, .ref a_rules, .int v_entries, .int v_outcome, .int v_pc, .int v_pcLabel, .ref a_registers, .ref a_registerLabels, .ref a_memory, .ref a_memoryLabels, .ref a_waiting, .ref a_waitingLabels, .int (v_wait - 1), .ref a_out, .ref a_outLabels, .int v_went, .int v_done, .int v_misses, .ref a_keys, .int v_known, .int v_group, .ref a_labels])), (a_waiting, .inl (cI, 64, .inl g_waiting)), (a_waitingLabels, .inl (cI, 64, .inl g_waitingLabels))] := hD
  refine lv_iconst (v := 0) hx hb d_Mo_takeIn_17 (by decide) ?_
  refine lv_istore_n (lv' := [(2, .int 0), (1, .int (g_waiting (Int32.toNatClampNeg 0))), (0, .ref h0)]) hx hb d_Mo_takeIn_18 rfl hl (by decide) rfl (fun ls hl => ?_)
  have hloop_19 : ∀ (fu : Nat) (y_2 : Int32) (w_g_waiting : Nat → Int32) (w_g_waitingLabels : Nat → Int32), ((f_Mo_takeIn v_wait g_waiting g_waitingLabels) = (lp_Mo_takeIn_19 v_wait g_waiting fu y_2 w_g_waiting w_g_waitingLabels)) → (∃ i k : Nat, y_2 = nI i ∧ v_wait = nI k ∧ 1 ≤ k ∧ k ≤ 64 ∧ i + 1 ≤ k ∧ 65 ≤ i + fu) → ∀ (H : Heap) (locs : List Loc), va_P (dC, dI) clsL [(h0, .inr (6, [.int v_thrown, .ref a_words, .int v_size, .ref a_rules, .int v_entries, .int v_outcome, .int v_pc, .int v_pcLabel, .ref a_registers, .ref a_registerLabels, .ref a_memory, .ref a_memoryLabels, .ref a_waiting, .ref a_waitingLabels, .int (v_wait - 1), .ref a_out, .ref a_outLabels, .int v_went, .int v_done, .int v_misses, .ref a_keys, .int v_known, .int v_group, .ref a_labels])), (a_waiting, .inl (cI, 64, .inl w_g_waiting)), (a_waitingLabels, .inl (cI, 64, .inl w_g_waitingLabels))] H → va_D A [(h0, .inr (6, [.int v_thrown, .ref a_words, .int v_size, .ref a_rules, .int v_entries, .int v_outcome, .int v_pc, .int v_pcLabel, .ref a_registers, .ref a_registerLabels, .ref a_memory, .ref a_memoryLabels, .ref a_waiting, .ref a_waitingLabels, .int (v_wait - 1), .ref a_out, .ref a_outLabels, .int v_went, .int v_done, .int v_misses, .ref a_keys, .int v_known, .int v_group, .ref a_labels])), (a_waiting, .inl (cI, 64, .inl w_g_waiting)), (a_waitingLabels, .inl (cI, 64, .inl w_g_waitingLabels))] → va_S A s.heap H locs → ∀ (ls : Array Slot), lv_has ls 3 [(2, .int y_2), (1, .int (g_waiting (Int32.toNatClampNeg 0))), (0, .ref h0)] → W p l e (headSpec w_Mo_takeIn ({ frames := 0, cells := 0, slots := 0, locals := 0 })).room s m ([.ref h0] : List Value).toArray below meth c H locs 0 0 (MQ below (va_Qi (fun (r : Int32) (_ : Unit) => r = (f_Mo_takeIn v_wait g_waiting g_waitingLabels).1) (fun _ t => atW dC dI cI [(h0, .inr (6, [.int v_thrown, .ref a_words, .int v_size, .ref a_rules, .int v_entries, .int v_outcome, .int v_pc, .int v_pcLabel, .ref a_registers, .ref a_registerLabels, .ref a_memory, .ref a_memoryLabels, .ref a_waiting, .ref a_waitingLabels, .int ((f_Mo_takeIn v_wait g_waiting g_waitingLabels).2.1), .ref a_out, .ref a_outLabels, .int v_went, .int v_done, .int v_misses, .ref a_keys, .int v_known, .int v_group, .ref a_labels])), (a_waiting, .inl (cI, 64, .inl ((f_Mo_takeIn v_wait g_waiting g_waitingLabels).2.2.1))), (a_waitingLabels, .inl (cI, 64, .inl ((f_Mo_takeIn v_wait g_waiting g_waitingLabels).2.2.2)))] A t) A) ([.ref h0] : List Value).toArray s 0 0 A) (F0 m 19 ls []) := by
    intro fu
    induction fu with
    | zero =>
      intro y_2 w_g_waiting w_g_waitingLabels he_19 hinv
      exact absurd hinv (by rintro ⟨i, k, -, -, h0, h1, h2, h3⟩; omega)
    | succ fu ih_19 =>
      intro y_2 w_g_waiting w_g_waitingLabels he_19 hinv H locs hP hD hS ls hl
      refine lv_iload_n hx hb d_Mo_takeIn_19 rfl (lv_at hl 0 rfl) ?_
      refine lv_aload_n hx hb d_Mo_takeIn_20 rfl (lv_at hl 2 rfl) ?_
      refine va_get (D := (dC, dI)) (ci := 6) (v := .int (v_wait - 1)) (C := "LabelledCoreModel") (T := T_Mo) (N := 24) hx hb hts in_Mo hown hK hP 0 rfl rfl 14 (by decide) (hts _ wm_970) (fun _ h9 => h9) rfl d_Mo_takeIn_21 ?_
      refine lv_icmp_ge (tgt := 61) hx hb d_Mo_takeIn_24 (by decide) (fun c_1 => ?_) (fun c_1 => ?_)
      · refine lv_iload_n hx hb d_Mo_takeIn_61 rfl (lv_at hl 1 rfl) ?_
        have ef : (f_Mo_takeIn v_wait g_waiting g_waitingLabels) = (((g_waiting (Int32.toNatClampNeg 0)), (v_wait - 1), w_g_waiting, w_g_waitingLabels) : Int32 × Int32 × (Nat → Int32) × (Nat → Int32)) := he_19.trans ((if_pos c_1).trans rfl)
        have hP9 := hP.sub (ws' := [(h0, .inr (6, [.int v_thrown, .ref a_words, .int v_size, .ref a_rules, .int v_entries, .int v_outcome, .int v_pc, .int v_pcLabel, .ref a_registers, .ref a_registerLabels, .ref a_memory, .ref a_memoryLabels, .ref a_waiting, .ref a_waitingLabels, .int (v_wait - 1), .ref a_out, .ref a_outLabels, .int v_went, .int v_done, .int v_misses, .ref a_keys, .int v_known, .int v_group, .ref a_labels])), (a_waiting, .inl (cI, 64, .inl w_g_waiting)), (a_waitingLabels, .inl (cI, 64, .inl w_g_waitingLabels))]) [0, 1, 2] rfl
        have hD9 := hD.sub (ws' := [(h0, .inr (6, [.int v_thrown, .ref a_words, .int v_size, .ref a_rules, .int v_entries, .int v_outcome, .int v_pc, .int v_pcLabel, .ref a_registers, .ref a_registerLabels, .ref a_memory, .ref a_memoryLabels, .ref a_waiting, .ref a_waitingLabels, .int (v_wait - 1), .ref a_out, .ref a_outLabels, .int v_went, .int v_done, .int v_misses, .ref a_keys, .int v_known, .int v_group, .ref a_labels])), (a_waiting, .inl (cI, 64, .inl w_g_waiting)), (a_waitingLabels, .inl (cI, 64, .inl w_g_waitingLabels))]) [0, 1, 2] (by decide) rfl
        exact W.iret (v := (g_waiting (Int32.toNatClampNeg 0))) hx hb hr (fun t ht hW => ⟨⟨(g_waiting (Int32.toNatClampNeg 0)), (), rfl, by rw [ef], by rw [ef, ht]; exact hP9, va_K.moved hW.alike hK, by rw [ef]; exact hD9⟩, hS.F ht⟩) hS.2.2 d_Mo_takeIn_62
      · refine lv_aload_n hx hb d_Mo_takeIn_27 rfl (lv_at hl 2 rfl) ?_
        refine va_get (D := (dC, dI)) (ci := 6) (v := .ref a_waiting) (C := "LabelledCoreModel") (T := T_Mo) (N := 24) hx hb hts in_Mo hown hK hP 0 rfl rfl 12 (by decide) (hts _ wm_968) (fun _ h9 => h9) rfl d_Mo_takeIn_28 ?_
        refine lv_iload_n hx hb d_Mo_takeIn_31 rfl (lv_at hl 0 rfl) ?_
        refine lv_aload_n hx hb d_Mo_takeIn_32 rfl (lv_at hl 2 rfl) ?_
        refine va_get (D := (dC, dI)) (ci := 6) (v := .ref a_waiting) (C := "LabelledCoreModel") (T := T_Mo) (N := 24) hx hb hts in_Mo hown hK hP 0 rfl rfl 12 (by decide) (hts _ wm_968) (fun _ h9 => h9) rfl d_Mo_takeIn_33 ?_
        refine lv_iload_n hx hb d_Mo_takeIn_36 rfl (lv_at hl 0 rfl) ?_
        refine lv_iconst (v := 1) hx hb d_Mo_takeIn_37 (by decide) ?_
        refine lv_iadd hx hb d_Mo_takeIn_38 ?_
        refine va_iald hx hb hK hP 1 0 rfl rfl (by obtain ⟨i, k, e, e2, h0, h1, h2, h3⟩ := hinv; have := lt_wt e e2 h0 h1 h2 (by assumption); rw [e, nI_1]; exact vp_in_nI (by omega) (by omega)) d_Mo_takeIn_39 ?_
        refine va_iast hx hb hK hP hD hS 1 0 rfl rfl (by obtain ⟨i, k, e, e2, h0, h1, h2, h3⟩ := hinv; have := lt_wt e e2 h0 h1 h2 (by assumption); rw [e]; exact vp_in_nI (by omega) (by omega)) d_Mo_takeIn_40 (fun H locs hP hD hS => ?_)
        have hP : va_P (dC, dI) clsL [(h0, .inr (6, [.int v_thrown, .ref a_words, .int v_size, .ref a_rules, .int v_entries, .int v_outcome, .int v_pc, .int v_pcLabel, .ref a_registers, .ref a_registerLabels, .ref a_memory, .ref a_memoryLabels, .ref a_waiting, .ref a_waitingLabels, .int (v_wait - 1), .ref a_out, .ref a_outLabels, .int v_went, .int v_done, .int v_misses, .ref a_keys, .int v_known, .int v_group, .ref a_labels])), (a_waiting, .inl (cI, 64, .inl (upd w_g_waiting (Int32.toNatClampNeg y_2) (w_g_waiting (Int32.toNatClampNeg (y_2 + 1)))))), (a_waitingLabels, .inl (cI, 64, .inl w_g_waitingLabels))] H := hP
        have hD : va_D A [(h0, .inr (6, [.int v_thrown, .ref a_words, .int v_size, .ref a_rules, .int v_entries, .int v_outcome, .int v_pc, .int v_pcLabel, .ref a_registers, .ref a_registerLabels, .ref a_memory, .ref a_memoryLabels, .ref a_waiting, .ref a_waitingLabels, .int (v_wait - 1), .ref a_out, .ref a_outLabels, .int v_went, .int v_done, .int v_misses, .ref a_keys, .int v_known, .int v_group, .ref a_labels])), (a_waiting, .inl (cI, 64, .inl (upd w_g_waiting (Int32.toNatClampNeg y_2) (w_g_waiting (Int32.toNatClampNeg (y_2 + 1)))))), (a_waitingLabels, .inl (cI, 64, .inl w_g_waitingLabels))] := hD
        refine lv_aload_n hx hb d_Mo_takeIn_41 rfl (lv_at hl 2 rfl) ?_
        refine va_get (D := (dC, dI)) (ci := 6) (v := .ref a_waitingLabels) (C := "LabelledCoreModel") (T := T_Mo) (N := 24) hx hb hts in_Mo hown hK hP 0 rfl rfl 13 (by decide) (hts _ wm_969) (fun _ h9 => h9) rfl d_Mo_takeIn_42 ?_
        refine lv_iload_n hx hb d_Mo_takeIn_45 rfl (lv_at hl 0 rfl) ?_
        refine lv_aload_n hx hb d_Mo_takeIn_46 rfl (lv_at hl 2 rfl) ?_
        refine va_get (D := (dC, dI)) (ci := 6) (v := .ref a_waitingLabels) (C := "LabelledCoreModel") (T := T_Mo) (N := 24) hx hb hts in_Mo hown hK hP 0 rfl rfl 13 (by decide) (hts _ wm_969) (fun _ h9 => h9) rfl d_Mo_takeIn_47 ?_
        refine lv_iload_n hx hb d_Mo_takeIn_50 rfl (lv_at hl 0 rfl) ?_
        refine lv_iconst (v := 1) hx hb d_Mo_takeIn_51 (by decide) ?_
        refine lv_iadd hx hb d_Mo_takeIn_52 ?_
        refine va_iald hx hb hK hP 2 0 rfl rfl (by obtain ⟨i, k, e, e2, h0, h1, h2, h3⟩ := hinv; have := lt_wt e e2 h0 h1 h2 (by assumption); rw [e, nI_1]; exact vp_in_nI (by omega) (by omega)) d_Mo_takeIn_53 ?_
        refine va_iast hx hb hK hP hD hS 2 0 rfl rfl (by obtain ⟨i, k, e, e2, h0, h1, h2, h3⟩ := hinv; have := lt_wt e e2 h0 h1 h2 (by assumption); rw [e]; exact vp_in_nI (by omega) (by omega)) d_Mo_takeIn_54 (fun H locs hP hD hS => ?_)
        have hP : va_P (dC, dI) clsL [(h0, .inr (6, [.int v_thrown, .ref a_words, .int v_size, .ref a_rules, .int v_entries, .int v_outcome, .int v_pc, .int v_pcLabel, .ref a_registers, .ref a_registerLabels, .ref a_memory, .ref a_memoryLabels, .ref a_waiting, .ref a_waitingLabels, .int (v_wait - 1), .ref a_out, .ref a_outLabels, .int v_went, .int v_done, .int v_misses, .ref a_keys, .int v_known, .int v_group, .ref a_labels])), (a_waiting, .inl (cI, 64, .inl (upd w_g_waiting (Int32.toNatClampNeg y_2) (w_g_waiting (Int32.toNatClampNeg (y_2 + 1)))))), (a_waitingLabels, .inl (cI, 64, .inl (upd w_g_waitingLabels (Int32.toNatClampNeg y_2) (w_g_waitingLabels (Int32.toNatClampNeg (y_2 + 1))))))] H := hP
        have hD : va_D A [(h0, .inr (6, [.int v_thrown, .ref a_words, .int v_size, .ref a_rules, .int v_entries, .int v_outcome, .int v_pc, .int v_pcLabel, .ref a_registers, .ref a_registerLabels, .ref a_memory, .ref a_memoryLabels, .ref a_waiting, .ref a_waitingLabels, .int (v_wait - 1), .ref a_out, .ref a_outLabels, .int v_went, .int v_done, .int v_misses, .ref a_keys, .int v_known, .int v_group, .ref a_labels])), (a_waiting, .inl (cI, 64, .inl (upd w_g_waiting (Int32.toNatClampNeg y_2) (w_g_waiting (Int32.toNatClampNeg (y_2 + 1)))))), (a_waitingLabels, .inl (cI, 64, .inl (upd w_g_waitingLabels (Int32.toNatClampNeg y_2) (w_g_waitingLabels (Int32.toNatClampNeg (y_2 + 1))))))] := hD
        refine lv_iinc (v := (y_2 + 1)) (lv' := [(2, .int (y_2 + 1)), (1, .int (g_waiting (Int32.toNatClampNeg 0))), (0, .ref h0)]) hx hb d_Mo_takeIn_55 hl (k := 0) rfl rfl (by decide) rfl (fun ls hl => ?_)
        refine lv_goto (tgt := 19) hx hb d_Mo_takeIn_58 (by decide) ?_
        have hc0 := c_1
        exact ih_19 (y_2 + 1) (upd w_g_waiting (Int32.toNatClampNeg y_2) (w_g_waiting (Int32.toNatClampNeg (y_2 + 1)))) (upd w_g_waitingLabels (Int32.toNatClampNeg y_2) (w_g_waitingLabels (Int32.toNatClampNeg (y_2 + 1)))) (he_19.trans ((if_neg c_1).trans rfl)) (by obtain ⟨i, k, e, e2, h0, h1, h2, h3⟩ := hinv; exact ⟨i + 1, k, by rw [e]; exact nI_1 i, e2, h0, h1, lt_wt e e2 h0 h1 h2 hc0, by omega⟩) _ _ (hP.sub [0, 1, 2] rfl) (hD.sub [0, 1, 2] (by decide) rfl) hS ls (lv_sub hl [0, 1, 2] rfl)
  exact hloop_19 (65) 0 g_waiting g_waitingLabels (rfl) (by obtain ⟨k, h0, h1, h2⟩ := hwt; exact ⟨0, k, nI_0.symm, h2, h0, h1, by omega, by omega⟩) _ _ (hP.sub [0, 1, 2] rfl) (hD.sub [0, 1, 2] (by decide) rfl) hS ls (lv_sub hl [0, 1, 2] rfl)
def f_Mo_put (g_registers : Nat → Int32) (g_registerLabels : Nat → Int32) (x_p0 : Int32) (x_p1 : Int32) (x_p2 : Int32) : (Nat → Int32) × (Nat → Int32) :=
  if x_p0 ≤ 0 then
    (g_registers, g_registerLabels)
  else
    ((upd g_registers (Int32.toNatClampNeg x_p0) x_p1), (upd g_registerLabels (Int32.toNatClampNeg x_p0) x_p2))
set_option maxHeartbeats 4000000 in
set_option maxRecDepth 100000 in
theorem ct_Mo_put (l : Launch) (dC : Nat → ClassId) (dI : Nat → Nat → Nat) (cI : ClassId) (sz : Nat) (h0 a_words a_rules a_registers a_registerLabels a_memory a_memoryLabels a_waiting a_waitingLabels a_out a_outLabels a_keys a_labels : Nat) (v_thrown : Int32) (v_size : Int32) (v_entries : Int32) (v_outcome : Int32) (v_pc : Int32) (v_pcLabel : Int32) (v_wait : Int32) (v_went : Int32) (v_done : Int32) (v_misses : Int32) (v_known : Int32) (v_group : Int32) (g_registers : Nat → Int32) (g_registerLabels : Nat → Int32) (x_p0 : Int32) (x_p1 : Int32) (x_p2 : Int32) (hs_10_0 : (¬ x_p0 ≤ 0) → vp_in x_p0 32) : Met l y_Mo_put w_Mo_put ({ frames := 0, cells := 0, slots := 0, locals := 0 }) (pcW dC dI cI [(h0, .inr (6, [.int v_thrown, .ref a_words, .int v_size, .ref a_rules, .int v_entries, .int v_outcome, .int v_pc, .int v_pcLabel, .ref a_registers, .ref a_registerLabels, .ref a_memory, .ref a_memoryLabels, .ref a_waiting, .ref a_waitingLabels, .int v_wait, .ref a_out, .ref a_outLabels, .int v_went, .int v_done, .int v_misses, .ref a_keys, .int v_known, .int v_group, .ref a_labels])), (a_registers, .inl (cI, 32, .inl g_registers)), (a_registerLabels, .inl (cI, 32, .inl g_registerLabels))] sz [.ref h0, .int x_p0, .int x_p1, .int x_p2]) (va_Qv (fun _ : Unit => True) (fun _ t => atW dC dI cI [(h0, .inr (6, [.int v_thrown, .ref a_words, .int v_size, .ref a_rules, .int v_entries, .int v_outcome, .int v_pc, .int v_pcLabel, .ref a_registers, .ref a_registerLabels, .ref a_memory, .ref a_memoryLabels, .ref a_waiting, .ref a_waitingLabels, .int v_wait, .ref a_out, .ref a_outLabels, .int v_went, .int v_done, .int v_misses, .ref a_keys, .int v_known, .int v_group, .ref a_labels])), (a_registers, .inl (cI, 32, .inl ((f_Mo_put g_registers g_registerLabels x_p0 x_p1 x_p2).1))), (a_registerLabels, .inl (cI, 32, .inl ((f_Mo_put g_registers g_registerLabels x_p0 x_p1 x_p2).2)))] (va_A [(h0, .inr (6, [.int v_thrown, .ref a_words, .int v_size, .ref a_rules, .int v_entries, .int v_outcome, .int v_pc, .int v_pcLabel, .ref a_registers, .ref a_registerLabels, .ref a_memory, .ref a_memoryLabels, .ref a_waiting, .ref a_waitingLabels, .int v_wait, .ref a_out, .ref a_outLabels, .int v_went, .int v_done, .int v_misses, .ref a_keys, .int v_known, .int v_group, .ref a_labels])), (a_registers, .inl (cI, 32, .inl g_registers)), (a_registerLabels, .inl (cI, 32, .inl g_registerLabels))] sz) t) (va_A [(h0, .inr (6, [.int v_thrown, .ref a_words, .int v_size, .ref a_rules, .int v_entries, .int v_outcome, .int v_pc, .int v_pcLabel, .ref a_registers, .ref a_registerLabels, .ref a_memory, .ref a_memoryLabels, .ref a_waiting, .ref a_waitingLabels, .int v_wait, .ref a_out, .ref a_outLabels, .int v_went, .int v_done, .int v_misses, .ref a_keys, .int v_known, .int v_group, .ref a_labels])), (a_registers, .inl (cI, 32, .inl g_registers)), (a_registerLabels, .inl (cI, 32, .inl g_registerLabels))] sz)) 0 0 (va_A [(h0, .inr (6, [.int v_thrown, .ref a_words, .int v_size, .ref a_rules, .int v_entries, .int v_outcome, .int v_pc, .int v_pcLabel, .ref a_registers, .ref a_registerLabels, .ref a_memory, .ref a_memoryLabels, .ref a_waiting, .ref a_waitingLabels, .int v_wait, .ref a_out, .ref a_outLabels, .int v_went, .int v_done, .int v_misses, .ref a_keys, .int v_known, .int v_group, .ref a_labels])), (a_registers, .inl (cI, 32, .inl g_registers)), (a_registerLabels, .inl (cI, 32, .inl g_registerLabels))] sz) := by
  refine Met.ofW (cc := c_Mo_put) (maxL := 4) (ret := none) (by decide) rfl ?_
  intro p e s m args below meth c s₁ B hml hv
  obtain ⟨rfl, hsz, hP, hK, hD0⟩ := hv
  have hx := B.exec
  have hb := B.bytes
  have hr := B.returns
  have hts : ∀ w ∈ wG, w.before _ s = true := fun w h => atoms_spec (ws := w_Mo_put) B.pre w (List.mem_cons_of_mem _ h)
  have hown : s.vm.findClass "LabelledCoreModel" = some m.cls := findClass_of_methodNamed B.named
  have hlocks := B.notSynchronized
  subst hsz
  have hD := hD0.self (sz := s.heap.size)
  generalize hAe : va_A [(h0, .inr (6, [.int v_thrown, .ref a_words, .int v_size, .ref a_rules, .int v_entries, .int v_outcome, .int v_pc, .int v_pcLabel, .ref a_registers, .ref a_registerLabels, .ref a_memory, .ref a_memoryLabels, .ref a_waiting, .ref a_waitingLabels, .int v_wait, .ref a_out, .ref a_outLabels, .int v_went, .int v_done, .int v_misses, .ref a_keys, .int v_known, .int v_group, .ref a_labels])), (a_registers, .inl (cI, 32, .inl g_registers)), (a_registerLabels, .inl (cI, 32, .inl g_registerLabels))] s.heap.size = A at hD ⊢
  have hA : ∀ q : Nat, s.heap.size ≤ q → A q := fun q h => by rw [← hAe]; exact Or.inr h
  have hS : va_S A s.heap s.heap [] := va_S.rf
  have hP : va_P (dC, dI) clsL [(h0, .inr (6, [.int v_thrown, .ref a_words, .int v_size, .ref a_rules, .int v_entries, .int v_outcome, .int v_pc, .int v_pcLabel, .ref a_registers, .ref a_registerLabels, .ref a_memory, .ref a_memoryLabels, .ref a_waiting, .ref a_waitingLabels, .int v_wait, .ref a_out, .ref a_outLabels, .int v_went, .int v_done, .int v_misses, .ref a_keys, .int v_known, .int v_group, .ref a_labels])), (a_registers, .inl (cI, 32, .inl g_registers)), (a_registerLabels, .inl (cI, 32, .inl g_registerLabels))] s.heap := hP
  have hl := lv_entry ([.ref h0, .int x_p0, .int x_p1, .int x_p2]) (n := 4) (Nat.le_of_ble_eq_true rfl)
  rw [lg_entry_eq]
  generalize (lg_sl ([.ref h0, .int x_p0, .int x_p1, .int x_p2]) ++ List.replicate (4 - (lg_sl ([.ref h0, .int x_p0, .int x_p1, .int x_p2])).length) Slot.unset).toArray = ls at hl ⊢
  have hl : lv_has ls 4 [(0, .ref h0), (1, .int x_p0), (2, .int x_p1), (3, .int x_p2)] := hl
  refine lv_iload_n hx hb d_Mo_put_0 rfl (lv_at hl 1 rfl) ?_
  refine lv_if_le (tgt := 18) hx hb d_Mo_put_1 (by decide) (fun c_1 => ?_) (fun c_1 => ?_)
  · have ef : (f_Mo_put g_registers g_registerLabels x_p0 x_p1 x_p2) = ((g_registers, g_registerLabels) : (Nat → Int32) × (Nat → Int32)) := (if_pos c_1).trans rfl
    have hP9 := hP.sub (ws' := [(h0, .inr (6, [.int v_thrown, .ref a_words, .int v_size, .ref a_rules, .int v_entries, .int v_outcome, .int v_pc, .int v_pcLabel, .ref a_registers, .ref a_registerLabels, .ref a_memory, .ref a_memoryLabels, .ref a_waiting, .ref a_waitingLabels, .int v_wait, .ref a_out, .ref a_outLabels, .int v_went, .int v_done, .int v_misses, .ref a_keys, .int v_known, .int v_group, .ref a_labels])), (a_registers, .inl (cI, 32, .inl g_registers)), (a_registerLabels, .inl (cI, 32, .inl g_registerLabels))]) [0, 1, 2] rfl
    have hD9 := hD.sub (ws' := [(h0, .inr (6, [.int v_thrown, .ref a_words, .int v_size, .ref a_rules, .int v_entries, .int v_outcome, .int v_pc, .int v_pcLabel, .ref a_registers, .ref a_registerLabels, .ref a_memory, .ref a_memoryLabels, .ref a_waiting, .ref a_waitingLabels, .int v_wait, .ref a_out, .ref a_outLabels, .int v_went, .int v_done, .int v_misses, .ref a_keys, .int v_known, .int v_group, .ref a_labels])), (a_registers, .inl (cI, 32, .inl g_registers)), (a_registerLabels, .inl (cI, 32, .inl g_registerLabels))]) [0, 1, 2] (by decide) rfl
    exact W.vret hx hb hr (fun t ht hW => ⟨⟨(), rfl, trivial, by rw [ef, ht]; exact hP9, va_K.moved hW.alike hK, by rw [ef]; exact hD9⟩, hS.F ht⟩) hS.2.2 d_Mo_put_18
  · refine lv_aload_n hx hb d_Mo_put_4 rfl (lv_at hl 0 rfl) ?_
    refine va_get (D := (dC, dI)) (ci := 6) (v := .ref a_registers) (C := "LabelledCoreModel") (T := T_Mo) (N := 24) hx hb hts in_Mo hown hK hP 0 rfl rfl 8 (by decide) (hts _ wm_964) (fun _ h9 => h9) rfl d_Mo_put_5 ?_
    refine lv_iload_n hx hb d_Mo_put_8 rfl (lv_at hl 1 rfl) ?_
    refine lv_iload_n hx hb d_Mo_put_9 rfl (lv_at hl 2 rfl) ?_
    refine va_iast hx hb hK hP hD hS 1 0 rfl rfl (hs_10_0 c_1) d_Mo_put_10 (fun H locs hP hD hS => ?_)
    have hP : va_P (dC, dI) clsL [(h0, .inr (6, [.int v_thrown, .ref a_words, .int v_size, .ref a_rules, .int v_entries, .int v_outcome, .int v_pc, .int v_pcLabel, .ref a_registers, .ref a_registerLabels, .ref a_memory, .ref a_memoryLabels, .ref a_waiting, .ref a_waitingLabels, .int v_wait, .ref a_out, .ref a_outLabels, .int v_went, .int v_done, .int v_misses, .ref a_keys, .int v_known, .int v_group, .ref a_labels])), (a_registers, .inl (cI, 32, .inl (upd g_registers (Int32.toNatClampNeg x_p0) x_p1))), (a_registerLabels, .inl (cI, 32, .inl g_registerLabels))] H := hP
    have hD : va_D A [(h0, .inr (6, [.int v_thrown, .ref a_words, .int v_size, .ref a_rules, .int v_entries, .int v_outcome, .int v_pc, .int v_pcLabel, .ref a_registers, .ref a_registerLabels, .ref a_memory, .ref a_memoryLabels, .ref a_waiting, .ref a_waitingLabels, .int v_wait, .ref a_out, .ref a_outLabels, .int v_went, .int v_done, .int v_misses, .ref a_keys, .int v_known, .int v_group, .ref a_labels])), (a_registers, .inl (cI, 32, .inl (upd g_registers (Int32.toNatClampNeg x_p0) x_p1))), (a_registerLabels, .inl (cI, 32, .inl g_registerLabels))] := hD
    refine lv_aload_n hx hb d_Mo_put_11 rfl (lv_at hl 0 rfl) ?_
    refine va_get (D := (dC, dI)) (ci := 6) (v := .ref a_registerLabels) (C := "LabelledCoreModel") (T := T_Mo) (N := 24) hx hb hts in_Mo hown hK hP 0 rfl rfl 9 (by decide) (hts _ wm_965) (fun _ h9 => h9) rfl d_Mo_put_12 ?_
    refine lv_iload_n hx hb d_Mo_put_15 rfl (lv_at hl 1 rfl) ?_
    refine lv_iload_n hx hb d_Mo_put_16 rfl (lv_at hl 3 rfl) ?_
    refine va_iast hx hb hK hP hD hS 2 0 rfl rfl (hs_10_0 c_1) d_Mo_put_17 (fun H locs hP hD hS => ?_)
    have hP : va_P (dC, dI) clsL [(h0, .inr (6, [.int v_thrown, .ref a_words, .int v_size, .ref a_rules, .int v_entries, .int v_outcome, .int v_pc, .int v_pcLabel, .ref a_registers, .ref a_registerLabels, .ref a_memory, .ref a_memoryLabels, .ref a_waiting, .ref a_waitingLabels, .int v_wait, .ref a_out, .ref a_outLabels, .int v_went, .int v_done, .int v_misses, .ref a_keys, .int v_known, .int v_group, .ref a_labels])), (a_registers, .inl (cI, 32, .inl (upd g_registers (Int32.toNatClampNeg x_p0) x_p1))), (a_registerLabels, .inl (cI, 32, .inl (upd g_registerLabels (Int32.toNatClampNeg x_p0) x_p2)))] H := hP
    have hD : va_D A [(h0, .inr (6, [.int v_thrown, .ref a_words, .int v_size, .ref a_rules, .int v_entries, .int v_outcome, .int v_pc, .int v_pcLabel, .ref a_registers, .ref a_registerLabels, .ref a_memory, .ref a_memoryLabels, .ref a_waiting, .ref a_waitingLabels, .int v_wait, .ref a_out, .ref a_outLabels, .int v_went, .int v_done, .int v_misses, .ref a_keys, .int v_known, .int v_group, .ref a_labels])), (a_registers, .inl (cI, 32, .inl (upd g_registers (Int32.toNatClampNeg x_p0) x_p1))), (a_registerLabels, .inl (cI, 32, .inl (upd g_registerLabels (Int32.toNatClampNeg x_p0) x_p2)))] := hD
    have ef : (f_Mo_put g_registers g_registerLabels x_p0 x_p1 x_p2) = (((upd g_registers (Int32.toNatClampNeg x_p0) x_p1), (upd g_registerLabels (Int32.toNatClampNeg x_p0) x_p2)) : (Nat → Int32) × (Nat → Int32)) := (if_neg c_1).trans rfl
    have hP9 := hP.sub (ws' := [(h0, .inr (6, [.int v_thrown, .ref a_words, .int v_size, .ref a_rules, .int v_entries, .int v_outcome, .int v_pc, .int v_pcLabel, .ref a_registers, .ref a_registerLabels, .ref a_memory, .ref a_memoryLabels, .ref a_waiting, .ref a_waitingLabels, .int v_wait, .ref a_out, .ref a_outLabels, .int v_went, .int v_done, .int v_misses, .ref a_keys, .int v_known, .int v_group, .ref a_labels])), (a_registers, .inl (cI, 32, .inl (upd g_registers (Int32.toNatClampNeg x_p0) x_p1))), (a_registerLabels, .inl (cI, 32, .inl (upd g_registerLabels (Int32.toNatClampNeg x_p0) x_p2)))]) [0, 1, 2] rfl
    have hD9 := hD.sub (ws' := [(h0, .inr (6, [.int v_thrown, .ref a_words, .int v_size, .ref a_rules, .int v_entries, .int v_outcome, .int v_pc, .int v_pcLabel, .ref a_registers, .ref a_registerLabels, .ref a_memory, .ref a_memoryLabels, .ref a_waiting, .ref a_waitingLabels, .int v_wait, .ref a_out, .ref a_outLabels, .int v_went, .int v_done, .int v_misses, .ref a_keys, .int v_known, .int v_group, .ref a_labels])), (a_registers, .inl (cI, 32, .inl (upd g_registers (Int32.toNatClampNeg x_p0) x_p1))), (a_registerLabels, .inl (cI, 32, .inl (upd g_registerLabels (Int32.toNatClampNeg x_p0) x_p2)))]) [0, 1, 2] (by decide) rfl
    exact W.vret hx hb hr (fun t ht hW => ⟨⟨(), rfl, trivial, by rw [ef, ht]; exact hP9, va_K.moved hW.alike hK, by rw [ef]; exact hD9⟩, hS.F ht⟩) hS.2.2 d_Mo_put_18
def f_Mo_load (g_registers : Nat → Int32) (g_memory : Nat → Int32) (x_p0 : Int32) : Int32 :=
  if (f_Mo_f x_p0) = 2 then
    (g_memory (Int32.toNatClampNeg (((f_Mo_address g_registers x_p0) - 4096) / 4)))
  else
    if (f_Mo_f x_p0) = 4 then
      (((g_memory (Int32.toNatClampNeg (((f_Mo_address g_registers x_p0) - 4096) / 4))) >>> ((8 * (((f_Mo_address g_registers x_p0) - 4096) - ((f_Mo_address g_registers x_p0) - 4096) / 4 * 4)) &&& 31)) &&& 255)
    else
      if 128 ≤ (((g_memory (Int32.toNatClampNeg (((f_Mo_address g_registers x_p0) - 4096) / 4))) >>> ((8 * (((f_Mo_address g_registers x_p0) - 4096) - ((f_Mo_address g_registers x_p0) - 4096) / 4 * 4)) &&& 31)) &&& 255) then
        ((((g_memory (Int32.toNatClampNeg (((f_Mo_address g_registers x_p0) - 4096) / 4))) >>> ((8 * (((f_Mo_address g_registers x_p0) - 4096) - ((f_Mo_address g_registers x_p0) - 4096) / 4 * 4)) &&& 31)) &&& 255) - 256)
      else
        (((g_memory (Int32.toNatClampNeg (((f_Mo_address g_registers x_p0) - 4096) / 4))) >>> ((8 * (((f_Mo_address g_registers x_p0) - 4096) - ((f_Mo_address g_registers x_p0) - 4096) / 4 * 4)) &&& 31)) &&& 255)
set_option maxHeartbeats 4000000 in
set_option maxRecDepth 100000 in
theorem ct_Mo_load (l : Launch) (dC : Nat → ClassId) (dI : Nat → Nat → Nat) (cI : ClassId) (h0 a_words a_rules a_registers a_registerLabels a_memory a_memoryLabels a_waiting a_waitingLabels a_out a_outLabels a_keys a_labels : Nat) (v_thrown : Int32) (v_size : Int32) (v_entries : Int32) (v_outcome : Int32) (v_pc : Int32) (v_pcLabel : Int32) (v_wait : Int32) (v_went : Int32) (v_done : Int32) (v_misses : Int32) (v_known : Int32) (v_group : Int32) (g_registers : Nat → Int32) (g_memory : Nat → Int32) (x_p0 : Int32) (hs_17_0 : vp_in (((f_Mo_address g_registers x_p0) - 4096) / 4) 64) : Met l y_Mo_load w_Mo_load ({ frames := 2, cells := 0, slots := 0, locals := 42 }) (pcR dC dI cI [(h0, .inr (6, [.int v_thrown, .ref a_words, .int v_size, .ref a_rules, .int v_entries, .int v_outcome, .int v_pc, .int v_pcLabel, .ref a_registers, .ref a_registerLabels, .ref a_memory, .ref a_memoryLabels, .ref a_waiting, .ref a_waitingLabels, .int v_wait, .ref a_out, .ref a_outLabels, .int v_went, .int v_done, .int v_misses, .ref a_keys, .int v_known, .int v_group, .ref a_labels])), (a_registers, .inl (cI, 32, .inl g_registers)), (a_memory, .inl (cI, 64, .inl g_memory))] [.ref h0, .int x_p0]) (QcRead (f_Mo_load g_registers g_memory x_p0)) 0 0 (fun _ => False) := by
  refine Met.ofW (cc := c_Mo_load) (maxL := 5) (ret := (some .int)) (by decide) rfl ?_
  intro p e s m args below meth c s₁ B hml hv
  obtain ⟨rfl, hP, hK⟩ := hv
  have hx := B.exec
  have hb := B.bytes
  have hr := B.returns
  have hts : ∀ w ∈ wG, w.before _ s = true := fun w h => atoms_spec (ws := w_Mo_load) B.pre w (List.mem_cons_of_mem _ h)
  have hown : s.vm.findClass "LabelledCoreModel" = some m.cls := findClass_of_methodNamed B.named
  have hlocks := B.notSynchronized
  have hl := lv_entry ([.ref h0, .int x_p0]) (n := 5) (Nat.le_of_ble_eq_true rfl)
  rw [lg_entry_eq]
  generalize (lg_sl ([.ref h0, .int x_p0]) ++ List.replicate (5 - (lg_sl ([.ref h0, .int x_p0])).length) Slot.unset).toArray = ls at hl ⊢
  have hl : lv_has ls 5 [(0, .ref h0), (1, .int x_p0)] := hl
  refine lv_aload_n hx hb d_Mo_load_0 rfl (lv_at hl 0 rfl) ?_
  refine lv_iload_n hx hb d_Mo_load_1 rfl (lv_at hl 1 rfl) ?_
  have hPc := hP.sub (ws' := [(h0, .inr (6, [.int v_thrown, .ref a_words, .int v_size, .ref a_rules, .int v_entries, .int v_outcome, .int v_pc, .int v_pcLabel, .ref a_registers, .ref a_registerLabels, .ref a_memory, .ref a_memoryLabels, .ref a_waiting, .ref a_waitingLabels, .int v_wait, .ref a_out, .ref a_outLabels, .int v_went, .int v_done, .int v_misses, .ref a_keys, .int v_known, .int v_group, .ref a_labels])), (a_registers, .inl (cI, 32, .inl g_registers))]) [0, 1] rfl
  refine W.callR ((W.runV (As := [.int x_p0]) (rest := []) ⟨hx, hb, hml, hown, hts⟩ (ct_Mo_address l dC dI cI h0 a_words a_rules a_registers a_registerLabels a_memory a_memoryLabels a_waiting a_waitingLabels a_out a_outLabels a_keys a_labels v_thrown v_size v_entries v_outcome v_pc v_pcLabel v_wait v_went v_done v_misses v_known v_group g_registers x_p0) (cwV 1 hts (gV wm_1093 wm_1095 wm_22 wm_42 wm_1096) rfl rfl rfl (by decide +kernel) ⟨Nat.le_of_ble_eq_true rfl, Nat.le_of_ble_eq_true rfl⟩) ⟨pcR_blind, va_recv hK hPc (ci := 6) (q0 := 0) rfl rfl, pcR_pre hPc hK⟩ rfl rfl hl.1 rfl (lv_room (Nat.le_of_ble_eq_true rfl)) d_Mo_load_2 ⟨Nat.le_of_ble_eq_true rfl, Nat.le_of_ble_eq_true rfl⟩)) ?_
  refine W.eq (g2 := F0 m 5 ls [.int (f_Mo_address g_registers x_p0)]) rfl ?_
  refine lv_sipush (v := 4096) hx hb d_Mo_load_5 (by decide) ?_
  refine lv_isub hx hb d_Mo_load_8 ?_
  refine lv_istore_n (lv' := [(2, .int ((f_Mo_address g_registers x_p0) - 4096)), (0, .ref h0), (1, .int x_p0)]) hx hb d_Mo_load_9 rfl hl (by decide) rfl (fun ls hl => ?_)
  refine lv_aload_n hx hb d_Mo_load_10 rfl (lv_at hl 1 rfl) ?_
  refine va_get (D := (dC, dI)) (ci := 6) (v := .ref a_memory) (C := "LabelledCoreModel") (T := T_Mo) (N := 24) hx hb hts in_Mo hown hK hP 0 rfl rfl 10 (by decide) (hts _ wm_966) (fun _ h9 => h9) rfl d_Mo_load_11 ?_
  refine lv_iload_n hx hb d_Mo_load_14 rfl (lv_at hl 0 rfl) ?_
  refine lv_iconst (v := 4) hx hb d_Mo_load_15 (by decide) ?_
  refine lv_idiv hx hb d_Mo_load_16 (by decide) ?_
  refine va_iald hx hb hK hP 2 0 rfl rfl hs_17_0 d_Mo_load_17 ?_
  refine lv_istore_n (lv' := [(3, .int (g_memory (Int32.toNatClampNeg (((f_Mo_address g_registers x_p0) - 4096) / 4)))), (2, .int ((f_Mo_address g_registers x_p0) - 4096)), (0, .ref h0), (1, .int x_p0)]) hx hb d_Mo_load_18 rfl hl (by decide) rfl (fun ls hl => ?_)
  refine lv_iload_n hx hb d_Mo_load_19 rfl (lv_at hl 0 rfl) ?_
  refine lv_bipush (v := 8) hx hb d_Mo_load_20 (by decide) ?_
  refine lv_iload_n hx hb d_Mo_load_22 rfl (lv_at hl 1 rfl) ?_
  refine lv_iconst (v := 4) hx hb d_Mo_load_23 (by decide) ?_
  refine lv_irem hx hb d_Mo_load_24 (by decide) ?_
  refine lv_imul hx hb d_Mo_load_25 ?_
  refine lv_ishr hx hb d_Mo_load_26 ?_
  refine lv_sipush (v := 255) hx hb d_Mo_load_27 (by decide) ?_
  refine lv_iand hx hb d_Mo_load_30 ?_
  refine lv_istore (lv' := [(4, .int (((g_memory (Int32.toNatClampNeg (((f_Mo_address g_registers x_p0) - 4096) / 4))) >>> ((8 * (((f_Mo_address g_registers x_p0) - 4096) - ((f_Mo_address g_registers x_p0) - 4096) / 4 * 4)) &&& 31)) &&& 255)), (3, .int (g_memory (Int32.toNatClampNeg (((f_Mo_address g_registers x_p0) - 4096) / 4)))), (2, .int ((f_Mo_address g_registers x_p0) - 4096)), (0, .ref h0), (1, .int x_p0)]) hx hb d_Mo_load_31 hl (by decide) rfl (fun ls hl => ?_)
  refine lv_iload_n hx hb d_Mo_load_33 rfl (lv_at hl 4 rfl) ?_
  have hPc := hP.sub (ws' := []) [] rfl
  refine W.callR ((W.runS (As := [.int x_p0]) (rest := []) ⟨hx, hb, hml, hown, hts⟩ (ct_Mo_f l dC dI cI x_p0) (va_cwS 1 hts (gS wm_1080 wm_1081 wm_42 wm_1082) rfl rfl rfl (by decide +kernel) ⟨Nat.le_of_ble_eq_true rfl, Nat.le_of_ble_eq_true rfl⟩) ⟨pcR_blind, pcR_pre hPc hK⟩ rfl rfl hl.1 rfl (lv_room (Nat.le_of_ble_eq_true rfl)) d_Mo_load_34 ⟨Nat.le_of_ble_eq_true rfl, Nat.le_of_ble_eq_true rfl⟩)) ?_
  refine W.eq (g2 := F0 m 37 ls [.int (f_Mo_f x_p0)]) rfl ?_
  refine lv_iconst (v := 2) hx hb d_Mo_load_37 (by decide) ?_
  refine lv_icmp_ne (tgt := 45) hx hb d_Mo_load_38 (by decide) (fun c_1 => ?_) (fun c_1 => ?_)
  · refine lv_iload_n hx hb d_Mo_load_45 rfl (lv_at hl 4 rfl) ?_
    have hPc := hP.sub (ws' := []) [] rfl
    refine W.callR ((W.runS (As := [.int x_p0]) (rest := []) ⟨hx, hb, hml, hown, hts⟩ (ct_Mo_f l dC dI cI x_p0) (va_cwS 1 hts (gS wm_1080 wm_1081 wm_42 wm_1082) rfl rfl rfl (by decide +kernel) ⟨Nat.le_of_ble_eq_true rfl, Nat.le_of_ble_eq_true rfl⟩) ⟨pcR_blind, pcR_pre hPc hK⟩ rfl rfl hl.1 rfl (lv_room (Nat.le_of_ble_eq_true rfl)) d_Mo_load_46 ⟨Nat.le_of_ble_eq_true rfl, Nat.le_of_ble_eq_true rfl⟩)) ?_
    refine W.eq (g2 := F0 m 49 ls [.int (f_Mo_f x_p0)]) rfl ?_
    refine lv_iconst (v := 4) hx hb d_Mo_load_49 (by decide) ?_
    refine lv_icmp_eq (tgt := 61) hx hb d_Mo_load_50 (by decide) (fun c_2 => ?_) (fun c_2 => ?_)
    · refine lv_iload hx hb d_Mo_load_61 (lv_at hl 0 rfl) ?_
      refine lv_goto (tgt := 72) hx hb d_Mo_load_63 (by decide) ?_
      have ef : (f_Mo_load g_registers g_memory x_p0) = ((((g_memory (Int32.toNatClampNeg (((f_Mo_address g_registers x_p0) - 4096) / 4))) >>> ((8 * (((f_Mo_address g_registers x_p0) - 4096) - ((f_Mo_address g_registers x_p0) - 4096) / 4 * 4)) &&& 31)) &&& 255) : Int32) := (if_neg c_1).trans ((if_pos c_2).trans rfl)
      exact W.iret (v := (((g_memory (Int32.toNatClampNeg (((f_Mo_address g_registers x_p0) - 4096) / 4))) >>> ((8 * (((f_Mo_address g_registers x_p0) - 4096) - ((f_Mo_address g_registers x_p0) - 4096) / 4 * 4)) &&& 31)) &&& 255)) hx hb hr (fun t ht hW => ⟨by rw [ef], ht⟩) (fun _ h => by cases h) d_Mo_load_72
    · refine lv_iload hx hb d_Mo_load_53 (lv_at hl 0 rfl) ?_
      refine lv_sipush (v := 128) hx hb d_Mo_load_55 (by decide) ?_
      refine lv_icmp_ge (tgt := 66) hx hb d_Mo_load_58 (by decide) (fun c_3 => ?_) (fun c_3 => ?_)
      · refine lv_iload hx hb d_Mo_load_66 (lv_at hl 0 rfl) ?_
        refine lv_sipush (v := 256) hx hb d_Mo_load_68 (by decide) ?_
        refine lv_isub hx hb d_Mo_load_71 ?_
        have ef : (f_Mo_load g_registers g_memory x_p0) = (((((g_memory (Int32.toNatClampNeg (((f_Mo_address g_registers x_p0) - 4096) / 4))) >>> ((8 * (((f_Mo_address g_registers x_p0) - 4096) - ((f_Mo_address g_registers x_p0) - 4096) / 4 * 4)) &&& 31)) &&& 255) - 256) : Int32) := (if_neg c_1).trans ((if_neg c_2).trans ((if_pos c_3).trans rfl))
        exact W.iret (v := ((((g_memory (Int32.toNatClampNeg (((f_Mo_address g_registers x_p0) - 4096) / 4))) >>> ((8 * (((f_Mo_address g_registers x_p0) - 4096) - ((f_Mo_address g_registers x_p0) - 4096) / 4 * 4)) &&& 31)) &&& 255) - 256)) hx hb hr (fun t ht hW => ⟨by rw [ef], ht⟩) (fun _ h => by cases h) d_Mo_load_72
      · refine lv_iload hx hb d_Mo_load_61 (lv_at hl 0 rfl) ?_
        refine lv_goto (tgt := 72) hx hb d_Mo_load_63 (by decide) ?_
        have ef : (f_Mo_load g_registers g_memory x_p0) = ((((g_memory (Int32.toNatClampNeg (((f_Mo_address g_registers x_p0) - 4096) / 4))) >>> ((8 * (((f_Mo_address g_registers x_p0) - 4096) - ((f_Mo_address g_registers x_p0) - 4096) / 4 * 4)) &&& 31)) &&& 255) : Int32) := (if_neg c_1).trans ((if_neg c_2).trans ((if_neg c_3).trans rfl))
        exact W.iret (v := (((g_memory (Int32.toNatClampNeg (((f_Mo_address g_registers x_p0) - 4096) / 4))) >>> ((8 * (((f_Mo_address g_registers x_p0) - 4096) - ((f_Mo_address g_registers x_p0) - 4096) / 4 * 4)) &&& 31)) &&& 255)) hx hb hr (fun t ht hW => ⟨by rw [ef], ht⟩) (fun _ h => by cases h) d_Mo_load_72
  · refine lv_iload_n hx hb d_Mo_load_41 rfl (lv_at hl 1 rfl) ?_
    refine lv_goto (tgt := 72) hx hb d_Mo_load_42 (by decide) ?_
    have ef : (f_Mo_load g_registers g_memory x_p0) = ((g_memory (Int32.toNatClampNeg (((f_Mo_address g_registers x_p0) - 4096) / 4))) : Int32) := (if_pos c_1).trans rfl
    exact W.iret (v := (g_memory (Int32.toNatClampNeg (((f_Mo_address g_registers x_p0) - 4096) / 4)))) hx hb hr (fun t ht hW => ⟨by rw [ef], ht⟩) (fun _ h => by cases h) d_Mo_load_72
def f_Mo_store (v_group : Int32) (g_registers : Nat → Int32) (g_memory : Nat → Int32) (g_memoryLabels : Nat → Int32) (x_p0 : Int32) (x_p1 : Int32) : (Nat → Int32) × (Nat → Int32) :=
  if v_group = 3 then
    ((upd g_memory (Int32.toNatClampNeg (((f_Mo_address g_registers x_p0) - 4096) / 4)) (((g_memory (Int32.toNatClampNeg (((f_Mo_address g_registers x_p0) - 4096) / 4))) &&& ((255 <<< ((8 * (((f_Mo_address g_registers x_p0) - 4096) - ((f_Mo_address g_registers x_p0) - 4096) / 4 * 4)) &&& 31)) ^^^ (-1))) ||| (((g_registers (Int32.toNatClampNeg (f_Mo_b x_p0))) &&& 255) <<< ((8 * (((f_Mo_address g_registers x_p0) - 4096) - ((f_Mo_address g_registers x_p0) - 4096) / 4 * 4)) &&& 31)))), (upd g_memoryLabels (Int32.toNatClampNeg (((f_Mo_address g_registers x_p0) - 4096) / 4)) x_p1))
  else
    ((upd g_memory (Int32.toNatClampNeg (((f_Mo_address g_registers x_p0) - 4096) / 4)) (g_registers (Int32.toNatClampNeg (f_Mo_b x_p0)))), (upd g_memoryLabels (Int32.toNatClampNeg (((f_Mo_address g_registers x_p0) - 4096) / 4)) x_p1))
set_option maxHeartbeats 4000000 in
set_option maxRecDepth 100000 in
theorem ct_Mo_store (l : Launch) (dC : Nat → ClassId) (dI : Nat → Nat → Nat) (cI : ClassId) (sz : Nat) (h0 a_words a_rules a_registers a_registerLabels a_memory a_memoryLabels a_waiting a_waitingLabels a_out a_outLabels a_keys a_labels : Nat) (v_thrown : Int32) (v_size : Int32) (v_entries : Int32) (v_outcome : Int32) (v_pc : Int32) (v_pcLabel : Int32) (v_wait : Int32) (v_went : Int32) (v_done : Int32) (v_misses : Int32) (v_known : Int32) (v_group : Int32) (g_registers : Nat → Int32) (g_memory : Nat → Int32) (g_memoryLabels : Nat → Int32) (x_p0 : Int32) (x_p1 : Int32) (hs_75_0 : (¬ v_group = 3) → vp_in (((f_Mo_address g_registers x_p0) - 4096) / 4) 64) (hs_44_1 : (v_group = 3) → vp_in (((f_Mo_address g_registers x_p0) - 4096) / 4) 64) : Met l y_Mo_store w_Mo_store ({ frames := 2, cells := 0, slots := 0, locals := 42 }) (pcW dC dI cI [(h0, .inr (6, [.int v_thrown, .ref a_words, .int v_size, .ref a_rules, .int v_entries, .int v_outcome, .int v_pc, .int v_pcLabel, .ref a_registers, .ref a_registerLabels, .ref a_memory, .ref a_memoryLabels, .ref a_waiting, .ref a_waitingLabels, .int v_wait, .ref a_out, .ref a_outLabels, .int v_went, .int v_done, .int v_misses, .ref a_keys, .int v_known, .int v_group, .ref a_labels])), (a_registers, .inl (cI, 32, .inl g_registers)), (a_memory, .inl (cI, 64, .inl g_memory)), (a_memoryLabels, .inl (cI, 64, .inl g_memoryLabels))] sz [.ref h0, .int x_p0, .int x_p1]) (va_Qv (fun _ : Unit => True) (fun _ t => atW dC dI cI [(h0, .inr (6, [.int v_thrown, .ref a_words, .int v_size, .ref a_rules, .int v_entries, .int v_outcome, .int v_pc, .int v_pcLabel, .ref a_registers, .ref a_registerLabels, .ref a_memory, .ref a_memoryLabels, .ref a_waiting, .ref a_waitingLabels, .int v_wait, .ref a_out, .ref a_outLabels, .int v_went, .int v_done, .int v_misses, .ref a_keys, .int v_known, .int v_group, .ref a_labels])), (a_registers, .inl (cI, 32, .inl g_registers)), (a_memory, .inl (cI, 64, .inl ((f_Mo_store v_group g_registers g_memory g_memoryLabels x_p0 x_p1).1))), (a_memoryLabels, .inl (cI, 64, .inl ((f_Mo_store v_group g_registers g_memory g_memoryLabels x_p0 x_p1).2)))] (va_A [(h0, .inr (6, [.int v_thrown, .ref a_words, .int v_size, .ref a_rules, .int v_entries, .int v_outcome, .int v_pc, .int v_pcLabel, .ref a_registers, .ref a_registerLabels, .ref a_memory, .ref a_memoryLabels, .ref a_waiting, .ref a_waitingLabels, .int v_wait, .ref a_out, .ref a_outLabels, .int v_went, .int v_done, .int v_misses, .ref a_keys, .int v_known, .int v_group, .ref a_labels])), (a_registers, .inl (cI, 32, .inl g_registers)), (a_memory, .inl (cI, 64, .inl g_memory)), (a_memoryLabels, .inl (cI, 64, .inl g_memoryLabels))] sz) t) (va_A [(h0, .inr (6, [.int v_thrown, .ref a_words, .int v_size, .ref a_rules, .int v_entries, .int v_outcome, .int v_pc, .int v_pcLabel, .ref a_registers, .ref a_registerLabels, .ref a_memory, .ref a_memoryLabels, .ref a_waiting, .ref a_waitingLabels, .int v_wait, .ref a_out, .ref a_outLabels, .int v_went, .int v_done, .int v_misses, .ref a_keys, .int v_known, .int v_group, .ref a_labels])), (a_registers, .inl (cI, 32, .inl g_registers)), (a_memory, .inl (cI, 64, .inl g_memory)), (a_memoryLabels, .inl (cI, 64, .inl g_memoryLabels))] sz)) 0 0 (va_A [(h0, .inr (6, [.int v_thrown, .ref a_words, .int v_size, .ref a_rules, .int v_entries, .int v_outcome, .int v_pc, .int v_pcLabel, .ref a_registers, .ref a_registerLabels, .ref a_memory, .ref a_memoryLabels, .ref a_waiting, .ref a_waitingLabels, .int v_wait, .ref a_out, .ref a_outLabels, .int v_went, .int v_done, .int v_misses, .ref a_keys, .int v_known, .int v_group, .ref a_labels])), (a_registers, .inl (cI, 32, .inl g_registers)), (a_memory, .inl (cI, 64, .inl g_memory)), (a_memoryLabels, .inl (cI, 64, .inl g_memoryLabels))] sz) := by
  refine Met.ofW (cc := c_Mo_store) (maxL := 6) (ret := none) (by decide) rfl ?_
  intro p e s m args below meth c s₁ B hml hv
  obtain ⟨rfl, hsz, hP, hK, hD0⟩ := hv
  have hx := B.exec
  have hb := B.bytes
  have hr := B.returns
  have hts : ∀ w ∈ wG, w.before _ s = true := fun w h => atoms_spec (ws := w_Mo_store) B.pre w (List.mem_cons_of_mem _ h)
  have hown : s.vm.findClass "LabelledCoreModel" = some m.cls := findClass_of_methodNamed B.named
  have hlocks := B.notSynchronized
  subst hsz
  have hD := hD0.self (sz := s.heap.size)
  generalize hAe : va_A [(h0, .inr (6, [.int v_thrown, .ref a_words, .int v_size, .ref a_rules, .int v_entries, .int v_outcome, .int v_pc, .int v_pcLabel, .ref a_registers, .ref a_registerLabels, .ref a_memory, .ref a_memoryLabels, .ref a_waiting, .ref a_waitingLabels, .int v_wait, .ref a_out, .ref a_outLabels, .int v_went, .int v_done, .int v_misses, .ref a_keys, .int v_known, .int v_group, .ref a_labels])), (a_registers, .inl (cI, 32, .inl g_registers)), (a_memory, .inl (cI, 64, .inl g_memory)), (a_memoryLabels, .inl (cI, 64, .inl g_memoryLabels))] s.heap.size = A at hD ⊢
  have hA : ∀ q : Nat, s.heap.size ≤ q → A q := fun q h => by rw [← hAe]; exact Or.inr h
  have hS : va_S A s.heap s.heap [] := va_S.rf
  have hP : va_P (dC, dI) clsL [(h0, .inr (6, [.int v_thrown, .ref a_words, .int v_size, .ref a_rules, .int v_entries, .int v_outcome, .int v_pc, .int v_pcLabel, .ref a_registers, .ref a_registerLabels, .ref a_memory, .ref a_memoryLabels, .ref a_waiting, .ref a_waitingLabels, .int v_wait, .ref a_out, .ref a_outLabels, .int v_went, .int v_done, .int v_misses, .ref a_keys, .int v_known, .int v_group, .ref a_labels])), (a_registers, .inl (cI, 32, .inl g_registers)), (a_memory, .inl (cI, 64, .inl g_memory)), (a_memoryLabels, .inl (cI, 64, .inl g_memoryLabels))] s.heap := hP
  have hl := lv_entry ([.ref h0, .int x_p0, .int x_p1]) (n := 6) (Nat.le_of_ble_eq_true rfl)
  rw [lg_entry_eq]
  generalize (lg_sl ([.ref h0, .int x_p0, .int x_p1]) ++ List.replicate (6 - (lg_sl ([.ref h0, .int x_p0, .int x_p1])).length) Slot.unset).toArray = ls at hl ⊢
  have hl : lv_has ls 6 [(0, .ref h0), (1, .int x_p0), (2, .int x_p1)] := hl
  refine lv_aload_n hx hb d_Mo_store_0 rfl (lv_at hl 0 rfl) ?_
  refine lv_iload_n hx hb d_Mo_store_1 rfl (lv_at hl 1 rfl) ?_
  have hPc := hP.sub (ws' := [(h0, .inr (6, [.int v_thrown, .ref a_words, .int v_size, .ref a_rules, .int v_entries, .int v_outcome, .int v_pc, .int v_pcLabel, .ref a_registers, .ref a_registerLabels, .ref a_memory, .ref a_memoryLabels, .ref a_waiting, .ref a_waitingLabels, .int v_wait, .ref a_out, .ref a_outLabels, .int v_went, .int v_done, .int v_misses, .ref a_keys, .int v_known, .int v_group, .ref a_labels])), (a_registers, .inl (cI, 32, .inl g_registers))]) [0, 1] rfl
  refine W.callR ((W.runV (As := [.int x_p0]) (rest := []) ⟨hx, hb, hml, hown, hts⟩ (ct_Mo_address l dC dI cI h0 a_words a_rules a_registers a_registerLabels a_memory a_memoryLabels a_waiting a_waitingLabels a_out a_outLabels a_keys a_labels v_thrown v_size v_entries v_outcome v_pc v_pcLabel v_wait v_went v_done v_misses v_known v_group g_registers x_p0) (cwV 1 hts (gV wm_1093 wm_1095 wm_22 wm_42 wm_1096) rfl rfl rfl (by decide +kernel) ⟨Nat.le_of_ble_eq_true rfl, Nat.le_of_ble_eq_true rfl⟩) ⟨pcR_blind, va_recv hK hPc (ci := 6) (q0 := 0) rfl rfl, pcR_pre hPc hK⟩ rfl rfl hl.1 rfl (lv_room (Nat.le_of_ble_eq_true rfl)) d_Mo_store_2 ⟨Nat.le_of_ble_eq_true rfl, Nat.le_of_ble_eq_true rfl⟩)) ?_
  refine W.eq (g2 := F0 m 5 ls [.int (f_Mo_address g_registers x_p0)]) rfl ?_
  refine lv_sipush (v := 4096) hx hb d_Mo_store_5 (by decide) ?_
  refine lv_isub hx hb d_Mo_store_8 ?_
  refine lv_istore_n (lv' := [(3, .int ((f_Mo_address g_registers x_p0) - 4096)), (0, .ref h0), (1, .int x_p0), (2, .int x_p1)]) hx hb d_Mo_store_9 rfl hl (by decide) rfl (fun ls hl => ?_)
  refine lv_aload_n hx hb d_Mo_store_10 rfl (lv_at hl 1 rfl) ?_
  refine va_get (D := (dC, dI)) (ci := 6) (v := .ref a_registers) (C := "LabelledCoreModel") (T := T_Mo) (N := 24) hx hb hts in_Mo hown hK hP 0 rfl rfl 8 (by decide) (hts _ wm_964) (fun _ h9 => h9) rfl d_Mo_store_11 ?_
  refine lv_iload_n hx hb d_Mo_store_14 rfl (lv_at hl 2 rfl) ?_
  have hPc := hP.sub (ws' := []) [] rfl
  refine W.callR ((W.runS (As := [.int x_p0]) (rest := [.ref a_registers]) ⟨hx, hb, hml, hown, hts⟩ (ct_Mo_b l dC dI cI x_p0) (va_cwS 1 hts (gS wm_1107 wm_1108 wm_42 wm_1109) rfl rfl rfl (by decide +kernel) ⟨Nat.le_of_ble_eq_true rfl, Nat.le_of_ble_eq_true rfl⟩) ⟨pcR_blind, pcR_pre hPc hK⟩ rfl rfl hl.1 rfl (lv_room (Nat.le_of_ble_eq_true rfl)) d_Mo_store_15 ⟨Nat.le_of_ble_eq_true rfl, Nat.le_of_ble_eq_true rfl⟩)) ?_
  refine W.eq (g2 := F0 m 18 ls [.int (f_Mo_b x_p0), .ref a_registers]) rfl ?_
  refine va_iald hx hb hK hP 1 0 rfl rfl (in_Mo_b _) d_Mo_store_18 ?_
  refine lv_istore (lv' := [(4, .int (g_registers (Int32.toNatClampNeg (f_Mo_b x_p0)))), (3, .int ((f_Mo_address g_registers x_p0) - 4096)), (0, .ref h0), (1, .int x_p0), (2, .int x_p1)]) hx hb d_Mo_store_19 hl (by decide) rfl (fun ls hl => ?_)
  refine lv_aload_n hx hb d_Mo_store_21 rfl (lv_at hl 2 rfl) ?_
  refine va_get (D := (dC, dI)) (ci := 6) (v := .int v_group) (C := "LabelledCoreModel") (T := T_Mo) (N := 24) hx hb hts in_Mo hown hK hP 0 rfl rfl 22 (by decide) (hts _ wm_978) (fun _ h9 => h9) rfl d_Mo_store_22 ?_
  refine lv_iconst (v := 3) hx hb d_Mo_store_25 (by decide) ?_
  refine lv_icmp_ne (tgt := 66) hx hb d_Mo_store_26 (by decide) (fun c_1 => ?_) (fun c_1 => ?_)
  · refine lv_aload_n hx hb d_Mo_store_66 rfl (lv_at hl 2 rfl) ?_
    refine va_get (D := (dC, dI)) (ci := 6) (v := .ref a_memory) (C := "LabelledCoreModel") (T := T_Mo) (N := 24) hx hb hts in_Mo hown hK hP 0 rfl rfl 10 (by decide) (hts _ wm_966) (fun _ h9 => h9) rfl d_Mo_store_67 ?_
    refine lv_iload_n hx hb d_Mo_store_70 rfl (lv_at hl 1 rfl) ?_
    refine lv_iconst (v := 4) hx hb d_Mo_store_71 (by decide) ?_
    refine lv_idiv hx hb d_Mo_store_72 (by decide) ?_
    refine lv_iload hx hb d_Mo_store_73 (lv_at hl 0 rfl) ?_
    refine va_iast hx hb hK hP hD hS 2 0 rfl rfl (hs_75_0 c_1) d_Mo_store_75 (fun H locs hP hD hS => ?_)
    have hP : va_P (dC, dI) clsL [(h0, .inr (6, [.int v_thrown, .ref a_words, .int v_size, .ref a_rules, .int v_entries, .int v_outcome, .int v_pc, .int v_pcLabel, .ref a_registers, .ref a_registerLabels, .ref a_memory, .ref a_memoryLabels, .ref a_waiting, .ref a_waitingLabels, .int v_wait, .ref a_out, .ref a_outLabels, .int v_went, .int v_done, .int v_misses, .ref a_keys, .int v_known, .int v_group, .ref a_labels])), (a_registers, .inl (cI, 32, .inl g_registers)), (a_memory, .inl (cI, 64, .inl (upd g_memory (Int32.toNatClampNeg (((f_Mo_address g_registers x_p0) - 4096) / 4)) (g_registers (Int32.toNatClampNeg (f_Mo_b x_p0)))))), (a_memoryLabels, .inl (cI, 64, .inl g_memoryLabels))] H := hP
    have hD : va_D A [(h0, .inr (6, [.int v_thrown, .ref a_words, .int v_size, .ref a_rules, .int v_entries, .int v_outcome, .int v_pc, .int v_pcLabel, .ref a_registers, .ref a_registerLabels, .ref a_memory, .ref a_memoryLabels, .ref a_waiting, .ref a_waitingLabels, .int v_wait, .ref a_out, .ref a_outLabels, .int v_went, .int v_done, .int v_misses, .ref a_keys, .int v_known, .int v_group, .ref a_labels])), (a_registers, .inl (cI, 32, .inl g_registers)), (a_memory, .inl (cI, 64, .inl (upd g_memory (Int32.toNatClampNeg (((f_Mo_address g_registers x_p0) - 4096) / 4)) (g_registers (Int32.toNatClampNeg (f_Mo_b x_p0)))))), (a_memoryLabels, .inl (cI, 64, .inl g_memoryLabels))] := hD
    refine lv_aload_n hx hb d_Mo_store_76 rfl (lv_at hl 2 rfl) ?_
    refine va_get (D := (dC, dI)) (ci := 6) (v := .ref a_memoryLabels) (C := "LabelledCoreModel") (T := T_Mo) (N := 24) hx hb hts in_Mo hown hK hP 0 rfl rfl 11 (by decide) (hts _ wm_967) (fun _ h9 => h9) rfl d_Mo_store_77 ?_
    refine lv_iload_n hx hb d_Mo_store_80 rfl (lv_at hl 1 rfl) ?_
    refine lv_iconst (v := 4) hx hb d_Mo_store_81 (by decide) ?_
    refine lv_idiv hx hb d_Mo_store_82 (by decide) ?_
    refine lv_iload_n hx hb d_Mo_store_83 rfl (lv_at hl 4 rfl) ?_
    refine va_iast hx hb hK hP hD hS 3 0 rfl rfl (hs_75_0 c_1) d_Mo_store_84 (fun H locs hP hD hS => ?_)
    have hP : va_P (dC, dI) clsL [(h0, .inr (6, [.int v_thrown, .ref a_words, .int v_size, .ref a_rules, .int v_entries, .int v_outcome, .int v_pc, .int v_pcLabel, .ref a_registers, .ref a_registerLabels, .ref a_memory, .ref a_memoryLabels, .ref a_waiting, .ref a_waitingLabels, .int v_wait, .ref a_out, .ref a_outLabels, .int v_went, .int v_done, .int v_misses, .ref a_keys, .int v_known, .int v_group, .ref a_labels])), (a_registers, .inl (cI, 32, .inl g_registers)), (a_memory, .inl (cI, 64, .inl (upd g_memory (Int32.toNatClampNeg (((f_Mo_address g_registers x_p0) - 4096) / 4)) (g_registers (Int32.toNatClampNeg (f_Mo_b x_p0)))))), (a_memoryLabels, .inl (cI, 64, .inl (upd g_memoryLabels (Int32.toNatClampNeg (((f_Mo_address g_registers x_p0) - 4096) / 4)) x_p1)))] H := hP
    have hD : va_D A [(h0, .inr (6, [.int v_thrown, .ref a_words, .int v_size, .ref a_rules, .int v_entries, .int v_outcome, .int v_pc, .int v_pcLabel, .ref a_registers, .ref a_registerLabels, .ref a_memory, .ref a_memoryLabels, .ref a_waiting, .ref a_waitingLabels, .int v_wait, .ref a_out, .ref a_outLabels, .int v_went, .int v_done, .int v_misses, .ref a_keys, .int v_known, .int v_group, .ref a_labels])), (a_registers, .inl (cI, 32, .inl g_registers)), (a_memory, .inl (cI, 64, .inl (upd g_memory (Int32.toNatClampNeg (((f_Mo_address g_registers x_p0) - 4096) / 4)) (g_registers (Int32.toNatClampNeg (f_Mo_b x_p0)))))), (a_memoryLabels, .inl (cI, 64, .inl (upd g_memoryLabels (Int32.toNatClampNeg (((f_Mo_address g_registers x_p0) - 4096) / 4)) x_p1)))] := hD
    have ef : (f_Mo_store v_group g_registers g_memory g_memoryLabels x_p0 x_p1) = (((upd g_memory (Int32.toNatClampNeg (((f_Mo_address g_registers x_p0) - 4096) / 4)) (g_registers (Int32.toNatClampNeg (f_Mo_b x_p0)))), (upd g_memoryLabels (Int32.toNatClampNeg (((f_Mo_address g_registers x_p0) - 4096) / 4)) x_p1)) : (Nat → Int32) × (Nat → Int32)) := (if_neg c_1).trans rfl
    have hP9 := hP.sub (ws' := [(h0, .inr (6, [.int v_thrown, .ref a_words, .int v_size, .ref a_rules, .int v_entries, .int v_outcome, .int v_pc, .int v_pcLabel, .ref a_registers, .ref a_registerLabels, .ref a_memory, .ref a_memoryLabels, .ref a_waiting, .ref a_waitingLabels, .int v_wait, .ref a_out, .ref a_outLabels, .int v_went, .int v_done, .int v_misses, .ref a_keys, .int v_known, .int v_group, .ref a_labels])), (a_registers, .inl (cI, 32, .inl g_registers)), (a_memory, .inl (cI, 64, .inl (upd g_memory (Int32.toNatClampNeg (((f_Mo_address g_registers x_p0) - 4096) / 4)) (g_registers (Int32.toNatClampNeg (f_Mo_b x_p0)))))), (a_memoryLabels, .inl (cI, 64, .inl (upd g_memoryLabels (Int32.toNatClampNeg (((f_Mo_address g_registers x_p0) - 4096) / 4)) x_p1)))]) [0, 1, 2, 3] rfl
    have hD9 := hD.sub (ws' := [(h0, .inr (6, [.int v_thrown, .ref a_words, .int v_size, .ref a_rules, .int v_entries, .int v_outcome, .int v_pc, .int v_pcLabel, .ref a_registers, .ref a_registerLabels, .ref a_memory, .ref a_memoryLabels, .ref a_waiting, .ref a_waitingLabels, .int v_wait, .ref a_out, .ref a_outLabels, .int v_went, .int v_done, .int v_misses, .ref a_keys, .int v_known, .int v_group, .ref a_labels])), (a_registers, .inl (cI, 32, .inl g_registers)), (a_memory, .inl (cI, 64, .inl (upd g_memory (Int32.toNatClampNeg (((f_Mo_address g_registers x_p0) - 4096) / 4)) (g_registers (Int32.toNatClampNeg (f_Mo_b x_p0)))))), (a_memoryLabels, .inl (cI, 64, .inl (upd g_memoryLabels (Int32.toNatClampNeg (((f_Mo_address g_registers x_p0) - 4096) / 4)) x_p1)))]) [0, 1, 2, 3] (by decide) rfl
    exact W.vret hx hb hr (fun t ht hW => ⟨⟨(), rfl, trivial, by rw [ef, ht]; exact hP9, va_K.moved hW.alike hK, by rw [ef]; exact hD9⟩, hS.F ht⟩) hS.2.2 d_Mo_store_85
  · refine lv_bipush (v := 8) hx hb d_Mo_store_29 (by decide) ?_
    refine lv_iload_n hx hb d_Mo_store_31 rfl (lv_at hl 1 rfl) ?_
    refine lv_iconst (v := 4) hx hb d_Mo_store_32 (by decide) ?_
    refine lv_irem hx hb d_Mo_store_33 (by decide) ?_
    refine lv_imul hx hb d_Mo_store_34 ?_
    refine lv_istore (lv' := [(5, .int (8 * (((f_Mo_address g_registers x_p0) - 4096) - ((f_Mo_address g_registers x_p0) - 4096) / 4 * 4))), (4, .int (g_registers (Int32.toNatClampNeg (f_Mo_b x_p0)))), (3, .int ((f_Mo_address g_registers x_p0) - 4096)), (0, .ref h0), (1, .int x_p0), (2, .int x_p1)]) hx hb d_Mo_store_35 hl (by decide) rfl (fun ls hl => ?_)
    refine lv_aload_n hx hb d_Mo_store_37 rfl (lv_at hl 3 rfl) ?_
    refine va_get (D := (dC, dI)) (ci := 6) (v := .ref a_memory) (C := "LabelledCoreModel") (T := T_Mo) (N := 24) hx hb hts in_Mo hown hK hP 0 rfl rfl 10 (by decide) (hts _ wm_966) (fun _ h9 => h9) rfl d_Mo_store_38 ?_
    refine lv_iload_n hx hb d_Mo_store_41 rfl (lv_at hl 2 rfl) ?_
    refine lv_iconst (v := 4) hx hb d_Mo_store_42 (by decide) ?_
    refine lv_idiv hx hb d_Mo_store_43 (by decide) ?_
    refine va_iald hx hb hK hP 2 0 rfl rfl (hs_44_1 c_1) d_Mo_store_44 ?_
    refine lv_sipush (v := 255) hx hb d_Mo_store_45 (by decide) ?_
    refine lv_iload hx hb d_Mo_store_48 (lv_at hl 0 rfl) ?_
    refine lv_ishl hx hb d_Mo_store_50 ?_
    refine lv_iconst (v := (-1)) hx hb d_Mo_store_51 (by decide) ?_
    refine lv_ixor hx hb d_Mo_store_52 ?_
    refine lv_iand hx hb d_Mo_store_53 ?_
    refine lv_iload hx hb d_Mo_store_54 (lv_at hl 1 rfl) ?_
    refine lv_sipush (v := 255) hx hb d_Mo_store_56 (by decide) ?_
    refine lv_iand hx hb d_Mo_store_59 ?_
    refine lv_iload hx hb d_Mo_store_60 (lv_at hl 0 rfl) ?_
    refine lv_ishl hx hb d_Mo_store_62 ?_
    refine lv_ior hx hb d_Mo_store_63 ?_
    refine lv_istore (lv' := [(4, .int (((g_memory (Int32.toNatClampNeg (((f_Mo_address g_registers x_p0) - 4096) / 4))) &&& ((255 <<< ((8 * (((f_Mo_address g_registers x_p0) - 4096) - ((f_Mo_address g_registers x_p0) - 4096) / 4 * 4)) &&& 31)) ^^^ (-1))) ||| (((g_registers (Int32.toNatClampNeg (f_Mo_b x_p0))) &&& 255) <<< ((8 * (((f_Mo_address g_registers x_p0) - 4096) - ((f_Mo_address g_registers x_p0) - 4096) / 4 * 4)) &&& 31)))), (5, .int (8 * (((f_Mo_address g_registers x_p0) - 4096) - ((f_Mo_address g_registers x_p0) - 4096) / 4 * 4))), (3, .int ((f_Mo_address g_registers x_p0) - 4096)), (0, .ref h0), (1, .int x_p0), (2, .int x_p1)]) hx hb d_Mo_store_64 hl (by decide) rfl (fun ls hl => ?_)
    refine lv_aload_n hx hb d_Mo_store_66 rfl (lv_at hl 3 rfl) ?_
    refine va_get (D := (dC, dI)) (ci := 6) (v := .ref a_memory) (C := "LabelledCoreModel") (T := T_Mo) (N := 24) hx hb hts in_Mo hown hK hP 0 rfl rfl 10 (by decide) (hts _ wm_966) (fun _ h9 => h9) rfl d_Mo_store_67 ?_
    refine lv_iload_n hx hb d_Mo_store_70 rfl (lv_at hl 2 rfl) ?_
    refine lv_iconst (v := 4) hx hb d_Mo_store_71 (by decide) ?_
    refine lv_idiv hx hb d_Mo_store_72 (by decide) ?_
    refine lv_iload hx hb d_Mo_store_73 (lv_at hl 0 rfl) ?_
    refine va_iast hx hb hK hP hD hS 2 0 rfl rfl (hs_44_1 c_1) d_Mo_store_75 (fun H locs hP hD hS => ?_)
    have hP : va_P (dC, dI) clsL [(h0, .inr (6, [.int v_thrown, .ref a_words, .int v_size, .ref a_rules, .int v_entries, .int v_outcome, .int v_pc, .int v_pcLabel, .ref a_registers, .ref a_registerLabels, .ref a_memory, .ref a_memoryLabels, .ref a_waiting, .ref a_waitingLabels, .int v_wait, .ref a_out, .ref a_outLabels, .int v_went, .int v_done, .int v_misses, .ref a_keys, .int v_known, .int v_group, .ref a_labels])), (a_registers, .inl (cI, 32, .inl g_registers)), (a_memory, .inl (cI, 64, .inl (upd g_memory (Int32.toNatClampNeg (((f_Mo_address g_registers x_p0) - 4096) / 4)) (((g_memory (Int32.toNatClampNeg (((f_Mo_address g_registers x_p0) - 4096) / 4))) &&& ((255 <<< ((8 * (((f_Mo_address g_registers x_p0) - 4096) - ((f_Mo_address g_registers x_p0) - 4096) / 4 * 4)) &&& 31)) ^^^ (-1))) ||| (((g_registers (Int32.toNatClampNeg (f_Mo_b x_p0))) &&& 255) <<< ((8 * (((f_Mo_address g_registers x_p0) - 4096) - ((f_Mo_address g_registers x_p0) - 4096) / 4 * 4)) &&& 31)))))), (a_memoryLabels, .inl (cI, 64, .inl g_memoryLabels))] H := hP
    have hD : va_D A [(h0, .inr (6, [.int v_thrown, .ref a_words, .int v_size, .ref a_rules, .int v_entries, .int v_outcome, .int v_pc, .int v_pcLabel, .ref a_registers, .ref a_registerLabels, .ref a_memory, .ref a_memoryLabels, .ref a_waiting, .ref a_waitingLabels, .int v_wait, .ref a_out, .ref a_outLabels, .int v_went, .int v_done, .int v_misses, .ref a_keys, .int v_known, .int v_group, .ref a_labels])), (a_registers, .inl (cI, 32, .inl g_registers)), (a_memory, .inl (cI, 64, .inl (upd g_memory (Int32.toNatClampNeg (((f_Mo_address g_registers x_p0) - 4096) / 4)) (((g_memory (Int32.toNatClampNeg (((f_Mo_address g_registers x_p0) - 4096) / 4))) &&& ((255 <<< ((8 * (((f_Mo_address g_registers x_p0) - 4096) - ((f_Mo_address g_registers x_p0) - 4096) / 4 * 4)) &&& 31)) ^^^ (-1))) ||| (((g_registers (Int32.toNatClampNeg (f_Mo_b x_p0))) &&& 255) <<< ((8 * (((f_Mo_address g_registers x_p0) - 4096) - ((f_Mo_address g_registers x_p0) - 4096) / 4 * 4)) &&& 31)))))), (a_memoryLabels, .inl (cI, 64, .inl g_memoryLabels))] := hD
    refine lv_aload_n hx hb d_Mo_store_76 rfl (lv_at hl 3 rfl) ?_
    refine va_get (D := (dC, dI)) (ci := 6) (v := .ref a_memoryLabels) (C := "LabelledCoreModel") (T := T_Mo) (N := 24) hx hb hts in_Mo hown hK hP 0 rfl rfl 11 (by decide) (hts _ wm_967) (fun _ h9 => h9) rfl d_Mo_store_77 ?_
    refine lv_iload_n hx hb d_Mo_store_80 rfl (lv_at hl 2 rfl) ?_
    refine lv_iconst (v := 4) hx hb d_Mo_store_81 (by decide) ?_
    refine lv_idiv hx hb d_Mo_store_82 (by decide) ?_
    refine lv_iload_n hx hb d_Mo_store_83 rfl (lv_at hl 5 rfl) ?_
    refine va_iast hx hb hK hP hD hS 3 0 rfl rfl (hs_44_1 c_1) d_Mo_store_84 (fun H locs hP hD hS => ?_)
    have hP : va_P (dC, dI) clsL [(h0, .inr (6, [.int v_thrown, .ref a_words, .int v_size, .ref a_rules, .int v_entries, .int v_outcome, .int v_pc, .int v_pcLabel, .ref a_registers, .ref a_registerLabels, .ref a_memory, .ref a_memoryLabels, .ref a_waiting, .ref a_waitingLabels, .int v_wait, .ref a_out, .ref a_outLabels, .int v_went, .int v_done, .int v_misses, .ref a_keys, .int v_known, .int v_group, .ref a_labels])), (a_registers, .inl (cI, 32, .inl g_registers)), (a_memory, .inl (cI, 64, .inl (upd g_memory (Int32.toNatClampNeg (((f_Mo_address g_registers x_p0) - 4096) / 4)) (((g_memory (Int32.toNatClampNeg (((f_Mo_address g_registers x_p0) - 4096) / 4))) &&& ((255 <<< ((8 * (((f_Mo_address g_registers x_p0) - 4096) - ((f_Mo_address g_registers x_p0) - 4096) / 4 * 4)) &&& 31)) ^^^ (-1))) ||| (((g_registers (Int32.toNatClampNeg (f_Mo_b x_p0))) &&& 255) <<< ((8 * (((f_Mo_address g_registers x_p0) - 4096) - ((f_Mo_address g_registers x_p0) - 4096) / 4 * 4)) &&& 31)))))), (a_memoryLabels, .inl (cI, 64, .inl (upd g_memoryLabels (Int32.toNatClampNeg (((f_Mo_address g_registers x_p0) - 4096) / 4)) x_p1)))] H := hP
    have hD : va_D A [(h0, .inr (6, [.int v_thrown, .ref a_words, .int v_size, .ref a_rules, .int v_entries, .int v_outcome, .int v_pc, .int v_pcLabel, .ref a_registers, .ref a_registerLabels, .ref a_memory, .ref a_memoryLabels, .ref a_waiting, .ref a_waitingLabels, .int v_wait, .ref a_out, .ref a_outLabels, .int v_went, .int v_done, .int v_misses, .ref a_keys, .int v_known, .int v_group, .ref a_labels])), (a_registers, .inl (cI, 32, .inl g_registers)), (a_memory, .inl (cI, 64, .inl (upd g_memory (Int32.toNatClampNeg (((f_Mo_address g_registers x_p0) - 4096) / 4)) (((g_memory (Int32.toNatClampNeg (((f_Mo_address g_registers x_p0) - 4096) / 4))) &&& ((255 <<< ((8 * (((f_Mo_address g_registers x_p0) - 4096) - ((f_Mo_address g_registers x_p0) - 4096) / 4 * 4)) &&& 31)) ^^^ (-1))) ||| (((g_registers (Int32.toNatClampNeg (f_Mo_b x_p0))) &&& 255) <<< ((8 * (((f_Mo_address g_registers x_p0) - 4096) - ((f_Mo_address g_registers x_p0) - 4096) / 4 * 4)) &&& 31)))))), (a_memoryLabels, .inl (cI, 64, .inl (upd g_memoryLabels (Int32.toNatClampNeg (((f_Mo_address g_registers x_p0) - 4096) / 4)) x_p1)))] := hD
    have ef : (f_Mo_store v_group g_registers g_memory g_memoryLabels x_p0 x_p1) = (((upd g_memory (Int32.toNatClampNeg (((f_Mo_address g_registers x_p0) - 4096) / 4)) (((g_memory (Int32.toNatClampNeg (((f_Mo_address g_registers x_p0) - 4096) / 4))) &&& ((255 <<< ((8 * (((f_Mo_address g_registers x_p0) - 4096) - ((f_Mo_address g_registers x_p0) - 4096) / 4 * 4)) &&& 31)) ^^^ (-1))) ||| (((g_registers (Int32.toNatClampNeg (f_Mo_b x_p0))) &&& 255) <<< ((8 * (((f_Mo_address g_registers x_p0) - 4096) - ((f_Mo_address g_registers x_p0) - 4096) / 4 * 4)) &&& 31)))), (upd g_memoryLabels (Int32.toNatClampNeg (((f_Mo_address g_registers x_p0) - 4096) / 4)) x_p1)) : (Nat → Int32) × (Nat → Int32)) := (if_pos c_1).trans rfl
    have hP9 := hP.sub (ws' := [(h0, .inr (6, [.int v_thrown, .ref a_words, .int v_size, .ref a_rules, .int v_entries, .int v_outcome, .int v_pc, .int v_pcLabel, .ref a_registers, .ref a_registerLabels, .ref a_memory, .ref a_memoryLabels, .ref a_waiting, .ref a_waitingLabels, .int v_wait, .ref a_out, .ref a_outLabels, .int v_went, .int v_done, .int v_misses, .ref a_keys, .int v_known, .int v_group, .ref a_labels])), (a_registers, .inl (cI, 32, .inl g_registers)), (a_memory, .inl (cI, 64, .inl (upd g_memory (Int32.toNatClampNeg (((f_Mo_address g_registers x_p0) - 4096) / 4)) (((g_memory (Int32.toNatClampNeg (((f_Mo_address g_registers x_p0) - 4096) / 4))) &&& ((255 <<< ((8 * (((f_Mo_address g_registers x_p0) - 4096) - ((f_Mo_address g_registers x_p0) - 4096) / 4 * 4)) &&& 31)) ^^^ (-1))) ||| (((g_registers (Int32.toNatClampNeg (f_Mo_b x_p0))) &&& 255) <<< ((8 * (((f_Mo_address g_registers x_p0) - 4096) - ((f_Mo_address g_registers x_p0) - 4096) / 4 * 4)) &&& 31)))))), (a_memoryLabels, .inl (cI, 64, .inl (upd g_memoryLabels (Int32.toNatClampNeg (((f_Mo_address g_registers x_p0) - 4096) / 4)) x_p1)))]) [0, 1, 2, 3] rfl
    have hD9 := hD.sub (ws' := [(h0, .inr (6, [.int v_thrown, .ref a_words, .int v_size, .ref a_rules, .int v_entries, .int v_outcome, .int v_pc, .int v_pcLabel, .ref a_registers, .ref a_registerLabels, .ref a_memory, .ref a_memoryLabels, .ref a_waiting, .ref a_waitingLabels, .int v_wait, .ref a_out, .ref a_outLabels, .int v_went, .int v_done, .int v_misses, .ref a_keys, .int v_known, .int v_group, .ref a_labels])), (a_registers, .inl (cI, 32, .inl g_registers)), (a_memory, .inl (cI, 64, .inl (upd g_memory (Int32.toNatClampNeg (((f_Mo_address g_registers x_p0) - 4096) / 4)) (((g_memory (Int32.toNatClampNeg (((f_Mo_address g_registers x_p0) - 4096) / 4))) &&& ((255 <<< ((8 * (((f_Mo_address g_registers x_p0) - 4096) - ((f_Mo_address g_registers x_p0) - 4096) / 4 * 4)) &&& 31)) ^^^ (-1))) ||| (((g_registers (Int32.toNatClampNeg (f_Mo_b x_p0))) &&& 255) <<< ((8 * (((f_Mo_address g_registers x_p0) - 4096) - ((f_Mo_address g_registers x_p0) - 4096) / 4 * 4)) &&& 31)))))), (a_memoryLabels, .inl (cI, 64, .inl (upd g_memoryLabels (Int32.toNatClampNeg (((f_Mo_address g_registers x_p0) - 4096) / 4)) x_p1)))]) [0, 1, 2, 3] (by decide) rfl
    exact W.vret hx hb hr (fun t ht hW => ⟨⟨(), rfl, trivial, by rw [ef, ht]; exact hP9, va_K.moved hW.alike hK, by rw [ef]; exact hD9⟩, hS.F ht⟩) hS.2.2 d_Mo_store_85
def f_Mo_isAllowed (v_group : Int32) (g_rules : Nat → Int32) (g_labels : Nat → Int32) : Int32 :=
  if ((f_Mo_join g_labels (g_rules (Int32.toNatClampNeg ((4 * v_group) + 2)))) &&& ((f_Mo_join g_labels (g_rules (Int32.toNatClampNeg ((4 * v_group) + 3)))) ^^^ (-1))) = 0 then
    1
  else
    0
set_option maxHeartbeats 4000000 in
set_option maxRecDepth 100000 in
theorem ct_Mo_isAllowed (l : Launch) (dC : Nat → ClassId) (dI : Nat → Nat → Nat) (cI : ClassId) (h0 a_words a_rules a_registers a_registerLabels a_memory a_memoryLabels a_waiting a_waitingLabels a_out a_outLabels a_keys a_labels : Nat) (v_thrown : Int32) (v_size : Int32) (v_entries : Int32) (v_outcome : Int32) (v_pc : Int32) (v_pcLabel : Int32) (v_wait : Int32) (v_went : Int32) (v_done : Int32) (v_misses : Int32) (v_known : Int32) (v_group : Int32) (g_rules : Nat → Int32) (g_labels : Nat → Int32) (hs_13_0 : vp_in ((4 * v_group) + 2) 36) (hs_30_1 : vp_in ((4 * v_group) + 3) 36) : Met l y_Mo_isAllowed w_Mo_isAllowed ({ frames := 1, cells := 0, slots := 0, locals := 23 }) (pcR dC dI cI [(h0, .inr (6, [.int v_thrown, .ref a_words, .int v_size, .ref a_rules, .int v_entries, .int v_outcome, .int v_pc, .int v_pcLabel, .ref a_registers, .ref a_registerLabels, .ref a_memory, .ref a_memoryLabels, .ref a_waiting, .ref a_waitingLabels, .int v_wait, .ref a_out, .ref a_outLabels, .int v_went, .int v_done, .int v_misses, .ref a_keys, .int v_known, .int v_group, .ref a_labels])), (a_rules, .inl (cI, 36, .inl g_rules)), (a_labels, .inl (cI, 4, .inl g_labels))] [.ref h0]) (QcRead (f_Mo_isAllowed v_group g_rules g_labels)) 0 0 (fun _ => False) := by
  refine Met.ofW (cc := c_Mo_isAllowed) (maxL := 1) (ret := (some .boolean)) (by decide) rfl ?_
  intro p e s m args below meth c s₁ B hml hv
  obtain ⟨rfl, hP, hK⟩ := hv
  have hx := B.exec
  have hb := B.bytes
  have hr := B.returns
  have hts : ∀ w ∈ wG, w.before _ s = true := fun w h => atoms_spec (ws := w_Mo_isAllowed) B.pre w (List.mem_cons_of_mem _ h)
  have hown : s.vm.findClass "LabelledCoreModel" = some m.cls := findClass_of_methodNamed B.named
  have hlocks := B.notSynchronized
  have hl := lv_entry ([.ref h0]) (n := 1) (Nat.le_of_ble_eq_true rfl)
  rw [lg_entry_eq]
  generalize (lg_sl ([.ref h0]) ++ List.replicate (1 - (lg_sl ([.ref h0])).length) Slot.unset).toArray = ls at hl ⊢
  have hl : lv_has ls 1 [(0, .ref h0)] := hl
  refine lv_aload_n hx hb d_Mo_isAllowed_0 rfl (lv_at hl 0 rfl) ?_
  refine lv_aload_n hx hb d_Mo_isAllowed_1 rfl (lv_at hl 0 rfl) ?_
  refine va_get (D := (dC, dI)) (ci := 6) (v := .ref a_rules) (C := "LabelledCoreModel") (T := T_Mo) (N := 24) hx hb hts in_Mo hown hK hP 0 rfl rfl 3 (by decide) (hts _ wm_959) (fun _ h9 => h9) rfl d_Mo_isAllowed_2 ?_
  refine lv_iconst (v := 4) hx hb d_Mo_isAllowed_5 (by decide) ?_
  refine lv_aload_n hx hb d_Mo_isAllowed_6 rfl (lv_at hl 0 rfl) ?_
  refine va_get (D := (dC, dI)) (ci := 6) (v := .int v_group) (C := "LabelledCoreModel") (T := T_Mo) (N := 24) hx hb hts in_Mo hown hK hP 0 rfl rfl 22 (by decide) (hts _ wm_978) (fun _ h9 => h9) rfl d_Mo_isAllowed_7 ?_
  refine lv_imul hx hb d_Mo_isAllowed_10 ?_
  refine lv_iconst (v := 2) hx hb d_Mo_isAllowed_11 (by decide) ?_
  refine lv_iadd hx hb d_Mo_isAllowed_12 ?_
  refine va_iald hx hb hK hP 1 0 rfl rfl hs_13_0 d_Mo_isAllowed_13 ?_
  have hPc := hP.sub (ws' := [(h0, .inr (6, [.int v_thrown, .ref a_words, .int v_size, .ref a_rules, .int v_entries, .int v_outcome, .int v_pc, .int v_pcLabel, .ref a_registers, .ref a_registerLabels, .ref a_memory, .ref a_memoryLabels, .ref a_waiting, .ref a_waitingLabels, .int v_wait, .ref a_out, .ref a_outLabels, .int v_went, .int v_done, .int v_misses, .ref a_keys, .int v_known, .int v_group, .ref a_labels])), (a_labels, .inl (cI, 4, .inl g_labels))]) [0, 2] rfl
  refine W.callR ((W.runV (As := [.int (g_rules (Int32.toNatClampNeg ((4 * v_group) + 2)))]) (rest := []) ⟨hx, hb, hml, hown, hts⟩ (ct_Mo_join l dC dI cI h0 a_words a_rules a_registers a_registerLabels a_memory a_memoryLabels a_waiting a_waitingLabels a_out a_outLabels a_keys a_labels v_thrown v_size v_entries v_outcome v_pc v_pcLabel v_wait v_went v_done v_misses v_known v_group g_labels (g_rules (Int32.toNatClampNeg ((4 * v_group) + 2)))) (cwV 1 hts (gV wm_1114 wm_1116 wm_25 wm_42 wm_1117) rfl rfl rfl (by decide +kernel) ⟨Nat.le_of_ble_eq_true rfl, Nat.le_of_ble_eq_true rfl⟩) ⟨pcR_blind, va_recv hK hPc (ci := 6) (q0 := 0) rfl rfl, pcR_pre hPc hK⟩ rfl rfl hl.1 rfl (lv_room (Nat.le_of_ble_eq_true rfl)) d_Mo_isAllowed_14 ⟨Nat.le_of_ble_eq_true rfl, Nat.le_of_ble_eq_true rfl⟩)) ?_
  refine W.eq (g2 := F0 m 17 ls [.int (f_Mo_join g_labels (g_rules (Int32.toNatClampNeg ((4 * v_group) + 2))))]) rfl ?_
  refine lv_aload_n hx hb d_Mo_isAllowed_17 rfl (lv_at hl 0 rfl) ?_
  refine lv_aload_n hx hb d_Mo_isAllowed_18 rfl (lv_at hl 0 rfl) ?_
  refine va_get (D := (dC, dI)) (ci := 6) (v := .ref a_rules) (C := "LabelledCoreModel") (T := T_Mo) (N := 24) hx hb hts in_Mo hown hK hP 0 rfl rfl 3 (by decide) (hts _ wm_959) (fun _ h9 => h9) rfl d_Mo_isAllowed_19 ?_
  refine lv_iconst (v := 4) hx hb d_Mo_isAllowed_22 (by decide) ?_
  refine lv_aload_n hx hb d_Mo_isAllowed_23 rfl (lv_at hl 0 rfl) ?_
  refine va_get (D := (dC, dI)) (ci := 6) (v := .int v_group) (C := "LabelledCoreModel") (T := T_Mo) (N := 24) hx hb hts in_Mo hown hK hP 0 rfl rfl 22 (by decide) (hts _ wm_978) (fun _ h9 => h9) rfl d_Mo_isAllowed_24 ?_
  refine lv_imul hx hb d_Mo_isAllowed_27 ?_
  refine lv_iconst (v := 3) hx hb d_Mo_isAllowed_28 (by decide) ?_
  refine lv_iadd hx hb d_Mo_isAllowed_29 ?_
  refine va_iald hx hb hK hP 1 0 rfl rfl hs_30_1 d_Mo_isAllowed_30 ?_
  have hPc := hP.sub (ws' := [(h0, .inr (6, [.int v_thrown, .ref a_words, .int v_size, .ref a_rules, .int v_entries, .int v_outcome, .int v_pc, .int v_pcLabel, .ref a_registers, .ref a_registerLabels, .ref a_memory, .ref a_memoryLabels, .ref a_waiting, .ref a_waitingLabels, .int v_wait, .ref a_out, .ref a_outLabels, .int v_went, .int v_done, .int v_misses, .ref a_keys, .int v_known, .int v_group, .ref a_labels])), (a_labels, .inl (cI, 4, .inl g_labels))]) [0, 2] rfl
  refine W.callR ((W.runV (As := [.int (g_rules (Int32.toNatClampNeg ((4 * v_group) + 3)))]) (rest := [.int (f_Mo_join g_labels (g_rules (Int32.toNatClampNeg ((4 * v_group) + 2))))]) ⟨hx, hb, hml, hown, hts⟩ (ct_Mo_join l dC dI cI h0 a_words a_rules a_registers a_registerLabels a_memory a_memoryLabels a_waiting a_waitingLabels a_out a_outLabels a_keys a_labels v_thrown v_size v_entries v_outcome v_pc v_pcLabel v_wait v_went v_done v_misses v_known v_group g_labels (g_rules (Int32.toNatClampNeg ((4 * v_group) + 3)))) (cwV 1 hts (gV wm_1114 wm_1116 wm_25 wm_42 wm_1117) rfl rfl rfl (by decide +kernel) ⟨Nat.le_of_ble_eq_true rfl, Nat.le_of_ble_eq_true rfl⟩) ⟨pcR_blind, va_recv hK hPc (ci := 6) (q0 := 0) rfl rfl, pcR_pre hPc hK⟩ rfl rfl hl.1 rfl (lv_room (Nat.le_of_ble_eq_true rfl)) d_Mo_isAllowed_31 ⟨Nat.le_of_ble_eq_true rfl, Nat.le_of_ble_eq_true rfl⟩)) ?_
  refine W.eq (g2 := F0 m 34 ls [.int (f_Mo_join g_labels (g_rules (Int32.toNatClampNeg ((4 * v_group) + 3)))), .int (f_Mo_join g_labels (g_rules (Int32.toNatClampNeg ((4 * v_group) + 2))))]) rfl ?_
  refine lv_iconst (v := (-1)) hx hb d_Mo_isAllowed_34 (by decide) ?_
  refine lv_ixor hx hb d_Mo_isAllowed_35 ?_
  refine lv_iand hx hb d_Mo_isAllowed_36 ?_
  refine lv_if_ne (tgt := 44) hx hb d_Mo_isAllowed_37 (by decide) (fun c_1 => ?_) (fun c_1 => ?_)
  · refine lv_iconst (v := 0) hx hb d_Mo_isAllowed_44 (by decide) ?_
    have ef : (f_Mo_isAllowed v_group g_rules g_labels) = (0 : Int32) := (if_neg c_1).trans rfl
    exact W.zret (v := 0) hx hb hr rfl (fun t ht hW => ⟨by rw [ef], ht⟩) (fun _ h => by cases h) d_Mo_isAllowed_45
  · refine lv_iconst (v := 1) hx hb d_Mo_isAllowed_40 (by decide) ?_
    refine lv_goto (tgt := 45) hx hb d_Mo_isAllowed_41 (by decide) ?_
    have ef : (f_Mo_isAllowed v_group g_rules g_labels) = (1 : Int32) := (if_pos c_1).trans rfl
    exact W.zret (v := 1) hx hb hr rfl (fun t ht hW => ⟨by rw [ef], ht⟩) (fun _ h => by cases h) d_Mo_isAllowed_45
def cu_Mo_takeLabels_58 (x_p0 : Int32) (v_group : Int32) : Int32 :=
  if (x_p0 &&& 127) = 51 then
    1
  else
    if (x_p0 &&& 127) = 19 then
      1
    else
      if (f_Mo_isMemory v_group) = 0 then
        if v_group = 4 then
          1
        else
          if v_group = 6 then
            1
          else
            if v_group = 7 then
              1
            else
              0
      else
        1
def cu_Mo_takeLabels_94 (x_p0 : Int32) (v_group : Int32) : Int32 :=
  if (x_p0 &&& 127) = 51 then
    1
  else
    if v_group = 2 then
      1
    else
      if v_group = 3 then
        1
      else
        if v_group = 4 then
          1
        else
          0
def cu_Mo_takeLabels_128 (x_p0 : Int32) (v_group : Int32) (g_registerLabels : Nat → Int32) : Int32 :=
  if (cu_Mo_takeLabels_58 x_p0 v_group) = 0 then
    0
  else
    (g_registerLabels (Int32.toNatClampNeg (f_Mo_a x_p0)))
def cu_Mo_takeLabels_152 (x_p0 : Int32) (v_group : Int32) (g_registerLabels : Nat → Int32) : Int32 :=
  if (cu_Mo_takeLabels_94 x_p0 v_group) = 0 then
    0
  else
    (g_registerLabels (Int32.toNatClampNeg (f_Mo_b x_p0)))
def cu_Mo_takeLabels_206 (v_group : Int32) (g_waitingLabels : Nat → Int32) (g_memoryLabels : Nat → Int32) (g_registers : Nat → Int32) (x_p0 : Int32) : Int32 :=
  if (f_Mo_isMemory v_group) = 0 then
    if v_group = 8 then
      (g_waitingLabels (Int32.toNatClampNeg 0))
    else
      0
  else
    (g_memoryLabels (Int32.toNatClampNeg (((f_Mo_address g_registers x_p0) - 4096) / 4)))
def f_Mo_takeLabels (v_pcLabel : Int32) (v_group : Int32) (g_labels : Nat → Int32) (g_registerLabels : Nat → Int32) (g_waitingLabels : Nat → Int32) (g_registers : Nat → Int32) (g_memoryLabels : Nat → Int32) (x_p0 : Int32) : (Nat → Int32) :=
  (upd (upd (upd (upd g_labels (Int32.toNatClampNeg 0) v_pcLabel) (Int32.toNatClampNeg 1) (cu_Mo_takeLabels_128 x_p0 v_group g_registerLabels)) (Int32.toNatClampNeg 2) (cu_Mo_takeLabels_152 x_p0 v_group g_registerLabels)) (Int32.toNatClampNeg 3) (cu_Mo_takeLabels_206 v_group g_waitingLabels g_memoryLabels g_registers x_p0))
set_option maxHeartbeats 4000000 in
set_option maxRecDepth 100000 in
theorem ct_Mo_takeLabels (l : Launch) (dC : Nat → ClassId) (dI : Nat → Nat → Nat) (cI : ClassId) (sz : Nat) (h0 a_words a_rules a_registers a_registerLabels a_memory a_memoryLabels a_waiting a_waitingLabels a_out a_outLabels a_keys a_labels : Nat) (v_thrown : Int32) (v_size : Int32) (v_entries : Int32) (v_outcome : Int32) (v_pc : Int32) (v_pcLabel : Int32) (v_wait : Int32) (v_went : Int32) (v_done : Int32) (v_misses : Int32) (v_known : Int32) (v_group : Int32) (g_labels : Nat → Int32) (g_registerLabels : Nat → Int32) (g_waitingLabels : Nat → Int32) (g_registers : Nat → Int32) (g_memoryLabels : Nat → Int32) (x_p0 : Int32) (hs_183_0 : (¬ (f_Mo_isMemory v_group) = 0) → vp_in (((f_Mo_address g_registers x_p0) - 4096) / 4) 64) : Met l y_Mo_takeLabels w_Mo_takeLabels ({ frames := 2, cells := 0, slots := 0, locals := 42 }) (pcW dC dI cI [(h0, .inr (6, [.int v_thrown, .ref a_words, .int v_size, .ref a_rules, .int v_entries, .int v_outcome, .int v_pc, .int v_pcLabel, .ref a_registers, .ref a_registerLabels, .ref a_memory, .ref a_memoryLabels, .ref a_waiting, .ref a_waitingLabels, .int v_wait, .ref a_out, .ref a_outLabels, .int v_went, .int v_done, .int v_misses, .ref a_keys, .int v_known, .int v_group, .ref a_labels])), (a_labels, .inl (cI, 4, .inl g_labels)), (a_registerLabels, .inl (cI, 32, .inl g_registerLabels)), (a_waitingLabels, .inl (cI, 64, .inl g_waitingLabels)), (a_registers, .inl (cI, 32, .inl g_registers)), (a_memoryLabels, .inl (cI, 64, .inl g_memoryLabels))] sz [.ref h0, .int x_p0]) (va_Qv (fun _ : Unit => True) (fun _ t => atW dC dI cI [(h0, .inr (6, [.int v_thrown, .ref a_words, .int v_size, .ref a_rules, .int v_entries, .int v_outcome, .int v_pc, .int v_pcLabel, .ref a_registers, .ref a_registerLabels, .ref a_memory, .ref a_memoryLabels, .ref a_waiting, .ref a_waitingLabels, .int v_wait, .ref a_out, .ref a_outLabels, .int v_went, .int v_done, .int v_misses, .ref a_keys, .int v_known, .int v_group, .ref a_labels])), (a_labels, .inl (cI, 4, .inl (f_Mo_takeLabels v_pcLabel v_group g_labels g_registerLabels g_waitingLabels g_registers g_memoryLabels x_p0))), (a_registerLabels, .inl (cI, 32, .inl g_registerLabels)), (a_waitingLabels, .inl (cI, 64, .inl g_waitingLabels)), (a_registers, .inl (cI, 32, .inl g_registers)), (a_memoryLabels, .inl (cI, 64, .inl g_memoryLabels))] (va_A [(h0, .inr (6, [.int v_thrown, .ref a_words, .int v_size, .ref a_rules, .int v_entries, .int v_outcome, .int v_pc, .int v_pcLabel, .ref a_registers, .ref a_registerLabels, .ref a_memory, .ref a_memoryLabels, .ref a_waiting, .ref a_waitingLabels, .int v_wait, .ref a_out, .ref a_outLabels, .int v_went, .int v_done, .int v_misses, .ref a_keys, .int v_known, .int v_group, .ref a_labels])), (a_labels, .inl (cI, 4, .inl g_labels)), (a_registerLabels, .inl (cI, 32, .inl g_registerLabels)), (a_waitingLabels, .inl (cI, 64, .inl g_waitingLabels)), (a_registers, .inl (cI, 32, .inl g_registers)), (a_memoryLabels, .inl (cI, 64, .inl g_memoryLabels))] sz) t) (va_A [(h0, .inr (6, [.int v_thrown, .ref a_words, .int v_size, .ref a_rules, .int v_entries, .int v_outcome, .int v_pc, .int v_pcLabel, .ref a_registers, .ref a_registerLabels, .ref a_memory, .ref a_memoryLabels, .ref a_waiting, .ref a_waitingLabels, .int v_wait, .ref a_out, .ref a_outLabels, .int v_went, .int v_done, .int v_misses, .ref a_keys, .int v_known, .int v_group, .ref a_labels])), (a_labels, .inl (cI, 4, .inl g_labels)), (a_registerLabels, .inl (cI, 32, .inl g_registerLabels)), (a_waitingLabels, .inl (cI, 64, .inl g_waitingLabels)), (a_registers, .inl (cI, 32, .inl g_registers)), (a_memoryLabels, .inl (cI, 64, .inl g_memoryLabels))] sz)) 0 0 (va_A [(h0, .inr (6, [.int v_thrown, .ref a_words, .int v_size, .ref a_rules, .int v_entries, .int v_outcome, .int v_pc, .int v_pcLabel, .ref a_registers, .ref a_registerLabels, .ref a_memory, .ref a_memoryLabels, .ref a_waiting, .ref a_waitingLabels, .int v_wait, .ref a_out, .ref a_outLabels, .int v_went, .int v_done, .int v_misses, .ref a_keys, .int v_known, .int v_group, .ref a_labels])), (a_labels, .inl (cI, 4, .inl g_labels)), (a_registerLabels, .inl (cI, 32, .inl g_registerLabels)), (a_waitingLabels, .inl (cI, 64, .inl g_waitingLabels)), (a_registers, .inl (cI, 32, .inl g_registers)), (a_memoryLabels, .inl (cI, 64, .inl g_memoryLabels))] sz) := by
  refine Met.ofW (cc := c_Mo_takeLabels) (maxL := 5) (ret := none) (by decide) rfl ?_
  intro p e s m args below meth c s₁ B hml hv
  obtain ⟨rfl, hsz, hP, hK, hD0⟩ := hv
  have hx := B.exec
  have hb := B.bytes
  have hr := B.returns
  have hts : ∀ w ∈ wG, w.before _ s = true := fun w h => atoms_spec (ws := w_Mo_takeLabels) B.pre w (List.mem_cons_of_mem _ h)
  have hown : s.vm.findClass "LabelledCoreModel" = some m.cls := findClass_of_methodNamed B.named
  have hlocks := B.notSynchronized
  subst hsz
  have hD := hD0.self (sz := s.heap.size)
  generalize hAe : va_A [(h0, .inr (6, [.int v_thrown, .ref a_words, .int v_size, .ref a_rules, .int v_entries, .int v_outcome, .int v_pc, .int v_pcLabel, .ref a_registers, .ref a_registerLabels, .ref a_memory, .ref a_memoryLabels, .ref a_waiting, .ref a_waitingLabels, .int v_wait, .ref a_out, .ref a_outLabels, .int v_went, .int v_done, .int v_misses, .ref a_keys, .int v_known, .int v_group, .ref a_labels])), (a_labels, .inl (cI, 4, .inl g_labels)), (a_registerLabels, .inl (cI, 32, .inl g_registerLabels)), (a_waitingLabels, .inl (cI, 64, .inl g_waitingLabels)), (a_registers, .inl (cI, 32, .inl g_registers)), (a_memoryLabels, .inl (cI, 64, .inl g_memoryLabels))] s.heap.size = A at hD ⊢
  have hA : ∀ q : Nat, s.heap.size ≤ q → A q := fun q h => by rw [← hAe]; exact Or.inr h
  have hS : va_S A s.heap s.heap [] := va_S.rf
  have hP : va_P (dC, dI) clsL [(h0, .inr (6, [.int v_thrown, .ref a_words, .int v_size, .ref a_rules, .int v_entries, .int v_outcome, .int v_pc, .int v_pcLabel, .ref a_registers, .ref a_registerLabels, .ref a_memory, .ref a_memoryLabels, .ref a_waiting, .ref a_waitingLabels, .int v_wait, .ref a_out, .ref a_outLabels, .int v_went, .int v_done, .int v_misses, .ref a_keys, .int v_known, .int v_group, .ref a_labels])), (a_labels, .inl (cI, 4, .inl g_labels)), (a_registerLabels, .inl (cI, 32, .inl g_registerLabels)), (a_waitingLabels, .inl (cI, 64, .inl g_waitingLabels)), (a_registers, .inl (cI, 32, .inl g_registers)), (a_memoryLabels, .inl (cI, 64, .inl g_memoryLabels))] s.heap := hP
  have hl := lv_entry ([.ref h0, .int x_p0]) (n := 5) (Nat.le_of_ble_eq_true rfl)
  rw [lg_entry_eq]
  generalize (lg_sl ([.ref h0, .int x_p0]) ++ List.replicate (5 - (lg_sl ([.ref h0, .int x_p0])).length) Slot.unset).toArray = ls at hl ⊢
  have hl : lv_has ls 5 [(0, .ref h0), (1, .int x_p0)] := hl
  refine lv_iload_n hx hb d_Mo_takeLabels_0 rfl (lv_at hl 1 rfl) ?_
  refine lv_bipush (v := 127) hx hb d_Mo_takeLabels_1 (by decide) ?_
  refine lv_iand hx hb d_Mo_takeLabels_3 ?_
  refine lv_istore_n (lv' := [(2, .int (x_p0 &&& 127)), (0, .ref h0), (1, .int x_p0)]) hx hb d_Mo_takeLabels_4 rfl hl (by decide) rfl (fun ls hl => ?_)
  have hcut_58 : W p l e (headSpec w_Mo_takeLabels ({ frames := 2, cells := 0, slots := 0, locals := 42 })).room s m ([.ref h0, .int x_p0] : List Value).toArray below meth c s.heap [] 0 0 (MQ below (va_Qv (fun _ : Unit => True) (fun _ t => atW dC dI cI [(h0, .inr (6, [.int v_thrown, .ref a_words, .int v_size, .ref a_rules, .int v_entries, .int v_outcome, .int v_pc, .int v_pcLabel, .ref a_registers, .ref a_registerLabels, .ref a_memory, .ref a_memoryLabels, .ref a_waiting, .ref a_waitingLabels, .int v_wait, .ref a_out, .ref a_outLabels, .int v_went, .int v_done, .int v_misses, .ref a_keys, .int v_known, .int v_group, .ref a_labels])), (a_labels, .inl (cI, 4, .inl (f_Mo_takeLabels v_pcLabel v_group g_labels g_registerLabels g_waitingLabels g_registers g_memoryLabels x_p0))), (a_registerLabels, .inl (cI, 32, .inl g_registerLabels)), (a_waitingLabels, .inl (cI, 64, .inl g_waitingLabels)), (a_registers, .inl (cI, 32, .inl g_registers)), (a_memoryLabels, .inl (cI, 64, .inl g_memoryLabels))] A t) A) ([.ref h0, .int x_p0] : List Value).toArray s 0 0 A) (F0 m 58 ls [.int (cu_Mo_takeLabels_58 x_p0 v_group)]) := by
    refine lv_istore_n (lv' := [(3, .int (cu_Mo_takeLabels_58 x_p0 v_group)), (2, .int (x_p0 &&& 127)), (0, .ref h0), (1, .int x_p0)]) hx hb d_Mo_takeLabels_58 rfl hl (by decide) rfl (fun ls hl => ?_)
    have hcut_94 : W p l e (headSpec w_Mo_takeLabels ({ frames := 2, cells := 0, slots := 0, locals := 42 })).room s m ([.ref h0, .int x_p0] : List Value).toArray below meth c s.heap [] 0 0 (MQ below (va_Qv (fun _ : Unit => True) (fun _ t => atW dC dI cI [(h0, .inr (6, [.int v_thrown, .ref a_words, .int v_size, .ref a_rules, .int v_entries, .int v_outcome, .int v_pc, .int v_pcLabel, .ref a_registers, .ref a_registerLabels, .ref a_memory, .ref a_memoryLabels, .ref a_waiting, .ref a_waitingLabels, .int v_wait, .ref a_out, .ref a_outLabels, .int v_went, .int v_done, .int v_misses, .ref a_keys, .int v_known, .int v_group, .ref a_labels])), (a_labels, .inl (cI, 4, .inl (f_Mo_takeLabels v_pcLabel v_group g_labels g_registerLabels g_waitingLabels g_registers g_memoryLabels x_p0))), (a_registerLabels, .inl (cI, 32, .inl g_registerLabels)), (a_waitingLabels, .inl (cI, 64, .inl g_waitingLabels)), (a_registers, .inl (cI, 32, .inl g_registers)), (a_memoryLabels, .inl (cI, 64, .inl g_memoryLabels))] A t) A) ([.ref h0, .int x_p0] : List Value).toArray s 0 0 A) (F0 m 94 ls [.int (cu_Mo_takeLabels_94 x_p0 v_group)]) := by
      refine lv_istore (lv' := [(4, .int (cu_Mo_takeLabels_94 x_p0 v_group)), (3, .int (cu_Mo_takeLabels_58 x_p0 v_group)), (2, .int (x_p0 &&& 127)), (0, .ref h0), (1, .int x_p0)]) hx hb d_Mo_takeLabels_94 hl (by decide) rfl (fun ls hl => ?_)
      refine lv_aload_n hx hb d_Mo_takeLabels_96 rfl (lv_at hl 3 rfl) ?_
      refine va_get (D := (dC, dI)) (ci := 6) (v := .ref a_labels) (C := "LabelledCoreModel") (T := T_Mo) (N := 24) hx hb hts in_Mo hown hK hP 0 rfl rfl 23 (by decide) (hts _ wm_979) (fun _ h9 => h9) rfl d_Mo_takeLabels_97 ?_
      refine lv_iconst (v := 0) hx hb d_Mo_takeLabels_100 (by decide) ?_
      refine lv_aload_n hx hb d_Mo_takeLabels_101 rfl (lv_at hl 3 rfl) ?_
      refine va_get (D := (dC, dI)) (ci := 6) (v := .int v_pcLabel) (C := "LabelledCoreModel") (T := T_Mo) (N := 24) hx hb hts in_Mo hown hK hP 0 rfl rfl 7 (by decide) (hts _ wm_963) (fun _ h9 => h9) rfl d_Mo_takeLabels_102 ?_
      refine va_iast hx hb hK hP hD hS 1 0 rfl rfl (by unfold vp_in; decide) d_Mo_takeLabels_105 (fun H locs hP hD hS => ?_)
      have hP : va_P (dC, dI) clsL [(h0, .inr (6, [.int v_thrown, .ref a_words, .int v_size, .ref a_rules, .int v_entries, .int v_outcome, .int v_pc, .int v_pcLabel, .ref a_registers, .ref a_registerLabels, .ref a_memory, .ref a_memoryLabels, .ref a_waiting, .ref a_waitingLabels, .int v_wait, .ref a_out, .ref a_outLabels, .int v_went, .int v_done, .int v_misses, .ref a_keys, .int v_known, .int v_group, .ref a_labels])), (a_labels, .inl (cI, 4, .inl (upd g_labels (Int32.toNatClampNeg 0) v_pcLabel))), (a_registerLabels, .inl (cI, 32, .inl g_registerLabels)), (a_waitingLabels, .inl (cI, 64, .inl g_waitingLabels)), (a_registers, .inl (cI, 32, .inl g_registers)), (a_memoryLabels, .inl (cI, 64, .inl g_memoryLabels))] H := hP
      have hD : va_D A [(h0, .inr (6, [.int v_thrown, .ref a_words, .int v_size, .ref a_rules, .int v_entries, .int v_outcome, .int v_pc, .int v_pcLabel, .ref a_registers, .ref a_registerLabels, .ref a_memory, .ref a_memoryLabels, .ref a_waiting, .ref a_waitingLabels, .int v_wait, .ref a_out, .ref a_outLabels, .int v_went, .int v_done, .int v_misses, .ref a_keys, .int v_known, .int v_group, .ref a_labels])), (a_labels, .inl (cI, 4, .inl (upd g_labels (Int32.toNatClampNeg 0) v_pcLabel))), (a_registerLabels, .inl (cI, 32, .inl g_registerLabels)), (a_waitingLabels, .inl (cI, 64, .inl g_waitingLabels)), (a_registers, .inl (cI, 32, .inl g_registers)), (a_memoryLabels, .inl (cI, 64, .inl g_memoryLabels))] := hD
      refine lv_aload_n hx hb d_Mo_takeLabels_106 rfl (lv_at hl 3 rfl) ?_
      refine va_get (D := (dC, dI)) (ci := 6) (v := .ref a_labels) (C := "LabelledCoreModel") (T := T_Mo) (N := 24) hx hb hts in_Mo hown hK hP 0 rfl rfl 23 (by decide) (hts _ wm_979) (fun _ h9 => h9) rfl d_Mo_takeLabels_107 ?_
      refine lv_iconst (v := 1) hx hb d_Mo_takeLabels_110 (by decide) ?_
      have hcut_128 : W p l e (headSpec w_Mo_takeLabels ({ frames := 2, cells := 0, slots := 0, locals := 42 })).room s m ([.ref h0, .int x_p0] : List Value).toArray below meth c H locs 0 0 (MQ below (va_Qv (fun _ : Unit => True) (fun _ t => atW dC dI cI [(h0, .inr (6, [.int v_thrown, .ref a_words, .int v_size, .ref a_rules, .int v_entries, .int v_outcome, .int v_pc, .int v_pcLabel, .ref a_registers, .ref a_registerLabels, .ref a_memory, .ref a_memoryLabels, .ref a_waiting, .ref a_waitingLabels, .int v_wait, .ref a_out, .ref a_outLabels, .int v_went, .int v_done, .int v_misses, .ref a_keys, .int v_known, .int v_group, .ref a_labels])), (a_labels, .inl (cI, 4, .inl (f_Mo_takeLabels v_pcLabel v_group g_labels g_registerLabels g_waitingLabels g_registers g_memoryLabels x_p0))), (a_registerLabels, .inl (cI, 32, .inl g_registerLabels)), (a_waitingLabels, .inl (cI, 64, .inl g_waitingLabels)), (a_registers, .inl (cI, 32, .inl g_registers)), (a_memoryLabels, .inl (cI, 64, .inl g_memoryLabels))] A t) A) ([.ref h0, .int x_p0] : List Value).toArray s 0 0 A) (F0 m 128 ls [.int (cu_Mo_takeLabels_128 x_p0 v_group g_registerLabels), .int 1, .ref a_labels]) := by
        refine va_iast hx hb hK hP hD hS 1 0 rfl rfl (by unfold vp_in; decide) d_Mo_takeLabels_128 (fun H locs hP hD hS => ?_)
        have hP : va_P (dC, dI) clsL [(h0, .inr (6, [.int v_thrown, .ref a_words, .int v_size, .ref a_rules, .int v_entries, .int v_outcome, .int v_pc, .int v_pcLabel, .ref a_registers, .ref a_registerLabels, .ref a_memory, .ref a_memoryLabels, .ref a_waiting, .ref a_waitingLabels, .int v_wait, .ref a_out, .ref a_outLabels, .int v_went, .int v_done, .int v_misses, .ref a_keys, .int v_known, .int v_group, .ref a_labels])), (a_labels, .inl (cI, 4, .inl (upd (upd g_labels (Int32.toNatClampNeg 0) v_pcLabel) (Int32.toNatClampNeg 1) (cu_Mo_takeLabels_128 x_p0 v_group g_registerLabels)))), (a_registerLabels, .inl (cI, 32, .inl g_registerLabels)), (a_waitingLabels, .inl (cI, 64, .inl g_waitingLabels)), (a_registers, .inl (cI, 32, .inl g_registers)), (a_memoryLabels, .inl (cI, 64, .inl g_memoryLabels))] H := hP
        have hD : va_D A [(h0, .inr (6, [.int v_thrown, .ref a_words, .int v_size, .ref a_rules, .int v_entries, .int v_outcome, .int v_pc, .int v_pcLabel, .ref a_registers, .ref a_registerLabels, .ref a_memory, .ref a_memoryLabels, .ref a_waiting, .ref a_waitingLabels, .int v_wait, .ref a_out, .ref a_outLabels, .int v_went, .int v_done, .int v_misses, .ref a_keys, .int v_known, .int v_group, .ref a_labels])), (a_labels, .inl (cI, 4, .inl (upd (upd g_labels (Int32.toNatClampNeg 0) v_pcLabel) (Int32.toNatClampNeg 1) (cu_Mo_takeLabels_128 x_p0 v_group g_registerLabels)))), (a_registerLabels, .inl (cI, 32, .inl g_registerLabels)), (a_waitingLabels, .inl (cI, 64, .inl g_waitingLabels)), (a_registers, .inl (cI, 32, .inl g_registers)), (a_memoryLabels, .inl (cI, 64, .inl g_memoryLabels))] := hD
        refine lv_aload_n hx hb d_Mo_takeLabels_129 rfl (lv_at hl 3 rfl) ?_
        refine va_get (D := (dC, dI)) (ci := 6) (v := .ref a_labels) (C := "LabelledCoreModel") (T := T_Mo) (N := 24) hx hb hts in_Mo hown hK hP 0 rfl rfl 23 (by decide) (hts _ wm_979) (fun _ h9 => h9) rfl d_Mo_takeLabels_130 ?_
        refine lv_iconst (v := 2) hx hb d_Mo_takeLabels_133 (by decide) ?_
        have hcut_152 : W p l e (headSpec w_Mo_takeLabels ({ frames := 2, cells := 0, slots := 0, locals := 42 })).room s m ([.ref h0, .int x_p0] : List Value).toArray below meth c H locs 0 0 (MQ below (va_Qv (fun _ : Unit => True) (fun _ t => atW dC dI cI [(h0, .inr (6, [.int v_thrown, .ref a_words, .int v_size, .ref a_rules, .int v_entries, .int v_outcome, .int v_pc, .int v_pcLabel, .ref a_registers, .ref a_registerLabels, .ref a_memory, .ref a_memoryLabels, .ref a_waiting, .ref a_waitingLabels, .int v_wait, .ref a_out, .ref a_outLabels, .int v_went, .int v_done, .int v_misses, .ref a_keys, .int v_known, .int v_group, .ref a_labels])), (a_labels, .inl (cI, 4, .inl (f_Mo_takeLabels v_pcLabel v_group g_labels g_registerLabels g_waitingLabels g_registers g_memoryLabels x_p0))), (a_registerLabels, .inl (cI, 32, .inl g_registerLabels)), (a_waitingLabels, .inl (cI, 64, .inl g_waitingLabels)), (a_registers, .inl (cI, 32, .inl g_registers)), (a_memoryLabels, .inl (cI, 64, .inl g_memoryLabels))] A t) A) ([.ref h0, .int x_p0] : List Value).toArray s 0 0 A) (F0 m 152 ls [.int (cu_Mo_takeLabels_152 x_p0 v_group g_registerLabels), .int 2, .ref a_labels]) := by
          refine va_iast hx hb hK hP hD hS 1 0 rfl rfl (by unfold vp_in; decide) d_Mo_takeLabels_152 (fun H locs hP hD hS => ?_)
          have hP : va_P (dC, dI) clsL [(h0, .inr (6, [.int v_thrown, .ref a_words, .int v_size, .ref a_rules, .int v_entries, .int v_outcome, .int v_pc, .int v_pcLabel, .ref a_registers, .ref a_registerLabels, .ref a_memory, .ref a_memoryLabels, .ref a_waiting, .ref a_waitingLabels, .int v_wait, .ref a_out, .ref a_outLabels, .int v_went, .int v_done, .int v_misses, .ref a_keys, .int v_known, .int v_group, .ref a_labels])), (a_labels, .inl (cI, 4, .inl (upd (upd (upd g_labels (Int32.toNatClampNeg 0) v_pcLabel) (Int32.toNatClampNeg 1) (cu_Mo_takeLabels_128 x_p0 v_group g_registerLabels)) (Int32.toNatClampNeg 2) (cu_Mo_takeLabels_152 x_p0 v_group g_registerLabels)))), (a_registerLabels, .inl (cI, 32, .inl g_registerLabels)), (a_waitingLabels, .inl (cI, 64, .inl g_waitingLabels)), (a_registers, .inl (cI, 32, .inl g_registers)), (a_memoryLabels, .inl (cI, 64, .inl g_memoryLabels))] H := hP
          have hD : va_D A [(h0, .inr (6, [.int v_thrown, .ref a_words, .int v_size, .ref a_rules, .int v_entries, .int v_outcome, .int v_pc, .int v_pcLabel, .ref a_registers, .ref a_registerLabels, .ref a_memory, .ref a_memoryLabels, .ref a_waiting, .ref a_waitingLabels, .int v_wait, .ref a_out, .ref a_outLabels, .int v_went, .int v_done, .int v_misses, .ref a_keys, .int v_known, .int v_group, .ref a_labels])), (a_labels, .inl (cI, 4, .inl (upd (upd (upd g_labels (Int32.toNatClampNeg 0) v_pcLabel) (Int32.toNatClampNeg 1) (cu_Mo_takeLabels_128 x_p0 v_group g_registerLabels)) (Int32.toNatClampNeg 2) (cu_Mo_takeLabels_152 x_p0 v_group g_registerLabels)))), (a_registerLabels, .inl (cI, 32, .inl g_registerLabels)), (a_waitingLabels, .inl (cI, 64, .inl g_waitingLabels)), (a_registers, .inl (cI, 32, .inl g_registers)), (a_memoryLabels, .inl (cI, 64, .inl g_memoryLabels))] := hD
          refine lv_aload_n hx hb d_Mo_takeLabels_153 rfl (lv_at hl 3 rfl) ?_
          refine va_get (D := (dC, dI)) (ci := 6) (v := .ref a_labels) (C := "LabelledCoreModel") (T := T_Mo) (N := 24) hx hb hts in_Mo hown hK hP 0 rfl rfl 23 (by decide) (hts _ wm_979) (fun _ h9 => h9) rfl d_Mo_takeLabels_154 ?_
          refine lv_iconst (v := 3) hx hb d_Mo_takeLabels_157 (by decide) ?_
          have hcut_206 : W p l e (headSpec w_Mo_takeLabels ({ frames := 2, cells := 0, slots := 0, locals := 42 })).room s m ([.ref h0, .int x_p0] : List Value).toArray below meth c H locs 0 0 (MQ below (va_Qv (fun _ : Unit => True) (fun _ t => atW dC dI cI [(h0, .inr (6, [.int v_thrown, .ref a_words, .int v_size, .ref a_rules, .int v_entries, .int v_outcome, .int v_pc, .int v_pcLabel, .ref a_registers, .ref a_registerLabels, .ref a_memory, .ref a_memoryLabels, .ref a_waiting, .ref a_waitingLabels, .int v_wait, .ref a_out, .ref a_outLabels, .int v_went, .int v_done, .int v_misses, .ref a_keys, .int v_known, .int v_group, .ref a_labels])), (a_labels, .inl (cI, 4, .inl (f_Mo_takeLabels v_pcLabel v_group g_labels g_registerLabels g_waitingLabels g_registers g_memoryLabels x_p0))), (a_registerLabels, .inl (cI, 32, .inl g_registerLabels)), (a_waitingLabels, .inl (cI, 64, .inl g_waitingLabels)), (a_registers, .inl (cI, 32, .inl g_registers)), (a_memoryLabels, .inl (cI, 64, .inl g_memoryLabels))] A t) A) ([.ref h0, .int x_p0] : List Value).toArray s 0 0 A) (F0 m 206 ls [.int (cu_Mo_takeLabels_206 v_group g_waitingLabels g_memoryLabels g_registers x_p0), .int 3, .ref a_labels]) := by
            refine va_iast hx hb hK hP hD hS 1 0 rfl rfl (by unfold vp_in; decide) d_Mo_takeLabels_206 (fun H locs hP hD hS => ?_)
            have hP : va_P (dC, dI) clsL [(h0, .inr (6, [.int v_thrown, .ref a_words, .int v_size, .ref a_rules, .int v_entries, .int v_outcome, .int v_pc, .int v_pcLabel, .ref a_registers, .ref a_registerLabels, .ref a_memory, .ref a_memoryLabels, .ref a_waiting, .ref a_waitingLabels, .int v_wait, .ref a_out, .ref a_outLabels, .int v_went, .int v_done, .int v_misses, .ref a_keys, .int v_known, .int v_group, .ref a_labels])), (a_labels, .inl (cI, 4, .inl (upd (upd (upd (upd g_labels (Int32.toNatClampNeg 0) v_pcLabel) (Int32.toNatClampNeg 1) (cu_Mo_takeLabels_128 x_p0 v_group g_registerLabels)) (Int32.toNatClampNeg 2) (cu_Mo_takeLabels_152 x_p0 v_group g_registerLabels)) (Int32.toNatClampNeg 3) (cu_Mo_takeLabels_206 v_group g_waitingLabels g_memoryLabels g_registers x_p0)))), (a_registerLabels, .inl (cI, 32, .inl g_registerLabels)), (a_waitingLabels, .inl (cI, 64, .inl g_waitingLabels)), (a_registers, .inl (cI, 32, .inl g_registers)), (a_memoryLabels, .inl (cI, 64, .inl g_memoryLabels))] H := hP
            have hD : va_D A [(h0, .inr (6, [.int v_thrown, .ref a_words, .int v_size, .ref a_rules, .int v_entries, .int v_outcome, .int v_pc, .int v_pcLabel, .ref a_registers, .ref a_registerLabels, .ref a_memory, .ref a_memoryLabels, .ref a_waiting, .ref a_waitingLabels, .int v_wait, .ref a_out, .ref a_outLabels, .int v_went, .int v_done, .int v_misses, .ref a_keys, .int v_known, .int v_group, .ref a_labels])), (a_labels, .inl (cI, 4, .inl (upd (upd (upd (upd g_labels (Int32.toNatClampNeg 0) v_pcLabel) (Int32.toNatClampNeg 1) (cu_Mo_takeLabels_128 x_p0 v_group g_registerLabels)) (Int32.toNatClampNeg 2) (cu_Mo_takeLabels_152 x_p0 v_group g_registerLabels)) (Int32.toNatClampNeg 3) (cu_Mo_takeLabels_206 v_group g_waitingLabels g_memoryLabels g_registers x_p0)))), (a_registerLabels, .inl (cI, 32, .inl g_registerLabels)), (a_waitingLabels, .inl (cI, 64, .inl g_waitingLabels)), (a_registers, .inl (cI, 32, .inl g_registers)), (a_memoryLabels, .inl (cI, 64, .inl g_memoryLabels))] := hD
            have ef : (f_Mo_takeLabels v_pcLabel v_group g_labels g_registerLabels g_waitingLabels g_registers g_memoryLabels x_p0) = ((upd (upd (upd (upd g_labels (Int32.toNatClampNeg 0) v_pcLabel) (Int32.toNatClampNeg 1) (cu_Mo_takeLabels_128 x_p0 v_group g_registerLabels)) (Int32.toNatClampNeg 2) (cu_Mo_takeLabels_152 x_p0 v_group g_registerLabels)) (Int32.toNatClampNeg 3) (cu_Mo_takeLabels_206 v_group g_waitingLabels g_memoryLabels g_registers x_p0)) : (Nat → Int32)) := rfl
            have hP9 := hP.sub (ws' := [(h0, .inr (6, [.int v_thrown, .ref a_words, .int v_size, .ref a_rules, .int v_entries, .int v_outcome, .int v_pc, .int v_pcLabel, .ref a_registers, .ref a_registerLabels, .ref a_memory, .ref a_memoryLabels, .ref a_waiting, .ref a_waitingLabels, .int v_wait, .ref a_out, .ref a_outLabels, .int v_went, .int v_done, .int v_misses, .ref a_keys, .int v_known, .int v_group, .ref a_labels])), (a_labels, .inl (cI, 4, .inl (upd (upd (upd (upd g_labels (Int32.toNatClampNeg 0) v_pcLabel) (Int32.toNatClampNeg 1) (cu_Mo_takeLabels_128 x_p0 v_group g_registerLabels)) (Int32.toNatClampNeg 2) (cu_Mo_takeLabels_152 x_p0 v_group g_registerLabels)) (Int32.toNatClampNeg 3) (cu_Mo_takeLabels_206 v_group g_waitingLabels g_memoryLabels g_registers x_p0)))), (a_registerLabels, .inl (cI, 32, .inl g_registerLabels)), (a_waitingLabels, .inl (cI, 64, .inl g_waitingLabels)), (a_registers, .inl (cI, 32, .inl g_registers)), (a_memoryLabels, .inl (cI, 64, .inl g_memoryLabels))]) [0, 1, 2, 3, 4, 5] rfl
            have hD9 := hD.sub (ws' := [(h0, .inr (6, [.int v_thrown, .ref a_words, .int v_size, .ref a_rules, .int v_entries, .int v_outcome, .int v_pc, .int v_pcLabel, .ref a_registers, .ref a_registerLabels, .ref a_memory, .ref a_memoryLabels, .ref a_waiting, .ref a_waitingLabels, .int v_wait, .ref a_out, .ref a_outLabels, .int v_went, .int v_done, .int v_misses, .ref a_keys, .int v_known, .int v_group, .ref a_labels])), (a_labels, .inl (cI, 4, .inl (upd (upd (upd (upd g_labels (Int32.toNatClampNeg 0) v_pcLabel) (Int32.toNatClampNeg 1) (cu_Mo_takeLabels_128 x_p0 v_group g_registerLabels)) (Int32.toNatClampNeg 2) (cu_Mo_takeLabels_152 x_p0 v_group g_registerLabels)) (Int32.toNatClampNeg 3) (cu_Mo_takeLabels_206 v_group g_waitingLabels g_memoryLabels g_registers x_p0)))), (a_registerLabels, .inl (cI, 32, .inl g_registerLabels)), (a_waitingLabels, .inl (cI, 64, .inl g_waitingLabels)), (a_registers, .inl (cI, 32, .inl g_registers)), (a_memoryLabels, .inl (cI, 64, .inl g_memoryLabels))]) [0, 1, 2, 3, 4, 5] (by decide) rfl
            exact W.vret hx hb hr (fun t ht hW => ⟨⟨(), rfl, trivial, by rw [ef, ht]; exact hP9, va_K.moved hW.alike hK, by rw [ef]; exact hD9⟩, hS.F ht⟩) hS.2.2 d_Mo_takeLabels_207
          refine lv_aload_n hx hb d_Mo_takeLabels_158 rfl (lv_at hl 3 rfl) ?_
          refine va_get (D := (dC, dI)) (ci := 6) (v := .int v_group) (C := "LabelledCoreModel") (T := T_Mo) (N := 24) hx hb hts in_Mo hown hK hP 0 rfl rfl 22 (by decide) (hts _ wm_978) (fun _ h9 => h9) rfl d_Mo_takeLabels_159 ?_
          have hPc := hP.sub (ws' := []) [] rfl
          refine W.callR ((W.runS (As := [.int v_group]) (rest := [.int 3, .ref a_labels]) ⟨hx, hb, hml, hown, hts⟩ (ct_Mo_isMemory l dC dI cI v_group) (va_cwS 1 hts (gS wm_1086 wm_1087 wm_42 wm_1088) rfl rfl rfl (by decide +kernel) ⟨Nat.le_of_ble_eq_true rfl, Nat.le_of_ble_eq_true rfl⟩) ⟨pcR_blind, pcR_pre hPc hK⟩ rfl rfl hl.1 rfl (lv_room (Nat.le_of_ble_eq_true rfl)) d_Mo_takeLabels_162 ⟨Nat.le_of_ble_eq_true rfl, Nat.le_of_ble_eq_true rfl⟩)) ?_
          refine W.eq (g2 := F0 m 165 ls [.int (f_Mo_isMemory v_group), .int 3, .ref a_labels]) rfl ?_
          refine lv_if_eq (tgt := 187) hx hb d_Mo_takeLabels_165 (by decide) (fun c_1 => ?_) (fun c_1 => ?_)
          · refine lv_aload_n hx hb d_Mo_takeLabels_187 rfl (lv_at hl 3 rfl) ?_
            refine va_get (D := (dC, dI)) (ci := 6) (v := .int v_group) (C := "LabelledCoreModel") (T := T_Mo) (N := 24) hx hb hts in_Mo hown hK hP 0 rfl rfl 22 (by decide) (hts _ wm_978) (fun _ h9 => h9) rfl d_Mo_takeLabels_188 ?_
            refine lv_bipush (v := 8) hx hb d_Mo_takeLabels_191 (by decide) ?_
            refine lv_icmp_ne (tgt := 205) hx hb d_Mo_takeLabels_193 (by decide) (fun c_2 => ?_) (fun c_2 => ?_)
            · refine lv_iconst (v := 0) hx hb d_Mo_takeLabels_205 (by decide) ?_
              refine lv_toE (y := (cu_Mo_takeLabels_206 v_group g_waitingLabels g_memoryLabels g_registers x_p0)) (show (cu_Mo_takeLabels_206 v_group g_waitingLabels g_memoryLabels g_registers x_p0) = 0 from ((if_pos c_1).trans ((if_neg c_2).trans rfl))).symm ?_
              exact hcut_206
            · refine lv_aload_n hx hb d_Mo_takeLabels_196 rfl (lv_at hl 3 rfl) ?_
              refine va_get (D := (dC, dI)) (ci := 6) (v := .ref a_waitingLabels) (C := "LabelledCoreModel") (T := T_Mo) (N := 24) hx hb hts in_Mo hown hK hP 0 rfl rfl 13 (by decide) (hts _ wm_969) (fun _ h9 => h9) rfl d_Mo_takeLabels_197 ?_
              refine lv_iconst (v := 0) hx hb d_Mo_takeLabels_200 (by decide) ?_
              refine va_iald hx hb hK hP 3 0 rfl rfl (by unfold vp_in; decide) d_Mo_takeLabels_201 ?_
              refine lv_goto (tgt := 206) hx hb d_Mo_takeLabels_202 (by decide) ?_
              refine lv_toE (y := (cu_Mo_takeLabels_206 v_group g_waitingLabels g_memoryLabels g_registers x_p0)) (show (cu_Mo_takeLabels_206 v_group g_waitingLabels g_memoryLabels g_registers x_p0) = (g_waitingLabels (Int32.toNatClampNeg 0)) from ((if_pos c_1).trans ((if_pos c_2).trans rfl))).symm ?_
              exact hcut_206
          · refine lv_aload_n hx hb d_Mo_takeLabels_168 rfl (lv_at hl 3 rfl) ?_
            refine va_get (D := (dC, dI)) (ci := 6) (v := .ref a_memoryLabels) (C := "LabelledCoreModel") (T := T_Mo) (N := 24) hx hb hts in_Mo hown hK hP 0 rfl rfl 11 (by decide) (hts _ wm_967) (fun _ h9 => h9) rfl d_Mo_takeLabels_169 ?_
            refine lv_aload_n hx hb d_Mo_takeLabels_172 rfl (lv_at hl 3 rfl) ?_
            refine lv_iload_n hx hb d_Mo_takeLabels_173 rfl (lv_at hl 4 rfl) ?_
            have hPc := hP.sub (ws' := [(h0, .inr (6, [.int v_thrown, .ref a_words, .int v_size, .ref a_rules, .int v_entries, .int v_outcome, .int v_pc, .int v_pcLabel, .ref a_registers, .ref a_registerLabels, .ref a_memory, .ref a_memoryLabels, .ref a_waiting, .ref a_waitingLabels, .int v_wait, .ref a_out, .ref a_outLabels, .int v_went, .int v_done, .int v_misses, .ref a_keys, .int v_known, .int v_group, .ref a_labels])), (a_registers, .inl (cI, 32, .inl g_registers))]) [0, 4] rfl
            refine W.callR ((W.runV (As := [.int x_p0]) (rest := [.ref a_memoryLabels, .int 3, .ref a_labels]) ⟨hx, hb, hml, hown, hts⟩ (ct_Mo_address l dC dI cI h0 a_words a_rules a_registers a_registerLabels a_memory a_memoryLabels a_waiting a_waitingLabels a_out a_outLabels a_keys a_labels v_thrown v_size v_entries v_outcome v_pc v_pcLabel v_wait v_went v_done v_misses v_known v_group g_registers x_p0) (cwV 1 hts (gV wm_1093 wm_1095 wm_22 wm_42 wm_1096) rfl rfl rfl (by decide +kernel) ⟨Nat.le_of_ble_eq_true rfl, Nat.le_of_ble_eq_true rfl⟩) ⟨pcR_blind, va_recv hK hPc (ci := 6) (q0 := 0) rfl rfl, pcR_pre hPc hK⟩ rfl rfl hl.1 rfl (lv_room (Nat.le_of_ble_eq_true rfl)) d_Mo_takeLabels_174 ⟨Nat.le_of_ble_eq_true rfl, Nat.le_of_ble_eq_true rfl⟩)) ?_
            refine W.eq (g2 := F0 m 177 ls [.int (f_Mo_address g_registers x_p0), .ref a_memoryLabels, .int 3, .ref a_labels]) rfl ?_
            refine lv_sipush (v := 4096) hx hb d_Mo_takeLabels_177 (by decide) ?_
            refine lv_isub hx hb d_Mo_takeLabels_180 ?_
            refine lv_iconst (v := 4) hx hb d_Mo_takeLabels_181 (by decide) ?_
            refine lv_idiv hx hb d_Mo_takeLabels_182 (by decide) ?_
            refine va_iald hx hb hK hP 5 0 rfl rfl (hs_183_0 c_1) d_Mo_takeLabels_183 ?_
            refine lv_goto (tgt := 206) hx hb d_Mo_takeLabels_184 (by decide) ?_
            refine lv_toE (y := (cu_Mo_takeLabels_206 v_group g_waitingLabels g_memoryLabels g_registers x_p0)) (show (cu_Mo_takeLabels_206 v_group g_waitingLabels g_memoryLabels g_registers x_p0) = (g_memoryLabels (Int32.toNatClampNeg (((f_Mo_address g_registers x_p0) - 4096) / 4))) from ((if_neg c_1).trans rfl)).symm ?_
            exact hcut_206
        refine lv_iload hx hb d_Mo_takeLabels_134 (lv_at hl 0 rfl) ?_
        refine lv_if_eq (tgt := 151) hx hb d_Mo_takeLabels_136 (by decide) (fun c_3 => ?_) (fun c_3 => ?_)
        · refine lv_iconst (v := 0) hx hb d_Mo_takeLabels_151 (by decide) ?_
          refine lv_toE (y := (cu_Mo_takeLabels_152 x_p0 v_group g_registerLabels)) (show (cu_Mo_takeLabels_152 x_p0 v_group g_registerLabels) = 0 from ((if_pos c_3).trans rfl)).symm ?_
          exact hcut_152
        · refine lv_aload_n hx hb d_Mo_takeLabels_139 rfl (lv_at hl 3 rfl) ?_
          refine va_get (D := (dC, dI)) (ci := 6) (v := .ref a_registerLabels) (C := "LabelledCoreModel") (T := T_Mo) (N := 24) hx hb hts in_Mo hown hK hP 0 rfl rfl 9 (by decide) (hts _ wm_965) (fun _ h9 => h9) rfl d_Mo_takeLabels_140 ?_
          refine lv_iload_n hx hb d_Mo_takeLabels_143 rfl (lv_at hl 4 rfl) ?_
          have hPc := hP.sub (ws' := []) [] rfl
          refine W.callR ((W.runS (As := [.int x_p0]) (rest := [.ref a_registerLabels, .int 2, .ref a_labels]) ⟨hx, hb, hml, hown, hts⟩ (ct_Mo_b l dC dI cI x_p0) (va_cwS 1 hts (gS wm_1107 wm_1108 wm_42 wm_1109) rfl rfl rfl (by decide +kernel) ⟨Nat.le_of_ble_eq_true rfl, Nat.le_of_ble_eq_true rfl⟩) ⟨pcR_blind, pcR_pre hPc hK⟩ rfl rfl hl.1 rfl (lv_room (Nat.le_of_ble_eq_true rfl)) d_Mo_takeLabels_144 ⟨Nat.le_of_ble_eq_true rfl, Nat.le_of_ble_eq_true rfl⟩)) ?_
          refine W.eq (g2 := F0 m 147 ls [.int (f_Mo_b x_p0), .ref a_registerLabels, .int 2, .ref a_labels]) rfl ?_
          refine va_iald hx hb hK hP 2 0 rfl rfl (in_Mo_b _) d_Mo_takeLabels_147 ?_
          refine lv_goto (tgt := 152) hx hb d_Mo_takeLabels_148 (by decide) ?_
          refine lv_toE (y := (cu_Mo_takeLabels_152 x_p0 v_group g_registerLabels)) (show (cu_Mo_takeLabels_152 x_p0 v_group g_registerLabels) = (g_registerLabels (Int32.toNatClampNeg (f_Mo_b x_p0))) from ((if_neg c_3).trans rfl)).symm ?_
          exact hcut_152
      refine lv_iload_n hx hb d_Mo_takeLabels_111 rfl (lv_at hl 1 rfl) ?_
      refine lv_if_eq (tgt := 127) hx hb d_Mo_takeLabels_112 (by decide) (fun c_4 => ?_) (fun c_4 => ?_)
      · refine lv_iconst (v := 0) hx hb d_Mo_takeLabels_127 (by decide) ?_
        refine lv_toE (y := (cu_Mo_takeLabels_128 x_p0 v_group g_registerLabels)) (show (cu_Mo_takeLabels_128 x_p0 v_group g_registerLabels) = 0 from ((if_pos c_4).trans rfl)).symm ?_
        exact hcut_128
      · refine lv_aload_n hx hb d_Mo_takeLabels_115 rfl (lv_at hl 3 rfl) ?_
        refine va_get (D := (dC, dI)) (ci := 6) (v := .ref a_registerLabels) (C := "LabelledCoreModel") (T := T_Mo) (N := 24) hx hb hts in_Mo hown hK hP 0 rfl rfl 9 (by decide) (hts _ wm_965) (fun _ h9 => h9) rfl d_Mo_takeLabels_116 ?_
        refine lv_iload_n hx hb d_Mo_takeLabels_119 rfl (lv_at hl 4 rfl) ?_
        have hPc := hP.sub (ws' := []) [] rfl
        refine W.callR ((W.runS (As := [.int x_p0]) (rest := [.ref a_registerLabels, .int 1, .ref a_labels]) ⟨hx, hb, hml, hown, hts⟩ (ct_Mo_a l dC dI cI x_p0) (va_cwS 1 hts (gS wm_1100 wm_1101 wm_42 wm_1102) rfl rfl rfl (by decide +kernel) ⟨Nat.le_of_ble_eq_true rfl, Nat.le_of_ble_eq_true rfl⟩) ⟨pcR_blind, pcR_pre hPc hK⟩ rfl rfl hl.1 rfl (lv_room (Nat.le_of_ble_eq_true rfl)) d_Mo_takeLabels_120 ⟨Nat.le_of_ble_eq_true rfl, Nat.le_of_ble_eq_true rfl⟩)) ?_
        refine W.eq (g2 := F0 m 123 ls [.int (f_Mo_a x_p0), .ref a_registerLabels, .int 1, .ref a_labels]) rfl ?_
        refine va_iald hx hb hK hP 2 0 rfl rfl (in_Mo_a _) d_Mo_takeLabels_123 ?_
        refine lv_goto (tgt := 128) hx hb d_Mo_takeLabels_124 (by decide) ?_
        refine lv_toE (y := (cu_Mo_takeLabels_128 x_p0 v_group g_registerLabels)) (show (cu_Mo_takeLabels_128 x_p0 v_group g_registerLabels) = (g_registerLabels (Int32.toNatClampNeg (f_Mo_a x_p0))) from ((if_neg c_4).trans rfl)).symm ?_
        exact hcut_128
    refine lv_iload_n hx hb d_Mo_takeLabels_59 rfl (lv_at hl 1 rfl) ?_
    refine lv_bipush (v := 51) hx hb d_Mo_takeLabels_60 (by decide) ?_
    refine lv_icmp_eq (tgt := 89) hx hb d_Mo_takeLabels_62 (by decide) (fun c_5 => ?_) (fun c_5 => ?_)
    · refine lv_iconst (v := 1) hx hb d_Mo_takeLabels_89 (by decide) ?_
      refine lv_goto (tgt := 94) hx hb d_Mo_takeLabels_90 (by decide) ?_
      refine lv_toE (y := (cu_Mo_takeLabels_94 x_p0 v_group)) (show (cu_Mo_takeLabels_94 x_p0 v_group) = 1 from ((if_pos c_5).trans rfl)).symm ?_
      exact hcut_94
    · refine lv_aload_n hx hb d_Mo_takeLabels_65 rfl (lv_at hl 2 rfl) ?_
      refine va_get (D := (dC, dI)) (ci := 6) (v := .int v_group) (C := "LabelledCoreModel") (T := T_Mo) (N := 24) hx hb hts in_Mo hown hK hP 0 rfl rfl 22 (by decide) (hts _ wm_978) (fun _ h9 => h9) rfl d_Mo_takeLabels_66 ?_
      refine lv_iconst (v := 2) hx hb d_Mo_takeLabels_69 (by decide) ?_
      refine lv_icmp_eq (tgt := 89) hx hb d_Mo_takeLabels_70 (by decide) (fun c_6 => ?_) (fun c_6 => ?_)
      · refine lv_iconst (v := 1) hx hb d_Mo_takeLabels_89 (by decide) ?_
        refine lv_goto (tgt := 94) hx hb d_Mo_takeLabels_90 (by decide) ?_
        refine lv_toE (y := (cu_Mo_takeLabels_94 x_p0 v_group)) (show (cu_Mo_takeLabels_94 x_p0 v_group) = 1 from ((if_neg c_5).trans ((if_pos c_6).trans rfl))).symm ?_
        exact hcut_94
      · refine lv_aload_n hx hb d_Mo_takeLabels_73 rfl (lv_at hl 2 rfl) ?_
        refine va_get (D := (dC, dI)) (ci := 6) (v := .int v_group) (C := "LabelledCoreModel") (T := T_Mo) (N := 24) hx hb hts in_Mo hown hK hP 0 rfl rfl 22 (by decide) (hts _ wm_978) (fun _ h9 => h9) rfl d_Mo_takeLabels_74 ?_
        refine lv_iconst (v := 3) hx hb d_Mo_takeLabels_77 (by decide) ?_
        refine lv_icmp_eq (tgt := 89) hx hb d_Mo_takeLabels_78 (by decide) (fun c_7 => ?_) (fun c_7 => ?_)
        · refine lv_iconst (v := 1) hx hb d_Mo_takeLabels_89 (by decide) ?_
          refine lv_goto (tgt := 94) hx hb d_Mo_takeLabels_90 (by decide) ?_
          refine lv_toE (y := (cu_Mo_takeLabels_94 x_p0 v_group)) (show (cu_Mo_takeLabels_94 x_p0 v_group) = 1 from ((if_neg c_5).trans ((if_neg c_6).trans ((if_pos c_7).trans rfl)))).symm ?_
          exact hcut_94
        · refine lv_aload_n hx hb d_Mo_takeLabels_81 rfl (lv_at hl 2 rfl) ?_
          refine va_get (D := (dC, dI)) (ci := 6) (v := .int v_group) (C := "LabelledCoreModel") (T := T_Mo) (N := 24) hx hb hts in_Mo hown hK hP 0 rfl rfl 22 (by decide) (hts _ wm_978) (fun _ h9 => h9) rfl d_Mo_takeLabels_82 ?_
          refine lv_iconst (v := 4) hx hb d_Mo_takeLabels_85 (by decide) ?_
          refine lv_icmp_ne (tgt := 93) hx hb d_Mo_takeLabels_86 (by decide) (fun c_8 => ?_) (fun c_8 => ?_)
          · refine lv_iconst (v := 0) hx hb d_Mo_takeLabels_93 (by decide) ?_
            refine lv_toE (y := (cu_Mo_takeLabels_94 x_p0 v_group)) (show (cu_Mo_takeLabels_94 x_p0 v_group) = 0 from ((if_neg c_5).trans ((if_neg c_6).trans ((if_neg c_7).trans ((if_neg c_8).trans rfl))))).symm ?_
            exact hcut_94
          · refine lv_iconst (v := 1) hx hb d_Mo_takeLabels_89 (by decide) ?_
            refine lv_goto (tgt := 94) hx hb d_Mo_takeLabels_90 (by decide) ?_
            refine lv_toE (y := (cu_Mo_takeLabels_94 x_p0 v_group)) (show (cu_Mo_takeLabels_94 x_p0 v_group) = 1 from ((if_neg c_5).trans ((if_neg c_6).trans ((if_neg c_7).trans ((if_pos c_8).trans rfl))))).symm ?_
            exact hcut_94
  refine lv_iload_n hx hb d_Mo_takeLabels_5 rfl (lv_at hl 0 rfl) ?_
  refine lv_bipush (v := 51) hx hb d_Mo_takeLabels_6 (by decide) ?_
  refine lv_icmp_eq (tgt := 53) hx hb d_Mo_takeLabels_8 (by decide) (fun c_9 => ?_) (fun c_9 => ?_)
  · refine lv_iconst (v := 1) hx hb d_Mo_takeLabels_53 (by decide) ?_
    refine lv_goto (tgt := 58) hx hb d_Mo_takeLabels_54 (by decide) ?_
    refine lv_toE (y := (cu_Mo_takeLabels_58 x_p0 v_group)) (show (cu_Mo_takeLabels_58 x_p0 v_group) = 1 from ((if_pos c_9).trans rfl)).symm ?_
    exact hcut_58
  · refine lv_iload_n hx hb d_Mo_takeLabels_11 rfl (lv_at hl 0 rfl) ?_
    refine lv_bipush (v := 19) hx hb d_Mo_takeLabels_12 (by decide) ?_
    refine lv_icmp_eq (tgt := 53) hx hb d_Mo_takeLabels_14 (by decide) (fun c_10 => ?_) (fun c_10 => ?_)
    · refine lv_iconst (v := 1) hx hb d_Mo_takeLabels_53 (by decide) ?_
      refine lv_goto (tgt := 58) hx hb d_Mo_takeLabels_54 (by decide) ?_
      refine lv_toE (y := (cu_Mo_takeLabels_58 x_p0 v_group)) (show (cu_Mo_takeLabels_58 x_p0 v_group) = 1 from ((if_neg c_9).trans ((if_pos c_10).trans rfl))).symm ?_
      exact hcut_58
    · refine lv_aload_n hx hb d_Mo_takeLabels_17 rfl (lv_at hl 1 rfl) ?_
      refine va_get (D := (dC, dI)) (ci := 6) (v := .int v_group) (C := "LabelledCoreModel") (T := T_Mo) (N := 24) hx hb hts in_Mo hown hK hP 0 rfl rfl 22 (by decide) (hts _ wm_978) (fun _ h9 => h9) rfl d_Mo_takeLabels_18 ?_
      have hPc := hP.sub (ws' := []) [] rfl
      refine W.callR ((W.runS (As := [.int v_group]) (rest := []) ⟨hx, hb, hml, hown, hts⟩ (ct_Mo_isMemory l dC dI cI v_group) (va_cwS 1 hts (gS wm_1086 wm_1087 wm_42 wm_1088) rfl rfl rfl (by decide +kernel) ⟨Nat.le_of_ble_eq_true rfl, Nat.le_of_ble_eq_true rfl⟩) ⟨pcR_blind, pcR_pre hPc hK⟩ rfl rfl hl.1 rfl (lv_room (Nat.le_of_ble_eq_true rfl)) d_Mo_takeLabels_21 ⟨Nat.le_of_ble_eq_true rfl, Nat.le_of_ble_eq_true rfl⟩)) ?_
      refine W.eq (g2 := F0 m 24 ls [.int (f_Mo_isMemory v_group)]) rfl ?_
      refine lv_if_ne (tgt := 53) hx hb d_Mo_takeLabels_24 (by decide) (fun c_11 => ?_) (fun c_11 => ?_)
      · refine lv_iconst (v := 1) hx hb d_Mo_takeLabels_53 (by decide) ?_
        refine lv_goto (tgt := 58) hx hb d_Mo_takeLabels_54 (by decide) ?_
        refine lv_toE (y := (cu_Mo_takeLabels_58 x_p0 v_group)) (show (cu_Mo_takeLabels_58 x_p0 v_group) = 1 from ((if_neg c_9).trans ((if_neg c_10).trans ((if_neg c_11).trans rfl)))).symm ?_
        exact hcut_58
      · refine lv_aload_n hx hb d_Mo_takeLabels_27 rfl (lv_at hl 1 rfl) ?_
        refine va_get (D := (dC, dI)) (ci := 6) (v := .int v_group) (C := "LabelledCoreModel") (T := T_Mo) (N := 24) hx hb hts in_Mo hown hK hP 0 rfl rfl 22 (by decide) (hts _ wm_978) (fun _ h9 => h9) rfl d_Mo_takeLabels_28 ?_
        refine lv_iconst (v := 4) hx hb d_Mo_takeLabels_31 (by decide) ?_
        refine lv_icmp_eq (tgt := 53) hx hb d_Mo_takeLabels_32 (by decide) (fun c_12 => ?_) (fun c_12 => ?_)
        · refine lv_iconst (v := 1) hx hb d_Mo_takeLabels_53 (by decide) ?_
          refine lv_goto (tgt := 58) hx hb d_Mo_takeLabels_54 (by decide) ?_
          refine lv_toE (y := (cu_Mo_takeLabels_58 x_p0 v_group)) (show (cu_Mo_takeLabels_58 x_p0 v_group) = 1 from ((if_neg c_9).trans ((if_neg c_10).trans ((if_pos c_11).trans ((if_pos c_12).trans rfl))))).symm ?_
          exact hcut_58
        · refine lv_aload_n hx hb d_Mo_takeLabels_35 rfl (lv_at hl 1 rfl) ?_
          refine va_get (D := (dC, dI)) (ci := 6) (v := .int v_group) (C := "LabelledCoreModel") (T := T_Mo) (N := 24) hx hb hts in_Mo hown hK hP 0 rfl rfl 22 (by decide) (hts _ wm_978) (fun _ h9 => h9) rfl d_Mo_takeLabels_36 ?_
          refine lv_bipush (v := 6) hx hb d_Mo_takeLabels_39 (by decide) ?_
          refine lv_icmp_eq (tgt := 53) hx hb d_Mo_takeLabels_41 (by decide) (fun c_13 => ?_) (fun c_13 => ?_)
          · refine lv_iconst (v := 1) hx hb d_Mo_takeLabels_53 (by decide) ?_
            refine lv_goto (tgt := 58) hx hb d_Mo_takeLabels_54 (by decide) ?_
            refine lv_toE (y := (cu_Mo_takeLabels_58 x_p0 v_group)) (show (cu_Mo_takeLabels_58 x_p0 v_group) = 1 from ((if_neg c_9).trans ((if_neg c_10).trans ((if_pos c_11).trans ((if_neg c_12).trans ((if_pos c_13).trans rfl)))))).symm ?_
            exact hcut_58
          · refine lv_aload_n hx hb d_Mo_takeLabels_44 rfl (lv_at hl 1 rfl) ?_
            refine va_get (D := (dC, dI)) (ci := 6) (v := .int v_group) (C := "LabelledCoreModel") (T := T_Mo) (N := 24) hx hb hts in_Mo hown hK hP 0 rfl rfl 22 (by decide) (hts _ wm_978) (fun _ h9 => h9) rfl d_Mo_takeLabels_45 ?_
            refine lv_bipush (v := 7) hx hb d_Mo_takeLabels_48 (by decide) ?_
            refine lv_icmp_ne (tgt := 57) hx hb d_Mo_takeLabels_50 (by decide) (fun c_14 => ?_) (fun c_14 => ?_)
            · refine lv_iconst (v := 0) hx hb d_Mo_takeLabels_57 (by decide) ?_
              refine lv_toE (y := (cu_Mo_takeLabels_58 x_p0 v_group)) (show (cu_Mo_takeLabels_58 x_p0 v_group) = 0 from ((if_neg c_9).trans ((if_neg c_10).trans ((if_pos c_11).trans ((if_neg c_12).trans ((if_neg c_13).trans ((if_neg c_14).trans rfl))))))).symm ?_
              exact hcut_58
            · refine lv_iconst (v := 1) hx hb d_Mo_takeLabels_53 (by decide) ?_
              refine lv_goto (tgt := 58) hx hb d_Mo_takeLabels_54 (by decide) ?_
              refine lv_toE (y := (cu_Mo_takeLabels_58 x_p0 v_group)) (show (cu_Mo_takeLabels_58 x_p0 v_group) = 1 from ((if_neg c_9).trans ((if_neg c_10).trans ((if_pos c_11).trans ((if_neg c_12).trans ((if_neg c_13).trans ((if_pos c_14).trans rfl))))))).symm ?_
              exact hcut_58
def f_Mo_word (v_size : Int32) (g_words : Nat → Int32) (x_p0 : Int32) : Int32 × Int32 × (Nat → Int32) :=
  if v_size = 256 then
    ((-1), v_size, g_words)
  else
    ((v_size + 1), (v_size + 1), (upd g_words (Int32.toNatClampNeg v_size) x_p0))
set_option maxHeartbeats 4000000 in
set_option maxRecDepth 100000 in
theorem ct_Mo_word (l : Launch) (dC : Nat → ClassId) (dI : Nat → Nat → Nat) (cI : ClassId) (sz : Nat) (h0 a_words a_rules a_registers a_registerLabels a_memory a_memoryLabels a_waiting a_waitingLabels a_out a_outLabels a_keys a_labels : Nat) (v_thrown : Int32) (v_size : Int32) (v_entries : Int32) (v_outcome : Int32) (v_pc : Int32) (v_pcLabel : Int32) (v_wait : Int32) (v_went : Int32) (v_done : Int32) (v_misses : Int32) (v_known : Int32) (v_group : Int32) (g_words : Nat → Int32) (x_p0 : Int32) (hs_26_0 : (¬ v_size = 256) → vp_in v_size 256) : Met l y_Mo_word w_Mo_word ({ frames := 0, cells := 0, slots := 0, locals := 0 }) (pcW dC dI cI [(h0, .inr (6, [.int v_thrown, .ref a_words, .int v_size, .ref a_rules, .int v_entries, .int v_outcome, .int v_pc, .int v_pcLabel, .ref a_registers, .ref a_registerLabels, .ref a_memory, .ref a_memoryLabels, .ref a_waiting, .ref a_waitingLabels, .int v_wait, .ref a_out, .ref a_outLabels, .int v_went, .int v_done, .int v_misses, .ref a_keys, .int v_known, .int v_group, .ref a_labels])), (a_words, .inl (cI, 256, .inl g_words))] sz [.ref h0, .int x_p0]) (va_Qi (fun (r : Int32) (_ : Unit) => r = (f_Mo_word v_size g_words x_p0).1) (fun _ t => atW dC dI cI [(h0, .inr (6, [.int 0, .ref a_words, .int ((f_Mo_word v_size g_words x_p0).2.1), .ref a_rules, .int v_entries, .int v_outcome, .int v_pc, .int v_pcLabel, .ref a_registers, .ref a_registerLabels, .ref a_memory, .ref a_memoryLabels, .ref a_waiting, .ref a_waitingLabels, .int v_wait, .ref a_out, .ref a_outLabels, .int v_went, .int v_done, .int v_misses, .ref a_keys, .int v_known, .int v_group, .ref a_labels])), (a_words, .inl (cI, 256, .inl ((f_Mo_word v_size g_words x_p0).2.2)))] (va_A [(h0, .inr (6, [.int v_thrown, .ref a_words, .int v_size, .ref a_rules, .int v_entries, .int v_outcome, .int v_pc, .int v_pcLabel, .ref a_registers, .ref a_registerLabels, .ref a_memory, .ref a_memoryLabels, .ref a_waiting, .ref a_waitingLabels, .int v_wait, .ref a_out, .ref a_outLabels, .int v_went, .int v_done, .int v_misses, .ref a_keys, .int v_known, .int v_group, .ref a_labels])), (a_words, .inl (cI, 256, .inl g_words))] sz) t) (va_A [(h0, .inr (6, [.int v_thrown, .ref a_words, .int v_size, .ref a_rules, .int v_entries, .int v_outcome, .int v_pc, .int v_pcLabel, .ref a_registers, .ref a_registerLabels, .ref a_memory, .ref a_memoryLabels, .ref a_waiting, .ref a_waitingLabels, .int v_wait, .ref a_out, .ref a_outLabels, .int v_went, .int v_done, .int v_misses, .ref a_keys, .int v_known, .int v_group, .ref a_labels])), (a_words, .inl (cI, 256, .inl g_words))] sz)) 0 0 (va_A [(h0, .inr (6, [.int v_thrown, .ref a_words, .int v_size, .ref a_rules, .int v_entries, .int v_outcome, .int v_pc, .int v_pcLabel, .ref a_registers, .ref a_registerLabels, .ref a_memory, .ref a_memoryLabels, .ref a_waiting, .ref a_waitingLabels, .int v_wait, .ref a_out, .ref a_outLabels, .int v_went, .int v_done, .int v_misses, .ref a_keys, .int v_known, .int v_group, .ref a_labels])), (a_words, .inl (cI, 256, .inl g_words))] sz) := by
  refine Met.ofW (cc := c_Mo_word) (maxL := 2) (ret := (some .int)) (by decide) rfl ?_
  intro p e s m args below meth c s₁ B hml hv
  obtain ⟨rfl, hsz, hP, hK, hD0⟩ := hv
  have hx := B.exec
  have hb := B.bytes
  have hr := B.returns
  have hts : ∀ w ∈ wG, w.before _ s = true := fun w h => atoms_spec (ws := w_Mo_word) B.pre w (List.mem_cons_of_mem _ h)
  have hown : s.vm.findClass "LabelledCoreModel" = some m.cls := findClass_of_methodNamed B.named
  have hlocks := B.notSynchronized
  subst hsz
  have hD := hD0.self (sz := s.heap.size)
  generalize hAe : va_A [(h0, .inr (6, [.int v_thrown, .ref a_words, .int v_size, .ref a_rules, .int v_entries, .int v_outcome, .int v_pc, .int v_pcLabel, .ref a_registers, .ref a_registerLabels, .ref a_memory, .ref a_memoryLabels, .ref a_waiting, .ref a_waitingLabels, .int v_wait, .ref a_out, .ref a_outLabels, .int v_went, .int v_done, .int v_misses, .ref a_keys, .int v_known, .int v_group, .ref a_labels])), (a_words, .inl (cI, 256, .inl g_words))] s.heap.size = A at hD ⊢
  have hA : ∀ q : Nat, s.heap.size ≤ q → A q := fun q h => by rw [← hAe]; exact Or.inr h
  have hS : va_S A s.heap s.heap [] := va_S.rf
  have hP : va_P (dC, dI) clsL [(h0, .inr (6, [.int v_thrown, .ref a_words, .int v_size, .ref a_rules, .int v_entries, .int v_outcome, .int v_pc, .int v_pcLabel, .ref a_registers, .ref a_registerLabels, .ref a_memory, .ref a_memoryLabels, .ref a_waiting, .ref a_waitingLabels, .int v_wait, .ref a_out, .ref a_outLabels, .int v_went, .int v_done, .int v_misses, .ref a_keys, .int v_known, .int v_group, .ref a_labels])), (a_words, .inl (cI, 256, .inl g_words))] s.heap := hP
  have hl := lv_entry ([.ref h0, .int x_p0]) (n := 2) (Nat.le_of_ble_eq_true rfl)
  rw [lg_entry_eq]
  generalize (lg_sl ([.ref h0, .int x_p0]) ++ List.replicate (2 - (lg_sl ([.ref h0, .int x_p0])).length) Slot.unset).toArray = ls at hl ⊢
  have hl : lv_has ls 2 [(0, .ref h0), (1, .int x_p0)] := hl
  refine lv_aload_n hx hb d_Mo_word_0 rfl (lv_at hl 0 rfl) ?_
  refine lv_iconst (v := 0) hx hb d_Mo_word_1 (by decide) ?_
  refine va_put (D := (dC, dI)) (ci := 6) (v := .int 0) (ty := .int) (C := "LabelledCoreModel") (T := T_Mo) (N := 24) hx hb hts in_Mo t_Mo ty_Mo nm_Mo hown hK hP hD hS 0 rfl rfl 0 (by decide) (hts _ wm_956) (fun _ h9 => h9) rfl (by decide +kernel) rfl rfl (Nat.le_of_ble_eq_true rfl) d_Mo_word_2 (fun H locs hP hD hS => ?_)
  have hP : va_P (dC, dI) clsL [(h0, .inr (6, [.int 0, .ref a_words, .int v_size, .ref a_rules, .int v_entries, .int v_outcome, .int v_pc, .int v_pcLabel, .ref a_registers, .ref a_registerLabels, .ref a_memory, .ref a_memoryLabels, .ref a_waiting, .ref a_waitingLabels, .int v_wait, .ref a_out, .ref a_outLabels, .int v_went, .int v_done, .int v_misses, .ref a_keys, .int v_known, .int v_group, .ref a_labels])), (a_words, .inl (cI, 256, .inl g_words))] H := hP
  have hD : va_D A [(h0, .inr (6, [.int 0, .ref a_words, .int v_size, .ref a_rules, .int v_entries, .int v_outcome, .int v_pc, .int v_pcLabel, .ref a_registers, .ref a_registerLabels, .ref a_memory, .ref a_memoryLabels, .ref a_waiting, .ref a_waitingLabels, .int v_wait, .ref a_out, .ref a_outLabels, .int v_went, .int v_done, .int v_misses, .ref a_keys, .int v_known, .int v_group, .ref a_labels])), (a_words, .inl (cI, 256, .inl g_words))] := hD
  refine lv_aload_n hx hb d_Mo_word_5 rfl (lv_at hl 0 rfl) ?_
  refine va_get (D := (dC, dI)) (ci := 6) (v := .int v_size) (C := "LabelledCoreModel") (T := T_Mo) (N := 24) hx hb hts in_Mo hown hK hP 0 rfl rfl 2 (by decide) (hts _ wm_958) (fun _ h9 => h9) rfl d_Mo_word_6 ?_
  refine lv_sipush (v := 256) hx hb d_Mo_word_9 (by decide) ?_
  refine lv_icmp_ne (tgt := 17) hx hb d_Mo_word_12 (by decide) (fun c_1 => ?_) (fun c_1 => ?_)
  · refine lv_aload_n hx hb d_Mo_word_17 rfl (lv_at hl 0 rfl) ?_
    refine va_get (D := (dC, dI)) (ci := 6) (v := .ref a_words) (C := "LabelledCoreModel") (T := T_Mo) (N := 24) hx hb hts in_Mo hown hK hP 0 rfl rfl 1 (by decide) (hts _ wm_957) (fun _ h9 => h9) rfl d_Mo_word_18 ?_
    refine lv_aload_n hx hb d_Mo_word_21 rfl (lv_at hl 0 rfl) ?_
    refine va_get (D := (dC, dI)) (ci := 6) (v := .int v_size) (C := "LabelledCoreModel") (T := T_Mo) (N := 24) hx hb hts in_Mo hown hK hP 0 rfl rfl 2 (by decide) (hts _ wm_958) (fun _ h9 => h9) rfl d_Mo_word_22 ?_
    refine lv_iload_n hx hb d_Mo_word_25 rfl (lv_at hl 1 rfl) ?_
    refine va_iast hx hb hK hP hD hS 1 0 rfl rfl (hs_26_0 c_1) d_Mo_word_26 (fun H locs hP hD hS => ?_)
    have hP : va_P (dC, dI) clsL [(h0, .inr (6, [.int 0, .ref a_words, .int v_size, .ref a_rules, .int v_entries, .int v_outcome, .int v_pc, .int v_pcLabel, .ref a_registers, .ref a_registerLabels, .ref a_memory, .ref a_memoryLabels, .ref a_waiting, .ref a_waitingLabels, .int v_wait, .ref a_out, .ref a_outLabels, .int v_went, .int v_done, .int v_misses, .ref a_keys, .int v_known, .int v_group, .ref a_labels])), (a_words, .inl (cI, 256, .inl (upd g_words (Int32.toNatClampNeg v_size) x_p0)))] H := hP
    have hD : va_D A [(h0, .inr (6, [.int 0, .ref a_words, .int v_size, .ref a_rules, .int v_entries, .int v_outcome, .int v_pc, .int v_pcLabel, .ref a_registers, .ref a_registerLabels, .ref a_memory, .ref a_memoryLabels, .ref a_waiting, .ref a_waitingLabels, .int v_wait, .ref a_out, .ref a_outLabels, .int v_went, .int v_done, .int v_misses, .ref a_keys, .int v_known, .int v_group, .ref a_labels])), (a_words, .inl (cI, 256, .inl (upd g_words (Int32.toNatClampNeg v_size) x_p0)))] := hD
    refine lv_aload_n hx hb d_Mo_word_27 rfl (lv_at hl 0 rfl) ?_
    refine lv_dup hx hb d_Mo_word_28 rfl ?_
    refine va_get (D := (dC, dI)) (ci := 6) (v := .int v_size) (C := "LabelledCoreModel") (T := T_Mo) (N := 24) hx hb hts in_Mo hown hK hP 0 rfl rfl 2 (by decide) (hts _ wm_958) (fun _ h9 => h9) rfl d_Mo_word_29 ?_
    refine lv_iconst (v := 1) hx hb d_Mo_word_32 (by decide) ?_
    refine lv_iadd hx hb d_Mo_word_33 ?_
    refine va_put (D := (dC, dI)) (ci := 6) (v := .int (v_size + 1)) (ty := .int) (C := "LabelledCoreModel") (T := T_Mo) (N := 24) hx hb hts in_Mo t_Mo ty_Mo nm_Mo hown hK hP hD hS 0 rfl rfl 2 (by decide) (hts _ wm_958) (fun _ h9 => h9) rfl (by decide +kernel) rfl rfl (Nat.le_of_ble_eq_true rfl) d_Mo_word_34 (fun H locs hP hD hS => ?_)
    have hP : va_P (dC, dI) clsL [(h0, .inr (6, [.int 0, .ref a_words, .int (v_size + 1), .ref a_rules, .int v_entries, .int v_outcome, .int v_pc, .int v_pcLabel, .ref a_registers, .ref a_registerLabels, .ref a_memory, .ref a_memoryLabels, .ref a_waiting, .ref a_waitingLabels, .int v_wait, .ref a_out, .ref a_outLabels, .int v_went, .int v_done, .int v_misses, .ref a_keys, .int v_known, .int v_group, .ref a_labels])), (a_words, .inl (cI, 256, .inl (upd g_words (Int32.toNatClampNeg v_size) x_p0)))] H := hP
    have hD : va_D A [(h0, .inr (6, [.int 0, .ref a_words, .int (v_size + 1), .ref a_rules, .int v_entries, .int v_outcome, .int v_pc, .int v_pcLabel, .ref a_registers, .ref a_registerLabels, .ref a_memory, .ref a_memoryLabels, .ref a_waiting, .ref a_waitingLabels, .int v_wait, .ref a_out, .ref a_outLabels, .int v_went, .int v_done, .int v_misses, .ref a_keys, .int v_known, .int v_group, .ref a_labels])), (a_words, .inl (cI, 256, .inl (upd g_words (Int32.toNatClampNeg v_size) x_p0)))] := hD
    refine lv_aload_n hx hb d_Mo_word_37 rfl (lv_at hl 0 rfl) ?_
    refine va_get (D := (dC, dI)) (ci := 6) (v := .int (v_size + 1)) (C := "LabelledCoreModel") (T := T_Mo) (N := 24) hx hb hts in_Mo hown hK hP 0 rfl rfl 2 (by decide) (hts _ wm_958) (fun _ h9 => h9) rfl d_Mo_word_38 ?_
    have ef : (f_Mo_word v_size g_words x_p0) = (((v_size + 1), (v_size + 1), (upd g_words (Int32.toNatClampNeg v_size) x_p0)) : Int32 × Int32 × (Nat → Int32)) := (if_neg c_1).trans rfl
    have hP9 := hP.sub (ws' := [(h0, .inr (6, [.int 0, .ref a_words, .int (v_size + 1), .ref a_rules, .int v_entries, .int v_outcome, .int v_pc, .int v_pcLabel, .ref a_registers, .ref a_registerLabels, .ref a_memory, .ref a_memoryLabels, .ref a_waiting, .ref a_waitingLabels, .int v_wait, .ref a_out, .ref a_outLabels, .int v_went, .int v_done, .int v_misses, .ref a_keys, .int v_known, .int v_group, .ref a_labels])), (a_words, .inl (cI, 256, .inl (upd g_words (Int32.toNatClampNeg v_size) x_p0)))]) [0, 1] rfl
    have hD9 := hD.sub (ws' := [(h0, .inr (6, [.int 0, .ref a_words, .int (v_size + 1), .ref a_rules, .int v_entries, .int v_outcome, .int v_pc, .int v_pcLabel, .ref a_registers, .ref a_registerLabels, .ref a_memory, .ref a_memoryLabels, .ref a_waiting, .ref a_waitingLabels, .int v_wait, .ref a_out, .ref a_outLabels, .int v_went, .int v_done, .int v_misses, .ref a_keys, .int v_known, .int v_group, .ref a_labels])), (a_words, .inl (cI, 256, .inl (upd g_words (Int32.toNatClampNeg v_size) x_p0)))]) [0, 1] (by decide) rfl
    exact W.iret (v := (v_size + 1)) hx hb hr (fun t ht hW => ⟨⟨(v_size + 1), (), rfl, by rw [ef], by rw [ef, ht]; exact hP9, va_K.moved hW.alike hK, by rw [ef]; exact hD9⟩, hS.F ht⟩) hS.2.2 d_Mo_word_41
  · refine lv_iconst (v := (-1)) hx hb d_Mo_word_15 (by decide) ?_
    have ef : (f_Mo_word v_size g_words x_p0) = (((-1), v_size, g_words) : Int32 × Int32 × (Nat → Int32)) := (if_pos c_1).trans rfl
    have hP9 := hP.sub (ws' := [(h0, .inr (6, [.int 0, .ref a_words, .int v_size, .ref a_rules, .int v_entries, .int v_outcome, .int v_pc, .int v_pcLabel, .ref a_registers, .ref a_registerLabels, .ref a_memory, .ref a_memoryLabels, .ref a_waiting, .ref a_waitingLabels, .int v_wait, .ref a_out, .ref a_outLabels, .int v_went, .int v_done, .int v_misses, .ref a_keys, .int v_known, .int v_group, .ref a_labels])), (a_words, .inl (cI, 256, .inl g_words))]) [0, 1] rfl
    have hD9 := hD.sub (ws' := [(h0, .inr (6, [.int 0, .ref a_words, .int v_size, .ref a_rules, .int v_entries, .int v_outcome, .int v_pc, .int v_pcLabel, .ref a_registers, .ref a_registerLabels, .ref a_memory, .ref a_memoryLabels, .ref a_waiting, .ref a_waitingLabels, .int v_wait, .ref a_out, .ref a_outLabels, .int v_went, .int v_done, .int v_misses, .ref a_keys, .int v_known, .int v_group, .ref a_labels])), (a_words, .inl (cI, 256, .inl g_words))]) [0, 1] (by decide) rfl
    exact W.iret (v := (-1)) hx hb hr (fun t ht hW => ⟨⟨(-1), (), rfl, by rw [ef], by rw [ef, ht]; exact hP9, va_K.moved hW.alike hK, by rw [ef]; exact hD9⟩, hS.F ht⟩) hS.2.2 d_Mo_word_16
def cu_Mo_rule_46 (x_p0 : Int32) (x_p1 : Int32) (x_p2 : Int32) (x_p3 : Int32) (x_p4 : Int32) : Int32 :=
  if x_p0 < 0 then
    1
  else
    if 8 < x_p0 then
      1
    else
      if (f_Mo_noMask x_p1) = 0 then
        if (f_Mo_noMask x_p2) = 0 then
          if (f_Mo_noMask x_p3) = 0 then
            if (f_Mo_noMask x_p4) = 0 then
              0
            else
              1
          else
            1
        else
          1
      else
        1
def f_Mo_rule (v_known : Int32) (g_rules : Nat → Int32) (x_p0 : Int32) (x_p1 : Int32) (x_p2 : Int32) (x_p3 : Int32) (x_p4 : Int32) : Int32 × (Nat → Int32) :=
  if (cu_Mo_rule_46 x_p0 x_p1 x_p2 x_p3 x_p4) ≤ 0 then
    (0, (upd (upd (upd (upd g_rules (Int32.toNatClampNeg (4 * x_p0)) x_p1) (Int32.toNatClampNeg ((4 * x_p0) + 1)) x_p2) (Int32.toNatClampNeg ((4 * x_p0) + 2)) x_p3) (Int32.toNatClampNeg ((4 * x_p0) + 3)) x_p4))
  else
    (v_known, g_rules)
set_option maxHeartbeats 4000000 in
set_option maxRecDepth 100000 in
theorem ct_Mo_rule (l : Launch) (dC : Nat → ClassId) (dI : Nat → Nat → Nat) (cI : ClassId) (sz : Nat) (h0 a_words a_rules a_registers a_registerLabels a_memory a_memoryLabels a_waiting a_waitingLabels a_out a_outLabels a_keys a_labels : Nat) (v_thrown : Int32) (v_size : Int32) (v_entries : Int32) (v_outcome : Int32) (v_pc : Int32) (v_pcLabel : Int32) (v_wait : Int32) (v_went : Int32) (v_done : Int32) (v_misses : Int32) (v_known : Int32) (v_group : Int32) (g_rules : Nat → Int32) (x_p0 : Int32) (x_p1 : Int32) (x_p2 : Int32) (x_p3 : Int32) (x_p4 : Int32) (hs_65_0 : ((cu_Mo_rule_46 x_p0 x_p1 x_p2 x_p3 x_p4) ≤ 0) → vp_in (4 * x_p0) 36) (hs_76_1 : ((cu_Mo_rule_46 x_p0 x_p1 x_p2 x_p3 x_p4) ≤ 0) → vp_in ((4 * x_p0) + 1) 36) (hs_88_2 : ((cu_Mo_rule_46 x_p0 x_p1 x_p2 x_p3 x_p4) ≤ 0) → vp_in ((4 * x_p0) + 2) 36) (hs_100_3 : ((cu_Mo_rule_46 x_p0 x_p1 x_p2 x_p3 x_p4) ≤ 0) → vp_in ((4 * x_p0) + 3) 36) : Met l y_Mo_rule w_Mo_rule ({ frames := 1, cells := 0, slots := 0, locals := 20 }) (pcW dC dI cI [(h0, .inr (6, [.int v_thrown, .ref a_words, .int v_size, .ref a_rules, .int v_entries, .int v_outcome, .int v_pc, .int v_pcLabel, .ref a_registers, .ref a_registerLabels, .ref a_memory, .ref a_memoryLabels, .ref a_waiting, .ref a_waitingLabels, .int v_wait, .ref a_out, .ref a_outLabels, .int v_went, .int v_done, .int v_misses, .ref a_keys, .int v_known, .int v_group, .ref a_labels])), (a_rules, .inl (cI, 36, .inl g_rules))] sz [.ref h0, .int x_p0, .int x_p1, .int x_p2, .int x_p3, .int x_p4]) (va_Qv (fun _ : Unit => True) (fun _ t => atW dC dI cI [(h0, .inr (6, [.int (cu_Mo_rule_46 x_p0 x_p1 x_p2 x_p3 x_p4), .ref a_words, .int v_size, .ref a_rules, .int v_entries, .int v_outcome, .int v_pc, .int v_pcLabel, .ref a_registers, .ref a_registerLabels, .ref a_memory, .ref a_memoryLabels, .ref a_waiting, .ref a_waitingLabels, .int v_wait, .ref a_out, .ref a_outLabels, .int v_went, .int v_done, .int v_misses, .ref a_keys, .int ((f_Mo_rule v_known g_rules x_p0 x_p1 x_p2 x_p3 x_p4).1), .int v_group, .ref a_labels])), (a_rules, .inl (cI, 36, .inl ((f_Mo_rule v_known g_rules x_p0 x_p1 x_p2 x_p3 x_p4).2)))] (va_A [(h0, .inr (6, [.int v_thrown, .ref a_words, .int v_size, .ref a_rules, .int v_entries, .int v_outcome, .int v_pc, .int v_pcLabel, .ref a_registers, .ref a_registerLabels, .ref a_memory, .ref a_memoryLabels, .ref a_waiting, .ref a_waitingLabels, .int v_wait, .ref a_out, .ref a_outLabels, .int v_went, .int v_done, .int v_misses, .ref a_keys, .int v_known, .int v_group, .ref a_labels])), (a_rules, .inl (cI, 36, .inl g_rules))] sz) t) (va_A [(h0, .inr (6, [.int v_thrown, .ref a_words, .int v_size, .ref a_rules, .int v_entries, .int v_outcome, .int v_pc, .int v_pcLabel, .ref a_registers, .ref a_registerLabels, .ref a_memory, .ref a_memoryLabels, .ref a_waiting, .ref a_waitingLabels, .int v_wait, .ref a_out, .ref a_outLabels, .int v_went, .int v_done, .int v_misses, .ref a_keys, .int v_known, .int v_group, .ref a_labels])), (a_rules, .inl (cI, 36, .inl g_rules))] sz)) 0 0 (va_A [(h0, .inr (6, [.int v_thrown, .ref a_words, .int v_size, .ref a_rules, .int v_entries, .int v_outcome, .int v_pc, .int v_pcLabel, .ref a_registers, .ref a_registerLabels, .ref a_memory, .ref a_memoryLabels, .ref a_waiting, .ref a_waitingLabels, .int v_wait, .ref a_out, .ref a_outLabels, .int v_went, .int v_done, .int v_misses, .ref a_keys, .int v_known, .int v_group, .ref a_labels])), (a_rules, .inl (cI, 36, .inl g_rules))] sz) := by
  refine Met.ofW (cc := c_Mo_rule) (maxL := 6) (ret := none) (by decide) rfl ?_
  intro p e s m args below meth c s₁ B hml hv
  obtain ⟨rfl, hsz, hP, hK, hD0⟩ := hv
  have hx := B.exec
  have hb := B.bytes
  have hr := B.returns
  have hts : ∀ w ∈ wG, w.before _ s = true := fun w h => atoms_spec (ws := w_Mo_rule) B.pre w (List.mem_cons_of_mem _ h)
  have hown : s.vm.findClass "LabelledCoreModel" = some m.cls := findClass_of_methodNamed B.named
  have hlocks := B.notSynchronized
  subst hsz
  have hD := hD0.self (sz := s.heap.size)
  generalize hAe : va_A [(h0, .inr (6, [.int v_thrown, .ref a_words, .int v_size, .ref a_rules, .int v_entries, .int v_outcome, .int v_pc, .int v_pcLabel, .ref a_registers, .ref a_registerLabels, .ref a_memory, .ref a_memoryLabels, .ref a_waiting, .ref a_waitingLabels, .int v_wait, .ref a_out, .ref a_outLabels, .int v_went, .int v_done, .int v_misses, .ref a_keys, .int v_known, .int v_group, .ref a_labels])), (a_rules, .inl (cI, 36, .inl g_rules))] s.heap.size = A at hD ⊢
  have hA : ∀ q : Nat, s.heap.size ≤ q → A q := fun q h => by rw [← hAe]; exact Or.inr h
  have hS : va_S A s.heap s.heap [] := va_S.rf
  have hP : va_P (dC, dI) clsL [(h0, .inr (6, [.int v_thrown, .ref a_words, .int v_size, .ref a_rules, .int v_entries, .int v_outcome, .int v_pc, .int v_pcLabel, .ref a_registers, .ref a_registerLabels, .ref a_memory, .ref a_memoryLabels, .ref a_waiting, .ref a_waitingLabels, .int v_wait, .ref a_out, .ref a_outLabels, .int v_went, .int v_done, .int v_misses, .ref a_keys, .int v_known, .int v_group, .ref a_labels])), (a_rules, .inl (cI, 36, .inl g_rules))] s.heap := hP
  have hl := lv_entry ([.ref h0, .int x_p0, .int x_p1, .int x_p2, .int x_p3, .int x_p4]) (n := 6) (Nat.le_of_ble_eq_true rfl)
  rw [lg_entry_eq]
  generalize (lg_sl ([.ref h0, .int x_p0, .int x_p1, .int x_p2, .int x_p3, .int x_p4]) ++ List.replicate (6 - (lg_sl ([.ref h0, .int x_p0, .int x_p1, .int x_p2, .int x_p3, .int x_p4])).length) Slot.unset).toArray = ls at hl ⊢
  have hl : lv_has ls 6 [(0, .ref h0), (1, .int x_p0), (2, .int x_p1), (3, .int x_p2), (4, .int x_p3), (5, .int x_p4)] := hl
  refine lv_aload_n hx hb d_Mo_rule_0 rfl (lv_at hl 0 rfl) ?_
  have hcut_46 : W p l e (headSpec w_Mo_rule ({ frames := 1, cells := 0, slots := 0, locals := 20 })).room s m ([.ref h0, .int x_p0, .int x_p1, .int x_p2, .int x_p3, .int x_p4] : List Value).toArray below meth c s.heap [] 0 0 (MQ below (va_Qv (fun _ : Unit => True) (fun _ t => atW dC dI cI [(h0, .inr (6, [.int (cu_Mo_rule_46 x_p0 x_p1 x_p2 x_p3 x_p4), .ref a_words, .int v_size, .ref a_rules, .int v_entries, .int v_outcome, .int v_pc, .int v_pcLabel, .ref a_registers, .ref a_registerLabels, .ref a_memory, .ref a_memoryLabels, .ref a_waiting, .ref a_waitingLabels, .int v_wait, .ref a_out, .ref a_outLabels, .int v_went, .int v_done, .int v_misses, .ref a_keys, .int ((f_Mo_rule v_known g_rules x_p0 x_p1 x_p2 x_p3 x_p4).1), .int v_group, .ref a_labels])), (a_rules, .inl (cI, 36, .inl ((f_Mo_rule v_known g_rules x_p0 x_p1 x_p2 x_p3 x_p4).2)))] A t) A) ([.ref h0, .int x_p0, .int x_p1, .int x_p2, .int x_p3, .int x_p4] : List Value).toArray s 0 0 A) (F0 m 46 ls [.int (cu_Mo_rule_46 x_p0 x_p1 x_p2 x_p3 x_p4), .ref h0]) := by
    refine va_put (D := (dC, dI)) (ci := 6) (v := .int (cu_Mo_rule_46 x_p0 x_p1 x_p2 x_p3 x_p4)) (ty := .int) (C := "LabelledCoreModel") (T := T_Mo) (N := 24) hx hb hts in_Mo t_Mo ty_Mo nm_Mo hown hK hP hD hS 0 rfl rfl 0 (by decide) (hts _ wm_956) (fun _ h9 => h9) rfl (by decide +kernel) rfl rfl (Nat.le_of_ble_eq_true rfl) d_Mo_rule_46 (fun H locs hP hD hS => ?_)
    have hP : va_P (dC, dI) clsL [(h0, .inr (6, [.int (cu_Mo_rule_46 x_p0 x_p1 x_p2 x_p3 x_p4), .ref a_words, .int v_size, .ref a_rules, .int v_entries, .int v_outcome, .int v_pc, .int v_pcLabel, .ref a_registers, .ref a_registerLabels, .ref a_memory, .ref a_memoryLabels, .ref a_waiting, .ref a_waitingLabels, .int v_wait, .ref a_out, .ref a_outLabels, .int v_went, .int v_done, .int v_misses, .ref a_keys, .int v_known, .int v_group, .ref a_labels])), (a_rules, .inl (cI, 36, .inl g_rules))] H := hP
    have hD : va_D A [(h0, .inr (6, [.int (cu_Mo_rule_46 x_p0 x_p1 x_p2 x_p3 x_p4), .ref a_words, .int v_size, .ref a_rules, .int v_entries, .int v_outcome, .int v_pc, .int v_pcLabel, .ref a_registers, .ref a_registerLabels, .ref a_memory, .ref a_memoryLabels, .ref a_waiting, .ref a_waitingLabels, .int v_wait, .ref a_out, .ref a_outLabels, .int v_went, .int v_done, .int v_misses, .ref a_keys, .int v_known, .int v_group, .ref a_labels])), (a_rules, .inl (cI, 36, .inl g_rules))] := hD
    refine lv_aload_n hx hb d_Mo_rule_49 rfl (lv_at hl 0 rfl) ?_
    refine va_get (D := (dC, dI)) (ci := 6) (v := .int (cu_Mo_rule_46 x_p0 x_p1 x_p2 x_p3 x_p4)) (C := "LabelledCoreModel") (T := T_Mo) (N := 24) hx hb hts in_Mo hown hK hP 0 rfl rfl 0 (by decide) (hts _ wm_956) (fun _ h9 => h9) rfl d_Mo_rule_50 ?_
    refine lv_if_le (tgt := 57) hx hb d_Mo_rule_53 (by decide) (fun c_1 => ?_) (fun c_1 => ?_)
    · refine lv_aload_n hx hb d_Mo_rule_57 rfl (lv_at hl 0 rfl) ?_
      refine va_get (D := (dC, dI)) (ci := 6) (v := .ref a_rules) (C := "LabelledCoreModel") (T := T_Mo) (N := 24) hx hb hts in_Mo hown hK hP 0 rfl rfl 3 (by decide) (hts _ wm_959) (fun _ h9 => h9) rfl d_Mo_rule_58 ?_
      refine lv_iconst (v := 4) hx hb d_Mo_rule_61 (by decide) ?_
      refine lv_iload_n hx hb d_Mo_rule_62 rfl (lv_at hl 1 rfl) ?_
      refine lv_imul hx hb d_Mo_rule_63 ?_
      refine lv_iload_n hx hb d_Mo_rule_64 rfl (lv_at hl 2 rfl) ?_
      refine va_iast hx hb hK hP hD hS 1 0 rfl rfl (hs_65_0 c_1) d_Mo_rule_65 (fun H locs hP hD hS => ?_)
      have hP : va_P (dC, dI) clsL [(h0, .inr (6, [.int (cu_Mo_rule_46 x_p0 x_p1 x_p2 x_p3 x_p4), .ref a_words, .int v_size, .ref a_rules, .int v_entries, .int v_outcome, .int v_pc, .int v_pcLabel, .ref a_registers, .ref a_registerLabels, .ref a_memory, .ref a_memoryLabels, .ref a_waiting, .ref a_waitingLabels, .int v_wait, .ref a_out, .ref a_outLabels, .int v_went, .int v_done, .int v_misses, .ref a_keys, .int v_known, .int v_group, .ref a_labels])), (a_rules, .inl (cI, 36, .inl (upd g_rules (Int32.toNatClampNeg (4 * x_p0)) x_p1)))] H := hP
      have hD : va_D A [(h0, .inr (6, [.int (cu_Mo_rule_46 x_p0 x_p1 x_p2 x_p3 x_p4), .ref a_words, .int v_size, .ref a_rules, .int v_entries, .int v_outcome, .int v_pc, .int v_pcLabel, .ref a_registers, .ref a_registerLabels, .ref a_memory, .ref a_memoryLabels, .ref a_waiting, .ref a_waitingLabels, .int v_wait, .ref a_out, .ref a_outLabels, .int v_went, .int v_done, .int v_misses, .ref a_keys, .int v_known, .int v_group, .ref a_labels])), (a_rules, .inl (cI, 36, .inl (upd g_rules (Int32.toNatClampNeg (4 * x_p0)) x_p1)))] := hD
      refine lv_aload_n hx hb d_Mo_rule_66 rfl (lv_at hl 0 rfl) ?_
      refine va_get (D := (dC, dI)) (ci := 6) (v := .ref a_rules) (C := "LabelledCoreModel") (T := T_Mo) (N := 24) hx hb hts in_Mo hown hK hP 0 rfl rfl 3 (by decide) (hts _ wm_959) (fun _ h9 => h9) rfl d_Mo_rule_67 ?_
      refine lv_iconst (v := 4) hx hb d_Mo_rule_70 (by decide) ?_
      refine lv_iload_n hx hb d_Mo_rule_71 rfl (lv_at hl 1 rfl) ?_
      refine lv_imul hx hb d_Mo_rule_72 ?_
      refine lv_iconst (v := 1) hx hb d_Mo_rule_73 (by decide) ?_
      refine lv_iadd hx hb d_Mo_rule_74 ?_
      refine lv_iload_n hx hb d_Mo_rule_75 rfl (lv_at hl 3 rfl) ?_
      refine va_iast hx hb hK hP hD hS 1 0 rfl rfl (hs_76_1 c_1) d_Mo_rule_76 (fun H locs hP hD hS => ?_)
      have hP : va_P (dC, dI) clsL [(h0, .inr (6, [.int (cu_Mo_rule_46 x_p0 x_p1 x_p2 x_p3 x_p4), .ref a_words, .int v_size, .ref a_rules, .int v_entries, .int v_outcome, .int v_pc, .int v_pcLabel, .ref a_registers, .ref a_registerLabels, .ref a_memory, .ref a_memoryLabels, .ref a_waiting, .ref a_waitingLabels, .int v_wait, .ref a_out, .ref a_outLabels, .int v_went, .int v_done, .int v_misses, .ref a_keys, .int v_known, .int v_group, .ref a_labels])), (a_rules, .inl (cI, 36, .inl (upd (upd g_rules (Int32.toNatClampNeg (4 * x_p0)) x_p1) (Int32.toNatClampNeg ((4 * x_p0) + 1)) x_p2)))] H := hP
      have hD : va_D A [(h0, .inr (6, [.int (cu_Mo_rule_46 x_p0 x_p1 x_p2 x_p3 x_p4), .ref a_words, .int v_size, .ref a_rules, .int v_entries, .int v_outcome, .int v_pc, .int v_pcLabel, .ref a_registers, .ref a_registerLabels, .ref a_memory, .ref a_memoryLabels, .ref a_waiting, .ref a_waitingLabels, .int v_wait, .ref a_out, .ref a_outLabels, .int v_went, .int v_done, .int v_misses, .ref a_keys, .int v_known, .int v_group, .ref a_labels])), (a_rules, .inl (cI, 36, .inl (upd (upd g_rules (Int32.toNatClampNeg (4 * x_p0)) x_p1) (Int32.toNatClampNeg ((4 * x_p0) + 1)) x_p2)))] := hD
      refine lv_aload_n hx hb d_Mo_rule_77 rfl (lv_at hl 0 rfl) ?_
      refine va_get (D := (dC, dI)) (ci := 6) (v := .ref a_rules) (C := "LabelledCoreModel") (T := T_Mo) (N := 24) hx hb hts in_Mo hown hK hP 0 rfl rfl 3 (by decide) (hts _ wm_959) (fun _ h9 => h9) rfl d_Mo_rule_78 ?_
      refine lv_iconst (v := 4) hx hb d_Mo_rule_81 (by decide) ?_
      refine lv_iload_n hx hb d_Mo_rule_82 rfl (lv_at hl 1 rfl) ?_
      refine lv_imul hx hb d_Mo_rule_83 ?_
      refine lv_iconst (v := 2) hx hb d_Mo_rule_84 (by decide) ?_
      refine lv_iadd hx hb d_Mo_rule_85 ?_
      refine lv_iload hx hb d_Mo_rule_86 (lv_at hl 4 rfl) ?_
      refine va_iast hx hb hK hP hD hS 1 0 rfl rfl (hs_88_2 c_1) d_Mo_rule_88 (fun H locs hP hD hS => ?_)
      have hP : va_P (dC, dI) clsL [(h0, .inr (6, [.int (cu_Mo_rule_46 x_p0 x_p1 x_p2 x_p3 x_p4), .ref a_words, .int v_size, .ref a_rules, .int v_entries, .int v_outcome, .int v_pc, .int v_pcLabel, .ref a_registers, .ref a_registerLabels, .ref a_memory, .ref a_memoryLabels, .ref a_waiting, .ref a_waitingLabels, .int v_wait, .ref a_out, .ref a_outLabels, .int v_went, .int v_done, .int v_misses, .ref a_keys, .int v_known, .int v_group, .ref a_labels])), (a_rules, .inl (cI, 36, .inl (upd (upd (upd g_rules (Int32.toNatClampNeg (4 * x_p0)) x_p1) (Int32.toNatClampNeg ((4 * x_p0) + 1)) x_p2) (Int32.toNatClampNeg ((4 * x_p0) + 2)) x_p3)))] H := hP
      have hD : va_D A [(h0, .inr (6, [.int (cu_Mo_rule_46 x_p0 x_p1 x_p2 x_p3 x_p4), .ref a_words, .int v_size, .ref a_rules, .int v_entries, .int v_outcome, .int v_pc, .int v_pcLabel, .ref a_registers, .ref a_registerLabels, .ref a_memory, .ref a_memoryLabels, .ref a_waiting, .ref a_waitingLabels, .int v_wait, .ref a_out, .ref a_outLabels, .int v_went, .int v_done, .int v_misses, .ref a_keys, .int v_known, .int v_group, .ref a_labels])), (a_rules, .inl (cI, 36, .inl (upd (upd (upd g_rules (Int32.toNatClampNeg (4 * x_p0)) x_p1) (Int32.toNatClampNeg ((4 * x_p0) + 1)) x_p2) (Int32.toNatClampNeg ((4 * x_p0) + 2)) x_p3)))] := hD
      refine lv_aload_n hx hb d_Mo_rule_89 rfl (lv_at hl 0 rfl) ?_
      refine va_get (D := (dC, dI)) (ci := 6) (v := .ref a_rules) (C := "LabelledCoreModel") (T := T_Mo) (N := 24) hx hb hts in_Mo hown hK hP 0 rfl rfl 3 (by decide) (hts _ wm_959) (fun _ h9 => h9) rfl d_Mo_rule_90 ?_
      refine lv_iconst (v := 4) hx hb d_Mo_rule_93 (by decide) ?_
      refine lv_iload_n hx hb d_Mo_rule_94 rfl (lv_at hl 1 rfl) ?_
      refine lv_imul hx hb d_Mo_rule_95 ?_
      refine lv_iconst (v := 3) hx hb d_Mo_rule_96 (by decide) ?_
      refine lv_iadd hx hb d_Mo_rule_97 ?_
      refine lv_iload hx hb d_Mo_rule_98 (lv_at hl 5 rfl) ?_
      refine va_iast hx hb hK hP hD hS 1 0 rfl rfl (hs_100_3 c_1) d_Mo_rule_100 (fun H locs hP hD hS => ?_)
      have hP : va_P (dC, dI) clsL [(h0, .inr (6, [.int (cu_Mo_rule_46 x_p0 x_p1 x_p2 x_p3 x_p4), .ref a_words, .int v_size, .ref a_rules, .int v_entries, .int v_outcome, .int v_pc, .int v_pcLabel, .ref a_registers, .ref a_registerLabels, .ref a_memory, .ref a_memoryLabels, .ref a_waiting, .ref a_waitingLabels, .int v_wait, .ref a_out, .ref a_outLabels, .int v_went, .int v_done, .int v_misses, .ref a_keys, .int v_known, .int v_group, .ref a_labels])), (a_rules, .inl (cI, 36, .inl (upd (upd (upd (upd g_rules (Int32.toNatClampNeg (4 * x_p0)) x_p1) (Int32.toNatClampNeg ((4 * x_p0) + 1)) x_p2) (Int32.toNatClampNeg ((4 * x_p0) + 2)) x_p3) (Int32.toNatClampNeg ((4 * x_p0) + 3)) x_p4)))] H := hP
      have hD : va_D A [(h0, .inr (6, [.int (cu_Mo_rule_46 x_p0 x_p1 x_p2 x_p3 x_p4), .ref a_words, .int v_size, .ref a_rules, .int v_entries, .int v_outcome, .int v_pc, .int v_pcLabel, .ref a_registers, .ref a_registerLabels, .ref a_memory, .ref a_memoryLabels, .ref a_waiting, .ref a_waitingLabels, .int v_wait, .ref a_out, .ref a_outLabels, .int v_went, .int v_done, .int v_misses, .ref a_keys, .int v_known, .int v_group, .ref a_labels])), (a_rules, .inl (cI, 36, .inl (upd (upd (upd (upd g_rules (Int32.toNatClampNeg (4 * x_p0)) x_p1) (Int32.toNatClampNeg ((4 * x_p0) + 1)) x_p2) (Int32.toNatClampNeg ((4 * x_p0) + 2)) x_p3) (Int32.toNatClampNeg ((4 * x_p0) + 3)) x_p4)))] := hD
      refine lv_aload_n hx hb d_Mo_rule_101 rfl (lv_at hl 0 rfl) ?_
      refine lv_iconst (v := 0) hx hb d_Mo_rule_102 (by decide) ?_
      refine va_put (D := (dC, dI)) (ci := 6) (v := .int 0) (ty := .int) (C := "LabelledCoreModel") (T := T_Mo) (N := 24) hx hb hts in_Mo t_Mo ty_Mo nm_Mo hown hK hP hD hS 0 rfl rfl 21 (by decide) (hts _ wm_977) (fun _ h9 => h9) rfl (by decide +kernel) rfl rfl (Nat.le_of_ble_eq_true rfl) d_Mo_rule_103 (fun H locs hP hD hS => ?_)
      have hP : va_P (dC, dI) clsL [(h0, .inr (6, [.int (cu_Mo_rule_46 x_p0 x_p1 x_p2 x_p3 x_p4), .ref a_words, .int v_size, .ref a_rules, .int v_entries, .int v_outcome, .int v_pc, .int v_pcLabel, .ref a_registers, .ref a_registerLabels, .ref a_memory, .ref a_memoryLabels, .ref a_waiting, .ref a_waitingLabels, .int v_wait, .ref a_out, .ref a_outLabels, .int v_went, .int v_done, .int v_misses, .ref a_keys, .int 0, .int v_group, .ref a_labels])), (a_rules, .inl (cI, 36, .inl (upd (upd (upd (upd g_rules (Int32.toNatClampNeg (4 * x_p0)) x_p1) (Int32.toNatClampNeg ((4 * x_p0) + 1)) x_p2) (Int32.toNatClampNeg ((4 * x_p0) + 2)) x_p3) (Int32.toNatClampNeg ((4 * x_p0) + 3)) x_p4)))] H := hP
      have hD : va_D A [(h0, .inr (6, [.int (cu_Mo_rule_46 x_p0 x_p1 x_p2 x_p3 x_p4), .ref a_words, .int v_size, .ref a_rules, .int v_entries, .int v_outcome, .int v_pc, .int v_pcLabel, .ref a_registers, .ref a_registerLabels, .ref a_memory, .ref a_memoryLabels, .ref a_waiting, .ref a_waitingLabels, .int v_wait, .ref a_out, .ref a_outLabels, .int v_went, .int v_done, .int v_misses, .ref a_keys, .int 0, .int v_group, .ref a_labels])), (a_rules, .inl (cI, 36, .inl (upd (upd (upd (upd g_rules (Int32.toNatClampNeg (4 * x_p0)) x_p1) (Int32.toNatClampNeg ((4 * x_p0) + 1)) x_p2) (Int32.toNatClampNeg ((4 * x_p0) + 2)) x_p3) (Int32.toNatClampNeg ((4 * x_p0) + 3)) x_p4)))] := hD
      have ef : (f_Mo_rule v_known g_rules x_p0 x_p1 x_p2 x_p3 x_p4) = ((0, (upd (upd (upd (upd g_rules (Int32.toNatClampNeg (4 * x_p0)) x_p1) (Int32.toNatClampNeg ((4 * x_p0) + 1)) x_p2) (Int32.toNatClampNeg ((4 * x_p0) + 2)) x_p3) (Int32.toNatClampNeg ((4 * x_p0) + 3)) x_p4)) : Int32 × (Nat → Int32)) := (if_pos c_1).trans rfl
      have hP9 := hP.sub (ws' := [(h0, .inr (6, [.int (cu_Mo_rule_46 x_p0 x_p1 x_p2 x_p3 x_p4), .ref a_words, .int v_size, .ref a_rules, .int v_entries, .int v_outcome, .int v_pc, .int v_pcLabel, .ref a_registers, .ref a_registerLabels, .ref a_memory, .ref a_memoryLabels, .ref a_waiting, .ref a_waitingLabels, .int v_wait, .ref a_out, .ref a_outLabels, .int v_went, .int v_done, .int v_misses, .ref a_keys, .int 0, .int v_group, .ref a_labels])), (a_rules, .inl (cI, 36, .inl (upd (upd (upd (upd g_rules (Int32.toNatClampNeg (4 * x_p0)) x_p1) (Int32.toNatClampNeg ((4 * x_p0) + 1)) x_p2) (Int32.toNatClampNeg ((4 * x_p0) + 2)) x_p3) (Int32.toNatClampNeg ((4 * x_p0) + 3)) x_p4)))]) [0, 1] rfl
      have hD9 := hD.sub (ws' := [(h0, .inr (6, [.int (cu_Mo_rule_46 x_p0 x_p1 x_p2 x_p3 x_p4), .ref a_words, .int v_size, .ref a_rules, .int v_entries, .int v_outcome, .int v_pc, .int v_pcLabel, .ref a_registers, .ref a_registerLabels, .ref a_memory, .ref a_memoryLabels, .ref a_waiting, .ref a_waitingLabels, .int v_wait, .ref a_out, .ref a_outLabels, .int v_went, .int v_done, .int v_misses, .ref a_keys, .int 0, .int v_group, .ref a_labels])), (a_rules, .inl (cI, 36, .inl (upd (upd (upd (upd g_rules (Int32.toNatClampNeg (4 * x_p0)) x_p1) (Int32.toNatClampNeg ((4 * x_p0) + 1)) x_p2) (Int32.toNatClampNeg ((4 * x_p0) + 2)) x_p3) (Int32.toNatClampNeg ((4 * x_p0) + 3)) x_p4)))]) [0, 1] (by decide) rfl
      exact W.vret hx hb hr (fun t ht hW => ⟨⟨(), rfl, trivial, by rw [ef, ht]; exact hP9, va_K.moved hW.alike hK, by rw [ef]; exact hD9⟩, hS.F ht⟩) hS.2.2 d_Mo_rule_106
    · have ef : (f_Mo_rule v_known g_rules x_p0 x_p1 x_p2 x_p3 x_p4) = ((v_known, g_rules) : Int32 × (Nat → Int32)) := (if_neg c_1).trans rfl
      have hP9 := hP.sub (ws' := [(h0, .inr (6, [.int (cu_Mo_rule_46 x_p0 x_p1 x_p2 x_p3 x_p4), .ref a_words, .int v_size, .ref a_rules, .int v_entries, .int v_outcome, .int v_pc, .int v_pcLabel, .ref a_registers, .ref a_registerLabels, .ref a_memory, .ref a_memoryLabels, .ref a_waiting, .ref a_waitingLabels, .int v_wait, .ref a_out, .ref a_outLabels, .int v_went, .int v_done, .int v_misses, .ref a_keys, .int v_known, .int v_group, .ref a_labels])), (a_rules, .inl (cI, 36, .inl g_rules))]) [0, 1] rfl
      have hD9 := hD.sub (ws' := [(h0, .inr (6, [.int (cu_Mo_rule_46 x_p0 x_p1 x_p2 x_p3 x_p4), .ref a_words, .int v_size, .ref a_rules, .int v_entries, .int v_outcome, .int v_pc, .int v_pcLabel, .ref a_registers, .ref a_registerLabels, .ref a_memory, .ref a_memoryLabels, .ref a_waiting, .ref a_waitingLabels, .int v_wait, .ref a_out, .ref a_outLabels, .int v_went, .int v_done, .int v_misses, .ref a_keys, .int v_known, .int v_group, .ref a_labels])), (a_rules, .inl (cI, 36, .inl g_rules))]) [0, 1] (by decide) rfl
      exact W.vret hx hb hr (fun t ht hW => ⟨⟨(), rfl, trivial, by rw [ef, ht]; exact hP9, va_K.moved hW.alike hK, by rw [ef]; exact hD9⟩, hS.F ht⟩) hS.2.2 d_Mo_rule_56
  refine lv_iload_n hx hb d_Mo_rule_1 rfl (lv_at hl 1 rfl) ?_
  refine lv_if_lt (tgt := 41) hx hb d_Mo_rule_2 (by decide) (fun c_2 => ?_) (fun c_2 => ?_)
  · refine lv_iconst (v := 1) hx hb d_Mo_rule_41 (by decide) ?_
    refine lv_goto (tgt := 46) hx hb d_Mo_rule_42 (by decide) ?_
    refine lv_toE (y := (cu_Mo_rule_46 x_p0 x_p1 x_p2 x_p3 x_p4)) (show (cu_Mo_rule_46 x_p0 x_p1 x_p2 x_p3 x_p4) = 1 from ((if_pos c_2).trans rfl)).symm ?_
    exact hcut_46
  · refine lv_iload_n hx hb d_Mo_rule_5 rfl (lv_at hl 1 rfl) ?_
    refine lv_bipush (v := 8) hx hb d_Mo_rule_6 (by decide) ?_
    refine lv_icmp_gt (tgt := 41) hx hb d_Mo_rule_8 (by decide) (fun c_3 => ?_) (fun c_3 => ?_)
    · refine lv_iconst (v := 1) hx hb d_Mo_rule_41 (by decide) ?_
      refine lv_goto (tgt := 46) hx hb d_Mo_rule_42 (by decide) ?_
      refine lv_toE (y := (cu_Mo_rule_46 x_p0 x_p1 x_p2 x_p3 x_p4)) (show (cu_Mo_rule_46 x_p0 x_p1 x_p2 x_p3 x_p4) = 1 from ((if_neg c_2).trans ((if_pos c_3).trans rfl))).symm ?_
      exact hcut_46
    · refine lv_iload_n hx hb d_Mo_rule_11 rfl (lv_at hl 2 rfl) ?_
      have hPc := hP.sub (ws' := []) [] rfl
      refine W.callR ((W.runS (As := [.int x_p1]) (rest := [.ref h0]) ⟨hx, hb, hml, hown, hts⟩ (ct_Mo_noMask l dC dI cI x_p1) (va_cwS 1 hts (gS wm_1050 wm_1051 wm_42 wm_1052) rfl rfl rfl (by decide +kernel) ⟨Nat.le_of_ble_eq_true rfl, Nat.le_of_ble_eq_true rfl⟩) ⟨pcR_blind, pcR_pre hPc hK⟩ rfl rfl hl.1 rfl (lv_room (Nat.le_of_ble_eq_true rfl)) d_Mo_rule_12 ⟨Nat.le_of_ble_eq_true rfl, Nat.le_of_ble_eq_true rfl⟩)) ?_
      refine W.eq (g2 := F0 m 15 ls [.int (f_Mo_noMask x_p1), .ref h0]) rfl ?_
      refine lv_if_ne (tgt := 41) hx hb d_Mo_rule_15 (by decide) (fun c_4 => ?_) (fun c_4 => ?_)
      · refine lv_iconst (v := 1) hx hb d_Mo_rule_41 (by decide) ?_
        refine lv_goto (tgt := 46) hx hb d_Mo_rule_42 (by decide) ?_
        refine lv_toE (y := (cu_Mo_rule_46 x_p0 x_p1 x_p2 x_p3 x_p4)) (show (cu_Mo_rule_46 x_p0 x_p1 x_p2 x_p3 x_p4) = 1 from ((if_neg c_2).trans ((if_neg c_3).trans ((if_neg c_4).trans rfl)))).symm ?_
        exact hcut_46
      · refine lv_iload_n hx hb d_Mo_rule_18 rfl (lv_at hl 3 rfl) ?_
        have hPc := hP.sub (ws' := []) [] rfl
        refine W.callR ((W.runS (As := [.int x_p2]) (rest := [.ref h0]) ⟨hx, hb, hml, hown, hts⟩ (ct_Mo_noMask l dC dI cI x_p2) (va_cwS 1 hts (gS wm_1050 wm_1051 wm_42 wm_1052) rfl rfl rfl (by decide +kernel) ⟨Nat.le_of_ble_eq_true rfl, Nat.le_of_ble_eq_true rfl⟩) ⟨pcR_blind, pcR_pre hPc hK⟩ rfl rfl hl.1 rfl (lv_room (Nat.le_of_ble_eq_true rfl)) d_Mo_rule_19 ⟨Nat.le_of_ble_eq_true rfl, Nat.le_of_ble_eq_true rfl⟩)) ?_
        refine W.eq (g2 := F0 m 22 ls [.int (f_Mo_noMask x_p2), .ref h0]) rfl ?_
        refine lv_if_ne (tgt := 41) hx hb d_Mo_rule_22 (by decide) (fun c_5 => ?_) (fun c_5 => ?_)
        · refine lv_iconst (v := 1) hx hb d_Mo_rule_41 (by decide) ?_
          refine lv_goto (tgt := 46) hx hb d_Mo_rule_42 (by decide) ?_
          refine lv_toE (y := (cu_Mo_rule_46 x_p0 x_p1 x_p2 x_p3 x_p4)) (show (cu_Mo_rule_46 x_p0 x_p1 x_p2 x_p3 x_p4) = 1 from ((if_neg c_2).trans ((if_neg c_3).trans ((if_pos c_4).trans ((if_neg c_5).trans rfl))))).symm ?_
          exact hcut_46
        · refine lv_iload hx hb d_Mo_rule_25 (lv_at hl 4 rfl) ?_
          have hPc := hP.sub (ws' := []) [] rfl
          refine W.callR ((W.runS (As := [.int x_p3]) (rest := [.ref h0]) ⟨hx, hb, hml, hown, hts⟩ (ct_Mo_noMask l dC dI cI x_p3) (va_cwS 1 hts (gS wm_1050 wm_1051 wm_42 wm_1052) rfl rfl rfl (by decide +kernel) ⟨Nat.le_of_ble_eq_true rfl, Nat.le_of_ble_eq_true rfl⟩) ⟨pcR_blind, pcR_pre hPc hK⟩ rfl rfl hl.1 rfl (lv_room (Nat.le_of_ble_eq_true rfl)) d_Mo_rule_27 ⟨Nat.le_of_ble_eq_true rfl, Nat.le_of_ble_eq_true rfl⟩)) ?_
          refine W.eq (g2 := F0 m 30 ls [.int (f_Mo_noMask x_p3), .ref h0]) rfl ?_
          refine lv_if_ne (tgt := 41) hx hb d_Mo_rule_30 (by decide) (fun c_6 => ?_) (fun c_6 => ?_)
          · refine lv_iconst (v := 1) hx hb d_Mo_rule_41 (by decide) ?_
            refine lv_goto (tgt := 46) hx hb d_Mo_rule_42 (by decide) ?_
            refine lv_toE (y := (cu_Mo_rule_46 x_p0 x_p1 x_p2 x_p3 x_p4)) (show (cu_Mo_rule_46 x_p0 x_p1 x_p2 x_p3 x_p4) = 1 from ((if_neg c_2).trans ((if_neg c_3).trans ((if_pos c_4).trans ((if_pos c_5).trans ((if_neg c_6).trans rfl)))))).symm ?_
            exact hcut_46
          · refine lv_iload hx hb d_Mo_rule_33 (lv_at hl 5 rfl) ?_
            have hPc := hP.sub (ws' := []) [] rfl
            refine W.callR ((W.runS (As := [.int x_p4]) (rest := [.ref h0]) ⟨hx, hb, hml, hown, hts⟩ (ct_Mo_noMask l dC dI cI x_p4) (va_cwS 1 hts (gS wm_1050 wm_1051 wm_42 wm_1052) rfl rfl rfl (by decide +kernel) ⟨Nat.le_of_ble_eq_true rfl, Nat.le_of_ble_eq_true rfl⟩) ⟨pcR_blind, pcR_pre hPc hK⟩ rfl rfl hl.1 rfl (lv_room (Nat.le_of_ble_eq_true rfl)) d_Mo_rule_35 ⟨Nat.le_of_ble_eq_true rfl, Nat.le_of_ble_eq_true rfl⟩)) ?_
            refine W.eq (g2 := F0 m 38 ls [.int (f_Mo_noMask x_p4), .ref h0]) rfl ?_
            refine lv_if_eq (tgt := 45) hx hb d_Mo_rule_38 (by decide) (fun c_7 => ?_) (fun c_7 => ?_)
            · refine lv_iconst (v := 0) hx hb d_Mo_rule_45 (by decide) ?_
              refine lv_toE (y := (cu_Mo_rule_46 x_p0 x_p1 x_p2 x_p3 x_p4)) (show (cu_Mo_rule_46 x_p0 x_p1 x_p2 x_p3 x_p4) = 0 from ((if_neg c_2).trans ((if_neg c_3).trans ((if_pos c_4).trans ((if_pos c_5).trans ((if_pos c_6).trans ((if_pos c_7).trans rfl))))))).symm ?_
              exact hcut_46
            · refine lv_iconst (v := 1) hx hb d_Mo_rule_41 (by decide) ?_
              refine lv_goto (tgt := 46) hx hb d_Mo_rule_42 (by decide) ?_
              refine lv_toE (y := (cu_Mo_rule_46 x_p0 x_p1 x_p2 x_p3 x_p4)) (show (cu_Mo_rule_46 x_p0 x_p1 x_p2 x_p3 x_p4) = 1 from ((if_neg c_2).trans ((if_neg c_3).trans ((if_pos c_4).trans ((if_pos c_5).trans ((if_pos c_6).trans ((if_neg c_7).trans rfl))))))).symm ?_
              exact hcut_46
def f_Mo_cache (v_entries : Int32) (v_known : Int32) (x_p0 : Int32) : Int32 × Int32 × Int32 × Int32 :=
  if x_p0 < 1 then
    (0, 1, v_entries, v_known)
  else
    if x_p0 ≤ 64 then
      (v_entries, 0, x_p0, 0)
    else
      (0, 1, v_entries, v_known)
set_option maxHeartbeats 4000000 in
set_option maxRecDepth 100000 in
theorem ct_Mo_cache (l : Launch) (dC : Nat → ClassId) (dI : Nat → Nat → Nat) (cI : ClassId) (sz : Nat) (h0 a_words a_rules a_registers a_registerLabels a_memory a_memoryLabels a_waiting a_waitingLabels a_out a_outLabels a_keys a_labels : Nat) (v_thrown : Int32) (v_size : Int32) (v_entries : Int32) (v_outcome : Int32) (v_pc : Int32) (v_pcLabel : Int32) (v_wait : Int32) (v_went : Int32) (v_done : Int32) (v_misses : Int32) (v_known : Int32) (v_group : Int32) (x_p0 : Int32) : Met l y_Mo_cache w_Mo_cache ({ frames := 0, cells := 0, slots := 0, locals := 0 }) (pcW dC dI cI [(h0, .inr (6, [.int v_thrown, .ref a_words, .int v_size, .ref a_rules, .int v_entries, .int v_outcome, .int v_pc, .int v_pcLabel, .ref a_registers, .ref a_registerLabels, .ref a_memory, .ref a_memoryLabels, .ref a_waiting, .ref a_waitingLabels, .int v_wait, .ref a_out, .ref a_outLabels, .int v_went, .int v_done, .int v_misses, .ref a_keys, .int v_known, .int v_group, .ref a_labels]))] sz [.ref h0, .int x_p0]) (va_Qi (fun (r : Int32) (_ : Unit) => r = (f_Mo_cache v_entries v_known x_p0).1) (fun _ t => atW dC dI cI [(h0, .inr (6, [.int ((f_Mo_cache v_entries v_known x_p0).2.1), .ref a_words, .int v_size, .ref a_rules, .int ((f_Mo_cache v_entries v_known x_p0).2.2.1), .int v_outcome, .int v_pc, .int v_pcLabel, .ref a_registers, .ref a_registerLabels, .ref a_memory, .ref a_memoryLabels, .ref a_waiting, .ref a_waitingLabels, .int v_wait, .ref a_out, .ref a_outLabels, .int v_went, .int v_done, .int v_misses, .ref a_keys, .int ((f_Mo_cache v_entries v_known x_p0).2.2.2), .int v_group, .ref a_labels]))] (va_A [(h0, .inr (6, [.int v_thrown, .ref a_words, .int v_size, .ref a_rules, .int v_entries, .int v_outcome, .int v_pc, .int v_pcLabel, .ref a_registers, .ref a_registerLabels, .ref a_memory, .ref a_memoryLabels, .ref a_waiting, .ref a_waitingLabels, .int v_wait, .ref a_out, .ref a_outLabels, .int v_went, .int v_done, .int v_misses, .ref a_keys, .int v_known, .int v_group, .ref a_labels]))] sz) t) (va_A [(h0, .inr (6, [.int v_thrown, .ref a_words, .int v_size, .ref a_rules, .int v_entries, .int v_outcome, .int v_pc, .int v_pcLabel, .ref a_registers, .ref a_registerLabels, .ref a_memory, .ref a_memoryLabels, .ref a_waiting, .ref a_waitingLabels, .int v_wait, .ref a_out, .ref a_outLabels, .int v_went, .int v_done, .int v_misses, .ref a_keys, .int v_known, .int v_group, .ref a_labels]))] sz)) 0 0 (va_A [(h0, .inr (6, [.int v_thrown, .ref a_words, .int v_size, .ref a_rules, .int v_entries, .int v_outcome, .int v_pc, .int v_pcLabel, .ref a_registers, .ref a_registerLabels, .ref a_memory, .ref a_memoryLabels, .ref a_waiting, .ref a_waitingLabels, .int v_wait, .ref a_out, .ref a_outLabels, .int v_went, .int v_done, .int v_misses, .ref a_keys, .int v_known, .int v_group, .ref a_labels]))] sz) := by
  refine Met.ofW (cc := c_Mo_cache) (maxL := 3) (ret := (some .int)) (by decide) rfl ?_
  intro p e s m args below meth c s₁ B hml hv
  obtain ⟨rfl, hsz, hP, hK, hD0⟩ := hv
  have hx := B.exec
  have hb := B.bytes
  have hr := B.returns
  have hts : ∀ w ∈ wG, w.before _ s = true := fun w h => atoms_spec (ws := w_Mo_cache) B.pre w (List.mem_cons_of_mem _ h)
  have hown : s.vm.findClass "LabelledCoreModel" = some m.cls := findClass_of_methodNamed B.named
  have hlocks := B.notSynchronized
  subst hsz
  have hD := hD0.self (sz := s.heap.size)
  generalize hAe : va_A [(h0, .inr (6, [.int v_thrown, .ref a_words, .int v_size, .ref a_rules, .int v_entries, .int v_outcome, .int v_pc, .int v_pcLabel, .ref a_registers, .ref a_registerLabels, .ref a_memory, .ref a_memoryLabels, .ref a_waiting, .ref a_waitingLabels, .int v_wait, .ref a_out, .ref a_outLabels, .int v_went, .int v_done, .int v_misses, .ref a_keys, .int v_known, .int v_group, .ref a_labels]))] s.heap.size = A at hD ⊢
  have hA : ∀ q : Nat, s.heap.size ≤ q → A q := fun q h => by rw [← hAe]; exact Or.inr h
  have hS : va_S A s.heap s.heap [] := va_S.rf
  have hP : va_P (dC, dI) clsL [(h0, .inr (6, [.int v_thrown, .ref a_words, .int v_size, .ref a_rules, .int v_entries, .int v_outcome, .int v_pc, .int v_pcLabel, .ref a_registers, .ref a_registerLabels, .ref a_memory, .ref a_memoryLabels, .ref a_waiting, .ref a_waitingLabels, .int v_wait, .ref a_out, .ref a_outLabels, .int v_went, .int v_done, .int v_misses, .ref a_keys, .int v_known, .int v_group, .ref a_labels]))] s.heap := hP
  have hl := lv_entry ([.ref h0, .int x_p0]) (n := 3) (Nat.le_of_ble_eq_true rfl)
  rw [lg_entry_eq]
  generalize (lg_sl ([.ref h0, .int x_p0]) ++ List.replicate (3 - (lg_sl ([.ref h0, .int x_p0])).length) Slot.unset).toArray = ls at hl ⊢
  have hl : lv_has ls 3 [(0, .ref h0), (1, .int x_p0)] := hl
  refine lv_aload_n hx hb d_Mo_cache_0 rfl (lv_at hl 0 rfl) ?_
  refine lv_iload_n hx hb d_Mo_cache_1 rfl (lv_at hl 1 rfl) ?_
  refine lv_iconst (v := 1) hx hb d_Mo_cache_2 (by decide) ?_
  refine lv_icmp_lt (tgt := 12) hx hb d_Mo_cache_3 (by decide) (fun c_1 => ?_) (fun c_1 => ?_)
  · refine lv_iconst (v := 1) hx hb d_Mo_cache_12 (by decide) ?_
    refine lv_goto (tgt := 17) hx hb d_Mo_cache_13 (by decide) ?_
    refine va_put (D := (dC, dI)) (ci := 6) (v := .int 1) (ty := .int) (C := "LabelledCoreModel") (T := T_Mo) (N := 24) hx hb hts in_Mo t_Mo ty_Mo nm_Mo hown hK hP hD hS 0 rfl rfl 0 (by decide) (hts _ wm_956) (fun _ h9 => h9) rfl (by decide +kernel) rfl rfl (Nat.le_of_ble_eq_true rfl) d_Mo_cache_17 (fun H locs hP hD hS => ?_)
    have hP : va_P (dC, dI) clsL [(h0, .inr (6, [.int 1, .ref a_words, .int v_size, .ref a_rules, .int v_entries, .int v_outcome, .int v_pc, .int v_pcLabel, .ref a_registers, .ref a_registerLabels, .ref a_memory, .ref a_memoryLabels, .ref a_waiting, .ref a_waitingLabels, .int v_wait, .ref a_out, .ref a_outLabels, .int v_went, .int v_done, .int v_misses, .ref a_keys, .int v_known, .int v_group, .ref a_labels]))] H := hP
    have hD : va_D A [(h0, .inr (6, [.int 1, .ref a_words, .int v_size, .ref a_rules, .int v_entries, .int v_outcome, .int v_pc, .int v_pcLabel, .ref a_registers, .ref a_registerLabels, .ref a_memory, .ref a_memoryLabels, .ref a_waiting, .ref a_waitingLabels, .int v_wait, .ref a_out, .ref a_outLabels, .int v_went, .int v_done, .int v_misses, .ref a_keys, .int v_known, .int v_group, .ref a_labels]))] := hD
    refine lv_aload_n hx hb d_Mo_cache_20 rfl (lv_at hl 0 rfl) ?_
    refine va_get (D := (dC, dI)) (ci := 6) (v := .int 1) (C := "LabelledCoreModel") (T := T_Mo) (N := 24) hx hb hts in_Mo hown hK hP 0 rfl rfl 0 (by decide) (hts _ wm_956) (fun _ h9 => h9) rfl d_Mo_cache_21 ?_
    refine lv_if_le (tgt := 29) hx hb d_Mo_cache_24 (by decide) (fun c_2 => absurd c_2 (by decide)) (fun c_2 => ?_)
    refine lv_iconst (v := 0) hx hb d_Mo_cache_27 (by decide) ?_
    have ef : (f_Mo_cache v_entries v_known x_p0) = ((0, 1, v_entries, v_known) : Int32 × Int32 × Int32 × Int32) := (if_pos c_1).trans rfl
    have hP9 := hP.sub (ws' := [(h0, .inr (6, [.int 1, .ref a_words, .int v_size, .ref a_rules, .int v_entries, .int v_outcome, .int v_pc, .int v_pcLabel, .ref a_registers, .ref a_registerLabels, .ref a_memory, .ref a_memoryLabels, .ref a_waiting, .ref a_waitingLabels, .int v_wait, .ref a_out, .ref a_outLabels, .int v_went, .int v_done, .int v_misses, .ref a_keys, .int v_known, .int v_group, .ref a_labels]))]) [0] rfl
    have hD9 := hD.sub (ws' := [(h0, .inr (6, [.int 1, .ref a_words, .int v_size, .ref a_rules, .int v_entries, .int v_outcome, .int v_pc, .int v_pcLabel, .ref a_registers, .ref a_registerLabels, .ref a_memory, .ref a_memoryLabels, .ref a_waiting, .ref a_waitingLabels, .int v_wait, .ref a_out, .ref a_outLabels, .int v_went, .int v_done, .int v_misses, .ref a_keys, .int v_known, .int v_group, .ref a_labels]))]) [0] (by decide) rfl
    exact W.iret (v := 0) hx hb hr (fun t ht hW => ⟨⟨0, (), rfl, by rw [ef], by rw [ef, ht]; exact hP9, va_K.moved hW.alike hK, by rw [ef]; exact hD9⟩, hS.F ht⟩) hS.2.2 d_Mo_cache_28
  · refine lv_iload_n hx hb d_Mo_cache_6 rfl (lv_at hl 1 rfl) ?_
    refine lv_bipush (v := 64) hx hb d_Mo_cache_7 (by decide) ?_
    refine lv_icmp_le (tgt := 16) hx hb d_Mo_cache_9 (by decide) (fun c_3 => ?_) (fun c_3 => ?_)
    · refine lv_iconst (v := 0) hx hb d_Mo_cache_16 (by decide) ?_
      refine va_put (D := (dC, dI)) (ci := 6) (v := .int 0) (ty := .int) (C := "LabelledCoreModel") (T := T_Mo) (N := 24) hx hb hts in_Mo t_Mo ty_Mo nm_Mo hown hK hP hD hS 0 rfl rfl 0 (by decide) (hts _ wm_956) (fun _ h9 => h9) rfl (by decide +kernel) rfl rfl (Nat.le_of_ble_eq_true rfl) d_Mo_cache_17 (fun H locs hP hD hS => ?_)
      have hP : va_P (dC, dI) clsL [(h0, .inr (6, [.int 0, .ref a_words, .int v_size, .ref a_rules, .int v_entries, .int v_outcome, .int v_pc, .int v_pcLabel, .ref a_registers, .ref a_registerLabels, .ref a_memory, .ref a_memoryLabels, .ref a_waiting, .ref a_waitingLabels, .int v_wait, .ref a_out, .ref a_outLabels, .int v_went, .int v_done, .int v_misses, .ref a_keys, .int v_known, .int v_group, .ref a_labels]))] H := hP
      have hD : va_D A [(h0, .inr (6, [.int 0, .ref a_words, .int v_size, .ref a_rules, .int v_entries, .int v_outcome, .int v_pc, .int v_pcLabel, .ref a_registers, .ref a_registerLabels, .ref a_memory, .ref a_memoryLabels, .ref a_waiting, .ref a_waitingLabels, .int v_wait, .ref a_out, .ref a_outLabels, .int v_went, .int v_done, .int v_misses, .ref a_keys, .int v_known, .int v_group, .ref a_labels]))] := hD
      refine lv_aload_n hx hb d_Mo_cache_20 rfl (lv_at hl 0 rfl) ?_
      refine va_get (D := (dC, dI)) (ci := 6) (v := .int 0) (C := "LabelledCoreModel") (T := T_Mo) (N := 24) hx hb hts in_Mo hown hK hP 0 rfl rfl 0 (by decide) (hts _ wm_956) (fun _ h9 => h9) rfl d_Mo_cache_21 ?_
      refine lv_if_le (tgt := 29) hx hb d_Mo_cache_24 (by decide) (fun c_4 => ?_) (fun c_4 => absurd (by decide) c_4)
      refine lv_aload_n hx hb d_Mo_cache_29 rfl (lv_at hl 0 rfl) ?_
      refine va_get (D := (dC, dI)) (ci := 6) (v := .int v_entries) (C := "LabelledCoreModel") (T := T_Mo) (N := 24) hx hb hts in_Mo hown hK hP 0 rfl rfl 4 (by decide) (hts _ wm_960) (fun _ h9 => h9) rfl d_Mo_cache_30 ?_
      refine lv_istore_n (lv' := [(2, .int v_entries), (0, .ref h0), (1, .int x_p0)]) hx hb d_Mo_cache_33 rfl hl (by decide) rfl (fun ls hl => ?_)
      refine lv_aload_n hx hb d_Mo_cache_34 rfl (lv_at hl 1 rfl) ?_
      refine lv_iload_n hx hb d_Mo_cache_35 rfl (lv_at hl 2 rfl) ?_
      refine va_put (D := (dC, dI)) (ci := 6) (v := .int x_p0) (ty := .int) (C := "LabelledCoreModel") (T := T_Mo) (N := 24) hx hb hts in_Mo t_Mo ty_Mo nm_Mo hown hK hP hD hS 0 rfl rfl 4 (by decide) (hts _ wm_960) (fun _ h9 => h9) rfl (by decide +kernel) rfl rfl (Nat.le_of_ble_eq_true rfl) d_Mo_cache_36 (fun H locs hP hD hS => ?_)
      have hP : va_P (dC, dI) clsL [(h0, .inr (6, [.int 0, .ref a_words, .int v_size, .ref a_rules, .int x_p0, .int v_outcome, .int v_pc, .int v_pcLabel, .ref a_registers, .ref a_registerLabels, .ref a_memory, .ref a_memoryLabels, .ref a_waiting, .ref a_waitingLabels, .int v_wait, .ref a_out, .ref a_outLabels, .int v_went, .int v_done, .int v_misses, .ref a_keys, .int v_known, .int v_group, .ref a_labels]))] H := hP
      have hD : va_D A [(h0, .inr (6, [.int 0, .ref a_words, .int v_size, .ref a_rules, .int x_p0, .int v_outcome, .int v_pc, .int v_pcLabel, .ref a_registers, .ref a_registerLabels, .ref a_memory, .ref a_memoryLabels, .ref a_waiting, .ref a_waitingLabels, .int v_wait, .ref a_out, .ref a_outLabels, .int v_went, .int v_done, .int v_misses, .ref a_keys, .int v_known, .int v_group, .ref a_labels]))] := hD
      refine lv_aload_n hx hb d_Mo_cache_39 rfl (lv_at hl 1 rfl) ?_
      refine lv_iconst (v := 0) hx hb d_Mo_cache_40 (by decide) ?_
      refine va_put (D := (dC, dI)) (ci := 6) (v := .int 0) (ty := .int) (C := "LabelledCoreModel") (T := T_Mo) (N := 24) hx hb hts in_Mo t_Mo ty_Mo nm_Mo hown hK hP hD hS 0 rfl rfl 21 (by decide) (hts _ wm_977) (fun _ h9 => h9) rfl (by decide +kernel) rfl rfl (Nat.le_of_ble_eq_true rfl) d_Mo_cache_41 (fun H locs hP hD hS => ?_)
      have hP : va_P (dC, dI) clsL [(h0, .inr (6, [.int 0, .ref a_words, .int v_size, .ref a_rules, .int x_p0, .int v_outcome, .int v_pc, .int v_pcLabel, .ref a_registers, .ref a_registerLabels, .ref a_memory, .ref a_memoryLabels, .ref a_waiting, .ref a_waitingLabels, .int v_wait, .ref a_out, .ref a_outLabels, .int v_went, .int v_done, .int v_misses, .ref a_keys, .int 0, .int v_group, .ref a_labels]))] H := hP
      have hD : va_D A [(h0, .inr (6, [.int 0, .ref a_words, .int v_size, .ref a_rules, .int x_p0, .int v_outcome, .int v_pc, .int v_pcLabel, .ref a_registers, .ref a_registerLabels, .ref a_memory, .ref a_memoryLabels, .ref a_waiting, .ref a_waitingLabels, .int v_wait, .ref a_out, .ref a_outLabels, .int v_went, .int v_done, .int v_misses, .ref a_keys, .int 0, .int v_group, .ref a_labels]))] := hD
      refine lv_iload_n hx hb d_Mo_cache_44 rfl (lv_at hl 0 rfl) ?_
      have ef : (f_Mo_cache v_entries v_known x_p0) = ((v_entries, 0, x_p0, 0) : Int32 × Int32 × Int32 × Int32) := (if_neg c_1).trans ((if_pos c_3).trans rfl)
      have hP9 := hP.sub (ws' := [(h0, .inr (6, [.int 0, .ref a_words, .int v_size, .ref a_rules, .int x_p0, .int v_outcome, .int v_pc, .int v_pcLabel, .ref a_registers, .ref a_registerLabels, .ref a_memory, .ref a_memoryLabels, .ref a_waiting, .ref a_waitingLabels, .int v_wait, .ref a_out, .ref a_outLabels, .int v_went, .int v_done, .int v_misses, .ref a_keys, .int 0, .int v_group, .ref a_labels]))]) [0] rfl
      have hD9 := hD.sub (ws' := [(h0, .inr (6, [.int 0, .ref a_words, .int v_size, .ref a_rules, .int x_p0, .int v_outcome, .int v_pc, .int v_pcLabel, .ref a_registers, .ref a_registerLabels, .ref a_memory, .ref a_memoryLabels, .ref a_waiting, .ref a_waitingLabels, .int v_wait, .ref a_out, .ref a_outLabels, .int v_went, .int v_done, .int v_misses, .ref a_keys, .int 0, .int v_group, .ref a_labels]))]) [0] (by decide) rfl
      exact W.iret (v := v_entries) hx hb hr (fun t ht hW => ⟨⟨v_entries, (), rfl, by rw [ef], by rw [ef, ht]; exact hP9, va_K.moved hW.alike hK, by rw [ef]; exact hD9⟩, hS.F ht⟩) hS.2.2 d_Mo_cache_45
    · refine lv_iconst (v := 1) hx hb d_Mo_cache_12 (by decide) ?_
      refine lv_goto (tgt := 17) hx hb d_Mo_cache_13 (by decide) ?_
      refine va_put (D := (dC, dI)) (ci := 6) (v := .int 1) (ty := .int) (C := "LabelledCoreModel") (T := T_Mo) (N := 24) hx hb hts in_Mo t_Mo ty_Mo nm_Mo hown hK hP hD hS 0 rfl rfl 0 (by decide) (hts _ wm_956) (fun _ h9 => h9) rfl (by decide +kernel) rfl rfl (Nat.le_of_ble_eq_true rfl) d_Mo_cache_17 (fun H locs hP hD hS => ?_)
      have hP : va_P (dC, dI) clsL [(h0, .inr (6, [.int 1, .ref a_words, .int v_size, .ref a_rules, .int v_entries, .int v_outcome, .int v_pc, .int v_pcLabel, .ref a_registers, .ref a_registerLabels, .ref a_memory, .ref a_memoryLabels, .ref a_waiting, .ref a_waitingLabels, .int v_wait, .ref a_out, .ref a_outLabels, .int v_went, .int v_done, .int v_misses, .ref a_keys, .int v_known, .int v_group, .ref a_labels]))] H := hP
      have hD : va_D A [(h0, .inr (6, [.int 1, .ref a_words, .int v_size, .ref a_rules, .int v_entries, .int v_outcome, .int v_pc, .int v_pcLabel, .ref a_registers, .ref a_registerLabels, .ref a_memory, .ref a_memoryLabels, .ref a_waiting, .ref a_waitingLabels, .int v_wait, .ref a_out, .ref a_outLabels, .int v_went, .int v_done, .int v_misses, .ref a_keys, .int v_known, .int v_group, .ref a_labels]))] := hD
      refine lv_aload_n hx hb d_Mo_cache_20 rfl (lv_at hl 0 rfl) ?_
      refine va_get (D := (dC, dI)) (ci := 6) (v := .int 1) (C := "LabelledCoreModel") (T := T_Mo) (N := 24) hx hb hts in_Mo hown hK hP 0 rfl rfl 0 (by decide) (hts _ wm_956) (fun _ h9 => h9) rfl d_Mo_cache_21 ?_
      refine lv_if_le (tgt := 29) hx hb d_Mo_cache_24 (by decide) (fun c_5 => absurd c_5 (by decide)) (fun c_5 => ?_)
      refine lv_iconst (v := 0) hx hb d_Mo_cache_27 (by decide) ?_
      have ef : (f_Mo_cache v_entries v_known x_p0) = ((0, 1, v_entries, v_known) : Int32 × Int32 × Int32 × Int32) := (if_neg c_1).trans ((if_neg c_3).trans rfl)
      have hP9 := hP.sub (ws' := [(h0, .inr (6, [.int 1, .ref a_words, .int v_size, .ref a_rules, .int v_entries, .int v_outcome, .int v_pc, .int v_pcLabel, .ref a_registers, .ref a_registerLabels, .ref a_memory, .ref a_memoryLabels, .ref a_waiting, .ref a_waitingLabels, .int v_wait, .ref a_out, .ref a_outLabels, .int v_went, .int v_done, .int v_misses, .ref a_keys, .int v_known, .int v_group, .ref a_labels]))]) [0] rfl
      have hD9 := hD.sub (ws' := [(h0, .inr (6, [.int 1, .ref a_words, .int v_size, .ref a_rules, .int v_entries, .int v_outcome, .int v_pc, .int v_pcLabel, .ref a_registers, .ref a_registerLabels, .ref a_memory, .ref a_memoryLabels, .ref a_waiting, .ref a_waitingLabels, .int v_wait, .ref a_out, .ref a_outLabels, .int v_went, .int v_done, .int v_misses, .ref a_keys, .int v_known, .int v_group, .ref a_labels]))]) [0] (by decide) rfl
      exact W.iret (v := 0) hx hb hr (fun t ht hW => ⟨⟨0, (), rfl, by rw [ef], by rw [ef, ht]; exact hP9, va_K.moved hW.alike hK, by rw [ef]; exact hD9⟩, hS.F ht⟩) hS.2.2 d_Mo_cache_28
def f_Mo_set (g_registers : Nat → Int32) (g_registerLabels : Nat → Int32) (x_p0 : Int32) (x_p1 : Int32) (x_p2 : Int32) : Int32 × (Nat → Int32) × (Nat → Int32) :=
  if x_p0 < 1 then
    (1, g_registers, g_registerLabels)
  else
    if x_p0 ≤ 31 then
      (0, (upd g_registers (Int32.toNatClampNeg x_p0) x_p1), (upd g_registerLabels (Int32.toNatClampNeg x_p0) x_p2))
    else
      (1, g_registers, g_registerLabels)
set_option maxHeartbeats 4000000 in
set_option maxRecDepth 100000 in
theorem ct_Mo_set (l : Launch) (dC : Nat → ClassId) (dI : Nat → Nat → Nat) (cI : ClassId) (sz : Nat) (h0 a_words a_rules a_registers a_registerLabels a_memory a_memoryLabels a_waiting a_waitingLabels a_out a_outLabels a_keys a_labels : Nat) (v_thrown : Int32) (v_size : Int32) (v_entries : Int32) (v_outcome : Int32) (v_pc : Int32) (v_pcLabel : Int32) (v_wait : Int32) (v_went : Int32) (v_done : Int32) (v_misses : Int32) (v_known : Int32) (v_group : Int32) (g_registers : Nat → Int32) (g_registerLabels : Nat → Int32) (x_p0 : Int32) (x_p1 : Int32) (x_p2 : Int32) (hs_33_0 : (¬ x_p0 < 1) → (x_p0 ≤ 31) → vp_in x_p0 32) : Met l y_Mo_set w_Mo_set ({ frames := 0, cells := 0, slots := 0, locals := 0 }) (pcW dC dI cI [(h0, .inr (6, [.int v_thrown, .ref a_words, .int v_size, .ref a_rules, .int v_entries, .int v_outcome, .int v_pc, .int v_pcLabel, .ref a_registers, .ref a_registerLabels, .ref a_memory, .ref a_memoryLabels, .ref a_waiting, .ref a_waitingLabels, .int v_wait, .ref a_out, .ref a_outLabels, .int v_went, .int v_done, .int v_misses, .ref a_keys, .int v_known, .int v_group, .ref a_labels])), (a_registers, .inl (cI, 32, .inl g_registers)), (a_registerLabels, .inl (cI, 32, .inl g_registerLabels))] sz [.ref h0, .int x_p0, .int x_p1, .int x_p2]) (va_Qv (fun _ : Unit => True) (fun _ t => atW dC dI cI [(h0, .inr (6, [.int ((f_Mo_set g_registers g_registerLabels x_p0 x_p1 x_p2).1), .ref a_words, .int v_size, .ref a_rules, .int v_entries, .int v_outcome, .int v_pc, .int v_pcLabel, .ref a_registers, .ref a_registerLabels, .ref a_memory, .ref a_memoryLabels, .ref a_waiting, .ref a_waitingLabels, .int v_wait, .ref a_out, .ref a_outLabels, .int v_went, .int v_done, .int v_misses, .ref a_keys, .int v_known, .int v_group, .ref a_labels])), (a_registers, .inl (cI, 32, .inl ((f_Mo_set g_registers g_registerLabels x_p0 x_p1 x_p2).2.1))), (a_registerLabels, .inl (cI, 32, .inl ((f_Mo_set g_registers g_registerLabels x_p0 x_p1 x_p2).2.2)))] (va_A [(h0, .inr (6, [.int v_thrown, .ref a_words, .int v_size, .ref a_rules, .int v_entries, .int v_outcome, .int v_pc, .int v_pcLabel, .ref a_registers, .ref a_registerLabels, .ref a_memory, .ref a_memoryLabels, .ref a_waiting, .ref a_waitingLabels, .int v_wait, .ref a_out, .ref a_outLabels, .int v_went, .int v_done, .int v_misses, .ref a_keys, .int v_known, .int v_group, .ref a_labels])), (a_registers, .inl (cI, 32, .inl g_registers)), (a_registerLabels, .inl (cI, 32, .inl g_registerLabels))] sz) t) (va_A [(h0, .inr (6, [.int v_thrown, .ref a_words, .int v_size, .ref a_rules, .int v_entries, .int v_outcome, .int v_pc, .int v_pcLabel, .ref a_registers, .ref a_registerLabels, .ref a_memory, .ref a_memoryLabels, .ref a_waiting, .ref a_waitingLabels, .int v_wait, .ref a_out, .ref a_outLabels, .int v_went, .int v_done, .int v_misses, .ref a_keys, .int v_known, .int v_group, .ref a_labels])), (a_registers, .inl (cI, 32, .inl g_registers)), (a_registerLabels, .inl (cI, 32, .inl g_registerLabels))] sz)) 0 0 (va_A [(h0, .inr (6, [.int v_thrown, .ref a_words, .int v_size, .ref a_rules, .int v_entries, .int v_outcome, .int v_pc, .int v_pcLabel, .ref a_registers, .ref a_registerLabels, .ref a_memory, .ref a_memoryLabels, .ref a_waiting, .ref a_waitingLabels, .int v_wait, .ref a_out, .ref a_outLabels, .int v_went, .int v_done, .int v_misses, .ref a_keys, .int v_known, .int v_group, .ref a_labels])), (a_registers, .inl (cI, 32, .inl g_registers)), (a_registerLabels, .inl (cI, 32, .inl g_registerLabels))] sz) := by
  refine Met.ofW (cc := c_Mo_set) (maxL := 4) (ret := none) (by decide) rfl ?_
  intro p e s m args below meth c s₁ B hml hv
  obtain ⟨rfl, hsz, hP, hK, hD0⟩ := hv
  have hx := B.exec
  have hb := B.bytes
  have hr := B.returns
  have hts : ∀ w ∈ wG, w.before _ s = true := fun w h => atoms_spec (ws := w_Mo_set) B.pre w (List.mem_cons_of_mem _ h)
  have hown : s.vm.findClass "LabelledCoreModel" = some m.cls := findClass_of_methodNamed B.named
  have hlocks := B.notSynchronized
  subst hsz
  have hD := hD0.self (sz := s.heap.size)
  generalize hAe : va_A [(h0, .inr (6, [.int v_thrown, .ref a_words, .int v_size, .ref a_rules, .int v_entries, .int v_outcome, .int v_pc, .int v_pcLabel, .ref a_registers, .ref a_registerLabels, .ref a_memory, .ref a_memoryLabels, .ref a_waiting, .ref a_waitingLabels, .int v_wait, .ref a_out, .ref a_outLabels, .int v_went, .int v_done, .int v_misses, .ref a_keys, .int v_known, .int v_group, .ref a_labels])), (a_registers, .inl (cI, 32, .inl g_registers)), (a_registerLabels, .inl (cI, 32, .inl g_registerLabels))] s.heap.size = A at hD ⊢
  have hA : ∀ q : Nat, s.heap.size ≤ q → A q := fun q h => by rw [← hAe]; exact Or.inr h
  have hS : va_S A s.heap s.heap [] := va_S.rf
  have hP : va_P (dC, dI) clsL [(h0, .inr (6, [.int v_thrown, .ref a_words, .int v_size, .ref a_rules, .int v_entries, .int v_outcome, .int v_pc, .int v_pcLabel, .ref a_registers, .ref a_registerLabels, .ref a_memory, .ref a_memoryLabels, .ref a_waiting, .ref a_waitingLabels, .int v_wait, .ref a_out, .ref a_outLabels, .int v_went, .int v_done, .int v_misses, .ref a_keys, .int v_known, .int v_group, .ref a_labels])), (a_registers, .inl (cI, 32, .inl g_registers)), (a_registerLabels, .inl (cI, 32, .inl g_registerLabels))] s.heap := hP
  have hl := lv_entry ([.ref h0, .int x_p0, .int x_p1, .int x_p2]) (n := 4) (Nat.le_of_ble_eq_true rfl)
  rw [lg_entry_eq]
  generalize (lg_sl ([.ref h0, .int x_p0, .int x_p1, .int x_p2]) ++ List.replicate (4 - (lg_sl ([.ref h0, .int x_p0, .int x_p1, .int x_p2])).length) Slot.unset).toArray = ls at hl ⊢
  have hl : lv_has ls 4 [(0, .ref h0), (1, .int x_p0), (2, .int x_p1), (3, .int x_p2)] := hl
  refine lv_aload_n hx hb d_Mo_set_0 rfl (lv_at hl 0 rfl) ?_
  refine lv_iload_n hx hb d_Mo_set_1 rfl (lv_at hl 1 rfl) ?_
  refine lv_iconst (v := 1) hx hb d_Mo_set_2 (by decide) ?_
  refine lv_icmp_lt (tgt := 12) hx hb d_Mo_set_3 (by decide) (fun c_1 => ?_) (fun c_1 => ?_)
  · refine lv_iconst (v := 1) hx hb d_Mo_set_12 (by decide) ?_
    refine lv_goto (tgt := 17) hx hb d_Mo_set_13 (by decide) ?_
    refine va_put (D := (dC, dI)) (ci := 6) (v := .int 1) (ty := .int) (C := "LabelledCoreModel") (T := T_Mo) (N := 24) hx hb hts in_Mo t_Mo ty_Mo nm_Mo hown hK hP hD hS 0 rfl rfl 0 (by decide) (hts _ wm_956) (fun _ h9 => h9) rfl (by decide +kernel) rfl rfl (Nat.le_of_ble_eq_true rfl) d_Mo_set_17 (fun H locs hP hD hS => ?_)
    have hP : va_P (dC, dI) clsL [(h0, .inr (6, [.int 1, .ref a_words, .int v_size, .ref a_rules, .int v_entries, .int v_outcome, .int v_pc, .int v_pcLabel, .ref a_registers, .ref a_registerLabels, .ref a_memory, .ref a_memoryLabels, .ref a_waiting, .ref a_waitingLabels, .int v_wait, .ref a_out, .ref a_outLabels, .int v_went, .int v_done, .int v_misses, .ref a_keys, .int v_known, .int v_group, .ref a_labels])), (a_registers, .inl (cI, 32, .inl g_registers)), (a_registerLabels, .inl (cI, 32, .inl g_registerLabels))] H := hP
    have hD : va_D A [(h0, .inr (6, [.int 1, .ref a_words, .int v_size, .ref a_rules, .int v_entries, .int v_outcome, .int v_pc, .int v_pcLabel, .ref a_registers, .ref a_registerLabels, .ref a_memory, .ref a_memoryLabels, .ref a_waiting, .ref a_waitingLabels, .int v_wait, .ref a_out, .ref a_outLabels, .int v_went, .int v_done, .int v_misses, .ref a_keys, .int v_known, .int v_group, .ref a_labels])), (a_registers, .inl (cI, 32, .inl g_registers)), (a_registerLabels, .inl (cI, 32, .inl g_registerLabels))] := hD
    refine lv_aload_n hx hb d_Mo_set_20 rfl (lv_at hl 0 rfl) ?_
    refine va_get (D := (dC, dI)) (ci := 6) (v := .int 1) (C := "LabelledCoreModel") (T := T_Mo) (N := 24) hx hb hts in_Mo hown hK hP 0 rfl rfl 0 (by decide) (hts _ wm_956) (fun _ h9 => h9) rfl d_Mo_set_21 ?_
    refine lv_if_ne (tgt := 41) hx hb d_Mo_set_24 (by decide) (fun c_2 => ?_) (fun c_2 => absurd c_2 (by decide))
    have ef : (f_Mo_set g_registers g_registerLabels x_p0 x_p1 x_p2) = ((1, g_registers, g_registerLabels) : Int32 × (Nat → Int32) × (Nat → Int32)) := (if_pos c_1).trans rfl
    have hP9 := hP.sub (ws' := [(h0, .inr (6, [.int 1, .ref a_words, .int v_size, .ref a_rules, .int v_entries, .int v_outcome, .int v_pc, .int v_pcLabel, .ref a_registers, .ref a_registerLabels, .ref a_memory, .ref a_memoryLabels, .ref a_waiting, .ref a_waitingLabels, .int v_wait, .ref a_out, .ref a_outLabels, .int v_went, .int v_done, .int v_misses, .ref a_keys, .int v_known, .int v_group, .ref a_labels])), (a_registers, .inl (cI, 32, .inl g_registers)), (a_registerLabels, .inl (cI, 32, .inl g_registerLabels))]) [0, 1, 2] rfl
    have hD9 := hD.sub (ws' := [(h0, .inr (6, [.int 1, .ref a_words, .int v_size, .ref a_rules, .int v_entries, .int v_outcome, .int v_pc, .int v_pcLabel, .ref a_registers, .ref a_registerLabels, .ref a_memory, .ref a_memoryLabels, .ref a_waiting, .ref a_waitingLabels, .int v_wait, .ref a_out, .ref a_outLabels, .int v_went, .int v_done, .int v_misses, .ref a_keys, .int v_known, .int v_group, .ref a_labels])), (a_registers, .inl (cI, 32, .inl g_registers)), (a_registerLabels, .inl (cI, 32, .inl g_registerLabels))]) [0, 1, 2] (by decide) rfl
    exact W.vret hx hb hr (fun t ht hW => ⟨⟨(), rfl, trivial, by rw [ef, ht]; exact hP9, va_K.moved hW.alike hK, by rw [ef]; exact hD9⟩, hS.F ht⟩) hS.2.2 d_Mo_set_41
  · refine lv_iload_n hx hb d_Mo_set_6 rfl (lv_at hl 1 rfl) ?_
    refine lv_bipush (v := 31) hx hb d_Mo_set_7 (by decide) ?_
    refine lv_icmp_le (tgt := 16) hx hb d_Mo_set_9 (by decide) (fun c_3 => ?_) (fun c_3 => ?_)
    · refine lv_iconst (v := 0) hx hb d_Mo_set_16 (by decide) ?_
      refine va_put (D := (dC, dI)) (ci := 6) (v := .int 0) (ty := .int) (C := "LabelledCoreModel") (T := T_Mo) (N := 24) hx hb hts in_Mo t_Mo ty_Mo nm_Mo hown hK hP hD hS 0 rfl rfl 0 (by decide) (hts _ wm_956) (fun _ h9 => h9) rfl (by decide +kernel) rfl rfl (Nat.le_of_ble_eq_true rfl) d_Mo_set_17 (fun H locs hP hD hS => ?_)
      have hP : va_P (dC, dI) clsL [(h0, .inr (6, [.int 0, .ref a_words, .int v_size, .ref a_rules, .int v_entries, .int v_outcome, .int v_pc, .int v_pcLabel, .ref a_registers, .ref a_registerLabels, .ref a_memory, .ref a_memoryLabels, .ref a_waiting, .ref a_waitingLabels, .int v_wait, .ref a_out, .ref a_outLabels, .int v_went, .int v_done, .int v_misses, .ref a_keys, .int v_known, .int v_group, .ref a_labels])), (a_registers, .inl (cI, 32, .inl g_registers)), (a_registerLabels, .inl (cI, 32, .inl g_registerLabels))] H := hP
      have hD : va_D A [(h0, .inr (6, [.int 0, .ref a_words, .int v_size, .ref a_rules, .int v_entries, .int v_outcome, .int v_pc, .int v_pcLabel, .ref a_registers, .ref a_registerLabels, .ref a_memory, .ref a_memoryLabels, .ref a_waiting, .ref a_waitingLabels, .int v_wait, .ref a_out, .ref a_outLabels, .int v_went, .int v_done, .int v_misses, .ref a_keys, .int v_known, .int v_group, .ref a_labels])), (a_registers, .inl (cI, 32, .inl g_registers)), (a_registerLabels, .inl (cI, 32, .inl g_registerLabels))] := hD
      refine lv_aload_n hx hb d_Mo_set_20 rfl (lv_at hl 0 rfl) ?_
      refine va_get (D := (dC, dI)) (ci := 6) (v := .int 0) (C := "LabelledCoreModel") (T := T_Mo) (N := 24) hx hb hts in_Mo hown hK hP 0 rfl rfl 0 (by decide) (hts _ wm_956) (fun _ h9 => h9) rfl d_Mo_set_21 ?_
      refine lv_if_ne (tgt := 41) hx hb d_Mo_set_24 (by decide) (fun c_4 => absurd (by decide) c_4) (fun c_4 => ?_)
      refine lv_aload_n hx hb d_Mo_set_27 rfl (lv_at hl 0 rfl) ?_
      refine va_get (D := (dC, dI)) (ci := 6) (v := .ref a_registers) (C := "LabelledCoreModel") (T := T_Mo) (N := 24) hx hb hts in_Mo hown hK hP 0 rfl rfl 8 (by decide) (hts _ wm_964) (fun _ h9 => h9) rfl d_Mo_set_28 ?_
      refine lv_iload_n hx hb d_Mo_set_31 rfl (lv_at hl 1 rfl) ?_
      refine lv_iload_n hx hb d_Mo_set_32 rfl (lv_at hl 2 rfl) ?_
      refine va_iast hx hb hK hP hD hS 1 0 rfl rfl (hs_33_0 c_1 c_3) d_Mo_set_33 (fun H locs hP hD hS => ?_)
      have hP : va_P (dC, dI) clsL [(h0, .inr (6, [.int 0, .ref a_words, .int v_size, .ref a_rules, .int v_entries, .int v_outcome, .int v_pc, .int v_pcLabel, .ref a_registers, .ref a_registerLabels, .ref a_memory, .ref a_memoryLabels, .ref a_waiting, .ref a_waitingLabels, .int v_wait, .ref a_out, .ref a_outLabels, .int v_went, .int v_done, .int v_misses, .ref a_keys, .int v_known, .int v_group, .ref a_labels])), (a_registers, .inl (cI, 32, .inl (upd g_registers (Int32.toNatClampNeg x_p0) x_p1))), (a_registerLabels, .inl (cI, 32, .inl g_registerLabels))] H := hP
      have hD : va_D A [(h0, .inr (6, [.int 0, .ref a_words, .int v_size, .ref a_rules, .int v_entries, .int v_outcome, .int v_pc, .int v_pcLabel, .ref a_registers, .ref a_registerLabels, .ref a_memory, .ref a_memoryLabels, .ref a_waiting, .ref a_waitingLabels, .int v_wait, .ref a_out, .ref a_outLabels, .int v_went, .int v_done, .int v_misses, .ref a_keys, .int v_known, .int v_group, .ref a_labels])), (a_registers, .inl (cI, 32, .inl (upd g_registers (Int32.toNatClampNeg x_p0) x_p1))), (a_registerLabels, .inl (cI, 32, .inl g_registerLabels))] := hD
      refine lv_aload_n hx hb d_Mo_set_34 rfl (lv_at hl 0 rfl) ?_
      refine va_get (D := (dC, dI)) (ci := 6) (v := .ref a_registerLabels) (C := "LabelledCoreModel") (T := T_Mo) (N := 24) hx hb hts in_Mo hown hK hP 0 rfl rfl 9 (by decide) (hts _ wm_965) (fun _ h9 => h9) rfl d_Mo_set_35 ?_
      refine lv_iload_n hx hb d_Mo_set_38 rfl (lv_at hl 1 rfl) ?_
      refine lv_iload_n hx hb d_Mo_set_39 rfl (lv_at hl 3 rfl) ?_
      refine va_iast hx hb hK hP hD hS 2 0 rfl rfl (hs_33_0 c_1 c_3) d_Mo_set_40 (fun H locs hP hD hS => ?_)
      have hP : va_P (dC, dI) clsL [(h0, .inr (6, [.int 0, .ref a_words, .int v_size, .ref a_rules, .int v_entries, .int v_outcome, .int v_pc, .int v_pcLabel, .ref a_registers, .ref a_registerLabels, .ref a_memory, .ref a_memoryLabels, .ref a_waiting, .ref a_waitingLabels, .int v_wait, .ref a_out, .ref a_outLabels, .int v_went, .int v_done, .int v_misses, .ref a_keys, .int v_known, .int v_group, .ref a_labels])), (a_registers, .inl (cI, 32, .inl (upd g_registers (Int32.toNatClampNeg x_p0) x_p1))), (a_registerLabels, .inl (cI, 32, .inl (upd g_registerLabels (Int32.toNatClampNeg x_p0) x_p2)))] H := hP
      have hD : va_D A [(h0, .inr (6, [.int 0, .ref a_words, .int v_size, .ref a_rules, .int v_entries, .int v_outcome, .int v_pc, .int v_pcLabel, .ref a_registers, .ref a_registerLabels, .ref a_memory, .ref a_memoryLabels, .ref a_waiting, .ref a_waitingLabels, .int v_wait, .ref a_out, .ref a_outLabels, .int v_went, .int v_done, .int v_misses, .ref a_keys, .int v_known, .int v_group, .ref a_labels])), (a_registers, .inl (cI, 32, .inl (upd g_registers (Int32.toNatClampNeg x_p0) x_p1))), (a_registerLabels, .inl (cI, 32, .inl (upd g_registerLabels (Int32.toNatClampNeg x_p0) x_p2)))] := hD
      have ef : (f_Mo_set g_registers g_registerLabels x_p0 x_p1 x_p2) = ((0, (upd g_registers (Int32.toNatClampNeg x_p0) x_p1), (upd g_registerLabels (Int32.toNatClampNeg x_p0) x_p2)) : Int32 × (Nat → Int32) × (Nat → Int32)) := (if_neg c_1).trans ((if_pos c_3).trans rfl)
      have hP9 := hP.sub (ws' := [(h0, .inr (6, [.int 0, .ref a_words, .int v_size, .ref a_rules, .int v_entries, .int v_outcome, .int v_pc, .int v_pcLabel, .ref a_registers, .ref a_registerLabels, .ref a_memory, .ref a_memoryLabels, .ref a_waiting, .ref a_waitingLabels, .int v_wait, .ref a_out, .ref a_outLabels, .int v_went, .int v_done, .int v_misses, .ref a_keys, .int v_known, .int v_group, .ref a_labels])), (a_registers, .inl (cI, 32, .inl (upd g_registers (Int32.toNatClampNeg x_p0) x_p1))), (a_registerLabels, .inl (cI, 32, .inl (upd g_registerLabels (Int32.toNatClampNeg x_p0) x_p2)))]) [0, 1, 2] rfl
      have hD9 := hD.sub (ws' := [(h0, .inr (6, [.int 0, .ref a_words, .int v_size, .ref a_rules, .int v_entries, .int v_outcome, .int v_pc, .int v_pcLabel, .ref a_registers, .ref a_registerLabels, .ref a_memory, .ref a_memoryLabels, .ref a_waiting, .ref a_waitingLabels, .int v_wait, .ref a_out, .ref a_outLabels, .int v_went, .int v_done, .int v_misses, .ref a_keys, .int v_known, .int v_group, .ref a_labels])), (a_registers, .inl (cI, 32, .inl (upd g_registers (Int32.toNatClampNeg x_p0) x_p1))), (a_registerLabels, .inl (cI, 32, .inl (upd g_registerLabels (Int32.toNatClampNeg x_p0) x_p2)))]) [0, 1, 2] (by decide) rfl
      exact W.vret hx hb hr (fun t ht hW => ⟨⟨(), rfl, trivial, by rw [ef, ht]; exact hP9, va_K.moved hW.alike hK, by rw [ef]; exact hD9⟩, hS.F ht⟩) hS.2.2 d_Mo_set_41
    · refine lv_iconst (v := 1) hx hb d_Mo_set_12 (by decide) ?_
      refine lv_goto (tgt := 17) hx hb d_Mo_set_13 (by decide) ?_
      refine va_put (D := (dC, dI)) (ci := 6) (v := .int 1) (ty := .int) (C := "LabelledCoreModel") (T := T_Mo) (N := 24) hx hb hts in_Mo t_Mo ty_Mo nm_Mo hown hK hP hD hS 0 rfl rfl 0 (by decide) (hts _ wm_956) (fun _ h9 => h9) rfl (by decide +kernel) rfl rfl (Nat.le_of_ble_eq_true rfl) d_Mo_set_17 (fun H locs hP hD hS => ?_)
      have hP : va_P (dC, dI) clsL [(h0, .inr (6, [.int 1, .ref a_words, .int v_size, .ref a_rules, .int v_entries, .int v_outcome, .int v_pc, .int v_pcLabel, .ref a_registers, .ref a_registerLabels, .ref a_memory, .ref a_memoryLabels, .ref a_waiting, .ref a_waitingLabels, .int v_wait, .ref a_out, .ref a_outLabels, .int v_went, .int v_done, .int v_misses, .ref a_keys, .int v_known, .int v_group, .ref a_labels])), (a_registers, .inl (cI, 32, .inl g_registers)), (a_registerLabels, .inl (cI, 32, .inl g_registerLabels))] H := hP
      have hD : va_D A [(h0, .inr (6, [.int 1, .ref a_words, .int v_size, .ref a_rules, .int v_entries, .int v_outcome, .int v_pc, .int v_pcLabel, .ref a_registers, .ref a_registerLabels, .ref a_memory, .ref a_memoryLabels, .ref a_waiting, .ref a_waitingLabels, .int v_wait, .ref a_out, .ref a_outLabels, .int v_went, .int v_done, .int v_misses, .ref a_keys, .int v_known, .int v_group, .ref a_labels])), (a_registers, .inl (cI, 32, .inl g_registers)), (a_registerLabels, .inl (cI, 32, .inl g_registerLabels))] := hD
      refine lv_aload_n hx hb d_Mo_set_20 rfl (lv_at hl 0 rfl) ?_
      refine va_get (D := (dC, dI)) (ci := 6) (v := .int 1) (C := "LabelledCoreModel") (T := T_Mo) (N := 24) hx hb hts in_Mo hown hK hP 0 rfl rfl 0 (by decide) (hts _ wm_956) (fun _ h9 => h9) rfl d_Mo_set_21 ?_
      refine lv_if_ne (tgt := 41) hx hb d_Mo_set_24 (by decide) (fun c_5 => ?_) (fun c_5 => absurd c_5 (by decide))
      have ef : (f_Mo_set g_registers g_registerLabels x_p0 x_p1 x_p2) = ((1, g_registers, g_registerLabels) : Int32 × (Nat → Int32) × (Nat → Int32)) := (if_neg c_1).trans ((if_neg c_3).trans rfl)
      have hP9 := hP.sub (ws' := [(h0, .inr (6, [.int 1, .ref a_words, .int v_size, .ref a_rules, .int v_entries, .int v_outcome, .int v_pc, .int v_pcLabel, .ref a_registers, .ref a_registerLabels, .ref a_memory, .ref a_memoryLabels, .ref a_waiting, .ref a_waitingLabels, .int v_wait, .ref a_out, .ref a_outLabels, .int v_went, .int v_done, .int v_misses, .ref a_keys, .int v_known, .int v_group, .ref a_labels])), (a_registers, .inl (cI, 32, .inl g_registers)), (a_registerLabels, .inl (cI, 32, .inl g_registerLabels))]) [0, 1, 2] rfl
      have hD9 := hD.sub (ws' := [(h0, .inr (6, [.int 1, .ref a_words, .int v_size, .ref a_rules, .int v_entries, .int v_outcome, .int v_pc, .int v_pcLabel, .ref a_registers, .ref a_registerLabels, .ref a_memory, .ref a_memoryLabels, .ref a_waiting, .ref a_waitingLabels, .int v_wait, .ref a_out, .ref a_outLabels, .int v_went, .int v_done, .int v_misses, .ref a_keys, .int v_known, .int v_group, .ref a_labels])), (a_registers, .inl (cI, 32, .inl g_registers)), (a_registerLabels, .inl (cI, 32, .inl g_registerLabels))]) [0, 1, 2] (by decide) rfl
      exact W.vret hx hb hr (fun t ht hW => ⟨⟨(), rfl, trivial, by rw [ef, ht]; exact hP9, va_K.moved hW.alike hK, by rw [ef]; exact hD9⟩, hS.F ht⟩) hS.2.2 d_Mo_set_41
def f_Mo_poke (g_memory : Nat → Int32) (g_memoryLabels : Nat → Int32) (x_p0 : Int32) (x_p1 : Int32) (x_p2 : Int32) : Int32 × (Nat → Int32) × (Nat → Int32) :=
  if x_p0 < 0 then
    (1, g_memory, g_memoryLabels)
  else
    if x_p0 ≤ 63 then
      (0, (upd g_memory (Int32.toNatClampNeg x_p0) x_p1), (upd g_memoryLabels (Int32.toNatClampNeg x_p0) x_p2))
    else
      (1, g_memory, g_memoryLabels)
set_option maxHeartbeats 4000000 in
set_option maxRecDepth 100000 in
theorem ct_Mo_poke (l : Launch) (dC : Nat → ClassId) (dI : Nat → Nat → Nat) (cI : ClassId) (sz : Nat) (h0 a_words a_rules a_registers a_registerLabels a_memory a_memoryLabels a_waiting a_waitingLabels a_out a_outLabels a_keys a_labels : Nat) (v_thrown : Int32) (v_size : Int32) (v_entries : Int32) (v_outcome : Int32) (v_pc : Int32) (v_pcLabel : Int32) (v_wait : Int32) (v_went : Int32) (v_done : Int32) (v_misses : Int32) (v_known : Int32) (v_group : Int32) (g_memory : Nat → Int32) (g_memoryLabels : Nat → Int32) (x_p0 : Int32) (x_p1 : Int32) (x_p2 : Int32) (hs_32_0 : (¬ x_p0 < 0) → (x_p0 ≤ 63) → vp_in x_p0 64) : Met l y_Mo_poke w_Mo_poke ({ frames := 0, cells := 0, slots := 0, locals := 0 }) (pcW dC dI cI [(h0, .inr (6, [.int v_thrown, .ref a_words, .int v_size, .ref a_rules, .int v_entries, .int v_outcome, .int v_pc, .int v_pcLabel, .ref a_registers, .ref a_registerLabels, .ref a_memory, .ref a_memoryLabels, .ref a_waiting, .ref a_waitingLabels, .int v_wait, .ref a_out, .ref a_outLabels, .int v_went, .int v_done, .int v_misses, .ref a_keys, .int v_known, .int v_group, .ref a_labels])), (a_memory, .inl (cI, 64, .inl g_memory)), (a_memoryLabels, .inl (cI, 64, .inl g_memoryLabels))] sz [.ref h0, .int x_p0, .int x_p1, .int x_p2]) (va_Qv (fun _ : Unit => True) (fun _ t => atW dC dI cI [(h0, .inr (6, [.int ((f_Mo_poke g_memory g_memoryLabels x_p0 x_p1 x_p2).1), .ref a_words, .int v_size, .ref a_rules, .int v_entries, .int v_outcome, .int v_pc, .int v_pcLabel, .ref a_registers, .ref a_registerLabels, .ref a_memory, .ref a_memoryLabels, .ref a_waiting, .ref a_waitingLabels, .int v_wait, .ref a_out, .ref a_outLabels, .int v_went, .int v_done, .int v_misses, .ref a_keys, .int v_known, .int v_group, .ref a_labels])), (a_memory, .inl (cI, 64, .inl ((f_Mo_poke g_memory g_memoryLabels x_p0 x_p1 x_p2).2.1))), (a_memoryLabels, .inl (cI, 64, .inl ((f_Mo_poke g_memory g_memoryLabels x_p0 x_p1 x_p2).2.2)))] (va_A [(h0, .inr (6, [.int v_thrown, .ref a_words, .int v_size, .ref a_rules, .int v_entries, .int v_outcome, .int v_pc, .int v_pcLabel, .ref a_registers, .ref a_registerLabels, .ref a_memory, .ref a_memoryLabels, .ref a_waiting, .ref a_waitingLabels, .int v_wait, .ref a_out, .ref a_outLabels, .int v_went, .int v_done, .int v_misses, .ref a_keys, .int v_known, .int v_group, .ref a_labels])), (a_memory, .inl (cI, 64, .inl g_memory)), (a_memoryLabels, .inl (cI, 64, .inl g_memoryLabels))] sz) t) (va_A [(h0, .inr (6, [.int v_thrown, .ref a_words, .int v_size, .ref a_rules, .int v_entries, .int v_outcome, .int v_pc, .int v_pcLabel, .ref a_registers, .ref a_registerLabels, .ref a_memory, .ref a_memoryLabels, .ref a_waiting, .ref a_waitingLabels, .int v_wait, .ref a_out, .ref a_outLabels, .int v_went, .int v_done, .int v_misses, .ref a_keys, .int v_known, .int v_group, .ref a_labels])), (a_memory, .inl (cI, 64, .inl g_memory)), (a_memoryLabels, .inl (cI, 64, .inl g_memoryLabels))] sz)) 0 0 (va_A [(h0, .inr (6, [.int v_thrown, .ref a_words, .int v_size, .ref a_rules, .int v_entries, .int v_outcome, .int v_pc, .int v_pcLabel, .ref a_registers, .ref a_registerLabels, .ref a_memory, .ref a_memoryLabels, .ref a_waiting, .ref a_waitingLabels, .int v_wait, .ref a_out, .ref a_outLabels, .int v_went, .int v_done, .int v_misses, .ref a_keys, .int v_known, .int v_group, .ref a_labels])), (a_memory, .inl (cI, 64, .inl g_memory)), (a_memoryLabels, .inl (cI, 64, .inl g_memoryLabels))] sz) := by
  refine Met.ofW (cc := c_Mo_poke) (maxL := 4) (ret := none) (by decide) rfl ?_
  intro p e s m args below meth c s₁ B hml hv
  obtain ⟨rfl, hsz, hP, hK, hD0⟩ := hv
  have hx := B.exec
  have hb := B.bytes
  have hr := B.returns
  have hts : ∀ w ∈ wG, w.before _ s = true := fun w h => atoms_spec (ws := w_Mo_poke) B.pre w (List.mem_cons_of_mem _ h)
  have hown : s.vm.findClass "LabelledCoreModel" = some m.cls := findClass_of_methodNamed B.named
  have hlocks := B.notSynchronized
  subst hsz
  have hD := hD0.self (sz := s.heap.size)
  generalize hAe : va_A [(h0, .inr (6, [.int v_thrown, .ref a_words, .int v_size, .ref a_rules, .int v_entries, .int v_outcome, .int v_pc, .int v_pcLabel, .ref a_registers, .ref a_registerLabels, .ref a_memory, .ref a_memoryLabels, .ref a_waiting, .ref a_waitingLabels, .int v_wait, .ref a_out, .ref a_outLabels, .int v_went, .int v_done, .int v_misses, .ref a_keys, .int v_known, .int v_group, .ref a_labels])), (a_memory, .inl (cI, 64, .inl g_memory)), (a_memoryLabels, .inl (cI, 64, .inl g_memoryLabels))] s.heap.size = A at hD ⊢
  have hA : ∀ q : Nat, s.heap.size ≤ q → A q := fun q h => by rw [← hAe]; exact Or.inr h
  have hS : va_S A s.heap s.heap [] := va_S.rf
  have hP : va_P (dC, dI) clsL [(h0, .inr (6, [.int v_thrown, .ref a_words, .int v_size, .ref a_rules, .int v_entries, .int v_outcome, .int v_pc, .int v_pcLabel, .ref a_registers, .ref a_registerLabels, .ref a_memory, .ref a_memoryLabels, .ref a_waiting, .ref a_waitingLabels, .int v_wait, .ref a_out, .ref a_outLabels, .int v_went, .int v_done, .int v_misses, .ref a_keys, .int v_known, .int v_group, .ref a_labels])), (a_memory, .inl (cI, 64, .inl g_memory)), (a_memoryLabels, .inl (cI, 64, .inl g_memoryLabels))] s.heap := hP
  have hl := lv_entry ([.ref h0, .int x_p0, .int x_p1, .int x_p2]) (n := 4) (Nat.le_of_ble_eq_true rfl)
  rw [lg_entry_eq]
  generalize (lg_sl ([.ref h0, .int x_p0, .int x_p1, .int x_p2]) ++ List.replicate (4 - (lg_sl ([.ref h0, .int x_p0, .int x_p1, .int x_p2])).length) Slot.unset).toArray = ls at hl ⊢
  have hl : lv_has ls 4 [(0, .ref h0), (1, .int x_p0), (2, .int x_p1), (3, .int x_p2)] := hl
  refine lv_aload_n hx hb d_Mo_poke_0 rfl (lv_at hl 0 rfl) ?_
  refine lv_iload_n hx hb d_Mo_poke_1 rfl (lv_at hl 1 rfl) ?_
  refine lv_if_lt (tgt := 11) hx hb d_Mo_poke_2 (by decide) (fun c_1 => ?_) (fun c_1 => ?_)
  · refine lv_iconst (v := 1) hx hb d_Mo_poke_11 (by decide) ?_
    refine lv_goto (tgt := 16) hx hb d_Mo_poke_12 (by decide) ?_
    refine va_put (D := (dC, dI)) (ci := 6) (v := .int 1) (ty := .int) (C := "LabelledCoreModel") (T := T_Mo) (N := 24) hx hb hts in_Mo t_Mo ty_Mo nm_Mo hown hK hP hD hS 0 rfl rfl 0 (by decide) (hts _ wm_956) (fun _ h9 => h9) rfl (by decide +kernel) rfl rfl (Nat.le_of_ble_eq_true rfl) d_Mo_poke_16 (fun H locs hP hD hS => ?_)
    have hP : va_P (dC, dI) clsL [(h0, .inr (6, [.int 1, .ref a_words, .int v_size, .ref a_rules, .int v_entries, .int v_outcome, .int v_pc, .int v_pcLabel, .ref a_registers, .ref a_registerLabels, .ref a_memory, .ref a_memoryLabels, .ref a_waiting, .ref a_waitingLabels, .int v_wait, .ref a_out, .ref a_outLabels, .int v_went, .int v_done, .int v_misses, .ref a_keys, .int v_known, .int v_group, .ref a_labels])), (a_memory, .inl (cI, 64, .inl g_memory)), (a_memoryLabels, .inl (cI, 64, .inl g_memoryLabels))] H := hP
    have hD : va_D A [(h0, .inr (6, [.int 1, .ref a_words, .int v_size, .ref a_rules, .int v_entries, .int v_outcome, .int v_pc, .int v_pcLabel, .ref a_registers, .ref a_registerLabels, .ref a_memory, .ref a_memoryLabels, .ref a_waiting, .ref a_waitingLabels, .int v_wait, .ref a_out, .ref a_outLabels, .int v_went, .int v_done, .int v_misses, .ref a_keys, .int v_known, .int v_group, .ref a_labels])), (a_memory, .inl (cI, 64, .inl g_memory)), (a_memoryLabels, .inl (cI, 64, .inl g_memoryLabels))] := hD
    refine lv_aload_n hx hb d_Mo_poke_19 rfl (lv_at hl 0 rfl) ?_
    refine va_get (D := (dC, dI)) (ci := 6) (v := .int 1) (C := "LabelledCoreModel") (T := T_Mo) (N := 24) hx hb hts in_Mo hown hK hP 0 rfl rfl 0 (by decide) (hts _ wm_956) (fun _ h9 => h9) rfl d_Mo_poke_20 ?_
    refine lv_if_ne (tgt := 40) hx hb d_Mo_poke_23 (by decide) (fun c_2 => ?_) (fun c_2 => absurd c_2 (by decide))
    have ef : (f_Mo_poke g_memory g_memoryLabels x_p0 x_p1 x_p2) = ((1, g_memory, g_memoryLabels) : Int32 × (Nat → Int32) × (Nat → Int32)) := (if_pos c_1).trans rfl
    have hP9 := hP.sub (ws' := [(h0, .inr (6, [.int 1, .ref a_words, .int v_size, .ref a_rules, .int v_entries, .int v_outcome, .int v_pc, .int v_pcLabel, .ref a_registers, .ref a_registerLabels, .ref a_memory, .ref a_memoryLabels, .ref a_waiting, .ref a_waitingLabels, .int v_wait, .ref a_out, .ref a_outLabels, .int v_went, .int v_done, .int v_misses, .ref a_keys, .int v_known, .int v_group, .ref a_labels])), (a_memory, .inl (cI, 64, .inl g_memory)), (a_memoryLabels, .inl (cI, 64, .inl g_memoryLabels))]) [0, 1, 2] rfl
    have hD9 := hD.sub (ws' := [(h0, .inr (6, [.int 1, .ref a_words, .int v_size, .ref a_rules, .int v_entries, .int v_outcome, .int v_pc, .int v_pcLabel, .ref a_registers, .ref a_registerLabels, .ref a_memory, .ref a_memoryLabels, .ref a_waiting, .ref a_waitingLabels, .int v_wait, .ref a_out, .ref a_outLabels, .int v_went, .int v_done, .int v_misses, .ref a_keys, .int v_known, .int v_group, .ref a_labels])), (a_memory, .inl (cI, 64, .inl g_memory)), (a_memoryLabels, .inl (cI, 64, .inl g_memoryLabels))]) [0, 1, 2] (by decide) rfl
    exact W.vret hx hb hr (fun t ht hW => ⟨⟨(), rfl, trivial, by rw [ef, ht]; exact hP9, va_K.moved hW.alike hK, by rw [ef]; exact hD9⟩, hS.F ht⟩) hS.2.2 d_Mo_poke_40
  · refine lv_iload_n hx hb d_Mo_poke_5 rfl (lv_at hl 1 rfl) ?_
    refine lv_bipush (v := 63) hx hb d_Mo_poke_6 (by decide) ?_
    refine lv_icmp_le (tgt := 15) hx hb d_Mo_poke_8 (by decide) (fun c_3 => ?_) (fun c_3 => ?_)
    · refine lv_iconst (v := 0) hx hb d_Mo_poke_15 (by decide) ?_
      refine va_put (D := (dC, dI)) (ci := 6) (v := .int 0) (ty := .int) (C := "LabelledCoreModel") (T := T_Mo) (N := 24) hx hb hts in_Mo t_Mo ty_Mo nm_Mo hown hK hP hD hS 0 rfl rfl 0 (by decide) (hts _ wm_956) (fun _ h9 => h9) rfl (by decide +kernel) rfl rfl (Nat.le_of_ble_eq_true rfl) d_Mo_poke_16 (fun H locs hP hD hS => ?_)
      have hP : va_P (dC, dI) clsL [(h0, .inr (6, [.int 0, .ref a_words, .int v_size, .ref a_rules, .int v_entries, .int v_outcome, .int v_pc, .int v_pcLabel, .ref a_registers, .ref a_registerLabels, .ref a_memory, .ref a_memoryLabels, .ref a_waiting, .ref a_waitingLabels, .int v_wait, .ref a_out, .ref a_outLabels, .int v_went, .int v_done, .int v_misses, .ref a_keys, .int v_known, .int v_group, .ref a_labels])), (a_memory, .inl (cI, 64, .inl g_memory)), (a_memoryLabels, .inl (cI, 64, .inl g_memoryLabels))] H := hP
      have hD : va_D A [(h0, .inr (6, [.int 0, .ref a_words, .int v_size, .ref a_rules, .int v_entries, .int v_outcome, .int v_pc, .int v_pcLabel, .ref a_registers, .ref a_registerLabels, .ref a_memory, .ref a_memoryLabels, .ref a_waiting, .ref a_waitingLabels, .int v_wait, .ref a_out, .ref a_outLabels, .int v_went, .int v_done, .int v_misses, .ref a_keys, .int v_known, .int v_group, .ref a_labels])), (a_memory, .inl (cI, 64, .inl g_memory)), (a_memoryLabels, .inl (cI, 64, .inl g_memoryLabels))] := hD
      refine lv_aload_n hx hb d_Mo_poke_19 rfl (lv_at hl 0 rfl) ?_
      refine va_get (D := (dC, dI)) (ci := 6) (v := .int 0) (C := "LabelledCoreModel") (T := T_Mo) (N := 24) hx hb hts in_Mo hown hK hP 0 rfl rfl 0 (by decide) (hts _ wm_956) (fun _ h9 => h9) rfl d_Mo_poke_20 ?_
      refine lv_if_ne (tgt := 40) hx hb d_Mo_poke_23 (by decide) (fun c_4 => absurd (by decide) c_4) (fun c_4 => ?_)
      refine lv_aload_n hx hb d_Mo_poke_26 rfl (lv_at hl 0 rfl) ?_
      refine va_get (D := (dC, dI)) (ci := 6) (v := .ref a_memory) (C := "LabelledCoreModel") (T := T_Mo) (N := 24) hx hb hts in_Mo hown hK hP 0 rfl rfl 10 (by decide) (hts _ wm_966) (fun _ h9 => h9) rfl d_Mo_poke_27 ?_
      refine lv_iload_n hx hb d_Mo_poke_30 rfl (lv_at hl 1 rfl) ?_
      refine lv_iload_n hx hb d_Mo_poke_31 rfl (lv_at hl 2 rfl) ?_
      refine va_iast hx hb hK hP hD hS 1 0 rfl rfl (hs_32_0 c_1 c_3) d_Mo_poke_32 (fun H locs hP hD hS => ?_)
      have hP : va_P (dC, dI) clsL [(h0, .inr (6, [.int 0, .ref a_words, .int v_size, .ref a_rules, .int v_entries, .int v_outcome, .int v_pc, .int v_pcLabel, .ref a_registers, .ref a_registerLabels, .ref a_memory, .ref a_memoryLabels, .ref a_waiting, .ref a_waitingLabels, .int v_wait, .ref a_out, .ref a_outLabels, .int v_went, .int v_done, .int v_misses, .ref a_keys, .int v_known, .int v_group, .ref a_labels])), (a_memory, .inl (cI, 64, .inl (upd g_memory (Int32.toNatClampNeg x_p0) x_p1))), (a_memoryLabels, .inl (cI, 64, .inl g_memoryLabels))] H := hP
      have hD : va_D A [(h0, .inr (6, [.int 0, .ref a_words, .int v_size, .ref a_rules, .int v_entries, .int v_outcome, .int v_pc, .int v_pcLabel, .ref a_registers, .ref a_registerLabels, .ref a_memory, .ref a_memoryLabels, .ref a_waiting, .ref a_waitingLabels, .int v_wait, .ref a_out, .ref a_outLabels, .int v_went, .int v_done, .int v_misses, .ref a_keys, .int v_known, .int v_group, .ref a_labels])), (a_memory, .inl (cI, 64, .inl (upd g_memory (Int32.toNatClampNeg x_p0) x_p1))), (a_memoryLabels, .inl (cI, 64, .inl g_memoryLabels))] := hD
      refine lv_aload_n hx hb d_Mo_poke_33 rfl (lv_at hl 0 rfl) ?_
      refine va_get (D := (dC, dI)) (ci := 6) (v := .ref a_memoryLabels) (C := "LabelledCoreModel") (T := T_Mo) (N := 24) hx hb hts in_Mo hown hK hP 0 rfl rfl 11 (by decide) (hts _ wm_967) (fun _ h9 => h9) rfl d_Mo_poke_34 ?_
      refine lv_iload_n hx hb d_Mo_poke_37 rfl (lv_at hl 1 rfl) ?_
      refine lv_iload_n hx hb d_Mo_poke_38 rfl (lv_at hl 3 rfl) ?_
      refine va_iast hx hb hK hP hD hS 2 0 rfl rfl (hs_32_0 c_1 c_3) d_Mo_poke_39 (fun H locs hP hD hS => ?_)
      have hP : va_P (dC, dI) clsL [(h0, .inr (6, [.int 0, .ref a_words, .int v_size, .ref a_rules, .int v_entries, .int v_outcome, .int v_pc, .int v_pcLabel, .ref a_registers, .ref a_registerLabels, .ref a_memory, .ref a_memoryLabels, .ref a_waiting, .ref a_waitingLabels, .int v_wait, .ref a_out, .ref a_outLabels, .int v_went, .int v_done, .int v_misses, .ref a_keys, .int v_known, .int v_group, .ref a_labels])), (a_memory, .inl (cI, 64, .inl (upd g_memory (Int32.toNatClampNeg x_p0) x_p1))), (a_memoryLabels, .inl (cI, 64, .inl (upd g_memoryLabels (Int32.toNatClampNeg x_p0) x_p2)))] H := hP
      have hD : va_D A [(h0, .inr (6, [.int 0, .ref a_words, .int v_size, .ref a_rules, .int v_entries, .int v_outcome, .int v_pc, .int v_pcLabel, .ref a_registers, .ref a_registerLabels, .ref a_memory, .ref a_memoryLabels, .ref a_waiting, .ref a_waitingLabels, .int v_wait, .ref a_out, .ref a_outLabels, .int v_went, .int v_done, .int v_misses, .ref a_keys, .int v_known, .int v_group, .ref a_labels])), (a_memory, .inl (cI, 64, .inl (upd g_memory (Int32.toNatClampNeg x_p0) x_p1))), (a_memoryLabels, .inl (cI, 64, .inl (upd g_memoryLabels (Int32.toNatClampNeg x_p0) x_p2)))] := hD
      have ef : (f_Mo_poke g_memory g_memoryLabels x_p0 x_p1 x_p2) = ((0, (upd g_memory (Int32.toNatClampNeg x_p0) x_p1), (upd g_memoryLabels (Int32.toNatClampNeg x_p0) x_p2)) : Int32 × (Nat → Int32) × (Nat → Int32)) := (if_neg c_1).trans ((if_pos c_3).trans rfl)
      have hP9 := hP.sub (ws' := [(h0, .inr (6, [.int 0, .ref a_words, .int v_size, .ref a_rules, .int v_entries, .int v_outcome, .int v_pc, .int v_pcLabel, .ref a_registers, .ref a_registerLabels, .ref a_memory, .ref a_memoryLabels, .ref a_waiting, .ref a_waitingLabels, .int v_wait, .ref a_out, .ref a_outLabels, .int v_went, .int v_done, .int v_misses, .ref a_keys, .int v_known, .int v_group, .ref a_labels])), (a_memory, .inl (cI, 64, .inl (upd g_memory (Int32.toNatClampNeg x_p0) x_p1))), (a_memoryLabels, .inl (cI, 64, .inl (upd g_memoryLabels (Int32.toNatClampNeg x_p0) x_p2)))]) [0, 1, 2] rfl
      have hD9 := hD.sub (ws' := [(h0, .inr (6, [.int 0, .ref a_words, .int v_size, .ref a_rules, .int v_entries, .int v_outcome, .int v_pc, .int v_pcLabel, .ref a_registers, .ref a_registerLabels, .ref a_memory, .ref a_memoryLabels, .ref a_waiting, .ref a_waitingLabels, .int v_wait, .ref a_out, .ref a_outLabels, .int v_went, .int v_done, .int v_misses, .ref a_keys, .int v_known, .int v_group, .ref a_labels])), (a_memory, .inl (cI, 64, .inl (upd g_memory (Int32.toNatClampNeg x_p0) x_p1))), (a_memoryLabels, .inl (cI, 64, .inl (upd g_memoryLabels (Int32.toNatClampNeg x_p0) x_p2)))]) [0, 1, 2] (by decide) rfl
      exact W.vret hx hb hr (fun t ht hW => ⟨⟨(), rfl, trivial, by rw [ef, ht]; exact hP9, va_K.moved hW.alike hK, by rw [ef]; exact hD9⟩, hS.F ht⟩) hS.2.2 d_Mo_poke_40
    · refine lv_iconst (v := 1) hx hb d_Mo_poke_11 (by decide) ?_
      refine lv_goto (tgt := 16) hx hb d_Mo_poke_12 (by decide) ?_
      refine va_put (D := (dC, dI)) (ci := 6) (v := .int 1) (ty := .int) (C := "LabelledCoreModel") (T := T_Mo) (N := 24) hx hb hts in_Mo t_Mo ty_Mo nm_Mo hown hK hP hD hS 0 rfl rfl 0 (by decide) (hts _ wm_956) (fun _ h9 => h9) rfl (by decide +kernel) rfl rfl (Nat.le_of_ble_eq_true rfl) d_Mo_poke_16 (fun H locs hP hD hS => ?_)
      have hP : va_P (dC, dI) clsL [(h0, .inr (6, [.int 1, .ref a_words, .int v_size, .ref a_rules, .int v_entries, .int v_outcome, .int v_pc, .int v_pcLabel, .ref a_registers, .ref a_registerLabels, .ref a_memory, .ref a_memoryLabels, .ref a_waiting, .ref a_waitingLabels, .int v_wait, .ref a_out, .ref a_outLabels, .int v_went, .int v_done, .int v_misses, .ref a_keys, .int v_known, .int v_group, .ref a_labels])), (a_memory, .inl (cI, 64, .inl g_memory)), (a_memoryLabels, .inl (cI, 64, .inl g_memoryLabels))] H := hP
      have hD : va_D A [(h0, .inr (6, [.int 1, .ref a_words, .int v_size, .ref a_rules, .int v_entries, .int v_outcome, .int v_pc, .int v_pcLabel, .ref a_registers, .ref a_registerLabels, .ref a_memory, .ref a_memoryLabels, .ref a_waiting, .ref a_waitingLabels, .int v_wait, .ref a_out, .ref a_outLabels, .int v_went, .int v_done, .int v_misses, .ref a_keys, .int v_known, .int v_group, .ref a_labels])), (a_memory, .inl (cI, 64, .inl g_memory)), (a_memoryLabels, .inl (cI, 64, .inl g_memoryLabels))] := hD
      refine lv_aload_n hx hb d_Mo_poke_19 rfl (lv_at hl 0 rfl) ?_
      refine va_get (D := (dC, dI)) (ci := 6) (v := .int 1) (C := "LabelledCoreModel") (T := T_Mo) (N := 24) hx hb hts in_Mo hown hK hP 0 rfl rfl 0 (by decide) (hts _ wm_956) (fun _ h9 => h9) rfl d_Mo_poke_20 ?_
      refine lv_if_ne (tgt := 40) hx hb d_Mo_poke_23 (by decide) (fun c_5 => ?_) (fun c_5 => absurd c_5 (by decide))
      have ef : (f_Mo_poke g_memory g_memoryLabels x_p0 x_p1 x_p2) = ((1, g_memory, g_memoryLabels) : Int32 × (Nat → Int32) × (Nat → Int32)) := (if_neg c_1).trans ((if_neg c_3).trans rfl)
      have hP9 := hP.sub (ws' := [(h0, .inr (6, [.int 1, .ref a_words, .int v_size, .ref a_rules, .int v_entries, .int v_outcome, .int v_pc, .int v_pcLabel, .ref a_registers, .ref a_registerLabels, .ref a_memory, .ref a_memoryLabels, .ref a_waiting, .ref a_waitingLabels, .int v_wait, .ref a_out, .ref a_outLabels, .int v_went, .int v_done, .int v_misses, .ref a_keys, .int v_known, .int v_group, .ref a_labels])), (a_memory, .inl (cI, 64, .inl g_memory)), (a_memoryLabels, .inl (cI, 64, .inl g_memoryLabels))]) [0, 1, 2] rfl
      have hD9 := hD.sub (ws' := [(h0, .inr (6, [.int 1, .ref a_words, .int v_size, .ref a_rules, .int v_entries, .int v_outcome, .int v_pc, .int v_pcLabel, .ref a_registers, .ref a_registerLabels, .ref a_memory, .ref a_memoryLabels, .ref a_waiting, .ref a_waitingLabels, .int v_wait, .ref a_out, .ref a_outLabels, .int v_went, .int v_done, .int v_misses, .ref a_keys, .int v_known, .int v_group, .ref a_labels])), (a_memory, .inl (cI, 64, .inl g_memory)), (a_memoryLabels, .inl (cI, 64, .inl g_memoryLabels))]) [0, 1, 2] (by decide) rfl
      exact W.vret hx hb hr (fun t ht hW => ⟨⟨(), rfl, trivial, by rw [ef, ht]; exact hP9, va_K.moved hW.alike hK, by rw [ef]; exact hD9⟩, hS.F ht⟩) hS.2.2 d_Mo_poke_40
def f_Mo_input (v_wait : Int32) (g_waiting : Nat → Int32) (g_waitingLabels : Nat → Int32) (x_p0 : Int32) (x_p1 : Int32) : Int32 × Int32 × (Nat → Int32) × (Nat → Int32) :=
  if v_wait = 64 then
    ((-1), v_wait, g_waiting, g_waitingLabels)
  else
    ((v_wait + 1), (v_wait + 1), (upd g_waiting (Int32.toNatClampNeg v_wait) x_p0), (upd g_waitingLabels (Int32.toNatClampNeg v_wait) x_p1))
set_option maxHeartbeats 4000000 in
set_option maxRecDepth 100000 in
theorem ct_Mo_input (l : Launch) (dC : Nat → ClassId) (dI : Nat → Nat → Nat) (cI : ClassId) (sz : Nat) (h0 a_words a_rules a_registers a_registerLabels a_memory a_memoryLabels a_waiting a_waitingLabels a_out a_outLabels a_keys a_labels : Nat) (v_thrown : Int32) (v_size : Int32) (v_entries : Int32) (v_outcome : Int32) (v_pc : Int32) (v_pcLabel : Int32) (v_wait : Int32) (v_went : Int32) (v_done : Int32) (v_misses : Int32) (v_known : Int32) (v_group : Int32) (g_waiting : Nat → Int32) (g_waitingLabels : Nat → Int32) (x_p0 : Int32) (x_p1 : Int32) (hs_25_0 : (¬ v_wait = 64) → vp_in v_wait 64) : Met l y_Mo_input w_Mo_input ({ frames := 0, cells := 0, slots := 0, locals := 0 }) (pcW dC dI cI [(h0, .inr (6, [.int v_thrown, .ref a_words, .int v_size, .ref a_rules, .int v_entries, .int v_outcome, .int v_pc, .int v_pcLabel, .ref a_registers, .ref a_registerLabels, .ref a_memory, .ref a_memoryLabels, .ref a_waiting, .ref a_waitingLabels, .int v_wait, .ref a_out, .ref a_outLabels, .int v_went, .int v_done, .int v_misses, .ref a_keys, .int v_known, .int v_group, .ref a_labels])), (a_waiting, .inl (cI, 64, .inl g_waiting)), (a_waitingLabels, .inl (cI, 64, .inl g_waitingLabels))] sz [.ref h0, .int x_p0, .int x_p1]) (va_Qi (fun (r : Int32) (_ : Unit) => r = (f_Mo_input v_wait g_waiting g_waitingLabels x_p0 x_p1).1) (fun _ t => atW dC dI cI [(h0, .inr (6, [.int 0, .ref a_words, .int v_size, .ref a_rules, .int v_entries, .int v_outcome, .int v_pc, .int v_pcLabel, .ref a_registers, .ref a_registerLabels, .ref a_memory, .ref a_memoryLabels, .ref a_waiting, .ref a_waitingLabels, .int ((f_Mo_input v_wait g_waiting g_waitingLabels x_p0 x_p1).2.1), .ref a_out, .ref a_outLabels, .int v_went, .int v_done, .int v_misses, .ref a_keys, .int v_known, .int v_group, .ref a_labels])), (a_waiting, .inl (cI, 64, .inl ((f_Mo_input v_wait g_waiting g_waitingLabels x_p0 x_p1).2.2.1))), (a_waitingLabels, .inl (cI, 64, .inl ((f_Mo_input v_wait g_waiting g_waitingLabels x_p0 x_p1).2.2.2)))] (va_A [(h0, .inr (6, [.int v_thrown, .ref a_words, .int v_size, .ref a_rules, .int v_entries, .int v_outcome, .int v_pc, .int v_pcLabel, .ref a_registers, .ref a_registerLabels, .ref a_memory, .ref a_memoryLabels, .ref a_waiting, .ref a_waitingLabels, .int v_wait, .ref a_out, .ref a_outLabels, .int v_went, .int v_done, .int v_misses, .ref a_keys, .int v_known, .int v_group, .ref a_labels])), (a_waiting, .inl (cI, 64, .inl g_waiting)), (a_waitingLabels, .inl (cI, 64, .inl g_waitingLabels))] sz) t) (va_A [(h0, .inr (6, [.int v_thrown, .ref a_words, .int v_size, .ref a_rules, .int v_entries, .int v_outcome, .int v_pc, .int v_pcLabel, .ref a_registers, .ref a_registerLabels, .ref a_memory, .ref a_memoryLabels, .ref a_waiting, .ref a_waitingLabels, .int v_wait, .ref a_out, .ref a_outLabels, .int v_went, .int v_done, .int v_misses, .ref a_keys, .int v_known, .int v_group, .ref a_labels])), (a_waiting, .inl (cI, 64, .inl g_waiting)), (a_waitingLabels, .inl (cI, 64, .inl g_waitingLabels))] sz)) 0 0 (va_A [(h0, .inr (6, [.int v_thrown, .ref a_words, .int v_size, .ref a_rules, .int v_entries, .int v_outcome, .int v_pc, .int v_pcLabel, .ref a_registers, .ref a_registerLabels, .ref a_memory, .ref a_memoryLabels, .ref a_waiting, .ref a_waitingLabels, .int v_wait, .ref a_out, .ref a_outLabels, .int v_went, .int v_done, .int v_misses, .ref a_keys, .int v_known, .int v_group, .ref a_labels])), (a_waiting, .inl (cI, 64, .inl g_waiting)), (a_waitingLabels, .inl (cI, 64, .inl g_waitingLabels))] sz) := by
  refine Met.ofW (cc := c_Mo_input) (maxL := 3) (ret := (some .int)) (by decide) rfl ?_
  intro p e s m args below meth c s₁ B hml hv
  obtain ⟨rfl, hsz, hP, hK, hD0⟩ := hv
  have hx := B.exec
  have hb := B.bytes
  have hr := B.returns
  have hts : ∀ w ∈ wG, w.before _ s = true := fun w h => atoms_spec (ws := w_Mo_input) B.pre w (List.mem_cons_of_mem _ h)
  have hown : s.vm.findClass "LabelledCoreModel" = some m.cls := findClass_of_methodNamed B.named
  have hlocks := B.notSynchronized
  subst hsz
  have hD := hD0.self (sz := s.heap.size)
  generalize hAe : va_A [(h0, .inr (6, [.int v_thrown, .ref a_words, .int v_size, .ref a_rules, .int v_entries, .int v_outcome, .int v_pc, .int v_pcLabel, .ref a_registers, .ref a_registerLabels, .ref a_memory, .ref a_memoryLabels, .ref a_waiting, .ref a_waitingLabels, .int v_wait, .ref a_out, .ref a_outLabels, .int v_went, .int v_done, .int v_misses, .ref a_keys, .int v_known, .int v_group, .ref a_labels])), (a_waiting, .inl (cI, 64, .inl g_waiting)), (a_waitingLabels, .inl (cI, 64, .inl g_waitingLabels))] s.heap.size = A at hD ⊢
  have hA : ∀ q : Nat, s.heap.size ≤ q → A q := fun q h => by rw [← hAe]; exact Or.inr h
  have hS : va_S A s.heap s.heap [] := va_S.rf
  have hP : va_P (dC, dI) clsL [(h0, .inr (6, [.int v_thrown, .ref a_words, .int v_size, .ref a_rules, .int v_entries, .int v_outcome, .int v_pc, .int v_pcLabel, .ref a_registers, .ref a_registerLabels, .ref a_memory, .ref a_memoryLabels, .ref a_waiting, .ref a_waitingLabels, .int v_wait, .ref a_out, .ref a_outLabels, .int v_went, .int v_done, .int v_misses, .ref a_keys, .int v_known, .int v_group, .ref a_labels])), (a_waiting, .inl (cI, 64, .inl g_waiting)), (a_waitingLabels, .inl (cI, 64, .inl g_waitingLabels))] s.heap := hP
  have hl := lv_entry ([.ref h0, .int x_p0, .int x_p1]) (n := 3) (Nat.le_of_ble_eq_true rfl)
  rw [lg_entry_eq]
  generalize (lg_sl ([.ref h0, .int x_p0, .int x_p1]) ++ List.replicate (3 - (lg_sl ([.ref h0, .int x_p0, .int x_p1])).length) Slot.unset).toArray = ls at hl ⊢
  have hl : lv_has ls 3 [(0, .ref h0), (1, .int x_p0), (2, .int x_p1)] := hl
  refine lv_aload_n hx hb d_Mo_input_0 rfl (lv_at hl 0 rfl) ?_
  refine lv_iconst (v := 0) hx hb d_Mo_input_1 (by decide) ?_
  refine va_put (D := (dC, dI)) (ci := 6) (v := .int 0) (ty := .int) (C := "LabelledCoreModel") (T := T_Mo) (N := 24) hx hb hts in_Mo t_Mo ty_Mo nm_Mo hown hK hP hD hS 0 rfl rfl 0 (by decide) (hts _ wm_956) (fun _ h9 => h9) rfl (by decide +kernel) rfl rfl (Nat.le_of_ble_eq_true rfl) d_Mo_input_2 (fun H locs hP hD hS => ?_)
  have hP : va_P (dC, dI) clsL [(h0, .inr (6, [.int 0, .ref a_words, .int v_size, .ref a_rules, .int v_entries, .int v_outcome, .int v_pc, .int v_pcLabel, .ref a_registers, .ref a_registerLabels, .ref a_memory, .ref a_memoryLabels, .ref a_waiting, .ref a_waitingLabels, .int v_wait, .ref a_out, .ref a_outLabels, .int v_went, .int v_done, .int v_misses, .ref a_keys, .int v_known, .int v_group, .ref a_labels])), (a_waiting, .inl (cI, 64, .inl g_waiting)), (a_waitingLabels, .inl (cI, 64, .inl g_waitingLabels))] H := hP
  have hD : va_D A [(h0, .inr (6, [.int 0, .ref a_words, .int v_size, .ref a_rules, .int v_entries, .int v_outcome, .int v_pc, .int v_pcLabel, .ref a_registers, .ref a_registerLabels, .ref a_memory, .ref a_memoryLabels, .ref a_waiting, .ref a_waitingLabels, .int v_wait, .ref a_out, .ref a_outLabels, .int v_went, .int v_done, .int v_misses, .ref a_keys, .int v_known, .int v_group, .ref a_labels])), (a_waiting, .inl (cI, 64, .inl g_waiting)), (a_waitingLabels, .inl (cI, 64, .inl g_waitingLabels))] := hD
  refine lv_aload_n hx hb d_Mo_input_5 rfl (lv_at hl 0 rfl) ?_
  refine va_get (D := (dC, dI)) (ci := 6) (v := .int v_wait) (C := "LabelledCoreModel") (T := T_Mo) (N := 24) hx hb hts in_Mo hown hK hP 0 rfl rfl 14 (by decide) (hts _ wm_970) (fun _ h9 => h9) rfl d_Mo_input_6 ?_
  refine lv_bipush (v := 64) hx hb d_Mo_input_9 (by decide) ?_
  refine lv_icmp_ne (tgt := 16) hx hb d_Mo_input_11 (by decide) (fun c_1 => ?_) (fun c_1 => ?_)
  · refine lv_aload_n hx hb d_Mo_input_16 rfl (lv_at hl 0 rfl) ?_
    refine va_get (D := (dC, dI)) (ci := 6) (v := .ref a_waiting) (C := "LabelledCoreModel") (T := T_Mo) (N := 24) hx hb hts in_Mo hown hK hP 0 rfl rfl 12 (by decide) (hts _ wm_968) (fun _ h9 => h9) rfl d_Mo_input_17 ?_
    refine lv_aload_n hx hb d_Mo_input_20 rfl (lv_at hl 0 rfl) ?_
    refine va_get (D := (dC, dI)) (ci := 6) (v := .int v_wait) (C := "LabelledCoreModel") (T := T_Mo) (N := 24) hx hb hts in_Mo hown hK hP 0 rfl rfl 14 (by decide) (hts _ wm_970) (fun _ h9 => h9) rfl d_Mo_input_21 ?_
    refine lv_iload_n hx hb d_Mo_input_24 rfl (lv_at hl 1 rfl) ?_
    refine va_iast hx hb hK hP hD hS 1 0 rfl rfl (hs_25_0 c_1) d_Mo_input_25 (fun H locs hP hD hS => ?_)
    have hP : va_P (dC, dI) clsL [(h0, .inr (6, [.int 0, .ref a_words, .int v_size, .ref a_rules, .int v_entries, .int v_outcome, .int v_pc, .int v_pcLabel, .ref a_registers, .ref a_registerLabels, .ref a_memory, .ref a_memoryLabels, .ref a_waiting, .ref a_waitingLabels, .int v_wait, .ref a_out, .ref a_outLabels, .int v_went, .int v_done, .int v_misses, .ref a_keys, .int v_known, .int v_group, .ref a_labels])), (a_waiting, .inl (cI, 64, .inl (upd g_waiting (Int32.toNatClampNeg v_wait) x_p0))), (a_waitingLabels, .inl (cI, 64, .inl g_waitingLabels))] H := hP
    have hD : va_D A [(h0, .inr (6, [.int 0, .ref a_words, .int v_size, .ref a_rules, .int v_entries, .int v_outcome, .int v_pc, .int v_pcLabel, .ref a_registers, .ref a_registerLabels, .ref a_memory, .ref a_memoryLabels, .ref a_waiting, .ref a_waitingLabels, .int v_wait, .ref a_out, .ref a_outLabels, .int v_went, .int v_done, .int v_misses, .ref a_keys, .int v_known, .int v_group, .ref a_labels])), (a_waiting, .inl (cI, 64, .inl (upd g_waiting (Int32.toNatClampNeg v_wait) x_p0))), (a_waitingLabels, .inl (cI, 64, .inl g_waitingLabels))] := hD
    refine lv_aload_n hx hb d_Mo_input_26 rfl (lv_at hl 0 rfl) ?_
    refine va_get (D := (dC, dI)) (ci := 6) (v := .ref a_waitingLabels) (C := "LabelledCoreModel") (T := T_Mo) (N := 24) hx hb hts in_Mo hown hK hP 0 rfl rfl 13 (by decide) (hts _ wm_969) (fun _ h9 => h9) rfl d_Mo_input_27 ?_
    refine lv_aload_n hx hb d_Mo_input_30 rfl (lv_at hl 0 rfl) ?_
    refine va_get (D := (dC, dI)) (ci := 6) (v := .int v_wait) (C := "LabelledCoreModel") (T := T_Mo) (N := 24) hx hb hts in_Mo hown hK hP 0 rfl rfl 14 (by decide) (hts _ wm_970) (fun _ h9 => h9) rfl d_Mo_input_31 ?_
    refine lv_iload_n hx hb d_Mo_input_34 rfl (lv_at hl 2 rfl) ?_
    refine va_iast hx hb hK hP hD hS 2 0 rfl rfl (hs_25_0 c_1) d_Mo_input_35 (fun H locs hP hD hS => ?_)
    have hP : va_P (dC, dI) clsL [(h0, .inr (6, [.int 0, .ref a_words, .int v_size, .ref a_rules, .int v_entries, .int v_outcome, .int v_pc, .int v_pcLabel, .ref a_registers, .ref a_registerLabels, .ref a_memory, .ref a_memoryLabels, .ref a_waiting, .ref a_waitingLabels, .int v_wait, .ref a_out, .ref a_outLabels, .int v_went, .int v_done, .int v_misses, .ref a_keys, .int v_known, .int v_group, .ref a_labels])), (a_waiting, .inl (cI, 64, .inl (upd g_waiting (Int32.toNatClampNeg v_wait) x_p0))), (a_waitingLabels, .inl (cI, 64, .inl (upd g_waitingLabels (Int32.toNatClampNeg v_wait) x_p1)))] H := hP
    have hD : va_D A [(h0, .inr (6, [.int 0, .ref a_words, .int v_size, .ref a_rules, .int v_entries, .int v_outcome, .int v_pc, .int v_pcLabel, .ref a_registers, .ref a_registerLabels, .ref a_memory, .ref a_memoryLabels, .ref a_waiting, .ref a_waitingLabels, .int v_wait, .ref a_out, .ref a_outLabels, .int v_went, .int v_done, .int v_misses, .ref a_keys, .int v_known, .int v_group, .ref a_labels])), (a_waiting, .inl (cI, 64, .inl (upd g_waiting (Int32.toNatClampNeg v_wait) x_p0))), (a_waitingLabels, .inl (cI, 64, .inl (upd g_waitingLabels (Int32.toNatClampNeg v_wait) x_p1)))] := hD
    refine lv_aload_n hx hb d_Mo_input_36 rfl (lv_at hl 0 rfl) ?_
    refine lv_dup hx hb d_Mo_input_37 rfl ?_
    refine va_get (D := (dC, dI)) (ci := 6) (v := .int v_wait) (C := "LabelledCoreModel") (T := T_Mo) (N := 24) hx hb hts in_Mo hown hK hP 0 rfl rfl 14 (by decide) (hts _ wm_970) (fun _ h9 => h9) rfl d_Mo_input_38 ?_
    refine lv_iconst (v := 1) hx hb d_Mo_input_41 (by decide) ?_
    refine lv_iadd hx hb d_Mo_input_42 ?_
    refine va_put (D := (dC, dI)) (ci := 6) (v := .int (v_wait + 1)) (ty := .int) (C := "LabelledCoreModel") (T := T_Mo) (N := 24) hx hb hts in_Mo t_Mo ty_Mo nm_Mo hown hK hP hD hS 0 rfl rfl 14 (by decide) (hts _ wm_970) (fun _ h9 => h9) rfl (by decide +kernel) rfl rfl (Nat.le_of_ble_eq_true rfl) d_Mo_input_43 (fun H locs hP hD hS => ?_)
    have hP : va_P (dC, dI) clsL [(h0, .inr (6, [.int 0, .ref a_words, .int v_size, .ref a_rules, .int v_entries, .int v_outcome, .int v_pc, .int v_pcLabel, .ref a_registers, .ref a_registerLabels, .ref a_memory, .ref a_memoryLabels, .ref a_waiting, .ref a_waitingLabels, .int (v_wait + 1), .ref a_out, .ref a_outLabels, .int v_went, .int v_done, .int v_misses, .ref a_keys, .int v_known, .int v_group, .ref a_labels])), (a_waiting, .inl (cI, 64, .inl (upd g_waiting (Int32.toNatClampNeg v_wait) x_p0))), (a_waitingLabels, .inl (cI, 64, .inl (upd g_waitingLabels (Int32.toNatClampNeg v_wait) x_p1)))] H := hP
    have hD : va_D A [(h0, .inr (6, [.int 0, .ref a_words, .int v_size, .ref a_rules, .int v_entries, .int v_outcome, .int v_pc, .int v_pcLabel, .ref a_registers, .ref a_registerLabels, .ref a_memory, .ref a_memoryLabels, .ref a_waiting, .ref a_waitingLabels, .int (v_wait + 1), .ref a_out, .ref a_outLabels, .int v_went, .int v_done, .int v_misses, .ref a_keys, .int v_known, .int v_group, .ref a_labels])), (a_waiting, .inl (cI, 64, .inl (upd g_waiting (Int32.toNatClampNeg v_wait) x_p0))), (a_waitingLabels, .inl (cI, 64, .inl (upd g_waitingLabels (Int32.toNatClampNeg v_wait) x_p1)))] := hD
    refine lv_aload_n hx hb d_Mo_input_46 rfl (lv_at hl 0 rfl) ?_
    refine va_get (D := (dC, dI)) (ci := 6) (v := .int (v_wait + 1)) (C := "LabelledCoreModel") (T := T_Mo) (N := 24) hx hb hts in_Mo hown hK hP 0 rfl rfl 14 (by decide) (hts _ wm_970) (fun _ h9 => h9) rfl d_Mo_input_47 ?_
    have ef : (f_Mo_input v_wait g_waiting g_waitingLabels x_p0 x_p1) = (((v_wait + 1), (v_wait + 1), (upd g_waiting (Int32.toNatClampNeg v_wait) x_p0), (upd g_waitingLabels (Int32.toNatClampNeg v_wait) x_p1)) : Int32 × Int32 × (Nat → Int32) × (Nat → Int32)) := (if_neg c_1).trans rfl
    have hP9 := hP.sub (ws' := [(h0, .inr (6, [.int 0, .ref a_words, .int v_size, .ref a_rules, .int v_entries, .int v_outcome, .int v_pc, .int v_pcLabel, .ref a_registers, .ref a_registerLabels, .ref a_memory, .ref a_memoryLabels, .ref a_waiting, .ref a_waitingLabels, .int (v_wait + 1), .ref a_out, .ref a_outLabels, .int v_went, .int v_done, .int v_misses, .ref a_keys, .int v_known, .int v_group, .ref a_labels])), (a_waiting, .inl (cI, 64, .inl (upd g_waiting (Int32.toNatClampNeg v_wait) x_p0))), (a_waitingLabels, .inl (cI, 64, .inl (upd g_waitingLabels (Int32.toNatClampNeg v_wait) x_p1)))]) [0, 1, 2] rfl
    have hD9 := hD.sub (ws' := [(h0, .inr (6, [.int 0, .ref a_words, .int v_size, .ref a_rules, .int v_entries, .int v_outcome, .int v_pc, .int v_pcLabel, .ref a_registers, .ref a_registerLabels, .ref a_memory, .ref a_memoryLabels, .ref a_waiting, .ref a_waitingLabels, .int (v_wait + 1), .ref a_out, .ref a_outLabels, .int v_went, .int v_done, .int v_misses, .ref a_keys, .int v_known, .int v_group, .ref a_labels])), (a_waiting, .inl (cI, 64, .inl (upd g_waiting (Int32.toNatClampNeg v_wait) x_p0))), (a_waitingLabels, .inl (cI, 64, .inl (upd g_waitingLabels (Int32.toNatClampNeg v_wait) x_p1)))]) [0, 1, 2] (by decide) rfl
    exact W.iret (v := (v_wait + 1)) hx hb hr (fun t ht hW => ⟨⟨(v_wait + 1), (), rfl, by rw [ef], by rw [ef, ht]; exact hP9, va_K.moved hW.alike hK, by rw [ef]; exact hD9⟩, hS.F ht⟩) hS.2.2 d_Mo_input_50
  · refine lv_iconst (v := (-1)) hx hb d_Mo_input_14 (by decide) ?_
    have ef : (f_Mo_input v_wait g_waiting g_waitingLabels x_p0 x_p1) = (((-1), v_wait, g_waiting, g_waitingLabels) : Int32 × Int32 × (Nat → Int32) × (Nat → Int32)) := (if_pos c_1).trans rfl
    have hP9 := hP.sub (ws' := [(h0, .inr (6, [.int 0, .ref a_words, .int v_size, .ref a_rules, .int v_entries, .int v_outcome, .int v_pc, .int v_pcLabel, .ref a_registers, .ref a_registerLabels, .ref a_memory, .ref a_memoryLabels, .ref a_waiting, .ref a_waitingLabels, .int v_wait, .ref a_out, .ref a_outLabels, .int v_went, .int v_done, .int v_misses, .ref a_keys, .int v_known, .int v_group, .ref a_labels])), (a_waiting, .inl (cI, 64, .inl g_waiting)), (a_waitingLabels, .inl (cI, 64, .inl g_waitingLabels))]) [0, 1, 2] rfl
    have hD9 := hD.sub (ws' := [(h0, .inr (6, [.int 0, .ref a_words, .int v_size, .ref a_rules, .int v_entries, .int v_outcome, .int v_pc, .int v_pcLabel, .ref a_registers, .ref a_registerLabels, .ref a_memory, .ref a_memoryLabels, .ref a_waiting, .ref a_waitingLabels, .int v_wait, .ref a_out, .ref a_outLabels, .int v_went, .int v_done, .int v_misses, .ref a_keys, .int v_known, .int v_group, .ref a_labels])), (a_waiting, .inl (cI, 64, .inl g_waiting)), (a_waitingLabels, .inl (cI, 64, .inl g_waitingLabels))]) [0, 1, 2] (by decide) rfl
    exact W.iret (v := (-1)) hx hb hr (fun t ht hW => ⟨⟨(-1), (), rfl, by rw [ef], by rw [ef, ht]; exact hP9, va_K.moved hW.alike hK, by rw [ef]; exact hD9⟩, hS.F ht⟩) hS.2.2 d_Mo_input_15
def f_Mo_register (g_registers : Nat → Int32) (g_registerLabels : Nat → Int32) (x_p0 : Int32) : Int64 × Int32 :=
  if x_p0 < 0 then
    (0, 1)
  else
    if x_p0 ≤ 31 then
      ((f_Mo_both (g_registers (Int32.toNatClampNeg x_p0)) (g_registerLabels (Int32.toNatClampNeg x_p0))), 0)
    else
      (0, 1)
set_option maxHeartbeats 4000000 in
set_option maxRecDepth 100000 in
theorem ct_Mo_register (l : Launch) (dC : Nat → ClassId) (dI : Nat → Nat → Nat) (cI : ClassId) (sz : Nat) (h0 a_words a_rules a_registers a_registerLabels a_memory a_memoryLabels a_waiting a_waitingLabels a_out a_outLabels a_keys a_labels : Nat) (v_thrown : Int32) (v_size : Int32) (v_entries : Int32) (v_outcome : Int32) (v_pc : Int32) (v_pcLabel : Int32) (v_wait : Int32) (v_went : Int32) (v_done : Int32) (v_misses : Int32) (v_known : Int32) (v_group : Int32) (g_registers : Nat → Int32) (g_registerLabels : Nat → Int32) (x_p0 : Int32) (hs_35_0 : (¬ x_p0 < 0) → (x_p0 ≤ 31) → vp_in x_p0 32) : Met l y_Mo_register w_Mo_register ({ frames := 1, cells := 0, slots := 0, locals := 21 }) (pcW dC dI cI [(h0, .inr (6, [.int v_thrown, .ref a_words, .int v_size, .ref a_rules, .int v_entries, .int v_outcome, .int v_pc, .int v_pcLabel, .ref a_registers, .ref a_registerLabels, .ref a_memory, .ref a_memoryLabels, .ref a_waiting, .ref a_waitingLabels, .int v_wait, .ref a_out, .ref a_outLabels, .int v_went, .int v_done, .int v_misses, .ref a_keys, .int v_known, .int v_group, .ref a_labels])), (a_registers, .inl (cI, 32, .inl g_registers)), (a_registerLabels, .inl (cI, 32, .inl g_registerLabels))] sz [.ref h0, .int x_p0]) (va_Ql (fun (r : Int64) (_ : Unit) => r = (f_Mo_register g_registers g_registerLabels x_p0).1) (fun _ t => atW dC dI cI [(h0, .inr (6, [.int ((f_Mo_register g_registers g_registerLabels x_p0).2), .ref a_words, .int v_size, .ref a_rules, .int v_entries, .int v_outcome, .int v_pc, .int v_pcLabel, .ref a_registers, .ref a_registerLabels, .ref a_memory, .ref a_memoryLabels, .ref a_waiting, .ref a_waitingLabels, .int v_wait, .ref a_out, .ref a_outLabels, .int v_went, .int v_done, .int v_misses, .ref a_keys, .int v_known, .int v_group, .ref a_labels])), (a_registers, .inl (cI, 32, .inl g_registers)), (a_registerLabels, .inl (cI, 32, .inl g_registerLabels))] (va_A [(h0, .inr (6, [.int v_thrown, .ref a_words, .int v_size, .ref a_rules, .int v_entries, .int v_outcome, .int v_pc, .int v_pcLabel, .ref a_registers, .ref a_registerLabels, .ref a_memory, .ref a_memoryLabels, .ref a_waiting, .ref a_waitingLabels, .int v_wait, .ref a_out, .ref a_outLabels, .int v_went, .int v_done, .int v_misses, .ref a_keys, .int v_known, .int v_group, .ref a_labels])), (a_registers, .inl (cI, 32, .inl g_registers)), (a_registerLabels, .inl (cI, 32, .inl g_registerLabels))] sz) t) (va_A [(h0, .inr (6, [.int v_thrown, .ref a_words, .int v_size, .ref a_rules, .int v_entries, .int v_outcome, .int v_pc, .int v_pcLabel, .ref a_registers, .ref a_registerLabels, .ref a_memory, .ref a_memoryLabels, .ref a_waiting, .ref a_waitingLabels, .int v_wait, .ref a_out, .ref a_outLabels, .int v_went, .int v_done, .int v_misses, .ref a_keys, .int v_known, .int v_group, .ref a_labels])), (a_registers, .inl (cI, 32, .inl g_registers)), (a_registerLabels, .inl (cI, 32, .inl g_registerLabels))] sz)) 0 0 (va_A [(h0, .inr (6, [.int v_thrown, .ref a_words, .int v_size, .ref a_rules, .int v_entries, .int v_outcome, .int v_pc, .int v_pcLabel, .ref a_registers, .ref a_registerLabels, .ref a_memory, .ref a_memoryLabels, .ref a_waiting, .ref a_waitingLabels, .int v_wait, .ref a_out, .ref a_outLabels, .int v_went, .int v_done, .int v_misses, .ref a_keys, .int v_known, .int v_group, .ref a_labels])), (a_registers, .inl (cI, 32, .inl g_registers)), (a_registerLabels, .inl (cI, 32, .inl g_registerLabels))] sz) := by
  refine Met.ofW (cc := c_Mo_register) (maxL := 2) (ret := (some .long)) (by decide) rfl ?_
  intro p e s m args below meth c s₁ B hml hv
  obtain ⟨rfl, hsz, hP, hK, hD0⟩ := hv
  have hx := B.exec
  have hb := B.bytes
  have hr := B.returns
  have hts : ∀ w ∈ wG, w.before _ s = true := fun w h => atoms_spec (ws := w_Mo_register) B.pre w (List.mem_cons_of_mem _ h)
  have hown : s.vm.findClass "LabelledCoreModel" = some m.cls := findClass_of_methodNamed B.named
  have hlocks := B.notSynchronized
  subst hsz
  have hD := hD0.self (sz := s.heap.size)
  generalize hAe : va_A [(h0, .inr (6, [.int v_thrown, .ref a_words, .int v_size, .ref a_rules, .int v_entries, .int v_outcome, .int v_pc, .int v_pcLabel, .ref a_registers, .ref a_registerLabels, .ref a_memory, .ref a_memoryLabels, .ref a_waiting, .ref a_waitingLabels, .int v_wait, .ref a_out, .ref a_outLabels, .int v_went, .int v_done, .int v_misses, .ref a_keys, .int v_known, .int v_group, .ref a_labels])), (a_registers, .inl (cI, 32, .inl g_registers)), (a_registerLabels, .inl (cI, 32, .inl g_registerLabels))] s.heap.size = A at hD ⊢
  have hA : ∀ q : Nat, s.heap.size ≤ q → A q := fun q h => by rw [← hAe]; exact Or.inr h
  have hS : va_S A s.heap s.heap [] := va_S.rf
  have hP : va_P (dC, dI) clsL [(h0, .inr (6, [.int v_thrown, .ref a_words, .int v_size, .ref a_rules, .int v_entries, .int v_outcome, .int v_pc, .int v_pcLabel, .ref a_registers, .ref a_registerLabels, .ref a_memory, .ref a_memoryLabels, .ref a_waiting, .ref a_waitingLabels, .int v_wait, .ref a_out, .ref a_outLabels, .int v_went, .int v_done, .int v_misses, .ref a_keys, .int v_known, .int v_group, .ref a_labels])), (a_registers, .inl (cI, 32, .inl g_registers)), (a_registerLabels, .inl (cI, 32, .inl g_registerLabels))] s.heap := hP
  have hl := lv_entry ([.ref h0, .int x_p0]) (n := 2) (Nat.le_of_ble_eq_true rfl)
  rw [lg_entry_eq]
  generalize (lg_sl ([.ref h0, .int x_p0]) ++ List.replicate (2 - (lg_sl ([.ref h0, .int x_p0])).length) Slot.unset).toArray = ls at hl ⊢
  have hl : lv_has ls 2 [(0, .ref h0), (1, .int x_p0)] := hl
  refine lv_aload_n hx hb d_Mo_register_0 rfl (lv_at hl 0 rfl) ?_
  refine lv_iload_n hx hb d_Mo_register_1 rfl (lv_at hl 1 rfl) ?_
  refine lv_if_lt (tgt := 11) hx hb d_Mo_register_2 (by decide) (fun c_1 => ?_) (fun c_1 => ?_)
  · refine lv_iconst (v := 1) hx hb d_Mo_register_11 (by decide) ?_
    refine lv_goto (tgt := 16) hx hb d_Mo_register_12 (by decide) ?_
    refine va_put (D := (dC, dI)) (ci := 6) (v := .int 1) (ty := .int) (C := "LabelledCoreModel") (T := T_Mo) (N := 24) hx hb hts in_Mo t_Mo ty_Mo nm_Mo hown hK hP hD hS 0 rfl rfl 0 (by decide) (hts _ wm_956) (fun _ h9 => h9) rfl (by decide +kernel) rfl rfl (Nat.le_of_ble_eq_true rfl) d_Mo_register_16 (fun H locs hP hD hS => ?_)
    have hP : va_P (dC, dI) clsL [(h0, .inr (6, [.int 1, .ref a_words, .int v_size, .ref a_rules, .int v_entries, .int v_outcome, .int v_pc, .int v_pcLabel, .ref a_registers, .ref a_registerLabels, .ref a_memory, .ref a_memoryLabels, .ref a_waiting, .ref a_waitingLabels, .int v_wait, .ref a_out, .ref a_outLabels, .int v_went, .int v_done, .int v_misses, .ref a_keys, .int v_known, .int v_group, .ref a_labels])), (a_registers, .inl (cI, 32, .inl g_registers)), (a_registerLabels, .inl (cI, 32, .inl g_registerLabels))] H := hP
    have hD : va_D A [(h0, .inr (6, [.int 1, .ref a_words, .int v_size, .ref a_rules, .int v_entries, .int v_outcome, .int v_pc, .int v_pcLabel, .ref a_registers, .ref a_registerLabels, .ref a_memory, .ref a_memoryLabels, .ref a_waiting, .ref a_waitingLabels, .int v_wait, .ref a_out, .ref a_outLabels, .int v_went, .int v_done, .int v_misses, .ref a_keys, .int v_known, .int v_group, .ref a_labels])), (a_registers, .inl (cI, 32, .inl g_registers)), (a_registerLabels, .inl (cI, 32, .inl g_registerLabels))] := hD
    refine lv_aload_n hx hb d_Mo_register_19 rfl (lv_at hl 0 rfl) ?_
    refine va_get (D := (dC, dI)) (ci := 6) (v := .int 1) (C := "LabelledCoreModel") (T := T_Mo) (N := 24) hx hb hts in_Mo hown hK hP 0 rfl rfl 0 (by decide) (hts _ wm_956) (fun _ h9 => h9) rfl d_Mo_register_20 ?_
    refine lv_if_le (tgt := 30) hx hb d_Mo_register_23 (by decide) (fun c_2 => absurd c_2 (by decide)) (fun c_2 => ?_)
    refine lv_lconst (v := 0) hx hb d_Mo_register_26 (by decide) ?_
    refine lv_goto (tgt := 45) hx hb d_Mo_register_27 (by decide) ?_
    have ef : (f_Mo_register g_registers g_registerLabels x_p0) = ((0, 1) : Int64 × Int32) := (if_pos c_1).trans rfl
    have hP9 := hP.sub (ws' := [(h0, .inr (6, [.int 1, .ref a_words, .int v_size, .ref a_rules, .int v_entries, .int v_outcome, .int v_pc, .int v_pcLabel, .ref a_registers, .ref a_registerLabels, .ref a_memory, .ref a_memoryLabels, .ref a_waiting, .ref a_waitingLabels, .int v_wait, .ref a_out, .ref a_outLabels, .int v_went, .int v_done, .int v_misses, .ref a_keys, .int v_known, .int v_group, .ref a_labels])), (a_registers, .inl (cI, 32, .inl g_registers)), (a_registerLabels, .inl (cI, 32, .inl g_registerLabels))]) [0, 1, 2] rfl
    have hD9 := hD.sub (ws' := [(h0, .inr (6, [.int 1, .ref a_words, .int v_size, .ref a_rules, .int v_entries, .int v_outcome, .int v_pc, .int v_pcLabel, .ref a_registers, .ref a_registerLabels, .ref a_memory, .ref a_memoryLabels, .ref a_waiting, .ref a_waitingLabels, .int v_wait, .ref a_out, .ref a_outLabels, .int v_went, .int v_done, .int v_misses, .ref a_keys, .int v_known, .int v_group, .ref a_labels])), (a_registers, .inl (cI, 32, .inl g_registers)), (a_registerLabels, .inl (cI, 32, .inl g_registerLabels))]) [0, 1, 2] (by decide) rfl
    exact W.lret (v := 0) hx hb hr (fun t ht hW => ⟨⟨0, (), rfl, by rw [ef], by rw [ef, ht]; exact hP9, va_K.moved hW.alike hK, by rw [ef]; exact hD9⟩, hS.F ht⟩) hS.2.2 d_Mo_register_45
  · refine lv_iload_n hx hb d_Mo_register_5 rfl (lv_at hl 1 rfl) ?_
    refine lv_bipush (v := 31) hx hb d_Mo_register_6 (by decide) ?_
    refine lv_icmp_le (tgt := 15) hx hb d_Mo_register_8 (by decide) (fun c_3 => ?_) (fun c_3 => ?_)
    · refine lv_iconst (v := 0) hx hb d_Mo_register_15 (by decide) ?_
      refine va_put (D := (dC, dI)) (ci := 6) (v := .int 0) (ty := .int) (C := "LabelledCoreModel") (T := T_Mo) (N := 24) hx hb hts in_Mo t_Mo ty_Mo nm_Mo hown hK hP hD hS 0 rfl rfl 0 (by decide) (hts _ wm_956) (fun _ h9 => h9) rfl (by decide +kernel) rfl rfl (Nat.le_of_ble_eq_true rfl) d_Mo_register_16 (fun H locs hP hD hS => ?_)
      have hP : va_P (dC, dI) clsL [(h0, .inr (6, [.int 0, .ref a_words, .int v_size, .ref a_rules, .int v_entries, .int v_outcome, .int v_pc, .int v_pcLabel, .ref a_registers, .ref a_registerLabels, .ref a_memory, .ref a_memoryLabels, .ref a_waiting, .ref a_waitingLabels, .int v_wait, .ref a_out, .ref a_outLabels, .int v_went, .int v_done, .int v_misses, .ref a_keys, .int v_known, .int v_group, .ref a_labels])), (a_registers, .inl (cI, 32, .inl g_registers)), (a_registerLabels, .inl (cI, 32, .inl g_registerLabels))] H := hP
      have hD : va_D A [(h0, .inr (6, [.int 0, .ref a_words, .int v_size, .ref a_rules, .int v_entries, .int v_outcome, .int v_pc, .int v_pcLabel, .ref a_registers, .ref a_registerLabels, .ref a_memory, .ref a_memoryLabels, .ref a_waiting, .ref a_waitingLabels, .int v_wait, .ref a_out, .ref a_outLabels, .int v_went, .int v_done, .int v_misses, .ref a_keys, .int v_known, .int v_group, .ref a_labels])), (a_registers, .inl (cI, 32, .inl g_registers)), (a_registerLabels, .inl (cI, 32, .inl g_registerLabels))] := hD
      refine lv_aload_n hx hb d_Mo_register_19 rfl (lv_at hl 0 rfl) ?_
      refine va_get (D := (dC, dI)) (ci := 6) (v := .int 0) (C := "LabelledCoreModel") (T := T_Mo) (N := 24) hx hb hts in_Mo hown hK hP 0 rfl rfl 0 (by decide) (hts _ wm_956) (fun _ h9 => h9) rfl d_Mo_register_20 ?_
      refine lv_if_le (tgt := 30) hx hb d_Mo_register_23 (by decide) (fun c_4 => ?_) (fun c_4 => absurd (by decide) c_4)
      refine lv_aload_n hx hb d_Mo_register_30 rfl (lv_at hl 0 rfl) ?_
      refine va_get (D := (dC, dI)) (ci := 6) (v := .ref a_registers) (C := "LabelledCoreModel") (T := T_Mo) (N := 24) hx hb hts in_Mo hown hK hP 0 rfl rfl 8 (by decide) (hts _ wm_964) (fun _ h9 => h9) rfl d_Mo_register_31 ?_
      refine lv_iload_n hx hb d_Mo_register_34 rfl (lv_at hl 1 rfl) ?_
      refine va_iald hx hb hK hP 1 0 rfl rfl (hs_35_0 c_1 c_3) d_Mo_register_35 ?_
      refine lv_aload_n hx hb d_Mo_register_36 rfl (lv_at hl 0 rfl) ?_
      refine va_get (D := (dC, dI)) (ci := 6) (v := .ref a_registerLabels) (C := "LabelledCoreModel") (T := T_Mo) (N := 24) hx hb hts in_Mo hown hK hP 0 rfl rfl 9 (by decide) (hts _ wm_965) (fun _ h9 => h9) rfl d_Mo_register_37 ?_
      refine lv_iload_n hx hb d_Mo_register_40 rfl (lv_at hl 1 rfl) ?_
      refine va_iald hx hb hK hP 2 0 rfl rfl (hs_35_0 c_1 c_3) d_Mo_register_41 ?_
      have hPc := hP.sub (ws' := []) [] rfl
      refine callRL ((W.runS (As := [.int (g_registers (Int32.toNatClampNeg x_p0)), .int (g_registerLabels (Int32.toNatClampNeg x_p0))]) (rest := []) ⟨hx, hb, hml, hown, hts⟩ (ct_Mo_both l dC dI cI (g_registers (Int32.toNatClampNeg x_p0)) (g_registerLabels (Int32.toNatClampNeg x_p0))) (va_cwS 2 hts (gS wm_1171 wm_1172 wm_42 wm_1173) rfl rfl rfl (by decide +kernel) ⟨Nat.le_of_ble_eq_true rfl, Nat.le_of_ble_eq_true rfl⟩) ⟨pcR_blind, pcR_pre hPc hK⟩ rfl rfl hl.1 rfl (lv_room (Nat.le_of_ble_eq_true rfl)) d_Mo_register_42 ⟨Nat.le_of_ble_eq_true rfl, Nat.le_of_ble_eq_true rfl⟩)) ?_
      refine W.eq (g2 := F0 m 45 ls [.long (f_Mo_both (g_registers (Int32.toNatClampNeg x_p0)) (g_registerLabels (Int32.toNatClampNeg x_p0)))]) rfl ?_
      have ef : (f_Mo_register g_registers g_registerLabels x_p0) = (((f_Mo_both (g_registers (Int32.toNatClampNeg x_p0)) (g_registerLabels (Int32.toNatClampNeg x_p0))), 0) : Int64 × Int32) := (if_neg c_1).trans ((if_pos c_3).trans rfl)
      have hP9 := hP.sub (ws' := [(h0, .inr (6, [.int 0, .ref a_words, .int v_size, .ref a_rules, .int v_entries, .int v_outcome, .int v_pc, .int v_pcLabel, .ref a_registers, .ref a_registerLabels, .ref a_memory, .ref a_memoryLabels, .ref a_waiting, .ref a_waitingLabels, .int v_wait, .ref a_out, .ref a_outLabels, .int v_went, .int v_done, .int v_misses, .ref a_keys, .int v_known, .int v_group, .ref a_labels])), (a_registers, .inl (cI, 32, .inl g_registers)), (a_registerLabels, .inl (cI, 32, .inl g_registerLabels))]) [0, 1, 2] rfl
      have hD9 := hD.sub (ws' := [(h0, .inr (6, [.int 0, .ref a_words, .int v_size, .ref a_rules, .int v_entries, .int v_outcome, .int v_pc, .int v_pcLabel, .ref a_registers, .ref a_registerLabels, .ref a_memory, .ref a_memoryLabels, .ref a_waiting, .ref a_waitingLabels, .int v_wait, .ref a_out, .ref a_outLabels, .int v_went, .int v_done, .int v_misses, .ref a_keys, .int v_known, .int v_group, .ref a_labels])), (a_registers, .inl (cI, 32, .inl g_registers)), (a_registerLabels, .inl (cI, 32, .inl g_registerLabels))]) [0, 1, 2] (by decide) rfl
      exact W.lret (v := (f_Mo_both (g_registers (Int32.toNatClampNeg x_p0)) (g_registerLabels (Int32.toNatClampNeg x_p0)))) hx hb hr (fun t ht hW => ⟨⟨(f_Mo_both (g_registers (Int32.toNatClampNeg x_p0)) (g_registerLabels (Int32.toNatClampNeg x_p0))), (), rfl, by rw [ef], by rw [ef, ht]; exact hP9, va_K.moved hW.alike hK, by rw [ef]; exact hD9⟩, hS.F ht⟩) hS.2.2 d_Mo_register_45
    · refine lv_iconst (v := 1) hx hb d_Mo_register_11 (by decide) ?_
      refine lv_goto (tgt := 16) hx hb d_Mo_register_12 (by decide) ?_
      refine va_put (D := (dC, dI)) (ci := 6) (v := .int 1) (ty := .int) (C := "LabelledCoreModel") (T := T_Mo) (N := 24) hx hb hts in_Mo t_Mo ty_Mo nm_Mo hown hK hP hD hS 0 rfl rfl 0 (by decide) (hts _ wm_956) (fun _ h9 => h9) rfl (by decide +kernel) rfl rfl (Nat.le_of_ble_eq_true rfl) d_Mo_register_16 (fun H locs hP hD hS => ?_)
      have hP : va_P (dC, dI) clsL [(h0, .inr (6, [.int 1, .ref a_words, .int v_size, .ref a_rules, .int v_entries, .int v_outcome, .int v_pc, .int v_pcLabel, .ref a_registers, .ref a_registerLabels, .ref a_memory, .ref a_memoryLabels, .ref a_waiting, .ref a_waitingLabels, .int v_wait, .ref a_out, .ref a_outLabels, .int v_went, .int v_done, .int v_misses, .ref a_keys, .int v_known, .int v_group, .ref a_labels])), (a_registers, .inl (cI, 32, .inl g_registers)), (a_registerLabels, .inl (cI, 32, .inl g_registerLabels))] H := hP
      have hD : va_D A [(h0, .inr (6, [.int 1, .ref a_words, .int v_size, .ref a_rules, .int v_entries, .int v_outcome, .int v_pc, .int v_pcLabel, .ref a_registers, .ref a_registerLabels, .ref a_memory, .ref a_memoryLabels, .ref a_waiting, .ref a_waitingLabels, .int v_wait, .ref a_out, .ref a_outLabels, .int v_went, .int v_done, .int v_misses, .ref a_keys, .int v_known, .int v_group, .ref a_labels])), (a_registers, .inl (cI, 32, .inl g_registers)), (a_registerLabels, .inl (cI, 32, .inl g_registerLabels))] := hD
      refine lv_aload_n hx hb d_Mo_register_19 rfl (lv_at hl 0 rfl) ?_
      refine va_get (D := (dC, dI)) (ci := 6) (v := .int 1) (C := "LabelledCoreModel") (T := T_Mo) (N := 24) hx hb hts in_Mo hown hK hP 0 rfl rfl 0 (by decide) (hts _ wm_956) (fun _ h9 => h9) rfl d_Mo_register_20 ?_
      refine lv_if_le (tgt := 30) hx hb d_Mo_register_23 (by decide) (fun c_5 => absurd c_5 (by decide)) (fun c_5 => ?_)
      refine lv_lconst (v := 0) hx hb d_Mo_register_26 (by decide) ?_
      refine lv_goto (tgt := 45) hx hb d_Mo_register_27 (by decide) ?_
      have ef : (f_Mo_register g_registers g_registerLabels x_p0) = ((0, 1) : Int64 × Int32) := (if_neg c_1).trans ((if_neg c_3).trans rfl)
      have hP9 := hP.sub (ws' := [(h0, .inr (6, [.int 1, .ref a_words, .int v_size, .ref a_rules, .int v_entries, .int v_outcome, .int v_pc, .int v_pcLabel, .ref a_registers, .ref a_registerLabels, .ref a_memory, .ref a_memoryLabels, .ref a_waiting, .ref a_waitingLabels, .int v_wait, .ref a_out, .ref a_outLabels, .int v_went, .int v_done, .int v_misses, .ref a_keys, .int v_known, .int v_group, .ref a_labels])), (a_registers, .inl (cI, 32, .inl g_registers)), (a_registerLabels, .inl (cI, 32, .inl g_registerLabels))]) [0, 1, 2] rfl
      have hD9 := hD.sub (ws' := [(h0, .inr (6, [.int 1, .ref a_words, .int v_size, .ref a_rules, .int v_entries, .int v_outcome, .int v_pc, .int v_pcLabel, .ref a_registers, .ref a_registerLabels, .ref a_memory, .ref a_memoryLabels, .ref a_waiting, .ref a_waitingLabels, .int v_wait, .ref a_out, .ref a_outLabels, .int v_went, .int v_done, .int v_misses, .ref a_keys, .int v_known, .int v_group, .ref a_labels])), (a_registers, .inl (cI, 32, .inl g_registers)), (a_registerLabels, .inl (cI, 32, .inl g_registerLabels))]) [0, 1, 2] (by decide) rfl
      exact W.lret (v := 0) hx hb hr (fun t ht hW => ⟨⟨0, (), rfl, by rw [ef], by rw [ef, ht]; exact hP9, va_K.moved hW.alike hK, by rw [ef]; exact hD9⟩, hS.F ht⟩) hS.2.2 d_Mo_register_45
def f_Mo_memory (g_memory : Nat → Int32) (g_memoryLabels : Nat → Int32) (x_p0 : Int32) : Int64 × Int32 :=
  if x_p0 < 0 then
    (0, 1)
  else
    if x_p0 ≤ 63 then
      ((f_Mo_both (g_memory (Int32.toNatClampNeg x_p0)) (g_memoryLabels (Int32.toNatClampNeg x_p0))), 0)
    else
      (0, 1)
set_option maxHeartbeats 4000000 in
set_option maxRecDepth 100000 in
theorem ct_Mo_memory (l : Launch) (dC : Nat → ClassId) (dI : Nat → Nat → Nat) (cI : ClassId) (sz : Nat) (h0 a_words a_rules a_registers a_registerLabels a_memory a_memoryLabels a_waiting a_waitingLabels a_out a_outLabels a_keys a_labels : Nat) (v_thrown : Int32) (v_size : Int32) (v_entries : Int32) (v_outcome : Int32) (v_pc : Int32) (v_pcLabel : Int32) (v_wait : Int32) (v_went : Int32) (v_done : Int32) (v_misses : Int32) (v_known : Int32) (v_group : Int32) (g_memory : Nat → Int32) (g_memoryLabels : Nat → Int32) (x_p0 : Int32) (hs_35_0 : (¬ x_p0 < 0) → (x_p0 ≤ 63) → vp_in x_p0 64) : Met l y_Mo_memory w_Mo_memory ({ frames := 1, cells := 0, slots := 0, locals := 21 }) (pcW dC dI cI [(h0, .inr (6, [.int v_thrown, .ref a_words, .int v_size, .ref a_rules, .int v_entries, .int v_outcome, .int v_pc, .int v_pcLabel, .ref a_registers, .ref a_registerLabels, .ref a_memory, .ref a_memoryLabels, .ref a_waiting, .ref a_waitingLabels, .int v_wait, .ref a_out, .ref a_outLabels, .int v_went, .int v_done, .int v_misses, .ref a_keys, .int v_known, .int v_group, .ref a_labels])), (a_memory, .inl (cI, 64, .inl g_memory)), (a_memoryLabels, .inl (cI, 64, .inl g_memoryLabels))] sz [.ref h0, .int x_p0]) (va_Ql (fun (r : Int64) (_ : Unit) => r = (f_Mo_memory g_memory g_memoryLabels x_p0).1) (fun _ t => atW dC dI cI [(h0, .inr (6, [.int ((f_Mo_memory g_memory g_memoryLabels x_p0).2), .ref a_words, .int v_size, .ref a_rules, .int v_entries, .int v_outcome, .int v_pc, .int v_pcLabel, .ref a_registers, .ref a_registerLabels, .ref a_memory, .ref a_memoryLabels, .ref a_waiting, .ref a_waitingLabels, .int v_wait, .ref a_out, .ref a_outLabels, .int v_went, .int v_done, .int v_misses, .ref a_keys, .int v_known, .int v_group, .ref a_labels])), (a_memory, .inl (cI, 64, .inl g_memory)), (a_memoryLabels, .inl (cI, 64, .inl g_memoryLabels))] (va_A [(h0, .inr (6, [.int v_thrown, .ref a_words, .int v_size, .ref a_rules, .int v_entries, .int v_outcome, .int v_pc, .int v_pcLabel, .ref a_registers, .ref a_registerLabels, .ref a_memory, .ref a_memoryLabels, .ref a_waiting, .ref a_waitingLabels, .int v_wait, .ref a_out, .ref a_outLabels, .int v_went, .int v_done, .int v_misses, .ref a_keys, .int v_known, .int v_group, .ref a_labels])), (a_memory, .inl (cI, 64, .inl g_memory)), (a_memoryLabels, .inl (cI, 64, .inl g_memoryLabels))] sz) t) (va_A [(h0, .inr (6, [.int v_thrown, .ref a_words, .int v_size, .ref a_rules, .int v_entries, .int v_outcome, .int v_pc, .int v_pcLabel, .ref a_registers, .ref a_registerLabels, .ref a_memory, .ref a_memoryLabels, .ref a_waiting, .ref a_waitingLabels, .int v_wait, .ref a_out, .ref a_outLabels, .int v_went, .int v_done, .int v_misses, .ref a_keys, .int v_known, .int v_group, .ref a_labels])), (a_memory, .inl (cI, 64, .inl g_memory)), (a_memoryLabels, .inl (cI, 64, .inl g_memoryLabels))] sz)) 0 0 (va_A [(h0, .inr (6, [.int v_thrown, .ref a_words, .int v_size, .ref a_rules, .int v_entries, .int v_outcome, .int v_pc, .int v_pcLabel, .ref a_registers, .ref a_registerLabels, .ref a_memory, .ref a_memoryLabels, .ref a_waiting, .ref a_waitingLabels, .int v_wait, .ref a_out, .ref a_outLabels, .int v_went, .int v_done, .int v_misses, .ref a_keys, .int v_known, .int v_group, .ref a_labels])), (a_memory, .inl (cI, 64, .inl g_memory)), (a_memoryLabels, .inl (cI, 64, .inl g_memoryLabels))] sz) := by
  refine Met.ofW (cc := c_Mo_memory) (maxL := 2) (ret := (some .long)) (by decide) rfl ?_
  intro p e s m args below meth c s₁ B hml hv
  obtain ⟨rfl, hsz, hP, hK, hD0⟩ := hv
  have hx := B.exec
  have hb := B.bytes
  have hr := B.returns
  have hts : ∀ w ∈ wG, w.before _ s = true := fun w h => atoms_spec (ws := w_Mo_memory) B.pre w (List.mem_cons_of_mem _ h)
  have hown : s.vm.findClass "LabelledCoreModel" = some m.cls := findClass_of_methodNamed B.named
  have hlocks := B.notSynchronized
  subst hsz
  have hD := hD0.self (sz := s.heap.size)
  generalize hAe : va_A [(h0, .inr (6, [.int v_thrown, .ref a_words, .int v_size, .ref a_rules, .int v_entries, .int v_outcome, .int v_pc, .int v_pcLabel, .ref a_registers, .ref a_registerLabels, .ref a_memory, .ref a_memoryLabels, .ref a_waiting, .ref a_waitingLabels, .int v_wait, .ref a_out, .ref a_outLabels, .int v_went, .int v_done, .int v_misses, .ref a_keys, .int v_known, .int v_group, .ref a_labels])), (a_memory, .inl (cI, 64, .inl g_memory)), (a_memoryLabels, .inl (cI, 64, .inl g_memoryLabels))] s.heap.size = A at hD ⊢
  have hA : ∀ q : Nat, s.heap.size ≤ q → A q := fun q h => by rw [← hAe]; exact Or.inr h
  have hS : va_S A s.heap s.heap [] := va_S.rf
  have hP : va_P (dC, dI) clsL [(h0, .inr (6, [.int v_thrown, .ref a_words, .int v_size, .ref a_rules, .int v_entries, .int v_outcome, .int v_pc, .int v_pcLabel, .ref a_registers, .ref a_registerLabels, .ref a_memory, .ref a_memoryLabels, .ref a_waiting, .ref a_waitingLabels, .int v_wait, .ref a_out, .ref a_outLabels, .int v_went, .int v_done, .int v_misses, .ref a_keys, .int v_known, .int v_group, .ref a_labels])), (a_memory, .inl (cI, 64, .inl g_memory)), (a_memoryLabels, .inl (cI, 64, .inl g_memoryLabels))] s.heap := hP
  have hl := lv_entry ([.ref h0, .int x_p0]) (n := 2) (Nat.le_of_ble_eq_true rfl)
  rw [lg_entry_eq]
  generalize (lg_sl ([.ref h0, .int x_p0]) ++ List.replicate (2 - (lg_sl ([.ref h0, .int x_p0])).length) Slot.unset).toArray = ls at hl ⊢
  have hl : lv_has ls 2 [(0, .ref h0), (1, .int x_p0)] := hl
  refine lv_aload_n hx hb d_Mo_memory_0 rfl (lv_at hl 0 rfl) ?_
  refine lv_iload_n hx hb d_Mo_memory_1 rfl (lv_at hl 1 rfl) ?_
  refine lv_if_lt (tgt := 11) hx hb d_Mo_memory_2 (by decide) (fun c_1 => ?_) (fun c_1 => ?_)
  · refine lv_iconst (v := 1) hx hb d_Mo_memory_11 (by decide) ?_
    refine lv_goto (tgt := 16) hx hb d_Mo_memory_12 (by decide) ?_
    refine va_put (D := (dC, dI)) (ci := 6) (v := .int 1) (ty := .int) (C := "LabelledCoreModel") (T := T_Mo) (N := 24) hx hb hts in_Mo t_Mo ty_Mo nm_Mo hown hK hP hD hS 0 rfl rfl 0 (by decide) (hts _ wm_956) (fun _ h9 => h9) rfl (by decide +kernel) rfl rfl (Nat.le_of_ble_eq_true rfl) d_Mo_memory_16 (fun H locs hP hD hS => ?_)
    have hP : va_P (dC, dI) clsL [(h0, .inr (6, [.int 1, .ref a_words, .int v_size, .ref a_rules, .int v_entries, .int v_outcome, .int v_pc, .int v_pcLabel, .ref a_registers, .ref a_registerLabels, .ref a_memory, .ref a_memoryLabels, .ref a_waiting, .ref a_waitingLabels, .int v_wait, .ref a_out, .ref a_outLabels, .int v_went, .int v_done, .int v_misses, .ref a_keys, .int v_known, .int v_group, .ref a_labels])), (a_memory, .inl (cI, 64, .inl g_memory)), (a_memoryLabels, .inl (cI, 64, .inl g_memoryLabels))] H := hP
    have hD : va_D A [(h0, .inr (6, [.int 1, .ref a_words, .int v_size, .ref a_rules, .int v_entries, .int v_outcome, .int v_pc, .int v_pcLabel, .ref a_registers, .ref a_registerLabels, .ref a_memory, .ref a_memoryLabels, .ref a_waiting, .ref a_waitingLabels, .int v_wait, .ref a_out, .ref a_outLabels, .int v_went, .int v_done, .int v_misses, .ref a_keys, .int v_known, .int v_group, .ref a_labels])), (a_memory, .inl (cI, 64, .inl g_memory)), (a_memoryLabels, .inl (cI, 64, .inl g_memoryLabels))] := hD
    refine lv_aload_n hx hb d_Mo_memory_19 rfl (lv_at hl 0 rfl) ?_
    refine va_get (D := (dC, dI)) (ci := 6) (v := .int 1) (C := "LabelledCoreModel") (T := T_Mo) (N := 24) hx hb hts in_Mo hown hK hP 0 rfl rfl 0 (by decide) (hts _ wm_956) (fun _ h9 => h9) rfl d_Mo_memory_20 ?_
    refine lv_if_le (tgt := 30) hx hb d_Mo_memory_23 (by decide) (fun c_2 => absurd c_2 (by decide)) (fun c_2 => ?_)
    refine lv_lconst (v := 0) hx hb d_Mo_memory_26 (by decide) ?_
    refine lv_goto (tgt := 45) hx hb d_Mo_memory_27 (by decide) ?_
    have ef : (f_Mo_memory g_memory g_memoryLabels x_p0) = ((0, 1) : Int64 × Int32) := (if_pos c_1).trans rfl
    have hP9 := hP.sub (ws' := [(h0, .inr (6, [.int 1, .ref a_words, .int v_size, .ref a_rules, .int v_entries, .int v_outcome, .int v_pc, .int v_pcLabel, .ref a_registers, .ref a_registerLabels, .ref a_memory, .ref a_memoryLabels, .ref a_waiting, .ref a_waitingLabels, .int v_wait, .ref a_out, .ref a_outLabels, .int v_went, .int v_done, .int v_misses, .ref a_keys, .int v_known, .int v_group, .ref a_labels])), (a_memory, .inl (cI, 64, .inl g_memory)), (a_memoryLabels, .inl (cI, 64, .inl g_memoryLabels))]) [0, 1, 2] rfl
    have hD9 := hD.sub (ws' := [(h0, .inr (6, [.int 1, .ref a_words, .int v_size, .ref a_rules, .int v_entries, .int v_outcome, .int v_pc, .int v_pcLabel, .ref a_registers, .ref a_registerLabels, .ref a_memory, .ref a_memoryLabels, .ref a_waiting, .ref a_waitingLabels, .int v_wait, .ref a_out, .ref a_outLabels, .int v_went, .int v_done, .int v_misses, .ref a_keys, .int v_known, .int v_group, .ref a_labels])), (a_memory, .inl (cI, 64, .inl g_memory)), (a_memoryLabels, .inl (cI, 64, .inl g_memoryLabels))]) [0, 1, 2] (by decide) rfl
    exact W.lret (v := 0) hx hb hr (fun t ht hW => ⟨⟨0, (), rfl, by rw [ef], by rw [ef, ht]; exact hP9, va_K.moved hW.alike hK, by rw [ef]; exact hD9⟩, hS.F ht⟩) hS.2.2 d_Mo_memory_45
  · refine lv_iload_n hx hb d_Mo_memory_5 rfl (lv_at hl 1 rfl) ?_
    refine lv_bipush (v := 63) hx hb d_Mo_memory_6 (by decide) ?_
    refine lv_icmp_le (tgt := 15) hx hb d_Mo_memory_8 (by decide) (fun c_3 => ?_) (fun c_3 => ?_)
    · refine lv_iconst (v := 0) hx hb d_Mo_memory_15 (by decide) ?_
      refine va_put (D := (dC, dI)) (ci := 6) (v := .int 0) (ty := .int) (C := "LabelledCoreModel") (T := T_Mo) (N := 24) hx hb hts in_Mo t_Mo ty_Mo nm_Mo hown hK hP hD hS 0 rfl rfl 0 (by decide) (hts _ wm_956) (fun _ h9 => h9) rfl (by decide +kernel) rfl rfl (Nat.le_of_ble_eq_true rfl) d_Mo_memory_16 (fun H locs hP hD hS => ?_)
      have hP : va_P (dC, dI) clsL [(h0, .inr (6, [.int 0, .ref a_words, .int v_size, .ref a_rules, .int v_entries, .int v_outcome, .int v_pc, .int v_pcLabel, .ref a_registers, .ref a_registerLabels, .ref a_memory, .ref a_memoryLabels, .ref a_waiting, .ref a_waitingLabels, .int v_wait, .ref a_out, .ref a_outLabels, .int v_went, .int v_done, .int v_misses, .ref a_keys, .int v_known, .int v_group, .ref a_labels])), (a_memory, .inl (cI, 64, .inl g_memory)), (a_memoryLabels, .inl (cI, 64, .inl g_memoryLabels))] H := hP
      have hD : va_D A [(h0, .inr (6, [.int 0, .ref a_words, .int v_size, .ref a_rules, .int v_entries, .int v_outcome, .int v_pc, .int v_pcLabel, .ref a_registers, .ref a_registerLabels, .ref a_memory, .ref a_memoryLabels, .ref a_waiting, .ref a_waitingLabels, .int v_wait, .ref a_out, .ref a_outLabels, .int v_went, .int v_done, .int v_misses, .ref a_keys, .int v_known, .int v_group, .ref a_labels])), (a_memory, .inl (cI, 64, .inl g_memory)), (a_memoryLabels, .inl (cI, 64, .inl g_memoryLabels))] := hD
      refine lv_aload_n hx hb d_Mo_memory_19 rfl (lv_at hl 0 rfl) ?_
      refine va_get (D := (dC, dI)) (ci := 6) (v := .int 0) (C := "LabelledCoreModel") (T := T_Mo) (N := 24) hx hb hts in_Mo hown hK hP 0 rfl rfl 0 (by decide) (hts _ wm_956) (fun _ h9 => h9) rfl d_Mo_memory_20 ?_
      refine lv_if_le (tgt := 30) hx hb d_Mo_memory_23 (by decide) (fun c_4 => ?_) (fun c_4 => absurd (by decide) c_4)
      refine lv_aload_n hx hb d_Mo_memory_30 rfl (lv_at hl 0 rfl) ?_
      refine va_get (D := (dC, dI)) (ci := 6) (v := .ref a_memory) (C := "LabelledCoreModel") (T := T_Mo) (N := 24) hx hb hts in_Mo hown hK hP 0 rfl rfl 10 (by decide) (hts _ wm_966) (fun _ h9 => h9) rfl d_Mo_memory_31 ?_
      refine lv_iload_n hx hb d_Mo_memory_34 rfl (lv_at hl 1 rfl) ?_
      refine va_iald hx hb hK hP 1 0 rfl rfl (hs_35_0 c_1 c_3) d_Mo_memory_35 ?_
      refine lv_aload_n hx hb d_Mo_memory_36 rfl (lv_at hl 0 rfl) ?_
      refine va_get (D := (dC, dI)) (ci := 6) (v := .ref a_memoryLabels) (C := "LabelledCoreModel") (T := T_Mo) (N := 24) hx hb hts in_Mo hown hK hP 0 rfl rfl 11 (by decide) (hts _ wm_967) (fun _ h9 => h9) rfl d_Mo_memory_37 ?_
      refine lv_iload_n hx hb d_Mo_memory_40 rfl (lv_at hl 1 rfl) ?_
      refine va_iald hx hb hK hP 2 0 rfl rfl (hs_35_0 c_1 c_3) d_Mo_memory_41 ?_
      have hPc := hP.sub (ws' := []) [] rfl
      refine callRL ((W.runS (As := [.int (g_memory (Int32.toNatClampNeg x_p0)), .int (g_memoryLabels (Int32.toNatClampNeg x_p0))]) (rest := []) ⟨hx, hb, hml, hown, hts⟩ (ct_Mo_both l dC dI cI (g_memory (Int32.toNatClampNeg x_p0)) (g_memoryLabels (Int32.toNatClampNeg x_p0))) (va_cwS 2 hts (gS wm_1171 wm_1172 wm_42 wm_1173) rfl rfl rfl (by decide +kernel) ⟨Nat.le_of_ble_eq_true rfl, Nat.le_of_ble_eq_true rfl⟩) ⟨pcR_blind, pcR_pre hPc hK⟩ rfl rfl hl.1 rfl (lv_room (Nat.le_of_ble_eq_true rfl)) d_Mo_memory_42 ⟨Nat.le_of_ble_eq_true rfl, Nat.le_of_ble_eq_true rfl⟩)) ?_
      refine W.eq (g2 := F0 m 45 ls [.long (f_Mo_both (g_memory (Int32.toNatClampNeg x_p0)) (g_memoryLabels (Int32.toNatClampNeg x_p0)))]) rfl ?_
      have ef : (f_Mo_memory g_memory g_memoryLabels x_p0) = (((f_Mo_both (g_memory (Int32.toNatClampNeg x_p0)) (g_memoryLabels (Int32.toNatClampNeg x_p0))), 0) : Int64 × Int32) := (if_neg c_1).trans ((if_pos c_3).trans rfl)
      have hP9 := hP.sub (ws' := [(h0, .inr (6, [.int 0, .ref a_words, .int v_size, .ref a_rules, .int v_entries, .int v_outcome, .int v_pc, .int v_pcLabel, .ref a_registers, .ref a_registerLabels, .ref a_memory, .ref a_memoryLabels, .ref a_waiting, .ref a_waitingLabels, .int v_wait, .ref a_out, .ref a_outLabels, .int v_went, .int v_done, .int v_misses, .ref a_keys, .int v_known, .int v_group, .ref a_labels])), (a_memory, .inl (cI, 64, .inl g_memory)), (a_memoryLabels, .inl (cI, 64, .inl g_memoryLabels))]) [0, 1, 2] rfl
      have hD9 := hD.sub (ws' := [(h0, .inr (6, [.int 0, .ref a_words, .int v_size, .ref a_rules, .int v_entries, .int v_outcome, .int v_pc, .int v_pcLabel, .ref a_registers, .ref a_registerLabels, .ref a_memory, .ref a_memoryLabels, .ref a_waiting, .ref a_waitingLabels, .int v_wait, .ref a_out, .ref a_outLabels, .int v_went, .int v_done, .int v_misses, .ref a_keys, .int v_known, .int v_group, .ref a_labels])), (a_memory, .inl (cI, 64, .inl g_memory)), (a_memoryLabels, .inl (cI, 64, .inl g_memoryLabels))]) [0, 1, 2] (by decide) rfl
      exact W.lret (v := (f_Mo_both (g_memory (Int32.toNatClampNeg x_p0)) (g_memoryLabels (Int32.toNatClampNeg x_p0)))) hx hb hr (fun t ht hW => ⟨⟨(f_Mo_both (g_memory (Int32.toNatClampNeg x_p0)) (g_memoryLabels (Int32.toNatClampNeg x_p0))), (), rfl, by rw [ef], by rw [ef, ht]; exact hP9, va_K.moved hW.alike hK, by rw [ef]; exact hD9⟩, hS.F ht⟩) hS.2.2 d_Mo_memory_45
    · refine lv_iconst (v := 1) hx hb d_Mo_memory_11 (by decide) ?_
      refine lv_goto (tgt := 16) hx hb d_Mo_memory_12 (by decide) ?_
      refine va_put (D := (dC, dI)) (ci := 6) (v := .int 1) (ty := .int) (C := "LabelledCoreModel") (T := T_Mo) (N := 24) hx hb hts in_Mo t_Mo ty_Mo nm_Mo hown hK hP hD hS 0 rfl rfl 0 (by decide) (hts _ wm_956) (fun _ h9 => h9) rfl (by decide +kernel) rfl rfl (Nat.le_of_ble_eq_true rfl) d_Mo_memory_16 (fun H locs hP hD hS => ?_)
      have hP : va_P (dC, dI) clsL [(h0, .inr (6, [.int 1, .ref a_words, .int v_size, .ref a_rules, .int v_entries, .int v_outcome, .int v_pc, .int v_pcLabel, .ref a_registers, .ref a_registerLabels, .ref a_memory, .ref a_memoryLabels, .ref a_waiting, .ref a_waitingLabels, .int v_wait, .ref a_out, .ref a_outLabels, .int v_went, .int v_done, .int v_misses, .ref a_keys, .int v_known, .int v_group, .ref a_labels])), (a_memory, .inl (cI, 64, .inl g_memory)), (a_memoryLabels, .inl (cI, 64, .inl g_memoryLabels))] H := hP
      have hD : va_D A [(h0, .inr (6, [.int 1, .ref a_words, .int v_size, .ref a_rules, .int v_entries, .int v_outcome, .int v_pc, .int v_pcLabel, .ref a_registers, .ref a_registerLabels, .ref a_memory, .ref a_memoryLabels, .ref a_waiting, .ref a_waitingLabels, .int v_wait, .ref a_out, .ref a_outLabels, .int v_went, .int v_done, .int v_misses, .ref a_keys, .int v_known, .int v_group, .ref a_labels])), (a_memory, .inl (cI, 64, .inl g_memory)), (a_memoryLabels, .inl (cI, 64, .inl g_memoryLabels))] := hD
      refine lv_aload_n hx hb d_Mo_memory_19 rfl (lv_at hl 0 rfl) ?_
      refine va_get (D := (dC, dI)) (ci := 6) (v := .int 1) (C := "LabelledCoreModel") (T := T_Mo) (N := 24) hx hb hts in_Mo hown hK hP 0 rfl rfl 0 (by decide) (hts _ wm_956) (fun _ h9 => h9) rfl d_Mo_memory_20 ?_
      refine lv_if_le (tgt := 30) hx hb d_Mo_memory_23 (by decide) (fun c_5 => absurd c_5 (by decide)) (fun c_5 => ?_)
      refine lv_lconst (v := 0) hx hb d_Mo_memory_26 (by decide) ?_
      refine lv_goto (tgt := 45) hx hb d_Mo_memory_27 (by decide) ?_
      have ef : (f_Mo_memory g_memory g_memoryLabels x_p0) = ((0, 1) : Int64 × Int32) := (if_neg c_1).trans ((if_neg c_3).trans rfl)
      have hP9 := hP.sub (ws' := [(h0, .inr (6, [.int 1, .ref a_words, .int v_size, .ref a_rules, .int v_entries, .int v_outcome, .int v_pc, .int v_pcLabel, .ref a_registers, .ref a_registerLabels, .ref a_memory, .ref a_memoryLabels, .ref a_waiting, .ref a_waitingLabels, .int v_wait, .ref a_out, .ref a_outLabels, .int v_went, .int v_done, .int v_misses, .ref a_keys, .int v_known, .int v_group, .ref a_labels])), (a_memory, .inl (cI, 64, .inl g_memory)), (a_memoryLabels, .inl (cI, 64, .inl g_memoryLabels))]) [0, 1, 2] rfl
      have hD9 := hD.sub (ws' := [(h0, .inr (6, [.int 1, .ref a_words, .int v_size, .ref a_rules, .int v_entries, .int v_outcome, .int v_pc, .int v_pcLabel, .ref a_registers, .ref a_registerLabels, .ref a_memory, .ref a_memoryLabels, .ref a_waiting, .ref a_waitingLabels, .int v_wait, .ref a_out, .ref a_outLabels, .int v_went, .int v_done, .int v_misses, .ref a_keys, .int v_known, .int v_group, .ref a_labels])), (a_memory, .inl (cI, 64, .inl g_memory)), (a_memoryLabels, .inl (cI, 64, .inl g_memoryLabels))]) [0, 1, 2] (by decide) rfl
      exact W.lret (v := 0) hx hb hr (fun t ht hW => ⟨⟨0, (), rfl, by rw [ef], by rw [ef, ht]; exact hP9, va_K.moved hW.alike hK, by rw [ef]; exact hD9⟩, hS.F ht⟩) hS.2.2 d_Mo_memory_45
def f_Mo_output (v_went : Int32) (g_out : Nat → Int32) (g_outLabels : Nat → Int32) (x_p0 : Int32) : Int64 × Int32 :=
  if x_p0 < 0 then
    (0, 1)
  else
    if x_p0 < v_went then
      ((f_Mo_both (g_out (Int32.toNatClampNeg x_p0)) (g_outLabels (Int32.toNatClampNeg x_p0))), 0)
    else
      (0, 1)
set_option maxHeartbeats 4000000 in
set_option maxRecDepth 100000 in
theorem ct_Mo_output (l : Launch) (dC : Nat → ClassId) (dI : Nat → Nat → Nat) (cI : ClassId) (sz : Nat) (h0 a_words a_rules a_registers a_registerLabels a_memory a_memoryLabels a_waiting a_waitingLabels a_out a_outLabels a_keys a_labels : Nat) (v_thrown : Int32) (v_size : Int32) (v_entries : Int32) (v_outcome : Int32) (v_pc : Int32) (v_pcLabel : Int32) (v_wait : Int32) (v_went : Int32) (v_done : Int32) (v_misses : Int32) (v_known : Int32) (v_group : Int32) (g_out : Nat → Int32) (g_outLabels : Nat → Int32) (x_p0 : Int32) (hs_37_0 : (¬ x_p0 < 0) → (x_p0 < v_went) → vp_in x_p0 256) : Met l y_Mo_output w_Mo_output ({ frames := 1, cells := 0, slots := 0, locals := 21 }) (pcW dC dI cI [(h0, .inr (6, [.int v_thrown, .ref a_words, .int v_size, .ref a_rules, .int v_entries, .int v_outcome, .int v_pc, .int v_pcLabel, .ref a_registers, .ref a_registerLabels, .ref a_memory, .ref a_memoryLabels, .ref a_waiting, .ref a_waitingLabels, .int v_wait, .ref a_out, .ref a_outLabels, .int v_went, .int v_done, .int v_misses, .ref a_keys, .int v_known, .int v_group, .ref a_labels])), (a_out, .inl (cI, 256, .inl g_out)), (a_outLabels, .inl (cI, 256, .inl g_outLabels))] sz [.ref h0, .int x_p0]) (va_Ql (fun (r : Int64) (_ : Unit) => r = (f_Mo_output v_went g_out g_outLabels x_p0).1) (fun _ t => atW dC dI cI [(h0, .inr (6, [.int ((f_Mo_output v_went g_out g_outLabels x_p0).2), .ref a_words, .int v_size, .ref a_rules, .int v_entries, .int v_outcome, .int v_pc, .int v_pcLabel, .ref a_registers, .ref a_registerLabels, .ref a_memory, .ref a_memoryLabels, .ref a_waiting, .ref a_waitingLabels, .int v_wait, .ref a_out, .ref a_outLabels, .int v_went, .int v_done, .int v_misses, .ref a_keys, .int v_known, .int v_group, .ref a_labels])), (a_out, .inl (cI, 256, .inl g_out)), (a_outLabels, .inl (cI, 256, .inl g_outLabels))] (va_A [(h0, .inr (6, [.int v_thrown, .ref a_words, .int v_size, .ref a_rules, .int v_entries, .int v_outcome, .int v_pc, .int v_pcLabel, .ref a_registers, .ref a_registerLabels, .ref a_memory, .ref a_memoryLabels, .ref a_waiting, .ref a_waitingLabels, .int v_wait, .ref a_out, .ref a_outLabels, .int v_went, .int v_done, .int v_misses, .ref a_keys, .int v_known, .int v_group, .ref a_labels])), (a_out, .inl (cI, 256, .inl g_out)), (a_outLabels, .inl (cI, 256, .inl g_outLabels))] sz) t) (va_A [(h0, .inr (6, [.int v_thrown, .ref a_words, .int v_size, .ref a_rules, .int v_entries, .int v_outcome, .int v_pc, .int v_pcLabel, .ref a_registers, .ref a_registerLabels, .ref a_memory, .ref a_memoryLabels, .ref a_waiting, .ref a_waitingLabels, .int v_wait, .ref a_out, .ref a_outLabels, .int v_went, .int v_done, .int v_misses, .ref a_keys, .int v_known, .int v_group, .ref a_labels])), (a_out, .inl (cI, 256, .inl g_out)), (a_outLabels, .inl (cI, 256, .inl g_outLabels))] sz)) 0 0 (va_A [(h0, .inr (6, [.int v_thrown, .ref a_words, .int v_size, .ref a_rules, .int v_entries, .int v_outcome, .int v_pc, .int v_pcLabel, .ref a_registers, .ref a_registerLabels, .ref a_memory, .ref a_memoryLabels, .ref a_waiting, .ref a_waitingLabels, .int v_wait, .ref a_out, .ref a_outLabels, .int v_went, .int v_done, .int v_misses, .ref a_keys, .int v_known, .int v_group, .ref a_labels])), (a_out, .inl (cI, 256, .inl g_out)), (a_outLabels, .inl (cI, 256, .inl g_outLabels))] sz) := by
  refine Met.ofW (cc := c_Mo_output) (maxL := 2) (ret := (some .long)) (by decide) rfl ?_
  intro p e s m args below meth c s₁ B hml hv
  obtain ⟨rfl, hsz, hP, hK, hD0⟩ := hv
  have hx := B.exec
  have hb := B.bytes
  have hr := B.returns
  have hts : ∀ w ∈ wG, w.before _ s = true := fun w h => atoms_spec (ws := w_Mo_output) B.pre w (List.mem_cons_of_mem _ h)
  have hown : s.vm.findClass "LabelledCoreModel" = some m.cls := findClass_of_methodNamed B.named
  have hlocks := B.notSynchronized
  subst hsz
  have hD := hD0.self (sz := s.heap.size)
  generalize hAe : va_A [(h0, .inr (6, [.int v_thrown, .ref a_words, .int v_size, .ref a_rules, .int v_entries, .int v_outcome, .int v_pc, .int v_pcLabel, .ref a_registers, .ref a_registerLabels, .ref a_memory, .ref a_memoryLabels, .ref a_waiting, .ref a_waitingLabels, .int v_wait, .ref a_out, .ref a_outLabels, .int v_went, .int v_done, .int v_misses, .ref a_keys, .int v_known, .int v_group, .ref a_labels])), (a_out, .inl (cI, 256, .inl g_out)), (a_outLabels, .inl (cI, 256, .inl g_outLabels))] s.heap.size = A at hD ⊢
  have hA : ∀ q : Nat, s.heap.size ≤ q → A q := fun q h => by rw [← hAe]; exact Or.inr h
  have hS : va_S A s.heap s.heap [] := va_S.rf
  have hP : va_P (dC, dI) clsL [(h0, .inr (6, [.int v_thrown, .ref a_words, .int v_size, .ref a_rules, .int v_entries, .int v_outcome, .int v_pc, .int v_pcLabel, .ref a_registers, .ref a_registerLabels, .ref a_memory, .ref a_memoryLabels, .ref a_waiting, .ref a_waitingLabels, .int v_wait, .ref a_out, .ref a_outLabels, .int v_went, .int v_done, .int v_misses, .ref a_keys, .int v_known, .int v_group, .ref a_labels])), (a_out, .inl (cI, 256, .inl g_out)), (a_outLabels, .inl (cI, 256, .inl g_outLabels))] s.heap := hP
  have hl := lv_entry ([.ref h0, .int x_p0]) (n := 2) (Nat.le_of_ble_eq_true rfl)
  rw [lg_entry_eq]
  generalize (lg_sl ([.ref h0, .int x_p0]) ++ List.replicate (2 - (lg_sl ([.ref h0, .int x_p0])).length) Slot.unset).toArray = ls at hl ⊢
  have hl : lv_has ls 2 [(0, .ref h0), (1, .int x_p0)] := hl
  refine lv_aload_n hx hb d_Mo_output_0 rfl (lv_at hl 0 rfl) ?_
  refine lv_iload_n hx hb d_Mo_output_1 rfl (lv_at hl 1 rfl) ?_
  refine lv_if_lt (tgt := 13) hx hb d_Mo_output_2 (by decide) (fun c_1 => ?_) (fun c_1 => ?_)
  · refine lv_iconst (v := 1) hx hb d_Mo_output_13 (by decide) ?_
    refine lv_goto (tgt := 18) hx hb d_Mo_output_14 (by decide) ?_
    refine va_put (D := (dC, dI)) (ci := 6) (v := .int 1) (ty := .int) (C := "LabelledCoreModel") (T := T_Mo) (N := 24) hx hb hts in_Mo t_Mo ty_Mo nm_Mo hown hK hP hD hS 0 rfl rfl 0 (by decide) (hts _ wm_956) (fun _ h9 => h9) rfl (by decide +kernel) rfl rfl (Nat.le_of_ble_eq_true rfl) d_Mo_output_18 (fun H locs hP hD hS => ?_)
    have hP : va_P (dC, dI) clsL [(h0, .inr (6, [.int 1, .ref a_words, .int v_size, .ref a_rules, .int v_entries, .int v_outcome, .int v_pc, .int v_pcLabel, .ref a_registers, .ref a_registerLabels, .ref a_memory, .ref a_memoryLabels, .ref a_waiting, .ref a_waitingLabels, .int v_wait, .ref a_out, .ref a_outLabels, .int v_went, .int v_done, .int v_misses, .ref a_keys, .int v_known, .int v_group, .ref a_labels])), (a_out, .inl (cI, 256, .inl g_out)), (a_outLabels, .inl (cI, 256, .inl g_outLabels))] H := hP
    have hD : va_D A [(h0, .inr (6, [.int 1, .ref a_words, .int v_size, .ref a_rules, .int v_entries, .int v_outcome, .int v_pc, .int v_pcLabel, .ref a_registers, .ref a_registerLabels, .ref a_memory, .ref a_memoryLabels, .ref a_waiting, .ref a_waitingLabels, .int v_wait, .ref a_out, .ref a_outLabels, .int v_went, .int v_done, .int v_misses, .ref a_keys, .int v_known, .int v_group, .ref a_labels])), (a_out, .inl (cI, 256, .inl g_out)), (a_outLabels, .inl (cI, 256, .inl g_outLabels))] := hD
    refine lv_aload_n hx hb d_Mo_output_21 rfl (lv_at hl 0 rfl) ?_
    refine va_get (D := (dC, dI)) (ci := 6) (v := .int 1) (C := "LabelledCoreModel") (T := T_Mo) (N := 24) hx hb hts in_Mo hown hK hP 0 rfl rfl 0 (by decide) (hts _ wm_956) (fun _ h9 => h9) rfl d_Mo_output_22 ?_
    refine lv_if_le (tgt := 32) hx hb d_Mo_output_25 (by decide) (fun c_2 => absurd c_2 (by decide)) (fun c_2 => ?_)
    refine lv_lconst (v := 0) hx hb d_Mo_output_28 (by decide) ?_
    refine lv_goto (tgt := 47) hx hb d_Mo_output_29 (by decide) ?_
    have ef : (f_Mo_output v_went g_out g_outLabels x_p0) = ((0, 1) : Int64 × Int32) := (if_pos c_1).trans rfl
    have hP9 := hP.sub (ws' := [(h0, .inr (6, [.int 1, .ref a_words, .int v_size, .ref a_rules, .int v_entries, .int v_outcome, .int v_pc, .int v_pcLabel, .ref a_registers, .ref a_registerLabels, .ref a_memory, .ref a_memoryLabels, .ref a_waiting, .ref a_waitingLabels, .int v_wait, .ref a_out, .ref a_outLabels, .int v_went, .int v_done, .int v_misses, .ref a_keys, .int v_known, .int v_group, .ref a_labels])), (a_out, .inl (cI, 256, .inl g_out)), (a_outLabels, .inl (cI, 256, .inl g_outLabels))]) [0, 1, 2] rfl
    have hD9 := hD.sub (ws' := [(h0, .inr (6, [.int 1, .ref a_words, .int v_size, .ref a_rules, .int v_entries, .int v_outcome, .int v_pc, .int v_pcLabel, .ref a_registers, .ref a_registerLabels, .ref a_memory, .ref a_memoryLabels, .ref a_waiting, .ref a_waitingLabels, .int v_wait, .ref a_out, .ref a_outLabels, .int v_went, .int v_done, .int v_misses, .ref a_keys, .int v_known, .int v_group, .ref a_labels])), (a_out, .inl (cI, 256, .inl g_out)), (a_outLabels, .inl (cI, 256, .inl g_outLabels))]) [0, 1, 2] (by decide) rfl
    exact W.lret (v := 0) hx hb hr (fun t ht hW => ⟨⟨0, (), rfl, by rw [ef], by rw [ef, ht]; exact hP9, va_K.moved hW.alike hK, by rw [ef]; exact hD9⟩, hS.F ht⟩) hS.2.2 d_Mo_output_47
  · refine lv_iload_n hx hb d_Mo_output_5 rfl (lv_at hl 1 rfl) ?_
    refine lv_aload_n hx hb d_Mo_output_6 rfl (lv_at hl 0 rfl) ?_
    refine va_get (D := (dC, dI)) (ci := 6) (v := .int v_went) (C := "LabelledCoreModel") (T := T_Mo) (N := 24) hx hb hts in_Mo hown hK hP 0 rfl rfl 17 (by decide) (hts _ wm_973) (fun _ h9 => h9) rfl d_Mo_output_7 ?_
    refine lv_icmp_lt (tgt := 17) hx hb d_Mo_output_10 (by decide) (fun c_3 => ?_) (fun c_3 => ?_)
    · refine lv_iconst (v := 0) hx hb d_Mo_output_17 (by decide) ?_
      refine va_put (D := (dC, dI)) (ci := 6) (v := .int 0) (ty := .int) (C := "LabelledCoreModel") (T := T_Mo) (N := 24) hx hb hts in_Mo t_Mo ty_Mo nm_Mo hown hK hP hD hS 0 rfl rfl 0 (by decide) (hts _ wm_956) (fun _ h9 => h9) rfl (by decide +kernel) rfl rfl (Nat.le_of_ble_eq_true rfl) d_Mo_output_18 (fun H locs hP hD hS => ?_)
      have hP : va_P (dC, dI) clsL [(h0, .inr (6, [.int 0, .ref a_words, .int v_size, .ref a_rules, .int v_entries, .int v_outcome, .int v_pc, .int v_pcLabel, .ref a_registers, .ref a_registerLabels, .ref a_memory, .ref a_memoryLabels, .ref a_waiting, .ref a_waitingLabels, .int v_wait, .ref a_out, .ref a_outLabels, .int v_went, .int v_done, .int v_misses, .ref a_keys, .int v_known, .int v_group, .ref a_labels])), (a_out, .inl (cI, 256, .inl g_out)), (a_outLabels, .inl (cI, 256, .inl g_outLabels))] H := hP
      have hD : va_D A [(h0, .inr (6, [.int 0, .ref a_words, .int v_size, .ref a_rules, .int v_entries, .int v_outcome, .int v_pc, .int v_pcLabel, .ref a_registers, .ref a_registerLabels, .ref a_memory, .ref a_memoryLabels, .ref a_waiting, .ref a_waitingLabels, .int v_wait, .ref a_out, .ref a_outLabels, .int v_went, .int v_done, .int v_misses, .ref a_keys, .int v_known, .int v_group, .ref a_labels])), (a_out, .inl (cI, 256, .inl g_out)), (a_outLabels, .inl (cI, 256, .inl g_outLabels))] := hD
      refine lv_aload_n hx hb d_Mo_output_21 rfl (lv_at hl 0 rfl) ?_
      refine va_get (D := (dC, dI)) (ci := 6) (v := .int 0) (C := "LabelledCoreModel") (T := T_Mo) (N := 24) hx hb hts in_Mo hown hK hP 0 rfl rfl 0 (by decide) (hts _ wm_956) (fun _ h9 => h9) rfl d_Mo_output_22 ?_
      refine lv_if_le (tgt := 32) hx hb d_Mo_output_25 (by decide) (fun c_4 => ?_) (fun c_4 => absurd (by decide) c_4)
      refine lv_aload_n hx hb d_Mo_output_32 rfl (lv_at hl 0 rfl) ?_
      refine va_get (D := (dC, dI)) (ci := 6) (v := .ref a_out) (C := "LabelledCoreModel") (T := T_Mo) (N := 24) hx hb hts in_Mo hown hK hP 0 rfl rfl 15 (by decide) (hts _ wm_971) (fun _ h9 => h9) rfl d_Mo_output_33 ?_
      refine lv_iload_n hx hb d_Mo_output_36 rfl (lv_at hl 1 rfl) ?_
      refine va_iald hx hb hK hP 1 0 rfl rfl (hs_37_0 c_1 c_3) d_Mo_output_37 ?_
      refine lv_aload_n hx hb d_Mo_output_38 rfl (lv_at hl 0 rfl) ?_
      refine va_get (D := (dC, dI)) (ci := 6) (v := .ref a_outLabels) (C := "LabelledCoreModel") (T := T_Mo) (N := 24) hx hb hts in_Mo hown hK hP 0 rfl rfl 16 (by decide) (hts _ wm_972) (fun _ h9 => h9) rfl d_Mo_output_39 ?_
      refine lv_iload_n hx hb d_Mo_output_42 rfl (lv_at hl 1 rfl) ?_
      refine va_iald hx hb hK hP 2 0 rfl rfl (hs_37_0 c_1 c_3) d_Mo_output_43 ?_
      have hPc := hP.sub (ws' := []) [] rfl
      refine callRL ((W.runS (As := [.int (g_out (Int32.toNatClampNeg x_p0)), .int (g_outLabels (Int32.toNatClampNeg x_p0))]) (rest := []) ⟨hx, hb, hml, hown, hts⟩ (ct_Mo_both l dC dI cI (g_out (Int32.toNatClampNeg x_p0)) (g_outLabels (Int32.toNatClampNeg x_p0))) (va_cwS 2 hts (gS wm_1171 wm_1172 wm_42 wm_1173) rfl rfl rfl (by decide +kernel) ⟨Nat.le_of_ble_eq_true rfl, Nat.le_of_ble_eq_true rfl⟩) ⟨pcR_blind, pcR_pre hPc hK⟩ rfl rfl hl.1 rfl (lv_room (Nat.le_of_ble_eq_true rfl)) d_Mo_output_44 ⟨Nat.le_of_ble_eq_true rfl, Nat.le_of_ble_eq_true rfl⟩)) ?_
      refine W.eq (g2 := F0 m 47 ls [.long (f_Mo_both (g_out (Int32.toNatClampNeg x_p0)) (g_outLabels (Int32.toNatClampNeg x_p0)))]) rfl ?_
      have ef : (f_Mo_output v_went g_out g_outLabels x_p0) = (((f_Mo_both (g_out (Int32.toNatClampNeg x_p0)) (g_outLabels (Int32.toNatClampNeg x_p0))), 0) : Int64 × Int32) := (if_neg c_1).trans ((if_pos c_3).trans rfl)
      have hP9 := hP.sub (ws' := [(h0, .inr (6, [.int 0, .ref a_words, .int v_size, .ref a_rules, .int v_entries, .int v_outcome, .int v_pc, .int v_pcLabel, .ref a_registers, .ref a_registerLabels, .ref a_memory, .ref a_memoryLabels, .ref a_waiting, .ref a_waitingLabels, .int v_wait, .ref a_out, .ref a_outLabels, .int v_went, .int v_done, .int v_misses, .ref a_keys, .int v_known, .int v_group, .ref a_labels])), (a_out, .inl (cI, 256, .inl g_out)), (a_outLabels, .inl (cI, 256, .inl g_outLabels))]) [0, 1, 2] rfl
      have hD9 := hD.sub (ws' := [(h0, .inr (6, [.int 0, .ref a_words, .int v_size, .ref a_rules, .int v_entries, .int v_outcome, .int v_pc, .int v_pcLabel, .ref a_registers, .ref a_registerLabels, .ref a_memory, .ref a_memoryLabels, .ref a_waiting, .ref a_waitingLabels, .int v_wait, .ref a_out, .ref a_outLabels, .int v_went, .int v_done, .int v_misses, .ref a_keys, .int v_known, .int v_group, .ref a_labels])), (a_out, .inl (cI, 256, .inl g_out)), (a_outLabels, .inl (cI, 256, .inl g_outLabels))]) [0, 1, 2] (by decide) rfl
      exact W.lret (v := (f_Mo_both (g_out (Int32.toNatClampNeg x_p0)) (g_outLabels (Int32.toNatClampNeg x_p0)))) hx hb hr (fun t ht hW => ⟨⟨(f_Mo_both (g_out (Int32.toNatClampNeg x_p0)) (g_outLabels (Int32.toNatClampNeg x_p0))), (), rfl, by rw [ef], by rw [ef, ht]; exact hP9, va_K.moved hW.alike hK, by rw [ef]; exact hD9⟩, hS.F ht⟩) hS.2.2 d_Mo_output_47
    · refine lv_iconst (v := 1) hx hb d_Mo_output_13 (by decide) ?_
      refine lv_goto (tgt := 18) hx hb d_Mo_output_14 (by decide) ?_
      refine va_put (D := (dC, dI)) (ci := 6) (v := .int 1) (ty := .int) (C := "LabelledCoreModel") (T := T_Mo) (N := 24) hx hb hts in_Mo t_Mo ty_Mo nm_Mo hown hK hP hD hS 0 rfl rfl 0 (by decide) (hts _ wm_956) (fun _ h9 => h9) rfl (by decide +kernel) rfl rfl (Nat.le_of_ble_eq_true rfl) d_Mo_output_18 (fun H locs hP hD hS => ?_)
      have hP : va_P (dC, dI) clsL [(h0, .inr (6, [.int 1, .ref a_words, .int v_size, .ref a_rules, .int v_entries, .int v_outcome, .int v_pc, .int v_pcLabel, .ref a_registers, .ref a_registerLabels, .ref a_memory, .ref a_memoryLabels, .ref a_waiting, .ref a_waitingLabels, .int v_wait, .ref a_out, .ref a_outLabels, .int v_went, .int v_done, .int v_misses, .ref a_keys, .int v_known, .int v_group, .ref a_labels])), (a_out, .inl (cI, 256, .inl g_out)), (a_outLabels, .inl (cI, 256, .inl g_outLabels))] H := hP
      have hD : va_D A [(h0, .inr (6, [.int 1, .ref a_words, .int v_size, .ref a_rules, .int v_entries, .int v_outcome, .int v_pc, .int v_pcLabel, .ref a_registers, .ref a_registerLabels, .ref a_memory, .ref a_memoryLabels, .ref a_waiting, .ref a_waitingLabels, .int v_wait, .ref a_out, .ref a_outLabels, .int v_went, .int v_done, .int v_misses, .ref a_keys, .int v_known, .int v_group, .ref a_labels])), (a_out, .inl (cI, 256, .inl g_out)), (a_outLabels, .inl (cI, 256, .inl g_outLabels))] := hD
      refine lv_aload_n hx hb d_Mo_output_21 rfl (lv_at hl 0 rfl) ?_
      refine va_get (D := (dC, dI)) (ci := 6) (v := .int 1) (C := "LabelledCoreModel") (T := T_Mo) (N := 24) hx hb hts in_Mo hown hK hP 0 rfl rfl 0 (by decide) (hts _ wm_956) (fun _ h9 => h9) rfl d_Mo_output_22 ?_
      refine lv_if_le (tgt := 32) hx hb d_Mo_output_25 (by decide) (fun c_5 => absurd c_5 (by decide)) (fun c_5 => ?_)
      refine lv_lconst (v := 0) hx hb d_Mo_output_28 (by decide) ?_
      refine lv_goto (tgt := 47) hx hb d_Mo_output_29 (by decide) ?_
      have ef : (f_Mo_output v_went g_out g_outLabels x_p0) = ((0, 1) : Int64 × Int32) := (if_neg c_1).trans ((if_neg c_3).trans rfl)
      have hP9 := hP.sub (ws' := [(h0, .inr (6, [.int 1, .ref a_words, .int v_size, .ref a_rules, .int v_entries, .int v_outcome, .int v_pc, .int v_pcLabel, .ref a_registers, .ref a_registerLabels, .ref a_memory, .ref a_memoryLabels, .ref a_waiting, .ref a_waitingLabels, .int v_wait, .ref a_out, .ref a_outLabels, .int v_went, .int v_done, .int v_misses, .ref a_keys, .int v_known, .int v_group, .ref a_labels])), (a_out, .inl (cI, 256, .inl g_out)), (a_outLabels, .inl (cI, 256, .inl g_outLabels))]) [0, 1, 2] rfl
      have hD9 := hD.sub (ws' := [(h0, .inr (6, [.int 1, .ref a_words, .int v_size, .ref a_rules, .int v_entries, .int v_outcome, .int v_pc, .int v_pcLabel, .ref a_registers, .ref a_registerLabels, .ref a_memory, .ref a_memoryLabels, .ref a_waiting, .ref a_waitingLabels, .int v_wait, .ref a_out, .ref a_outLabels, .int v_went, .int v_done, .int v_misses, .ref a_keys, .int v_known, .int v_group, .ref a_labels])), (a_out, .inl (cI, 256, .inl g_out)), (a_outLabels, .inl (cI, 256, .inl g_outLabels))]) [0, 1, 2] (by decide) rfl
      exact W.lret (v := 0) hx hb hr (fun t ht hW => ⟨⟨0, (), rfl, by rw [ef], by rw [ef, ht]; exact hP9, va_K.moved hW.alike hK, by rw [ef]; exact hD9⟩, hS.F ht⟩) hS.2.2 d_Mo_output_47
def f_Mo_told (v_outcome : Int32) (v_pc : Int32) (v_pcLabel : Int32) (v_wait : Int32) (v_went : Int32) (v_done : Int32) (v_misses : Int32) (v_known : Int32) (x_p0 : Int32) : Int32 × Int32 :=
  if x_p0 < 0 then
    (0, 1)
  else
    if x_p0 ≤ 8 then
      if x_p0 = 0 then
        (v_outcome, 0)
      else
        if x_p0 = 1 then
          (v_pc, 0)
        else
          if x_p0 = 2 then
            (v_pcLabel, 0)
          else
            if x_p0 = 3 then
              (v_done, 0)
            else
              if x_p0 = 4 then
                (v_misses, 0)
              else
                if x_p0 = 5 then
                  (v_known, 0)
                else
                  if x_p0 = 6 then
                    (v_went, 0)
                  else
                    if x_p0 = 7 then
                      (v_wait, 0)
                    else
                      (0, 0)
    else
      (0, 1)
set_option maxHeartbeats 4000000 in
set_option maxRecDepth 100000 in
theorem ct_Mo_told (l : Launch) (dC : Nat → ClassId) (dI : Nat → Nat → Nat) (cI : ClassId) (sz : Nat) (h0 a_words a_rules a_registers a_registerLabels a_memory a_memoryLabels a_waiting a_waitingLabels a_out a_outLabels a_keys a_labels : Nat) (v_thrown : Int32) (v_size : Int32) (v_entries : Int32) (v_outcome : Int32) (v_pc : Int32) (v_pcLabel : Int32) (v_wait : Int32) (v_went : Int32) (v_done : Int32) (v_misses : Int32) (v_known : Int32) (v_group : Int32) (x_p0 : Int32) : Met l y_Mo_told w_Mo_told ({ frames := 0, cells := 0, slots := 0, locals := 0 }) (pcW dC dI cI [(h0, .inr (6, [.int v_thrown, .ref a_words, .int v_size, .ref a_rules, .int v_entries, .int v_outcome, .int v_pc, .int v_pcLabel, .ref a_registers, .ref a_registerLabels, .ref a_memory, .ref a_memoryLabels, .ref a_waiting, .ref a_waitingLabels, .int v_wait, .ref a_out, .ref a_outLabels, .int v_went, .int v_done, .int v_misses, .ref a_keys, .int v_known, .int v_group, .ref a_labels]))] sz [.ref h0, .int x_p0]) (va_Qi (fun (r : Int32) (_ : Unit) => r = (f_Mo_told v_outcome v_pc v_pcLabel v_wait v_went v_done v_misses v_known x_p0).1) (fun _ t => atW dC dI cI [(h0, .inr (6, [.int ((f_Mo_told v_outcome v_pc v_pcLabel v_wait v_went v_done v_misses v_known x_p0).2), .ref a_words, .int v_size, .ref a_rules, .int v_entries, .int v_outcome, .int v_pc, .int v_pcLabel, .ref a_registers, .ref a_registerLabels, .ref a_memory, .ref a_memoryLabels, .ref a_waiting, .ref a_waitingLabels, .int v_wait, .ref a_out, .ref a_outLabels, .int v_went, .int v_done, .int v_misses, .ref a_keys, .int v_known, .int v_group, .ref a_labels]))] (va_A [(h0, .inr (6, [.int v_thrown, .ref a_words, .int v_size, .ref a_rules, .int v_entries, .int v_outcome, .int v_pc, .int v_pcLabel, .ref a_registers, .ref a_registerLabels, .ref a_memory, .ref a_memoryLabels, .ref a_waiting, .ref a_waitingLabels, .int v_wait, .ref a_out, .ref a_outLabels, .int v_went, .int v_done, .int v_misses, .ref a_keys, .int v_known, .int v_group, .ref a_labels]))] sz) t) (va_A [(h0, .inr (6, [.int v_thrown, .ref a_words, .int v_size, .ref a_rules, .int v_entries, .int v_outcome, .int v_pc, .int v_pcLabel, .ref a_registers, .ref a_registerLabels, .ref a_memory, .ref a_memoryLabels, .ref a_waiting, .ref a_waitingLabels, .int v_wait, .ref a_out, .ref a_outLabels, .int v_went, .int v_done, .int v_misses, .ref a_keys, .int v_known, .int v_group, .ref a_labels]))] sz)) 0 0 (va_A [(h0, .inr (6, [.int v_thrown, .ref a_words, .int v_size, .ref a_rules, .int v_entries, .int v_outcome, .int v_pc, .int v_pcLabel, .ref a_registers, .ref a_registerLabels, .ref a_memory, .ref a_memoryLabels, .ref a_waiting, .ref a_waitingLabels, .int v_wait, .ref a_out, .ref a_outLabels, .int v_went, .int v_done, .int v_misses, .ref a_keys, .int v_known, .int v_group, .ref a_labels]))] sz) := by
  refine Met.ofW (cc := c_Mo_told) (maxL := 2) (ret := (some .int)) (by decide) rfl ?_
  intro p e s m args below meth c s₁ B hml hv
  obtain ⟨rfl, hsz, hP, hK, hD0⟩ := hv
  have hx := B.exec
  have hb := B.bytes
  have hr := B.returns
  have hts : ∀ w ∈ wG, w.before _ s = true := fun w h => atoms_spec (ws := w_Mo_told) B.pre w (List.mem_cons_of_mem _ h)
  have hown : s.vm.findClass "LabelledCoreModel" = some m.cls := findClass_of_methodNamed B.named
  have hlocks := B.notSynchronized
  subst hsz
  have hD := hD0.self (sz := s.heap.size)
  generalize hAe : va_A [(h0, .inr (6, [.int v_thrown, .ref a_words, .int v_size, .ref a_rules, .int v_entries, .int v_outcome, .int v_pc, .int v_pcLabel, .ref a_registers, .ref a_registerLabels, .ref a_memory, .ref a_memoryLabels, .ref a_waiting, .ref a_waitingLabels, .int v_wait, .ref a_out, .ref a_outLabels, .int v_went, .int v_done, .int v_misses, .ref a_keys, .int v_known, .int v_group, .ref a_labels]))] s.heap.size = A at hD ⊢
  have hA : ∀ q : Nat, s.heap.size ≤ q → A q := fun q h => by rw [← hAe]; exact Or.inr h
  have hS : va_S A s.heap s.heap [] := va_S.rf
  have hP : va_P (dC, dI) clsL [(h0, .inr (6, [.int v_thrown, .ref a_words, .int v_size, .ref a_rules, .int v_entries, .int v_outcome, .int v_pc, .int v_pcLabel, .ref a_registers, .ref a_registerLabels, .ref a_memory, .ref a_memoryLabels, .ref a_waiting, .ref a_waitingLabels, .int v_wait, .ref a_out, .ref a_outLabels, .int v_went, .int v_done, .int v_misses, .ref a_keys, .int v_known, .int v_group, .ref a_labels]))] s.heap := hP
  have hl := lv_entry ([.ref h0, .int x_p0]) (n := 2) (Nat.le_of_ble_eq_true rfl)
  rw [lg_entry_eq]
  generalize (lg_sl ([.ref h0, .int x_p0]) ++ List.replicate (2 - (lg_sl ([.ref h0, .int x_p0])).length) Slot.unset).toArray = ls at hl ⊢
  have hl : lv_has ls 2 [(0, .ref h0), (1, .int x_p0)] := hl
  refine lv_aload_n hx hb d_Mo_told_0 rfl (lv_at hl 0 rfl) ?_
  refine lv_iload_n hx hb d_Mo_told_1 rfl (lv_at hl 1 rfl) ?_
  refine lv_if_lt (tgt := 11) hx hb d_Mo_told_2 (by decide) (fun c_1 => ?_) (fun c_1 => ?_)
  · refine lv_iconst (v := 1) hx hb d_Mo_told_11 (by decide) ?_
    refine lv_goto (tgt := 16) hx hb d_Mo_told_12 (by decide) ?_
    refine va_put (D := (dC, dI)) (ci := 6) (v := .int 1) (ty := .int) (C := "LabelledCoreModel") (T := T_Mo) (N := 24) hx hb hts in_Mo t_Mo ty_Mo nm_Mo hown hK hP hD hS 0 rfl rfl 0 (by decide) (hts _ wm_956) (fun _ h9 => h9) rfl (by decide +kernel) rfl rfl (Nat.le_of_ble_eq_true rfl) d_Mo_told_16 (fun H locs hP hD hS => ?_)
    have hP : va_P (dC, dI) clsL [(h0, .inr (6, [.int 1, .ref a_words, .int v_size, .ref a_rules, .int v_entries, .int v_outcome, .int v_pc, .int v_pcLabel, .ref a_registers, .ref a_registerLabels, .ref a_memory, .ref a_memoryLabels, .ref a_waiting, .ref a_waitingLabels, .int v_wait, .ref a_out, .ref a_outLabels, .int v_went, .int v_done, .int v_misses, .ref a_keys, .int v_known, .int v_group, .ref a_labels]))] H := hP
    have hD : va_D A [(h0, .inr (6, [.int 1, .ref a_words, .int v_size, .ref a_rules, .int v_entries, .int v_outcome, .int v_pc, .int v_pcLabel, .ref a_registers, .ref a_registerLabels, .ref a_memory, .ref a_memoryLabels, .ref a_waiting, .ref a_waitingLabels, .int v_wait, .ref a_out, .ref a_outLabels, .int v_went, .int v_done, .int v_misses, .ref a_keys, .int v_known, .int v_group, .ref a_labels]))] := hD
    refine lv_aload_n hx hb d_Mo_told_19 rfl (lv_at hl 0 rfl) ?_
    refine va_get (D := (dC, dI)) (ci := 6) (v := .int 1) (C := "LabelledCoreModel") (T := T_Mo) (N := 24) hx hb hts in_Mo hown hK hP 0 rfl rfl 0 (by decide) (hts _ wm_956) (fun _ h9 => h9) rfl d_Mo_told_20 ?_
    refine lv_if_le (tgt := 28) hx hb d_Mo_told_23 (by decide) (fun c_2 => absurd c_2 (by decide)) (fun c_2 => ?_)
    refine lv_iconst (v := 0) hx hb d_Mo_told_26 (by decide) ?_
    have ef : (f_Mo_told v_outcome v_pc v_pcLabel v_wait v_went v_done v_misses v_known x_p0) = ((0, 1) : Int32 × Int32) := (if_pos c_1).trans rfl
    have hP9 := hP.sub (ws' := [(h0, .inr (6, [.int 1, .ref a_words, .int v_size, .ref a_rules, .int v_entries, .int v_outcome, .int v_pc, .int v_pcLabel, .ref a_registers, .ref a_registerLabels, .ref a_memory, .ref a_memoryLabels, .ref a_waiting, .ref a_waitingLabels, .int v_wait, .ref a_out, .ref a_outLabels, .int v_went, .int v_done, .int v_misses, .ref a_keys, .int v_known, .int v_group, .ref a_labels]))]) [0] rfl
    have hD9 := hD.sub (ws' := [(h0, .inr (6, [.int 1, .ref a_words, .int v_size, .ref a_rules, .int v_entries, .int v_outcome, .int v_pc, .int v_pcLabel, .ref a_registers, .ref a_registerLabels, .ref a_memory, .ref a_memoryLabels, .ref a_waiting, .ref a_waitingLabels, .int v_wait, .ref a_out, .ref a_outLabels, .int v_went, .int v_done, .int v_misses, .ref a_keys, .int v_known, .int v_group, .ref a_labels]))]) [0] (by decide) rfl
    exact W.iret (v := 0) hx hb hr (fun t ht hW => ⟨⟨0, (), rfl, by rw [ef], by rw [ef, ht]; exact hP9, va_K.moved hW.alike hK, by rw [ef]; exact hD9⟩, hS.F ht⟩) hS.2.2 d_Mo_told_27
  · refine lv_iload_n hx hb d_Mo_told_5 rfl (lv_at hl 1 rfl) ?_
    refine lv_bipush (v := 8) hx hb d_Mo_told_6 (by decide) ?_
    refine lv_icmp_le (tgt := 15) hx hb d_Mo_told_8 (by decide) (fun c_3 => ?_) (fun c_3 => ?_)
    · refine lv_iconst (v := 0) hx hb d_Mo_told_15 (by decide) ?_
      refine va_put (D := (dC, dI)) (ci := 6) (v := .int 0) (ty := .int) (C := "LabelledCoreModel") (T := T_Mo) (N := 24) hx hb hts in_Mo t_Mo ty_Mo nm_Mo hown hK hP hD hS 0 rfl rfl 0 (by decide) (hts _ wm_956) (fun _ h9 => h9) rfl (by decide +kernel) rfl rfl (Nat.le_of_ble_eq_true rfl) d_Mo_told_16 (fun H locs hP hD hS => ?_)
      have hP : va_P (dC, dI) clsL [(h0, .inr (6, [.int 0, .ref a_words, .int v_size, .ref a_rules, .int v_entries, .int v_outcome, .int v_pc, .int v_pcLabel, .ref a_registers, .ref a_registerLabels, .ref a_memory, .ref a_memoryLabels, .ref a_waiting, .ref a_waitingLabels, .int v_wait, .ref a_out, .ref a_outLabels, .int v_went, .int v_done, .int v_misses, .ref a_keys, .int v_known, .int v_group, .ref a_labels]))] H := hP
      have hD : va_D A [(h0, .inr (6, [.int 0, .ref a_words, .int v_size, .ref a_rules, .int v_entries, .int v_outcome, .int v_pc, .int v_pcLabel, .ref a_registers, .ref a_registerLabels, .ref a_memory, .ref a_memoryLabels, .ref a_waiting, .ref a_waitingLabels, .int v_wait, .ref a_out, .ref a_outLabels, .int v_went, .int v_done, .int v_misses, .ref a_keys, .int v_known, .int v_group, .ref a_labels]))] := hD
      refine lv_aload_n hx hb d_Mo_told_19 rfl (lv_at hl 0 rfl) ?_
      refine va_get (D := (dC, dI)) (ci := 6) (v := .int 0) (C := "LabelledCoreModel") (T := T_Mo) (N := 24) hx hb hts in_Mo hown hK hP 0 rfl rfl 0 (by decide) (hts _ wm_956) (fun _ h9 => h9) rfl d_Mo_told_20 ?_
      refine lv_if_le (tgt := 28) hx hb d_Mo_told_23 (by decide) (fun c_4 => ?_) (fun c_4 => absurd (by decide) c_4)
      refine lv_iload_n hx hb d_Mo_told_28 rfl (lv_at hl 1 rfl) ?_
      by_cases c_5 : x_p0 = 0
      · refine lv_tableIn (off := 47) (tgt := 76) hx hb d_Mo_told_29 (by rw [c_5]; decide +kernel) (by rw [c_5]; decide +kernel) (by rw [c_5]; decide +kernel) (by decide) ?_
        refine lv_aload_n hx hb d_Mo_told_76 rfl (lv_at hl 0 rfl) ?_
        refine va_get (D := (dC, dI)) (ci := 6) (v := .int v_outcome) (C := "LabelledCoreModel") (T := T_Mo) (N := 24) hx hb hts in_Mo hown hK hP 0 rfl rfl 5 (by decide) (hts _ wm_961) (fun _ h9 => h9) rfl d_Mo_told_77 ?_
        have ef : (f_Mo_told v_outcome v_pc v_pcLabel v_wait v_went v_done v_misses v_known x_p0) = ((v_outcome, 0) : Int32 × Int32) := (if_neg c_1).trans ((if_pos c_3).trans ((if_pos c_5).trans rfl))
        have hP9 := hP.sub (ws' := [(h0, .inr (6, [.int 0, .ref a_words, .int v_size, .ref a_rules, .int v_entries, .int v_outcome, .int v_pc, .int v_pcLabel, .ref a_registers, .ref a_registerLabels, .ref a_memory, .ref a_memoryLabels, .ref a_waiting, .ref a_waitingLabels, .int v_wait, .ref a_out, .ref a_outLabels, .int v_went, .int v_done, .int v_misses, .ref a_keys, .int v_known, .int v_group, .ref a_labels]))]) [0] rfl
        have hD9 := hD.sub (ws' := [(h0, .inr (6, [.int 0, .ref a_words, .int v_size, .ref a_rules, .int v_entries, .int v_outcome, .int v_pc, .int v_pcLabel, .ref a_registers, .ref a_registerLabels, .ref a_memory, .ref a_memoryLabels, .ref a_waiting, .ref a_waitingLabels, .int v_wait, .ref a_out, .ref a_outLabels, .int v_went, .int v_done, .int v_misses, .ref a_keys, .int v_known, .int v_group, .ref a_labels]))]) [0] (by decide) rfl
        exact W.iret (v := v_outcome) hx hb hr (fun t ht hW => ⟨⟨v_outcome, (), rfl, by rw [ef], by rw [ef, ht]; exact hP9, va_K.moved hW.alike hK, by rw [ef]; exact hD9⟩, hS.F ht⟩) hS.2.2 d_Mo_told_80
      · by_cases c_6 : x_p0 = 1
        · refine lv_tableIn (off := 52) (tgt := 81) hx hb d_Mo_told_29 (by rw [c_6]; decide +kernel) (by rw [c_6]; decide +kernel) (by rw [c_6]; decide +kernel) (by decide) ?_
          refine lv_aload_n hx hb d_Mo_told_81 rfl (lv_at hl 0 rfl) ?_
          refine va_get (D := (dC, dI)) (ci := 6) (v := .int v_pc) (C := "LabelledCoreModel") (T := T_Mo) (N := 24) hx hb hts in_Mo hown hK hP 0 rfl rfl 6 (by decide) (hts _ wm_962) (fun _ h9 => h9) rfl d_Mo_told_82 ?_
          have ef : (f_Mo_told v_outcome v_pc v_pcLabel v_wait v_went v_done v_misses v_known x_p0) = ((v_pc, 0) : Int32 × Int32) := (if_neg c_1).trans ((if_pos c_3).trans ((if_neg c_5).trans ((if_pos c_6).trans rfl)))
          have hP9 := hP.sub (ws' := [(h0, .inr (6, [.int 0, .ref a_words, .int v_size, .ref a_rules, .int v_entries, .int v_outcome, .int v_pc, .int v_pcLabel, .ref a_registers, .ref a_registerLabels, .ref a_memory, .ref a_memoryLabels, .ref a_waiting, .ref a_waitingLabels, .int v_wait, .ref a_out, .ref a_outLabels, .int v_went, .int v_done, .int v_misses, .ref a_keys, .int v_known, .int v_group, .ref a_labels]))]) [0] rfl
          have hD9 := hD.sub (ws' := [(h0, .inr (6, [.int 0, .ref a_words, .int v_size, .ref a_rules, .int v_entries, .int v_outcome, .int v_pc, .int v_pcLabel, .ref a_registers, .ref a_registerLabels, .ref a_memory, .ref a_memoryLabels, .ref a_waiting, .ref a_waitingLabels, .int v_wait, .ref a_out, .ref a_outLabels, .int v_went, .int v_done, .int v_misses, .ref a_keys, .int v_known, .int v_group, .ref a_labels]))]) [0] (by decide) rfl
          exact W.iret (v := v_pc) hx hb hr (fun t ht hW => ⟨⟨v_pc, (), rfl, by rw [ef], by rw [ef, ht]; exact hP9, va_K.moved hW.alike hK, by rw [ef]; exact hD9⟩, hS.F ht⟩) hS.2.2 d_Mo_told_85
        · by_cases c_7 : x_p0 = 2
          · refine lv_tableIn (off := 57) (tgt := 86) hx hb d_Mo_told_29 (by rw [c_7]; decide +kernel) (by rw [c_7]; decide +kernel) (by rw [c_7]; decide +kernel) (by decide) ?_
            refine lv_aload_n hx hb d_Mo_told_86 rfl (lv_at hl 0 rfl) ?_
            refine va_get (D := (dC, dI)) (ci := 6) (v := .int v_pcLabel) (C := "LabelledCoreModel") (T := T_Mo) (N := 24) hx hb hts in_Mo hown hK hP 0 rfl rfl 7 (by decide) (hts _ wm_963) (fun _ h9 => h9) rfl d_Mo_told_87 ?_
            have ef : (f_Mo_told v_outcome v_pc v_pcLabel v_wait v_went v_done v_misses v_known x_p0) = ((v_pcLabel, 0) : Int32 × Int32) := (if_neg c_1).trans ((if_pos c_3).trans ((if_neg c_5).trans ((if_neg c_6).trans ((if_pos c_7).trans rfl))))
            have hP9 := hP.sub (ws' := [(h0, .inr (6, [.int 0, .ref a_words, .int v_size, .ref a_rules, .int v_entries, .int v_outcome, .int v_pc, .int v_pcLabel, .ref a_registers, .ref a_registerLabels, .ref a_memory, .ref a_memoryLabels, .ref a_waiting, .ref a_waitingLabels, .int v_wait, .ref a_out, .ref a_outLabels, .int v_went, .int v_done, .int v_misses, .ref a_keys, .int v_known, .int v_group, .ref a_labels]))]) [0] rfl
            have hD9 := hD.sub (ws' := [(h0, .inr (6, [.int 0, .ref a_words, .int v_size, .ref a_rules, .int v_entries, .int v_outcome, .int v_pc, .int v_pcLabel, .ref a_registers, .ref a_registerLabels, .ref a_memory, .ref a_memoryLabels, .ref a_waiting, .ref a_waitingLabels, .int v_wait, .ref a_out, .ref a_outLabels, .int v_went, .int v_done, .int v_misses, .ref a_keys, .int v_known, .int v_group, .ref a_labels]))]) [0] (by decide) rfl
            exact W.iret (v := v_pcLabel) hx hb hr (fun t ht hW => ⟨⟨v_pcLabel, (), rfl, by rw [ef], by rw [ef, ht]; exact hP9, va_K.moved hW.alike hK, by rw [ef]; exact hD9⟩, hS.F ht⟩) hS.2.2 d_Mo_told_90
          · by_cases c_8 : x_p0 = 3
            · refine lv_tableIn (off := 62) (tgt := 91) hx hb d_Mo_told_29 (by rw [c_8]; decide +kernel) (by rw [c_8]; decide +kernel) (by rw [c_8]; decide +kernel) (by decide) ?_
              refine lv_aload_n hx hb d_Mo_told_91 rfl (lv_at hl 0 rfl) ?_
              refine va_get (D := (dC, dI)) (ci := 6) (v := .int v_done) (C := "LabelledCoreModel") (T := T_Mo) (N := 24) hx hb hts in_Mo hown hK hP 0 rfl rfl 18 (by decide) (hts _ wm_974) (fun _ h9 => h9) rfl d_Mo_told_92 ?_
              have ef : (f_Mo_told v_outcome v_pc v_pcLabel v_wait v_went v_done v_misses v_known x_p0) = ((v_done, 0) : Int32 × Int32) := (if_neg c_1).trans ((if_pos c_3).trans ((if_neg c_5).trans ((if_neg c_6).trans ((if_neg c_7).trans ((if_pos c_8).trans rfl)))))
              have hP9 := hP.sub (ws' := [(h0, .inr (6, [.int 0, .ref a_words, .int v_size, .ref a_rules, .int v_entries, .int v_outcome, .int v_pc, .int v_pcLabel, .ref a_registers, .ref a_registerLabels, .ref a_memory, .ref a_memoryLabels, .ref a_waiting, .ref a_waitingLabels, .int v_wait, .ref a_out, .ref a_outLabels, .int v_went, .int v_done, .int v_misses, .ref a_keys, .int v_known, .int v_group, .ref a_labels]))]) [0] rfl
              have hD9 := hD.sub (ws' := [(h0, .inr (6, [.int 0, .ref a_words, .int v_size, .ref a_rules, .int v_entries, .int v_outcome, .int v_pc, .int v_pcLabel, .ref a_registers, .ref a_registerLabels, .ref a_memory, .ref a_memoryLabels, .ref a_waiting, .ref a_waitingLabels, .int v_wait, .ref a_out, .ref a_outLabels, .int v_went, .int v_done, .int v_misses, .ref a_keys, .int v_known, .int v_group, .ref a_labels]))]) [0] (by decide) rfl
              exact W.iret (v := v_done) hx hb hr (fun t ht hW => ⟨⟨v_done, (), rfl, by rw [ef], by rw [ef, ht]; exact hP9, va_K.moved hW.alike hK, by rw [ef]; exact hD9⟩, hS.F ht⟩) hS.2.2 d_Mo_told_95
            · by_cases c_9 : x_p0 = 4
              · refine lv_tableIn (off := 67) (tgt := 96) hx hb d_Mo_told_29 (by rw [c_9]; decide +kernel) (by rw [c_9]; decide +kernel) (by rw [c_9]; decide +kernel) (by decide) ?_
                refine lv_aload_n hx hb d_Mo_told_96 rfl (lv_at hl 0 rfl) ?_
                refine va_get (D := (dC, dI)) (ci := 6) (v := .int v_misses) (C := "LabelledCoreModel") (T := T_Mo) (N := 24) hx hb hts in_Mo hown hK hP 0 rfl rfl 19 (by decide) (hts _ wm_975) (fun _ h9 => h9) rfl d_Mo_told_97 ?_
                have ef : (f_Mo_told v_outcome v_pc v_pcLabel v_wait v_went v_done v_misses v_known x_p0) = ((v_misses, 0) : Int32 × Int32) := (if_neg c_1).trans ((if_pos c_3).trans ((if_neg c_5).trans ((if_neg c_6).trans ((if_neg c_7).trans ((if_neg c_8).trans ((if_pos c_9).trans rfl))))))
                have hP9 := hP.sub (ws' := [(h0, .inr (6, [.int 0, .ref a_words, .int v_size, .ref a_rules, .int v_entries, .int v_outcome, .int v_pc, .int v_pcLabel, .ref a_registers, .ref a_registerLabels, .ref a_memory, .ref a_memoryLabels, .ref a_waiting, .ref a_waitingLabels, .int v_wait, .ref a_out, .ref a_outLabels, .int v_went, .int v_done, .int v_misses, .ref a_keys, .int v_known, .int v_group, .ref a_labels]))]) [0] rfl
                have hD9 := hD.sub (ws' := [(h0, .inr (6, [.int 0, .ref a_words, .int v_size, .ref a_rules, .int v_entries, .int v_outcome, .int v_pc, .int v_pcLabel, .ref a_registers, .ref a_registerLabels, .ref a_memory, .ref a_memoryLabels, .ref a_waiting, .ref a_waitingLabels, .int v_wait, .ref a_out, .ref a_outLabels, .int v_went, .int v_done, .int v_misses, .ref a_keys, .int v_known, .int v_group, .ref a_labels]))]) [0] (by decide) rfl
                exact W.iret (v := v_misses) hx hb hr (fun t ht hW => ⟨⟨v_misses, (), rfl, by rw [ef], by rw [ef, ht]; exact hP9, va_K.moved hW.alike hK, by rw [ef]; exact hD9⟩, hS.F ht⟩) hS.2.2 d_Mo_told_100
              · by_cases c_10 : x_p0 = 5
                · refine lv_tableIn (off := 72) (tgt := 101) hx hb d_Mo_told_29 (by rw [c_10]; decide +kernel) (by rw [c_10]; decide +kernel) (by rw [c_10]; decide +kernel) (by decide) ?_
                  refine lv_aload_n hx hb d_Mo_told_101 rfl (lv_at hl 0 rfl) ?_
                  refine va_get (D := (dC, dI)) (ci := 6) (v := .int v_known) (C := "LabelledCoreModel") (T := T_Mo) (N := 24) hx hb hts in_Mo hown hK hP 0 rfl rfl 21 (by decide) (hts _ wm_977) (fun _ h9 => h9) rfl d_Mo_told_102 ?_
                  have ef : (f_Mo_told v_outcome v_pc v_pcLabel v_wait v_went v_done v_misses v_known x_p0) = ((v_known, 0) : Int32 × Int32) := (if_neg c_1).trans ((if_pos c_3).trans ((if_neg c_5).trans ((if_neg c_6).trans ((if_neg c_7).trans ((if_neg c_8).trans ((if_neg c_9).trans ((if_pos c_10).trans rfl)))))))
                  have hP9 := hP.sub (ws' := [(h0, .inr (6, [.int 0, .ref a_words, .int v_size, .ref a_rules, .int v_entries, .int v_outcome, .int v_pc, .int v_pcLabel, .ref a_registers, .ref a_registerLabels, .ref a_memory, .ref a_memoryLabels, .ref a_waiting, .ref a_waitingLabels, .int v_wait, .ref a_out, .ref a_outLabels, .int v_went, .int v_done, .int v_misses, .ref a_keys, .int v_known, .int v_group, .ref a_labels]))]) [0] rfl
                  have hD9 := hD.sub (ws' := [(h0, .inr (6, [.int 0, .ref a_words, .int v_size, .ref a_rules, .int v_entries, .int v_outcome, .int v_pc, .int v_pcLabel, .ref a_registers, .ref a_registerLabels, .ref a_memory, .ref a_memoryLabels, .ref a_waiting, .ref a_waitingLabels, .int v_wait, .ref a_out, .ref a_outLabels, .int v_went, .int v_done, .int v_misses, .ref a_keys, .int v_known, .int v_group, .ref a_labels]))]) [0] (by decide) rfl
                  exact W.iret (v := v_known) hx hb hr (fun t ht hW => ⟨⟨v_known, (), rfl, by rw [ef], by rw [ef, ht]; exact hP9, va_K.moved hW.alike hK, by rw [ef]; exact hD9⟩, hS.F ht⟩) hS.2.2 d_Mo_told_105
                · by_cases c_11 : x_p0 = 6
                  · refine lv_tableIn (off := 77) (tgt := 106) hx hb d_Mo_told_29 (by rw [c_11]; decide +kernel) (by rw [c_11]; decide +kernel) (by rw [c_11]; decide +kernel) (by decide) ?_
                    refine lv_aload_n hx hb d_Mo_told_106 rfl (lv_at hl 0 rfl) ?_
                    refine va_get (D := (dC, dI)) (ci := 6) (v := .int v_went) (C := "LabelledCoreModel") (T := T_Mo) (N := 24) hx hb hts in_Mo hown hK hP 0 rfl rfl 17 (by decide) (hts _ wm_973) (fun _ h9 => h9) rfl d_Mo_told_107 ?_
                    have ef : (f_Mo_told v_outcome v_pc v_pcLabel v_wait v_went v_done v_misses v_known x_p0) = ((v_went, 0) : Int32 × Int32) := (if_neg c_1).trans ((if_pos c_3).trans ((if_neg c_5).trans ((if_neg c_6).trans ((if_neg c_7).trans ((if_neg c_8).trans ((if_neg c_9).trans ((if_neg c_10).trans ((if_pos c_11).trans rfl))))))))
                    have hP9 := hP.sub (ws' := [(h0, .inr (6, [.int 0, .ref a_words, .int v_size, .ref a_rules, .int v_entries, .int v_outcome, .int v_pc, .int v_pcLabel, .ref a_registers, .ref a_registerLabels, .ref a_memory, .ref a_memoryLabels, .ref a_waiting, .ref a_waitingLabels, .int v_wait, .ref a_out, .ref a_outLabels, .int v_went, .int v_done, .int v_misses, .ref a_keys, .int v_known, .int v_group, .ref a_labels]))]) [0] rfl
                    have hD9 := hD.sub (ws' := [(h0, .inr (6, [.int 0, .ref a_words, .int v_size, .ref a_rules, .int v_entries, .int v_outcome, .int v_pc, .int v_pcLabel, .ref a_registers, .ref a_registerLabels, .ref a_memory, .ref a_memoryLabels, .ref a_waiting, .ref a_waitingLabels, .int v_wait, .ref a_out, .ref a_outLabels, .int v_went, .int v_done, .int v_misses, .ref a_keys, .int v_known, .int v_group, .ref a_labels]))]) [0] (by decide) rfl
                    exact W.iret (v := v_went) hx hb hr (fun t ht hW => ⟨⟨v_went, (), rfl, by rw [ef], by rw [ef, ht]; exact hP9, va_K.moved hW.alike hK, by rw [ef]; exact hD9⟩, hS.F ht⟩) hS.2.2 d_Mo_told_110
                  · by_cases c_12 : x_p0 = 7
                    · refine lv_tableIn (off := 82) (tgt := 111) hx hb d_Mo_told_29 (by rw [c_12]; decide +kernel) (by rw [c_12]; decide +kernel) (by rw [c_12]; decide +kernel) (by decide) ?_
                      refine lv_aload_n hx hb d_Mo_told_111 rfl (lv_at hl 0 rfl) ?_
                      refine va_get (D := (dC, dI)) (ci := 6) (v := .int v_wait) (C := "LabelledCoreModel") (T := T_Mo) (N := 24) hx hb hts in_Mo hown hK hP 0 rfl rfl 14 (by decide) (hts _ wm_970) (fun _ h9 => h9) rfl d_Mo_told_112 ?_
                      have ef : (f_Mo_told v_outcome v_pc v_pcLabel v_wait v_went v_done v_misses v_known x_p0) = ((v_wait, 0) : Int32 × Int32) := (if_neg c_1).trans ((if_pos c_3).trans ((if_neg c_5).trans ((if_neg c_6).trans ((if_neg c_7).trans ((if_neg c_8).trans ((if_neg c_9).trans ((if_neg c_10).trans ((if_neg c_11).trans ((if_pos c_12).trans rfl)))))))))
                      have hP9 := hP.sub (ws' := [(h0, .inr (6, [.int 0, .ref a_words, .int v_size, .ref a_rules, .int v_entries, .int v_outcome, .int v_pc, .int v_pcLabel, .ref a_registers, .ref a_registerLabels, .ref a_memory, .ref a_memoryLabels, .ref a_waiting, .ref a_waitingLabels, .int v_wait, .ref a_out, .ref a_outLabels, .int v_went, .int v_done, .int v_misses, .ref a_keys, .int v_known, .int v_group, .ref a_labels]))]) [0] rfl
                      have hD9 := hD.sub (ws' := [(h0, .inr (6, [.int 0, .ref a_words, .int v_size, .ref a_rules, .int v_entries, .int v_outcome, .int v_pc, .int v_pcLabel, .ref a_registers, .ref a_registerLabels, .ref a_memory, .ref a_memoryLabels, .ref a_waiting, .ref a_waitingLabels, .int v_wait, .ref a_out, .ref a_outLabels, .int v_went, .int v_done, .int v_misses, .ref a_keys, .int v_known, .int v_group, .ref a_labels]))]) [0] (by decide) rfl
                      exact W.iret (v := v_wait) hx hb hr (fun t ht hW => ⟨⟨v_wait, (), rfl, by rw [ef], by rw [ef, ht]; exact hP9, va_K.moved hW.alike hK, by rw [ef]; exact hD9⟩, hS.F ht⟩) hS.2.2 d_Mo_told_115
                    · refine lv_tableOut (tgt := 116) hx hb d_Mo_told_29 (by have q0 := lv_neT c_5 (show (0 : Int32).toInt = 0 by decide); have q1 := lv_neT c_6 (show (1 : Int32).toInt = 1 by decide); have q2 := lv_neT c_7 (show (2 : Int32).toInt = 2 by decide); have q3 := lv_neT c_8 (show (3 : Int32).toInt = 3 by decide); have q4 := lv_neT c_9 (show (4 : Int32).toInt = 4 by decide); have q5 := lv_neT c_10 (show (5 : Int32).toInt = 5 by decide); have q6 := lv_neT c_11 (show (6 : Int32).toInt = 6 by decide); have q7 := lv_neT c_12 (show (7 : Int32).toInt = 7 by decide); omega) (by decide) ?_
                      refine lv_iconst (v := 0) hx hb d_Mo_told_116 (by decide) ?_
                      have ef : (f_Mo_told v_outcome v_pc v_pcLabel v_wait v_went v_done v_misses v_known x_p0) = ((0, 0) : Int32 × Int32) := (if_neg c_1).trans ((if_pos c_3).trans ((if_neg c_5).trans ((if_neg c_6).trans ((if_neg c_7).trans ((if_neg c_8).trans ((if_neg c_9).trans ((if_neg c_10).trans ((if_neg c_11).trans ((if_neg c_12).trans rfl)))))))))
                      have hP9 := hP.sub (ws' := [(h0, .inr (6, [.int 0, .ref a_words, .int v_size, .ref a_rules, .int v_entries, .int v_outcome, .int v_pc, .int v_pcLabel, .ref a_registers, .ref a_registerLabels, .ref a_memory, .ref a_memoryLabels, .ref a_waiting, .ref a_waitingLabels, .int v_wait, .ref a_out, .ref a_outLabels, .int v_went, .int v_done, .int v_misses, .ref a_keys, .int v_known, .int v_group, .ref a_labels]))]) [0] rfl
                      have hD9 := hD.sub (ws' := [(h0, .inr (6, [.int 0, .ref a_words, .int v_size, .ref a_rules, .int v_entries, .int v_outcome, .int v_pc, .int v_pcLabel, .ref a_registers, .ref a_registerLabels, .ref a_memory, .ref a_memoryLabels, .ref a_waiting, .ref a_waitingLabels, .int v_wait, .ref a_out, .ref a_outLabels, .int v_went, .int v_done, .int v_misses, .ref a_keys, .int v_known, .int v_group, .ref a_labels]))]) [0] (by decide) rfl
                      exact W.iret (v := 0) hx hb hr (fun t ht hW => ⟨⟨0, (), rfl, by rw [ef], by rw [ef, ht]; exact hP9, va_K.moved hW.alike hK, by rw [ef]; exact hD9⟩, hS.F ht⟩) hS.2.2 d_Mo_told_117
    · refine lv_iconst (v := 1) hx hb d_Mo_told_11 (by decide) ?_
      refine lv_goto (tgt := 16) hx hb d_Mo_told_12 (by decide) ?_
      refine va_put (D := (dC, dI)) (ci := 6) (v := .int 1) (ty := .int) (C := "LabelledCoreModel") (T := T_Mo) (N := 24) hx hb hts in_Mo t_Mo ty_Mo nm_Mo hown hK hP hD hS 0 rfl rfl 0 (by decide) (hts _ wm_956) (fun _ h9 => h9) rfl (by decide +kernel) rfl rfl (Nat.le_of_ble_eq_true rfl) d_Mo_told_16 (fun H locs hP hD hS => ?_)
      have hP : va_P (dC, dI) clsL [(h0, .inr (6, [.int 1, .ref a_words, .int v_size, .ref a_rules, .int v_entries, .int v_outcome, .int v_pc, .int v_pcLabel, .ref a_registers, .ref a_registerLabels, .ref a_memory, .ref a_memoryLabels, .ref a_waiting, .ref a_waitingLabels, .int v_wait, .ref a_out, .ref a_outLabels, .int v_went, .int v_done, .int v_misses, .ref a_keys, .int v_known, .int v_group, .ref a_labels]))] H := hP
      have hD : va_D A [(h0, .inr (6, [.int 1, .ref a_words, .int v_size, .ref a_rules, .int v_entries, .int v_outcome, .int v_pc, .int v_pcLabel, .ref a_registers, .ref a_registerLabels, .ref a_memory, .ref a_memoryLabels, .ref a_waiting, .ref a_waitingLabels, .int v_wait, .ref a_out, .ref a_outLabels, .int v_went, .int v_done, .int v_misses, .ref a_keys, .int v_known, .int v_group, .ref a_labels]))] := hD
      refine lv_aload_n hx hb d_Mo_told_19 rfl (lv_at hl 0 rfl) ?_
      refine va_get (D := (dC, dI)) (ci := 6) (v := .int 1) (C := "LabelledCoreModel") (T := T_Mo) (N := 24) hx hb hts in_Mo hown hK hP 0 rfl rfl 0 (by decide) (hts _ wm_956) (fun _ h9 => h9) rfl d_Mo_told_20 ?_
      refine lv_if_le (tgt := 28) hx hb d_Mo_told_23 (by decide) (fun c_13 => absurd c_13 (by decide)) (fun c_13 => ?_)
      refine lv_iconst (v := 0) hx hb d_Mo_told_26 (by decide) ?_
      have ef : (f_Mo_told v_outcome v_pc v_pcLabel v_wait v_went v_done v_misses v_known x_p0) = ((0, 1) : Int32 × Int32) := (if_neg c_1).trans ((if_neg c_3).trans rfl)
      have hP9 := hP.sub (ws' := [(h0, .inr (6, [.int 1, .ref a_words, .int v_size, .ref a_rules, .int v_entries, .int v_outcome, .int v_pc, .int v_pcLabel, .ref a_registers, .ref a_registerLabels, .ref a_memory, .ref a_memoryLabels, .ref a_waiting, .ref a_waitingLabels, .int v_wait, .ref a_out, .ref a_outLabels, .int v_went, .int v_done, .int v_misses, .ref a_keys, .int v_known, .int v_group, .ref a_labels]))]) [0] rfl
      have hD9 := hD.sub (ws' := [(h0, .inr (6, [.int 1, .ref a_words, .int v_size, .ref a_rules, .int v_entries, .int v_outcome, .int v_pc, .int v_pcLabel, .ref a_registers, .ref a_registerLabels, .ref a_memory, .ref a_memoryLabels, .ref a_waiting, .ref a_waitingLabels, .int v_wait, .ref a_out, .ref a_outLabels, .int v_went, .int v_done, .int v_misses, .ref a_keys, .int v_known, .int v_group, .ref a_labels]))]) [0] (by decide) rfl
      exact W.iret (v := 0) hx hb hr (fun t ht hW => ⟨⟨0, (), rfl, by rw [ef], by rw [ef, ht]; exact hP9, va_K.moved hW.alike hK, by rw [ef]; exact hD9⟩, hS.F ht⟩) hS.2.2 d_Mo_told_27
