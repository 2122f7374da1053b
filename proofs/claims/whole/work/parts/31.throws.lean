set_option maxHeartbeats 4000000 in
set_option maxRecDepth 100000 in
theorem tt_Co_rule (l : Launch) (hfl : l.flags = flags0) (dC : Nat → ClassId) (dI : Nat → Nat → Nat) (cI : ClassId) (h0 : Nat) (x_p0 : Int32) (x_p1 : Int32) (x_p2 : Int32) (x_p3 : Int32) (x_p4 : Int32) (hd_0 : (¬ x_p0 < 0) → (x_p0 < 9) → (¬ (f_Co_isMask x_p1) = 0) → (¬ (f_Co_isMask x_p2) = 0) → (¬ (f_Co_isMask x_p3) = 0) → (¬ (f_Co_isMask x_p4) = 0) → False) : MetT l y_Co_rule w_Co_rule ({ frames := 6, cells := 1, slots := 6, locals := 82 }) (pcT dC dI cI [] [.ref h0, .int x_p0, .int x_p1, .int x_p2, .int x_p3, .int x_p4]) "java/lang/IllegalArgumentException" := by
  refine MetT.ofW (cc := c_Co_rule) (maxL := 6) (ret := none) (by decide) rfl ?_
  intro p e s m args below meth c s₁ B hml hv
  obtain ⟨rfl, hP, hK, hT⟩ := hv
  have hx := B.exec
  have hb := B.bytes
  have hr := B.returns
  have hts : ∀ w ∈ wG, w.before _ s = true := fun w h => atoms_spec (ws := w_Co_rule) B.pre w (List.mem_cons_of_mem _ h)
  have hown : s.vm.findClass "LabelledCore" = some m.cls := findClass_of_methodNamed B.named
  have hlocks := B.notSynchronized
  have htr : e.platform.stackTraces = false := Launch.traces_off hfl (Stand.of_body B).admits
  have hno : c.exceptionTable.isEmpty = true := B.noHandlers (atoms_spec (ws := w_Co_rule) B.pre _ List.mem_cons_self)
  have hl := lv_entry ([.ref h0, .int x_p0, .int x_p1, .int x_p2, .int x_p3, .int x_p4]) (n := 6) (Nat.le_of_ble_eq_true rfl)
  rw [lg_entry_eq]
  generalize (lg_sl ([.ref h0, .int x_p0, .int x_p1, .int x_p2, .int x_p3, .int x_p4]) ++ List.replicate (6 - (lg_sl ([.ref h0, .int x_p0, .int x_p1, .int x_p2, .int x_p3, .int x_p4])).length) Slot.unset).toArray = ls at hl ⊢
  have hl : lv_has ls 6 [(0, .ref h0), (1, .int x_p0), (2, .int x_p1), (3, .int x_p2), (4, .int x_p3), (5, .int x_p4)] := hl
  refine lv_iload_n hx hb d_Co_rule_0 rfl (lv_at hl 1 rfl) ?_
  refine lv_if_lt (tgt := 10) hx hb d_Co_rule_1 (by decide) (fun c_1 => ?_) (fun c_1 => ?_)
  · refine W.newc hx hb hown (hts _ wm_314) (hts _ wt_instI) (hts _ wt_initI) rfl d_Co_rule_10 (Nat.le_of_ble_eq_true rfl) (Nat.le_of_ble_eq_true rfl) (fun cX kX hfX hkX hoX hnX => ?_)
    refine W.eq (g2 := F0 m 13 ls [.ref s.heap.size]) rfl ?_
    refine lv_dup hx hb d_Co_rule_13 rfl ?_
    obtain ⟨q, hq⟩ := hT.2.2.2 (72, "group is not 0 to 8") (by decide)
    refine va_ldcS hx hb hown hq d_Co_rule_14 ?_
    refine W.widen (k := 1) (n := 6) (by decide) (by decide) ?_
    exact th_end hx hb htr hown (X := "java/lang/IllegalArgumentException") (names := exN) (by decide +kernel) (by decide +kernel) (hT.atomsI hts) hfX hkX (by rw [Array.getElem?_push, if_pos rfl]) (Nat.le_refl _) (by rw [hml]; exact hl.1) d_Co_rule_16 d_Co_rule_19 hno (Nat.le_of_ble_eq_true rfl) (Nat.le_of_ble_eq_true rfl) hlocks
  · refine lv_iload_n hx hb d_Co_rule_4 rfl (lv_at hl 1 rfl) ?_
    refine lv_bipush (v := 9) hx hb d_Co_rule_5 (by decide) ?_
    refine lv_icmp_lt (tgt := 20) hx hb d_Co_rule_7 (by decide) (fun c_2 => ?_) (fun c_2 => ?_)
    · refine lv_iload_n hx hb d_Co_rule_20 rfl (lv_at hl 2 rfl) ?_
      have hPc := hP.sub (ws' := []) [] rfl
      refine W.callR ((W.runS (As := [.int x_p1]) (rest := []) ⟨hx, hb, hml, hown, hts⟩ (ct_Co_isMask l dC dI cI x_p1) (va_cwS 1 hts (gS wm_382 wm_383 wm_36 wm_384) rfl rfl rfl (by decide +kernel) ⟨Nat.le_of_ble_eq_true rfl, Nat.le_of_ble_eq_true rfl⟩) ⟨pcR_blind, pcR_pre hPc hK⟩ rfl rfl hl.1 rfl (lv_room (Nat.le_of_ble_eq_true rfl)) d_Co_rule_21 ⟨Nat.le_of_ble_eq_true rfl, Nat.le_of_ble_eq_true rfl⟩)) ?_
      refine W.eq (g2 := F0 m 24 ls [.int (f_Co_isMask x_p1)]) rfl ?_
      refine lv_if_eq (tgt := 50) hx hb d_Co_rule_24 (by decide) (fun c_3 => ?_) (fun c_3 => ?_)
      · refine W.newc hx hb hown (hts _ wm_314) (hts _ wt_instI) (hts _ wt_initI) rfl d_Co_rule_50 (Nat.le_of_ble_eq_true rfl) (Nat.le_of_ble_eq_true rfl) (fun cX kX hfX hkX hoX hnX => ?_)
        refine W.eq (g2 := F0 m 53 ls [.ref s.heap.size]) rfl ?_
        refine lv_dup hx hb d_Co_rule_53 rfl ?_
        obtain ⟨q, hq⟩ := hT.2.2.2 (81, "a mask is not 0 to 15") (by decide)
        refine va_ldcS hx hb hown hq d_Co_rule_54 ?_
        refine W.widen (k := 1) (n := 6) (by decide) (by decide) ?_
        exact th_end hx hb htr hown (X := "java/lang/IllegalArgumentException") (names := exN) (by decide +kernel) (by decide +kernel) (hT.atomsI hts) hfX hkX (by rw [Array.getElem?_push, if_pos rfl]) (Nat.le_refl _) (by rw [hml]; exact hl.1) d_Co_rule_56 d_Co_rule_59 hno (Nat.le_of_ble_eq_true rfl) (Nat.le_of_ble_eq_true rfl) hlocks
      · refine lv_iload_n hx hb d_Co_rule_27 rfl (lv_at hl 3 rfl) ?_
        have hPc := hP.sub (ws' := []) [] rfl
        refine W.callR ((W.runS (As := [.int x_p2]) (rest := []) ⟨hx, hb, hml, hown, hts⟩ (ct_Co_isMask l dC dI cI x_p2) (va_cwS 1 hts (gS wm_382 wm_383 wm_36 wm_384) rfl rfl rfl (by decide +kernel) ⟨Nat.le_of_ble_eq_true rfl, Nat.le_of_ble_eq_true rfl⟩) ⟨pcR_blind, pcR_pre hPc hK⟩ rfl rfl hl.1 rfl (lv_room (Nat.le_of_ble_eq_true rfl)) d_Co_rule_28 ⟨Nat.le_of_ble_eq_true rfl, Nat.le_of_ble_eq_true rfl⟩)) ?_
        refine W.eq (g2 := F0 m 31 ls [.int (f_Co_isMask x_p2)]) rfl ?_
        refine lv_if_eq (tgt := 50) hx hb d_Co_rule_31 (by decide) (fun c_4 => ?_) (fun c_4 => ?_)
        · refine W.newc hx hb hown (hts _ wm_314) (hts _ wt_instI) (hts _ wt_initI) rfl d_Co_rule_50 (Nat.le_of_ble_eq_true rfl) (Nat.le_of_ble_eq_true rfl) (fun cX kX hfX hkX hoX hnX => ?_)
          refine W.eq (g2 := F0 m 53 ls [.ref s.heap.size]) rfl ?_
          refine lv_dup hx hb d_Co_rule_53 rfl ?_
          obtain ⟨q, hq⟩ := hT.2.2.2 (81, "a mask is not 0 to 15") (by decide)
          refine va_ldcS hx hb hown hq d_Co_rule_54 ?_
          refine W.widen (k := 1) (n := 6) (by decide) (by decide) ?_
          exact th_end hx hb htr hown (X := "java/lang/IllegalArgumentException") (names := exN) (by decide +kernel) (by decide +kernel) (hT.atomsI hts) hfX hkX (by rw [Array.getElem?_push, if_pos rfl]) (Nat.le_refl _) (by rw [hml]; exact hl.1) d_Co_rule_56 d_Co_rule_59 hno (Nat.le_of_ble_eq_true rfl) (Nat.le_of_ble_eq_true rfl) hlocks
        · refine lv_iload hx hb d_Co_rule_34 (lv_at hl 4 rfl) ?_
          have hPc := hP.sub (ws' := []) [] rfl
          refine W.callR ((W.runS (As := [.int x_p3]) (rest := []) ⟨hx, hb, hml, hown, hts⟩ (ct_Co_isMask l dC dI cI x_p3) (va_cwS 1 hts (gS wm_382 wm_383 wm_36 wm_384) rfl rfl rfl (by decide +kernel) ⟨Nat.le_of_ble_eq_true rfl, Nat.le_of_ble_eq_true rfl⟩) ⟨pcR_blind, pcR_pre hPc hK⟩ rfl rfl hl.1 rfl (lv_room (Nat.le_of_ble_eq_true rfl)) d_Co_rule_36 ⟨Nat.le_of_ble_eq_true rfl, Nat.le_of_ble_eq_true rfl⟩)) ?_
          refine W.eq (g2 := F0 m 39 ls [.int (f_Co_isMask x_p3)]) rfl ?_
          refine lv_if_eq (tgt := 50) hx hb d_Co_rule_39 (by decide) (fun c_5 => ?_) (fun c_5 => ?_)
          · refine W.newc hx hb hown (hts _ wm_314) (hts _ wt_instI) (hts _ wt_initI) rfl d_Co_rule_50 (Nat.le_of_ble_eq_true rfl) (Nat.le_of_ble_eq_true rfl) (fun cX kX hfX hkX hoX hnX => ?_)
            refine W.eq (g2 := F0 m 53 ls [.ref s.heap.size]) rfl ?_
            refine lv_dup hx hb d_Co_rule_53 rfl ?_
            obtain ⟨q, hq⟩ := hT.2.2.2 (81, "a mask is not 0 to 15") (by decide)
            refine va_ldcS hx hb hown hq d_Co_rule_54 ?_
            refine W.widen (k := 1) (n := 6) (by decide) (by decide) ?_
            exact th_end hx hb htr hown (X := "java/lang/IllegalArgumentException") (names := exN) (by decide +kernel) (by decide +kernel) (hT.atomsI hts) hfX hkX (by rw [Array.getElem?_push, if_pos rfl]) (Nat.le_refl _) (by rw [hml]; exact hl.1) d_Co_rule_56 d_Co_rule_59 hno (Nat.le_of_ble_eq_true rfl) (Nat.le_of_ble_eq_true rfl) hlocks
          · refine lv_iload hx hb d_Co_rule_42 (lv_at hl 5 rfl) ?_
            have hPc := hP.sub (ws' := []) [] rfl
            refine W.callR ((W.runS (As := [.int x_p4]) (rest := []) ⟨hx, hb, hml, hown, hts⟩ (ct_Co_isMask l dC dI cI x_p4) (va_cwS 1 hts (gS wm_382 wm_383 wm_36 wm_384) rfl rfl rfl (by decide +kernel) ⟨Nat.le_of_ble_eq_true rfl, Nat.le_of_ble_eq_true rfl⟩) ⟨pcR_blind, pcR_pre hPc hK⟩ rfl rfl hl.1 rfl (lv_room (Nat.le_of_ble_eq_true rfl)) d_Co_rule_44 ⟨Nat.le_of_ble_eq_true rfl, Nat.le_of_ble_eq_true rfl⟩)) ?_
            refine W.eq (g2 := F0 m 47 ls [.int (f_Co_isMask x_p4)]) rfl ?_
            refine lv_if_ne (tgt := 60) hx hb d_Co_rule_47 (by decide) (fun c_6 => ?_) (fun c_6 => ?_)
            · exact ((hd_0 c_1 c_2 c_3 c_4 c_5 c_6)).elim
            · refine W.newc hx hb hown (hts _ wm_314) (hts _ wt_instI) (hts _ wt_initI) rfl d_Co_rule_50 (Nat.le_of_ble_eq_true rfl) (Nat.le_of_ble_eq_true rfl) (fun cX kX hfX hkX hoX hnX => ?_)
              refine W.eq (g2 := F0 m 53 ls [.ref s.heap.size]) rfl ?_
              refine lv_dup hx hb d_Co_rule_53 rfl ?_
              obtain ⟨q, hq⟩ := hT.2.2.2 (81, "a mask is not 0 to 15") (by decide)
              refine va_ldcS hx hb hown hq d_Co_rule_54 ?_
              refine W.widen (k := 1) (n := 6) (by decide) (by decide) ?_
              exact th_end hx hb htr hown (X := "java/lang/IllegalArgumentException") (names := exN) (by decide +kernel) (by decide +kernel) (hT.atomsI hts) hfX hkX (by rw [Array.getElem?_push, if_pos rfl]) (Nat.le_refl _) (by rw [hml]; exact hl.1) d_Co_rule_56 d_Co_rule_59 hno (Nat.le_of_ble_eq_true rfl) (Nat.le_of_ble_eq_true rfl) hlocks
    · refine W.newc hx hb hown (hts _ wm_314) (hts _ wt_instI) (hts _ wt_initI) rfl d_Co_rule_10 (Nat.le_of_ble_eq_true rfl) (Nat.le_of_ble_eq_true rfl) (fun cX kX hfX hkX hoX hnX => ?_)
      refine W.eq (g2 := F0 m 13 ls [.ref s.heap.size]) rfl ?_
      refine lv_dup hx hb d_Co_rule_13 rfl ?_
      obtain ⟨q, hq⟩ := hT.2.2.2 (72, "group is not 0 to 8") (by decide)
      refine va_ldcS hx hb hown hq d_Co_rule_14 ?_
      refine W.widen (k := 1) (n := 6) (by decide) (by decide) ?_
      exact th_end hx hb htr hown (X := "java/lang/IllegalArgumentException") (names := exN) (by decide +kernel) (by decide +kernel) (hT.atomsI hts) hfX hkX (by rw [Array.getElem?_push, if_pos rfl]) (Nat.le_refl _) (by rw [hml]; exact hl.1) d_Co_rule_16 d_Co_rule_19 hno (Nat.le_of_ble_eq_true rfl) (Nat.le_of_ble_eq_true rfl) hlocks
set_option maxHeartbeats 4000000 in
set_option maxRecDepth 100000 in
theorem tt_Co_cache (l : Launch) (hfl : l.flags = flags0) (dC : Nat → ClassId) (dI : Nat → Nat → Nat) (cI : ClassId) (h0 : Nat) (x_p0 : Int32) (hd_0 : (¬ x_p0 < 1) → (x_p0 ≤ 64) → False) : MetT l y_Co_cache w_Co_cache ({ frames := 6, cells := 1, slots := 6, locals := 82 }) (pcT dC dI cI [] [.ref h0, .int x_p0]) "java/lang/IllegalArgumentException" := by
  refine MetT.ofW (cc := c_Co_cache) (maxL := 2) (ret := (some .int)) (by decide) rfl ?_
  intro p e s m args below meth c s₁ B hml hv
  obtain ⟨rfl, hP, hK, hT⟩ := hv
  have hx := B.exec
  have hb := B.bytes
  have hr := B.returns
  have hts : ∀ w ∈ wG, w.before _ s = true := fun w h => atoms_spec (ws := w_Co_cache) B.pre w (List.mem_cons_of_mem _ h)
  have hown : s.vm.findClass "LabelledCore" = some m.cls := findClass_of_methodNamed B.named
  have hlocks := B.notSynchronized
  have htr : e.platform.stackTraces = false := Launch.traces_off hfl (Stand.of_body B).admits
  have hno : c.exceptionTable.isEmpty = true := B.noHandlers (atoms_spec (ws := w_Co_cache) B.pre _ List.mem_cons_self)
  have hl := lv_entry ([.ref h0, .int x_p0]) (n := 2) (Nat.le_of_ble_eq_true rfl)
  rw [lg_entry_eq]
  generalize (lg_sl ([.ref h0, .int x_p0]) ++ List.replicate (2 - (lg_sl ([.ref h0, .int x_p0])).length) Slot.unset).toArray = ls at hl ⊢
  have hl : lv_has ls 2 [(0, .ref h0), (1, .int x_p0)] := hl
  refine lv_iload_n hx hb d_Co_cache_0 rfl (lv_at hl 1 rfl) ?_
  refine lv_iconst (v := 1) hx hb d_Co_cache_1 (by decide) ?_
  refine lv_icmp_lt (tgt := 11) hx hb d_Co_cache_2 (by decide) (fun c_1 => ?_) (fun c_1 => ?_)
  · refine W.newc hx hb hown (hts _ wm_314) (hts _ wt_instI) (hts _ wt_initI) rfl d_Co_cache_11 (Nat.le_of_ble_eq_true rfl) (Nat.le_of_ble_eq_true rfl) (fun cX kX hfX hkX hoX hnX => ?_)
    refine W.eq (g2 := F0 m 14 ls [.ref s.heap.size]) rfl ?_
    refine lv_dup hx hb d_Co_cache_14 rfl ?_
    obtain ⟨q, hq⟩ := hT.2.2.2 (86, "entries is not 1 to 64") (by decide)
    refine va_ldcS hx hb hown hq d_Co_cache_15 ?_
    refine W.widen (k := 1) (n := 6) (by decide) (by decide) ?_
    exact th_end hx hb htr hown (X := "java/lang/IllegalArgumentException") (names := exN) (by decide +kernel) (by decide +kernel) (hT.atomsI hts) hfX hkX (by rw [Array.getElem?_push, if_pos rfl]) (Nat.le_refl _) (by rw [hml]; exact hl.1) d_Co_cache_17 d_Co_cache_20 hno (Nat.le_of_ble_eq_true rfl) (Nat.le_of_ble_eq_true rfl) hlocks
  · refine lv_iload_n hx hb d_Co_cache_5 rfl (lv_at hl 1 rfl) ?_
    refine lv_bipush (v := 64) hx hb d_Co_cache_6 (by decide) ?_
    refine lv_icmp_le (tgt := 21) hx hb d_Co_cache_8 (by decide) (fun c_2 => ?_) (fun c_2 => ?_)
    · exact ((hd_0 c_1 c_2)).elim
    · refine W.newc hx hb hown (hts _ wm_314) (hts _ wt_instI) (hts _ wt_initI) rfl d_Co_cache_11 (Nat.le_of_ble_eq_true rfl) (Nat.le_of_ble_eq_true rfl) (fun cX kX hfX hkX hoX hnX => ?_)
      refine W.eq (g2 := F0 m 14 ls [.ref s.heap.size]) rfl ?_
      refine lv_dup hx hb d_Co_cache_14 rfl ?_
      obtain ⟨q, hq⟩ := hT.2.2.2 (86, "entries is not 1 to 64") (by decide)
      refine va_ldcS hx hb hown hq d_Co_cache_15 ?_
      refine W.widen (k := 1) (n := 6) (by decide) (by decide) ?_
      exact th_end hx hb htr hown (X := "java/lang/IllegalArgumentException") (names := exN) (by decide +kernel) (by decide +kernel) (hT.atomsI hts) hfX hkX (by rw [Array.getElem?_push, if_pos rfl]) (Nat.le_refl _) (by rw [hml]; exact hl.1) d_Co_cache_17 d_Co_cache_20 hno (Nat.le_of_ble_eq_true rfl) (Nat.le_of_ble_eq_true rfl) hlocks
set_option maxHeartbeats 4000000 in
set_option maxRecDepth 100000 in
theorem tt_Co_set (l : Launch) (hfl : l.flags = flags0) (dC : Nat → ClassId) (dI : Nat → Nat → Nat) (cI : ClassId) (h0 : Nat) (x_p0 : Int32) (x_p1 : Int32) (x_p2 : Int32) (hd_0 : (¬ x_p0 < 1) → (x_p0 < 32) → False) : MetT l y_Co_set w_Co_set ({ frames := 6, cells := 1, slots := 6, locals := 82 }) (pcT dC dI cI [] [.ref h0, .int x_p0, .int x_p1, .int x_p2]) "java/lang/IllegalArgumentException" := by
  refine MetT.ofW (cc := c_Co_set) (maxL := 4) (ret := none) (by decide) rfl ?_
  intro p e s m args below meth c s₁ B hml hv
  obtain ⟨rfl, hP, hK, hT⟩ := hv
  have hx := B.exec
  have hb := B.bytes
  have hr := B.returns
  have hts : ∀ w ∈ wG, w.before _ s = true := fun w h => atoms_spec (ws := w_Co_set) B.pre w (List.mem_cons_of_mem _ h)
  have hown : s.vm.findClass "LabelledCore" = some m.cls := findClass_of_methodNamed B.named
  have hlocks := B.notSynchronized
  have htr : e.platform.stackTraces = false := Launch.traces_off hfl (Stand.of_body B).admits
  have hno : c.exceptionTable.isEmpty = true := B.noHandlers (atoms_spec (ws := w_Co_set) B.pre _ List.mem_cons_self)
  have hl := lv_entry ([.ref h0, .int x_p0, .int x_p1, .int x_p2]) (n := 4) (Nat.le_of_ble_eq_true rfl)
  rw [lg_entry_eq]
  generalize (lg_sl ([.ref h0, .int x_p0, .int x_p1, .int x_p2]) ++ List.replicate (4 - (lg_sl ([.ref h0, .int x_p0, .int x_p1, .int x_p2])).length) Slot.unset).toArray = ls at hl ⊢
  have hl : lv_has ls 4 [(0, .ref h0), (1, .int x_p0), (2, .int x_p1), (3, .int x_p2)] := hl
  refine lv_iload_n hx hb d_Co_set_0 rfl (lv_at hl 1 rfl) ?_
  refine lv_iconst (v := 1) hx hb d_Co_set_1 (by decide) ?_
  refine lv_icmp_lt (tgt := 11) hx hb d_Co_set_2 (by decide) (fun c_1 => ?_) (fun c_1 => ?_)
  · refine W.newc hx hb hown (hts _ wm_314) (hts _ wt_instI) (hts _ wt_initI) rfl d_Co_set_11 (Nat.le_of_ble_eq_true rfl) (Nat.le_of_ble_eq_true rfl) (fun cX kX hfX hkX hoX hnX => ?_)
    refine W.eq (g2 := F0 m 14 ls [.ref s.heap.size]) rfl ?_
    refine lv_dup hx hb d_Co_set_14 rfl ?_
    obtain ⟨q, hq⟩ := hT.2.2.2 (92, "register is not 1 to 31") (by decide)
    refine va_ldcS hx hb hown hq d_Co_set_15 ?_
    refine W.widen (k := 1) (n := 6) (by decide) (by decide) ?_
    exact th_end hx hb htr hown (X := "java/lang/IllegalArgumentException") (names := exN) (by decide +kernel) (by decide +kernel) (hT.atomsI hts) hfX hkX (by rw [Array.getElem?_push, if_pos rfl]) (Nat.le_refl _) (by rw [hml]; exact hl.1) d_Co_set_17 d_Co_set_20 hno (Nat.le_of_ble_eq_true rfl) (Nat.le_of_ble_eq_true rfl) hlocks
  · refine lv_iload_n hx hb d_Co_set_5 rfl (lv_at hl 1 rfl) ?_
    refine lv_bipush (v := 32) hx hb d_Co_set_6 (by decide) ?_
    refine lv_icmp_lt (tgt := 21) hx hb d_Co_set_8 (by decide) (fun c_2 => ?_) (fun c_2 => ?_)
    · exact ((hd_0 c_1 c_2)).elim
    · refine W.newc hx hb hown (hts _ wm_314) (hts _ wt_instI) (hts _ wt_initI) rfl d_Co_set_11 (Nat.le_of_ble_eq_true rfl) (Nat.le_of_ble_eq_true rfl) (fun cX kX hfX hkX hoX hnX => ?_)
      refine W.eq (g2 := F0 m 14 ls [.ref s.heap.size]) rfl ?_
      refine lv_dup hx hb d_Co_set_14 rfl ?_
      obtain ⟨q, hq⟩ := hT.2.2.2 (92, "register is not 1 to 31") (by decide)
      refine va_ldcS hx hb hown hq d_Co_set_15 ?_
      refine W.widen (k := 1) (n := 6) (by decide) (by decide) ?_
      exact th_end hx hb htr hown (X := "java/lang/IllegalArgumentException") (names := exN) (by decide +kernel) (by decide +kernel) (hT.atomsI hts) hfX hkX (by rw [Array.getElem?_push, if_pos rfl]) (Nat.le_refl _) (by rw [hml]; exact hl.1) d_Co_set_17 d_Co_set_20 hno (Nat.le_of_ble_eq_true rfl) (Nat.le_of_ble_eq_true rfl) hlocks
set_option maxHeartbeats 4000000 in
set_option maxRecDepth 100000 in
theorem tt_Co_poke (l : Launch) (hfl : l.flags = flags0) (dC : Nat → ClassId) (dI : Nat → Nat → Nat) (cI : ClassId) (h0 : Nat) (x_p0 : Int32) (x_p1 : Int32) (x_p2 : Int32) (hd_0 : (¬ x_p0 < 0) → (x_p0 < 64) → False) : MetT l y_Co_poke w_Co_poke ({ frames := 6, cells := 1, slots := 6, locals := 82 }) (pcT dC dI cI [] [.ref h0, .int x_p0, .int x_p1, .int x_p2]) "java/lang/IllegalArgumentException" := by
  refine MetT.ofW (cc := c_Co_poke) (maxL := 4) (ret := none) (by decide) rfl ?_
  intro p e s m args below meth c s₁ B hml hv
  obtain ⟨rfl, hP, hK, hT⟩ := hv
  have hx := B.exec
  have hb := B.bytes
  have hr := B.returns
  have hts : ∀ w ∈ wG, w.before _ s = true := fun w h => atoms_spec (ws := w_Co_poke) B.pre w (List.mem_cons_of_mem _ h)
  have hown : s.vm.findClass "LabelledCore" = some m.cls := findClass_of_methodNamed B.named
  have hlocks := B.notSynchronized
  have htr : e.platform.stackTraces = false := Launch.traces_off hfl (Stand.of_body B).admits
  have hno : c.exceptionTable.isEmpty = true := B.noHandlers (atoms_spec (ws := w_Co_poke) B.pre _ List.mem_cons_self)
  have hl := lv_entry ([.ref h0, .int x_p0, .int x_p1, .int x_p2]) (n := 4) (Nat.le_of_ble_eq_true rfl)
  rw [lg_entry_eq]
  generalize (lg_sl ([.ref h0, .int x_p0, .int x_p1, .int x_p2]) ++ List.replicate (4 - (lg_sl ([.ref h0, .int x_p0, .int x_p1, .int x_p2])).length) Slot.unset).toArray = ls at hl ⊢
  have hl : lv_has ls 4 [(0, .ref h0), (1, .int x_p0), (2, .int x_p1), (3, .int x_p2)] := hl
  refine lv_iload_n hx hb d_Co_poke_0 rfl (lv_at hl 1 rfl) ?_
  refine lv_if_lt (tgt := 10) hx hb d_Co_poke_1 (by decide) (fun c_1 => ?_) (fun c_1 => ?_)
  · refine W.newc hx hb hown (hts _ wm_314) (hts _ wt_instI) (hts _ wt_initI) rfl d_Co_poke_10 (Nat.le_of_ble_eq_true rfl) (Nat.le_of_ble_eq_true rfl) (fun cX kX hfX hkX hoX hnX => ?_)
    refine W.eq (g2 := F0 m 13 ls [.ref s.heap.size]) rfl ?_
    refine lv_dup hx hb d_Co_poke_13 rfl ?_
    obtain ⟨q, hq⟩ := hT.2.2.2 (98, "i is not 0 to 63") (by decide)
    refine va_ldcS hx hb hown hq d_Co_poke_14 ?_
    refine W.widen (k := 1) (n := 6) (by decide) (by decide) ?_
    exact th_end hx hb htr hown (X := "java/lang/IllegalArgumentException") (names := exN) (by decide +kernel) (by decide +kernel) (hT.atomsI hts) hfX hkX (by rw [Array.getElem?_push, if_pos rfl]) (Nat.le_refl _) (by rw [hml]; exact hl.1) d_Co_poke_16 d_Co_poke_19 hno (Nat.le_of_ble_eq_true rfl) (Nat.le_of_ble_eq_true rfl) hlocks
  · refine lv_iload_n hx hb d_Co_poke_4 rfl (lv_at hl 1 rfl) ?_
    refine lv_bipush (v := 64) hx hb d_Co_poke_5 (by decide) ?_
    refine lv_icmp_lt (tgt := 20) hx hb d_Co_poke_7 (by decide) (fun c_2 => ?_) (fun c_2 => ?_)
    · exact ((hd_0 c_1 c_2)).elim
    · refine W.newc hx hb hown (hts _ wm_314) (hts _ wt_instI) (hts _ wt_initI) rfl d_Co_poke_10 (Nat.le_of_ble_eq_true rfl) (Nat.le_of_ble_eq_true rfl) (fun cX kX hfX hkX hoX hnX => ?_)
      refine W.eq (g2 := F0 m 13 ls [.ref s.heap.size]) rfl ?_
      refine lv_dup hx hb d_Co_poke_13 rfl ?_
      obtain ⟨q, hq⟩ := hT.2.2.2 (98, "i is not 0 to 63") (by decide)
      refine va_ldcS hx hb hown hq d_Co_poke_14 ?_
      refine W.widen (k := 1) (n := 6) (by decide) (by decide) ?_
      exact th_end hx hb htr hown (X := "java/lang/IllegalArgumentException") (names := exN) (by decide +kernel) (by decide +kernel) (hT.atomsI hts) hfX hkX (by rw [Array.getElem?_push, if_pos rfl]) (Nat.le_refl _) (by rw [hml]; exact hl.1) d_Co_poke_16 d_Co_poke_19 hno (Nat.le_of_ble_eq_true rfl) (Nat.le_of_ble_eq_true rfl) hlocks
set_option maxHeartbeats 4000000 in
set_option maxRecDepth 100000 in
theorem tt_Co_run (l : Launch) (hfl : l.flags = flags0) (dC : Nat → ClassId) (dI : Nat → Nat → Nat) (cI : ClassId) (h0 : Nat) (x_p0 : Int32) (hd_0 : (¬ x_p0 < 0) → (x_p0 ≤ 1000) → False) : MetT l y_Co_run w_Co_run ({ frames := 6, cells := 1, slots := 6, locals := 82 }) (pcT dC dI cI [] [.ref h0, .int x_p0]) "java/lang/IllegalArgumentException" := by
  refine MetT.ofW (cc := c_Co_run) (maxL := 3) (ret := (some .int)) (by decide) rfl ?_
  intro p e s m args below meth c s₁ B hml hv
  obtain ⟨rfl, hP, hK, hT⟩ := hv
  have hx := B.exec
  have hb := B.bytes
  have hr := B.returns
  have hts : ∀ w ∈ wG, w.before _ s = true := fun w h => atoms_spec (ws := w_Co_run) B.pre w (List.mem_cons_of_mem _ h)
  have hown : s.vm.findClass "LabelledCore" = some m.cls := findClass_of_methodNamed B.named
  have hlocks := B.notSynchronized
  have htr : e.platform.stackTraces = false := Launch.traces_off hfl (Stand.of_body B).admits
  have hno : c.exceptionTable.isEmpty = true := B.noHandlers (atoms_spec (ws := w_Co_run) B.pre _ List.mem_cons_self)
  have hl := lv_entry ([.ref h0, .int x_p0]) (n := 3) (Nat.le_of_ble_eq_true rfl)
  rw [lg_entry_eq]
  generalize (lg_sl ([.ref h0, .int x_p0]) ++ List.replicate (3 - (lg_sl ([.ref h0, .int x_p0])).length) Slot.unset).toArray = ls at hl ⊢
  have hl : lv_has ls 3 [(0, .ref h0), (1, .int x_p0)] := hl
  refine lv_iload_n hx hb d_Co_run_0 rfl (lv_at hl 1 rfl) ?_
  refine lv_if_lt (tgt := 11) hx hb d_Co_run_1 (by decide) (fun c_1 => ?_) (fun c_1 => ?_)
  · refine W.newc hx hb hown (hts _ wm_314) (hts _ wt_instI) (hts _ wt_initI) rfl d_Co_run_11 (Nat.le_of_ble_eq_true rfl) (Nat.le_of_ble_eq_true rfl) (fun cX kX hfX hkX hoX hnX => ?_)
    refine W.eq (g2 := F0 m 14 ls [.ref s.heap.size]) rfl ?_
    refine lv_dup hx hb d_Co_run_14 rfl ?_
    obtain ⟨q, hq⟩ := hT.2.2.2 (112, "times is not 0 to 1000") (by decide)
    refine va_ldcS hx hb hown hq d_Co_run_15 ?_
    refine W.widen (k := 1) (n := 6) (by decide) (by decide) ?_
    exact th_end hx hb htr hown (X := "java/lang/IllegalArgumentException") (names := exN) (by decide +kernel) (by decide +kernel) (hT.atomsI hts) hfX hkX (by rw [Array.getElem?_push, if_pos rfl]) (Nat.le_refl _) (by rw [hml]; exact hl.1) d_Co_run_17 d_Co_run_20 hno (Nat.le_of_ble_eq_true rfl) (Nat.le_of_ble_eq_true rfl) hlocks
  · refine lv_iload_n hx hb d_Co_run_4 rfl (lv_at hl 1 rfl) ?_
    refine lv_sipush (v := 1000) hx hb d_Co_run_5 (by decide) ?_
    refine lv_icmp_le (tgt := 21) hx hb d_Co_run_8 (by decide) (fun c_2 => ?_) (fun c_2 => ?_)
    · exact ((hd_0 c_1 c_2)).elim
    · refine W.newc hx hb hown (hts _ wm_314) (hts _ wt_instI) (hts _ wt_initI) rfl d_Co_run_11 (Nat.le_of_ble_eq_true rfl) (Nat.le_of_ble_eq_true rfl) (fun cX kX hfX hkX hoX hnX => ?_)
      refine W.eq (g2 := F0 m 14 ls [.ref s.heap.size]) rfl ?_
      refine lv_dup hx hb d_Co_run_14 rfl ?_
      obtain ⟨q, hq⟩ := hT.2.2.2 (112, "times is not 0 to 1000") (by decide)
      refine va_ldcS hx hb hown hq d_Co_run_15 ?_
      refine W.widen (k := 1) (n := 6) (by decide) (by decide) ?_
      exact th_end hx hb htr hown (X := "java/lang/IllegalArgumentException") (names := exN) (by decide +kernel) (by decide +kernel) (hT.atomsI hts) hfX hkX (by rw [Array.getElem?_push, if_pos rfl]) (Nat.le_refl _) (by rw [hml]; exact hl.1) d_Co_run_17 d_Co_run_20 hno (Nat.le_of_ble_eq_true rfl) (Nat.le_of_ble_eq_true rfl) hlocks
set_option maxHeartbeats 4000000 in
set_option maxRecDepth 100000 in
theorem tt_Co_register (l : Launch) (hfl : l.flags = flags0) (dC : Nat → ClassId) (dI : Nat → Nat → Nat) (cI : ClassId) (h0 : Nat) (x_p0 : Int32) (hd_0 : (¬ x_p0 < 0) → (x_p0 < 32) → False) : MetT l y_Co_register w_Co_register ({ frames := 6, cells := 1, slots := 6, locals := 82 }) (pcT dC dI cI [] [.ref h0, .int x_p0]) "java/lang/IllegalArgumentException" := by
  refine MetT.ofW (cc := c_Co_register) (maxL := 2) (ret := (some .long)) (by decide) rfl ?_
  intro p e s m args below meth c s₁ B hml hv
  obtain ⟨rfl, hP, hK, hT⟩ := hv
  have hx := B.exec
  have hb := B.bytes
  have hr := B.returns
  have hts : ∀ w ∈ wG, w.before _ s = true := fun w h => atoms_spec (ws := w_Co_register) B.pre w (List.mem_cons_of_mem _ h)
  have hown : s.vm.findClass "LabelledCore" = some m.cls := findClass_of_methodNamed B.named
  have hlocks := B.notSynchronized
  have htr : e.platform.stackTraces = false := Launch.traces_off hfl (Stand.of_body B).admits
  have hno : c.exceptionTable.isEmpty = true := B.noHandlers (atoms_spec (ws := w_Co_register) B.pre _ List.mem_cons_self)
  have hl := lv_entry ([.ref h0, .int x_p0]) (n := 2) (Nat.le_of_ble_eq_true rfl)
  rw [lg_entry_eq]
  generalize (lg_sl ([.ref h0, .int x_p0]) ++ List.replicate (2 - (lg_sl ([.ref h0, .int x_p0])).length) Slot.unset).toArray = ls at hl ⊢
  have hl : lv_has ls 2 [(0, .ref h0), (1, .int x_p0)] := hl
  refine lv_iload_n hx hb d_Co_register_0 rfl (lv_at hl 1 rfl) ?_
  refine lv_if_lt (tgt := 10) hx hb d_Co_register_1 (by decide) (fun c_1 => ?_) (fun c_1 => ?_)
  · refine W.newc hx hb hown (hts _ wm_314) (hts _ wt_instI) (hts _ wt_initI) rfl d_Co_register_10 (Nat.le_of_ble_eq_true rfl) (Nat.le_of_ble_eq_true rfl) (fun cX kX hfX hkX hoX hnX => ?_)
    refine W.eq (g2 := F0 m 13 ls [.ref s.heap.size]) rfl ?_
    refine lv_dup hx hb d_Co_register_13 rfl ?_
    obtain ⟨q, hq⟩ := hT.2.2.2 (117, "register is not 0 to 31") (by decide)
    refine va_ldcS hx hb hown hq d_Co_register_14 ?_
    refine W.widen (k := 1) (n := 6) (by decide) (by decide) ?_
    exact th_end hx hb htr hown (X := "java/lang/IllegalArgumentException") (names := exN) (by decide +kernel) (by decide +kernel) (hT.atomsI hts) hfX hkX (by rw [Array.getElem?_push, if_pos rfl]) (Nat.le_refl _) (by rw [hml]; exact hl.1) d_Co_register_16 d_Co_register_19 hno (Nat.le_of_ble_eq_true rfl) (Nat.le_of_ble_eq_true rfl) hlocks
  · refine lv_iload_n hx hb d_Co_register_4 rfl (lv_at hl 1 rfl) ?_
    refine lv_bipush (v := 32) hx hb d_Co_register_5 (by decide) ?_
    refine lv_icmp_lt (tgt := 20) hx hb d_Co_register_7 (by decide) (fun c_2 => ?_) (fun c_2 => ?_)
    · exact ((hd_0 c_1 c_2)).elim
    · refine W.newc hx hb hown (hts _ wm_314) (hts _ wt_instI) (hts _ wt_initI) rfl d_Co_register_10 (Nat.le_of_ble_eq_true rfl) (Nat.le_of_ble_eq_true rfl) (fun cX kX hfX hkX hoX hnX => ?_)
      refine W.eq (g2 := F0 m 13 ls [.ref s.heap.size]) rfl ?_
      refine lv_dup hx hb d_Co_register_13 rfl ?_
      obtain ⟨q, hq⟩ := hT.2.2.2 (117, "register is not 0 to 31") (by decide)
      refine va_ldcS hx hb hown hq d_Co_register_14 ?_
      refine W.widen (k := 1) (n := 6) (by decide) (by decide) ?_
      exact th_end hx hb htr hown (X := "java/lang/IllegalArgumentException") (names := exN) (by decide +kernel) (by decide +kernel) (hT.atomsI hts) hfX hkX (by rw [Array.getElem?_push, if_pos rfl]) (Nat.le_refl _) (by rw [hml]; exact hl.1) d_Co_register_16 d_Co_register_19 hno (Nat.le_of_ble_eq_true rfl) (Nat.le_of_ble_eq_true rfl) hlocks
set_option maxHeartbeats 4000000 in
set_option maxRecDepth 100000 in
theorem tt_Co_memory (l : Launch) (hfl : l.flags = flags0) (dC : Nat → ClassId) (dI : Nat → Nat → Nat) (cI : ClassId) (h0 : Nat) (x_p0 : Int32) (hd_0 : (¬ x_p0 < 0) → (x_p0 < 64) → False) : MetT l y_Co_memory w_Co_memory ({ frames := 6, cells := 1, slots := 6, locals := 82 }) (pcT dC dI cI [] [.ref h0, .int x_p0]) "java/lang/IllegalArgumentException" := by
  refine MetT.ofW (cc := c_Co_memory) (maxL := 2) (ret := (some .long)) (by decide) rfl ?_
  intro p e s m args below meth c s₁ B hml hv
  obtain ⟨rfl, hP, hK, hT⟩ := hv
  have hx := B.exec
  have hb := B.bytes
  have hr := B.returns
  have hts : ∀ w ∈ wG, w.before _ s = true := fun w h => atoms_spec (ws := w_Co_memory) B.pre w (List.mem_cons_of_mem _ h)
  have hown : s.vm.findClass "LabelledCore" = some m.cls := findClass_of_methodNamed B.named
  have hlocks := B.notSynchronized
  have htr : e.platform.stackTraces = false := Launch.traces_off hfl (Stand.of_body B).admits
  have hno : c.exceptionTable.isEmpty = true := B.noHandlers (atoms_spec (ws := w_Co_memory) B.pre _ List.mem_cons_self)
  have hl := lv_entry ([.ref h0, .int x_p0]) (n := 2) (Nat.le_of_ble_eq_true rfl)
  rw [lg_entry_eq]
  generalize (lg_sl ([.ref h0, .int x_p0]) ++ List.replicate (2 - (lg_sl ([.ref h0, .int x_p0])).length) Slot.unset).toArray = ls at hl ⊢
  have hl : lv_has ls 2 [(0, .ref h0), (1, .int x_p0)] := hl
  refine lv_iload_n hx hb d_Co_memory_0 rfl (lv_at hl 1 rfl) ?_
  refine lv_if_lt (tgt := 10) hx hb d_Co_memory_1 (by decide) (fun c_1 => ?_) (fun c_1 => ?_)
  · refine W.newc hx hb hown (hts _ wm_314) (hts _ wt_instI) (hts _ wt_initI) rfl d_Co_memory_10 (Nat.le_of_ble_eq_true rfl) (Nat.le_of_ble_eq_true rfl) (fun cX kX hfX hkX hoX hnX => ?_)
    refine W.eq (g2 := F0 m 13 ls [.ref s.heap.size]) rfl ?_
    refine lv_dup hx hb d_Co_memory_13 rfl ?_
    obtain ⟨q, hq⟩ := hT.2.2.2 (98, "i is not 0 to 63") (by decide)
    refine va_ldcS hx hb hown hq d_Co_memory_14 ?_
    refine W.widen (k := 1) (n := 6) (by decide) (by decide) ?_
    exact th_end hx hb htr hown (X := "java/lang/IllegalArgumentException") (names := exN) (by decide +kernel) (by decide +kernel) (hT.atomsI hts) hfX hkX (by rw [Array.getElem?_push, if_pos rfl]) (Nat.le_refl _) (by rw [hml]; exact hl.1) d_Co_memory_16 d_Co_memory_19 hno (Nat.le_of_ble_eq_true rfl) (Nat.le_of_ble_eq_true rfl) hlocks
  · refine lv_iload_n hx hb d_Co_memory_4 rfl (lv_at hl 1 rfl) ?_
    refine lv_bipush (v := 64) hx hb d_Co_memory_5 (by decide) ?_
    refine lv_icmp_lt (tgt := 20) hx hb d_Co_memory_7 (by decide) (fun c_2 => ?_) (fun c_2 => ?_)
    · exact ((hd_0 c_1 c_2)).elim
    · refine W.newc hx hb hown (hts _ wm_314) (hts _ wt_instI) (hts _ wt_initI) rfl d_Co_memory_10 (Nat.le_of_ble_eq_true rfl) (Nat.le_of_ble_eq_true rfl) (fun cX kX hfX hkX hoX hnX => ?_)
      refine W.eq (g2 := F0 m 13 ls [.ref s.heap.size]) rfl ?_
      refine lv_dup hx hb d_Co_memory_13 rfl ?_
      obtain ⟨q, hq⟩ := hT.2.2.2 (98, "i is not 0 to 63") (by decide)
      refine va_ldcS hx hb hown hq d_Co_memory_14 ?_
      refine W.widen (k := 1) (n := 6) (by decide) (by decide) ?_
      exact th_end hx hb htr hown (X := "java/lang/IllegalArgumentException") (names := exN) (by decide +kernel) (by decide +kernel) (hT.atomsI hts) hfX hkX (by rw [Array.getElem?_push, if_pos rfl]) (Nat.le_refl _) (by rw [hml]; exact hl.1) d_Co_memory_16 d_Co_memory_19 hno (Nat.le_of_ble_eq_true rfl) (Nat.le_of_ble_eq_true rfl) hlocks
set_option maxHeartbeats 4000000 in
set_option maxRecDepth 100000 in
theorem tt_Co_output (l : Launch) (hfl : l.flags = flags0) (dC : Nat → ClassId) (dI : Nat → Nat → Nat) (cI : ClassId) (h0 a_program a_registers a_store a_waiting a_gone a_kernel a_known a_asked a_gone_held : Nat) (v_words : Int32) (v_outcome : Int32) (v_pc : Int32) (v_pcLabel : Int32) (v_done : Int32) (v_misses : Int32) (v_longMisses : Int32) (v_resultLabel : Int32) (v_nextLabel : Int32) (v_gone_room : Int32) (v_gone_first : Int32) (v_gone_count : Int32) (x_p0 : Int32) (hd_0 : (¬ x_p0 < 0) → (x_p0 < v_gone_count) → False) : MetT l y_Co_output w_Co_output ({ frames := 6, cells := 1, slots := 6, locals := 82 }) (pcT dC dI cI [(h0, .inr (5, [.ref a_program, .ref a_registers, .ref a_store, .ref a_waiting, .ref a_gone, .ref a_kernel, .ref a_known, .ref a_asked, .int v_words, .int v_outcome, .int v_pc, .int v_pcLabel, .int v_done, .int v_misses, .int v_longMisses, .int v_resultLabel, .int v_nextLabel])), (a_gone, .inr (4, [.ref a_gone_held, .int v_gone_room, .int v_gone_first, .int v_gone_count]))] [.ref h0, .int x_p0]) "java/lang/IndexOutOfBoundsException" := by
  refine MetT.ofW (cc := c_Co_output) (maxL := 2) (ret := (some .long)) (by decide) rfl ?_
  intro p e s m args below meth c s₁ B hml hv
  obtain ⟨rfl, hP, hK, hT⟩ := hv
  have hx := B.exec
  have hb := B.bytes
  have hr := B.returns
  have hts : ∀ w ∈ wG, w.before _ s = true := fun w h => atoms_spec (ws := w_Co_output) B.pre w (List.mem_cons_of_mem _ h)
  have hown : s.vm.findClass "LabelledCore" = some m.cls := findClass_of_methodNamed B.named
  have hlocks := B.notSynchronized
  have htr : e.platform.stackTraces = false := Launch.traces_off hfl (Stand.of_body B).admits
  have hno : c.exceptionTable.isEmpty = true := B.noHandlers (atoms_spec (ws := w_Co_output) B.pre _ List.mem_cons_self)
  have hl := lv_entry ([.ref h0, .int x_p0]) (n := 2) (Nat.le_of_ble_eq_true rfl)
  rw [lg_entry_eq]
  generalize (lg_sl ([.ref h0, .int x_p0]) ++ List.replicate (2 - (lg_sl ([.ref h0, .int x_p0])).length) Slot.unset).toArray = ls at hl ⊢
  have hl : lv_has ls 2 [(0, .ref h0), (1, .int x_p0)] := hl
  refine lv_iload_n hx hb d_Co_output_0 rfl (lv_at hl 1 rfl) ?_
  refine lv_if_lt (tgt := 15) hx hb d_Co_output_1 (by decide) (fun c_1 => ?_) (fun c_1 => ?_)
  · refine W.newc hx hb hown (hts _ wm_920) (hts _ wt_instO) (hts _ wt_initO) rfl d_Co_output_15 (Nat.le_of_ble_eq_true rfl) (Nat.le_of_ble_eq_true rfl) (fun cX kX hfX hkX hoX hnX => ?_)
    refine W.eq (g2 := F0 m 18 ls [.ref s.heap.size]) rfl ?_
    refine lv_dup hx hb d_Co_output_18 rfl ?_
    obtain ⟨q, hq⟩ := hT.2.2.2 (125, "no such value went out") (by decide)
    refine va_ldcS hx hb hown hq d_Co_output_19 ?_
    refine W.widen (k := 1) (n := 6) (by decide) (by decide) ?_
    exact th_end hx hb htr hown (X := "java/lang/IndexOutOfBoundsException") (names := exN) (by decide +kernel) (by decide +kernel) (hT.atomsO hts) hfX hkX (by rw [Array.getElem?_push, if_pos rfl]) (Nat.le_refl _) (by rw [hml]; exact hl.1) d_Co_output_21 d_Co_output_24 hno (Nat.le_of_ble_eq_true rfl) (Nat.le_of_ble_eq_true rfl) hlocks
  · refine lv_iload_n hx hb d_Co_output_4 rfl (lv_at hl 1 rfl) ?_
    refine lv_aload_n hx hb d_Co_output_5 rfl (lv_at hl 0 rfl) ?_
    refine va_get (D := (dC, dI)) (ci := 5) (v := .ref a_gone) (C := "LabelledCore") (T := T_Co) (N := 17) hx hb hts in_Co hown hK hP 0 rfl rfl 4 (by decide) (hts _ wm_203) (fun _ h9 => h9) rfl d_Co_output_6 ?_
    have hPc := hP.sub (ws' := [(a_gone, .inr (4, [.ref a_gone_held, .int v_gone_room, .int v_gone_first, .int v_gone_count]))]) [1] rfl
    refine W.callR ((W.runV (As := []) (rest := [.int x_p0]) ⟨hx, hb, hml, hown, hts⟩ (ct_Li_size l dC dI cI a_gone a_gone_held v_gone_room v_gone_first v_gone_count) (cwV 0 hts (gV wm_302 wm_303 wm_304 wm_38 wm_305) rfl rfl rfl (by decide +kernel) ⟨Nat.le_of_ble_eq_true rfl, Nat.le_of_ble_eq_true rfl⟩) ⟨pcR_blind, va_recv hK hPc (ci := 4) (q0 := 0) rfl rfl, pcR_pre hPc hK⟩ rfl rfl hl.1 rfl (lv_room (Nat.le_of_ble_eq_true rfl)) d_Co_output_9 ⟨Nat.le_of_ble_eq_true rfl, Nat.le_of_ble_eq_true rfl⟩)) ?_
    refine W.eq (g2 := F0 m 12 ls [.int v_gone_count, .int x_p0]) rfl ?_
    refine lv_icmp_lt (tgt := 25) hx hb d_Co_output_12 (by decide) (fun c_2 => ?_) (fun c_2 => ?_)
    · exact ((hd_0 c_1 c_2)).elim
    · refine W.newc hx hb hown (hts _ wm_920) (hts _ wt_instO) (hts _ wt_initO) rfl d_Co_output_15 (Nat.le_of_ble_eq_true rfl) (Nat.le_of_ble_eq_true rfl) (fun cX kX hfX hkX hoX hnX => ?_)
      refine W.eq (g2 := F0 m 18 ls [.ref s.heap.size]) rfl ?_
      refine lv_dup hx hb d_Co_output_18 rfl ?_
      obtain ⟨q, hq⟩ := hT.2.2.2 (125, "no such value went out") (by decide)
      refine va_ldcS hx hb hown hq d_Co_output_19 ?_
      refine W.widen (k := 1) (n := 6) (by decide) (by decide) ?_
      exact th_end hx hb htr hown (X := "java/lang/IndexOutOfBoundsException") (names := exN) (by decide +kernel) (by decide +kernel) (hT.atomsO hts) hfX hkX (by rw [Array.getElem?_push, if_pos rfl]) (Nat.le_refl _) (by rw [hml]; exact hl.1) d_Co_output_21 d_Co_output_24 hno (Nat.le_of_ble_eq_true rfl) (Nat.le_of_ble_eq_true rfl) hlocks
set_option maxHeartbeats 4000000 in
set_option maxRecDepth 100000 in
theorem tt_Co_told (l : Launch) (hfl : l.flags = flags0) (dC : Nat → ClassId) (dI : Nat → Nat → Nat) (cI : ClassId) (h0 a_program a_registers a_store a_waiting a_gone a_kernel a_known a_asked a_known_groups a_known_ps a_known_xs a_known_ys a_known_ms a_known_results a_known_nexts a_gone_held a_waiting_held : Nat) (v_words : Int32) (v_outcome : Int32) (v_pc : Int32) (v_pcLabel : Int32) (v_done : Int32) (v_misses : Int32) (v_longMisses : Int32) (v_resultLabel : Int32) (v_nextLabel : Int32) (v_known_entries : Int32) (v_known_count : Int32) (v_known_oldest : Int32) (v_gone_room : Int32) (v_gone_first : Int32) (v_gone_count : Int32) (v_waiting_room : Int32) (v_waiting_first : Int32) (v_waiting_count : Int32) (x_p0 : Int32) (hd_0 : (x_p0 = 0) → False) (hd_1 : (¬ x_p0 = 0) → (x_p0 = 1) → False) (hd_2 : (¬ x_p0 = 0) → (¬ x_p0 = 1) → (x_p0 = 2) → False) (hd_3 : (¬ x_p0 = 0) → (¬ x_p0 = 1) → (¬ x_p0 = 2) → (x_p0 = 3) → False) (hd_4 : (¬ x_p0 = 0) → (¬ x_p0 = 1) → (¬ x_p0 = 2) → (¬ x_p0 = 3) → (x_p0 = 4) → False) (hd_5 : (¬ x_p0 = 0) → (¬ x_p0 = 1) → (¬ x_p0 = 2) → (¬ x_p0 = 3) → (¬ x_p0 = 4) → (x_p0 = 5) → False) (hd_6 : (¬ x_p0 = 0) → (¬ x_p0 = 1) → (¬ x_p0 = 2) → (¬ x_p0 = 3) → (¬ x_p0 = 4) → (¬ x_p0 = 5) → (x_p0 = 6) → False) (hd_7 : (¬ x_p0 = 0) → (¬ x_p0 = 1) → (¬ x_p0 = 2) → (¬ x_p0 = 3) → (¬ x_p0 = 4) → (¬ x_p0 = 5) → (¬ x_p0 = 6) → (x_p0 = 7) → False) (hd_8 : (¬ x_p0 = 0) → (¬ x_p0 = 1) → (¬ x_p0 = 2) → (¬ x_p0 = 3) → (¬ x_p0 = 4) → (¬ x_p0 = 5) → (¬ x_p0 = 6) → (¬ x_p0 = 7) → (x_p0 = 8) → False) : MetT l y_Co_told w_Co_told ({ frames := 6, cells := 1, slots := 6, locals := 82 }) (pcT dC dI cI [(h0, .inr (5, [.ref a_program, .ref a_registers, .ref a_store, .ref a_waiting, .ref a_gone, .ref a_kernel, .ref a_known, .ref a_asked, .int v_words, .int v_outcome, .int v_pc, .int v_pcLabel, .int v_done, .int v_misses, .int v_longMisses, .int v_resultLabel, .int v_nextLabel])), (a_known, .inr (3, [.ref a_known_groups, .ref a_known_ps, .ref a_known_xs, .ref a_known_ys, .ref a_known_ms, .ref a_known_results, .ref a_known_nexts, .int v_known_entries, .int v_known_count, .int v_known_oldest])), (a_gone, .inr (4, [.ref a_gone_held, .int v_gone_room, .int v_gone_first, .int v_gone_count])), (a_waiting, .inr (4, [.ref a_waiting_held, .int v_waiting_room, .int v_waiting_first, .int v_waiting_count]))] [.ref h0, .int x_p0]) "java/lang/IllegalArgumentException" := by
  refine MetT.ofW (cc := c_Co_told) (maxL := 2) (ret := (some .int)) (by decide) rfl ?_
  intro p e s m args below meth c s₁ B hml hv
  obtain ⟨rfl, hP, hK, hT⟩ := hv
  have hx := B.exec
  have hb := B.bytes
  have hr := B.returns
  have hts : ∀ w ∈ wG, w.before _ s = true := fun w h => atoms_spec (ws := w_Co_told) B.pre w (List.mem_cons_of_mem _ h)
  have hown : s.vm.findClass "LabelledCore" = some m.cls := findClass_of_methodNamed B.named
  have hlocks := B.notSynchronized
  have htr : e.platform.stackTraces = false := Launch.traces_off hfl (Stand.of_body B).admits
  have hno : c.exceptionTable.isEmpty = true := B.noHandlers (atoms_spec (ws := w_Co_told) B.pre _ List.mem_cons_self)
  have hl := lv_entry ([.ref h0, .int x_p0]) (n := 2) (Nat.le_of_ble_eq_true rfl)
  rw [lg_entry_eq]
  generalize (lg_sl ([.ref h0, .int x_p0]) ++ List.replicate (2 - (lg_sl ([.ref h0, .int x_p0])).length) Slot.unset).toArray = ls at hl ⊢
  have hl : lv_has ls 2 [(0, .ref h0), (1, .int x_p0)] := hl
  refine lv_iload_n hx hb d_Co_told_0 rfl (lv_at hl 1 rfl) ?_
  by_cases c_1 : x_p0 = 0
  · refine lv_tableIn (off := 51) (tgt := 52) hx hb d_Co_told_1 (by rw [c_1]; decide +kernel) (by rw [c_1]; decide +kernel) (by rw [c_1]; decide +kernel) (by decide) ?_
    refine lv_aload_n hx hb d_Co_told_52 rfl (lv_at hl 0 rfl) ?_
    refine va_get (D := (dC, dI)) (ci := 5) (v := .int v_outcome) (C := "LabelledCore") (T := T_Co) (N := 17) hx hb hts in_Co hown hK hP 0 rfl rfl 9 (by decide) (hts _ wm_208) (fun _ h9 => h9) rfl d_Co_told_53 ?_
    exact ((hd_0 c_1)).elim
  · by_cases c_2 : x_p0 = 1
    · refine lv_tableIn (off := 56) (tgt := 57) hx hb d_Co_told_1 (by rw [c_2]; decide +kernel) (by rw [c_2]; decide +kernel) (by rw [c_2]; decide +kernel) (by decide) ?_
      refine lv_aload_n hx hb d_Co_told_57 rfl (lv_at hl 0 rfl) ?_
      refine va_get (D := (dC, dI)) (ci := 5) (v := .int v_pc) (C := "LabelledCore") (T := T_Co) (N := 17) hx hb hts in_Co hown hK hP 0 rfl rfl 10 (by decide) (hts _ wm_209) (fun _ h9 => h9) rfl d_Co_told_58 ?_
      exact ((hd_1 c_1 c_2)).elim
    · by_cases c_3 : x_p0 = 2
      · refine lv_tableIn (off := 61) (tgt := 62) hx hb d_Co_told_1 (by rw [c_3]; decide +kernel) (by rw [c_3]; decide +kernel) (by rw [c_3]; decide +kernel) (by decide) ?_
        refine lv_aload_n hx hb d_Co_told_62 rfl (lv_at hl 0 rfl) ?_
        refine va_get (D := (dC, dI)) (ci := 5) (v := .int v_pcLabel) (C := "LabelledCore") (T := T_Co) (N := 17) hx hb hts in_Co hown hK hP 0 rfl rfl 11 (by decide) (hts _ wm_210) (fun _ h9 => h9) rfl d_Co_told_63 ?_
        exact ((hd_2 c_1 c_2 c_3)).elim
      · by_cases c_4 : x_p0 = 3
        · refine lv_tableIn (off := 66) (tgt := 67) hx hb d_Co_told_1 (by rw [c_4]; decide +kernel) (by rw [c_4]; decide +kernel) (by rw [c_4]; decide +kernel) (by decide) ?_
          refine lv_aload_n hx hb d_Co_told_67 rfl (lv_at hl 0 rfl) ?_
          refine va_get (D := (dC, dI)) (ci := 5) (v := .int v_done) (C := "LabelledCore") (T := T_Co) (N := 17) hx hb hts in_Co hown hK hP 0 rfl rfl 12 (by decide) (hts _ wm_211) (fun _ h9 => h9) rfl d_Co_told_68 ?_
          exact ((hd_3 c_1 c_2 c_3 c_4)).elim
        · by_cases c_5 : x_p0 = 4
          · refine lv_tableIn (off := 71) (tgt := 72) hx hb d_Co_told_1 (by rw [c_5]; decide +kernel) (by rw [c_5]; decide +kernel) (by rw [c_5]; decide +kernel) (by decide) ?_
            refine lv_aload_n hx hb d_Co_told_72 rfl (lv_at hl 0 rfl) ?_
            refine va_get (D := (dC, dI)) (ci := 5) (v := .int v_misses) (C := "LabelledCore") (T := T_Co) (N := 17) hx hb hts in_Co hown hK hP 0 rfl rfl 13 (by decide) (hts _ wm_212) (fun _ h9 => h9) rfl d_Co_told_73 ?_
            exact ((hd_4 c_1 c_2 c_3 c_4 c_5)).elim
          · by_cases c_6 : x_p0 = 5
            · refine lv_tableIn (off := 76) (tgt := 77) hx hb d_Co_told_1 (by rw [c_6]; decide +kernel) (by rw [c_6]; decide +kernel) (by rw [c_6]; decide +kernel) (by decide) ?_
              refine lv_aload_n hx hb d_Co_told_77 rfl (lv_at hl 0 rfl) ?_
              refine va_get (D := (dC, dI)) (ci := 5) (v := .ref a_known) (C := "LabelledCore") (T := T_Co) (N := 17) hx hb hts in_Co hown hK hP 0 rfl rfl 6 (by decide) (hts _ wm_205) (fun _ h9 => h9) rfl d_Co_told_78 ?_
              have hPc := hP.sub (ws' := [(a_known, .inr (3, [.ref a_known_groups, .ref a_known_ps, .ref a_known_xs, .ref a_known_ys, .ref a_known_ms, .ref a_known_results, .ref a_known_nexts, .int v_known_entries, .int v_known_count, .int v_known_oldest]))]) [1] rfl
              refine W.callR ((W.runV (As := []) (rest := []) ⟨hx, hb, hml, hown, hts⟩ (ct_Kc_size l dC dI cI a_known a_known_groups a_known_ps a_known_xs a_known_ys a_known_ms a_known_results a_known_nexts v_known_entries v_known_count v_known_oldest) (cwV 0 hts (gV wm_945 wm_946 wm_947 wm_40 wm_948) rfl rfl rfl (by decide +kernel) ⟨Nat.le_of_ble_eq_true rfl, Nat.le_of_ble_eq_true rfl⟩) ⟨pcR_blind, va_recv hK hPc (ci := 3) (q0 := 0) rfl rfl, pcR_pre hPc hK⟩ rfl rfl hl.1 rfl (lv_room (Nat.le_of_ble_eq_true rfl)) d_Co_told_81 ⟨Nat.le_of_ble_eq_true rfl, Nat.le_of_ble_eq_true rfl⟩)) ?_
              refine W.eq (g2 := F0 m 84 ls [.int v_known_count]) rfl ?_
              exact ((hd_5 c_1 c_2 c_3 c_4 c_5 c_6)).elim
            · by_cases c_7 : x_p0 = 6
              · refine lv_tableIn (off := 84) (tgt := 85) hx hb d_Co_told_1 (by rw [c_7]; decide +kernel) (by rw [c_7]; decide +kernel) (by rw [c_7]; decide +kernel) (by decide) ?_
                refine lv_aload_n hx hb d_Co_told_85 rfl (lv_at hl 0 rfl) ?_
                refine va_get (D := (dC, dI)) (ci := 5) (v := .ref a_gone) (C := "LabelledCore") (T := T_Co) (N := 17) hx hb hts in_Co hown hK hP 0 rfl rfl 4 (by decide) (hts _ wm_203) (fun _ h9 => h9) rfl d_Co_told_86 ?_
                have hPc := hP.sub (ws' := [(a_gone, .inr (4, [.ref a_gone_held, .int v_gone_room, .int v_gone_first, .int v_gone_count]))]) [2] rfl
                refine W.callR ((W.runV (As := []) (rest := []) ⟨hx, hb, hml, hown, hts⟩ (ct_Li_size l dC dI cI a_gone a_gone_held v_gone_room v_gone_first v_gone_count) (cwV 0 hts (gV wm_302 wm_303 wm_304 wm_38 wm_305) rfl rfl rfl (by decide +kernel) ⟨Nat.le_of_ble_eq_true rfl, Nat.le_of_ble_eq_true rfl⟩) ⟨pcR_blind, va_recv hK hPc (ci := 4) (q0 := 0) rfl rfl, pcR_pre hPc hK⟩ rfl rfl hl.1 rfl (lv_room (Nat.le_of_ble_eq_true rfl)) d_Co_told_89 ⟨Nat.le_of_ble_eq_true rfl, Nat.le_of_ble_eq_true rfl⟩)) ?_
                refine W.eq (g2 := F0 m 92 ls [.int v_gone_count]) rfl ?_
                exact ((hd_6 c_1 c_2 c_3 c_4 c_5 c_6 c_7)).elim
              · by_cases c_8 : x_p0 = 7
                · refine lv_tableIn (off := 92) (tgt := 93) hx hb d_Co_told_1 (by rw [c_8]; decide +kernel) (by rw [c_8]; decide +kernel) (by rw [c_8]; decide +kernel) (by decide) ?_
                  refine lv_aload_n hx hb d_Co_told_93 rfl (lv_at hl 0 rfl) ?_
                  refine va_get (D := (dC, dI)) (ci := 5) (v := .ref a_waiting) (C := "LabelledCore") (T := T_Co) (N := 17) hx hb hts in_Co hown hK hP 0 rfl rfl 3 (by decide) (hts _ wm_202) (fun _ h9 => h9) rfl d_Co_told_94 ?_
                  have hPc := hP.sub (ws' := [(a_waiting, .inr (4, [.ref a_waiting_held, .int v_waiting_room, .int v_waiting_first, .int v_waiting_count]))]) [3] rfl
                  refine W.callR ((W.runV (As := []) (rest := []) ⟨hx, hb, hml, hown, hts⟩ (ct_Li_size l dC dI cI a_waiting a_waiting_held v_waiting_room v_waiting_first v_waiting_count) (cwV 0 hts (gV wm_302 wm_303 wm_304 wm_38 wm_305) rfl rfl rfl (by decide +kernel) ⟨Nat.le_of_ble_eq_true rfl, Nat.le_of_ble_eq_true rfl⟩) ⟨pcR_blind, va_recv hK hPc (ci := 4) (q0 := 0) rfl rfl, pcR_pre hPc hK⟩ rfl rfl hl.1 rfl (lv_room (Nat.le_of_ble_eq_true rfl)) d_Co_told_97 ⟨Nat.le_of_ble_eq_true rfl, Nat.le_of_ble_eq_true rfl⟩)) ?_
                  refine W.eq (g2 := F0 m 100 ls [.int v_waiting_count]) rfl ?_
                  exact ((hd_7 c_1 c_2 c_3 c_4 c_5 c_6 c_7 c_8)).elim
                · by_cases c_9 : x_p0 = 8
                  · refine lv_tableIn (off := 100) (tgt := 101) hx hb d_Co_told_1 (by rw [c_9]; decide +kernel) (by rw [c_9]; decide +kernel) (by rw [c_9]; decide +kernel) (by decide) ?_
                    refine lv_aload_n hx hb d_Co_told_101 rfl (lv_at hl 0 rfl) ?_
                    refine va_get (D := (dC, dI)) (ci := 5) (v := .int v_longMisses) (C := "LabelledCore") (T := T_Co) (N := 17) hx hb hts in_Co hown hK hP 0 rfl rfl 14 (by decide) (hts _ wm_213) (fun _ h9 => h9) rfl d_Co_told_102 ?_
                    exact ((hd_8 c_1 c_2 c_3 c_4 c_5 c_6 c_7 c_8 c_9)).elim
                  · refine lv_tableOut (tgt := 106) hx hb d_Co_told_1 (by have q0 := lv_neT c_1 (show (0 : Int32).toInt = 0 by decide); have q1 := lv_neT c_2 (show (1 : Int32).toInt = 1 by decide); have q2 := lv_neT c_3 (show (2 : Int32).toInt = 2 by decide); have q3 := lv_neT c_4 (show (3 : Int32).toInt = 3 by decide); have q4 := lv_neT c_5 (show (4 : Int32).toInt = 4 by decide); have q5 := lv_neT c_6 (show (5 : Int32).toInt = 5 by decide); have q6 := lv_neT c_7 (show (6 : Int32).toInt = 6 by decide); have q7 := lv_neT c_8 (show (7 : Int32).toInt = 7 by decide); have q8 := lv_neT c_9 (show (8 : Int32).toInt = 8 by decide); omega) (by decide) ?_
                    refine W.newc hx hb hown (hts _ wm_314) (hts _ wt_instI) (hts _ wt_initI) rfl d_Co_told_106 (Nat.le_of_ble_eq_true rfl) (Nat.le_of_ble_eq_true rfl) (fun cX kX hfX hkX hoX hnX => ?_)
                    refine W.eq (g2 := F0 m 109 ls [.ref s.heap.size]) rfl ?_
                    refine lv_dup hx hb d_Co_told_109 rfl ?_
                    obtain ⟨q, hq⟩ := hT.2.2.2 (148, "what is not 0 to 8") (by decide)
                    refine va_ldcS hx hb hown hq d_Co_told_110 ?_
                    refine W.widen (k := 1) (n := 6) (by decide) (by decide) ?_
                    exact th_end hx hb htr hown (X := "java/lang/IllegalArgumentException") (names := exN) (by decide +kernel) (by decide +kernel) (hT.atomsI hts) hfX hkX (by rw [Array.getElem?_push, if_pos rfl]) (Nat.le_refl _) (by rw [hml]; exact hl.1) d_Co_told_112 d_Co_told_115 hno (Nat.le_of_ble_eq_true rfl) (Nat.le_of_ble_eq_true rfl) hlocks
