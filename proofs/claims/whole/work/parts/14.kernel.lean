
theorem lt_18 {i : Nat} {y : Int32} (e : y = nI i) (h1 : i ≤ 18) (hc : ¬ 18 ≤ y) : i < 18 := by
  rcases Nat.lt_or_ge i 18 with h | h
  · exact h
  · exact absurd (show (18 : Int32) ≤ y by rw [e]; exact nI_le (a := 18) h (by omega)) hc
theorem in_code {g i : Nat} {x y : Int32} (g1 : g ≤ 8) (g2 : x = nI g) (e : y = nI i) (h : i < 18) : vp_in ((x * 18) + y) 162 := by
  have : (x * 18) + y = nI (g * 18 + i) := by
    rw [g2, e, show (18 : Int32) = nI 18 from rfl, pk_mul, nI_add]
  rw [this]
  exact vp_in_nI (by omega) (by omega)
theorem lt_ct {i ct : Nat} {y v : Int32} (e : y = nI i) (e2 : v = nI ct) (h1 : ct ≤ 64) (h2 : i ≤ ct) (hc : ¬ v ≤ y) : i < ct := by
  rcases Nat.lt_or_ge i ct with h | h
  · exact h
  · exact absurd (show v ≤ y by rw [e, e2]; exact nI_le h (by omega)) hc
theorem in_st {a k : Nat} {x : Int32} (h : a + 4 ≤ 162) (e : x = nI a) (hk : k ≤ 3) : vp_in (nI (a + k)) 162 := vp_in_nI (by omega) (by omega)
theorem in_st0 {x : Int32} (h : ∃ a : Nat, a + 4 ≤ 162 ∧ x = nI a) : vp_in x 162 := by
  obtain ⟨a, h, e⟩ := h
  rw [e]; exact in_st (k := 0) h e (by omega)
theorem in_st1 {x : Int32} (h : ∃ a : Nat, a + 4 ≤ 162 ∧ x = nI a) : vp_in (x + 1) 162 := by
  obtain ⟨a, h, e⟩ := h
  rw [e, nI_1]; exact in_st (k := 1) h e (by omega)
theorem in_st2 {x : Int32} (h : ∃ a : Nat, a + 4 ≤ 162 ∧ x = nI a) : vp_in (x + 1 + 1) 162 := by
  obtain ⟨a, h, e⟩ := h
  rw [e, nI_1, nI_1]; exact in_st (k := 2) h e (by omega)
theorem in_st3 {x : Int32} (h : ∃ a : Nat, a + 4 ≤ 162 ∧ x = nI a) : vp_in (x + 1 + 1 + 1) 162 := by
  obtain ⟨a, h, e⟩ := h
  rw [e, nI_1, nI_1, nI_1]; exact in_st (k := 3) h e (by omega)
set_option maxHeartbeats 4000000 in
set_option maxRecDepth 100000 in
theorem ct_Ar_rangeCheck (l : Launch) (dC : Nat → ClassId) (dI : Nat → Nat → Nat) (cI : ClassId) : Met l y_Ar_rangeCheck w_Ar_rangeCheck ({ frames := 0, cells := 0, slots := 0, locals := 0 }) (pcR dC dI cI [] [.int 8, .int 4, .int 8]) QcReadV 0 0 (fun _ => False) := by
  refine Met.ofW (cc := c_Ar_rangeCheck) (maxL := 3) (ret := none) (by decide) rfl ?_
  intro p e s m args below meth c s₁ B hml hv
  obtain ⟨rfl, hP, hK⟩ := hv
  have hx := B.exec
  have hb := B.bytes
  have hr := B.returns
  have hts : ∀ w ∈ wG, w.before _ s = true := fun w h => atoms_spec (ws := w_Ar_rangeCheck) B.pre w (List.mem_cons_of_mem _ h)
  have hown : s.vm.findClass "java/util/Arrays" = some m.cls := findClass_of_methodNamed B.named
  have hlocks := B.notSynchronized
  have hl := lv_entry ([.int 8, .int 4, .int 8]) (n := 3) (Nat.le_of_ble_eq_true rfl)
  rw [lg_entry_eq]
  generalize (lg_sl ([.int 8, .int 4, .int 8]) ++ List.replicate (3 - (lg_sl ([.int 8, .int 4, .int 8])).length) Slot.unset).toArray = ls at hl ⊢
  have hl : lv_has ls 3 [(0, .int 8), (1, .int 4), (2, .int 8)] := hl
  refine lv_iload_n hx hb d_Ar_rangeCheck_0 rfl (lv_at hl 1 rfl) ?_
  refine lv_iload_n hx hb d_Ar_rangeCheck_1 rfl (lv_at hl 2 rfl) ?_
  refine lv_icmp_le (tgt := 46) hx hb d_Ar_rangeCheck_2 (by decide) (fun c_1 => ?_) (fun c_1 => absurd (by decide) c_1)
  refine lv_iload_n hx hb d_Ar_rangeCheck_46 rfl (lv_at hl 1 rfl) ?_
  refine lv_if_ge (tgt := 59) hx hb d_Ar_rangeCheck_47 (by decide) (fun c_2 => ?_) (fun c_2 => absurd (by decide) c_2)
  refine lv_iload_n hx hb d_Ar_rangeCheck_59 rfl (lv_at hl 2 rfl) ?_
  refine lv_iload_n hx hb d_Ar_rangeCheck_60 rfl (lv_at hl 0 rfl) ?_
  refine lv_icmp_le (tgt := 73) hx hb d_Ar_rangeCheck_61 (by decide) (fun c_3 => ?_) (fun c_3 => absurd (by decide) c_3)
  exact W.vret hx hb hr (fun t ht hW => ⟨rfl, ht⟩) (fun _ h => by cases h) d_Ar_rangeCheck_73
def f_Ar_fill4 (g_p0 : Nat → Int32) (x_p3 : Int32) : (Nat → Int32) :=
  (upd (upd (upd (upd g_p0 (Int32.toNatClampNeg 4) x_p3) (Int32.toNatClampNeg 5) x_p3) (Int32.toNatClampNeg 6) x_p3) (Int32.toNatClampNeg 7) x_p3)
set_option maxHeartbeats 4000000 in
set_option maxRecDepth 100000 in
theorem ct_Ar_fill4 (l : Launch) (dC : Nat → ClassId) (dI : Nat → Nat → Nat) (cI : ClassId) (sz : Nat) (h_p0 : Nat) (g_p0 : Nat → Int32) (x_p3 : Int32) : Met l y_Ar_fill4 w_Ar_fill4 ({ frames := 1, cells := 0, slots := 0, locals := 22 }) (pcW dC dI cI [(h_p0, .inl (cI, 8, .inl g_p0))] sz [.ref h_p0, .int 4, .int 8, .int x_p3]) (va_Qv (fun _ : Unit => True) (fun _ t => atW dC dI cI [(h_p0, .inl (cI, 8, .inl (f_Ar_fill4 g_p0 x_p3)))] (va_A [(h_p0, .inl (cI, 8, .inl g_p0))] sz) t) (va_A [(h_p0, .inl (cI, 8, .inl g_p0))] sz)) 0 0 (va_A [(h_p0, .inl (cI, 8, .inl g_p0))] sz) := by
  refine Met.ofW (cc := c_Ar_fill4) (maxL := 5) (ret := none) (by decide) rfl ?_
  intro p e s m args below meth c s₁ B hml hv
  obtain ⟨rfl, hsz, hP, hK, hD0⟩ := hv
  have hx := B.exec
  have hb := B.bytes
  have hr := B.returns
  have hts : ∀ w ∈ wG, w.before _ s = true := fun w h => atoms_spec (ws := w_Ar_fill4) B.pre w (List.mem_cons_of_mem _ h)
  have hown : s.vm.findClass "java/util/Arrays" = some m.cls := findClass_of_methodNamed B.named
  have hlocks := B.notSynchronized
  subst hsz
  have hD := hD0.self (sz := s.heap.size)
  generalize hAe : va_A [(h_p0, .inl (cI, 8, .inl g_p0))] s.heap.size = A at hD ⊢
  have hA : ∀ q : Nat, s.heap.size ≤ q → A q := fun q h => by rw [← hAe]; exact Or.inr h
  have hS : va_S A s.heap s.heap [] := va_S.rf
  have hP : va_P (dC, dI) clsL [(h_p0, .inl (cI, 8, .inl g_p0))] s.heap := hP
  have hl := lv_entry ([.ref h_p0, .int 4, .int 8, .int x_p3]) (n := 5) (Nat.le_of_ble_eq_true rfl)
  rw [lg_entry_eq]
  generalize (lg_sl ([.ref h_p0, .int 4, .int 8, .int x_p3]) ++ List.replicate (5 - (lg_sl ([.ref h_p0, .int 4, .int 8, .int x_p3])).length) Slot.unset).toArray = ls at hl ⊢
  have hl : lv_has ls 5 [(0, .ref h_p0), (1, .int 4), (2, .int 8), (3, .int x_p3)] := hl
  refine lv_aload_n hx hb d_Ar_fill4_0 rfl (lv_at hl 0 rfl) ?_
  refine va_alen hx hb hK hP 0 0 rfl rfl (v := 8) rfl d_Ar_fill4_1 ?_
  refine lv_iload_n hx hb d_Ar_fill4_2 rfl (lv_at hl 1 rfl) ?_
  refine lv_iload_n hx hb d_Ar_fill4_3 rfl (lv_at hl 2 rfl) ?_
  have hPc := hP.sub (ws' := []) [] rfl
  refine callRV (W.runS (As := [.int 8, .int 4, .int 8]) (rest := []) ⟨hx, hb, hml, hown, hts⟩ (ct_Ar_rangeCheck l dC dI cI ) (va_cwS 3 hts (gS wm_531 wm_532 wm_43 wm_533) rfl rfl rfl (by decide +kernel) ⟨Nat.le_of_ble_eq_true rfl, Nat.le_of_ble_eq_true rfl⟩) ⟨pcR_blind, pcR_pre hPc hK⟩ rfl rfl hl.1 rfl (lv_room (Nat.le_of_ble_eq_true rfl)) d_Ar_fill4_4 ⟨Nat.le_of_ble_eq_true rfl, Nat.le_of_ble_eq_true rfl⟩) ?_
  refine W.eq (g2 := F0 m 7 ls []) rfl ?_
  refine lv_iload_n hx hb d_Ar_fill4_7 rfl (lv_at hl 1 rfl) ?_
  refine lv_istore (lv' := [(4, .int 4), (0, .ref h_p0), (1, .int 4), (2, .int 8), (3, .int x_p3)]) hx hb d_Ar_fill4_8 hl (by decide) rfl (fun ls hl => ?_)
  refine lv_iload hx hb d_Ar_fill4_10 (lv_at hl 0 rfl) ?_
  refine lv_iload_n hx hb d_Ar_fill4_12 rfl (lv_at hl 3 rfl) ?_
  refine lv_icmp_ge (tgt := 27) hx hb d_Ar_fill4_13 (by decide) (fun c_1 => absurd c_1 (by decide)) (fun c_1 => ?_)
  refine lv_aload_n hx hb d_Ar_fill4_16 rfl (lv_at hl 1 rfl) ?_
  refine lv_iload hx hb d_Ar_fill4_17 (lv_at hl 0 rfl) ?_
  refine lv_iload_n hx hb d_Ar_fill4_19 rfl (lv_at hl 4 rfl) ?_
  refine va_iast hx hb hK hP hD hS 0 0 rfl rfl (by unfold vp_in; decide) d_Ar_fill4_20 (fun H locs hP hD hS => ?_)
  have hP : va_P (dC, dI) clsL [(h_p0, .inl (cI, 8, .inl (upd g_p0 (Int32.toNatClampNeg 4) x_p3)))] H := hP
  have hD : va_D A [(h_p0, .inl (cI, 8, .inl (upd g_p0 (Int32.toNatClampNeg 4) x_p3)))] := hD
  refine lv_iinc (v := 5) (lv' := [(4, .int 5), (0, .ref h_p0), (1, .int 4), (2, .int 8), (3, .int x_p3)]) hx hb d_Ar_fill4_21 hl (k := 0) rfl (by decide) (by decide) rfl (fun ls hl => ?_)
  refine lv_goto (tgt := 10) hx hb d_Ar_fill4_24 (by decide) ?_
  refine lv_iload hx hb d_Ar_fill4_10 (lv_at hl 0 rfl) ?_
  refine lv_iload_n hx hb d_Ar_fill4_12 rfl (lv_at hl 3 rfl) ?_
  refine lv_icmp_ge (tgt := 27) hx hb d_Ar_fill4_13 (by decide) (fun c_2 => absurd c_2 (by decide)) (fun c_2 => ?_)
  refine lv_aload_n hx hb d_Ar_fill4_16 rfl (lv_at hl 1 rfl) ?_
  refine lv_iload hx hb d_Ar_fill4_17 (lv_at hl 0 rfl) ?_
  refine lv_iload_n hx hb d_Ar_fill4_19 rfl (lv_at hl 4 rfl) ?_
  refine va_iast hx hb hK hP hD hS 0 0 rfl rfl (by unfold vp_in; decide) d_Ar_fill4_20 (fun H locs hP hD hS => ?_)
  have hP : va_P (dC, dI) clsL [(h_p0, .inl (cI, 8, .inl (upd (upd g_p0 (Int32.toNatClampNeg 4) x_p3) (Int32.toNatClampNeg 5) x_p3)))] H := hP
  have hD : va_D A [(h_p0, .inl (cI, 8, .inl (upd (upd g_p0 (Int32.toNatClampNeg 4) x_p3) (Int32.toNatClampNeg 5) x_p3)))] := hD
  refine lv_iinc (v := 6) (lv' := [(4, .int 6), (0, .ref h_p0), (1, .int 4), (2, .int 8), (3, .int x_p3)]) hx hb d_Ar_fill4_21 hl (k := 0) rfl (by decide) (by decide) rfl (fun ls hl => ?_)
  refine lv_goto (tgt := 10) hx hb d_Ar_fill4_24 (by decide) ?_
  refine lv_iload hx hb d_Ar_fill4_10 (lv_at hl 0 rfl) ?_
  refine lv_iload_n hx hb d_Ar_fill4_12 rfl (lv_at hl 3 rfl) ?_
  refine lv_icmp_ge (tgt := 27) hx hb d_Ar_fill4_13 (by decide) (fun c_3 => absurd c_3 (by decide)) (fun c_3 => ?_)
  refine lv_aload_n hx hb d_Ar_fill4_16 rfl (lv_at hl 1 rfl) ?_
  refine lv_iload hx hb d_Ar_fill4_17 (lv_at hl 0 rfl) ?_
  refine lv_iload_n hx hb d_Ar_fill4_19 rfl (lv_at hl 4 rfl) ?_
  refine va_iast hx hb hK hP hD hS 0 0 rfl rfl (by unfold vp_in; decide) d_Ar_fill4_20 (fun H locs hP hD hS => ?_)
  have hP : va_P (dC, dI) clsL [(h_p0, .inl (cI, 8, .inl (upd (upd (upd g_p0 (Int32.toNatClampNeg 4) x_p3) (Int32.toNatClampNeg 5) x_p3) (Int32.toNatClampNeg 6) x_p3)))] H := hP
  have hD : va_D A [(h_p0, .inl (cI, 8, .inl (upd (upd (upd g_p0 (Int32.toNatClampNeg 4) x_p3) (Int32.toNatClampNeg 5) x_p3) (Int32.toNatClampNeg 6) x_p3)))] := hD
  refine lv_iinc (v := 7) (lv' := [(4, .int 7), (0, .ref h_p0), (1, .int 4), (2, .int 8), (3, .int x_p3)]) hx hb d_Ar_fill4_21 hl (k := 0) rfl (by decide) (by decide) rfl (fun ls hl => ?_)
  refine lv_goto (tgt := 10) hx hb d_Ar_fill4_24 (by decide) ?_
  refine lv_iload hx hb d_Ar_fill4_10 (lv_at hl 0 rfl) ?_
  refine lv_iload_n hx hb d_Ar_fill4_12 rfl (lv_at hl 3 rfl) ?_
  refine lv_icmp_ge (tgt := 27) hx hb d_Ar_fill4_13 (by decide) (fun c_4 => absurd c_4 (by decide)) (fun c_4 => ?_)
  refine lv_aload_n hx hb d_Ar_fill4_16 rfl (lv_at hl 1 rfl) ?_
  refine lv_iload hx hb d_Ar_fill4_17 (lv_at hl 0 rfl) ?_
  refine lv_iload_n hx hb d_Ar_fill4_19 rfl (lv_at hl 4 rfl) ?_
  refine va_iast hx hb hK hP hD hS 0 0 rfl rfl (by unfold vp_in; decide) d_Ar_fill4_20 (fun H locs hP hD hS => ?_)
  have hP : va_P (dC, dI) clsL [(h_p0, .inl (cI, 8, .inl (upd (upd (upd (upd g_p0 (Int32.toNatClampNeg 4) x_p3) (Int32.toNatClampNeg 5) x_p3) (Int32.toNatClampNeg 6) x_p3) (Int32.toNatClampNeg 7) x_p3)))] H := hP
  have hD : va_D A [(h_p0, .inl (cI, 8, .inl (upd (upd (upd (upd g_p0 (Int32.toNatClampNeg 4) x_p3) (Int32.toNatClampNeg 5) x_p3) (Int32.toNatClampNeg 6) x_p3) (Int32.toNatClampNeg 7) x_p3)))] := hD
  refine lv_iinc (v := 8) (lv' := [(4, .int 8), (0, .ref h_p0), (1, .int 4), (2, .int 8), (3, .int x_p3)]) hx hb d_Ar_fill4_21 hl (k := 0) rfl (by decide) (by decide) rfl (fun ls hl => ?_)
  refine lv_goto (tgt := 10) hx hb d_Ar_fill4_24 (by decide) ?_
  refine lv_iload hx hb d_Ar_fill4_10 (lv_at hl 0 rfl) ?_
  refine lv_iload_n hx hb d_Ar_fill4_12 rfl (lv_at hl 3 rfl) ?_
  refine lv_icmp_ge (tgt := 27) hx hb d_Ar_fill4_13 (by decide) (fun c_5 => ?_) (fun c_5 => absurd (by decide) c_5)
  have ef : (f_Ar_fill4 g_p0 x_p3) = ((upd (upd (upd (upd g_p0 (Int32.toNatClampNeg 4) x_p3) (Int32.toNatClampNeg 5) x_p3) (Int32.toNatClampNeg 6) x_p3) (Int32.toNatClampNeg 7) x_p3) : (Nat → Int32)) := rfl
  have hP9 := hP.sub (ws' := [(h_p0, .inl (cI, 8, .inl (upd (upd (upd (upd g_p0 (Int32.toNatClampNeg 4) x_p3) (Int32.toNatClampNeg 5) x_p3) (Int32.toNatClampNeg 6) x_p3) (Int32.toNatClampNeg 7) x_p3)))]) [0] rfl
  have hD9 := hD.sub (ws' := [(h_p0, .inl (cI, 8, .inl (upd (upd (upd (upd g_p0 (Int32.toNatClampNeg 4) x_p3) (Int32.toNatClampNeg 5) x_p3) (Int32.toNatClampNeg 6) x_p3) (Int32.toNatClampNeg 7) x_p3)))]) [0] (by decide) rfl
  exact W.vret hx hb hr (fun t ht hW => ⟨⟨(), rfl, trivial, by rw [ef, ht]; exact hP9, va_K.moved hW.alike hK, by rw [ef]; exact hD9⟩, hS.F ht⟩) hS.2.2 d_Ar_fill4_27
def f_Ke_takeIn (v_p0_p : Int32) (v_p0_x : Int32) (v_p0_y : Int32) (v_p0_m : Int32) (g_slots : Nat → Int32) : (Nat → Int32) :=
  (f_Ar_fill4 (upd (upd (upd (upd g_slots (Int32.toNatClampNeg 0) v_p0_p) (Int32.toNatClampNeg 1) v_p0_x) (Int32.toNatClampNeg 2) v_p0_y) (Int32.toNatClampNeg 3) v_p0_m) 0)
set_option maxHeartbeats 4000000 in
set_option maxRecDepth 100000 in
theorem ct_Ke_takeIn (l : Launch) (dC : Nat → ClassId) (dI : Nat → Nat → Nat) (cI : ClassId) (sz : Nat) (h0 a_code a_slots h_p0 : Nat) (v_p0_group : Int32) (v_p0_p : Int32) (v_p0_x : Int32) (v_p0_y : Int32) (v_p0_m : Int32) (g_slots : Nat → Int32) : Met l y_Ke_takeIn w_Ke_takeIn ({ frames := 2, cells := 0, slots := 0, locals := 46 }) (pcW dC dI cI [(h0, .inr (1, [.ref a_code, .ref a_slots])), (h_p0, .inr (2, [.int v_p0_group, .int v_p0_p, .int v_p0_x, .int v_p0_y, .int v_p0_m])), (a_slots, .inl (cI, 8, .inl g_slots))] sz [.ref h0, .ref h_p0]) (va_Qv (fun _ : Unit => True) (fun _ t => atW dC dI cI [(h0, .inr (1, [.ref a_code, .ref a_slots])), (h_p0, .inr (2, [.int v_p0_group, .int v_p0_p, .int v_p0_x, .int v_p0_y, .int v_p0_m])), (a_slots, .inl (cI, 8, .inl (f_Ke_takeIn v_p0_p v_p0_x v_p0_y v_p0_m g_slots)))] (va_A [(h0, .inr (1, [.ref a_code, .ref a_slots])), (h_p0, .inr (2, [.int v_p0_group, .int v_p0_p, .int v_p0_x, .int v_p0_y, .int v_p0_m])), (a_slots, .inl (cI, 8, .inl g_slots))] sz) t) (va_A [(h0, .inr (1, [.ref a_code, .ref a_slots])), (h_p0, .inr (2, [.int v_p0_group, .int v_p0_p, .int v_p0_x, .int v_p0_y, .int v_p0_m])), (a_slots, .inl (cI, 8, .inl g_slots))] sz)) 0 0 (va_A [(h0, .inr (1, [.ref a_code, .ref a_slots])), (h_p0, .inr (2, [.int v_p0_group, .int v_p0_p, .int v_p0_x, .int v_p0_y, .int v_p0_m])), (a_slots, .inl (cI, 8, .inl g_slots))] sz) := by
  refine Met.ofW (cc := c_Ke_takeIn) (maxL := 2) (ret := none) (by decide) rfl ?_
  intro p e s m args below meth c s₁ B hml hv
  obtain ⟨rfl, hsz, hP, hK, hD0⟩ := hv
  have hx := B.exec
  have hb := B.bytes
  have hr := B.returns
  have hts : ∀ w ∈ wG, w.before _ s = true := fun w h => atoms_spec (ws := w_Ke_takeIn) B.pre w (List.mem_cons_of_mem _ h)
  have hown : s.vm.findClass "LabelledCore$Kernel" = some m.cls := findClass_of_methodNamed B.named
  have hlocks := B.notSynchronized
  subst hsz
  have hD := hD0.self (sz := s.heap.size)
  generalize hAe : va_A [(h0, .inr (1, [.ref a_code, .ref a_slots])), (h_p0, .inr (2, [.int v_p0_group, .int v_p0_p, .int v_p0_x, .int v_p0_y, .int v_p0_m])), (a_slots, .inl (cI, 8, .inl g_slots))] s.heap.size = A at hD ⊢
  have hA : ∀ q : Nat, s.heap.size ≤ q → A q := fun q h => by rw [← hAe]; exact Or.inr h
  have hS : va_S A s.heap s.heap [] := va_S.rf
  have hP : va_P (dC, dI) clsL [(h0, .inr (1, [.ref a_code, .ref a_slots])), (h_p0, .inr (2, [.int v_p0_group, .int v_p0_p, .int v_p0_x, .int v_p0_y, .int v_p0_m])), (a_slots, .inl (cI, 8, .inl g_slots))] s.heap := hP
  have hl := lv_entry ([.ref h0, .ref h_p0]) (n := 2) (Nat.le_of_ble_eq_true rfl)
  rw [lg_entry_eq]
  generalize (lg_sl ([.ref h0, .ref h_p0]) ++ List.replicate (2 - (lg_sl ([.ref h0, .ref h_p0])).length) Slot.unset).toArray = ls at hl ⊢
  have hl : lv_has ls 2 [(0, .ref h0), (1, .ref h_p0)] := hl
  refine lv_aload_n hx hb d_Ke_takeIn_0 rfl (lv_at hl 0 rfl) ?_
  refine va_get (D := (dC, dI)) (ci := 1) (v := .ref a_slots) (C := "LabelledCore$Kernel") (T := T_Ke) (N := 2) hx hb hts in_Ke hown hK hP 0 rfl rfl 1 (by decide) (hts _ wm_111) (fun _ h9 => h9) rfl d_Ke_takeIn_1 ?_
  refine lv_iconst (v := 0) hx hb d_Ke_takeIn_4 (by decide) ?_
  refine lv_aload_n hx hb d_Ke_takeIn_5 rfl (lv_at hl 1 rfl) ?_
  refine va_get (D := (dC, dI)) (ci := 2) (v := .int v_p0_p) (C := "LabelledCore$Key") (T := T_Ky) (N := 5) hx hb hts in_Ky hown hK hP 1 rfl rfl 1 (by decide) (hts _ wm_164) (fun _ h9 => h9) rfl d_Ke_takeIn_6 ?_
  refine va_iast hx hb hK hP hD hS 2 0 rfl rfl (by unfold vp_in; decide) d_Ke_takeIn_9 (fun H locs hP hD hS => ?_)
  have hP : va_P (dC, dI) clsL [(h0, .inr (1, [.ref a_code, .ref a_slots])), (h_p0, .inr (2, [.int v_p0_group, .int v_p0_p, .int v_p0_x, .int v_p0_y, .int v_p0_m])), (a_slots, .inl (cI, 8, .inl (upd g_slots (Int32.toNatClampNeg 0) v_p0_p)))] H := hP
  have hD : va_D A [(h0, .inr (1, [.ref a_code, .ref a_slots])), (h_p0, .inr (2, [.int v_p0_group, .int v_p0_p, .int v_p0_x, .int v_p0_y, .int v_p0_m])), (a_slots, .inl (cI, 8, .inl (upd g_slots (Int32.toNatClampNeg 0) v_p0_p)))] := hD
  refine lv_aload_n hx hb d_Ke_takeIn_10 rfl (lv_at hl 0 rfl) ?_
  refine va_get (D := (dC, dI)) (ci := 1) (v := .ref a_slots) (C := "LabelledCore$Kernel") (T := T_Ke) (N := 2) hx hb hts in_Ke hown hK hP 0 rfl rfl 1 (by decide) (hts _ wm_111) (fun _ h9 => h9) rfl d_Ke_takeIn_11 ?_
  refine lv_iconst (v := 1) hx hb d_Ke_takeIn_14 (by decide) ?_
  refine lv_aload_n hx hb d_Ke_takeIn_15 rfl (lv_at hl 1 rfl) ?_
  refine va_get (D := (dC, dI)) (ci := 2) (v := .int v_p0_x) (C := "LabelledCore$Key") (T := T_Ky) (N := 5) hx hb hts in_Ky hown hK hP 1 rfl rfl 2 (by decide) (hts _ wm_167) (fun _ h9 => h9) rfl d_Ke_takeIn_16 ?_
  refine va_iast hx hb hK hP hD hS 2 0 rfl rfl (by unfold vp_in; decide) d_Ke_takeIn_19 (fun H locs hP hD hS => ?_)
  have hP : va_P (dC, dI) clsL [(h0, .inr (1, [.ref a_code, .ref a_slots])), (h_p0, .inr (2, [.int v_p0_group, .int v_p0_p, .int v_p0_x, .int v_p0_y, .int v_p0_m])), (a_slots, .inl (cI, 8, .inl (upd (upd g_slots (Int32.toNatClampNeg 0) v_p0_p) (Int32.toNatClampNeg 1) v_p0_x)))] H := hP
  have hD : va_D A [(h0, .inr (1, [.ref a_code, .ref a_slots])), (h_p0, .inr (2, [.int v_p0_group, .int v_p0_p, .int v_p0_x, .int v_p0_y, .int v_p0_m])), (a_slots, .inl (cI, 8, .inl (upd (upd g_slots (Int32.toNatClampNeg 0) v_p0_p) (Int32.toNatClampNeg 1) v_p0_x)))] := hD
  refine lv_aload_n hx hb d_Ke_takeIn_20 rfl (lv_at hl 0 rfl) ?_
  refine va_get (D := (dC, dI)) (ci := 1) (v := .ref a_slots) (C := "LabelledCore$Kernel") (T := T_Ke) (N := 2) hx hb hts in_Ke hown hK hP 0 rfl rfl 1 (by decide) (hts _ wm_111) (fun _ h9 => h9) rfl d_Ke_takeIn_21 ?_
  refine lv_iconst (v := 2) hx hb d_Ke_takeIn_24 (by decide) ?_
  refine lv_aload_n hx hb d_Ke_takeIn_25 rfl (lv_at hl 1 rfl) ?_
  refine va_get (D := (dC, dI)) (ci := 2) (v := .int v_p0_y) (C := "LabelledCore$Key") (T := T_Ky) (N := 5) hx hb hts in_Ky hown hK hP 1 rfl rfl 3 (by decide) (hts _ wm_170) (fun _ h9 => h9) rfl d_Ke_takeIn_26 ?_
  refine va_iast hx hb hK hP hD hS 2 0 rfl rfl (by unfold vp_in; decide) d_Ke_takeIn_29 (fun H locs hP hD hS => ?_)
  have hP : va_P (dC, dI) clsL [(h0, .inr (1, [.ref a_code, .ref a_slots])), (h_p0, .inr (2, [.int v_p0_group, .int v_p0_p, .int v_p0_x, .int v_p0_y, .int v_p0_m])), (a_slots, .inl (cI, 8, .inl (upd (upd (upd g_slots (Int32.toNatClampNeg 0) v_p0_p) (Int32.toNatClampNeg 1) v_p0_x) (Int32.toNatClampNeg 2) v_p0_y)))] H := hP
  have hD : va_D A [(h0, .inr (1, [.ref a_code, .ref a_slots])), (h_p0, .inr (2, [.int v_p0_group, .int v_p0_p, .int v_p0_x, .int v_p0_y, .int v_p0_m])), (a_slots, .inl (cI, 8, .inl (upd (upd (upd g_slots (Int32.toNatClampNeg 0) v_p0_p) (Int32.toNatClampNeg 1) v_p0_x) (Int32.toNatClampNeg 2) v_p0_y)))] := hD
  refine lv_aload_n hx hb d_Ke_takeIn_30 rfl (lv_at hl 0 rfl) ?_
  refine va_get (D := (dC, dI)) (ci := 1) (v := .ref a_slots) (C := "LabelledCore$Kernel") (T := T_Ke) (N := 2) hx hb hts in_Ke hown hK hP 0 rfl rfl 1 (by decide) (hts _ wm_111) (fun _ h9 => h9) rfl d_Ke_takeIn_31 ?_
  refine lv_iconst (v := 3) hx hb d_Ke_takeIn_34 (by decide) ?_
  refine lv_aload_n hx hb d_Ke_takeIn_35 rfl (lv_at hl 1 rfl) ?_
  refine va_get (D := (dC, dI)) (ci := 2) (v := .int v_p0_m) (C := "LabelledCore$Key") (T := T_Ky) (N := 5) hx hb hts in_Ky hown hK hP 1 rfl rfl 4 (by decide) (hts _ wm_173) (fun _ h9 => h9) rfl d_Ke_takeIn_36 ?_
  refine va_iast hx hb hK hP hD hS 2 0 rfl rfl (by unfold vp_in; decide) d_Ke_takeIn_39 (fun H locs hP hD hS => ?_)
  have hP : va_P (dC, dI) clsL [(h0, .inr (1, [.ref a_code, .ref a_slots])), (h_p0, .inr (2, [.int v_p0_group, .int v_p0_p, .int v_p0_x, .int v_p0_y, .int v_p0_m])), (a_slots, .inl (cI, 8, .inl (upd (upd (upd (upd g_slots (Int32.toNatClampNeg 0) v_p0_p) (Int32.toNatClampNeg 1) v_p0_x) (Int32.toNatClampNeg 2) v_p0_y) (Int32.toNatClampNeg 3) v_p0_m)))] H := hP
  have hD : va_D A [(h0, .inr (1, [.ref a_code, .ref a_slots])), (h_p0, .inr (2, [.int v_p0_group, .int v_p0_p, .int v_p0_x, .int v_p0_y, .int v_p0_m])), (a_slots, .inl (cI, 8, .inl (upd (upd (upd (upd g_slots (Int32.toNatClampNeg 0) v_p0_p) (Int32.toNatClampNeg 1) v_p0_x) (Int32.toNatClampNeg 2) v_p0_y) (Int32.toNatClampNeg 3) v_p0_m)))] := hD
  refine lv_aload_n hx hb d_Ke_takeIn_40 rfl (lv_at hl 0 rfl) ?_
  refine va_get (D := (dC, dI)) (ci := 1) (v := .ref a_slots) (C := "LabelledCore$Kernel") (T := T_Ke) (N := 2) hx hb hts in_Ke hown hK hP 0 rfl rfl 1 (by decide) (hts _ wm_111) (fun _ h9 => h9) rfl d_Ke_takeIn_41 ?_
  refine lv_iconst (v := 4) hx hb d_Ke_takeIn_44 (by decide) ?_
  refine lv_bipush (v := 8) hx hb d_Ke_takeIn_45 (by decide) ?_
  refine lv_iconst (v := 0) hx hb d_Ke_takeIn_47 (by decide) ?_
  have hPc := hP.sub (ws' := [(a_slots, .inl (cI, 8, .inl (upd (upd (upd (upd g_slots (Int32.toNatClampNeg 0) v_p0_p) (Int32.toNatClampNeg 1) v_p0_x) (Int32.toNatClampNeg 2) v_p0_y) (Int32.toNatClampNeg 3) v_p0_m)))]) [2] rfl
  have hDc := hD.sub (ws' := [(a_slots, .inl (cI, 8, .inl (upd (upd (upd (upd g_slots (Int32.toNatClampNeg 0) v_p0_p) (Int32.toNatClampNeg 1) v_p0_x) (Int32.toNatClampNeg 2) v_p0_y) (Int32.toNatClampNeg 3) v_p0_m)))]) [2] (by decide) rfl
  have hFc := va_free (wc := [(a_slots, .inl (cI, 8, .inl (upd (upd (upd (upd g_slots (Int32.toNatClampNeg 0) v_p0_p) (Int32.toNatClampNeg 1) v_p0_x) (Int32.toNatClampNeg 2) v_p0_y) (Int32.toNatClampNeg 3) v_p0_m)))]) hD hS hA [2] rfl
  refine va_callv (va_runS (As := [.ref a_slots, .int 4, .int 8, .int 0]) (rest := []) ⟨hx, hb, hml, hown, hts⟩ (ct_Ar_fill4 l dC dI cI H.size a_slots (upd (upd (upd (upd g_slots (Int32.toNatClampNeg 0) v_p0_p) (Int32.toNatClampNeg 1) v_p0_x) (Int32.toNatClampNeg 2) v_p0_y) (Int32.toNatClampNeg 3) v_p0_m) 0) (va_cwS 4 hts (gS wm_528 wm_529 wm_43 wm_530) rfl rfl rfl (by decide +kernel) ⟨Nat.le_of_ble_eq_true rfl, Nat.le_of_ble_eq_true rfl⟩) ⟨pcW_blind, pcW_pre hPc hK hDc⟩ rfl rfl hl.1 rfl (lv_room (Nat.le_of_ble_eq_true rfl)) d_Ke_takeIn_48 ⟨Nat.le_of_ble_eq_true rfl, Nat.le_of_ble_eq_true rfl⟩) hS (fun q _ h => hFc q h) hFc (fun u t H1 locs ht hvm hw hB hz1 hk1 hS => ?_)
  obtain ⟨hP1, -, hD1⟩ := hB
  rw [ht] at hP1
  obtain ⟨hP, hD⟩ := va_join (wr := [(h0, .inr (1, [.ref a_code, .ref a_slots])), (h_p0, .inr (2, [.int v_p0_group, .int v_p0_p, .int v_p0_x, .int v_p0_y, .int v_p0_m]))]) (w1 := [(a_slots, .inl (cI, 8, .inl (f_Ar_fill4 (upd (upd (upd (upd g_slots (Int32.toNatClampNeg 0) v_p0_p) (Int32.toNatClampNeg 1) v_p0_x) (Int32.toNatClampNeg 2) v_p0_y) (Int32.toNatClampNeg 3) v_p0_m) 0)))]) hP hD [2] [0, 1] rfl rfl (by decide) (by decide) hk1 hFc hP1 hD1
  clear hFc hDc hPc hP1 hD1 hk1 hz1 hvm ht
  generalize H1 = H at hP hS ⊢
  have hP : va_P (dC, dI) clsL [(h0, .inr (1, [.ref a_code, .ref a_slots])), (h_p0, .inr (2, [.int v_p0_group, .int v_p0_p, .int v_p0_x, .int v_p0_y, .int v_p0_m])), (a_slots, .inl (cI, 8, .inl (f_Ar_fill4 (upd (upd (upd (upd g_slots (Int32.toNatClampNeg 0) v_p0_p) (Int32.toNatClampNeg 1) v_p0_x) (Int32.toNatClampNeg 2) v_p0_y) (Int32.toNatClampNeg 3) v_p0_m) 0)))] H := hP
  have hD : va_D A [(h0, .inr (1, [.ref a_code, .ref a_slots])), (h_p0, .inr (2, [.int v_p0_group, .int v_p0_p, .int v_p0_x, .int v_p0_y, .int v_p0_m])), (a_slots, .inl (cI, 8, .inl (f_Ar_fill4 (upd (upd (upd (upd g_slots (Int32.toNatClampNeg 0) v_p0_p) (Int32.toNatClampNeg 1) v_p0_x) (Int32.toNatClampNeg 2) v_p0_y) (Int32.toNatClampNeg 3) v_p0_m) 0)))] := hD
  have ef : (f_Ke_takeIn v_p0_p v_p0_x v_p0_y v_p0_m g_slots) = ((f_Ar_fill4 (upd (upd (upd (upd g_slots (Int32.toNatClampNeg 0) v_p0_p) (Int32.toNatClampNeg 1) v_p0_x) (Int32.toNatClampNeg 2) v_p0_y) (Int32.toNatClampNeg 3) v_p0_m) 0) : (Nat → Int32)) := rfl
  have hP9 := hP.sub (ws' := [(h0, .inr (1, [.ref a_code, .ref a_slots])), (h_p0, .inr (2, [.int v_p0_group, .int v_p0_p, .int v_p0_x, .int v_p0_y, .int v_p0_m])), (a_slots, .inl (cI, 8, .inl (f_Ar_fill4 (upd (upd (upd (upd g_slots (Int32.toNatClampNeg 0) v_p0_p) (Int32.toNatClampNeg 1) v_p0_x) (Int32.toNatClampNeg 2) v_p0_y) (Int32.toNatClampNeg 3) v_p0_m) 0)))]) [0, 1, 2] rfl
  have hD9 := hD.sub (ws' := [(h0, .inr (1, [.ref a_code, .ref a_slots])), (h_p0, .inr (2, [.int v_p0_group, .int v_p0_p, .int v_p0_x, .int v_p0_y, .int v_p0_m])), (a_slots, .inl (cI, 8, .inl (f_Ar_fill4 (upd (upd (upd (upd g_slots (Int32.toNatClampNeg 0) v_p0_p) (Int32.toNatClampNeg 1) v_p0_x) (Int32.toNatClampNeg 2) v_p0_y) (Int32.toNatClampNeg 3) v_p0_m) 0)))]) [0, 1, 2] (by decide) rfl
  exact W.vret hx hb hr (fun t ht hW => ⟨⟨(), rfl, trivial, by rw [ef, ht]; exact hP9, va_K.moved hW.alike hK, by rw [ef]; exact hD9⟩, hS.F ht⟩) hS.2.2 d_Ke_takeIn_51
def lp_Ke_workOut_18 (v_p0_group : Int32) (g_code : Nat → Int32) : Nat → (Int32) → (Int32) → (Nat → Int32) → Int32 × (Nat → Int32)
  | 0, _, _, _ => (0, (fun _ => 0))
  | fu + 1, y_3, y_4, w_g_slots =>
    if y_4 = 0 then
      (y_3, w_g_slots)
    else
      if 18 ≤ y_3 then
        (y_3, w_g_slots)
      else
        (lp_Ke_workOut_18 v_p0_group g_code fu (y_3 + 1) ((f_Ke_execute w_g_slots (g_code (Int32.toNatClampNeg ((v_p0_group * 18) + y_3)))).1) ((f_Ke_execute w_g_slots (g_code (Int32.toNatClampNeg ((v_p0_group * 18) + y_3)))).2))
def f_Ke_workOut (v_p0_group : Int32) (v_p0_p : Int32) (v_p0_x : Int32) (v_p0_y : Int32) (v_p0_m : Int32) (g_slots : Nat → Int32) (g_code : Nat → Int32) : Int32 × (Nat → Int32) :=
  (lp_Ke_workOut_18 v_p0_group g_code (19) 0 1 (f_Ke_takeIn v_p0_p v_p0_x v_p0_y v_p0_m g_slots))
set_option maxHeartbeats 4000000 in
set_option maxRecDepth 100000 in
theorem ct_Ke_workOut (l : Launch) (dC : Nat → ClassId) (dI : Nat → Nat → Nat) (cI : ClassId) (sz : Nat) (h0 a_code a_slots h_p0 : Nat) (v_p0_group : Int32) (v_p0_p : Int32) (v_p0_x : Int32) (v_p0_y : Int32) (v_p0_m : Int32) (g_slots : Nat → Int32) (g_code : Nat → Int32) (hg : ∃ g : Nat, g ≤ 8 ∧ v_p0_group = nI g) : Met l y_Ke_workOut w_Ke_workOut ({ frames := 3, cells := 0, slots := 0, locals := 67 }) (pcW dC dI cI [(h0, .inr (1, [.ref a_code, .ref a_slots])), (h_p0, .inr (2, [.int v_p0_group, .int v_p0_p, .int v_p0_x, .int v_p0_y, .int v_p0_m])), (a_slots, .inl (cI, 8, .inl g_slots)), (a_code, .inl (cI, 162, .inl g_code))] sz [.ref h0, .ref h_p0]) (va_Qi (fun (r : Int32) (_ : Unit) => r = (f_Ke_workOut v_p0_group v_p0_p v_p0_x v_p0_y v_p0_m g_slots g_code).1) (fun _ t => atW dC dI cI [(h0, .inr (1, [.ref a_code, .ref a_slots])), (h_p0, .inr (2, [.int v_p0_group, .int v_p0_p, .int v_p0_x, .int v_p0_y, .int v_p0_m])), (a_slots, .inl (cI, 8, .inl ((f_Ke_workOut v_p0_group v_p0_p v_p0_x v_p0_y v_p0_m g_slots g_code).2))), (a_code, .inl (cI, 162, .inl g_code))] (va_A [(h0, .inr (1, [.ref a_code, .ref a_slots])), (h_p0, .inr (2, [.int v_p0_group, .int v_p0_p, .int v_p0_x, .int v_p0_y, .int v_p0_m])), (a_slots, .inl (cI, 8, .inl g_slots)), (a_code, .inl (cI, 162, .inl g_code))] sz) t) (va_A [(h0, .inr (1, [.ref a_code, .ref a_slots])), (h_p0, .inr (2, [.int v_p0_group, .int v_p0_p, .int v_p0_x, .int v_p0_y, .int v_p0_m])), (a_slots, .inl (cI, 8, .inl g_slots)), (a_code, .inl (cI, 162, .inl g_code))] sz)) 0 0 (va_A [(h0, .inr (1, [.ref a_code, .ref a_slots])), (h_p0, .inr (2, [.int v_p0_group, .int v_p0_p, .int v_p0_x, .int v_p0_y, .int v_p0_m])), (a_slots, .inl (cI, 8, .inl g_slots)), (a_code, .inl (cI, 162, .inl g_code))] sz) := by
  refine Met.ofW (cc := c_Ke_workOut) (maxL := 5) (ret := (some .int)) (by decide) rfl ?_
  intro p e s m args below meth c s₁ B hml hv
  obtain ⟨rfl, hsz, hP, hK, hD0⟩ := hv
  have hx := B.exec
  have hb := B.bytes
  have hr := B.returns
  have hts : ∀ w ∈ wG, w.before _ s = true := fun w h => atoms_spec (ws := w_Ke_workOut) B.pre w (List.mem_cons_of_mem _ h)
  have hown : s.vm.findClass "LabelledCore$Kernel" = some m.cls := findClass_of_methodNamed B.named
  have hlocks := B.notSynchronized
  subst hsz
  have hD := hD0.self (sz := s.heap.size)
  generalize hAe : va_A [(h0, .inr (1, [.ref a_code, .ref a_slots])), (h_p0, .inr (2, [.int v_p0_group, .int v_p0_p, .int v_p0_x, .int v_p0_y, .int v_p0_m])), (a_slots, .inl (cI, 8, .inl g_slots)), (a_code, .inl (cI, 162, .inl g_code))] s.heap.size = A at hD ⊢
  have hA : ∀ q : Nat, s.heap.size ≤ q → A q := fun q h => by rw [← hAe]; exact Or.inr h
  have hS : va_S A s.heap s.heap [] := va_S.rf
  have hP : va_P (dC, dI) clsL [(h0, .inr (1, [.ref a_code, .ref a_slots])), (h_p0, .inr (2, [.int v_p0_group, .int v_p0_p, .int v_p0_x, .int v_p0_y, .int v_p0_m])), (a_slots, .inl (cI, 8, .inl g_slots)), (a_code, .inl (cI, 162, .inl g_code))] s.heap := hP
  have hl := lv_entry ([.ref h0, .ref h_p0]) (n := 5) (Nat.le_of_ble_eq_true rfl)
  rw [lg_entry_eq]
  generalize (lg_sl ([.ref h0, .ref h_p0]) ++ List.replicate (5 - (lg_sl ([.ref h0, .ref h_p0])).length) Slot.unset).toArray = ls at hl ⊢
  have hl : lv_has ls 5 [(0, .ref h0), (1, .ref h_p0)] := hl
  refine lv_aload_n hx hb d_Ke_workOut_0 rfl (lv_at hl 0 rfl) ?_
  refine lv_aload_n hx hb d_Ke_workOut_1 rfl (lv_at hl 1 rfl) ?_
  have hPc := hP.sub (ws' := [(h0, .inr (1, [.ref a_code, .ref a_slots])), (h_p0, .inr (2, [.int v_p0_group, .int v_p0_p, .int v_p0_x, .int v_p0_y, .int v_p0_m])), (a_slots, .inl (cI, 8, .inl g_slots))]) [0, 1, 2] rfl
  have hDc := hD.sub (ws' := [(h0, .inr (1, [.ref a_code, .ref a_slots])), (h_p0, .inr (2, [.int v_p0_group, .int v_p0_p, .int v_p0_x, .int v_p0_y, .int v_p0_m])), (a_slots, .inl (cI, 8, .inl g_slots))]) [0, 1, 2] (by decide) rfl
  have hFc := va_free (wc := [(h0, .inr (1, [.ref a_code, .ref a_slots])), (h_p0, .inr (2, [.int v_p0_group, .int v_p0_p, .int v_p0_x, .int v_p0_y, .int v_p0_m])), (a_slots, .inl (cI, 8, .inl g_slots))]) hD hS hA [0, 1, 2] rfl
  refine va_callv (va_runV (As := [.ref h_p0]) (rest := []) ⟨hx, hb, hml, hown, hts⟩ (ct_Ke_takeIn l dC dI cI s.heap.size h0 a_code a_slots h_p0 v_p0_group v_p0_p v_p0_x v_p0_y v_p0_m g_slots) (cwV 1 hts (gV wm_524 wm_526 wm_11 wm_39 wm_527) rfl rfl rfl (by decide +kernel) ⟨Nat.le_of_ble_eq_true rfl, Nat.le_of_ble_eq_true rfl⟩) ⟨pcW_blind, va_recv hK hPc (ci := 1) (q0 := 0) rfl rfl, pcW_pre hPc hK hDc⟩ rfl rfl hl.1 rfl (lv_room (Nat.le_of_ble_eq_true rfl)) d_Ke_workOut_2 ⟨Nat.le_of_ble_eq_true rfl, Nat.le_of_ble_eq_true rfl⟩) hS (fun q _ h => hFc q h) hFc (fun u t H1 locs ht hvm hw hB hz1 hk1 hS => ?_)
  obtain ⟨hP1, -, hD1⟩ := hB
  rw [ht] at hP1
  obtain ⟨hP, hD⟩ := va_join (wr := [(a_code, .inl (cI, 162, .inl g_code))]) (w1 := [(h0, .inr (1, [.ref a_code, .ref a_slots])), (h_p0, .inr (2, [.int v_p0_group, .int v_p0_p, .int v_p0_x, .int v_p0_y, .int v_p0_m])), (a_slots, .inl (cI, 8, .inl (f_Ke_takeIn v_p0_p v_p0_x v_p0_y v_p0_m g_slots)))]) hP hD [0, 1, 2] [3] rfl rfl (by decide) (by decide) hk1 hFc hP1 hD1
  clear hFc hDc hPc hP1 hD1 hk1 hz1 hvm ht
  generalize H1 = H at hP hS ⊢
  have hP : va_P (dC, dI) clsL [(a_code, .inl (cI, 162, .inl g_code)), (h0, .inr (1, [.ref a_code, .ref a_slots])), (h_p0, .inr (2, [.int v_p0_group, .int v_p0_p, .int v_p0_x, .int v_p0_y, .int v_p0_m])), (a_slots, .inl (cI, 8, .inl (f_Ke_takeIn v_p0_p v_p0_x v_p0_y v_p0_m g_slots)))] H := hP
  have hD : va_D A [(a_code, .inl (cI, 162, .inl g_code)), (h0, .inr (1, [.ref a_code, .ref a_slots])), (h_p0, .inr (2, [.int v_p0_group, .int v_p0_p, .int v_p0_x, .int v_p0_y, .int v_p0_m])), (a_slots, .inl (cI, 8, .inl (f_Ke_takeIn v_p0_p v_p0_x v_p0_y v_p0_m g_slots)))] := hD
  refine lv_aload_n hx hb d_Ke_workOut_5 rfl (lv_at hl 1 rfl) ?_
  refine va_get (D := (dC, dI)) (ci := 2) (v := .int v_p0_group) (C := "LabelledCore$Key") (T := T_Ky) (N := 5) hx hb hts in_Ky hown hK hP 2 rfl rfl 0 (by decide) (hts _ wm_160) (fun _ h9 => h9) rfl d_Ke_workOut_6 ?_
  refine lv_bipush (v := 18) hx hb d_Ke_workOut_9 (by decide) ?_
  refine lv_imul hx hb d_Ke_workOut_11 ?_
  refine lv_istore_n (lv' := [(2, .int (v_p0_group * 18)), (0, .ref h0), (1, .ref h_p0)]) hx hb d_Ke_workOut_12 rfl hl (by decide) rfl (fun ls hl => ?_)
  refine lv_iconst (v := 0) hx hb d_Ke_workOut_13 (by decide) ?_
  refine lv_istore_n (lv' := [(3, .int 0), (2, .int (v_p0_group * 18)), (0, .ref h0), (1, .ref h_p0)]) hx hb d_Ke_workOut_14 rfl hl (by decide) rfl (fun ls hl => ?_)
  refine lv_iconst (v := 1) hx hb d_Ke_workOut_15 (by decide) ?_
  refine lv_istore (lv' := [(4, .int 1), (3, .int 0), (2, .int (v_p0_group * 18)), (0, .ref h0), (1, .ref h_p0)]) hx hb d_Ke_workOut_16 hl (by decide) rfl (fun ls hl => ?_)
  have hloop_18 : ∀ (fu : Nat) (y_3 : Int32) (y_4 : Int32) (w_g_slots : Nat → Int32), ((f_Ke_workOut v_p0_group v_p0_p v_p0_x v_p0_y v_p0_m g_slots g_code) = (lp_Ke_workOut_18 v_p0_group g_code fu y_3 y_4 w_g_slots)) → (∃ i : Nat, y_3 = nI i ∧ i ≤ 18 ∧ 19 ≤ i + fu) → ∀ (H : Heap) (locs : List Loc), va_P (dC, dI) clsL [(a_code, .inl (cI, 162, .inl g_code)), (h0, .inr (1, [.ref a_code, .ref a_slots])), (h_p0, .inr (2, [.int v_p0_group, .int v_p0_p, .int v_p0_x, .int v_p0_y, .int v_p0_m])), (a_slots, .inl (cI, 8, .inl w_g_slots))] H → va_D A [(a_code, .inl (cI, 162, .inl g_code)), (h0, .inr (1, [.ref a_code, .ref a_slots])), (h_p0, .inr (2, [.int v_p0_group, .int v_p0_p, .int v_p0_x, .int v_p0_y, .int v_p0_m])), (a_slots, .inl (cI, 8, .inl w_g_slots))] → va_S A s.heap H locs → ∀ (ls : Array Slot), lv_has ls 5 [(4, .int y_4), (3, .int y_3), (2, .int (v_p0_group * 18)), (0, .ref h0), (1, .ref h_p0)] → W p l e (headSpec w_Ke_workOut ({ frames := 3, cells := 0, slots := 0, locals := 67 })).room s m ([.ref h0, .ref h_p0] : List Value).toArray below meth c H locs 0 0 (MQ below (va_Qi (fun (r : Int32) (_ : Unit) => r = (f_Ke_workOut v_p0_group v_p0_p v_p0_x v_p0_y v_p0_m g_slots g_code).1) (fun _ t => atW dC dI cI [(h0, .inr (1, [.ref a_code, .ref a_slots])), (h_p0, .inr (2, [.int v_p0_group, .int v_p0_p, .int v_p0_x, .int v_p0_y, .int v_p0_m])), (a_slots, .inl (cI, 8, .inl ((f_Ke_workOut v_p0_group v_p0_p v_p0_x v_p0_y v_p0_m g_slots g_code).2))), (a_code, .inl (cI, 162, .inl g_code))] A t) A) ([.ref h0, .ref h_p0] : List Value).toArray s 0 0 A) (F0 m 18 ls []) := by
    intro fu
    induction fu with
    | zero =>
      intro y_3 y_4 w_g_slots he_18 hinv
      exact absurd hinv (by rintro ⟨i, -, h1, h2⟩; omega)
    | succ fu ih_18 =>
      intro y_3 y_4 w_g_slots he_18 hinv H locs hP hD hS ls hl
      refine lv_iload hx hb d_Ke_workOut_18 (lv_at hl 0 rfl) ?_
      refine lv_if_eq (tgt := 49) hx hb d_Ke_workOut_20 (by decide) (fun c_2 => ?_) (fun c_2 => ?_)
      · refine lv_iload_n hx hb d_Ke_workOut_49 rfl (lv_at hl 1 rfl) ?_
        have ef : (f_Ke_workOut v_p0_group v_p0_p v_p0_x v_p0_y v_p0_m g_slots g_code) = ((y_3, w_g_slots) : Int32 × (Nat → Int32)) := he_18.trans ((if_pos c_2).trans rfl)
        have hP9 := hP.sub (ws' := [(h0, .inr (1, [.ref a_code, .ref a_slots])), (h_p0, .inr (2, [.int v_p0_group, .int v_p0_p, .int v_p0_x, .int v_p0_y, .int v_p0_m])), (a_slots, .inl (cI, 8, .inl w_g_slots)), (a_code, .inl (cI, 162, .inl g_code))]) [1, 2, 3, 0] rfl
        have hD9 := hD.sub (ws' := [(h0, .inr (1, [.ref a_code, .ref a_slots])), (h_p0, .inr (2, [.int v_p0_group, .int v_p0_p, .int v_p0_x, .int v_p0_y, .int v_p0_m])), (a_slots, .inl (cI, 8, .inl w_g_slots)), (a_code, .inl (cI, 162, .inl g_code))]) [1, 2, 3, 0] (by decide) rfl
        exact W.iret (v := y_3) hx hb hr (fun t ht hW => ⟨⟨y_3, (), rfl, by rw [ef], by rw [ef, ht]; exact hP9, va_K.moved hW.alike hK, by rw [ef]; exact hD9⟩, hS.F ht⟩) hS.2.2 d_Ke_workOut_50
      · refine lv_iload_n hx hb d_Ke_workOut_23 rfl (lv_at hl 1 rfl) ?_
        refine lv_bipush (v := 18) hx hb d_Ke_workOut_24 (by decide) ?_
        refine lv_icmp_ge (tgt := 49) hx hb d_Ke_workOut_26 (by decide) (fun c_3 => ?_) (fun c_3 => ?_)
        · refine lv_iload_n hx hb d_Ke_workOut_49 rfl (lv_at hl 1 rfl) ?_
          have ef : (f_Ke_workOut v_p0_group v_p0_p v_p0_x v_p0_y v_p0_m g_slots g_code) = ((y_3, w_g_slots) : Int32 × (Nat → Int32)) := he_18.trans ((if_neg c_2).trans ((if_pos c_3).trans rfl))
          have hP9 := hP.sub (ws' := [(h0, .inr (1, [.ref a_code, .ref a_slots])), (h_p0, .inr (2, [.int v_p0_group, .int v_p0_p, .int v_p0_x, .int v_p0_y, .int v_p0_m])), (a_slots, .inl (cI, 8, .inl w_g_slots)), (a_code, .inl (cI, 162, .inl g_code))]) [1, 2, 3, 0] rfl
          have hD9 := hD.sub (ws' := [(h0, .inr (1, [.ref a_code, .ref a_slots])), (h_p0, .inr (2, [.int v_p0_group, .int v_p0_p, .int v_p0_x, .int v_p0_y, .int v_p0_m])), (a_slots, .inl (cI, 8, .inl w_g_slots)), (a_code, .inl (cI, 162, .inl g_code))]) [1, 2, 3, 0] (by decide) rfl
          exact W.iret (v := y_3) hx hb hr (fun t ht hW => ⟨⟨y_3, (), rfl, by rw [ef], by rw [ef, ht]; exact hP9, va_K.moved hW.alike hK, by rw [ef]; exact hD9⟩, hS.F ht⟩) hS.2.2 d_Ke_workOut_50
        · refine lv_aload_n hx hb d_Ke_workOut_29 rfl (lv_at hl 3 rfl) ?_
          refine lv_aload_n hx hb d_Ke_workOut_30 rfl (lv_at hl 3 rfl) ?_
          refine va_get (D := (dC, dI)) (ci := 1) (v := .ref a_code) (C := "LabelledCore$Kernel") (T := T_Ke) (N := 2) hx hb hts in_Ke hown hK hP 1 rfl rfl 0 (by decide) (hts _ wm_110) (fun _ h9 => h9) rfl d_Ke_workOut_31 ?_
          refine lv_iload_n hx hb d_Ke_workOut_34 rfl (lv_at hl 2 rfl) ?_
          refine lv_iload_n hx hb d_Ke_workOut_35 rfl (lv_at hl 1 rfl) ?_
          refine lv_iadd hx hb d_Ke_workOut_36 ?_
          refine va_iald hx hb hK hP 0 0 rfl rfl (by obtain ⟨g, g1, g2⟩ := hg; obtain ⟨i, e, h1, h2⟩ := hinv; exact in_code g1 g2 e (lt_18 e h1 (by assumption))) d_Ke_workOut_37 ?_
          have hPc := hP.sub (ws' := [(h0, .inr (1, [.ref a_code, .ref a_slots])), (a_slots, .inl (cI, 8, .inl w_g_slots))]) [1, 3] rfl
          have hDc := hD.sub (ws' := [(h0, .inr (1, [.ref a_code, .ref a_slots])), (a_slots, .inl (cI, 8, .inl w_g_slots))]) [1, 3] (by decide) rfl
          have hFc := va_free (wc := [(h0, .inr (1, [.ref a_code, .ref a_slots])), (a_slots, .inl (cI, 8, .inl w_g_slots))]) hD hS hA [1, 3] rfl
          refine va_calli (va_runV (As := [.int (g_code (Int32.toNatClampNeg ((v_p0_group * 18) + y_3)))]) (rest := []) ⟨hx, hb, hml, hown, hts⟩ (ct_Ke_execute l dC dI cI H.size h0 a_code a_slots w_g_slots (g_code (Int32.toNatClampNeg ((v_p0_group * 18) + y_3)))) (cwV 1 hts (gV wm_798 wm_800 wm_12 wm_39 wm_801) rfl rfl rfl (by decide +kernel) ⟨Nat.le_of_ble_eq_true rfl, Nat.le_of_ble_eq_true rfl⟩) ⟨pcW_blind, va_recv hK hPc (ci := 1) (q0 := 0) rfl rfl, pcW_pre hPc hK hDc⟩ rfl rfl hl.1 rfl (lv_room (Nat.le_of_ble_eq_true rfl)) d_Ke_workOut_38 ⟨Nat.le_of_ble_eq_true rfl, Nat.le_of_ble_eq_true rfl⟩) hS (fun q _ h => hFc q h) hFc (fun r_4 u t H1 locs ht hvm hw hB hz1 hk1 hS => ?_)
          have hw : r_4 = (f_Ke_execute w_g_slots (g_code (Int32.toNatClampNeg ((v_p0_group * 18) + y_3)))).1 := hw
          subst hw
          obtain ⟨hP1, -, hD1⟩ := hB
          rw [ht] at hP1
          obtain ⟨hP, hD⟩ := va_join (wr := [(a_code, .inl (cI, 162, .inl g_code)), (h_p0, .inr (2, [.int v_p0_group, .int v_p0_p, .int v_p0_x, .int v_p0_y, .int v_p0_m]))]) (w1 := [(h0, .inr (1, [.ref a_code, .ref a_slots])), (a_slots, .inl (cI, 8, .inl ((f_Ke_execute w_g_slots (g_code (Int32.toNatClampNeg ((v_p0_group * 18) + y_3)))).2)))]) hP hD [1, 3] [0, 2] rfl rfl (by decide) (by decide) hk1 hFc hP1 hD1
          clear hFc hDc hPc hP1 hD1 hk1 hz1 hvm ht
          generalize H1 = H at hP hS ⊢
          have hP : va_P (dC, dI) clsL [(a_code, .inl (cI, 162, .inl g_code)), (h_p0, .inr (2, [.int v_p0_group, .int v_p0_p, .int v_p0_x, .int v_p0_y, .int v_p0_m])), (h0, .inr (1, [.ref a_code, .ref a_slots])), (a_slots, .inl (cI, 8, .inl ((f_Ke_execute w_g_slots (g_code (Int32.toNatClampNeg ((v_p0_group * 18) + y_3)))).2)))] H := hP
          have hD : va_D A [(a_code, .inl (cI, 162, .inl g_code)), (h_p0, .inr (2, [.int v_p0_group, .int v_p0_p, .int v_p0_x, .int v_p0_y, .int v_p0_m])), (h0, .inr (1, [.ref a_code, .ref a_slots])), (a_slots, .inl (cI, 8, .inl ((f_Ke_execute w_g_slots (g_code (Int32.toNatClampNeg ((v_p0_group * 18) + y_3)))).2)))] := hD
          refine lv_istore (lv' := [(4, .int ((f_Ke_execute w_g_slots (g_code (Int32.toNatClampNeg ((v_p0_group * 18) + y_3)))).1)), (3, .int y_3), (2, .int (v_p0_group * 18)), (0, .ref h0), (1, .ref h_p0)]) hx hb d_Ke_workOut_41 hl (by decide) rfl (fun ls hl => ?_)
          refine lv_iinc (v := (y_3 + 1)) (lv' := [(3, .int (y_3 + 1)), (4, .int ((f_Ke_execute w_g_slots (g_code (Int32.toNatClampNeg ((v_p0_group * 18) + y_3)))).1)), (2, .int (v_p0_group * 18)), (0, .ref h0), (1, .ref h_p0)]) hx hb d_Ke_workOut_43 hl (k := 1) rfl rfl (by decide) rfl (fun ls hl => ?_)
          refine lv_goto (tgt := 18) hx hb d_Ke_workOut_46 (by decide) ?_
          have hc0 := c_2
          have hc1 := c_3
          exact ih_18 (y_3 + 1) ((f_Ke_execute w_g_slots (g_code (Int32.toNatClampNeg ((v_p0_group * 18) + y_3)))).1) ((f_Ke_execute w_g_slots (g_code (Int32.toNatClampNeg ((v_p0_group * 18) + y_3)))).2) (he_18.trans ((if_neg c_2).trans ((if_neg c_3).trans rfl))) (by obtain ⟨i, e, h1, h2⟩ := hinv; exact ⟨i + 1, by rw [e]; exact nI_1 i, lt_18 e h1 hc1, by omega⟩) _ _ (hP.sub [0, 2, 1, 3] rfl) (hD.sub [0, 2, 1, 3] (by decide) rfl) hS ls (lv_sub hl [1, 0, 2, 3, 4] rfl)
  exact hloop_18 (19) 0 1 (f_Ke_takeIn v_p0_p v_p0_x v_p0_y v_p0_m g_slots) (rfl) (⟨0, nI_0.symm, Nat.zero_le _, by omega⟩) _ _ (hP.sub [0, 1, 2, 3] rfl) (hD.sub [0, 1, 2, 3] (by decide) rfl) hS ls (lv_sub hl [0, 1, 2, 3, 4] rfl)
def lp_Kc_find_2 (v_count : Int32) (g_groups : Nat → Int32) (v_p0_group : Int32) (v_p0_p : Int32) (v_p0_x : Int32) (v_p0_y : Int32) (v_p0_m : Int32) (g_ps : Nat → Int32) (g_xs : Nat → Int32) (g_ys : Nat → Int32) (g_ms : Nat → Int32) : Nat → (Int32) → Int32
  | 0, _ => 0
  | fu + 1, y_2 =>
    if v_count ≤ y_2 then
      (-1)
    else
      if (g_groups (Int32.toNatClampNeg y_2)) = v_p0_group then
        if (g_ps (Int32.toNatClampNeg y_2)) = v_p0_p then
          if (g_xs (Int32.toNatClampNeg y_2)) = v_p0_x then
            if (g_ys (Int32.toNatClampNeg y_2)) = v_p0_y then
              if (g_ms (Int32.toNatClampNeg y_2)) = v_p0_m then
                y_2
              else
                (lp_Kc_find_2 v_count g_groups v_p0_group v_p0_p v_p0_x v_p0_y v_p0_m g_ps g_xs g_ys g_ms fu (y_2 + 1))
            else
              (lp_Kc_find_2 v_count g_groups v_p0_group v_p0_p v_p0_x v_p0_y v_p0_m g_ps g_xs g_ys g_ms fu (y_2 + 1))
          else
            (lp_Kc_find_2 v_count g_groups v_p0_group v_p0_p v_p0_x v_p0_y v_p0_m g_ps g_xs g_ys g_ms fu (y_2 + 1))
        else
          (lp_Kc_find_2 v_count g_groups v_p0_group v_p0_p v_p0_x v_p0_y v_p0_m g_ps g_xs g_ys g_ms fu (y_2 + 1))
      else
        (lp_Kc_find_2 v_count g_groups v_p0_group v_p0_p v_p0_x v_p0_y v_p0_m g_ps g_xs g_ys g_ms fu (y_2 + 1))
def f_Kc_find (v_count : Int32) (g_groups : Nat → Int32) (v_p0_group : Int32) (v_p0_p : Int32) (v_p0_x : Int32) (v_p0_y : Int32) (v_p0_m : Int32) (g_ps : Nat → Int32) (g_xs : Nat → Int32) (g_ys : Nat → Int32) (g_ms : Nat → Int32) : Int32 :=
  (lp_Kc_find_2 v_count g_groups v_p0_group v_p0_p v_p0_x v_p0_y v_p0_m g_ps g_xs g_ys g_ms (65) 0)
set_option maxHeartbeats 4000000 in
set_option maxRecDepth 100000 in
theorem ct_Kc_find (l : Launch) (dC : Nat → ClassId) (dI : Nat → Nat → Nat) (cI : ClassId) (h0 a_groups a_ps a_xs a_ys a_ms a_results a_nexts h_p0 : Nat) (v_entries : Int32) (v_count : Int32) (v_oldest : Int32) (g_groups : Nat → Int32) (v_p0_group : Int32) (v_p0_p : Int32) (v_p0_x : Int32) (v_p0_y : Int32) (v_p0_m : Int32) (g_ps : Nat → Int32) (g_xs : Nat → Int32) (g_ys : Nat → Int32) (g_ms : Nat → Int32) (hct : ∃ ct : Nat, ct ≤ 64 ∧ v_count = nI ct) : Met l y_Kc_find w_Kc_find ({ frames := 0, cells := 0, slots := 0, locals := 0 }) (pcR dC dI cI [(h0, .inr (3, [.ref a_groups, .ref a_ps, .ref a_xs, .ref a_ys, .ref a_ms, .ref a_results, .ref a_nexts, .int v_entries, .int v_count, .int v_oldest])), (a_groups, .inl (cI, 64, .inl g_groups)), (h_p0, .inr (2, [.int v_p0_group, .int v_p0_p, .int v_p0_x, .int v_p0_y, .int v_p0_m])), (a_ps, .inl (cI, 64, .inl g_ps)), (a_xs, .inl (cI, 64, .inl g_xs)), (a_ys, .inl (cI, 64, .inl g_ys)), (a_ms, .inl (cI, 64, .inl g_ms))] [.ref h0, .ref h_p0]) (QcRead (f_Kc_find v_count g_groups v_p0_group v_p0_p v_p0_x v_p0_y v_p0_m g_ps g_xs g_ys g_ms)) 0 0 (fun _ => False) := by
  refine Met.ofW (cc := c_Kc_find) (maxL := 3) (ret := (some .int)) (by decide) rfl ?_
  intro p e s m args below meth c s₁ B hml hv
  obtain ⟨rfl, hP, hK⟩ := hv
  have hx := B.exec
  have hb := B.bytes
  have hr := B.returns
  have hts : ∀ w ∈ wG, w.before _ s = true := fun w h => atoms_spec (ws := w_Kc_find) B.pre w (List.mem_cons_of_mem _ h)
  have hown : s.vm.findClass "LabelledCore$KeyCache" = some m.cls := findClass_of_methodNamed B.named
  have hlocks := B.notSynchronized
  have hl := lv_entry ([.ref h0, .ref h_p0]) (n := 3) (Nat.le_of_ble_eq_true rfl)
  rw [lg_entry_eq]
  generalize (lg_sl ([.ref h0, .ref h_p0]) ++ List.replicate (3 - (lg_sl ([.ref h0, .ref h_p0])).length) Slot.unset).toArray = ls at hl ⊢
  have hl : lv_has ls 3 [(0, .ref h0), (1, .ref h_p0)] := hl
  refine lv_iconst (v := 0) hx hb d_Kc_find_0 (by decide) ?_
  refine lv_istore_n (lv' := [(2, .int 0), (0, .ref h0), (1, .ref h_p0)]) hx hb d_Kc_find_1 rfl hl (by decide) rfl (fun ls hl => ?_)
  have hloop_2 : ∀ (fu : Nat) (y_2 : Int32), ((f_Kc_find v_count g_groups v_p0_group v_p0_p v_p0_x v_p0_y v_p0_m g_ps g_xs g_ys g_ms) = (lp_Kc_find_2 v_count g_groups v_p0_group v_p0_p v_p0_x v_p0_y v_p0_m g_ps g_xs g_ys g_ms fu y_2)) → (∃ i ct : Nat, y_2 = nI i ∧ v_count = nI ct ∧ ct ≤ 64 ∧ i ≤ ct ∧ 65 ≤ i + fu) → ∀ (ls : Array Slot), lv_has ls 3 [(2, .int y_2), (0, .ref h0), (1, .ref h_p0)] → W p l e (headSpec w_Kc_find ({ frames := 0, cells := 0, slots := 0, locals := 0 })).room s m ([.ref h0, .ref h_p0] : List Value).toArray below meth c s.heap [] 0 0 (MQ below (QcRead (f_Kc_find v_count g_groups v_p0_group v_p0_p v_p0_x v_p0_y v_p0_m g_ps g_xs g_ys g_ms)) ([.ref h0, .ref h_p0] : List Value).toArray s 0 0 (fun _ => False)) (F0 m 2 ls []) := by
    intro fu
    induction fu with
    | zero =>
      intro y_2 he_2 hinv
      exact absurd hinv (by rintro ⟨i, ct, -, -, h1, h2, h3⟩; omega)
    | succ fu ih_2 =>
      intro y_2 he_2 hinv ls hl
      refine lv_iload_n hx hb d_Kc_find_2 rfl (lv_at hl 0 rfl) ?_
      refine lv_aload_n hx hb d_Kc_find_3 rfl (lv_at hl 1 rfl) ?_
      refine va_get (D := (dC, dI)) (ci := 3) (v := .int v_count) (C := "LabelledCore$KeyCache") (T := T_Kc) (N := 10) hx hb hts in_Kc hown hK hP 0 rfl rfl 8 (by decide) (hts _ wm_131) (fun _ h9 => h9) rfl d_Kc_find_4 ?_
      refine lv_icmp_ge (tgt := 83) hx hb d_Kc_find_7 (by decide) (fun c_1 => ?_) (fun c_1 => ?_)
      · refine lv_iconst (v := (-1)) hx hb d_Kc_find_83 (by decide) ?_
        have ef : (f_Kc_find v_count g_groups v_p0_group v_p0_p v_p0_x v_p0_y v_p0_m g_ps g_xs g_ys g_ms) = ((-1) : Int32) := he_2.trans ((if_pos c_1).trans rfl)
        exact W.iret (v := (-1)) hx hb hr (fun t ht hW => ⟨by rw [ef], ht⟩) (fun _ h => by cases h) d_Kc_find_84
      · refine lv_aload_n hx hb d_Kc_find_10 rfl (lv_at hl 1 rfl) ?_
        refine va_get (D := (dC, dI)) (ci := 3) (v := .ref a_groups) (C := "LabelledCore$KeyCache") (T := T_Kc) (N := 10) hx hb hts in_Kc hown hK hP 0 rfl rfl 0 (by decide) (hts _ wm_123) (fun _ h9 => h9) rfl d_Kc_find_11 ?_
        refine lv_iload_n hx hb d_Kc_find_14 rfl (lv_at hl 0 rfl) ?_
        refine va_iald hx hb hK hP 1 0 rfl rfl (by obtain ⟨i, ct, e, e2, h1, h2, h3⟩ := hinv; rw [e]; exact vp_in_nI (Nat.lt_of_lt_of_le (lt_ct e e2 h1 h2 (by assumption)) h1) (by omega)) d_Kc_find_15 ?_
        refine lv_aload_n hx hb d_Kc_find_16 rfl (lv_at hl 2 rfl) ?_
        refine va_get (D := (dC, dI)) (ci := 2) (v := .int v_p0_group) (C := "LabelledCore$Key") (T := T_Ky) (N := 5) hx hb hts in_Ky hown hK hP 2 rfl rfl 0 (by decide) (hts _ wm_161) (fun _ h9 => h9) rfl d_Kc_find_17 ?_
        refine lv_icmp_ne (tgt := 77) hx hb d_Kc_find_20 (by decide) (fun c_2 => ?_) (fun c_2 => ?_)
        · refine lv_iinc (v := (y_2 + 1)) (lv' := [(2, .int (y_2 + 1)), (0, .ref h0), (1, .ref h_p0)]) hx hb d_Kc_find_77 hl (k := 0) rfl rfl (by decide) rfl (fun ls hl => ?_)
          refine lv_goto (tgt := 2) hx hb d_Kc_find_80 (by decide) ?_
          have hc0 := c_1
          have hc1 := c_2
          exact ih_2 (y_2 + 1) (he_2.trans ((if_neg c_1).trans ((if_neg c_2).trans rfl))) (by obtain ⟨i, ct, e, e2, h1, h2, h3⟩ := hinv; exact ⟨i + 1, ct, by rw [e]; exact nI_1 i, e2, h1, lt_ct e e2 h1 h2 hc0, by omega⟩)  ls (lv_sub hl [0, 1, 2] rfl)
        · refine lv_aload_n hx hb d_Kc_find_23 rfl (lv_at hl 1 rfl) ?_
          refine va_get (D := (dC, dI)) (ci := 3) (v := .ref a_ps) (C := "LabelledCore$KeyCache") (T := T_Kc) (N := 10) hx hb hts in_Kc hown hK hP 0 rfl rfl 1 (by decide) (hts _ wm_124) (fun _ h9 => h9) rfl d_Kc_find_24 ?_
          refine lv_iload_n hx hb d_Kc_find_27 rfl (lv_at hl 0 rfl) ?_
          refine va_iald hx hb hK hP 3 0 rfl rfl (by obtain ⟨i, ct, e, e2, h1, h2, h3⟩ := hinv; rw [e]; exact vp_in_nI (Nat.lt_of_lt_of_le (lt_ct e e2 h1 h2 (by assumption)) h1) (by omega)) d_Kc_find_28 ?_
          refine lv_aload_n hx hb d_Kc_find_29 rfl (lv_at hl 2 rfl) ?_
          refine va_get (D := (dC, dI)) (ci := 2) (v := .int v_p0_p) (C := "LabelledCore$Key") (T := T_Ky) (N := 5) hx hb hts in_Ky hown hK hP 2 rfl rfl 1 (by decide) (hts _ wm_163) (fun _ h9 => h9) rfl d_Kc_find_30 ?_
          refine lv_icmp_ne (tgt := 77) hx hb d_Kc_find_33 (by decide) (fun c_3 => ?_) (fun c_3 => ?_)
          · refine lv_iinc (v := (y_2 + 1)) (lv' := [(2, .int (y_2 + 1)), (0, .ref h0), (1, .ref h_p0)]) hx hb d_Kc_find_77 hl (k := 0) rfl rfl (by decide) rfl (fun ls hl => ?_)
            refine lv_goto (tgt := 2) hx hb d_Kc_find_80 (by decide) ?_
            have hc0 := c_1
            have hc1 := c_2
            have hc2 := c_3
            exact ih_2 (y_2 + 1) (he_2.trans ((if_neg c_1).trans ((if_pos c_2).trans ((if_neg c_3).trans rfl)))) (by obtain ⟨i, ct, e, e2, h1, h2, h3⟩ := hinv; exact ⟨i + 1, ct, by rw [e]; exact nI_1 i, e2, h1, lt_ct e e2 h1 h2 hc0, by omega⟩)  ls (lv_sub hl [0, 1, 2] rfl)
          · refine lv_aload_n hx hb d_Kc_find_36 rfl (lv_at hl 1 rfl) ?_
            refine va_get (D := (dC, dI)) (ci := 3) (v := .ref a_xs) (C := "LabelledCore$KeyCache") (T := T_Kc) (N := 10) hx hb hts in_Kc hown hK hP 0 rfl rfl 2 (by decide) (hts _ wm_125) (fun _ h9 => h9) rfl d_Kc_find_37 ?_
            refine lv_iload_n hx hb d_Kc_find_40 rfl (lv_at hl 0 rfl) ?_
            refine va_iald hx hb hK hP 4 0 rfl rfl (by obtain ⟨i, ct, e, e2, h1, h2, h3⟩ := hinv; rw [e]; exact vp_in_nI (Nat.lt_of_lt_of_le (lt_ct e e2 h1 h2 (by assumption)) h1) (by omega)) d_Kc_find_41 ?_
            refine lv_aload_n hx hb d_Kc_find_42 rfl (lv_at hl 2 rfl) ?_
            refine va_get (D := (dC, dI)) (ci := 2) (v := .int v_p0_x) (C := "LabelledCore$Key") (T := T_Ky) (N := 5) hx hb hts in_Ky hown hK hP 2 rfl rfl 2 (by decide) (hts _ wm_166) (fun _ h9 => h9) rfl d_Kc_find_43 ?_
            refine lv_icmp_ne (tgt := 77) hx hb d_Kc_find_46 (by decide) (fun c_4 => ?_) (fun c_4 => ?_)
            · refine lv_iinc (v := (y_2 + 1)) (lv' := [(2, .int (y_2 + 1)), (0, .ref h0), (1, .ref h_p0)]) hx hb d_Kc_find_77 hl (k := 0) rfl rfl (by decide) rfl (fun ls hl => ?_)
              refine lv_goto (tgt := 2) hx hb d_Kc_find_80 (by decide) ?_
              have hc0 := c_1
              have hc1 := c_2
              have hc2 := c_3
              have hc3 := c_4
              exact ih_2 (y_2 + 1) (he_2.trans ((if_neg c_1).trans ((if_pos c_2).trans ((if_pos c_3).trans ((if_neg c_4).trans rfl))))) (by obtain ⟨i, ct, e, e2, h1, h2, h3⟩ := hinv; exact ⟨i + 1, ct, by rw [e]; exact nI_1 i, e2, h1, lt_ct e e2 h1 h2 hc0, by omega⟩)  ls (lv_sub hl [0, 1, 2] rfl)
            · refine lv_aload_n hx hb d_Kc_find_49 rfl (lv_at hl 1 rfl) ?_
              refine va_get (D := (dC, dI)) (ci := 3) (v := .ref a_ys) (C := "LabelledCore$KeyCache") (T := T_Kc) (N := 10) hx hb hts in_Kc hown hK hP 0 rfl rfl 3 (by decide) (hts _ wm_126) (fun _ h9 => h9) rfl d_Kc_find_50 ?_
              refine lv_iload_n hx hb d_Kc_find_53 rfl (lv_at hl 0 rfl) ?_
              refine va_iald hx hb hK hP 5 0 rfl rfl (by obtain ⟨i, ct, e, e2, h1, h2, h3⟩ := hinv; rw [e]; exact vp_in_nI (Nat.lt_of_lt_of_le (lt_ct e e2 h1 h2 (by assumption)) h1) (by omega)) d_Kc_find_54 ?_
              refine lv_aload_n hx hb d_Kc_find_55 rfl (lv_at hl 2 rfl) ?_
              refine va_get (D := (dC, dI)) (ci := 2) (v := .int v_p0_y) (C := "LabelledCore$Key") (T := T_Ky) (N := 5) hx hb hts in_Ky hown hK hP 2 rfl rfl 3 (by decide) (hts _ wm_169) (fun _ h9 => h9) rfl d_Kc_find_56 ?_
              refine lv_icmp_ne (tgt := 77) hx hb d_Kc_find_59 (by decide) (fun c_5 => ?_) (fun c_5 => ?_)
              · refine lv_iinc (v := (y_2 + 1)) (lv' := [(2, .int (y_2 + 1)), (0, .ref h0), (1, .ref h_p0)]) hx hb d_Kc_find_77 hl (k := 0) rfl rfl (by decide) rfl (fun ls hl => ?_)
                refine lv_goto (tgt := 2) hx hb d_Kc_find_80 (by decide) ?_
                have hc0 := c_1
                have hc1 := c_2
                have hc2 := c_3
                have hc3 := c_4
                have hc4 := c_5
                exact ih_2 (y_2 + 1) (he_2.trans ((if_neg c_1).trans ((if_pos c_2).trans ((if_pos c_3).trans ((if_pos c_4).trans ((if_neg c_5).trans rfl)))))) (by obtain ⟨i, ct, e, e2, h1, h2, h3⟩ := hinv; exact ⟨i + 1, ct, by rw [e]; exact nI_1 i, e2, h1, lt_ct e e2 h1 h2 hc0, by omega⟩)  ls (lv_sub hl [0, 1, 2] rfl)
              · refine lv_aload_n hx hb d_Kc_find_62 rfl (lv_at hl 1 rfl) ?_
                refine va_get (D := (dC, dI)) (ci := 3) (v := .ref a_ms) (C := "LabelledCore$KeyCache") (T := T_Kc) (N := 10) hx hb hts in_Kc hown hK hP 0 rfl rfl 4 (by decide) (hts _ wm_127) (fun _ h9 => h9) rfl d_Kc_find_63 ?_
                refine lv_iload_n hx hb d_Kc_find_66 rfl (lv_at hl 0 rfl) ?_
                refine va_iald hx hb hK hP 6 0 rfl rfl (by obtain ⟨i, ct, e, e2, h1, h2, h3⟩ := hinv; rw [e]; exact vp_in_nI (Nat.lt_of_lt_of_le (lt_ct e e2 h1 h2 (by assumption)) h1) (by omega)) d_Kc_find_67 ?_
                refine lv_aload_n hx hb d_Kc_find_68 rfl (lv_at hl 2 rfl) ?_
                refine va_get (D := (dC, dI)) (ci := 2) (v := .int v_p0_m) (C := "LabelledCore$Key") (T := T_Ky) (N := 5) hx hb hts in_Ky hown hK hP 2 rfl rfl 4 (by decide) (hts _ wm_172) (fun _ h9 => h9) rfl d_Kc_find_69 ?_
                refine lv_icmp_ne (tgt := 77) hx hb d_Kc_find_72 (by decide) (fun c_6 => ?_) (fun c_6 => ?_)
                · refine lv_iinc (v := (y_2 + 1)) (lv' := [(2, .int (y_2 + 1)), (0, .ref h0), (1, .ref h_p0)]) hx hb d_Kc_find_77 hl (k := 0) rfl rfl (by decide) rfl (fun ls hl => ?_)
                  refine lv_goto (tgt := 2) hx hb d_Kc_find_80 (by decide) ?_
                  have hc0 := c_1
                  have hc1 := c_2
                  have hc2 := c_3
                  have hc3 := c_4
                  have hc4 := c_5
                  have hc5 := c_6
                  exact ih_2 (y_2 + 1) (he_2.trans ((if_neg c_1).trans ((if_pos c_2).trans ((if_pos c_3).trans ((if_pos c_4).trans ((if_pos c_5).trans ((if_neg c_6).trans rfl))))))) (by obtain ⟨i, ct, e, e2, h1, h2, h3⟩ := hinv; exact ⟨i + 1, ct, by rw [e]; exact nI_1 i, e2, h1, lt_ct e e2 h1 h2 hc0, by omega⟩)  ls (lv_sub hl [0, 1, 2] rfl)
                · refine lv_iload_n hx hb d_Kc_find_75 rfl (lv_at hl 0 rfl) ?_
                  have ef : (f_Kc_find v_count g_groups v_p0_group v_p0_p v_p0_x v_p0_y v_p0_m g_ps g_xs g_ys g_ms) = (y_2 : Int32) := he_2.trans ((if_neg c_1).trans ((if_pos c_2).trans ((if_pos c_3).trans ((if_pos c_4).trans ((if_pos c_5).trans ((if_pos c_6).trans rfl))))))
                  exact W.iret (v := y_2) hx hb hr (fun t ht hW => ⟨by rw [ef], ht⟩) (fun _ h => by cases h) d_Kc_find_76
  exact hloop_2 (65) 0 (rfl) (by obtain ⟨ct, h1, h2⟩ := hct; exact ⟨0, ct, nI_0.symm, h2, h1, Nat.zero_le _, by omega⟩) ls (lv_sub hl [0, 1, 2] rfl)
