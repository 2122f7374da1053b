def f_Ke_writeJoins (g_code : Nat → Int32) (x_p0 : Int32) (x_p1 : Int32) (x_p2 : Int32) : Int32 × (Nat → Int32) :=
  if ((x_p2 >>> (0 &&& 31)) &&& 1) = 0 then
    if ((x_p2 >>> (1 &&& 31)) &&& 1) = 0 then
      if ((x_p2 >>> (2 &&& 31)) &&& 1) = 0 then
        if ((x_p2 >>> (3 &&& 31)) &&& 1) = 0 then
          (x_p0, g_code)
        else
          ((x_p0 + 1), (upd g_code (Int32.toNatClampNeg x_p0) (f_Ke_instruction 1 x_p1 3)))
      else
        if ((x_p2 >>> (3 &&& 31)) &&& 1) = 0 then
          ((x_p0 + 1), (upd g_code (Int32.toNatClampNeg x_p0) (f_Ke_instruction 1 x_p1 2)))
        else
          (((x_p0 + 1) + 1), (upd (upd g_code (Int32.toNatClampNeg x_p0) (f_Ke_instruction 1 x_p1 2)) (Int32.toNatClampNeg (x_p0 + 1)) (f_Ke_instruction 1 x_p1 3)))
    else
      if ((x_p2 >>> (2 &&& 31)) &&& 1) = 0 then
        if ((x_p2 >>> (3 &&& 31)) &&& 1) = 0 then
          ((x_p0 + 1), (upd g_code (Int32.toNatClampNeg x_p0) (f_Ke_instruction 1 x_p1 1)))
        else
          (((x_p0 + 1) + 1), (upd (upd g_code (Int32.toNatClampNeg x_p0) (f_Ke_instruction 1 x_p1 1)) (Int32.toNatClampNeg (x_p0 + 1)) (f_Ke_instruction 1 x_p1 3)))
      else
        if ((x_p2 >>> (3 &&& 31)) &&& 1) = 0 then
          (((x_p0 + 1) + 1), (upd (upd g_code (Int32.toNatClampNeg x_p0) (f_Ke_instruction 1 x_p1 1)) (Int32.toNatClampNeg (x_p0 + 1)) (f_Ke_instruction 1 x_p1 2)))
        else
          ((((x_p0 + 1) + 1) + 1), (upd (upd (upd g_code (Int32.toNatClampNeg x_p0) (f_Ke_instruction 1 x_p1 1)) (Int32.toNatClampNeg (x_p0 + 1)) (f_Ke_instruction 1 x_p1 2)) (Int32.toNatClampNeg ((x_p0 + 1) + 1)) (f_Ke_instruction 1 x_p1 3)))
  else
    if ((x_p2 >>> (1 &&& 31)) &&& 1) = 0 then
      if ((x_p2 >>> (2 &&& 31)) &&& 1) = 0 then
        if ((x_p2 >>> (3 &&& 31)) &&& 1) = 0 then
          ((x_p0 + 1), (upd g_code (Int32.toNatClampNeg x_p0) (f_Ke_instruction 1 x_p1 0)))
        else
          (((x_p0 + 1) + 1), (upd (upd g_code (Int32.toNatClampNeg x_p0) (f_Ke_instruction 1 x_p1 0)) (Int32.toNatClampNeg (x_p0 + 1)) (f_Ke_instruction 1 x_p1 3)))
      else
        if ((x_p2 >>> (3 &&& 31)) &&& 1) = 0 then
          (((x_p0 + 1) + 1), (upd (upd g_code (Int32.toNatClampNeg x_p0) (f_Ke_instruction 1 x_p1 0)) (Int32.toNatClampNeg (x_p0 + 1)) (f_Ke_instruction 1 x_p1 2)))
        else
          ((((x_p0 + 1) + 1) + 1), (upd (upd (upd g_code (Int32.toNatClampNeg x_p0) (f_Ke_instruction 1 x_p1 0)) (Int32.toNatClampNeg (x_p0 + 1)) (f_Ke_instruction 1 x_p1 2)) (Int32.toNatClampNeg ((x_p0 + 1) + 1)) (f_Ke_instruction 1 x_p1 3)))
    else
      if ((x_p2 >>> (2 &&& 31)) &&& 1) = 0 then
        if ((x_p2 >>> (3 &&& 31)) &&& 1) = 0 then
          (((x_p0 + 1) + 1), (upd (upd g_code (Int32.toNatClampNeg x_p0) (f_Ke_instruction 1 x_p1 0)) (Int32.toNatClampNeg (x_p0 + 1)) (f_Ke_instruction 1 x_p1 1)))
        else
          ((((x_p0 + 1) + 1) + 1), (upd (upd (upd g_code (Int32.toNatClampNeg x_p0) (f_Ke_instruction 1 x_p1 0)) (Int32.toNatClampNeg (x_p0 + 1)) (f_Ke_instruction 1 x_p1 1)) (Int32.toNatClampNeg ((x_p0 + 1) + 1)) (f_Ke_instruction 1 x_p1 3)))
      else
        if ((x_p2 >>> (3 &&& 31)) &&& 1) = 0 then
          ((((x_p0 + 1) + 1) + 1), (upd (upd (upd g_code (Int32.toNatClampNeg x_p0) (f_Ke_instruction 1 x_p1 0)) (Int32.toNatClampNeg (x_p0 + 1)) (f_Ke_instruction 1 x_p1 1)) (Int32.toNatClampNeg ((x_p0 + 1) + 1)) (f_Ke_instruction 1 x_p1 2)))
        else
          (((((x_p0 + 1) + 1) + 1) + 1), (upd (upd (upd (upd g_code (Int32.toNatClampNeg x_p0) (f_Ke_instruction 1 x_p1 0)) (Int32.toNatClampNeg (x_p0 + 1)) (f_Ke_instruction 1 x_p1 1)) (Int32.toNatClampNeg ((x_p0 + 1) + 1)) (f_Ke_instruction 1 x_p1 2)) (Int32.toNatClampNeg (((x_p0 + 1) + 1) + 1)) (f_Ke_instruction 1 x_p1 3)))
set_option maxHeartbeats 4000000 in
set_option maxRecDepth 100000 in
theorem ct_Ke_writeJoins (l : Launch) (dC : Nat → ClassId) (dI : Nat → Nat → Nat) (cI : ClassId) (sz : Nat) (h0 a_code a_slots : Nat) (g_code : Nat → Int32) (x_p0 : Int32) (x_p1 : Int32) (x_p2 : Int32) (hst : ∃ a : Nat, a + 4 ≤ 162 ∧ x_p0 = nI a) : Met l y_Ke_writeJoins w_Ke_writeJoins ({ frames := 1, cells := 0, slots := 0, locals := 22 }) (pcW dC dI cI [(h0, .inr (1, [.ref a_code, .ref a_slots])), (a_code, .inl (cI, 162, .inl g_code))] sz [.ref h0, .int x_p0, .int x_p1, .int x_p2]) (va_Qi (fun (r : Int32) (_ : Unit) => r = (f_Ke_writeJoins g_code x_p0 x_p1 x_p2).1) (fun _ t => atW dC dI cI [(h0, .inr (1, [.ref a_code, .ref a_slots])), (a_code, .inl (cI, 162, .inl ((f_Ke_writeJoins g_code x_p0 x_p1 x_p2).2)))] (va_A [(h0, .inr (1, [.ref a_code, .ref a_slots])), (a_code, .inl (cI, 162, .inl g_code))] sz) t) (va_A [(h0, .inr (1, [.ref a_code, .ref a_slots])), (a_code, .inl (cI, 162, .inl g_code))] sz)) 0 0 (va_A [(h0, .inr (1, [.ref a_code, .ref a_slots])), (a_code, .inl (cI, 162, .inl g_code))] sz) := by
  refine Met.ofW (cc := c_Ke_writeJoins) (maxL := 6) (ret := (some .int)) (by decide) rfl ?_
  intro p e s m args below meth c s₁ B hml hv
  obtain ⟨rfl, hsz, hP, hK, hD0⟩ := hv
  have hx := B.exec
  have hb := B.bytes
  have hr := B.returns
  have hts : ∀ w ∈ wG, w.before _ s = true := fun w h => atoms_spec (ws := w_Ke_writeJoins) B.pre w (List.mem_cons_of_mem _ h)
  have hown : s.vm.findClass "LabelledCore$Kernel" = some m.cls := findClass_of_methodNamed B.named
  have hlocks := B.notSynchronized
  subst hsz
  have hD := hD0.self (sz := s.heap.size)
  generalize hAe : va_A [(h0, .inr (1, [.ref a_code, .ref a_slots])), (a_code, .inl (cI, 162, .inl g_code))] s.heap.size = A at hD ⊢
  have hA : ∀ q : Nat, s.heap.size ≤ q → A q := fun q h => by rw [← hAe]; exact Or.inr h
  have hS : va_S A s.heap s.heap [] := va_S.rf
  have hP : va_P (dC, dI) clsL [(h0, .inr (1, [.ref a_code, .ref a_slots])), (a_code, .inl (cI, 162, .inl g_code))] s.heap := hP
  have hl := lv_entry ([.ref h0, .int x_p0, .int x_p1, .int x_p2]) (n := 6) (Nat.le_of_ble_eq_true rfl)
  rw [lg_entry_eq]
  generalize (lg_sl ([.ref h0, .int x_p0, .int x_p1, .int x_p2]) ++ List.replicate (6 - (lg_sl ([.ref h0, .int x_p0, .int x_p1, .int x_p2])).length) Slot.unset).toArray = ls at hl ⊢
  have hl : lv_has ls 6 [(0, .ref h0), (1, .int x_p0), (2, .int x_p1), (3, .int x_p2)] := hl
  refine lv_iload_n hx hb d_Ke_writeJoins_0 rfl (lv_at hl 1 rfl) ?_
  refine lv_istore (lv' := [(4, .int x_p0), (0, .ref h0), (1, .int x_p0), (2, .int x_p1), (3, .int x_p2)]) hx hb d_Ke_writeJoins_1 hl (by decide) rfl (fun ls hl => ?_)
  refine lv_iconst (v := 0) hx hb d_Ke_writeJoins_3 (by decide) ?_
  refine lv_istore (lv' := [(5, .int 0), (4, .int x_p0), (0, .ref h0), (1, .int x_p0), (2, .int x_p1), (3, .int x_p2)]) hx hb d_Ke_writeJoins_4 hl (by decide) rfl (fun ls hl => ?_)
  refine lv_iload hx hb d_Ke_writeJoins_6 (lv_at hl 0 rfl) ?_
  refine lv_iconst (v := 4) hx hb d_Ke_writeJoins_8 (by decide) ?_
  refine lv_icmp_ge (tgt := 44) hx hb d_Ke_writeJoins_9 (by decide) (fun c_1 => absurd c_1 (by decide)) (fun c_1 => ?_)
  refine lv_iload_n hx hb d_Ke_writeJoins_12 rfl (lv_at hl 5 rfl) ?_
  refine lv_iload hx hb d_Ke_writeJoins_13 (lv_at hl 0 rfl) ?_
  refine lv_ishr hx hb d_Ke_writeJoins_15 ?_
  refine lv_iconst (v := 1) hx hb d_Ke_writeJoins_16 (by decide) ?_
  refine lv_iand hx hb d_Ke_writeJoins_17 ?_
  refine lv_if_eq (tgt := 38) hx hb d_Ke_writeJoins_18 (by decide) (fun c_2 => ?_) (fun c_2 => ?_)
  · refine lv_iinc (v := 1) (lv' := [(5, .int 1), (4, .int x_p0), (0, .ref h0), (1, .int x_p0), (2, .int x_p1), (3, .int x_p2)]) hx hb d_Ke_writeJoins_38 hl (k := 0) rfl (by decide) (by decide) rfl (fun ls hl => ?_)
    refine lv_goto (tgt := 6) hx hb d_Ke_writeJoins_41 (by decide) ?_
    refine lv_iload hx hb d_Ke_writeJoins_6 (lv_at hl 0 rfl) ?_
    refine lv_iconst (v := 4) hx hb d_Ke_writeJoins_8 (by decide) ?_
    refine lv_icmp_ge (tgt := 44) hx hb d_Ke_writeJoins_9 (by decide) (fun c_3 => absurd c_3 (by decide)) (fun c_3 => ?_)
    refine lv_iload_n hx hb d_Ke_writeJoins_12 rfl (lv_at hl 5 rfl) ?_
    refine lv_iload hx hb d_Ke_writeJoins_13 (lv_at hl 0 rfl) ?_
    refine lv_ishr hx hb d_Ke_writeJoins_15 ?_
    refine lv_iconst (v := 1) hx hb d_Ke_writeJoins_16 (by decide) ?_
    refine lv_iand hx hb d_Ke_writeJoins_17 ?_
    refine lv_if_eq (tgt := 38) hx hb d_Ke_writeJoins_18 (by decide) (fun c_4 => ?_) (fun c_4 => ?_)
    · refine lv_iinc (v := 2) (lv' := [(5, .int 2), (4, .int x_p0), (0, .ref h0), (1, .int x_p0), (2, .int x_p1), (3, .int x_p2)]) hx hb d_Ke_writeJoins_38 hl (k := 0) rfl (by decide) (by decide) rfl (fun ls hl => ?_)
      refine lv_goto (tgt := 6) hx hb d_Ke_writeJoins_41 (by decide) ?_
      refine lv_iload hx hb d_Ke_writeJoins_6 (lv_at hl 0 rfl) ?_
      refine lv_iconst (v := 4) hx hb d_Ke_writeJoins_8 (by decide) ?_
      refine lv_icmp_ge (tgt := 44) hx hb d_Ke_writeJoins_9 (by decide) (fun c_5 => absurd c_5 (by decide)) (fun c_5 => ?_)
      refine lv_iload_n hx hb d_Ke_writeJoins_12 rfl (lv_at hl 5 rfl) ?_
      refine lv_iload hx hb d_Ke_writeJoins_13 (lv_at hl 0 rfl) ?_
      refine lv_ishr hx hb d_Ke_writeJoins_15 ?_
      refine lv_iconst (v := 1) hx hb d_Ke_writeJoins_16 (by decide) ?_
      refine lv_iand hx hb d_Ke_writeJoins_17 ?_
      refine lv_if_eq (tgt := 38) hx hb d_Ke_writeJoins_18 (by decide) (fun c_6 => ?_) (fun c_6 => ?_)
      · refine lv_iinc (v := 3) (lv' := [(5, .int 3), (4, .int x_p0), (0, .ref h0), (1, .int x_p0), (2, .int x_p1), (3, .int x_p2)]) hx hb d_Ke_writeJoins_38 hl (k := 0) rfl (by decide) (by decide) rfl (fun ls hl => ?_)
        refine lv_goto (tgt := 6) hx hb d_Ke_writeJoins_41 (by decide) ?_
        refine lv_iload hx hb d_Ke_writeJoins_6 (lv_at hl 0 rfl) ?_
        refine lv_iconst (v := 4) hx hb d_Ke_writeJoins_8 (by decide) ?_
        refine lv_icmp_ge (tgt := 44) hx hb d_Ke_writeJoins_9 (by decide) (fun c_7 => absurd c_7 (by decide)) (fun c_7 => ?_)
        refine lv_iload_n hx hb d_Ke_writeJoins_12 rfl (lv_at hl 5 rfl) ?_
        refine lv_iload hx hb d_Ke_writeJoins_13 (lv_at hl 0 rfl) ?_
        refine lv_ishr hx hb d_Ke_writeJoins_15 ?_
        refine lv_iconst (v := 1) hx hb d_Ke_writeJoins_16 (by decide) ?_
        refine lv_iand hx hb d_Ke_writeJoins_17 ?_
        refine lv_if_eq (tgt := 38) hx hb d_Ke_writeJoins_18 (by decide) (fun c_8 => ?_) (fun c_8 => ?_)
        · refine lv_iinc (v := 4) (lv' := [(5, .int 4), (4, .int x_p0), (0, .ref h0), (1, .int x_p0), (2, .int x_p1), (3, .int x_p2)]) hx hb d_Ke_writeJoins_38 hl (k := 0) rfl (by decide) (by decide) rfl (fun ls hl => ?_)
          refine lv_goto (tgt := 6) hx hb d_Ke_writeJoins_41 (by decide) ?_
          refine lv_iload hx hb d_Ke_writeJoins_6 (lv_at hl 0 rfl) ?_
          refine lv_iconst (v := 4) hx hb d_Ke_writeJoins_8 (by decide) ?_
          refine lv_icmp_ge (tgt := 44) hx hb d_Ke_writeJoins_9 (by decide) (fun c_9 => ?_) (fun c_9 => absurd (by decide) c_9)
          refine lv_iload hx hb d_Ke_writeJoins_44 (lv_at hl 1 rfl) ?_
          have ef : (f_Ke_writeJoins g_code x_p0 x_p1 x_p2) = ((x_p0, g_code) : Int32 × (Nat → Int32)) := (if_pos c_2).trans ((if_pos c_4).trans ((if_pos c_6).trans ((if_pos c_8).trans rfl)))
          have hP9 := hP.sub (ws' := [(h0, .inr (1, [.ref a_code, .ref a_slots])), (a_code, .inl (cI, 162, .inl g_code))]) [0, 1] rfl
          have hD9 := hD.sub (ws' := [(h0, .inr (1, [.ref a_code, .ref a_slots])), (a_code, .inl (cI, 162, .inl g_code))]) [0, 1] (by decide) rfl
          exact W.iret (v := x_p0) hx hb hr (fun t ht hW => ⟨⟨x_p0, (), rfl, by rw [ef], by rw [ef, ht]; exact hP9, va_K.moved hW.alike hK, by rw [ef]; exact hD9⟩, hS.F ht⟩) hS.2.2 d_Ke_writeJoins_46
        · refine lv_aload_n hx hb d_Ke_writeJoins_21 rfl (lv_at hl 2 rfl) ?_
          refine va_get (D := (dC, dI)) (ci := 1) (v := .ref a_code) (C := "LabelledCore$Kernel") (T := T_Ke) (N := 2) hx hb hts in_Ke hown hK hP 0 rfl rfl 0 (by decide) (hts _ wm_110) (fun _ h9 => h9) rfl d_Ke_writeJoins_22 ?_
          refine lv_iload hx hb d_Ke_writeJoins_25 (lv_at hl 1 rfl) ?_
          refine lv_iconst (v := 1) hx hb d_Ke_writeJoins_27 (by decide) ?_
          refine lv_iload_n hx hb d_Ke_writeJoins_28 rfl (lv_at hl 4 rfl) ?_
          refine lv_iload hx hb d_Ke_writeJoins_29 (lv_at hl 0 rfl) ?_
          have hPc := hP.sub (ws' := []) [] rfl
          refine W.callR ((W.runS (As := [.int 1, .int x_p1, .int 3]) (rest := [.int x_p0, .ref a_code]) ⟨hx, hb, hml, hown, hts⟩ (ct_Ke_instruction l dC dI cI 1 x_p1 3) (va_cwS 3 hts (gS wm_196 wm_197 wm_39 wm_198) rfl rfl rfl (by decide +kernel) ⟨Nat.le_of_ble_eq_true rfl, Nat.le_of_ble_eq_true rfl⟩) ⟨pcR_blind, pcR_pre hPc hK⟩ rfl rfl hl.1 rfl (lv_room (Nat.le_of_ble_eq_true rfl)) d_Ke_writeJoins_31 ⟨Nat.le_of_ble_eq_true rfl, Nat.le_of_ble_eq_true rfl⟩)) ?_
          refine W.eq (g2 := F0 m 34 ls [.int (f_Ke_instruction 1 x_p1 3), .int x_p0, .ref a_code]) rfl ?_
          refine va_iast hx hb hK hP hD hS 1 0 rfl rfl (in_st0 hst) d_Ke_writeJoins_34 (fun H locs hP hD hS => ?_)
          have hP : va_P (dC, dI) clsL [(h0, .inr (1, [.ref a_code, .ref a_slots])), (a_code, .inl (cI, 162, .inl (upd g_code (Int32.toNatClampNeg x_p0) (f_Ke_instruction 1 x_p1 3))))] H := hP
          have hD : va_D A [(h0, .inr (1, [.ref a_code, .ref a_slots])), (a_code, .inl (cI, 162, .inl (upd g_code (Int32.toNatClampNeg x_p0) (f_Ke_instruction 1 x_p1 3))))] := hD
          refine lv_iinc (v := (x_p0 + 1)) (lv' := [(4, .int (x_p0 + 1)), (5, .int 3), (0, .ref h0), (1, .int x_p0), (2, .int x_p1), (3, .int x_p2)]) hx hb d_Ke_writeJoins_35 hl (k := 1) rfl rfl (by decide) rfl (fun ls hl => ?_)
          refine lv_iinc (v := 4) (lv' := [(5, .int 4), (4, .int (x_p0 + 1)), (0, .ref h0), (1, .int x_p0), (2, .int x_p1), (3, .int x_p2)]) hx hb d_Ke_writeJoins_38 hl (k := 1) rfl (by decide) (by decide) rfl (fun ls hl => ?_)
          refine lv_goto (tgt := 6) hx hb d_Ke_writeJoins_41 (by decide) ?_
          refine lv_iload hx hb d_Ke_writeJoins_6 (lv_at hl 0 rfl) ?_
          refine lv_iconst (v := 4) hx hb d_Ke_writeJoins_8 (by decide) ?_
          refine lv_icmp_ge (tgt := 44) hx hb d_Ke_writeJoins_9 (by decide) (fun c_10 => ?_) (fun c_10 => absurd (by decide) c_10)
          refine lv_iload hx hb d_Ke_writeJoins_44 (lv_at hl 1 rfl) ?_
          have ef : (f_Ke_writeJoins g_code x_p0 x_p1 x_p2) = (((x_p0 + 1), (upd g_code (Int32.toNatClampNeg x_p0) (f_Ke_instruction 1 x_p1 3))) : Int32 × (Nat → Int32)) := (if_pos c_2).trans ((if_pos c_4).trans ((if_pos c_6).trans ((if_neg c_8).trans rfl)))
          have hP9 := hP.sub (ws' := [(h0, .inr (1, [.ref a_code, .ref a_slots])), (a_code, .inl (cI, 162, .inl (upd g_code (Int32.toNatClampNeg x_p0) (f_Ke_instruction 1 x_p1 3))))]) [0, 1] rfl
          have hD9 := hD.sub (ws' := [(h0, .inr (1, [.ref a_code, .ref a_slots])), (a_code, .inl (cI, 162, .inl (upd g_code (Int32.toNatClampNeg x_p0) (f_Ke_instruction 1 x_p1 3))))]) [0, 1] (by decide) rfl
          exact W.iret (v := (x_p0 + 1)) hx hb hr (fun t ht hW => ⟨⟨(x_p0 + 1), (), rfl, by rw [ef], by rw [ef, ht]; exact hP9, va_K.moved hW.alike hK, by rw [ef]; exact hD9⟩, hS.F ht⟩) hS.2.2 d_Ke_writeJoins_46
      · refine lv_aload_n hx hb d_Ke_writeJoins_21 rfl (lv_at hl 2 rfl) ?_
        refine va_get (D := (dC, dI)) (ci := 1) (v := .ref a_code) (C := "LabelledCore$Kernel") (T := T_Ke) (N := 2) hx hb hts in_Ke hown hK hP 0 rfl rfl 0 (by decide) (hts _ wm_110) (fun _ h9 => h9) rfl d_Ke_writeJoins_22 ?_
        refine lv_iload hx hb d_Ke_writeJoins_25 (lv_at hl 1 rfl) ?_
        refine lv_iconst (v := 1) hx hb d_Ke_writeJoins_27 (by decide) ?_
        refine lv_iload_n hx hb d_Ke_writeJoins_28 rfl (lv_at hl 4 rfl) ?_
        refine lv_iload hx hb d_Ke_writeJoins_29 (lv_at hl 0 rfl) ?_
        have hPc := hP.sub (ws' := []) [] rfl
        refine W.callR ((W.runS (As := [.int 1, .int x_p1, .int 2]) (rest := [.int x_p0, .ref a_code]) ⟨hx, hb, hml, hown, hts⟩ (ct_Ke_instruction l dC dI cI 1 x_p1 2) (va_cwS 3 hts (gS wm_196 wm_197 wm_39 wm_198) rfl rfl rfl (by decide +kernel) ⟨Nat.le_of_ble_eq_true rfl, Nat.le_of_ble_eq_true rfl⟩) ⟨pcR_blind, pcR_pre hPc hK⟩ rfl rfl hl.1 rfl (lv_room (Nat.le_of_ble_eq_true rfl)) d_Ke_writeJoins_31 ⟨Nat.le_of_ble_eq_true rfl, Nat.le_of_ble_eq_true rfl⟩)) ?_
        refine W.eq (g2 := F0 m 34 ls [.int (f_Ke_instruction 1 x_p1 2), .int x_p0, .ref a_code]) rfl ?_
        refine va_iast hx hb hK hP hD hS 1 0 rfl rfl (in_st0 hst) d_Ke_writeJoins_34 (fun H locs hP hD hS => ?_)
        have hP : va_P (dC, dI) clsL [(h0, .inr (1, [.ref a_code, .ref a_slots])), (a_code, .inl (cI, 162, .inl (upd g_code (Int32.toNatClampNeg x_p0) (f_Ke_instruction 1 x_p1 2))))] H := hP
        have hD : va_D A [(h0, .inr (1, [.ref a_code, .ref a_slots])), (a_code, .inl (cI, 162, .inl (upd g_code (Int32.toNatClampNeg x_p0) (f_Ke_instruction 1 x_p1 2))))] := hD
        refine lv_iinc (v := (x_p0 + 1)) (lv' := [(4, .int (x_p0 + 1)), (5, .int 2), (0, .ref h0), (1, .int x_p0), (2, .int x_p1), (3, .int x_p2)]) hx hb d_Ke_writeJoins_35 hl (k := 1) rfl rfl (by decide) rfl (fun ls hl => ?_)
        refine lv_iinc (v := 3) (lv' := [(5, .int 3), (4, .int (x_p0 + 1)), (0, .ref h0), (1, .int x_p0), (2, .int x_p1), (3, .int x_p2)]) hx hb d_Ke_writeJoins_38 hl (k := 1) rfl (by decide) (by decide) rfl (fun ls hl => ?_)
        refine lv_goto (tgt := 6) hx hb d_Ke_writeJoins_41 (by decide) ?_
        refine lv_iload hx hb d_Ke_writeJoins_6 (lv_at hl 0 rfl) ?_
        refine lv_iconst (v := 4) hx hb d_Ke_writeJoins_8 (by decide) ?_
        refine lv_icmp_ge (tgt := 44) hx hb d_Ke_writeJoins_9 (by decide) (fun c_11 => absurd c_11 (by decide)) (fun c_11 => ?_)
        refine lv_iload_n hx hb d_Ke_writeJoins_12 rfl (lv_at hl 5 rfl) ?_
        refine lv_iload hx hb d_Ke_writeJoins_13 (lv_at hl 0 rfl) ?_
        refine lv_ishr hx hb d_Ke_writeJoins_15 ?_
        refine lv_iconst (v := 1) hx hb d_Ke_writeJoins_16 (by decide) ?_
        refine lv_iand hx hb d_Ke_writeJoins_17 ?_
        refine lv_if_eq (tgt := 38) hx hb d_Ke_writeJoins_18 (by decide) (fun c_12 => ?_) (fun c_12 => ?_)
        · refine lv_iinc (v := 4) (lv' := [(5, .int 4), (4, .int (x_p0 + 1)), (0, .ref h0), (1, .int x_p0), (2, .int x_p1), (3, .int x_p2)]) hx hb d_Ke_writeJoins_38 hl (k := 0) rfl (by decide) (by decide) rfl (fun ls hl => ?_)
          refine lv_goto (tgt := 6) hx hb d_Ke_writeJoins_41 (by decide) ?_
          refine lv_iload hx hb d_Ke_writeJoins_6 (lv_at hl 0 rfl) ?_
          refine lv_iconst (v := 4) hx hb d_Ke_writeJoins_8 (by decide) ?_
          refine lv_icmp_ge (tgt := 44) hx hb d_Ke_writeJoins_9 (by decide) (fun c_13 => ?_) (fun c_13 => absurd (by decide) c_13)
          refine lv_iload hx hb d_Ke_writeJoins_44 (lv_at hl 1 rfl) ?_
          have ef : (f_Ke_writeJoins g_code x_p0 x_p1 x_p2) = (((x_p0 + 1), (upd g_code (Int32.toNatClampNeg x_p0) (f_Ke_instruction 1 x_p1 2))) : Int32 × (Nat → Int32)) := (if_pos c_2).trans ((if_pos c_4).trans ((if_neg c_6).trans ((if_pos c_12).trans rfl)))
          have hP9 := hP.sub (ws' := [(h0, .inr (1, [.ref a_code, .ref a_slots])), (a_code, .inl (cI, 162, .inl (upd g_code (Int32.toNatClampNeg x_p0) (f_Ke_instruction 1 x_p1 2))))]) [0, 1] rfl
          have hD9 := hD.sub (ws' := [(h0, .inr (1, [.ref a_code, .ref a_slots])), (a_code, .inl (cI, 162, .inl (upd g_code (Int32.toNatClampNeg x_p0) (f_Ke_instruction 1 x_p1 2))))]) [0, 1] (by decide) rfl
          exact W.iret (v := (x_p0 + 1)) hx hb hr (fun t ht hW => ⟨⟨(x_p0 + 1), (), rfl, by rw [ef], by rw [ef, ht]; exact hP9, va_K.moved hW.alike hK, by rw [ef]; exact hD9⟩, hS.F ht⟩) hS.2.2 d_Ke_writeJoins_46
        · refine lv_aload_n hx hb d_Ke_writeJoins_21 rfl (lv_at hl 2 rfl) ?_
          refine va_get (D := (dC, dI)) (ci := 1) (v := .ref a_code) (C := "LabelledCore$Kernel") (T := T_Ke) (N := 2) hx hb hts in_Ke hown hK hP 0 rfl rfl 0 (by decide) (hts _ wm_110) (fun _ h9 => h9) rfl d_Ke_writeJoins_22 ?_
          refine lv_iload hx hb d_Ke_writeJoins_25 (lv_at hl 1 rfl) ?_
          refine lv_iconst (v := 1) hx hb d_Ke_writeJoins_27 (by decide) ?_
          refine lv_iload_n hx hb d_Ke_writeJoins_28 rfl (lv_at hl 4 rfl) ?_
          refine lv_iload hx hb d_Ke_writeJoins_29 (lv_at hl 0 rfl) ?_
          have hPc := hP.sub (ws' := []) [] rfl
          refine W.callR ((W.runS (As := [.int 1, .int x_p1, .int 3]) (rest := [.int (x_p0 + 1), .ref a_code]) ⟨hx, hb, hml, hown, hts⟩ (ct_Ke_instruction l dC dI cI 1 x_p1 3) (va_cwS 3 hts (gS wm_196 wm_197 wm_39 wm_198) rfl rfl rfl (by decide +kernel) ⟨Nat.le_of_ble_eq_true rfl, Nat.le_of_ble_eq_true rfl⟩) ⟨pcR_blind, pcR_pre hPc hK⟩ rfl rfl hl.1 rfl (lv_room (Nat.le_of_ble_eq_true rfl)) d_Ke_writeJoins_31 ⟨Nat.le_of_ble_eq_true rfl, Nat.le_of_ble_eq_true rfl⟩)) ?_
          refine W.eq (g2 := F0 m 34 ls [.int (f_Ke_instruction 1 x_p1 3), .int (x_p0 + 1), .ref a_code]) rfl ?_
          refine va_iast hx hb hK hP hD hS 1 0 rfl rfl (in_st1 hst) d_Ke_writeJoins_34 (fun H locs hP hD hS => ?_)
          have hP : va_P (dC, dI) clsL [(h0, .inr (1, [.ref a_code, .ref a_slots])), (a_code, .inl (cI, 162, .inl (upd (upd g_code (Int32.toNatClampNeg x_p0) (f_Ke_instruction 1 x_p1 2)) (Int32.toNatClampNeg (x_p0 + 1)) (f_Ke_instruction 1 x_p1 3))))] H := hP
          have hD : va_D A [(h0, .inr (1, [.ref a_code, .ref a_slots])), (a_code, .inl (cI, 162, .inl (upd (upd g_code (Int32.toNatClampNeg x_p0) (f_Ke_instruction 1 x_p1 2)) (Int32.toNatClampNeg (x_p0 + 1)) (f_Ke_instruction 1 x_p1 3))))] := hD
          refine lv_iinc (v := ((x_p0 + 1) + 1)) (lv' := [(4, .int ((x_p0 + 1) + 1)), (5, .int 3), (0, .ref h0), (1, .int x_p0), (2, .int x_p1), (3, .int x_p2)]) hx hb d_Ke_writeJoins_35 hl (k := 1) rfl rfl (by decide) rfl (fun ls hl => ?_)
          refine lv_iinc (v := 4) (lv' := [(5, .int 4), (4, .int ((x_p0 + 1) + 1)), (0, .ref h0), (1, .int x_p0), (2, .int x_p1), (3, .int x_p2)]) hx hb d_Ke_writeJoins_38 hl (k := 1) rfl (by decide) (by decide) rfl (fun ls hl => ?_)
          refine lv_goto (tgt := 6) hx hb d_Ke_writeJoins_41 (by decide) ?_
          refine lv_iload hx hb d_Ke_writeJoins_6 (lv_at hl 0 rfl) ?_
          refine lv_iconst (v := 4) hx hb d_Ke_writeJoins_8 (by decide) ?_
          refine lv_icmp_ge (tgt := 44) hx hb d_Ke_writeJoins_9 (by decide) (fun c_14 => ?_) (fun c_14 => absurd (by decide) c_14)
          refine lv_iload hx hb d_Ke_writeJoins_44 (lv_at hl 1 rfl) ?_
          have ef : (f_Ke_writeJoins g_code x_p0 x_p1 x_p2) = ((((x_p0 + 1) + 1), (upd (upd g_code (Int32.toNatClampNeg x_p0) (f_Ke_instruction 1 x_p1 2)) (Int32.toNatClampNeg (x_p0 + 1)) (f_Ke_instruction 1 x_p1 3))) : Int32 × (Nat → Int32)) := (if_pos c_2).trans ((if_pos c_4).trans ((if_neg c_6).trans ((if_neg c_12).trans rfl)))
          have hP9 := hP.sub (ws' := [(h0, .inr (1, [.ref a_code, .ref a_slots])), (a_code, .inl (cI, 162, .inl (upd (upd g_code (Int32.toNatClampNeg x_p0) (f_Ke_instruction 1 x_p1 2)) (Int32.toNatClampNeg (x_p0 + 1)) (f_Ke_instruction 1 x_p1 3))))]) [0, 1] rfl
          have hD9 := hD.sub (ws' := [(h0, .inr (1, [.ref a_code, .ref a_slots])), (a_code, .inl (cI, 162, .inl (upd (upd g_code (Int32.toNatClampNeg x_p0) (f_Ke_instruction 1 x_p1 2)) (Int32.toNatClampNeg (x_p0 + 1)) (f_Ke_instruction 1 x_p1 3))))]) [0, 1] (by decide) rfl
          exact W.iret (v := ((x_p0 + 1) + 1)) hx hb hr (fun t ht hW => ⟨⟨((x_p0 + 1) + 1), (), rfl, by rw [ef], by rw [ef, ht]; exact hP9, va_K.moved hW.alike hK, by rw [ef]; exact hD9⟩, hS.F ht⟩) hS.2.2 d_Ke_writeJoins_46
    · refine lv_aload_n hx hb d_Ke_writeJoins_21 rfl (lv_at hl 2 rfl) ?_
      refine va_get (D := (dC, dI)) (ci := 1) (v := .ref a_code) (C := "LabelledCore$Kernel") (T := T_Ke) (N := 2) hx hb hts in_Ke hown hK hP 0 rfl rfl 0 (by decide) (hts _ wm_110) (fun _ h9 => h9) rfl d_Ke_writeJoins_22 ?_
      refine lv_iload hx hb d_Ke_writeJoins_25 (lv_at hl 1 rfl) ?_
      refine lv_iconst (v := 1) hx hb d_Ke_writeJoins_27 (by decide) ?_
      refine lv_iload_n hx hb d_Ke_writeJoins_28 rfl (lv_at hl 4 rfl) ?_
      refine lv_iload hx hb d_Ke_writeJoins_29 (lv_at hl 0 rfl) ?_
      have hPc := hP.sub (ws' := []) [] rfl
      refine W.callR ((W.runS (As := [.int 1, .int x_p1, .int 1]) (rest := [.int x_p0, .ref a_code]) ⟨hx, hb, hml, hown, hts⟩ (ct_Ke_instruction l dC dI cI 1 x_p1 1) (va_cwS 3 hts (gS wm_196 wm_197 wm_39 wm_198) rfl rfl rfl (by decide +kernel) ⟨Nat.le_of_ble_eq_true rfl, Nat.le_of_ble_eq_true rfl⟩) ⟨pcR_blind, pcR_pre hPc hK⟩ rfl rfl hl.1 rfl (lv_room (Nat.le_of_ble_eq_true rfl)) d_Ke_writeJoins_31 ⟨Nat.le_of_ble_eq_true rfl, Nat.le_of_ble_eq_true rfl⟩)) ?_
      refine W.eq (g2 := F0 m 34 ls [.int (f_Ke_instruction 1 x_p1 1), .int x_p0, .ref a_code]) rfl ?_
      refine va_iast hx hb hK hP hD hS 1 0 rfl rfl (in_st0 hst) d_Ke_writeJoins_34 (fun H locs hP hD hS => ?_)
      have hP : va_P (dC, dI) clsL [(h0, .inr (1, [.ref a_code, .ref a_slots])), (a_code, .inl (cI, 162, .inl (upd g_code (Int32.toNatClampNeg x_p0) (f_Ke_instruction 1 x_p1 1))))] H := hP
      have hD : va_D A [(h0, .inr (1, [.ref a_code, .ref a_slots])), (a_code, .inl (cI, 162, .inl (upd g_code (Int32.toNatClampNeg x_p0) (f_Ke_instruction 1 x_p1 1))))] := hD
      refine lv_iinc (v := (x_p0 + 1)) (lv' := [(4, .int (x_p0 + 1)), (5, .int 1), (0, .ref h0), (1, .int x_p0), (2, .int x_p1), (3, .int x_p2)]) hx hb d_Ke_writeJoins_35 hl (k := 1) rfl rfl (by decide) rfl (fun ls hl => ?_)
      refine lv_iinc (v := 2) (lv' := [(5, .int 2), (4, .int (x_p0 + 1)), (0, .ref h0), (1, .int x_p0), (2, .int x_p1), (3, .int x_p2)]) hx hb d_Ke_writeJoins_38 hl (k := 1) rfl (by decide) (by decide) rfl (fun ls hl => ?_)
      refine lv_goto (tgt := 6) hx hb d_Ke_writeJoins_41 (by decide) ?_
      refine lv_iload hx hb d_Ke_writeJoins_6 (lv_at hl 0 rfl) ?_
      refine lv_iconst (v := 4) hx hb d_Ke_writeJoins_8 (by decide) ?_
      refine lv_icmp_ge (tgt := 44) hx hb d_Ke_writeJoins_9 (by decide) (fun c_15 => absurd c_15 (by decide)) (fun c_15 => ?_)
      refine lv_iload_n hx hb d_Ke_writeJoins_12 rfl (lv_at hl 5 rfl) ?_
      refine lv_iload hx hb d_Ke_writeJoins_13 (lv_at hl 0 rfl) ?_
      refine lv_ishr hx hb d_Ke_writeJoins_15 ?_
      refine lv_iconst (v := 1) hx hb d_Ke_writeJoins_16 (by decide) ?_
      refine lv_iand hx hb d_Ke_writeJoins_17 ?_
      refine lv_if_eq (tgt := 38) hx hb d_Ke_writeJoins_18 (by decide) (fun c_16 => ?_) (fun c_16 => ?_)
      · refine lv_iinc (v := 3) (lv' := [(5, .int 3), (4, .int (x_p0 + 1)), (0, .ref h0), (1, .int x_p0), (2, .int x_p1), (3, .int x_p2)]) hx hb d_Ke_writeJoins_38 hl (k := 0) rfl (by decide) (by decide) rfl (fun ls hl => ?_)
        refine lv_goto (tgt := 6) hx hb d_Ke_writeJoins_41 (by decide) ?_
        refine lv_iload hx hb d_Ke_writeJoins_6 (lv_at hl 0 rfl) ?_
        refine lv_iconst (v := 4) hx hb d_Ke_writeJoins_8 (by decide) ?_
        refine lv_icmp_ge (tgt := 44) hx hb d_Ke_writeJoins_9 (by decide) (fun c_17 => absurd c_17 (by decide)) (fun c_17 => ?_)
        refine lv_iload_n hx hb d_Ke_writeJoins_12 rfl (lv_at hl 5 rfl) ?_
        refine lv_iload hx hb d_Ke_writeJoins_13 (lv_at hl 0 rfl) ?_
        refine lv_ishr hx hb d_Ke_writeJoins_15 ?_
        refine lv_iconst (v := 1) hx hb d_Ke_writeJoins_16 (by decide) ?_
        refine lv_iand hx hb d_Ke_writeJoins_17 ?_
        refine lv_if_eq (tgt := 38) hx hb d_Ke_writeJoins_18 (by decide) (fun c_18 => ?_) (fun c_18 => ?_)
        · refine lv_iinc (v := 4) (lv' := [(5, .int 4), (4, .int (x_p0 + 1)), (0, .ref h0), (1, .int x_p0), (2, .int x_p1), (3, .int x_p2)]) hx hb d_Ke_writeJoins_38 hl (k := 0) rfl (by decide) (by decide) rfl (fun ls hl => ?_)
          refine lv_goto (tgt := 6) hx hb d_Ke_writeJoins_41 (by decide) ?_
          refine lv_iload hx hb d_Ke_writeJoins_6 (lv_at hl 0 rfl) ?_
          refine lv_iconst (v := 4) hx hb d_Ke_writeJoins_8 (by decide) ?_
          refine lv_icmp_ge (tgt := 44) hx hb d_Ke_writeJoins_9 (by decide) (fun c_19 => ?_) (fun c_19 => absurd (by decide) c_19)
          refine lv_iload hx hb d_Ke_writeJoins_44 (lv_at hl 1 rfl) ?_
          have ef : (f_Ke_writeJoins g_code x_p0 x_p1 x_p2) = (((x_p0 + 1), (upd g_code (Int32.toNatClampNeg x_p0) (f_Ke_instruction 1 x_p1 1))) : Int32 × (Nat → Int32)) := (if_pos c_2).trans ((if_neg c_4).trans ((if_pos c_16).trans ((if_pos c_18).trans rfl)))
          have hP9 := hP.sub (ws' := [(h0, .inr (1, [.ref a_code, .ref a_slots])), (a_code, .inl (cI, 162, .inl (upd g_code (Int32.toNatClampNeg x_p0) (f_Ke_instruction 1 x_p1 1))))]) [0, 1] rfl
          have hD9 := hD.sub (ws' := [(h0, .inr (1, [.ref a_code, .ref a_slots])), (a_code, .inl (cI, 162, .inl (upd g_code (Int32.toNatClampNeg x_p0) (f_Ke_instruction 1 x_p1 1))))]) [0, 1] (by decide) rfl
          exact W.iret (v := (x_p0 + 1)) hx hb hr (fun t ht hW => ⟨⟨(x_p0 + 1), (), rfl, by rw [ef], by rw [ef, ht]; exact hP9, va_K.moved hW.alike hK, by rw [ef]; exact hD9⟩, hS.F ht⟩) hS.2.2 d_Ke_writeJoins_46
        · refine lv_aload_n hx hb d_Ke_writeJoins_21 rfl (lv_at hl 2 rfl) ?_
          refine va_get (D := (dC, dI)) (ci := 1) (v := .ref a_code) (C := "LabelledCore$Kernel") (T := T_Ke) (N := 2) hx hb hts in_Ke hown hK hP 0 rfl rfl 0 (by decide) (hts _ wm_110) (fun _ h9 => h9) rfl d_Ke_writeJoins_22 ?_
          refine lv_iload hx hb d_Ke_writeJoins_25 (lv_at hl 1 rfl) ?_
          refine lv_iconst (v := 1) hx hb d_Ke_writeJoins_27 (by decide) ?_
          refine lv_iload_n hx hb d_Ke_writeJoins_28 rfl (lv_at hl 4 rfl) ?_
          refine lv_iload hx hb d_Ke_writeJoins_29 (lv_at hl 0 rfl) ?_
          have hPc := hP.sub (ws' := []) [] rfl
          refine W.callR ((W.runS (As := [.int 1, .int x_p1, .int 3]) (rest := [.int (x_p0 + 1), .ref a_code]) ⟨hx, hb, hml, hown, hts⟩ (ct_Ke_instruction l dC dI cI 1 x_p1 3) (va_cwS 3 hts (gS wm_196 wm_197 wm_39 wm_198) rfl rfl rfl (by decide +kernel) ⟨Nat.le_of_ble_eq_true rfl, Nat.le_of_ble_eq_true rfl⟩) ⟨pcR_blind, pcR_pre hPc hK⟩ rfl rfl hl.1 rfl (lv_room (Nat.le_of_ble_eq_true rfl)) d_Ke_writeJoins_31 ⟨Nat.le_of_ble_eq_true rfl, Nat.le_of_ble_eq_true rfl⟩)) ?_
          refine W.eq (g2 := F0 m 34 ls [.int (f_Ke_instruction 1 x_p1 3), .int (x_p0 + 1), .ref a_code]) rfl ?_
          refine va_iast hx hb hK hP hD hS 1 0 rfl rfl (in_st1 hst) d_Ke_writeJoins_34 (fun H locs hP hD hS => ?_)
          have hP : va_P (dC, dI) clsL [(h0, .inr (1, [.ref a_code, .ref a_slots])), (a_code, .inl (cI, 162, .inl (upd (upd g_code (Int32.toNatClampNeg x_p0) (f_Ke_instruction 1 x_p1 1)) (Int32.toNatClampNeg (x_p0 + 1)) (f_Ke_instruction 1 x_p1 3))))] H := hP
          have hD : va_D A [(h0, .inr (1, [.ref a_code, .ref a_slots])), (a_code, .inl (cI, 162, .inl (upd (upd g_code (Int32.toNatClampNeg x_p0) (f_Ke_instruction 1 x_p1 1)) (Int32.toNatClampNeg (x_p0 + 1)) (f_Ke_instruction 1 x_p1 3))))] := hD
          refine lv_iinc (v := ((x_p0 + 1) + 1)) (lv' := [(4, .int ((x_p0 + 1) + 1)), (5, .int 3), (0, .ref h0), (1, .int x_p0), (2, .int x_p1), (3, .int x_p2)]) hx hb d_Ke_writeJoins_35 hl (k := 1) rfl rfl (by decide) rfl (fun ls hl => ?_)
          refine lv_iinc (v := 4) (lv' := [(5, .int 4), (4, .int ((x_p0 + 1) + 1)), (0, .ref h0), (1, .int x_p0), (2, .int x_p1), (3, .int x_p2)]) hx hb d_Ke_writeJoins_38 hl (k := 1) rfl (by decide) (by decide) rfl (fun ls hl => ?_)
          refine lv_goto (tgt := 6) hx hb d_Ke_writeJoins_41 (by decide) ?_
          refine lv_iload hx hb d_Ke_writeJoins_6 (lv_at hl 0 rfl) ?_
          refine lv_iconst (v := 4) hx hb d_Ke_writeJoins_8 (by decide) ?_
          refine lv_icmp_ge (tgt := 44) hx hb d_Ke_writeJoins_9 (by decide) (fun c_20 => ?_) (fun c_20 => absurd (by decide) c_20)
          refine lv_iload hx hb d_Ke_writeJoins_44 (lv_at hl 1 rfl) ?_
          have ef : (f_Ke_writeJoins g_code x_p0 x_p1 x_p2) = ((((x_p0 + 1) + 1), (upd (upd g_code (Int32.toNatClampNeg x_p0) (f_Ke_instruction 1 x_p1 1)) (Int32.toNatClampNeg (x_p0 + 1)) (f_Ke_instruction 1 x_p1 3))) : Int32 × (Nat → Int32)) := (if_pos c_2).trans ((if_neg c_4).trans ((if_pos c_16).trans ((if_neg c_18).trans rfl)))
          have hP9 := hP.sub (ws' := [(h0, .inr (1, [.ref a_code, .ref a_slots])), (a_code, .inl (cI, 162, .inl (upd (upd g_code (Int32.toNatClampNeg x_p0) (f_Ke_instruction 1 x_p1 1)) (Int32.toNatClampNeg (x_p0 + 1)) (f_Ke_instruction 1 x_p1 3))))]) [0, 1] rfl
          have hD9 := hD.sub (ws' := [(h0, .inr (1, [.ref a_code, .ref a_slots])), (a_code, .inl (cI, 162, .inl (upd (upd g_code (Int32.toNatClampNeg x_p0) (f_Ke_instruction 1 x_p1 1)) (Int32.toNatClampNeg (x_p0 + 1)) (f_Ke_instruction 1 x_p1 3))))]) [0, 1] (by decide) rfl
          exact W.iret (v := ((x_p0 + 1) + 1)) hx hb hr (fun t ht hW => ⟨⟨((x_p0 + 1) + 1), (), rfl, by rw [ef], by rw [ef, ht]; exact hP9, va_K.moved hW.alike hK, by rw [ef]; exact hD9⟩, hS.F ht⟩) hS.2.2 d_Ke_writeJoins_46
      · refine lv_aload_n hx hb d_Ke_writeJoins_21 rfl (lv_at hl 2 rfl) ?_
        refine va_get (D := (dC, dI)) (ci := 1) (v := .ref a_code) (C := "LabelledCore$Kernel") (T := T_Ke) (N := 2) hx hb hts in_Ke hown hK hP 0 rfl rfl 0 (by decide) (hts _ wm_110) (fun _ h9 => h9) rfl d_Ke_writeJoins_22 ?_
        refine lv_iload hx hb d_Ke_writeJoins_25 (lv_at hl 1 rfl) ?_
        refine lv_iconst (v := 1) hx hb d_Ke_writeJoins_27 (by decide) ?_
        refine lv_iload_n hx hb d_Ke_writeJoins_28 rfl (lv_at hl 4 rfl) ?_
        refine lv_iload hx hb d_Ke_writeJoins_29 (lv_at hl 0 rfl) ?_
        have hPc := hP.sub (ws' := []) [] rfl
        refine W.callR ((W.runS (As := [.int 1, .int x_p1, .int 2]) (rest := [.int (x_p0 + 1), .ref a_code]) ⟨hx, hb, hml, hown, hts⟩ (ct_Ke_instruction l dC dI cI 1 x_p1 2) (va_cwS 3 hts (gS wm_196 wm_197 wm_39 wm_198) rfl rfl rfl (by decide +kernel) ⟨Nat.le_of_ble_eq_true rfl, Nat.le_of_ble_eq_true rfl⟩) ⟨pcR_blind, pcR_pre hPc hK⟩ rfl rfl hl.1 rfl (lv_room (Nat.le_of_ble_eq_true rfl)) d_Ke_writeJoins_31 ⟨Nat.le_of_ble_eq_true rfl, Nat.le_of_ble_eq_true rfl⟩)) ?_
        refine W.eq (g2 := F0 m 34 ls [.int (f_Ke_instruction 1 x_p1 2), .int (x_p0 + 1), .ref a_code]) rfl ?_
        refine va_iast hx hb hK hP hD hS 1 0 rfl rfl (in_st1 hst) d_Ke_writeJoins_34 (fun H locs hP hD hS => ?_)
        have hP : va_P (dC, dI) clsL [(h0, .inr (1, [.ref a_code, .ref a_slots])), (a_code, .inl (cI, 162, .inl (upd (upd g_code (Int32.toNatClampNeg x_p0) (f_Ke_instruction 1 x_p1 1)) (Int32.toNatClampNeg (x_p0 + 1)) (f_Ke_instruction 1 x_p1 2))))] H := hP
        have hD : va_D A [(h0, .inr (1, [.ref a_code, .ref a_slots])), (a_code, .inl (cI, 162, .inl (upd (upd g_code (Int32.toNatClampNeg x_p0) (f_Ke_instruction 1 x_p1 1)) (Int32.toNatClampNeg (x_p0 + 1)) (f_Ke_instruction 1 x_p1 2))))] := hD
        refine lv_iinc (v := ((x_p0 + 1) + 1)) (lv' := [(4, .int ((x_p0 + 1) + 1)), (5, .int 2), (0, .ref h0), (1, .int x_p0), (2, .int x_p1), (3, .int x_p2)]) hx hb d_Ke_writeJoins_35 hl (k := 1) rfl rfl (by decide) rfl (fun ls hl => ?_)
        refine lv_iinc (v := 3) (lv' := [(5, .int 3), (4, .int ((x_p0 + 1) + 1)), (0, .ref h0), (1, .int x_p0), (2, .int x_p1), (3, .int x_p2)]) hx hb d_Ke_writeJoins_38 hl (k := 1) rfl (by decide) (by decide) rfl (fun ls hl => ?_)
        refine lv_goto (tgt := 6) hx hb d_Ke_writeJoins_41 (by decide) ?_
        refine lv_iload hx hb d_Ke_writeJoins_6 (lv_at hl 0 rfl) ?_
        refine lv_iconst (v := 4) hx hb d_Ke_writeJoins_8 (by decide) ?_
        refine lv_icmp_ge (tgt := 44) hx hb d_Ke_writeJoins_9 (by decide) (fun c_21 => absurd c_21 (by decide)) (fun c_21 => ?_)
        refine lv_iload_n hx hb d_Ke_writeJoins_12 rfl (lv_at hl 5 rfl) ?_
        refine lv_iload hx hb d_Ke_writeJoins_13 (lv_at hl 0 rfl) ?_
        refine lv_ishr hx hb d_Ke_writeJoins_15 ?_
        refine lv_iconst (v := 1) hx hb d_Ke_writeJoins_16 (by decide) ?_
        refine lv_iand hx hb d_Ke_writeJoins_17 ?_
        refine lv_if_eq (tgt := 38) hx hb d_Ke_writeJoins_18 (by decide) (fun c_22 => ?_) (fun c_22 => ?_)
        · refine lv_iinc (v := 4) (lv' := [(5, .int 4), (4, .int ((x_p0 + 1) + 1)), (0, .ref h0), (1, .int x_p0), (2, .int x_p1), (3, .int x_p2)]) hx hb d_Ke_writeJoins_38 hl (k := 0) rfl (by decide) (by decide) rfl (fun ls hl => ?_)
          refine lv_goto (tgt := 6) hx hb d_Ke_writeJoins_41 (by decide) ?_
          refine lv_iload hx hb d_Ke_writeJoins_6 (lv_at hl 0 rfl) ?_
          refine lv_iconst (v := 4) hx hb d_Ke_writeJoins_8 (by decide) ?_
          refine lv_icmp_ge (tgt := 44) hx hb d_Ke_writeJoins_9 (by decide) (fun c_23 => ?_) (fun c_23 => absurd (by decide) c_23)
          refine lv_iload hx hb d_Ke_writeJoins_44 (lv_at hl 1 rfl) ?_
          have ef : (f_Ke_writeJoins g_code x_p0 x_p1 x_p2) = ((((x_p0 + 1) + 1), (upd (upd g_code (Int32.toNatClampNeg x_p0) (f_Ke_instruction 1 x_p1 1)) (Int32.toNatClampNeg (x_p0 + 1)) (f_Ke_instruction 1 x_p1 2))) : Int32 × (Nat → Int32)) := (if_pos c_2).trans ((if_neg c_4).trans ((if_neg c_16).trans ((if_pos c_22).trans rfl)))
          have hP9 := hP.sub (ws' := [(h0, .inr (1, [.ref a_code, .ref a_slots])), (a_code, .inl (cI, 162, .inl (upd (upd g_code (Int32.toNatClampNeg x_p0) (f_Ke_instruction 1 x_p1 1)) (Int32.toNatClampNeg (x_p0 + 1)) (f_Ke_instruction 1 x_p1 2))))]) [0, 1] rfl
          have hD9 := hD.sub (ws' := [(h0, .inr (1, [.ref a_code, .ref a_slots])), (a_code, .inl (cI, 162, .inl (upd (upd g_code (Int32.toNatClampNeg x_p0) (f_Ke_instruction 1 x_p1 1)) (Int32.toNatClampNeg (x_p0 + 1)) (f_Ke_instruction 1 x_p1 2))))]) [0, 1] (by decide) rfl
          exact W.iret (v := ((x_p0 + 1) + 1)) hx hb hr (fun t ht hW => ⟨⟨((x_p0 + 1) + 1), (), rfl, by rw [ef], by rw [ef, ht]; exact hP9, va_K.moved hW.alike hK, by rw [ef]; exact hD9⟩, hS.F ht⟩) hS.2.2 d_Ke_writeJoins_46
        · refine lv_aload_n hx hb d_Ke_writeJoins_21 rfl (lv_at hl 2 rfl) ?_
          refine va_get (D := (dC, dI)) (ci := 1) (v := .ref a_code) (C := "LabelledCore$Kernel") (T := T_Ke) (N := 2) hx hb hts in_Ke hown hK hP 0 rfl rfl 0 (by decide) (hts _ wm_110) (fun _ h9 => h9) rfl d_Ke_writeJoins_22 ?_
          refine lv_iload hx hb d_Ke_writeJoins_25 (lv_at hl 1 rfl) ?_
          refine lv_iconst (v := 1) hx hb d_Ke_writeJoins_27 (by decide) ?_
          refine lv_iload_n hx hb d_Ke_writeJoins_28 rfl (lv_at hl 4 rfl) ?_
          refine lv_iload hx hb d_Ke_writeJoins_29 (lv_at hl 0 rfl) ?_
          have hPc := hP.sub (ws' := []) [] rfl
          refine W.callR ((W.runS (As := [.int 1, .int x_p1, .int 3]) (rest := [.int ((x_p0 + 1) + 1), .ref a_code]) ⟨hx, hb, hml, hown, hts⟩ (ct_Ke_instruction l dC dI cI 1 x_p1 3) (va_cwS 3 hts (gS wm_196 wm_197 wm_39 wm_198) rfl rfl rfl (by decide +kernel) ⟨Nat.le_of_ble_eq_true rfl, Nat.le_of_ble_eq_true rfl⟩) ⟨pcR_blind, pcR_pre hPc hK⟩ rfl rfl hl.1 rfl (lv_room (Nat.le_of_ble_eq_true rfl)) d_Ke_writeJoins_31 ⟨Nat.le_of_ble_eq_true rfl, Nat.le_of_ble_eq_true rfl⟩)) ?_
          refine W.eq (g2 := F0 m 34 ls [.int (f_Ke_instruction 1 x_p1 3), .int ((x_p0 + 1) + 1), .ref a_code]) rfl ?_
          refine va_iast hx hb hK hP hD hS 1 0 rfl rfl (in_st2 hst) d_Ke_writeJoins_34 (fun H locs hP hD hS => ?_)
          have hP : va_P (dC, dI) clsL [(h0, .inr (1, [.ref a_code, .ref a_slots])), (a_code, .inl (cI, 162, .inl (upd (upd (upd g_code (Int32.toNatClampNeg x_p0) (f_Ke_instruction 1 x_p1 1)) (Int32.toNatClampNeg (x_p0 + 1)) (f_Ke_instruction 1 x_p1 2)) (Int32.toNatClampNeg ((x_p0 + 1) + 1)) (f_Ke_instruction 1 x_p1 3))))] H := hP
          have hD : va_D A [(h0, .inr (1, [.ref a_code, .ref a_slots])), (a_code, .inl (cI, 162, .inl (upd (upd (upd g_code (Int32.toNatClampNeg x_p0) (f_Ke_instruction 1 x_p1 1)) (Int32.toNatClampNeg (x_p0 + 1)) (f_Ke_instruction 1 x_p1 2)) (Int32.toNatClampNeg ((x_p0 + 1) + 1)) (f_Ke_instruction 1 x_p1 3))))] := hD
          refine lv_iinc (v := (((x_p0 + 1) + 1) + 1)) (lv' := [(4, .int (((x_p0 + 1) + 1) + 1)), (5, .int 3), (0, .ref h0), (1, .int x_p0), (2, .int x_p1), (3, .int x_p2)]) hx hb d_Ke_writeJoins_35 hl (k := 1) rfl rfl (by decide) rfl (fun ls hl => ?_)
          refine lv_iinc (v := 4) (lv' := [(5, .int 4), (4, .int (((x_p0 + 1) + 1) + 1)), (0, .ref h0), (1, .int x_p0), (2, .int x_p1), (3, .int x_p2)]) hx hb d_Ke_writeJoins_38 hl (k := 1) rfl (by decide) (by decide) rfl (fun ls hl => ?_)
          refine lv_goto (tgt := 6) hx hb d_Ke_writeJoins_41 (by decide) ?_
          refine lv_iload hx hb d_Ke_writeJoins_6 (lv_at hl 0 rfl) ?_
          refine lv_iconst (v := 4) hx hb d_Ke_writeJoins_8 (by decide) ?_
          refine lv_icmp_ge (tgt := 44) hx hb d_Ke_writeJoins_9 (by decide) (fun c_24 => ?_) (fun c_24 => absurd (by decide) c_24)
          refine lv_iload hx hb d_Ke_writeJoins_44 (lv_at hl 1 rfl) ?_
          have ef : (f_Ke_writeJoins g_code x_p0 x_p1 x_p2) = (((((x_p0 + 1) + 1) + 1), (upd (upd (upd g_code (Int32.toNatClampNeg x_p0) (f_Ke_instruction 1 x_p1 1)) (Int32.toNatClampNeg (x_p0 + 1)) (f_Ke_instruction 1 x_p1 2)) (Int32.toNatClampNeg ((x_p0 + 1) + 1)) (f_Ke_instruction 1 x_p1 3))) : Int32 × (Nat → Int32)) := (if_pos c_2).trans ((if_neg c_4).trans ((if_neg c_16).trans ((if_neg c_22).trans rfl)))
          have hP9 := hP.sub (ws' := [(h0, .inr (1, [.ref a_code, .ref a_slots])), (a_code, .inl (cI, 162, .inl (upd (upd (upd g_code (Int32.toNatClampNeg x_p0) (f_Ke_instruction 1 x_p1 1)) (Int32.toNatClampNeg (x_p0 + 1)) (f_Ke_instruction 1 x_p1 2)) (Int32.toNatClampNeg ((x_p0 + 1) + 1)) (f_Ke_instruction 1 x_p1 3))))]) [0, 1] rfl
          have hD9 := hD.sub (ws' := [(h0, .inr (1, [.ref a_code, .ref a_slots])), (a_code, .inl (cI, 162, .inl (upd (upd (upd g_code (Int32.toNatClampNeg x_p0) (f_Ke_instruction 1 x_p1 1)) (Int32.toNatClampNeg (x_p0 + 1)) (f_Ke_instruction 1 x_p1 2)) (Int32.toNatClampNeg ((x_p0 + 1) + 1)) (f_Ke_instruction 1 x_p1 3))))]) [0, 1] (by decide) rfl
          exact W.iret (v := (((x_p0 + 1) + 1) + 1)) hx hb hr (fun t ht hW => ⟨⟨(((x_p0 + 1) + 1) + 1), (), rfl, by rw [ef], by rw [ef, ht]; exact hP9, va_K.moved hW.alike hK, by rw [ef]; exact hD9⟩, hS.F ht⟩) hS.2.2 d_Ke_writeJoins_46
  · refine lv_aload_n hx hb d_Ke_writeJoins_21 rfl (lv_at hl 2 rfl) ?_
    refine va_get (D := (dC, dI)) (ci := 1) (v := .ref a_code) (C := "LabelledCore$Kernel") (T := T_Ke) (N := 2) hx hb hts in_Ke hown hK hP 0 rfl rfl 0 (by decide) (hts _ wm_110) (fun _ h9 => h9) rfl d_Ke_writeJoins_22 ?_
    refine lv_iload hx hb d_Ke_writeJoins_25 (lv_at hl 1 rfl) ?_
    refine lv_iconst (v := 1) hx hb d_Ke_writeJoins_27 (by decide) ?_
    refine lv_iload_n hx hb d_Ke_writeJoins_28 rfl (lv_at hl 4 rfl) ?_
    refine lv_iload hx hb d_Ke_writeJoins_29 (lv_at hl 0 rfl) ?_
    have hPc := hP.sub (ws' := []) [] rfl
    refine W.callR ((W.runS (As := [.int 1, .int x_p1, .int 0]) (rest := [.int x_p0, .ref a_code]) ⟨hx, hb, hml, hown, hts⟩ (ct_Ke_instruction l dC dI cI 1 x_p1 0) (va_cwS 3 hts (gS wm_196 wm_197 wm_39 wm_198) rfl rfl rfl (by decide +kernel) ⟨Nat.le_of_ble_eq_true rfl, Nat.le_of_ble_eq_true rfl⟩) ⟨pcR_blind, pcR_pre hPc hK⟩ rfl rfl hl.1 rfl (lv_room (Nat.le_of_ble_eq_true rfl)) d_Ke_writeJoins_31 ⟨Nat.le_of_ble_eq_true rfl, Nat.le_of_ble_eq_true rfl⟩)) ?_
    refine W.eq (g2 := F0 m 34 ls [.int (f_Ke_instruction 1 x_p1 0), .int x_p0, .ref a_code]) rfl ?_
    refine va_iast hx hb hK hP hD hS 1 0 rfl rfl (in_st0 hst) d_Ke_writeJoins_34 (fun H locs hP hD hS => ?_)
    have hP : va_P (dC, dI) clsL [(h0, .inr (1, [.ref a_code, .ref a_slots])), (a_code, .inl (cI, 162, .inl (upd g_code (Int32.toNatClampNeg x_p0) (f_Ke_instruction 1 x_p1 0))))] H := hP
    have hD : va_D A [(h0, .inr (1, [.ref a_code, .ref a_slots])), (a_code, .inl (cI, 162, .inl (upd g_code (Int32.toNatClampNeg x_p0) (f_Ke_instruction 1 x_p1 0))))] := hD
    refine lv_iinc (v := (x_p0 + 1)) (lv' := [(4, .int (x_p0 + 1)), (5, .int 0), (0, .ref h0), (1, .int x_p0), (2, .int x_p1), (3, .int x_p2)]) hx hb d_Ke_writeJoins_35 hl (k := 1) rfl rfl (by decide) rfl (fun ls hl => ?_)
    refine lv_iinc (v := 1) (lv' := [(5, .int 1), (4, .int (x_p0 + 1)), (0, .ref h0), (1, .int x_p0), (2, .int x_p1), (3, .int x_p2)]) hx hb d_Ke_writeJoins_38 hl (k := 1) rfl (by decide) (by decide) rfl (fun ls hl => ?_)
    refine lv_goto (tgt := 6) hx hb d_Ke_writeJoins_41 (by decide) ?_
    refine lv_iload hx hb d_Ke_writeJoins_6 (lv_at hl 0 rfl) ?_
    refine lv_iconst (v := 4) hx hb d_Ke_writeJoins_8 (by decide) ?_
    refine lv_icmp_ge (tgt := 44) hx hb d_Ke_writeJoins_9 (by decide) (fun c_25 => absurd c_25 (by decide)) (fun c_25 => ?_)
    refine lv_iload_n hx hb d_Ke_writeJoins_12 rfl (lv_at hl 5 rfl) ?_
    refine lv_iload hx hb d_Ke_writeJoins_13 (lv_at hl 0 rfl) ?_
    refine lv_ishr hx hb d_Ke_writeJoins_15 ?_
    refine lv_iconst (v := 1) hx hb d_Ke_writeJoins_16 (by decide) ?_
    refine lv_iand hx hb d_Ke_writeJoins_17 ?_
    refine lv_if_eq (tgt := 38) hx hb d_Ke_writeJoins_18 (by decide) (fun c_26 => ?_) (fun c_26 => ?_)
    · refine lv_iinc (v := 2) (lv' := [(5, .int 2), (4, .int (x_p0 + 1)), (0, .ref h0), (1, .int x_p0), (2, .int x_p1), (3, .int x_p2)]) hx hb d_Ke_writeJoins_38 hl (k := 0) rfl (by decide) (by decide) rfl (fun ls hl => ?_)
      refine lv_goto (tgt := 6) hx hb d_Ke_writeJoins_41 (by decide) ?_
      refine lv_iload hx hb d_Ke_writeJoins_6 (lv_at hl 0 rfl) ?_
      refine lv_iconst (v := 4) hx hb d_Ke_writeJoins_8 (by decide) ?_
      refine lv_icmp_ge (tgt := 44) hx hb d_Ke_writeJoins_9 (by decide) (fun c_27 => absurd c_27 (by decide)) (fun c_27 => ?_)
      refine lv_iload_n hx hb d_Ke_writeJoins_12 rfl (lv_at hl 5 rfl) ?_
      refine lv_iload hx hb d_Ke_writeJoins_13 (lv_at hl 0 rfl) ?_
      refine lv_ishr hx hb d_Ke_writeJoins_15 ?_
      refine lv_iconst (v := 1) hx hb d_Ke_writeJoins_16 (by decide) ?_
      refine lv_iand hx hb d_Ke_writeJoins_17 ?_
      refine lv_if_eq (tgt := 38) hx hb d_Ke_writeJoins_18 (by decide) (fun c_28 => ?_) (fun c_28 => ?_)
      · refine lv_iinc (v := 3) (lv' := [(5, .int 3), (4, .int (x_p0 + 1)), (0, .ref h0), (1, .int x_p0), (2, .int x_p1), (3, .int x_p2)]) hx hb d_Ke_writeJoins_38 hl (k := 0) rfl (by decide) (by decide) rfl (fun ls hl => ?_)
        refine lv_goto (tgt := 6) hx hb d_Ke_writeJoins_41 (by decide) ?_
        refine lv_iload hx hb d_Ke_writeJoins_6 (lv_at hl 0 rfl) ?_
        refine lv_iconst (v := 4) hx hb d_Ke_writeJoins_8 (by decide) ?_
        refine lv_icmp_ge (tgt := 44) hx hb d_Ke_writeJoins_9 (by decide) (fun c_29 => absurd c_29 (by decide)) (fun c_29 => ?_)
        refine lv_iload_n hx hb d_Ke_writeJoins_12 rfl (lv_at hl 5 rfl) ?_
        refine lv_iload hx hb d_Ke_writeJoins_13 (lv_at hl 0 rfl) ?_
        refine lv_ishr hx hb d_Ke_writeJoins_15 ?_
        refine lv_iconst (v := 1) hx hb d_Ke_writeJoins_16 (by decide) ?_
        refine lv_iand hx hb d_Ke_writeJoins_17 ?_
        refine lv_if_eq (tgt := 38) hx hb d_Ke_writeJoins_18 (by decide) (fun c_30 => ?_) (fun c_30 => ?_)
        · refine lv_iinc (v := 4) (lv' := [(5, .int 4), (4, .int (x_p0 + 1)), (0, .ref h0), (1, .int x_p0), (2, .int x_p1), (3, .int x_p2)]) hx hb d_Ke_writeJoins_38 hl (k := 0) rfl (by decide) (by decide) rfl (fun ls hl => ?_)
          refine lv_goto (tgt := 6) hx hb d_Ke_writeJoins_41 (by decide) ?_
          refine lv_iload hx hb d_Ke_writeJoins_6 (lv_at hl 0 rfl) ?_
          refine lv_iconst (v := 4) hx hb d_Ke_writeJoins_8 (by decide) ?_
          refine lv_icmp_ge (tgt := 44) hx hb d_Ke_writeJoins_9 (by decide) (fun c_31 => ?_) (fun c_31 => absurd (by decide) c_31)
          refine lv_iload hx hb d_Ke_writeJoins_44 (lv_at hl 1 rfl) ?_
          have ef : (f_Ke_writeJoins g_code x_p0 x_p1 x_p2) = (((x_p0 + 1), (upd g_code (Int32.toNatClampNeg x_p0) (f_Ke_instruction 1 x_p1 0))) : Int32 × (Nat → Int32)) := (if_neg c_2).trans ((if_pos c_26).trans ((if_pos c_28).trans ((if_pos c_30).trans rfl)))
          have hP9 := hP.sub (ws' := [(h0, .inr (1, [.ref a_code, .ref a_slots])), (a_code, .inl (cI, 162, .inl (upd g_code (Int32.toNatClampNeg x_p0) (f_Ke_instruction 1 x_p1 0))))]) [0, 1] rfl
          have hD9 := hD.sub (ws' := [(h0, .inr (1, [.ref a_code, .ref a_slots])), (a_code, .inl (cI, 162, .inl (upd g_code (Int32.toNatClampNeg x_p0) (f_Ke_instruction 1 x_p1 0))))]) [0, 1] (by decide) rfl
          exact W.iret (v := (x_p0 + 1)) hx hb hr (fun t ht hW => ⟨⟨(x_p0 + 1), (), rfl, by rw [ef], by rw [ef, ht]; exact hP9, va_K.moved hW.alike hK, by rw [ef]; exact hD9⟩, hS.F ht⟩) hS.2.2 d_Ke_writeJoins_46
        · refine lv_aload_n hx hb d_Ke_writeJoins_21 rfl (lv_at hl 2 rfl) ?_
          refine va_get (D := (dC, dI)) (ci := 1) (v := .ref a_code) (C := "LabelledCore$Kernel") (T := T_Ke) (N := 2) hx hb hts in_Ke hown hK hP 0 rfl rfl 0 (by decide) (hts _ wm_110) (fun _ h9 => h9) rfl d_Ke_writeJoins_22 ?_
          refine lv_iload hx hb d_Ke_writeJoins_25 (lv_at hl 1 rfl) ?_
          refine lv_iconst (v := 1) hx hb d_Ke_writeJoins_27 (by decide) ?_
          refine lv_iload_n hx hb d_Ke_writeJoins_28 rfl (lv_at hl 4 rfl) ?_
          refine lv_iload hx hb d_Ke_writeJoins_29 (lv_at hl 0 rfl) ?_
          have hPc := hP.sub (ws' := []) [] rfl
          refine W.callR ((W.runS (As := [.int 1, .int x_p1, .int 3]) (rest := [.int (x_p0 + 1), .ref a_code]) ⟨hx, hb, hml, hown, hts⟩ (ct_Ke_instruction l dC dI cI 1 x_p1 3) (va_cwS 3 hts (gS wm_196 wm_197 wm_39 wm_198) rfl rfl rfl (by decide +kernel) ⟨Nat.le_of_ble_eq_true rfl, Nat.le_of_ble_eq_true rfl⟩) ⟨pcR_blind, pcR_pre hPc hK⟩ rfl rfl hl.1 rfl (lv_room (Nat.le_of_ble_eq_true rfl)) d_Ke_writeJoins_31 ⟨Nat.le_of_ble_eq_true rfl, Nat.le_of_ble_eq_true rfl⟩)) ?_
          refine W.eq (g2 := F0 m 34 ls [.int (f_Ke_instruction 1 x_p1 3), .int (x_p0 + 1), .ref a_code]) rfl ?_
          refine va_iast hx hb hK hP hD hS 1 0 rfl rfl (in_st1 hst) d_Ke_writeJoins_34 (fun H locs hP hD hS => ?_)
          have hP : va_P (dC, dI) clsL [(h0, .inr (1, [.ref a_code, .ref a_slots])), (a_code, .inl (cI, 162, .inl (upd (upd g_code (Int32.toNatClampNeg x_p0) (f_Ke_instruction 1 x_p1 0)) (Int32.toNatClampNeg (x_p0 + 1)) (f_Ke_instruction 1 x_p1 3))))] H := hP
          have hD : va_D A [(h0, .inr (1, [.ref a_code, .ref a_slots])), (a_code, .inl (cI, 162, .inl (upd (upd g_code (Int32.toNatClampNeg x_p0) (f_Ke_instruction 1 x_p1 0)) (Int32.toNatClampNeg (x_p0 + 1)) (f_Ke_instruction 1 x_p1 3))))] := hD
          refine lv_iinc (v := ((x_p0 + 1) + 1)) (lv' := [(4, .int ((x_p0 + 1) + 1)), (5, .int 3), (0, .ref h0), (1, .int x_p0), (2, .int x_p1), (3, .int x_p2)]) hx hb d_Ke_writeJoins_35 hl (k := 1) rfl rfl (by decide) rfl (fun ls hl => ?_)
          refine lv_iinc (v := 4) (lv' := [(5, .int 4), (4, .int ((x_p0 + 1) + 1)), (0, .ref h0), (1, .int x_p0), (2, .int x_p1), (3, .int x_p2)]) hx hb d_Ke_writeJoins_38 hl (k := 1) rfl (by decide) (by decide) rfl (fun ls hl => ?_)
          refine lv_goto (tgt := 6) hx hb d_Ke_writeJoins_41 (by decide) ?_
          refine lv_iload hx hb d_Ke_writeJoins_6 (lv_at hl 0 rfl) ?_
          refine lv_iconst (v := 4) hx hb d_Ke_writeJoins_8 (by decide) ?_
          refine lv_icmp_ge (tgt := 44) hx hb d_Ke_writeJoins_9 (by decide) (fun c_32 => ?_) (fun c_32 => absurd (by decide) c_32)
          refine lv_iload hx hb d_Ke_writeJoins_44 (lv_at hl 1 rfl) ?_
          have ef : (f_Ke_writeJoins g_code x_p0 x_p1 x_p2) = ((((x_p0 + 1) + 1), (upd (upd g_code (Int32.toNatClampNeg x_p0) (f_Ke_instruction 1 x_p1 0)) (Int32.toNatClampNeg (x_p0 + 1)) (f_Ke_instruction 1 x_p1 3))) : Int32 × (Nat → Int32)) := (if_neg c_2).trans ((if_pos c_26).trans ((if_pos c_28).trans ((if_neg c_30).trans rfl)))
          have hP9 := hP.sub (ws' := [(h0, .inr (1, [.ref a_code, .ref a_slots])), (a_code, .inl (cI, 162, .inl (upd (upd g_code (Int32.toNatClampNeg x_p0) (f_Ke_instruction 1 x_p1 0)) (Int32.toNatClampNeg (x_p0 + 1)) (f_Ke_instruction 1 x_p1 3))))]) [0, 1] rfl
          have hD9 := hD.sub (ws' := [(h0, .inr (1, [.ref a_code, .ref a_slots])), (a_code, .inl (cI, 162, .inl (upd (upd g_code (Int32.toNatClampNeg x_p0) (f_Ke_instruction 1 x_p1 0)) (Int32.toNatClampNeg (x_p0 + 1)) (f_Ke_instruction 1 x_p1 3))))]) [0, 1] (by decide) rfl
          exact W.iret (v := ((x_p0 + 1) + 1)) hx hb hr (fun t ht hW => ⟨⟨((x_p0 + 1) + 1), (), rfl, by rw [ef], by rw [ef, ht]; exact hP9, va_K.moved hW.alike hK, by rw [ef]; exact hD9⟩, hS.F ht⟩) hS.2.2 d_Ke_writeJoins_46
      · refine lv_aload_n hx hb d_Ke_writeJoins_21 rfl (lv_at hl 2 rfl) ?_
        refine va_get (D := (dC, dI)) (ci := 1) (v := .ref a_code) (C := "LabelledCore$Kernel") (T := T_Ke) (N := 2) hx hb hts in_Ke hown hK hP 0 rfl rfl 0 (by decide) (hts _ wm_110) (fun _ h9 => h9) rfl d_Ke_writeJoins_22 ?_
        refine lv_iload hx hb d_Ke_writeJoins_25 (lv_at hl 1 rfl) ?_
        refine lv_iconst (v := 1) hx hb d_Ke_writeJoins_27 (by decide) ?_
        refine lv_iload_n hx hb d_Ke_writeJoins_28 rfl (lv_at hl 4 rfl) ?_
        refine lv_iload hx hb d_Ke_writeJoins_29 (lv_at hl 0 rfl) ?_
        have hPc := hP.sub (ws' := []) [] rfl
        refine W.callR ((W.runS (As := [.int 1, .int x_p1, .int 2]) (rest := [.int (x_p0 + 1), .ref a_code]) ⟨hx, hb, hml, hown, hts⟩ (ct_Ke_instruction l dC dI cI 1 x_p1 2) (va_cwS 3 hts (gS wm_196 wm_197 wm_39 wm_198) rfl rfl rfl (by decide +kernel) ⟨Nat.le_of_ble_eq_true rfl, Nat.le_of_ble_eq_true rfl⟩) ⟨pcR_blind, pcR_pre hPc hK⟩ rfl rfl hl.1 rfl (lv_room (Nat.le_of_ble_eq_true rfl)) d_Ke_writeJoins_31 ⟨Nat.le_of_ble_eq_true rfl, Nat.le_of_ble_eq_true rfl⟩)) ?_
        refine W.eq (g2 := F0 m 34 ls [.int (f_Ke_instruction 1 x_p1 2), .int (x_p0 + 1), .ref a_code]) rfl ?_
        refine va_iast hx hb hK hP hD hS 1 0 rfl rfl (in_st1 hst) d_Ke_writeJoins_34 (fun H locs hP hD hS => ?_)
        have hP : va_P (dC, dI) clsL [(h0, .inr (1, [.ref a_code, .ref a_slots])), (a_code, .inl (cI, 162, .inl (upd (upd g_code (Int32.toNatClampNeg x_p0) (f_Ke_instruction 1 x_p1 0)) (Int32.toNatClampNeg (x_p0 + 1)) (f_Ke_instruction 1 x_p1 2))))] H := hP
        have hD : va_D A [(h0, .inr (1, [.ref a_code, .ref a_slots])), (a_code, .inl (cI, 162, .inl (upd (upd g_code (Int32.toNatClampNeg x_p0) (f_Ke_instruction 1 x_p1 0)) (Int32.toNatClampNeg (x_p0 + 1)) (f_Ke_instruction 1 x_p1 2))))] := hD
        refine lv_iinc (v := ((x_p0 + 1) + 1)) (lv' := [(4, .int ((x_p0 + 1) + 1)), (5, .int 2), (0, .ref h0), (1, .int x_p0), (2, .int x_p1), (3, .int x_p2)]) hx hb d_Ke_writeJoins_35 hl (k := 1) rfl rfl (by decide) rfl (fun ls hl => ?_)
        refine lv_iinc (v := 3) (lv' := [(5, .int 3), (4, .int ((x_p0 + 1) + 1)), (0, .ref h0), (1, .int x_p0), (2, .int x_p1), (3, .int x_p2)]) hx hb d_Ke_writeJoins_38 hl (k := 1) rfl (by decide) (by decide) rfl (fun ls hl => ?_)
        refine lv_goto (tgt := 6) hx hb d_Ke_writeJoins_41 (by decide) ?_
        refine lv_iload hx hb d_Ke_writeJoins_6 (lv_at hl 0 rfl) ?_
        refine lv_iconst (v := 4) hx hb d_Ke_writeJoins_8 (by decide) ?_
        refine lv_icmp_ge (tgt := 44) hx hb d_Ke_writeJoins_9 (by decide) (fun c_33 => absurd c_33 (by decide)) (fun c_33 => ?_)
        refine lv_iload_n hx hb d_Ke_writeJoins_12 rfl (lv_at hl 5 rfl) ?_
        refine lv_iload hx hb d_Ke_writeJoins_13 (lv_at hl 0 rfl) ?_
        refine lv_ishr hx hb d_Ke_writeJoins_15 ?_
        refine lv_iconst (v := 1) hx hb d_Ke_writeJoins_16 (by decide) ?_
        refine lv_iand hx hb d_Ke_writeJoins_17 ?_
        refine lv_if_eq (tgt := 38) hx hb d_Ke_writeJoins_18 (by decide) (fun c_34 => ?_) (fun c_34 => ?_)
        · refine lv_iinc (v := 4) (lv' := [(5, .int 4), (4, .int ((x_p0 + 1) + 1)), (0, .ref h0), (1, .int x_p0), (2, .int x_p1), (3, .int x_p2)]) hx hb d_Ke_writeJoins_38 hl (k := 0) rfl (by decide) (by decide) rfl (fun ls hl => ?_)
          refine lv_goto (tgt := 6) hx hb d_Ke_writeJoins_41 (by decide) ?_
          refine lv_iload hx hb d_Ke_writeJoins_6 (lv_at hl 0 rfl) ?_
          refine lv_iconst (v := 4) hx hb d_Ke_writeJoins_8 (by decide) ?_
          refine lv_icmp_ge (tgt := 44) hx hb d_Ke_writeJoins_9 (by decide) (fun c_35 => ?_) (fun c_35 => absurd (by decide) c_35)
          refine lv_iload hx hb d_Ke_writeJoins_44 (lv_at hl 1 rfl) ?_
          have ef : (f_Ke_writeJoins g_code x_p0 x_p1 x_p2) = ((((x_p0 + 1) + 1), (upd (upd g_code (Int32.toNatClampNeg x_p0) (f_Ke_instruction 1 x_p1 0)) (Int32.toNatClampNeg (x_p0 + 1)) (f_Ke_instruction 1 x_p1 2))) : Int32 × (Nat → Int32)) := (if_neg c_2).trans ((if_pos c_26).trans ((if_neg c_28).trans ((if_pos c_34).trans rfl)))
          have hP9 := hP.sub (ws' := [(h0, .inr (1, [.ref a_code, .ref a_slots])), (a_code, .inl (cI, 162, .inl (upd (upd g_code (Int32.toNatClampNeg x_p0) (f_Ke_instruction 1 x_p1 0)) (Int32.toNatClampNeg (x_p0 + 1)) (f_Ke_instruction 1 x_p1 2))))]) [0, 1] rfl
          have hD9 := hD.sub (ws' := [(h0, .inr (1, [.ref a_code, .ref a_slots])), (a_code, .inl (cI, 162, .inl (upd (upd g_code (Int32.toNatClampNeg x_p0) (f_Ke_instruction 1 x_p1 0)) (Int32.toNatClampNeg (x_p0 + 1)) (f_Ke_instruction 1 x_p1 2))))]) [0, 1] (by decide) rfl
          exact W.iret (v := ((x_p0 + 1) + 1)) hx hb hr (fun t ht hW => ⟨⟨((x_p0 + 1) + 1), (), rfl, by rw [ef], by rw [ef, ht]; exact hP9, va_K.moved hW.alike hK, by rw [ef]; exact hD9⟩, hS.F ht⟩) hS.2.2 d_Ke_writeJoins_46
        · refine lv_aload_n hx hb d_Ke_writeJoins_21 rfl (lv_at hl 2 rfl) ?_
          refine va_get (D := (dC, dI)) (ci := 1) (v := .ref a_code) (C := "LabelledCore$Kernel") (T := T_Ke) (N := 2) hx hb hts in_Ke hown hK hP 0 rfl rfl 0 (by decide) (hts _ wm_110) (fun _ h9 => h9) rfl d_Ke_writeJoins_22 ?_
          refine lv_iload hx hb d_Ke_writeJoins_25 (lv_at hl 1 rfl) ?_
          refine lv_iconst (v := 1) hx hb d_Ke_writeJoins_27 (by decide) ?_
          refine lv_iload_n hx hb d_Ke_writeJoins_28 rfl (lv_at hl 4 rfl) ?_
          refine lv_iload hx hb d_Ke_writeJoins_29 (lv_at hl 0 rfl) ?_
          have hPc := hP.sub (ws' := []) [] rfl
          refine W.callR ((W.runS (As := [.int 1, .int x_p1, .int 3]) (rest := [.int ((x_p0 + 1) + 1), .ref a_code]) ⟨hx, hb, hml, hown, hts⟩ (ct_Ke_instruction l dC dI cI 1 x_p1 3) (va_cwS 3 hts (gS wm_196 wm_197 wm_39 wm_198) rfl rfl rfl (by decide +kernel) ⟨Nat.le_of_ble_eq_true rfl, Nat.le_of_ble_eq_true rfl⟩) ⟨pcR_blind, pcR_pre hPc hK⟩ rfl rfl hl.1 rfl (lv_room (Nat.le_of_ble_eq_true rfl)) d_Ke_writeJoins_31 ⟨Nat.le_of_ble_eq_true rfl, Nat.le_of_ble_eq_true rfl⟩)) ?_
          refine W.eq (g2 := F0 m 34 ls [.int (f_Ke_instruction 1 x_p1 3), .int ((x_p0 + 1) + 1), .ref a_code]) rfl ?_
          refine va_iast hx hb hK hP hD hS 1 0 rfl rfl (in_st2 hst) d_Ke_writeJoins_34 (fun H locs hP hD hS => ?_)
          have hP : va_P (dC, dI) clsL [(h0, .inr (1, [.ref a_code, .ref a_slots])), (a_code, .inl (cI, 162, .inl (upd (upd (upd g_code (Int32.toNatClampNeg x_p0) (f_Ke_instruction 1 x_p1 0)) (Int32.toNatClampNeg (x_p0 + 1)) (f_Ke_instruction 1 x_p1 2)) (Int32.toNatClampNeg ((x_p0 + 1) + 1)) (f_Ke_instruction 1 x_p1 3))))] H := hP
          have hD : va_D A [(h0, .inr (1, [.ref a_code, .ref a_slots])), (a_code, .inl (cI, 162, .inl (upd (upd (upd g_code (Int32.toNatClampNeg x_p0) (f_Ke_instruction 1 x_p1 0)) (Int32.toNatClampNeg (x_p0 + 1)) (f_Ke_instruction 1 x_p1 2)) (Int32.toNatClampNeg ((x_p0 + 1) + 1)) (f_Ke_instruction 1 x_p1 3))))] := hD
          refine lv_iinc (v := (((x_p0 + 1) + 1) + 1)) (lv' := [(4, .int (((x_p0 + 1) + 1) + 1)), (5, .int 3), (0, .ref h0), (1, .int x_p0), (2, .int x_p1), (3, .int x_p2)]) hx hb d_Ke_writeJoins_35 hl (k := 1) rfl rfl (by decide) rfl (fun ls hl => ?_)
          refine lv_iinc (v := 4) (lv' := [(5, .int 4), (4, .int (((x_p0 + 1) + 1) + 1)), (0, .ref h0), (1, .int x_p0), (2, .int x_p1), (3, .int x_p2)]) hx hb d_Ke_writeJoins_38 hl (k := 1) rfl (by decide) (by decide) rfl (fun ls hl => ?_)
          refine lv_goto (tgt := 6) hx hb d_Ke_writeJoins_41 (by decide) ?_
          refine lv_iload hx hb d_Ke_writeJoins_6 (lv_at hl 0 rfl) ?_
          refine lv_iconst (v := 4) hx hb d_Ke_writeJoins_8 (by decide) ?_
          refine lv_icmp_ge (tgt := 44) hx hb d_Ke_writeJoins_9 (by decide) (fun c_36 => ?_) (fun c_36 => absurd (by decide) c_36)
          refine lv_iload hx hb d_Ke_writeJoins_44 (lv_at hl 1 rfl) ?_
          have ef : (f_Ke_writeJoins g_code x_p0 x_p1 x_p2) = (((((x_p0 + 1) + 1) + 1), (upd (upd (upd g_code (Int32.toNatClampNeg x_p0) (f_Ke_instruction 1 x_p1 0)) (Int32.toNatClampNeg (x_p0 + 1)) (f_Ke_instruction 1 x_p1 2)) (Int32.toNatClampNeg ((x_p0 + 1) + 1)) (f_Ke_instruction 1 x_p1 3))) : Int32 × (Nat → Int32)) := (if_neg c_2).trans ((if_pos c_26).trans ((if_neg c_28).trans ((if_neg c_34).trans rfl)))
          have hP9 := hP.sub (ws' := [(h0, .inr (1, [.ref a_code, .ref a_slots])), (a_code, .inl (cI, 162, .inl (upd (upd (upd g_code (Int32.toNatClampNeg x_p0) (f_Ke_instruction 1 x_p1 0)) (Int32.toNatClampNeg (x_p0 + 1)) (f_Ke_instruction 1 x_p1 2)) (Int32.toNatClampNeg ((x_p0 + 1) + 1)) (f_Ke_instruction 1 x_p1 3))))]) [0, 1] rfl
          have hD9 := hD.sub (ws' := [(h0, .inr (1, [.ref a_code, .ref a_slots])), (a_code, .inl (cI, 162, .inl (upd (upd (upd g_code (Int32.toNatClampNeg x_p0) (f_Ke_instruction 1 x_p1 0)) (Int32.toNatClampNeg (x_p0 + 1)) (f_Ke_instruction 1 x_p1 2)) (Int32.toNatClampNeg ((x_p0 + 1) + 1)) (f_Ke_instruction 1 x_p1 3))))]) [0, 1] (by decide) rfl
          exact W.iret (v := (((x_p0 + 1) + 1) + 1)) hx hb hr (fun t ht hW => ⟨⟨(((x_p0 + 1) + 1) + 1), (), rfl, by rw [ef], by rw [ef, ht]; exact hP9, va_K.moved hW.alike hK, by rw [ef]; exact hD9⟩, hS.F ht⟩) hS.2.2 d_Ke_writeJoins_46
    · refine lv_aload_n hx hb d_Ke_writeJoins_21 rfl (lv_at hl 2 rfl) ?_
      refine va_get (D := (dC, dI)) (ci := 1) (v := .ref a_code) (C := "LabelledCore$Kernel") (T := T_Ke) (N := 2) hx hb hts in_Ke hown hK hP 0 rfl rfl 0 (by decide) (hts _ wm_110) (fun _ h9 => h9) rfl d_Ke_writeJoins_22 ?_
      refine lv_iload hx hb d_Ke_writeJoins_25 (lv_at hl 1 rfl) ?_
      refine lv_iconst (v := 1) hx hb d_Ke_writeJoins_27 (by decide) ?_
      refine lv_iload_n hx hb d_Ke_writeJoins_28 rfl (lv_at hl 4 rfl) ?_
      refine lv_iload hx hb d_Ke_writeJoins_29 (lv_at hl 0 rfl) ?_
      have hPc := hP.sub (ws' := []) [] rfl
      refine W.callR ((W.runS (As := [.int 1, .int x_p1, .int 1]) (rest := [.int (x_p0 + 1), .ref a_code]) ⟨hx, hb, hml, hown, hts⟩ (ct_Ke_instruction l dC dI cI 1 x_p1 1) (va_cwS 3 hts (gS wm_196 wm_197 wm_39 wm_198) rfl rfl rfl (by decide +kernel) ⟨Nat.le_of_ble_eq_true rfl, Nat.le_of_ble_eq_true rfl⟩) ⟨pcR_blind, pcR_pre hPc hK⟩ rfl rfl hl.1 rfl (lv_room (Nat.le_of_ble_eq_true rfl)) d_Ke_writeJoins_31 ⟨Nat.le_of_ble_eq_true rfl, Nat.le_of_ble_eq_true rfl⟩)) ?_
      refine W.eq (g2 := F0 m 34 ls [.int (f_Ke_instruction 1 x_p1 1), .int (x_p0 + 1), .ref a_code]) rfl ?_
      refine va_iast hx hb hK hP hD hS 1 0 rfl rfl (in_st1 hst) d_Ke_writeJoins_34 (fun H locs hP hD hS => ?_)
      have hP : va_P (dC, dI) clsL [(h0, .inr (1, [.ref a_code, .ref a_slots])), (a_code, .inl (cI, 162, .inl (upd (upd g_code (Int32.toNatClampNeg x_p0) (f_Ke_instruction 1 x_p1 0)) (Int32.toNatClampNeg (x_p0 + 1)) (f_Ke_instruction 1 x_p1 1))))] H := hP
      have hD : va_D A [(h0, .inr (1, [.ref a_code, .ref a_slots])), (a_code, .inl (cI, 162, .inl (upd (upd g_code (Int32.toNatClampNeg x_p0) (f_Ke_instruction 1 x_p1 0)) (Int32.toNatClampNeg (x_p0 + 1)) (f_Ke_instruction 1 x_p1 1))))] := hD
      refine lv_iinc (v := ((x_p0 + 1) + 1)) (lv' := [(4, .int ((x_p0 + 1) + 1)), (5, .int 1), (0, .ref h0), (1, .int x_p0), (2, .int x_p1), (3, .int x_p2)]) hx hb d_Ke_writeJoins_35 hl (k := 1) rfl rfl (by decide) rfl (fun ls hl => ?_)
      refine lv_iinc (v := 2) (lv' := [(5, .int 2), (4, .int ((x_p0 + 1) + 1)), (0, .ref h0), (1, .int x_p0), (2, .int x_p1), (3, .int x_p2)]) hx hb d_Ke_writeJoins_38 hl (k := 1) rfl (by decide) (by decide) rfl (fun ls hl => ?_)
      refine lv_goto (tgt := 6) hx hb d_Ke_writeJoins_41 (by decide) ?_
      refine lv_iload hx hb d_Ke_writeJoins_6 (lv_at hl 0 rfl) ?_
      refine lv_iconst (v := 4) hx hb d_Ke_writeJoins_8 (by decide) ?_
      refine lv_icmp_ge (tgt := 44) hx hb d_Ke_writeJoins_9 (by decide) (fun c_37 => absurd c_37 (by decide)) (fun c_37 => ?_)
      refine lv_iload_n hx hb d_Ke_writeJoins_12 rfl (lv_at hl 5 rfl) ?_
      refine lv_iload hx hb d_Ke_writeJoins_13 (lv_at hl 0 rfl) ?_
      refine lv_ishr hx hb d_Ke_writeJoins_15 ?_
      refine lv_iconst (v := 1) hx hb d_Ke_writeJoins_16 (by decide) ?_
      refine lv_iand hx hb d_Ke_writeJoins_17 ?_
      refine lv_if_eq (tgt := 38) hx hb d_Ke_writeJoins_18 (by decide) (fun c_38 => ?_) (fun c_38 => ?_)
      · refine lv_iinc (v := 3) (lv' := [(5, .int 3), (4, .int ((x_p0 + 1) + 1)), (0, .ref h0), (1, .int x_p0), (2, .int x_p1), (3, .int x_p2)]) hx hb d_Ke_writeJoins_38 hl (k := 0) rfl (by decide) (by decide) rfl (fun ls hl => ?_)
        refine lv_goto (tgt := 6) hx hb d_Ke_writeJoins_41 (by decide) ?_
        refine lv_iload hx hb d_Ke_writeJoins_6 (lv_at hl 0 rfl) ?_
        refine lv_iconst (v := 4) hx hb d_Ke_writeJoins_8 (by decide) ?_
        refine lv_icmp_ge (tgt := 44) hx hb d_Ke_writeJoins_9 (by decide) (fun c_39 => absurd c_39 (by decide)) (fun c_39 => ?_)
        refine lv_iload_n hx hb d_Ke_writeJoins_12 rfl (lv_at hl 5 rfl) ?_
        refine lv_iload hx hb d_Ke_writeJoins_13 (lv_at hl 0 rfl) ?_
        refine lv_ishr hx hb d_Ke_writeJoins_15 ?_
        refine lv_iconst (v := 1) hx hb d_Ke_writeJoins_16 (by decide) ?_
        refine lv_iand hx hb d_Ke_writeJoins_17 ?_
        refine lv_if_eq (tgt := 38) hx hb d_Ke_writeJoins_18 (by decide) (fun c_40 => ?_) (fun c_40 => ?_)
        · refine lv_iinc (v := 4) (lv' := [(5, .int 4), (4, .int ((x_p0 + 1) + 1)), (0, .ref h0), (1, .int x_p0), (2, .int x_p1), (3, .int x_p2)]) hx hb d_Ke_writeJoins_38 hl (k := 0) rfl (by decide) (by decide) rfl (fun ls hl => ?_)
          refine lv_goto (tgt := 6) hx hb d_Ke_writeJoins_41 (by decide) ?_
          refine lv_iload hx hb d_Ke_writeJoins_6 (lv_at hl 0 rfl) ?_
          refine lv_iconst (v := 4) hx hb d_Ke_writeJoins_8 (by decide) ?_
          refine lv_icmp_ge (tgt := 44) hx hb d_Ke_writeJoins_9 (by decide) (fun c_41 => ?_) (fun c_41 => absurd (by decide) c_41)
          refine lv_iload hx hb d_Ke_writeJoins_44 (lv_at hl 1 rfl) ?_
          have ef : (f_Ke_writeJoins g_code x_p0 x_p1 x_p2) = ((((x_p0 + 1) + 1), (upd (upd g_code (Int32.toNatClampNeg x_p0) (f_Ke_instruction 1 x_p1 0)) (Int32.toNatClampNeg (x_p0 + 1)) (f_Ke_instruction 1 x_p1 1))) : Int32 × (Nat → Int32)) := (if_neg c_2).trans ((if_neg c_26).trans ((if_pos c_38).trans ((if_pos c_40).trans rfl)))
          have hP9 := hP.sub (ws' := [(h0, .inr (1, [.ref a_code, .ref a_slots])), (a_code, .inl (cI, 162, .inl (upd (upd g_code (Int32.toNatClampNeg x_p0) (f_Ke_instruction 1 x_p1 0)) (Int32.toNatClampNeg (x_p0 + 1)) (f_Ke_instruction 1 x_p1 1))))]) [0, 1] rfl
          have hD9 := hD.sub (ws' := [(h0, .inr (1, [.ref a_code, .ref a_slots])), (a_code, .inl (cI, 162, .inl (upd (upd g_code (Int32.toNatClampNeg x_p0) (f_Ke_instruction 1 x_p1 0)) (Int32.toNatClampNeg (x_p0 + 1)) (f_Ke_instruction 1 x_p1 1))))]) [0, 1] (by decide) rfl
          exact W.iret (v := ((x_p0 + 1) + 1)) hx hb hr (fun t ht hW => ⟨⟨((x_p0 + 1) + 1), (), rfl, by rw [ef], by rw [ef, ht]; exact hP9, va_K.moved hW.alike hK, by rw [ef]; exact hD9⟩, hS.F ht⟩) hS.2.2 d_Ke_writeJoins_46
        · refine lv_aload_n hx hb d_Ke_writeJoins_21 rfl (lv_at hl 2 rfl) ?_
          refine va_get (D := (dC, dI)) (ci := 1) (v := .ref a_code) (C := "LabelledCore$Kernel") (T := T_Ke) (N := 2) hx hb hts in_Ke hown hK hP 0 rfl rfl 0 (by decide) (hts _ wm_110) (fun _ h9 => h9) rfl d_Ke_writeJoins_22 ?_
          refine lv_iload hx hb d_Ke_writeJoins_25 (lv_at hl 1 rfl) ?_
          refine lv_iconst (v := 1) hx hb d_Ke_writeJoins_27 (by decide) ?_
          refine lv_iload_n hx hb d_Ke_writeJoins_28 rfl (lv_at hl 4 rfl) ?_
          refine lv_iload hx hb d_Ke_writeJoins_29 (lv_at hl 0 rfl) ?_
          have hPc := hP.sub (ws' := []) [] rfl
          refine W.callR ((W.runS (As := [.int 1, .int x_p1, .int 3]) (rest := [.int ((x_p0 + 1) + 1), .ref a_code]) ⟨hx, hb, hml, hown, hts⟩ (ct_Ke_instruction l dC dI cI 1 x_p1 3) (va_cwS 3 hts (gS wm_196 wm_197 wm_39 wm_198) rfl rfl rfl (by decide +kernel) ⟨Nat.le_of_ble_eq_true rfl, Nat.le_of_ble_eq_true rfl⟩) ⟨pcR_blind, pcR_pre hPc hK⟩ rfl rfl hl.1 rfl (lv_room (Nat.le_of_ble_eq_true rfl)) d_Ke_writeJoins_31 ⟨Nat.le_of_ble_eq_true rfl, Nat.le_of_ble_eq_true rfl⟩)) ?_
          refine W.eq (g2 := F0 m 34 ls [.int (f_Ke_instruction 1 x_p1 3), .int ((x_p0 + 1) + 1), .ref a_code]) rfl ?_
          refine va_iast hx hb hK hP hD hS 1 0 rfl rfl (in_st2 hst) d_Ke_writeJoins_34 (fun H locs hP hD hS => ?_)
          have hP : va_P (dC, dI) clsL [(h0, .inr (1, [.ref a_code, .ref a_slots])), (a_code, .inl (cI, 162, .inl (upd (upd (upd g_code (Int32.toNatClampNeg x_p0) (f_Ke_instruction 1 x_p1 0)) (Int32.toNatClampNeg (x_p0 + 1)) (f_Ke_instruction 1 x_p1 1)) (Int32.toNatClampNeg ((x_p0 + 1) + 1)) (f_Ke_instruction 1 x_p1 3))))] H := hP
          have hD : va_D A [(h0, .inr (1, [.ref a_code, .ref a_slots])), (a_code, .inl (cI, 162, .inl (upd (upd (upd g_code (Int32.toNatClampNeg x_p0) (f_Ke_instruction 1 x_p1 0)) (Int32.toNatClampNeg (x_p0 + 1)) (f_Ke_instruction 1 x_p1 1)) (Int32.toNatClampNeg ((x_p0 + 1) + 1)) (f_Ke_instruction 1 x_p1 3))))] := hD
          refine lv_iinc (v := (((x_p0 + 1) + 1) + 1)) (lv' := [(4, .int (((x_p0 + 1) + 1) + 1)), (5, .int 3), (0, .ref h0), (1, .int x_p0), (2, .int x_p1), (3, .int x_p2)]) hx hb d_Ke_writeJoins_35 hl (k := 1) rfl rfl (by decide) rfl (fun ls hl => ?_)
          refine lv_iinc (v := 4) (lv' := [(5, .int 4), (4, .int (((x_p0 + 1) + 1) + 1)), (0, .ref h0), (1, .int x_p0), (2, .int x_p1), (3, .int x_p2)]) hx hb d_Ke_writeJoins_38 hl (k := 1) rfl (by decide) (by decide) rfl (fun ls hl => ?_)
          refine lv_goto (tgt := 6) hx hb d_Ke_writeJoins_41 (by decide) ?_
          refine lv_iload hx hb d_Ke_writeJoins_6 (lv_at hl 0 rfl) ?_
          refine lv_iconst (v := 4) hx hb d_Ke_writeJoins_8 (by decide) ?_
          refine lv_icmp_ge (tgt := 44) hx hb d_Ke_writeJoins_9 (by decide) (fun c_42 => ?_) (fun c_42 => absurd (by decide) c_42)
          refine lv_iload hx hb d_Ke_writeJoins_44 (lv_at hl 1 rfl) ?_
          have ef : (f_Ke_writeJoins g_code x_p0 x_p1 x_p2) = (((((x_p0 + 1) + 1) + 1), (upd (upd (upd g_code (Int32.toNatClampNeg x_p0) (f_Ke_instruction 1 x_p1 0)) (Int32.toNatClampNeg (x_p0 + 1)) (f_Ke_instruction 1 x_p1 1)) (Int32.toNatClampNeg ((x_p0 + 1) + 1)) (f_Ke_instruction 1 x_p1 3))) : Int32 × (Nat → Int32)) := (if_neg c_2).trans ((if_neg c_26).trans ((if_pos c_38).trans ((if_neg c_40).trans rfl)))
          have hP9 := hP.sub (ws' := [(h0, .inr (1, [.ref a_code, .ref a_slots])), (a_code, .inl (cI, 162, .inl (upd (upd (upd g_code (Int32.toNatClampNeg x_p0) (f_Ke_instruction 1 x_p1 0)) (Int32.toNatClampNeg (x_p0 + 1)) (f_Ke_instruction 1 x_p1 1)) (Int32.toNatClampNeg ((x_p0 + 1) + 1)) (f_Ke_instruction 1 x_p1 3))))]) [0, 1] rfl
          have hD9 := hD.sub (ws' := [(h0, .inr (1, [.ref a_code, .ref a_slots])), (a_code, .inl (cI, 162, .inl (upd (upd (upd g_code (Int32.toNatClampNeg x_p0) (f_Ke_instruction 1 x_p1 0)) (Int32.toNatClampNeg (x_p0 + 1)) (f_Ke_instruction 1 x_p1 1)) (Int32.toNatClampNeg ((x_p0 + 1) + 1)) (f_Ke_instruction 1 x_p1 3))))]) [0, 1] (by decide) rfl
          exact W.iret (v := (((x_p0 + 1) + 1) + 1)) hx hb hr (fun t ht hW => ⟨⟨(((x_p0 + 1) + 1) + 1), (), rfl, by rw [ef], by rw [ef, ht]; exact hP9, va_K.moved hW.alike hK, by rw [ef]; exact hD9⟩, hS.F ht⟩) hS.2.2 d_Ke_writeJoins_46
      · refine lv_aload_n hx hb d_Ke_writeJoins_21 rfl (lv_at hl 2 rfl) ?_
        refine va_get (D := (dC, dI)) (ci := 1) (v := .ref a_code) (C := "LabelledCore$Kernel") (T := T_Ke) (N := 2) hx hb hts in_Ke hown hK hP 0 rfl rfl 0 (by decide) (hts _ wm_110) (fun _ h9 => h9) rfl d_Ke_writeJoins_22 ?_
        refine lv_iload hx hb d_Ke_writeJoins_25 (lv_at hl 1 rfl) ?_
        refine lv_iconst (v := 1) hx hb d_Ke_writeJoins_27 (by decide) ?_
        refine lv_iload_n hx hb d_Ke_writeJoins_28 rfl (lv_at hl 4 rfl) ?_
        refine lv_iload hx hb d_Ke_writeJoins_29 (lv_at hl 0 rfl) ?_
        have hPc := hP.sub (ws' := []) [] rfl
        refine W.callR ((W.runS (As := [.int 1, .int x_p1, .int 2]) (rest := [.int ((x_p0 + 1) + 1), .ref a_code]) ⟨hx, hb, hml, hown, hts⟩ (ct_Ke_instruction l dC dI cI 1 x_p1 2) (va_cwS 3 hts (gS wm_196 wm_197 wm_39 wm_198) rfl rfl rfl (by decide +kernel) ⟨Nat.le_of_ble_eq_true rfl, Nat.le_of_ble_eq_true rfl⟩) ⟨pcR_blind, pcR_pre hPc hK⟩ rfl rfl hl.1 rfl (lv_room (Nat.le_of_ble_eq_true rfl)) d_Ke_writeJoins_31 ⟨Nat.le_of_ble_eq_true rfl, Nat.le_of_ble_eq_true rfl⟩)) ?_
        refine W.eq (g2 := F0 m 34 ls [.int (f_Ke_instruction 1 x_p1 2), .int ((x_p0 + 1) + 1), .ref a_code]) rfl ?_
        refine va_iast hx hb hK hP hD hS 1 0 rfl rfl (in_st2 hst) d_Ke_writeJoins_34 (fun H locs hP hD hS => ?_)
        have hP : va_P (dC, dI) clsL [(h0, .inr (1, [.ref a_code, .ref a_slots])), (a_code, .inl (cI, 162, .inl (upd (upd (upd g_code (Int32.toNatClampNeg x_p0) (f_Ke_instruction 1 x_p1 0)) (Int32.toNatClampNeg (x_p0 + 1)) (f_Ke_instruction 1 x_p1 1)) (Int32.toNatClampNeg ((x_p0 + 1) + 1)) (f_Ke_instruction 1 x_p1 2))))] H := hP
        have hD : va_D A [(h0, .inr (1, [.ref a_code, .ref a_slots])), (a_code, .inl (cI, 162, .inl (upd (upd (upd g_code (Int32.toNatClampNeg x_p0) (f_Ke_instruction 1 x_p1 0)) (Int32.toNatClampNeg (x_p0 + 1)) (f_Ke_instruction 1 x_p1 1)) (Int32.toNatClampNeg ((x_p0 + 1) + 1)) (f_Ke_instruction 1 x_p1 2))))] := hD
        refine lv_iinc (v := (((x_p0 + 1) + 1) + 1)) (lv' := [(4, .int (((x_p0 + 1) + 1) + 1)), (5, .int 2), (0, .ref h0), (1, .int x_p0), (2, .int x_p1), (3, .int x_p2)]) hx hb d_Ke_writeJoins_35 hl (k := 1) rfl rfl (by decide) rfl (fun ls hl => ?_)
        refine lv_iinc (v := 3) (lv' := [(5, .int 3), (4, .int (((x_p0 + 1) + 1) + 1)), (0, .ref h0), (1, .int x_p0), (2, .int x_p1), (3, .int x_p2)]) hx hb d_Ke_writeJoins_38 hl (k := 1) rfl (by decide) (by decide) rfl (fun ls hl => ?_)
        refine lv_goto (tgt := 6) hx hb d_Ke_writeJoins_41 (by decide) ?_
        refine lv_iload hx hb d_Ke_writeJoins_6 (lv_at hl 0 rfl) ?_
        refine lv_iconst (v := 4) hx hb d_Ke_writeJoins_8 (by decide) ?_
        refine lv_icmp_ge (tgt := 44) hx hb d_Ke_writeJoins_9 (by decide) (fun c_43 => absurd c_43 (by decide)) (fun c_43 => ?_)
        refine lv_iload_n hx hb d_Ke_writeJoins_12 rfl (lv_at hl 5 rfl) ?_
        refine lv_iload hx hb d_Ke_writeJoins_13 (lv_at hl 0 rfl) ?_
        refine lv_ishr hx hb d_Ke_writeJoins_15 ?_
        refine lv_iconst (v := 1) hx hb d_Ke_writeJoins_16 (by decide) ?_
        refine lv_iand hx hb d_Ke_writeJoins_17 ?_
        refine lv_if_eq (tgt := 38) hx hb d_Ke_writeJoins_18 (by decide) (fun c_44 => ?_) (fun c_44 => ?_)
        · refine lv_iinc (v := 4) (lv' := [(5, .int 4), (4, .int (((x_p0 + 1) + 1) + 1)), (0, .ref h0), (1, .int x_p0), (2, .int x_p1), (3, .int x_p2)]) hx hb d_Ke_writeJoins_38 hl (k := 0) rfl (by decide) (by decide) rfl (fun ls hl => ?_)
          refine lv_goto (tgt := 6) hx hb d_Ke_writeJoins_41 (by decide) ?_
          refine lv_iload hx hb d_Ke_writeJoins_6 (lv_at hl 0 rfl) ?_
          refine lv_iconst (v := 4) hx hb d_Ke_writeJoins_8 (by decide) ?_
          refine lv_icmp_ge (tgt := 44) hx hb d_Ke_writeJoins_9 (by decide) (fun c_45 => ?_) (fun c_45 => absurd (by decide) c_45)
          refine lv_iload hx hb d_Ke_writeJoins_44 (lv_at hl 1 rfl) ?_
          have ef : (f_Ke_writeJoins g_code x_p0 x_p1 x_p2) = (((((x_p0 + 1) + 1) + 1), (upd (upd (upd g_code (Int32.toNatClampNeg x_p0) (f_Ke_instruction 1 x_p1 0)) (Int32.toNatClampNeg (x_p0 + 1)) (f_Ke_instruction 1 x_p1 1)) (Int32.toNatClampNeg ((x_p0 + 1) + 1)) (f_Ke_instruction 1 x_p1 2))) : Int32 × (Nat → Int32)) := (if_neg c_2).trans ((if_neg c_26).trans ((if_neg c_38).trans ((if_pos c_44).trans rfl)))
          have hP9 := hP.sub (ws' := [(h0, .inr (1, [.ref a_code, .ref a_slots])), (a_code, .inl (cI, 162, .inl (upd (upd (upd g_code (Int32.toNatClampNeg x_p0) (f_Ke_instruction 1 x_p1 0)) (Int32.toNatClampNeg (x_p0 + 1)) (f_Ke_instruction 1 x_p1 1)) (Int32.toNatClampNeg ((x_p0 + 1) + 1)) (f_Ke_instruction 1 x_p1 2))))]) [0, 1] rfl
          have hD9 := hD.sub (ws' := [(h0, .inr (1, [.ref a_code, .ref a_slots])), (a_code, .inl (cI, 162, .inl (upd (upd (upd g_code (Int32.toNatClampNeg x_p0) (f_Ke_instruction 1 x_p1 0)) (Int32.toNatClampNeg (x_p0 + 1)) (f_Ke_instruction 1 x_p1 1)) (Int32.toNatClampNeg ((x_p0 + 1) + 1)) (f_Ke_instruction 1 x_p1 2))))]) [0, 1] (by decide) rfl
          exact W.iret (v := (((x_p0 + 1) + 1) + 1)) hx hb hr (fun t ht hW => ⟨⟨(((x_p0 + 1) + 1) + 1), (), rfl, by rw [ef], by rw [ef, ht]; exact hP9, va_K.moved hW.alike hK, by rw [ef]; exact hD9⟩, hS.F ht⟩) hS.2.2 d_Ke_writeJoins_46
        · refine lv_aload_n hx hb d_Ke_writeJoins_21 rfl (lv_at hl 2 rfl) ?_
          refine va_get (D := (dC, dI)) (ci := 1) (v := .ref a_code) (C := "LabelledCore$Kernel") (T := T_Ke) (N := 2) hx hb hts in_Ke hown hK hP 0 rfl rfl 0 (by decide) (hts _ wm_110) (fun _ h9 => h9) rfl d_Ke_writeJoins_22 ?_
          refine lv_iload hx hb d_Ke_writeJoins_25 (lv_at hl 1 rfl) ?_
          refine lv_iconst (v := 1) hx hb d_Ke_writeJoins_27 (by decide) ?_
          refine lv_iload_n hx hb d_Ke_writeJoins_28 rfl (lv_at hl 4 rfl) ?_
          refine lv_iload hx hb d_Ke_writeJoins_29 (lv_at hl 0 rfl) ?_
          have hPc := hP.sub (ws' := []) [] rfl
          refine W.callR ((W.runS (As := [.int 1, .int x_p1, .int 3]) (rest := [.int (((x_p0 + 1) + 1) + 1), .ref a_code]) ⟨hx, hb, hml, hown, hts⟩ (ct_Ke_instruction l dC dI cI 1 x_p1 3) (va_cwS 3 hts (gS wm_196 wm_197 wm_39 wm_198) rfl rfl rfl (by decide +kernel) ⟨Nat.le_of_ble_eq_true rfl, Nat.le_of_ble_eq_true rfl⟩) ⟨pcR_blind, pcR_pre hPc hK⟩ rfl rfl hl.1 rfl (lv_room (Nat.le_of_ble_eq_true rfl)) d_Ke_writeJoins_31 ⟨Nat.le_of_ble_eq_true rfl, Nat.le_of_ble_eq_true rfl⟩)) ?_
          refine W.eq (g2 := F0 m 34 ls [.int (f_Ke_instruction 1 x_p1 3), .int (((x_p0 + 1) + 1) + 1), .ref a_code]) rfl ?_
          refine va_iast hx hb hK hP hD hS 1 0 rfl rfl (in_st3 hst) d_Ke_writeJoins_34 (fun H locs hP hD hS => ?_)
          have hP : va_P (dC, dI) clsL [(h0, .inr (1, [.ref a_code, .ref a_slots])), (a_code, .inl (cI, 162, .inl (upd (upd (upd (upd g_code (Int32.toNatClampNeg x_p0) (f_Ke_instruction 1 x_p1 0)) (Int32.toNatClampNeg (x_p0 + 1)) (f_Ke_instruction 1 x_p1 1)) (Int32.toNatClampNeg ((x_p0 + 1) + 1)) (f_Ke_instruction 1 x_p1 2)) (Int32.toNatClampNeg (((x_p0 + 1) + 1) + 1)) (f_Ke_instruction 1 x_p1 3))))] H := hP
          have hD : va_D A [(h0, .inr (1, [.ref a_code, .ref a_slots])), (a_code, .inl (cI, 162, .inl (upd (upd (upd (upd g_code (Int32.toNatClampNeg x_p0) (f_Ke_instruction 1 x_p1 0)) (Int32.toNatClampNeg (x_p0 + 1)) (f_Ke_instruction 1 x_p1 1)) (Int32.toNatClampNeg ((x_p0 + 1) + 1)) (f_Ke_instruction 1 x_p1 2)) (Int32.toNatClampNeg (((x_p0 + 1) + 1) + 1)) (f_Ke_instruction 1 x_p1 3))))] := hD
          refine lv_iinc (v := ((((x_p0 + 1) + 1) + 1) + 1)) (lv' := [(4, .int ((((x_p0 + 1) + 1) + 1) + 1)), (5, .int 3), (0, .ref h0), (1, .int x_p0), (2, .int x_p1), (3, .int x_p2)]) hx hb d_Ke_writeJoins_35 hl (k := 1) rfl rfl (by decide) rfl (fun ls hl => ?_)
          refine lv_iinc (v := 4) (lv' := [(5, .int 4), (4, .int ((((x_p0 + 1) + 1) + 1) + 1)), (0, .ref h0), (1, .int x_p0), (2, .int x_p1), (3, .int x_p2)]) hx hb d_Ke_writeJoins_38 hl (k := 1) rfl (by decide) (by decide) rfl (fun ls hl => ?_)
          refine lv_goto (tgt := 6) hx hb d_Ke_writeJoins_41 (by decide) ?_
          refine lv_iload hx hb d_Ke_writeJoins_6 (lv_at hl 0 rfl) ?_
          refine lv_iconst (v := 4) hx hb d_Ke_writeJoins_8 (by decide) ?_
          refine lv_icmp_ge (tgt := 44) hx hb d_Ke_writeJoins_9 (by decide) (fun c_46 => ?_) (fun c_46 => absurd (by decide) c_46)
          refine lv_iload hx hb d_Ke_writeJoins_44 (lv_at hl 1 rfl) ?_
          have ef : (f_Ke_writeJoins g_code x_p0 x_p1 x_p2) = ((((((x_p0 + 1) + 1) + 1) + 1), (upd (upd (upd (upd g_code (Int32.toNatClampNeg x_p0) (f_Ke_instruction 1 x_p1 0)) (Int32.toNatClampNeg (x_p0 + 1)) (f_Ke_instruction 1 x_p1 1)) (Int32.toNatClampNeg ((x_p0 + 1) + 1)) (f_Ke_instruction 1 x_p1 2)) (Int32.toNatClampNeg (((x_p0 + 1) + 1) + 1)) (f_Ke_instruction 1 x_p1 3))) : Int32 × (Nat → Int32)) := (if_neg c_2).trans ((if_neg c_26).trans ((if_neg c_38).trans ((if_neg c_44).trans rfl)))
          have hP9 := hP.sub (ws' := [(h0, .inr (1, [.ref a_code, .ref a_slots])), (a_code, .inl (cI, 162, .inl (upd (upd (upd (upd g_code (Int32.toNatClampNeg x_p0) (f_Ke_instruction 1 x_p1 0)) (Int32.toNatClampNeg (x_p0 + 1)) (f_Ke_instruction 1 x_p1 1)) (Int32.toNatClampNeg ((x_p0 + 1) + 1)) (f_Ke_instruction 1 x_p1 2)) (Int32.toNatClampNeg (((x_p0 + 1) + 1) + 1)) (f_Ke_instruction 1 x_p1 3))))]) [0, 1] rfl
          have hD9 := hD.sub (ws' := [(h0, .inr (1, [.ref a_code, .ref a_slots])), (a_code, .inl (cI, 162, .inl (upd (upd (upd (upd g_code (Int32.toNatClampNeg x_p0) (f_Ke_instruction 1 x_p1 0)) (Int32.toNatClampNeg (x_p0 + 1)) (f_Ke_instruction 1 x_p1 1)) (Int32.toNatClampNeg ((x_p0 + 1) + 1)) (f_Ke_instruction 1 x_p1 2)) (Int32.toNatClampNeg (((x_p0 + 1) + 1) + 1)) (f_Ke_instruction 1 x_p1 3))))]) [0, 1] (by decide) rfl
          exact W.iret (v := ((((x_p0 + 1) + 1) + 1) + 1)) hx hb hr (fun t ht hW => ⟨⟨((((x_p0 + 1) + 1) + 1) + 1), (), rfl, by rw [ef], by rw [ef, ht]; exact hP9, va_K.moved hW.alike hK, by rw [ef]; exact hD9⟩, hS.F ht⟩) hS.2.2 d_Ke_writeJoins_46

theorem wj_pos (code : Nat → Int32) (st t mask : Int32) {a : Nat} (e : st = nI a) : ∃ b : Nat, a ≤ b ∧ b ≤ a + 4 ∧ (f_Ke_writeJoins code st t mask).1 = nI b := by
  subst e
  unfold f_Ke_writeJoins
  repeat' split
  all_goals first
    | exact ⟨a, Nat.le_refl _, by omega, rfl⟩
    | exact ⟨a + 1, by omega, by omega, nI_1 a⟩
    | exact ⟨a + 2, by omega, by omega, by show nI a + 1 + 1 = _; rw [nI_1, nI_1]⟩
    | exact ⟨a + 3, by omega, by omega, by show nI a + 1 + 1 + 1 = _; rw [nI_1, nI_1, nI_1]⟩
    | exact ⟨a + 4, by omega, by omega, by show nI a + 1 + 1 + 1 + 1 = _; rw [nI_1, nI_1, nI_1, nI_1]⟩
theorem lj_s {x : Int32} {g : Nat} (e : x = nI g) : x * 18 = nI (g * 18) := by rw [e, show (18 : Int32) = nI 18 from rfl, pk_mul]
theorem lj0 {x : Int32} (h : ∃ g : Nat, g ≤ 8 ∧ x = nI g) : ∃ a : Nat, a + 4 ≤ 162 ∧ x * 18 = nI a := by
  obtain ⟨g, h, e⟩ := h
  exact ⟨g * 18, by omega, lj_s e⟩
theorem lj1 {x m1 : Int32} {c : Nat → Int32} (h : ∃ g : Nat, g ≤ 8 ∧ x = nI g) : ∃ a : Nat, a + 4 ≤ 162 ∧ (f_Ke_writeJoins c (x * 18) 4 m1).1 = nI a := by
  obtain ⟨g, h, e⟩ := h
  obtain ⟨b, h1, h2, e1⟩ := wj_pos c (x * 18) 4 m1 (lj_s e)
  exact ⟨b, by omega, e1⟩
theorem lj2 {x m1 m2 : Int32} {c c1 : Nat → Int32} (h : ∃ g : Nat, g ≤ 8 ∧ x = nI g) : ∃ a : Nat, a + 4 ≤ 162 ∧ (f_Ke_writeJoins c1 (f_Ke_writeJoins c (x * 18) 4 m1).1 5 m2).1 = nI a := by
  obtain ⟨g, h, e⟩ := h
  obtain ⟨b, h1, h2, e1⟩ := wj_pos c (x * 18) 4 m1 (lj_s e)
  obtain ⟨b2, h3, h4, e2⟩ := wj_pos c1 _ 5 m2 e1
  exact ⟨b2, by omega, e2⟩
theorem lj3 {x m1 m2 m3 : Int32} {c c1 c2 : Nat → Int32} (h : ∃ g : Nat, g ≤ 8 ∧ x = nI g) : ∃ a : Nat, a + 4 ≤ 162 ∧ (f_Ke_writeJoins c2 (f_Ke_writeJoins c1 (f_Ke_writeJoins c (x * 18) 4 m1).1 5 m2).1 6 m3).1 = nI a := by
  obtain ⟨g, h, e⟩ := h
  obtain ⟨b, h1, h2, e1⟩ := wj_pos c (x * 18) 4 m1 (lj_s e)
  obtain ⟨b2, h3, h4, e2⟩ := wj_pos c1 _ 5 m2 e1
  obtain ⟨b3, h5, h6, e3⟩ := wj_pos c2 _ 6 m3 e2
  exact ⟨b3, by omega, e3⟩
theorem lj4 {x m1 m2 m3 m4 : Int32} {c c1 c2 c3 : Nat → Int32} (h : ∃ g : Nat, g ≤ 8 ∧ x = nI g) : vp_in (f_Ke_writeJoins c3 (f_Ke_writeJoins c2 (f_Ke_writeJoins c1 (f_Ke_writeJoins c (x * 18) 4 m1).1 5 m2).1 6 m3).1 7 m4).1 162 ∧ vp_in ((f_Ke_writeJoins c3 (f_Ke_writeJoins c2 (f_Ke_writeJoins c1 (f_Ke_writeJoins c (x * 18) 4 m1).1 5 m2).1 6 m3).1 7 m4).1 + 1) 162 := by
  obtain ⟨g, h, e⟩ := h
  obtain ⟨b, h1, h2, e1⟩ := wj_pos c (x * 18) 4 m1 (lj_s e)
  obtain ⟨b2, h3, h4, e2⟩ := wj_pos c1 _ 5 m2 e1
  obtain ⟨b3, h5, h6, e3⟩ := wj_pos c2 _ 6 m3 e2
  obtain ⟨b4, h7, h8, e4⟩ := wj_pos c3 _ 7 m4 e3
  rw [e4, nI_1]
  exact ⟨vp_in_nI (by omega) (by omega), vp_in_nI (by omega) (by omega)⟩
def f_Ke_learn (g_code : Nat → Int32) (x_p0 : Int32) (x_p1 : Int32) (x_p2 : Int32) (x_p3 : Int32) (x_p4 : Int32) : (Nat → Int32) :=
  (upd (upd ((f_Ke_writeJoins ((f_Ke_writeJoins ((f_Ke_writeJoins ((f_Ke_writeJoins g_code (x_p0 * 18) 4 x_p1).2) ((f_Ke_writeJoins g_code (x_p0 * 18) 4 x_p1).1) 5 x_p2).2) ((f_Ke_writeJoins ((f_Ke_writeJoins g_code (x_p0 * 18) 4 x_p1).2) ((f_Ke_writeJoins g_code (x_p0 * 18) 4 x_p1).1) 5 x_p2).1) 6 x_p3).2) ((f_Ke_writeJoins ((f_Ke_writeJoins ((f_Ke_writeJoins g_code (x_p0 * 18) 4 x_p1).2) ((f_Ke_writeJoins g_code (x_p0 * 18) 4 x_p1).1) 5 x_p2).2) ((f_Ke_writeJoins ((f_Ke_writeJoins g_code (x_p0 * 18) 4 x_p1).2) ((f_Ke_writeJoins g_code (x_p0 * 18) 4 x_p1).1) 5 x_p2).1) 6 x_p3).1) 7 x_p4).2) (Int32.toNatClampNeg ((f_Ke_writeJoins ((f_Ke_writeJoins ((f_Ke_writeJoins ((f_Ke_writeJoins g_code (x_p0 * 18) 4 x_p1).2) ((f_Ke_writeJoins g_code (x_p0 * 18) 4 x_p1).1) 5 x_p2).2) ((f_Ke_writeJoins ((f_Ke_writeJoins g_code (x_p0 * 18) 4 x_p1).2) ((f_Ke_writeJoins g_code (x_p0 * 18) 4 x_p1).1) 5 x_p2).1) 6 x_p3).2) ((f_Ke_writeJoins ((f_Ke_writeJoins ((f_Ke_writeJoins g_code (x_p0 * 18) 4 x_p1).2) ((f_Ke_writeJoins g_code (x_p0 * 18) 4 x_p1).1) 5 x_p2).2) ((f_Ke_writeJoins ((f_Ke_writeJoins g_code (x_p0 * 18) 4 x_p1).2) ((f_Ke_writeJoins g_code (x_p0 * 18) 4 x_p1).1) 5 x_p2).1) 6 x_p3).1) 7 x_p4).1)) (f_Ke_instruction 2 6 7)) (Int32.toNatClampNeg ((f_Ke_writeJoins ((f_Ke_writeJoins ((f_Ke_writeJoins ((f_Ke_writeJoins g_code (x_p0 * 18) 4 x_p1).2) ((f_Ke_writeJoins g_code (x_p0 * 18) 4 x_p1).1) 5 x_p2).2) ((f_Ke_writeJoins ((f_Ke_writeJoins g_code (x_p0 * 18) 4 x_p1).2) ((f_Ke_writeJoins g_code (x_p0 * 18) 4 x_p1).1) 5 x_p2).1) 6 x_p3).2) ((f_Ke_writeJoins ((f_Ke_writeJoins ((f_Ke_writeJoins g_code (x_p0 * 18) 4 x_p1).2) ((f_Ke_writeJoins g_code (x_p0 * 18) 4 x_p1).1) 5 x_p2).2) ((f_Ke_writeJoins ((f_Ke_writeJoins g_code (x_p0 * 18) 4 x_p1).2) ((f_Ke_writeJoins g_code (x_p0 * 18) 4 x_p1).1) 5 x_p2).1) 6 x_p3).1) 7 x_p4).1 + 1)) (f_Ke_instruction 0 0 0))
set_option maxHeartbeats 4000000 in
set_option maxRecDepth 100000 in
theorem ct_Ke_learn (l : Launch) (dC : Nat → ClassId) (dI : Nat → Nat → Nat) (cI : ClassId) (sz : Nat) (h0 a_code a_slots : Nat) (g_code : Nat → Int32) (x_p0 : Int32) (x_p1 : Int32) (x_p2 : Int32) (x_p3 : Int32) (x_p4 : Int32) (hg : ∃ g : Nat, g ≤ 8 ∧ x_p0 = nI g) : Met l y_Ke_learn w_Ke_learn ({ frames := 2, cells := 0, slots := 0, locals := 47 }) (pcW dC dI cI [(h0, .inr (1, [.ref a_code, .ref a_slots])), (a_code, .inl (cI, 162, .inl g_code))] sz [.ref h0, .int x_p0, .int x_p1, .int x_p2, .int x_p3, .int x_p4]) (va_Qv (fun _ : Unit => True) (fun _ t => atW dC dI cI [(h0, .inr (1, [.ref a_code, .ref a_slots])), (a_code, .inl (cI, 162, .inl (f_Ke_learn g_code x_p0 x_p1 x_p2 x_p3 x_p4)))] (va_A [(h0, .inr (1, [.ref a_code, .ref a_slots])), (a_code, .inl (cI, 162, .inl g_code))] sz) t) (va_A [(h0, .inr (1, [.ref a_code, .ref a_slots])), (a_code, .inl (cI, 162, .inl g_code))] sz)) 0 0 (va_A [(h0, .inr (1, [.ref a_code, .ref a_slots])), (a_code, .inl (cI, 162, .inl g_code))] sz) := by
  refine Met.ofW (cc := c_Ke_learn) (maxL := 7) (ret := none) (by decide) rfl ?_
  intro p e s m args below meth c s₁ B hml hv
  obtain ⟨rfl, hsz, hP, hK, hD0⟩ := hv
  have hx := B.exec
  have hb := B.bytes
  have hr := B.returns
  have hts : ∀ w ∈ wG, w.before _ s = true := fun w h => atoms_spec (ws := w_Ke_learn) B.pre w (List.mem_cons_of_mem _ h)
  have hown : s.vm.findClass "LabelledCore$Kernel" = some m.cls := findClass_of_methodNamed B.named
  have hlocks := B.notSynchronized
  subst hsz
  have hD := hD0.self (sz := s.heap.size)
  generalize hAe : va_A [(h0, .inr (1, [.ref a_code, .ref a_slots])), (a_code, .inl (cI, 162, .inl g_code))] s.heap.size = A at hD ⊢
  have hA : ∀ q : Nat, s.heap.size ≤ q → A q := fun q h => by rw [← hAe]; exact Or.inr h
  have hS : va_S A s.heap s.heap [] := va_S.rf
  have hP : va_P (dC, dI) clsL [(h0, .inr (1, [.ref a_code, .ref a_slots])), (a_code, .inl (cI, 162, .inl g_code))] s.heap := hP
  have hl := lv_entry ([.ref h0, .int x_p0, .int x_p1, .int x_p2, .int x_p3, .int x_p4]) (n := 7) (Nat.le_of_ble_eq_true rfl)
  rw [lg_entry_eq]
  generalize (lg_sl ([.ref h0, .int x_p0, .int x_p1, .int x_p2, .int x_p3, .int x_p4]) ++ List.replicate (7 - (lg_sl ([.ref h0, .int x_p0, .int x_p1, .int x_p2, .int x_p3, .int x_p4])).length) Slot.unset).toArray = ls at hl ⊢
  have hl : lv_has ls 7 [(0, .ref h0), (1, .int x_p0), (2, .int x_p1), (3, .int x_p2), (4, .int x_p3), (5, .int x_p4)] := hl
  refine lv_iload_n hx hb d_Ke_learn_0 rfl (lv_at hl 1 rfl) ?_
  refine lv_bipush (v := 18) hx hb d_Ke_learn_1 (by decide) ?_
  refine lv_imul hx hb d_Ke_learn_3 ?_
  refine lv_istore (lv' := [(6, .int (x_p0 * 18)), (0, .ref h0), (1, .int x_p0), (2, .int x_p1), (3, .int x_p2), (4, .int x_p3), (5, .int x_p4)]) hx hb d_Ke_learn_4 hl (by decide) rfl (fun ls hl => ?_)
  refine lv_aload_n hx hb d_Ke_learn_6 rfl (lv_at hl 1 rfl) ?_
  refine lv_iload hx hb d_Ke_learn_7 (lv_at hl 0 rfl) ?_
  refine lv_iconst (v := 4) hx hb d_Ke_learn_9 (by decide) ?_
  refine lv_iload_n hx hb d_Ke_learn_10 rfl (lv_at hl 3 rfl) ?_
  have hPc := hP.sub (ws' := [(h0, .inr (1, [.ref a_code, .ref a_slots])), (a_code, .inl (cI, 162, .inl g_code))]) [0, 1] rfl
  have hDc := hD.sub (ws' := [(h0, .inr (1, [.ref a_code, .ref a_slots])), (a_code, .inl (cI, 162, .inl g_code))]) [0, 1] (by decide) rfl
  have hFc := va_free (wc := [(h0, .inr (1, [.ref a_code, .ref a_slots])), (a_code, .inl (cI, 162, .inl g_code))]) hD hS hA [0, 1] rfl
  refine va_calli (va_runV (As := [.int (x_p0 * 18), .int 4, .int x_p1]) (rest := []) ⟨hx, hb, hml, hown, hts⟩ (ct_Ke_writeJoins l dC dI cI s.heap.size h0 a_code a_slots g_code (x_p0 * 18) 4 x_p1 (lj0 hg)) (cwV 3 hts (gV wm_192 wm_194 wm_0 wm_39 wm_195) rfl rfl rfl (by decide +kernel) ⟨Nat.le_of_ble_eq_true rfl, Nat.le_of_ble_eq_true rfl⟩) ⟨pcW_blind, va_recv hK hPc (ci := 1) (q0 := 0) rfl rfl, pcW_pre hPc hK hDc⟩ rfl rfl hl.1 rfl (lv_room (Nat.le_of_ble_eq_true rfl)) d_Ke_learn_11 ⟨Nat.le_of_ble_eq_true rfl, Nat.le_of_ble_eq_true rfl⟩) hS (fun q _ h => hFc q h) hFc (fun r_1 u t H1 locs ht hvm hw hB hz1 hk1 hS => ?_)
  have hw : r_1 = (f_Ke_writeJoins g_code (x_p0 * 18) 4 x_p1).1 := hw
  subst hw
  obtain ⟨hP1, -, hD1⟩ := hB
  rw [ht] at hP1
  obtain ⟨hP, hD⟩ := va_join (wr := []) (w1 := [(h0, .inr (1, [.ref a_code, .ref a_slots])), (a_code, .inl (cI, 162, .inl ((f_Ke_writeJoins g_code (x_p0 * 18) 4 x_p1).2)))]) hP hD [0, 1] [] rfl rfl (by decide) (by decide) hk1 hFc hP1 hD1
  clear hFc hDc hPc hP1 hD1 hk1 hz1 hvm ht
  generalize H1 = H at hP hS ⊢
  have hP : va_P (dC, dI) clsL [(h0, .inr (1, [.ref a_code, .ref a_slots])), (a_code, .inl (cI, 162, .inl ((f_Ke_writeJoins g_code (x_p0 * 18) 4 x_p1).2)))] H := hP
  have hD : va_D A [(h0, .inr (1, [.ref a_code, .ref a_slots])), (a_code, .inl (cI, 162, .inl ((f_Ke_writeJoins g_code (x_p0 * 18) 4 x_p1).2)))] := hD
  refine lv_istore (lv' := [(6, .int ((f_Ke_writeJoins g_code (x_p0 * 18) 4 x_p1).1)), (0, .ref h0), (1, .int x_p0), (2, .int x_p1), (3, .int x_p2), (4, .int x_p3), (5, .int x_p4)]) hx hb d_Ke_learn_14 hl (by decide) rfl (fun ls hl => ?_)
  refine lv_aload_n hx hb d_Ke_learn_16 rfl (lv_at hl 1 rfl) ?_
  refine lv_iload hx hb d_Ke_learn_17 (lv_at hl 0 rfl) ?_
  refine lv_iconst (v := 5) hx hb d_Ke_learn_19 (by decide) ?_
  refine lv_iload_n hx hb d_Ke_learn_20 rfl (lv_at hl 4 rfl) ?_
  have hPc := hP.sub (ws' := [(h0, .inr (1, [.ref a_code, .ref a_slots])), (a_code, .inl (cI, 162, .inl ((f_Ke_writeJoins g_code (x_p0 * 18) 4 x_p1).2)))]) [0, 1] rfl
  have hDc := hD.sub (ws' := [(h0, .inr (1, [.ref a_code, .ref a_slots])), (a_code, .inl (cI, 162, .inl ((f_Ke_writeJoins g_code (x_p0 * 18) 4 x_p1).2)))]) [0, 1] (by decide) rfl
  have hFc := va_free (wc := [(h0, .inr (1, [.ref a_code, .ref a_slots])), (a_code, .inl (cI, 162, .inl ((f_Ke_writeJoins g_code (x_p0 * 18) 4 x_p1).2)))]) hD hS hA [0, 1] rfl
  refine va_calli (va_runV (As := [.int ((f_Ke_writeJoins g_code (x_p0 * 18) 4 x_p1).1), .int 5, .int x_p2]) (rest := []) ⟨hx, hb, hml, hown, hts⟩ (ct_Ke_writeJoins l dC dI cI H.size h0 a_code a_slots ((f_Ke_writeJoins g_code (x_p0 * 18) 4 x_p1).2) ((f_Ke_writeJoins g_code (x_p0 * 18) 4 x_p1).1) 5 x_p2 (lj1 hg)) (cwV 3 hts (gV wm_192 wm_194 wm_0 wm_39 wm_195) rfl rfl rfl (by decide +kernel) ⟨Nat.le_of_ble_eq_true rfl, Nat.le_of_ble_eq_true rfl⟩) ⟨pcW_blind, va_recv hK hPc (ci := 1) (q0 := 0) rfl rfl, pcW_pre hPc hK hDc⟩ rfl rfl hl.1 rfl (lv_room (Nat.le_of_ble_eq_true rfl)) d_Ke_learn_21 ⟨Nat.le_of_ble_eq_true rfl, Nat.le_of_ble_eq_true rfl⟩) hS (fun q _ h => hFc q h) hFc (fun r_2 u t H1 locs ht hvm hw hB hz1 hk1 hS => ?_)
  have hw : r_2 = (f_Ke_writeJoins ((f_Ke_writeJoins g_code (x_p0 * 18) 4 x_p1).2) ((f_Ke_writeJoins g_code (x_p0 * 18) 4 x_p1).1) 5 x_p2).1 := hw
  subst hw
  obtain ⟨hP1, -, hD1⟩ := hB
  rw [ht] at hP1
  obtain ⟨hP, hD⟩ := va_join (wr := []) (w1 := [(h0, .inr (1, [.ref a_code, .ref a_slots])), (a_code, .inl (cI, 162, .inl ((f_Ke_writeJoins ((f_Ke_writeJoins g_code (x_p0 * 18) 4 x_p1).2) ((f_Ke_writeJoins g_code (x_p0 * 18) 4 x_p1).1) 5 x_p2).2)))]) hP hD [0, 1] [] rfl rfl (by decide) (by decide) hk1 hFc hP1 hD1
  clear hFc hDc hPc hP1 hD1 hk1 hz1 hvm ht
  generalize H1 = H at hP hS ⊢
  have hP : va_P (dC, dI) clsL [(h0, .inr (1, [.ref a_code, .ref a_slots])), (a_code, .inl (cI, 162, .inl ((f_Ke_writeJoins ((f_Ke_writeJoins g_code (x_p0 * 18) 4 x_p1).2) ((f_Ke_writeJoins g_code (x_p0 * 18) 4 x_p1).1) 5 x_p2).2)))] H := hP
  have hD : va_D A [(h0, .inr (1, [.ref a_code, .ref a_slots])), (a_code, .inl (cI, 162, .inl ((f_Ke_writeJoins ((f_Ke_writeJoins g_code (x_p0 * 18) 4 x_p1).2) ((f_Ke_writeJoins g_code (x_p0 * 18) 4 x_p1).1) 5 x_p2).2)))] := hD
  refine lv_istore (lv' := [(6, .int ((f_Ke_writeJoins ((f_Ke_writeJoins g_code (x_p0 * 18) 4 x_p1).2) ((f_Ke_writeJoins g_code (x_p0 * 18) 4 x_p1).1) 5 x_p2).1)), (0, .ref h0), (1, .int x_p0), (2, .int x_p1), (3, .int x_p2), (4, .int x_p3), (5, .int x_p4)]) hx hb d_Ke_learn_24 hl (by decide) rfl (fun ls hl => ?_)
  refine lv_aload_n hx hb d_Ke_learn_26 rfl (lv_at hl 1 rfl) ?_
  refine lv_iload hx hb d_Ke_learn_27 (lv_at hl 0 rfl) ?_
  refine lv_bipush (v := 6) hx hb d_Ke_learn_29 (by decide) ?_
  refine lv_iload hx hb d_Ke_learn_31 (lv_at hl 5 rfl) ?_
  have hPc := hP.sub (ws' := [(h0, .inr (1, [.ref a_code, .ref a_slots])), (a_code, .inl (cI, 162, .inl ((f_Ke_writeJoins ((f_Ke_writeJoins g_code (x_p0 * 18) 4 x_p1).2) ((f_Ke_writeJoins g_code (x_p0 * 18) 4 x_p1).1) 5 x_p2).2)))]) [0, 1] rfl
  have hDc := hD.sub (ws' := [(h0, .inr (1, [.ref a_code, .ref a_slots])), (a_code, .inl (cI, 162, .inl ((f_Ke_writeJoins ((f_Ke_writeJoins g_code (x_p0 * 18) 4 x_p1).2) ((f_Ke_writeJoins g_code (x_p0 * 18) 4 x_p1).1) 5 x_p2).2)))]) [0, 1] (by decide) rfl
  have hFc := va_free (wc := [(h0, .inr (1, [.ref a_code, .ref a_slots])), (a_code, .inl (cI, 162, .inl ((f_Ke_writeJoins ((f_Ke_writeJoins g_code (x_p0 * 18) 4 x_p1).2) ((f_Ke_writeJoins g_code (x_p0 * 18) 4 x_p1).1) 5 x_p2).2)))]) hD hS hA [0, 1] rfl
  refine va_calli (va_runV (As := [.int ((f_Ke_writeJoins ((f_Ke_writeJoins g_code (x_p0 * 18) 4 x_p1).2) ((f_Ke_writeJoins g_code (x_p0 * 18) 4 x_p1).1) 5 x_p2).1), .int 6, .int x_p3]) (rest := []) ⟨hx, hb, hml, hown, hts⟩ (ct_Ke_writeJoins l dC dI cI H.size h0 a_code a_slots ((f_Ke_writeJoins ((f_Ke_writeJoins g_code (x_p0 * 18) 4 x_p1).2) ((f_Ke_writeJoins g_code (x_p0 * 18) 4 x_p1).1) 5 x_p2).2) ((f_Ke_writeJoins ((f_Ke_writeJoins g_code (x_p0 * 18) 4 x_p1).2) ((f_Ke_writeJoins g_code (x_p0 * 18) 4 x_p1).1) 5 x_p2).1) 6 x_p3 (lj2 hg)) (cwV 3 hts (gV wm_192 wm_194 wm_0 wm_39 wm_195) rfl rfl rfl (by decide +kernel) ⟨Nat.le_of_ble_eq_true rfl, Nat.le_of_ble_eq_true rfl⟩) ⟨pcW_blind, va_recv hK hPc (ci := 1) (q0 := 0) rfl rfl, pcW_pre hPc hK hDc⟩ rfl rfl hl.1 rfl (lv_room (Nat.le_of_ble_eq_true rfl)) d_Ke_learn_33 ⟨Nat.le_of_ble_eq_true rfl, Nat.le_of_ble_eq_true rfl⟩) hS (fun q _ h => hFc q h) hFc (fun r_3 u t H1 locs ht hvm hw hB hz1 hk1 hS => ?_)
  have hw : r_3 = (f_Ke_writeJoins ((f_Ke_writeJoins ((f_Ke_writeJoins g_code (x_p0 * 18) 4 x_p1).2) ((f_Ke_writeJoins g_code (x_p0 * 18) 4 x_p1).1) 5 x_p2).2) ((f_Ke_writeJoins ((f_Ke_writeJoins g_code (x_p0 * 18) 4 x_p1).2) ((f_Ke_writeJoins g_code (x_p0 * 18) 4 x_p1).1) 5 x_p2).1) 6 x_p3).1 := hw
  subst hw
  obtain ⟨hP1, -, hD1⟩ := hB
  rw [ht] at hP1
  obtain ⟨hP, hD⟩ := va_join (wr := []) (w1 := [(h0, .inr (1, [.ref a_code, .ref a_slots])), (a_code, .inl (cI, 162, .inl ((f_Ke_writeJoins ((f_Ke_writeJoins ((f_Ke_writeJoins g_code (x_p0 * 18) 4 x_p1).2) ((f_Ke_writeJoins g_code (x_p0 * 18) 4 x_p1).1) 5 x_p2).2) ((f_Ke_writeJoins ((f_Ke_writeJoins g_code (x_p0 * 18) 4 x_p1).2) ((f_Ke_writeJoins g_code (x_p0 * 18) 4 x_p1).1) 5 x_p2).1) 6 x_p3).2)))]) hP hD [0, 1] [] rfl rfl (by decide) (by decide) hk1 hFc hP1 hD1
  clear hFc hDc hPc hP1 hD1 hk1 hz1 hvm ht
  generalize H1 = H at hP hS ⊢
  have hP : va_P (dC, dI) clsL [(h0, .inr (1, [.ref a_code, .ref a_slots])), (a_code, .inl (cI, 162, .inl ((f_Ke_writeJoins ((f_Ke_writeJoins ((f_Ke_writeJoins g_code (x_p0 * 18) 4 x_p1).2) ((f_Ke_writeJoins g_code (x_p0 * 18) 4 x_p1).1) 5 x_p2).2) ((f_Ke_writeJoins ((f_Ke_writeJoins g_code (x_p0 * 18) 4 x_p1).2) ((f_Ke_writeJoins g_code (x_p0 * 18) 4 x_p1).1) 5 x_p2).1) 6 x_p3).2)))] H := hP
  have hD : va_D A [(h0, .inr (1, [.ref a_code, .ref a_slots])), (a_code, .inl (cI, 162, .inl ((f_Ke_writeJoins ((f_Ke_writeJoins ((f_Ke_writeJoins g_code (x_p0 * 18) 4 x_p1).2) ((f_Ke_writeJoins g_code (x_p0 * 18) 4 x_p1).1) 5 x_p2).2) ((f_Ke_writeJoins ((f_Ke_writeJoins g_code (x_p0 * 18) 4 x_p1).2) ((f_Ke_writeJoins g_code (x_p0 * 18) 4 x_p1).1) 5 x_p2).1) 6 x_p3).2)))] := hD
  refine lv_istore (lv' := [(6, .int ((f_Ke_writeJoins ((f_Ke_writeJoins ((f_Ke_writeJoins g_code (x_p0 * 18) 4 x_p1).2) ((f_Ke_writeJoins g_code (x_p0 * 18) 4 x_p1).1) 5 x_p2).2) ((f_Ke_writeJoins ((f_Ke_writeJoins g_code (x_p0 * 18) 4 x_p1).2) ((f_Ke_writeJoins g_code (x_p0 * 18) 4 x_p1).1) 5 x_p2).1) 6 x_p3).1)), (0, .ref h0), (1, .int x_p0), (2, .int x_p1), (3, .int x_p2), (4, .int x_p3), (5, .int x_p4)]) hx hb d_Ke_learn_36 hl (by decide) rfl (fun ls hl => ?_)
  refine lv_aload_n hx hb d_Ke_learn_38 rfl (lv_at hl 1 rfl) ?_
  refine lv_iload hx hb d_Ke_learn_39 (lv_at hl 0 rfl) ?_
  refine lv_bipush (v := 7) hx hb d_Ke_learn_41 (by decide) ?_
  refine lv_iload hx hb d_Ke_learn_43 (lv_at hl 6 rfl) ?_
  have hPc := hP.sub (ws' := [(h0, .inr (1, [.ref a_code, .ref a_slots])), (a_code, .inl (cI, 162, .inl ((f_Ke_writeJoins ((f_Ke_writeJoins ((f_Ke_writeJoins g_code (x_p0 * 18) 4 x_p1).2) ((f_Ke_writeJoins g_code (x_p0 * 18) 4 x_p1).1) 5 x_p2).2) ((f_Ke_writeJoins ((f_Ke_writeJoins g_code (x_p0 * 18) 4 x_p1).2) ((f_Ke_writeJoins g_code (x_p0 * 18) 4 x_p1).1) 5 x_p2).1) 6 x_p3).2)))]) [0, 1] rfl
  have hDc := hD.sub (ws' := [(h0, .inr (1, [.ref a_code, .ref a_slots])), (a_code, .inl (cI, 162, .inl ((f_Ke_writeJoins ((f_Ke_writeJoins ((f_Ke_writeJoins g_code (x_p0 * 18) 4 x_p1).2) ((f_Ke_writeJoins g_code (x_p0 * 18) 4 x_p1).1) 5 x_p2).2) ((f_Ke_writeJoins ((f_Ke_writeJoins g_code (x_p0 * 18) 4 x_p1).2) ((f_Ke_writeJoins g_code (x_p0 * 18) 4 x_p1).1) 5 x_p2).1) 6 x_p3).2)))]) [0, 1] (by decide) rfl
  have hFc := va_free (wc := [(h0, .inr (1, [.ref a_code, .ref a_slots])), (a_code, .inl (cI, 162, .inl ((f_Ke_writeJoins ((f_Ke_writeJoins ((f_Ke_writeJoins g_code (x_p0 * 18) 4 x_p1).2) ((f_Ke_writeJoins g_code (x_p0 * 18) 4 x_p1).1) 5 x_p2).2) ((f_Ke_writeJoins ((f_Ke_writeJoins g_code (x_p0 * 18) 4 x_p1).2) ((f_Ke_writeJoins g_code (x_p0 * 18) 4 x_p1).1) 5 x_p2).1) 6 x_p3).2)))]) hD hS hA [0, 1] rfl
  refine va_calli (va_runV (As := [.int ((f_Ke_writeJoins ((f_Ke_writeJoins ((f_Ke_writeJoins g_code (x_p0 * 18) 4 x_p1).2) ((f_Ke_writeJoins g_code (x_p0 * 18) 4 x_p1).1) 5 x_p2).2) ((f_Ke_writeJoins ((f_Ke_writeJoins g_code (x_p0 * 18) 4 x_p1).2) ((f_Ke_writeJoins g_code (x_p0 * 18) 4 x_p1).1) 5 x_p2).1) 6 x_p3).1), .int 7, .int x_p4]) (rest := []) ⟨hx, hb, hml, hown, hts⟩ (ct_Ke_writeJoins l dC dI cI H.size h0 a_code a_slots ((f_Ke_writeJoins ((f_Ke_writeJoins ((f_Ke_writeJoins g_code (x_p0 * 18) 4 x_p1).2) ((f_Ke_writeJoins g_code (x_p0 * 18) 4 x_p1).1) 5 x_p2).2) ((f_Ke_writeJoins ((f_Ke_writeJoins g_code (x_p0 * 18) 4 x_p1).2) ((f_Ke_writeJoins g_code (x_p0 * 18) 4 x_p1).1) 5 x_p2).1) 6 x_p3).2) ((f_Ke_writeJoins ((f_Ke_writeJoins ((f_Ke_writeJoins g_code (x_p0 * 18) 4 x_p1).2) ((f_Ke_writeJoins g_code (x_p0 * 18) 4 x_p1).1) 5 x_p2).2) ((f_Ke_writeJoins ((f_Ke_writeJoins g_code (x_p0 * 18) 4 x_p1).2) ((f_Ke_writeJoins g_code (x_p0 * 18) 4 x_p1).1) 5 x_p2).1) 6 x_p3).1) 7 x_p4 (lj3 hg)) (cwV 3 hts (gV wm_192 wm_194 wm_0 wm_39 wm_195) rfl rfl rfl (by decide +kernel) ⟨Nat.le_of_ble_eq_true rfl, Nat.le_of_ble_eq_true rfl⟩) ⟨pcW_blind, va_recv hK hPc (ci := 1) (q0 := 0) rfl rfl, pcW_pre hPc hK hDc⟩ rfl rfl hl.1 rfl (lv_room (Nat.le_of_ble_eq_true rfl)) d_Ke_learn_45 ⟨Nat.le_of_ble_eq_true rfl, Nat.le_of_ble_eq_true rfl⟩) hS (fun q _ h => hFc q h) hFc (fun r_4 u t H1 locs ht hvm hw hB hz1 hk1 hS => ?_)
  have hw : r_4 = (f_Ke_writeJoins ((f_Ke_writeJoins ((f_Ke_writeJoins ((f_Ke_writeJoins g_code (x_p0 * 18) 4 x_p1).2) ((f_Ke_writeJoins g_code (x_p0 * 18) 4 x_p1).1) 5 x_p2).2) ((f_Ke_writeJoins ((f_Ke_writeJoins g_code (x_p0 * 18) 4 x_p1).2) ((f_Ke_writeJoins g_code (x_p0 * 18) 4 x_p1).1) 5 x_p2).1) 6 x_p3).2) ((f_Ke_writeJoins ((f_Ke_writeJoins ((f_Ke_writeJoins g_code (x_p0 * 18) 4 x_p1).2) ((f_Ke_writeJoins g_code (x_p0 * 18) 4 x_p1).1) 5 x_p2).2) ((f_Ke_writeJoins ((f_Ke_writeJoins g_code (x_p0 * 18) 4 x_p1).2) ((f_Ke_writeJoins g_code (x_p0 * 18) 4 x_p1).1) 5 x_p2).1) 6 x_p3).1) 7 x_p4).1 := hw
  subst hw
  obtain ⟨hP1, -, hD1⟩ := hB
  rw [ht] at hP1
  obtain ⟨hP, hD⟩ := va_join (wr := []) (w1 := [(h0, .inr (1, [.ref a_code, .ref a_slots])), (a_code, .inl (cI, 162, .inl ((f_Ke_writeJoins ((f_Ke_writeJoins ((f_Ke_writeJoins ((f_Ke_writeJoins g_code (x_p0 * 18) 4 x_p1).2) ((f_Ke_writeJoins g_code (x_p0 * 18) 4 x_p1).1) 5 x_p2).2) ((f_Ke_writeJoins ((f_Ke_writeJoins g_code (x_p0 * 18) 4 x_p1).2) ((f_Ke_writeJoins g_code (x_p0 * 18) 4 x_p1).1) 5 x_p2).1) 6 x_p3).2) ((f_Ke_writeJoins ((f_Ke_writeJoins ((f_Ke_writeJoins g_code (x_p0 * 18) 4 x_p1).2) ((f_Ke_writeJoins g_code (x_p0 * 18) 4 x_p1).1) 5 x_p2).2) ((f_Ke_writeJoins ((f_Ke_writeJoins g_code (x_p0 * 18) 4 x_p1).2) ((f_Ke_writeJoins g_code (x_p0 * 18) 4 x_p1).1) 5 x_p2).1) 6 x_p3).1) 7 x_p4).2)))]) hP hD [0, 1] [] rfl rfl (by decide) (by decide) hk1 hFc hP1 hD1
  clear hFc hDc hPc hP1 hD1 hk1 hz1 hvm ht
  generalize H1 = H at hP hS ⊢
  have hP : va_P (dC, dI) clsL [(h0, .inr (1, [.ref a_code, .ref a_slots])), (a_code, .inl (cI, 162, .inl ((f_Ke_writeJoins ((f_Ke_writeJoins ((f_Ke_writeJoins ((f_Ke_writeJoins g_code (x_p0 * 18) 4 x_p1).2) ((f_Ke_writeJoins g_code (x_p0 * 18) 4 x_p1).1) 5 x_p2).2) ((f_Ke_writeJoins ((f_Ke_writeJoins g_code (x_p0 * 18) 4 x_p1).2) ((f_Ke_writeJoins g_code (x_p0 * 18) 4 x_p1).1) 5 x_p2).1) 6 x_p3).2) ((f_Ke_writeJoins ((f_Ke_writeJoins ((f_Ke_writeJoins g_code (x_p0 * 18) 4 x_p1).2) ((f_Ke_writeJoins g_code (x_p0 * 18) 4 x_p1).1) 5 x_p2).2) ((f_Ke_writeJoins ((f_Ke_writeJoins g_code (x_p0 * 18) 4 x_p1).2) ((f_Ke_writeJoins g_code (x_p0 * 18) 4 x_p1).1) 5 x_p2).1) 6 x_p3).1) 7 x_p4).2)))] H := hP
  have hD : va_D A [(h0, .inr (1, [.ref a_code, .ref a_slots])), (a_code, .inl (cI, 162, .inl ((f_Ke_writeJoins ((f_Ke_writeJoins ((f_Ke_writeJoins ((f_Ke_writeJoins g_code (x_p0 * 18) 4 x_p1).2) ((f_Ke_writeJoins g_code (x_p0 * 18) 4 x_p1).1) 5 x_p2).2) ((f_Ke_writeJoins ((f_Ke_writeJoins g_code (x_p0 * 18) 4 x_p1).2) ((f_Ke_writeJoins g_code (x_p0 * 18) 4 x_p1).1) 5 x_p2).1) 6 x_p3).2) ((f_Ke_writeJoins ((f_Ke_writeJoins ((f_Ke_writeJoins g_code (x_p0 * 18) 4 x_p1).2) ((f_Ke_writeJoins g_code (x_p0 * 18) 4 x_p1).1) 5 x_p2).2) ((f_Ke_writeJoins ((f_Ke_writeJoins g_code (x_p0 * 18) 4 x_p1).2) ((f_Ke_writeJoins g_code (x_p0 * 18) 4 x_p1).1) 5 x_p2).1) 6 x_p3).1) 7 x_p4).2)))] := hD
  refine lv_istore (lv' := [(6, .int ((f_Ke_writeJoins ((f_Ke_writeJoins ((f_Ke_writeJoins ((f_Ke_writeJoins g_code (x_p0 * 18) 4 x_p1).2) ((f_Ke_writeJoins g_code (x_p0 * 18) 4 x_p1).1) 5 x_p2).2) ((f_Ke_writeJoins ((f_Ke_writeJoins g_code (x_p0 * 18) 4 x_p1).2) ((f_Ke_writeJoins g_code (x_p0 * 18) 4 x_p1).1) 5 x_p2).1) 6 x_p3).2) ((f_Ke_writeJoins ((f_Ke_writeJoins ((f_Ke_writeJoins g_code (x_p0 * 18) 4 x_p1).2) ((f_Ke_writeJoins g_code (x_p0 * 18) 4 x_p1).1) 5 x_p2).2) ((f_Ke_writeJoins ((f_Ke_writeJoins g_code (x_p0 * 18) 4 x_p1).2) ((f_Ke_writeJoins g_code (x_p0 * 18) 4 x_p1).1) 5 x_p2).1) 6 x_p3).1) 7 x_p4).1)), (0, .ref h0), (1, .int x_p0), (2, .int x_p1), (3, .int x_p2), (4, .int x_p3), (5, .int x_p4)]) hx hb d_Ke_learn_48 hl (by decide) rfl (fun ls hl => ?_)
  refine lv_aload_n hx hb d_Ke_learn_50 rfl (lv_at hl 1 rfl) ?_
  refine va_get (D := (dC, dI)) (ci := 1) (v := .ref a_code) (C := "LabelledCore$Kernel") (T := T_Ke) (N := 2) hx hb hts in_Ke hown hK hP 0 rfl rfl 0 (by decide) (hts _ wm_110) (fun _ h9 => h9) rfl d_Ke_learn_51 ?_
  refine lv_iload hx hb d_Ke_learn_54 (lv_at hl 0 rfl) ?_
  refine lv_iconst (v := 2) hx hb d_Ke_learn_56 (by decide) ?_
  refine lv_bipush (v := 6) hx hb d_Ke_learn_57 (by decide) ?_
  refine lv_bipush (v := 7) hx hb d_Ke_learn_59 (by decide) ?_
  have hPc := hP.sub (ws' := []) [] rfl
  refine W.callR ((W.runS (As := [.int 2, .int 6, .int 7]) (rest := [.int ((f_Ke_writeJoins ((f_Ke_writeJoins ((f_Ke_writeJoins ((f_Ke_writeJoins g_code (x_p0 * 18) 4 x_p1).2) ((f_Ke_writeJoins g_code (x_p0 * 18) 4 x_p1).1) 5 x_p2).2) ((f_Ke_writeJoins ((f_Ke_writeJoins g_code (x_p0 * 18) 4 x_p1).2) ((f_Ke_writeJoins g_code (x_p0 * 18) 4 x_p1).1) 5 x_p2).1) 6 x_p3).2) ((f_Ke_writeJoins ((f_Ke_writeJoins ((f_Ke_writeJoins g_code (x_p0 * 18) 4 x_p1).2) ((f_Ke_writeJoins g_code (x_p0 * 18) 4 x_p1).1) 5 x_p2).2) ((f_Ke_writeJoins ((f_Ke_writeJoins g_code (x_p0 * 18) 4 x_p1).2) ((f_Ke_writeJoins g_code (x_p0 * 18) 4 x_p1).1) 5 x_p2).1) 6 x_p3).1) 7 x_p4).1), .ref a_code]) ⟨hx, hb, hml, hown, hts⟩ (ct_Ke_instruction l dC dI cI 2 6 7) (va_cwS 3 hts (gS wm_196 wm_197 wm_39 wm_198) rfl rfl rfl (by decide +kernel) ⟨Nat.le_of_ble_eq_true rfl, Nat.le_of_ble_eq_true rfl⟩) ⟨pcR_blind, pcR_pre hPc hK⟩ rfl rfl hl.1 rfl (lv_room (Nat.le_of_ble_eq_true rfl)) d_Ke_learn_61 ⟨Nat.le_of_ble_eq_true rfl, Nat.le_of_ble_eq_true rfl⟩)) ?_
  refine W.eq (g2 := F0 m 64 ls [.int (f_Ke_instruction 2 6 7), .int ((f_Ke_writeJoins ((f_Ke_writeJoins ((f_Ke_writeJoins ((f_Ke_writeJoins g_code (x_p0 * 18) 4 x_p1).2) ((f_Ke_writeJoins g_code (x_p0 * 18) 4 x_p1).1) 5 x_p2).2) ((f_Ke_writeJoins ((f_Ke_writeJoins g_code (x_p0 * 18) 4 x_p1).2) ((f_Ke_writeJoins g_code (x_p0 * 18) 4 x_p1).1) 5 x_p2).1) 6 x_p3).2) ((f_Ke_writeJoins ((f_Ke_writeJoins ((f_Ke_writeJoins g_code (x_p0 * 18) 4 x_p1).2) ((f_Ke_writeJoins g_code (x_p0 * 18) 4 x_p1).1) 5 x_p2).2) ((f_Ke_writeJoins ((f_Ke_writeJoins g_code (x_p0 * 18) 4 x_p1).2) ((f_Ke_writeJoins g_code (x_p0 * 18) 4 x_p1).1) 5 x_p2).1) 6 x_p3).1) 7 x_p4).1), .ref a_code]) rfl ?_
  refine va_iast hx hb hK hP hD hS 1 0 rfl rfl (lj4 hg).1 d_Ke_learn_64 (fun H locs hP hD hS => ?_)
  have hP : va_P (dC, dI) clsL [(h0, .inr (1, [.ref a_code, .ref a_slots])), (a_code, .inl (cI, 162, .inl (upd ((f_Ke_writeJoins ((f_Ke_writeJoins ((f_Ke_writeJoins ((f_Ke_writeJoins g_code (x_p0 * 18) 4 x_p1).2) ((f_Ke_writeJoins g_code (x_p0 * 18) 4 x_p1).1) 5 x_p2).2) ((f_Ke_writeJoins ((f_Ke_writeJoins g_code (x_p0 * 18) 4 x_p1).2) ((f_Ke_writeJoins g_code (x_p0 * 18) 4 x_p1).1) 5 x_p2).1) 6 x_p3).2) ((f_Ke_writeJoins ((f_Ke_writeJoins ((f_Ke_writeJoins g_code (x_p0 * 18) 4 x_p1).2) ((f_Ke_writeJoins g_code (x_p0 * 18) 4 x_p1).1) 5 x_p2).2) ((f_Ke_writeJoins ((f_Ke_writeJoins g_code (x_p0 * 18) 4 x_p1).2) ((f_Ke_writeJoins g_code (x_p0 * 18) 4 x_p1).1) 5 x_p2).1) 6 x_p3).1) 7 x_p4).2) (Int32.toNatClampNeg ((f_Ke_writeJoins ((f_Ke_writeJoins ((f_Ke_writeJoins ((f_Ke_writeJoins g_code (x_p0 * 18) 4 x_p1).2) ((f_Ke_writeJoins g_code (x_p0 * 18) 4 x_p1).1) 5 x_p2).2) ((f_Ke_writeJoins ((f_Ke_writeJoins g_code (x_p0 * 18) 4 x_p1).2) ((f_Ke_writeJoins g_code (x_p0 * 18) 4 x_p1).1) 5 x_p2).1) 6 x_p3).2) ((f_Ke_writeJoins ((f_Ke_writeJoins ((f_Ke_writeJoins g_code (x_p0 * 18) 4 x_p1).2) ((f_Ke_writeJoins g_code (x_p0 * 18) 4 x_p1).1) 5 x_p2).2) ((f_Ke_writeJoins ((f_Ke_writeJoins g_code (x_p0 * 18) 4 x_p1).2) ((f_Ke_writeJoins g_code (x_p0 * 18) 4 x_p1).1) 5 x_p2).1) 6 x_p3).1) 7 x_p4).1)) (f_Ke_instruction 2 6 7))))] H := hP
  have hD : va_D A [(h0, .inr (1, [.ref a_code, .ref a_slots])), (a_code, .inl (cI, 162, .inl (upd ((f_Ke_writeJoins ((f_Ke_writeJoins ((f_Ke_writeJoins ((f_Ke_writeJoins g_code (x_p0 * 18) 4 x_p1).2) ((f_Ke_writeJoins g_code (x_p0 * 18) 4 x_p1).1) 5 x_p2).2) ((f_Ke_writeJoins ((f_Ke_writeJoins g_code (x_p0 * 18) 4 x_p1).2) ((f_Ke_writeJoins g_code (x_p0 * 18) 4 x_p1).1) 5 x_p2).1) 6 x_p3).2) ((f_Ke_writeJoins ((f_Ke_writeJoins ((f_Ke_writeJoins g_code (x_p0 * 18) 4 x_p1).2) ((f_Ke_writeJoins g_code (x_p0 * 18) 4 x_p1).1) 5 x_p2).2) ((f_Ke_writeJoins ((f_Ke_writeJoins g_code (x_p0 * 18) 4 x_p1).2) ((f_Ke_writeJoins g_code (x_p0 * 18) 4 x_p1).1) 5 x_p2).1) 6 x_p3).1) 7 x_p4).2) (Int32.toNatClampNeg ((f_Ke_writeJoins ((f_Ke_writeJoins ((f_Ke_writeJoins ((f_Ke_writeJoins g_code (x_p0 * 18) 4 x_p1).2) ((f_Ke_writeJoins g_code (x_p0 * 18) 4 x_p1).1) 5 x_p2).2) ((f_Ke_writeJoins ((f_Ke_writeJoins g_code (x_p0 * 18) 4 x_p1).2) ((f_Ke_writeJoins g_code (x_p0 * 18) 4 x_p1).1) 5 x_p2).1) 6 x_p3).2) ((f_Ke_writeJoins ((f_Ke_writeJoins ((f_Ke_writeJoins g_code (x_p0 * 18) 4 x_p1).2) ((f_Ke_writeJoins g_code (x_p0 * 18) 4 x_p1).1) 5 x_p2).2) ((f_Ke_writeJoins ((f_Ke_writeJoins g_code (x_p0 * 18) 4 x_p1).2) ((f_Ke_writeJoins g_code (x_p0 * 18) 4 x_p1).1) 5 x_p2).1) 6 x_p3).1) 7 x_p4).1)) (f_Ke_instruction 2 6 7))))] := hD
  refine lv_aload_n hx hb d_Ke_learn_65 rfl (lv_at hl 1 rfl) ?_
  refine va_get (D := (dC, dI)) (ci := 1) (v := .ref a_code) (C := "LabelledCore$Kernel") (T := T_Ke) (N := 2) hx hb hts in_Ke hown hK hP 0 rfl rfl 0 (by decide) (hts _ wm_110) (fun _ h9 => h9) rfl d_Ke_learn_66 ?_
  refine lv_iload hx hb d_Ke_learn_69 (lv_at hl 0 rfl) ?_
  refine lv_iconst (v := 1) hx hb d_Ke_learn_71 (by decide) ?_
  refine lv_iadd hx hb d_Ke_learn_72 ?_
  refine lv_iconst (v := 0) hx hb d_Ke_learn_73 (by decide) ?_
  refine lv_iconst (v := 0) hx hb d_Ke_learn_74 (by decide) ?_
  refine lv_iconst (v := 0) hx hb d_Ke_learn_75 (by decide) ?_
  have hPc := hP.sub (ws' := []) [] rfl
  refine W.callR ((W.runS (As := [.int 0, .int 0, .int 0]) (rest := [.int ((f_Ke_writeJoins ((f_Ke_writeJoins ((f_Ke_writeJoins ((f_Ke_writeJoins g_code (x_p0 * 18) 4 x_p1).2) ((f_Ke_writeJoins g_code (x_p0 * 18) 4 x_p1).1) 5 x_p2).2) ((f_Ke_writeJoins ((f_Ke_writeJoins g_code (x_p0 * 18) 4 x_p1).2) ((f_Ke_writeJoins g_code (x_p0 * 18) 4 x_p1).1) 5 x_p2).1) 6 x_p3).2) ((f_Ke_writeJoins ((f_Ke_writeJoins ((f_Ke_writeJoins g_code (x_p0 * 18) 4 x_p1).2) ((f_Ke_writeJoins g_code (x_p0 * 18) 4 x_p1).1) 5 x_p2).2) ((f_Ke_writeJoins ((f_Ke_writeJoins g_code (x_p0 * 18) 4 x_p1).2) ((f_Ke_writeJoins g_code (x_p0 * 18) 4 x_p1).1) 5 x_p2).1) 6 x_p3).1) 7 x_p4).1 + 1), .ref a_code]) ⟨hx, hb, hml, hown, hts⟩ (ct_Ke_instruction l dC dI cI 0 0 0) (va_cwS 3 hts (gS wm_196 wm_197 wm_39 wm_198) rfl rfl rfl (by decide +kernel) ⟨Nat.le_of_ble_eq_true rfl, Nat.le_of_ble_eq_true rfl⟩) ⟨pcR_blind, pcR_pre hPc hK⟩ rfl rfl hl.1 rfl (lv_room (Nat.le_of_ble_eq_true rfl)) d_Ke_learn_76 ⟨Nat.le_of_ble_eq_true rfl, Nat.le_of_ble_eq_true rfl⟩)) ?_
  refine W.eq (g2 := F0 m 79 ls [.int (f_Ke_instruction 0 0 0), .int ((f_Ke_writeJoins ((f_Ke_writeJoins ((f_Ke_writeJoins ((f_Ke_writeJoins g_code (x_p0 * 18) 4 x_p1).2) ((f_Ke_writeJoins g_code (x_p0 * 18) 4 x_p1).1) 5 x_p2).2) ((f_Ke_writeJoins ((f_Ke_writeJoins g_code (x_p0 * 18) 4 x_p1).2) ((f_Ke_writeJoins g_code (x_p0 * 18) 4 x_p1).1) 5 x_p2).1) 6 x_p3).2) ((f_Ke_writeJoins ((f_Ke_writeJoins ((f_Ke_writeJoins g_code (x_p0 * 18) 4 x_p1).2) ((f_Ke_writeJoins g_code (x_p0 * 18) 4 x_p1).1) 5 x_p2).2) ((f_Ke_writeJoins ((f_Ke_writeJoins g_code (x_p0 * 18) 4 x_p1).2) ((f_Ke_writeJoins g_code (x_p0 * 18) 4 x_p1).1) 5 x_p2).1) 6 x_p3).1) 7 x_p4).1 + 1), .ref a_code]) rfl ?_
  refine va_iast hx hb hK hP hD hS 1 0 rfl rfl (lj4 hg).2 d_Ke_learn_79 (fun H locs hP hD hS => ?_)
  have hP : va_P (dC, dI) clsL [(h0, .inr (1, [.ref a_code, .ref a_slots])), (a_code, .inl (cI, 162, .inl (upd (upd ((f_Ke_writeJoins ((f_Ke_writeJoins ((f_Ke_writeJoins ((f_Ke_writeJoins g_code (x_p0 * 18) 4 x_p1).2) ((f_Ke_writeJoins g_code (x_p0 * 18) 4 x_p1).1) 5 x_p2).2) ((f_Ke_writeJoins ((f_Ke_writeJoins g_code (x_p0 * 18) 4 x_p1).2) ((f_Ke_writeJoins g_code (x_p0 * 18) 4 x_p1).1) 5 x_p2).1) 6 x_p3).2) ((f_Ke_writeJoins ((f_Ke_writeJoins ((f_Ke_writeJoins g_code (x_p0 * 18) 4 x_p1).2) ((f_Ke_writeJoins g_code (x_p0 * 18) 4 x_p1).1) 5 x_p2).2) ((f_Ke_writeJoins ((f_Ke_writeJoins g_code (x_p0 * 18) 4 x_p1).2) ((f_Ke_writeJoins g_code (x_p0 * 18) 4 x_p1).1) 5 x_p2).1) 6 x_p3).1) 7 x_p4).2) (Int32.toNatClampNeg ((f_Ke_writeJoins ((f_Ke_writeJoins ((f_Ke_writeJoins ((f_Ke_writeJoins g_code (x_p0 * 18) 4 x_p1).2) ((f_Ke_writeJoins g_code (x_p0 * 18) 4 x_p1).1) 5 x_p2).2) ((f_Ke_writeJoins ((f_Ke_writeJoins g_code (x_p0 * 18) 4 x_p1).2) ((f_Ke_writeJoins g_code (x_p0 * 18) 4 x_p1).1) 5 x_p2).1) 6 x_p3).2) ((f_Ke_writeJoins ((f_Ke_writeJoins ((f_Ke_writeJoins g_code (x_p0 * 18) 4 x_p1).2) ((f_Ke_writeJoins g_code (x_p0 * 18) 4 x_p1).1) 5 x_p2).2) ((f_Ke_writeJoins ((f_Ke_writeJoins g_code (x_p0 * 18) 4 x_p1).2) ((f_Ke_writeJoins g_code (x_p0 * 18) 4 x_p1).1) 5 x_p2).1) 6 x_p3).1) 7 x_p4).1)) (f_Ke_instruction 2 6 7)) (Int32.toNatClampNeg ((f_Ke_writeJoins ((f_Ke_writeJoins ((f_Ke_writeJoins ((f_Ke_writeJoins g_code (x_p0 * 18) 4 x_p1).2) ((f_Ke_writeJoins g_code (x_p0 * 18) 4 x_p1).1) 5 x_p2).2) ((f_Ke_writeJoins ((f_Ke_writeJoins g_code (x_p0 * 18) 4 x_p1).2) ((f_Ke_writeJoins g_code (x_p0 * 18) 4 x_p1).1) 5 x_p2).1) 6 x_p3).2) ((f_Ke_writeJoins ((f_Ke_writeJoins ((f_Ke_writeJoins g_code (x_p0 * 18) 4 x_p1).2) ((f_Ke_writeJoins g_code (x_p0 * 18) 4 x_p1).1) 5 x_p2).2) ((f_Ke_writeJoins ((f_Ke_writeJoins g_code (x_p0 * 18) 4 x_p1).2) ((f_Ke_writeJoins g_code (x_p0 * 18) 4 x_p1).1) 5 x_p2).1) 6 x_p3).1) 7 x_p4).1 + 1)) (f_Ke_instruction 0 0 0))))] H := hP
  have hD : va_D A [(h0, .inr (1, [.ref a_code, .ref a_slots])), (a_code, .inl (cI, 162, .inl (upd (upd ((f_Ke_writeJoins ((f_Ke_writeJoins ((f_Ke_writeJoins ((f_Ke_writeJoins g_code (x_p0 * 18) 4 x_p1).2) ((f_Ke_writeJoins g_code (x_p0 * 18) 4 x_p1).1) 5 x_p2).2) ((f_Ke_writeJoins ((f_Ke_writeJoins g_code (x_p0 * 18) 4 x_p1).2) ((f_Ke_writeJoins g_code (x_p0 * 18) 4 x_p1).1) 5 x_p2).1) 6 x_p3).2) ((f_Ke_writeJoins ((f_Ke_writeJoins ((f_Ke_writeJoins g_code (x_p0 * 18) 4 x_p1).2) ((f_Ke_writeJoins g_code (x_p0 * 18) 4 x_p1).1) 5 x_p2).2) ((f_Ke_writeJoins ((f_Ke_writeJoins g_code (x_p0 * 18) 4 x_p1).2) ((f_Ke_writeJoins g_code (x_p0 * 18) 4 x_p1).1) 5 x_p2).1) 6 x_p3).1) 7 x_p4).2) (Int32.toNatClampNeg ((f_Ke_writeJoins ((f_Ke_writeJoins ((f_Ke_writeJoins ((f_Ke_writeJoins g_code (x_p0 * 18) 4 x_p1).2) ((f_Ke_writeJoins g_code (x_p0 * 18) 4 x_p1).1) 5 x_p2).2) ((f_Ke_writeJoins ((f_Ke_writeJoins g_code (x_p0 * 18) 4 x_p1).2) ((f_Ke_writeJoins g_code (x_p0 * 18) 4 x_p1).1) 5 x_p2).1) 6 x_p3).2) ((f_Ke_writeJoins ((f_Ke_writeJoins ((f_Ke_writeJoins g_code (x_p0 * 18) 4 x_p1).2) ((f_Ke_writeJoins g_code (x_p0 * 18) 4 x_p1).1) 5 x_p2).2) ((f_Ke_writeJoins ((f_Ke_writeJoins g_code (x_p0 * 18) 4 x_p1).2) ((f_Ke_writeJoins g_code (x_p0 * 18) 4 x_p1).1) 5 x_p2).1) 6 x_p3).1) 7 x_p4).1)) (f_Ke_instruction 2 6 7)) (Int32.toNatClampNeg ((f_Ke_writeJoins ((f_Ke_writeJoins ((f_Ke_writeJoins ((f_Ke_writeJoins g_code (x_p0 * 18) 4 x_p1).2) ((f_Ke_writeJoins g_code (x_p0 * 18) 4 x_p1).1) 5 x_p2).2) ((f_Ke_writeJoins ((f_Ke_writeJoins g_code (x_p0 * 18) 4 x_p1).2) ((f_Ke_writeJoins g_code (x_p0 * 18) 4 x_p1).1) 5 x_p2).1) 6 x_p3).2) ((f_Ke_writeJoins ((f_Ke_writeJoins ((f_Ke_writeJoins g_code (x_p0 * 18) 4 x_p1).2) ((f_Ke_writeJoins g_code (x_p0 * 18) 4 x_p1).1) 5 x_p2).2) ((f_Ke_writeJoins ((f_Ke_writeJoins g_code (x_p0 * 18) 4 x_p1).2) ((f_Ke_writeJoins g_code (x_p0 * 18) 4 x_p1).1) 5 x_p2).1) 6 x_p3).1) 7 x_p4).1 + 1)) (f_Ke_instruction 0 0 0))))] := hD
  have ef : (f_Ke_learn g_code x_p0 x_p1 x_p2 x_p3 x_p4) = ((upd (upd ((f_Ke_writeJoins ((f_Ke_writeJoins ((f_Ke_writeJoins ((f_Ke_writeJoins g_code (x_p0 * 18) 4 x_p1).2) ((f_Ke_writeJoins g_code (x_p0 * 18) 4 x_p1).1) 5 x_p2).2) ((f_Ke_writeJoins ((f_Ke_writeJoins g_code (x_p0 * 18) 4 x_p1).2) ((f_Ke_writeJoins g_code (x_p0 * 18) 4 x_p1).1) 5 x_p2).1) 6 x_p3).2) ((f_Ke_writeJoins ((f_Ke_writeJoins ((f_Ke_writeJoins g_code (x_p0 * 18) 4 x_p1).2) ((f_Ke_writeJoins g_code (x_p0 * 18) 4 x_p1).1) 5 x_p2).2) ((f_Ke_writeJoins ((f_Ke_writeJoins g_code (x_p0 * 18) 4 x_p1).2) ((f_Ke_writeJoins g_code (x_p0 * 18) 4 x_p1).1) 5 x_p2).1) 6 x_p3).1) 7 x_p4).2) (Int32.toNatClampNeg ((f_Ke_writeJoins ((f_Ke_writeJoins ((f_Ke_writeJoins ((f_Ke_writeJoins g_code (x_p0 * 18) 4 x_p1).2) ((f_Ke_writeJoins g_code (x_p0 * 18) 4 x_p1).1) 5 x_p2).2) ((f_Ke_writeJoins ((f_Ke_writeJoins g_code (x_p0 * 18) 4 x_p1).2) ((f_Ke_writeJoins g_code (x_p0 * 18) 4 x_p1).1) 5 x_p2).1) 6 x_p3).2) ((f_Ke_writeJoins ((f_Ke_writeJoins ((f_Ke_writeJoins g_code (x_p0 * 18) 4 x_p1).2) ((f_Ke_writeJoins g_code (x_p0 * 18) 4 x_p1).1) 5 x_p2).2) ((f_Ke_writeJoins ((f_Ke_writeJoins g_code (x_p0 * 18) 4 x_p1).2) ((f_Ke_writeJoins g_code (x_p0 * 18) 4 x_p1).1) 5 x_p2).1) 6 x_p3).1) 7 x_p4).1)) (f_Ke_instruction 2 6 7)) (Int32.toNatClampNeg ((f_Ke_writeJoins ((f_Ke_writeJoins ((f_Ke_writeJoins ((f_Ke_writeJoins g_code (x_p0 * 18) 4 x_p1).2) ((f_Ke_writeJoins g_code (x_p0 * 18) 4 x_p1).1) 5 x_p2).2) ((f_Ke_writeJoins ((f_Ke_writeJoins g_code (x_p0 * 18) 4 x_p1).2) ((f_Ke_writeJoins g_code (x_p0 * 18) 4 x_p1).1) 5 x_p2).1) 6 x_p3).2) ((f_Ke_writeJoins ((f_Ke_writeJoins ((f_Ke_writeJoins g_code (x_p0 * 18) 4 x_p1).2) ((f_Ke_writeJoins g_code (x_p0 * 18) 4 x_p1).1) 5 x_p2).2) ((f_Ke_writeJoins ((f_Ke_writeJoins g_code (x_p0 * 18) 4 x_p1).2) ((f_Ke_writeJoins g_code (x_p0 * 18) 4 x_p1).1) 5 x_p2).1) 6 x_p3).1) 7 x_p4).1 + 1)) (f_Ke_instruction 0 0 0)) : (Nat → Int32)) := rfl
  have hP9 := hP.sub (ws' := [(h0, .inr (1, [.ref a_code, .ref a_slots])), (a_code, .inl (cI, 162, .inl (upd (upd ((f_Ke_writeJoins ((f_Ke_writeJoins ((f_Ke_writeJoins ((f_Ke_writeJoins g_code (x_p0 * 18) 4 x_p1).2) ((f_Ke_writeJoins g_code (x_p0 * 18) 4 x_p1).1) 5 x_p2).2) ((f_Ke_writeJoins ((f_Ke_writeJoins g_code (x_p0 * 18) 4 x_p1).2) ((f_Ke_writeJoins g_code (x_p0 * 18) 4 x_p1).1) 5 x_p2).1) 6 x_p3).2) ((f_Ke_writeJoins ((f_Ke_writeJoins ((f_Ke_writeJoins g_code (x_p0 * 18) 4 x_p1).2) ((f_Ke_writeJoins g_code (x_p0 * 18) 4 x_p1).1) 5 x_p2).2) ((f_Ke_writeJoins ((f_Ke_writeJoins g_code (x_p0 * 18) 4 x_p1).2) ((f_Ke_writeJoins g_code (x_p0 * 18) 4 x_p1).1) 5 x_p2).1) 6 x_p3).1) 7 x_p4).2) (Int32.toNatClampNeg ((f_Ke_writeJoins ((f_Ke_writeJoins ((f_Ke_writeJoins ((f_Ke_writeJoins g_code (x_p0 * 18) 4 x_p1).2) ((f_Ke_writeJoins g_code (x_p0 * 18) 4 x_p1).1) 5 x_p2).2) ((f_Ke_writeJoins ((f_Ke_writeJoins g_code (x_p0 * 18) 4 x_p1).2) ((f_Ke_writeJoins g_code (x_p0 * 18) 4 x_p1).1) 5 x_p2).1) 6 x_p3).2) ((f_Ke_writeJoins ((f_Ke_writeJoins ((f_Ke_writeJoins g_code (x_p0 * 18) 4 x_p1).2) ((f_Ke_writeJoins g_code (x_p0 * 18) 4 x_p1).1) 5 x_p2).2) ((f_Ke_writeJoins ((f_Ke_writeJoins g_code (x_p0 * 18) 4 x_p1).2) ((f_Ke_writeJoins g_code (x_p0 * 18) 4 x_p1).1) 5 x_p2).1) 6 x_p3).1) 7 x_p4).1)) (f_Ke_instruction 2 6 7)) (Int32.toNatClampNeg ((f_Ke_writeJoins ((f_Ke_writeJoins ((f_Ke_writeJoins ((f_Ke_writeJoins g_code (x_p0 * 18) 4 x_p1).2) ((f_Ke_writeJoins g_code (x_p0 * 18) 4 x_p1).1) 5 x_p2).2) ((f_Ke_writeJoins ((f_Ke_writeJoins g_code (x_p0 * 18) 4 x_p1).2) ((f_Ke_writeJoins g_code (x_p0 * 18) 4 x_p1).1) 5 x_p2).1) 6 x_p3).2) ((f_Ke_writeJoins ((f_Ke_writeJoins ((f_Ke_writeJoins g_code (x_p0 * 18) 4 x_p1).2) ((f_Ke_writeJoins g_code (x_p0 * 18) 4 x_p1).1) 5 x_p2).2) ((f_Ke_writeJoins ((f_Ke_writeJoins g_code (x_p0 * 18) 4 x_p1).2) ((f_Ke_writeJoins g_code (x_p0 * 18) 4 x_p1).1) 5 x_p2).1) 6 x_p3).1) 7 x_p4).1 + 1)) (f_Ke_instruction 0 0 0))))]) [0, 1] rfl
  have hD9 := hD.sub (ws' := [(h0, .inr (1, [.ref a_code, .ref a_slots])), (a_code, .inl (cI, 162, .inl (upd (upd ((f_Ke_writeJoins ((f_Ke_writeJoins ((f_Ke_writeJoins ((f_Ke_writeJoins g_code (x_p0 * 18) 4 x_p1).2) ((f_Ke_writeJoins g_code (x_p0 * 18) 4 x_p1).1) 5 x_p2).2) ((f_Ke_writeJoins ((f_Ke_writeJoins g_code (x_p0 * 18) 4 x_p1).2) ((f_Ke_writeJoins g_code (x_p0 * 18) 4 x_p1).1) 5 x_p2).1) 6 x_p3).2) ((f_Ke_writeJoins ((f_Ke_writeJoins ((f_Ke_writeJoins g_code (x_p0 * 18) 4 x_p1).2) ((f_Ke_writeJoins g_code (x_p0 * 18) 4 x_p1).1) 5 x_p2).2) ((f_Ke_writeJoins ((f_Ke_writeJoins g_code (x_p0 * 18) 4 x_p1).2) ((f_Ke_writeJoins g_code (x_p0 * 18) 4 x_p1).1) 5 x_p2).1) 6 x_p3).1) 7 x_p4).2) (Int32.toNatClampNeg ((f_Ke_writeJoins ((f_Ke_writeJoins ((f_Ke_writeJoins ((f_Ke_writeJoins g_code (x_p0 * 18) 4 x_p1).2) ((f_Ke_writeJoins g_code (x_p0 * 18) 4 x_p1).1) 5 x_p2).2) ((f_Ke_writeJoins ((f_Ke_writeJoins g_code (x_p0 * 18) 4 x_p1).2) ((f_Ke_writeJoins g_code (x_p0 * 18) 4 x_p1).1) 5 x_p2).1) 6 x_p3).2) ((f_Ke_writeJoins ((f_Ke_writeJoins ((f_Ke_writeJoins g_code (x_p0 * 18) 4 x_p1).2) ((f_Ke_writeJoins g_code (x_p0 * 18) 4 x_p1).1) 5 x_p2).2) ((f_Ke_writeJoins ((f_Ke_writeJoins g_code (x_p0 * 18) 4 x_p1).2) ((f_Ke_writeJoins g_code (x_p0 * 18) 4 x_p1).1) 5 x_p2).1) 6 x_p3).1) 7 x_p4).1)) (f_Ke_instruction 2 6 7)) (Int32.toNatClampNeg ((f_Ke_writeJoins ((f_Ke_writeJoins ((f_Ke_writeJoins ((f_Ke_writeJoins g_code (x_p0 * 18) 4 x_p1).2) ((f_Ke_writeJoins g_code (x_p0 * 18) 4 x_p1).1) 5 x_p2).2) ((f_Ke_writeJoins ((f_Ke_writeJoins g_code (x_p0 * 18) 4 x_p1).2) ((f_Ke_writeJoins g_code (x_p0 * 18) 4 x_p1).1) 5 x_p2).1) 6 x_p3).2) ((f_Ke_writeJoins ((f_Ke_writeJoins ((f_Ke_writeJoins g_code (x_p0 * 18) 4 x_p1).2) ((f_Ke_writeJoins g_code (x_p0 * 18) 4 x_p1).1) 5 x_p2).2) ((f_Ke_writeJoins ((f_Ke_writeJoins g_code (x_p0 * 18) 4 x_p1).2) ((f_Ke_writeJoins g_code (x_p0 * 18) 4 x_p1).1) 5 x_p2).1) 6 x_p3).1) 7 x_p4).1 + 1)) (f_Ke_instruction 0 0 0))))]) [0, 1] (by decide) rfl
  exact W.vret hx hb hr (fun t ht hW => ⟨⟨(), rfl, trivial, by rw [ef, ht]; exact hP9, va_K.moved hW.alike hK, by rw [ef]; exact hD9⟩, hS.F ht⟩) hS.2.2 d_Ke_learn_80
