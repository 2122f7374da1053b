
theorem fill_lt {n i : Nat} {y : Int32} (hn : n < 2 ^ 31) (e : y = nI i) (h1 : i ≤ n) (hc : ¬ (Int32.ofNat n) ≤ y) : i < n := by
  rcases Nat.lt_or_ge i n with h | h
  · exact h
  · exact absurd (show Int32.ofNat n ≤ y by rw [e]; exact nI_le h (by omega)) hc
def lp_Ar_fill2_5 (x_p1 : Int32) (n_p0 : Nat) : Nat → (Int32) → (Nat → Int32) → (Nat → Int32)
  | 0, _, _ => (fun _ => 0)
  | fu + 1, y_2, w_g_p0 =>
    if (Int32.ofNat n_p0) ≤ y_2 then
      w_g_p0
    else
      (lp_Ar_fill2_5 x_p1 n_p0 fu (y_2 + 1) (upd w_g_p0 (Int32.toNatClampNeg y_2) x_p1))
def f_Ar_fill2 (g_p0 : Nat → Int32) (x_p1 : Int32) (n_p0 : Nat) : (Nat → Int32) :=
  (lp_Ar_fill2_5 x_p1 n_p0 (n_p0 + 1) 0 g_p0)
set_option maxHeartbeats 4000000 in
set_option maxRecDepth 100000 in
theorem ct_Ar_fill2 (l : Launch) (dC : Nat → ClassId) (dI : Nat → Nat → Nat) (cI : ClassId) (sz : Nat) (h_p0 : Nat) (n_p0 : Nat) (g_p0 : Nat → Int32) (x_p1 : Int32) (hn : n_p0 < 2 ^ 31) : Met l y_Ar_fill2 w_Ar_fill2 ({ frames := 0, cells := 0, slots := 0, locals := 0 }) (pcW dC dI cI [(h_p0, .inl (cI, n_p0, .inl g_p0))] sz [.ref h_p0, .int x_p1]) (va_Qv (fun _ : Unit => True) (fun _ t => atW dC dI cI [(h_p0, .inl (cI, n_p0, .inl (f_Ar_fill2 g_p0 x_p1 n_p0)))] (va_A [(h_p0, .inl (cI, n_p0, .inl g_p0))] sz) t) (va_A [(h_p0, .inl (cI, n_p0, .inl g_p0))] sz)) 0 0 (va_A [(h_p0, .inl (cI, n_p0, .inl g_p0))] sz) := by
  refine Met.ofW (cc := c_Ar_fill2) (maxL := 4) (ret := none) (by decide) rfl ?_
  intro p e s m args below meth c s₁ B hml hv
  obtain ⟨rfl, hsz, hP, hK, hD0⟩ := hv
  have hx := B.exec
  have hb := B.bytes
  have hr := B.returns
  have hts : ∀ w ∈ wG, w.before _ s = true := fun w h => atoms_spec (ws := w_Ar_fill2) B.pre w (List.mem_cons_of_mem _ h)
  have hown : s.vm.findClass "java/util/Arrays" = some m.cls := findClass_of_methodNamed B.named
  have hlocks := B.notSynchronized
  subst hsz
  have hD := hD0.self (sz := s.heap.size)
  generalize hAe : va_A [(h_p0, .inl (cI, n_p0, .inl g_p0))] s.heap.size = A at hD ⊢
  have hA : ∀ q : Nat, s.heap.size ≤ q → A q := fun q h => by rw [← hAe]; exact Or.inr h
  have hS : va_S A s.heap s.heap [] := va_S.rf
  have hP : va_P (dC, dI) clsL [(h_p0, .inl (cI, n_p0, .inl g_p0))] s.heap := hP
  have hl := lv_entry ([.ref h_p0, .int x_p1]) (n := 4) (Nat.le_of_ble_eq_true rfl)
  rw [lg_entry_eq]
  generalize (lg_sl ([.ref h_p0, .int x_p1]) ++ List.replicate (4 - (lg_sl ([.ref h_p0, .int x_p1])).length) Slot.unset).toArray = ls at hl ⊢
  have hl : lv_has ls 4 [(0, .ref h_p0), (1, .int x_p1)] := hl
  refine lv_iconst (v := 0) hx hb d_Ar_fill2_0 (by decide) ?_
  refine lv_istore_n (lv' := [(2, .int 0), (0, .ref h_p0), (1, .int x_p1)]) hx hb d_Ar_fill2_1 rfl hl (by decide) rfl (fun ls hl => ?_)
  refine lv_aload_n hx hb d_Ar_fill2_2 rfl (lv_at hl 1 rfl) ?_
  refine va_alen hx hb hK hP 0 0 rfl rfl (v := (Int32.ofNat n_p0)) rfl d_Ar_fill2_3 ?_
  refine lv_istore_n (lv' := [(3, .int (Int32.ofNat n_p0)), (2, .int 0), (0, .ref h_p0), (1, .int x_p1)]) hx hb d_Ar_fill2_4 rfl hl (by decide) rfl (fun ls hl => ?_)
  have hloop_5 : ∀ (fu : Nat) (y_2 : Int32) (w_g_p0 : Nat → Int32), ((f_Ar_fill2 g_p0 x_p1 n_p0) = (lp_Ar_fill2_5 x_p1 n_p0 fu y_2 w_g_p0)) → (∃ i : Nat, y_2 = nI i ∧ i ≤ n_p0 ∧ n_p0 + 1 ≤ i + fu) → ∀ (H : Heap) (locs : List Loc), va_P (dC, dI) clsL [(h_p0, .inl (cI, n_p0, .inl w_g_p0))] H → va_D A [(h_p0, .inl (cI, n_p0, .inl w_g_p0))] → va_S A s.heap H locs → ∀ (ls : Array Slot), lv_has ls 4 [(3, .int (Int32.ofNat n_p0)), (2, .int y_2), (0, .ref h_p0), (1, .int x_p1)] → W p l e (headSpec w_Ar_fill2 ({ frames := 0, cells := 0, slots := 0, locals := 0 })).room s m ([.ref h_p0, .int x_p1] : List Value).toArray below meth c H locs 0 0 (MQ below (va_Qv (fun _ : Unit => True) (fun _ t => atW dC dI cI [(h_p0, .inl (cI, n_p0, .inl (f_Ar_fill2 g_p0 x_p1 n_p0)))] A t) A) ([.ref h_p0, .int x_p1] : List Value).toArray s 0 0 A) (F0 m 5 ls []) := by
    intro fu
    induction fu with
    | zero =>
      intro y_2 w_g_p0 he_5 hinv
      exact absurd hinv (by rintro ⟨i, -, h1, h2⟩; omega)
    | succ fu ih_5 =>
      intro y_2 w_g_p0 he_5 hinv H locs hP hD hS ls hl
      refine lv_iload_n hx hb d_Ar_fill2_5 rfl (lv_at hl 1 rfl) ?_
      refine lv_iload_n hx hb d_Ar_fill2_6 rfl (lv_at hl 0 rfl) ?_
      refine lv_icmp_ge (tgt := 20) hx hb d_Ar_fill2_7 (by decide) (fun c_1 => ?_) (fun c_1 => ?_)
      · have ef : (f_Ar_fill2 g_p0 x_p1 n_p0) = (w_g_p0 : (Nat → Int32)) := he_5.trans ((if_pos c_1).trans rfl)
        have hP9 := hP.sub (ws' := [(h_p0, .inl (cI, n_p0, .inl w_g_p0))]) [0] rfl
        have hD9 := hD.sub (ws' := [(h_p0, .inl (cI, n_p0, .inl w_g_p0))]) [0] (by decide) rfl
        exact W.vret hx hb hr (fun t ht hW => ⟨⟨(), rfl, trivial, by rw [ef, ht]; exact hP9, va_K.moved hW.alike hK, by rw [ef]; exact hD9⟩, hS.F ht⟩) hS.2.2 d_Ar_fill2_20
      · refine lv_aload_n hx hb d_Ar_fill2_10 rfl (lv_at hl 2 rfl) ?_
        refine lv_iload_n hx hb d_Ar_fill2_11 rfl (lv_at hl 1 rfl) ?_
        refine lv_iload_n hx hb d_Ar_fill2_12 rfl (lv_at hl 3 rfl) ?_
        refine va_iast hx hb hK hP hD hS 0 0 rfl rfl (by obtain ⟨i, e, h1, h2⟩ := hinv; rw [e]; exact vp_in_nI (fill_lt hn e h1 (by assumption)) hn) d_Ar_fill2_13 (fun H locs hP hD hS => ?_)
        have hP : va_P (dC, dI) clsL [(h_p0, .inl (cI, n_p0, .inl (upd w_g_p0 (Int32.toNatClampNeg y_2) x_p1)))] H := hP
        have hD : va_D A [(h_p0, .inl (cI, n_p0, .inl (upd w_g_p0 (Int32.toNatClampNeg y_2) x_p1)))] := hD
        refine lv_iinc (v := (y_2 + 1)) (lv' := [(2, .int (y_2 + 1)), (3, .int (Int32.ofNat n_p0)), (0, .ref h_p0), (1, .int x_p1)]) hx hb d_Ar_fill2_14 hl (k := 1) rfl rfl (by decide) rfl (fun ls hl => ?_)
        refine lv_goto (tgt := 5) hx hb d_Ar_fill2_17 (by decide) ?_
        have hc0 := c_1
        exact ih_5 (y_2 + 1) (upd w_g_p0 (Int32.toNatClampNeg y_2) x_p1) (he_5.trans ((if_neg c_1).trans rfl)) (by obtain ⟨i, e, h1, h2⟩ := hinv; exact ⟨i + 1, by rw [e]; exact nI_1 i, fill_lt hn e h1 hc0, by omega⟩) _ _ (hP.sub [0] rfl) (hD.sub [0] (by decide) rfl) hS ls (lv_sub hl [1, 0, 2, 3] rfl)
  exact hloop_5 (n_p0 + 1) 0 g_p0 (rfl) (⟨0, nI_0.symm, Nat.zero_le _, by omega⟩) _ _ (hP.sub [0] rfl) (hD.sub [0] (by decide) rfl) hS ls (lv_sub hl [0, 1, 2, 3] rfl)
set_option maxHeartbeats 4000000 in
set_option maxRecDepth 100000 in
theorem ct_Ba_forget (l : Launch) (dC : Nat → ClassId) (dI : Nat → Nat → Nat) (cI : ClassId) (sz : Nat) (h0 a_numbers a_labels : Nat) (n : Nat) (g_numbers : Nat → Int32) (g_labels : Nat → Int32) (hs_5_0 : (n < 2 ^ 31)) : Met l y_Ba_forget w_Ba_forget ({ frames := 1, cells := 0, slots := 0, locals := 23 }) (pcW dC dI cI [(h0, .inr (0, [.ref a_numbers, .ref a_labels])), (a_numbers, .inl (cI, n, .inl g_numbers)), (a_labels, .inl (cI, n, .inl g_labels))] sz [.ref h0]) (va_Qv (fun _ : Unit => True) (fun _ t => atW dC dI cI [(h0, .inr (0, [.ref a_numbers, .ref a_labels])), (a_numbers, .inl (cI, n, .inl (f_Ar_fill2 g_numbers 0 n))), (a_labels, .inl (cI, n, .inl (f_Ar_fill2 g_labels 0 n)))] (va_A [(h0, .inr (0, [.ref a_numbers, .ref a_labels])), (a_numbers, .inl (cI, n, .inl g_numbers)), (a_labels, .inl (cI, n, .inl g_labels))] sz) t) (va_A [(h0, .inr (0, [.ref a_numbers, .ref a_labels])), (a_numbers, .inl (cI, n, .inl g_numbers)), (a_labels, .inl (cI, n, .inl g_labels))] sz)) 0 0 (va_A [(h0, .inr (0, [.ref a_numbers, .ref a_labels])), (a_numbers, .inl (cI, n, .inl g_numbers)), (a_labels, .inl (cI, n, .inl g_labels))] sz) := by
  refine Met.ofW (cc := c_Ba_forget) (maxL := 1) (ret := none) (by decide) rfl ?_
  intro p e s m args below meth c s₁ B hml hv
  obtain ⟨rfl, hsz, hP, hK, hD0⟩ := hv
  have hx := B.exec
  have hb := B.bytes
  have hr := B.returns
  have hts : ∀ w ∈ wG, w.before _ s = true := fun w h => atoms_spec (ws := w_Ba_forget) B.pre w (List.mem_cons_of_mem _ h)
  have hown : s.vm.findClass "LabelledCore$Bank" = some m.cls := findClass_of_methodNamed B.named
  have hlocks := B.notSynchronized
  subst hsz
  have hD := hD0.self (sz := s.heap.size)
  generalize hAe : va_A [(h0, .inr (0, [.ref a_numbers, .ref a_labels])), (a_numbers, .inl (cI, n, .inl g_numbers)), (a_labels, .inl (cI, n, .inl g_labels))] s.heap.size = A at hD ⊢
  have hA : ∀ q : Nat, s.heap.size ≤ q → A q := fun q h => by rw [← hAe]; exact Or.inr h
  have hS : va_S A s.heap s.heap [] := va_S.rf
  have hP : va_P (dC, dI) clsL [(h0, .inr (0, [.ref a_numbers, .ref a_labels])), (a_numbers, .inl (cI, n, .inl g_numbers)), (a_labels, .inl (cI, n, .inl g_labels))] s.heap := hP
  have hl := lv_entry ([.ref h0]) (n := 1) (Nat.le_of_ble_eq_true rfl)
  rw [lg_entry_eq]
  generalize (lg_sl ([.ref h0]) ++ List.replicate (1 - (lg_sl ([.ref h0])).length) Slot.unset).toArray = ls at hl ⊢
  have hl : lv_has ls 1 [(0, .ref h0)] := hl
  refine lv_aload_n hx hb d_Ba_forget_0 rfl (lv_at hl 0 rfl) ?_
  refine va_get (D := (dC, dI)) (ci := 0) (v := .ref a_numbers) (C := "LabelledCore$Bank") (T := T_Ba) (N := 2) hx hb hts in_Ba hown hK hP 0 rfl rfl 0 (by decide) (hts _ wm_75) (fun _ h9 => h9) rfl d_Ba_forget_1 ?_
  refine lv_iconst (v := 0) hx hb d_Ba_forget_4 (by decide) ?_
  have hPc := hP.sub (ws' := [(a_numbers, .inl (cI, n, .inl g_numbers))]) [1] rfl
  have hDc := hD.sub (ws' := [(a_numbers, .inl (cI, n, .inl g_numbers))]) [1] (by decide) rfl
  have hFc := va_free (wc := [(a_numbers, .inl (cI, n, .inl g_numbers))]) hD hS hA [1] rfl
  refine va_callv (va_runS (As := [.ref a_numbers, .int 0]) (rest := []) ⟨hx, hb, hml, hown, hts⟩ (ct_Ar_fill2 l dC dI cI s.heap.size a_numbers n g_numbers 0 hs_5_0) (va_cwS 2 hts (gS wm_267 wm_268 wm_43 wm_269) rfl rfl rfl (by decide +kernel) ⟨Nat.le_of_ble_eq_true rfl, Nat.le_of_ble_eq_true rfl⟩) ⟨pcW_blind, pcW_pre hPc hK hDc⟩ rfl rfl hl.1 rfl (lv_room (Nat.le_of_ble_eq_true rfl)) d_Ba_forget_5 ⟨Nat.le_of_ble_eq_true rfl, Nat.le_of_ble_eq_true rfl⟩) hS (fun q _ h => hFc q h) hFc (fun u t H1 locs ht hvm hw hB hz1 hk1 hS => ?_)
  obtain ⟨hP1, -, hD1⟩ := hB
  rw [ht] at hP1
  obtain ⟨hP, hD⟩ := va_join (wr := [(h0, .inr (0, [.ref a_numbers, .ref a_labels])), (a_labels, .inl (cI, n, .inl g_labels))]) (w1 := [(a_numbers, .inl (cI, n, .inl (f_Ar_fill2 g_numbers 0 n)))]) hP hD [1] [0, 2] rfl rfl (by decide) (by decide) hk1 hFc hP1 hD1
  clear hFc hDc hPc hP1 hD1 hk1 hz1 hvm ht
  generalize H1 = H at hP hS ⊢
  have hP : va_P (dC, dI) clsL [(h0, .inr (0, [.ref a_numbers, .ref a_labels])), (a_labels, .inl (cI, n, .inl g_labels)), (a_numbers, .inl (cI, n, .inl (f_Ar_fill2 g_numbers 0 n)))] H := hP
  have hD : va_D A [(h0, .inr (0, [.ref a_numbers, .ref a_labels])), (a_labels, .inl (cI, n, .inl g_labels)), (a_numbers, .inl (cI, n, .inl (f_Ar_fill2 g_numbers 0 n)))] := hD
  refine lv_aload_n hx hb d_Ba_forget_8 rfl (lv_at hl 0 rfl) ?_
  refine va_get (D := (dC, dI)) (ci := 0) (v := .ref a_labels) (C := "LabelledCore$Bank") (T := T_Ba) (N := 2) hx hb hts in_Ba hown hK hP 0 rfl rfl 1 (by decide) (hts _ wm_76) (fun _ h9 => h9) rfl d_Ba_forget_9 ?_
  refine lv_iconst (v := 0) hx hb d_Ba_forget_12 (by decide) ?_
  have hPc := hP.sub (ws' := [(a_labels, .inl (cI, n, .inl g_labels))]) [1] rfl
  have hDc := hD.sub (ws' := [(a_labels, .inl (cI, n, .inl g_labels))]) [1] (by decide) rfl
  have hFc := va_free (wc := [(a_labels, .inl (cI, n, .inl g_labels))]) hD hS hA [1] rfl
  refine va_callv (va_runS (As := [.ref a_labels, .int 0]) (rest := []) ⟨hx, hb, hml, hown, hts⟩ (ct_Ar_fill2 l dC dI cI H.size a_labels n g_labels 0 hs_5_0) (va_cwS 2 hts (gS wm_267 wm_268 wm_43 wm_269) rfl rfl rfl (by decide +kernel) ⟨Nat.le_of_ble_eq_true rfl, Nat.le_of_ble_eq_true rfl⟩) ⟨pcW_blind, pcW_pre hPc hK hDc⟩ rfl rfl hl.1 rfl (lv_room (Nat.le_of_ble_eq_true rfl)) d_Ba_forget_13 ⟨Nat.le_of_ble_eq_true rfl, Nat.le_of_ble_eq_true rfl⟩) hS (fun q _ h => hFc q h) hFc (fun u t H1 locs ht hvm hw hB hz1 hk1 hS => ?_)
  obtain ⟨hP1, -, hD1⟩ := hB
  rw [ht] at hP1
  obtain ⟨hP, hD⟩ := va_join (wr := [(h0, .inr (0, [.ref a_numbers, .ref a_labels])), (a_numbers, .inl (cI, n, .inl (f_Ar_fill2 g_numbers 0 n)))]) (w1 := [(a_labels, .inl (cI, n, .inl (f_Ar_fill2 g_labels 0 n)))]) hP hD [1] [0, 2] rfl rfl (by decide) (by decide) hk1 hFc hP1 hD1
  clear hFc hDc hPc hP1 hD1 hk1 hz1 hvm ht
  generalize H1 = H at hP hS ⊢
  have hP : va_P (dC, dI) clsL [(h0, .inr (0, [.ref a_numbers, .ref a_labels])), (a_numbers, .inl (cI, n, .inl (f_Ar_fill2 g_numbers 0 n))), (a_labels, .inl (cI, n, .inl (f_Ar_fill2 g_labels 0 n)))] H := hP
  have hD : va_D A [(h0, .inr (0, [.ref a_numbers, .ref a_labels])), (a_numbers, .inl (cI, n, .inl (f_Ar_fill2 g_numbers 0 n))), (a_labels, .inl (cI, n, .inl (f_Ar_fill2 g_labels 0 n)))] := hD
  have hP9 := hP.sub (ws' := [(h0, .inr (0, [.ref a_numbers, .ref a_labels])), (a_numbers, .inl (cI, n, .inl (f_Ar_fill2 g_numbers 0 n))), (a_labels, .inl (cI, n, .inl (f_Ar_fill2 g_labels 0 n)))]) [0, 1, 2] rfl
  have hD9 := hD.sub (ws' := [(h0, .inr (0, [.ref a_numbers, .ref a_labels])), (a_numbers, .inl (cI, n, .inl (f_Ar_fill2 g_numbers 0 n))), (a_labels, .inl (cI, n, .inl (f_Ar_fill2 g_labels 0 n)))]) [0, 1, 2] (by decide) rfl
  exact W.vret hx hb hr (fun t ht hW => ⟨⟨(), rfl, trivial, by rw [ht]; exact hP9, va_K.moved hW.alike hK, hD9⟩, hS.F ht⟩) hS.2.2 d_Ba_forget_16
