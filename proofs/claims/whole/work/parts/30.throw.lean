-- what a throwing method leaves: an exception of the class X in one new cell of six slots, nothing else written
def QT (X : String) : Array Value → State → Outcome → State → Prop := fun _ st o t => ∃ (x : Addr) (ce : Cell), o = .threw x ∧ st.WarmedH t.vm ∧ st.sameButNew ({ t with vm := st.vm } : State) [] 1 6 ∧ t.heap[x]? = some ce ∧ st.vm.findClass X = some ce.cls ∧ ce.vm = .none
def MetT (l : Launch) (y : MethodName) (ws : List Cond) (rm : Room) (Pc : Array Value → State → Prop) (X : String) : Prop := MetFree l y (headSpec ws rm) Pc (fun _ _ _ _ _ => True) (QT X)
def ZT (below : List Frame) (X : String) (a : Array Value) (s : State) : State → Prop := fun t => ∃ o, t.status = .running ∧ Ended t below o ∧ QT X a s o t
theorem MetT.ofW {l : Launch} {y : MethodName} {ws ws' : List Cond} {rm : Room} {Pc : Array Value → State → Prop} {X : String} {cc : ByteArray} {maxL : Nat} {ret : Option FieldType} (hy : plainName y.cls = true) (hw : ws = Cond.code y cc maxL ret :: ws')
    (body : ∀ p e s m args below meth c s₁, BodyLoose p l y (headSpec ws rm) cc maxL ret e s m args below meth c s₁ → c.maxLocals = maxL → Pc args s →
      W p l e (headSpec ws rm).room s m args below meth c s.heap [] 0 0 (ZT below X args s) (entryFrame m args maxL)) : MetT l y ws rm Pc X := by
  refine MetFree.of_bodyS (code := cc) (maxLocals := maxL) (ret := ret) hy ?_ ?_
  · intro args s m h hn
    obtain ⟨meth, c, h1, h2, h3, h4, h5, h6, -, -⟩ := Cond.code_spec hn (atoms_spec (ws := ws) h _ (by rw [hw]; exact List.mem_cons_self))
    exact ⟨meth, c, h1, h2, h3, h4, h5, h6⟩
  · intro p e s m args below meth c s₁ B hml hP _
    have hh0 : s₁.heap = s.heap := by rw [B.state]; rfl
    obtain ⟨t, a1, o, b1, b2, b3⟩ := body p e s m args below meth c s₁ B hml hP s₁ hh0 (Stand.of_body B)
    exact ⟨t, o, a1, b1, b2, b3⟩
theorem th_end {p : Program} {l : Launch} {e : Env} {R : Room} {s : State} {m : MethodId} {args : Array Value} {below : List Frame} {meth : Method} {c : Code} {H : Heap} {cc : ByteArray} {X own : String} {ic pc : Nat} {ls : Array Slot} {q a : Nat} {names : List String} {cX : ClassId} {kX : Class}
    (hexec : p.tables.exec = Jvm.exec) (hb : c.code = cc) (htr : e.platform.stackTraces = false) (hown : s.vm.findClass own = some m.cls) (hcls : Bundle.fit X = true) (hnames : ∀ n ∈ names, Bundle.fit n = true)
    (h : ∀ w ∈ Bundle.ownAtoms own ic X names, w.before args s = true) (hX : s.vm.findClass X = some cX) (hk : s.vm.classes[cX]? = some kX) (hcell : H[a]? = some (freshCell cX kX)) (hnew : s.heap.size ≤ a)
    (hml : ls.size = c.maxLocals) (hd1 : decode cc pc = .ok (.invokespecial ic, 3)) (hd2 : decode cc (pc + 3) = .ok (.athrow, 1)) (hno : c.exceptionTable.isEmpty = true)
    (hRf : names.length + 3 < R.frames) (hRl : 1 + (13 * (names.length + 1) + 42) ≤ R.locals) (hlocks : meth.locks = false) :
    W p l e R s m args below meth c H [] 1 6 (ZT below X args s) (F0 m pc ls [.ref q, .ref a, .ref a]) := by
  intro T hT X0
  obtain ⟨U, st, hrun, hended, hW, hsame, ce, hce, hO⟩ := Stand.ctorThrowS X0 hexec htr hown hcls hnames h (fun x hx => by cases hx) hX hk (by rw [hT]; exact hcell) hnew (msg := .ref q) rfl (g := F0 m pc ls [.ref q, .ref a, .ref a]) rfl hml rfl rfl (rest := []) rfl (by rw [hb]; exact hd1) (by rw [hb]; exact hd2)
    (fun x hx => by rw [Array.isEmpty_iff.mp hno] at hx; cases hx) hRf (by simpa [JFrame.monitorRoom, Value.category] using hRl) hlocks
  exact ⟨U, st, .threw a, hrun, hended, a, ce, rfl, hW, hsame, hce, hO.cls, hO.vm⟩
def exN : List String := ["java/lang/RuntimeException", "java/lang/Exception"]
def exI : String := "java/lang/IllegalArgumentException"
def exO : String := "java/lang/IndexOutOfBoundsException"
def exLx (X : String) : List Cond := [.castable X X, .declares (Bundle.initS "java/lang/RuntimeException"), .declares (Bundle.initS "java/lang/Exception"), .declares (Bundle.initS Bundle.tN), .laysStatic Bundle.tN "UNASSIGNED_STACK" Bundle.steD, .laysStatic Bundle.tN "SUPPRESSED_SENTINEL" Bundle.listD, .isRef (.static Bundle.tN "UNASSIGNED_STACK" Bundle.steD), .isRef (.static Bundle.tN "SUPPRESSED_SENTINEL" Bundle.listD)]
theorem atI : ∀ w ∈ Bundle.ownAtoms "LabelledCore" 74 exI exN, w ∈ wG ∨ w ∈ exLx exI := by decide +kernel
theorem atO : ∀ w ∈ Bundle.ownAtoms "LabelledCore" 127 exO exN, w ∈ wG ∨ w ∈ exLx exO := by decide +kernel
theorem wt_instI : (Cond.instantiable "java/lang/IllegalArgumentException" 6) ∈ wG := by decide +kernel
theorem wt_initI : (Cond.initialized "java/lang/IllegalArgumentException") ∈ wG := by decide +kernel
theorem wt_instO : (Cond.instantiable "java/lang/IndexOutOfBoundsException" 6) ∈ wG := by decide +kernel
theorem wt_initO : (Cond.initialized "java/lang/IndexOutOfBoundsException") ∈ wG := by decide +kernel
/-- a static that holds a reference or null, its cell outside A -/
def stF (O f d : String) (A : Nat → Prop) (U : State) (H : Heap) : Prop := ∃ (c : ClassId) (k : Class) (i : Nat) (fd : Field) (a : Nat) (cell : Cell) (v : Value), U.vm.findClass O = some c ∧ U.fieldFound? O f d = some (c, k, i, fd) ∧ fd.isStatic = true ∧ k.statics = some a ∧ H[a]? = some cell ∧ cell.vm.isStatics = true ∧ cell.cls = c ∧ fd.slot < cell.slots.size ∧ k.staticTypes[fd.slot]? = some fd.type ∧ cell.slots[fd.slot]? = some v ∧ (v = .null ∨ ∃ x, v = .ref x) ∧ ¬ A a
theorem stF.moved {O f d : String} {A : Nat → Prop} {u U : State} {H : Heap} (hvm : u.vm.Alike U.vm) (h : stF O f d A u H) : stF O f d A U H := by
  obtain ⟨c, k, i, fd, a, cell, v, h1, h2, h3, h4, h5, h6, h7, h8, h9, h10⟩ := h
  obtain ⟨k', hi', he⟩ := State.fieldFound?_setVm hvm h2
  exact ⟨c, k', i, fd, a, cell, v, by rw [hvm.findClass]; exact h1, hi', h3, by rw [he]; exact h4, h5, h6, h7, h8, by rw [he]; exact h9, h10⟩
theorem stF.kept {O f d : String} {A : Nat → Prop} {U : State} {H H1 : Heap} (h : stF O f d A U H) (hq : ∀ a : Nat, a < H.size → ¬ A a → H1[a]? = H[a]?) : stF O f d A U H1 := by
  obtain ⟨c, k, i, fd, a, cell, v, h1, h2, h3, h4, h5, h6, h7, h8, h9, h10, h11, h12⟩ := h
  exact ⟨c, k, i, fd, a, cell, v, h1, h2, h3, h4, by rw [hq a (Array.getElem?_eq_some_iff.mp h5).1 h12]; exact h5, h6, h7, h8, h9, h10, h11, h12⟩
theorem stF.narrow {O f d : String} {A B : Nat → Prop} {U : State} {H : Heap} (h : stF O f d A U H) (hAB : ∀ q, B q → A q) : stF O f d B U H := by
  obtain ⟨c, k, i, fd, a, cell, v, h1, h2, h3, h4, h5, h6, h7, h8, h9, h10, h11, h12⟩ := h
  exact ⟨c, k, i, fd, a, cell, v, h1, h2, h3, h4, h5, h6, h7, h8, h9, h10, h11, fun z => h12 (hAB a z)⟩
theorem stF.of {args : Array Value} {s : State} {O f d : String} {A : Nat → Prop} (hl : (Cond.laysStatic O f d).before args s = true) (hr : (Cond.isRef (.static O f d)).before args s = true) (hA : ∀ a : Nat, a < s.heap.size → ¬ A a) : stF O f d A s s.heap := by
  obtain ⟨c, k, i, fd, a, cell, hc, hi, hst, ha, hcell, hs, hcls, hlt, hty⟩ := Cond.laysStatic_spec hl
  obtain ⟨v, hv, hv2⟩ := Cond.isRef_spec hr
  obtain ⟨-, a', cell', ha', hcell', -, hslot⟩ := Term.static_spec hi hv
  cases ha.symm.trans ha'
  cases hcell.symm.trans hcell'
  refine ⟨c, k, i, fd, a, cell, v, hc, hi, hst, ha, hcell, hs, hcls, hlt, hty, hslot, ?_, hA a (Array.getElem?_eq_some_iff.mp hcell).1⟩
  cases v <;> first | exact Or.inl rfl | exact Or.inr ⟨_, rfl⟩ | (simp [Value.isRef] at hv2)
theorem stF.lays {args : Array Value} {s : State} {O f d : String} {A : Nat → Prop} (h : stF O f d A s s.heap) : (Cond.laysStatic O f d).before args s = true := by
  obtain ⟨c, k, i, fd, a, cell, v, h1, h2, h3, h4, h5, h6, h7, h8, h9, h10⟩ := h
  exact Cond.laysStatic_of h1 h2 h3 h4 h5 h6 h7 h8 h9
theorem stF.isref {args : Array Value} {s : State} {O f d : String} {A : Nat → Prop} (h : stF O f d A s s.heap) : (Cond.isRef (.static O f d)).before args s = true := by
  obtain ⟨c, k, i, fd, a, cell, v, h1, h2, h3, h4, h5, h6, h7, h8, h9, h10, h11, h12⟩ := h
  have he : (Term.static O f d).eval args s none [] s = some v := by
    simp [Term.eval, State.fieldNamed?, h2, h3, h4, h5, h6, h10]
  simp only [Cond.before, Cond.holds, Cond.value, he]
  rcases h11 with rfl | ⟨x, rfl⟩ <;> rfl
def strL : List (Nat × String) := [(72, "group is not 0 to 8"), (81, "a mask is not 0 to 15"), (86, "entries is not 1 to 64"), (92, "register is not 1 to 31"), (98, "i is not 0 to 63"), (112, "times is not 0 to 1000"), (117, "register is not 0 to 31"), (125, "no such value went out"), (148, "what is not 0 to 8")]
/-- what a throw needs beside the table's good words -/
def thrOK (A : Nat → Prop) (U : State) (H : Heap) : Prop := (va_Nw (.castable exI exI) U ∧ va_Nw (.castable exO exO) U) ∧ (va_Nw (.declares (Bundle.initS "java/lang/RuntimeException")) U ∧ va_Nw (.declares (Bundle.initS "java/lang/Exception")) U ∧ va_Nw (.declares (Bundle.initS Bundle.tN)) U) ∧ (stF Bundle.tN "UNASSIGNED_STACK" Bundle.steD A U H ∧ stF Bundle.tN "SUPPRESSED_SENTINEL" Bundle.listD A U H) ∧ ∀ q ∈ strL, ∃ a, vk_R "LabelledCore" q.1 q.2 a U
theorem thrOK.warm {A : Nat → Prop} {s U : State} {H : Heap} (hW : s.WarmedH U.vm) (h : thrOK A s H) : thrOK A U H := by
  obtain ⟨⟨a1, a2⟩, ⟨b1, b2, b3⟩, ⟨c1, c2⟩, d⟩ := h
  exact ⟨⟨va_Nw.warmC hW a1, va_Nw.warmC hW a2⟩, ⟨va_Nw.warmD hW b1, va_Nw.warmD hW b2, va_Nw.warmD hW b3⟩, ⟨c1.moved hW.alike, c2.moved hW.alike⟩, fun q hq => by obtain ⟨a, ha⟩ := d q hq; exact ⟨a, ha.warm hW⟩⟩
theorem thrOK.kept {A : Nat → Prop} {U : State} {H H1 : Heap} (h : thrOK A U H) (hq : ∀ a : Nat, a < H.size → ¬ A a → H1[a]? = H[a]?) : thrOK A U H1 := by
  obtain ⟨a, b, ⟨c1, c2⟩, d⟩ := h
  exact ⟨a, b, ⟨c1.kept hq, c2.kept hq⟩, d⟩
theorem thrOK.narrow {A B : Nat → Prop} {U : State} {H : Heap} (h : thrOK A U H) (hAB : ∀ q, B q → A q) : thrOK B U H := by
  obtain ⟨a, b, ⟨c1, c2⟩, d⟩ := h
  exact ⟨a, b, ⟨c1.narrow hAB, c2.narrow hAB⟩, d⟩
theorem thrOK.blind {A : Nat → Prop} {U : State} (g : JFrame) (mk : MethodId) (x : Array Value) (h : thrOK A U U.heap) : thrOK A (U.calling g mk x) (U.calling g mk x).heap := by
  obtain ⟨⟨a1, a2⟩, ⟨b1, b2, b3⟩, ⟨c1, c2⟩, d⟩ := h
  exact ⟨⟨va_Nw.same rfl rfl a1, va_Nw.same rfl rfl a2⟩, ⟨va_Nw.same rfl rfl b1, va_Nw.same rfl rfl b2, va_Nw.same rfl rfl b3⟩, ⟨stF.moved (u := U) (U := U.calling g mk x) (Vm.Alike.refl U.vm) c1, stF.moved (u := U) (U := U.calling g mk x) (Vm.Alike.refl U.vm) c2⟩, fun q hq => by obtain ⟨a, ha⟩ := d q hq; exact ⟨a, vk_R.same rfl ha⟩⟩
theorem thrOK.ex {A : Nat → Prop} {U : State} {args : Array Value} {X : String} (h : thrOK A U U.heap) (hX : va_Nw (.castable X X) U) : ∀ w ∈ exLx X, w.before args U = true := by
  obtain ⟨-, ⟨b1, b2, b3⟩, ⟨c1, c2⟩, -⟩ := h
  intro w hw
  rcases List.mem_cons.mp hw with rfl | hw
  · exact va_Nw.use rfl hX
  rcases List.mem_cons.mp hw with rfl | hw
  · exact va_Nw.use rfl b1
  rcases List.mem_cons.mp hw with rfl | hw
  · exact va_Nw.use rfl b2
  rcases List.mem_cons.mp hw with rfl | hw
  · exact va_Nw.use rfl b3
  rcases List.mem_cons.mp hw with rfl | hw
  · exact c1.lays
  rcases List.mem_cons.mp hw with rfl | hw
  · exact c2.lays
  rcases List.mem_cons.mp hw with rfl | hw
  · exact c1.isref
  rcases List.mem_cons.mp hw with rfl | hw
  · exact c2.isref
  exact absurd hw List.not_mem_nil
theorem thrOK.atomsI {A : Nat → Prop} {U : State} {args : Array Value} (h : thrOK A U U.heap) (hts : ∀ w ∈ wG, w.before args U = true) : ∀ w ∈ Bundle.ownAtoms "LabelledCore" 74 exI exN, w.before args U = true := fun w hw => (atI w hw).elim (hts w) (h.ex h.1.1 w)
theorem thrOK.atomsO {A : Nat → Prop} {U : State} {args : Array Value} (h : thrOK A U U.heap) (hts : ∀ w ∈ wG, w.before args U = true) : ∀ w ∈ Bundle.ownAtoms "LabelledCore" 127 exO exN, w.before args U = true := fun w hw => (atO w hw).elim (hts w) (h.ex h.1.2 w)
def pcT (dC : Nat → ClassId) (dI : Nat → Nat → Nat) (cI : ClassId) (ws : va_W) (av : List Value) : Array Value → State → Prop := va_Pc av (fun U => va_P (dC, dI) clsL ws U.heap ∧ va_K (dC, dI) clsL [(cI, .int)] U ∧ thrOK (fun _ => False) U U.heap)
theorem pcT_blind {dC : Nat → ClassId} {dI : Nat → Nat → Nat} {cI : ClassId} {ws : va_W} {av : List Value} : FrameBlind (pcT dC dI cI ws av) := fun a U g mk q => by
  obtain ⟨q0, qP, qK, qE⟩ := q
  exact ⟨q0, qP, va_K.moved (u := U) (U := U.calling g mk a) (Vm.Alike.refl U.vm) qK, qE.blind g mk a⟩
theorem pcT_pre {dC : Nat → ClassId} {dI : Nat → Nat → Nat} {cI : ClassId} {ws : va_W} {av : List Value} {s : State} {H : Heap} {A : Nat → Prop} (hP : va_P (dC, dI) clsL ws H) (hK : va_K (dC, dI) clsL [(cI, .int)] s) (hT : thrOK A s H) : ∀ U : State, U.heap = H → s.WarmedH U.vm → pcT dC dI cI ws av av.toArray U := fun U hU hW => ⟨rfl, by rw [hU]; exact hP, va_K.moved hW.alike hK, by rw [hU]; exact (hT.warm hW).narrow (fun _ h => h.elim)⟩
