-- what a throwing method leaves: an exception of the class X in one new cell of six slots, nothing else written
def QT (X : String) : Array Value → State → Outcome → State → Prop := fun _ st o t => ∃ (x : Addr) (ce : Cell), o = .threw x ∧ st.WarmedH t.vm ∧ st.sameButNew ({ t with vm := st.vm } : State) [] 1 6 ∧ t.heap[x]? = some ce ∧ st.vm.findClass X = some ce.cls ∧ ce.vm = .none
def MetT (l : Launch) (y : MethodName) (ws : List Cond) (rm : Room) (Pc : Array Value → State → Prop) (X : String) : Prop := MetFree l y (headSpec ws rm) Pc (fun _ _ _ _ _ => True) (QT X)
def ZT (below : List Frame) (X : String) (a : Array Value) (s : State) : State → Prop := fun t => ∃ o, t.status = .running ∧ Ended t below o ∧ QT X a s o t
theorem MetT.ofW {l : Launch} {y : MethodName} {ws ws' : List Cond} {rm : Room} {Pc : Array Value → State → Prop} {X : String} {cc : ByteArray} {maxL : Nat} {ret : Option FieldType} (hy : plainName y.cls = true) (hw : ws = Cond.code y cc maxL ret :: ws')
    (body : ∀ p e s m args below meth c s₁, BodyLoose p l y (headSpec ws rm) cc maxL ret e s m args below meth c s₁ → c.maxLocals = maxL → Pc args s →
      W p l e (headSpec ws rm).room s m args below meth c s.heap [] 0 0 (ZT below X args s) (entryFrame m args maxL)) : MetT l y ws rm Pc X := by
  refine MetFree.of_bodyS (code := cc) (maxLocals := maxL) (ret := ret) hy ?_ ?_
  · intro args s m h hn
    obtain ⟨meth, c, h1, h2, h3, h4, h5, h6, -, -⟩ := Cond.code_spec hn (atoms_spec (ws := ws) h _ (by rw [hw]; exact List.mem_cons_self))
    exact ⟨meth, c, h1, h2, h3, h4, h5, h6⟩
  · intro p e s m args below meth c s₁ B hml hP _
    have hh0 : s₁.heap = s.heap := by rw [B.state]; rfl
    obtain ⟨t, a1, o, b1, b2, b3⟩ := body p e s m args below meth c s₁ B hml hP s₁ hh0 (Stand.of_body B)
    exact ⟨t, o, a1, b1, b2, b3⟩
theorem th_end {p : Program} {l : Launch} {e : Env} {R : Room} {s : State} {m : MethodId} {args : Array Value} {below : List Frame} {meth : Method} {c : Code} {H : Heap} {cc : ByteArray} {X own : String} {ic pc : Nat} {ls : Array Slot} {q a : Nat} {names : List String} {cX : ClassId} {kX : Class}
    (hexec : p.tables.exec = Jvm.exec) (hb : c.code = cc) (htr : e.platform.stackTraces = false) (hown : s.vm.findClass own = some m.cls) (hcls : Bundle.fit X = true) (hnames : ∀ n ∈ names, Bundle.fit n = true)
    (h : ∀ w ∈ Bundle.ownAtoms own ic X names, w.before args s = true) (hX : s.vm.findClass X = some cX) (hk : s.vm.classes[cX]? = some kX) (hcell : H[a]? = some (freshCell cX kX)) (hnew : s.heap.size ≤ a)
    (hml : ls.size = c.maxLocals) (hd1 : decode cc pc = .ok (.invokespecial ic, 3)) (hd2 : decode cc (pc + 3) = .ok (.athrow, 1)) (hno : c.exceptionTable.isEmpty = true)
    (hRf : names.length + 3 < R.frames) (hRl : 1 + (13 * (names.length + 1) + 42) ≤ R.locals) (hlocks : meth.locks = false) :
    W p l e R s m args below meth c H [] 1 6 (ZT below X args s) (F0 m pc ls [.ref q, .ref a, .ref a]) := by
  intro T hT X0
  obtain ⟨U, st, hrun, hended, hW, hsame, ce, hce, hO⟩ := Stand.ctorThrowS X0 hexec htr hown hcls hnames h (fun x hx => by cases hx) hX hk (by rw [hT]; exact hcell) hnew (msg := .ref q) rfl (g := F0 m pc ls [.ref q, .ref a, .ref a]) rfl hml rfl rfl (rest := []) rfl (by rw [hb]; exact hd1) (by rw [hb]; exact hd2)
    (fun x hx => by rw [Array.isEmpty_iff.mp hno] at hx; cases hx) hRf (by simpa [JFrame.monitorRoom, Value.category] using hRl) hlocks
  exact ⟨U, st, .threw a, hrun, hended, a, ce, rfl, hW, hsame, hce, hO.cls, hO.vm⟩
