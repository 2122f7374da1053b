-- a call that throws, and the one handler of the walked method takes it (its class entry warm or cold)
theorem ca_find {e : Env} {s : State} {f : JFrame} {a : Addr} {meth : Method} {code : Code} {x : ExceptionTableEntry} {c : ClassId} {cell : Cell} (hm : s.vm.method? f.method = some meth) (hc : meth.code = some code) (htab : code.exceptionTable.toList = [x]) (hx : covers x f.pc = true) (h0 : x.catchType ≠ 0)
    (hl : s.vm.ClassLinks e.platform f.method.cls x.catchType c) (hcell : s.heap[a]? = some cell) (hobj : ∀ k, cell.vm ≠ .statics k) (hk : ∃ k, s.vm.classes[cell.cls]? = some k) (hcl : ∃ k, s.vm.classes[c]? = some k) (hfit : s.vm.assignable cell.cls c = true)
    (Q : Handler → Pre) (E : CtlPost) (d : Bool) (acts : List Action) : wp (findHandler f a) Q E e d acts s ↔ Q (.found x.handlerPc) d acts (s.setVm (s.vm.noted f.method.cls x.catchType (.cls c))) := by
  rw [Jvm.W.findHandler_eq hm hc, htab]
  simp only [covers] at hx
  obtain ⟨r1, r2⟩ := (resolveClass_links e.toSetting hl).op (op := VmOp.resolveClass f.method.cls x.catchType) rfl
  have hal : s.vm.Alike (s.vm.noted f.method.cls x.catchType (.cls c)) := (Vm.Alike.refl s.vm).noted _ _ _
  obtain ⟨k1, hk1⟩ := hk
  obtain ⟨k2, hk2⟩ := hcl
  obtain ⟨k1', g1, -⟩ := hal.2.2 _ _ hk1
  obtain ⟨k2', g2, -⟩ := hal.2.2 _ _ hk2
  have hfit' : (s.vm.noted f.method.cls x.catchType (.cls c)).assignable cell.cls c = true := by rw [hal.assignable]; exact hfit
  simp [findHandler.go, hx, h0, r1, r2, hcell, hobj, g1, g2, hfit', VmOp.dirties, VmOp.acts]
theorem ca_steps {tb : Tables} {e : Env} {s target : State} {g : JFrame} {c : Code} {below : List Frame} {a : Addr} (h : At s g.method c below) {pc : Nat} {vm' : Vm}
    (hfind : ∀ (Q : Handler → Pre) (E : CtlPost) (d : Bool) (acts : List Action), wp (findHandler g a) Q E e d acts ((s.setTop g).pushFrame (.throwing a)) ↔ Q (.found pc) d acts (((s.setTop g).pushFrame (.throwing a)).setVm vm'))
    (hrest : Steps tb e below ((s.setVm vm').setTop { g with pc := pc, stack := [.ref a] }) target) : Steps tb e below ((s.setTop g).pushFrame (.throwing a)) target := by
  obtain ⟨hgo, hw⟩ := h.throwing a
  have hst : ∀ r, (stepThrowing e ((s.setTop g).pushFrame (.throwing a)) a (.java g :: r)).Is ((((s.setTop g).pushFrame (.throwing a)).setVm vm').setFrames (.java { g with pc := pc, stack := [.ref a] } :: r)) [] := by
    intro r
    simp only [stepThrowing, searchFrame, vmDo]
    generalize hr : Sem.go _ e false [] _ = res
    obtain ⟨as, rfl, ha⟩ := Sem.eq_ok_of hr (a := Handler.found pc) (s' := ((s.setTop g).pushFrame (.throwing a)).setVm vm') (acts' := []) (by simp [hfind _ _ _ _])
    exact ⟨rfl, ha⟩
  refine Steps.head hgo hw ?_
  rw [stepThread_throwing (frames_entered h.top _), (hst _).1]
  obtain ⟨g₀, hg⟩ := Option.isSome_iff_exists.mp h.top
  obtain ⟨r, hr⟩ := State.topJava?_eq_some.mp hg
  have hr' : (s.setVm vm').frames = .java g₀ :: r := hr
  have hsw : ∀ (u : State) (F G : List Frame), ((u.setFrames F).setVm vm').setFrames G = (u.setVm vm').setFrames G := fun u F G => by
    rw [show (u.setFrames F).setVm vm' = (u.setVm vm').setFrames F from rfl, State.setFrames_setFrames]
  rw [State.setTop_of_frames _ hr'] at hrest
  rw [hr, List.tail_cons, State.pushFrame, hsw, State.setTop_of_frames _ hr, hsw]
  exact hrest
/-- what a call of a throwing contract comes to: the handler, the exception alone on the stack, one new cell, no old one changed -/
theorem catchV {p : Program} {l : Launch} {e : Env} {R : Room} {s : State} {m : MethodId} {args : Array Value} {below : List Frame} {meth : Method} {c : Code} {H : Heap} {locs : List Loc} {cells slots : Nat} {Q : State → Prop}
    {y : MethodName} {bytes cc : ByteArray} {maxL nL n index : Nat} {ret : Option FieldType} {ws : List Cond} {rm : Room} {Pc : Array Value → State → Prop} {Ts : List Cond} {own C X : String} {b : Addr} {As rest : List Value} {pc : Nat} {ls : Array Slot} {st0 : List Value} {x0 : ExceptionTableEntry}
    (S : CallFix p m c cc nL s args Ts own) (hM : MetT l y ws rm Pc X) (cw : CallW R s args own C index y bytes maxL ret ws rm 1 6 n) (hp : PreV s H C b Pc As) (hn : As.length = n) (hsize : ls.size = nL) (hstack : st0 = As.reverse ++ .ref b :: rest) (hW : 2 * (F0 m pc ls rest).monitorRoom + (rest.map fun v => v.category).sum ≤ 8)
    (hdg : decode cc pc = .ok (.invokevirtual index, 3)) (hf : cells + 1 ≤ R.cells ∧ slots + 6 ≤ R.slots) (htab : c.exceptionTable.toList = [x0]) (hcov : covers x0 pc = true) (h0 : x0.catchType ≠ 0) (hlink : (Cond.classLink own x0.catchType X).before args s = true) (hcast : (Cond.castable X X).before args s = true)
    (kk : ∀ (x : Nat) (H1 : Heap), H.size ≤ H1.size → (∀ q : Nat, q < H.size → H1[q]? = H[q]?) → W p l e R s m args below meth c H1 locs (cells + 1) (slots + 6) Q (F0 m x0.handlerPc ls [.ref x])) : W p l e R s m args below meth c H locs cells slots Q (F0 m pc ls st0) := by
  obtain ⟨⟨hrc, hrs, hfr, hlo, hws, hcw, hcode, hini, hy, hlen, hl⟩, hin, hse⟩ := cw
  obtain ⟨hx, hb, hml, ho, -⟩ := S
  obtain ⟨hbl, ⟨cellB, hcB, hoB, hclB⟩, hPc⟩ := hp
  intro T hT X0
  obtain ⟨mk, methM, hnamed, hmethM, hstM, habM⟩ := Cond.instanceMethod_spec hin
  obtain ⟨methM', cM, hmethM', hcM, -, hlM, -, -, -, hsigM⟩ := Cond.code_spec hnamed hcode
  cases hmethM.symm.trans hmethM'
  obtain ⟨c2, r2, m2, q1, q2, q3, q4, kP, hkP, hkPi⟩ := Cond.selects_spec hse
  cases hclB.symm.trans q1
  cases (State.methodFound?_of_named hnamed hy).symm.trans q2
  cases hnamed.symm.trans q3
  have hselP : selectMethod e.platform s.vm cellB.cls mk = .method mk := by rw [Launch.admits_selectMethod X0.admits]; exact q4
  obtain ⟨vm₁, X₁, hstep₁⟩ := X0.invokevirtual hx ho hl hnamed hmethM hstM hkP hkPi hy (a := b) (cell := cellB) (by rw [hT]; exact hcB)
    (fun z h => by rw [h] at hoB; cases hoB) hselP hmethM habM hkP hkPi (g := F0 m pc ls st0) rfl (argsL := As) (rest := rest) (hn.trans (hlen _ hsigM)) hstack (by rw [hb]; exact hdg)
  obtain ⟨kY, hkY, -⟩ := className_of_methodNamed hnamed
  have hnU : (T.setVm vm₁).methodNamed? y = some mk := X₁.named hnamed
  obtain ⟨kY', hkY', heY⟩ := X₁.warmed.alike.2.2 _ _ hkY
  have hinitY0 : kY.init = .initialized := Cond.initialized_spec (findClass_of_methodNamed hnamed) hkY hini
  have hinitY : kY'.init = .initialized := by rw [heY]; exact hinitY0
  have hAt : At (T.setVm vm₁) (F0 m pc ls rest).method c below := X₁.here
  have happ : (headSpec ws rm).appliesLoose y e.platform ((T.setVm vm₁).calling (F0 m pc ls rest) mk (Value.ref b :: As).toArray) = true :=
    Spec.appliesLoose_calling (g := F0 m pc ls rest) hAt (by rw [hb]; exact hdg) hnU hkY' hinitY
      (X₁.room_calling (g := F0 m pc ls rest) (R' := (headSpec ws rm).room) (by rw [hml]; exact hsize) (show (T.setVm vm₁).vm.method? mk = some methM by rw [X₁.warmed.alike.method?]; exact hmethM) hcM hfr (by rw [hlM]; show 2 * (F0 m pc ls rest).monitorRoom + (rest.map fun v => v.category).sum + (maxL + 11) + rm.locals ≤ R.locals; omega)
        (by rw [show (headSpec ws rm).room.cells = 1 from hrc]; exact hf.1) (by rw [show (headSpec ws rm).room.slots = 6 from hrs]; exact hf.2))
      (atoms_intro fun w hw => hws w hw _ _ X₁.warmed)
  obtain ⟨mid, hmid⟩ := hAt.above
  have hfrm : ((T.setVm vm₁).setTop (F0 m pc ls rest)).frames = (.java (F0 m pc ls rest) :: mid) ++ below := by rw [State.frames_setTop' (F0 m pc ls rest) hAt.top, hmid]; rfl
  obtain ⟨o, s₂, hsteps, -, hend, hq⟩ := Steps.callFree hM p X₁.admits X₁.cas X₁.clock (acts := []) hfrm happ (hbl _ _ _ _ (hPc (T.setVm vm₁) hT X₁.warmed)) trivial
  obtain ⟨x, ce, rfl, hW2, hsame, hce, hcX, hvm⟩ := hq
  rw [State.frames_setTop' (F0 m pc ls rest) hAt.top, X₁.tail] at hend
  obtain ⟨T', X', hWT, hsm, hs2⟩ := X₁.outOfThrown (g := F0 m pc ls rest) rfl hend hW2 hsame
  have hceT : T'.heap[x]? = some ce := by
    rw [hs2] at hce
    simpa [State.pushFrame, State.setFrames, State.setTop, State.modifyTopJava] using hce
  have hpl : e.platform.magicAccessors = ({} : Platform).magicAccessors := by rw [X'.admits.platform]
  obtain ⟨cT, hcT, hcl⟩ := Cond.classLink_spec ho hlink e.platform hpl
  have hcX' : s.vm.findClass X = some ce.cls := by
    have h9 : (T.setVm vm₁).vm.findClass X = some ce.cls := hcX
    rw [X₁.warmed.alike.findClass] at h9
    exact h9
  obtain ⟨c3, c4, hc3, hc4, hasg⟩ := Cond.castable_spec hcast
  cases Option.some.inj (hc3.symm.trans hcX')
  cases Option.some.inj (hc4.symm.trans hcX')
  obtain rfl : cT = ce.cls := Option.some.inj (hcT.symm.trans hcX')
  obtain ⟨dk, _, _, kt, hd, _, _, _, _, hkt, _, hopen⟩ := hcl.here
  have hcl₀ := X'.warmed.classLinks hcl
  have hW' : s.WarmedH (T'.vm.noted m.cls x0.catchType (.cls ce.cls)) := X'.warmed.noted hd hopen (State.rightAt_cls hcl)
  have hal := X'.warmed.alike
  obtain ⟨kt', hkt', -⟩ := hal.2.2 _ _ hkt
  have hfit' : T'.vm.assignable ce.cls ce.cls = true := by rw [hal.assignable]; exact hasg
  have X2 := X'.noted hW'
  have hsz : H.size ≤ T'.heap.size := by
    have h8 : (T.setVm vm₁).heap.size ≤ (T'.setVm (T.setVm vm₁).vm).heap.size := hsm.2.1
    rw [← hT]; exact h8
  have hkeep : ∀ q : Nat, q < H.size → T'.heap[q]? = H[q]? := by
    intro q hq
    have hc0 : H[q]? = some H[q] := Array.getElem?_eq_getElem hq
    obtain ⟨c', e1, e2, -, e4⟩ := hsm.2.2.2.2.2 q H[q] (by show T.heap[q]? = _; rw [hT]; exact hc0)
    have e3 : c'.slots = (H[q]).slots := Array.ext_getElem? (fun i => e4 i (by simp))
    have e5 : T'.heap[q]? = some c' := e1
    rw [hc0, e5, e2, e3]
  rw [List.append_nil] at X2
  obtain ⟨t2, a1, b1⟩ := kk x T'.heap hsz hkeep (T'.setVm (T'.vm.noted m.cls x0.catchType (.cls ce.cls))) rfl X2
  refine ⟨t2, hstep₁ _ fun acts => ?_, b1⟩
  rw [doInvoke_state]
  refine hsteps.trans ?_
  rw [hs2]
  exact ca_steps (g := F0 m pc ls rest) X'.here (ca_find (s := (T'.setTop (F0 m pc ls rest)).pushFrame (.throwing x)) (meth := meth) (code := c) X'.method' X'.code htab hcov h0 (c := ce.cls) (cell := ce) hcl₀ hceT (fun k h => by rw [hvm] at h; cases h) ⟨kt', hkt'⟩ ⟨kt', hkt'⟩ hfit') a1
