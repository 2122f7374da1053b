-- base: worlds of this claim, calls over the whole table, small rows of numbers
def jU (x k : Int32) : Int32 := (x.toUInt32 >>> (k.toUInt32 &&& Int32.toUInt32 31)).toInt32
def pcR (dC : Nat → ClassId) (dI : Nat → Nat → Nat) (cI : ClassId) (ws : va_W) (av : List Value) : Array Value → State → Prop := va_Pc av (fun U => va_P (dC, dI) clsL ws U.heap ∧ va_K (dC, dI) clsL [(cI, .int)] U)
def pcW (dC : Nat → ClassId) (dI : Nat → Nat → Nat) (cI : ClassId) (ws : va_W) (sz : Nat) (av : List Value) : Array Value → State → Prop := va_Pc av (fun U => U.heap.size = sz ∧ va_P (dC, dI) clsL ws U.heap ∧ va_K (dC, dI) clsL [(cI, .int)] U ∧ va_D (fun _ => True) ws)
def atW (dC : Nat → ClassId) (dI : Nat → Nat → Nat) (cI : ClassId) (ws : va_W) (A : Nat → Prop) (t : State) : Prop := va_P (dC, dI) clsL ws t.heap ∧ va_K (dC, dI) clsL [(cI, .int)] t ∧ va_D A ws
theorem pcR_blind {dC : Nat → ClassId} {dI : Nat → Nat → Nat} {cI : ClassId} {ws : va_W} {av : List Value} : FrameBlind (pcR dC dI cI ws av) := fun a U g mk q => by
  obtain ⟨q0, qP, qK⟩ := q
  exact ⟨q0, qP, va_K.moved (u := U) (U := U.calling g mk a) (Vm.Alike.refl U.vm) qK⟩
theorem pcR_pre {dC : Nat → ClassId} {dI : Nat → Nat → Nat} {cI : ClassId} {ws : va_W} {av : List Value} {s : State} {H : Heap} (hP : va_P (dC, dI) clsL ws H) (hK : va_K (dC, dI) clsL [(cI, .int)] s) : ∀ U : State, U.heap = H → s.WarmedH U.vm → pcR dC dI cI ws av av.toArray U := fun U hU hW => ⟨rfl, by rw [hU]; exact hP, va_K.moved hW.alike hK⟩
theorem pcW_blind {dC : Nat → ClassId} {dI : Nat → Nat → Nat} {cI : ClassId} {ws : va_W} {sz : Nat} {av : List Value} : FrameBlind (pcW dC dI cI ws sz av) := fun a U g mk q => by
  obtain ⟨q0, q1, qP, qK, qD⟩ := q
  exact ⟨q0, q1, qP, va_K.moved (u := U) (U := U.calling g mk a) (Vm.Alike.refl U.vm) qK, qD⟩
theorem pcW_pre {dC : Nat → ClassId} {dI : Nat → Nat → Nat} {cI : ClassId} {ws : va_W} {av : List Value} {s : State} {H : Heap} {A : Nat → Prop} (hP : va_P (dC, dI) clsL ws H) (hK : va_K (dC, dI) clsL [(cI, .int)] s) (hD : va_D A ws) : ∀ U : State, U.heap = H → s.WarmedH U.vm → pcW dC dI cI ws H.size av av.toArray U := fun U hU hW => ⟨rfl, by rw [hU], by rw [hU]; exact hP, va_K.moved hW.alike hK, hD.weaken (fun _ _ _ _ => trivial)⟩
theorem gS {own : String} {idx : Nat} {y : MethodName} {c : ByteArray} {n : Nat} {r : Option FieldType} (h1 : Cond.methodLink own idx y ∈ wG) (h2 : Cond.static y ∈ wG) (h3 : Cond.initialized y.cls ∈ wG) (h4 : Cond.code y c n r ∈ wG) : GoodIn wG (va_wsS own idx y (Cond.code y c n r :: wG)) := by
  intro w hw
  have hm : w ∈ wG := by
    rcases List.mem_append.mp hw with hw | hw
    · rcases List.mem_cons.mp hw with rfl | hw
      · exact h1
      · rcases List.mem_cons.mp hw with rfl | hw
        · exact h2
        · rcases List.mem_cons.mp hw with rfl | hw
          · exact h3
          · exact absurd hw List.not_mem_nil
    · rcases List.mem_cons.mp hw with rfl | hw
      · exact h4
      · exact hw
  exact ⟨hm, wG_good w hm⟩
theorem gV {own C : String} {idx : Nat} {y : MethodName} {c : ByteArray} {n : Nat} {r : Option FieldType} (h1 : Cond.methodLink own idx y ∈ wG) (h2 : Cond.instanceMethod y ∈ wG) (h5 : Cond.selects C y y ∈ wG) (h3 : Cond.initialized C ∈ wG) (h4 : Cond.code y c n r ∈ wG) : GoodIn wG (wsV own idx C y (Cond.code y c n r :: wG)) := by
  intro w hw
  have hm : w ∈ wG := by
    rcases List.mem_append.mp hw with hw | hw
    · rcases List.mem_cons.mp hw with rfl | hw
      · exact h1
      · rcases List.mem_cons.mp hw with rfl | hw
        · exact h2
        · rcases List.mem_cons.mp hw with rfl | hw
          · exact h5
          · rcases List.mem_cons.mp hw with rfl | hw
            · exact h3
            · exact absurd hw List.not_mem_nil
    · rcases List.mem_cons.mp hw with rfl | hw
      · exact h4
      · exact hw
  exact ⟨hm, wG_good w hm⟩
theorem gI {y : MethodName} {c : ByteArray} {n : Nat} {r : Option FieldType} (h4 : Cond.code y c n r ∈ wG) : GoodIn wG (Cond.code y c n r :: wG) := by
  intro w hw
  have hm : w ∈ wG := by
    rcases List.mem_cons.mp hw with rfl | hw
    · exact h4
    · exact hw
  exact ⟨hm, wG_good w hm⟩
def QcReadL (r : Int64) : Array Value → State → Outcome → State → Prop := fun _ st o t => o = .returned (some (.long r)) ∧ t.heap = st.heap
theorem callRL {p : Program} {l : Launch} {e : Env} {R : Room} {s : State} {m : MethodId} {args : Array Value} {below : List Frame} {meth : Method} {c : Code} {H : Heap} {locs : List Loc} {cells slots : Nat} {Q : State → Prop} {g : JFrame} {rest : List Value} {a : Array Value} {r : Int64} (hr : CallRun p l e R s m args below meth c H locs cells slots 0 0 g rest (QcReadL r a) (fun _ => False)) (kk : W p l e R s m args below meth c H locs cells slots Q { g with pc := g.pc + 3, stack := .long r :: rest }) : W p l e R s m args below meth c H locs cells slots Q g := by
  intro T hT X
  obtain ⟨v, st₀, t, T', L, h0, X', hL, e1, ⟨hv, hh⟩, st⟩ := hr T hT X
  cases hv
  obtain ⟨t2, a1, b1⟩ := kk T' (by rw [e1, hh, h0]) (Stand.forget X' (fun q h => (hL q h).elim))
  exact ⟨t2, st t2 a1, b1⟩
theorem lv_toE {p : Program} {l : Launch} {e : Env} {R : Room} {s : State} {m : MethodId} {args : Array Value} {below : List Frame} {meth : Method} {c : Code} {H : Heap} {locs : List Loc} {cells slots : Nat} {Q : State → Prop} {pc : Nat} {ls : Array Slot} {rest : List Value} {x y : Int32} (h : x = y) (k : W p l e R s m args below meth c H locs cells slots Q (F0 m pc ls (.int y :: rest))) : W p l e R s m args below meth c H locs cells slots Q (F0 m pc ls (.int x :: rest)) := h ▸ k
theorem in_and31 (x : Int32) : vp_in (x &&& 31) 32 := pk_andIn x 5 (by decide) (by decide)
theorem in_and7 (x : Int32) : vp_in (x &&& 7) 8 := pk_andIn x 3 (by decide) (by decide)
def QcReadV : Array Value → State → Outcome → State → Prop := fun _ st o t => o = .returned none ∧ t.heap = st.heap
theorem callRV {p : Program} {l : Launch} {e : Env} {R : Room} {s : State} {m : MethodId} {args : Array Value} {below : List Frame} {meth : Method} {c : Code} {H : Heap} {locs : List Loc} {cells slots : Nat} {Q : State → Prop} {g : JFrame} {rest : List Value} {a : Array Value} (hr : CallRun p l e R s m args below meth c H locs cells slots 0 0 g rest (QcReadV a) (fun _ => False)) (kk : W p l e R s m args below meth c H locs cells slots Q { g with pc := g.pc + 3, stack := rest }) : W p l e R s m args below meth c H locs cells slots Q g := by
  intro T hT X
  obtain ⟨v, st₀, t, T', L, h0, X', hL, e1, ⟨hv, hh⟩, st⟩ := hr T hT X
  cases hv
  obtain ⟨t2, a1, b1⟩ := kk T' (by rw [e1, hh, h0]) (Stand.forget X' (fun q h => (hL q h).elim))
  exact ⟨t2, st t2 a1, b1⟩
