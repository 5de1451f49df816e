/-! CALLS OF METHODS THAT MAY THROW -/
section CVT
variable {p : Program} {l : Launch} {e : Env} {R : Room} {s : State} {m : MethodId} {args : Array Value} {below : List Frame} {meth : Method} {c : Code} {H : Heap} {locs : List Loc} {cells slots : Nat} {Q : State → Prop}
variable {y : MethodName} {bytes cc : ByteArray} {maxL nL mc ms n index : Nat} {ret : Option FieldType} {ws : List Cond} {rm : Room} {Pc : Array Value → State → Prop} {Qc : Array Value → State → Outcome → State → Prop} {free : Addr → Prop} {own C : String} {b : Addr} {argsL rest : List Value} {g : JFrame} {T : State}
theorem callVT (X : Stand p l e R s m args below meth c T locs cells slots) (hexec : p.tables.exec = Jvm.exec) (hown : s.vm.findClass own = some m.cls) (hM : MetT l y ws rm Pc Qc mc ms free) (cw : CallW R s args own C index y bytes maxL ret ws rm mc ms n)
    {cellB : Cell} (hcell : T.heap[b]? = some cellB) (hobj : cellB.vm.isStatics = false) (hcls : s.vm.findClass C = some cellB.cls)
    (hg : g.method = m) (hsize : g.locals.size = c.maxLocals) (hn : argsL.length = n) (hstack : g.stack = argsL.reverse ++ .ref b :: rest) (hW : 2 * g.monitorRoom + (rest.map fun v => v.category).sum ≤ 8) (hdg : decode c.code g.pc = .ok (.invokevirtual index, 3))
    (hpre : ∀ vm₁, s.WarmedH vm₁ → ∀ (g' : JFrame) (mk : MethodId), Pc (Value.ref b :: argsL).toArray ((T.setVm vm₁).calling g' mk (Value.ref b :: argsL).toArray)) (hf : cells + mc ≤ R.cells ∧ slots + ms ≤ R.slots) :
    ∃ (o : Outcome) (T' st₀ t : State) (L : List Loc), Stand p l e R s m args below meth c T' (locs ++ L) (cells + mc) (slots + ms) ∧ (∀ q ∈ L, free q.base) ∧ st₀.heap = T.heap ∧ s.WarmedH st₀.vm ∧ T'.heap = t.heap ∧ Qc (Value.ref b :: argsL).toArray st₀ o t ∧
      ((∃ v, o = .returned v ∧ ∀ target, Steps p.tables e below (T'.setTop { g with pc := g.pc + 3, stack := v.toList ++ rest }) target → Steps p.tables e below (T.setTop g) target) ∨
       (∃ a, o = .threw a ∧ ∀ target, Steps p.tables e below ((T'.setTop { g with stack := rest }).pushFrame (.throwing a)) target → Steps p.tables e below (T.setTop g) target)) := by
  obtain ⟨⟨hrc, hrs, hframes, hlocals, hws, hcodeW, hcode, hinit, hy, hlen, hlink⟩, hinst, hsel⟩ := cw
  obtain ⟨mk, methM, hnamed, hmethM, hstM, habM⟩ := Cond.instanceMethod_spec hinst
  obtain ⟨methM', cM, hmethM', -, -, -, -, -, -, hsigM⟩ := Cond.code_spec hnamed hcode
  cases hmethM.symm.trans hmethM'
  obtain ⟨c2, r2, m2, q1, q2, q3, q4, kP, hkP, hkPi⟩ := Cond.selects_spec hsel
  cases hcls.symm.trans q1
  cases (State.methodFound?_of_named hnamed hy).symm.trans q2
  cases hnamed.symm.trans q3
  have hselP : selectMethod e.platform s.vm cellB.cls mk = .method mk := by rw [Launch.admits_selectMethod X.admits]; exact q4
  obtain ⟨vm₁, X₁, hstep₁⟩ := X.invokevirtual hexec hown hlink hnamed hmethM hstM hkP hkPi hy (a := b) (cell := cellB) hcell
    (fun z h => by rw [h] at hobj; cases hobj) hselP hmethM habM hkP hkPi (g := g) hg (argsL := argsL) (rest := rest) (hn.trans (hlen _ hsigM)) hstack hdg
  have hn1 : (T.setVm vm₁).methodNamed? y = some mk := X₁.named hnamed
  have hc1 : (Cond.code y bytes maxL ret).before (Value.ref b :: argsL).toArray (T.setVm vm₁) = true := hws _ hcodeW _ _ X₁.warmed
  obtain ⟨methY, cY, hmY, hcY, -, hlY, -⟩ := Cond.code_spec hn1 hc1
  obtain ⟨kY, hkY, -⟩ := className_of_methodNamed hn1
  have hinitY : kY.init = .initialized := Cond.initialized_spec (findClass_of_methodNamed hn1) hkY (word_at (a' := (Value.ref b :: argsL).toArray) (U := T.setVm vm₁) X₁.warmed (Or.inl (by first | rfl | simp [Cond.onTables, Cond.keeps, Cond.steady])) hinit)
  obtain ⟨g1, hg1⟩ : ∃ g1 : JFrame, g1 = { g with stack := rest } := ⟨_, rfl⟩
  have hg1m : g1.method = m := by rw [hg1]; exact hg
  have hsize1 : g1.locals.size = c.maxLocals := by rw [hg1]; exact hsize
  have hdg1 : decode c.code g1.pc = .ok (.invokevirtual index, 3) := by rw [hg1]; exact hdg
  have hW1 : 2 * g1.monitorRoom + (g1.stack.map fun v => v.category).sum ≤ 8 := by rw [hg1]; exact hW
  have h : At (T.setVm vm₁) g1.method c below := by rw [hg1m]; exact X₁.here
  have hroom := X₁.room_calling (g := g1) (m' := mk) (args' := (Value.ref b :: argsL).toArray) (R' := (headSpec ws rm).room) hsize1 hmY hcY (show rm.frames + 1 ≤ R.frames from hframes) (by rw [hlY]; show _ + _ + rm.locals ≤ _; omega) (show cells + rm.cells ≤ R.cells by rw [hrc]; exact hf.1) (show slots + rm.slots ≤ R.slots by rw [hrs]; exact hf.2)
  have happ : (headSpec ws rm).appliesLoose y e.platform ((T.setVm vm₁).calling g1 mk (Value.ref b :: argsL).toArray) = true :=
    Spec.appliesLoose_calling (g := g1) h hdg1 hn1 hkY hinitY hroom (atoms_intro fun w hw => hws w hw _ _ X₁.warmed)
  obtain ⟨mid, hmid⟩ := h.above
  have hfr : ((T.setVm vm₁).setTop g1).frames = (.java g1 :: mid) ++ below := by rw [State.frames_setTop' g1 h.top, hmid]; rfl
  obtain ⟨o, s₂, hsteps, -, hend, hq, L, ⟨hWt, hsame⟩, hL⟩ := Steps.callFree hM p X.admits X.cas X.clock (acts := []) hfr happ (hpre vm₁ X₁.warmed g1 mk) trivial
  rw [State.frames_setTop' g1 h.top, X₁.tail] at hend
  cases o with
  | returned v =>
    obtain ⟨T', X', -, -, ht⟩ := X₁.outOf (g := g1) hg1m hdg1 (mk := mk) (a := (Value.ref b :: argsL).toArray) hend hWt hsame
    refine ⟨.returned v, T', (T.setVm vm₁).calling g1 mk (Value.ref b :: argsL).toArray, s₂, L, X', hL, rfl, X₁.warmed, by rw [ht]; exact (State.heap_setTop _ _).symm, hq, Or.inl ⟨v, rfl, fun target hrest => hstep₁ _ fun acts => ?_⟩⟩
    rw [← hg1, doInvoke_state]
    refine hsteps.trans ?_
    rw [ht, hg1]
    exact hrest
  | threw a =>
    obtain ⟨T', X', -, -, ht⟩ := X₁.outOfThrown (g := g1) hg1m (mk := mk) (a := (Value.ref b :: argsL).toArray) hend hWt hsame
    refine ⟨.threw a, T', (T.setVm vm₁).calling g1 mk (Value.ref b :: argsL).toArray, s₂, L, X', hL, rfl, X₁.warmed, by rw [ht]; exact (Stand.throwing_heap _ _ _).symm, hq, Or.inr ⟨a, rfl, fun target hrest => hstep₁ _ fun acts => ?_⟩⟩
    rw [← hg1, doInvoke_state]
    refine hsteps.trans ?_
    rw [ht, hg1]
    exact hrest
end CVT
