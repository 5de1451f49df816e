/-! A THROW THAT IS CAUGHT: the catch types may be resolved or not -/
section CT
variable {e : Env} {S s : State} {f : JFrame} {a : Addr} {args : Array Value}
theorem go_cold {x : ExceptionTableEntry} {t : List ExceptionTableEntry} {c : ClassId} {vm' : Vm} {Q : Handler → Pre} {E : CtlPost} {d : Bool} {acts : List Action}
    (hx : covers x f.pc = true) (h0 : x.catchType ≠ 0) (hg : (Jvm.resolveClass f.method.cls x.catchType).Gives e.toSetting S.vm (.ok c) vm') (hr : vm'.classReady f.method.cls x.catchType c) (hsz : vm'.classes.size ≤ S.vm.classes.size) :
    wp (findHandler.go f a (x :: t)) Q E e d acts S ↔ wp (findHandler.go f a (x :: t)) Q E e d acts (S.setVm vm') := by
  obtain ⟨ha, ht⟩ := hg.op (op := VmOp.resolveClass f.method.cls x.catchType) rfl
  obtain ⟨k, hkd, hres⟩ := hr
  have hm := resolveClass_memo e hkd hres
  simp only [covers] at hx
  simp [findHandler.go, hx, h0, ha, ht, hsz, hm, VmOp.dirties, VmOp.acts]
  exact Iff.rfl
/-- an entry, resolved or not: it takes the exception if its class can be assigned to the entry's; else the search goes on -/
theorem cat_entry {own Cn : String} {cN : ClassId} {ce : Cell} {x : ExceptionTableEntry} (hW : s.WarmedH S.vm) (hpl : e.platform.magicAccessors = ({} : Platform).magicAccessors) (hown : s.vm.findClass own = some f.method.cls)
    (hlink : (Cond.classLink own x.catchType Cn).before args s = true) (hx : covers x f.pc = true) (h0 : x.catchType ≠ 0) (hc : s.vm.findClass Cn = some cN) (hcell : S.heap[a]? = some ce) (hce : ce.vm = .none) (hk : ∃ k, s.vm.classes[ce.cls]? = some k) :
    ∃ vm', s.WarmedH vm' ∧ ∀ (t : List ExceptionTableEntry) (Q : Handler → Pre) (E : CtlPost) (d : Bool) (acts : List Action), wp (findHandler.go f a (x :: t)) Q E e d acts S ↔
      if s.vm.assignable ce.cls cN = true then Q (.found x.handlerPc) d acts (S.setVm vm') else wp (findHandler.go f a t) Q E e d acts (S.setVm vm') := by
  obtain ⟨cc, hfcc, hcl⟩ := Cond.classLink_spec hown hlink e.platform hpl
  cases hc.symm.trans hfcc
  obtain ⟨hg₁, hwarm₁, hready₁⟩ := State.classEntry (e := e) hW hcl
  have hsz : (S.vm.noted f.method.cls x.catchType (.cls cN)).classes.size ≤ S.vm.classes.size := by
    simp [Vm.size_noted]
  generalize S.vm.noted f.method.cls x.catchType (.cls cN) = vm₁ at hg₁ hwarm₁ hready₁ hsz
  have hal : s.vm.Alike vm₁ := hwarm₁.alike
  refine ⟨vm₁, hwarm₁, fun t Q E d acts => ?_⟩
  obtain ⟨kC, hkC, -⟩ := Vm.findClass_spec hc
  obtain ⟨k1, hk1⟩ := hk
  obtain ⟨kC', hkC', -⟩ := hal.2.2 _ _ hkC
  obtain ⟨k1', hk1', -⟩ := hal.2.2 _ _ hk1
  rw [go_cold hx h0 hg₁ hready₁ hsz, W.findHandler_go_class (s := S.setVm vm₁) hx h0 hready₁ hcell (fun k h => by rw [hce] at h; cases h) ⟨k1', hk1'⟩ ⟨kC', hkC'⟩]
  rw [show (S.setVm vm₁).vm.assignable ce.cls cN = s.vm.assignable ce.cls cN from hal.assignable ..]
theorem caughtTo {tb : Tables} [Ours tb] {T target : State} {g : JFrame} {c : Code} {below : List Frame} (h : At T g.method c below) {pc : Nat} {vm' : Vm}
    (hfind : ∀ (Q : Handler → Pre) (E : CtlPost) (d : Bool) (acts : List Action), wp (findHandler g a) Q E e d acts ((T.setTop g).pushFrame (.throwing a)) ↔ Q (.found pc) d acts (((T.setTop g).pushFrame (.throwing a)).setVm vm'))
    (hrest : Steps tb e below ((T.setVm vm').setTop { g with pc := pc, stack := [.ref a] }) target) :
    Steps tb e below ((T.setTop g).pushFrame (.throwing a)) target := by
  obtain ⟨hgo, hw⟩ := h.throwing a
  refine Steps.head hgo hw ?_
  obtain ⟨g₀, hg⟩ := Option.isSome_iff_exists.mp h.top
  obtain ⟨r, hr⟩ := State.topJava?_eq_some.mp hg
  have key : (stepThrowing e ((T.setTop g).pushFrame (.throwing a)) a (.java g :: T.frames.tail)).Is ((((T.setTop g).pushFrame (.throwing a)).setVm vm').setFrames (.java { g with pc := pc, stack := [.ref a] } :: T.frames.tail)) [] := by
    simp only [stepThrowing, searchFrame, vmDo]
    generalize hq : Sem.go _ e false [] ((T.setTop g).pushFrame (.throwing a)) = res
    obtain ⟨as, rfl, ha⟩ := Sem.eq_ok_of hq (a := Handler.found pc) (s' := ((T.setTop g).pushFrame (.throwing a)).setVm vm') (acts' := []) (by simp [hfind _ _ _ _])
    exact ⟨rfl, ha⟩
  rw [stepThread_throwing (frames_entered h.top _), key.1]
  have hr' : (T.setVm vm').frames = .java g₀ :: r := hr
  rw [State.setTop_of_frames _ hr'] at hrest
  have e2 : ((T.setTop g).pushFrame (.throwing a)).setFrames (.java { g with pc := pc, stack := [.ref a] } :: r) = T.setFrames (.java { g with pc := pc, stack := [.ref a] } :: r) := by
    rw [State.pushFrame, State.setFrames_setFrames, State.setTop_of_frames _ hr, State.setFrames_setFrames]
  have e1 : (((T.setTop g).pushFrame (.throwing a)).setVm vm').setFrames (.java { g with pc := pc, stack := [.ref a] } :: T.frames.tail) = (T.setVm vm').setFrames (.java { g with pc := pc, stack := [.ref a] } :: r) := by
    rw [hr]
    exact congrArg (fun z : State => z.setVm vm') e2
  rw [e1]
  exact hrest
end CT
