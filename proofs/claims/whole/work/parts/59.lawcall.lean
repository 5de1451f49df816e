/-! THE LAW CALLS: a helper (a static method with handlers), the reference, the class -/
theorem wmW_good {y : MethodName} {bytes : ByteArray} {maxL : Nat} {ret : Option FieldType} {hh : List (Nat × Nat × Nat × Nat)} (hc : Cond.codeWith y bytes maxL ret hh ∈ tG) : GoodIn tG (wmW y bytes maxL ret hh) := by
  intro w hw
  rcases List.mem_cons.mp hw with rfl | h
  · exact ⟨hc, tG_good hc⟩
  · exact ⟨h, tG_good h⟩
section LC
variable {p : Program} {l : Launch} {e : Env} {R : Room} {s : State} {m : MethodId} {args : Array Value} {below : List Frame} {meth : Method} {c : Code} {H : Heap} {locs : List Loc} {cells slots : Nat} {Q : State → Prop} {T : State}
variable {y : MethodName} {bytes cc : ByteArray} {maxL nL mc ms n index : Nat} {ret : Option FieldType} {hh : List (Nat × Nat × Nat × Nat)} {ws : List Cond} {rm : Room} {Pc : Array Value → State → Prop} {Qc : Array Value → State → Outcome → State → Prop} {free : Addr → Prop} {own : String} {As rest st0 : List Value} {pc : Nat} {ls : Array Slot}
variable {D : va_G} {cl : List vw_C} {tys : List (ClassId × FieldType)} {b N : Nat} {sh : Shp} {M M' : Mm}
theorem PwH_blind {cJ : ClassId} {o : Nat} {f : Nat → Int64} {av : List Value} {sz : Nat} : FrameBlind (PwH D cl tys b N sh cJ o f av M sz) := by
  intro a U g mk q
  obtain ⟨q0, q1, q2, qP, qo, qK⟩ := q
  exact ⟨q0, q1, q2.calling, qP, qo, va_K.moved (u := U) (U := U.calling g mk a) (Vm.Alike.refl U.vm) qK⟩
theorem callSW (X : Stand p l e R s m args below meth c T locs cells slots) (hexec : p.tables.exec = Jvm.exec) (hown : s.vm.findClass own = some m.cls) (hlink : (Cond.methodLink own index y).before args s = true) (hstat : (Cond.static y).before args s = true) (hinit : (Cond.initialized y.cls).before args s = true)
    (hcode : (Cond.codeWith y bytes maxL ret hh).before args s = true) (hy : y.cls ≠ "java/lang/invoke/MethodHandle" ∧ y.cls ≠ "java/lang/invoke/VarHandle")
    {W0 : Nat} {Pre : Pt → Array Value → Prop} {Post : Pt → Array Value → Option Value → Pt → Prop} (hK : Back l R p e below s args y 3 W0 Pre Post)
    {g : JFrame} (hg : g.method = m) (hsize : g.locals.size = c.maxLocals) (hlen : ∀ sig, parseMethodDescriptor y.desc = some sig → As.length = sig.parameters.length)
    (hstack : g.stack = As.reverse ++ rest) (hW : 2 * g.monitorRoom + (rest.map fun v => v.category).sum ≤ W0) (hdg : decode c.code g.pc = .ok (.invokestatic index, 3))
    (hpre : ∀ vm₁, s.WarmedH vm₁ → Pre ⟨T.setVm vm₁, locs, cells, slots⟩ As.toArray) :
    ∃ (v : Option Value) (vm₁ : Vm) (B : Pt), s.WarmedH vm₁ ∧ Stand p l e R s m args below meth c B.U B.locs B.cells B.slots ∧ Post ⟨T.setVm vm₁, locs, cells, slots⟩ As.toArray v B ∧
      ∀ target, Steps p.tables e below (B.U.setTop { g with pc := g.pc + 3, stack := v.toList ++ rest }) target → Steps p.tables e below (T.setTop g) target := by
  obtain ⟨mk, methM, cM, hnamed, hmethM, -, -, -, -, -, -, hsigM⟩ := Cond.codeWith_spec hcode
  have hstatic : methM.isStatic = true := Cond.static_spec hnamed hmethM hstat
  obtain ⟨kP, hkP, -⟩ := className_of_methodNamed hnamed
  have hinitP : kP.init = .initialized := Cond.initialized_spec (findClass_of_methodNamed hnamed) hkP hinit
  obtain ⟨vm₁, X₁, hstep₁⟩ := X.invokestatic hexec hown hlink hnamed hmethM hstatic hkP hinitP hy (g := g) hg (argsL := As) (rest := rest) (hlen _ hsigM) hstack hdg
  obtain ⟨v, B, X', hpost, hsteps⟩ := hK m meth c ⟨T.setVm vm₁, locs, cells, slots⟩ { g with stack := rest } (.invokestatic index) mk As.toArray X₁ hg hsize hdg hW (X₁.named hnamed) (hpre vm₁ X₁.warmed)
  exact ⟨v, vm₁, B, X₁.warmed, X', hpost, fun target h => hstep₁ _ fun acts => by rw [doInvoke_state]; exact hsteps.trans h⟩
/-- a helper is called: b is where the law's own cells begin -/
theorem wl_help {cJ : ClassId} {o : Nat} {f f' : Nat → Int64} {rv : Int32} {b0 : Nat} (hx : p.tables.exec = Jvm.exec) (hb : c.code = cc) (hml : c.maxLocals = nL) (hown : s.vm.findClass own = some m.cls) (hts : ∀ w ∈ tG, w.before args s = true) (hK : va_K D cl tys s) (hP : va_P D cl (wd b N sh M) H) (hPo : va_P D cl [(o, .inl (cJ, 1, .inr (.inl f)))] H) (hHl : HlS s) (hS : va_S (frm b0) s.heap H locs) (hb0 : b0 = s.heap.size) (hbb : b0 ≤ b) (hob : b0 ≤ o)
    (hM : Met l y (wmW y bytes maxL ret hh) rm (PwH D cl tys b N sh cJ o f As M H.size) (QwH D cl b N sh cJ o rv f' M' H.size) mc ms (regH b N o H.size)) (hrc : rm.cells = mc) (hrs : rm.slots = ms) (hc : Cond.codeWith y bytes maxL ret hh ∈ tG) (hl : Cond.methodLink own index y ∈ tG) (hst : Cond.static y ∈ tG) (hini : Cond.initialized y.cls ∈ tG)
    (hd : y.cls ≠ "java/lang/invoke/MethodHandle" ∧ y.cls ≠ "java/lang/invoke/VarHandle" ∧ (parseMethodDescriptor y.desc).map (fun d => d.parameters.length) = some As.length) (hR : rm.frames + 1 ≤ R.frames ∧ 8 + (maxL + 11) + rm.locals ≤ R.locals) (hsize : ls.size = nL) (hst0 : st0 = As.reverse ++ rest) (hroom : (rest.map fun v => v.category).sum ≤ 8) (hdg : decode cc pc = .ok (.invokestatic index, 3)) (hf : cells + mc ≤ R.cells ∧ slots + ms ≤ R.slots)
    (kk : ∀ (H1 : Heap) (locs1 : List Loc), va_P D cl (wd b N sh M') H1 → va_P D cl [(o, .inl (cJ, 1, .inr (.inl f')))] H1 → H.size ≤ H1.size → (∀ q : Nat, q < H.size → ¬ regH b N o H.size q → H1[q]? = H[q]?) → va_S (frm b0) s.heap H1 locs1 → W p l e R s m args below meth c H1 locs1 (cells + mc) (slots + ms) Q (F0 m (pc + 3) ls (.int rv :: rest))) : W p l e R s m args below meth c H locs cells slots Q (F0 m pc ls st0) := by
  intro T hT X
  have hold : ∀ q : Nat, q < s.heap.size → H[q]? = s.heap[q]? := fun q h => hS.2.1 q h (fun z => by have z : b0 ≤ q := z; omega)
  have hBk : Back l R p e below s args y 3 8 (PreOf R mc ms (PwH D cl tys b N sh cJ o f As M H.size)) (PostOf (QwH D cl b N sh cJ o rv f' M' H.size) mc ms (regH b N o H.size)) :=
    va_backW (hh := hh) (bytes := bytes) (maxL := maxL) (ret := ret) hM PwH_blind hrc hrs hR.1 hR.2 (pay_in hts (wmW_good hc)) List.mem_cons_self (fun a' U hW => word_at hW (Or.inl (by first | rfl | simp [Cond.onTables, Cond.keeps, Cond.steady])) (hts _ hini))
  obtain ⟨v, vm₁, ⟨U', l2, c2, s2⟩, hW₁, X', ⟨g', mk, t, L, e1, e2, hq, h1, hL, h2, h3⟩, st⟩ := callSW X hx hown (hts _ hl) (hts _ hst) (hts _ hini) (hts _ hc) ⟨hd.1, hd.2.1⟩ hBk (g := F0 m pc ls st0) rfl (hsize.trans hml.symm) (As := As) (rest := rest) (fun sig h => by have h2 := hd.2.2; rw [h] at h2; exact (Option.some.inj h2).symm) hst0 (lv_room hroom) (by rw [hb]; exact hdg)
    (fun vm₁ hW₁ => ⟨hf.1, hf.2, rfl, by show T.heap.size = _; rw [hT], hHl.later hW₁ (fun a h => by show T.heap[a]? = _; rw [hT]; exact hold a h), by show va_P D cl _ T.heap; rw [hT]; exact hP, by show va_P D cl _ T.heap; rw [hT]; exact hPo, va_K.moved hW₁.alike hK⟩)
  dsimp only [Pt.U, Pt.locs, Pt.cells, Pt.slots] at X' e1 e2 h1 h2 h3 st
  subst h1; subst h2; subst h3
  obtain ⟨hv, hP', hPo', hF⟩ := hq
  cases hv
  have hst0h : ((T.setVm vm₁).calling g' mk As.toArray).heap = H := hT
  have hF1 : H.size ≤ U'.heap.size := by rw [e1, ← hst0h]; exact hF.1
  have hF2 : ∀ q : Nat, q < H.size → ¬ regH b N o H.size q → U'.heap[q]? = H[q]? := fun q h1 h2 => by
    rw [e1, ← hst0h]
    exact hF.2 q (by rw [hst0h]; exact h1) h2
  have hreg : ∀ q, regH b N o H.size q → frm b0 q := fun q h => by
    have hs1 := hS.1
    show b0 ≤ q
    rcases h with (h | h) | h
    · omega
    · omega
    · omega
  have hS1 : va_S (frm b0) s.heap U'.heap (locs ++ L) := ⟨Nat.le_trans hS.1 hF1, fun q h1 h2 => by
      rw [hF2 q (Nat.lt_of_lt_of_le h1 hS.1) (fun z => h2 (hreg q z))]
      exact hS.2.1 q h1 h2, fun q hq => by
      rcases List.mem_append.mp hq with h | h
      · exact hS.2.2 q h
      · exact hreg _ (hL q h)⟩
  obtain ⟨t2, a1, b1⟩ := kk U'.heap (locs ++ L) (by rw [e1]; exact hP') (by rw [e1]; exact hPo') hF1 hF2 hS1 U' rfl X'
  exact ⟨t2, st t2 a1, b1⟩
end LC
