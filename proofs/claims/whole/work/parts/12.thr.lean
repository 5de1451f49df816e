/-! CONTRACTS THAT MAY END BY A THROW -/
def FrameEndT (first : State) (t : State) (L : List Loc) (k n : Nat) : Prop := first.WarmedH t.vm ∧ first.sameButNew ({ t with vm := first.vm } : State) L k n
def MetT (l : Launch) (y : MethodName) (ws : List Cond) (rm : Room) (Pc : Array Value → State → Prop) (Qc : Array Value → State → Outcome → State → Prop) (mc ms : Nat) (free : Addr → Prop) : Prop :=
  MetFree l y (headSpec ws rm) Pc (fun _ _ _ _ _ => True) (fun a st o t => Qc a st o t ∧ ∃ L, FrameEndT st t L mc ms ∧ ∀ q ∈ L, free q.base)
def MQT (below : List Frame) (Qc : Array Value → State → Outcome → State → Prop) (a : Array Value) (s : State) (mc ms : Nat) (free : Addr → Prop) : State → Prop := fun t =>
  ∃ o, t.status = .running ∧ Ended t below o ∧ Qc a s o t ∧ ∃ L, FrameEndT s t L mc ms ∧ ∀ q ∈ L, free q.base
/-- the names of what is thrown, by number from 1 on; 0: it returned -/
def xn (k : Nat) : String := match k with
  | 1 => "java/lang/IndexOutOfBoundsException"
  | 2 => "java/lang/IllegalArgumentException"
  | 3 => "java/lang/IllegalStateException"
  | _ => "java/lang/UnsupportedOperationException"
def Qwt (D : va_G) (cl : List vw_C) (b N : Nat) (sh : Shp) (k : Nat) (v : Int32) (M' : Mm) (sz : Nat) : Array Value → State → Outcome → State → Prop := fun _ st oc t =>
  ((k = 0 ∧ oc = .returned (some (.int v))) ∨ (k ≠ 0 ∧ ∃ (a : Nat) (ce : Cell), oc = .threw a ∧ t.heap[a]? = some ce ∧ ce.vm = .none ∧ st.vm.findClass (xn k) = some ce.cls)) ∧ va_P D cl (wd b N sh M') t.heap ∧ va_F (reg b N sz) st t
theorem oe3 {α β γ : Type} {a c : α} {b d : β} {x y : γ} (h : some (a, b, x) = some (c, d, y)) : a = c ∧ b = d ∧ x = y := by
  have h1 := Option.some.inj h
  exact ⟨congrArg (fun q => q.1) h1, congrArg (fun q => q.2.1) h1, congrArg (fun q => q.2.2) h1⟩
/-- what holds inside a method that throws: no handlers of its own, no stack traces -/
def Cxt (p : Program) (l : Launch) (s : State) (m : MethodId) (args : Array Value) (meth : Method) (c : Code) (D : va_G) (cl : List vw_C) (tys : List (ClassId × FieldType)) (own : String) (cc : ByteArray) (nL : Nat) (ret : Option FieldType) : Prop :=
  Cx p s m args meth c D cl tys own cc nL ret ∧ c.exceptionTable.isEmpty = true ∧ l.stackTraces = false
/-- Throwable's two statics hold a reference or null; words that only the wider law carries; the texts of the exceptions are there -/
def tX : List Cond := lw_tbl.filter (fun w => w.onTables && w.keepsFace)
def xstrs : List (Nat × String) := [(68, "there is no such time"), (75, "a time is 1 .. 100 cycles"), (90, "an ask waits or a row is open"), (93, "a span is 0 or 50 .. 10000 cycles"), (102, "an address is 0 .. 1048575"), (119, "the channel's queue is full"), (135, "a run is 1 .. 1000 cycles"), (140, "there is no such ask"), (145, "there is no such command or part of it"), (150, "there is no such channel or bank"), (159, "an address has the parts 0 .. 3"), (164, "there is no such channel or kind"), (167, "there is no such bank, cycle or row"), (169, "bank and row of a REFRESH are 0")]
def ThS (U : State) : Prop := va_Zq "java/lang/Throwable" "UNASSIGNED_STACK" Bundle.steD (fun _ => False) U U.heap ∧ va_Zq "java/lang/Throwable" "SUPPRESSED_SENTINEL" Bundle.listD (fun _ => False) U U.heap ∧ (∀ w ∈ tX, w.before #[] U = true) ∧ (((Cond.laysStatic "java/lang/Throwable" "UNASSIGNED_STACK" Bundle.steD).before #[] U = true ∧ (Cond.laysStatic "java/lang/Throwable" "SUPPRESSED_SENTINEL" Bundle.listD).before #[] U = true)) ∧ ∀ q ∈ xstrs, ∃ a, vk_R "BankTimes" q.1 q.2 a U
theorem zq_word {C n d : String} {U : State} {A : Nat → Prop} (h : va_Zq C n d A U U.heap) (args : Array Value) : (Cond.isRef (.static C n d)).before args U = true := by
  rcases h with ⟨cf, kf, fi, f, a, cell, h1, h2, h3, h4, h5, h6, h7, h8⟩ | ⟨t, cf, kf, fi, f, a, cell, h1, h2, h3, h4, h5, h6, h7, h8⟩
  · have he : (Term.static C n d).eval args U none [] U = cell.slots[f.slot]? := by simp [Term.eval, State.fieldNamed?, h1, h2, h4, h5, h6]
    simp [Cond.before, Cond.holds, Cond.value, he, h7]
  · have he : (Term.static C n d).eval args U none [] U = cell.slots[f.slot]? := by simp [Term.eval, State.fieldNamed?, h1, h2, h4, h5, h6]
    simp [Cond.before, Cond.holds, Cond.value, he, h7]
theorem tX_on {w : Cond} (h : w ∈ tX) : w.onTables = true ∧ w.keepsFace = true := by
  have h1 := (List.mem_filter.mp h).2
  simpa using h1
theorem ls_moved {O n d : String} {A A' : Array Value} {u U : State} (hvm : u.vm.Alike U.vm) (hq : ∀ a : Nat, a < u.heap.size → U.heap[a]? = u.heap[a]?) (h : (Cond.laysStatic O n d).before A u = true) : (Cond.laysStatic O n d).before A' U = true := by
  have h1 := Cond.laysStatic_setVm hvm h
  obtain ⟨c, k, i, f, a, cell, hc, hi, hst, ha, hcell, hs, hcls, hlt, hty⟩ := Cond.laysStatic_spec h1
  have hcell' : u.heap[a]? = some cell := hcell
  exact Cond.laysStatic_of (s := U) hc hi hst ha (by rw [hq a (Array.getElem?_eq_some_iff.mp hcell').1]; exact hcell') hs hcls hlt hty
theorem ThS.calling {U : State} {g : JFrame} {mk : MethodId} {a : Array Value} (h : ThS U) : ThS (U.calling g mk a) :=
  ⟨va_Zq.moved (u := U) (U := U.calling g mk a) (Vm.Alike.refl U.vm) h.1, va_Zq.moved (u := U) (U := U.calling g mk a) (Vm.Alike.refl U.vm) h.2.1, fun w hw => va_tabs (tX_on hw).1 (by rfl) (h.2.2.1 w hw), ⟨ls_moved (u := U) (U := U.calling g mk a) (Vm.Alike.refl U.vm) (fun _ _ => rfl) h.2.2.2.1.1, ls_moved (u := U) (U := U.calling g mk a) (Vm.Alike.refl U.vm) (fun _ _ => rfl) h.2.2.2.1.2⟩, fun q hq => by
    obtain ⟨a1, h1⟩ := h.2.2.2.2 q hq
    exact ⟨a1, vk_R.same (by rfl) h1⟩⟩
/-- .. and they still do, later in the run, where the old cells are as they were -/
theorem ThS.later {s U : State} (hW : s.WarmedH U.vm) (hq : ∀ a : Nat, a < s.heap.size → U.heap[a]? = s.heap[a]?) (h : ThS s) : ThS U :=
  ⟨(va_Zq.moved hW.alike h.1).kept (fun a h1 _ => hq a h1), (va_Zq.moved hW.alike h.2.1).kept (fun a h1 _ => hq a h1), fun w hw => va_tabs (tX_on hw).1 (by rfl) (Cond.before_shiftedFace (State.Shifted.of_warmed hW) _ (tX_on hw).2 (h.2.2.1 w hw)), ⟨ls_moved hW.alike hq h.2.2.2.1.1, ls_moved hW.alike hq h.2.2.2.1.2⟩, fun q hq => by
    obtain ⟨a1, h1⟩ := h.2.2.2.2 q hq
    exact ⟨a1, h1.warm hW⟩⟩
def PwT (D : va_G) (cl : List vw_C) (tys : List (ClassId × FieldType)) (b N : Nat) (sh : Shp) (av : List Value) (M : Mm) (sz : Nat) : Array Value → State → Prop := va_Pc av (fun U => U.heap.size = sz ∧ ThS U ∧ va_P D cl (wd b N sh M) U.heap ∧ va_K D cl tys U)
theorem PwT_blind {D : va_G} {cl : List vw_C} {tys : List (ClassId × FieldType)} {b N : Nat} {sh : Shp} {av : List Value} {M : Mm} {sz : Nat} : FrameBlind (PwT D cl tys b N sh av M sz) := by
  intro a U g mk q
  obtain ⟨q0, q1, q2, qP, qK⟩ := q
  exact ⟨q0, q1, q2.calling, qP, va_K.moved (u := U) (U := U.calling g mk a) (Vm.Alike.refl U.vm) qK⟩
theorem cls_of {s : State} {args : Array Value} {C : String} {n : Nat} (h : (Cond.instantiable C n).before args s = true) : ∃ cC, s.vm.findClass C = some cC := by
  obtain ⟨cC, kC, hfc, -⟩ := Cond.instantiable_spec h
  exact ⟨cC, hfc⟩
theorem mk_metT {l : Launch} {y : MethodName} {cc : ByteArray} {nL : Nat} {ret : Option FieldType} {rm : Room} {D : va_G} {cl : List vw_C} {tys : List (ClassId × FieldType)} {b N : Nat} {sh : Shp} {av : List Value} {M : Mm} {sz mc ms : Nat} {Qc : Array Value → State → Outcome → State → Prop} {free : Addr → Prop} (hy : plainName y.cls = true) (hav : (lg_sl av).length ≤ nL) (hst : l.stackTraces = false)
    (hblk : ∀ (p : Program) (e : Env) (s : State) (m : MethodId) (below : List Frame) (meth : Method) (c : Code) (ls : Array Slot), Cxt p l s m av.toArray meth c D cl tys y.cls cc nL ret → s.heap.size = sz → ThS s → va_P D cl (wd b N sh M) s.heap → va_S (reg b N s.heap.size) s.heap s.heap [] → lv_has ls nL (lv_args 0 av) → W p l e rm s m av.toArray below meth c s.heap [] 0 0 (MQT below Qc av.toArray s mc ms free) (F0 m 0 ls [])) :
    MetT l y (wm y cc nL ret) rm (PwT D cl tys b N sh av M sz) Qc mc ms free := by
  refine MetFree.of_bodyS (code := cc) (maxLocals := nL) (ret := ret) hy ?_ ?_
  · intro args s m h hn
    obtain ⟨meth, c, h1, h2, h3, h4, h5, h6, -, -⟩ := Cond.code_spec hn (atoms_spec (ws := wm y cc nL ret) h _ List.mem_cons_self)
    exact ⟨meth, c, h1, h2, h3, h4, h5, h6⟩
  · intro p e s m args below meth c s₁ B hml hv _
    obtain ⟨rfl, hsz, hTS, hP, hK⟩ := hv
    have hts := atoms_spec (ws := wm y cc nL ret) B.pre
    have hh0 : s₁.heap = s.heap := by rw [B.state]; rfl
    have key := hblk p e s m below meth c _ ⟨⟨B.exec, B.bytes, hml, B.returns, findClass_of_methodNamed B.named, fun w h => hts w (List.mem_cons_of_mem _ h), B.notSynchronized, hK⟩, B.noHandlers (hts _ List.mem_cons_self), hst⟩ hsz hTS hP va_S.rf (lv_entry av hav)
    rw [← lg_entry_eq] at key
    obtain ⟨t, a1, o, b1, b2, b3⟩ := key s₁ hh0 (Stand.of_body B)
    exact ⟨t, o, a1, b1, b2, b3⟩
section TW
variable {p : Program} {l : Launch} {e : Env} {R : Room} {s : State} {m : MethodId} {args : Array Value} {below : List Frame} {meth : Method} {c : Code} {H : Heap} {locs : List Loc} {cells slots mc ms : Nat} {Q : State → Prop}
variable {cc : ByteArray} {pc : Nat} {ls : Array Slot} {rest st0 : List Value} {D : va_G} {cl : List vw_C} {tys : List (ClassId × FieldType)} {b N : Nat} {sh : Shp} {M M' : Mm}
theorem W_mono {Q Q' : State → Prop} {g : JFrame} (h : ∀ t, Q t → Q' t) (k : W p l e R s m args below meth c H locs cells slots Q g) : W p l e R s m args below meth c H locs cells slots Q' g := fun T hT X => by
  obtain ⟨t, a, b⟩ := k T hT X
  exact ⟨t, a, h t b⟩
theorem wd_iretT {rv : Int32} (hx : p.tables.exec = Jvm.exec) (hb : c.code = cc) (hr : meth.sig.returnType = some .int) (hlk : meth.locks = false) (hP : va_P D cl (wd b N sh M) H) (hS : va_S (reg b N s.heap.size) s.heap H locs) (h1 : cells ≤ mc) (h2 : slots ≤ ms) (hdg : decode cc pc = .ok (.ireturn, 1)) :
    W p l e R s m args below meth c H locs cells slots (MQT below (Qwt D cl b N sh 0 rv M s.heap.size) args s mc ms (reg b N s.heap.size)) (F0 m pc ls [.int rv]) := by
  refine W.widen (k := mc) (n := ms) h1 h2 ?_
  refine W_mono ?_ (W.iret (Qc := Qwt D cl b N sh 0 rv M s.heap.size) (free := reg b N s.heap.size) (v := rv) hx hb hr (fun t ht _ => ⟨Or.inl ⟨rfl, rfl⟩, by rw [ht]; exact hP, hS.F ht⟩) hS.2.2 hdg hlk)
  intro t ht
  obtain ⟨o, q1, q2, q3, L, q4, q5⟩ := ht
  exact ⟨o, q1, q2, q3, L, ⟨q4.2.1, q4.2.2⟩, q5⟩
/-- nothing old is written: old cells are as they were -/
theorem same_heap {u : State} {k n : Nat} (h : s.sameButNew u [] k n) : ∀ q : Nat, q < s.heap.size → u.heap[q]? = s.heap[q]? := by
  intro q hq
  obtain ⟨c0, hc0⟩ : ∃ c0, s.heap[q]? = some c0 := ⟨_, Array.getElem?_eq_getElem hq⟩
  obtain ⟨c', h1, h2, h3, h4⟩ := h.2.2.2.2.2 q c0 hc0
  rw [h1, hc0, h2]
  have : c'.slots = c0.slots := by
    apply Array.ext_getElem?
    intro i
    exact h4 i (by simp)
  rw [this]
/-- THROW NEW X("..") in a method that has written nothing -/
theorem wd_throw (k : Nat) (hk : k ≠ 0) {v : Int32} {own tx : String} {i1 i2 i3 qs : Nat} {names : List String} {cC : ClassId} (hx : p.tables.exec = Jvm.exec) (hb : c.code = cc) (hlk : meth.locks = false) (hml : c.maxLocals = ls.size) (hno : c.exceptionTable.isEmpty = true) (hst : l.stackTraces = false) (hown : s.vm.findClass own = some m.cls)
    (hcl : (Cond.classLink own i1 (xn k)).before args s = true) (hins : (Cond.instantiable (xn k) 6).before args s = true) (hini : (Cond.initialized (xn k)).before args s = true) (hfc : s.vm.findClass (xn k) = some cC) (hstr : vk_R own i2 tx qs s)
    (hfit : Bundle.fit (xn k) = true) (hnames : ∀ n ∈ names, Bundle.fit n = true) (hat : ∀ a ∈ Bundle.ownAtoms own i3 (xn k) names, a.before args s = true)
    (hP : va_P D cl (wd b N sh M) s.heap) (hR1 : 1 ≤ R.cells) (hR2 : 6 ≤ R.slots) (hR3 : names.length + 3 < R.frames) (hR4 : 13 * (names.length + 1) + 44 ≤ R.locals)
    (d0 : decode cc pc = .ok (.new i1, 3)) (d3 : decode cc (pc + 3) = .ok (.dup, 1)) (d4 : decode cc (pc + 4) = .ok (.ldc i2, 2)) (d6 : decode cc (pc + 6) = .ok (.invokespecial i3, 3)) (d9 : decode cc (pc + 9) = .ok (.athrow, 1)) :
    W p l e R s m args below meth c s.heap [] 0 0 (MQT below (Qwt D cl b N sh k v M s.heap.size) args s 1 6 (reg b N s.heap.size)) (F0 m pc ls []) := by
  refine W.newcK hx hb hown hcl hins hini rfl d0 (by omega) (by omega) hfc rfl (fun H1 kC hkC e1 z1 o1 => ?_)
  refine lv_dup hx hb d3 rfl ?_
  refine va_ldcS hx hb hown hstr d4 ?_
  intro T hT X
  obtain ⟨U, st, hrun, hend, hW, hsame, ce, hce, hO⟩ := X.ctorThrowS hx (by rw [X.admits.platform]; exact hst) (own := own) (cls := xn k) (names := names) (ic := i3) hown hfit hnames hat (fun x h => by cases h) hfc hkC (by rw [hT]; exact e1) (Nat.le_refl _) (msg := .ref qs) rfl (g := F0 m (pc + 6) ls [.ref qs, .ref s.heap.size, .ref s.heap.size]) rfl (by rw [hml]) rfl rfl rfl (by rw [hb]; exact d6) (by rw [hb]; exact d9) (fun x h => by
    have h0 : c.exceptionTable = #[] := by simpa using hno
    rw [h0] at h
    cases h) hR3 (by show 2 * 0 + _ + _ ≤ _; simp [Value.category]; omega) hlk
  have hsh := same_heap hsame
  refine ⟨U, st, .threw s.heap.size, hrun, hend, ⟨Or.inr ⟨hk, s.heap.size, ce, rfl, hce, hO.vm, hO.cls⟩, ?_, ?_, ?_⟩, [], ⟨hW, hsame⟩, fun q h => by cases h⟩
  · exact hP.kept fun j q hq => hsh q.1 ((hP j q hq).lt)
  · exact hsame.2.1
  · exact fun q h1 _ => hsh q h1
end TW
