/-! CONTRACTS THAT MAY END BY A THROW -/
def FrameEndT (first : State) (t : State) (L : List Loc) (k n : Nat) : Prop := first.WarmedH t.vm ∧ first.sameButNew ({ t with vm := first.vm } : State) L k n
def MetT (l : Launch) (y : MethodName) (ws : List Cond) (rm : Room) (Pc : Array Value → State → Prop) (Qc : Array Value → State → Outcome → State → Prop) (mc ms : Nat) (free : Addr → Prop) : Prop :=
  MetFree l y (headSpec ws rm) Pc (fun _ _ _ _ _ => True) (fun a st o t => Qc a st o t ∧ ∃ L, FrameEndT st t L mc ms ∧ ∀ q ∈ L, free q.base)
def MQT (below : List Frame) (Qc : Array Value → State → Outcome → State → Prop) (a : Array Value) (s : State) (mc ms : Nat) (free : Addr → Prop) : State → Prop := fun t =>
  ∃ o, t.status = .running ∧ Ended t below o ∧ Qc a s o t ∧ ∃ L, FrameEndT s t L mc ms ∧ ∀ q ∈ L, free q.base
/-- the names of what is thrown, by number from 1 on; 0: it returned -/
def xn (k : Nat) : String := match k with
  | 1 => "java/lang/IndexOutOfBoundsException"
  | 2 => "java/lang/IllegalArgumentException"
  | 3 => "java/lang/IllegalStateException"
  | _ => "java/lang/UnsupportedOperationException"
def Qwt (D : va_G) (cl : List vw_C) (b N : Nat) (sh : Shp) (k : Nat) (v : Int32) (M' : Mm) (sz : Nat) : Array Value → State → Outcome → State → Prop := fun _ st oc t =>
  ((k = 0 ∧ oc = .returned (some (.int v))) ∨ (k ≠ 0 ∧ ∃ (a : Nat) (ce : Cell), oc = .threw a ∧ t.heap[a]? = some ce ∧ ce.vm = .none ∧ st.vm.findClass (xn k) = some ce.cls)) ∧ va_P D cl (wd b N sh M') t.heap ∧ va_F (reg b N sz) st t
theorem oe3 {α β γ : Type} {a c : α} {b d : β} {x y : γ} (h : some (a, b, x) = some (c, d, y)) : a = c ∧ b = d ∧ x = y := by
  have h1 := Option.some.inj h
  exact ⟨congrArg (fun q => q.1) h1, congrArg (fun q => q.2.1) h1, congrArg (fun q => q.2.2) h1⟩
/-- what holds inside a method that throws: no handlers of its own, no stack traces -/
def Cxt (p : Program) (l : Launch) (s : State) (m : MethodId) (args : Array Value) (meth : Method) (c : Code) (D : va_G) (cl : List vw_C) (tys : List (ClassId × FieldType)) (own : String) (cc : ByteArray) (nL : Nat) (ret : Option FieldType) : Prop :=
  Cx p s m args meth c D cl tys own cc nL ret ∧ c.exceptionTable.isEmpty = true ∧ l.stackTraces = false
theorem mk_metT {l : Launch} {y : MethodName} {cc : ByteArray} {nL : Nat} {ret : Option FieldType} {rm : Room} {D : va_G} {cl : List vw_C} {tys : List (ClassId × FieldType)} {b N : Nat} {sh : Shp} {av : List Value} {M : Mm} {sz mc ms : Nat} {Qc : Array Value → State → Outcome → State → Prop} {free : Addr → Prop} (hy : plainName y.cls = true) (hav : (lg_sl av).length ≤ nL) (hst : l.stackTraces = false)
    (hblk : ∀ (p : Program) (e : Env) (s : State) (m : MethodId) (below : List Frame) (meth : Method) (c : Code) (ls : Array Slot), Cxt p l s m av.toArray meth c D cl tys y.cls cc nL ret → s.heap.size = sz → va_P D cl (wd b N sh M) s.heap → va_S (reg b N s.heap.size) s.heap s.heap [] → lv_has ls nL (lv_args 0 av) → W p l e rm s m av.toArray below meth c s.heap [] 0 0 (MQT below Qc av.toArray s mc ms free) (F0 m 0 ls [])) :
    MetT l y (wm y cc nL ret) rm (Pw D cl tys b N sh av M sz) Qc mc ms free := by
  refine MetFree.of_bodyS (code := cc) (maxLocals := nL) (ret := ret) hy ?_ ?_
  · intro args s m h hn
    obtain ⟨meth, c, h1, h2, h3, h4, h5, h6, -, -⟩ := Cond.code_spec hn (atoms_spec (ws := wm y cc nL ret) h _ List.mem_cons_self)
    exact ⟨meth, c, h1, h2, h3, h4, h5, h6⟩
  · intro p e s m args below meth c s₁ B hml hv _
    obtain ⟨rfl, hsz, hP, hK⟩ := hv
    have hts := atoms_spec (ws := wm y cc nL ret) B.pre
    have hh0 : s₁.heap = s.heap := by rw [B.state]; rfl
    have key := hblk p e s m below meth c _ ⟨⟨B.exec, B.bytes, hml, B.returns, findClass_of_methodNamed B.named, fun w h => hts w (List.mem_cons_of_mem _ h), B.notSynchronized, hK⟩, B.noHandlers (hts _ List.mem_cons_self), hst⟩ hsz hP va_S.rf (lv_entry av hav)
    rw [← lg_entry_eq] at key
    obtain ⟨t, a1, o, b1, b2, b3⟩ := key s₁ hh0 (Stand.of_body B)
    exact ⟨t, o, a1, b1, b2, b3⟩
section TW
variable {p : Program} {l : Launch} {e : Env} {R : Room} {s : State} {m : MethodId} {args : Array Value} {below : List Frame} {meth : Method} {c : Code} {H : Heap} {locs : List Loc} {cells slots mc ms : Nat} {Q : State → Prop}
variable {cc : ByteArray} {pc : Nat} {ls : Array Slot} {rest st0 : List Value} {D : va_G} {cl : List vw_C} {tys : List (ClassId × FieldType)} {b N : Nat} {sh : Shp} {M M' : Mm}
theorem W_mono {Q Q' : State → Prop} {g : JFrame} (h : ∀ t, Q t → Q' t) (k : W p l e R s m args below meth c H locs cells slots Q g) : W p l e R s m args below meth c H locs cells slots Q' g := fun T hT X => by
  obtain ⟨t, a, b⟩ := k T hT X
  exact ⟨t, a, h t b⟩
theorem wd_iretT {rv : Int32} (hx : p.tables.exec = Jvm.exec) (hb : c.code = cc) (hr : meth.sig.returnType = some .int) (hlk : meth.locks = false) (hP : va_P D cl (wd b N sh M) H) (hS : va_S (reg b N s.heap.size) s.heap H locs) (h1 : cells ≤ mc) (h2 : slots ≤ ms) (hdg : decode cc pc = .ok (.ireturn, 1)) :
    W p l e R s m args below meth c H locs cells slots (MQT below (Qwt D cl b N sh 0 rv M s.heap.size) args s mc ms (reg b N s.heap.size)) (F0 m pc ls [.int rv]) := by
  refine W.widen (k := mc) (n := ms) h1 h2 ?_
  refine W_mono ?_ (W.iret (Qc := Qwt D cl b N sh 0 rv M s.heap.size) (free := reg b N s.heap.size) (v := rv) hx hb hr (fun t ht _ => ⟨Or.inl ⟨rfl, rfl⟩, by rw [ht]; exact hP, hS.F ht⟩) hS.2.2 hdg hlk)
  intro t ht
  obtain ⟨o, q1, q2, q3, L, q4, q5⟩ := ht
  exact ⟨o, q1, q2, q3, L, ⟨q4.2.1, q4.2.2⟩, q5⟩
/-- nothing old is written: old cells are as they were -/
theorem same_heap {u : State} {k n : Nat} (h : s.sameButNew u [] k n) : ∀ q : Nat, q < s.heap.size → u.heap[q]? = s.heap[q]? := by
  intro q hq
  obtain ⟨c0, hc0⟩ : ∃ c0, s.heap[q]? = some c0 := ⟨_, Array.getElem?_eq_getElem hq⟩
  obtain ⟨c', h1, h2, h3, h4⟩ := h.2.2.2.2.2 q c0 hc0
  rw [h1, hc0, h2]
  have : c'.slots = c0.slots := by
    apply Array.ext_getElem?
    intro i
    exact h4 i (by simp)
  rw [this]
/-- THROW NEW X("..") in a method that has written nothing -/
theorem wd_throw (k : Nat) (hk : k ≠ 0) {v : Int32} {own tx : String} {i1 i2 i3 qs : Nat} {names : List String} {cC : ClassId} (hx : p.tables.exec = Jvm.exec) (hb : c.code = cc) (hlk : meth.locks = false) (hml : c.maxLocals = ls.size) (hno : c.exceptionTable.isEmpty = true) (hst : l.stackTraces = false) (hown : s.vm.findClass own = some m.cls)
    (hcl : (Cond.classLink own i1 (xn k)).before args s = true) (hins : (Cond.instantiable (xn k) 6).before args s = true) (hini : (Cond.initialized (xn k)).before args s = true) (hfc : s.vm.findClass (xn k) = some cC) (hstr : vk_R own i2 tx qs s)
    (hfit : Bundle.fit (xn k) = true) (hnames : ∀ n ∈ names, Bundle.fit n = true) (hat : ∀ a ∈ Bundle.ownAtoms own i3 (xn k) names, a.before args s = true)
    (hP : va_P D cl (wd b N sh M) s.heap) (hR1 : 1 ≤ R.cells) (hR2 : 6 ≤ R.slots) (hR3 : names.length + 3 < R.frames) (hR4 : 13 * (names.length + 1) + 44 ≤ R.locals)
    (d0 : decode cc pc = .ok (.new i1, 3)) (d3 : decode cc (pc + 3) = .ok (.dup, 1)) (d4 : decode cc (pc + 4) = .ok (.ldc i2, 2)) (d6 : decode cc (pc + 6) = .ok (.invokespecial i3, 3)) (d9 : decode cc (pc + 9) = .ok (.athrow, 1)) :
    W p l e R s m args below meth c s.heap [] 0 0 (MQT below (Qwt D cl b N sh k v M s.heap.size) args s 1 6 (reg b N s.heap.size)) (F0 m pc ls []) := by
  refine W.newcK hx hb hown hcl hins hini rfl d0 (by omega) (by omega) hfc rfl (fun H1 kC hkC e1 z1 o1 => ?_)
  refine lv_dup hx hb d3 rfl ?_
  refine va_ldcS hx hb hown hstr d4 ?_
  intro T hT X
  obtain ⟨U, st, hrun, hend, hW, hsame, ce, hce, hO⟩ := X.ctorThrowS hx (by rw [X.admits.platform]; exact hst) (own := own) (cls := xn k) (names := names) (ic := i3) hown hfit hnames hat (fun x h => by cases h) hfc hkC (by rw [hT]; exact e1) (Nat.le_refl _) (msg := .ref qs) rfl (g := F0 m (pc + 6) ls [.ref qs, .ref s.heap.size, .ref s.heap.size]) rfl (by rw [hml]) rfl rfl rfl (by rw [hb]; exact d6) (by rw [hb]; exact d9) (fun x h => by
    have h0 : c.exceptionTable = #[] := by simpa using hno
    rw [h0] at h
    cases h) hR3 (by show 2 * 0 + _ + _ ≤ _; simp [Value.category]; omega) hlk
  have hsh := same_heap hsame
  refine ⟨U, st, .threw s.heap.size, hrun, hend, ⟨Or.inr ⟨hk, s.heap.size, ce, rfl, hce, hO.vm, hO.cls⟩, ?_, ?_, ?_⟩, [], ⟨hW, hsame⟩, fun q h => by cases h⟩
  · exact hP.kept fun j q hq => hsh q.1 ((hP j q hq).lt)
  · exact hsame.2.1
  · exact fun q h1 _ => hsh q h1
end TW
