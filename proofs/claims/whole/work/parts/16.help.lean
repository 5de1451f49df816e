/-! THE LAW'S HELPERS: a call of the class in a try; what is thrown is caught by its class -/
def ncp : List (String × String) := [("java/lang/IllegalArgumentException", "java/lang/IndexOutOfBoundsException"), ("java/lang/IllegalStateException", "java/lang/IndexOutOfBoundsException"), ("java/lang/UnsupportedOperationException", "java/lang/IndexOutOfBoundsException"), ("java/lang/IndexOutOfBoundsException", "java/lang/IllegalArgumentException"), ("java/lang/IllegalStateException", "java/lang/IllegalArgumentException"), ("java/lang/UnsupportedOperationException", "java/lang/IllegalArgumentException"), ("java/lang/IndexOutOfBoundsException", "java/lang/IllegalStateException"), ("java/lang/IllegalArgumentException", "java/lang/IllegalStateException"), ("java/lang/UnsupportedOperationException", "java/lang/IllegalStateException"), ("java/lang/IndexOutOfBoundsException", "java/lang/UnsupportedOperationException"), ("java/lang/IllegalArgumentException", "java/lang/UnsupportedOperationException"), ("java/lang/IllegalStateException", "java/lang/UnsupportedOperationException")]
/-- what a helper's start says beside the cells: which exceptions are not each other's -/
def NoC (U : State) : Prop := ∀ q ∈ ncp, ∃ a b, U.vm.findClass q.1 = some a ∧ U.vm.findClass q.2 = some b ∧ U.vm.assignable a b = false
def HlS (U : State) : Prop := ThS U ∧ NoC U
theorem NoC.moved {u U : State} (hvm : u.vm.Alike U.vm) (h : NoC u) : NoC U := fun q hq => by
  obtain ⟨a, b, h1, h2, h3⟩ := h q hq
  exact ⟨a, b, by rw [hvm.findClass]; exact h1, by rw [hvm.findClass]; exact h2, by rw [hvm.assignable]; exact h3⟩
theorem HlS.calling {U : State} {g : JFrame} {mk : MethodId} {a : Array Value} (h : HlS U) : HlS (U.calling g mk a) := ⟨h.1.calling, NoC.moved (u := U) (U := U.calling g mk a) (Vm.Alike.refl U.vm) h.2⟩
theorem HlS.later {s U : State} (hW : s.WarmedH U.vm) (hq : ∀ a : Nat, a < s.heap.size → U.heap[a]? = s.heap[a]?) (h : HlS s) : HlS U := ⟨h.1.later hW hq, h.2.moved hW.alike⟩
theorem nocast {s : State} {A B : String} {a b : ClassId} {args : Array Value} (h : (Cond.not (.castable A B)).before args s = true) (ha : s.vm.findClass A = some a) (hb : s.vm.findClass B = some b) : s.vm.assignable a b = false := by
  cases hv : s.vm.assignable a b with
  | false => rfl
  | true => simp [Cond.before, Cond.holds, Cond.value, ha, hb, hv] at h
def wmW (y : MethodName) (bytes : ByteArray) (maxL : Nat) (ret : Option FieldType) (hh : List (Nat × Nat × Nat × Nat)) : List Cond := Cond.codeWith y bytes maxL ret hh :: tG
def exT (c : Code) (hh : List (Nat × Nat × Nat × Nat)) : Prop := c.exceptionTable.toList.map (fun h => (h.startPc, h.endPc, h.handlerPc, h.catchType)) = hh
/-- the start of a helper: the class's cells, and the long that takes the answer -/
def PwH (D : va_G) (cl : List vw_C) (tys : List (ClassId × FieldType)) (b N : Nat) (sh : Shp) (cJ : ClassId) (o : Nat) (f : Nat → Int64) (av : List Value) (M : Mm) (sz : Nat) : Array Value → State → Prop := va_Pc av (fun U => U.heap.size = sz ∧ HlS U ∧ va_P D cl (wd b N sh M) U.heap ∧ va_P D cl [(o, .inl (cJ, 1, .inr (.inl f)))] U.heap ∧ va_K D cl tys U)
def regH (b N o sz : Nat) : Nat → Prop := fun q => reg b N sz q ∨ q = o
def QwH (D : va_G) (cl : List vw_C) (b N : Nat) (sh : Shp) (cJ : ClassId) (o : Nat) (rv : Int32) (f' : Nat → Int64) (M' : Mm) (sz : Nat) : Array Value → State → Outcome → State → Prop := fun _ st oc t => oc = .returned (some (.int rv)) ∧ va_P D cl (wd b N sh M') t.heap ∧ va_P D cl [(o, .inl (cJ, 1, .inr (.inl f')))] t.heap ∧ va_F (regH b N o sz) st t
theorem mk_metW {l : Launch} {y : MethodName} {cc : ByteArray} {nL : Nat} {ret : Option FieldType} {hh : List (Nat × Nat × Nat × Nat)} {rm : Room} {D : va_G} {cl : List vw_C} {tys : List (ClassId × FieldType)} {b N : Nat} {sh : Shp} {cJ : ClassId} {o : Nat} {f : Nat → Int64} {av : List Value} {M : Mm} {sz mc ms : Nat} {Qc : Array Value → State → Outcome → State → Prop} {free : Addr → Prop} (hy : plainName y.cls = true) (hav : (lg_sl av).length ≤ nL)
    (hblk : ∀ (p : Program) (e : Env) (s : State) (m : MethodId) (below : List Frame) (meth : Method) (c : Code) (ls : Array Slot), Cx p s m av.toArray meth c D cl tys y.cls cc nL ret → exT c hh → s.heap.size = sz → HlS s → va_P D cl (wd b N sh M) s.heap → va_P D cl [(o, .inl (cJ, 1, .inr (.inl f)))] s.heap → lv_has ls nL (lv_args 0 av) → W p l e rm s m av.toArray below meth c s.heap [] 0 0 (MQ below Qc av.toArray s mc ms free) (F0 m 0 ls [])) :
    Met l y (wmW y cc nL ret hh) rm (PwH D cl tys b N sh cJ o f av M sz) Qc mc ms free := by
  refine va_MetW (cc := cc) (maxL := nL) (ret := ret) (hh := hh) hy rfl ?_
  intro p e s m args below meth c s₁ B hml hv
  obtain ⟨rfl, hsz, hHl, hP, hPo, hK⟩ := hv
  have hts := atoms_spec (ws := wmW y cc nL ret hh) B.pre
  obtain ⟨m9, meth9, c9, hn9, h1, h2, -, -, hex, -⟩ := Cond.codeWith_spec (hts _ List.mem_cons_self)
  cases B.named.symm.trans hn9
  cases B.method.symm.trans h1
  cases (Stand.of_body B).code.symm.trans h2
  rw [lg_entry_eq]
  exact hblk p e s m below meth c _ ⟨B.exec, B.bytes, hml, B.returns, findClass_of_methodNamed B.named, fun w h => hts w (List.mem_cons_of_mem _ h), B.notSynchronized, hK⟩ hex hsz hHl hP hPo (lv_entry av hav)
section HL
variable {p : Program} {l : Launch} {e : Env} {R : Room} {s : State} {m : MethodId} {args : Array Value} {below : List Frame} {meth : Method} {c : Code} {H : Heap} {locs : List Loc} {cells slots : Nat} {Q : State → Prop}
variable {cc : ByteArray} {pc : Nat} {ls : Array Slot} {rest st0 : List Value} {D : va_G} {cl : List vw_C} {tys : List (ClassId × FieldType)} {b N : Nat} {sh : Shp} {M M' : Mm} {A : Nat → Prop}
def WTh (p : Program) (l : Launch) (e : Env) (R : Room) (s : State) (m : MethodId) (args : Array Value) (below : List Frame) (meth : Method) (c : Code) (H : Heap) (locs : List Loc) (cells slots : Nat) (Q : State → Prop) (g : JFrame) (a : Addr) : Prop :=
  ∀ T : State, T.heap = H → Stand p l e R s m args below meth c T locs cells slots → ∃ t, Steps p.tables e below ((T.setTop g).pushFrame (.throwing a)) t ∧ Q t
variable {y : MethodName} {bytes : ByteArray} {maxL nL n index mc ms : Nat} {ret : Option FieldType} {ws : List Cond} {rm : Room} {Ts : List Cond} {own C : String} {As : List Value}
theorem wd_cvt {k : Nat} {v : Int32} (S : CallFix p m c cc nL s args Ts own) (hK : va_K D cl tys s) (hP : va_P D cl (wd b N sh M) s.heap) (hTS : ThS s) (r : Nat) (hr : r < N) {ci : Nat} {L : List (Option (Option Nat))} {T : u_T} {Nf : Nat} (hs : sh r = ob ci L) (hc : cl[ci]? = some (C, T, Nf))
    (hM : MetT l y ws rm (PwT D cl tys b N sh (.ref (b + r) :: As) M s.heap.size) (Qwt D cl b N sh k v M' s.heap.size) mc ms (reg b N s.heap.size)) (cw : CallW R s args own C index y bytes maxL ret ws rm mc ms n) (hn : As.length = n) (hsize : ls.size = nL) (hst : st0 = As.reverse ++ .ref (b + r) :: rest) (hroom : (rest.map fun v => v.category).sum ≤ 8) (hdg : decode cc pc = .ok (.invokevirtual index, 3)) (hf : 0 + mc ≤ R.cells ∧ 0 + ms ≤ R.slots)
    (kr : k = 0 → ∀ (H1 : Heap) (locs1 : List Loc), va_P D cl (wd b N sh M') H1 → va_S (reg b N s.heap.size) s.heap H1 locs1 → W p l e R s m args below meth c H1 locs1 (0 + mc) (0 + ms) Q (F0 m (pc + 3) ls (.int v :: rest)))
    (kt : k ≠ 0 → ∀ (H1 : Heap) (locs1 : List Loc) (a : Nat) (ce : Cell), va_P D cl (wd b N sh M') H1 → va_S (reg b N s.heap.size) s.heap H1 locs1 → H1[a]? = some ce → ce.vm = .none → s.vm.findClass (xn k) = some ce.cls → WTh p l e R s m args below meth c H1 locs1 (0 + mc) (0 + ms) Q (F0 m pc ls rest) a) :
    W p l e R s m args below meth c s.heap [] 0 0 Q (F0 m pc ls st0) := by
  obtain ⟨hx, hb, hml, ho, -⟩ := S
  intro T0 hT X
  obtain ⟨cellB, hcB, hoB, hclB⟩ := va_recv hK hP hc (show (wd b N sh M)[r]? = some (b + r, .inr (ci, fl L (M r))) by rw [wd_at hr, hs]; rfl)
  obtain ⟨o, T', st₀, t, L0, X', hL, e0, hW0, e1, ⟨ho2, hP', hF⟩, hgo⟩ := callVT X hx ho hM cw (b := b + r) (by rw [hT]; exact hcB) hoB hclB (g := F0 m pc ls st0) rfl (hsize.trans hml.symm) (argsL := As) (rest := rest) hn hst (lv_room hroom) (by rw [hb]; exact hdg)
    (fun vm₁ hW₁ g' mk => PwT_blind _ _ _ _ ⟨rfl, by show T0.heap.size = _; rw [hT], ThS.later hW₁ (fun a _ => by show T0.heap[a]? = _; rw [hT]) hTS, by show va_P D cl _ T0.heap; rw [hT]; exact hP, va_K.moved hW₁.alike hK⟩) hf
  rw [hT] at e0
  have hS1 : va_S (reg b N s.heap.size) s.heap T'.heap ([] ++ L0) := ⟨by rw [e1, ← e0]; exact hF.1, fun q h1 h2 => by rw [e1, ← e0]; exact hF.2 q (by rw [e0]; exact h1) h2, fun q hq => hL q hq⟩
  rw [← e1] at hP'
  rcases ho2 with ⟨hk, rfl⟩ | ⟨hk, a, ce, rfl, hce, hcv, hcc⟩
  · rcases hgo with ⟨v', hv', hgo⟩ | ⟨a', ha', -⟩
    · cases hv'
      obtain ⟨t2, a1, b1⟩ := kr hk T'.heap _ hP' hS1 T' rfl X'
      exact ⟨t2, hgo t2 a1, b1⟩
    · cases ha'
  · rcases hgo with ⟨v', hv', -⟩ | ⟨a', ha', hgo⟩
    · cases hv'
    · cases ha'
      obtain ⟨t2, a1, b1⟩ := kt hk T'.heap _ a ce hP' hS1 (by rw [e1]; exact hce) hcv (by rw [← hW0.alike.findClass]; exact hcc) T' rfl X'
      exact ⟨t2, hgo t2 a1, b1⟩
/-- the answer into the long -/
theorem wl_last {o : Nat} {f : Nat → Int64} {cA : ClassId} (hx : p.tables.exec = Jvm.exec) (hb : c.code = cc) (hK : va_K D cl tys s) (t0 : Nat) (hPo : va_P D cl [(o, .inl (cA, 1, .inr (.inl f)))] H) (hS : va_S A s.heap H locs) (hA : A o) (ht : tys[t0]? = some (cA, .long)) {x : Int64} (hdg : decode cc pc = .ok (.lastore, 1))
    (kk : ∀ (H1 : Heap) (locs1 : List Loc), va_P D cl [(o, .inl (cA, 1, .inr (.inl (vp_updL f 0 x))))] H1 → (∀ q : Nat, q ≠ o → H1[q]? = H[q]?) → va_S A s.heap H1 locs1 → W p l e R s m args below meth c H1 locs1 cells slots Q (F0 m (pc + 1) ls rest)) : W p l e R s m args below meth c H locs cells slots Q (F0 m pc ls (.long x :: .int 0 :: .ref o :: rest)) := by
  have hcell : H[o]? = some (vp_cell cA (1, .inr (.inl f))) := hPo 0 _ rfl
  have hin : vp_in 0 1 := vp_in_nI (n := 0) (by decide) (by decide)
  refine W.last hx hb hcell ((hK.2 t0 _ ht).1 1 (fun j => .long (f j))) (fun q => by cases q) (by show ¬ ((0 : Int32) < 0 ∨ (arrV _ _ _).slots.size ≤ _); rw [arrV_size]; exact hin) rfl rfl hdg fun H1 e1 z oq => ?_
  refine kk H1 _ ?_ oq (hS.put z oq hA)
  intro k q hk
  match k, hk with
  | 0, hk =>
    cases hk
    show H1[o]? = some (vp_cell _ _)
    rw [e1, vp_cell_l, vp_cell_l, arrV_store]
    congr 2
    funext q
    by_cases hq : q = (0 : Int32).toNatClampNeg
    · subst hq
      simp [updV, vp_updL]
    · have hq0 : q ≠ 0 := hq
      simp [updV, vp_updL, hq0]
  | k + 1, hk => simp at hk
/-- a throw goes to the handler: the entries ahead don't take it, this one does -/
theorem wd_caught {k : Nat} {a : Nat} {ce : Cell} {hh : List (Nat × Nat × Nat × Nat)} (i : Nat) (nms : List String) (hx : p.tables.exec = Jvm.exec) (hown : s.vm.findClass own = some m.cls) (hex : exT c hh) (hce : H[a]? = some ce) (hcv : ce.vm = .none) (hcc : s.vm.findClass (xn k) = some ce.cls)
    (hcov : ∀ h ∈ hh, h.1 ≤ pc ∧ pc < h.2.1 ∧ h.2.2.2 ≠ 0) (hlk : ∀ j, j ≤ i → ∀ h, hh[j]? = some h → ∃ nm cN, nms[j]? = some nm ∧ (Cond.classLink own h.2.2.2 nm).before args s = true ∧ s.vm.findClass nm = some cN ∧ s.vm.assignable ce.cls cN = decide (j = i)) {st ct hp en : Nat} (hi : hh[i]? = some (st, en, hp, ct))
    (kk : W p l e R s m args below meth c H locs cells slots Q (F0 m hp ls [.ref a])) : WTh p l e R s m args below meth c H locs cells slots Q (F0 m pc ls rest) a := by
  intro T hT X
  have hpl : e.platform.magicAccessors = ({} : Platform).magicAccessors := by rw [X.admits.platform]
  obtain ⟨kcl, hkcl, -⟩ := Vm.findClass_spec hcc
  have key : ∀ (n j : Nat) (xs : List ExceptionTableEntry) (S : State), j + n = i → s.WarmedH S.vm → S.heap[a]? = some ce → xs.map (fun h => (h.startPc, h.endPc, h.handlerPc, h.catchType)) = hh.drop j → ∃ vm', s.WarmedH vm' ∧ ∀ (Q : Handler → Pre) (E : CtlPost) (d : Bool) (acts : List Action), wp (findHandler.go (F0 m pc ls rest) a xs) Q E e d acts S ↔ Q (.found hp) d acts (S.setVm vm') := by
    intro n
    induction n with
    | zero =>
      intro j xs S hj hWS hS hxs
      obtain rfl : j = i := by omega
      have hlt : j < hh.length := (List.getElem?_eq_some_iff.mp hi).1
      rw [List.drop_eq_getElem_cons hlt, (List.getElem?_eq_some_iff.mp hi).2] at hxs
      cases xs with
      | nil => simp at hxs
      | cons x t =>
        simp only [List.map_cons, List.cons.injEq] at hxs
        obtain ⟨hxe, -⟩ := hxs
        obtain ⟨nm, cN, -, hlink, hcN, has⟩ := hlk j (Nat.le_refl _) _ hi
        have hst : x.startPc = st := congrArg (fun z : Nat × Nat × Nat × Nat => z.1) hxe
        have hen : x.endPc = en := congrArg (fun z : Nat × Nat × Nat × Nat => z.2.1) hxe
        have hhp : x.handlerPc = hp := congrArg (fun z : Nat × Nat × Nat × Nat => z.2.2.1) hxe
        have hct : x.catchType = ct := congrArg (fun z : Nat × Nat × Nat × Nat => z.2.2.2) hxe
        have hcv1 := hcov _ (List.mem_of_getElem? hi)
        obtain ⟨vm', hW', hgo⟩ := cat_entry (e := e) (f := F0 m pc ls rest) (x := x) hWS hpl hown (by rw [hct]; exact hlink) (by simp only [covers, hst, hen]; simp; exact ⟨hcv1.1, hcv1.2.1⟩) (by rw [hct]; exact hcv1.2.2) hcN hS hcv ⟨kcl, hkcl⟩
        refine ⟨vm', hW', fun Q E d acts => ?_⟩
        rw [hgo, if_pos (by rw [has]; simp), hhp]
    | succ n ih =>
      intro j xs S hj hWS hS hxs
      have hlt : j < hh.length := by have := (List.getElem?_eq_some_iff.mp hi).1; omega
      rw [List.drop_eq_getElem_cons hlt] at hxs
      cases xs with
      | nil => cases hxs
      | cons x t =>
        simp only [List.map_cons, List.cons.injEq] at hxs
        obtain ⟨hxe, hxt⟩ := hxs
        have hgj : hh[j]? = some hh[j] := List.getElem?_eq_getElem hlt
        obtain ⟨nm, cN, -, hlink, hcN, has⟩ := hlk j (by omega) _ hgj
        have hst : x.startPc = hh[j].1 := congrArg (fun z : Nat × Nat × Nat × Nat => z.1) hxe
        have hen : x.endPc = hh[j].2.1 := congrArg (fun z : Nat × Nat × Nat × Nat => z.2.1) hxe
        have hct : x.catchType = hh[j].2.2.2 := congrArg (fun z : Nat × Nat × Nat × Nat => z.2.2.2) hxe
        have hcv1 := hcov _ (List.mem_of_getElem? hgj)
        obtain ⟨vm1, hW1, hgo⟩ := cat_entry (e := e) (f := F0 m pc ls rest) (x := x) hWS hpl hown (by rw [hct]; exact hlink) (by simp only [covers, hst, hen]; simp; exact ⟨hcv1.1, hcv1.2.1⟩) (by rw [hct]; exact hcv1.2.2) hcN hS hcv ⟨kcl, hkcl⟩
        obtain ⟨vm2, hW2, hgo2⟩ := ih (j + 1) t (S.setVm vm1) (by omega) hW1 hS hxt
        refine ⟨vm2, hW2, fun Q E d acts => ?_⟩
        rw [hgo, if_neg (by rw [has]; simp; omega), hgo2]
        exact Iff.rfl
  have hvm0 : ((T.setTop (F0 m pc ls rest)).pushFrame (.throwing a)).vm = T.vm := Stand.throwing_vm _ _ _
  have hhp0 : ((T.setTop (F0 m pc ls rest)).pushFrame (.throwing a)).heap = T.heap := Stand.throwing_heap _ _ _
  obtain ⟨vm', hW', hgo⟩ := key i 0 c.exceptionTable.toList ((T.setTop (F0 m pc ls rest)).pushFrame (.throwing a)) (by omega) (by rw [hvm0]; exact X.warmed) (by rw [hhp0, hT]; exact hce) (by rw [List.drop_zero]; exact hex)
  obtain ⟨t, a1, b1⟩ := kk (T.setVm vm') hT (X.noted hW')
  refine ⟨t, caughtTo (c := c) (by exact X.here) (pc := hp) (vm' := vm') ?_ a1, b1⟩
  intro Q E d acts
  rw [W.findHandler_eq (meth := meth) (code := c) (by rw [hvm0]; exact X.method') X.code]
  exact hgo Q E d acts
end HL
