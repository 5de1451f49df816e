/-- mk_met for a method of a class of whose methods some are the machine's own -/
theorem mk_metF {l : Launch} {y : MethodName} {cc : ByteArray} {nL : Nat} {ret : Option FieldType} {rm : Room} {D : va_G} {cl : List vw_C} {tys : List (ClassId × FieldType)} {b N : Nat} {sh : Shp} {av : List Value} {M : Mm} {sz mc ms : Nat} {Qc : Array Value → State → Outcome → State → Prop} {free : Addr → Prop} (hy : plainFor y = true) (hav : (lg_sl av).length ≤ nL)
    (hblk : ∀ (p : Program) (e : Env) (s : State) (m : MethodId) (below : List Frame) (meth : Method) (c : Code) (ls : Array Slot), Cx p s m av.toArray meth c D cl tys y.cls cc nL ret → s.heap.size = sz → va_P D cl (wd b N sh M) s.heap → va_S (reg b N s.heap.size) s.heap s.heap [] → lv_has ls nL (lv_args 0 av) → W p l e rm s m av.toArray below meth c s.heap [] 0 0 (MQ below Qc av.toArray s mc ms free) (F0 m 0 ls [])) :
    Met l y (wm y cc nL ret) rm (Pw D cl tys b N sh av M sz) Qc mc ms free := by
  refine MetFree.of_bodySF (code := cc) (maxLocals := nL) (ret := ret) hy ?_ ?_
  · intro args s m h hn
    obtain ⟨meth, c, h1, h2, h3, h4, h5, h6, -, -⟩ := Cond.code_spec hn (atoms_spec (ws := wm y cc nL ret) h _ List.mem_cons_self)
    exact ⟨meth, c, h1, h2, h3, h4, h5, h6⟩
  · intro p e s m args below meth c s₁ B hml hv _
    obtain ⟨rfl, hsz, hP, hK⟩ := hv
    have hts := atoms_spec (ws := wm y cc nL ret) B.pre
    have hh0 : s₁.heap = s.heap := by rw [B.state]; rfl
    have key := hblk p e s m below meth c _ ⟨B.exec, B.bytes, hml, B.returns, findClass_of_methodNamed B.named, fun w h => hts w (List.mem_cons_of_mem _ h), B.notSynchronized, hK⟩ hsz hP va_S.rf (lv_entry av hav)
    rw [← lg_entry_eq] at key
    obtain ⟨t, a1, o, b1, b2, b3⟩ := key s₁ hh0 (Stand.of_body B)
    exact ⟨t, o, a1, b1, b2, b3⟩
abbrev rm_J_floorMod : Room := { frames := 0, cells := 0, slots := 0, locals := 0 }
def B_J_floorMod_18 (B C : Nat) (x2 : Int32) (M : Mm) : Option (Int32) := some x2
def f_J_floorMod (B C : Nat) (x0 x1 : Int32) (M : Mm) : Option (Int32) := (if ¬ x1 = 0 then bnd (x0 - x0 / x1 * x1) (fun v3 => (if 0 ≤ (x0 ^^^ x1) then B_J_floorMod_18 B C v3 M else (if v3 = 0 then B_J_floorMod_18 B C v3 M else some (v3 + x1)))) else none)
section
variable {p : Program} {l : Launch} {e : Env} {s : State} {m : MethodId} {args : Array Value} {below : List Frame} {meth : Method} {c : Code} {dC : Nat → ClassId} {dI : Nat → Nat → Nat} {dA : Nat → ClassId} {b N B C : Nat} {sh : Shp}
set_option maxHeartbeats 4000000 in
set_option maxRecDepth 100000 in
theorem w_J_floorMod_18 {rv : Int32} (G : Cx p s m args meth c (dC, dI) cls6 (tyl dA) "java/lang/Math" k_J_floorMod 3 (some .int))   : ∀ (x2 : Int32) (M : Mm) (ls : Array Slot), va_P (dC, dI) cls6 (wd b N sh M) s.heap → va_S (reg b N s.heap.size) s.heap s.heap [] → lv_has ls 3 [(2, .int x2)] → B_J_floorMod_18 B C x2 M = some rv → W p l e rm_J_floorMod s m args below meth c s.heap [] 0 0 (MQ below (Qro rv) args s 0 0 nofree) (F0 m 18 ls []) := by
  obtain ⟨hx, hb, hml, hr, hown, hts, hlk, hK⟩ := id G
  intro x2 M ls hP hS hl h
  unfold B_J_floorMod_18 at h
  refine lv_iload_n hx hb d_J_floorMod_18 rfl (lv_at hl 0 rfl) ?_
  obtain rfl := oe h
  exact wd_iret0 hx hb hr hlk d_J_floorMod_19
set_option maxHeartbeats 4000000 in
set_option maxRecDepth 100000 in
theorem w_J_floorMod_0 {rv : Int32} (G : Cx p s m args meth c (dC, dI) cls6 (tyl dA) "java/lang/Math" k_J_floorMod 3 (some .int))   : ∀ (x0 x1 : Int32) (M : Mm) (ls : Array Slot), va_P (dC, dI) cls6 (wd b N sh M) s.heap → va_S (reg b N s.heap.size) s.heap s.heap [] → lv_has ls 3 [(0, .int x0), (1, .int x1)] → f_J_floorMod B C x0 x1 M = some rv → W p l e rm_J_floorMod s m args below meth c s.heap [] 0 0 (MQ below (Qro rv) args s 0 0 nofree) (F0 m 0 ls []) := by
  obtain ⟨hx, hb, hml, hr, hown, hts, hlk, hK⟩ := id G
  intro x0 x1 M ls hP hS hl h
  unfold f_J_floorMod at h
  refine lv_iload_n hx hb d_J_floorMod_0 rfl (lv_at hl 0 rfl) ?_
  refine lv_iload_n hx hb d_J_floorMod_1 rfl (lv_at hl 1 rfl) ?_
  obtain ⟨hn2, h⟩ := og h
  refine lv_irem hx hb d_J_floorMod_2 hn2 ?_
  obtain ⟨v3, e3, h⟩ := ln h
  refine lv_nm e3 ?_
  refine lv_istore_n (lv' := [(2, .int v3), (0, .int x0), (1, .int x1)]) hx hb d_J_floorMod_3 rfl hl (by decide) rfl (fun ls hl => ?_)
  refine lv_iload_n hx hb d_J_floorMod_4 rfl (lv_at hl 1 rfl) ?_
  refine lv_iload_n hx hb d_J_floorMod_5 rfl (lv_at hl 2 rfl) ?_
  refine lv_ixor hx hb d_J_floorMod_6 ?_
  refine lv_if_ge (tgt := 18) hx hb d_J_floorMod_7 (by decide) (fun c7 => ?_) (fun c7 => ?_)
  · replace h := ogt c7 h
    exact w_J_floorMod_18 G  v3 M _ hP hS (lv_sub hl [0] rfl) h
  · replace h := ogf c7 h
    refine lv_iload_n hx hb d_J_floorMod_10 rfl (lv_at hl 0 rfl) ?_
    refine lv_if_eq (tgt := 18) hx hb d_J_floorMod_11 (by decide) (fun c11 => ?_) (fun c11 => ?_)
    · replace h := ogt c11 h
      exact w_J_floorMod_18 G  v3 M _ hP hS (lv_sub hl [0] rfl) h
    · replace h := ogf c11 h
      refine lv_iload_n hx hb d_J_floorMod_14 rfl (lv_at hl 0 rfl) ?_
      refine lv_iload_n hx hb d_J_floorMod_15 rfl (lv_at hl 2 rfl) ?_
      refine lv_iadd hx hb d_J_floorMod_16 ?_
      obtain rfl := oe h
      exact wd_iret0 hx hb hr hlk d_J_floorMod_17
theorem c_J_floorMod (l : Launch) (x0 x1 : Int32) (M : Mm) (sz : Nat) {rv : Int32} (h : f_J_floorMod B C x0 x1 M = some rv) : Met l y_J_floorMod (wm y_J_floorMod k_J_floorMod 3 (some .int)) rm_J_floorMod (Pw (dC, dI) cls6 (tyl dA) b N sh [.int x0, .int x1] M sz) (Qro rv) 0 0 nofree := by
  refine mk_metF (by decide +kernel) (Nat.le_of_ble_eq_true rfl) ?_
  intro p e s m below meth c ls G hsz hP hS hl
  subst hsz
  exact w_J_floorMod_0 G _ _ _ ls hP hS hl h
end
