/-! CONSTRUCTORS THAT CALL A NEST MATE'S PRIVATE CONSTRUCTOR: its link is carried in the start -/
def NS (U : State) : Prop := va_Nw (.methodLinkNest "BankTimes$Channel" 26 y_Q_init "BankTimes") U ∧ va_Nw (.methodLinkNest "BankTimes" 58 y_G_init "BankTimes") U
theorem NS.calling {U : State} {g : JFrame} {mk : MethodId} {a : Array Value} (h : NS U) : NS (U.calling g mk a) := ⟨va_Nw.same rfl (by rfl) h.1, va_Nw.same rfl (by rfl) h.2⟩
theorem NS.later {s U : State} (hW : s.WarmedH U.vm) (h : NS s) : NS U := ⟨va_Nw.warmM hW h.1, va_Nw.warmM hW h.2⟩
def PwN (D : va_G) (cl : List vw_C) (tys : List (ClassId × FieldType)) (b N : Nat) (sh : Shp) (av : List Value) (M : Mm) (sz : Nat) : Array Value → State → Prop := va_Pc av (fun U => U.heap.size = sz ∧ NS U ∧ va_P D cl (wd b N sh M) U.heap ∧ va_K D cl tys U)
theorem PwN_blind {D : va_G} {cl : List vw_C} {tys : List (ClassId × FieldType)} {b N : Nat} {sh : Shp} {av : List Value} {M : Mm} {sz : Nat} : FrameBlind (PwN D cl tys b N sh av M sz) := by
  intro a U g mk q
  obtain ⟨q0, q1, q2, qP, qK⟩ := q
  exact ⟨q0, q1, q2.calling, qP, va_K.moved (u := U) (U := U.calling g mk a) (Vm.Alike.refl U.vm) qK⟩
theorem mk_metN {l : Launch} {y : MethodName} {cc : ByteArray} {nL : Nat} {ret : Option FieldType} {rm : Room} {D : va_G} {cl : List vw_C} {tys : List (ClassId × FieldType)} {b N : Nat} {sh : Shp} {av : List Value} {M : Mm} {sz mc ms : Nat} {Qc : Array Value → State → Outcome → State → Prop} {free : Addr → Prop} (hy : plainName y.cls = true) (hav : (lg_sl av).length ≤ nL)
    (hblk : ∀ (p : Program) (e : Env) (s : State) (m : MethodId) (below : List Frame) (meth : Method) (c : Code) (ls : Array Slot), Cx p s m av.toArray meth c D cl tys y.cls cc nL ret → meth.name = y.name → NS s → s.heap.size = sz → va_P D cl (wd b N sh M) s.heap → va_S (frm b) s.heap s.heap [] → lv_has ls nL (lv_args 0 av) → W p l e rm s m av.toArray below meth c s.heap [] 0 0 (MQ below Qc av.toArray s mc ms free) (F0 m 0 ls [])) :
    Met l y (wm y cc nL ret) rm (PwN D cl tys b N sh av M sz) Qc mc ms free := by
  refine Met.ofW (cc := cc) (maxL := nL) (ret := ret) hy rfl ?_
  intro p e s m args below meth c s₁ B hml hv
  obtain ⟨rfl, hsz, hNS, hP, hK⟩ := hv
  have hts := atoms_spec (ws := wm y cc nL ret) B.pre
  rw [lg_entry_eq]
  exact hblk p e s m below meth c _ ⟨B.exec, B.bytes, hml, B.returns, findClass_of_methodNamed B.named, fun w h => hts w (List.mem_cons_of_mem _ h), B.notSynchronized, hK⟩ (name_of_methodNamed B.named B.method).1 hNS hsz hP va_S.rf (lv_entry av hav)
section KN
variable {p : Program} {l : Launch} {e : Env} {R : Room} {s : State} {m : MethodId} {args : Array Value} {below : List Frame} {meth : Method} {c : Code} {H : Heap} {locs : List Loc} {cells slots : Nat} {Q : State → Prop}
variable {cc : ByteArray} {pc : Nat} {ls : Array Slot} {rest st0 : List Value} {D : va_G} {cl : List vw_C} {tys : List (ClassId × FieldType)} {b N : Nat} {sh : Shp} {M M' : Mm}
variable {y : MethodName} {bytes : ByteArray} {maxL nL n index mc ms : Nat} {ret : Option FieldType} {ws : List Cond} {rm : Room} {Ts : List Cond} {own C host : String} {As : List Value}
/-- a private constructor of a nest mate is called -/
theorem wk_ciN {N' : Nat} {sh' : Shp} (S : CallFix p m c cc nL s args Ts own) (hK : va_K D cl tys s) (hP : va_P D cl (wd b N sh M) H) (hS : va_S (frm b) s.heap H locs) (r : Nat)
    (hM : Met l y ws rm (Pw D cl tys b N sh (.ref (b + r) :: As) M H.size) (Qk D cl b N' sh' M') mc ms (frm b)) (cw : va_CN R s args own index y host bytes maxL none ws rm mc ms n ∧ y.name = "<init>" ∧ (Cond.instanceMethod y).before args s = true) (hn : As.length = n) (hsize : ls.size = nL) (hst : st0 = As.reverse ++ .ref (b + r) :: rest) (hroom : (rest.map fun v => v.category).sum ≤ 8) (hdg : decode cc pc = .ok (.invokespecial index, 3)) (hf : cells + mc ≤ R.cells ∧ slots + ms ≤ R.slots)
    (kk : ∀ (H1 : Heap) (locs1 : List Loc), va_P D cl (wd b N' sh' M') H1 → va_S (frm b) s.heap H1 locs1 → W p l e R s m args below meth c H1 locs1 (cells + mc) (slots + ms) Q (F0 m (pc + 3) ls rest)) : W p l e R s m args below meth c H locs cells slots Q (F0 m pc ls st0) := by
  refine va_callv (va_runIN (As := As) (rest := rest) (b := b + r) S hM cw ⟨Pw_blind, fun U hU hW => ⟨rfl, by rw [hU], by rw [hU]; exact hP, va_K.moved hW.alike hK⟩⟩ rfl hn hsize hst (lv_room hroom) hdg hf) hS (fun q _ h => h) (fun q h => h) (fun u t H1 locs1 ht hvm hw hB hz1 hk1 hS1 => ?_)
  have hB : va_P D cl (wd b N' sh' M') t.heap := hB
  rw [ht] at hB
  exact kk H1 locs1 hB hS1
/-- a constructor is called that needs the links -/
theorem wk_ciC {N' : Nat} {sh' : Shp} (S : CallFix p m c cc nL s args Ts own) (hNS : NS s) (hK : va_K D cl tys s) (hP : va_P D cl (wd b N sh M) H) (hS : va_S (frm b) s.heap H locs) (r : Nat)
    (hM : Met l y ws rm (PwN D cl tys b N sh (.ref (b + r) :: As) M H.size) (Qk D cl b N' sh' M') mc ms (frm b)) (cw : CallB R s args own index y bytes maxL none ws rm mc ms n ∧ y.name = "<init>" ∧ (Cond.instanceMethod y).before args s = true) (hn : As.length = n) (hsize : ls.size = nL) (hst : st0 = As.reverse ++ .ref (b + r) :: rest) (hroom : (rest.map fun v => v.category).sum ≤ 8) (hdg : decode cc pc = .ok (.invokespecial index, 3)) (hf : cells + mc ≤ R.cells ∧ slots + ms ≤ R.slots)
    (kk : ∀ (H1 : Heap) (locs1 : List Loc), va_P D cl (wd b N' sh' M') H1 → va_S (frm b) s.heap H1 locs1 → W p l e R s m args below meth c H1 locs1 (cells + mc) (slots + ms) Q (F0 m (pc + 3) ls rest)) : W p l e R s m args below meth c H locs cells slots Q (F0 m pc ls st0) := by
  refine va_callv (va_runI (As := As) (rest := rest) (b := b + r) S hM cw ⟨PwN_blind, fun U hU hW => ⟨rfl, by rw [hU], hNS.later hW, by rw [hU]; exact hP, va_K.moved hW.alike hK⟩⟩ rfl hn hsize hst (lv_room hroom) hdg hf) hS (fun q _ h => h) (fun q h => h) (fun u t H1 locs1 ht hvm hw hB hz1 hk1 hS1 => ?_)
  have hB : va_P D cl (wd b N' sh' M') t.heap := hB
  rw [ht] at hB
  exact kk H1 locs1 hB hS1
end KN
theorem sk_R_lt {dA : Nat → ClassId} {b B t r q : Nat} {sh : Shp} (h : q < r) : sk_R_init dA b B t r sh q = sh q := by
  unfold sk_R_init
  repeat rw [upS_ne (by omega)]
theorem sk_Q_lt {dA : Nat → ClassId} {b B t r q : Nat} {sh : Shp} (h : q < r) : sk_Q_init dA b B t r sh q = sh q := by
  unfold sk_Q_init
  repeat rw [upS_ne (by omega)]
theorem sk_G_lt {dA : Nat → ClassId} {b B t r q : Nat} {sh : Shp} (h : q < r) : sk_G_init dA b B t r sh q = sh q := by
  unfold sk_G_init
  repeat rw [upS_ne (by omega)]
