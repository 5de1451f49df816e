/-! CONSTRUCTORS: the row of cells grows; what is not laid yet is null -/
def upS (sh : Shp) (r : Nat) (x : (Nat → Int32) → va_E) : Shp := fun q => if q = r then x else sh q
theorem upS_at (sh : Shp) (r : Nat) (x : (Nat → Int32) → va_E) : upS sh r x r = x := if_pos rfl
theorem upS_ne {sh : Shp} {r q : Nat} {x : (Nat → Int32) → va_E} (h : q ≠ r) : upS sh r x q = sh q := if_neg h
def upM (M : Mm) (r : Nat) (m : Nat → Int32) : Mm := fun q => if q = r then m else M q
theorem upM_at (M : Mm) (r : Nat) (m : Nat → Int32) : upM M r m r = m := if_pos rfl
theorem upM_ne {M : Mm} {r q : Nat} {m : Nat → Int32} (h : q ≠ r) : upM M r m q = M q := if_neg h
theorem wd_push {b N : Nat} {sh : Shp} {M : Mm} {x : (Nat → Int32) → va_E} {m : Nat → Int32} : wd b N sh M ++ [(b + N, x m)] = wd b (N + 1) (upS sh N x) (upM M N m) := by
  unfold wd
  rw [List.range_succ, List.map_append]
  congr 1
  · apply List.map_congr_left
    intro r hr
    have h1 : r ≠ N := Nat.ne_of_lt (List.mem_range.mp hr)
    rw [upS_ne h1, upM_ne h1]
  · simp [upS_at, upM_at]
theorem wd_setS {b N r : Nat} {sh : Shp} {M : Mm} {x : (Nat → Int32) → va_E} {y : va_E} (hr : r < N) (hy : x (M r) = y) : (wd b N sh M).set r (b + r, y) = wd b N (upS sh r x) M := by
  apply List.ext_getElem?
  intro i
  rw [List.getElem?_set]
  by_cases h : r = i
  · subst h
    rw [if_pos rfl, if_pos (by rw [wd_len]; exact hr), wd_at hr, upS_at, hy]
  · rw [if_neg h]
    by_cases hi : i < N
    · rw [wd_at hi, wd_at hi, upS_ne (Ne.symm h)]
    · rw [List.getElem?_eq_none (by rw [wd_len]; omega), List.getElem?_eq_none (by rw [wd_len]; omega)]
theorem wd_lo {D : va_G} {cl : List vw_C} {b N : Nat} {sh : Shp} {M : Mm} {H : Heap} (hN : 0 < N) (hP : va_P D cl (wd b N sh M) H) : b + N ≤ H.size := by
  have h := (hP (N - 1) _ (wd_at (by omega))).lt
  dsimp only at h
  omega
theorem fl_setr {L : List (Option (Option Nat))} {m : Nat → Int32} {k q : Nat} (hk : k < L.length) : (fl L m).set k (.ref q) = fl (L.set k (some (some q))) m := by
  apply List.ext_getElem?
  intro i
  rw [List.getElem?_set]
  by_cases hi : k = i
  · subst hi
    rw [if_pos rfl, if_pos (by rw [fl_len]; exact hk), fl_r (by rw [List.getElem?_set_self hk])]
  · rw [if_neg hi]
    simp only [fl, List.getElem?_mapIdx, List.getElem?_set_ne hi]
/-- everything from an address on -/
def frm (b : Nat) : Nat → Prop := fun q => b ≤ q
theorem frm_D {b N : Nat} {sh : Shp} {M : Mm} : va_D (frm b) (wd b N sh M) := wd_D fun _ _ => Nat.le_add_right _ _
def Qk (D : va_G) (cl : List vw_C) (b N : Nat) (sh : Shp) (M : Mm) : Array Value → State → Outcome → State → Prop := va_Qv (fun (_ : Unit) => True) (fun _ t => va_P D cl (wd b N sh M) t.heap) (frm b)
section KC
variable {p : Program} {l : Launch} {e : Env} {R : Room} {s : State} {m : MethodId} {args : Array Value} {below : List Frame} {meth : Method} {c : Code} {H : Heap} {locs : List Loc} {cells slots : Nat} {Q : State → Prop}
variable {cc : ByteArray} {pc : Nat} {ls : Array Slot} {rest st0 : List Value} {D : va_G} {cl : List vw_C} {tys : List (ClassId × FieldType)} {b N : Nat} {sh : Shp} {M M' : Mm}
theorem wk_size {q : Nat} {g : JFrame} (hsz : s.heap.size + cells ≤ q) (hlo : q ≤ H.size) (k : H.size = q → W p l e R s m args below meth c H locs cells slots Q g) : W p l e R s m args below meth c H locs cells slots Q g := by
  intro T hT X
  have h := X.heapSize
  rw [hT] at h
  exact k (by omega) T hT X
theorem wk_S {H1 : Heap} {q : Nat} (hS : va_S (frm b) s.heap H locs) (hz : H.size = q) (z1 : H1.size = q + 1) (o1 : ∀ x, x < q → H1[x]? = H[x]?) : va_S (frm b) s.heap H1 locs :=
  ⟨Nat.le_trans hS.1 (by omega), fun x h1 h2 => (o1 x (by rw [← hz]; exact Nat.lt_of_lt_of_le h1 hS.1)).trans (hS.2.1 x h1 h2), hS.2.2⟩
theorem wk_P {H1 : Heap} {x : (Nat → Int32) → va_E} {m0 : Nat → Int32} (hP : va_P D cl (wd b N sh M) H) (hz : H.size = b + N) (o1 : ∀ q, q < b + N → H1[q]? = H[q]?) (h1 : va_at D cl (b + N, x m0) H1) : va_P D cl (wd b (N + 1) (upS sh N x) (upM M N m0)) H1 := by
  rw [← wd_push]
  refine (hP.kept fun k y hy => o1 y.1 (by rw [← hz]; exact (hP k y hy).lt)).app (fun k y hy => ?_)
  have h0 : k < 1 := (List.getElem?_eq_some_iff.mp hy).1
  rw [show k = 0 by omega] at hy
  cases hy
  exact h1
theorem wk_new (hx : p.tables.exec = Jvm.exec) (hb : c.code = cc) {own C : String} {T : u_T} {Nf ci index : Nat} {Ts : List Cond} {L : List (Option (Option Nat))} (hts : ∀ w ∈ Ts, w.before args s = true) (hin : ∀ w ∈ u_ws C T Nf, w ∈ Ts) (ty : Nat → FieldType) (hty : ∀ k, k < Nf → parseFieldDescriptor (T k).2.2.1 = some (ty k)) (hown : s.vm.findClass own = some m.cls) (hcl : Cond.classLink own index C ∈ Ts) (hinst : Cond.instantiable C Nf ∈ Ts) (hini : Cond.initialized C ∈ Ts)
    (hK : va_K D cl tys s) (hP : va_P D cl (wd b N sh M) H) (hS : va_S (frm b) s.heap H locs) (hsz : s.heap.size + cells ≤ b + N) (hlo : b + N ≤ H.size) (hc : cl[ci]? = some (C, T, Nf)) (hfs : ∀ j, j < Nf → defaultValue (ty j) = vp_V (fl L (fun _ => 0)) j) (hcells : cells + 1 ≤ R.cells) (hslots : slots + Nf ≤ R.slots) (hdg : decode cc pc = .ok (.new index, 3))
    (kk : ∀ H1 : Heap, va_P D cl (wd b (N + 1) (upS sh N (ob ci L)) (upM M N (fun _ => 0))) H1 → va_S (frm b) s.heap H1 locs → W p l e R s m args below meth c H1 locs (cells + 1) (slots + Nf) Q (F0 m (pc + 3) ls (.ref (b + N) :: rest))) : W p l e R s m args below meth c H locs cells slots Q (F0 m pc ls rest) := by
  have hKn := hK.1 ci _ hc
  refine wk_size hsz hlo fun hz => ?_
  refine W.newcK hx hb hown (hts _ hcl) (hts _ hinst) (hts _ hini) rfl hdg hcells hslots hKn.2.1 hz fun H1 kC hkC e1 z1 o1 => ?_
  have hat : va_at D cl (b + N, ob ci L (fun _ => 0)) H1 := ⟨_, hc, (u_born ty hts hin hKn hkC e1 hty).to hfs⟩
  exact kk H1 (wk_P hP hz o1 hat) (wk_S hS hz z1 o1)
theorem wk_newa (hx : p.tables.exec = Jvm.exec) (hb : c.code = cc) {atype : ArrayType} {ty : FieldType} {cA : ClassId} (harr : (Cond.arrayClass (newarray.typeOf atype)).before args s = true) (hty : newarray.typeOf atype = ty) (hK : va_K D cl tys s) (t0 : Nat) (ht : tys[t0]? = some (cA, ty)) (hra : va_RA s cA ty → s.vm.findClass ("[" ++ ty.toString) = some cA) (hd : defaultValue ty = .int 0)
    (hP : va_P D cl (wd b N sh M) H) (hS : va_S (frm b) s.heap H locs) (hsz : s.heap.size + cells ≤ b + N) (hlo : b + N ≤ H.size) {n : Int32} {N' : Nat} (hn : ¬ n < 0) (hN : n.toNatClampNeg = N') (hbytes : N' * componentBytes ty ≤ 536870912) (hcells : cells + 1 ≤ R.cells) (hslots : slots + N' ≤ R.slots) (hdg : decode cc pc = .ok (.newarray atype, 2))
    (kk : ∀ H1 : Heap, va_P D cl (wd b (N + 1) (upS sh N (ia cA N')) (upM M N (fun _ => 0))) H1 → va_S (frm b) s.heap H1 locs → W p l e R s m args below meth c H1 locs (cells + 1) (slots + N') Q (F0 m (pc + 2) ls (.ref (b + N) :: rest))) : W p l e R s m args below meth c H locs cells slots Q (F0 m pc ls (.int n :: rest)) := by
  subst hty
  refine wk_size hsz hlo fun hz => ?_
  refine va_newaK hx hb harr rfl hdg rfl hn hN hbytes hcells hslots hz fun H1 cA' e1 z1 o1 hAr hNm => ?_
  have hcA : cA' = cA := Option.some.inj (hNm.symm.trans (hra (hK.2 t0 _ ht).2))
  subst hcA
  have hat : va_at D cl (b + N, ia cA' N' (fun _ => 0)) H1 := by
    show H1[b + N]? = some (vp_cell _ _)
    rw [e1, hd]
    rfl
  exact kk H1 (wk_P hP hz o1 hat) (wk_S hS hz z1 o1)
theorem wk_putr (hx : p.tables.exec = Jvm.exec) (hb : c.code = cc) {own C : String} {T : u_T} {Nf ci index : Nat} {Ts : List Cond} (hts : ∀ w ∈ Ts, w.before args s = true) (hin : ∀ w ∈ u_ws C T Nf, w ∈ Ts) (ty0 : Nat → FieldType) (hty : ∀ k, k < Nf → parseFieldDescriptor (T k).2.2.1 = some (ty0 k)) (hnm : ∀ a, a < Nf → ∀ b, b < Nf → a ≠ b → (T a).2.1 ≠ (T b).2.1) (hown : s.vm.findClass own = some m.cls) (hK : va_K D cl tys s) (hP : va_P D cl (wd b N sh M) H) (hS : va_S (frm b) s.heap H locs) {L : List (Option (Option Nat))} (r : Nat) (hr : r < N) (hs : sh r = ob ci L) (hc : cl[ci]? = some (C, T, Nf)) (k : Nat) (hk : k < Nf) (hlink : Cond.fieldLink own index (T k).1 (T k).2.1 (T k).2.2.1 ∈ Ts) (hl : k < L.length) (hfin : (T k).2.2.2 = true) (hin2 : meth.name = "<init>") (hdecl : (T k).1 = own) {ty : FieldType} {q : Nat} (hd : parseFieldDescriptor (T k).2.2.1 = some ty) (hn : narrow ty (.ref q) = .ref q) (hfit : fits ty (.ref q) = true) (hdg : decode cc pc = .ok (.putfield index, 3))
    (kk : ∀ (H1 : Heap) (locs1 : List Loc), va_P D cl (wd b N (upS sh r (ob ci (L.set k (some (some q))))) M) H1 → va_S (frm b) s.heap H1 locs1 → W p l e R s m args below meth c H1 locs1 cells slots Q (F0 m (pc + 3) ls rest)) : W p l e R s m args below meth c H locs cells slots Q (F0 m pc ls (.ref q :: .ref (b + r) :: rest)) := by
  refine va_putF (ci := ci) (fs := fl L (M r)) hx hb hts hin ty0 hty hnm hown hK hP frm_D hS r (by rw [wd_at hr, hs]; rfl) hc k hk (hts _ hlink) (fun _ h => h) hfin hin2 hdecl hd hn hfit (by rw [fl_len]; exact hl) hdg (fun H1 locs1 hP1 _ hS1 => ?_)
  rw [wd_setS (x := ob ci (L.set k (some (some q)))) hr (by show Sum.inr (ci, fl _ _) = _; rw [← fl_setr hl])] at hP1
  exact kk H1 locs1 hP1 hS1
/-- a number into a field, final or not, in a constructor -/
theorem wk_puti (hx : p.tables.exec = Jvm.exec) (hb : c.code = cc) {own C : String} {T : u_T} {Nf ci index : Nat} {Ts : List Cond} (hts : ∀ w ∈ Ts, w.before args s = true) (hin : ∀ w ∈ u_ws C T Nf, w ∈ Ts) (ty0 : Nat → FieldType) (hty : ∀ k, k < Nf → parseFieldDescriptor (T k).2.2.1 = some (ty0 k)) (hnm : ∀ a, a < Nf → ∀ b, b < Nf → a ≠ b → (T a).2.1 ≠ (T b).2.1) (hown : s.vm.findClass own = some m.cls) (hK : va_K D cl tys s) (hP : va_P D cl (wd b N sh M) H) (hS : va_S (frm b) s.heap H locs) {L : List (Option (Option Nat))} (r : Nat) (hr : r < N) (hs : sh r = ob ci L) (hc : cl[ci]? = some (C, T, Nf)) (k : Nat) (hk : k < Nf) (hlink : Cond.fieldLink own index (T k).1 (T k).2.1 (T k).2.2.1 ∈ Ts) (hl : L[k]? = some none) (hin2 : meth.name = "<init>") (hdecl : (T k).1 = own) {ty : FieldType} {v : Int32} (hd : parseFieldDescriptor (T k).2.2.1 = some ty) (hn : narrow ty (.int v) = .int v) (hfit : fits ty (.int v) = true) (hdg : decode cc pc = .ok (.putfield index, 3))
    (kk : ∀ (H1 : Heap) (locs1 : List Loc), va_P D cl (wd b N sh (up2 M r k v)) H1 → va_S (frm b) s.heap H1 locs1 → W p l e R s m args below meth c H1 locs1 cells slots Q (F0 m (pc + 3) ls rest)) : W p l e R s m args below meth c H locs cells slots Q (F0 m pc ls (.int v :: .ref (b + r) :: rest)) := by
  have hk2 : k < L.length := (List.getElem?_eq_some_iff.mp hl).1
  have fin : ∀ (H1 : Heap) (locs1 : List Loc), va_P D cl ((wd b N sh M).set r (b + r, .inr (ci, (fl L (M r)).set k (.int v)))) H1 → va_S (frm b) s.heap H1 locs1 → W p l e R s m args below meth c H1 locs1 cells slots Q (F0 m (pc + 3) ls rest) := by
    intro H1 locs1 hP1 hS1
    rw [wd_set (M' := up2 M r k v) hr (by rw [hs, up2_at]; show Sum.inr (ci, fl L (upd (M r) k v)) = _; rw [← fl_set hl]) (fun q hq => up2_ne hq)] at hP1
    exact kk H1 locs1 hP1 hS1
  cases hfin : (T k).2.2.2 with
  | false => exact va_put (ci := ci) (fs := fl L (M r)) hx hb hts hin ty0 hty hnm hown hK hP frm_D hS r (by rw [wd_at hr, hs]; rfl) hc k hk (hts _ hlink) (fun _ h => h) hfin hd hn hfit (by rw [fl_len]; exact hk2) hdg (fun H1 locs1 hP1 _ hS1 => fin H1 locs1 hP1 hS1)
  | true => exact va_putF (ci := ci) (fs := fl L (M r)) hx hb hts hin ty0 hty hnm hown hK hP frm_D hS r (by rw [wd_at hr, hs]; rfl) hc k hk (hts _ hlink) (fun _ h => h) hfin hin2 hdecl hd hn hfit (by rw [fl_len]; exact hk2) hdg (fun H1 locs1 hP1 _ hS1 => fin H1 locs1 hP1 hS1)
variable {y : MethodName} {bytes : ByteArray} {maxL nL n index mc ms : Nat} {ret : Option FieldType} {ws : List Cond} {rm : Room} {Ts : List Cond} {own C : String} {As : List Value}
/-- a constructor is called -/
theorem wk_ci {N' : Nat} {sh' : Shp} (S : CallFix p m c cc nL s args Ts own) (hK : va_K D cl tys s) (hP : va_P D cl (wd b N sh M) H) (hS : va_S (frm b) s.heap H locs) (r : Nat)
    (hM : Met l y ws rm (Pw D cl tys b N sh (.ref (b + r) :: As) M H.size) (Qk D cl b N' sh' M') mc ms (frm b)) (cw : CallB R s args own index y bytes maxL none ws rm mc ms n ∧ y.name = "<init>" ∧ (Cond.instanceMethod y).before args s = true) (hn : As.length = n) (hsize : ls.size = nL) (hst : st0 = As.reverse ++ .ref (b + r) :: rest) (hroom : (rest.map fun v => v.category).sum ≤ 8) (hdg : decode cc pc = .ok (.invokespecial index, 3)) (hf : cells + mc ≤ R.cells ∧ slots + ms ≤ R.slots)
    (kk : ∀ (H1 : Heap) (locs1 : List Loc), va_P D cl (wd b N' sh' M') H1 → va_S (frm b) s.heap H1 locs1 → W p l e R s m args below meth c H1 locs1 (cells + mc) (slots + ms) Q (F0 m (pc + 3) ls rest)) : W p l e R s m args below meth c H locs cells slots Q (F0 m pc ls st0) := by
  refine va_callv (va_runI (As := As) (rest := rest) (b := b + r) S hM cw ⟨Pw_blind, fun U hU hW => ⟨rfl, by rw [hU], by rw [hU]; exact hP, va_K.moved hW.alike hK⟩⟩ rfl hn hsize hst (lv_room hroom) hdg hf) hS (fun q _ h => h) (fun q h => h) (fun u t H1 locs1 ht hvm hw hB hz1 hk1 hS1 => ?_)
  have hB : va_P D cl (wd b N' sh' M') t.heap := hB
  rw [ht] at hB
  exact kk H1 locs1 hB hS1
/-- a method of a built object is called in a constructor -/
theorem wk_cvv (S : CallFix p m c cc nL s args Ts own) (hK : va_K D cl tys s) (hP : va_P D cl (wd b N sh M) H) (hS : va_S (frm b) s.heap H locs) (hlo : b ≤ H.size) (r : Nat) (hr : r < N) {ci : Nat} {L : List (Option (Option Nat))} {T : u_T} {Nf : Nat} (hs : sh r = ob ci L) (hc : cl[ci]? = some (C, T, Nf))
    (hM : Met l y ws rm (Pw D cl tys b N sh (.ref (b + r) :: As) M H.size) (Qwv D cl b N sh M' H.size) mc ms (reg b N H.size)) (cw : CallW R s args own C index y bytes maxL ret ws rm mc ms n) (hn : As.length = n) (hsize : ls.size = nL) (hst : st0 = As.reverse ++ .ref (b + r) :: rest) (hroom : (rest.map fun v => v.category).sum ≤ 8) (hdg : decode cc pc = .ok (.invokevirtual index, 3)) (hf : cells + mc ≤ R.cells ∧ slots + ms ≤ R.slots)
    (kk : ∀ (H1 : Heap) (locs1 : List Loc), va_P D cl (wd b N sh M') H1 → va_S (frm b) s.heap H1 locs1 → W p l e R s m args below meth c H1 locs1 (cells + mc) (slots + ms) Q (F0 m (pc + 3) ls rest)) : W p l e R s m args below meth c H locs cells slots Q (F0 m pc ls st0) := by
  have hreg : ∀ q, reg b N H.size q → frm b q := fun q h => h.elim (fun h => h.1) (fun h => Nat.le_trans hlo h)
  refine va_callv (va_runV (As := As) (rest := rest) (b := b + r) S hM cw ⟨Pw_blind, va_recv hK hP hc (show (wd b N sh M)[r]? = some (b + r, .inr (ci, fl L (M r))) by rw [wd_at hr, hs]; rfl), fun U hU hW => ⟨rfl, by rw [hU], by rw [hU]; exact hP, va_K.moved hW.alike hK⟩⟩ rfl hn hsize hst (lv_room hroom) hdg hf) hS (fun q _ h => hreg q h) (fun q h => hreg q h) (fun u t H1 locs1 ht hvm hw hB hz1 hk1 hS1 => ?_)
  have hB : va_P D cl (wd b N sh M') t.heap := hB
  rw [ht] at hB
  exact kk H1 locs1 hB hS1
theorem wk_vret (hx : p.tables.exec = Jvm.exec) (hb : c.code = cc) (hr : meth.sig.returnType = none) (hlk : meth.locks = false) (hP : va_P D cl (wd b N sh M) H) (hS : va_S (frm b) s.heap H locs) (h1 : cells ≤ mc) (h2 : slots ≤ ms) (hdg : decode cc pc = .ok (.return_, 1)) :
    W p l e R s m args below meth c H locs cells slots (MQ below (Qk D cl b N sh M) args s mc ms (frm b)) (F0 m pc ls []) :=
  W.widen (k := mc) (n := ms) h1 h2 (W.vret hx hb hr (fun t ht _ => ⟨⟨(), rfl, trivial, show va_P D cl (wd b N sh M) t.heap by rw [ht]; exact hP⟩, hS.F ht⟩) hS.2.2 hdg hlk)
end KC
