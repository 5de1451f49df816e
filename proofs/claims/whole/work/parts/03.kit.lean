/-! OWN KIT: the cells of a system lie side by side from an address b on; their numbers are one memory M : role → place → Int32; what never changes (classes, references, lengths) is the shape sh -/
abbrev Mm : Type := Nat → Nat → Int32
abbrev Shp : Type := Nat → (Nat → Int32) → va_E
def up2 (M : Mm) (r k : Nat) (v : Int32) : Mm := fun q => if q = r then upd (M r) k v else M q
theorem up2_at (M : Mm) (r k : Nat) (v : Int32) : up2 M r k v r = upd (M r) k v := if_pos rfl
theorem up2_ne {M : Mm} {r k q : Nat} {v : Int32} (h : q ≠ r) : up2 M r k v q = M q := if_neg h
def wd (b N : Nat) (sh : Shp) (M : Mm) : va_W := (List.range N).map (fun r => (b + r, sh r (M r)))
theorem wd_len (b N : Nat) (sh : Shp) (M : Mm) : (wd b N sh M).length = N := by simp [wd]
theorem wd_at {b N r : Nat} {sh : Shp} {M : Mm} (h : r < N) : (wd b N sh M)[r]? = some (b + r, sh r (M r)) := by simp [wd, h]
theorem wd_in {b N k : Nat} {sh : Shp} {M : Mm} {q : Nat × va_E} (h : (wd b N sh M)[k]? = some q) : k < N ∧ q = (b + k, sh k (M k)) := by
  have hk : k < N := by
    have h1 := (List.getElem?_eq_some_iff.mp h).1
    rw [wd_len] at h1
    exact h1
  rw [wd_at hk] at h
  exact ⟨hk, (Option.some.inj h).symm⟩
theorem wd_set {b N r : Nat} {sh : Shp} {M M' : Mm} {x : va_E} (hr : r < N) (hx : sh r (M' r) = x) (ho : ∀ q, q ≠ r → M' q = M q) : (wd b N sh M).set r (b + r, x) = wd b N sh M' := by
  apply List.ext_getElem?
  intro i
  rw [List.getElem?_set]
  by_cases h : r = i
  · subst h
    rw [if_pos rfl, if_pos (by rw [wd_len]; exact hr), wd_at hr, hx]
  · rw [if_neg h]
    by_cases hi : i < N
    · rw [wd_at hi, wd_at hi, ho i (Ne.symm h)]
    · rw [List.getElem?_eq_none (by rw [wd_len]; omega), List.getElem?_eq_none (by rw [wd_len]; omega)]
theorem wd_D {b N : Nat} {sh : Shp} {M : Mm} {A : Nat → Prop} (hA : ∀ r, r < N → A (b + r)) : va_D A (wd b N sh M) := by
  refine ⟨fun i j x y hi hj hxy => ?_, fun k q hk => ?_⟩
  · obtain ⟨h1, rfl⟩ := wd_in hi
    obtain ⟨h2, rfl⟩ := wd_in hj
    dsimp only at hxy
    omega
  · obtain ⟨h1, rfl⟩ := wd_in hk
    exact hA k h1
/-- the places that a method of a system may write: its cells, and what is new -/
def reg (b N sz : Nat) : Nat → Prop := fun q => (b ≤ q ∧ q < b + N) ∨ sz ≤ q
theorem reg_in {b N sz r : Nat} (h : r < N) : reg b N sz (b + r) := Or.inl ⟨Nat.le_add_right _ _, Nat.add_lt_add_left h _⟩
theorem reg_D {b N sz : Nat} {sh : Shp} {M : Mm} : va_D (reg b N sz) (wd b N sh M) := wd_D fun _ h => reg_in h
theorem reg_mono {b N sz sz' : Nat} (h : sz ≤ sz') : ∀ q, reg b N sz' q → reg b N sz q := fun q hq => hq.elim Or.inl (fun h' => Or.inr (Nat.le_trans h h'))
/-- a system's cells stay where nothing of them was written -/
theorem wd_kept {D : va_G} {cl : List vw_C} {b N b' N' : Nat} {sh : Shp} {M : Mm} {H H1 : Heap} {sz : Nat} (hP : va_P D cl (wd b N sh M) H) (hsz : sz = H.size) (hap : b + N ≤ b' ∨ b' + N' ≤ b) (hk : ∀ q : Nat, q < H.size → ¬ reg b' N' sz q → H1[q]? = H[q]?) : va_P D cl (wd b N sh M) H1 := by
  refine hP.kept fun k q hq => ?_
  have hl := (hP k q hq).lt
  obtain ⟨h1, rfl⟩ := wd_in hq
  dsimp only at hl ⊢
  refine hk _ hl ?_
  rintro (⟨a, c⟩ | a) <;> omega
/-- an object: fields that are references stay (some), the others are numbers of the memory (none) -/
def fl (L : List (Option (Option Nat))) (m : Nat → Int32) : List Value := L.mapIdx (fun k o => match o with | some (some q) => Value.ref q | some none => Value.null | none => Value.int (m k))
theorem fl_i {L : List (Option (Option Nat))} {m : Nat → Int32} {k : Nat} (h : L[k]? = some none) : (fl L m)[k]? = some (.int (m k)) := by simp [fl, List.getElem?_mapIdx, h]
theorem fl_r {L : List (Option (Option Nat))} {m : Nat → Int32} {k q : Nat} (h : L[k]? = some (some (some q))) : (fl L m)[k]? = some (.ref q) := by simp [fl, List.getElem?_mapIdx, h]
theorem fl_len (L : List (Option (Option Nat))) (m : Nat → Int32) : (fl L m).length = L.length := by simp [fl]
theorem fl_set {L : List (Option (Option Nat))} {m : Nat → Int32} {k : Nat} {v : Int32} (h : L[k]? = some none) : (fl L m).set k (.int v) = fl L (upd m k v) := by
  have hk : k < L.length := (List.getElem?_eq_some_iff.mp h).1
  apply List.ext_getElem?
  intro i
  rw [List.getElem?_set]
  by_cases hi : k = i
  · subst hi
    rw [if_pos rfl, if_pos (by rw [fl_len]; exact hk), fl_i h, pk_us]
  · rw [if_neg hi]
    simp only [fl, List.getElem?_mapIdx]
    cases hL : L[i]? with
    | none => rfl
    | some o =>
      cases o with
      | none => simp [pk_un (Ne.symm hi)]
      | some q => cases q <;> rfl
def ob (ci : Nat) (L : List (Option (Option Nat))) : (Nat → Int32) → va_E := fun m => .inr (ci, fl L m)
def ia (cA : ClassId) (n : Nat) : (Nat → Int32) → va_E := fun m => .inl (cA, n, .inl m)
def ra (cA : ClassId) (n : Nat) (g : Nat → Option Nat) : (Nat → Int32) → va_E := fun _ => .inl (cA, n, .inr (.inr (.inr (.inr g))))
/-- an index in an array of n places -/
def ixb (i : Int32) (n : Nat) : Bool := decide (¬ (i < 0 ∨ n ≤ i.toNatClampNeg))
theorem ixb_in {i : Int32} {n : Nat} (h : ixb i n = true) : vp_in i n := of_decide_eq_true (p := ¬ (i < 0 ∨ n ≤ i.toNatClampNeg)) h
theorem ixb_of {i : Int32} {n : Nat} (h : vp_in i n) : ixb i n = true := decide_eq_true (p := ¬ (i < 0 ∨ n ≤ i.toNatClampNeg)) h
theorem ixb_lt {i : Int32} {n : Nat} (h : ixb i n = true) : i.toNatClampNeg < n := Nat.not_le.mp fun q => ixb_in h (Or.inr q)
/-- a name for a value, in a program -/
def bnd {α β : Type} (a : α) (f : α → β) : β := f a
theorem ln {α β : Type} {a : α} {f : α → Option β} {y : β} (h : bnd a f = some y) : ∃ x, x = a ∧ f x = some y := ⟨a, rfl, h⟩
theorem og {c : Prop} [Decidable c] {α : Type} {x : Option α} {y : α} (h : (if c then x else none) = some y) : c ∧ x = some y := by
  by_cases hc : c
  · rw [if_pos hc] at h
    exact ⟨hc, h⟩
  · rw [if_neg hc] at h
    cases h
theorem ogt {c : Prop} [Decidable c] {α : Type} {x z : Option α} {y : α} (hc : c) (h : (if c then x else z) = some y) : x = some y := by rw [if_pos hc] at h; exact h
theorem ogf {c : Prop} [Decidable c] {α : Type} {x z : Option α} {y : α} (hc : ¬ c) (h : (if c then x else z) = some y) : z = some y := by rw [if_neg hc] at h; exact h
theorem obd {α β : Type} {x : Option α} {f : α → Option β} {y : β} (h : x.bind f = some y) : ∃ a, x = some a ∧ f a = some y := Option.bind_eq_some_iff.mp h
theorem oe {α : Type} {a c : α} (h : some a = some c) : a = c := Option.some.inj h
theorem oe2 {α β : Type} {a c : α} {b d : β} (h : some (a, b) = some (c, d)) : a = c ∧ b = d := by
  have h1 := Option.some.inj h
  exact ⟨congrArg Prod.fst h1, congrArg Prod.snd h1⟩
/-- a method's start and its ends, by the memory -/
def Pw (D : va_G) (cl : List vw_C) (tys : List (ClassId × FieldType)) (b N : Nat) (sh : Shp) (av : List Value) (M : Mm) (sz : Nat) : Array Value → State → Prop := va_Pc av (fun U => U.heap.size = sz ∧ va_P D cl (wd b N sh M) U.heap ∧ va_K D cl tys U)
def Qwi (D : va_G) (cl : List vw_C) (b N : Nat) (sh : Shp) (rv : Int32) (M' : Mm) (sz : Nat) : Array Value → State → Outcome → State → Prop := va_Qi (fun r' (_ : Unit) => r' = rv) (fun _ t => va_P D cl (wd b N sh M') t.heap) (reg b N sz)
def Qwv (D : va_G) (cl : List vw_C) (b N : Nat) (sh : Shp) (M' : Mm) (sz : Nat) : Array Value → State → Outcome → State → Prop := va_Qv (fun (_ : Unit) => True) (fun _ t => va_P D cl (wd b N sh M') t.heap) (reg b N sz)
theorem Pw_blind {D : va_G} {cl : List vw_C} {tys : List (ClassId × FieldType)} {b N : Nat} {sh : Shp} {av : List Value} {M : Mm} {sz : Nat} : FrameBlind (Pw D cl tys b N sh av M sz) := by
  intro a U g mk q
  obtain ⟨q0, q1, qP, qK⟩ := q
  exact ⟨q0, q1, qP, va_K.moved (u := U) (U := U.calling g mk a) (Vm.Alike.refl U.vm) qK⟩
section KW
variable {p : Program} {l : Launch} {e : Env} {R : Room} {s : State} {m : MethodId} {args : Array Value} {below : List Frame} {meth : Method} {c : Code} {H : Heap} {locs : List Loc} {cells slots : Nat} {Q : State → Prop}
variable {cc : ByteArray} {pc : Nat} {ls : Array Slot} {rest st0 : List Value} {D : va_G} {cl : List vw_C} {tys : List (ClassId × FieldType)} {b N : Nat} {sh : Shp} {M M' : Mm}
/-- another name for the number on top -/
theorem lv_nm {x y : Int32} (h : y = x) (k : W p l e R s m args below meth c H locs cells slots Q (F0 m pc ls (.int y :: rest))) : W p l e R s m args below meth c H locs cells slots Q (F0 m pc ls (.int x :: rest)) := h ▸ k
theorem wd_geti (hx : p.tables.exec = Jvm.exec) (hb : c.code = cc) {own C : String} {T : u_T} {Nf ci index : Nat} {Ts : List Cond} (hts : ∀ w ∈ Ts, w.before args s = true) (hin : ∀ w ∈ u_ws C T Nf, w ∈ Ts) (hown : s.vm.findClass own = some m.cls) (hK : va_K D cl tys s) (hP : va_P D cl (wd b N sh M) H) {L : List (Option (Option Nat))} (r : Nat) (hr : r < N) (hs : sh r = ob ci L) (hc : cl[ci]? = some (C, T, Nf)) (k : Nat) (hk : k < Nf) (hlink : Cond.fieldLink own index (T k).1 (T k).2.1 (T k).2.2.1 ∈ Ts) (hl : L[k]? = some none) (hdg : decode cc pc = .ok (.getfield index, 3))
    (kk : W p l e R s m args below meth c H locs cells slots Q (F0 m (pc + 3) ls (.int (M r k) :: rest))) : W p l e R s m args below meth c H locs cells slots Q (F0 m pc ls (.ref (b + r) :: rest)) :=
  va_get (ci := ci) (fs := fl L (M r)) hx hb hts hin hown hK hP r (by rw [wd_at hr, hs]; rfl) hc k hk (hts _ hlink) (fun _ h => h) (fl_i hl) hdg kk
theorem wd_getr (hx : p.tables.exec = Jvm.exec) (hb : c.code = cc) {own C : String} {T : u_T} {Nf ci index : Nat} {Ts : List Cond} (hts : ∀ w ∈ Ts, w.before args s = true) (hin : ∀ w ∈ u_ws C T Nf, w ∈ Ts) (hown : s.vm.findClass own = some m.cls) (hK : va_K D cl tys s) (hP : va_P D cl (wd b N sh M) H) {L : List (Option (Option Nat))} {q : Nat} (r : Nat) (hr : r < N) (hs : sh r = ob ci L) (hc : cl[ci]? = some (C, T, Nf)) (k : Nat) (hk : k < Nf) (hlink : Cond.fieldLink own index (T k).1 (T k).2.1 (T k).2.2.1 ∈ Ts) (hl : L[k]? = some (some (some q))) (hdg : decode cc pc = .ok (.getfield index, 3))
    (kk : W p l e R s m args below meth c H locs cells slots Q (F0 m (pc + 3) ls (.ref q :: rest))) : W p l e R s m args below meth c H locs cells slots Q (F0 m pc ls (.ref (b + r) :: rest)) :=
  va_get (ci := ci) (fs := fl L (M r)) hx hb hts hin hown hK hP r (by rw [wd_at hr, hs]; rfl) hc k hk (hts _ hlink) (fun _ h => h) (fl_r hl) hdg kk
theorem wd_puti (hx : p.tables.exec = Jvm.exec) (hb : c.code = cc) {own C : String} {T : u_T} {Nf ci index : Nat} {Ts : List Cond} (hts : ∀ w ∈ Ts, w.before args s = true) (hin : ∀ w ∈ u_ws C T Nf, w ∈ Ts) (ty0 : Nat → FieldType) (hty : ∀ k, k < Nf → parseFieldDescriptor (T k).2.2.1 = some (ty0 k)) (hnm : ∀ a, a < Nf → ∀ b, b < Nf → a ≠ b → (T a).2.1 ≠ (T b).2.1) (hown : s.vm.findClass own = some m.cls) (hK : va_K D cl tys s) (hP : va_P D cl (wd b N sh M) H) (hS : va_S (reg b N s.heap.size) s.heap H locs) {L : List (Option (Option Nat))} (r : Nat) (hr : r < N) (hs : sh r = ob ci L) (hc : cl[ci]? = some (C, T, Nf)) (k : Nat) (hk : k < Nf) (hlink : Cond.fieldLink own index (T k).1 (T k).2.1 (T k).2.2.1 ∈ Ts) (hl : L[k]? = some none) (hfin : (T k).2.2.2 = false) {ty : FieldType} {v : Int32} (hd : parseFieldDescriptor (T k).2.2.1 = some ty) (hn : narrow ty (.int v) = .int v) (hfit : fits ty (.int v) = true) (hdg : decode cc pc = .ok (.putfield index, 3))
    (kk : ∀ (H1 : Heap) (locs1 : List Loc), va_P D cl (wd b N sh (up2 M r k v)) H1 → va_S (reg b N s.heap.size) s.heap H1 locs1 → W p l e R s m args below meth c H1 locs1 cells slots Q (F0 m (pc + 3) ls rest)) : W p l e R s m args below meth c H locs cells slots Q (F0 m pc ls (.int v :: .ref (b + r) :: rest)) := by
  have hk2 : k < L.length := (List.getElem?_eq_some_iff.mp hl).1
  refine va_put (ci := ci) (fs := fl L (M r)) hx hb hts hin ty0 hty hnm hown hK hP reg_D hS r (by rw [wd_at hr, hs]; rfl) hc k hk (hts _ hlink) (fun _ h => h) hfin hd hn hfit (by rw [fl_len]; exact hk2) hdg (fun H1 locs1 hP1 _ hS1 => ?_)
  rw [wd_set (M' := up2 M r k v) hr (by rw [hs, up2_at]; show Sum.inr (ci, fl L (upd (M r) k v)) = _; rw [← fl_set hl]) (fun q hq => up2_ne hq)] at hP1
  exact kk H1 locs1 hP1 hS1
theorem wd_iald (hx : p.tables.exec = Jvm.exec) (hb : c.code = cc) (hK : va_K D cl tys s) (hP : va_P D cl (wd b N sh M) H) (r t0 : Nat) (hr : r < N) {cA : ClassId} {n : Nat} (hs : sh r = ia cA n) (ht : tys[t0]? = some (cA, .int)) {i : Int32} (hin : ixb i n = true) (hdg : decode cc pc = .ok (.iaload, 1))
    (kk : W p l e R s m args below meth c H locs cells slots Q (F0 m (pc + 1) ls (.int (M r i.toNatClampNeg) :: rest))) : W p l e R s m args below meth c H locs cells slots Q (F0 m pc ls (.int i :: .ref (b + r) :: rest)) :=
  va_iald hx hb hK hP r t0 (f := M r) (by rw [wd_at hr, hs]; rfl) ht (ixb_in hin) hdg kk
theorem wd_zald (hx : p.tables.exec = Jvm.exec) (hb : c.code = cc) (hK : va_K D cl tys s) (hP : va_P D cl (wd b N sh M) H) (r t0 : Nat) (hr : r < N) {cA : ClassId} {n : Nat} (hs : sh r = ia cA n) (ht : tys[t0]? = some (cA, .boolean)) {i : Int32} (hin : ixb i n = true) (hdg : decode cc pc = .ok (.baload, 1))
    (kk : W p l e R s m args below meth c H locs cells slots Q (F0 m (pc + 1) ls (.int (M r i.toNatClampNeg) :: rest))) : W p l e R s m args below meth c H locs cells slots Q (F0 m pc ls (.int i :: .ref (b + r) :: rest)) :=
  va_zald hx hb hK hP r t0 (f := M r) (by rw [wd_at hr, hs]; rfl) ht (ixb_in hin) hdg kk
theorem wd_aald (hx : p.tables.exec = Jvm.exec) (hb : c.code = cc) (hK : va_K D cl tys s) (hP : va_P D cl (wd b N sh M) H) (r t0 : Nat) (hr : r < N) {cA : ClassId} {C : String} {n q : Nat} {g : Nat → Option Nat} (hs : sh r = ra cA n g) (ht : tys[t0]? = some (cA, .object C)) {i : Int32} (hin : ixb i n = true) (hg : g i.toNatClampNeg = some q) (hdg : decode cc pc = .ok (.aaload, 1))
    (kk : W p l e R s m args below meth c H locs cells slots Q (F0 m (pc + 1) ls (.ref q :: rest))) : W p l e R s m args below meth c H locs cells slots Q (F0 m pc ls (.int i :: .ref (b + r) :: rest)) := by
  refine va_aldq hx hb hK hP r t0 (f := g) (by rw [wd_at hr, hs]; rfl) ht (ixb_in hin) hdg ?_
  rw [hg]
  exact kk
theorem wd_alen (hx : p.tables.exec = Jvm.exec) (hb : c.code = cc) (hK : va_K D cl tys s) (hP : va_P D cl (wd b N sh M) H) (r t0 : Nat) (hr : r < N) {cA : ClassId} {n : Nat} (hs : sh r = ia cA n) {ty : FieldType} (ht : tys[t0]? = some (cA, ty)) (hdg : decode cc pc = .ok (.arraylength, 1))
    (kk : W p l e R s m args below meth c H locs cells slots Q (F0 m (pc + 1) ls (.int (nI n) :: rest))) : W p l e R s m args below meth c H locs cells slots Q (F0 m pc ls (.ref (b + r) :: rest)) :=
  va_alen hx hb hK hP r t0 (x := (n, .inl (M r))) (by rw [wd_at hr, hs]; rfl) ht (v := nI n) rfl hdg kk
theorem wd_ralen (hx : p.tables.exec = Jvm.exec) (hb : c.code = cc) (hK : va_K D cl tys s) (hP : va_P D cl (wd b N sh M) H) (r t0 : Nat) (hr : r < N) {cA : ClassId} {n : Nat} {g : Nat → Option Nat} (hs : sh r = ra cA n g) {ty : FieldType} (ht : tys[t0]? = some (cA, ty)) (hdg : decode cc pc = .ok (.arraylength, 1))
    (kk : W p l e R s m args below meth c H locs cells slots Q (F0 m (pc + 1) ls (.int (nI n) :: rest))) : W p l e R s m args below meth c H locs cells slots Q (F0 m pc ls (.ref (b + r) :: rest)) :=
  va_alen hx hb hK hP r t0 (x := (n, .inr (.inr (.inr (.inr g))))) (by rw [wd_at hr, hs]; rfl) ht (v := nI n) rfl hdg kk
theorem wd_iast (hx : p.tables.exec = Jvm.exec) (hb : c.code = cc) (hK : va_K D cl tys s) (hP : va_P D cl (wd b N sh M) H) (hS : va_S (reg b N s.heap.size) s.heap H locs) (r t0 : Nat) (hr : r < N) {cA : ClassId} {n : Nat} (hs : sh r = ia cA n) (ht : tys[t0]? = some (cA, .int)) {i v : Int32} (hin : ixb i n = true) (hdg : decode cc pc = .ok (.iastore, 1))
    (kk : ∀ (H1 : Heap) (locs1 : List Loc), va_P D cl (wd b N sh (up2 M r i.toNatClampNeg v)) H1 → va_S (reg b N s.heap.size) s.heap H1 locs1 → W p l e R s m args below meth c H1 locs1 cells slots Q (F0 m (pc + 1) ls rest)) : W p l e R s m args below meth c H locs cells slots Q (F0 m pc ls (.int v :: .int i :: .ref (b + r) :: rest)) := by
  refine va_iast hx hb hK hP reg_D hS r t0 (f := M r) (by rw [wd_at hr, hs]; rfl) ht (ixb_in hin) hdg (fun H1 locs1 hP1 _ hS1 => ?_)
  rw [wd_set (M' := up2 M r i.toNatClampNeg v) hr (by rw [hs, up2_at]; rfl) (fun q hq => up2_ne hq)] at hP1
  exact kk H1 locs1 hP1 hS1
theorem wd_zast (hx : p.tables.exec = Jvm.exec) (hb : c.code = cc) (hK : va_K D cl tys s) (hP : va_P D cl (wd b N sh M) H) (hS : va_S (reg b N s.heap.size) s.heap H locs) (r t0 : Nat) (hr : r < N) {cA : ClassId} {n : Nat} (hs : sh r = ia cA n) (ht : tys[t0]? = some (cA, .boolean)) {i v : Int32} (hv : vp_nar .boolean v = v) (hin : ixb i n = true) (hdg : decode cc pc = .ok (.bastore, 1))
    (kk : ∀ (H1 : Heap) (locs1 : List Loc), va_P D cl (wd b N sh (up2 M r i.toNatClampNeg v)) H1 → va_S (reg b N s.heap.size) s.heap H1 locs1 → W p l e R s m args below meth c H1 locs1 cells slots Q (F0 m (pc + 1) ls rest)) : W p l e R s m args below meth c H locs cells slots Q (F0 m pc ls (.int v :: .int i :: .ref (b + r) :: rest)) := by
  refine va_zast hx hb hK hP reg_D hS r t0 (f := M r) (by rw [wd_at hr, hs]; rfl) ht (ixb_in hin) hdg (fun H1 locs1 hP1 _ hS1 => ?_)
  rw [hv, wd_set (M' := up2 M r i.toNatClampNeg v) hr (by rw [hs, up2_at]; rfl) (fun q hq => up2_ne hq)] at hP1
  exact kk H1 locs1 hP1 hS1
theorem wd_iret {rv : Int32} (hx : p.tables.exec = Jvm.exec) (hb : c.code = cc) (hr : meth.sig.returnType = some .int) (hlk : meth.locks = false) (hP : va_P D cl (wd b N sh M) H) (hS : va_S (reg b N s.heap.size) s.heap H locs) (hdg : decode cc pc = .ok (.ireturn, 1)) :
    W p l e R s m args below meth c H locs cells slots (MQ below (Qwi D cl b N sh rv M s.heap.size) args s cells slots (reg b N s.heap.size)) (F0 m pc ls [.int rv]) :=
  W.iret (v := rv) hx hb hr (fun t ht _ => ⟨⟨rv, (), rfl, rfl, show va_P D cl (wd b N sh M) t.heap by rw [ht]; exact hP⟩, hS.F ht⟩) hS.2.2 hdg hlk
theorem wd_zret {rv : Int32} (hx : p.tables.exec = Jvm.exec) (hb : c.code = cc) (hr : meth.sig.returnType = some .boolean) (hn : narrow .boolean (.int rv) = .int rv) (hlk : meth.locks = false) (hP : va_P D cl (wd b N sh M) H) (hS : va_S (reg b N s.heap.size) s.heap H locs) (hdg : decode cc pc = .ok (.ireturn, 1)) :
    W p l e R s m args below meth c H locs cells slots (MQ below (Qwi D cl b N sh rv M s.heap.size) args s cells slots (reg b N s.heap.size)) (F0 m pc ls [.int rv]) :=
  W.zret (v := rv) hx hb hr hn (fun t ht _ => ⟨⟨rv, (), rfl, rfl, show va_P D cl (wd b N sh M) t.heap by rw [ht]; exact hP⟩, hS.F ht⟩) hS.2.2 hdg hlk
theorem wd_vret (hx : p.tables.exec = Jvm.exec) (hb : c.code = cc) (hr : meth.sig.returnType = none) (hlk : meth.locks = false) (hP : va_P D cl (wd b N sh M) H) (hS : va_S (reg b N s.heap.size) s.heap H locs) (hdg : decode cc pc = .ok (.return_, 1)) :
    W p l e R s m args below meth c H locs cells slots (MQ below (Qwv D cl b N sh M s.heap.size) args s cells slots (reg b N s.heap.size)) (F0 m pc ls []) :=
  W.vret hx hb hr (fun t ht _ => ⟨⟨(), rfl, trivial, show va_P D cl (wd b N sh M) t.heap by rw [ht]; exact hP⟩, hS.F ht⟩) hS.2.2 hdg hlk
variable {y : MethodName} {bytes : ByteArray} {maxL nL n index mc ms : Nat} {ret : Option FieldType} {ws : List Cond} {rm : Room} {Ts : List Cond} {own C : String} {As : List Value}
theorem wd_cvi {rv : Int32} (S : CallFix p m c cc nL s args Ts own) (hK : va_K D cl tys s) (hP : va_P D cl (wd b N sh M) H) (hS : va_S (reg b N s.heap.size) s.heap H locs) (r : Nat) (hr : r < N) {ci : Nat} {L : List (Option (Option Nat))} {T : u_T} {Nf : Nat} (hs : sh r = ob ci L) (hc : cl[ci]? = some (C, T, Nf))
    (hM : Met l y ws rm (Pw D cl tys b N sh (.ref (b + r) :: As) M H.size) (Qwi D cl b N sh rv M' H.size) mc ms (reg b N H.size)) (cw : CallW R s args own C index y bytes maxL ret ws rm mc ms n) (hn : As.length = n) (hsize : ls.size = nL) (hst : st0 = As.reverse ++ .ref (b + r) :: rest) (hroom : (rest.map fun v => v.category).sum ≤ 8) (hdg : decode cc pc = .ok (.invokevirtual index, 3)) (hf : cells + mc ≤ R.cells ∧ slots + ms ≤ R.slots)
    (kk : ∀ (H1 : Heap) (locs1 : List Loc), va_P D cl (wd b N sh M') H1 → va_S (reg b N s.heap.size) s.heap H1 locs1 → W p l e R s m args below meth c H1 locs1 (cells + mc) (slots + ms) Q (F0 m (pc + 3) ls (.int rv :: rest))) : W p l e R s m args below meth c H locs cells slots Q (F0 m pc ls st0) := by
  refine va_calli (va_runV (As := As) (rest := rest) (b := b + r) S hM cw ⟨Pw_blind, va_recv hK hP hc (show (wd b N sh M)[r]? = some (b + r, .inr (ci, fl L (M r))) by rw [wd_at hr, hs]; rfl), fun U hU hW => ⟨rfl, by rw [hU], by rw [hU]; exact hP, va_K.moved hW.alike hK⟩⟩ rfl hn hsize hst (lv_room hroom) hdg hf) hS (fun q _ h => reg_mono hS.1 q h) (fun q h => reg_mono hS.1 q h) (fun r1 u t H1 locs1 ht hvm hw hB hz1 hk1 hS1 => ?_)
  have hw : r1 = rv := hw
  have hB : va_P D cl (wd b N sh M') t.heap := hB
  subst hw
  rw [ht] at hB
  exact kk H1 locs1 hB hS1
theorem wd_cvv (S : CallFix p m c cc nL s args Ts own) (hK : va_K D cl tys s) (hP : va_P D cl (wd b N sh M) H) (hS : va_S (reg b N s.heap.size) s.heap H locs) (r : Nat) (hr : r < N) {ci : Nat} {L : List (Option (Option Nat))} {T : u_T} {Nf : Nat} (hs : sh r = ob ci L) (hc : cl[ci]? = some (C, T, Nf))
    (hM : Met l y ws rm (Pw D cl tys b N sh (.ref (b + r) :: As) M H.size) (Qwv D cl b N sh M' H.size) mc ms (reg b N H.size)) (cw : CallW R s args own C index y bytes maxL ret ws rm mc ms n) (hn : As.length = n) (hsize : ls.size = nL) (hst : st0 = As.reverse ++ .ref (b + r) :: rest) (hroom : (rest.map fun v => v.category).sum ≤ 8) (hdg : decode cc pc = .ok (.invokevirtual index, 3)) (hf : cells + mc ≤ R.cells ∧ slots + ms ≤ R.slots)
    (kk : ∀ (H1 : Heap) (locs1 : List Loc), va_P D cl (wd b N sh M') H1 → va_S (reg b N s.heap.size) s.heap H1 locs1 → W p l e R s m args below meth c H1 locs1 (cells + mc) (slots + ms) Q (F0 m (pc + 3) ls rest)) : W p l e R s m args below meth c H locs cells slots Q (F0 m pc ls st0) := by
  refine va_callv (va_runV (As := As) (rest := rest) (b := b + r) S hM cw ⟨Pw_blind, va_recv hK hP hc (show (wd b N sh M)[r]? = some (b + r, .inr (ci, fl L (M r))) by rw [wd_at hr, hs]; rfl), fun U hU hW => ⟨rfl, by rw [hU], by rw [hU]; exact hP, va_K.moved hW.alike hK⟩⟩ rfl hn hsize hst (lv_room hroom) hdg hf) hS (fun q _ h => reg_mono hS.1 q h) (fun q h => reg_mono hS.1 q h) (fun u t H1 locs1 ht hvm hw hB hz1 hk1 hS1 => ?_)
  have hB : va_P D cl (wd b N sh M') t.heap := hB
  rw [ht] at hB
  exact kk H1 locs1 hB hS1
theorem wd_csi {rv : Int32} (S : CallFix p m c cc nL s args Ts own) (hK : va_K D cl tys s) (hP : va_P D cl (wd b N sh M) H) (hS : va_S (reg b N s.heap.size) s.heap H locs)
    (hM : Met l y ws rm (Pw D cl tys b N sh As M H.size) (Qwi D cl b N sh rv M' H.size) mc ms (reg b N H.size)) (cw : CallB R s args own index y bytes maxL ret ws rm mc ms n ∧ (Cond.static y).before args s = true) (hn : As.length = n) (hsize : ls.size = nL) (hst : st0 = As.reverse ++ rest) (hroom : (rest.map fun v => v.category).sum ≤ 8) (hdg : decode cc pc = .ok (.invokestatic index, 3)) (hf : cells + mc ≤ R.cells ∧ slots + ms ≤ R.slots)
    (kk : ∀ (H1 : Heap) (locs1 : List Loc), va_P D cl (wd b N sh M') H1 → va_S (reg b N s.heap.size) s.heap H1 locs1 → W p l e R s m args below meth c H1 locs1 (cells + mc) (slots + ms) Q (F0 m (pc + 3) ls (.int rv :: rest))) : W p l e R s m args below meth c H locs cells slots Q (F0 m pc ls st0) := by
  refine va_calli (va_runS (As := As) (rest := rest) S hM cw ⟨Pw_blind, fun U hU hW => ⟨rfl, by rw [hU], by rw [hU]; exact hP, va_K.moved hW.alike hK⟩⟩ rfl hn hsize hst (lv_room hroom) hdg hf) hS (fun q _ h => reg_mono hS.1 q h) (fun q h => reg_mono hS.1 q h) (fun r1 u t H1 locs1 ht hvm hw hB hz1 hk1 hS1 => ?_)
  have hw : r1 = rv := hw
  have hB : va_P D cl (wd b N sh M') t.heap := hB
  subst hw
  rw [ht] at hB
  exact kk H1 locs1 hB hS1
theorem wd_csv (S : CallFix p m c cc nL s args Ts own) (hK : va_K D cl tys s) (hP : va_P D cl (wd b N sh M) H) (hS : va_S (reg b N s.heap.size) s.heap H locs)
    (hM : Met l y ws rm (Pw D cl tys b N sh As M H.size) (Qwv D cl b N sh M' H.size) mc ms (reg b N H.size)) (cw : CallB R s args own index y bytes maxL ret ws rm mc ms n ∧ (Cond.static y).before args s = true) (hn : As.length = n) (hsize : ls.size = nL) (hst : st0 = As.reverse ++ rest) (hroom : (rest.map fun v => v.category).sum ≤ 8) (hdg : decode cc pc = .ok (.invokestatic index, 3)) (hf : cells + mc ≤ R.cells ∧ slots + ms ≤ R.slots)
    (kk : ∀ (H1 : Heap) (locs1 : List Loc), va_P D cl (wd b N sh M') H1 → va_S (reg b N s.heap.size) s.heap H1 locs1 → W p l e R s m args below meth c H1 locs1 (cells + mc) (slots + ms) Q (F0 m (pc + 3) ls rest)) : W p l e R s m args below meth c H locs cells slots Q (F0 m pc ls st0) := by
  refine va_callv (va_runS (As := As) (rest := rest) S hM cw ⟨Pw_blind, fun U hU hW => ⟨rfl, by rw [hU], by rw [hU]; exact hP, va_K.moved hW.alike hK⟩⟩ rfl hn hsize hst (lv_room hroom) hdg hf) hS (fun q _ h => reg_mono hS.1 q h) (fun q h => reg_mono hS.1 q h) (fun u t H1 locs1 ht hvm hw hB hz1 hk1 hS1 => ?_)
  have hB : va_P D cl (wd b N sh M') t.heap := hB
  rw [ht] at hB
  exact kk H1 locs1 hB hS1
end KW
/-! booleans -/
def bz (v : Int32) : Bool := decide (v = 0 ∨ v = 1)
theorem bz_or {v : Int32} (h : bz v = true) : v = 0 ∨ v = 1 := of_decide_eq_true h
theorem nbz {v : Int32} (h : bz v = true) : narrow .boolean (.int v) = .int v := by
  rcases bz_or h with rfl | rfl <;> rfl
theorem fbz {v : Int32} (h : bz v = true) : fits .boolean (.int v) = true := by
  rcases bz_or h with rfl | rfl <;> rfl
theorem vpz {v : Int32} (h : bz v = true) : vp_nar .boolean v = v := by
  rcases bz_or h with rfl | rfl <;> rfl
/-! METHODS THAT ONLY READ: the heap behind them is the heap before -/
def Qro (rv : Int32) : Array Value → State → Outcome → State → Prop := fun _ st oc t => oc = .returned (some (.int rv)) ∧ t.heap = st.heap
def nofree : Addr → Prop := fun _ => False
section KR
variable {p : Program} {l : Launch} {e : Env} {R : Room} {s : State} {m : MethodId} {args : Array Value} {below : List Frame} {meth : Method} {c : Code} {H : Heap} {locs : List Loc} {cells slots : Nat} {Q : State → Prop}
variable {cc : ByteArray} {pc : Nat} {ls : Array Slot} {rest st0 : List Value} {D : va_G} {cl : List vw_C} {tys : List (ClassId × FieldType)} {b N : Nat} {sh : Shp} {M : Mm}
theorem wd_iret0 {rv : Int32} (hx : p.tables.exec = Jvm.exec) (hb : c.code = cc) (hr : meth.sig.returnType = some .int) (hlk : meth.locks = false) (hdg : decode cc pc = .ok (.ireturn, 1)) :
    W p l e R s m args below meth c s.heap [] cells slots (MQ below (Qro rv) args s cells slots nofree) (F0 m pc ls [.int rv]) :=
  W.iret (v := rv) hx hb hr (fun t ht _ => ⟨rfl, ht⟩) (fun q h => by cases h) hdg hlk
theorem wd_zret0 {rv : Int32} (hx : p.tables.exec = Jvm.exec) (hb : c.code = cc) (hr : meth.sig.returnType = some .boolean) (hn : narrow .boolean (.int rv) = .int rv) (hlk : meth.locks = false) (hdg : decode cc pc = .ok (.ireturn, 1)) :
    W p l e R s m args below meth c s.heap [] cells slots (MQ below (Qro rv) args s cells slots nofree) (F0 m pc ls [.int rv]) :=
  W.zret (v := rv) hx hb hr hn (fun t ht _ => ⟨rfl, ht⟩) (fun q h => by cases h) hdg hlk
variable {y : MethodName} {bytes : ByteArray} {maxL nL n index : Nat} {ret : Option FieldType} {ws : List Cond} {rm : Room} {Ts : List Cond} {own C : String} {As : List Value}
theorem wd_ro {rv : Int32} {a : Array Value} {g : JFrame} (hr : va_Run p l e R s m args below meth c H locs cells slots 0 0 g rest (Qro rv a) nofree)
    (kk : W p l e R s m args below meth c H locs cells slots Q { g with pc := g.pc + 3, stack := .int rv :: rest }) : W p l e R s m args below meth c H locs cells slots Q g := by
  intro T hT X
  obtain ⟨v, st₀, t, T', L, h0, X', hL, e1, e2, ⟨hv, hh⟩, st⟩ := hr T hT X
  cases hv
  have hL0 : L = [] := by
    cases L with
    | nil => rfl
    | cons q L => exact (hL q List.mem_cons_self).elim
  subst hL0
  rw [List.append_nil] at X'
  obtain ⟨t2, a1, b1⟩ := kk T' (by rw [e1, hh, h0]) X'
  exact ⟨t2, st t2 a1, b1⟩
theorem wd_cvr {rv : Int32} (S : CallFix p m c cc nL s args Ts own) (hK : va_K D cl tys s) (hP : va_P D cl (wd b N sh M) H) (r : Nat) (hr : r < N) {ci : Nat} {L : List (Option (Option Nat))} {T : u_T} {Nf : Nat} (hs : sh r = ob ci L) (hc : cl[ci]? = some (C, T, Nf))
    (hM : Met l y ws rm (Pw D cl tys b N sh (.ref (b + r) :: As) M H.size) (Qro rv) 0 0 nofree) (cw : CallW R s args own C index y bytes maxL ret ws rm 0 0 n) (hn : As.length = n) (hsize : ls.size = nL) (hst : st0 = As.reverse ++ .ref (b + r) :: rest) (hroom : (rest.map fun v => v.category).sum ≤ 8) (hdg : decode cc pc = .ok (.invokevirtual index, 3)) (hf : cells ≤ R.cells ∧ slots ≤ R.slots)
    (kk : W p l e R s m args below meth c H locs cells slots Q (F0 m (pc + 3) ls (.int rv :: rest))) : W p l e R s m args below meth c H locs cells slots Q (F0 m pc ls st0) :=
  wd_ro (va_runV (As := As) (rest := rest) (b := b + r) S hM cw ⟨Pw_blind, va_recv hK hP hc (show (wd b N sh M)[r]? = some (b + r, .inr (ci, fl L (M r))) by rw [wd_at hr, hs]; rfl), fun U hU hW => ⟨rfl, by rw [hU], by rw [hU]; exact hP, va_K.moved hW.alike hK⟩⟩ rfl hn hsize hst (lv_room hroom) hdg hf) kk
theorem wd_csr {rv : Int32} (S : CallFix p m c cc nL s args Ts own) (hK : va_K D cl tys s) (hP : va_P D cl (wd b N sh M) H)
    (hM : Met l y ws rm (Pw D cl tys b N sh As M H.size) (Qro rv) 0 0 nofree) (cw : CallB R s args own index y bytes maxL ret ws rm 0 0 n ∧ (Cond.static y).before args s = true) (hn : As.length = n) (hsize : ls.size = nL) (hst : st0 = As.reverse ++ rest) (hroom : (rest.map fun v => v.category).sum ≤ 8) (hdg : decode cc pc = .ok (.invokestatic index, 3)) (hf : cells ≤ R.cells ∧ slots ≤ R.slots)
    (kk : W p l e R s m args below meth c H locs cells slots Q (F0 m (pc + 3) ls (.int rv :: rest))) : W p l e R s m args below meth c H locs cells slots Q (F0 m pc ls st0) :=
  wd_ro (va_runS (As := As) (rest := rest) S hM cw ⟨Pw_blind, fun U hU hW => ⟨rfl, by rw [hU], by rw [hU]; exact hP, va_K.moved hW.alike hK⟩⟩ rfl hn hsize hst (lv_room hroom) hdg hf) kk
end KR
