abbrev rm_B_isAddress : Room := { frames := 0, cells := 0, slots := 0, locals := 0 }
def f_B_isAddress (B C : Nat) (x0 : Int32) (M : Mm) : Option (Int32) := (if x0 < 0 then some 0 else (if 1048575 < x0 then some 0 else some 1))
section
variable {p : Program} {l : Launch} {e : Env} {s : State} {m : MethodId} {args : Array Value} {below : List Frame} {meth : Method} {c : Code} {dC : Nat → ClassId} {dI : Nat → Nat → Nat} {dA : Nat → ClassId} {b N B C : Nat} {sh : Shp}
set_option maxHeartbeats 4000000 in
set_option maxRecDepth 100000 in
theorem w_B_isAddress_0 {rv : Int32} (G : Cx p s m args meth c (dC, dI) cls6 (tyl dA) "BankTimes" k_B_isAddress 1 (some .boolean))   : ∀ (x0 : Int32) (M : Mm) (ls : Array Slot), va_P (dC, dI) cls6 (wd b N sh M) s.heap → va_S (reg b N s.heap.size) s.heap s.heap [] → lv_has ls 1 [(0, .int x0)] → f_B_isAddress B C x0 M = some rv → W p l e rm_B_isAddress s m args below meth c s.heap [] 0 0 (MQ below (Qro rv) args s 0 0 nofree) (F0 m 0 ls []) := by
  obtain ⟨hx, hb, hml, hr, hown, hts, hlk, hK⟩ := id G
  intro x0 M ls hP hS hl h
  unfold f_B_isAddress at h
  refine lv_iload_n hx hb d_B_isAddress_0 rfl (lv_at hl 0 rfl) ?_
  refine lv_if_lt (tgt := 14) hx hb d_B_isAddress_1 (by decide) (fun c1 => ?_) (fun c1 => ?_)
  · replace h := ogt c1 h
    refine lv_iconst (v := 0) hx hb d_B_isAddress_14 (by decide) ?_
    obtain rfl := oe h
    exact wd_zret0 hx hb hr rfl hlk d_B_isAddress_15
  · replace h := ogf c1 h
    refine lv_iload_n hx hb d_B_isAddress_4 rfl (lv_at hl 0 rfl) ?_
    refine lv_ldc (v := 1048575) hx hb hown (hts _ t_90) d_B_isAddress_5 ?_
    refine lv_icmp_gt (tgt := 14) hx hb d_B_isAddress_7 (by decide) (fun c7 => ?_) (fun c7 => ?_)
    · replace h := ogt c7 h
      refine lv_iconst (v := 0) hx hb d_B_isAddress_14 (by decide) ?_
      obtain rfl := oe h
      exact wd_zret0 hx hb hr rfl hlk d_B_isAddress_15
    · replace h := ogf c7 h
      refine lv_iconst (v := 1) hx hb d_B_isAddress_10 (by decide) ?_
      refine lv_goto (tgt := 15) hx hb d_B_isAddress_11 (by decide) ?_
      obtain rfl := oe h
      exact wd_zret0 hx hb hr rfl hlk d_B_isAddress_15
theorem c_B_isAddress (l : Launch) (x0 : Int32) (M : Mm) (sz : Nat) {rv : Int32} (h : f_B_isAddress B C x0 M = some rv) : Met l y_B_isAddress (wm y_B_isAddress k_B_isAddress 1 (some .boolean)) rm_B_isAddress (Pw (dC, dI) cls6 (tyl dA) b N sh [.int x0] M sz) (Qro rv) 0 0 nofree := by
  refine mk_met (by decide) (Nat.le_of_ble_eq_true rfl) ?_
  intro p e s m below meth c ls G hsz hP hS hl
  subst hsz
  exact w_B_isAddress_0 G _ _ ls hP hS hl h
end
abbrev rm_B_channelOf : Room := { frames := 0, cells := 0, slots := 0, locals := 0 }
def f_B_channelOf (B C : Nat) (x1 : Int32) (M : Mm) : Option (Int32) := some ((x1 >>> (4 &&& 31)) &&& ((nI C) - 1))
section
variable {p : Program} {l : Launch} {e : Env} {s : State} {m : MethodId} {args : Array Value} {below : List Frame} {meth : Method} {c : Code} {dC : Nat → ClassId} {dI : Nat → Nat → Nat} {dA : Nat → ClassId} {b N B C : Nat} {sh : Shp}
set_option maxHeartbeats 4000000 in
set_option maxRecDepth 100000 in
theorem w_B_channelOf_0 {rv : Int32} (G : Cx p s m args meth c (dC, dI) cls6 (tyl dA) "BankTimes" k_B_channelOf 2 (some .int)) (hI : Is_B dA b N sh B C 0)   : ∀ (x1 : Int32) (M : Mm) (ls : Array Slot), va_P (dC, dI) cls6 (wd b N sh M) s.heap → va_S (reg b N s.heap.size) s.heap s.heap [] → lv_has ls 2 [(0, .ref (b + 0)), (1, .int x1)] → f_B_channelOf B C x1 M = some rv → W p l e rm_B_channelOf s m args below meth c s.heap [] 0 0 (MQ below (Qro rv) args s 0 0 nofree) (F0 m 0 ls []) := by
  obtain ⟨hx, hb, hml, hr, hown, hts, hlk, hK⟩ := id G
  intro x1 M ls hP hS hl h
  unfold f_B_channelOf at h
  refine lv_iload_n hx hb d_B_channelOf_0 rfl (lv_at hl 1 rfl) ?_
  refine lv_iconst (v := 4) hx hb d_B_channelOf_1 (by decide) ?_
  refine lv_ishr hx hb d_B_channelOf_2 ?_
  refine lv_aload_n hx hb d_B_channelOf_3 rfl (lv_at hl 0 rfl) ?_
  refine wd_getr hx hb hts i_B hown hK hP 0 hI.1 hI.2.1 rfl 5 (by decide) t_91 rfl d_B_channelOf_4 ?_
  refine wd_ralen hx hb hK hP 2 2 hI.2.2.2.1.1 hI.2.2.2.1.2.1 rfl d_B_channelOf_7 ?_
  refine lv_iconst (v := 1) hx hb d_B_channelOf_8 (by decide) ?_
  refine lv_isub hx hb d_B_channelOf_9 ?_
  refine lv_iand hx hb d_B_channelOf_10 ?_
  obtain rfl := oe h
  exact wd_iret0 hx hb hr hlk d_B_channelOf_11
theorem c_B_channelOf (l : Launch) (x1 : Int32) (M : Mm) (sz : Nat) (hI : Is_B dA b N sh B C 0) {rv : Int32} (h : f_B_channelOf B C x1 M = some rv) : Met l y_B_channelOf (wm y_B_channelOf k_B_channelOf 2 (some .int)) rm_B_channelOf (Pw (dC, dI) cls6 (tyl dA) b N sh [.ref (b + 0), .int x1] M sz) (Qro rv) 0 0 nofree := by
  refine mk_met (by decide) (Nat.le_of_ble_eq_true rfl) ?_
  intro p e s m below meth c ls G hsz hP hS hl
  subst hsz
  exact w_B_channelOf_0 G hI _ _ ls hP hS hl h
end
abbrev rm_B_bankOf : Room := { frames := 0, cells := 0, slots := 0, locals := 0 }
def f_B_bankOf (B C : Nat) (x1 : Int32) (M : Mm) : Option (Int32) := some ((x1 >>> ((4 + (M 0 0)) &&& 31)) &&& ((M 0 2) - 1))
section
variable {p : Program} {l : Launch} {e : Env} {s : State} {m : MethodId} {args : Array Value} {below : List Frame} {meth : Method} {c : Code} {dC : Nat → ClassId} {dI : Nat → Nat → Nat} {dA : Nat → ClassId} {b N B C : Nat} {sh : Shp}
set_option maxHeartbeats 4000000 in
set_option maxRecDepth 100000 in
theorem w_B_bankOf_0 {rv : Int32} (G : Cx p s m args meth c (dC, dI) cls6 (tyl dA) "BankTimes" k_B_bankOf 2 (some .int)) (hI : Is_B dA b N sh B C 0)   : ∀ (x1 : Int32) (M : Mm) (ls : Array Slot), va_P (dC, dI) cls6 (wd b N sh M) s.heap → va_S (reg b N s.heap.size) s.heap s.heap [] → lv_has ls 2 [(0, .ref (b + 0)), (1, .int x1)] → f_B_bankOf B C x1 M = some rv → W p l e rm_B_bankOf s m args below meth c s.heap [] 0 0 (MQ below (Qro rv) args s 0 0 nofree) (F0 m 0 ls []) := by
  obtain ⟨hx, hb, hml, hr, hown, hts, hlk, hK⟩ := id G
  intro x1 M ls hP hS hl h
  unfold f_B_bankOf at h
  refine lv_iload_n hx hb d_B_bankOf_0 rfl (lv_at hl 1 rfl) ?_
  refine lv_iconst (v := 4) hx hb d_B_bankOf_1 (by decide) ?_
  refine lv_aload_n hx hb d_B_bankOf_2 rfl (lv_at hl 0 rfl) ?_
  refine wd_geti hx hb hts i_B hown hK hP 0 hI.1 hI.2.1 rfl 0 (by decide) t_92 rfl d_B_bankOf_3 ?_
  refine lv_iadd hx hb d_B_bankOf_6 ?_
  refine lv_ishr hx hb d_B_bankOf_7 ?_
  refine lv_aload_n hx hb d_B_bankOf_8 rfl (lv_at hl 0 rfl) ?_
  refine wd_geti hx hb hts i_B hown hK hP 0 hI.1 hI.2.1 rfl 2 (by decide) t_93 rfl d_B_bankOf_9 ?_
  refine lv_iconst (v := 1) hx hb d_B_bankOf_12 (by decide) ?_
  refine lv_isub hx hb d_B_bankOf_13 ?_
  refine lv_iand hx hb d_B_bankOf_14 ?_
  obtain rfl := oe h
  exact wd_iret0 hx hb hr hlk d_B_bankOf_15
theorem c_B_bankOf (l : Launch) (x1 : Int32) (M : Mm) (sz : Nat) (hI : Is_B dA b N sh B C 0) {rv : Int32} (h : f_B_bankOf B C x1 M = some rv) : Met l y_B_bankOf (wm y_B_bankOf k_B_bankOf 2 (some .int)) rm_B_bankOf (Pw (dC, dI) cls6 (tyl dA) b N sh [.ref (b + 0), .int x1] M sz) (Qro rv) 0 0 nofree := by
  refine mk_met (by decide) (Nat.le_of_ble_eq_true rfl) ?_
  intro p e s m below meth c ls G hsz hP hS hl
  subst hsz
  exact w_B_bankOf_0 G hI _ _ ls hP hS hl h
end
abbrev rm_B_rowOf : Room := { frames := 0, cells := 0, slots := 0, locals := 0 }
def f_B_rowOf (B C : Nat) (x1 : Int32) (M : Mm) : Option (Int32) := some (x1 >>> (((4 + (M 0 0)) + (M 0 1)) &&& 31))
section
variable {p : Program} {l : Launch} {e : Env} {s : State} {m : MethodId} {args : Array Value} {below : List Frame} {meth : Method} {c : Code} {dC : Nat → ClassId} {dI : Nat → Nat → Nat} {dA : Nat → ClassId} {b N B C : Nat} {sh : Shp}
set_option maxHeartbeats 4000000 in
set_option maxRecDepth 100000 in
theorem w_B_rowOf_0 {rv : Int32} (G : Cx p s m args meth c (dC, dI) cls6 (tyl dA) "BankTimes" k_B_rowOf 2 (some .int)) (hI : Is_B dA b N sh B C 0)   : ∀ (x1 : Int32) (M : Mm) (ls : Array Slot), va_P (dC, dI) cls6 (wd b N sh M) s.heap → va_S (reg b N s.heap.size) s.heap s.heap [] → lv_has ls 2 [(0, .ref (b + 0)), (1, .int x1)] → f_B_rowOf B C x1 M = some rv → W p l e rm_B_rowOf s m args below meth c s.heap [] 0 0 (MQ below (Qro rv) args s 0 0 nofree) (F0 m 0 ls []) := by
  obtain ⟨hx, hb, hml, hr, hown, hts, hlk, hK⟩ := id G
  intro x1 M ls hP hS hl h
  unfold f_B_rowOf at h
  refine lv_iload_n hx hb d_B_rowOf_0 rfl (lv_at hl 1 rfl) ?_
  refine lv_iconst (v := 4) hx hb d_B_rowOf_1 (by decide) ?_
  refine lv_aload_n hx hb d_B_rowOf_2 rfl (lv_at hl 0 rfl) ?_
  refine wd_geti hx hb hts i_B hown hK hP 0 hI.1 hI.2.1 rfl 0 (by decide) t_92 rfl d_B_rowOf_3 ?_
  refine lv_iadd hx hb d_B_rowOf_6 ?_
  refine lv_aload_n hx hb d_B_rowOf_7 rfl (lv_at hl 0 rfl) ?_
  refine wd_geti hx hb hts i_B hown hK hP 0 hI.1 hI.2.1 rfl 1 (by decide) t_94 rfl d_B_rowOf_8 ?_
  refine lv_iadd hx hb d_B_rowOf_11 ?_
  refine lv_ishr hx hb d_B_rowOf_12 ?_
  obtain rfl := oe h
  exact wd_iret0 hx hb hr hlk d_B_rowOf_13
theorem c_B_rowOf (l : Launch) (x1 : Int32) (M : Mm) (sz : Nat) (hI : Is_B dA b N sh B C 0) {rv : Int32} (h : f_B_rowOf B C x1 M = some rv) : Met l y_B_rowOf (wm y_B_rowOf k_B_rowOf 2 (some .int)) rm_B_rowOf (Pw (dC, dI) cls6 (tyl dA) b N sh [.ref (b + 0), .int x1] M sz) (Qro rv) 0 0 nofree := by
  refine mk_met (by decide) (Nat.le_of_ble_eq_true rfl) ?_
  intro p e s m below meth c ls G hsz hP hS hl
  subst hsz
  exact w_B_rowOf_0 G hI _ _ ls hP hS hl h
end
abbrev rm_B_anyRowOpen : Room := { frames := 1, cells := 0, slots := 0, locals := 21 }
def B_B_anyRowOpen_2 (B C : Nat) : Nat → Int32 → Mm → Option (Int32)
  | 0, _, _ => none
  | n + 1, x1, M => (if (nI C) ≤ x1 then some 0 else (if ixb x1 C = true then (f_R_anyOpen B C ((4 + 21 * x1.toNatClampNeg) + 1) M).bind (fun q20 => (if q20 = 0 then bnd (x1 + 1) (fun v28 => B_B_anyRowOpen_2 B C n v28 M) else some 1)) else none))
def f_B_anyRowOpen (B C : Nat) (M : Mm) : Option (Int32) := B_B_anyRowOpen_2 B C 1200 0 M
section
variable {p : Program} {l : Launch} {e : Env} {s : State} {m : MethodId} {args : Array Value} {below : List Frame} {meth : Method} {c : Code} {dC : Nat → ClassId} {dI : Nat → Nat → Nat} {dA : Nat → ClassId} {b N B C : Nat} {sh : Shp}
set_option maxHeartbeats 4000000 in
set_option maxRecDepth 100000 in
theorem w_B_anyRowOpen_2 {rv : Int32} (G : Cx p s m args meth c (dC, dI) cls6 (tyl dA) "BankTimes" k_B_anyRowOpen 2 (some .boolean)) (hI : Is_B dA b N sh B C 0)   : ∀ (n : Nat) (x1 : Int32) (M : Mm) (ls : Array Slot), va_P (dC, dI) cls6 (wd b N sh M) s.heap → va_S (reg b N s.heap.size) s.heap s.heap [] → lv_has ls 2 [(0, .ref (b + 0)), (1, .int x1)] → B_B_anyRowOpen_2 B C n x1 M = some rv → W p l e rm_B_anyRowOpen s m args below meth c s.heap [] 0 0 (MQ below (Qro rv) args s 0 0 nofree) (F0 m 2 ls []) := by
  obtain ⟨hx, hb, hml, hr, hown, hts, hlk, hK⟩ := id G
  intro n
  induction n with
  | zero =>
    intro x1 M ls hP hS hl h
    cases h
  | succ n ih =>
    intro x1 M ls hP hS hl h
    rw [B_B_anyRowOpen_2] at h
    refine lv_iload_n hx hb d_B_anyRowOpen_2 rfl (lv_at hl 1 rfl) ?_
    refine lv_aload_n hx hb d_B_anyRowOpen_3 rfl (lv_at hl 0 rfl) ?_
    refine wd_getr hx hb hts i_B hown hK hP 0 hI.1 hI.2.1 rfl 5 (by decide) t_91 rfl d_B_anyRowOpen_4 ?_
    refine wd_ralen hx hb hK hP 2 2 hI.2.2.2.1.1 hI.2.2.2.1.2.1 rfl d_B_anyRowOpen_7 ?_
    refine lv_icmp_ge (tgt := 34) hx hb d_B_anyRowOpen_8 (by decide) (fun c8 => ?_) (fun c8 => ?_)
    · replace h := ogt c8 h
      refine lv_iconst (v := 0) hx hb d_B_anyRowOpen_34 (by decide) ?_
      obtain rfl := oe h
      exact wd_zret0 hx hb hr rfl hlk d_B_anyRowOpen_35
    · replace h := ogf c8 h
      refine lv_aload_n hx hb d_B_anyRowOpen_11 rfl (lv_at hl 0 rfl) ?_
      refine wd_getr hx hb hts i_B hown hK hP 0 hI.1 hI.2.1 rfl 5 (by decide) t_91 rfl d_B_anyRowOpen_12 ?_
      refine lv_iload_n hx hb d_B_anyRowOpen_15 rfl (lv_at hl 1 rfl) ?_
      obtain ⟨hi16, h⟩ := og h
      refine wd_aald hx hb hK hP 2 2 hI.2.2.2.1.1 hI.2.2.2.1.2.1 rfl hi16 rfl d_B_anyRowOpen_16 ?_
      refine wd_getr hx hb hts i_C hown hK hP (4 + 21 * x1.toNatClampNeg) (hI.2.2.2.1.2.2 x1 hi16).1 (hI.2.2.2.1.2.2 x1 hi16).2.1 rfl 0 (by decide) t_95 rfl d_B_anyRowOpen_17 ?_
      obtain ⟨q20, hc20, h⟩ := obd h
      refine wd_cvr (As := []) (rest := []) ⟨hx, hb, hml, hown, hts⟩ hK hP ((4 + 21 * x1.toNatClampNeg) + 1) (hI.2.2.2.1.2.2 x1 hi16).2.2.1.1 (hI.2.2.2.1.2.2 x1 hi16).2.2.1.2.1 rfl (c_R_anyOpen l ((4 + 21 * x1.toNatClampNeg) + 1) M _ (hI.2.2.2.1.2.2 x1 hi16).2.2.1 hc20) (cwV 0 hts (wmV t_96 t_21 t_22 t_13 t_20) rfl rfl rfl (by decide +kernel) ⟨by decide, by decide⟩) rfl hl.1 rfl (Nat.le_of_ble_eq_true rfl) d_B_anyRowOpen_20 ⟨Nat.zero_le _, Nat.zero_le _⟩ ?_
      refine lv_if_eq (tgt := 28) hx hb d_B_anyRowOpen_23 (by decide) (fun c23 => ?_) (fun c23 => ?_)
      · replace h := ogt c23 h
        obtain ⟨v28, e28, h⟩ := ln h
        refine lv_iinc (v := v28) (lv' := [(1, .int v28), (0, .ref (b + 0))]) hx hb d_B_anyRowOpen_28 hl (k := 1) rfl (by rw [e28]; rfl) (by decide) rfl (fun ls hl => ?_)
        refine lv_goto (tgt := 2) hx hb d_B_anyRowOpen_31 (by decide) ?_
        exact ih v28 M _ hP hS (lv_sub hl [1, 0] rfl) h
      · replace h := ogf c23 h
        refine lv_iconst (v := 1) hx hb d_B_anyRowOpen_26 (by decide) ?_
        obtain rfl := oe h
        exact wd_zret0 hx hb hr rfl hlk d_B_anyRowOpen_27
set_option maxHeartbeats 4000000 in
set_option maxRecDepth 100000 in
theorem w_B_anyRowOpen_0 {rv : Int32} (G : Cx p s m args meth c (dC, dI) cls6 (tyl dA) "BankTimes" k_B_anyRowOpen 2 (some .boolean)) (hI : Is_B dA b N sh B C 0)   : ∀ (M : Mm) (ls : Array Slot), va_P (dC, dI) cls6 (wd b N sh M) s.heap → va_S (reg b N s.heap.size) s.heap s.heap [] → lv_has ls 2 [(0, .ref (b + 0))] → f_B_anyRowOpen B C M = some rv → W p l e rm_B_anyRowOpen s m args below meth c s.heap [] 0 0 (MQ below (Qro rv) args s 0 0 nofree) (F0 m 0 ls []) := by
  obtain ⟨hx, hb, hml, hr, hown, hts, hlk, hK⟩ := id G
  intro M ls hP hS hl h
  unfold f_B_anyRowOpen at h
  refine lv_iconst (v := 0) hx hb d_B_anyRowOpen_0 (by decide) ?_
  refine lv_istore_n (lv' := [(1, .int 0), (0, .ref (b + 0))]) hx hb d_B_anyRowOpen_1 rfl hl (by decide) rfl (fun ls hl => ?_)
  exact w_B_anyRowOpen_2 G hI  1200 0 M _ hP hS (lv_sub hl [1, 0] rfl) h
theorem c_B_anyRowOpen (l : Launch) (M : Mm) (sz : Nat) (hI : Is_B dA b N sh B C 0) {rv : Int32} (h : f_B_anyRowOpen B C M = some rv) : Met l y_B_anyRowOpen (wm y_B_anyRowOpen k_B_anyRowOpen 2 (some .boolean)) rm_B_anyRowOpen (Pw (dC, dI) cls6 (tyl dA) b N sh [.ref (b + 0)] M sz) (Qro rv) 0 0 nofree := by
  refine mk_met (by decide) (Nat.le_of_ble_eq_true rfl) ?_
  intro p e s m below meth c ls G hsz hP hS hl
  subst hsz
  exact w_B_anyRowOpen_0 G hI _ ls hP hS hl h
end
abbrev rm_B_dueRefreshes : Room := { frames := 0, cells := 0, slots := 0, locals := 0 }
def B_B_dueRefreshes_28 (B C : Nat) (K4 : Int32 → Int32 → Mm → Option (Int32)) (x1 x2 : Int32) (M : Mm) : Option (Int32) := bnd (x2 + 1) (fun v28 => K4 x1 v28 M)
def B_B_dueRefreshes_4 (B C : Nat) : Nat → Int32 → Int32 → Mm → Option (Int32)
  | 0, _, _, _ => none
  | n + 1, x1, x2, M => (if (nI C) ≤ x2 then some x1 else (if ixb x2 C = true then (if (M (4 + 21 * x2.toNatClampNeg) 3) = 0 then B_B_dueRefreshes_28 B C (fun y0 y1 M => B_B_dueRefreshes_4 B C n y0 y1 M) x1 x2 M else bnd (x1 + 1) (fun v25 => B_B_dueRefreshes_28 B C (fun y0 y1 M => B_B_dueRefreshes_4 B C n y0 y1 M) v25 x2 M)) else none))
def f_B_dueRefreshes (B C : Nat) (M : Mm) : Option (Int32) := B_B_dueRefreshes_4 B C 1200 0 0 M
section
variable {p : Program} {l : Launch} {e : Env} {s : State} {m : MethodId} {args : Array Value} {below : List Frame} {meth : Method} {c : Code} {dC : Nat → ClassId} {dI : Nat → Nat → Nat} {dA : Nat → ClassId} {b N B C : Nat} {sh : Shp}
set_option maxHeartbeats 4000000 in
set_option maxRecDepth 100000 in
theorem w_B_dueRefreshes_28 {rv : Int32} (G : Cx p s m args meth c (dC, dI) cls6 (tyl dA) "BankTimes" k_B_dueRefreshes 3 (some .int)) (hI : Is_B dA b N sh B C 0)  {K4 : Int32 → Int32 → Mm → Option (Int32)} (hK4 : ∀ (x1 x2 : Int32) (M : Mm) (ls : Array Slot), va_P (dC, dI) cls6 (wd b N sh M) s.heap → va_S (reg b N s.heap.size) s.heap s.heap [] → lv_has ls 3 [(0, .ref (b + 0)), (1, .int x1), (2, .int x2)] → K4 x1 x2 M = some rv → W p l e rm_B_dueRefreshes s m args below meth c s.heap [] 0 0 (MQ below (Qro rv) args s 0 0 nofree) (F0 m 4 ls []))  : ∀ (x1 x2 : Int32) (M : Mm) (ls : Array Slot), va_P (dC, dI) cls6 (wd b N sh M) s.heap → va_S (reg b N s.heap.size) s.heap s.heap [] → lv_has ls 3 [(0, .ref (b + 0)), (1, .int x1), (2, .int x2)] → B_B_dueRefreshes_28 B C K4 x1 x2 M = some rv → W p l e rm_B_dueRefreshes s m args below meth c s.heap [] 0 0 (MQ below (Qro rv) args s 0 0 nofree) (F0 m 28 ls []) := by
  obtain ⟨hx, hb, hml, hr, hown, hts, hlk, hK⟩ := id G
  intro x1 x2 M ls hP hS hl h
  unfold B_B_dueRefreshes_28 at h
  obtain ⟨v28, e28, h⟩ := ln h
  refine lv_iinc (v := v28) (lv' := [(2, .int v28), (0, .ref (b + 0)), (1, .int x1)]) hx hb d_B_dueRefreshes_28 hl (k := 2) rfl (by rw [e28]; rfl) (by decide) rfl (fun ls hl => ?_)
  refine lv_goto (tgt := 4) hx hb d_B_dueRefreshes_31 (by decide) ?_
  exact hK4 x1 v28 M _ hP hS (lv_sub hl [1, 2, 0] rfl) h
set_option maxHeartbeats 4000000 in
set_option maxRecDepth 100000 in
theorem w_B_dueRefreshes_4 {rv : Int32} (G : Cx p s m args meth c (dC, dI) cls6 (tyl dA) "BankTimes" k_B_dueRefreshes 3 (some .int)) (hI : Is_B dA b N sh B C 0)   : ∀ (n : Nat) (x1 x2 : Int32) (M : Mm) (ls : Array Slot), va_P (dC, dI) cls6 (wd b N sh M) s.heap → va_S (reg b N s.heap.size) s.heap s.heap [] → lv_has ls 3 [(0, .ref (b + 0)), (1, .int x1), (2, .int x2)] → B_B_dueRefreshes_4 B C n x1 x2 M = some rv → W p l e rm_B_dueRefreshes s m args below meth c s.heap [] 0 0 (MQ below (Qro rv) args s 0 0 nofree) (F0 m 4 ls []) := by
  obtain ⟨hx, hb, hml, hr, hown, hts, hlk, hK⟩ := id G
  intro n
  induction n with
  | zero =>
    intro x1 x2 M ls hP hS hl h
    cases h
  | succ n ih =>
    intro x1 x2 M ls hP hS hl h
    rw [B_B_dueRefreshes_4] at h
    refine lv_iload_n hx hb d_B_dueRefreshes_4 rfl (lv_at hl 2 rfl) ?_
    refine lv_aload_n hx hb d_B_dueRefreshes_5 rfl (lv_at hl 0 rfl) ?_
    refine wd_getr hx hb hts i_B hown hK hP 0 hI.1 hI.2.1 rfl 5 (by decide) t_91 rfl d_B_dueRefreshes_6 ?_
    refine wd_ralen hx hb hK hP 2 2 hI.2.2.2.1.1 hI.2.2.2.1.2.1 rfl d_B_dueRefreshes_9 ?_
    refine lv_icmp_ge (tgt := 34) hx hb d_B_dueRefreshes_10 (by decide) (fun c10 => ?_) (fun c10 => ?_)
    · replace h := ogt c10 h
      refine lv_iload_n hx hb d_B_dueRefreshes_34 rfl (lv_at hl 1 rfl) ?_
      obtain rfl := oe h
      exact wd_iret0 hx hb hr hlk d_B_dueRefreshes_35
    · replace h := ogf c10 h
      refine lv_aload_n hx hb d_B_dueRefreshes_13 rfl (lv_at hl 0 rfl) ?_
      refine wd_getr hx hb hts i_B hown hK hP 0 hI.1 hI.2.1 rfl 5 (by decide) t_91 rfl d_B_dueRefreshes_14 ?_
      refine lv_iload_n hx hb d_B_dueRefreshes_17 rfl (lv_at hl 2 rfl) ?_
      obtain ⟨hi18, h⟩ := og h
      refine wd_aald hx hb hK hP 2 2 hI.2.2.2.1.1 hI.2.2.2.1.2.1 rfl hi18 rfl d_B_dueRefreshes_18 ?_
      refine wd_geti hx hb hts i_C hown hK hP (4 + 21 * x2.toNatClampNeg) (hI.2.2.2.1.2.2 x2 hi18).1 (hI.2.2.2.1.2.2 x2 hi18).2.1 rfl 3 (by decide) t_97 rfl d_B_dueRefreshes_19 ?_
      refine lv_if_eq (tgt := 28) hx hb d_B_dueRefreshes_22 (by decide) (fun c22 => ?_) (fun c22 => ?_)
      · replace h := ogt c22 h
        exact w_B_dueRefreshes_28 G hI ih  x1 x2 M _ hP hS (lv_sub hl [0, 1, 2] rfl) h
      · replace h := ogf c22 h
        obtain ⟨v25, e25, h⟩ := ln h
        refine lv_iinc (v := v25) (lv' := [(1, .int v25), (0, .ref (b + 0)), (2, .int x2)]) hx hb d_B_dueRefreshes_25 hl (k := 1) rfl (by rw [e25]; rfl) (by decide) rfl (fun ls hl => ?_)
        exact w_B_dueRefreshes_28 G hI ih  v25 x2 M _ hP hS (lv_sub hl [1, 0, 2] rfl) h
set_option maxHeartbeats 4000000 in
set_option maxRecDepth 100000 in
theorem w_B_dueRefreshes_0 {rv : Int32} (G : Cx p s m args meth c (dC, dI) cls6 (tyl dA) "BankTimes" k_B_dueRefreshes 3 (some .int)) (hI : Is_B dA b N sh B C 0)   : ∀ (M : Mm) (ls : Array Slot), va_P (dC, dI) cls6 (wd b N sh M) s.heap → va_S (reg b N s.heap.size) s.heap s.heap [] → lv_has ls 3 [(0, .ref (b + 0))] → f_B_dueRefreshes B C M = some rv → W p l e rm_B_dueRefreshes s m args below meth c s.heap [] 0 0 (MQ below (Qro rv) args s 0 0 nofree) (F0 m 0 ls []) := by
  obtain ⟨hx, hb, hml, hr, hown, hts, hlk, hK⟩ := id G
  intro M ls hP hS hl h
  unfold f_B_dueRefreshes at h
  refine lv_iconst (v := 0) hx hb d_B_dueRefreshes_0 (by decide) ?_
  refine lv_istore_n (lv' := [(1, .int 0), (0, .ref (b + 0))]) hx hb d_B_dueRefreshes_1 rfl hl (by decide) rfl (fun ls hl => ?_)
  refine lv_iconst (v := 0) hx hb d_B_dueRefreshes_2 (by decide) ?_
  refine lv_istore_n (lv' := [(2, .int 0), (1, .int 0), (0, .ref (b + 0))]) hx hb d_B_dueRefreshes_3 rfl hl (by decide) rfl (fun ls hl => ?_)
  exact w_B_dueRefreshes_4 G hI  1200 0 0 M _ hP hS (lv_sub hl [2, 1, 0] rfl) h
theorem c_B_dueRefreshes (l : Launch) (M : Mm) (sz : Nat) (hI : Is_B dA b N sh B C 0) {rv : Int32} (h : f_B_dueRefreshes B C M = some rv) : Met l y_B_dueRefreshes (wm y_B_dueRefreshes k_B_dueRefreshes 3 (some .int)) rm_B_dueRefreshes (Pw (dC, dI) cls6 (tyl dA) b N sh [.ref (b + 0)] M sz) (Qro rv) 0 0 nofree := by
  refine mk_met (by decide) (Nat.le_of_ble_eq_true rfl) ?_
  intro p e s m below meth c ls G hsz hP hS hl
  subst hsz
  exact w_B_dueRefreshes_0 G hI _ ls hP hS hl h
end
abbrev rm_B_give : Room := { frames := 2, cells := 0, slots := 0, locals := 47 }
def f_B_give (B C : Nat) (x1 x2 x3 x4 : Int32) (M : Mm) : Option (Mm) := (if ixb x1 C = true then (f_R_take B C ((4 + 21 * x1.toNatClampNeg) + 1) (M 0 10) x2 x3 x4 M).bind (fun q17 => (f_G_add B C (4 + 21 * C) x1 (q17 0 10) x2 x3 x4 q17).bind (fun q33 => some q33)) else none)
section
variable {p : Program} {l : Launch} {e : Env} {s : State} {m : MethodId} {args : Array Value} {below : List Frame} {meth : Method} {c : Code} {dC : Nat → ClassId} {dI : Nat → Nat → Nat} {dA : Nat → ClassId} {b N B C : Nat} {sh : Shp}
set_option maxHeartbeats 4000000 in
set_option maxRecDepth 100000 in
theorem w_B_give_0 {M' : Mm} (G : Cx p s m args meth c (dC, dI) cls6 (tyl dA) "BankTimes" k_B_give 5 none) (hI : Is_B dA b N sh B C 0)   : ∀ (x1 x2 x3 x4 : Int32) (M : Mm) (ls : Array Slot), va_P (dC, dI) cls6 (wd b N sh M) s.heap → va_S (reg b N s.heap.size) s.heap s.heap [] → lv_has ls 5 [(0, .ref (b + 0)), (1, .int x1), (2, .int x2), (3, .int x3), (4, .int x4)] → f_B_give B C x1 x2 x3 x4 M = some M' → W p l e rm_B_give s m args below meth c s.heap [] 0 0 (MQ below (Qwv (dC, dI) cls6 b N sh M' s.heap.size) args s 0 0 (reg b N s.heap.size)) (F0 m 0 ls []) := by
  obtain ⟨hx, hb, hml, hr, hown, hts, hlk, hK⟩ := id G
  intro x1 x2 x3 x4 M ls hP hS hl h
  unfold f_B_give at h
  refine lv_aload_n hx hb d_B_give_0 rfl (lv_at hl 0 rfl) ?_
  refine wd_getr hx hb hts i_B hown hK hP 0 hI.1 hI.2.1 rfl 5 (by decide) t_91 rfl d_B_give_1 ?_
  refine lv_iload_n hx hb d_B_give_4 rfl (lv_at hl 1 rfl) ?_
  obtain ⟨hi5, h⟩ := og h
  refine wd_aald hx hb hK hP 2 2 hI.2.2.2.1.1 hI.2.2.2.1.2.1 rfl hi5 rfl d_B_give_5 ?_
  refine wd_getr hx hb hts i_C hown hK hP (4 + 21 * x1.toNatClampNeg) (hI.2.2.2.1.2.2 x1 hi5).1 (hI.2.2.2.1.2.2 x1 hi5).2.1 rfl 0 (by decide) t_95 rfl d_B_give_6 ?_
  refine lv_aload_n hx hb d_B_give_9 rfl (lv_at hl 0 rfl) ?_
  refine wd_geti hx hb hts i_B hown hK hP 0 hI.1 hI.2.1 rfl 10 (by decide) t_98 rfl d_B_give_10 ?_
  refine lv_iload_n hx hb d_B_give_13 rfl (lv_at hl 2 rfl) ?_
  refine lv_iload_n hx hb d_B_give_14 rfl (lv_at hl 3 rfl) ?_
  refine lv_iload hx hb d_B_give_15 (lv_at hl 4 rfl) ?_
  obtain ⟨q17, hc17, h⟩ := obd h
  refine wd_cvv (As := [.int (M 0 10), .int x2, .int x3, .int x4]) (rest := []) ⟨hx, hb, hml, hown, hts⟩ hK hP hS ((4 + 21 * x1.toNatClampNeg) + 1) (hI.2.2.2.1.2.2 x1 hi5).2.2.1.1 (hI.2.2.2.1.2.2 x1 hi5).2.2.1.2.1 rfl (c_R_take l ((4 + 21 * x1.toNatClampNeg) + 1) (M 0 10) x2 x3 x4 M _ (hI.2.2.2.1.2.2 x1 hi5).2.2.1 hc17) (cwV 4 hts (wmV t_99 t_101 t_102 t_13 t_100) rfl rfl rfl (by decide +kernel) ⟨by decide, by decide⟩) rfl hl.1 rfl (Nat.le_of_ble_eq_true rfl) d_B_give_17 ⟨Nat.zero_le _, Nat.zero_le _⟩ (fun H locs hP hS => ?_)
  refine lv_aload_n hx hb d_B_give_20 rfl (lv_at hl 0 rfl) ?_
  refine wd_getr hx hb hts i_B hown hK hP 0 hI.1 hI.2.1 rfl 7 (by decide) t_103 rfl d_B_give_21 ?_
  refine lv_iload_n hx hb d_B_give_24 rfl (lv_at hl 1 rfl) ?_
  refine lv_aload_n hx hb d_B_give_25 rfl (lv_at hl 0 rfl) ?_
  refine wd_geti hx hb hts i_B hown hK hP 0 hI.1 hI.2.1 rfl 10 (by decide) t_98 rfl d_B_give_26 ?_
  refine lv_iload_n hx hb d_B_give_29 rfl (lv_at hl 2 rfl) ?_
  refine lv_iload_n hx hb d_B_give_30 rfl (lv_at hl 3 rfl) ?_
  refine lv_iload hx hb d_B_give_31 (lv_at hl 4 rfl) ?_
  obtain ⟨q33, hc33, h⟩ := obd h
  refine wd_cvv (As := [.int x1, .int (q17 0 10), .int x2, .int x3, .int x4]) (rest := []) ⟨hx, hb, hml, hown, hts⟩ hK hP hS (4 + 21 * C) hI.2.2.2.2.2.1.1 hI.2.2.2.2.2.1.2.1 rfl (c_G_add l (4 + 21 * C) x1 (q17 0 10) x2 x3 x4 q17 _ hI.2.2.2.2.2.1 hc33) (cwV 5 hts (wmV t_104 t_106 t_107 t_45 t_105) rfl rfl rfl (by decide +kernel) ⟨by decide, by decide⟩) rfl hl.1 rfl (Nat.le_of_ble_eq_true rfl) d_B_give_33 ⟨Nat.zero_le _, Nat.zero_le _⟩ (fun H locs hP hS => ?_)
  obtain rfl := oe h
  exact wd_vret hx hb hr hlk hP hS d_B_give_36
theorem c_B_give (l : Launch) (x1 x2 x3 x4 : Int32) (M : Mm) (sz : Nat) (hI : Is_B dA b N sh B C 0) {M' : Mm} (h : f_B_give B C x1 x2 x3 x4 M = some M') : Met l y_B_give (wm y_B_give k_B_give 5 none) rm_B_give (Pw (dC, dI) cls6 (tyl dA) b N sh [.ref (b + 0), .int x1, .int x2, .int x3, .int x4] M sz) (Qwv (dC, dI) cls6 b N sh M' sz) 0 0 (reg b N sz) := by
  refine mk_met (by decide) (Nat.le_of_ble_eq_true rfl) ?_
  intro p e s m below meth c ls G hsz hP hS hl
  subst hsz
  exact w_B_give_0 G hI _ _ _ _ _ ls hP hS hl h
end
abbrev rm_B_refresh : Room := { frames := 3, cells := 0, slots := 0, locals := 71 }
def B_B_refresh_50 (B C : Nat) (M : Mm) : Option (Mm) := some M
def f_B_refresh (B C : Nat) (x1 : Int32) (M : Mm) : Option (Mm) := (if ixb x1 C = true then (f_R_anyOpen B C ((4 + 21 * x1.toNatClampNeg) + 1) M).bind (fun q13 => (if q13 = 0 then (f_R_brokenTime B C ((4 + 21 * x1.toNatClampNeg) + 1) (M 0 10) 4 0 M).bind (fun q60 => (if q60 = (-1) then (f_B_give B C x1 4 0 0 M).bind (fun q72 => bnd (up2 q72 (4 + 21 * x1.toNatClampNeg) 3 0) (fun M77 => some M77)) else some M)) else (f_R_lowestToClose B C ((4 + 21 * x1.toNatClampNeg) + 1) (M 0 10) M).bind (fun q24 => (if q24 = (-1) then B_B_refresh_50 B C M else (if ixb q24 B = true then (f_B_give B C x1 3 q24 (M (((4 + 21 * x1.toNatClampNeg) + 1) + 1) q24.toNatClampNeg) M).bind (fun q47 => B_B_refresh_50 B C q47) else none))))) else none)
section
variable {p : Program} {l : Launch} {e : Env} {s : State} {m : MethodId} {args : Array Value} {below : List Frame} {meth : Method} {c : Code} {dC : Nat → ClassId} {dI : Nat → Nat → Nat} {dA : Nat → ClassId} {b N B C : Nat} {sh : Shp}
set_option maxHeartbeats 4000000 in
set_option maxRecDepth 100000 in
theorem w_B_refresh_50 {M' : Mm} (G : Cx p s m args meth c (dC, dI) cls6 (tyl dA) "BankTimes" k_B_refresh 5 none) (hI : Is_B dA b N sh B C 0)   : ∀ (M : Mm) (H : Heap) (locs : List Loc) (ls : Array Slot), va_P (dC, dI) cls6 (wd b N sh M) H → va_S (reg b N s.heap.size) s.heap H locs → lv_has ls 5 [] → B_B_refresh_50 B C M = some M' → W p l e rm_B_refresh s m args below meth c H locs 0 0 (MQ below (Qwv (dC, dI) cls6 b N sh M' s.heap.size) args s 0 0 (reg b N s.heap.size)) (F0 m 50 ls []) := by
  obtain ⟨hx, hb, hml, hr, hown, hts, hlk, hK⟩ := id G
  intro M H locs ls hP hS hl h
  unfold B_B_refresh_50 at h
  refine lv_goto (tgt := 80) hx hb d_B_refresh_50 (by decide) ?_
  obtain rfl := oe h
  exact wd_vret hx hb hr hlk hP hS d_B_refresh_80
set_option maxHeartbeats 4000000 in
set_option maxRecDepth 100000 in
theorem w_B_refresh_0 {M' : Mm} (G : Cx p s m args meth c (dC, dI) cls6 (tyl dA) "BankTimes" k_B_refresh 5 none) (hI : Is_B dA b N sh B C 0)   : ∀ (x1 : Int32) (M : Mm) (ls : Array Slot), va_P (dC, dI) cls6 (wd b N sh M) s.heap → va_S (reg b N s.heap.size) s.heap s.heap [] → lv_has ls 5 [(0, .ref (b + 0)), (1, .int x1)] → f_B_refresh B C x1 M = some M' → W p l e rm_B_refresh s m args below meth c s.heap [] 0 0 (MQ below (Qwv (dC, dI) cls6 b N sh M' s.heap.size) args s 0 0 (reg b N s.heap.size)) (F0 m 0 ls []) := by
  obtain ⟨hx, hb, hml, hr, hown, hts, hlk, hK⟩ := id G
  intro x1 M ls hP hS hl h
  unfold f_B_refresh at h
  refine lv_aload_n hx hb d_B_refresh_0 rfl (lv_at hl 0 rfl) ?_
  refine wd_getr hx hb hts i_B hown hK hP 0 hI.1 hI.2.1 rfl 5 (by decide) t_91 rfl d_B_refresh_1 ?_
  refine lv_iload_n hx hb d_B_refresh_4 rfl (lv_at hl 1 rfl) ?_
  obtain ⟨hi5, h⟩ := og h
  refine wd_aald hx hb hK hP 2 2 hI.2.2.2.1.1 hI.2.2.2.1.2.1 rfl hi5 rfl d_B_refresh_5 ?_
  refine lv_astore_n (lv' := [(2, .ref (b + (4 + 21 * x1.toNatClampNeg))), (0, .ref (b + 0)), (1, .int x1)]) hx hb d_B_refresh_6 rfl hl (by decide) rfl (fun ls hl => ?_)
  refine lv_aload_n hx hb d_B_refresh_7 rfl (lv_at hl 0 rfl) ?_
  refine wd_getr hx hb hts i_C hown hK hP (4 + 21 * x1.toNatClampNeg) (hI.2.2.2.1.2.2 x1 hi5).1 (hI.2.2.2.1.2.2 x1 hi5).2.1 rfl 0 (by decide) t_95 rfl d_B_refresh_8 ?_
  refine lv_astore_n (lv' := [(3, .ref (b + ((4 + 21 * x1.toNatClampNeg) + 1))), (2, .ref (b + (4 + 21 * x1.toNatClampNeg))), (0, .ref (b + 0)), (1, .int x1)]) hx hb d_B_refresh_11 rfl hl (by decide) rfl (fun ls hl => ?_)
  refine lv_aload_n hx hb d_B_refresh_12 rfl (lv_at hl 0 rfl) ?_
  obtain ⟨q13, hc13, h⟩ := obd h
  refine wd_cvr (As := []) (rest := []) ⟨hx, hb, hml, hown, hts⟩ hK hP ((4 + 21 * x1.toNatClampNeg) + 1) (hI.2.2.2.1.2.2 x1 hi5).2.2.1.1 (hI.2.2.2.1.2.2 x1 hi5).2.2.1.2.1 rfl (c_R_anyOpen l ((4 + 21 * x1.toNatClampNeg) + 1) M _ (hI.2.2.2.1.2.2 x1 hi5).2.2.1 hc13) (cwV 0 hts (wmV t_96 t_21 t_22 t_13 t_20) rfl rfl rfl (by decide +kernel) ⟨by decide, by decide⟩) rfl hl.1 rfl (Nat.le_of_ble_eq_true rfl) d_B_refresh_13 ⟨Nat.zero_le _, Nat.zero_le _⟩ ?_
  refine lv_if_eq (tgt := 53) hx hb d_B_refresh_16 (by decide) (fun c16 => ?_) (fun c16 => ?_)
  · replace h := ogt c16 h
    refine lv_aload_n hx hb d_B_refresh_53 rfl (lv_at hl 0 rfl) ?_
    refine lv_aload_n hx hb d_B_refresh_54 rfl (lv_at hl 2 rfl) ?_
    refine wd_geti hx hb hts i_B hown hK hP 0 hI.1 hI.2.1 rfl 10 (by decide) t_98 rfl d_B_refresh_55 ?_
    refine lv_iconst (v := 4) hx hb d_B_refresh_58 (by decide) ?_
    refine lv_iconst (v := 0) hx hb d_B_refresh_59 (by decide) ?_
    obtain ⟨q60, hc60, h⟩ := obd h
    refine wd_cvr (As := [.int (M 0 10), .int 4, .int 0]) (rest := []) ⟨hx, hb, hml, hown, hts⟩ hK hP ((4 + 21 * x1.toNatClampNeg) + 1) (hI.2.2.2.1.2.2 x1 hi5).2.2.1.1 (hI.2.2.2.1.2.2 x1 hi5).2.2.1.2.1 rfl (c_R_brokenTime l ((4 + 21 * x1.toNatClampNeg) + 1) (M 0 10) 4 0 M _ (hI.2.2.2.1.2.2 x1 hi5).2.2.1 hc60) (cwV 3 hts (wmV t_108 t_17 t_18 t_13 t_16) rfl rfl rfl (by decide +kernel) ⟨by decide, by decide⟩) rfl hl.1 rfl (Nat.le_of_ble_eq_true rfl) d_B_refresh_60 ⟨Nat.zero_le _, Nat.zero_le _⟩ ?_
    refine lv_iconst (v := (-1)) hx hb d_B_refresh_63 (by decide) ?_
    refine lv_icmp_ne (tgt := 80) hx hb d_B_refresh_64 (by decide) (fun c64 => ?_) (fun c64 => ?_)
    · replace h := ogf c64 h
      obtain rfl := oe h
      exact wd_vret hx hb hr hlk hP hS d_B_refresh_80
    · replace h := ogt c64 h
      refine lv_aload_n hx hb d_B_refresh_67 rfl (lv_at hl 2 rfl) ?_
      refine lv_iload_n hx hb d_B_refresh_68 rfl (lv_at hl 3 rfl) ?_
      refine lv_iconst (v := 4) hx hb d_B_refresh_69 (by decide) ?_
      refine lv_iconst (v := 0) hx hb d_B_refresh_70 (by decide) ?_
      refine lv_iconst (v := 0) hx hb d_B_refresh_71 (by decide) ?_
      obtain ⟨q72, hc72, h⟩ := obd h
      refine wd_cvv (As := [.int x1, .int 4, .int 0, .int 0]) (rest := []) ⟨hx, hb, hml, hown, hts⟩ hK hP hS 0 hI.1 hI.2.1 rfl (c_B_give l x1 4 0 0 M _ hI hc72) (cwV 4 hts (wmV t_109 t_111 t_112 t_113 t_110) rfl rfl rfl (by decide +kernel) ⟨by decide, by decide⟩) rfl hl.1 rfl (Nat.le_of_ble_eq_true rfl) d_B_refresh_72 ⟨Nat.zero_le _, Nat.zero_le _⟩ (fun H locs hP hS => ?_)
      refine lv_aload_n hx hb d_B_refresh_75 rfl (lv_at hl 1 rfl) ?_
      refine lv_iconst (v := 0) hx hb d_B_refresh_76 (by decide) ?_
      obtain ⟨M77, eM77, h⟩ := ln h
      refine wd_puti hx hb hts i_C ty_C tyok_C nm_C hown hK hP hS (4 + 21 * x1.toNatClampNeg) (hI.2.2.2.1.2.2 x1 hi5).1 (hI.2.2.2.1.2.2 x1 hi5).2.1 rfl 3 (by decide) t_97 rfl rfl (ty := .boolean) (by decide +kernel) rfl rfl d_B_refresh_77 (fun H locs hP hS => ?_)
      rw [← eM77] at hP
      obtain rfl := oe h
      exact wd_vret hx hb hr hlk hP hS d_B_refresh_80
  · replace h := ogf c16 h
    refine lv_aload_n hx hb d_B_refresh_19 rfl (lv_at hl 0 rfl) ?_
    refine lv_aload_n hx hb d_B_refresh_20 rfl (lv_at hl 2 rfl) ?_
    refine wd_geti hx hb hts i_B hown hK hP 0 hI.1 hI.2.1 rfl 10 (by decide) t_98 rfl d_B_refresh_21 ?_
    obtain ⟨q24, hc24, h⟩ := obd h
    refine wd_cvr (As := [.int (M 0 10)]) (rest := []) ⟨hx, hb, hml, hown, hts⟩ hK hP ((4 + 21 * x1.toNatClampNeg) + 1) (hI.2.2.2.1.2.2 x1 hi5).2.2.1.1 (hI.2.2.2.1.2.2 x1 hi5).2.2.1.2.1 rfl (c_R_lowestToClose l ((4 + 21 * x1.toNatClampNeg) + 1) (M 0 10) M _ (hI.2.2.2.1.2.2 x1 hi5).2.2.1 hc24) (cwV 1 hts (wmV t_114 t_116 t_117 t_13 t_115) rfl rfl rfl (by decide +kernel) ⟨by decide, by decide⟩) rfl hl.1 rfl (Nat.le_of_ble_eq_true rfl) d_B_refresh_24 ⟨Nat.zero_le _, Nat.zero_le _⟩ ?_
    refine lv_istore (lv' := [(4, .int q24), (3, .ref (b + ((4 + 21 * x1.toNatClampNeg) + 1))), (2, .ref (b + (4 + 21 * x1.toNatClampNeg))), (0, .ref (b + 0)), (1, .int x1)]) hx hb d_B_refresh_27 hl (by decide) rfl (fun ls hl => ?_)
    refine lv_iload hx hb d_B_refresh_29 (lv_at hl 0 rfl) ?_
    refine lv_iconst (v := (-1)) hx hb d_B_refresh_31 (by decide) ?_
    refine lv_icmp_eq (tgt := 50) hx hb d_B_refresh_32 (by decide) (fun c32 => ?_) (fun c32 => ?_)
    · replace h := ogt c32 h
      exact w_B_refresh_50 G hI  M _ _ _ hP hS (lv_sub hl [] rfl) h
    · replace h := ogf c32 h
      refine lv_aload_n hx hb d_B_refresh_35 rfl (lv_at hl 3 rfl) ?_
      refine lv_iload_n hx hb d_B_refresh_36 rfl (lv_at hl 4 rfl) ?_
      refine lv_iconst (v := 3) hx hb d_B_refresh_37 (by decide) ?_
      refine lv_iload hx hb d_B_refresh_38 (lv_at hl 0 rfl) ?_
      refine lv_aload_n hx hb d_B_refresh_40 rfl (lv_at hl 1 rfl) ?_
      refine wd_getr hx hb hts i_R hown hK hP ((4 + 21 * x1.toNatClampNeg) + 1) (hI.2.2.2.1.2.2 x1 hi5).2.2.1.1 (hI.2.2.2.1.2.2 x1 hi5).2.2.1.2.1 rfl 1 (by decide) t_118 rfl d_B_refresh_41 ?_
      refine lv_iload hx hb d_B_refresh_44 (lv_at hl 0 rfl) ?_
      obtain ⟨hi46, h⟩ := og h
      refine wd_iald hx hb hK hP (((4 + 21 * x1.toNatClampNeg) + 1) + 1) 0 (hI.2.2.2.1.2.2 x1 hi5).2.2.1.2.2.2.1.1 (hI.2.2.2.1.2.2 x1 hi5).2.2.1.2.2.2.1.2 rfl hi46 d_B_refresh_46 ?_
      obtain ⟨q47, hc47, h⟩ := obd h
      refine wd_cvv (As := [.int x1, .int 3, .int q24, .int (M (((4 + 21 * x1.toNatClampNeg) + 1) + 1) q24.toNatClampNeg)]) (rest := []) ⟨hx, hb, hml, hown, hts⟩ hK hP hS 0 hI.1 hI.2.1 rfl (c_B_give l x1 3 q24 (M (((4 + 21 * x1.toNatClampNeg) + 1) + 1) q24.toNatClampNeg) M _ hI hc47) (cwV 4 hts (wmV t_109 t_111 t_112 t_113 t_110) rfl rfl rfl (by decide +kernel) ⟨by decide, by decide⟩) rfl hl.1 rfl (Nat.le_of_ble_eq_true rfl) d_B_refresh_47 ⟨Nat.zero_le _, Nat.zero_le _⟩ (fun H locs hP hS => ?_)
      exact w_B_refresh_50 G hI  q47 _ _ _ hP hS (lv_sub hl [] rfl) h
theorem c_B_refresh (l : Launch) (x1 : Int32) (M : Mm) (sz : Nat) (hI : Is_B dA b N sh B C 0) {M' : Mm} (h : f_B_refresh B C x1 M = some M') : Met l y_B_refresh (wm y_B_refresh k_B_refresh 5 none) rm_B_refresh (Pw (dC, dI) cls6 (tyl dA) b N sh [.ref (b + 0), .int x1] M sz) (Qwv (dC, dI) cls6 b N sh M' sz) 0 0 (reg b N sz) := by
  refine mk_met (by decide) (Nat.le_of_ble_eq_true rfl) ?_
  intro p e s m below meth c ls G hsz hP hS hl
  subst hsz
  exact w_B_refresh_0 G hI _ _ ls hP hS hl h
end
abbrev rm_B_serve : Room := { frames := 3, cells := 0, slots := 0, locals := 71 }
def B_B_serve_82 (B C : Nat) (j4 : Nat) (x2 : Int32) (M : Mm) : Option (Mm) := (if ixb x2 8 = true then (if ixb (M (j4 + 1) x2.toNatClampNeg) 512 = true then bnd (up2 M (7 + 21 * C) (M (j4 + 1) x2.toNatClampNeg).toNatClampNeg (M 0 10)) (fun M97 => (if ixb x2 8 = true then bnd (up2 M97 0 13 ((M97 0 13) + ((M97 0 10) - (M97 (j4 + 2) x2.toNatClampNeg)))) (fun M116 => bnd (up2 M116 0 12 ((M116 0 12) + 1)) (fun M126 => (f_Q_removeAt B C j4 x2 M126).bind (fun q132 => some q132))) else none)) else none) else none)
def B_B_serve_67 (B C : Nat) (j4 : Nat) (x2 x5 s1 s2 s3 s4 : Int32) (M : Mm) : Option (Mm) := (f_B_give B C s1 s2 s3 s4 M).bind (fun q67 => (if x5 = 1 then B_B_serve_82 B C j4 x2 q67 else (if x5 = 2 then B_B_serve_82 B C j4 x2 q67 else some q67)))
def f_B_serve (B C : Nat) (x1 x2 : Int32) (M : Mm) : Option (Mm) := (if ixb x1 C = true then (f_C_nextKind B C (4 + 21 * x1.toNatClampNeg) x2 M).bind (fun q15 => (if ixb x2 8 = true then bnd (M (((4 + 21 * x1.toNatClampNeg) + 8) + 3) x2.toNatClampNeg) (fun v27 => bnd (up2 M (4 + 21 * x1.toNatClampNeg) 4 v27) (fun M32 => (if q15 = 3 then (if ixb v27 B = true then B_B_serve_67 B C ((4 + 21 * x1.toNatClampNeg) + 8) x2 q15 x1 q15 v27 (M32 (((4 + 21 * x1.toNatClampNeg) + 1) + 1) v27.toNatClampNeg) M32 else none) else (if ixb x2 8 = true then B_B_serve_67 B C ((4 + 21 * x1.toNatClampNeg) + 8) x2 q15 x1 q15 v27 (M32 (((4 + 21 * x1.toNatClampNeg) + 8) + 4) x2.toNatClampNeg) M32 else none)))) else none)) else none)
section
variable {p : Program} {l : Launch} {e : Env} {s : State} {m : MethodId} {args : Array Value} {below : List Frame} {meth : Method} {c : Code} {dC : Nat → ClassId} {dI : Nat → Nat → Nat} {dA : Nat → ClassId} {b N B C : Nat} {sh : Shp}
set_option maxHeartbeats 4000000 in
set_option maxRecDepth 100000 in
theorem w_B_serve_82 {j4 : Nat} {M' : Mm} (G : Cx p s m args meth c (dC, dI) cls6 (tyl dA) "BankTimes" k_B_serve 7 none) (hI : Is_B dA b N sh B C 0)  (hj4 : Is_Q dA b N sh B C j4)  : ∀ (x2 : Int32) (M : Mm) (H : Heap) (locs : List Loc) (ls : Array Slot), va_P (dC, dI) cls6 (wd b N sh M) H → va_S (reg b N s.heap.size) s.heap H locs → lv_has ls 7 [(0, .ref (b + 0)), (2, .int x2), (4, .ref (b + j4))] → B_B_serve_82 B C j4 x2 M = some M' → W p l e rm_B_serve s m args below meth c H locs 0 0 (MQ below (Qwv (dC, dI) cls6 b N sh M' s.heap.size) args s 0 0 (reg b N s.heap.size)) (F0 m 82 ls []) := by
  obtain ⟨hx, hb, hml, hr, hown, hts, hlk, hK⟩ := id G
  intro x2 M H locs ls hP hS hl h
  unfold B_B_serve_82 at h
  refine lv_aload_n hx hb d_B_serve_82 rfl (lv_at hl 0 rfl) ?_
  refine wd_getr hx hb hts i_B hown hK hP 0 hI.1 hI.2.1 rfl 8 (by decide) t_124 rfl d_B_serve_83 ?_
  refine lv_aload hx hb d_B_serve_86 (lv_at hl 2 rfl) ?_
  refine wd_getr hx hb hts i_Q hown hK hP j4 hj4.1 hj4.2.1 rfl 0 (by decide) t_125 rfl d_B_serve_88 ?_
  refine lv_iload_n hx hb d_B_serve_91 rfl (lv_at hl 1 rfl) ?_
  obtain ⟨hi92, h⟩ := og h
  refine wd_iald hx hb hK hP (j4 + 1) 0 hj4.2.2.1.1 hj4.2.2.1.2 rfl hi92 d_B_serve_92 ?_
  refine lv_aload_n hx hb d_B_serve_93 rfl (lv_at hl 0 rfl) ?_
  refine wd_geti hx hb hts i_B hown hK hP 0 hI.1 hI.2.1 rfl 10 (by decide) t_98 rfl d_B_serve_94 ?_
  obtain ⟨hi97, h⟩ := og h
  obtain ⟨M97, eM97, h⟩ := ln h
  refine wd_iast hx hb hK hP hS (7 + 21 * C) 0 hI.2.2.2.2.2.2.1 hI.2.2.2.2.2.2.2 rfl hi97 d_B_serve_97 (fun H locs hP hS => ?_)
  rw [← eM97] at hP
  refine lv_aload_n hx hb d_B_serve_98 rfl (lv_at hl 0 rfl) ?_
  refine lv_dup hx hb d_B_serve_99 rfl ?_
  refine wd_geti hx hb hts i_B hown hK hP 0 hI.1 hI.2.1 rfl 13 (by decide) t_126 rfl d_B_serve_100 ?_
  refine lv_aload_n hx hb d_B_serve_103 rfl (lv_at hl 0 rfl) ?_
  refine wd_geti hx hb hts i_B hown hK hP 0 hI.1 hI.2.1 rfl 10 (by decide) t_98 rfl d_B_serve_104 ?_
  refine lv_aload hx hb d_B_serve_107 (lv_at hl 2 rfl) ?_
  refine wd_getr hx hb hts i_Q hown hK hP j4 hj4.1 hj4.2.1 rfl 1 (by decide) t_127 rfl d_B_serve_109 ?_
  refine lv_iload_n hx hb d_B_serve_112 rfl (lv_at hl 1 rfl) ?_
  obtain ⟨hi113, h⟩ := og h
  refine wd_iald hx hb hK hP (j4 + 2) 0 hj4.2.2.2.1.1 hj4.2.2.2.1.2 rfl hi113 d_B_serve_113 ?_
  refine lv_isub hx hb d_B_serve_114 ?_
  refine lv_iadd hx hb d_B_serve_115 ?_
  obtain ⟨M116, eM116, h⟩ := ln h
  refine wd_puti hx hb hts i_B ty_B tyok_B nm_B hown hK hP hS 0 hI.1 hI.2.1 rfl 13 (by decide) t_126 rfl rfl (ty := .int) (by decide +kernel) rfl rfl d_B_serve_116 (fun H locs hP hS => ?_)
  rw [← eM116] at hP
  refine lv_aload_n hx hb d_B_serve_119 rfl (lv_at hl 0 rfl) ?_
  refine lv_dup hx hb d_B_serve_120 rfl ?_
  refine wd_geti hx hb hts i_B hown hK hP 0 hI.1 hI.2.1 rfl 12 (by decide) t_128 rfl d_B_serve_121 ?_
  refine lv_iconst (v := 1) hx hb d_B_serve_124 (by decide) ?_
  refine lv_iadd hx hb d_B_serve_125 ?_
  obtain ⟨M126, eM126, h⟩ := ln h
  refine wd_puti hx hb hts i_B ty_B tyok_B nm_B hown hK hP hS 0 hI.1 hI.2.1 rfl 12 (by decide) t_128 rfl rfl (ty := .int) (by decide +kernel) rfl rfl d_B_serve_126 (fun H locs hP hS => ?_)
  rw [← eM126] at hP
  refine lv_aload hx hb d_B_serve_129 (lv_at hl 2 rfl) ?_
  refine lv_iload_n hx hb d_B_serve_131 rfl (lv_at hl 1 rfl) ?_
  obtain ⟨q132, hc132, h⟩ := obd h
  refine wd_cvv (As := [.int x2]) (rest := []) ⟨hx, hb, hml, hown, hts⟩ hK hP hS j4 hj4.1 hj4.2.1 rfl (c_Q_removeAt l j4 x2 M126 _ hj4 hc132) (cwV 1 hts (wmV t_129 t_131 t_132 t_80 t_130) rfl rfl rfl (by decide +kernel) ⟨by decide, by decide⟩) rfl hl.1 rfl (Nat.le_of_ble_eq_true rfl) d_B_serve_132 ⟨Nat.zero_le _, Nat.zero_le _⟩ (fun H locs hP hS => ?_)
  obtain rfl := oe h
  exact wd_vret hx hb hr hlk hP hS d_B_serve_135
set_option maxHeartbeats 4000000 in
set_option maxRecDepth 100000 in
theorem w_B_serve_67 {j4 : Nat} {M' : Mm} (G : Cx p s m args meth c (dC, dI) cls6 (tyl dA) "BankTimes" k_B_serve 7 none) (hI : Is_B dA b N sh B C 0)  (hj4 : Is_Q dA b N sh B C j4)  : ∀ (x2 x5 s1 s2 s3 s4 : Int32) (M : Mm) (H : Heap) (locs : List Loc) (ls : Array Slot), va_P (dC, dI) cls6 (wd b N sh M) H → va_S (reg b N s.heap.size) s.heap H locs → lv_has ls 7 [(0, .ref (b + 0)), (2, .int x2), (4, .ref (b + j4)), (5, .int x5)] → B_B_serve_67 B C j4 x2 x5 s1 s2 s3 s4 M = some M' → W p l e rm_B_serve s m args below meth c H locs 0 0 (MQ below (Qwv (dC, dI) cls6 b N sh M' s.heap.size) args s 0 0 (reg b N s.heap.size)) (F0 m 67 ls [.int s4, .int s3, .int s2, .int s1, .ref (b + 0)]) := by
  obtain ⟨hx, hb, hml, hr, hown, hts, hlk, hK⟩ := id G
  intro x2 x5 s1 s2 s3 s4 M H locs ls hP hS hl h
  unfold B_B_serve_67 at h
  obtain ⟨q67, hc67, h⟩ := obd h
  refine wd_cvv (As := [.int s1, .int s2, .int s3, .int s4]) (rest := []) ⟨hx, hb, hml, hown, hts⟩ hK hP hS 0 hI.1 hI.2.1 rfl (c_B_give l s1 s2 s3 s4 M _ hI hc67) (cwV 4 hts (wmV t_109 t_111 t_112 t_113 t_110) rfl rfl rfl (by decide +kernel) ⟨by decide, by decide⟩) rfl hl.1 rfl (Nat.le_of_ble_eq_true rfl) d_B_serve_67 ⟨Nat.zero_le _, Nat.zero_le _⟩ (fun H locs hP hS => ?_)
  refine lv_iload hx hb d_B_serve_70 (lv_at hl 3 rfl) ?_
  refine lv_iconst (v := 1) hx hb d_B_serve_72 (by decide) ?_
  refine lv_icmp_eq (tgt := 82) hx hb d_B_serve_73 (by decide) (fun c73 => ?_) (fun c73 => ?_)
  · replace h := ogt c73 h
    exact w_B_serve_82 G hI hj4  x2 q67 _ _ _ hP hS (lv_sub hl [0, 1, 2] rfl) h
  · replace h := ogf c73 h
    refine lv_iload hx hb d_B_serve_76 (lv_at hl 3 rfl) ?_
    refine lv_iconst (v := 2) hx hb d_B_serve_78 (by decide) ?_
    refine lv_icmp_ne (tgt := 135) hx hb d_B_serve_79 (by decide) (fun c79 => ?_) (fun c79 => ?_)
    · replace h := ogf c79 h
      obtain rfl := oe h
      exact wd_vret hx hb hr hlk hP hS d_B_serve_135
    · replace h := ogt c79 h
      exact w_B_serve_82 G hI hj4  x2 q67 _ _ _ hP hS (lv_sub hl [0, 1, 2] rfl) h
set_option maxHeartbeats 4000000 in
set_option maxRecDepth 100000 in
theorem w_B_serve_0 {M' : Mm} (G : Cx p s m args meth c (dC, dI) cls6 (tyl dA) "BankTimes" k_B_serve 7 none) (hI : Is_B dA b N sh B C 0)   : ∀ (x1 x2 : Int32) (M : Mm) (ls : Array Slot), va_P (dC, dI) cls6 (wd b N sh M) s.heap → va_S (reg b N s.heap.size) s.heap s.heap [] → lv_has ls 7 [(0, .ref (b + 0)), (1, .int x1), (2, .int x2)] → f_B_serve B C x1 x2 M = some M' → W p l e rm_B_serve s m args below meth c s.heap [] 0 0 (MQ below (Qwv (dC, dI) cls6 b N sh M' s.heap.size) args s 0 0 (reg b N s.heap.size)) (F0 m 0 ls []) := by
  obtain ⟨hx, hb, hml, hr, hown, hts, hlk, hK⟩ := id G
  intro x1 x2 M ls hP hS hl h
  unfold f_B_serve at h
  refine lv_aload_n hx hb d_B_serve_0 rfl (lv_at hl 0 rfl) ?_
  refine wd_getr hx hb hts i_B hown hK hP 0 hI.1 hI.2.1 rfl 5 (by decide) t_91 rfl d_B_serve_1 ?_
  refine lv_iload_n hx hb d_B_serve_4 rfl (lv_at hl 1 rfl) ?_
  obtain ⟨hi5, h⟩ := og h
  refine wd_aald hx hb hK hP 2 2 hI.2.2.2.1.1 hI.2.2.2.1.2.1 rfl hi5 rfl d_B_serve_5 ?_
  refine lv_astore_n (lv' := [(3, .ref (b + (4 + 21 * x1.toNatClampNeg))), (0, .ref (b + 0)), (1, .int x1), (2, .int x2)]) hx hb d_B_serve_6 rfl hl (by decide) rfl (fun ls hl => ?_)
  refine lv_aload_n hx hb d_B_serve_7 rfl (lv_at hl 0 rfl) ?_
  refine wd_getr hx hb hts i_C hown hK hP (4 + 21 * x1.toNatClampNeg) (hI.2.2.2.1.2.2 x1 hi5).1 (hI.2.2.2.1.2.2 x1 hi5).2.1 rfl 1 (by decide) t_119 rfl d_B_serve_8 ?_
  refine lv_astore (lv' := [(4, .ref (b + ((4 + 21 * x1.toNatClampNeg) + 8))), (3, .ref (b + (4 + 21 * x1.toNatClampNeg))), (0, .ref (b + 0)), (1, .int x1), (2, .int x2)]) hx hb d_B_serve_11 hl (by decide) rfl (fun ls hl => ?_)
  refine lv_aload_n hx hb d_B_serve_13 rfl (lv_at hl 1 rfl) ?_
  refine lv_iload_n hx hb d_B_serve_14 rfl (lv_at hl 4 rfl) ?_
  obtain ⟨q15, hc15, h⟩ := obd h
  refine wd_cvr (As := [.int x2]) (rest := []) ⟨hx, hb, hml, hown, hts⟩ hK hP (4 + 21 * x1.toNatClampNeg) (hI.2.2.2.1.2.2 x1 hi5).1 (hI.2.2.2.1.2.2 x1 hi5).2.1 rfl (c_C_nextKind l (4 + 21 * x1.toNatClampNeg) x2 M _ (hI.2.2.2.1.2.2 x1 hi5) hc15) (cwV 1 hts (wmV t_120 t_57 t_58 t_59 t_56) rfl rfl rfl (by decide +kernel) ⟨by decide, by decide⟩) rfl hl.1 rfl (Nat.le_of_ble_eq_true rfl) d_B_serve_15 ⟨Nat.zero_le _, Nat.zero_le _⟩ ?_
  refine lv_istore (lv' := [(5, .int q15), (4, .ref (b + ((4 + 21 * x1.toNatClampNeg) + 8))), (3, .ref (b + (4 + 21 * x1.toNatClampNeg))), (0, .ref (b + 0)), (1, .int x1), (2, .int x2)]) hx hb d_B_serve_18 hl (by decide) rfl (fun ls hl => ?_)
  refine lv_aload hx hb d_B_serve_20 (lv_at hl 1 rfl) ?_
  refine wd_getr hx hb hts i_Q hown hK hP ((4 + 21 * x1.toNatClampNeg) + 8) (hI.2.2.2.1.2.2 x1 hi5).2.2.2.1 (hI.2.2.2.1.2.2 x1 hi5).2.2.2.2.1 rfl 2 (by decide) t_121 rfl d_B_serve_22 ?_
  refine lv_iload_n hx hb d_B_serve_25 rfl (lv_at hl 5 rfl) ?_
  obtain ⟨hi26, h⟩ := og h
  refine wd_iald hx hb hK hP (((4 + 21 * x1.toNatClampNeg) + 8) + 3) 0 (hI.2.2.2.1.2.2 x1 hi5).2.2.2.2.2.2.2.1.1 (hI.2.2.2.1.2.2 x1 hi5).2.2.2.2.2.2.2.1.2 rfl hi26 d_B_serve_26 ?_
  obtain ⟨v27, e27, h⟩ := ln h
  refine lv_nm e27 ?_
  refine lv_istore (lv' := [(6, .int v27), (5, .int q15), (4, .ref (b + ((4 + 21 * x1.toNatClampNeg) + 8))), (3, .ref (b + (4 + 21 * x1.toNatClampNeg))), (0, .ref (b + 0)), (1, .int x1), (2, .int x2)]) hx hb d_B_serve_27 hl (by decide) rfl (fun ls hl => ?_)
  refine lv_aload_n hx hb d_B_serve_29 rfl (lv_at hl 3 rfl) ?_
  refine lv_iload hx hb d_B_serve_30 (lv_at hl 0 rfl) ?_
  obtain ⟨M32, eM32, h⟩ := ln h
  refine wd_puti hx hb hts i_C ty_C tyok_C nm_C hown hK hP hS (4 + 21 * x1.toNatClampNeg) (hI.2.2.2.1.2.2 x1 hi5).1 (hI.2.2.2.1.2.2 x1 hi5).2.1 rfl 4 (by decide) t_122 rfl rfl (ty := .int) (by decide +kernel) rfl rfl d_B_serve_32 (fun H locs hP hS => ?_)
  rw [← eM32] at hP
  refine lv_aload_n hx hb d_B_serve_35 rfl (lv_at hl 4 rfl) ?_
  refine lv_iload_n hx hb d_B_serve_36 rfl (lv_at hl 5 rfl) ?_
  refine lv_iload hx hb d_B_serve_37 (lv_at hl 1 rfl) ?_
  refine lv_iload hx hb d_B_serve_39 (lv_at hl 0 rfl) ?_
  refine lv_iload hx hb d_B_serve_41 (lv_at hl 1 rfl) ?_
  refine lv_iconst (v := 3) hx hb d_B_serve_43 (by decide) ?_
  refine lv_icmp_ne (tgt := 60) hx hb d_B_serve_44 (by decide) (fun c44 => ?_) (fun c44 => ?_)
  · replace h := ogf c44 h
    refine lv_aload hx hb d_B_serve_60 (lv_at hl 2 rfl) ?_
    refine wd_getr hx hb hts i_Q hown hK hP ((4 + 21 * x1.toNatClampNeg) + 8) (hI.2.2.2.1.2.2 x1 hi5).2.2.2.1 (hI.2.2.2.1.2.2 x1 hi5).2.2.2.2.1 rfl 3 (by decide) t_123 rfl d_B_serve_62 ?_
    refine lv_iload_n hx hb d_B_serve_65 rfl (lv_at hl 6 rfl) ?_
    obtain ⟨hi66, h⟩ := og h
    refine wd_iald hx hb hK hP (((4 + 21 * x1.toNatClampNeg) + 8) + 4) 0 (hI.2.2.2.1.2.2 x1 hi5).2.2.2.2.2.2.2.2.1.1 (hI.2.2.2.1.2.2 x1 hi5).2.2.2.2.2.2.2.2.1.2 rfl hi66 d_B_serve_66 ?_
    exact w_B_serve_67 G hI ((hI.2.2.2.1.2.2 x1 hi5).2.2.2)  x2 q15 x1 q15 v27 (M32 (((4 + 21 * x1.toNatClampNeg) + 8) + 4) x2.toNatClampNeg) M32 _ _ _ hP hS (lv_sub hl [4, 6, 2, 1] rfl) h
  · replace h := ogt c44 h
    refine lv_aload_n hx hb d_B_serve_47 rfl (lv_at hl 3 rfl) ?_
    refine wd_getr hx hb hts i_C hown hK hP (4 + 21 * x1.toNatClampNeg) (hI.2.2.2.1.2.2 x1 hi5).1 (hI.2.2.2.1.2.2 x1 hi5).2.1 rfl 0 (by decide) t_95 rfl d_B_serve_48 ?_
    refine wd_getr hx hb hts i_R hown hK hP ((4 + 21 * x1.toNatClampNeg) + 1) (hI.2.2.2.1.2.2 x1 hi5).2.2.1.1 (hI.2.2.2.1.2.2 x1 hi5).2.2.1.2.1 rfl 1 (by decide) t_118 rfl d_B_serve_51 ?_
    refine lv_iload hx hb d_B_serve_54 (lv_at hl 0 rfl) ?_
    obtain ⟨hi56, h⟩ := og h
    refine wd_iald hx hb hK hP (((4 + 21 * x1.toNatClampNeg) + 1) + 1) 0 (hI.2.2.2.1.2.2 x1 hi5).2.2.1.2.2.2.1.1 (hI.2.2.2.1.2.2 x1 hi5).2.2.1.2.2.2.1.2 rfl hi56 d_B_serve_56 ?_
    refine lv_goto (tgt := 67) hx hb d_B_serve_57 (by decide) ?_
    exact w_B_serve_67 G hI ((hI.2.2.2.1.2.2 x1 hi5).2.2.2)  x2 q15 x1 q15 v27 (M32 (((4 + 21 * x1.toNatClampNeg) + 1) + 1) v27.toNatClampNeg) M32 _ _ _ hP hS (lv_sub hl [4, 6, 2, 1] rfl) h
theorem c_B_serve (l : Launch) (x1 x2 : Int32) (M : Mm) (sz : Nat) (hI : Is_B dA b N sh B C 0) {M' : Mm} (h : f_B_serve B C x1 x2 M = some M') : Met l y_B_serve (wm y_B_serve k_B_serve 7 none) rm_B_serve (Pw (dC, dI) cls6 (tyl dA) b N sh [.ref (b + 0), .int x1, .int x2] M sz) (Qwv (dC, dI) cls6 b N sh M' sz) 0 0 (reg b N sz) := by
  refine mk_met (by decide) (Nat.le_of_ble_eq_true rfl) ?_
  intro p e s m below meth c ls G hsz hP hS hl
  subst hsz
  exact w_B_serve_0 G hI _ _ _ ls hP hS hl h
end
abbrev rm_B_step : Room := { frames := 5, cells := 0, slots := 0, locals := 119 }
def B_B_step_104 (B C : Nat) (K37 : Int32 → Int32 → Mm → Option (Mm)) (x1 x2 : Int32) (M : Mm) : Option (Mm) := bnd (x2 + 1) (fun v104 => K37 x1 v104 M)
def B_B_step_62 (B C : Nat) (K37 : Int32 → Int32 → Mm → Option (Mm)) (j3 : Nat) (x1 x2 : Int32) (M : Mm) : Option (Mm) := (if (M j3 3) = 0 then (f_C_chosen B C j3 (M 0 3) (M 0 10) M).bind (fun q86 => (if q86 = (-1) then B_B_step_104 B C K37 x1 x2 M else (f_B_serve B C x2 q86 M).bind (fun q101 => B_B_step_104 B C K37 x1 x2 q101))) else (f_B_refresh B C x2 M).bind (fun q71 => B_B_step_104 B C K37 x1 x2 q71))
def B_B_step_37 (B C : Nat) : Nat → Int32 → Int32 → Mm → Option (Mm)
  | 0, _, _, _ => none
  | n + 1, x1, x2, M => (if (nI C) ≤ x2 then some M else (if ixb x2 C = true then (if x1 = 0 then B_B_step_62 B C (fun y0 y1 M => B_B_step_37 B C n y0 y1 M) (4 + 21 * x2.toNatClampNeg) x1 x2 M else bnd (up2 M (4 + 21 * x2.toNatClampNeg) 3 1) (fun M59 => B_B_step_62 B C (fun y0 y1 M => B_B_step_37 B C n y0 y1 M) (4 + 21 * x2.toNatClampNeg) x1 x2 M59)) else none))
def B_B_step_34 (B C : Nat) (s0 : Int32) (M : Mm) : Option (Mm) := B_B_step_37 B C 1200 s0 0 M
def B_B_step_33 (B C : Nat) (M : Mm) : Option (Mm) := B_B_step_34 B C 0 M
def f_B_step (B C : Nat) (M : Mm) : Option (Mm) := bnd (up2 M 0 10 ((M 0 10) + 1)) (fun M7 => (if (M7 0 9) ≤ 0 then B_B_step_33 B C M7 else (if ¬ (M7 0 9) = 0 then (if ((M7 0 10) - (M7 0 10) / (M7 0 9) * (M7 0 9)) = 0 then B_B_step_34 B C 1 M7 else B_B_step_33 B C M7) else none)))
section
variable {p : Program} {l : Launch} {e : Env} {s : State} {m : MethodId} {args : Array Value} {below : List Frame} {meth : Method} {c : Code} {dC : Nat → ClassId} {dI : Nat → Nat → Nat} {dA : Nat → ClassId} {b N B C : Nat} {sh : Shp}
set_option maxHeartbeats 4000000 in
set_option maxRecDepth 100000 in
theorem w_B_step_104 {M' : Mm} (G : Cx p s m args meth c (dC, dI) cls6 (tyl dA) "BankTimes" k_B_step 5 none) (hI : Is_B dA b N sh B C 0)  {K37 : Int32 → Int32 → Mm → Option (Mm)} (hK37 : ∀ (x1 x2 : Int32) (M : Mm) (H : Heap) (locs : List Loc) (ls : Array Slot), va_P (dC, dI) cls6 (wd b N sh M) H → va_S (reg b N s.heap.size) s.heap H locs → lv_has ls 5 [(0, .ref (b + 0)), (1, .int x1), (2, .int x2)] → K37 x1 x2 M = some M' → W p l e rm_B_step s m args below meth c H locs 0 0 (MQ below (Qwv (dC, dI) cls6 b N sh M' s.heap.size) args s 0 0 (reg b N s.heap.size)) (F0 m 37 ls []))  : ∀ (x1 x2 : Int32) (M : Mm) (H : Heap) (locs : List Loc) (ls : Array Slot), va_P (dC, dI) cls6 (wd b N sh M) H → va_S (reg b N s.heap.size) s.heap H locs → lv_has ls 5 [(0, .ref (b + 0)), (1, .int x1), (2, .int x2)] → B_B_step_104 B C K37 x1 x2 M = some M' → W p l e rm_B_step s m args below meth c H locs 0 0 (MQ below (Qwv (dC, dI) cls6 b N sh M' s.heap.size) args s 0 0 (reg b N s.heap.size)) (F0 m 104 ls []) := by
  obtain ⟨hx, hb, hml, hr, hown, hts, hlk, hK⟩ := id G
  intro x1 x2 M H locs ls hP hS hl h
  unfold B_B_step_104 at h
  obtain ⟨v104, e104, h⟩ := ln h
  refine lv_iinc (v := v104) (lv' := [(2, .int v104), (0, .ref (b + 0)), (1, .int x1)]) hx hb d_B_step_104 hl (k := 2) rfl (by rw [e104]; rfl) (by decide) rfl (fun ls hl => ?_)
  refine lv_goto (tgt := 37) hx hb d_B_step_107 (by decide) ?_
  exact hK37 x1 v104 M _ _ _ hP hS (lv_sub hl [1, 2, 0] rfl) h
set_option maxHeartbeats 4000000 in
set_option maxRecDepth 100000 in
theorem w_B_step_62 {j3 : Nat} {M' : Mm} (G : Cx p s m args meth c (dC, dI) cls6 (tyl dA) "BankTimes" k_B_step 5 none) (hI : Is_B dA b N sh B C 0)  {K37 : Int32 → Int32 → Mm → Option (Mm)} (hK37 : ∀ (x1 x2 : Int32) (M : Mm) (H : Heap) (locs : List Loc) (ls : Array Slot), va_P (dC, dI) cls6 (wd b N sh M) H → va_S (reg b N s.heap.size) s.heap H locs → lv_has ls 5 [(0, .ref (b + 0)), (1, .int x1), (2, .int x2)] → K37 x1 x2 M = some M' → W p l e rm_B_step s m args below meth c H locs 0 0 (MQ below (Qwv (dC, dI) cls6 b N sh M' s.heap.size) args s 0 0 (reg b N s.heap.size)) (F0 m 37 ls [])) (hj3 : Is_C dA b N sh B C j3)  : ∀ (x1 x2 : Int32) (M : Mm) (H : Heap) (locs : List Loc) (ls : Array Slot), va_P (dC, dI) cls6 (wd b N sh M) H → va_S (reg b N s.heap.size) s.heap H locs → lv_has ls 5 [(0, .ref (b + 0)), (1, .int x1), (2, .int x2), (3, .ref (b + j3))] → B_B_step_62 B C K37 j3 x1 x2 M = some M' → W p l e rm_B_step s m args below meth c H locs 0 0 (MQ below (Qwv (dC, dI) cls6 b N sh M' s.heap.size) args s 0 0 (reg b N s.heap.size)) (F0 m 62 ls []) := by
  obtain ⟨hx, hb, hml, hr, hown, hts, hlk, hK⟩ := id G
  intro x1 x2 M H locs ls hP hS hl h
  unfold B_B_step_62 at h
  refine lv_aload_n hx hb d_B_step_62 rfl (lv_at hl 3 rfl) ?_
  refine wd_geti hx hb hts i_C hown hK hP j3 hj3.1 hj3.2.1 rfl 3 (by decide) t_97 rfl d_B_step_63 ?_
  refine lv_if_eq (tgt := 77) hx hb d_B_step_66 (by decide) (fun c66 => ?_) (fun c66 => ?_)
  · replace h := ogt c66 h
    refine lv_aload_n hx hb d_B_step_77 rfl (lv_at hl 3 rfl) ?_
    refine lv_aload_n hx hb d_B_step_78 rfl (lv_at hl 0 rfl) ?_
    refine wd_geti hx hb hts i_B hown hK hP 0 hI.1 hI.2.1 rfl 3 (by decide) t_134 rfl d_B_step_79 ?_
    refine lv_aload_n hx hb d_B_step_82 rfl (lv_at hl 0 rfl) ?_
    refine wd_geti hx hb hts i_B hown hK hP 0 hI.1 hI.2.1 rfl 10 (by decide) t_98 rfl d_B_step_83 ?_
    obtain ⟨q86, hc86, h⟩ := obd h
    refine wd_cvr (As := [.int (M 0 3), .int (M 0 10)]) (rest := []) ⟨hx, hb, hml, hown, hts⟩ hK hP j3 hj3.1 hj3.2.1 rfl (c_C_chosen l j3 (M 0 3) (M 0 10) M _ hj3 hc86) (cwV 2 hts (wmV t_135 t_137 t_138 t_59 t_136) rfl rfl rfl (by decide +kernel) ⟨by decide, by decide⟩) rfl hl.1 rfl (Nat.le_of_ble_eq_true rfl) d_B_step_86 ⟨Nat.zero_le _, Nat.zero_le _⟩ ?_
    refine lv_istore (lv' := [(4, .int q86), (0, .ref (b + 0)), (1, .int x1), (2, .int x2), (3, .ref (b + j3))]) hx hb d_B_step_89 hl (by decide) rfl (fun ls hl => ?_)
    refine lv_iload hx hb d_B_step_91 (lv_at hl 0 rfl) ?_
    refine lv_iconst (v := (-1)) hx hb d_B_step_93 (by decide) ?_
    refine lv_icmp_eq (tgt := 104) hx hb d_B_step_94 (by decide) (fun c94 => ?_) (fun c94 => ?_)
    · replace h := ogt c94 h
      exact w_B_step_104 G hI hK37  x1 x2 M _ _ _ hP hS (lv_sub hl [1, 2, 3] rfl) h
    · replace h := ogf c94 h
      refine lv_aload_n hx hb d_B_step_97 rfl (lv_at hl 1 rfl) ?_
      refine lv_iload_n hx hb d_B_step_98 rfl (lv_at hl 3 rfl) ?_
      refine lv_iload hx hb d_B_step_99 (lv_at hl 0 rfl) ?_
      obtain ⟨q101, hc101, h⟩ := obd h
      refine wd_cvv (As := [.int x2, .int q86]) (rest := []) ⟨hx, hb, hml, hown, hts⟩ hK hP hS 0 hI.1 hI.2.1 rfl (c_B_serve l x2 q86 M _ hI hc101) (cwV 2 hts (wmV t_139 t_141 t_142 t_113 t_140) rfl rfl rfl (by decide +kernel) ⟨by decide, by decide⟩) rfl hl.1 rfl (Nat.le_of_ble_eq_true rfl) d_B_step_101 ⟨Nat.zero_le _, Nat.zero_le _⟩ (fun H locs hP hS => ?_)
      exact w_B_step_104 G hI hK37  x1 x2 q101 _ _ _ hP hS (lv_sub hl [1, 2, 3] rfl) h
  · replace h := ogf c66 h
    refine lv_aload_n hx hb d_B_step_69 rfl (lv_at hl 0 rfl) ?_
    refine lv_iload_n hx hb d_B_step_70 rfl (lv_at hl 2 rfl) ?_
    obtain ⟨q71, hc71, h⟩ := obd h
    refine wd_cvv (As := [.int x2]) (rest := []) ⟨hx, hb, hml, hown, hts⟩ hK hP hS 0 hI.1 hI.2.1 rfl (c_B_refresh l x2 M _ hI hc71) (cwV 1 hts (wmV t_143 t_145 t_146 t_113 t_144) rfl rfl rfl (by decide +kernel) ⟨by decide, by decide⟩) rfl hl.1 rfl (Nat.le_of_ble_eq_true rfl) d_B_step_71 ⟨Nat.zero_le _, Nat.zero_le _⟩ (fun H locs hP hS => ?_)
    refine lv_goto (tgt := 104) hx hb d_B_step_74 (by decide) ?_
    exact w_B_step_104 G hI hK37  x1 x2 q71 _ _ _ hP hS (lv_sub hl [0, 1, 2] rfl) h
set_option maxHeartbeats 4000000 in
set_option maxRecDepth 100000 in
theorem w_B_step_37 {M' : Mm} (G : Cx p s m args meth c (dC, dI) cls6 (tyl dA) "BankTimes" k_B_step 5 none) (hI : Is_B dA b N sh B C 0)   : ∀ (n : Nat) (x1 x2 : Int32) (M : Mm) (H : Heap) (locs : List Loc) (ls : Array Slot), va_P (dC, dI) cls6 (wd b N sh M) H → va_S (reg b N s.heap.size) s.heap H locs → lv_has ls 5 [(0, .ref (b + 0)), (1, .int x1), (2, .int x2)] → B_B_step_37 B C n x1 x2 M = some M' → W p l e rm_B_step s m args below meth c H locs 0 0 (MQ below (Qwv (dC, dI) cls6 b N sh M' s.heap.size) args s 0 0 (reg b N s.heap.size)) (F0 m 37 ls []) := by
  obtain ⟨hx, hb, hml, hr, hown, hts, hlk, hK⟩ := id G
  intro n
  induction n with
  | zero =>
    intro x1 x2 M H locs ls hP hS hl h
    cases h
  | succ n ih =>
    intro x1 x2 M H locs ls hP hS hl h
    rw [B_B_step_37] at h
    refine lv_iload_n hx hb d_B_step_37 rfl (lv_at hl 2 rfl) ?_
    refine lv_aload_n hx hb d_B_step_38 rfl (lv_at hl 0 rfl) ?_
    refine wd_getr hx hb hts i_B hown hK hP 0 hI.1 hI.2.1 rfl 5 (by decide) t_91 rfl d_B_step_39 ?_
    refine wd_ralen hx hb hK hP 2 2 hI.2.2.2.1.1 hI.2.2.2.1.2.1 rfl d_B_step_42 ?_
    refine lv_icmp_ge (tgt := 110) hx hb d_B_step_43 (by decide) (fun c43 => ?_) (fun c43 => ?_)
    · replace h := ogt c43 h
      obtain rfl := oe h
      exact wd_vret hx hb hr hlk hP hS d_B_step_110
    · replace h := ogf c43 h
      refine lv_aload_n hx hb d_B_step_46 rfl (lv_at hl 0 rfl) ?_
      refine wd_getr hx hb hts i_B hown hK hP 0 hI.1 hI.2.1 rfl 5 (by decide) t_91 rfl d_B_step_47 ?_
      refine lv_iload_n hx hb d_B_step_50 rfl (lv_at hl 2 rfl) ?_
      obtain ⟨hi51, h⟩ := og h
      refine wd_aald hx hb hK hP 2 2 hI.2.2.2.1.1 hI.2.2.2.1.2.1 rfl hi51 rfl d_B_step_51 ?_
      refine lv_astore_n (lv' := [(3, .ref (b + (4 + 21 * x2.toNatClampNeg))), (0, .ref (b + 0)), (1, .int x1), (2, .int x2)]) hx hb d_B_step_52 rfl hl (by decide) rfl (fun ls hl => ?_)
      refine lv_iload_n hx hb d_B_step_53 rfl (lv_at hl 2 rfl) ?_
      refine lv_if_eq (tgt := 62) hx hb d_B_step_54 (by decide) (fun c54 => ?_) (fun c54 => ?_)
      · replace h := ogt c54 h
        exact w_B_step_62 G hI ih (hI.2.2.2.1.2.2 x2 hi51)  x1 x2 M _ _ _ hP hS (lv_sub hl [1, 2, 3, 0] rfl) h
      · replace h := ogf c54 h
        refine lv_aload_n hx hb d_B_step_57 rfl (lv_at hl 0 rfl) ?_
        refine lv_iconst (v := 1) hx hb d_B_step_58 (by decide) ?_
        obtain ⟨M59, eM59, h⟩ := ln h
        refine wd_puti hx hb hts i_C ty_C tyok_C nm_C hown hK hP hS (4 + 21 * x2.toNatClampNeg) (hI.2.2.2.1.2.2 x2 hi51).1 (hI.2.2.2.1.2.2 x2 hi51).2.1 rfl 3 (by decide) t_97 rfl rfl (ty := .boolean) (by decide +kernel) rfl rfl d_B_step_59 (fun H locs hP hS => ?_)
        rw [← eM59] at hP
        exact w_B_step_62 G hI ih (hI.2.2.2.1.2.2 x2 hi51)  x1 x2 M59 _ _ _ hP hS (lv_sub hl [1, 2, 3, 0] rfl) h
set_option maxHeartbeats 4000000 in
set_option maxRecDepth 100000 in
theorem w_B_step_34 {M' : Mm} (G : Cx p s m args meth c (dC, dI) cls6 (tyl dA) "BankTimes" k_B_step 5 none) (hI : Is_B dA b N sh B C 0)   : ∀ (s0 : Int32) (M : Mm) (H : Heap) (locs : List Loc) (ls : Array Slot), va_P (dC, dI) cls6 (wd b N sh M) H → va_S (reg b N s.heap.size) s.heap H locs → lv_has ls 5 [(0, .ref (b + 0))] → B_B_step_34 B C s0 M = some M' → W p l e rm_B_step s m args below meth c H locs 0 0 (MQ below (Qwv (dC, dI) cls6 b N sh M' s.heap.size) args s 0 0 (reg b N s.heap.size)) (F0 m 34 ls [.int s0]) := by
  obtain ⟨hx, hb, hml, hr, hown, hts, hlk, hK⟩ := id G
  intro s0 M H locs ls hP hS hl h
  unfold B_B_step_34 at h
  refine lv_istore_n (lv' := [(1, .int s0), (0, .ref (b + 0))]) hx hb d_B_step_34 rfl hl (by decide) rfl (fun ls hl => ?_)
  refine lv_iconst (v := 0) hx hb d_B_step_35 (by decide) ?_
  refine lv_istore_n (lv' := [(2, .int 0), (1, .int s0), (0, .ref (b + 0))]) hx hb d_B_step_36 rfl hl (by decide) rfl (fun ls hl => ?_)
  exact w_B_step_37 G hI  1200 s0 0 M _ _ _ hP hS (lv_sub hl [2, 1, 0] rfl) h
set_option maxHeartbeats 4000000 in
set_option maxRecDepth 100000 in
theorem w_B_step_33 {M' : Mm} (G : Cx p s m args meth c (dC, dI) cls6 (tyl dA) "BankTimes" k_B_step 5 none) (hI : Is_B dA b N sh B C 0)   : ∀ (M : Mm) (H : Heap) (locs : List Loc) (ls : Array Slot), va_P (dC, dI) cls6 (wd b N sh M) H → va_S (reg b N s.heap.size) s.heap H locs → lv_has ls 5 [(0, .ref (b + 0))] → B_B_step_33 B C M = some M' → W p l e rm_B_step s m args below meth c H locs 0 0 (MQ below (Qwv (dC, dI) cls6 b N sh M' s.heap.size) args s 0 0 (reg b N s.heap.size)) (F0 m 33 ls []) := by
  obtain ⟨hx, hb, hml, hr, hown, hts, hlk, hK⟩ := id G
  intro M H locs ls hP hS hl h
  unfold B_B_step_33 at h
  refine lv_iconst (v := 0) hx hb d_B_step_33 (by decide) ?_
  exact w_B_step_34 G hI  0 M _ _ _ hP hS (lv_sub hl [0] rfl) h
set_option maxHeartbeats 4000000 in
set_option maxRecDepth 100000 in
theorem w_B_step_0 {M' : Mm} (G : Cx p s m args meth c (dC, dI) cls6 (tyl dA) "BankTimes" k_B_step 5 none) (hI : Is_B dA b N sh B C 0)   : ∀ (M : Mm) (ls : Array Slot), va_P (dC, dI) cls6 (wd b N sh M) s.heap → va_S (reg b N s.heap.size) s.heap s.heap [] → lv_has ls 5 [(0, .ref (b + 0))] → f_B_step B C M = some M' → W p l e rm_B_step s m args below meth c s.heap [] 0 0 (MQ below (Qwv (dC, dI) cls6 b N sh M' s.heap.size) args s 0 0 (reg b N s.heap.size)) (F0 m 0 ls []) := by
  obtain ⟨hx, hb, hml, hr, hown, hts, hlk, hK⟩ := id G
  intro M ls hP hS hl h
  unfold f_B_step at h
  refine lv_aload_n hx hb d_B_step_0 rfl (lv_at hl 0 rfl) ?_
  refine lv_dup hx hb d_B_step_1 rfl ?_
  refine wd_geti hx hb hts i_B hown hK hP 0 hI.1 hI.2.1 rfl 10 (by decide) t_98 rfl d_B_step_2 ?_
  refine lv_iconst (v := 1) hx hb d_B_step_5 (by decide) ?_
  refine lv_iadd hx hb d_B_step_6 ?_
  obtain ⟨M7, eM7, h⟩ := ln h
  refine wd_puti hx hb hts i_B ty_B tyok_B nm_B hown hK hP hS 0 hI.1 hI.2.1 rfl 10 (by decide) t_98 rfl rfl (ty := .int) (by decide +kernel) rfl rfl d_B_step_7 (fun H locs hP hS => ?_)
  rw [← eM7] at hP
  refine lv_aload_n hx hb d_B_step_10 rfl (lv_at hl 0 rfl) ?_
  refine wd_geti hx hb hts i_B hown hK hP 0 hI.1 hI.2.1 rfl 9 (by decide) t_133 rfl d_B_step_11 ?_
  refine lv_if_le (tgt := 33) hx hb d_B_step_14 (by decide) (fun c14 => ?_) (fun c14 => ?_)
  · replace h := ogt c14 h
    exact w_B_step_33 G hI  M7 _ _ _ hP hS (lv_sub hl [0] rfl) h
  · replace h := ogf c14 h
    refine lv_aload_n hx hb d_B_step_17 rfl (lv_at hl 0 rfl) ?_
    refine wd_geti hx hb hts i_B hown hK hP 0 hI.1 hI.2.1 rfl 10 (by decide) t_98 rfl d_B_step_18 ?_
    refine lv_aload_n hx hb d_B_step_21 rfl (lv_at hl 0 rfl) ?_
    refine wd_geti hx hb hts i_B hown hK hP 0 hI.1 hI.2.1 rfl 9 (by decide) t_133 rfl d_B_step_22 ?_
    obtain ⟨hn25, h⟩ := og h
    refine lv_irem hx hb d_B_step_25 hn25 ?_
    refine lv_if_ne (tgt := 33) hx hb d_B_step_26 (by decide) (fun c26 => ?_) (fun c26 => ?_)
    · replace h := ogf c26 h
      exact w_B_step_33 G hI  M7 _ _ _ hP hS (lv_sub hl [0] rfl) h
    · replace h := ogt c26 h
      refine lv_iconst (v := 1) hx hb d_B_step_29 (by decide) ?_
      refine lv_goto (tgt := 34) hx hb d_B_step_30 (by decide) ?_
      exact w_B_step_34 G hI  1 M7 _ _ _ hP hS (lv_sub hl [0] rfl) h
theorem c_B_step (l : Launch) (M : Mm) (sz : Nat) (hI : Is_B dA b N sh B C 0) {M' : Mm} (h : f_B_step B C M = some M') : Met l y_B_step (wm y_B_step k_B_step 5 none) rm_B_step (Pw (dC, dI) cls6 (tyl dA) b N sh [.ref (b + 0)] M sz) (Qwv (dC, dI) cls6 b N sh M' sz) 0 0 (reg b N sz) := by
  refine mk_met (by decide) (Nat.le_of_ble_eq_true rfl) ?_
  intro p e s m below meth c ls G hsz hP hS hl
  subst hsz
  exact w_B_step_0 G hI _ ls hP hS hl h
end
abbrev rm_B_count : Room := { frames := 1, cells := 0, slots := 0, locals := 22 }
def B_B_count_23 (B C : Nat) (x1 : Int32) (M : Mm) : Option (Int32) := (if x1 = 0 then some (M 0 10) else (if x1 = 1 then some (M 0 11) else (if x1 = 2 then some (M 0 12) else (if x1 = 3 then some (M (4 + 21 * C) 4) else (if x1 = 4 then some (-1) else (if x1 = 5 then some (-1) else (if x1 = 6 then some (-1) else (if x1 = 7 then some (-1) else (if x1 = 8 then some (-1) else (if x1 = 9 then (f_B_dueRefreshes B C M).bind (fun q120 => some q120) else (if x1 = 10 then some ((M 0 11) - (M 0 12)) else (if x1 = 11 then some (M 0 13) else (if x1 = 12 then some (nI C) else (if x1 = 13 then some (M 0 2) else some (-1)))))))))))))))
def f_B_count (B C : Nat) (x1 : Int32) (M : Mm) : Option (Int32) := (if x1 < 4 then B_B_count_23 B C x1 M else (if 9 ≤ x1 then B_B_count_23 B C x1 M else (if ixb (x1 - 4) 5 = true then some (M ((4 + 21 * C) + 2) (x1 - 4).toNatClampNeg) else none)))
section
variable {p : Program} {l : Launch} {e : Env} {s : State} {m : MethodId} {args : Array Value} {below : List Frame} {meth : Method} {c : Code} {dC : Nat → ClassId} {dI : Nat → Nat → Nat} {dA : Nat → ClassId} {b N B C : Nat} {sh : Shp}
set_option maxHeartbeats 4000000 in
set_option maxRecDepth 100000 in
theorem w_B_count_23 {rv : Int32} (G : Cx p s m args meth c (dC, dI) cls6 (tyl dA) "BankTimes" k_B_count 2 (some .int)) (hI : Is_B dA b N sh B C 0)   : ∀ (x1 : Int32) (M : Mm) (ls : Array Slot), va_P (dC, dI) cls6 (wd b N sh M) s.heap → va_S (reg b N s.heap.size) s.heap s.heap [] → lv_has ls 2 [(0, .ref (b + 0)), (1, .int x1)] → B_B_count_23 B C x1 M = some rv → W p l e rm_B_count s m args below meth c s.heap [] 0 0 (MQ below (Qro rv) args s 0 0 nofree) (F0 m 23 ls []) := by
  obtain ⟨hx, hb, hml, hr, hown, hts, hlk, hK⟩ := id G
  intro x1 M ls hP hS hl h
  unfold B_B_count_23 at h
  refine lv_iload_n hx hb d_B_count_23 rfl (lv_at hl 1 rfl) ?_
  by_cases c24_0 : x1 = 0
  · replace h := ogt c24_0 h
    refine lv_tableIn (tgt := 96) hx hb d_B_count_24 (by rw [c24_0]; decide) (by rw [c24_0]; decide) (by rw [c24_0]; rfl) (by decide) ?_
    refine lv_aload_n hx hb d_B_count_96 rfl (lv_at hl 0 rfl) ?_
    refine wd_geti hx hb hts i_B hown hK hP 0 hI.1 hI.2.1 rfl 10 (by decide) t_98 rfl d_B_count_97 ?_
    obtain rfl := oe h
    exact wd_iret0 hx hb hr hlk d_B_count_100
  · replace h := ogf c24_0 h
    by_cases c24_1 : x1 = 1
    · replace h := ogt c24_1 h
      refine lv_tableIn (tgt := 101) hx hb d_B_count_24 (by rw [c24_1]; decide) (by rw [c24_1]; decide) (by rw [c24_1]; rfl) (by decide) ?_
      refine lv_aload_n hx hb d_B_count_101 rfl (lv_at hl 0 rfl) ?_
      refine wd_geti hx hb hts i_B hown hK hP 0 hI.1 hI.2.1 rfl 11 (by decide) t_147 rfl d_B_count_102 ?_
      obtain rfl := oe h
      exact wd_iret0 hx hb hr hlk d_B_count_105
    · replace h := ogf c24_1 h
      by_cases c24_2 : x1 = 2
      · replace h := ogt c24_2 h
        refine lv_tableIn (tgt := 106) hx hb d_B_count_24 (by rw [c24_2]; decide) (by rw [c24_2]; decide) (by rw [c24_2]; rfl) (by decide) ?_
        refine lv_aload_n hx hb d_B_count_106 rfl (lv_at hl 0 rfl) ?_
        refine wd_geti hx hb hts i_B hown hK hP 0 hI.1 hI.2.1 rfl 12 (by decide) t_128 rfl d_B_count_107 ?_
        obtain rfl := oe h
        exact wd_iret0 hx hb hr hlk d_B_count_110
      · replace h := ogf c24_2 h
        by_cases c24_3 : x1 = 3
        · replace h := ogt c24_3 h
          refine lv_tableIn (tgt := 111) hx hb d_B_count_24 (by rw [c24_3]; decide) (by rw [c24_3]; decide) (by rw [c24_3]; rfl) (by decide) ?_
          refine lv_aload_n hx hb d_B_count_111 rfl (lv_at hl 0 rfl) ?_
          refine wd_getr hx hb hts i_B hown hK hP 0 hI.1 hI.2.1 rfl 7 (by decide) t_103 rfl d_B_count_112 ?_
          refine wd_geti hx hb hts i_G hown hK hP (4 + 21 * C) hI.2.2.2.2.2.1.1 hI.2.2.2.2.2.1.2.1 rfl 4 (by decide) t_148 rfl d_B_count_115 ?_
          obtain rfl := oe h
          exact wd_iret0 hx hb hr hlk d_B_count_118
        · replace h := ogf c24_3 h
          by_cases c24_4 : x1 = 4
          · replace h := ogt c24_4 h
            refine lv_tableIn (tgt := 150) hx hb d_B_count_24 (by rw [c24_4]; decide) (by rw [c24_4]; decide) (by rw [c24_4]; rfl) (by decide) ?_
            refine lv_iconst (v := (-1)) hx hb d_B_count_150 (by decide) ?_
            obtain rfl := oe h
            exact wd_iret0 hx hb hr hlk d_B_count_151
          · replace h := ogf c24_4 h
            by_cases c24_5 : x1 = 5
            · replace h := ogt c24_5 h
              refine lv_tableIn (tgt := 150) hx hb d_B_count_24 (by rw [c24_5]; decide) (by rw [c24_5]; decide) (by rw [c24_5]; rfl) (by decide) ?_
              refine lv_iconst (v := (-1)) hx hb d_B_count_150 (by decide) ?_
              obtain rfl := oe h
              exact wd_iret0 hx hb hr hlk d_B_count_151
            · replace h := ogf c24_5 h
              by_cases c24_6 : x1 = 6
              · replace h := ogt c24_6 h
                refine lv_tableIn (tgt := 150) hx hb d_B_count_24 (by rw [c24_6]; decide) (by rw [c24_6]; decide) (by rw [c24_6]; rfl) (by decide) ?_
                refine lv_iconst (v := (-1)) hx hb d_B_count_150 (by decide) ?_
                obtain rfl := oe h
                exact wd_iret0 hx hb hr hlk d_B_count_151
              · replace h := ogf c24_6 h
                by_cases c24_7 : x1 = 7
                · replace h := ogt c24_7 h
                  refine lv_tableIn (tgt := 150) hx hb d_B_count_24 (by rw [c24_7]; decide) (by rw [c24_7]; decide) (by rw [c24_7]; rfl) (by decide) ?_
                  refine lv_iconst (v := (-1)) hx hb d_B_count_150 (by decide) ?_
                  obtain rfl := oe h
                  exact wd_iret0 hx hb hr hlk d_B_count_151
                · replace h := ogf c24_7 h
                  by_cases c24_8 : x1 = 8
                  · replace h := ogt c24_8 h
                    refine lv_tableIn (tgt := 150) hx hb d_B_count_24 (by rw [c24_8]; decide) (by rw [c24_8]; decide) (by rw [c24_8]; rfl) (by decide) ?_
                    refine lv_iconst (v := (-1)) hx hb d_B_count_150 (by decide) ?_
                    obtain rfl := oe h
                    exact wd_iret0 hx hb hr hlk d_B_count_151
                  · replace h := ogf c24_8 h
                    by_cases c24_9 : x1 = 9
                    · replace h := ogt c24_9 h
                      refine lv_tableIn (tgt := 119) hx hb d_B_count_24 (by rw [c24_9]; decide) (by rw [c24_9]; decide) (by rw [c24_9]; rfl) (by decide) ?_
                      refine lv_aload_n hx hb d_B_count_119 rfl (lv_at hl 0 rfl) ?_
                      obtain ⟨q120, hc120, h⟩ := obd h
                      refine wd_cvr (As := []) (rest := []) ⟨hx, hb, hml, hown, hts⟩ hK hP 0 hI.1 hI.2.1 rfl (c_B_dueRefreshes l M _ hI hc120) (cwV 0 hts (wmV t_149 t_151 t_152 t_113 t_150) rfl rfl rfl (by decide +kernel) ⟨by decide, by decide⟩) rfl hl.1 rfl (Nat.le_of_ble_eq_true rfl) d_B_count_120 ⟨Nat.zero_le _, Nat.zero_le _⟩ ?_
                      obtain rfl := oe h
                      exact wd_iret0 hx hb hr hlk d_B_count_123
                    · replace h := ogf c24_9 h
                      by_cases c24_10 : x1 = 10
                      · replace h := ogt c24_10 h
                        refine lv_tableIn (tgt := 124) hx hb d_B_count_24 (by rw [c24_10]; decide) (by rw [c24_10]; decide) (by rw [c24_10]; rfl) (by decide) ?_
                        refine lv_aload_n hx hb d_B_count_124 rfl (lv_at hl 0 rfl) ?_
                        refine wd_geti hx hb hts i_B hown hK hP 0 hI.1 hI.2.1 rfl 11 (by decide) t_147 rfl d_B_count_125 ?_
                        refine lv_aload_n hx hb d_B_count_128 rfl (lv_at hl 0 rfl) ?_
                        refine wd_geti hx hb hts i_B hown hK hP 0 hI.1 hI.2.1 rfl 12 (by decide) t_128 rfl d_B_count_129 ?_
                        refine lv_isub hx hb d_B_count_132 ?_
                        obtain rfl := oe h
                        exact wd_iret0 hx hb hr hlk d_B_count_133
                      · replace h := ogf c24_10 h
                        by_cases c24_11 : x1 = 11
                        · replace h := ogt c24_11 h
                          refine lv_tableIn (tgt := 134) hx hb d_B_count_24 (by rw [c24_11]; decide) (by rw [c24_11]; decide) (by rw [c24_11]; rfl) (by decide) ?_
                          refine lv_aload_n hx hb d_B_count_134 rfl (lv_at hl 0 rfl) ?_
                          refine wd_geti hx hb hts i_B hown hK hP 0 hI.1 hI.2.1 rfl 13 (by decide) t_126 rfl d_B_count_135 ?_
                          obtain rfl := oe h
                          exact wd_iret0 hx hb hr hlk d_B_count_138
                        · replace h := ogf c24_11 h
                          by_cases c24_12 : x1 = 12
                          · replace h := ogt c24_12 h
                            refine lv_tableIn (tgt := 139) hx hb d_B_count_24 (by rw [c24_12]; decide) (by rw [c24_12]; decide) (by rw [c24_12]; rfl) (by decide) ?_
                            refine lv_aload_n hx hb d_B_count_139 rfl (lv_at hl 0 rfl) ?_
                            refine wd_getr hx hb hts i_B hown hK hP 0 hI.1 hI.2.1 rfl 5 (by decide) t_91 rfl d_B_count_140 ?_
                            refine wd_ralen hx hb hK hP 2 2 hI.2.2.2.1.1 hI.2.2.2.1.2.1 rfl d_B_count_143 ?_
                            obtain rfl := oe h
                            exact wd_iret0 hx hb hr hlk d_B_count_144
                          · replace h := ogf c24_12 h
                            by_cases c24_13 : x1 = 13
                            · replace h := ogt c24_13 h
                              refine lv_tableIn (tgt := 145) hx hb d_B_count_24 (by rw [c24_13]; decide) (by rw [c24_13]; decide) (by rw [c24_13]; rfl) (by decide) ?_
                              refine lv_aload_n hx hb d_B_count_145 rfl (lv_at hl 0 rfl) ?_
                              refine wd_geti hx hb hts i_B hown hK hP 0 hI.1 hI.2.1 rfl 2 (by decide) t_93 rfl d_B_count_146 ?_
                              obtain rfl := oe h
                              exact wd_iret0 hx hb hr hlk d_B_count_149
                            · replace h := ogf c24_13 h
                              have z24_0 := lv_neT (a := 0) c24_0 (by decide)
                              have z24_1 := lv_neT (a := 1) c24_1 (by decide)
                              have z24_2 := lv_neT (a := 2) c24_2 (by decide)
                              have z24_3 := lv_neT (a := 3) c24_3 (by decide)
                              have z24_4 := lv_neT (a := 4) c24_4 (by decide)
                              have z24_5 := lv_neT (a := 5) c24_5 (by decide)
                              have z24_6 := lv_neT (a := 6) c24_6 (by decide)
                              have z24_7 := lv_neT (a := 7) c24_7 (by decide)
                              have z24_8 := lv_neT (a := 8) c24_8 (by decide)
                              have z24_9 := lv_neT (a := 9) c24_9 (by decide)
                              have z24_10 := lv_neT (a := 10) c24_10 (by decide)
                              have z24_11 := lv_neT (a := 11) c24_11 (by decide)
                              have z24_12 := lv_neT (a := 12) c24_12 (by decide)
                              have z24_13 := lv_neT (a := 13) c24_13 (by decide)
                              refine lv_tableOut (tgt := 150) hx hb d_B_count_24 (by omega) (by decide) ?_
                              refine lv_iconst (v := (-1)) hx hb d_B_count_150 (by decide) ?_
                              obtain rfl := oe h
                              exact wd_iret0 hx hb hr hlk d_B_count_151
set_option maxHeartbeats 4000000 in
set_option maxRecDepth 100000 in
theorem w_B_count_0 {rv : Int32} (G : Cx p s m args meth c (dC, dI) cls6 (tyl dA) "BankTimes" k_B_count 2 (some .int)) (hI : Is_B dA b N sh B C 0)   : ∀ (x1 : Int32) (M : Mm) (ls : Array Slot), va_P (dC, dI) cls6 (wd b N sh M) s.heap → va_S (reg b N s.heap.size) s.heap s.heap [] → lv_has ls 2 [(0, .ref (b + 0)), (1, .int x1)] → f_B_count B C x1 M = some rv → W p l e rm_B_count s m args below meth c s.heap [] 0 0 (MQ below (Qro rv) args s 0 0 nofree) (F0 m 0 ls []) := by
  obtain ⟨hx, hb, hml, hr, hown, hts, hlk, hK⟩ := id G
  intro x1 M ls hP hS hl h
  unfold f_B_count at h
  refine lv_iload_n hx hb d_B_count_0 rfl (lv_at hl 1 rfl) ?_
  refine lv_iconst (v := 4) hx hb d_B_count_1 (by decide) ?_
  refine lv_icmp_lt (tgt := 23) hx hb d_B_count_2 (by decide) (fun c2 => ?_) (fun c2 => ?_)
  · replace h := ogt c2 h
    exact w_B_count_23 G hI  x1 M _ hP hS (lv_sub hl [0, 1] rfl) h
  · replace h := ogf c2 h
    refine lv_iload_n hx hb d_B_count_5 rfl (lv_at hl 1 rfl) ?_
    refine lv_bipush (v := 9) hx hb d_B_count_6 (by decide) ?_
    refine lv_icmp_ge (tgt := 23) hx hb d_B_count_8 (by decide) (fun c8 => ?_) (fun c8 => ?_)
    · replace h := ogt c8 h
      exact w_B_count_23 G hI  x1 M _ hP hS (lv_sub hl [0, 1] rfl) h
    · replace h := ogf c8 h
      refine lv_aload_n hx hb d_B_count_11 rfl (lv_at hl 0 rfl) ?_
      refine wd_getr hx hb hts i_B hown hK hP 0 hI.1 hI.2.1 rfl 7 (by decide) t_103 rfl d_B_count_12 ?_
      refine wd_getr hx hb hts i_G hown hK hP (4 + 21 * C) hI.2.2.2.2.2.1.1 hI.2.2.2.2.2.1.2.1 rfl 1 (by decide) t_153 rfl d_B_count_15 ?_
      refine lv_iload_n hx hb d_B_count_18 rfl (lv_at hl 1 rfl) ?_
      refine lv_iconst (v := 4) hx hb d_B_count_19 (by decide) ?_
      refine lv_isub hx hb d_B_count_20 ?_
      obtain ⟨hi21, h⟩ := og h
      refine wd_iald hx hb hK hP ((4 + 21 * C) + 2) 0 hI.2.2.2.2.2.1.2.2.2.1 hI.2.2.2.2.2.1.2.2.2.2 rfl hi21 d_B_count_21 ?_
      obtain rfl := oe h
      exact wd_iret0 hx hb hr hlk d_B_count_22
theorem c_B_count (l : Launch) (x1 : Int32) (M : Mm) (sz : Nat) (hI : Is_B dA b N sh B C 0) {rv : Int32} (h : f_B_count B C x1 M = some rv) : Met l y_B_count (wm y_B_count k_B_count 2 (some .int)) rm_B_count (Pw (dC, dI) cls6 (tyl dA) b N sh [.ref (b + 0), .int x1] M sz) (Qro rv) 0 0 nofree := by
  refine mk_met (by decide) (Nat.le_of_ble_eq_true rfl) ?_
  intro p e s m below meth c ls G hsz hP hS hl
  subst hsz
  exact w_B_count_0 G hI _ _ ls hP hS hl h
end
abbrev rm_B_begin : Room := { frames := 2, cells := 0, slots := 0, locals := 43 }
def B_B_begin_2 (B C : Nat) : Nat → Int32 → Mm → Option (Mm)
  | 0, _, _ => none
  | n + 1, x1, M => (if (nI C) ≤ x1 then some M else (if ixb x1 C = true then (f_R_forget B C (18 + 21 * x1.toNatClampNeg) M).bind (fun q17 => bnd (x1 + 1) (fun v20 => B_B_begin_2 B C n v20 q17)) else none))
def f_B_begin (B C : Nat) (M : Mm) : Option (Mm) := B_B_begin_2 B C 1200 0 M
section
variable {p : Program} {l : Launch} {e : Env} {s : State} {m : MethodId} {args : Array Value} {below : List Frame} {meth : Method} {c : Code} {dC : Nat → ClassId} {dI : Nat → Nat → Nat} {dA : Nat → ClassId} {b N B C : Nat} {sh : Shp}
set_option maxHeartbeats 4000000 in
set_option maxRecDepth 100000 in
theorem w_B_begin_2 {M' : Mm} (G : Cx p s m args meth c (dC, dI) cls6 (tyl dA) "BankTimes" k_B_begin 2 none) (hI : Is_B dA b N sh B C 0)   : ∀ (n : Nat) (x1 : Int32) (M : Mm) (H : Heap) (locs : List Loc) (ls : Array Slot), va_P (dC, dI) cls6 (wd b N sh M) H → va_S (reg b N s.heap.size) s.heap H locs → lv_has ls 2 [(0, .ref (b + 0)), (1, .int x1)] → B_B_begin_2 B C n x1 M = some M' → W p l e rm_B_begin s m args below meth c H locs 0 0 (MQ below (Qwv (dC, dI) cls6 b N sh M' s.heap.size) args s 0 0 (reg b N s.heap.size)) (F0 m 2 ls []) := by
  obtain ⟨hx, hb, hml, hr, hown, hts, hlk, hK⟩ := id G
  intro n
  induction n with
  | zero =>
    intro x1 M H locs ls hP hS hl h
    cases h
  | succ n ih =>
    intro x1 M H locs ls hP hS hl h
    rw [B_B_begin_2] at h
    refine lv_iload_n hx hb d_B_begin_2 rfl (lv_at hl 1 rfl) ?_
    refine lv_aload_n hx hb d_B_begin_3 rfl (lv_at hl 0 rfl) ?_
    refine wd_getr hx hb hts i_B hown hK hP 0 hI.1 hI.2.1 rfl 6 (by decide) t_154 rfl d_B_begin_4 ?_
    refine wd_ralen hx hb hK hP 3 3 hI.2.2.2.2.1.1 hI.2.2.2.2.1.2.1 rfl d_B_begin_7 ?_
    refine lv_icmp_ge (tgt := 26) hx hb d_B_begin_8 (by decide) (fun c8 => ?_) (fun c8 => ?_)
    · replace h := ogt c8 h
      obtain rfl := oe h
      exact wd_vret hx hb hr hlk hP hS d_B_begin_26
    · replace h := ogf c8 h
      refine lv_aload_n hx hb d_B_begin_11 rfl (lv_at hl 0 rfl) ?_
      refine wd_getr hx hb hts i_B hown hK hP 0 hI.1 hI.2.1 rfl 6 (by decide) t_154 rfl d_B_begin_12 ?_
      refine lv_iload_n hx hb d_B_begin_15 rfl (lv_at hl 1 rfl) ?_
      obtain ⟨hi16, h⟩ := og h
      refine wd_aald hx hb hK hP 3 3 hI.2.2.2.2.1.1 hI.2.2.2.2.1.2.1 rfl hi16 rfl d_B_begin_16 ?_
      obtain ⟨q17, hc17, h⟩ := obd h
      refine wd_cvv (As := []) (rest := []) ⟨hx, hb, hml, hown, hts⟩ hK hP hS (18 + 21 * x1.toNatClampNeg) (hI.2.2.2.2.1.2.2 x1 hi16).1 (hI.2.2.2.2.1.2.2 x1 hi16).2.1 rfl (c_R_forget l (18 + 21 * x1.toNatClampNeg) M _ (Is_F_of (hI.2.2.2.2.1.2.2 x1 hi16)) hc17) (cwV 0 hts (wmV t_155 t_157 t_158 t_13 t_156) rfl rfl rfl (by decide +kernel) ⟨by decide, by decide⟩) rfl hl.1 rfl (Nat.le_of_ble_eq_true rfl) d_B_begin_17 ⟨Nat.zero_le _, Nat.zero_le _⟩ (fun H locs hP hS => ?_)
      obtain ⟨v20, e20, h⟩ := ln h
      refine lv_iinc (v := v20) (lv' := [(1, .int v20), (0, .ref (b + 0))]) hx hb d_B_begin_20 hl (k := 1) rfl (by rw [e20]; rfl) (by decide) rfl (fun ls hl => ?_)
      refine lv_goto (tgt := 2) hx hb d_B_begin_23 (by decide) ?_
      exact ih v20 q17 _ _ _ hP hS (lv_sub hl [1, 0] rfl) h
set_option maxHeartbeats 4000000 in
set_option maxRecDepth 100000 in
theorem w_B_begin_0 {M' : Mm} (G : Cx p s m args meth c (dC, dI) cls6 (tyl dA) "BankTimes" k_B_begin 2 none) (hI : Is_B dA b N sh B C 0)   : ∀ (M : Mm) (ls : Array Slot), va_P (dC, dI) cls6 (wd b N sh M) s.heap → va_S (reg b N s.heap.size) s.heap s.heap [] → lv_has ls 2 [(0, .ref (b + 0))] → f_B_begin B C M = some M' → W p l e rm_B_begin s m args below meth c s.heap [] 0 0 (MQ below (Qwv (dC, dI) cls6 b N sh M' s.heap.size) args s 0 0 (reg b N s.heap.size)) (F0 m 0 ls []) := by
  obtain ⟨hx, hb, hml, hr, hown, hts, hlk, hK⟩ := id G
  intro M ls hP hS hl h
  unfold f_B_begin at h
  refine lv_iconst (v := 0) hx hb d_B_begin_0 (by decide) ?_
  refine lv_istore_n (lv' := [(1, .int 0), (0, .ref (b + 0))]) hx hb d_B_begin_1 rfl hl (by decide) rfl (fun ls hl => ?_)
  exact w_B_begin_2 G hI  1200 0 M _ _ _ hP hS (lv_sub hl [1, 0] rfl) h
theorem c_B_begin (l : Launch) (M : Mm) (sz : Nat) (hI : Is_B dA b N sh B C 0) {M' : Mm} (h : f_B_begin B C M = some M') : Met l y_B_begin (wm y_B_begin k_B_begin 2 none) rm_B_begin (Pw (dC, dI) cls6 (tyl dA) b N sh [.ref (b + 0)] M sz) (Qwv (dC, dI) cls6 b N sh M' sz) 0 0 (reg b N sz) := by
  refine mk_met (by decide) (Nat.le_of_ble_eq_true rfl) ?_
  intro p e s m below meth c ls G hsz hP hS hl
  subst hsz
  exact w_B_begin_0 G hI _ ls hP hS hl h
end
