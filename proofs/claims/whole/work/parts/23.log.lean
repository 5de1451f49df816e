abbrev rm_G_placeOf : Room := { frames := 0, cells := 0, slots := 0, locals := 0 }
def f_G_placeOf (B C : Nat) (r : Nat) (x1 : Int32) (M : Mm) : Option (Int32) := some ((((M r 2) + x1) - ((M r 2) + x1) / 512 * 512) * 5)
section
variable {p : Program} {l : Launch} {e : Env} {s : State} {m : MethodId} {args : Array Value} {below : List Frame} {meth : Method} {c : Code} {dC : Nat → ClassId} {dI : Nat → Nat → Nat} {dA : Nat → ClassId} {b N B C : Nat} {sh : Shp}
set_option maxHeartbeats 4000000 in
set_option maxRecDepth 100000 in
theorem w_G_placeOf_0 {r : Nat} {rv : Int32} (G : Cx p s m args meth c (dC, dI) cls6 (tyl dA) "BankTimes$Log" k_G_placeOf 2 (some .int)) (hI : Is_G dA b N sh B C r)   : ∀ (x1 : Int32) (M : Mm) (ls : Array Slot), va_P (dC, dI) cls6 (wd b N sh M) s.heap → va_S (reg b N s.heap.size) s.heap s.heap [] → lv_has ls 2 [(0, .ref (b + r)), (1, .int x1)] → f_G_placeOf B C r x1 M = some rv → W p l e rm_G_placeOf s m args below meth c s.heap [] 0 0 (MQ below (Qro rv) args s 0 0 nofree) (F0 m 0 ls []) := by
  obtain ⟨hx, hb, hml, hr, hown, hts, hlk, hK⟩ := id G
  intro x1 M ls hP hS hl h
  unfold f_G_placeOf at h
  refine lv_aload_n hx hb d_G_placeOf_0 rfl (lv_at hl 0 rfl) ?_
  refine wd_geti hx hb hts i_G hown hK hP r hI.1 hI.2.1 rfl 2 (by decide) t_39 rfl d_G_placeOf_1 ?_
  refine lv_iload_n hx hb d_G_placeOf_4 rfl (lv_at hl 1 rfl) ?_
  refine lv_iadd hx hb d_G_placeOf_5 ?_
  refine lv_sipush (v := 512) hx hb d_G_placeOf_6 (by decide) ?_
  refine lv_irem hx hb d_G_placeOf_9 (by decide) ?_
  refine lv_iconst (v := 5) hx hb d_G_placeOf_10 (by decide) ?_
  refine lv_imul hx hb d_G_placeOf_11 ?_
  obtain rfl := oe h
  exact wd_iret0 hx hb hr hlk d_G_placeOf_12
theorem c_G_placeOf (l : Launch) (r : Nat) (x1 : Int32) (M : Mm) (sz : Nat) (hI : Is_G dA b N sh B C r) {rv : Int32} (h : f_G_placeOf B C r x1 M = some rv) : Met l y_G_placeOf (wm y_G_placeOf k_G_placeOf 2 (some .int)) rm_G_placeOf (Pw (dC, dI) cls6 (tyl dA) b N sh [.ref (b + r), .int x1] M sz) (Qro rv) 0 0 nofree := by
  refine mk_met (by decide) (Nat.le_of_ble_eq_true rfl) ?_
  intro p e s m below meth c ls G hsz hP hS hl
  subst hsz
  exact w_G_placeOf_0 G hI _ _ ls hP hS hl h
end
abbrev rm_G_partOf : Room := { frames := 1, cells := 0, slots := 0, locals := 21 }
def f_G_partOf (B C : Nat) (r : Nat) (x1 x2 : Int32) (M : Mm) : Option (Int32) := (f_G_placeOf B C r x1 M).bind (fun q6 => (if ixb (q6 + x2) 2560 = true then some (M (r + 1) (q6 + x2).toNatClampNeg) else none))
section
variable {p : Program} {l : Launch} {e : Env} {s : State} {m : MethodId} {args : Array Value} {below : List Frame} {meth : Method} {c : Code} {dC : Nat → ClassId} {dI : Nat → Nat → Nat} {dA : Nat → ClassId} {b N B C : Nat} {sh : Shp}
set_option maxHeartbeats 4000000 in
set_option maxRecDepth 100000 in
theorem w_G_partOf_0 {r : Nat} {rv : Int32} (G : Cx p s m args meth c (dC, dI) cls6 (tyl dA) "BankTimes$Log" k_G_partOf 3 (some .int)) (hI : Is_G dA b N sh B C r)   : ∀ (x1 x2 : Int32) (M : Mm) (ls : Array Slot), va_P (dC, dI) cls6 (wd b N sh M) s.heap → va_S (reg b N s.heap.size) s.heap s.heap [] → lv_has ls 3 [(0, .ref (b + r)), (1, .int x1), (2, .int x2)] → f_G_partOf B C r x1 x2 M = some rv → W p l e rm_G_partOf s m args below meth c s.heap [] 0 0 (MQ below (Qro rv) args s 0 0 nofree) (F0 m 0 ls []) := by
  obtain ⟨hx, hb, hml, hr, hown, hts, hlk, hK⟩ := id G
  intro x1 x2 M ls hP hS hl h
  unfold f_G_partOf at h
  refine lv_aload_n hx hb d_G_partOf_0 rfl (lv_at hl 0 rfl) ?_
  refine wd_getr hx hb hts i_G hown hK hP r hI.1 hI.2.1 rfl 0 (by decide) t_40 rfl d_G_partOf_1 ?_
  refine lv_aload_n hx hb d_G_partOf_4 rfl (lv_at hl 0 rfl) ?_
  refine lv_iload_n hx hb d_G_partOf_5 rfl (lv_at hl 1 rfl) ?_
  obtain ⟨q6, hc6, h⟩ := obd h
  refine wd_cvr (As := [.int x1]) (rest := [.ref (b + (r + 1))]) ⟨hx, hb, hml, hown, hts⟩ hK hP r hI.1 hI.2.1 rfl (c_G_placeOf l r x1 M _ hI hc6) (cwV 1 hts (wmV t_41 t_43 t_44 t_45 t_42) rfl rfl rfl (by decide +kernel) ⟨by decide, by decide⟩) rfl hl.1 rfl (Nat.le_of_ble_eq_true rfl) d_G_partOf_6 ⟨Nat.zero_le _, Nat.zero_le _⟩ ?_
  refine lv_iload_n hx hb d_G_partOf_9 rfl (lv_at hl 2 rfl) ?_
  refine lv_iadd hx hb d_G_partOf_10 ?_
  obtain ⟨hi11, h⟩ := og h
  refine wd_iald hx hb hK hP (r + 1) 0 hI.2.2.1.1 hI.2.2.1.2 rfl hi11 d_G_partOf_11 ?_
  obtain rfl := oe h
  exact wd_iret0 hx hb hr hlk d_G_partOf_12
theorem c_G_partOf (l : Launch) (r : Nat) (x1 x2 : Int32) (M : Mm) (sz : Nat) (hI : Is_G dA b N sh B C r) {rv : Int32} (h : f_G_partOf B C r x1 x2 M = some rv) : Met l y_G_partOf (wm y_G_partOf k_G_partOf 3 (some .int)) rm_G_partOf (Pw (dC, dI) cls6 (tyl dA) b N sh [.ref (b + r), .int x1, .int x2] M sz) (Qro rv) 0 0 nofree := by
  refine mk_met (by decide) (Nat.le_of_ble_eq_true rfl) ?_
  intro p e s m below meth c ls G hsz hP hS hl
  subst hsz
  exact w_G_partOf_0 G hI _ _ _ ls hP hS hl h
end
abbrev rm_G_add : Room := { frames := 1, cells := 0, slots := 0, locals := 21 }
def B_G_add_97 (B C : Nat) (r : Nat) (x3 : Int32) (M : Mm) : Option (Mm) := (if ixb x3 5 = true then (if ixb x3 5 = true then bnd (up2 M (r + 2) x3.toNatClampNeg ((M (r + 2) x3.toNatClampNeg) + 1)) (fun M106 => bnd (up2 M106 r 4 ((M106 r 4) + 1)) (fun M114 => some M114)) else none) else none)
def f_G_add (B C : Nat) (r : Nat) (x1 x2 x3 x4 x5 : Int32) (M : Mm) : Option (Mm) := (f_G_placeOf B C r (M r 3) M).bind (fun q5 => (if ixb q5 2560 = true then bnd (up2 M (r + 1) q5.toNatClampNeg x1) (fun M17 => (if ixb (q5 + 1) 2560 = true then bnd (up2 M17 (r + 1) (q5 + 1).toNatClampNeg x2) (fun M27 => (if ixb (q5 + 2) 2560 = true then bnd (up2 M27 (r + 1) (q5 + 2).toNatClampNeg x3) (fun M37 => (if ixb (q5 + 3) 2560 = true then bnd (up2 M37 (r + 1) (q5 + 3).toNatClampNeg x4) (fun M48 => (if ixb (q5 + 4) 2560 = true then bnd (up2 M48 (r + 1) (q5 + 4).toNatClampNeg x5) (fun M59 => (if 512 ≤ (M59 r 3) then bnd (up2 M59 r 2 (((M59 r 2) + 1) - ((M59 r 2) + 1) / 512 * 512)) (fun M94 => B_G_add_97 B C r x3 M94) else bnd (up2 M59 r 3 ((M59 r 3) + 1)) (fun M77 => B_G_add_97 B C r x3 M77))) else none)) else none)) else none)) else none)) else none))
section
variable {p : Program} {l : Launch} {e : Env} {s : State} {m : MethodId} {args : Array Value} {below : List Frame} {meth : Method} {c : Code} {dC : Nat → ClassId} {dI : Nat → Nat → Nat} {dA : Nat → ClassId} {b N B C : Nat} {sh : Shp}
set_option maxHeartbeats 4000000 in
set_option maxRecDepth 100000 in
theorem w_G_add_97 {r : Nat} {M' : Mm} (G : Cx p s m args meth c (dC, dI) cls6 (tyl dA) "BankTimes$Log" k_G_add 7 none) (hI : Is_G dA b N sh B C r)   : ∀ (x3 : Int32) (M : Mm) (H : Heap) (locs : List Loc) (ls : Array Slot), va_P (dC, dI) cls6 (wd b N sh M) H → va_S (reg b N s.heap.size) s.heap H locs → lv_has ls 7 [(0, .ref (b + r)), (3, .int x3)] → B_G_add_97 B C r x3 M = some M' → W p l e rm_G_add s m args below meth c H locs 0 0 (MQ below (Qwv (dC, dI) cls6 b N sh M' s.heap.size) args s 0 0 (reg b N s.heap.size)) (F0 m 97 ls []) := by
  obtain ⟨hx, hb, hml, hr, hown, hts, hlk, hK⟩ := id G
  intro x3 M H locs ls hP hS hl h
  unfold B_G_add_97 at h
  refine lv_aload_n hx hb d_G_add_97 rfl (lv_at hl 0 rfl) ?_
  refine wd_getr hx hb hts i_G hown hK hP r hI.1 hI.2.1 rfl 1 (by decide) t_47 rfl d_G_add_98 ?_
  refine lv_iload_n hx hb d_G_add_101 rfl (lv_at hl 1 rfl) ?_
  refine lv_dup2_11 hx hb d_G_add_102 rfl rfl ?_
  obtain ⟨hi103, h⟩ := og h
  refine wd_iald hx hb hK hP (r + 2) 0 hI.2.2.2.1 hI.2.2.2.2 rfl hi103 d_G_add_103 ?_
  refine lv_iconst (v := 1) hx hb d_G_add_104 (by decide) ?_
  refine lv_iadd hx hb d_G_add_105 ?_
  obtain ⟨hi106, h⟩ := og h
  obtain ⟨M106, eM106, h⟩ := ln h
  refine wd_iast hx hb hK hP hS (r + 2) 0 hI.2.2.2.1 hI.2.2.2.2 rfl hi106 d_G_add_106 (fun H locs hP hS => ?_)
  rw [← eM106] at hP
  refine lv_aload_n hx hb d_G_add_107 rfl (lv_at hl 0 rfl) ?_
  refine lv_dup hx hb d_G_add_108 rfl ?_
  refine wd_geti hx hb hts i_G hown hK hP r hI.1 hI.2.1 rfl 4 (by decide) t_48 rfl d_G_add_109 ?_
  refine lv_iconst (v := 1) hx hb d_G_add_112 (by decide) ?_
  refine lv_iadd hx hb d_G_add_113 ?_
  obtain ⟨M114, eM114, h⟩ := ln h
  refine wd_puti hx hb hts i_G ty_G tyok_G nm_G hown hK hP hS r hI.1 hI.2.1 rfl 4 (by decide) t_48 rfl rfl (ty := .int) (by decide +kernel) rfl rfl d_G_add_114 (fun H locs hP hS => ?_)
  rw [← eM114] at hP
  obtain rfl := oe h
  exact wd_vret hx hb hr hlk hP hS d_G_add_117
set_option maxHeartbeats 4000000 in
set_option maxRecDepth 100000 in
theorem w_G_add_0 {r : Nat} {M' : Mm} (G : Cx p s m args meth c (dC, dI) cls6 (tyl dA) "BankTimes$Log" k_G_add 7 none) (hI : Is_G dA b N sh B C r)   : ∀ (x1 x2 x3 x4 x5 : Int32) (M : Mm) (ls : Array Slot), va_P (dC, dI) cls6 (wd b N sh M) s.heap → va_S (reg b N s.heap.size) s.heap s.heap [] → lv_has ls 7 [(0, .ref (b + r)), (1, .int x1), (2, .int x2), (3, .int x3), (4, .int x4), (5, .int x5)] → f_G_add B C r x1 x2 x3 x4 x5 M = some M' → W p l e rm_G_add s m args below meth c s.heap [] 0 0 (MQ below (Qwv (dC, dI) cls6 b N sh M' s.heap.size) args s 0 0 (reg b N s.heap.size)) (F0 m 0 ls []) := by
  obtain ⟨hx, hb, hml, hr, hown, hts, hlk, hK⟩ := id G
  intro x1 x2 x3 x4 x5 M ls hP hS hl h
  unfold f_G_add at h
  refine lv_aload_n hx hb d_G_add_0 rfl (lv_at hl 0 rfl) ?_
  refine lv_aload_n hx hb d_G_add_1 rfl (lv_at hl 0 rfl) ?_
  refine wd_geti hx hb hts i_G hown hK hP r hI.1 hI.2.1 rfl 3 (by decide) t_46 rfl d_G_add_2 ?_
  obtain ⟨q5, hc5, h⟩ := obd h
  refine wd_cvr (As := [.int (M r 3)]) (rest := []) ⟨hx, hb, hml, hown, hts⟩ hK hP r hI.1 hI.2.1 rfl (c_G_placeOf l r (M r 3) M _ hI hc5) (cwV 1 hts (wmV t_41 t_43 t_44 t_45 t_42) rfl rfl rfl (by decide +kernel) ⟨by decide, by decide⟩) rfl hl.1 rfl (Nat.le_of_ble_eq_true rfl) d_G_add_5 ⟨Nat.zero_le _, Nat.zero_le _⟩ ?_
  refine lv_istore (lv' := [(6, .int q5), (0, .ref (b + r)), (1, .int x1), (2, .int x2), (3, .int x3), (4, .int x4), (5, .int x5)]) hx hb d_G_add_8 hl (by decide) rfl (fun ls hl => ?_)
  refine lv_aload_n hx hb d_G_add_10 rfl (lv_at hl 1 rfl) ?_
  refine wd_getr hx hb hts i_G hown hK hP r hI.1 hI.2.1 rfl 0 (by decide) t_40 rfl d_G_add_11 ?_
  refine lv_iload hx hb d_G_add_14 (lv_at hl 0 rfl) ?_
  refine lv_iload_n hx hb d_G_add_16 rfl (lv_at hl 2 rfl) ?_
  obtain ⟨hi17, h⟩ := og h
  obtain ⟨M17, eM17, h⟩ := ln h
  refine wd_iast hx hb hK hP hS (r + 1) 0 hI.2.2.1.1 hI.2.2.1.2 rfl hi17 d_G_add_17 (fun H locs hP hS => ?_)
  rw [← eM17] at hP
  refine lv_aload_n hx hb d_G_add_18 rfl (lv_at hl 1 rfl) ?_
  refine wd_getr hx hb hts i_G hown hK hP r hI.1 hI.2.1 rfl 0 (by decide) t_40 rfl d_G_add_19 ?_
  refine lv_iload hx hb d_G_add_22 (lv_at hl 0 rfl) ?_
  refine lv_iconst (v := 1) hx hb d_G_add_24 (by decide) ?_
  refine lv_iadd hx hb d_G_add_25 ?_
  refine lv_iload_n hx hb d_G_add_26 rfl (lv_at hl 3 rfl) ?_
  obtain ⟨hi27, h⟩ := og h
  obtain ⟨M27, eM27, h⟩ := ln h
  refine wd_iast hx hb hK hP hS (r + 1) 0 hI.2.2.1.1 hI.2.2.1.2 rfl hi27 d_G_add_27 (fun H locs hP hS => ?_)
  rw [← eM27] at hP
  refine lv_aload_n hx hb d_G_add_28 rfl (lv_at hl 1 rfl) ?_
  refine wd_getr hx hb hts i_G hown hK hP r hI.1 hI.2.1 rfl 0 (by decide) t_40 rfl d_G_add_29 ?_
  refine lv_iload hx hb d_G_add_32 (lv_at hl 0 rfl) ?_
  refine lv_iconst (v := 2) hx hb d_G_add_34 (by decide) ?_
  refine lv_iadd hx hb d_G_add_35 ?_
  refine lv_iload_n hx hb d_G_add_36 rfl (lv_at hl 4 rfl) ?_
  obtain ⟨hi37, h⟩ := og h
  obtain ⟨M37, eM37, h⟩ := ln h
  refine wd_iast hx hb hK hP hS (r + 1) 0 hI.2.2.1.1 hI.2.2.1.2 rfl hi37 d_G_add_37 (fun H locs hP hS => ?_)
  rw [← eM37] at hP
  refine lv_aload_n hx hb d_G_add_38 rfl (lv_at hl 1 rfl) ?_
  refine wd_getr hx hb hts i_G hown hK hP r hI.1 hI.2.1 rfl 0 (by decide) t_40 rfl d_G_add_39 ?_
  refine lv_iload hx hb d_G_add_42 (lv_at hl 0 rfl) ?_
  refine lv_iconst (v := 3) hx hb d_G_add_44 (by decide) ?_
  refine lv_iadd hx hb d_G_add_45 ?_
  refine lv_iload hx hb d_G_add_46 (lv_at hl 5 rfl) ?_
  obtain ⟨hi48, h⟩ := og h
  obtain ⟨M48, eM48, h⟩ := ln h
  refine wd_iast hx hb hK hP hS (r + 1) 0 hI.2.2.1.1 hI.2.2.1.2 rfl hi48 d_G_add_48 (fun H locs hP hS => ?_)
  rw [← eM48] at hP
  refine lv_aload_n hx hb d_G_add_49 rfl (lv_at hl 1 rfl) ?_
  refine wd_getr hx hb hts i_G hown hK hP r hI.1 hI.2.1 rfl 0 (by decide) t_40 rfl d_G_add_50 ?_
  refine lv_iload hx hb d_G_add_53 (lv_at hl 0 rfl) ?_
  refine lv_iconst (v := 4) hx hb d_G_add_55 (by decide) ?_
  refine lv_iadd hx hb d_G_add_56 ?_
  refine lv_iload hx hb d_G_add_57 (lv_at hl 6 rfl) ?_
  obtain ⟨hi59, h⟩ := og h
  obtain ⟨M59, eM59, h⟩ := ln h
  refine wd_iast hx hb hK hP hS (r + 1) 0 hI.2.2.1.1 hI.2.2.1.2 rfl hi59 d_G_add_59 (fun H locs hP hS => ?_)
  rw [← eM59] at hP
  refine lv_aload_n hx hb d_G_add_60 rfl (lv_at hl 1 rfl) ?_
  refine wd_geti hx hb hts i_G hown hK hP r hI.1 hI.2.1 rfl 3 (by decide) t_46 rfl d_G_add_61 ?_
  refine lv_sipush (v := 512) hx hb d_G_add_64 (by decide) ?_
  refine lv_icmp_ge (tgt := 83) hx hb d_G_add_67 (by decide) (fun c67 => ?_) (fun c67 => ?_)
  · replace h := ogt c67 h
    refine lv_aload_n hx hb d_G_add_83 rfl (lv_at hl 1 rfl) ?_
    refine lv_aload_n hx hb d_G_add_84 rfl (lv_at hl 1 rfl) ?_
    refine wd_geti hx hb hts i_G hown hK hP r hI.1 hI.2.1 rfl 2 (by decide) t_39 rfl d_G_add_85 ?_
    refine lv_iconst (v := 1) hx hb d_G_add_88 (by decide) ?_
    refine lv_iadd hx hb d_G_add_89 ?_
    refine lv_sipush (v := 512) hx hb d_G_add_90 (by decide) ?_
    refine lv_irem hx hb d_G_add_93 (by decide) ?_
    obtain ⟨M94, eM94, h⟩ := ln h
    refine wd_puti hx hb hts i_G ty_G tyok_G nm_G hown hK hP hS r hI.1 hI.2.1 rfl 2 (by decide) t_39 rfl rfl (ty := .int) (by decide +kernel) rfl rfl d_G_add_94 (fun H locs hP hS => ?_)
    rw [← eM94] at hP
    exact w_G_add_97 G hI  x3 M94 _ _ _ hP hS (lv_sub hl [1, 4] rfl) h
  · replace h := ogf c67 h
    refine lv_aload_n hx hb d_G_add_70 rfl (lv_at hl 1 rfl) ?_
    refine lv_dup hx hb d_G_add_71 rfl ?_
    refine wd_geti hx hb hts i_G hown hK hP r hI.1 hI.2.1 rfl 3 (by decide) t_46 rfl d_G_add_72 ?_
    refine lv_iconst (v := 1) hx hb d_G_add_75 (by decide) ?_
    refine lv_iadd hx hb d_G_add_76 ?_
    obtain ⟨M77, eM77, h⟩ := ln h
    refine wd_puti hx hb hts i_G ty_G tyok_G nm_G hown hK hP hS r hI.1 hI.2.1 rfl 3 (by decide) t_46 rfl rfl (ty := .int) (by decide +kernel) rfl rfl d_G_add_77 (fun H locs hP hS => ?_)
    rw [← eM77] at hP
    refine lv_goto (tgt := 97) hx hb d_G_add_80 (by decide) ?_
    exact w_G_add_97 G hI  x3 M77 _ _ _ hP hS (lv_sub hl [1, 4] rfl) h
theorem c_G_add (l : Launch) (r : Nat) (x1 x2 x3 x4 x5 : Int32) (M : Mm) (sz : Nat) (hI : Is_G dA b N sh B C r) {M' : Mm} (h : f_G_add B C r x1 x2 x3 x4 x5 M = some M') : Met l y_G_add (wm y_G_add k_G_add 7 none) rm_G_add (Pw (dC, dI) cls6 (tyl dA) b N sh [.ref (b + r), .int x1, .int x2, .int x3, .int x4, .int x5] M sz) (Qwv (dC, dI) cls6 b N sh M' sz) 0 0 (reg b N sz) := by
  refine mk_met (by decide) (Nat.le_of_ble_eq_true rfl) ?_
  intro p e s m below meth c ls G hsz hP hS hl
  subst hsz
  exact w_G_add_0 G hI _ _ _ _ _ _ ls hP hS hl h
end
