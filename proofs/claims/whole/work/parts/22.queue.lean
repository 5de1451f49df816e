abbrev rm_Q_isFull : Room := { frames := 0, cells := 0, slots := 0, locals := 0 }
def f_Q_isFull (B C : Nat) (r : Nat) (M : Mm) : Option (Int32) := (if (M r 5) < 8 then some 0 else some 1)
section
variable {p : Program} {l : Launch} {e : Env} {s : State} {m : MethodId} {args : Array Value} {below : List Frame} {meth : Method} {c : Code} {dC : Nat → ClassId} {dI : Nat → Nat → Nat} {dA : Nat → ClassId} {b N B C : Nat} {sh : Shp}
set_option maxHeartbeats 4000000 in
set_option maxRecDepth 100000 in
theorem w_Q_isFull_0 {r : Nat} {rv : Int32} (G : Cx p s m args meth c (dC, dI) cls6 (tyl dA) "BankTimes$Queue" k_Q_isFull 1 (some .boolean)) (hI : Is_Q dA b N sh B C r)   : ∀ (M : Mm) (ls : Array Slot), va_P (dC, dI) cls6 (wd b N sh M) s.heap → va_S (reg b N s.heap.size) s.heap s.heap [] → lv_has ls 1 [(0, .ref (b + r))] → f_Q_isFull B C r M = some rv → W p l e rm_Q_isFull s m args below meth c s.heap [] 0 0 (MQ below (Qro rv) args s 0 0 nofree) (F0 m 0 ls []) := by
  obtain ⟨hx, hb, hml, hr, hown, hts, hlk, hK⟩ := id G
  intro M ls hP hS hl h
  unfold f_Q_isFull at h
  refine lv_aload_n hx hb d_Q_isFull_0 rfl (lv_at hl 0 rfl) ?_
  refine wd_geti hx hb hts i_Q hown hK hP r hI.1 hI.2.1 rfl 5 (by decide) t_32 rfl d_Q_isFull_1 ?_
  refine lv_bipush (v := 8) hx hb d_Q_isFull_4 (by decide) ?_
  refine lv_icmp_lt (tgt := 13) hx hb d_Q_isFull_6 (by decide) (fun c6 => ?_) (fun c6 => ?_)
  · replace h := ogt c6 h
    refine lv_iconst (v := 0) hx hb d_Q_isFull_13 (by decide) ?_
    obtain rfl := oe h
    exact wd_zret0 hx hb hr rfl hlk d_Q_isFull_14
  · replace h := ogf c6 h
    refine lv_iconst (v := 1) hx hb d_Q_isFull_9 (by decide) ?_
    refine lv_goto (tgt := 14) hx hb d_Q_isFull_10 (by decide) ?_
    obtain rfl := oe h
    exact wd_zret0 hx hb hr rfl hlk d_Q_isFull_14
theorem c_Q_isFull (l : Launch) (r : Nat) (M : Mm) (sz : Nat) (hI : Is_Q dA b N sh B C r) {rv : Int32} (h : f_Q_isFull B C r M = some rv) : Met l y_Q_isFull (wm y_Q_isFull k_Q_isFull 1 (some .boolean)) rm_Q_isFull (Pw (dC, dI) cls6 (tyl dA) b N sh [.ref (b + r)] M sz) (Qro rv) 0 0 nofree := by
  refine mk_met (by decide) (Nat.le_of_ble_eq_true rfl) ?_
  intro p e s m below meth c ls G hsz hP hS hl
  subst hsz
  exact w_Q_isFull_0 G hI _ ls hP hS hl h
end
abbrev rm_Q_add : Room := { frames := 0, cells := 0, slots := 0, locals := 0 }
def f_Q_add (B C : Nat) (r : Nat) (x1 x2 x3 x4 x5 : Int32) (M : Mm) : Option (Mm) := (if ixb (M r 5) 8 = true then bnd (up2 M (r + 1) (M r 5).toNatClampNeg x1) (fun M9 => (if ixb (M9 r 5) 8 = true then bnd (up2 M9 (r + 2) (M9 r 5).toNatClampNeg x2) (fun M19 => (if ixb (M19 r 5) 8 = true then bnd (up2 M19 (r + 3) (M19 r 5).toNatClampNeg x3) (fun M29 => (if ixb (M29 r 5) 8 = true then bnd (up2 M29 (r + 4) (M29 r 5).toNatClampNeg x4) (fun M40 => (if bz x5 = true then (if ixb (M40 r 5) 8 = true then bnd (up2 M40 (r + 5) (M40 r 5).toNatClampNeg x5) (fun M51 => bnd (up2 M51 r 5 ((M51 r 5) + 1)) (fun M59 => (if x5 = 0 then some M59 else bnd (up2 M59 r 6 ((M59 r 6) + 1)) (fun M74 => some M74)))) else none) else none)) else none)) else none)) else none)) else none)
section
variable {p : Program} {l : Launch} {e : Env} {s : State} {m : MethodId} {args : Array Value} {below : List Frame} {meth : Method} {c : Code} {dC : Nat → ClassId} {dI : Nat → Nat → Nat} {dA : Nat → ClassId} {b N B C : Nat} {sh : Shp}
set_option maxHeartbeats 4000000 in
set_option maxRecDepth 100000 in
theorem w_Q_add_0 {r : Nat} {M' : Mm} (G : Cx p s m args meth c (dC, dI) cls6 (tyl dA) "BankTimes$Queue" k_Q_add 6 none) (hI : Is_Q dA b N sh B C r)   : ∀ (x1 x2 x3 x4 x5 : Int32) (M : Mm) (ls : Array Slot), va_P (dC, dI) cls6 (wd b N sh M) s.heap → va_S (reg b N s.heap.size) s.heap s.heap [] → lv_has ls 6 [(0, .ref (b + r)), (1, .int x1), (2, .int x2), (3, .int x3), (4, .int x4), (5, .int x5)] → f_Q_add B C r x1 x2 x3 x4 x5 M = some M' → W p l e rm_Q_add s m args below meth c s.heap [] 0 0 (MQ below (Qwv (dC, dI) cls6 b N sh M' s.heap.size) args s 0 0 (reg b N s.heap.size)) (F0 m 0 ls []) := by
  obtain ⟨hx, hb, hml, hr, hown, hts, hlk, hK⟩ := id G
  intro x1 x2 x3 x4 x5 M ls hP hS hl h
  unfold f_Q_add at h
  refine lv_aload_n hx hb d_Q_add_0 rfl (lv_at hl 0 rfl) ?_
  refine wd_getr hx hb hts i_Q hown hK hP r hI.1 hI.2.1 rfl 0 (by decide) t_33 rfl d_Q_add_1 ?_
  refine lv_aload_n hx hb d_Q_add_4 rfl (lv_at hl 0 rfl) ?_
  refine wd_geti hx hb hts i_Q hown hK hP r hI.1 hI.2.1 rfl 5 (by decide) t_32 rfl d_Q_add_5 ?_
  refine lv_iload_n hx hb d_Q_add_8 rfl (lv_at hl 1 rfl) ?_
  obtain ⟨hi9, h⟩ := og h
  obtain ⟨M9, eM9, h⟩ := ln h
  refine wd_iast hx hb hK hP hS (r + 1) 0 hI.2.2.1.1 hI.2.2.1.2 rfl hi9 d_Q_add_9 (fun H locs hP hS => ?_)
  rw [← eM9] at hP
  refine lv_aload_n hx hb d_Q_add_10 rfl (lv_at hl 0 rfl) ?_
  refine wd_getr hx hb hts i_Q hown hK hP r hI.1 hI.2.1 rfl 1 (by decide) t_34 rfl d_Q_add_11 ?_
  refine lv_aload_n hx hb d_Q_add_14 rfl (lv_at hl 0 rfl) ?_
  refine wd_geti hx hb hts i_Q hown hK hP r hI.1 hI.2.1 rfl 5 (by decide) t_32 rfl d_Q_add_15 ?_
  refine lv_iload_n hx hb d_Q_add_18 rfl (lv_at hl 2 rfl) ?_
  obtain ⟨hi19, h⟩ := og h
  obtain ⟨M19, eM19, h⟩ := ln h
  refine wd_iast hx hb hK hP hS (r + 2) 0 hI.2.2.2.1.1 hI.2.2.2.1.2 rfl hi19 d_Q_add_19 (fun H locs hP hS => ?_)
  rw [← eM19] at hP
  refine lv_aload_n hx hb d_Q_add_20 rfl (lv_at hl 0 rfl) ?_
  refine wd_getr hx hb hts i_Q hown hK hP r hI.1 hI.2.1 rfl 2 (by decide) t_35 rfl d_Q_add_21 ?_
  refine lv_aload_n hx hb d_Q_add_24 rfl (lv_at hl 0 rfl) ?_
  refine wd_geti hx hb hts i_Q hown hK hP r hI.1 hI.2.1 rfl 5 (by decide) t_32 rfl d_Q_add_25 ?_
  refine lv_iload_n hx hb d_Q_add_28 rfl (lv_at hl 3 rfl) ?_
  obtain ⟨hi29, h⟩ := og h
  obtain ⟨M29, eM29, h⟩ := ln h
  refine wd_iast hx hb hK hP hS (r + 3) 0 hI.2.2.2.2.1.1 hI.2.2.2.2.1.2 rfl hi29 d_Q_add_29 (fun H locs hP hS => ?_)
  rw [← eM29] at hP
  refine lv_aload_n hx hb d_Q_add_30 rfl (lv_at hl 0 rfl) ?_
  refine wd_getr hx hb hts i_Q hown hK hP r hI.1 hI.2.1 rfl 3 (by decide) t_36 rfl d_Q_add_31 ?_
  refine lv_aload_n hx hb d_Q_add_34 rfl (lv_at hl 0 rfl) ?_
  refine wd_geti hx hb hts i_Q hown hK hP r hI.1 hI.2.1 rfl 5 (by decide) t_32 rfl d_Q_add_35 ?_
  refine lv_iload hx hb d_Q_add_38 (lv_at hl 4 rfl) ?_
  obtain ⟨hi40, h⟩ := og h
  obtain ⟨M40, eM40, h⟩ := ln h
  refine wd_iast hx hb hK hP hS (r + 4) 0 hI.2.2.2.2.2.1.1 hI.2.2.2.2.2.1.2 rfl hi40 d_Q_add_40 (fun H locs hP hS => ?_)
  rw [← eM40] at hP
  refine lv_aload_n hx hb d_Q_add_41 rfl (lv_at hl 0 rfl) ?_
  refine wd_getr hx hb hts i_Q hown hK hP r hI.1 hI.2.1 rfl 4 (by decide) t_37 rfl d_Q_add_42 ?_
  refine lv_aload_n hx hb d_Q_add_45 rfl (lv_at hl 0 rfl) ?_
  refine wd_geti hx hb hts i_Q hown hK hP r hI.1 hI.2.1 rfl 5 (by decide) t_32 rfl d_Q_add_46 ?_
  refine lv_iload hx hb d_Q_add_49 (lv_at hl 5 rfl) ?_
  obtain ⟨hz51, h⟩ := og h
  obtain ⟨hi51, h⟩ := og h
  obtain ⟨M51, eM51, h⟩ := ln h
  refine wd_zast hx hb hK hP hS (r + 5) 1 hI.2.2.2.2.2.2.1 hI.2.2.2.2.2.2.2 rfl (vpz hz51) hi51 d_Q_add_51 (fun H locs hP hS => ?_)
  rw [← eM51] at hP
  refine lv_aload_n hx hb d_Q_add_52 rfl (lv_at hl 0 rfl) ?_
  refine lv_dup hx hb d_Q_add_53 rfl ?_
  refine wd_geti hx hb hts i_Q hown hK hP r hI.1 hI.2.1 rfl 5 (by decide) t_32 rfl d_Q_add_54 ?_
  refine lv_iconst (v := 1) hx hb d_Q_add_57 (by decide) ?_
  refine lv_iadd hx hb d_Q_add_58 ?_
  obtain ⟨M59, eM59, h⟩ := ln h
  refine wd_puti hx hb hts i_Q ty_Q tyok_Q nm_Q hown hK hP hS r hI.1 hI.2.1 rfl 5 (by decide) t_32 rfl rfl (ty := .int) (by decide +kernel) rfl rfl d_Q_add_59 (fun H locs hP hS => ?_)
  rw [← eM59] at hP
  refine lv_iload hx hb d_Q_add_62 (lv_at hl 5 rfl) ?_
  refine lv_if_eq (tgt := 77) hx hb d_Q_add_64 (by decide) (fun c64 => ?_) (fun c64 => ?_)
  · replace h := ogt c64 h
    obtain rfl := oe h
    exact wd_vret hx hb hr hlk hP hS d_Q_add_77
  · replace h := ogf c64 h
    refine lv_aload_n hx hb d_Q_add_67 rfl (lv_at hl 0 rfl) ?_
    refine lv_dup hx hb d_Q_add_68 rfl ?_
    refine wd_geti hx hb hts i_Q hown hK hP r hI.1 hI.2.1 rfl 6 (by decide) t_38 rfl d_Q_add_69 ?_
    refine lv_iconst (v := 1) hx hb d_Q_add_72 (by decide) ?_
    refine lv_iadd hx hb d_Q_add_73 ?_
    obtain ⟨M74, eM74, h⟩ := ln h
    refine wd_puti hx hb hts i_Q ty_Q tyok_Q nm_Q hown hK hP hS r hI.1 hI.2.1 rfl 6 (by decide) t_38 rfl rfl (ty := .int) (by decide +kernel) rfl rfl d_Q_add_74 (fun H locs hP hS => ?_)
    rw [← eM74] at hP
    obtain rfl := oe h
    exact wd_vret hx hb hr hlk hP hS d_Q_add_77
theorem c_Q_add (l : Launch) (r : Nat) (x1 x2 x3 x4 x5 : Int32) (M : Mm) (sz : Nat) (hI : Is_Q dA b N sh B C r) {M' : Mm} (h : f_Q_add B C r x1 x2 x3 x4 x5 M = some M') : Met l y_Q_add (wm y_Q_add k_Q_add 6 none) rm_Q_add (Pw (dC, dI) cls6 (tyl dA) b N sh [.ref (b + r), .int x1, .int x2, .int x3, .int x4, .int x5] M sz) (Qwv (dC, dI) cls6 b N sh M' sz) 0 0 (reg b N sz) := by
  refine mk_met (by decide) (Nat.le_of_ble_eq_true rfl) ?_
  intro p e s m below meth c ls G hsz hP hS hl
  subst hsz
  exact w_Q_add_0 G hI _ _ _ _ _ _ ls hP hS hl h
end
abbrev rm_Q_removeAt : Room := { frames := 0, cells := 0, slots := 0, locals := 0 }
def B_Q_removeAt_31 (B C : Nat) (r : Nat) : Nat → Int32 → Mm → Option (Mm)
  | 0, _, _ => none
  | n + 1, x2, M => (if (M r 5) ≤ x2 then some M else (if ixb (x2 + 1) 8 = true then (if ixb x2 8 = true then bnd (up2 M (r + 1) x2.toNatClampNeg (M (r + 1) (x2 + 1).toNatClampNeg)) (fun M52 => (if ixb (x2 + 1) 8 = true then (if ixb x2 8 = true then bnd (up2 M52 (r + 2) x2.toNatClampNeg (M52 (r + 2) (x2 + 1).toNatClampNeg)) (fun M66 => (if ixb (x2 + 1) 8 = true then (if ixb x2 8 = true then bnd (up2 M66 (r + 3) x2.toNatClampNeg (M66 (r + 3) (x2 + 1).toNatClampNeg)) (fun M80 => (if ixb (x2 + 1) 8 = true then (if ixb x2 8 = true then bnd (up2 M80 (r + 4) x2.toNatClampNeg (M80 (r + 4) (x2 + 1).toNatClampNeg)) (fun M94 => (if ixb (x2 + 1) 8 = true then (if bz (M94 (r + 5) (x2 + 1).toNatClampNeg) = true then (if ixb x2 8 = true then bnd (up2 M94 (r + 5) x2.toNatClampNeg (M94 (r + 5) (x2 + 1).toNatClampNeg)) (fun M108 => bnd (x2 + 1) (fun v109 => B_Q_removeAt_31 B C r n v109 M108)) else none) else none) else none)) else none) else none)) else none) else none)) else none) else none)) else none) else none))
def B_Q_removeAt_19 (B C : Nat) (r : Nat) (x1 : Int32) (M : Mm) : Option (Mm) := bnd (up2 M r 5 ((M r 5) - 1)) (fun M26 => B_Q_removeAt_31 B C r 1200 x1 M26)
def f_Q_removeAt (B C : Nat) (r : Nat) (x1 : Int32) (M : Mm) : Option (Mm) := (if ixb x1 8 = true then (if (M (r + 5) x1.toNatClampNeg) = 0 then B_Q_removeAt_19 B C r x1 M else bnd (up2 M r 6 ((M r 6) - 1)) (fun M16 => B_Q_removeAt_19 B C r x1 M16)) else none)
section
variable {p : Program} {l : Launch} {e : Env} {s : State} {m : MethodId} {args : Array Value} {below : List Frame} {meth : Method} {c : Code} {dC : Nat → ClassId} {dI : Nat → Nat → Nat} {dA : Nat → ClassId} {b N B C : Nat} {sh : Shp}
set_option maxHeartbeats 4000000 in
set_option maxRecDepth 100000 in
theorem w_Q_removeAt_31 {r : Nat} {M' : Mm} (G : Cx p s m args meth c (dC, dI) cls6 (tyl dA) "BankTimes$Queue" k_Q_removeAt 3 none) (hI : Is_Q dA b N sh B C r)   : ∀ (n : Nat) (x2 : Int32) (M : Mm) (H : Heap) (locs : List Loc) (ls : Array Slot), va_P (dC, dI) cls6 (wd b N sh M) H → va_S (reg b N s.heap.size) s.heap H locs → lv_has ls 3 [(0, .ref (b + r)), (2, .int x2)] → B_Q_removeAt_31 B C r n x2 M = some M' → W p l e rm_Q_removeAt s m args below meth c H locs 0 0 (MQ below (Qwv (dC, dI) cls6 b N sh M' s.heap.size) args s 0 0 (reg b N s.heap.size)) (F0 m 31 ls []) := by
  obtain ⟨hx, hb, hml, hr, hown, hts, hlk, hK⟩ := id G
  intro n
  induction n with
  | zero =>
    intro x2 M H locs ls hP hS hl h
    cases h
  | succ n ih =>
    intro x2 M H locs ls hP hS hl h
    rw [B_Q_removeAt_31] at h
    refine lv_iload_n hx hb d_Q_removeAt_31 rfl (lv_at hl 1 rfl) ?_
    refine lv_aload_n hx hb d_Q_removeAt_32 rfl (lv_at hl 0 rfl) ?_
    refine wd_geti hx hb hts i_Q hown hK hP r hI.1 hI.2.1 rfl 5 (by decide) t_32 rfl d_Q_removeAt_33 ?_
    refine lv_icmp_ge (tgt := 115) hx hb d_Q_removeAt_36 (by decide) (fun c36 => ?_) (fun c36 => ?_)
    · replace h := ogt c36 h
      obtain rfl := oe h
      exact wd_vret hx hb hr hlk hP hS d_Q_removeAt_115
    · replace h := ogf c36 h
      refine lv_aload_n hx hb d_Q_removeAt_39 rfl (lv_at hl 0 rfl) ?_
      refine wd_getr hx hb hts i_Q hown hK hP r hI.1 hI.2.1 rfl 0 (by decide) t_33 rfl d_Q_removeAt_40 ?_
      refine lv_iload_n hx hb d_Q_removeAt_43 rfl (lv_at hl 1 rfl) ?_
      refine lv_aload_n hx hb d_Q_removeAt_44 rfl (lv_at hl 0 rfl) ?_
      refine wd_getr hx hb hts i_Q hown hK hP r hI.1 hI.2.1 rfl 0 (by decide) t_33 rfl d_Q_removeAt_45 ?_
      refine lv_iload_n hx hb d_Q_removeAt_48 rfl (lv_at hl 1 rfl) ?_
      refine lv_iconst (v := 1) hx hb d_Q_removeAt_49 (by decide) ?_
      refine lv_iadd hx hb d_Q_removeAt_50 ?_
      obtain ⟨hi51, h⟩ := og h
      refine wd_iald hx hb hK hP (r + 1) 0 hI.2.2.1.1 hI.2.2.1.2 rfl hi51 d_Q_removeAt_51 ?_
      obtain ⟨hi52, h⟩ := og h
      obtain ⟨M52, eM52, h⟩ := ln h
      refine wd_iast hx hb hK hP hS (r + 1) 0 hI.2.2.1.1 hI.2.2.1.2 rfl hi52 d_Q_removeAt_52 (fun H locs hP hS => ?_)
      rw [← eM52] at hP
      refine lv_aload_n hx hb d_Q_removeAt_53 rfl (lv_at hl 0 rfl) ?_
      refine wd_getr hx hb hts i_Q hown hK hP r hI.1 hI.2.1 rfl 1 (by decide) t_34 rfl d_Q_removeAt_54 ?_
      refine lv_iload_n hx hb d_Q_removeAt_57 rfl (lv_at hl 1 rfl) ?_
      refine lv_aload_n hx hb d_Q_removeAt_58 rfl (lv_at hl 0 rfl) ?_
      refine wd_getr hx hb hts i_Q hown hK hP r hI.1 hI.2.1 rfl 1 (by decide) t_34 rfl d_Q_removeAt_59 ?_
      refine lv_iload_n hx hb d_Q_removeAt_62 rfl (lv_at hl 1 rfl) ?_
      refine lv_iconst (v := 1) hx hb d_Q_removeAt_63 (by decide) ?_
      refine lv_iadd hx hb d_Q_removeAt_64 ?_
      obtain ⟨hi65, h⟩ := og h
      refine wd_iald hx hb hK hP (r + 2) 0 hI.2.2.2.1.1 hI.2.2.2.1.2 rfl hi65 d_Q_removeAt_65 ?_
      obtain ⟨hi66, h⟩ := og h
      obtain ⟨M66, eM66, h⟩ := ln h
      refine wd_iast hx hb hK hP hS (r + 2) 0 hI.2.2.2.1.1 hI.2.2.2.1.2 rfl hi66 d_Q_removeAt_66 (fun H locs hP hS => ?_)
      rw [← eM66] at hP
      refine lv_aload_n hx hb d_Q_removeAt_67 rfl (lv_at hl 0 rfl) ?_
      refine wd_getr hx hb hts i_Q hown hK hP r hI.1 hI.2.1 rfl 2 (by decide) t_35 rfl d_Q_removeAt_68 ?_
      refine lv_iload_n hx hb d_Q_removeAt_71 rfl (lv_at hl 1 rfl) ?_
      refine lv_aload_n hx hb d_Q_removeAt_72 rfl (lv_at hl 0 rfl) ?_
      refine wd_getr hx hb hts i_Q hown hK hP r hI.1 hI.2.1 rfl 2 (by decide) t_35 rfl d_Q_removeAt_73 ?_
      refine lv_iload_n hx hb d_Q_removeAt_76 rfl (lv_at hl 1 rfl) ?_
      refine lv_iconst (v := 1) hx hb d_Q_removeAt_77 (by decide) ?_
      refine lv_iadd hx hb d_Q_removeAt_78 ?_
      obtain ⟨hi79, h⟩ := og h
      refine wd_iald hx hb hK hP (r + 3) 0 hI.2.2.2.2.1.1 hI.2.2.2.2.1.2 rfl hi79 d_Q_removeAt_79 ?_
      obtain ⟨hi80, h⟩ := og h
      obtain ⟨M80, eM80, h⟩ := ln h
      refine wd_iast hx hb hK hP hS (r + 3) 0 hI.2.2.2.2.1.1 hI.2.2.2.2.1.2 rfl hi80 d_Q_removeAt_80 (fun H locs hP hS => ?_)
      rw [← eM80] at hP
      refine lv_aload_n hx hb d_Q_removeAt_81 rfl (lv_at hl 0 rfl) ?_
      refine wd_getr hx hb hts i_Q hown hK hP r hI.1 hI.2.1 rfl 3 (by decide) t_36 rfl d_Q_removeAt_82 ?_
      refine lv_iload_n hx hb d_Q_removeAt_85 rfl (lv_at hl 1 rfl) ?_
      refine lv_aload_n hx hb d_Q_removeAt_86 rfl (lv_at hl 0 rfl) ?_
      refine wd_getr hx hb hts i_Q hown hK hP r hI.1 hI.2.1 rfl 3 (by decide) t_36 rfl d_Q_removeAt_87 ?_
      refine lv_iload_n hx hb d_Q_removeAt_90 rfl (lv_at hl 1 rfl) ?_
      refine lv_iconst (v := 1) hx hb d_Q_removeAt_91 (by decide) ?_
      refine lv_iadd hx hb d_Q_removeAt_92 ?_
      obtain ⟨hi93, h⟩ := og h
      refine wd_iald hx hb hK hP (r + 4) 0 hI.2.2.2.2.2.1.1 hI.2.2.2.2.2.1.2 rfl hi93 d_Q_removeAt_93 ?_
      obtain ⟨hi94, h⟩ := og h
      obtain ⟨M94, eM94, h⟩ := ln h
      refine wd_iast hx hb hK hP hS (r + 4) 0 hI.2.2.2.2.2.1.1 hI.2.2.2.2.2.1.2 rfl hi94 d_Q_removeAt_94 (fun H locs hP hS => ?_)
      rw [← eM94] at hP
      refine lv_aload_n hx hb d_Q_removeAt_95 rfl (lv_at hl 0 rfl) ?_
      refine wd_getr hx hb hts i_Q hown hK hP r hI.1 hI.2.1 rfl 4 (by decide) t_37 rfl d_Q_removeAt_96 ?_
      refine lv_iload_n hx hb d_Q_removeAt_99 rfl (lv_at hl 1 rfl) ?_
      refine lv_aload_n hx hb d_Q_removeAt_100 rfl (lv_at hl 0 rfl) ?_
      refine wd_getr hx hb hts i_Q hown hK hP r hI.1 hI.2.1 rfl 4 (by decide) t_37 rfl d_Q_removeAt_101 ?_
      refine lv_iload_n hx hb d_Q_removeAt_104 rfl (lv_at hl 1 rfl) ?_
      refine lv_iconst (v := 1) hx hb d_Q_removeAt_105 (by decide) ?_
      refine lv_iadd hx hb d_Q_removeAt_106 ?_
      obtain ⟨hi107, h⟩ := og h
      refine wd_zald hx hb hK hP (r + 5) 1 hI.2.2.2.2.2.2.1 hI.2.2.2.2.2.2.2 rfl hi107 d_Q_removeAt_107 ?_
      obtain ⟨hz108, h⟩ := og h
      obtain ⟨hi108, h⟩ := og h
      obtain ⟨M108, eM108, h⟩ := ln h
      refine wd_zast hx hb hK hP hS (r + 5) 1 hI.2.2.2.2.2.2.1 hI.2.2.2.2.2.2.2 rfl (vpz hz108) hi108 d_Q_removeAt_108 (fun H locs hP hS => ?_)
      rw [← eM108] at hP
      obtain ⟨v109, e109, h⟩ := ln h
      refine lv_iinc (v := v109) (lv' := [(2, .int v109), (0, .ref (b + r))]) hx hb d_Q_removeAt_109 hl (k := 1) rfl (by rw [e109]; rfl) (by decide) rfl (fun ls hl => ?_)
      refine lv_goto (tgt := 31) hx hb d_Q_removeAt_112 (by decide) ?_
      exact ih v109 M108 _ _ _ hP hS (lv_sub hl [1, 0] rfl) h
set_option maxHeartbeats 4000000 in
set_option maxRecDepth 100000 in
theorem w_Q_removeAt_19 {r : Nat} {M' : Mm} (G : Cx p s m args meth c (dC, dI) cls6 (tyl dA) "BankTimes$Queue" k_Q_removeAt 3 none) (hI : Is_Q dA b N sh B C r)   : ∀ (x1 : Int32) (M : Mm) (H : Heap) (locs : List Loc) (ls : Array Slot), va_P (dC, dI) cls6 (wd b N sh M) H → va_S (reg b N s.heap.size) s.heap H locs → lv_has ls 3 [(0, .ref (b + r)), (1, .int x1)] → B_Q_removeAt_19 B C r x1 M = some M' → W p l e rm_Q_removeAt s m args below meth c H locs 0 0 (MQ below (Qwv (dC, dI) cls6 b N sh M' s.heap.size) args s 0 0 (reg b N s.heap.size)) (F0 m 19 ls []) := by
  obtain ⟨hx, hb, hml, hr, hown, hts, hlk, hK⟩ := id G
  intro x1 M H locs ls hP hS hl h
  unfold B_Q_removeAt_19 at h
  refine lv_aload_n hx hb d_Q_removeAt_19 rfl (lv_at hl 0 rfl) ?_
  refine lv_dup hx hb d_Q_removeAt_20 rfl ?_
  refine wd_geti hx hb hts i_Q hown hK hP r hI.1 hI.2.1 rfl 5 (by decide) t_32 rfl d_Q_removeAt_21 ?_
  refine lv_iconst (v := 1) hx hb d_Q_removeAt_24 (by decide) ?_
  refine lv_isub hx hb d_Q_removeAt_25 ?_
  obtain ⟨M26, eM26, h⟩ := ln h
  refine wd_puti hx hb hts i_Q ty_Q tyok_Q nm_Q hown hK hP hS r hI.1 hI.2.1 rfl 5 (by decide) t_32 rfl rfl (ty := .int) (by decide +kernel) rfl rfl d_Q_removeAt_26 (fun H locs hP hS => ?_)
  rw [← eM26] at hP
  refine lv_iload_n hx hb d_Q_removeAt_29 rfl (lv_at hl 1 rfl) ?_
  refine lv_istore_n (lv' := [(2, .int x1), (0, .ref (b + r)), (1, .int x1)]) hx hb d_Q_removeAt_30 rfl hl (by decide) rfl (fun ls hl => ?_)
  exact w_Q_removeAt_31 G hI  1200 x1 M26 _ _ _ hP hS (lv_sub hl [1, 0] rfl) h
set_option maxHeartbeats 4000000 in
set_option maxRecDepth 100000 in
theorem w_Q_removeAt_0 {r : Nat} {M' : Mm} (G : Cx p s m args meth c (dC, dI) cls6 (tyl dA) "BankTimes$Queue" k_Q_removeAt 3 none) (hI : Is_Q dA b N sh B C r)   : ∀ (x1 : Int32) (M : Mm) (ls : Array Slot), va_P (dC, dI) cls6 (wd b N sh M) s.heap → va_S (reg b N s.heap.size) s.heap s.heap [] → lv_has ls 3 [(0, .ref (b + r)), (1, .int x1)] → f_Q_removeAt B C r x1 M = some M' → W p l e rm_Q_removeAt s m args below meth c s.heap [] 0 0 (MQ below (Qwv (dC, dI) cls6 b N sh M' s.heap.size) args s 0 0 (reg b N s.heap.size)) (F0 m 0 ls []) := by
  obtain ⟨hx, hb, hml, hr, hown, hts, hlk, hK⟩ := id G
  intro x1 M ls hP hS hl h
  unfold f_Q_removeAt at h
  refine lv_aload_n hx hb d_Q_removeAt_0 rfl (lv_at hl 0 rfl) ?_
  refine wd_getr hx hb hts i_Q hown hK hP r hI.1 hI.2.1 rfl 4 (by decide) t_37 rfl d_Q_removeAt_1 ?_
  refine lv_iload_n hx hb d_Q_removeAt_4 rfl (lv_at hl 1 rfl) ?_
  obtain ⟨hi5, h⟩ := og h
  refine wd_zald hx hb hK hP (r + 5) 1 hI.2.2.2.2.2.2.1 hI.2.2.2.2.2.2.2 rfl hi5 d_Q_removeAt_5 ?_
  refine lv_if_eq (tgt := 19) hx hb d_Q_removeAt_6 (by decide) (fun c6 => ?_) (fun c6 => ?_)
  · replace h := ogt c6 h
    exact w_Q_removeAt_19 G hI  x1 M _ _ _ hP hS (lv_sub hl [0, 1] rfl) h
  · replace h := ogf c6 h
    refine lv_aload_n hx hb d_Q_removeAt_9 rfl (lv_at hl 0 rfl) ?_
    refine lv_dup hx hb d_Q_removeAt_10 rfl ?_
    refine wd_geti hx hb hts i_Q hown hK hP r hI.1 hI.2.1 rfl 6 (by decide) t_38 rfl d_Q_removeAt_11 ?_
    refine lv_iconst (v := 1) hx hb d_Q_removeAt_14 (by decide) ?_
    refine lv_isub hx hb d_Q_removeAt_15 ?_
    obtain ⟨M16, eM16, h⟩ := ln h
    refine wd_puti hx hb hts i_Q ty_Q tyok_Q nm_Q hown hK hP hS r hI.1 hI.2.1 rfl 6 (by decide) t_38 rfl rfl (ty := .int) (by decide +kernel) rfl rfl d_Q_removeAt_16 (fun H locs hP hS => ?_)
    rw [← eM16] at hP
    exact w_Q_removeAt_19 G hI  x1 M16 _ _ _ hP hS (lv_sub hl [0, 1] rfl) h
theorem c_Q_removeAt (l : Launch) (r : Nat) (x1 : Int32) (M : Mm) (sz : Nat) (hI : Is_Q dA b N sh B C r) {M' : Mm} (h : f_Q_removeAt B C r x1 M = some M') : Met l y_Q_removeAt (wm y_Q_removeAt k_Q_removeAt 3 none) rm_Q_removeAt (Pw (dC, dI) cls6 (tyl dA) b N sh [.ref (b + r), .int x1] M sz) (Qwv (dC, dI) cls6 b N sh M' sz) 0 0 (reg b N sz) := by
  refine mk_met (by decide) (Nat.le_of_ble_eq_true rfl) ?_
  intro p e s m below meth c ls G hsz hP hS hl
  subst hsz
  exact w_Q_removeAt_0 G hI _ _ ls hP hS hl h
end
abbrev rm_Q_oldestOf : Room := { frames := 0, cells := 0, slots := 0, locals := 0 }
def B_Q_oldestOf_2 (B C : Nat) (r : Nat) : Nat → Int32 → Int32 → Mm → Option (Int32)
  | 0, _, _, _ => none
  | n + 1, x1, x2, M => (if (M r 5) ≤ x2 then some (-1) else (if ixb x2 8 = true then (if (M (r + 3) x2.toNatClampNeg) = x1 then some x2 else bnd (x2 + 1) (fun v22 => B_Q_oldestOf_2 B C r n x1 v22 M)) else none))
def f_Q_oldestOf (B C : Nat) (r : Nat) (x1 : Int32) (M : Mm) : Option (Int32) := B_Q_oldestOf_2 B C r 1200 x1 0 M
section
variable {p : Program} {l : Launch} {e : Env} {s : State} {m : MethodId} {args : Array Value} {below : List Frame} {meth : Method} {c : Code} {dC : Nat → ClassId} {dI : Nat → Nat → Nat} {dA : Nat → ClassId} {b N B C : Nat} {sh : Shp}
set_option maxHeartbeats 4000000 in
set_option maxRecDepth 100000 in
theorem w_Q_oldestOf_2 {r : Nat} {rv : Int32} (G : Cx p s m args meth c (dC, dI) cls6 (tyl dA) "BankTimes$Queue" k_Q_oldestOf 3 (some .int)) (hI : Is_Q dA b N sh B C r)   : ∀ (n : Nat) (x1 x2 : Int32) (M : Mm) (ls : Array Slot), va_P (dC, dI) cls6 (wd b N sh M) s.heap → va_S (reg b N s.heap.size) s.heap s.heap [] → lv_has ls 3 [(0, .ref (b + r)), (1, .int x1), (2, .int x2)] → B_Q_oldestOf_2 B C r n x1 x2 M = some rv → W p l e rm_Q_oldestOf s m args below meth c s.heap [] 0 0 (MQ below (Qro rv) args s 0 0 nofree) (F0 m 2 ls []) := by
  obtain ⟨hx, hb, hml, hr, hown, hts, hlk, hK⟩ := id G
  intro n
  induction n with
  | zero =>
    intro x1 x2 M ls hP hS hl h
    cases h
  | succ n ih =>
    intro x1 x2 M ls hP hS hl h
    rw [B_Q_oldestOf_2] at h
    refine lv_iload_n hx hb d_Q_oldestOf_2 rfl (lv_at hl 2 rfl) ?_
    refine lv_aload_n hx hb d_Q_oldestOf_3 rfl (lv_at hl 0 rfl) ?_
    refine wd_geti hx hb hts i_Q hown hK hP r hI.1 hI.2.1 rfl 5 (by decide) t_32 rfl d_Q_oldestOf_4 ?_
    refine lv_icmp_ge (tgt := 28) hx hb d_Q_oldestOf_7 (by decide) (fun c7 => ?_) (fun c7 => ?_)
    · replace h := ogt c7 h
      refine lv_iconst (v := (-1)) hx hb d_Q_oldestOf_28 (by decide) ?_
      obtain rfl := oe h
      exact wd_iret0 hx hb hr hlk d_Q_oldestOf_29
    · replace h := ogf c7 h
      refine lv_aload_n hx hb d_Q_oldestOf_10 rfl (lv_at hl 0 rfl) ?_
      refine wd_getr hx hb hts i_Q hown hK hP r hI.1 hI.2.1 rfl 2 (by decide) t_35 rfl d_Q_oldestOf_11 ?_
      refine lv_iload_n hx hb d_Q_oldestOf_14 rfl (lv_at hl 2 rfl) ?_
      obtain ⟨hi15, h⟩ := og h
      refine wd_iald hx hb hK hP (r + 3) 0 hI.2.2.2.2.1.1 hI.2.2.2.2.1.2 rfl hi15 d_Q_oldestOf_15 ?_
      refine lv_iload_n hx hb d_Q_oldestOf_16 rfl (lv_at hl 1 rfl) ?_
      refine lv_icmp_ne (tgt := 22) hx hb d_Q_oldestOf_17 (by decide) (fun c17 => ?_) (fun c17 => ?_)
      · replace h := ogf c17 h
        obtain ⟨v22, e22, h⟩ := ln h
        refine lv_iinc (v := v22) (lv' := [(2, .int v22), (0, .ref (b + r)), (1, .int x1)]) hx hb d_Q_oldestOf_22 hl (k := 2) rfl (by rw [e22]; rfl) (by decide) rfl (fun ls hl => ?_)
        refine lv_goto (tgt := 2) hx hb d_Q_oldestOf_25 (by decide) ?_
        exact ih x1 v22 M _ hP hS (lv_sub hl [1, 2, 0] rfl) h
      · replace h := ogt c17 h
        refine lv_iload_n hx hb d_Q_oldestOf_20 rfl (lv_at hl 2 rfl) ?_
        obtain rfl := oe h
        exact wd_iret0 hx hb hr hlk d_Q_oldestOf_21
set_option maxHeartbeats 4000000 in
set_option maxRecDepth 100000 in
theorem w_Q_oldestOf_0 {r : Nat} {rv : Int32} (G : Cx p s m args meth c (dC, dI) cls6 (tyl dA) "BankTimes$Queue" k_Q_oldestOf 3 (some .int)) (hI : Is_Q dA b N sh B C r)   : ∀ (x1 : Int32) (M : Mm) (ls : Array Slot), va_P (dC, dI) cls6 (wd b N sh M) s.heap → va_S (reg b N s.heap.size) s.heap s.heap [] → lv_has ls 3 [(0, .ref (b + r)), (1, .int x1)] → f_Q_oldestOf B C r x1 M = some rv → W p l e rm_Q_oldestOf s m args below meth c s.heap [] 0 0 (MQ below (Qro rv) args s 0 0 nofree) (F0 m 0 ls []) := by
  obtain ⟨hx, hb, hml, hr, hown, hts, hlk, hK⟩ := id G
  intro x1 M ls hP hS hl h
  unfold f_Q_oldestOf at h
  refine lv_iconst (v := 0) hx hb d_Q_oldestOf_0 (by decide) ?_
  refine lv_istore_n (lv' := [(2, .int 0), (0, .ref (b + r)), (1, .int x1)]) hx hb d_Q_oldestOf_1 rfl hl (by decide) rfl (fun ls hl => ?_)
  exact w_Q_oldestOf_2 G hI  1200 x1 0 M _ hP hS (lv_sub hl [1, 2, 0] rfl) h
theorem c_Q_oldestOf (l : Launch) (r : Nat) (x1 : Int32) (M : Mm) (sz : Nat) (hI : Is_Q dA b N sh B C r) {rv : Int32} (h : f_Q_oldestOf B C r x1 M = some rv) : Met l y_Q_oldestOf (wm y_Q_oldestOf k_Q_oldestOf 3 (some .int)) rm_Q_oldestOf (Pw (dC, dI) cls6 (tyl dA) b N sh [.ref (b + r), .int x1] M sz) (Qro rv) 0 0 nofree := by
  refine mk_met (by decide) (Nat.le_of_ble_eq_true rfl) ?_
  intro p e s m below meth c ls G hsz hP hS hl
  subst hsz
  exact w_Q_oldestOf_0 G hI _ _ ls hP hS hl h
end
