abbrev rm_D_thrown : Room := { frames := 0, cells := 0, slots := 0, locals := 0 }
def f_D_thrown (B C : Nat) (M : Mm) : Option (Int32) := some (M 0 0)
section
variable {p : Program} {l : Launch} {e : Env} {s : State} {m : MethodId} {args : Array Value} {below : List Frame} {meth : Method} {c : Code} {dC : Nat → ClassId} {dI : Nat → Nat → Nat} {dA : Nat → ClassId} {b N B C : Nat} {sh : Shp}
set_option maxHeartbeats 4000000 in
set_option maxRecDepth 100000 in
theorem w_D_thrown_0 {rv : Int32} (G : Cx p s m args meth c (dC, dI) cls6 (tyl dA) "BankTimesModel" k_D_thrown 1 (some .int)) (hI : Is_D dA b N sh B C 0)   : ∀ (M : Mm) (ls : Array Slot), va_P (dC, dI) cls6 (wd b N sh M) s.heap → va_S (reg b N s.heap.size) s.heap s.heap [] → lv_has ls 1 [(0, .ref (b + 0))] → f_D_thrown B C M = some rv → W p l e rm_D_thrown s m args below meth c s.heap [] 0 0 (MQ below (Qro rv) args s 0 0 nofree) (F0 m 0 ls []) := by
  obtain ⟨hx, hb, hml, hr, hown, hts, hlk, hK⟩ := id G
  intro M ls hP hS hl h
  unfold f_D_thrown at h
  refine lv_aload_n hx hb d_D_thrown_0 rfl (lv_at hl 0 rfl) ?_
  refine wd_geti hx hb hts i_D hown hK hP 0 hI.1 hI.2.1 rfl 0 (by decide) t_213 rfl d_D_thrown_1 ?_
  obtain rfl := oe h
  exact wd_iret0 hx hb hr hlk d_D_thrown_4
theorem c_D_thrown (l : Launch) (M : Mm) (sz : Nat) (hI : Is_D dA b N sh B C 0) {rv : Int32} (h : f_D_thrown B C M = some rv) : Met l y_D_thrown (wm y_D_thrown k_D_thrown 1 (some .int)) rm_D_thrown (Pw (dC, dI) cls6 (tyl dA) b N sh [.ref (b + 0)] M sz) (Qro rv) 0 0 nofree := by
  refine mk_met (by decide) (Nat.le_of_ble_eq_true rfl) ?_
  intro p e s m below meth c ls G hsz hP hS hl
  subst hsz
  exact w_D_thrown_0 G hI _ ls hP hS hl h
end
abbrev rm_D_fail : Room := { frames := 0, cells := 0, slots := 0, locals := 0 }
def f_D_fail (B C : Nat) (x1 : Int32) (M : Mm) : Option (Int32 × Mm) := bnd (up2 M 0 0 x1) (fun M2 => some (0, M2))
section
variable {p : Program} {l : Launch} {e : Env} {s : State} {m : MethodId} {args : Array Value} {below : List Frame} {meth : Method} {c : Code} {dC : Nat → ClassId} {dI : Nat → Nat → Nat} {dA : Nat → ClassId} {b N B C : Nat} {sh : Shp}
set_option maxHeartbeats 4000000 in
set_option maxRecDepth 100000 in
theorem w_D_fail_0 {rv : Int32} {M' : Mm} (G : Cx p s m args meth c (dC, dI) cls6 (tyl dA) "BankTimesModel" k_D_fail 2 (some .int)) (hI : Is_D dA b N sh B C 0)   : ∀ (x1 : Int32) (M : Mm) (ls : Array Slot), va_P (dC, dI) cls6 (wd b N sh M) s.heap → va_S (reg b N s.heap.size) s.heap s.heap [] → lv_has ls 2 [(0, .ref (b + 0)), (1, .int x1)] → f_D_fail B C x1 M = some (rv, M') → W p l e rm_D_fail s m args below meth c s.heap [] 0 0 (MQ below (Qwi (dC, dI) cls6 b N sh rv M' s.heap.size) args s 0 0 (reg b N s.heap.size)) (F0 m 0 ls []) := by
  obtain ⟨hx, hb, hml, hr, hown, hts, hlk, hK⟩ := id G
  intro x1 M ls hP hS hl h
  unfold f_D_fail at h
  refine lv_aload_n hx hb d_D_fail_0 rfl (lv_at hl 0 rfl) ?_
  refine lv_iload_n hx hb d_D_fail_1 rfl (lv_at hl 1 rfl) ?_
  obtain ⟨M2, eM2, h⟩ := ln h
  refine wd_puti hx hb hts i_D ty_D tyok_D nm_D hown hK hP hS 0 hI.1 hI.2.1 rfl 0 (by decide) t_213 rfl rfl (ty := .int) (by decide +kernel) rfl rfl d_D_fail_2 (fun H locs hP hS => ?_)
  rw [← eM2] at hP
  refine lv_iconst (v := 0) hx hb d_D_fail_5 (by decide) ?_
  obtain ⟨rfl, rfl⟩ := oe2 h
  exact wd_iret hx hb hr hlk hP hS d_D_fail_6
theorem c_D_fail (l : Launch) (x1 : Int32) (M : Mm) (sz : Nat) (hI : Is_D dA b N sh B C 0) {rv : Int32} {M' : Mm} (h : f_D_fail B C x1 M = some (rv, M')) : Met l y_D_fail (wm y_D_fail k_D_fail 2 (some .int)) rm_D_fail (Pw (dC, dI) cls6 (tyl dA) b N sh [.ref (b + 0), .int x1] M sz) (Qwi (dC, dI) cls6 b N sh rv M' sz) 0 0 (reg b N sz) := by
  refine mk_met (by decide) (Nat.le_of_ble_eq_true rfl) ?_
  intro p e s m below meth c ls G hsz hP hS hl
  subst hsz
  exact w_D_fail_0 G hI _ _ ls hP hS hl h
end
abbrev rm_D_within : Room := { frames := 0, cells := 0, slots := 0, locals := 0 }
def f_D_within (B C : Nat) (x0 x1 x2 : Int32) (M : Mm) : Option (Int32) := (if x0 < x1 then some 0 else (if x2 < x0 then some 0 else some 1))
section
variable {p : Program} {l : Launch} {e : Env} {s : State} {m : MethodId} {args : Array Value} {below : List Frame} {meth : Method} {c : Code} {dC : Nat → ClassId} {dI : Nat → Nat → Nat} {dA : Nat → ClassId} {b N B C : Nat} {sh : Shp}
set_option maxHeartbeats 4000000 in
set_option maxRecDepth 100000 in
theorem w_D_within_0 {rv : Int32} (G : Cx p s m args meth c (dC, dI) cls6 (tyl dA) "BankTimesModel" k_D_within 3 (some .boolean))   : ∀ (x0 x1 x2 : Int32) (M : Mm) (ls : Array Slot), va_P (dC, dI) cls6 (wd b N sh M) s.heap → va_S (reg b N s.heap.size) s.heap s.heap [] → lv_has ls 3 [(0, .int x0), (1, .int x1), (2, .int x2)] → f_D_within B C x0 x1 x2 M = some rv → W p l e rm_D_within s m args below meth c s.heap [] 0 0 (MQ below (Qro rv) args s 0 0 nofree) (F0 m 0 ls []) := by
  obtain ⟨hx, hb, hml, hr, hown, hts, hlk, hK⟩ := id G
  intro x0 x1 x2 M ls hP hS hl h
  unfold f_D_within at h
  refine lv_iload_n hx hb d_D_within_0 rfl (lv_at hl 0 rfl) ?_
  refine lv_iload_n hx hb d_D_within_1 rfl (lv_at hl 1 rfl) ?_
  refine lv_icmp_lt (tgt := 14) hx hb d_D_within_2 (by decide) (fun c2 => ?_) (fun c2 => ?_)
  · replace h := ogt c2 h
    refine lv_iconst (v := 0) hx hb d_D_within_14 (by decide) ?_
    obtain rfl := oe h
    exact wd_zret0 hx hb hr rfl hlk d_D_within_15
  · replace h := ogf c2 h
    refine lv_iload_n hx hb d_D_within_5 rfl (lv_at hl 0 rfl) ?_
    refine lv_iload_n hx hb d_D_within_6 rfl (lv_at hl 2 rfl) ?_
    refine lv_icmp_gt (tgt := 14) hx hb d_D_within_7 (by decide) (fun c7 => ?_) (fun c7 => ?_)
    · replace h := ogt c7 h
      refine lv_iconst (v := 0) hx hb d_D_within_14 (by decide) ?_
      obtain rfl := oe h
      exact wd_zret0 hx hb hr rfl hlk d_D_within_15
    · replace h := ogf c7 h
      refine lv_iconst (v := 1) hx hb d_D_within_10 (by decide) ?_
      refine lv_goto (tgt := 15) hx hb d_D_within_11 (by decide) ?_
      obtain rfl := oe h
      exact wd_zret0 hx hb hr rfl hlk d_D_within_15
theorem c_D_within (l : Launch) (x0 x1 x2 : Int32) (M : Mm) (sz : Nat) {rv : Int32} (h : f_D_within B C x0 x1 x2 M = some rv) : Met l y_D_within (wm y_D_within k_D_within 3 (some .boolean)) rm_D_within (Pw (dC, dI) cls6 (tyl dA) b N sh [.int x0, .int x1, .int x2] M sz) (Qro rv) 0 0 nofree := by
  refine mk_met (by decide) (Nat.le_of_ble_eq_true rfl) ?_
  intro p e s m below meth c ls G hsz hP hS hl
  subst hsz
  exact w_D_within_0 G _ _ _ _ ls hP hS hl h
end
abbrev rm_D_clear : Room := { frames := 0, cells := 0, slots := 0, locals := 0 }
def B_D_clear_94 (B C : Nat) : Nat → Int32 → Int32 → Mm → Option (Mm)
  | 0, _, _, _ => none
  | n + 1, x1, x2, M => (if 4 ≤ x2 then some M else (if ixb ((4 * x1) + x2) 16 = true then bnd (up2 M 10 ((4 * x1) + x2).toNatClampNeg (-100000)) (fun M110 => bnd (x2 + 1) (fun v111 => B_D_clear_94 B C n x1 v111 M110)) else none))
def B_D_clear_5 (B C : Nat) : Nat → Int32 → Int32 → Mm → Option (Mm)
  | 0, _, _, _ => none
  | n + 1, x1, x2, M => (if ((8 * x1) + 8) ≤ x2 then (if ixb x1 4 = true then bnd (up2 M 7 x1.toNatClampNeg (-100000)) (fun M68 => (if ixb x1 4 = true then bnd (up2 M68 8 x1.toNatClampNeg (-100000)) (fun M76 => (if ixb x1 4 = true then bnd (up2 M76 9 x1.toNatClampNeg (-100000)) (fun M84 => (if ixb x1 4 = true then bnd (up2 M84 11 x1.toNatClampNeg (-1)) (fun M91 => B_D_clear_94 B C 1200 x1 0 M91) else none)) else none)) else none)) else none) else (if ixb x2 32 = true then bnd (up2 M 2 x2.toNatClampNeg (-1)) (fun M22 => (if ixb x2 32 = true then bnd (up2 M22 3 x2.toNatClampNeg (-100000)) (fun M30 => (if ixb x2 32 = true then bnd (up2 M30 4 x2.toNatClampNeg (-100000)) (fun M38 => (if ixb x2 32 = true then bnd (up2 M38 5 x2.toNatClampNeg (-100000)) (fun M46 => (if ixb x2 32 = true then bnd (up2 M46 6 x2.toNatClampNeg (-100000)) (fun M54 => bnd (x2 + 1) (fun v55 => B_D_clear_5 B C n x1 v55 M54)) else none)) else none)) else none)) else none)) else none))
def f_D_clear (B C : Nat) (x1 : Int32) (M : Mm) : Option (Mm) := bnd (8 * x1) (fun v4 => B_D_clear_5 B C 1200 x1 v4 M)
section
variable {p : Program} {l : Launch} {e : Env} {s : State} {m : MethodId} {args : Array Value} {below : List Frame} {meth : Method} {c : Code} {dC : Nat → ClassId} {dI : Nat → Nat → Nat} {dA : Nat → ClassId} {b N B C : Nat} {sh : Shp}
set_option maxHeartbeats 4000000 in
set_option maxRecDepth 100000 in
theorem w_D_clear_94 {M' : Mm} (G : Cx p s m args meth c (dC, dI) cls6 (tyl dA) "BankTimesModel" k_D_clear 3 none) (hI : Is_D dA b N sh B C 0)   : ∀ (n : Nat) (x1 x2 : Int32) (M : Mm) (H : Heap) (locs : List Loc) (ls : Array Slot), va_P (dC, dI) cls6 (wd b N sh M) H → va_S (reg b N s.heap.size) s.heap H locs → lv_has ls 3 [(0, .ref (b + 0)), (1, .int x1), (2, .int x2)] → B_D_clear_94 B C n x1 x2 M = some M' → W p l e rm_D_clear s m args below meth c H locs 0 0 (MQ below (Qwv (dC, dI) cls6 b N sh M' s.heap.size) args s 0 0 (reg b N s.heap.size)) (F0 m 94 ls []) := by
  obtain ⟨hx, hb, hml, hr, hown, hts, hlk, hK⟩ := id G
  intro n
  induction n with
  | zero =>
    intro x1 x2 M H locs ls hP hS hl h
    cases h
  | succ n ih =>
    intro x1 x2 M H locs ls hP hS hl h
    rw [B_D_clear_94] at h
    refine lv_iload_n hx hb d_D_clear_94 rfl (lv_at hl 2 rfl) ?_
    refine lv_iconst (v := 4) hx hb d_D_clear_95 (by decide) ?_
    refine lv_icmp_ge (tgt := 117) hx hb d_D_clear_96 (by decide) (fun c96 => ?_) (fun c96 => ?_)
    · replace h := ogt c96 h
      obtain rfl := oe h
      exact wd_vret hx hb hr hlk hP hS d_D_clear_117
    · replace h := ogf c96 h
      refine lv_aload_n hx hb d_D_clear_99 rfl (lv_at hl 0 rfl) ?_
      refine wd_getr hx hb hts i_D hown hK hP 0 hI.1 hI.2.1 rfl 16 (by decide) t_219 rfl d_D_clear_100 ?_
      refine lv_iconst (v := 4) hx hb d_D_clear_103 (by decide) ?_
      refine lv_iload_n hx hb d_D_clear_104 rfl (lv_at hl 1 rfl) ?_
      refine lv_imul hx hb d_D_clear_105 ?_
      refine lv_iload_n hx hb d_D_clear_106 rfl (lv_at hl 2 rfl) ?_
      refine lv_iadd hx hb d_D_clear_107 ?_
      refine lv_ldc (v := (-100000)) hx hb hown (hts _ t_215) d_D_clear_108 ?_
      obtain ⟨hi110, h⟩ := og h
      obtain ⟨M110, eM110, h⟩ := ln h
      refine wd_iast hx hb hK hP hS 10 0 hI.2.2.2.2.2.2.2.2.2.2.2.1.1 hI.2.2.2.2.2.2.2.2.2.2.2.1.2 rfl hi110 d_D_clear_110 (fun H locs hP hS => ?_)
      rw [← eM110] at hP
      obtain ⟨v111, e111, h⟩ := ln h
      refine lv_iinc (v := v111) (lv' := [(2, .int v111), (0, .ref (b + 0)), (1, .int x1)]) hx hb d_D_clear_111 hl (k := 2) rfl (by rw [e111]; rfl) (by decide) rfl (fun ls hl => ?_)
      refine lv_goto (tgt := 94) hx hb d_D_clear_114 (by decide) ?_
      exact ih x1 v111 M110 _ _ _ hP hS (lv_sub hl [1, 2, 0] rfl) h
set_option maxHeartbeats 4000000 in
set_option maxRecDepth 100000 in
theorem w_D_clear_5 {M' : Mm} (G : Cx p s m args meth c (dC, dI) cls6 (tyl dA) "BankTimesModel" k_D_clear 3 none) (hI : Is_D dA b N sh B C 0)   : ∀ (n : Nat) (x1 x2 : Int32) (M : Mm) (H : Heap) (locs : List Loc) (ls : Array Slot), va_P (dC, dI) cls6 (wd b N sh M) H → va_S (reg b N s.heap.size) s.heap H locs → lv_has ls 3 [(0, .ref (b + 0)), (1, .int x1), (2, .int x2)] → B_D_clear_5 B C n x1 x2 M = some M' → W p l e rm_D_clear s m args below meth c H locs 0 0 (MQ below (Qwv (dC, dI) cls6 b N sh M' s.heap.size) args s 0 0 (reg b N s.heap.size)) (F0 m 5 ls []) := by
  obtain ⟨hx, hb, hml, hr, hown, hts, hlk, hK⟩ := id G
  intro n
  induction n with
  | zero =>
    intro x1 x2 M H locs ls hP hS hl h
    cases h
  | succ n ih =>
    intro x1 x2 M H locs ls hP hS hl h
    rw [B_D_clear_5] at h
    refine lv_iload_n hx hb d_D_clear_5 rfl (lv_at hl 2 rfl) ?_
    refine lv_bipush (v := 8) hx hb d_D_clear_6 (by decide) ?_
    refine lv_iload_n hx hb d_D_clear_8 rfl (lv_at hl 1 rfl) ?_
    refine lv_imul hx hb d_D_clear_9 ?_
    refine lv_bipush (v := 8) hx hb d_D_clear_10 (by decide) ?_
    refine lv_iadd hx hb d_D_clear_12 ?_
    refine lv_icmp_ge (tgt := 61) hx hb d_D_clear_13 (by decide) (fun c13 => ?_) (fun c13 => ?_)
    · replace h := ogt c13 h
      refine lv_aload_n hx hb d_D_clear_61 rfl (lv_at hl 0 rfl) ?_
      refine wd_getr hx hb hts i_D hown hK hP 0 hI.1 hI.2.1 rfl 13 (by decide) t_214 rfl d_D_clear_62 ?_
      refine lv_iload_n hx hb d_D_clear_65 rfl (lv_at hl 1 rfl) ?_
      refine lv_ldc (v := (-100000)) hx hb hown (hts _ t_215) d_D_clear_66 ?_
      obtain ⟨hi68, h⟩ := og h
      obtain ⟨M68, eM68, h⟩ := ln h
      refine wd_iast hx hb hK hP hS 7 0 hI.2.2.2.2.2.2.2.2.1.1 hI.2.2.2.2.2.2.2.2.1.2 rfl hi68 d_D_clear_68 (fun H locs hP hS => ?_)
      rw [← eM68] at hP
      refine lv_aload_n hx hb d_D_clear_69 rfl (lv_at hl 0 rfl) ?_
      refine wd_getr hx hb hts i_D hown hK hP 0 hI.1 hI.2.1 rfl 14 (by decide) t_216 rfl d_D_clear_70 ?_
      refine lv_iload_n hx hb d_D_clear_73 rfl (lv_at hl 1 rfl) ?_
      refine lv_ldc (v := (-100000)) hx hb hown (hts _ t_215) d_D_clear_74 ?_
      obtain ⟨hi76, h⟩ := og h
      obtain ⟨M76, eM76, h⟩ := ln h
      refine wd_iast hx hb hK hP hS 8 0 hI.2.2.2.2.2.2.2.2.2.1.1 hI.2.2.2.2.2.2.2.2.2.1.2 rfl hi76 d_D_clear_76 (fun H locs hP hS => ?_)
      rw [← eM76] at hP
      refine lv_aload_n hx hb d_D_clear_77 rfl (lv_at hl 0 rfl) ?_
      refine wd_getr hx hb hts i_D hown hK hP 0 hI.1 hI.2.1 rfl 15 (by decide) t_217 rfl d_D_clear_78 ?_
      refine lv_iload_n hx hb d_D_clear_81 rfl (lv_at hl 1 rfl) ?_
      refine lv_ldc (v := (-100000)) hx hb hown (hts _ t_215) d_D_clear_82 ?_
      obtain ⟨hi84, h⟩ := og h
      obtain ⟨M84, eM84, h⟩ := ln h
      refine wd_iast hx hb hK hP hS 9 0 hI.2.2.2.2.2.2.2.2.2.2.1.1 hI.2.2.2.2.2.2.2.2.2.2.1.2 rfl hi84 d_D_clear_84 (fun H locs hP hS => ?_)
      rw [← eM84] at hP
      refine lv_aload_n hx hb d_D_clear_85 rfl (lv_at hl 0 rfl) ?_
      refine wd_getr hx hb hts i_D hown hK hP 0 hI.1 hI.2.1 rfl 17 (by decide) t_218 rfl d_D_clear_86 ?_
      refine lv_iload_n hx hb d_D_clear_89 rfl (lv_at hl 1 rfl) ?_
      refine lv_iconst (v := (-1)) hx hb d_D_clear_90 (by decide) ?_
      obtain ⟨hi91, h⟩ := og h
      obtain ⟨M91, eM91, h⟩ := ln h
      refine wd_iast hx hb hK hP hS 11 0 hI.2.2.2.2.2.2.2.2.2.2.2.2.1.1 hI.2.2.2.2.2.2.2.2.2.2.2.2.1.2 rfl hi91 d_D_clear_91 (fun H locs hP hS => ?_)
      rw [← eM91] at hP
      refine lv_iconst (v := 0) hx hb d_D_clear_92 (by decide) ?_
      refine lv_istore_n (lv' := [(2, .int 0), (0, .ref (b + 0)), (1, .int x1)]) hx hb d_D_clear_93 rfl hl (by decide) rfl (fun ls hl => ?_)
      exact w_D_clear_94 G hI  1200 x1 0 M91 _ _ _ hP hS (lv_sub hl [1, 2, 0] rfl) h
    · replace h := ogf c13 h
      refine lv_aload_n hx hb d_D_clear_16 rfl (lv_at hl 0 rfl) ?_
      refine wd_getr hx hb hts i_D hown hK hP 0 hI.1 hI.2.1 rfl 8 (by decide) t_220 rfl d_D_clear_17 ?_
      refine lv_iload_n hx hb d_D_clear_20 rfl (lv_at hl 2 rfl) ?_
      refine lv_iconst (v := (-1)) hx hb d_D_clear_21 (by decide) ?_
      obtain ⟨hi22, h⟩ := og h
      obtain ⟨M22, eM22, h⟩ := ln h
      refine wd_iast hx hb hK hP hS 2 0 hI.2.2.2.1.1 hI.2.2.2.1.2 rfl hi22 d_D_clear_22 (fun H locs hP hS => ?_)
      rw [← eM22] at hP
      refine lv_aload_n hx hb d_D_clear_23 rfl (lv_at hl 0 rfl) ?_
      refine wd_getr hx hb hts i_D hown hK hP 0 hI.1 hI.2.1 rfl 9 (by decide) t_221 rfl d_D_clear_24 ?_
      refine lv_iload_n hx hb d_D_clear_27 rfl (lv_at hl 2 rfl) ?_
      refine lv_ldc (v := (-100000)) hx hb hown (hts _ t_215) d_D_clear_28 ?_
      obtain ⟨hi30, h⟩ := og h
      obtain ⟨M30, eM30, h⟩ := ln h
      refine wd_iast hx hb hK hP hS 3 0 hI.2.2.2.2.1.1 hI.2.2.2.2.1.2 rfl hi30 d_D_clear_30 (fun H locs hP hS => ?_)
      rw [← eM30] at hP
      refine lv_aload_n hx hb d_D_clear_31 rfl (lv_at hl 0 rfl) ?_
      refine wd_getr hx hb hts i_D hown hK hP 0 hI.1 hI.2.1 rfl 10 (by decide) t_222 rfl d_D_clear_32 ?_
      refine lv_iload_n hx hb d_D_clear_35 rfl (lv_at hl 2 rfl) ?_
      refine lv_ldc (v := (-100000)) hx hb hown (hts _ t_215) d_D_clear_36 ?_
      obtain ⟨hi38, h⟩ := og h
      obtain ⟨M38, eM38, h⟩ := ln h
      refine wd_iast hx hb hK hP hS 4 0 hI.2.2.2.2.2.1.1 hI.2.2.2.2.2.1.2 rfl hi38 d_D_clear_38 (fun H locs hP hS => ?_)
      rw [← eM38] at hP
      refine lv_aload_n hx hb d_D_clear_39 rfl (lv_at hl 0 rfl) ?_
      refine wd_getr hx hb hts i_D hown hK hP 0 hI.1 hI.2.1 rfl 11 (by decide) t_223 rfl d_D_clear_40 ?_
      refine lv_iload_n hx hb d_D_clear_43 rfl (lv_at hl 2 rfl) ?_
      refine lv_ldc (v := (-100000)) hx hb hown (hts _ t_215) d_D_clear_44 ?_
      obtain ⟨hi46, h⟩ := og h
      obtain ⟨M46, eM46, h⟩ := ln h
      refine wd_iast hx hb hK hP hS 5 0 hI.2.2.2.2.2.2.1.1 hI.2.2.2.2.2.2.1.2 rfl hi46 d_D_clear_46 (fun H locs hP hS => ?_)
      rw [← eM46] at hP
      refine lv_aload_n hx hb d_D_clear_47 rfl (lv_at hl 0 rfl) ?_
      refine wd_getr hx hb hts i_D hown hK hP 0 hI.1 hI.2.1 rfl 12 (by decide) t_224 rfl d_D_clear_48 ?_
      refine lv_iload_n hx hb d_D_clear_51 rfl (lv_at hl 2 rfl) ?_
      refine lv_ldc (v := (-100000)) hx hb hown (hts _ t_215) d_D_clear_52 ?_
      obtain ⟨hi54, h⟩ := og h
      obtain ⟨M54, eM54, h⟩ := ln h
      refine wd_iast hx hb hK hP hS 6 0 hI.2.2.2.2.2.2.2.1.1 hI.2.2.2.2.2.2.2.1.2 rfl hi54 d_D_clear_54 (fun H locs hP hS => ?_)
      rw [← eM54] at hP
      obtain ⟨v55, e55, h⟩ := ln h
      refine lv_iinc (v := v55) (lv' := [(2, .int v55), (0, .ref (b + 0)), (1, .int x1)]) hx hb d_D_clear_55 hl (k := 2) rfl (by rw [e55]; rfl) (by decide) rfl (fun ls hl => ?_)
      refine lv_goto (tgt := 5) hx hb d_D_clear_58 (by decide) ?_
      exact ih x1 v55 M54 _ _ _ hP hS (lv_sub hl [1, 2, 0] rfl) h
set_option maxHeartbeats 4000000 in
set_option maxRecDepth 100000 in
theorem w_D_clear_0 {M' : Mm} (G : Cx p s m args meth c (dC, dI) cls6 (tyl dA) "BankTimesModel" k_D_clear 3 none) (hI : Is_D dA b N sh B C 0)   : ∀ (x1 : Int32) (M : Mm) (ls : Array Slot), va_P (dC, dI) cls6 (wd b N sh M) s.heap → va_S (reg b N s.heap.size) s.heap s.heap [] → lv_has ls 3 [(0, .ref (b + 0)), (1, .int x1)] → f_D_clear B C x1 M = some M' → W p l e rm_D_clear s m args below meth c s.heap [] 0 0 (MQ below (Qwv (dC, dI) cls6 b N sh M' s.heap.size) args s 0 0 (reg b N s.heap.size)) (F0 m 0 ls []) := by
  obtain ⟨hx, hb, hml, hr, hown, hts, hlk, hK⟩ := id G
  intro x1 M ls hP hS hl h
  unfold f_D_clear at h
  refine lv_bipush (v := 8) hx hb d_D_clear_0 (by decide) ?_
  refine lv_iload_n hx hb d_D_clear_2 rfl (lv_at hl 1 rfl) ?_
  refine lv_imul hx hb d_D_clear_3 ?_
  obtain ⟨v4, e4, h⟩ := ln h
  refine lv_nm e4 ?_
  refine lv_istore_n (lv' := [(2, .int v4), (0, .ref (b + 0)), (1, .int x1)]) hx hb d_D_clear_4 rfl hl (by decide) rfl (fun ls hl => ?_)
  exact w_D_clear_5 G hI  1200 x1 v4 M _ _ _ hP hS (lv_sub hl [1, 2, 0] rfl) h
theorem c_D_clear (l : Launch) (x1 : Int32) (M : Mm) (sz : Nat) (hI : Is_D dA b N sh B C 0) {M' : Mm} (h : f_D_clear B C x1 M = some M') : Met l y_D_clear (wm y_D_clear k_D_clear 3 none) rm_D_clear (Pw (dC, dI) cls6 (tyl dA) b N sh [.ref (b + 0), .int x1] M sz) (Qwv (dC, dI) cls6 b N sh M' sz) 0 0 (reg b N sz) := by
  refine mk_met (by decide) (Nat.le_of_ble_eq_true rfl) ?_
  intro p e s m below meth c ls G hsz hP hS hl
  subst hsz
  exact w_D_clear_0 G hI _ _ ls hP hS hl h
end
abbrev rm_D_isAddress : Room := { frames := 1, cells := 0, slots := 0, locals := 22 }
def f_D_isAddress (B C : Nat) (x1 : Int32) (M : Mm) : Option (Int32) := (f_D_within B C x1 0 1048575 M).bind (fun q4 => (if bz q4 = true then some q4 else none))
section
variable {p : Program} {l : Launch} {e : Env} {s : State} {m : MethodId} {args : Array Value} {below : List Frame} {meth : Method} {c : Code} {dC : Nat → ClassId} {dI : Nat → Nat → Nat} {dA : Nat → ClassId} {b N B C : Nat} {sh : Shp}
set_option maxHeartbeats 4000000 in
set_option maxRecDepth 100000 in
theorem w_D_isAddress_0 {rv : Int32} (G : Cx p s m args meth c (dC, dI) cls6 (tyl dA) "BankTimesModel" k_D_isAddress 2 (some .boolean)) (hI : Is_D dA b N sh B C 0)   : ∀ (x1 : Int32) (M : Mm) (ls : Array Slot), va_P (dC, dI) cls6 (wd b N sh M) s.heap → va_S (reg b N s.heap.size) s.heap s.heap [] → lv_has ls 2 [(0, .ref (b + 0)), (1, .int x1)] → f_D_isAddress B C x1 M = some rv → W p l e rm_D_isAddress s m args below meth c s.heap [] 0 0 (MQ below (Qro rv) args s 0 0 nofree) (F0 m 0 ls []) := by
  obtain ⟨hx, hb, hml, hr, hown, hts, hlk, hK⟩ := id G
  intro x1 M ls hP hS hl h
  unfold f_D_isAddress at h
  refine lv_iload_n hx hb d_D_isAddress_0 rfl (lv_at hl 1 rfl) ?_
  refine lv_iconst (v := 0) hx hb d_D_isAddress_1 (by decide) ?_
  refine lv_ldc (v := 1048575) hx hb hown (hts _ t_225) d_D_isAddress_2 ?_
  obtain ⟨q4, hc4, h⟩ := obd h
  refine wd_csr (As := [.int x1, .int 0, .int 1048575]) (rest := []) ⟨hx, hb, hml, hown, hts⟩ hK hP (c_D_within l x1 0 1048575 M _  hc4) ⟨callB_of 3 hts (wm_good t_227) rfl rfl rfl (hts _ t_229) (hts _ t_226) (by decide +kernel) ⟨by decide, by decide⟩, hts _ t_228⟩ rfl hl.1 rfl (Nat.le_of_ble_eq_true rfl) d_D_isAddress_4 ⟨Nat.zero_le _, Nat.zero_le _⟩ ?_
  obtain ⟨hz7, h⟩ := og h
  obtain rfl := oe h
  exact wd_zret0 hx hb hr (nbz hz7) hlk d_D_isAddress_7
theorem c_D_isAddress (l : Launch) (x1 : Int32) (M : Mm) (sz : Nat) (hI : Is_D dA b N sh B C 0) {rv : Int32} (h : f_D_isAddress B C x1 M = some rv) : Met l y_D_isAddress (wm y_D_isAddress k_D_isAddress 2 (some .boolean)) rm_D_isAddress (Pw (dC, dI) cls6 (tyl dA) b N sh [.ref (b + 0), .int x1] M sz) (Qro rv) 0 0 nofree := by
  refine mk_met (by decide) (Nat.le_of_ble_eq_true rfl) ?_
  intro p e s m below meth c ls G hsz hP hS hl
  subst hsz
  exact w_D_isAddress_0 G hI _ _ ls hP hS hl h
end
abbrev rm_D_channelOf : Room := { frames := 0, cells := 0, slots := 0, locals := 0 }
def f_D_channelOf (B C : Nat) (x1 : Int32) (M : Mm) : Option (Int32) := some ((x1 >>> (4 &&& 31)) &&& ((M 0 1) - 1))
section
variable {p : Program} {l : Launch} {e : Env} {s : State} {m : MethodId} {args : Array Value} {below : List Frame} {meth : Method} {c : Code} {dC : Nat → ClassId} {dI : Nat → Nat → Nat} {dA : Nat → ClassId} {b N B C : Nat} {sh : Shp}
set_option maxHeartbeats 4000000 in
set_option maxRecDepth 100000 in
theorem w_D_channelOf_0 {rv : Int32} (G : Cx p s m args meth c (dC, dI) cls6 (tyl dA) "BankTimesModel" k_D_channelOf 2 (some .int)) (hI : Is_D dA b N sh B C 0)   : ∀ (x1 : Int32) (M : Mm) (ls : Array Slot), va_P (dC, dI) cls6 (wd b N sh M) s.heap → va_S (reg b N s.heap.size) s.heap s.heap [] → lv_has ls 2 [(0, .ref (b + 0)), (1, .int x1)] → f_D_channelOf B C x1 M = some rv → W p l e rm_D_channelOf s m args below meth c s.heap [] 0 0 (MQ below (Qro rv) args s 0 0 nofree) (F0 m 0 ls []) := by
  obtain ⟨hx, hb, hml, hr, hown, hts, hlk, hK⟩ := id G
  intro x1 M ls hP hS hl h
  unfold f_D_channelOf at h
  refine lv_iload_n hx hb d_D_channelOf_0 rfl (lv_at hl 1 rfl) ?_
  refine lv_iconst (v := 4) hx hb d_D_channelOf_1 (by decide) ?_
  refine lv_ishr hx hb d_D_channelOf_2 ?_
  refine lv_aload_n hx hb d_D_channelOf_3 rfl (lv_at hl 0 rfl) ?_
  refine wd_geti hx hb hts i_D hown hK hP 0 hI.1 hI.2.1 rfl 1 (by decide) t_230 rfl d_D_channelOf_4 ?_
  refine lv_iconst (v := 1) hx hb d_D_channelOf_7 (by decide) ?_
  refine lv_isub hx hb d_D_channelOf_8 ?_
  refine lv_iand hx hb d_D_channelOf_9 ?_
  obtain rfl := oe h
  exact wd_iret0 hx hb hr hlk d_D_channelOf_10
theorem c_D_channelOf (l : Launch) (x1 : Int32) (M : Mm) (sz : Nat) (hI : Is_D dA b N sh B C 0) {rv : Int32} (h : f_D_channelOf B C x1 M = some rv) : Met l y_D_channelOf (wm y_D_channelOf k_D_channelOf 2 (some .int)) rm_D_channelOf (Pw (dC, dI) cls6 (tyl dA) b N sh [.ref (b + 0), .int x1] M sz) (Qro rv) 0 0 nofree := by
  refine mk_met (by decide) (Nat.le_of_ble_eq_true rfl) ?_
  intro p e s m below meth c ls G hsz hP hS hl
  subst hsz
  exact w_D_channelOf_0 G hI _ _ ls hP hS hl h
end
abbrev rm_D_bankOf : Room := { frames := 0, cells := 0, slots := 0, locals := 0 }
def f_D_bankOf (B C : Nat) (x1 : Int32) (M : Mm) : Option (Int32) := some ((x1 >>> ((3 + (M 0 1)) &&& 31)) &&& ((M 0 2) - 1))
section
variable {p : Program} {l : Launch} {e : Env} {s : State} {m : MethodId} {args : Array Value} {below : List Frame} {meth : Method} {c : Code} {dC : Nat → ClassId} {dI : Nat → Nat → Nat} {dA : Nat → ClassId} {b N B C : Nat} {sh : Shp}
set_option maxHeartbeats 4000000 in
set_option maxRecDepth 100000 in
theorem w_D_bankOf_0 {rv : Int32} (G : Cx p s m args meth c (dC, dI) cls6 (tyl dA) "BankTimesModel" k_D_bankOf 2 (some .int)) (hI : Is_D dA b N sh B C 0)   : ∀ (x1 : Int32) (M : Mm) (ls : Array Slot), va_P (dC, dI) cls6 (wd b N sh M) s.heap → va_S (reg b N s.heap.size) s.heap s.heap [] → lv_has ls 2 [(0, .ref (b + 0)), (1, .int x1)] → f_D_bankOf B C x1 M = some rv → W p l e rm_D_bankOf s m args below meth c s.heap [] 0 0 (MQ below (Qro rv) args s 0 0 nofree) (F0 m 0 ls []) := by
  obtain ⟨hx, hb, hml, hr, hown, hts, hlk, hK⟩ := id G
  intro x1 M ls hP hS hl h
  unfold f_D_bankOf at h
  refine lv_iload_n hx hb d_D_bankOf_0 rfl (lv_at hl 1 rfl) ?_
  refine lv_iconst (v := 3) hx hb d_D_bankOf_1 (by decide) ?_
  refine lv_aload_n hx hb d_D_bankOf_2 rfl (lv_at hl 0 rfl) ?_
  refine wd_geti hx hb hts i_D hown hK hP 0 hI.1 hI.2.1 rfl 1 (by decide) t_230 rfl d_D_bankOf_3 ?_
  refine lv_iadd hx hb d_D_bankOf_6 ?_
  refine lv_ishr hx hb d_D_bankOf_7 ?_
  refine lv_aload_n hx hb d_D_bankOf_8 rfl (lv_at hl 0 rfl) ?_
  refine wd_geti hx hb hts i_D hown hK hP 0 hI.1 hI.2.1 rfl 2 (by decide) t_231 rfl d_D_bankOf_9 ?_
  refine lv_iconst (v := 1) hx hb d_D_bankOf_12 (by decide) ?_
  refine lv_isub hx hb d_D_bankOf_13 ?_
  refine lv_iand hx hb d_D_bankOf_14 ?_
  obtain rfl := oe h
  exact wd_iret0 hx hb hr hlk d_D_bankOf_15
theorem c_D_bankOf (l : Launch) (x1 : Int32) (M : Mm) (sz : Nat) (hI : Is_D dA b N sh B C 0) {rv : Int32} (h : f_D_bankOf B C x1 M = some rv) : Met l y_D_bankOf (wm y_D_bankOf k_D_bankOf 2 (some .int)) rm_D_bankOf (Pw (dC, dI) cls6 (tyl dA) b N sh [.ref (b + 0), .int x1] M sz) (Qro rv) 0 0 nofree := by
  refine mk_met (by decide) (Nat.le_of_ble_eq_true rfl) ?_
  intro p e s m below meth c ls G hsz hP hS hl
  subst hsz
  exact w_D_bankOf_0 G hI _ _ ls hP hS hl h
end
abbrev rm_D_rowOf : Room := { frames := 0, cells := 0, slots := 0, locals := 0 }
def f_D_rowOf (B C : Nat) (x1 : Int32) (M : Mm) : Option (Int32) := some (x1 >>> (((3 + (M 0 1)) + (M 0 3)) &&& 31))
section
variable {p : Program} {l : Launch} {e : Env} {s : State} {m : MethodId} {args : Array Value} {below : List Frame} {meth : Method} {c : Code} {dC : Nat → ClassId} {dI : Nat → Nat → Nat} {dA : Nat → ClassId} {b N B C : Nat} {sh : Shp}
set_option maxHeartbeats 4000000 in
set_option maxRecDepth 100000 in
theorem w_D_rowOf_0 {rv : Int32} (G : Cx p s m args meth c (dC, dI) cls6 (tyl dA) "BankTimesModel" k_D_rowOf 2 (some .int)) (hI : Is_D dA b N sh B C 0)   : ∀ (x1 : Int32) (M : Mm) (ls : Array Slot), va_P (dC, dI) cls6 (wd b N sh M) s.heap → va_S (reg b N s.heap.size) s.heap s.heap [] → lv_has ls 2 [(0, .ref (b + 0)), (1, .int x1)] → f_D_rowOf B C x1 M = some rv → W p l e rm_D_rowOf s m args below meth c s.heap [] 0 0 (MQ below (Qro rv) args s 0 0 nofree) (F0 m 0 ls []) := by
  obtain ⟨hx, hb, hml, hr, hown, hts, hlk, hK⟩ := id G
  intro x1 M ls hP hS hl h
  unfold f_D_rowOf at h
  refine lv_iload_n hx hb d_D_rowOf_0 rfl (lv_at hl 1 rfl) ?_
  refine lv_iconst (v := 3) hx hb d_D_rowOf_1 (by decide) ?_
  refine lv_aload_n hx hb d_D_rowOf_2 rfl (lv_at hl 0 rfl) ?_
  refine wd_geti hx hb hts i_D hown hK hP 0 hI.1 hI.2.1 rfl 1 (by decide) t_230 rfl d_D_rowOf_3 ?_
  refine lv_iadd hx hb d_D_rowOf_6 ?_
  refine lv_aload_n hx hb d_D_rowOf_7 rfl (lv_at hl 0 rfl) ?_
  refine wd_geti hx hb hts i_D hown hK hP 0 hI.1 hI.2.1 rfl 3 (by decide) t_232 rfl d_D_rowOf_8 ?_
  refine lv_iadd hx hb d_D_rowOf_11 ?_
  refine lv_ishr hx hb d_D_rowOf_12 ?_
  obtain rfl := oe h
  exact wd_iret0 hx hb hr hlk d_D_rowOf_13
theorem c_D_rowOf (l : Launch) (x1 : Int32) (M : Mm) (sz : Nat) (hI : Is_D dA b N sh B C 0) {rv : Int32} (h : f_D_rowOf B C x1 M = some rv) : Met l y_D_rowOf (wm y_D_rowOf k_D_rowOf 2 (some .int)) rm_D_rowOf (Pw (dC, dI) cls6 (tyl dA) b N sh [.ref (b + 0), .int x1] M sz) (Qro rv) 0 0 nofree := by
  refine mk_met (by decide) (Nat.le_of_ble_eq_true rfl) ?_
  intro p e s m below meth c ls G hsz hP hS hl
  subst hsz
  exact w_D_rowOf_0 G hI _ _ ls hP hS hl h
end
abbrev rm_D_anyOpen : Room := { frames := 0, cells := 0, slots := 0, locals := 0 }
def B_D_anyOpen_38 (B C : Nat) (K7 : Int32 → Int32 → Int32 → Mm → Option (Int32)) (x1 x3 s0 : Int32) (M : Mm) : Option (Int32) := bnd (x3 + 1) (fun v39 => K7 x1 s0 v39 M)
def B_D_anyOpen_33 (B C : Nat) (K7 : Int32 → Int32 → Int32 → Mm → Option (Int32)) (x1 x3 : Int32) (M : Mm) : Option (Int32) := B_D_anyOpen_38 B C K7 x1 x3 1 M
def B_D_anyOpen_7 (B C : Nat) : Nat → Int32 → Int32 → Int32 → Mm → Option (Int32)
  | 0, _, _, _, _ => none
  | n + 1, x1, x2, x3, M => (if ((8 * x1) + (M 0 2)) ≤ x3 then (if bz x2 = true then some x2 else none) else (if x2 = 0 then (if ixb x3 32 = true then (if (M 2 x3.toNatClampNeg) < 0 then B_D_anyOpen_38 B C (fun y0 y1 y2 M => B_D_anyOpen_7 B C n y0 y1 y2 M) x1 x3 0 M else B_D_anyOpen_33 B C (fun y0 y1 y2 M => B_D_anyOpen_7 B C n y0 y1 y2 M) x1 x3 M) else none) else B_D_anyOpen_33 B C (fun y0 y1 y2 M => B_D_anyOpen_7 B C n y0 y1 y2 M) x1 x3 M))
def f_D_anyOpen (B C : Nat) (x1 : Int32) (M : Mm) : Option (Int32) := bnd (8 * x1) (fun v6 => B_D_anyOpen_7 B C 1200 x1 0 v6 M)
section
variable {p : Program} {l : Launch} {e : Env} {s : State} {m : MethodId} {args : Array Value} {below : List Frame} {meth : Method} {c : Code} {dC : Nat → ClassId} {dI : Nat → Nat → Nat} {dA : Nat → ClassId} {b N B C : Nat} {sh : Shp}
set_option maxHeartbeats 4000000 in
set_option maxRecDepth 100000 in
theorem w_D_anyOpen_38 {rv : Int32} (G : Cx p s m args meth c (dC, dI) cls6 (tyl dA) "BankTimesModel" k_D_anyOpen 4 (some .boolean)) (hI : Is_D dA b N sh B C 0)  {K7 : Int32 → Int32 → Int32 → Mm → Option (Int32)} (hK7 : ∀ (x1 x2 x3 : Int32) (M : Mm) (ls : Array Slot), va_P (dC, dI) cls6 (wd b N sh M) s.heap → va_S (reg b N s.heap.size) s.heap s.heap [] → lv_has ls 4 [(0, .ref (b + 0)), (1, .int x1), (2, .int x2), (3, .int x3)] → K7 x1 x2 x3 M = some rv → W p l e rm_D_anyOpen s m args below meth c s.heap [] 0 0 (MQ below (Qro rv) args s 0 0 nofree) (F0 m 7 ls []))  : ∀ (x1 x3 s0 : Int32) (M : Mm) (ls : Array Slot), va_P (dC, dI) cls6 (wd b N sh M) s.heap → va_S (reg b N s.heap.size) s.heap s.heap [] → lv_has ls 4 [(0, .ref (b + 0)), (1, .int x1), (3, .int x3)] → B_D_anyOpen_38 B C K7 x1 x3 s0 M = some rv → W p l e rm_D_anyOpen s m args below meth c s.heap [] 0 0 (MQ below (Qro rv) args s 0 0 nofree) (F0 m 38 ls [.int s0]) := by
  obtain ⟨hx, hb, hml, hr, hown, hts, hlk, hK⟩ := id G
  intro x1 x3 s0 M ls hP hS hl h
  unfold B_D_anyOpen_38 at h
  refine lv_istore_n (lv' := [(2, .int s0), (0, .ref (b + 0)), (1, .int x1), (3, .int x3)]) hx hb d_D_anyOpen_38 rfl hl (by decide) rfl (fun ls hl => ?_)
  obtain ⟨v39, e39, h⟩ := ln h
  refine lv_iinc (v := v39) (lv' := [(3, .int v39), (2, .int s0), (0, .ref (b + 0)), (1, .int x1)]) hx hb d_D_anyOpen_39 hl (k := 3) rfl (by rw [e39]; rfl) (by decide) rfl (fun ls hl => ?_)
  refine lv_goto (tgt := 7) hx hb d_D_anyOpen_42 (by decide) ?_
  exact hK7 x1 s0 v39 M _ hP hS (lv_sub hl [2, 3, 1, 0] rfl) h
set_option maxHeartbeats 4000000 in
set_option maxRecDepth 100000 in
theorem w_D_anyOpen_33 {rv : Int32} (G : Cx p s m args meth c (dC, dI) cls6 (tyl dA) "BankTimesModel" k_D_anyOpen 4 (some .boolean)) (hI : Is_D dA b N sh B C 0)  {K7 : Int32 → Int32 → Int32 → Mm → Option (Int32)} (hK7 : ∀ (x1 x2 x3 : Int32) (M : Mm) (ls : Array Slot), va_P (dC, dI) cls6 (wd b N sh M) s.heap → va_S (reg b N s.heap.size) s.heap s.heap [] → lv_has ls 4 [(0, .ref (b + 0)), (1, .int x1), (2, .int x2), (3, .int x3)] → K7 x1 x2 x3 M = some rv → W p l e rm_D_anyOpen s m args below meth c s.heap [] 0 0 (MQ below (Qro rv) args s 0 0 nofree) (F0 m 7 ls []))  : ∀ (x1 x3 : Int32) (M : Mm) (ls : Array Slot), va_P (dC, dI) cls6 (wd b N sh M) s.heap → va_S (reg b N s.heap.size) s.heap s.heap [] → lv_has ls 4 [(0, .ref (b + 0)), (1, .int x1), (3, .int x3)] → B_D_anyOpen_33 B C K7 x1 x3 M = some rv → W p l e rm_D_anyOpen s m args below meth c s.heap [] 0 0 (MQ below (Qro rv) args s 0 0 nofree) (F0 m 33 ls []) := by
  obtain ⟨hx, hb, hml, hr, hown, hts, hlk, hK⟩ := id G
  intro x1 x3 M ls hP hS hl h
  unfold B_D_anyOpen_33 at h
  refine lv_iconst (v := 1) hx hb d_D_anyOpen_33 (by decide) ?_
  refine lv_goto (tgt := 38) hx hb d_D_anyOpen_34 (by decide) ?_
  exact w_D_anyOpen_38 G hI hK7  x1 x3 1 M _ hP hS (lv_sub hl [0, 1, 2] rfl) h
set_option maxHeartbeats 4000000 in
set_option maxRecDepth 100000 in
theorem w_D_anyOpen_7 {rv : Int32} (G : Cx p s m args meth c (dC, dI) cls6 (tyl dA) "BankTimesModel" k_D_anyOpen 4 (some .boolean)) (hI : Is_D dA b N sh B C 0)   : ∀ (n : Nat) (x1 x2 x3 : Int32) (M : Mm) (ls : Array Slot), va_P (dC, dI) cls6 (wd b N sh M) s.heap → va_S (reg b N s.heap.size) s.heap s.heap [] → lv_has ls 4 [(0, .ref (b + 0)), (1, .int x1), (2, .int x2), (3, .int x3)] → B_D_anyOpen_7 B C n x1 x2 x3 M = some rv → W p l e rm_D_anyOpen s m args below meth c s.heap [] 0 0 (MQ below (Qro rv) args s 0 0 nofree) (F0 m 7 ls []) := by
  obtain ⟨hx, hb, hml, hr, hown, hts, hlk, hK⟩ := id G
  intro n
  induction n with
  | zero =>
    intro x1 x2 x3 M ls hP hS hl h
    cases h
  | succ n ih =>
    intro x1 x2 x3 M ls hP hS hl h
    rw [B_D_anyOpen_7] at h
    refine lv_iload_n hx hb d_D_anyOpen_7 rfl (lv_at hl 3 rfl) ?_
    refine lv_bipush (v := 8) hx hb d_D_anyOpen_8 (by decide) ?_
    refine lv_iload_n hx hb d_D_anyOpen_10 rfl (lv_at hl 1 rfl) ?_
    refine lv_imul hx hb d_D_anyOpen_11 ?_
    refine lv_aload_n hx hb d_D_anyOpen_12 rfl (lv_at hl 0 rfl) ?_
    refine wd_geti hx hb hts i_D hown hK hP 0 hI.1 hI.2.1 rfl 2 (by decide) t_231 rfl d_D_anyOpen_13 ?_
    refine lv_iadd hx hb d_D_anyOpen_16 ?_
    refine lv_icmp_ge (tgt := 45) hx hb d_D_anyOpen_17 (by decide) (fun c17 => ?_) (fun c17 => ?_)
    · replace h := ogt c17 h
      refine lv_iload_n hx hb d_D_anyOpen_45 rfl (lv_at hl 2 rfl) ?_
      obtain ⟨hz46, h⟩ := og h
      obtain rfl := oe h
      exact wd_zret0 hx hb hr (nbz hz46) hlk d_D_anyOpen_46
    · replace h := ogf c17 h
      refine lv_iload_n hx hb d_D_anyOpen_20 rfl (lv_at hl 2 rfl) ?_
      refine lv_if_ne (tgt := 33) hx hb d_D_anyOpen_21 (by decide) (fun c21 => ?_) (fun c21 => ?_)
      · replace h := ogf c21 h
        exact w_D_anyOpen_33 G hI ih  x1 x3 M _ hP hS (lv_sub hl [0, 1, 3] rfl) h
      · replace h := ogt c21 h
        refine lv_aload_n hx hb d_D_anyOpen_24 rfl (lv_at hl 0 rfl) ?_
        refine wd_getr hx hb hts i_D hown hK hP 0 hI.1 hI.2.1 rfl 8 (by decide) t_220 rfl d_D_anyOpen_25 ?_
        refine lv_iload_n hx hb d_D_anyOpen_28 rfl (lv_at hl 3 rfl) ?_
        obtain ⟨hi29, h⟩ := og h
        refine wd_iald hx hb hK hP 2 0 hI.2.2.2.1.1 hI.2.2.2.1.2 rfl hi29 d_D_anyOpen_29 ?_
        refine lv_if_lt (tgt := 37) hx hb d_D_anyOpen_30 (by decide) (fun c30 => ?_) (fun c30 => ?_)
        · replace h := ogt c30 h
          refine lv_iconst (v := 0) hx hb d_D_anyOpen_37 (by decide) ?_
          exact w_D_anyOpen_38 G hI ih  x1 x3 0 M _ hP hS (lv_sub hl [0, 1, 3] rfl) h
        · replace h := ogf c30 h
          exact w_D_anyOpen_33 G hI ih  x1 x3 M _ hP hS (lv_sub hl [0, 1, 3] rfl) h
set_option maxHeartbeats 4000000 in
set_option maxRecDepth 100000 in
theorem w_D_anyOpen_0 {rv : Int32} (G : Cx p s m args meth c (dC, dI) cls6 (tyl dA) "BankTimesModel" k_D_anyOpen 4 (some .boolean)) (hI : Is_D dA b N sh B C 0)   : ∀ (x1 : Int32) (M : Mm) (ls : Array Slot), va_P (dC, dI) cls6 (wd b N sh M) s.heap → va_S (reg b N s.heap.size) s.heap s.heap [] → lv_has ls 4 [(0, .ref (b + 0)), (1, .int x1)] → f_D_anyOpen B C x1 M = some rv → W p l e rm_D_anyOpen s m args below meth c s.heap [] 0 0 (MQ below (Qro rv) args s 0 0 nofree) (F0 m 0 ls []) := by
  obtain ⟨hx, hb, hml, hr, hown, hts, hlk, hK⟩ := id G
  intro x1 M ls hP hS hl h
  unfold f_D_anyOpen at h
  refine lv_iconst (v := 0) hx hb d_D_anyOpen_0 (by decide) ?_
  refine lv_istore_n (lv' := [(2, .int 0), (0, .ref (b + 0)), (1, .int x1)]) hx hb d_D_anyOpen_1 rfl hl (by decide) rfl (fun ls hl => ?_)
  refine lv_bipush (v := 8) hx hb d_D_anyOpen_2 (by decide) ?_
  refine lv_iload_n hx hb d_D_anyOpen_4 rfl (lv_at hl 2 rfl) ?_
  refine lv_imul hx hb d_D_anyOpen_5 ?_
  obtain ⟨v6, e6, h⟩ := ln h
  refine lv_nm e6 ?_
  refine lv_istore_n (lv' := [(3, .int v6), (2, .int 0), (0, .ref (b + 0)), (1, .int x1)]) hx hb d_D_anyOpen_6 rfl hl (by decide) rfl (fun ls hl => ?_)
  exact w_D_anyOpen_7 G hI  1200 x1 0 v6 M _ hP hS (lv_sub hl [2, 3, 1, 0] rfl) h
theorem c_D_anyOpen (l : Launch) (x1 : Int32) (M : Mm) (sz : Nat) (hI : Is_D dA b N sh B C 0) {rv : Int32} (h : f_D_anyOpen B C x1 M = some rv) : Met l y_D_anyOpen (wm y_D_anyOpen k_D_anyOpen 4 (some .boolean)) rm_D_anyOpen (Pw (dC, dI) cls6 (tyl dA) b N sh [.ref (b + 0), .int x1] M sz) (Qro rv) 0 0 nofree := by
  refine mk_met (by decide) (Nat.le_of_ble_eq_true rfl) ?_
  intro p e s m below meth c ls G hsz hP hS hl
  subst hsz
  exact w_D_anyOpen_0 G hI _ _ ls hP hS hl h
end
abbrev rm_D_fits : Room := { frames := 1, cells := 0, slots := 0, locals := 23 }
def B_D_fits_74 (B C : Nat) (M : Mm) : Option (Int32) := some 1
def f_D_fits (B C : Nat) (x1 x2 x3 x4 : Int32) (M : Mm) : Option (Int32) := bnd ((8 * x1) + x3) (fun v6 => (if x2 = 0 then (if ixb v6 32 = true then (if 0 ≤ (M 2 v6.toNatClampNeg) then some 0 else some 1) else none) else (if x2 = 4 then (f_D_anyOpen B C x1 M).bind (fun q35 => (if q35 = 0 then some 1 else some 0)) else (if ixb v6 32 = true then (if (M 2 v6.toNatClampNeg) < 0 then some 0 else (if x2 = 3 then B_D_fits_74 B C M else (if ixb v6 32 = true then (if (M 2 v6.toNatClampNeg) = x4 then B_D_fits_74 B C M else some 0) else none))) else none))))
section
variable {p : Program} {l : Launch} {e : Env} {s : State} {m : MethodId} {args : Array Value} {below : List Frame} {meth : Method} {c : Code} {dC : Nat → ClassId} {dI : Nat → Nat → Nat} {dA : Nat → ClassId} {b N B C : Nat} {sh : Shp}
set_option maxHeartbeats 4000000 in
set_option maxRecDepth 100000 in
theorem w_D_fits_74 {rv : Int32} (G : Cx p s m args meth c (dC, dI) cls6 (tyl dA) "BankTimesModel" k_D_fits 6 (some .boolean)) (hI : Is_D dA b N sh B C 0)   : ∀ (M : Mm) (ls : Array Slot), va_P (dC, dI) cls6 (wd b N sh M) s.heap → va_S (reg b N s.heap.size) s.heap s.heap [] → lv_has ls 6 [] → B_D_fits_74 B C M = some rv → W p l e rm_D_fits s m args below meth c s.heap [] 0 0 (MQ below (Qro rv) args s 0 0 nofree) (F0 m 74 ls []) := by
  obtain ⟨hx, hb, hml, hr, hown, hts, hlk, hK⟩ := id G
  intro M ls hP hS hl h
  unfold B_D_fits_74 at h
  refine lv_iconst (v := 1) hx hb d_D_fits_74 (by decide) ?_
  refine lv_goto (tgt := 79) hx hb d_D_fits_75 (by decide) ?_
  obtain rfl := oe h
  exact wd_zret0 hx hb hr rfl hlk d_D_fits_79
set_option maxHeartbeats 4000000 in
set_option maxRecDepth 100000 in
theorem w_D_fits_0 {rv : Int32} (G : Cx p s m args meth c (dC, dI) cls6 (tyl dA) "BankTimesModel" k_D_fits 6 (some .boolean)) (hI : Is_D dA b N sh B C 0)   : ∀ (x1 x2 x3 x4 : Int32) (M : Mm) (ls : Array Slot), va_P (dC, dI) cls6 (wd b N sh M) s.heap → va_S (reg b N s.heap.size) s.heap s.heap [] → lv_has ls 6 [(0, .ref (b + 0)), (1, .int x1), (2, .int x2), (3, .int x3), (4, .int x4)] → f_D_fits B C x1 x2 x3 x4 M = some rv → W p l e rm_D_fits s m args below meth c s.heap [] 0 0 (MQ below (Qro rv) args s 0 0 nofree) (F0 m 0 ls []) := by
  obtain ⟨hx, hb, hml, hr, hown, hts, hlk, hK⟩ := id G
  intro x1 x2 x3 x4 M ls hP hS hl h
  unfold f_D_fits at h
  refine lv_bipush (v := 8) hx hb d_D_fits_0 (by decide) ?_
  refine lv_iload_n hx hb d_D_fits_2 rfl (lv_at hl 1 rfl) ?_
  refine lv_imul hx hb d_D_fits_3 ?_
  refine lv_iload_n hx hb d_D_fits_4 rfl (lv_at hl 3 rfl) ?_
  refine lv_iadd hx hb d_D_fits_5 ?_
  obtain ⟨v6, e6, h⟩ := ln h
  refine lv_nm e6 ?_
  refine lv_istore (lv' := [(5, .int v6), (0, .ref (b + 0)), (1, .int x1), (2, .int x2), (3, .int x3), (4, .int x4)]) hx hb d_D_fits_6 hl (by decide) rfl (fun ls hl => ?_)
  refine lv_iload_n hx hb d_D_fits_8 rfl (lv_at hl 3 rfl) ?_
  refine lv_if_ne (tgt := 28) hx hb d_D_fits_9 (by decide) (fun c9 => ?_) (fun c9 => ?_)
  · replace h := ogf c9 h
    refine lv_iload_n hx hb d_D_fits_28 rfl (lv_at hl 3 rfl) ?_
    refine lv_iconst (v := 4) hx hb d_D_fits_29 (by decide) ?_
    refine lv_icmp_ne (tgt := 47) hx hb d_D_fits_30 (by decide) (fun c30 => ?_) (fun c30 => ?_)
    · replace h := ogf c30 h
      refine lv_aload_n hx hb d_D_fits_47 rfl (lv_at hl 1 rfl) ?_
      refine wd_getr hx hb hts i_D hown hK hP 0 hI.1 hI.2.1 rfl 8 (by decide) t_220 rfl d_D_fits_48 ?_
      refine lv_iload hx hb d_D_fits_51 (lv_at hl 0 rfl) ?_
      obtain ⟨hi53, h⟩ := og h
      refine wd_iald hx hb hK hP 2 0 hI.2.2.2.1.1 hI.2.2.2.1.2 rfl hi53 d_D_fits_53 ?_
      refine lv_if_lt (tgt := 78) hx hb d_D_fits_54 (by decide) (fun c54 => ?_) (fun c54 => ?_)
      · replace h := ogt c54 h
        refine lv_iconst (v := 0) hx hb d_D_fits_78 (by decide) ?_
        obtain rfl := oe h
        exact wd_zret0 hx hb hr rfl hlk d_D_fits_79
      · replace h := ogf c54 h
        refine lv_iload_n hx hb d_D_fits_57 rfl (lv_at hl 3 rfl) ?_
        refine lv_iconst (v := 3) hx hb d_D_fits_58 (by decide) ?_
        refine lv_icmp_eq (tgt := 74) hx hb d_D_fits_59 (by decide) (fun c59 => ?_) (fun c59 => ?_)
        · replace h := ogt c59 h
          exact w_D_fits_74 G hI  M _ hP hS (lv_sub hl [] rfl) h
        · replace h := ogf c59 h
          refine lv_aload_n hx hb d_D_fits_62 rfl (lv_at hl 1 rfl) ?_
          refine wd_getr hx hb hts i_D hown hK hP 0 hI.1 hI.2.1 rfl 8 (by decide) t_220 rfl d_D_fits_63 ?_
          refine lv_iload hx hb d_D_fits_66 (lv_at hl 0 rfl) ?_
          obtain ⟨hi68, h⟩ := og h
          refine wd_iald hx hb hK hP 2 0 hI.2.2.2.1.1 hI.2.2.2.1.2 rfl hi68 d_D_fits_68 ?_
          refine lv_iload hx hb d_D_fits_69 (lv_at hl 5 rfl) ?_
          refine lv_icmp_ne (tgt := 78) hx hb d_D_fits_71 (by decide) (fun c71 => ?_) (fun c71 => ?_)
          · replace h := ogf c71 h
            refine lv_iconst (v := 0) hx hb d_D_fits_78 (by decide) ?_
            obtain rfl := oe h
            exact wd_zret0 hx hb hr rfl hlk d_D_fits_79
          · replace h := ogt c71 h
            exact w_D_fits_74 G hI  M _ hP hS (lv_sub hl [] rfl) h
    · replace h := ogt c30 h
      refine lv_aload_n hx hb d_D_fits_33 rfl (lv_at hl 1 rfl) ?_
      refine lv_iload_n hx hb d_D_fits_34 rfl (lv_at hl 2 rfl) ?_
      obtain ⟨q35, hc35, h⟩ := obd h
      refine wd_cvr (As := [.int x1]) (rest := []) ⟨hx, hb, hml, hown, hts⟩ hK hP 0 hI.1 hI.2.1 rfl (c_D_anyOpen l x1 M _ hI hc35) (cwV 1 hts (wmV t_233 t_235 t_236 t_229 t_234) rfl rfl rfl (by decide +kernel) ⟨by decide, by decide⟩) rfl hl.1 rfl (Nat.le_of_ble_eq_true rfl) d_D_fits_35 ⟨Nat.zero_le _, Nat.zero_le _⟩ ?_
      refine lv_if_ne (tgt := 45) hx hb d_D_fits_38 (by decide) (fun c38 => ?_) (fun c38 => ?_)
      · replace h := ogf c38 h
        refine lv_iconst (v := 0) hx hb d_D_fits_45 (by decide) ?_
        obtain rfl := oe h
        exact wd_zret0 hx hb hr rfl hlk d_D_fits_46
      · replace h := ogt c38 h
        refine lv_iconst (v := 1) hx hb d_D_fits_41 (by decide) ?_
        refine lv_goto (tgt := 46) hx hb d_D_fits_42 (by decide) ?_
        obtain rfl := oe h
        exact wd_zret0 hx hb hr rfl hlk d_D_fits_46
  · replace h := ogt c9 h
    refine lv_aload_n hx hb d_D_fits_12 rfl (lv_at hl 1 rfl) ?_
    refine wd_getr hx hb hts i_D hown hK hP 0 hI.1 hI.2.1 rfl 8 (by decide) t_220 rfl d_D_fits_13 ?_
    refine lv_iload hx hb d_D_fits_16 (lv_at hl 0 rfl) ?_
    obtain ⟨hi18, h⟩ := og h
    refine wd_iald hx hb hK hP 2 0 hI.2.2.2.1.1 hI.2.2.2.1.2 rfl hi18 d_D_fits_18 ?_
    refine lv_if_ge (tgt := 26) hx hb d_D_fits_19 (by decide) (fun c19 => ?_) (fun c19 => ?_)
    · replace h := ogt c19 h
      refine lv_iconst (v := 0) hx hb d_D_fits_26 (by decide) ?_
      obtain rfl := oe h
      exact wd_zret0 hx hb hr rfl hlk d_D_fits_27
    · replace h := ogf c19 h
      refine lv_iconst (v := 1) hx hb d_D_fits_22 (by decide) ?_
      refine lv_goto (tgt := 27) hx hb d_D_fits_23 (by decide) ?_
      obtain rfl := oe h
      exact wd_zret0 hx hb hr rfl hlk d_D_fits_27
theorem c_D_fits (l : Launch) (x1 x2 x3 x4 : Int32) (M : Mm) (sz : Nat) (hI : Is_D dA b N sh B C 0) {rv : Int32} (h : f_D_fits B C x1 x2 x3 x4 M = some rv) : Met l y_D_fits (wm y_D_fits k_D_fits 6 (some .boolean)) rm_D_fits (Pw (dC, dI) cls6 (tyl dA) b N sh [.ref (b + 0), .int x1, .int x2, .int x3, .int x4] M sz) (Qro rv) 0 0 nofree := by
  refine mk_met (by decide) (Nat.le_of_ble_eq_true rfl) ?_
  intro p e s m below meth c ls G hsz hP hS hl
  subst hsz
  exact w_D_fits_0 G hI _ _ _ _ _ ls hP hS hl h
end
abbrev rm_D_since : Room := { frames := 0, cells := 0, slots := 0, locals := 0 }
def B_D_since_24 (B C : Nat) (x1 x2 x3 x5 s0 : Int32) (M : Mm) : Option (Int32) := (if x1 = 0 then (if s0 = 0 then some (-100000) else (if ixb x5 32 = true then some (M 3 x5.toNatClampNeg) else none)) else (if x1 = 1 then (if x3 = 0 then (if ixb x5 32 = true then some (M 4 x5.toNatClampNeg) else none) else some (-100000)) else (if x1 = 2 then (if x3 = 3 then (if ixb x5 32 = true then some (M 3 x5.toNatClampNeg) else none) else some (-100000)) else (if x1 = 3 then (if s0 = 0 then (if x3 = 3 then (if ixb x5 32 = true then some (M 5 x5.toNatClampNeg) else none) else some (-100000)) else (if ixb x2 4 = true then some (M 8 x2.toNatClampNeg) else none)) else (if x1 = 4 then (if x3 = 1 then (if ixb x2 4 = true then some (M 7 x2.toNatClampNeg) else none) else some (-100000)) else (if x1 = 5 then (if x3 = 3 then (if ixb x5 32 = true then some (M 6 x5.toNatClampNeg) else none) else some (-100000)) else (if x1 = 6 then (if x3 = 0 then (if ixb (4 * x2) 16 = true then some (M 10 (4 * x2).toNatClampNeg) else none) else some (-100000)) else (if x1 = 7 then (if ixb x2 4 = true then some (M 9 x2.toNatClampNeg) else none) else (if x3 = 0 then (if ixb ((4 * x2) + 3) 16 = true then some (M 10 ((4 * x2) + 3).toNatClampNeg) else none) else some (-100000))))))))))
def B_D_since_19 (B C : Nat) (x1 x2 x3 x5 : Int32) (M : Mm) : Option (Int32) := B_D_since_24 B C x1 x2 x3 x5 1 M
def f_D_since (B C : Nat) (x1 x2 x3 x4 : Int32) (M : Mm) : Option (Int32) := bnd ((8 * x2) + x4) (fun v7 => (if x3 = 1 then B_D_since_19 B C x1 x2 x3 v7 M else (if x3 = 2 then B_D_since_19 B C x1 x2 x3 v7 M else B_D_since_24 B C x1 x2 x3 v7 0 M)))
section
variable {p : Program} {l : Launch} {e : Env} {s : State} {m : MethodId} {args : Array Value} {below : List Frame} {meth : Method} {c : Code} {dC : Nat → ClassId} {dI : Nat → Nat → Nat} {dA : Nat → ClassId} {b N B C : Nat} {sh : Shp}
set_option maxHeartbeats 4000000 in
set_option maxRecDepth 100000 in
theorem w_D_since_24 {rv : Int32} (G : Cx p s m args meth c (dC, dI) cls6 (tyl dA) "BankTimesModel" k_D_since 7 (some .int)) (hI : Is_D dA b N sh B C 0)   : ∀ (x1 x2 x3 x5 s0 : Int32) (M : Mm) (ls : Array Slot), va_P (dC, dI) cls6 (wd b N sh M) s.heap → va_S (reg b N s.heap.size) s.heap s.heap [] → lv_has ls 7 [(0, .ref (b + 0)), (1, .int x1), (2, .int x2), (3, .int x3), (5, .int x5)] → B_D_since_24 B C x1 x2 x3 x5 s0 M = some rv → W p l e rm_D_since s m args below meth c s.heap [] 0 0 (MQ below (Qro rv) args s 0 0 nofree) (F0 m 24 ls [.int s0]) := by
  obtain ⟨hx, hb, hml, hr, hown, hts, hlk, hK⟩ := id G
  intro x1 x2 x3 x5 s0 M ls hP hS hl h
  unfold B_D_since_24 at h
  refine lv_istore (lv' := [(6, .int s0), (0, .ref (b + 0)), (1, .int x1), (2, .int x2), (3, .int x3), (5, .int x5)]) hx hb d_D_since_24 hl (by decide) rfl (fun ls hl => ?_)
  refine lv_iload_n hx hb d_D_since_26 rfl (lv_at hl 2 rfl) ?_
  by_cases c27_0 : x1 = 0
  · replace h := ogt c27_0 h
    refine lv_tableIn (tgt := 72) hx hb d_D_since_27 (by rw [c27_0]; decide) (by rw [c27_0]; decide) (by rw [c27_0]; rfl) (by decide) ?_
    refine lv_iload hx hb d_D_since_72 (lv_at hl 0 rfl) ?_
    refine lv_if_eq (tgt := 87) hx hb d_D_since_74 (by decide) (fun c74 => ?_) (fun c74 => ?_)
    · replace h := ogt c74 h
      refine lv_ldc (v := (-100000)) hx hb hown (hts _ t_215) d_D_since_87 ?_
      obtain rfl := oe h
      exact wd_iret0 hx hb hr hlk d_D_since_89
    · replace h := ogf c74 h
      refine lv_aload_n hx hb d_D_since_77 rfl (lv_at hl 1 rfl) ?_
      refine wd_getr hx hb hts i_D hown hK hP 0 hI.1 hI.2.1 rfl 9 (by decide) t_221 rfl d_D_since_78 ?_
      refine lv_iload hx hb d_D_since_81 (lv_at hl 5 rfl) ?_
      obtain ⟨hi83, h⟩ := og h
      refine wd_iald hx hb hK hP 3 0 hI.2.2.2.2.1.1 hI.2.2.2.2.1.2 rfl hi83 d_D_since_83 ?_
      refine lv_goto (tgt := 89) hx hb d_D_since_84 (by decide) ?_
      obtain rfl := oe h
      exact wd_iret0 hx hb hr hlk d_D_since_89
  · replace h := ogf c27_0 h
    by_cases c27_1 : x1 = 1
    · replace h := ogt c27_1 h
      refine lv_tableIn (tgt := 90) hx hb d_D_since_27 (by rw [c27_1]; decide) (by rw [c27_1]; decide) (by rw [c27_1]; rfl) (by decide) ?_
      refine lv_iload_n hx hb d_D_since_90 rfl (lv_at hl 4 rfl) ?_
      refine lv_if_ne (tgt := 104) hx hb d_D_since_91 (by decide) (fun c91 => ?_) (fun c91 => ?_)
      · replace h := ogf c91 h
        refine lv_ldc (v := (-100000)) hx hb hown (hts _ t_215) d_D_since_104 ?_
        obtain rfl := oe h
        exact wd_iret0 hx hb hr hlk d_D_since_106
      · replace h := ogt c91 h
        refine lv_aload_n hx hb d_D_since_94 rfl (lv_at hl 1 rfl) ?_
        refine wd_getr hx hb hts i_D hown hK hP 0 hI.1 hI.2.1 rfl 10 (by decide) t_222 rfl d_D_since_95 ?_
        refine lv_iload hx hb d_D_since_98 (lv_at hl 5 rfl) ?_
        obtain ⟨hi100, h⟩ := og h
        refine wd_iald hx hb hK hP 4 0 hI.2.2.2.2.2.1.1 hI.2.2.2.2.2.1.2 rfl hi100 d_D_since_100 ?_
        refine lv_goto (tgt := 106) hx hb d_D_since_101 (by decide) ?_
        obtain rfl := oe h
        exact wd_iret0 hx hb hr hlk d_D_since_106
    · replace h := ogf c27_1 h
      by_cases c27_2 : x1 = 2
      · replace h := ogt c27_2 h
        refine lv_tableIn (tgt := 107) hx hb d_D_since_27 (by rw [c27_2]; decide) (by rw [c27_2]; decide) (by rw [c27_2]; rfl) (by decide) ?_
        refine lv_iload_n hx hb d_D_since_107 rfl (lv_at hl 4 rfl) ?_
        refine lv_iconst (v := 3) hx hb d_D_since_108 (by decide) ?_
        refine lv_icmp_ne (tgt := 122) hx hb d_D_since_109 (by decide) (fun c109 => ?_) (fun c109 => ?_)
        · replace h := ogf c109 h
          refine lv_ldc (v := (-100000)) hx hb hown (hts _ t_215) d_D_since_122 ?_
          obtain rfl := oe h
          exact wd_iret0 hx hb hr hlk d_D_since_124
        · replace h := ogt c109 h
          refine lv_aload_n hx hb d_D_since_112 rfl (lv_at hl 1 rfl) ?_
          refine wd_getr hx hb hts i_D hown hK hP 0 hI.1 hI.2.1 rfl 9 (by decide) t_221 rfl d_D_since_113 ?_
          refine lv_iload hx hb d_D_since_116 (lv_at hl 5 rfl) ?_
          obtain ⟨hi118, h⟩ := og h
          refine wd_iald hx hb hK hP 3 0 hI.2.2.2.2.1.1 hI.2.2.2.2.1.2 rfl hi118 d_D_since_118 ?_
          refine lv_goto (tgt := 124) hx hb d_D_since_119 (by decide) ?_
          obtain rfl := oe h
          exact wd_iret0 hx hb hr hlk d_D_since_124
      · replace h := ogf c27_2 h
        by_cases c27_3 : x1 = 3
        · replace h := ogt c27_3 h
          refine lv_tableIn (tgt := 125) hx hb d_D_since_27 (by rw [c27_3]; decide) (by rw [c27_3]; decide) (by rw [c27_3]; rfl) (by decide) ?_
          refine lv_iload hx hb d_D_since_125 (lv_at hl 0 rfl) ?_
          refine lv_if_eq (tgt := 139) hx hb d_D_since_127 (by decide) (fun c127 => ?_) (fun c127 => ?_)
          · replace h := ogt c127 h
            refine lv_iload_n hx hb d_D_since_139 rfl (lv_at hl 4 rfl) ?_
            refine lv_iconst (v := 3) hx hb d_D_since_140 (by decide) ?_
            refine lv_icmp_ne (tgt := 154) hx hb d_D_since_141 (by decide) (fun c141 => ?_) (fun c141 => ?_)
            · replace h := ogf c141 h
              refine lv_ldc (v := (-100000)) hx hb hown (hts _ t_215) d_D_since_154 ?_
              obtain rfl := oe h
              exact wd_iret0 hx hb hr hlk d_D_since_156
            · replace h := ogt c141 h
              refine lv_aload_n hx hb d_D_since_144 rfl (lv_at hl 1 rfl) ?_
              refine wd_getr hx hb hts i_D hown hK hP 0 hI.1 hI.2.1 rfl 11 (by decide) t_223 rfl d_D_since_145 ?_
              refine lv_iload hx hb d_D_since_148 (lv_at hl 5 rfl) ?_
              obtain ⟨hi150, h⟩ := og h
              refine wd_iald hx hb hK hP 5 0 hI.2.2.2.2.2.2.1.1 hI.2.2.2.2.2.2.1.2 rfl hi150 d_D_since_150 ?_
              refine lv_goto (tgt := 156) hx hb d_D_since_151 (by decide) ?_
              obtain rfl := oe h
              exact wd_iret0 hx hb hr hlk d_D_since_156
          · replace h := ogf c127 h
            refine lv_aload_n hx hb d_D_since_130 rfl (lv_at hl 1 rfl) ?_
            refine wd_getr hx hb hts i_D hown hK hP 0 hI.1 hI.2.1 rfl 14 (by decide) t_216 rfl d_D_since_131 ?_
            refine lv_iload_n hx hb d_D_since_134 rfl (lv_at hl 3 rfl) ?_
            obtain ⟨hi135, h⟩ := og h
            refine wd_iald hx hb hK hP 8 0 hI.2.2.2.2.2.2.2.2.2.1.1 hI.2.2.2.2.2.2.2.2.2.1.2 rfl hi135 d_D_since_135 ?_
            refine lv_goto (tgt := 156) hx hb d_D_since_136 (by decide) ?_
            obtain rfl := oe h
            exact wd_iret0 hx hb hr hlk d_D_since_156
        · replace h := ogf c27_3 h
          by_cases c27_4 : x1 = 4
          · replace h := ogt c27_4 h
            refine lv_tableIn (tgt := 157) hx hb d_D_since_27 (by rw [c27_4]; decide) (by rw [c27_4]; decide) (by rw [c27_4]; rfl) (by decide) ?_
            refine lv_iload_n hx hb d_D_since_157 rfl (lv_at hl 4 rfl) ?_
            refine lv_iconst (v := 1) hx hb d_D_since_158 (by decide) ?_
            refine lv_icmp_ne (tgt := 171) hx hb d_D_since_159 (by decide) (fun c159 => ?_) (fun c159 => ?_)
            · replace h := ogf c159 h
              refine lv_ldc (v := (-100000)) hx hb hown (hts _ t_215) d_D_since_171 ?_
              obtain rfl := oe h
              exact wd_iret0 hx hb hr hlk d_D_since_173
            · replace h := ogt c159 h
              refine lv_aload_n hx hb d_D_since_162 rfl (lv_at hl 1 rfl) ?_
              refine wd_getr hx hb hts i_D hown hK hP 0 hI.1 hI.2.1 rfl 13 (by decide) t_214 rfl d_D_since_163 ?_
              refine lv_iload_n hx hb d_D_since_166 rfl (lv_at hl 3 rfl) ?_
              obtain ⟨hi167, h⟩ := og h
              refine wd_iald hx hb hK hP 7 0 hI.2.2.2.2.2.2.2.2.1.1 hI.2.2.2.2.2.2.2.2.1.2 rfl hi167 d_D_since_167 ?_
              refine lv_goto (tgt := 173) hx hb d_D_since_168 (by decide) ?_
              obtain rfl := oe h
              exact wd_iret0 hx hb hr hlk d_D_since_173
          · replace h := ogf c27_4 h
            by_cases c27_5 : x1 = 5
            · replace h := ogt c27_5 h
              refine lv_tableIn (tgt := 174) hx hb d_D_since_27 (by rw [c27_5]; decide) (by rw [c27_5]; decide) (by rw [c27_5]; rfl) (by decide) ?_
              refine lv_iload_n hx hb d_D_since_174 rfl (lv_at hl 4 rfl) ?_
              refine lv_iconst (v := 3) hx hb d_D_since_175 (by decide) ?_
              refine lv_icmp_ne (tgt := 189) hx hb d_D_since_176 (by decide) (fun c176 => ?_) (fun c176 => ?_)
              · replace h := ogf c176 h
                refine lv_ldc (v := (-100000)) hx hb hown (hts _ t_215) d_D_since_189 ?_
                obtain rfl := oe h
                exact wd_iret0 hx hb hr hlk d_D_since_191
              · replace h := ogt c176 h
                refine lv_aload_n hx hb d_D_since_179 rfl (lv_at hl 1 rfl) ?_
                refine wd_getr hx hb hts i_D hown hK hP 0 hI.1 hI.2.1 rfl 12 (by decide) t_224 rfl d_D_since_180 ?_
                refine lv_iload hx hb d_D_since_183 (lv_at hl 5 rfl) ?_
                obtain ⟨hi185, h⟩ := og h
                refine wd_iald hx hb hK hP 6 0 hI.2.2.2.2.2.2.2.1.1 hI.2.2.2.2.2.2.2.1.2 rfl hi185 d_D_since_185 ?_
                refine lv_goto (tgt := 191) hx hb d_D_since_186 (by decide) ?_
                obtain rfl := oe h
                exact wd_iret0 hx hb hr hlk d_D_since_191
            · replace h := ogf c27_5 h
              by_cases c27_6 : x1 = 6
              · replace h := ogt c27_6 h
                refine lv_tableIn (tgt := 192) hx hb d_D_since_27 (by rw [c27_6]; decide) (by rw [c27_6]; decide) (by rw [c27_6]; rfl) (by decide) ?_
                refine lv_iload_n hx hb d_D_since_192 rfl (lv_at hl 4 rfl) ?_
                refine lv_if_ne (tgt := 207) hx hb d_D_since_193 (by decide) (fun c193 => ?_) (fun c193 => ?_)
                · replace h := ogf c193 h
                  refine lv_ldc (v := (-100000)) hx hb hown (hts _ t_215) d_D_since_207 ?_
                  obtain rfl := oe h
                  exact wd_iret0 hx hb hr hlk d_D_since_209
                · replace h := ogt c193 h
                  refine lv_aload_n hx hb d_D_since_196 rfl (lv_at hl 1 rfl) ?_
                  refine wd_getr hx hb hts i_D hown hK hP 0 hI.1 hI.2.1 rfl 16 (by decide) t_219 rfl d_D_since_197 ?_
                  refine lv_iconst (v := 4) hx hb d_D_since_200 (by decide) ?_
                  refine lv_iload_n hx hb d_D_since_201 rfl (lv_at hl 3 rfl) ?_
                  refine lv_imul hx hb d_D_since_202 ?_
                  obtain ⟨hi203, h⟩ := og h
                  refine wd_iald hx hb hK hP 10 0 hI.2.2.2.2.2.2.2.2.2.2.2.1.1 hI.2.2.2.2.2.2.2.2.2.2.2.1.2 rfl hi203 d_D_since_203 ?_
                  refine lv_goto (tgt := 209) hx hb d_D_since_204 (by decide) ?_
                  obtain rfl := oe h
                  exact wd_iret0 hx hb hr hlk d_D_since_209
              · replace h := ogf c27_6 h
                by_cases c27_7 : x1 = 7
                · replace h := ogt c27_7 h
                  refine lv_tableIn (tgt := 210) hx hb d_D_since_27 (by rw [c27_7]; decide) (by rw [c27_7]; decide) (by rw [c27_7]; rfl) (by decide) ?_
                  refine lv_aload_n hx hb d_D_since_210 rfl (lv_at hl 1 rfl) ?_
                  refine wd_getr hx hb hts i_D hown hK hP 0 hI.1 hI.2.1 rfl 15 (by decide) t_217 rfl d_D_since_211 ?_
                  refine lv_iload_n hx hb d_D_since_214 rfl (lv_at hl 3 rfl) ?_
                  obtain ⟨hi215, h⟩ := og h
                  refine wd_iald hx hb hK hP 9 0 hI.2.2.2.2.2.2.2.2.2.2.1.1 hI.2.2.2.2.2.2.2.2.2.2.1.2 rfl hi215 d_D_since_215 ?_
                  obtain rfl := oe h
                  exact wd_iret0 hx hb hr hlk d_D_since_216
                · replace h := ogf c27_7 h
                  have z27_0 := lv_neT (a := 0) c27_0 (by decide)
                  have z27_1 := lv_neT (a := 1) c27_1 (by decide)
                  have z27_2 := lv_neT (a := 2) c27_2 (by decide)
                  have z27_3 := lv_neT (a := 3) c27_3 (by decide)
                  have z27_4 := lv_neT (a := 4) c27_4 (by decide)
                  have z27_5 := lv_neT (a := 5) c27_5 (by decide)
                  have z27_6 := lv_neT (a := 6) c27_6 (by decide)
                  have z27_7 := lv_neT (a := 7) c27_7 (by decide)
                  refine lv_tableOut (tgt := 217) hx hb d_D_since_27 (by omega) (by decide) ?_
                  refine lv_iload_n hx hb d_D_since_217 rfl (lv_at hl 4 rfl) ?_
                  refine lv_if_ne (tgt := 234) hx hb d_D_since_218 (by decide) (fun c218 => ?_) (fun c218 => ?_)
                  · replace h := ogf c218 h
                    refine lv_ldc (v := (-100000)) hx hb hown (hts _ t_215) d_D_since_234 ?_
                    obtain rfl := oe h
                    exact wd_iret0 hx hb hr hlk d_D_since_236
                  · replace h := ogt c218 h
                    refine lv_aload_n hx hb d_D_since_221 rfl (lv_at hl 1 rfl) ?_
                    refine wd_getr hx hb hts i_D hown hK hP 0 hI.1 hI.2.1 rfl 16 (by decide) t_219 rfl d_D_since_222 ?_
                    refine lv_iconst (v := 4) hx hb d_D_since_225 (by decide) ?_
                    refine lv_iload_n hx hb d_D_since_226 rfl (lv_at hl 3 rfl) ?_
                    refine lv_imul hx hb d_D_since_227 ?_
                    refine lv_iconst (v := 3) hx hb d_D_since_228 (by decide) ?_
                    refine lv_iadd hx hb d_D_since_229 ?_
                    obtain ⟨hi230, h⟩ := og h
                    refine wd_iald hx hb hK hP 10 0 hI.2.2.2.2.2.2.2.2.2.2.2.1.1 hI.2.2.2.2.2.2.2.2.2.2.2.1.2 rfl hi230 d_D_since_230 ?_
                    refine lv_goto (tgt := 236) hx hb d_D_since_231 (by decide) ?_
                    obtain rfl := oe h
                    exact wd_iret0 hx hb hr hlk d_D_since_236
set_option maxHeartbeats 4000000 in
set_option maxRecDepth 100000 in
theorem w_D_since_19 {rv : Int32} (G : Cx p s m args meth c (dC, dI) cls6 (tyl dA) "BankTimesModel" k_D_since 7 (some .int)) (hI : Is_D dA b N sh B C 0)   : ∀ (x1 x2 x3 x5 : Int32) (M : Mm) (ls : Array Slot), va_P (dC, dI) cls6 (wd b N sh M) s.heap → va_S (reg b N s.heap.size) s.heap s.heap [] → lv_has ls 7 [(0, .ref (b + 0)), (1, .int x1), (2, .int x2), (3, .int x3), (5, .int x5)] → B_D_since_19 B C x1 x2 x3 x5 M = some rv → W p l e rm_D_since s m args below meth c s.heap [] 0 0 (MQ below (Qro rv) args s 0 0 nofree) (F0 m 19 ls []) := by
  obtain ⟨hx, hb, hml, hr, hown, hts, hlk, hK⟩ := id G
  intro x1 x2 x3 x5 M ls hP hS hl h
  unfold B_D_since_19 at h
  refine lv_iconst (v := 1) hx hb d_D_since_19 (by decide) ?_
  refine lv_goto (tgt := 24) hx hb d_D_since_20 (by decide) ?_
  exact w_D_since_24 G hI  x1 x2 x3 x5 1 M _ hP hS (lv_sub hl [0, 1, 2, 3, 4] rfl) h
set_option maxHeartbeats 4000000 in
set_option maxRecDepth 100000 in
theorem w_D_since_0 {rv : Int32} (G : Cx p s m args meth c (dC, dI) cls6 (tyl dA) "BankTimesModel" k_D_since 7 (some .int)) (hI : Is_D dA b N sh B C 0)   : ∀ (x1 x2 x3 x4 : Int32) (M : Mm) (ls : Array Slot), va_P (dC, dI) cls6 (wd b N sh M) s.heap → va_S (reg b N s.heap.size) s.heap s.heap [] → lv_has ls 7 [(0, .ref (b + 0)), (1, .int x1), (2, .int x2), (3, .int x3), (4, .int x4)] → f_D_since B C x1 x2 x3 x4 M = some rv → W p l e rm_D_since s m args below meth c s.heap [] 0 0 (MQ below (Qro rv) args s 0 0 nofree) (F0 m 0 ls []) := by
  obtain ⟨hx, hb, hml, hr, hown, hts, hlk, hK⟩ := id G
  intro x1 x2 x3 x4 M ls hP hS hl h
  unfold f_D_since at h
  refine lv_bipush (v := 8) hx hb d_D_since_0 (by decide) ?_
  refine lv_iload_n hx hb d_D_since_2 rfl (lv_at hl 2 rfl) ?_
  refine lv_imul hx hb d_D_since_3 ?_
  refine lv_iload hx hb d_D_since_4 (lv_at hl 4 rfl) ?_
  refine lv_iadd hx hb d_D_since_6 ?_
  obtain ⟨v7, e7, h⟩ := ln h
  refine lv_nm e7 ?_
  refine lv_istore (lv' := [(5, .int v7), (0, .ref (b + 0)), (1, .int x1), (2, .int x2), (3, .int x3), (4, .int x4)]) hx hb d_D_since_7 hl (by decide) rfl (fun ls hl => ?_)
  refine lv_iload_n hx hb d_D_since_9 rfl (lv_at hl 4 rfl) ?_
  refine lv_iconst (v := 1) hx hb d_D_since_10 (by decide) ?_
  refine lv_icmp_eq (tgt := 19) hx hb d_D_since_11 (by decide) (fun c11 => ?_) (fun c11 => ?_)
  · replace h := ogt c11 h
    exact w_D_since_19 G hI  x1 x2 x3 v7 M _ hP hS (lv_sub hl [1, 2, 3, 4, 0] rfl) h
  · replace h := ogf c11 h
    refine lv_iload_n hx hb d_D_since_14 rfl (lv_at hl 4 rfl) ?_
    refine lv_iconst (v := 2) hx hb d_D_since_15 (by decide) ?_
    refine lv_icmp_ne (tgt := 23) hx hb d_D_since_16 (by decide) (fun c16 => ?_) (fun c16 => ?_)
    · replace h := ogf c16 h
      refine lv_iconst (v := 0) hx hb d_D_since_23 (by decide) ?_
      exact w_D_since_24 G hI  x1 x2 x3 v7 0 M _ hP hS (lv_sub hl [1, 2, 3, 4, 0] rfl) h
    · replace h := ogt c16 h
      exact w_D_since_19 G hI  x1 x2 x3 v7 M _ hP hS (lv_sub hl [1, 2, 3, 4, 0] rfl) h
theorem c_D_since (l : Launch) (x1 x2 x3 x4 : Int32) (M : Mm) (sz : Nat) (hI : Is_D dA b N sh B C 0) {rv : Int32} (h : f_D_since B C x1 x2 x3 x4 M = some rv) : Met l y_D_since (wm y_D_since k_D_since 7 (some .int)) rm_D_since (Pw (dC, dI) cls6 (tyl dA) b N sh [.ref (b + 0), .int x1, .int x2, .int x3, .int x4] M sz) (Qro rv) 0 0 nofree := by
  refine mk_met (by decide) (Nat.le_of_ble_eq_true rfl) ?_
  intro p e s m below meth c ls G hsz hP hS hl
  subst hsz
  exact w_D_since_0 G hI _ _ _ _ _ ls hP hS hl h
end
abbrev rm_D_broken : Room := { frames := 1, cells := 0, slots := 0, locals := 26 }
def B_D_broken_3 (B C : Nat) : Nat → Int32 → Int32 → Int32 → Int32 → Int32 → Mm → Option (Int32)
  | 0, _, _, _, _, _, _ => none
  | n + 1, x1, x2, x3, x4, x5, M => (if 9 ≤ x5 then some (-1) else (f_D_since B C x5 x1 x2 x3 M).bind (fun q19 => (if ixb x5 9 = true then (if 0 ≤ (lg_cmp (x4.toInt64 - q19.toInt64) ((M 1 x5.toNatClampNeg).toInt64)) then bnd (x5 + 1) (fun v39 => B_D_broken_3 B C n x1 x2 x3 x4 v39 M) else some x5) else none)))
def f_D_broken (B C : Nat) (x1 x2 x3 x4 : Int32) (M : Mm) : Option (Int32) := B_D_broken_3 B C 1200 x1 x2 x3 x4 0 M
section
variable {p : Program} {l : Launch} {e : Env} {s : State} {m : MethodId} {args : Array Value} {below : List Frame} {meth : Method} {c : Code} {dC : Nat → ClassId} {dI : Nat → Nat → Nat} {dA : Nat → ClassId} {b N B C : Nat} {sh : Shp}
set_option maxHeartbeats 4000000 in
set_option maxRecDepth 100000 in
theorem w_D_broken_3 {rv : Int32} (G : Cx p s m args meth c (dC, dI) cls6 (tyl dA) "BankTimesModel" k_D_broken 6 (some .int)) (hI : Is_D dA b N sh B C 0)   : ∀ (n : Nat) (x1 x2 x3 x4 x5 : Int32) (M : Mm) (ls : Array Slot), va_P (dC, dI) cls6 (wd b N sh M) s.heap → va_S (reg b N s.heap.size) s.heap s.heap [] → lv_has ls 6 [(0, .ref (b + 0)), (1, .int x1), (2, .int x2), (3, .int x3), (4, .int x4), (5, .int x5)] → B_D_broken_3 B C n x1 x2 x3 x4 x5 M = some rv → W p l e rm_D_broken s m args below meth c s.heap [] 0 0 (MQ below (Qro rv) args s 0 0 nofree) (F0 m 3 ls []) := by
  obtain ⟨hx, hb, hml, hr, hown, hts, hlk, hK⟩ := id G
  intro n
  induction n with
  | zero =>
    intro x1 x2 x3 x4 x5 M ls hP hS hl h
    cases h
  | succ n ih =>
    intro x1 x2 x3 x4 x5 M ls hP hS hl h
    rw [B_D_broken_3] at h
    refine lv_iload hx hb d_D_broken_3 (lv_at hl 5 rfl) ?_
    refine lv_bipush (v := 9) hx hb d_D_broken_5 (by decide) ?_
    refine lv_icmp_ge (tgt := 45) hx hb d_D_broken_7 (by decide) (fun c7 => ?_) (fun c7 => ?_)
    · replace h := ogt c7 h
      refine lv_iconst (v := (-1)) hx hb d_D_broken_45 (by decide) ?_
      obtain rfl := oe h
      exact wd_iret0 hx hb hr hlk d_D_broken_46
    · replace h := ogf c7 h
      refine lv_iload hx hb d_D_broken_10 (lv_at hl 4 rfl) ?_
      refine lv_i2l hx hb d_D_broken_12 rfl ?_
      refine lv_aload_n hx hb d_D_broken_13 rfl (lv_at hl 0 rfl) ?_
      refine lv_iload hx hb d_D_broken_14 (lv_at hl 5 rfl) ?_
      refine lv_iload_n hx hb d_D_broken_16 rfl (lv_at hl 1 rfl) ?_
      refine lv_iload_n hx hb d_D_broken_17 rfl (lv_at hl 2 rfl) ?_
      refine lv_iload_n hx hb d_D_broken_18 rfl (lv_at hl 3 rfl) ?_
      obtain ⟨q19, hc19, h⟩ := obd h
      refine wd_cvr (As := [.int x5, .int x1, .int x2, .int x3]) (rest := [.long x4.toInt64]) ⟨hx, hb, hml, hown, hts⟩ hK hP 0 hI.1 hI.2.1 rfl (c_D_since l x5 x1 x2 x3 M _ hI hc19) (cwV 4 hts (wmV t_237 t_239 t_240 t_229 t_238) rfl rfl rfl (by decide +kernel) ⟨by decide, by decide⟩) rfl hl.1 rfl (Nat.le_of_ble_eq_true rfl) d_D_broken_19 ⟨Nat.zero_le _, Nat.zero_le _⟩ ?_
      refine lv_i2l hx hb d_D_broken_22 rfl ?_
      refine lv_lsub hx hb d_D_broken_23 ?_
      refine lv_aload_n hx hb d_D_broken_24 rfl (lv_at hl 0 rfl) ?_
      refine wd_getr hx hb hts i_D hown hK hP 0 hI.1 hI.2.1 rfl 7 (by decide) t_241 rfl d_D_broken_25 ?_
      refine lv_iload hx hb d_D_broken_28 (lv_at hl 5 rfl) ?_
      obtain ⟨hi30, h⟩ := og h
      refine wd_iald hx hb hK hP 1 0 hI.2.2.1.1 hI.2.2.1.2 rfl hi30 d_D_broken_30 ?_
      refine lv_i2l hx hb d_D_broken_31 rfl ?_
      refine W.lcmp hx hb d_D_broken_32 ?_
      refine lv_if_ge (tgt := 39) hx hb d_D_broken_33 (by decide) (fun c33 => ?_) (fun c33 => ?_)
      · replace h := ogt c33 h
        obtain ⟨v39, e39, h⟩ := ln h
        refine lv_iinc (v := v39) (lv' := [(5, .int v39), (0, .ref (b + 0)), (1, .int x1), (2, .int x2), (3, .int x3), (4, .int x4)]) hx hb d_D_broken_39 hl (k := 5) rfl (by rw [e39]; rfl) (by decide) rfl (fun ls hl => ?_)
        refine lv_goto (tgt := 3) hx hb d_D_broken_42 (by decide) ?_
        exact ih x1 x2 x3 x4 v39 M _ hP hS (lv_sub hl [1, 2, 3, 4, 5, 0] rfl) h
      · replace h := ogf c33 h
        refine lv_iload hx hb d_D_broken_36 (lv_at hl 5 rfl) ?_
        obtain rfl := oe h
        exact wd_iret0 hx hb hr hlk d_D_broken_38
set_option maxHeartbeats 4000000 in
set_option maxRecDepth 100000 in
theorem w_D_broken_0 {rv : Int32} (G : Cx p s m args meth c (dC, dI) cls6 (tyl dA) "BankTimesModel" k_D_broken 6 (some .int)) (hI : Is_D dA b N sh B C 0)   : ∀ (x1 x2 x3 x4 : Int32) (M : Mm) (ls : Array Slot), va_P (dC, dI) cls6 (wd b N sh M) s.heap → va_S (reg b N s.heap.size) s.heap s.heap [] → lv_has ls 6 [(0, .ref (b + 0)), (1, .int x1), (2, .int x2), (3, .int x3), (4, .int x4)] → f_D_broken B C x1 x2 x3 x4 M = some rv → W p l e rm_D_broken s m args below meth c s.heap [] 0 0 (MQ below (Qro rv) args s 0 0 nofree) (F0 m 0 ls []) := by
  obtain ⟨hx, hb, hml, hr, hown, hts, hlk, hK⟩ := id G
  intro x1 x2 x3 x4 M ls hP hS hl h
  unfold f_D_broken at h
  refine lv_iconst (v := 0) hx hb d_D_broken_0 (by decide) ?_
  refine lv_istore (lv' := [(5, .int 0), (0, .ref (b + 0)), (1, .int x1), (2, .int x2), (3, .int x3), (4, .int x4)]) hx hb d_D_broken_1 hl (by decide) rfl (fun ls hl => ?_)
  exact w_D_broken_3 G hI  1200 x1 x2 x3 x4 0 M _ hP hS (lv_sub hl [1, 2, 3, 4, 5, 0] rfl) h
theorem c_D_broken (l : Launch) (x1 x2 x3 x4 : Int32) (M : Mm) (sz : Nat) (hI : Is_D dA b N sh B C 0) {rv : Int32} (h : f_D_broken B C x1 x2 x3 x4 M = some rv) : Met l y_D_broken (wm y_D_broken k_D_broken 6 (some .int)) rm_D_broken (Pw (dC, dI) cls6 (tyl dA) b N sh [.ref (b + 0), .int x1, .int x2, .int x3, .int x4] M sz) (Qro rv) 0 0 nofree := by
  refine mk_met (by decide) (Nat.le_of_ble_eq_true rfl) ?_
  intro p e s m below meth c ls G hsz hP hS hl
  subst hsz
  exact w_D_broken_0 G hI _ _ _ _ _ ls hP hS hl h
end
abbrev rm_D_note : Room := { frames := 0, cells := 0, slots := 0, locals := 0 }
def B_D_note_33 (B C : Nat) : Nat → Int32 → Int32 → Int32 → Mm → Option (Mm)
  | 0, _, _, _, _ => none
  | n + 1, x1, x5, x7, M => (if x7 ≤ 0 then (if ixb (4 * x1) 16 = true then bnd (up2 M 10 (4 * x1).toNatClampNeg x5) (fun M77 => some M77) else none) else (if ixb (((4 * x1) + x7) - 1) 16 = true then (if ixb ((4 * x1) + x7) 16 = true then bnd (up2 M 10 ((4 * x1) + x7).toNatClampNeg (M 10 (((4 * x1) + x7) - 1).toNatClampNeg)) (fun M61 => bnd (x7 + (-1)) (fun v62 => B_D_note_33 B C n x1 x5 v62 M61)) else none) else none))
def f_D_note (B C : Nat) (x1 x2 x3 x4 x5 : Int32) (M : Mm) : Option (Mm) := bnd ((8 * x1) + x3) (fun v6 => (if x2 = 0 then (if ixb v6 32 = true then bnd (up2 M 2 v6.toNatClampNeg x4) (fun M20 => (if ixb v6 32 = true then bnd (up2 M20 3 v6.toNatClampNeg x5) (fun M29 => B_D_note_33 B C 1200 x1 x5 3 M29) else none)) else none) else (if x2 = 3 then (if ixb v6 32 = true then bnd (up2 M 2 v6.toNatClampNeg (-1)) (fun M93 => (if ixb v6 32 = true then bnd (up2 M93 4 v6.toNatClampNeg x5) (fun M102 => some M102) else none)) else none) else (if x2 = 4 then (if ixb x1 4 = true then bnd (up2 M 9 x1.toNatClampNeg x5) (fun M118 => some M118) else none) else (if ixb x1 4 = true then bnd (up2 M 8 x1.toNatClampNeg x5) (fun M129 => (if x2 = 1 then (if ixb v6 32 = true then bnd (up2 M129 5 v6.toNatClampNeg x5) (fun M143 => some M143) else none) else (if ixb v6 32 = true then bnd (up2 M129 6 v6.toNatClampNeg x5) (fun M155 => (if ixb x1 4 = true then bnd (up2 M155 7 x1.toNatClampNeg x5) (fun M163 => some M163) else none)) else none))) else none)))))
section
variable {p : Program} {l : Launch} {e : Env} {s : State} {m : MethodId} {args : Array Value} {below : List Frame} {meth : Method} {c : Code} {dC : Nat → ClassId} {dI : Nat → Nat → Nat} {dA : Nat → ClassId} {b N B C : Nat} {sh : Shp}
set_option maxHeartbeats 4000000 in
set_option maxRecDepth 100000 in
theorem w_D_note_33 {M' : Mm} (G : Cx p s m args meth c (dC, dI) cls6 (tyl dA) "BankTimesModel" k_D_note 8 none) (hI : Is_D dA b N sh B C 0)   : ∀ (n : Nat) (x1 x5 x7 : Int32) (M : Mm) (H : Heap) (locs : List Loc) (ls : Array Slot), va_P (dC, dI) cls6 (wd b N sh M) H → va_S (reg b N s.heap.size) s.heap H locs → lv_has ls 8 [(0, .ref (b + 0)), (1, .int x1), (5, .int x5), (7, .int x7)] → B_D_note_33 B C n x1 x5 x7 M = some M' → W p l e rm_D_note s m args below meth c H locs 0 0 (MQ below (Qwv (dC, dI) cls6 b N sh M' s.heap.size) args s 0 0 (reg b N s.heap.size)) (F0 m 33 ls []) := by
  obtain ⟨hx, hb, hml, hr, hown, hts, hlk, hK⟩ := id G
  intro n
  induction n with
  | zero =>
    intro x1 x5 x7 M H locs ls hP hS hl h
    cases h
  | succ n ih =>
    intro x1 x5 x7 M H locs ls hP hS hl h
    rw [B_D_note_33] at h
    refine lv_iload hx hb d_D_note_33 (lv_at hl 3 rfl) ?_
    refine lv_if_le (tgt := 68) hx hb d_D_note_35 (by decide) (fun c35 => ?_) (fun c35 => ?_)
    · replace h := ogt c35 h
      refine lv_aload_n hx hb d_D_note_68 rfl (lv_at hl 0 rfl) ?_
      refine wd_getr hx hb hts i_D hown hK hP 0 hI.1 hI.2.1 rfl 16 (by decide) t_219 rfl d_D_note_69 ?_
      refine lv_iconst (v := 4) hx hb d_D_note_72 (by decide) ?_
      refine lv_iload_n hx hb d_D_note_73 rfl (lv_at hl 1 rfl) ?_
      refine lv_imul hx hb d_D_note_74 ?_
      refine lv_iload hx hb d_D_note_75 (lv_at hl 2 rfl) ?_
      obtain ⟨hi77, h⟩ := og h
      obtain ⟨M77, eM77, h⟩ := ln h
      refine wd_iast hx hb hK hP hS 10 0 hI.2.2.2.2.2.2.2.2.2.2.2.1.1 hI.2.2.2.2.2.2.2.2.2.2.2.1.2 rfl hi77 d_D_note_77 (fun H locs hP hS => ?_)
      rw [← eM77] at hP
      refine lv_goto (tgt := 164) hx hb d_D_note_78 (by decide) ?_
      obtain rfl := oe h
      exact wd_vret hx hb hr hlk hP hS d_D_note_164
    · replace h := ogf c35 h
      refine lv_aload_n hx hb d_D_note_38 rfl (lv_at hl 0 rfl) ?_
      refine wd_getr hx hb hts i_D hown hK hP 0 hI.1 hI.2.1 rfl 16 (by decide) t_219 rfl d_D_note_39 ?_
      refine lv_iconst (v := 4) hx hb d_D_note_42 (by decide) ?_
      refine lv_iload_n hx hb d_D_note_43 rfl (lv_at hl 1 rfl) ?_
      refine lv_imul hx hb d_D_note_44 ?_
      refine lv_iload hx hb d_D_note_45 (lv_at hl 3 rfl) ?_
      refine lv_iadd hx hb d_D_note_47 ?_
      refine lv_aload_n hx hb d_D_note_48 rfl (lv_at hl 0 rfl) ?_
      refine wd_getr hx hb hts i_D hown hK hP 0 hI.1 hI.2.1 rfl 16 (by decide) t_219 rfl d_D_note_49 ?_
      refine lv_iconst (v := 4) hx hb d_D_note_52 (by decide) ?_
      refine lv_iload_n hx hb d_D_note_53 rfl (lv_at hl 1 rfl) ?_
      refine lv_imul hx hb d_D_note_54 ?_
      refine lv_iload hx hb d_D_note_55 (lv_at hl 3 rfl) ?_
      refine lv_iadd hx hb d_D_note_57 ?_
      refine lv_iconst (v := 1) hx hb d_D_note_58 (by decide) ?_
      refine lv_isub hx hb d_D_note_59 ?_
      obtain ⟨hi60, h⟩ := og h
      refine wd_iald hx hb hK hP 10 0 hI.2.2.2.2.2.2.2.2.2.2.2.1.1 hI.2.2.2.2.2.2.2.2.2.2.2.1.2 rfl hi60 d_D_note_60 ?_
      obtain ⟨hi61, h⟩ := og h
      obtain ⟨M61, eM61, h⟩ := ln h
      refine wd_iast hx hb hK hP hS 10 0 hI.2.2.2.2.2.2.2.2.2.2.2.1.1 hI.2.2.2.2.2.2.2.2.2.2.2.1.2 rfl hi61 d_D_note_61 (fun H locs hP hS => ?_)
      rw [← eM61] at hP
      obtain ⟨v62, e62, h⟩ := ln h
      refine lv_iinc (v := v62) (lv' := [(7, .int v62), (0, .ref (b + 0)), (1, .int x1), (5, .int x5)]) hx hb d_D_note_62 hl (k := 3) rfl (by rw [e62]; rfl) (by decide) rfl (fun ls hl => ?_)
      refine lv_goto (tgt := 33) hx hb d_D_note_65 (by decide) ?_
      exact ih x1 x5 v62 M61 _ _ _ hP hS (lv_sub hl [1, 2, 3, 0] rfl) h
set_option maxHeartbeats 4000000 in
set_option maxRecDepth 100000 in
theorem w_D_note_0 {M' : Mm} (G : Cx p s m args meth c (dC, dI) cls6 (tyl dA) "BankTimesModel" k_D_note 8 none) (hI : Is_D dA b N sh B C 0)   : ∀ (x1 x2 x3 x4 x5 : Int32) (M : Mm) (ls : Array Slot), va_P (dC, dI) cls6 (wd b N sh M) s.heap → va_S (reg b N s.heap.size) s.heap s.heap [] → lv_has ls 8 [(0, .ref (b + 0)), (1, .int x1), (2, .int x2), (3, .int x3), (4, .int x4), (5, .int x5)] → f_D_note B C x1 x2 x3 x4 x5 M = some M' → W p l e rm_D_note s m args below meth c s.heap [] 0 0 (MQ below (Qwv (dC, dI) cls6 b N sh M' s.heap.size) args s 0 0 (reg b N s.heap.size)) (F0 m 0 ls []) := by
  obtain ⟨hx, hb, hml, hr, hown, hts, hlk, hK⟩ := id G
  intro x1 x2 x3 x4 x5 M ls hP hS hl h
  unfold f_D_note at h
  refine lv_bipush (v := 8) hx hb d_D_note_0 (by decide) ?_
  refine lv_iload_n hx hb d_D_note_2 rfl (lv_at hl 1 rfl) ?_
  refine lv_imul hx hb d_D_note_3 ?_
  refine lv_iload_n hx hb d_D_note_4 rfl (lv_at hl 3 rfl) ?_
  refine lv_iadd hx hb d_D_note_5 ?_
  obtain ⟨v6, e6, h⟩ := ln h
  refine lv_nm e6 ?_
  refine lv_istore (lv' := [(6, .int v6), (0, .ref (b + 0)), (1, .int x1), (2, .int x2), (3, .int x3), (4, .int x4), (5, .int x5)]) hx hb d_D_note_6 hl (by decide) rfl (fun ls hl => ?_)
  refine lv_iload_n hx hb d_D_note_8 rfl (lv_at hl 3 rfl) ?_
  refine lv_if_ne (tgt := 81) hx hb d_D_note_9 (by decide) (fun c9 => ?_) (fun c9 => ?_)
  · replace h := ogf c9 h
    refine lv_iload_n hx hb d_D_note_81 rfl (lv_at hl 3 rfl) ?_
    refine lv_iconst (v := 3) hx hb d_D_note_82 (by decide) ?_
    refine lv_icmp_ne (tgt := 106) hx hb d_D_note_83 (by decide) (fun c83 => ?_) (fun c83 => ?_)
    · replace h := ogf c83 h
      refine lv_iload_n hx hb d_D_note_106 rfl (lv_at hl 3 rfl) ?_
      refine lv_iconst (v := 4) hx hb d_D_note_107 (by decide) ?_
      refine lv_icmp_ne (tgt := 122) hx hb d_D_note_108 (by decide) (fun c108 => ?_) (fun c108 => ?_)
      · replace h := ogf c108 h
        refine lv_aload_n hx hb d_D_note_122 rfl (lv_at hl 1 rfl) ?_
        refine wd_getr hx hb hts i_D hown hK hP 0 hI.1 hI.2.1 rfl 14 (by decide) t_216 rfl d_D_note_123 ?_
        refine lv_iload_n hx hb d_D_note_126 rfl (lv_at hl 2 rfl) ?_
        refine lv_iload hx hb d_D_note_127 (lv_at hl 6 rfl) ?_
        obtain ⟨hi129, h⟩ := og h
        obtain ⟨M129, eM129, h⟩ := ln h
        refine wd_iast hx hb hK hP hS 8 0 hI.2.2.2.2.2.2.2.2.2.1.1 hI.2.2.2.2.2.2.2.2.2.1.2 rfl hi129 d_D_note_129 (fun H locs hP hS => ?_)
        rw [← eM129] at hP
        refine lv_iload_n hx hb d_D_note_130 rfl (lv_at hl 3 rfl) ?_
        refine lv_iconst (v := 1) hx hb d_D_note_131 (by decide) ?_
        refine lv_icmp_ne (tgt := 147) hx hb d_D_note_132 (by decide) (fun c132 => ?_) (fun c132 => ?_)
        · replace h := ogf c132 h
          refine lv_aload_n hx hb d_D_note_147 rfl (lv_at hl 1 rfl) ?_
          refine wd_getr hx hb hts i_D hown hK hP 0 hI.1 hI.2.1 rfl 12 (by decide) t_224 rfl d_D_note_148 ?_
          refine lv_iload hx hb d_D_note_151 (lv_at hl 0 rfl) ?_
          refine lv_iload hx hb d_D_note_153 (lv_at hl 6 rfl) ?_
          obtain ⟨hi155, h⟩ := og h
          obtain ⟨M155, eM155, h⟩ := ln h
          refine wd_iast hx hb hK hP hS 6 0 hI.2.2.2.2.2.2.2.1.1 hI.2.2.2.2.2.2.2.1.2 rfl hi155 d_D_note_155 (fun H locs hP hS => ?_)
          rw [← eM155] at hP
          refine lv_aload_n hx hb d_D_note_156 rfl (lv_at hl 1 rfl) ?_
          refine wd_getr hx hb hts i_D hown hK hP 0 hI.1 hI.2.1 rfl 13 (by decide) t_214 rfl d_D_note_157 ?_
          refine lv_iload_n hx hb d_D_note_160 rfl (lv_at hl 2 rfl) ?_
          refine lv_iload hx hb d_D_note_161 (lv_at hl 6 rfl) ?_
          obtain ⟨hi163, h⟩ := og h
          obtain ⟨M163, eM163, h⟩ := ln h
          refine wd_iast hx hb hK hP hS 7 0 hI.2.2.2.2.2.2.2.2.1.1 hI.2.2.2.2.2.2.2.2.1.2 rfl hi163 d_D_note_163 (fun H locs hP hS => ?_)
          rw [← eM163] at hP
          obtain rfl := oe h
          exact wd_vret hx hb hr hlk hP hS d_D_note_164
        · replace h := ogt c132 h
          refine lv_aload_n hx hb d_D_note_135 rfl (lv_at hl 1 rfl) ?_
          refine wd_getr hx hb hts i_D hown hK hP 0 hI.1 hI.2.1 rfl 11 (by decide) t_223 rfl d_D_note_136 ?_
          refine lv_iload hx hb d_D_note_139 (lv_at hl 0 rfl) ?_
          refine lv_iload hx hb d_D_note_141 (lv_at hl 6 rfl) ?_
          obtain ⟨hi143, h⟩ := og h
          obtain ⟨M143, eM143, h⟩ := ln h
          refine wd_iast hx hb hK hP hS 5 0 hI.2.2.2.2.2.2.1.1 hI.2.2.2.2.2.2.1.2 rfl hi143 d_D_note_143 (fun H locs hP hS => ?_)
          rw [← eM143] at hP
          refine lv_goto (tgt := 164) hx hb d_D_note_144 (by decide) ?_
          obtain rfl := oe h
          exact wd_vret hx hb hr hlk hP hS d_D_note_164
      · replace h := ogt c108 h
        refine lv_aload_n hx hb d_D_note_111 rfl (lv_at hl 1 rfl) ?_
        refine wd_getr hx hb hts i_D hown hK hP 0 hI.1 hI.2.1 rfl 15 (by decide) t_217 rfl d_D_note_112 ?_
        refine lv_iload_n hx hb d_D_note_115 rfl (lv_at hl 2 rfl) ?_
        refine lv_iload hx hb d_D_note_116 (lv_at hl 6 rfl) ?_
        obtain ⟨hi118, h⟩ := og h
        obtain ⟨M118, eM118, h⟩ := ln h
        refine wd_iast hx hb hK hP hS 9 0 hI.2.2.2.2.2.2.2.2.2.2.1.1 hI.2.2.2.2.2.2.2.2.2.2.1.2 rfl hi118 d_D_note_118 (fun H locs hP hS => ?_)
        rw [← eM118] at hP
        refine lv_goto (tgt := 164) hx hb d_D_note_119 (by decide) ?_
        obtain rfl := oe h
        exact wd_vret hx hb hr hlk hP hS d_D_note_164
    · replace h := ogt c83 h
      refine lv_aload_n hx hb d_D_note_86 rfl (lv_at hl 1 rfl) ?_
      refine wd_getr hx hb hts i_D hown hK hP 0 hI.1 hI.2.1 rfl 8 (by decide) t_220 rfl d_D_note_87 ?_
      refine lv_iload hx hb d_D_note_90 (lv_at hl 0 rfl) ?_
      refine lv_iconst (v := (-1)) hx hb d_D_note_92 (by decide) ?_
      obtain ⟨hi93, h⟩ := og h
      obtain ⟨M93, eM93, h⟩ := ln h
      refine wd_iast hx hb hK hP hS 2 0 hI.2.2.2.1.1 hI.2.2.2.1.2 rfl hi93 d_D_note_93 (fun H locs hP hS => ?_)
      rw [← eM93] at hP
      refine lv_aload_n hx hb d_D_note_94 rfl (lv_at hl 1 rfl) ?_
      refine wd_getr hx hb hts i_D hown hK hP 0 hI.1 hI.2.1 rfl 10 (by decide) t_222 rfl d_D_note_95 ?_
      refine lv_iload hx hb d_D_note_98 (lv_at hl 0 rfl) ?_
      refine lv_iload hx hb d_D_note_100 (lv_at hl 6 rfl) ?_
      obtain ⟨hi102, h⟩ := og h
      obtain ⟨M102, eM102, h⟩ := ln h
      refine wd_iast hx hb hK hP hS 4 0 hI.2.2.2.2.2.1.1 hI.2.2.2.2.2.1.2 rfl hi102 d_D_note_102 (fun H locs hP hS => ?_)
      rw [← eM102] at hP
      refine lv_goto (tgt := 164) hx hb d_D_note_103 (by decide) ?_
      obtain rfl := oe h
      exact wd_vret hx hb hr hlk hP hS d_D_note_164
  · replace h := ogt c9 h
    refine lv_aload_n hx hb d_D_note_12 rfl (lv_at hl 1 rfl) ?_
    refine wd_getr hx hb hts i_D hown hK hP 0 hI.1 hI.2.1 rfl 8 (by decide) t_220 rfl d_D_note_13 ?_
    refine lv_iload hx hb d_D_note_16 (lv_at hl 0 rfl) ?_
    refine lv_iload hx hb d_D_note_18 (lv_at hl 5 rfl) ?_
    obtain ⟨hi20, h⟩ := og h
    obtain ⟨M20, eM20, h⟩ := ln h
    refine wd_iast hx hb hK hP hS 2 0 hI.2.2.2.1.1 hI.2.2.2.1.2 rfl hi20 d_D_note_20 (fun H locs hP hS => ?_)
    rw [← eM20] at hP
    refine lv_aload_n hx hb d_D_note_21 rfl (lv_at hl 1 rfl) ?_
    refine wd_getr hx hb hts i_D hown hK hP 0 hI.1 hI.2.1 rfl 9 (by decide) t_221 rfl d_D_note_22 ?_
    refine lv_iload hx hb d_D_note_25 (lv_at hl 0 rfl) ?_
    refine lv_iload hx hb d_D_note_27 (lv_at hl 6 rfl) ?_
    obtain ⟨hi29, h⟩ := og h
    obtain ⟨M29, eM29, h⟩ := ln h
    refine wd_iast hx hb hK hP hS 3 0 hI.2.2.2.2.1.1 hI.2.2.2.2.1.2 rfl hi29 d_D_note_29 (fun H locs hP hS => ?_)
    rw [← eM29] at hP
    refine lv_iconst (v := 3) hx hb d_D_note_30 (by decide) ?_
    refine lv_istore (lv' := [(7, .int 3), (6, .int v6), (0, .ref (b + 0)), (1, .int x1), (2, .int x2), (3, .int x3), (4, .int x4), (5, .int x5)]) hx hb d_D_note_31 hl (by decide) rfl (fun ls hl => ?_)
    exact w_D_note_33 G hI  1200 x1 x5 3 M29 _ _ _ hP hS (lv_sub hl [2, 3, 7, 0] rfl) h
theorem c_D_note (l : Launch) (x1 x2 x3 x4 x5 : Int32) (M : Mm) (sz : Nat) (hI : Is_D dA b N sh B C 0) {M' : Mm} (h : f_D_note B C x1 x2 x3 x4 x5 M = some M') : Met l y_D_note (wm y_D_note k_D_note 8 none) rm_D_note (Pw (dC, dI) cls6 (tyl dA) b N sh [.ref (b + 0), .int x1, .int x2, .int x3, .int x4, .int x5] M sz) (Qwv (dC, dI) cls6 b N sh M' sz) 0 0 (reg b N sz) := by
  refine mk_met (by decide) (Nat.le_of_ble_eq_true rfl) ?_
  intro p e s m below meth c ls G hsz hP hS hl
  subst hsz
  exact w_D_note_0 G hI _ _ _ _ _ _ ls hP hS hl h
end
abbrev rm_D_waiting : Room := { frames := 1, cells := 0, slots := 0, locals := 21 }
def B_D_waiting_45 (B C : Nat) (K4 : Int32 → Int32 → Int32 → Mm → Option (Int32)) (x1 x3 s0 s1 : Int32) (M : Mm) : Option (Int32) := bnd (s0 + s1) (fun v46 => bnd (x3 + 1) (fun v47 => K4 x1 v46 v47 M))
def B_D_waiting_44 (B C : Nat) (K4 : Int32 → Int32 → Int32 → Mm → Option (Int32)) (x1 x3 s0 : Int32) (M : Mm) : Option (Int32) := B_D_waiting_45 B C K4 x1 x3 s0 0 M
def B_D_waiting_40 (B C : Nat) (K4 : Int32 → Int32 → Int32 → Mm → Option (Int32)) (x1 x3 s0 : Int32) (M : Mm) : Option (Int32) := B_D_waiting_45 B C K4 x1 x3 s0 1 M
def B_D_waiting_4 (B C : Nat) : Nat → Int32 → Int32 → Int32 → Mm → Option (Int32)
  | 0, _, _, _, _ => none
  | n + 1, x1, x2, x3, M => (if (M 0 20) ≤ x3 then some x2 else (if ixb x3 600 = true then (if 0 ≤ (M 17 x3.toNatClampNeg) then B_D_waiting_44 B C (fun y0 y1 y2 M => B_D_waiting_4 B C n y0 y1 y2 M) x1 x3 x2 M else (if x1 < 0 then B_D_waiting_40 B C (fun y0 y1 y2 M => B_D_waiting_4 B C n y0 y1 y2 M) x1 x3 x2 M else (if ixb x3 600 = true then (f_D_channelOf B C (M 14 x3.toNatClampNeg) M).bind (fun q33 => (if q33 = x1 then B_D_waiting_40 B C (fun y0 y1 y2 M => B_D_waiting_4 B C n y0 y1 y2 M) x1 x3 x2 M else B_D_waiting_44 B C (fun y0 y1 y2 M => B_D_waiting_4 B C n y0 y1 y2 M) x1 x3 x2 M)) else none))) else none))
def f_D_waiting (B C : Nat) (x1 : Int32) (M : Mm) : Option (Int32) := B_D_waiting_4 B C 1200 x1 0 0 M
section
variable {p : Program} {l : Launch} {e : Env} {s : State} {m : MethodId} {args : Array Value} {below : List Frame} {meth : Method} {c : Code} {dC : Nat → ClassId} {dI : Nat → Nat → Nat} {dA : Nat → ClassId} {b N B C : Nat} {sh : Shp}
set_option maxHeartbeats 4000000 in
set_option maxRecDepth 100000 in
theorem w_D_waiting_45 {rv : Int32} (G : Cx p s m args meth c (dC, dI) cls6 (tyl dA) "BankTimesModel" k_D_waiting 4 (some .int)) (hI : Is_D dA b N sh B C 0)  {K4 : Int32 → Int32 → Int32 → Mm → Option (Int32)} (hK4 : ∀ (x1 x2 x3 : Int32) (M : Mm) (ls : Array Slot), va_P (dC, dI) cls6 (wd b N sh M) s.heap → va_S (reg b N s.heap.size) s.heap s.heap [] → lv_has ls 4 [(0, .ref (b + 0)), (1, .int x1), (2, .int x2), (3, .int x3)] → K4 x1 x2 x3 M = some rv → W p l e rm_D_waiting s m args below meth c s.heap [] 0 0 (MQ below (Qro rv) args s 0 0 nofree) (F0 m 4 ls []))  : ∀ (x1 x3 s0 s1 : Int32) (M : Mm) (ls : Array Slot), va_P (dC, dI) cls6 (wd b N sh M) s.heap → va_S (reg b N s.heap.size) s.heap s.heap [] → lv_has ls 4 [(0, .ref (b + 0)), (1, .int x1), (3, .int x3)] → B_D_waiting_45 B C K4 x1 x3 s0 s1 M = some rv → W p l e rm_D_waiting s m args below meth c s.heap [] 0 0 (MQ below (Qro rv) args s 0 0 nofree) (F0 m 45 ls [.int s1, .int s0]) := by
  obtain ⟨hx, hb, hml, hr, hown, hts, hlk, hK⟩ := id G
  intro x1 x3 s0 s1 M ls hP hS hl h
  unfold B_D_waiting_45 at h
  refine lv_iadd hx hb d_D_waiting_45 ?_
  obtain ⟨v46, e46, h⟩ := ln h
  refine lv_nm e46 ?_
  refine lv_istore_n (lv' := [(2, .int v46), (0, .ref (b + 0)), (1, .int x1), (3, .int x3)]) hx hb d_D_waiting_46 rfl hl (by decide) rfl (fun ls hl => ?_)
  obtain ⟨v47, e47, h⟩ := ln h
  refine lv_iinc (v := v47) (lv' := [(3, .int v47), (2, .int v46), (0, .ref (b + 0)), (1, .int x1)]) hx hb d_D_waiting_47 hl (k := 3) rfl (by rw [e47]; rfl) (by decide) rfl (fun ls hl => ?_)
  refine lv_goto (tgt := 4) hx hb d_D_waiting_50 (by decide) ?_
  exact hK4 x1 v46 v47 M _ hP hS (lv_sub hl [2, 3, 1, 0] rfl) h
set_option maxHeartbeats 4000000 in
set_option maxRecDepth 100000 in
theorem w_D_waiting_44 {rv : Int32} (G : Cx p s m args meth c (dC, dI) cls6 (tyl dA) "BankTimesModel" k_D_waiting 4 (some .int)) (hI : Is_D dA b N sh B C 0)  {K4 : Int32 → Int32 → Int32 → Mm → Option (Int32)} (hK4 : ∀ (x1 x2 x3 : Int32) (M : Mm) (ls : Array Slot), va_P (dC, dI) cls6 (wd b N sh M) s.heap → va_S (reg b N s.heap.size) s.heap s.heap [] → lv_has ls 4 [(0, .ref (b + 0)), (1, .int x1), (2, .int x2), (3, .int x3)] → K4 x1 x2 x3 M = some rv → W p l e rm_D_waiting s m args below meth c s.heap [] 0 0 (MQ below (Qro rv) args s 0 0 nofree) (F0 m 4 ls []))  : ∀ (x1 x3 s0 : Int32) (M : Mm) (ls : Array Slot), va_P (dC, dI) cls6 (wd b N sh M) s.heap → va_S (reg b N s.heap.size) s.heap s.heap [] → lv_has ls 4 [(0, .ref (b + 0)), (1, .int x1), (3, .int x3)] → B_D_waiting_44 B C K4 x1 x3 s0 M = some rv → W p l e rm_D_waiting s m args below meth c s.heap [] 0 0 (MQ below (Qro rv) args s 0 0 nofree) (F0 m 44 ls [.int s0]) := by
  obtain ⟨hx, hb, hml, hr, hown, hts, hlk, hK⟩ := id G
  intro x1 x3 s0 M ls hP hS hl h
  unfold B_D_waiting_44 at h
  refine lv_iconst (v := 0) hx hb d_D_waiting_44 (by decide) ?_
  exact w_D_waiting_45 G hI hK4  x1 x3 s0 0 M _ hP hS (lv_sub hl [0, 1, 2] rfl) h
set_option maxHeartbeats 4000000 in
set_option maxRecDepth 100000 in
theorem w_D_waiting_40 {rv : Int32} (G : Cx p s m args meth c (dC, dI) cls6 (tyl dA) "BankTimesModel" k_D_waiting 4 (some .int)) (hI : Is_D dA b N sh B C 0)  {K4 : Int32 → Int32 → Int32 → Mm → Option (Int32)} (hK4 : ∀ (x1 x2 x3 : Int32) (M : Mm) (ls : Array Slot), va_P (dC, dI) cls6 (wd b N sh M) s.heap → va_S (reg b N s.heap.size) s.heap s.heap [] → lv_has ls 4 [(0, .ref (b + 0)), (1, .int x1), (2, .int x2), (3, .int x3)] → K4 x1 x2 x3 M = some rv → W p l e rm_D_waiting s m args below meth c s.heap [] 0 0 (MQ below (Qro rv) args s 0 0 nofree) (F0 m 4 ls []))  : ∀ (x1 x3 s0 : Int32) (M : Mm) (ls : Array Slot), va_P (dC, dI) cls6 (wd b N sh M) s.heap → va_S (reg b N s.heap.size) s.heap s.heap [] → lv_has ls 4 [(0, .ref (b + 0)), (1, .int x1), (3, .int x3)] → B_D_waiting_40 B C K4 x1 x3 s0 M = some rv → W p l e rm_D_waiting s m args below meth c s.heap [] 0 0 (MQ below (Qro rv) args s 0 0 nofree) (F0 m 40 ls [.int s0]) := by
  obtain ⟨hx, hb, hml, hr, hown, hts, hlk, hK⟩ := id G
  intro x1 x3 s0 M ls hP hS hl h
  unfold B_D_waiting_40 at h
  refine lv_iconst (v := 1) hx hb d_D_waiting_40 (by decide) ?_
  refine lv_goto (tgt := 45) hx hb d_D_waiting_41 (by decide) ?_
  exact w_D_waiting_45 G hI hK4  x1 x3 s0 1 M _ hP hS (lv_sub hl [0, 1, 2] rfl) h
set_option maxHeartbeats 4000000 in
set_option maxRecDepth 100000 in
theorem w_D_waiting_4 {rv : Int32} (G : Cx p s m args meth c (dC, dI) cls6 (tyl dA) "BankTimesModel" k_D_waiting 4 (some .int)) (hI : Is_D dA b N sh B C 0)   : ∀ (n : Nat) (x1 x2 x3 : Int32) (M : Mm) (ls : Array Slot), va_P (dC, dI) cls6 (wd b N sh M) s.heap → va_S (reg b N s.heap.size) s.heap s.heap [] → lv_has ls 4 [(0, .ref (b + 0)), (1, .int x1), (2, .int x2), (3, .int x3)] → B_D_waiting_4 B C n x1 x2 x3 M = some rv → W p l e rm_D_waiting s m args below meth c s.heap [] 0 0 (MQ below (Qro rv) args s 0 0 nofree) (F0 m 4 ls []) := by
  obtain ⟨hx, hb, hml, hr, hown, hts, hlk, hK⟩ := id G
  intro n
  induction n with
  | zero =>
    intro x1 x2 x3 M ls hP hS hl h
    cases h
  | succ n ih =>
    intro x1 x2 x3 M ls hP hS hl h
    rw [B_D_waiting_4] at h
    refine lv_iload_n hx hb d_D_waiting_4 rfl (lv_at hl 3 rfl) ?_
    refine lv_aload_n hx hb d_D_waiting_5 rfl (lv_at hl 0 rfl) ?_
    refine wd_geti hx hb hts i_D hown hK hP 0 hI.1 hI.2.1 rfl 20 (by decide) t_242 rfl d_D_waiting_6 ?_
    refine lv_icmp_ge (tgt := 53) hx hb d_D_waiting_9 (by decide) (fun c9 => ?_) (fun c9 => ?_)
    · replace h := ogt c9 h
      refine lv_iload_n hx hb d_D_waiting_53 rfl (lv_at hl 2 rfl) ?_
      obtain rfl := oe h
      exact wd_iret0 hx hb hr hlk d_D_waiting_54
    · replace h := ogf c9 h
      refine lv_iload_n hx hb d_D_waiting_12 rfl (lv_at hl 2 rfl) ?_
      refine lv_aload_n hx hb d_D_waiting_13 rfl (lv_at hl 0 rfl) ?_
      refine wd_getr hx hb hts i_D hown hK hP 0 hI.1 hI.2.1 rfl 26 (by decide) t_243 rfl d_D_waiting_14 ?_
      refine lv_iload_n hx hb d_D_waiting_17 rfl (lv_at hl 3 rfl) ?_
      obtain ⟨hi18, h⟩ := og h
      refine wd_iald hx hb hK hP 17 0 hI.2.2.2.2.2.2.2.2.2.2.2.2.2.2.2.2.2.2.1.1 hI.2.2.2.2.2.2.2.2.2.2.2.2.2.2.2.2.2.2.1.2 rfl hi18 d_D_waiting_18 ?_
      refine lv_if_ge (tgt := 44) hx hb d_D_waiting_19 (by decide) (fun c19 => ?_) (fun c19 => ?_)
      · replace h := ogt c19 h
        exact w_D_waiting_44 G hI ih  x1 x3 x2 M _ hP hS (lv_sub hl [0, 1, 3] rfl) h
      · replace h := ogf c19 h
        refine lv_iload_n hx hb d_D_waiting_22 rfl (lv_at hl 1 rfl) ?_
        refine lv_if_lt (tgt := 40) hx hb d_D_waiting_23 (by decide) (fun c23 => ?_) (fun c23 => ?_)
        · replace h := ogt c23 h
          exact w_D_waiting_40 G hI ih  x1 x3 x2 M _ hP hS (lv_sub hl [0, 1, 3] rfl) h
        · replace h := ogf c23 h
          refine lv_aload_n hx hb d_D_waiting_26 rfl (lv_at hl 0 rfl) ?_
          refine lv_aload_n hx hb d_D_waiting_27 rfl (lv_at hl 0 rfl) ?_
          refine wd_getr hx hb hts i_D hown hK hP 0 hI.1 hI.2.1 rfl 23 (by decide) t_244 rfl d_D_waiting_28 ?_
          refine lv_iload_n hx hb d_D_waiting_31 rfl (lv_at hl 3 rfl) ?_
          obtain ⟨hi32, h⟩ := og h
          refine wd_iald hx hb hK hP 14 0 hI.2.2.2.2.2.2.2.2.2.2.2.2.2.2.2.1.1 hI.2.2.2.2.2.2.2.2.2.2.2.2.2.2.2.1.2 rfl hi32 d_D_waiting_32 ?_
          obtain ⟨q33, hc33, h⟩ := obd h
          refine wd_cvr (As := [.int (M 14 x3.toNatClampNeg)]) (rest := [.int x2]) ⟨hx, hb, hml, hown, hts⟩ hK hP 0 hI.1 hI.2.1 rfl (c_D_channelOf l (M 14 x3.toNatClampNeg) M _ hI hc33) (cwV 1 hts (wmV t_245 t_247 t_248 t_229 t_246) rfl rfl rfl (by decide +kernel) ⟨by decide, by decide⟩) rfl hl.1 rfl (Nat.le_of_ble_eq_true rfl) d_D_waiting_33 ⟨Nat.zero_le _, Nat.zero_le _⟩ ?_
          refine lv_iload_n hx hb d_D_waiting_36 rfl (lv_at hl 1 rfl) ?_
          refine lv_icmp_ne (tgt := 44) hx hb d_D_waiting_37 (by decide) (fun c37 => ?_) (fun c37 => ?_)
          · replace h := ogf c37 h
            exact w_D_waiting_44 G hI ih  x1 x3 x2 M _ hP hS (lv_sub hl [0, 1, 3] rfl) h
          · replace h := ogt c37 h
            exact w_D_waiting_40 G hI ih  x1 x3 x2 M _ hP hS (lv_sub hl [0, 1, 3] rfl) h
set_option maxHeartbeats 4000000 in
set_option maxRecDepth 100000 in
theorem w_D_waiting_0 {rv : Int32} (G : Cx p s m args meth c (dC, dI) cls6 (tyl dA) "BankTimesModel" k_D_waiting 4 (some .int)) (hI : Is_D dA b N sh B C 0)   : ∀ (x1 : Int32) (M : Mm) (ls : Array Slot), va_P (dC, dI) cls6 (wd b N sh M) s.heap → va_S (reg b N s.heap.size) s.heap s.heap [] → lv_has ls 4 [(0, .ref (b + 0)), (1, .int x1)] → f_D_waiting B C x1 M = some rv → W p l e rm_D_waiting s m args below meth c s.heap [] 0 0 (MQ below (Qro rv) args s 0 0 nofree) (F0 m 0 ls []) := by
  obtain ⟨hx, hb, hml, hr, hown, hts, hlk, hK⟩ := id G
  intro x1 M ls hP hS hl h
  unfold f_D_waiting at h
  refine lv_iconst (v := 0) hx hb d_D_waiting_0 (by decide) ?_
  refine lv_istore_n (lv' := [(2, .int 0), (0, .ref (b + 0)), (1, .int x1)]) hx hb d_D_waiting_1 rfl hl (by decide) rfl (fun ls hl => ?_)
  refine lv_iconst (v := 0) hx hb d_D_waiting_2 (by decide) ?_
  refine lv_istore_n (lv' := [(3, .int 0), (2, .int 0), (0, .ref (b + 0)), (1, .int x1)]) hx hb d_D_waiting_3 rfl hl (by decide) rfl (fun ls hl => ?_)
  exact w_D_waiting_4 G hI  1200 x1 0 0 M _ hP hS (lv_sub hl [2, 3, 1, 0] rfl) h
theorem c_D_waiting (l : Launch) (x1 : Int32) (M : Mm) (sz : Nat) (hI : Is_D dA b N sh B C 0) {rv : Int32} (h : f_D_waiting B C x1 M = some rv) : Met l y_D_waiting (wm y_D_waiting k_D_waiting 4 (some .int)) rm_D_waiting (Pw (dC, dI) cls6 (tyl dA) b N sh [.ref (b + 0), .int x1] M sz) (Qro rv) 0 0 nofree := by
  refine mk_met (by decide) (Nat.le_of_ble_eq_true rfl) ?_
  intro p e s m below meth c ls G hsz hP hS hl
  subst hsz
  exact w_D_waiting_0 G hI _ _ ls hP hS hl h
end
