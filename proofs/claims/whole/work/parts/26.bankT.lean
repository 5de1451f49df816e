abbrev rm_B_time : Room := { frames := 6, cells := 1, slots := 6, locals := 83 }
def B_B_time_62 (B C : Nat) (M : Mm) : Option (Nat × Int32 × Mm) := some (3, 0, M)
def B_B_time_34 (B C : Nat) (M : Mm) : Option (Nat × Int32 × Mm) := some (2, 0, M)
def B_B_time_13 (B C : Nat) (M : Mm) : Option (Nat × Int32 × Mm) := some (1, 0, M)
def f_B_time (B C : Nat) (x1 x2 : Int32) (M : Mm) : Option (Nat × Int32 × Mm) := (if x1 < 0 then B_B_time_13 B C M else (if x1 < (nI 9) then (if x2 < 1 then B_B_time_34 B C M else (if x2 ≤ 100 then (if (M 0 12) < (M 0 11) then B_B_time_62 B C M else (f_B_anyRowOpen B C M).bind (fun q56 => (if q56 = 0 then (if ixb x1 9 = true then bnd (M 1 x1.toNatClampNeg) (fun v78 => (if ixb x1 9 = true then bnd (up2 M 1 x1.toNatClampNeg x2) (fun M85 => some (0, v78, M85)) else none)) else none) else B_B_time_62 B C M))) else B_B_time_34 B C M)) else B_B_time_13 B C M))
section
variable {p : Program} {l : Launch} {e : Env} {s : State} {m : MethodId} {args : Array Value} {below : List Frame} {meth : Method} {c : Code} {dC : Nat → ClassId} {dI : Nat → Nat → Nat} {dA : Nat → ClassId} {b N B C : Nat} {sh : Shp}
set_option maxHeartbeats 4000000 in
set_option maxRecDepth 100000 in
theorem w_B_time_62 {kx : Nat} {rv : Int32} {M' : Mm} (G : Cxt p l s m args meth c (dC, dI) cls6 (tyl dA) "BankTimes" k_B_time 4 (some .int)) (hTS : ThS s) (hI : Is_B dA b N sh B C 0)   : ∀ (M : Mm) (ls : Array Slot), va_P (dC, dI) cls6 (wd b N sh M) s.heap → va_S (reg b N s.heap.size) s.heap s.heap [] → lv_has ls 4 [] → B_B_time_62 B C M = some (kx, rv, M') → W p l e rm_B_time s m args below meth c s.heap [] 0 0 (MQT below (Qwt (dC, dI) cls6 b N sh kx rv M' s.heap.size) args s 1 6 (reg b N s.heap.size)) (F0 m 62 ls []) := by
  obtain ⟨⟨hx, hb, hml, hr, hown, hts, hlk, hK⟩, hno, hst⟩ := id G
  intro M ls hP hS hl h
  unfold B_B_time_62 at h
  obtain ⟨rfl, rfl, rfl⟩ := oe3 h
  obtain ⟨qs, hqs⟩ := hTS.2.2.2.2 (90, "an ask waits or a row is open") (by decide +kernel)
  obtain ⟨cC, hcC⟩ := cls_of (hts _ t_166)
  exact wd_throw 3 (by decide) hx hb hlk (hml.trans hl.1.symm) hno hst hown (hts _ t_167) (hts _ t_166) (hts _ t_168) hcC hqs (names := ["java/lang/RuntimeException", "java/lang/Exception"]) (by decide +kernel) (by decide +kernel) (own_B_3 hTS) hP (by decide) (by decide) (by decide) (by decide) d_B_time_62 d_B_time_65 d_B_time_66 d_B_time_68 d_B_time_71
set_option maxHeartbeats 4000000 in
set_option maxRecDepth 100000 in
theorem w_B_time_34 {kx : Nat} {rv : Int32} {M' : Mm} (G : Cxt p l s m args meth c (dC, dI) cls6 (tyl dA) "BankTimes" k_B_time 4 (some .int)) (hTS : ThS s) (hI : Is_B dA b N sh B C 0)   : ∀ (M : Mm) (ls : Array Slot), va_P (dC, dI) cls6 (wd b N sh M) s.heap → va_S (reg b N s.heap.size) s.heap s.heap [] → lv_has ls 4 [] → B_B_time_34 B C M = some (kx, rv, M') → W p l e rm_B_time s m args below meth c s.heap [] 0 0 (MQT below (Qwt (dC, dI) cls6 b N sh kx rv M' s.heap.size) args s 1 6 (reg b N s.heap.size)) (F0 m 34 ls []) := by
  obtain ⟨⟨hx, hb, hml, hr, hown, hts, hlk, hK⟩, hno, hst⟩ := id G
  intro M ls hP hS hl h
  unfold B_B_time_34 at h
  obtain ⟨rfl, rfl, rfl⟩ := oe3 h
  obtain ⟨qs, hqs⟩ := hTS.2.2.2.2 (75, "a time is 1 .. 100 cycles") (by decide +kernel)
  obtain ⟨cC, hcC⟩ := cls_of (hts _ t_163)
  exact wd_throw 2 (by decide) hx hb hlk (hml.trans hl.1.symm) hno hst hown (hts _ t_164) (hts _ t_163) (hts _ t_165) hcC hqs (names := ["java/lang/RuntimeException", "java/lang/Exception"]) (by decide +kernel) (by decide +kernel) (own_B_2 hTS) hP (by decide) (by decide) (by decide) (by decide) d_B_time_34 d_B_time_37 d_B_time_38 d_B_time_40 d_B_time_43
set_option maxHeartbeats 4000000 in
set_option maxRecDepth 100000 in
theorem w_B_time_13 {kx : Nat} {rv : Int32} {M' : Mm} (G : Cxt p l s m args meth c (dC, dI) cls6 (tyl dA) "BankTimes" k_B_time 4 (some .int)) (hTS : ThS s) (hI : Is_B dA b N sh B C 0)   : ∀ (M : Mm) (ls : Array Slot), va_P (dC, dI) cls6 (wd b N sh M) s.heap → va_S (reg b N s.heap.size) s.heap s.heap [] → lv_has ls 4 [] → B_B_time_13 B C M = some (kx, rv, M') → W p l e rm_B_time s m args below meth c s.heap [] 0 0 (MQT below (Qwt (dC, dI) cls6 b N sh kx rv M' s.heap.size) args s 1 6 (reg b N s.heap.size)) (F0 m 13 ls []) := by
  obtain ⟨⟨hx, hb, hml, hr, hown, hts, hlk, hK⟩, hno, hst⟩ := id G
  intro M ls hP hS hl h
  unfold B_B_time_13 at h
  obtain ⟨rfl, rfl, rfl⟩ := oe3 h
  obtain ⟨qs, hqs⟩ := hTS.2.2.2.2 (68, "there is no such time") (by decide +kernel)
  obtain ⟨cC, hcC⟩ := cls_of (hts _ t_159)
  exact wd_throw 1 (by decide) hx hb hlk (hml.trans hl.1.symm) hno hst hown (hts _ t_160) (hts _ t_159) (hts _ t_161) hcC hqs (names := ["java/lang/RuntimeException", "java/lang/Exception"]) (by decide +kernel) (by decide +kernel) (own_B_1 hTS) hP (by decide) (by decide) (by decide) (by decide) d_B_time_13 d_B_time_16 d_B_time_17 d_B_time_19 d_B_time_22
set_option maxHeartbeats 4000000 in
set_option maxRecDepth 100000 in
theorem w_B_time_0 {kx : Nat} {rv : Int32} {M' : Mm} (G : Cxt p l s m args meth c (dC, dI) cls6 (tyl dA) "BankTimes" k_B_time 4 (some .int)) (hTS : ThS s) (hI : Is_B dA b N sh B C 0)   : ∀ (x1 x2 : Int32) (M : Mm) (ls : Array Slot), va_P (dC, dI) cls6 (wd b N sh M) s.heap → va_S (reg b N s.heap.size) s.heap s.heap [] → lv_has ls 4 [(0, .ref (b + 0)), (1, .int x1), (2, .int x2)] → f_B_time B C x1 x2 M = some (kx, rv, M') → W p l e rm_B_time s m args below meth c s.heap [] 0 0 (MQT below (Qwt (dC, dI) cls6 b N sh kx rv M' s.heap.size) args s 1 6 (reg b N s.heap.size)) (F0 m 0 ls []) := by
  obtain ⟨⟨hx, hb, hml, hr, hown, hts, hlk, hK⟩, hno, hst⟩ := id G
  intro x1 x2 M ls hP hS hl h
  unfold f_B_time at h
  refine lv_iload_n hx hb d_B_time_0 rfl (lv_at hl 1 rfl) ?_
  refine lv_if_lt (tgt := 13) hx hb d_B_time_1 (by decide) (fun c1 => ?_) (fun c1 => ?_)
  · replace h := ogt c1 h
    exact w_B_time_13 G hTS hI  M _ hP hS (lv_sub hl [] rfl) h
  · replace h := ogf c1 h
    refine lv_iload_n hx hb d_B_time_4 rfl (lv_at hl 1 rfl) ?_
    refine lv_aload_n hx hb d_B_time_5 rfl (lv_at hl 0 rfl) ?_
    refine wd_getr hx hb hts i_B hown hK hP 0 hI.1 hI.2.1 rfl 4 (by decide) t_162 rfl d_B_time_6 ?_
    refine wd_alen hx hb hK hP 1 0 hI.2.2.1.1 hI.2.2.1.2 rfl d_B_time_9 ?_
    refine lv_icmp_lt (tgt := 23) hx hb d_B_time_10 (by decide) (fun c10 => ?_) (fun c10 => ?_)
    · replace h := ogt c10 h
      refine lv_iload_n hx hb d_B_time_23 rfl (lv_at hl 2 rfl) ?_
      refine lv_iconst (v := 1) hx hb d_B_time_24 (by decide) ?_
      refine lv_icmp_lt (tgt := 34) hx hb d_B_time_25 (by decide) (fun c25 => ?_) (fun c25 => ?_)
      · replace h := ogt c25 h
        exact w_B_time_34 G hTS hI  M _ hP hS (lv_sub hl [] rfl) h
      · replace h := ogf c25 h
        refine lv_iload_n hx hb d_B_time_28 rfl (lv_at hl 2 rfl) ?_
        refine lv_bipush (v := 100) hx hb d_B_time_29 (by decide) ?_
        refine lv_icmp_le (tgt := 44) hx hb d_B_time_31 (by decide) (fun c31 => ?_) (fun c31 => ?_)
        · replace h := ogt c31 h
          refine lv_aload_n hx hb d_B_time_44 rfl (lv_at hl 0 rfl) ?_
          refine wd_geti hx hb hts i_B hown hK hP 0 hI.1 hI.2.1 rfl 12 (by decide) t_128 rfl d_B_time_45 ?_
          refine lv_aload_n hx hb d_B_time_48 rfl (lv_at hl 0 rfl) ?_
          refine wd_geti hx hb hts i_B hown hK hP 0 hI.1 hI.2.1 rfl 11 (by decide) t_147 rfl d_B_time_49 ?_
          refine lv_icmp_lt (tgt := 62) hx hb d_B_time_52 (by decide) (fun c52 => ?_) (fun c52 => ?_)
          · replace h := ogt c52 h
            exact w_B_time_62 G hTS hI  M _ hP hS (lv_sub hl [] rfl) h
          · replace h := ogf c52 h
            refine lv_aload_n hx hb d_B_time_55 rfl (lv_at hl 0 rfl) ?_
            obtain ⟨q56, hc56, h⟩ := obd h
            refine wd_cvr (As := []) (rest := []) ⟨hx, hb, hml, hown, hts⟩ hK hP 0 hI.1 hI.2.1 rfl (c_B_anyRowOpen l M _ hI hc56) (cwV 0 hts (wmV t_169 t_171 t_172 t_113 t_170) rfl rfl rfl (by decide +kernel) ⟨by decide, by decide⟩) rfl hl.1 rfl (Nat.le_of_ble_eq_true rfl) d_B_time_56 ⟨Nat.zero_le _, Nat.zero_le _⟩ ?_
            refine lv_if_eq (tgt := 72) hx hb d_B_time_59 (by decide) (fun c59 => ?_) (fun c59 => ?_)
            · replace h := ogt c59 h
              refine lv_aload_n hx hb d_B_time_72 rfl (lv_at hl 0 rfl) ?_
              refine wd_getr hx hb hts i_B hown hK hP 0 hI.1 hI.2.1 rfl 4 (by decide) t_162 rfl d_B_time_73 ?_
              refine lv_iload_n hx hb d_B_time_76 rfl (lv_at hl 1 rfl) ?_
              obtain ⟨hi77, h⟩ := og h
              refine wd_iald hx hb hK hP 1 0 hI.2.2.1.1 hI.2.2.1.2 rfl hi77 d_B_time_77 ?_
              obtain ⟨v78, e78, h⟩ := ln h
              refine lv_nm e78 ?_
              refine lv_istore_n (lv' := [(3, .int v78), (0, .ref (b + 0)), (1, .int x1), (2, .int x2)]) hx hb d_B_time_78 rfl hl (by decide) rfl (fun ls hl => ?_)
              refine lv_aload_n hx hb d_B_time_79 rfl (lv_at hl 1 rfl) ?_
              refine wd_getr hx hb hts i_B hown hK hP 0 hI.1 hI.2.1 rfl 4 (by decide) t_162 rfl d_B_time_80 ?_
              refine lv_iload_n hx hb d_B_time_83 rfl (lv_at hl 2 rfl) ?_
              refine lv_iload_n hx hb d_B_time_84 rfl (lv_at hl 3 rfl) ?_
              obtain ⟨hi85, h⟩ := og h
              obtain ⟨M85, eM85, h⟩ := ln h
              refine wd_iast hx hb hK hP hS 1 0 hI.2.2.1.1 hI.2.2.1.2 rfl hi85 d_B_time_85 (fun H locs hP hS => ?_)
              rw [← eM85] at hP
              refine lv_iload_n hx hb d_B_time_86 rfl (lv_at hl 0 rfl) ?_
              obtain ⟨rfl, rfl, rfl⟩ := oe3 h
              exact wd_iretT hx hb hr hlk hP hS (Nat.zero_le _) (Nat.zero_le _) d_B_time_87
            · replace h := ogf c59 h
              exact w_B_time_62 G hTS hI  M _ hP hS (lv_sub hl [] rfl) h
        · replace h := ogf c31 h
          exact w_B_time_34 G hTS hI  M _ hP hS (lv_sub hl [] rfl) h
    · replace h := ogf c10 h
      exact w_B_time_13 G hTS hI  M _ hP hS (lv_sub hl [] rfl) h
theorem c_B_time (l : Launch) (x1 x2 : Int32) (M : Mm) (sz : Nat) (hI : Is_B dA b N sh B C 0) {kx : Nat} {rv : Int32} {M' : Mm} (hlt : l.stackTraces = false) (h : f_B_time B C x1 x2 M = some (kx, rv, M')) : MetT l y_B_time (wm y_B_time k_B_time 4 (some .int)) rm_B_time (PwT (dC, dI) cls6 (tyl dA) b N sh [.ref (b + 0), .int x1, .int x2] M sz) (Qwt (dC, dI) cls6 b N sh kx rv M' sz) 1 6 (reg b N sz) := by
  refine mk_metT (by decide) (Nat.le_of_ble_eq_true rfl) hlt ?_
  intro p e s m below meth c ls G hsz hTS hP hS hl
  subst hsz
  exact w_B_time_0 G hTS hI _ _ _ ls hP hS hl h
end
abbrev rm_B_span : Room := { frames := 6, cells := 1, slots := 6, locals := 83 }
def B_B_span_27 (B C : Nat) (x1 : Int32) (M : Mm) : Option (Nat × Int32 × Mm) := bnd (M 0 9) (fun v31 => bnd (up2 M 0 9 x1) (fun M34 => some (0, v31, M34)))
def B_B_span_17 (B C : Nat) (M : Mm) : Option (Nat × Int32 × Mm) := some (2, 0, M)
def f_B_span (B C : Nat) (x1 : Int32) (M : Mm) : Option (Nat × Int32 × Mm) := (if x1 = 0 then B_B_span_27 B C x1 M else (if x1 < 50 then B_B_span_17 B C M else (if x1 ≤ 10000 then B_B_span_27 B C x1 M else B_B_span_17 B C M)))
section
variable {p : Program} {l : Launch} {e : Env} {s : State} {m : MethodId} {args : Array Value} {below : List Frame} {meth : Method} {c : Code} {dC : Nat → ClassId} {dI : Nat → Nat → Nat} {dA : Nat → ClassId} {b N B C : Nat} {sh : Shp}
set_option maxHeartbeats 4000000 in
set_option maxRecDepth 100000 in
theorem w_B_span_27 {kx : Nat} {rv : Int32} {M' : Mm} (G : Cxt p l s m args meth c (dC, dI) cls6 (tyl dA) "BankTimes" k_B_span 3 (some .int)) (hTS : ThS s) (hI : Is_B dA b N sh B C 0)   : ∀ (x1 : Int32) (M : Mm) (ls : Array Slot), va_P (dC, dI) cls6 (wd b N sh M) s.heap → va_S (reg b N s.heap.size) s.heap s.heap [] → lv_has ls 3 [(0, .ref (b + 0)), (1, .int x1)] → B_B_span_27 B C x1 M = some (kx, rv, M') → W p l e rm_B_span s m args below meth c s.heap [] 0 0 (MQT below (Qwt (dC, dI) cls6 b N sh kx rv M' s.heap.size) args s 1 6 (reg b N s.heap.size)) (F0 m 27 ls []) := by
  obtain ⟨⟨hx, hb, hml, hr, hown, hts, hlk, hK⟩, hno, hst⟩ := id G
  intro x1 M ls hP hS hl h
  unfold B_B_span_27 at h
  refine lv_aload_n hx hb d_B_span_27 rfl (lv_at hl 0 rfl) ?_
  refine wd_geti hx hb hts i_B hown hK hP 0 hI.1 hI.2.1 rfl 9 (by decide) t_133 rfl d_B_span_28 ?_
  obtain ⟨v31, e31, h⟩ := ln h
  refine lv_nm e31 ?_
  refine lv_istore_n (lv' := [(2, .int v31), (0, .ref (b + 0)), (1, .int x1)]) hx hb d_B_span_31 rfl hl (by decide) rfl (fun ls hl => ?_)
  refine lv_aload_n hx hb d_B_span_32 rfl (lv_at hl 1 rfl) ?_
  refine lv_iload_n hx hb d_B_span_33 rfl (lv_at hl 2 rfl) ?_
  obtain ⟨M34, eM34, h⟩ := ln h
  refine wd_puti hx hb hts i_B ty_B tyok_B nm_B hown hK hP hS 0 hI.1 hI.2.1 rfl 9 (by decide) t_133 rfl rfl (ty := .int) (by decide +kernel) rfl rfl d_B_span_34 (fun H locs hP hS => ?_)
  rw [← eM34] at hP
  refine lv_iload_n hx hb d_B_span_37 rfl (lv_at hl 0 rfl) ?_
  obtain ⟨rfl, rfl, rfl⟩ := oe3 h
  exact wd_iretT hx hb hr hlk hP hS (Nat.zero_le _) (Nat.zero_le _) d_B_span_38
set_option maxHeartbeats 4000000 in
set_option maxRecDepth 100000 in
theorem w_B_span_17 {kx : Nat} {rv : Int32} {M' : Mm} (G : Cxt p l s m args meth c (dC, dI) cls6 (tyl dA) "BankTimes" k_B_span 3 (some .int)) (hTS : ThS s) (hI : Is_B dA b N sh B C 0)   : ∀ (M : Mm) (ls : Array Slot), va_P (dC, dI) cls6 (wd b N sh M) s.heap → va_S (reg b N s.heap.size) s.heap s.heap [] → lv_has ls 3 [] → B_B_span_17 B C M = some (kx, rv, M') → W p l e rm_B_span s m args below meth c s.heap [] 0 0 (MQT below (Qwt (dC, dI) cls6 b N sh kx rv M' s.heap.size) args s 1 6 (reg b N s.heap.size)) (F0 m 17 ls []) := by
  obtain ⟨⟨hx, hb, hml, hr, hown, hts, hlk, hK⟩, hno, hst⟩ := id G
  intro M ls hP hS hl h
  unfold B_B_span_17 at h
  obtain ⟨rfl, rfl, rfl⟩ := oe3 h
  obtain ⟨qs, hqs⟩ := hTS.2.2.2.2 (93, "a span is 0 or 50 .. 10000 cycles") (by decide +kernel)
  obtain ⟨cC, hcC⟩ := cls_of (hts _ t_163)
  exact wd_throw 2 (by decide) hx hb hlk (hml.trans hl.1.symm) hno hst hown (hts _ t_164) (hts _ t_163) (hts _ t_165) hcC hqs (names := ["java/lang/RuntimeException", "java/lang/Exception"]) (by decide +kernel) (by decide +kernel) (own_B_2 hTS) hP (by decide) (by decide) (by decide) (by decide) d_B_span_17 d_B_span_20 d_B_span_21 d_B_span_23 d_B_span_26
set_option maxHeartbeats 4000000 in
set_option maxRecDepth 100000 in
theorem w_B_span_0 {kx : Nat} {rv : Int32} {M' : Mm} (G : Cxt p l s m args meth c (dC, dI) cls6 (tyl dA) "BankTimes" k_B_span 3 (some .int)) (hTS : ThS s) (hI : Is_B dA b N sh B C 0)   : ∀ (x1 : Int32) (M : Mm) (ls : Array Slot), va_P (dC, dI) cls6 (wd b N sh M) s.heap → va_S (reg b N s.heap.size) s.heap s.heap [] → lv_has ls 3 [(0, .ref (b + 0)), (1, .int x1)] → f_B_span B C x1 M = some (kx, rv, M') → W p l e rm_B_span s m args below meth c s.heap [] 0 0 (MQT below (Qwt (dC, dI) cls6 b N sh kx rv M' s.heap.size) args s 1 6 (reg b N s.heap.size)) (F0 m 0 ls []) := by
  obtain ⟨⟨hx, hb, hml, hr, hown, hts, hlk, hK⟩, hno, hst⟩ := id G
  intro x1 M ls hP hS hl h
  unfold f_B_span at h
  refine lv_iload_n hx hb d_B_span_0 rfl (lv_at hl 1 rfl) ?_
  refine lv_if_eq (tgt := 27) hx hb d_B_span_1 (by decide) (fun c1 => ?_) (fun c1 => ?_)
  · replace h := ogt c1 h
    exact w_B_span_27 G hTS hI  x1 M _ hP hS (lv_sub hl [0, 1] rfl) h
  · replace h := ogf c1 h
    refine lv_iload_n hx hb d_B_span_4 rfl (lv_at hl 1 rfl) ?_
    refine lv_bipush (v := 50) hx hb d_B_span_5 (by decide) ?_
    refine lv_icmp_lt (tgt := 17) hx hb d_B_span_7 (by decide) (fun c7 => ?_) (fun c7 => ?_)
    · replace h := ogt c7 h
      exact w_B_span_17 G hTS hI  M _ hP hS (lv_sub hl [] rfl) h
    · replace h := ogf c7 h
      refine lv_iload_n hx hb d_B_span_10 rfl (lv_at hl 1 rfl) ?_
      refine lv_sipush (v := 10000) hx hb d_B_span_11 (by decide) ?_
      refine lv_icmp_le (tgt := 27) hx hb d_B_span_14 (by decide) (fun c14 => ?_) (fun c14 => ?_)
      · replace h := ogt c14 h
        exact w_B_span_27 G hTS hI  x1 M _ hP hS (lv_sub hl [0, 1] rfl) h
      · replace h := ogf c14 h
        exact w_B_span_17 G hTS hI  M _ hP hS (lv_sub hl [] rfl) h
theorem c_B_span (l : Launch) (x1 : Int32) (M : Mm) (sz : Nat) (hI : Is_B dA b N sh B C 0) {kx : Nat} {rv : Int32} {M' : Mm} (hlt : l.stackTraces = false) (h : f_B_span B C x1 M = some (kx, rv, M')) : MetT l y_B_span (wm y_B_span k_B_span 3 (some .int)) rm_B_span (PwT (dC, dI) cls6 (tyl dA) b N sh [.ref (b + 0), .int x1] M sz) (Qwt (dC, dI) cls6 b N sh kx rv M' sz) 1 6 (reg b N sz) := by
  refine mk_metT (by decide) (Nat.le_of_ble_eq_true rfl) hlt ?_
  intro p e s m below meth c ls G hsz hTS hP hS hl
  subst hsz
  exact w_B_span_0 G hTS hI _ _ ls hP hS hl h
end
abbrev rm_B_ask : Room := { frames := 6, cells := 1, slots := 6, locals := 83 }
def B_B_ask_48 (B C : Nat) (M : Mm) : Option (Nat × Int32 × Mm) := some (4, 0, M)
def f_B_ask (B C : Nat) (x1 x2 : Int32) (M : Mm) : Option (Nat × Int32 × Mm) := (f_B_isAddress B C x1 M).bind (fun q1 => (if q1 = 0 then some (2, 0, M) else (f_B_channelOf B C x1 M).bind (fun q23 => (if ixb q23 C = true then (f_Q_isFull B C ((4 + 21 * q23.toNatClampNeg) + 8) M).bind (fun q32 => (if q32 = 0 then (if (M 0 11) < 512 then bnd (M 0 11) (fun v62 => (f_B_bankOf B C x1 M).bind (fun q73 => (f_B_rowOf B C x1 M).bind (fun q78 => (f_Q_add B C ((4 + 21 * q23.toNatClampNeg) + 8) v62 (M 0 10) q73 q78 x2 M).bind (fun q82 => (if ixb v62 512 = true then bnd (up2 q82 (7 + 21 * C) v62.toNatClampNeg (-1)) (fun M92 => bnd (up2 M92 0 11 ((M92 0 11) + 1)) (fun M100 => some (0, v62, M100))) else none))))) else B_B_ask_48 B C M) else B_B_ask_48 B C M)) else none))))
section
variable {p : Program} {l : Launch} {e : Env} {s : State} {m : MethodId} {args : Array Value} {below : List Frame} {meth : Method} {c : Code} {dC : Nat → ClassId} {dI : Nat → Nat → Nat} {dA : Nat → ClassId} {b N B C : Nat} {sh : Shp}
set_option maxHeartbeats 4000000 in
set_option maxRecDepth 100000 in
theorem w_B_ask_48 {kx : Nat} {rv : Int32} {M' : Mm} (G : Cxt p l s m args meth c (dC, dI) cls6 (tyl dA) "BankTimes" k_B_ask 5 (some .int)) (hTS : ThS s) (hI : Is_B dA b N sh B C 0)   : ∀ (M : Mm) (ls : Array Slot), va_P (dC, dI) cls6 (wd b N sh M) s.heap → va_S (reg b N s.heap.size) s.heap s.heap [] → lv_has ls 5 [] → B_B_ask_48 B C M = some (kx, rv, M') → W p l e rm_B_ask s m args below meth c s.heap [] 0 0 (MQT below (Qwt (dC, dI) cls6 b N sh kx rv M' s.heap.size) args s 1 6 (reg b N s.heap.size)) (F0 m 48 ls []) := by
  obtain ⟨⟨hx, hb, hml, hr, hown, hts, hlk, hK⟩, hno, hst⟩ := id G
  intro M ls hP hS hl h
  unfold B_B_ask_48 at h
  obtain ⟨rfl, rfl, rfl⟩ := oe3 h
  obtain ⟨qs, hqs⟩ := hTS.2.2.2.2 (119, "the channel's queue is full") (by decide +kernel)
  obtain ⟨cC, hcC⟩ := cls_of (hts _ t_184)
  exact wd_throw 4 (by decide) hx hb hlk (hml.trans hl.1.symm) hno hst hown (hts _ t_185) (hts _ t_184) (hts _ t_186) hcC hqs (names := ["java/lang/RuntimeException", "java/lang/Exception"]) (by decide +kernel) (by decide +kernel) (own_B_4 hTS) hP (by decide) (by decide) (by decide) (by decide) d_B_ask_48 d_B_ask_51 d_B_ask_52 d_B_ask_54 d_B_ask_57
set_option maxHeartbeats 4000000 in
set_option maxRecDepth 100000 in
theorem w_B_ask_0 {kx : Nat} {rv : Int32} {M' : Mm} (G : Cxt p l s m args meth c (dC, dI) cls6 (tyl dA) "BankTimes" k_B_ask 5 (some .int)) (hTS : ThS s) (hI : Is_B dA b N sh B C 0)   : ∀ (x1 x2 : Int32) (M : Mm) (ls : Array Slot), va_P (dC, dI) cls6 (wd b N sh M) s.heap → va_S (reg b N s.heap.size) s.heap s.heap [] → lv_has ls 5 [(0, .ref (b + 0)), (1, .int x1), (2, .int x2)] → f_B_ask B C x1 x2 M = some (kx, rv, M') → W p l e rm_B_ask s m args below meth c s.heap [] 0 0 (MQT below (Qwt (dC, dI) cls6 b N sh kx rv M' s.heap.size) args s 1 6 (reg b N s.heap.size)) (F0 m 0 ls []) := by
  obtain ⟨⟨hx, hb, hml, hr, hown, hts, hlk, hK⟩, hno, hst⟩ := id G
  intro x1 x2 M ls hP hS hl h
  unfold f_B_ask at h
  refine lv_iload_n hx hb d_B_ask_0 rfl (lv_at hl 1 rfl) ?_
  obtain ⟨q1, hc1, h⟩ := obd h
  refine wd_csr (As := [.int x1]) (rest := []) ⟨hx, hb, hml, hown, hts⟩ hK hP (c_B_isAddress l x1 M _  hc1) ⟨callB_of 1 hts (wm_good t_174) rfl rfl rfl (hts _ t_113) (hts _ t_173) (by decide +kernel) ⟨by decide, by decide⟩, hts _ t_175⟩ rfl hl.1 rfl (Nat.le_of_ble_eq_true rfl) d_B_ask_1 ⟨Nat.zero_le _, Nat.zero_le _⟩ ?_
  refine lv_if_ne (tgt := 17) hx hb d_B_ask_4 (by decide) (fun c4 => ?_) (fun c4 => ?_)
  · replace h := ogf c4 h
    refine lv_aload_n hx hb d_B_ask_17 rfl (lv_at hl 0 rfl) ?_
    refine wd_getr hx hb hts i_B hown hK hP 0 hI.1 hI.2.1 rfl 5 (by decide) t_91 rfl d_B_ask_18 ?_
    refine lv_aload_n hx hb d_B_ask_21 rfl (lv_at hl 0 rfl) ?_
    refine lv_iload_n hx hb d_B_ask_22 rfl (lv_at hl 1 rfl) ?_
    obtain ⟨q23, hc23, h⟩ := obd h
    refine wd_cvr (As := [.int x1]) (rest := [.ref (b + 2)]) ⟨hx, hb, hml, hown, hts⟩ hK hP 0 hI.1 hI.2.1 rfl (c_B_channelOf l x1 M _ hI hc23) (cwV 1 hts (wmV t_176 t_178 t_179 t_113 t_177) rfl rfl rfl (by decide +kernel) ⟨by decide, by decide⟩) rfl hl.1 rfl (Nat.le_of_ble_eq_true rfl) d_B_ask_23 ⟨Nat.zero_le _, Nat.zero_le _⟩ ?_
    obtain ⟨hi26, h⟩ := og h
    refine wd_aald hx hb hK hP 2 2 hI.2.2.2.1.1 hI.2.2.2.1.2.1 rfl hi26 rfl d_B_ask_26 ?_
    refine wd_getr hx hb hts i_C hown hK hP (4 + 21 * q23.toNatClampNeg) (hI.2.2.2.1.2.2 q23 hi26).1 (hI.2.2.2.1.2.2 q23 hi26).2.1 rfl 1 (by decide) t_119 rfl d_B_ask_27 ?_
    refine lv_astore_n (lv' := [(3, .ref (b + ((4 + 21 * q23.toNatClampNeg) + 8))), (0, .ref (b + 0)), (1, .int x1), (2, .int x2)]) hx hb d_B_ask_30 rfl hl (by decide) rfl (fun ls hl => ?_)
    refine lv_aload_n hx hb d_B_ask_31 rfl (lv_at hl 0 rfl) ?_
    obtain ⟨q32, hc32, h⟩ := obd h
    refine wd_cvr (As := []) (rest := []) ⟨hx, hb, hml, hown, hts⟩ hK hP ((4 + 21 * q23.toNatClampNeg) + 8) (hI.2.2.2.1.2.2 q23 hi26).2.2.2.1 (hI.2.2.2.1.2.2 q23 hi26).2.2.2.2.1 rfl (c_Q_isFull l ((4 + 21 * q23.toNatClampNeg) + 8) M _ (hI.2.2.2.1.2.2 q23 hi26).2.2.2 hc32) (cwV 0 hts (wmV t_180 t_182 t_183 t_80 t_181) rfl rfl rfl (by decide +kernel) ⟨by decide, by decide⟩) rfl hl.1 rfl (Nat.le_of_ble_eq_true rfl) d_B_ask_32 ⟨Nat.zero_le _, Nat.zero_le _⟩ ?_
    refine lv_if_ne (tgt := 48) hx hb d_B_ask_35 (by decide) (fun c35 => ?_) (fun c35 => ?_)
    · replace h := ogf c35 h
      exact w_B_ask_48 G hTS hI  M _ hP hS (lv_sub hl [] rfl) h
    · replace h := ogt c35 h
      refine lv_aload_n hx hb d_B_ask_38 rfl (lv_at hl 1 rfl) ?_
      refine wd_geti hx hb hts i_B hown hK hP 0 hI.1 hI.2.1 rfl 11 (by decide) t_147 rfl d_B_ask_39 ?_
      refine lv_sipush (v := 512) hx hb d_B_ask_42 (by decide) ?_
      refine lv_icmp_lt (tgt := 58) hx hb d_B_ask_45 (by decide) (fun c45 => ?_) (fun c45 => ?_)
      · replace h := ogt c45 h
        refine lv_aload_n hx hb d_B_ask_58 rfl (lv_at hl 1 rfl) ?_
        refine wd_geti hx hb hts i_B hown hK hP 0 hI.1 hI.2.1 rfl 11 (by decide) t_147 rfl d_B_ask_59 ?_
        obtain ⟨v62, e62, h⟩ := ln h
        refine lv_nm e62 ?_
        refine lv_istore (lv' := [(4, .int v62), (3, .ref (b + ((4 + 21 * q23.toNatClampNeg) + 8))), (0, .ref (b + 0)), (1, .int x1), (2, .int x2)]) hx hb d_B_ask_62 hl (by decide) rfl (fun ls hl => ?_)
        refine lv_aload_n hx hb d_B_ask_64 rfl (lv_at hl 1 rfl) ?_
        refine lv_iload hx hb d_B_ask_65 (lv_at hl 0 rfl) ?_
        refine lv_aload_n hx hb d_B_ask_67 rfl (lv_at hl 2 rfl) ?_
        refine wd_geti hx hb hts i_B hown hK hP 0 hI.1 hI.2.1 rfl 10 (by decide) t_98 rfl d_B_ask_68 ?_
        refine lv_aload_n hx hb d_B_ask_71 rfl (lv_at hl 2 rfl) ?_
        refine lv_iload_n hx hb d_B_ask_72 rfl (lv_at hl 3 rfl) ?_
        obtain ⟨q73, hc73, h⟩ := obd h
        refine wd_cvr (As := [.int x1]) (rest := [.int (M 0 10), .int v62, .ref (b + ((4 + 21 * q23.toNatClampNeg) + 8))]) ⟨hx, hb, hml, hown, hts⟩ hK hP 0 hI.1 hI.2.1 rfl (c_B_bankOf l x1 M _ hI hc73) (cwV 1 hts (wmV t_187 t_189 t_190 t_113 t_188) rfl rfl rfl (by decide +kernel) ⟨by decide, by decide⟩) rfl hl.1 rfl (Nat.le_of_ble_eq_true rfl) d_B_ask_73 ⟨Nat.zero_le _, Nat.zero_le _⟩ ?_
        refine lv_aload_n hx hb d_B_ask_76 rfl (lv_at hl 2 rfl) ?_
        refine lv_iload_n hx hb d_B_ask_77 rfl (lv_at hl 3 rfl) ?_
        obtain ⟨q78, hc78, h⟩ := obd h
        refine wd_cvr (As := [.int x1]) (rest := [.int q73, .int (M 0 10), .int v62, .ref (b + ((4 + 21 * q23.toNatClampNeg) + 8))]) ⟨hx, hb, hml, hown, hts⟩ hK hP 0 hI.1 hI.2.1 rfl (c_B_rowOf l x1 M _ hI hc78) (cwV 1 hts (wmV t_191 t_193 t_194 t_113 t_192) rfl rfl rfl (by decide +kernel) ⟨by decide, by decide⟩) rfl hl.1 rfl (Nat.le_of_ble_eq_true rfl) d_B_ask_78 ⟨Nat.zero_le _, Nat.zero_le _⟩ ?_
        refine lv_iload_n hx hb d_B_ask_81 rfl (lv_at hl 4 rfl) ?_
        obtain ⟨q82, hc82, h⟩ := obd h
        refine wd_cvv (As := [.int v62, .int (M 0 10), .int q73, .int q78, .int x2]) (rest := []) ⟨hx, hb, hml, hown, hts⟩ hK hP hS ((4 + 21 * q23.toNatClampNeg) + 8) (hI.2.2.2.1.2.2 q23 hi26).2.2.2.1 (hI.2.2.2.1.2.2 q23 hi26).2.2.2.2.1 rfl (c_Q_add l ((4 + 21 * q23.toNatClampNeg) + 8) v62 (M 0 10) q73 q78 x2 M _ (hI.2.2.2.1.2.2 q23 hi26).2.2.2 hc82) (cwV 5 hts (wmV t_195 t_197 t_198 t_80 t_196) rfl rfl rfl (by decide +kernel) ⟨by decide, by decide⟩) rfl hl.1 rfl (Nat.le_of_ble_eq_true rfl) d_B_ask_82 ⟨Nat.zero_le _, Nat.zero_le _⟩ (fun H locs hP hS => ?_)
        refine lv_aload_n hx hb d_B_ask_85 rfl (lv_at hl 2 rfl) ?_
        refine wd_getr hx hb hts i_B hown hK hP 0 hI.1 hI.2.1 rfl 8 (by decide) t_124 rfl d_B_ask_86 ?_
        refine lv_iload hx hb d_B_ask_89 (lv_at hl 0 rfl) ?_
        refine lv_iconst (v := (-1)) hx hb d_B_ask_91 (by decide) ?_
        obtain ⟨hi92, h⟩ := og h
        obtain ⟨M92, eM92, h⟩ := ln h
        refine wd_iast hx hb hK hP hS (7 + 21 * C) 0 hI.2.2.2.2.2.2.1 hI.2.2.2.2.2.2.2 rfl hi92 d_B_ask_92 (fun H locs hP hS => ?_)
        rw [← eM92] at hP
        refine lv_aload_n hx hb d_B_ask_93 rfl (lv_at hl 2 rfl) ?_
        refine lv_dup hx hb d_B_ask_94 rfl ?_
        refine wd_geti hx hb hts i_B hown hK hP 0 hI.1 hI.2.1 rfl 11 (by decide) t_147 rfl d_B_ask_95 ?_
        refine lv_iconst (v := 1) hx hb d_B_ask_98 (by decide) ?_
        refine lv_iadd hx hb d_B_ask_99 ?_
        obtain ⟨M100, eM100, h⟩ := ln h
        refine wd_puti hx hb hts i_B ty_B tyok_B nm_B hown hK hP hS 0 hI.1 hI.2.1 rfl 11 (by decide) t_147 rfl rfl (ty := .int) (by decide +kernel) rfl rfl d_B_ask_100 (fun H locs hP hS => ?_)
        rw [← eM100] at hP
        refine lv_iload hx hb d_B_ask_103 (lv_at hl 0 rfl) ?_
        obtain ⟨rfl, rfl, rfl⟩ := oe3 h
        exact wd_iretT hx hb hr hlk hP hS (Nat.zero_le _) (Nat.zero_le _) d_B_ask_105
      · replace h := ogf c45 h
        exact w_B_ask_48 G hTS hI  M _ hP hS (lv_sub hl [] rfl) h
  · replace h := ogt c4 h
    obtain ⟨rfl, rfl, rfl⟩ := oe3 h
    obtain ⟨qs, hqs⟩ := hTS.2.2.2.2 (102, "an address is 0 .. 1048575") (by decide +kernel)
    obtain ⟨cC, hcC⟩ := cls_of (hts _ t_163)
    exact wd_throw 2 (by decide) hx hb hlk (hml.trans hl.1.symm) hno hst hown (hts _ t_164) (hts _ t_163) (hts _ t_165) hcC hqs (names := ["java/lang/RuntimeException", "java/lang/Exception"]) (by decide +kernel) (by decide +kernel) (own_B_2 hTS) hP (by decide) (by decide) (by decide) (by decide) d_B_ask_7 d_B_ask_10 d_B_ask_11 d_B_ask_13 d_B_ask_16
theorem c_B_ask (l : Launch) (x1 x2 : Int32) (M : Mm) (sz : Nat) (hI : Is_B dA b N sh B C 0) {kx : Nat} {rv : Int32} {M' : Mm} (hlt : l.stackTraces = false) (h : f_B_ask B C x1 x2 M = some (kx, rv, M')) : MetT l y_B_ask (wm y_B_ask k_B_ask 5 (some .int)) rm_B_ask (PwT (dC, dI) cls6 (tyl dA) b N sh [.ref (b + 0), .int x1, .int x2] M sz) (Qwt (dC, dI) cls6 b N sh kx rv M' sz) 1 6 (reg b N sz) := by
  refine mk_metT (by decide) (Nat.le_of_ble_eq_true rfl) hlt ?_
  intro p e s m below meth c ls G hsz hTS hP hS hl
  subst hsz
  exact w_B_ask_0 G hTS hI _ _ _ ls hP hS hl h
end
abbrev rm_B_run : Room := { frames := 6, cells := 1, slots := 6, locals := 143 }
def B_B_run_29 (B C : Nat) : Nat → Int32 → Int32 → Int32 → Mm → Option (Nat × Int32 × Mm)
  | 0, _, _, _, _ => none
  | n + 1, x1, x2, x3, M => (if x1 ≤ x3 then some (0, ((M 0 12) - x2), M) else (f_B_step B C M).bind (fun q35 => bnd (x3 + 1) (fun v38 => B_B_run_29 B C n x1 x2 v38 q35)))
def B_B_run_12 (B C : Nat) (M : Mm) : Option (Nat × Int32 × Mm) := some (2, 0, M)
def f_B_run (B C : Nat) (x1 : Int32) (M : Mm) : Option (Nat × Int32 × Mm) := (if x1 < 1 then B_B_run_12 B C M else (if x1 ≤ 1000 then bnd (M 0 12) (fun v26 => B_B_run_29 B C 1200 x1 v26 0 M) else B_B_run_12 B C M))
section
variable {p : Program} {l : Launch} {e : Env} {s : State} {m : MethodId} {args : Array Value} {below : List Frame} {meth : Method} {c : Code} {dC : Nat → ClassId} {dI : Nat → Nat → Nat} {dA : Nat → ClassId} {b N B C : Nat} {sh : Shp}
set_option maxHeartbeats 4000000 in
set_option maxRecDepth 100000 in
theorem w_B_run_29 {kx : Nat} {rv : Int32} {M' : Mm} (G : Cxt p l s m args meth c (dC, dI) cls6 (tyl dA) "BankTimes" k_B_run 4 (some .int)) (hTS : ThS s) (hI : Is_B dA b N sh B C 0)   : ∀ (n : Nat) (x1 x2 x3 : Int32) (M : Mm) (H : Heap) (locs : List Loc) (ls : Array Slot), va_P (dC, dI) cls6 (wd b N sh M) H → va_S (reg b N s.heap.size) s.heap H locs → lv_has ls 4 [(0, .ref (b + 0)), (1, .int x1), (2, .int x2), (3, .int x3)] → B_B_run_29 B C n x1 x2 x3 M = some (kx, rv, M') → W p l e rm_B_run s m args below meth c H locs 0 0 (MQT below (Qwt (dC, dI) cls6 b N sh kx rv M' s.heap.size) args s 1 6 (reg b N s.heap.size)) (F0 m 29 ls []) := by
  obtain ⟨⟨hx, hb, hml, hr, hown, hts, hlk, hK⟩, hno, hst⟩ := id G
  intro n
  induction n with
  | zero =>
    intro x1 x2 x3 M H locs ls hP hS hl h
    cases h
  | succ n ih =>
    intro x1 x2 x3 M H locs ls hP hS hl h
    rw [B_B_run_29] at h
    refine lv_iload_n hx hb d_B_run_29 rfl (lv_at hl 3 rfl) ?_
    refine lv_iload_n hx hb d_B_run_30 rfl (lv_at hl 1 rfl) ?_
    refine lv_icmp_ge (tgt := 44) hx hb d_B_run_31 (by decide) (fun c31 => ?_) (fun c31 => ?_)
    · replace h := ogt c31 h
      refine lv_aload_n hx hb d_B_run_44 rfl (lv_at hl 0 rfl) ?_
      refine wd_geti hx hb hts i_B hown hK hP 0 hI.1 hI.2.1 rfl 12 (by decide) t_128 rfl d_B_run_45 ?_
      refine lv_iload_n hx hb d_B_run_48 rfl (lv_at hl 2 rfl) ?_
      refine lv_isub hx hb d_B_run_49 ?_
      obtain ⟨rfl, rfl, rfl⟩ := oe3 h
      exact wd_iretT hx hb hr hlk hP hS (Nat.zero_le _) (Nat.zero_le _) d_B_run_50
    · replace h := ogf c31 h
      refine lv_aload_n hx hb d_B_run_34 rfl (lv_at hl 0 rfl) ?_
      obtain ⟨q35, hc35, h⟩ := obd h
      refine wd_cvv (As := []) (rest := []) ⟨hx, hb, hml, hown, hts⟩ hK hP hS 0 hI.1 hI.2.1 rfl (c_B_step l M _ hI hc35) (cwV 0 hts (wmV t_199 t_201 t_202 t_113 t_200) rfl rfl rfl (by decide +kernel) ⟨by decide, by decide⟩) rfl hl.1 rfl (Nat.le_of_ble_eq_true rfl) d_B_run_35 ⟨Nat.zero_le _, Nat.zero_le _⟩ (fun H locs hP hS => ?_)
      obtain ⟨v38, e38, h⟩ := ln h
      refine lv_iinc (v := v38) (lv' := [(3, .int v38), (0, .ref (b + 0)), (1, .int x1), (2, .int x2)]) hx hb d_B_run_38 hl (k := 3) rfl (by rw [e38]; rfl) (by decide) rfl (fun ls hl => ?_)
      refine lv_goto (tgt := 29) hx hb d_B_run_41 (by decide) ?_
      exact ih x1 x2 v38 q35 _ _ _ hP hS (lv_sub hl [1, 2, 3, 0] rfl) h
set_option maxHeartbeats 4000000 in
set_option maxRecDepth 100000 in
theorem w_B_run_12 {kx : Nat} {rv : Int32} {M' : Mm} (G : Cxt p l s m args meth c (dC, dI) cls6 (tyl dA) "BankTimes" k_B_run 4 (some .int)) (hTS : ThS s) (hI : Is_B dA b N sh B C 0)   : ∀ (M : Mm) (ls : Array Slot), va_P (dC, dI) cls6 (wd b N sh M) s.heap → va_S (reg b N s.heap.size) s.heap s.heap [] → lv_has ls 4 [] → B_B_run_12 B C M = some (kx, rv, M') → W p l e rm_B_run s m args below meth c s.heap [] 0 0 (MQT below (Qwt (dC, dI) cls6 b N sh kx rv M' s.heap.size) args s 1 6 (reg b N s.heap.size)) (F0 m 12 ls []) := by
  obtain ⟨⟨hx, hb, hml, hr, hown, hts, hlk, hK⟩, hno, hst⟩ := id G
  intro M ls hP hS hl h
  unfold B_B_run_12 at h
  obtain ⟨rfl, rfl, rfl⟩ := oe3 h
  obtain ⟨qs, hqs⟩ := hTS.2.2.2.2 (135, "a run is 1 .. 1000 cycles") (by decide +kernel)
  obtain ⟨cC, hcC⟩ := cls_of (hts _ t_163)
  exact wd_throw 2 (by decide) hx hb hlk (hml.trans hl.1.symm) hno hst hown (hts _ t_164) (hts _ t_163) (hts _ t_165) hcC hqs (names := ["java/lang/RuntimeException", "java/lang/Exception"]) (by decide +kernel) (by decide +kernel) (own_B_2 hTS) hP (by decide) (by decide) (by decide) (by decide) d_B_run_12 d_B_run_15 d_B_run_16 d_B_run_18 d_B_run_21
set_option maxHeartbeats 4000000 in
set_option maxRecDepth 100000 in
theorem w_B_run_0 {kx : Nat} {rv : Int32} {M' : Mm} (G : Cxt p l s m args meth c (dC, dI) cls6 (tyl dA) "BankTimes" k_B_run 4 (some .int)) (hTS : ThS s) (hI : Is_B dA b N sh B C 0)   : ∀ (x1 : Int32) (M : Mm) (ls : Array Slot), va_P (dC, dI) cls6 (wd b N sh M) s.heap → va_S (reg b N s.heap.size) s.heap s.heap [] → lv_has ls 4 [(0, .ref (b + 0)), (1, .int x1)] → f_B_run B C x1 M = some (kx, rv, M') → W p l e rm_B_run s m args below meth c s.heap [] 0 0 (MQT below (Qwt (dC, dI) cls6 b N sh kx rv M' s.heap.size) args s 1 6 (reg b N s.heap.size)) (F0 m 0 ls []) := by
  obtain ⟨⟨hx, hb, hml, hr, hown, hts, hlk, hK⟩, hno, hst⟩ := id G
  intro x1 M ls hP hS hl h
  unfold f_B_run at h
  refine lv_iload_n hx hb d_B_run_0 rfl (lv_at hl 1 rfl) ?_
  refine lv_iconst (v := 1) hx hb d_B_run_1 (by decide) ?_
  refine lv_icmp_lt (tgt := 12) hx hb d_B_run_2 (by decide) (fun c2 => ?_) (fun c2 => ?_)
  · replace h := ogt c2 h
    exact w_B_run_12 G hTS hI  M _ hP hS (lv_sub hl [] rfl) h
  · replace h := ogf c2 h
    refine lv_iload_n hx hb d_B_run_5 rfl (lv_at hl 1 rfl) ?_
    refine lv_sipush (v := 1000) hx hb d_B_run_6 (by decide) ?_
    refine lv_icmp_le (tgt := 22) hx hb d_B_run_9 (by decide) (fun c9 => ?_) (fun c9 => ?_)
    · replace h := ogt c9 h
      refine lv_aload_n hx hb d_B_run_22 rfl (lv_at hl 0 rfl) ?_
      refine wd_geti hx hb hts i_B hown hK hP 0 hI.1 hI.2.1 rfl 12 (by decide) t_128 rfl d_B_run_23 ?_
      obtain ⟨v26, e26, h⟩ := ln h
      refine lv_nm e26 ?_
      refine lv_istore_n (lv' := [(2, .int v26), (0, .ref (b + 0)), (1, .int x1)]) hx hb d_B_run_26 rfl hl (by decide) rfl (fun ls hl => ?_)
      refine lv_iconst (v := 0) hx hb d_B_run_27 (by decide) ?_
      refine lv_istore_n (lv' := [(3, .int 0), (2, .int v26), (0, .ref (b + 0)), (1, .int x1)]) hx hb d_B_run_28 rfl hl (by decide) rfl (fun ls hl => ?_)
      exact w_B_run_29 G hTS hI  1200 x1 v26 0 M _ _ _ hP hS (lv_sub hl [2, 3, 1, 0] rfl) h
    · replace h := ogf c9 h
      exact w_B_run_12 G hTS hI  M _ hP hS (lv_sub hl [] rfl) h
theorem c_B_run (l : Launch) (x1 : Int32) (M : Mm) (sz : Nat) (hI : Is_B dA b N sh B C 0) {kx : Nat} {rv : Int32} {M' : Mm} (hlt : l.stackTraces = false) (h : f_B_run B C x1 M = some (kx, rv, M')) : MetT l y_B_run (wm y_B_run k_B_run 4 (some .int)) rm_B_run (PwT (dC, dI) cls6 (tyl dA) b N sh [.ref (b + 0), .int x1] M sz) (Qwt (dC, dI) cls6 b N sh kx rv M' sz) 1 6 (reg b N sz) := by
  refine mk_metT (by decide) (Nat.le_of_ble_eq_true rfl) hlt ?_
  intro p e s m below meth c ls G hsz hTS hP hS hl
  subst hsz
  exact w_B_run_0 G hTS hI _ _ ls hP hS hl h
end
abbrev rm_B_done : Room := { frames := 6, cells := 1, slots := 6, locals := 83 }
def B_B_done_12 (B C : Nat) (M : Mm) : Option (Nat × Int32 × Mm) := some (1, 0, M)
def f_B_done (B C : Nat) (x1 : Int32) (M : Mm) : Option (Nat × Int32 × Mm) := (if x1 < 0 then B_B_done_12 B C M else (if x1 < (M 0 11) then (if ixb x1 512 = true then some (0, M (7 + 21 * C) x1.toNatClampNeg, M) else none) else B_B_done_12 B C M))
section
variable {p : Program} {l : Launch} {e : Env} {s : State} {m : MethodId} {args : Array Value} {below : List Frame} {meth : Method} {c : Code} {dC : Nat → ClassId} {dI : Nat → Nat → Nat} {dA : Nat → ClassId} {b N B C : Nat} {sh : Shp}
set_option maxHeartbeats 4000000 in
set_option maxRecDepth 100000 in
theorem w_B_done_12 {kx : Nat} {rv : Int32} {M' : Mm} (G : Cxt p l s m args meth c (dC, dI) cls6 (tyl dA) "BankTimes" k_B_done 2 (some .int)) (hTS : ThS s) (hI : Is_B dA b N sh B C 0)   : ∀ (M : Mm) (ls : Array Slot), va_P (dC, dI) cls6 (wd b N sh M) s.heap → va_S (reg b N s.heap.size) s.heap s.heap [] → lv_has ls 2 [] → B_B_done_12 B C M = some (kx, rv, M') → W p l e rm_B_done s m args below meth c s.heap [] 0 0 (MQT below (Qwt (dC, dI) cls6 b N sh kx rv M' s.heap.size) args s 1 6 (reg b N s.heap.size)) (F0 m 12 ls []) := by
  obtain ⟨⟨hx, hb, hml, hr, hown, hts, hlk, hK⟩, hno, hst⟩ := id G
  intro M ls hP hS hl h
  unfold B_B_done_12 at h
  obtain ⟨rfl, rfl, rfl⟩ := oe3 h
  obtain ⟨qs, hqs⟩ := hTS.2.2.2.2 (140, "there is no such ask") (by decide +kernel)
  obtain ⟨cC, hcC⟩ := cls_of (hts _ t_159)
  exact wd_throw 1 (by decide) hx hb hlk (hml.trans hl.1.symm) hno hst hown (hts _ t_160) (hts _ t_159) (hts _ t_161) hcC hqs (names := ["java/lang/RuntimeException", "java/lang/Exception"]) (by decide +kernel) (by decide +kernel) (own_B_1 hTS) hP (by decide) (by decide) (by decide) (by decide) d_B_done_12 d_B_done_15 d_B_done_16 d_B_done_18 d_B_done_21
set_option maxHeartbeats 4000000 in
set_option maxRecDepth 100000 in
theorem w_B_done_0 {kx : Nat} {rv : Int32} {M' : Mm} (G : Cxt p l s m args meth c (dC, dI) cls6 (tyl dA) "BankTimes" k_B_done 2 (some .int)) (hTS : ThS s) (hI : Is_B dA b N sh B C 0)   : ∀ (x1 : Int32) (M : Mm) (ls : Array Slot), va_P (dC, dI) cls6 (wd b N sh M) s.heap → va_S (reg b N s.heap.size) s.heap s.heap [] → lv_has ls 2 [(0, .ref (b + 0)), (1, .int x1)] → f_B_done B C x1 M = some (kx, rv, M') → W p l e rm_B_done s m args below meth c s.heap [] 0 0 (MQT below (Qwt (dC, dI) cls6 b N sh kx rv M' s.heap.size) args s 1 6 (reg b N s.heap.size)) (F0 m 0 ls []) := by
  obtain ⟨⟨hx, hb, hml, hr, hown, hts, hlk, hK⟩, hno, hst⟩ := id G
  intro x1 M ls hP hS hl h
  unfold f_B_done at h
  refine lv_iload_n hx hb d_B_done_0 rfl (lv_at hl 1 rfl) ?_
  refine lv_if_lt (tgt := 12) hx hb d_B_done_1 (by decide) (fun c1 => ?_) (fun c1 => ?_)
  · replace h := ogt c1 h
    exact w_B_done_12 G hTS hI  M _ hP hS (lv_sub hl [] rfl) h
  · replace h := ogf c1 h
    refine lv_iload_n hx hb d_B_done_4 rfl (lv_at hl 1 rfl) ?_
    refine lv_aload_n hx hb d_B_done_5 rfl (lv_at hl 0 rfl) ?_
    refine wd_geti hx hb hts i_B hown hK hP 0 hI.1 hI.2.1 rfl 11 (by decide) t_147 rfl d_B_done_6 ?_
    refine lv_icmp_lt (tgt := 22) hx hb d_B_done_9 (by decide) (fun c9 => ?_) (fun c9 => ?_)
    · replace h := ogt c9 h
      refine lv_aload_n hx hb d_B_done_22 rfl (lv_at hl 0 rfl) ?_
      refine wd_getr hx hb hts i_B hown hK hP 0 hI.1 hI.2.1 rfl 8 (by decide) t_124 rfl d_B_done_23 ?_
      refine lv_iload_n hx hb d_B_done_26 rfl (lv_at hl 1 rfl) ?_
      obtain ⟨hi27, h⟩ := og h
      refine wd_iald hx hb hK hP (7 + 21 * C) 0 hI.2.2.2.2.2.2.1 hI.2.2.2.2.2.2.2 rfl hi27 d_B_done_27 ?_
      obtain ⟨rfl, rfl, rfl⟩ := oe3 h
      exact wd_iretT hx hb hr hlk hP hS (Nat.zero_le _) (Nat.zero_le _) d_B_done_28
    · replace h := ogf c9 h
      exact w_B_done_12 G hTS hI  M _ hP hS (lv_sub hl [] rfl) h
theorem c_B_done (l : Launch) (x1 : Int32) (M : Mm) (sz : Nat) (hI : Is_B dA b N sh B C 0) {kx : Nat} {rv : Int32} {M' : Mm} (hlt : l.stackTraces = false) (h : f_B_done B C x1 M = some (kx, rv, M')) : MetT l y_B_done (wm y_B_done k_B_done 2 (some .int)) rm_B_done (PwT (dC, dI) cls6 (tyl dA) b N sh [.ref (b + 0), .int x1] M sz) (Qwt (dC, dI) cls6 b N sh kx rv M' sz) 1 6 (reg b N sz) := by
  refine mk_metT (by decide) (Nat.le_of_ble_eq_true rfl) hlt ?_
  intro p e s m below meth c ls G hsz hTS hP hS hl
  subst hsz
  exact w_B_done_0 G hTS hI _ _ ls hP hS hl h
end
abbrev rm_B_command : Room := { frames := 6, cells := 1, slots := 6, locals := 83 }
def B_B_command_24 (B C : Nat) (M : Mm) : Option (Nat × Int32 × Mm) := some (1, 0, M)
def f_B_command (B C : Nat) (x1 x2 : Int32) (M : Mm) : Option (Nat × Int32 × Mm) := (if x1 < 0 then B_B_command_24 B C M else (if (M (4 + 21 * C) 3) ≤ x1 then B_B_command_24 B C M else (if x2 < 0 then B_B_command_24 B C M else (if x2 < 5 then (f_G_partOf B C (4 + 21 * C) x1 x2 M).bind (fun q40 => some (0, q40, M)) else B_B_command_24 B C M))))
section
variable {p : Program} {l : Launch} {e : Env} {s : State} {m : MethodId} {args : Array Value} {below : List Frame} {meth : Method} {c : Code} {dC : Nat → ClassId} {dI : Nat → Nat → Nat} {dA : Nat → ClassId} {b N B C : Nat} {sh : Shp}
set_option maxHeartbeats 4000000 in
set_option maxRecDepth 100000 in
theorem w_B_command_24 {kx : Nat} {rv : Int32} {M' : Mm} (G : Cxt p l s m args meth c (dC, dI) cls6 (tyl dA) "BankTimes" k_B_command 3 (some .int)) (hTS : ThS s) (hI : Is_B dA b N sh B C 0)   : ∀ (M : Mm) (ls : Array Slot), va_P (dC, dI) cls6 (wd b N sh M) s.heap → va_S (reg b N s.heap.size) s.heap s.heap [] → lv_has ls 3 [] → B_B_command_24 B C M = some (kx, rv, M') → W p l e rm_B_command s m args below meth c s.heap [] 0 0 (MQT below (Qwt (dC, dI) cls6 b N sh kx rv M' s.heap.size) args s 1 6 (reg b N s.heap.size)) (F0 m 24 ls []) := by
  obtain ⟨⟨hx, hb, hml, hr, hown, hts, hlk, hK⟩, hno, hst⟩ := id G
  intro M ls hP hS hl h
  unfold B_B_command_24 at h
  obtain ⟨rfl, rfl, rfl⟩ := oe3 h
  obtain ⟨qs, hqs⟩ := hTS.2.2.2.2 (145, "there is no such command or part of it") (by decide +kernel)
  obtain ⟨cC, hcC⟩ := cls_of (hts _ t_159)
  exact wd_throw 1 (by decide) hx hb hlk (hml.trans hl.1.symm) hno hst hown (hts _ t_160) (hts _ t_159) (hts _ t_161) hcC hqs (names := ["java/lang/RuntimeException", "java/lang/Exception"]) (by decide +kernel) (by decide +kernel) (own_B_1 hTS) hP (by decide) (by decide) (by decide) (by decide) d_B_command_24 d_B_command_27 d_B_command_28 d_B_command_30 d_B_command_33
set_option maxHeartbeats 4000000 in
set_option maxRecDepth 100000 in
theorem w_B_command_0 {kx : Nat} {rv : Int32} {M' : Mm} (G : Cxt p l s m args meth c (dC, dI) cls6 (tyl dA) "BankTimes" k_B_command 3 (some .int)) (hTS : ThS s) (hI : Is_B dA b N sh B C 0)   : ∀ (x1 x2 : Int32) (M : Mm) (ls : Array Slot), va_P (dC, dI) cls6 (wd b N sh M) s.heap → va_S (reg b N s.heap.size) s.heap s.heap [] → lv_has ls 3 [(0, .ref (b + 0)), (1, .int x1), (2, .int x2)] → f_B_command B C x1 x2 M = some (kx, rv, M') → W p l e rm_B_command s m args below meth c s.heap [] 0 0 (MQT below (Qwt (dC, dI) cls6 b N sh kx rv M' s.heap.size) args s 1 6 (reg b N s.heap.size)) (F0 m 0 ls []) := by
  obtain ⟨⟨hx, hb, hml, hr, hown, hts, hlk, hK⟩, hno, hst⟩ := id G
  intro x1 x2 M ls hP hS hl h
  unfold f_B_command at h
  refine lv_iload_n hx hb d_B_command_0 rfl (lv_at hl 1 rfl) ?_
  refine lv_if_lt (tgt := 24) hx hb d_B_command_1 (by decide) (fun c1 => ?_) (fun c1 => ?_)
  · replace h := ogt c1 h
    exact w_B_command_24 G hTS hI  M _ hP hS (lv_sub hl [] rfl) h
  · replace h := ogf c1 h
    refine lv_iload_n hx hb d_B_command_4 rfl (lv_at hl 1 rfl) ?_
    refine lv_aload_n hx hb d_B_command_5 rfl (lv_at hl 0 rfl) ?_
    refine wd_getr hx hb hts i_B hown hK hP 0 hI.1 hI.2.1 rfl 7 (by decide) t_103 rfl d_B_command_6 ?_
    refine wd_geti hx hb hts i_G hown hK hP (4 + 21 * C) hI.2.2.2.2.2.1.1 hI.2.2.2.2.2.1.2.1 rfl 3 (by decide) t_203 rfl d_B_command_9 ?_
    refine lv_icmp_ge (tgt := 24) hx hb d_B_command_12 (by decide) (fun c12 => ?_) (fun c12 => ?_)
    · replace h := ogt c12 h
      exact w_B_command_24 G hTS hI  M _ hP hS (lv_sub hl [] rfl) h
    · replace h := ogf c12 h
      refine lv_iload_n hx hb d_B_command_15 rfl (lv_at hl 2 rfl) ?_
      refine lv_if_lt (tgt := 24) hx hb d_B_command_16 (by decide) (fun c16 => ?_) (fun c16 => ?_)
      · replace h := ogt c16 h
        exact w_B_command_24 G hTS hI  M _ hP hS (lv_sub hl [] rfl) h
      · replace h := ogf c16 h
        refine lv_iload_n hx hb d_B_command_19 rfl (lv_at hl 2 rfl) ?_
        refine lv_iconst (v := 5) hx hb d_B_command_20 (by decide) ?_
        refine lv_icmp_lt (tgt := 34) hx hb d_B_command_21 (by decide) (fun c21 => ?_) (fun c21 => ?_)
        · replace h := ogt c21 h
          refine lv_aload_n hx hb d_B_command_34 rfl (lv_at hl 0 rfl) ?_
          refine wd_getr hx hb hts i_B hown hK hP 0 hI.1 hI.2.1 rfl 7 (by decide) t_103 rfl d_B_command_35 ?_
          refine lv_iload_n hx hb d_B_command_38 rfl (lv_at hl 1 rfl) ?_
          refine lv_iload_n hx hb d_B_command_39 rfl (lv_at hl 2 rfl) ?_
          obtain ⟨q40, hc40, h⟩ := obd h
          refine wd_cvr (As := [.int x1, .int x2]) (rest := []) ⟨hx, hb, hml, hown, hts⟩ hK hP (4 + 21 * C) hI.2.2.2.2.2.1.1 hI.2.2.2.2.2.1.2.1 rfl (c_G_partOf l (4 + 21 * C) x1 x2 M _ hI.2.2.2.2.2.1 hc40) (cwV 2 hts (wmV t_204 t_206 t_207 t_45 t_205) rfl rfl rfl (by decide +kernel) ⟨by decide, by decide⟩) rfl hl.1 rfl (Nat.le_of_ble_eq_true rfl) d_B_command_40 ⟨Nat.zero_le _, Nat.zero_le _⟩ ?_
          obtain ⟨rfl, rfl, rfl⟩ := oe3 h
          exact wd_iretT hx hb hr hlk hP hS (Nat.zero_le _) (Nat.zero_le _) d_B_command_43
        · replace h := ogf c21 h
          exact w_B_command_24 G hTS hI  M _ hP hS (lv_sub hl [] rfl) h
theorem c_B_command (l : Launch) (x1 x2 : Int32) (M : Mm) (sz : Nat) (hI : Is_B dA b N sh B C 0) {kx : Nat} {rv : Int32} {M' : Mm} (hlt : l.stackTraces = false) (h : f_B_command B C x1 x2 M = some (kx, rv, M')) : MetT l y_B_command (wm y_B_command k_B_command 3 (some .int)) rm_B_command (PwT (dC, dI) cls6 (tyl dA) b N sh [.ref (b + 0), .int x1, .int x2] M sz) (Qwt (dC, dI) cls6 b N sh kx rv M' sz) 1 6 (reg b N sz) := by
  refine mk_metT (by decide) (Nat.le_of_ble_eq_true rfl) hlt ?_
  intro p e s m below meth c ls G hsz hTS hP hS hl
  subst hsz
  exact w_B_command_0 G hTS hI _ _ _ ls hP hS hl h
end
abbrev rm_B_open : Room := { frames := 6, cells := 1, slots := 6, locals := 83 }
def B_B_open_25 (B C : Nat) (M : Mm) : Option (Nat × Int32 × Mm) := some (1, 0, M)
def f_B_open (B C : Nat) (x1 x2 : Int32) (M : Mm) : Option (Nat × Int32 × Mm) := (if x1 < 0 then B_B_open_25 B C M else (if (nI C) ≤ x1 then B_B_open_25 B C M else (if x2 < 0 then B_B_open_25 B C M else (if x2 < (M 0 2) then (if ixb x1 C = true then (if ixb x2 B = true then some (0, M (((4 + 21 * x1.toNatClampNeg) + 1) + 1) x2.toNatClampNeg, M) else none) else none) else B_B_open_25 B C M))))
section
variable {p : Program} {l : Launch} {e : Env} {s : State} {m : MethodId} {args : Array Value} {below : List Frame} {meth : Method} {c : Code} {dC : Nat → ClassId} {dI : Nat → Nat → Nat} {dA : Nat → ClassId} {b N B C : Nat} {sh : Shp}
set_option maxHeartbeats 4000000 in
set_option maxRecDepth 100000 in
theorem w_B_open_25 {kx : Nat} {rv : Int32} {M' : Mm} (G : Cxt p l s m args meth c (dC, dI) cls6 (tyl dA) "BankTimes" k_B_open 3 (some .int)) (hTS : ThS s) (hI : Is_B dA b N sh B C 0)   : ∀ (M : Mm) (ls : Array Slot), va_P (dC, dI) cls6 (wd b N sh M) s.heap → va_S (reg b N s.heap.size) s.heap s.heap [] → lv_has ls 3 [] → B_B_open_25 B C M = some (kx, rv, M') → W p l e rm_B_open s m args below meth c s.heap [] 0 0 (MQT below (Qwt (dC, dI) cls6 b N sh kx rv M' s.heap.size) args s 1 6 (reg b N s.heap.size)) (F0 m 25 ls []) := by
  obtain ⟨⟨hx, hb, hml, hr, hown, hts, hlk, hK⟩, hno, hst⟩ := id G
  intro M ls hP hS hl h
  unfold B_B_open_25 at h
  obtain ⟨rfl, rfl, rfl⟩ := oe3 h
  obtain ⟨qs, hqs⟩ := hTS.2.2.2.2 (150, "there is no such channel or bank") (by decide +kernel)
  obtain ⟨cC, hcC⟩ := cls_of (hts _ t_159)
  exact wd_throw 1 (by decide) hx hb hlk (hml.trans hl.1.symm) hno hst hown (hts _ t_160) (hts _ t_159) (hts _ t_161) hcC hqs (names := ["java/lang/RuntimeException", "java/lang/Exception"]) (by decide +kernel) (by decide +kernel) (own_B_1 hTS) hP (by decide) (by decide) (by decide) (by decide) d_B_open_25 d_B_open_28 d_B_open_29 d_B_open_31 d_B_open_34
set_option maxHeartbeats 4000000 in
set_option maxRecDepth 100000 in
theorem w_B_open_0 {kx : Nat} {rv : Int32} {M' : Mm} (G : Cxt p l s m args meth c (dC, dI) cls6 (tyl dA) "BankTimes" k_B_open 3 (some .int)) (hTS : ThS s) (hI : Is_B dA b N sh B C 0)   : ∀ (x1 x2 : Int32) (M : Mm) (ls : Array Slot), va_P (dC, dI) cls6 (wd b N sh M) s.heap → va_S (reg b N s.heap.size) s.heap s.heap [] → lv_has ls 3 [(0, .ref (b + 0)), (1, .int x1), (2, .int x2)] → f_B_open B C x1 x2 M = some (kx, rv, M') → W p l e rm_B_open s m args below meth c s.heap [] 0 0 (MQT below (Qwt (dC, dI) cls6 b N sh kx rv M' s.heap.size) args s 1 6 (reg b N s.heap.size)) (F0 m 0 ls []) := by
  obtain ⟨⟨hx, hb, hml, hr, hown, hts, hlk, hK⟩, hno, hst⟩ := id G
  intro x1 x2 M ls hP hS hl h
  unfold f_B_open at h
  refine lv_iload_n hx hb d_B_open_0 rfl (lv_at hl 1 rfl) ?_
  refine lv_if_lt (tgt := 25) hx hb d_B_open_1 (by decide) (fun c1 => ?_) (fun c1 => ?_)
  · replace h := ogt c1 h
    exact w_B_open_25 G hTS hI  M _ hP hS (lv_sub hl [] rfl) h
  · replace h := ogf c1 h
    refine lv_iload_n hx hb d_B_open_4 rfl (lv_at hl 1 rfl) ?_
    refine lv_aload_n hx hb d_B_open_5 rfl (lv_at hl 0 rfl) ?_
    refine wd_getr hx hb hts i_B hown hK hP 0 hI.1 hI.2.1 rfl 5 (by decide) t_91 rfl d_B_open_6 ?_
    refine wd_ralen hx hb hK hP 2 2 hI.2.2.2.1.1 hI.2.2.2.1.2.1 rfl d_B_open_9 ?_
    refine lv_icmp_ge (tgt := 25) hx hb d_B_open_10 (by decide) (fun c10 => ?_) (fun c10 => ?_)
    · replace h := ogt c10 h
      exact w_B_open_25 G hTS hI  M _ hP hS (lv_sub hl [] rfl) h
    · replace h := ogf c10 h
      refine lv_iload_n hx hb d_B_open_13 rfl (lv_at hl 2 rfl) ?_
      refine lv_if_lt (tgt := 25) hx hb d_B_open_14 (by decide) (fun c14 => ?_) (fun c14 => ?_)
      · replace h := ogt c14 h
        exact w_B_open_25 G hTS hI  M _ hP hS (lv_sub hl [] rfl) h
      · replace h := ogf c14 h
        refine lv_iload_n hx hb d_B_open_17 rfl (lv_at hl 2 rfl) ?_
        refine lv_aload_n hx hb d_B_open_18 rfl (lv_at hl 0 rfl) ?_
        refine wd_geti hx hb hts i_B hown hK hP 0 hI.1 hI.2.1 rfl 2 (by decide) t_93 rfl d_B_open_19 ?_
        refine lv_icmp_lt (tgt := 35) hx hb d_B_open_22 (by decide) (fun c22 => ?_) (fun c22 => ?_)
        · replace h := ogt c22 h
          refine lv_aload_n hx hb d_B_open_35 rfl (lv_at hl 0 rfl) ?_
          refine wd_getr hx hb hts i_B hown hK hP 0 hI.1 hI.2.1 rfl 5 (by decide) t_91 rfl d_B_open_36 ?_
          refine lv_iload_n hx hb d_B_open_39 rfl (lv_at hl 1 rfl) ?_
          obtain ⟨hi40, h⟩ := og h
          refine wd_aald hx hb hK hP 2 2 hI.2.2.2.1.1 hI.2.2.2.1.2.1 rfl hi40 rfl d_B_open_40 ?_
          refine wd_getr hx hb hts i_C hown hK hP (4 + 21 * x1.toNatClampNeg) (hI.2.2.2.1.2.2 x1 hi40).1 (hI.2.2.2.1.2.2 x1 hi40).2.1 rfl 0 (by decide) t_95 rfl d_B_open_41 ?_
          refine wd_getr hx hb hts i_R hown hK hP ((4 + 21 * x1.toNatClampNeg) + 1) (hI.2.2.2.1.2.2 x1 hi40).2.2.1.1 (hI.2.2.2.1.2.2 x1 hi40).2.2.1.2.1 rfl 1 (by decide) t_118 rfl d_B_open_44 ?_
          refine lv_iload_n hx hb d_B_open_47 rfl (lv_at hl 2 rfl) ?_
          obtain ⟨hi48, h⟩ := og h
          refine wd_iald hx hb hK hP (((4 + 21 * x1.toNatClampNeg) + 1) + 1) 0 (hI.2.2.2.1.2.2 x1 hi40).2.2.1.2.2.2.1.1 (hI.2.2.2.1.2.2 x1 hi40).2.2.1.2.2.2.1.2 rfl hi48 d_B_open_48 ?_
          obtain ⟨rfl, rfl, rfl⟩ := oe3 h
          exact wd_iretT hx hb hr hlk hP hS (Nat.zero_le _) (Nat.zero_le _) d_B_open_49
        · replace h := ogf c22 h
          exact w_B_open_25 G hTS hI  M _ hP hS (lv_sub hl [] rfl) h
theorem c_B_open (l : Launch) (x1 x2 : Int32) (M : Mm) (sz : Nat) (hI : Is_B dA b N sh B C 0) {kx : Nat} {rv : Int32} {M' : Mm} (hlt : l.stackTraces = false) (h : f_B_open B C x1 x2 M = some (kx, rv, M')) : MetT l y_B_open (wm y_B_open k_B_open 3 (some .int)) rm_B_open (PwT (dC, dI) cls6 (tyl dA) b N sh [.ref (b + 0), .int x1, .int x2] M sz) (Qwt (dC, dI) cls6 b N sh kx rv M' sz) 1 6 (reg b N sz) := by
  refine mk_metT (by decide) (Nat.le_of_ble_eq_true rfl) hlt ?_
  intro p e s m below meth c ls G hsz hTS hP hS hl
  subst hsz
  exact w_B_open_0 G hTS hI _ _ _ ls hP hS hl h
end
abbrev rm_B_part : Room := { frames := 6, cells := 1, slots := 6, locals := 83 }
def f_B_part (B C : Nat) (x1 x2 : Int32) (M : Mm) : Option (Nat × Int32 × Mm) := (f_B_isAddress B C x1 M).bind (fun q1 => (if q1 = 0 then some (2, 0, M) else (if x2 = 0 then (f_B_channelOf B C x1 M).bind (fun q50 => some (0, q50, M)) else (if x2 = 1 then (f_B_bankOf B C x1 M).bind (fun q56 => some (0, q56, M)) else (if x2 = 2 then (f_B_rowOf B C x1 M).bind (fun q62 => some (0, q62, M)) else (if x2 = 3 then some (0, (x1 &&& 15), M) else some (2, 0, M)))))))
section
variable {p : Program} {l : Launch} {e : Env} {s : State} {m : MethodId} {args : Array Value} {below : List Frame} {meth : Method} {c : Code} {dC : Nat → ClassId} {dI : Nat → Nat → Nat} {dA : Nat → ClassId} {b N B C : Nat} {sh : Shp}
set_option maxHeartbeats 4000000 in
set_option maxRecDepth 100000 in
theorem w_B_part_0 {kx : Nat} {rv : Int32} {M' : Mm} (G : Cxt p l s m args meth c (dC, dI) cls6 (tyl dA) "BankTimes" k_B_part 3 (some .int)) (hTS : ThS s) (hI : Is_B dA b N sh B C 0)   : ∀ (x1 x2 : Int32) (M : Mm) (ls : Array Slot), va_P (dC, dI) cls6 (wd b N sh M) s.heap → va_S (reg b N s.heap.size) s.heap s.heap [] → lv_has ls 3 [(0, .ref (b + 0)), (1, .int x1), (2, .int x2)] → f_B_part B C x1 x2 M = some (kx, rv, M') → W p l e rm_B_part s m args below meth c s.heap [] 0 0 (MQT below (Qwt (dC, dI) cls6 b N sh kx rv M' s.heap.size) args s 1 6 (reg b N s.heap.size)) (F0 m 0 ls []) := by
  obtain ⟨⟨hx, hb, hml, hr, hown, hts, hlk, hK⟩, hno, hst⟩ := id G
  intro x1 x2 M ls hP hS hl h
  unfold f_B_part at h
  refine lv_iload_n hx hb d_B_part_0 rfl (lv_at hl 1 rfl) ?_
  obtain ⟨q1, hc1, h⟩ := obd h
  refine wd_csr (As := [.int x1]) (rest := []) ⟨hx, hb, hml, hown, hts⟩ hK hP (c_B_isAddress l x1 M _  hc1) ⟨callB_of 1 hts (wm_good t_174) rfl rfl rfl (hts _ t_113) (hts _ t_173) (by decide +kernel) ⟨by decide, by decide⟩, hts _ t_175⟩ rfl hl.1 rfl (Nat.le_of_ble_eq_true rfl) d_B_part_1 ⟨Nat.zero_le _, Nat.zero_le _⟩ ?_
  refine lv_if_ne (tgt := 17) hx hb d_B_part_4 (by decide) (fun c4 => ?_) (fun c4 => ?_)
  · replace h := ogf c4 h
    refine lv_iload_n hx hb d_B_part_17 rfl (lv_at hl 2 rfl) ?_
    by_cases c18_0 : x2 = 0
    · replace h := ogt c18_0 h
      refine lv_tableIn (tgt := 48) hx hb d_B_part_18 (by rw [c18_0]; decide) (by rw [c18_0]; decide) (by rw [c18_0]; rfl) (by decide) ?_
      refine lv_aload_n hx hb d_B_part_48 rfl (lv_at hl 0 rfl) ?_
      refine lv_iload_n hx hb d_B_part_49 rfl (lv_at hl 1 rfl) ?_
      obtain ⟨q50, hc50, h⟩ := obd h
      refine wd_cvr (As := [.int x1]) (rest := []) ⟨hx, hb, hml, hown, hts⟩ hK hP 0 hI.1 hI.2.1 rfl (c_B_channelOf l x1 M _ hI hc50) (cwV 1 hts (wmV t_176 t_178 t_179 t_113 t_177) rfl rfl rfl (by decide +kernel) ⟨by decide, by decide⟩) rfl hl.1 rfl (Nat.le_of_ble_eq_true rfl) d_B_part_50 ⟨Nat.zero_le _, Nat.zero_le _⟩ ?_
      obtain ⟨rfl, rfl, rfl⟩ := oe3 h
      exact wd_iretT hx hb hr hlk hP hS (Nat.zero_le _) (Nat.zero_le _) d_B_part_53
    · replace h := ogf c18_0 h
      by_cases c18_1 : x2 = 1
      · replace h := ogt c18_1 h
        refine lv_tableIn (tgt := 54) hx hb d_B_part_18 (by rw [c18_1]; decide) (by rw [c18_1]; decide) (by rw [c18_1]; rfl) (by decide) ?_
        refine lv_aload_n hx hb d_B_part_54 rfl (lv_at hl 0 rfl) ?_
        refine lv_iload_n hx hb d_B_part_55 rfl (lv_at hl 1 rfl) ?_
        obtain ⟨q56, hc56, h⟩ := obd h
        refine wd_cvr (As := [.int x1]) (rest := []) ⟨hx, hb, hml, hown, hts⟩ hK hP 0 hI.1 hI.2.1 rfl (c_B_bankOf l x1 M _ hI hc56) (cwV 1 hts (wmV t_187 t_189 t_190 t_113 t_188) rfl rfl rfl (by decide +kernel) ⟨by decide, by decide⟩) rfl hl.1 rfl (Nat.le_of_ble_eq_true rfl) d_B_part_56 ⟨Nat.zero_le _, Nat.zero_le _⟩ ?_
        obtain ⟨rfl, rfl, rfl⟩ := oe3 h
        exact wd_iretT hx hb hr hlk hP hS (Nat.zero_le _) (Nat.zero_le _) d_B_part_59
      · replace h := ogf c18_1 h
        by_cases c18_2 : x2 = 2
        · replace h := ogt c18_2 h
          refine lv_tableIn (tgt := 60) hx hb d_B_part_18 (by rw [c18_2]; decide) (by rw [c18_2]; decide) (by rw [c18_2]; rfl) (by decide) ?_
          refine lv_aload_n hx hb d_B_part_60 rfl (lv_at hl 0 rfl) ?_
          refine lv_iload_n hx hb d_B_part_61 rfl (lv_at hl 1 rfl) ?_
          obtain ⟨q62, hc62, h⟩ := obd h
          refine wd_cvr (As := [.int x1]) (rest := []) ⟨hx, hb, hml, hown, hts⟩ hK hP 0 hI.1 hI.2.1 rfl (c_B_rowOf l x1 M _ hI hc62) (cwV 1 hts (wmV t_191 t_193 t_194 t_113 t_192) rfl rfl rfl (by decide +kernel) ⟨by decide, by decide⟩) rfl hl.1 rfl (Nat.le_of_ble_eq_true rfl) d_B_part_62 ⟨Nat.zero_le _, Nat.zero_le _⟩ ?_
          obtain ⟨rfl, rfl, rfl⟩ := oe3 h
          exact wd_iretT hx hb hr hlk hP hS (Nat.zero_le _) (Nat.zero_le _) d_B_part_65
        · replace h := ogf c18_2 h
          by_cases c18_3 : x2 = 3
          · replace h := ogt c18_3 h
            refine lv_tableIn (tgt := 66) hx hb d_B_part_18 (by rw [c18_3]; decide) (by rw [c18_3]; decide) (by rw [c18_3]; rfl) (by decide) ?_
            refine lv_iload_n hx hb d_B_part_66 rfl (lv_at hl 1 rfl) ?_
            refine lv_bipush (v := 15) hx hb d_B_part_67 (by decide) ?_
            refine lv_iand hx hb d_B_part_69 ?_
            obtain ⟨rfl, rfl, rfl⟩ := oe3 h
            exact wd_iretT hx hb hr hlk hP hS (Nat.zero_le _) (Nat.zero_le _) d_B_part_70
          · replace h := ogf c18_3 h
            have z18_0 := lv_neT (a := 0) c18_0 (by decide)
            have z18_1 := lv_neT (a := 1) c18_1 (by decide)
            have z18_2 := lv_neT (a := 2) c18_2 (by decide)
            have z18_3 := lv_neT (a := 3) c18_3 (by decide)
            refine lv_tableOut (tgt := 71) hx hb d_B_part_18 (by omega) (by decide) ?_
            obtain ⟨rfl, rfl, rfl⟩ := oe3 h
            obtain ⟨qs, hqs⟩ := hTS.2.2.2.2 (159, "an address has the parts 0 .. 3") (by decide +kernel)
            obtain ⟨cC, hcC⟩ := cls_of (hts _ t_163)
            exact wd_throw 2 (by decide) hx hb hlk (hml.trans hl.1.symm) hno hst hown (hts _ t_164) (hts _ t_163) (hts _ t_165) hcC hqs (names := ["java/lang/RuntimeException", "java/lang/Exception"]) (by decide +kernel) (by decide +kernel) (own_B_2 hTS) hP (by decide) (by decide) (by decide) (by decide) d_B_part_71 d_B_part_74 d_B_part_75 d_B_part_77 d_B_part_80
  · replace h := ogt c4 h
    obtain ⟨rfl, rfl, rfl⟩ := oe3 h
    obtain ⟨qs, hqs⟩ := hTS.2.2.2.2 (102, "an address is 0 .. 1048575") (by decide +kernel)
    obtain ⟨cC, hcC⟩ := cls_of (hts _ t_163)
    exact wd_throw 2 (by decide) hx hb hlk (hml.trans hl.1.symm) hno hst hown (hts _ t_164) (hts _ t_163) (hts _ t_165) hcC hqs (names := ["java/lang/RuntimeException", "java/lang/Exception"]) (by decide +kernel) (by decide +kernel) (own_B_2 hTS) hP (by decide) (by decide) (by decide) (by decide) d_B_part_7 d_B_part_10 d_B_part_11 d_B_part_13 d_B_part_16
theorem c_B_part (l : Launch) (x1 x2 : Int32) (M : Mm) (sz : Nat) (hI : Is_B dA b N sh B C 0) {kx : Nat} {rv : Int32} {M' : Mm} (hlt : l.stackTraces = false) (h : f_B_part B C x1 x2 M = some (kx, rv, M')) : MetT l y_B_part (wm y_B_part k_B_part 3 (some .int)) rm_B_part (PwT (dC, dI) cls6 (tyl dA) b N sh [.ref (b + 0), .int x1, .int x2] M sz) (Qwt (dC, dI) cls6 b N sh kx rv M' sz) 1 6 (reg b N sz) := by
  refine mk_metT (by decide) (Nat.le_of_ble_eq_true rfl) hlt ?_
  intro p e s m below meth c ls G hsz hTS hP hS hl
  subst hsz
  exact w_B_part_0 G hTS hI _ _ _ ls hP hS hl h
end
abbrev rm_B_check : Room := { frames := 6, cells := 1, slots := 6, locals := 83 }
def B_B_check_134 (B C : Nat) (x7 : Int32) (M : Mm) : Option (Nat × Int32 × Mm) := some (0, x7, M)
def B_B_check_97 (B C : Nat) (x1 x2 x3 x4 x5 : Int32) (M : Mm) : Option (Nat × Int32 × Mm) := (if ixb x1 C = true then (f_R_brokenRule B C (18 + 21 * x1.toNatClampNeg) x2 x3 x4 x5 M).bind (fun q113 => (if q113 = 0 then (f_R_take B C (18 + 21 * x1.toNatClampNeg) x2 x3 x4 x5 M).bind (fun q131 => B_B_check_134 B C q113 q131) else B_B_check_134 B C q113 M)) else none)
def B_B_check_87 (B C : Nat) (M : Mm) : Option (Nat × Int32 × Mm) := some (2, 0, M)
def B_B_check_62 (B C : Nat) (M : Mm) : Option (Nat × Int32 × Mm) := some (2, 0, M)
def B_B_check_22 (B C : Nat) (M : Mm) : Option (Nat × Int32 × Mm) := some (2, 0, M)
def f_B_check (B C : Nat) (x1 x2 x3 x4 x5 : Int32) (M : Mm) : Option (Nat × Int32 × Mm) := (if x1 < 0 then B_B_check_22 B C M else (if (nI C) ≤ x1 then B_B_check_22 B C M else (if x3 < 0 then B_B_check_22 B C M else (if x3 < 5 then (if x4 < 0 then B_B_check_62 B C M else (if (M 0 2) ≤ x4 then B_B_check_62 B C M else (if x2 < 0 then B_B_check_62 B C M else (if x5 < 0 then B_B_check_62 B C M else (if x5 ≤ 65535 then (if x3 = 4 then (if x4 = 0 then (if x5 = 0 then B_B_check_97 B C x1 x2 x3 x4 x5 M else B_B_check_87 B C M) else B_B_check_87 B C M) else B_B_check_97 B C x1 x2 x3 x4 x5 M) else B_B_check_62 B C M))))) else B_B_check_22 B C M))))
section
variable {p : Program} {l : Launch} {e : Env} {s : State} {m : MethodId} {args : Array Value} {below : List Frame} {meth : Method} {c : Code} {dC : Nat → ClassId} {dI : Nat → Nat → Nat} {dA : Nat → ClassId} {b N B C : Nat} {sh : Shp}
set_option maxHeartbeats 4000000 in
set_option maxRecDepth 100000 in
theorem w_B_check_134 {kx : Nat} {rv : Int32} {M' : Mm} (G : Cxt p l s m args meth c (dC, dI) cls6 (tyl dA) "BankTimes" k_B_check 8 (some .int)) (hTS : ThS s) (hI : Is_B dA b N sh B C 0)   : ∀ (x7 : Int32) (M : Mm) (H : Heap) (locs : List Loc) (ls : Array Slot), va_P (dC, dI) cls6 (wd b N sh M) H → va_S (reg b N s.heap.size) s.heap H locs → lv_has ls 8 [(7, .int x7)] → B_B_check_134 B C x7 M = some (kx, rv, M') → W p l e rm_B_check s m args below meth c H locs 0 0 (MQT below (Qwt (dC, dI) cls6 b N sh kx rv M' s.heap.size) args s 1 6 (reg b N s.heap.size)) (F0 m 134 ls []) := by
  obtain ⟨⟨hx, hb, hml, hr, hown, hts, hlk, hK⟩, hno, hst⟩ := id G
  intro x7 M H locs ls hP hS hl h
  unfold B_B_check_134 at h
  refine lv_iload hx hb d_B_check_134 (lv_at hl 0 rfl) ?_
  obtain ⟨rfl, rfl, rfl⟩ := oe3 h
  exact wd_iretT hx hb hr hlk hP hS (Nat.zero_le _) (Nat.zero_le _) d_B_check_136
set_option maxHeartbeats 4000000 in
set_option maxRecDepth 100000 in
theorem w_B_check_97 {kx : Nat} {rv : Int32} {M' : Mm} (G : Cxt p l s m args meth c (dC, dI) cls6 (tyl dA) "BankTimes" k_B_check 8 (some .int)) (hTS : ThS s) (hI : Is_B dA b N sh B C 0)   : ∀ (x1 x2 x3 x4 x5 : Int32) (M : Mm) (ls : Array Slot), va_P (dC, dI) cls6 (wd b N sh M) s.heap → va_S (reg b N s.heap.size) s.heap s.heap [] → lv_has ls 8 [(0, .ref (b + 0)), (1, .int x1), (2, .int x2), (3, .int x3), (4, .int x4), (5, .int x5)] → B_B_check_97 B C x1 x2 x3 x4 x5 M = some (kx, rv, M') → W p l e rm_B_check s m args below meth c s.heap [] 0 0 (MQT below (Qwt (dC, dI) cls6 b N sh kx rv M' s.heap.size) args s 1 6 (reg b N s.heap.size)) (F0 m 97 ls []) := by
  obtain ⟨⟨hx, hb, hml, hr, hown, hts, hlk, hK⟩, hno, hst⟩ := id G
  intro x1 x2 x3 x4 x5 M ls hP hS hl h
  unfold B_B_check_97 at h
  refine lv_aload_n hx hb d_B_check_97 rfl (lv_at hl 0 rfl) ?_
  refine wd_getr hx hb hts i_B hown hK hP 0 hI.1 hI.2.1 rfl 6 (by decide) t_154 rfl d_B_check_98 ?_
  refine lv_iload_n hx hb d_B_check_101 rfl (lv_at hl 1 rfl) ?_
  obtain ⟨hi102, h⟩ := og h
  refine wd_aald hx hb hK hP 3 3 hI.2.2.2.2.1.1 hI.2.2.2.2.1.2.1 rfl hi102 rfl d_B_check_102 ?_
  refine lv_astore (lv' := [(6, .ref (b + (18 + 21 * x1.toNatClampNeg))), (0, .ref (b + 0)), (1, .int x1), (2, .int x2), (3, .int x3), (4, .int x4), (5, .int x5)]) hx hb d_B_check_103 hl (by decide) rfl (fun ls hl => ?_)
  refine lv_aload hx hb d_B_check_105 (lv_at hl 0 rfl) ?_
  refine lv_iload_n hx hb d_B_check_107 rfl (lv_at hl 3 rfl) ?_
  refine lv_iload_n hx hb d_B_check_108 rfl (lv_at hl 4 rfl) ?_
  refine lv_iload hx hb d_B_check_109 (lv_at hl 5 rfl) ?_
  refine lv_iload hx hb d_B_check_111 (lv_at hl 6 rfl) ?_
  obtain ⟨q113, hc113, h⟩ := obd h
  refine wd_cvr (As := [.int x2, .int x3, .int x4, .int x5]) (rest := []) ⟨hx, hb, hml, hown, hts⟩ hK hP (18 + 21 * x1.toNatClampNeg) (hI.2.2.2.2.1.2.2 x1 hi102).1 (hI.2.2.2.2.1.2.2 x1 hi102).2.1 rfl (c_R_brokenRule l (18 + 21 * x1.toNatClampNeg) x2 x3 x4 x5 M _ (hI.2.2.2.2.1.2.2 x1 hi102) hc113) (cwV 4 hts (wmV t_209 t_211 t_212 t_13 t_210) rfl rfl rfl (by decide +kernel) ⟨by decide, by decide⟩) rfl hl.1 rfl (Nat.le_of_ble_eq_true rfl) d_B_check_113 ⟨Nat.zero_le _, Nat.zero_le _⟩ ?_
  refine lv_istore (lv' := [(7, .int q113), (6, .ref (b + (18 + 21 * x1.toNatClampNeg))), (0, .ref (b + 0)), (1, .int x1), (2, .int x2), (3, .int x3), (4, .int x4), (5, .int x5)]) hx hb d_B_check_116 hl (by decide) rfl (fun ls hl => ?_)
  refine lv_iload hx hb d_B_check_118 (lv_at hl 0 rfl) ?_
  refine lv_if_ne (tgt := 134) hx hb d_B_check_120 (by decide) (fun c120 => ?_) (fun c120 => ?_)
  · replace h := ogf c120 h
    exact w_B_check_134 G hTS hI  q113 M _ _ _ hP hS (lv_sub hl [0] rfl) h
  · replace h := ogt c120 h
    refine lv_aload hx hb d_B_check_123 (lv_at hl 1 rfl) ?_
    refine lv_iload_n hx hb d_B_check_125 rfl (lv_at hl 4 rfl) ?_
    refine lv_iload_n hx hb d_B_check_126 rfl (lv_at hl 5 rfl) ?_
    refine lv_iload hx hb d_B_check_127 (lv_at hl 6 rfl) ?_
    refine lv_iload hx hb d_B_check_129 (lv_at hl 7 rfl) ?_
    obtain ⟨q131, hc131, h⟩ := obd h
    refine wd_cvv (As := [.int x2, .int x3, .int x4, .int x5]) (rest := []) ⟨hx, hb, hml, hown, hts⟩ hK hP hS (18 + 21 * x1.toNatClampNeg) (hI.2.2.2.2.1.2.2 x1 hi102).1 (hI.2.2.2.2.1.2.2 x1 hi102).2.1 rfl (c_R_take l (18 + 21 * x1.toNatClampNeg) x2 x3 x4 x5 M _ (hI.2.2.2.2.1.2.2 x1 hi102) hc131) (cwV 4 hts (wmV t_99 t_101 t_102 t_13 t_100) rfl rfl rfl (by decide +kernel) ⟨by decide, by decide⟩) rfl hl.1 rfl (Nat.le_of_ble_eq_true rfl) d_B_check_131 ⟨Nat.zero_le _, Nat.zero_le _⟩ (fun H locs hP hS => ?_)
    exact w_B_check_134 G hTS hI  q113 q131 _ _ _ hP hS (lv_sub hl [0] rfl) h
set_option maxHeartbeats 4000000 in
set_option maxRecDepth 100000 in
theorem w_B_check_87 {kx : Nat} {rv : Int32} {M' : Mm} (G : Cxt p l s m args meth c (dC, dI) cls6 (tyl dA) "BankTimes" k_B_check 8 (some .int)) (hTS : ThS s) (hI : Is_B dA b N sh B C 0)   : ∀ (M : Mm) (ls : Array Slot), va_P (dC, dI) cls6 (wd b N sh M) s.heap → va_S (reg b N s.heap.size) s.heap s.heap [] → lv_has ls 8 [] → B_B_check_87 B C M = some (kx, rv, M') → W p l e rm_B_check s m args below meth c s.heap [] 0 0 (MQT below (Qwt (dC, dI) cls6 b N sh kx rv M' s.heap.size) args s 1 6 (reg b N s.heap.size)) (F0 m 87 ls []) := by
  obtain ⟨⟨hx, hb, hml, hr, hown, hts, hlk, hK⟩, hno, hst⟩ := id G
  intro M ls hP hS hl h
  unfold B_B_check_87 at h
  obtain ⟨rfl, rfl, rfl⟩ := oe3 h
  obtain ⟨qs, hqs⟩ := hTS.2.2.2.2 (169, "bank and row of a REFRESH are 0") (by decide +kernel)
  obtain ⟨cC, hcC⟩ := cls_of (hts _ t_163)
  exact wd_throw 2 (by decide) hx hb hlk (hml.trans hl.1.symm) hno hst hown (hts _ t_164) (hts _ t_163) (hts _ t_165) hcC hqs (names := ["java/lang/RuntimeException", "java/lang/Exception"]) (by decide +kernel) (by decide +kernel) (own_B_2 hTS) hP (by decide) (by decide) (by decide) (by decide) d_B_check_87 d_B_check_90 d_B_check_91 d_B_check_93 d_B_check_96
set_option maxHeartbeats 4000000 in
set_option maxRecDepth 100000 in
theorem w_B_check_62 {kx : Nat} {rv : Int32} {M' : Mm} (G : Cxt p l s m args meth c (dC, dI) cls6 (tyl dA) "BankTimes" k_B_check 8 (some .int)) (hTS : ThS s) (hI : Is_B dA b N sh B C 0)   : ∀ (M : Mm) (ls : Array Slot), va_P (dC, dI) cls6 (wd b N sh M) s.heap → va_S (reg b N s.heap.size) s.heap s.heap [] → lv_has ls 8 [] → B_B_check_62 B C M = some (kx, rv, M') → W p l e rm_B_check s m args below meth c s.heap [] 0 0 (MQT below (Qwt (dC, dI) cls6 b N sh kx rv M' s.heap.size) args s 1 6 (reg b N s.heap.size)) (F0 m 62 ls []) := by
  obtain ⟨⟨hx, hb, hml, hr, hown, hts, hlk, hK⟩, hno, hst⟩ := id G
  intro M ls hP hS hl h
  unfold B_B_check_62 at h
  obtain ⟨rfl, rfl, rfl⟩ := oe3 h
  obtain ⟨qs, hqs⟩ := hTS.2.2.2.2 (167, "there is no such bank, cycle or row") (by decide +kernel)
  obtain ⟨cC, hcC⟩ := cls_of (hts _ t_163)
  exact wd_throw 2 (by decide) hx hb hlk (hml.trans hl.1.symm) hno hst hown (hts _ t_164) (hts _ t_163) (hts _ t_165) hcC hqs (names := ["java/lang/RuntimeException", "java/lang/Exception"]) (by decide +kernel) (by decide +kernel) (own_B_2 hTS) hP (by decide) (by decide) (by decide) (by decide) d_B_check_62 d_B_check_65 d_B_check_66 d_B_check_68 d_B_check_71
set_option maxHeartbeats 4000000 in
set_option maxRecDepth 100000 in
theorem w_B_check_22 {kx : Nat} {rv : Int32} {M' : Mm} (G : Cxt p l s m args meth c (dC, dI) cls6 (tyl dA) "BankTimes" k_B_check 8 (some .int)) (hTS : ThS s) (hI : Is_B dA b N sh B C 0)   : ∀ (M : Mm) (ls : Array Slot), va_P (dC, dI) cls6 (wd b N sh M) s.heap → va_S (reg b N s.heap.size) s.heap s.heap [] → lv_has ls 8 [] → B_B_check_22 B C M = some (kx, rv, M') → W p l e rm_B_check s m args below meth c s.heap [] 0 0 (MQT below (Qwt (dC, dI) cls6 b N sh kx rv M' s.heap.size) args s 1 6 (reg b N s.heap.size)) (F0 m 22 ls []) := by
  obtain ⟨⟨hx, hb, hml, hr, hown, hts, hlk, hK⟩, hno, hst⟩ := id G
  intro M ls hP hS hl h
  unfold B_B_check_22 at h
  obtain ⟨rfl, rfl, rfl⟩ := oe3 h
  obtain ⟨qs, hqs⟩ := hTS.2.2.2.2 (164, "there is no such channel or kind") (by decide +kernel)
  obtain ⟨cC, hcC⟩ := cls_of (hts _ t_163)
  exact wd_throw 2 (by decide) hx hb hlk (hml.trans hl.1.symm) hno hst hown (hts _ t_164) (hts _ t_163) (hts _ t_165) hcC hqs (names := ["java/lang/RuntimeException", "java/lang/Exception"]) (by decide +kernel) (by decide +kernel) (own_B_2 hTS) hP (by decide) (by decide) (by decide) (by decide) d_B_check_22 d_B_check_25 d_B_check_26 d_B_check_28 d_B_check_31
set_option maxHeartbeats 4000000 in
set_option maxRecDepth 100000 in
theorem w_B_check_0 {kx : Nat} {rv : Int32} {M' : Mm} (G : Cxt p l s m args meth c (dC, dI) cls6 (tyl dA) "BankTimes" k_B_check 8 (some .int)) (hTS : ThS s) (hI : Is_B dA b N sh B C 0)   : ∀ (x1 x2 x3 x4 x5 : Int32) (M : Mm) (ls : Array Slot), va_P (dC, dI) cls6 (wd b N sh M) s.heap → va_S (reg b N s.heap.size) s.heap s.heap [] → lv_has ls 8 [(0, .ref (b + 0)), (1, .int x1), (2, .int x2), (3, .int x3), (4, .int x4), (5, .int x5)] → f_B_check B C x1 x2 x3 x4 x5 M = some (kx, rv, M') → W p l e rm_B_check s m args below meth c s.heap [] 0 0 (MQT below (Qwt (dC, dI) cls6 b N sh kx rv M' s.heap.size) args s 1 6 (reg b N s.heap.size)) (F0 m 0 ls []) := by
  obtain ⟨⟨hx, hb, hml, hr, hown, hts, hlk, hK⟩, hno, hst⟩ := id G
  intro x1 x2 x3 x4 x5 M ls hP hS hl h
  unfold f_B_check at h
  refine lv_iload_n hx hb d_B_check_0 rfl (lv_at hl 1 rfl) ?_
  refine lv_if_lt (tgt := 22) hx hb d_B_check_1 (by decide) (fun c1 => ?_) (fun c1 => ?_)
  · replace h := ogt c1 h
    exact w_B_check_22 G hTS hI  M _ hP hS (lv_sub hl [] rfl) h
  · replace h := ogf c1 h
    refine lv_iload_n hx hb d_B_check_4 rfl (lv_at hl 1 rfl) ?_
    refine lv_aload_n hx hb d_B_check_5 rfl (lv_at hl 0 rfl) ?_
    refine wd_getr hx hb hts i_B hown hK hP 0 hI.1 hI.2.1 rfl 6 (by decide) t_154 rfl d_B_check_6 ?_
    refine wd_ralen hx hb hK hP 3 3 hI.2.2.2.2.1.1 hI.2.2.2.2.1.2.1 rfl d_B_check_9 ?_
    refine lv_icmp_ge (tgt := 22) hx hb d_B_check_10 (by decide) (fun c10 => ?_) (fun c10 => ?_)
    · replace h := ogt c10 h
      exact w_B_check_22 G hTS hI  M _ hP hS (lv_sub hl [] rfl) h
    · replace h := ogf c10 h
      refine lv_iload_n hx hb d_B_check_13 rfl (lv_at hl 3 rfl) ?_
      refine lv_if_lt (tgt := 22) hx hb d_B_check_14 (by decide) (fun c14 => ?_) (fun c14 => ?_)
      · replace h := ogt c14 h
        exact w_B_check_22 G hTS hI  M _ hP hS (lv_sub hl [] rfl) h
      · replace h := ogf c14 h
        refine lv_iload_n hx hb d_B_check_17 rfl (lv_at hl 3 rfl) ?_
        refine lv_iconst (v := 5) hx hb d_B_check_18 (by decide) ?_
        refine lv_icmp_lt (tgt := 32) hx hb d_B_check_19 (by decide) (fun c19 => ?_) (fun c19 => ?_)
        · replace h := ogt c19 h
          refine lv_iload hx hb d_B_check_32 (lv_at hl 4 rfl) ?_
          refine lv_if_lt (tgt := 62) hx hb d_B_check_34 (by decide) (fun c34 => ?_) (fun c34 => ?_)
          · replace h := ogt c34 h
            exact w_B_check_62 G hTS hI  M _ hP hS (lv_sub hl [] rfl) h
          · replace h := ogf c34 h
            refine lv_iload hx hb d_B_check_37 (lv_at hl 4 rfl) ?_
            refine lv_aload_n hx hb d_B_check_39 rfl (lv_at hl 0 rfl) ?_
            refine wd_geti hx hb hts i_B hown hK hP 0 hI.1 hI.2.1 rfl 2 (by decide) t_93 rfl d_B_check_40 ?_
            refine lv_icmp_ge (tgt := 62) hx hb d_B_check_43 (by decide) (fun c43 => ?_) (fun c43 => ?_)
            · replace h := ogt c43 h
              exact w_B_check_62 G hTS hI  M _ hP hS (lv_sub hl [] rfl) h
            · replace h := ogf c43 h
              refine lv_iload_n hx hb d_B_check_46 rfl (lv_at hl 2 rfl) ?_
              refine lv_if_lt (tgt := 62) hx hb d_B_check_47 (by decide) (fun c47 => ?_) (fun c47 => ?_)
              · replace h := ogt c47 h
                exact w_B_check_62 G hTS hI  M _ hP hS (lv_sub hl [] rfl) h
              · replace h := ogf c47 h
                refine lv_iload hx hb d_B_check_50 (lv_at hl 5 rfl) ?_
                refine lv_if_lt (tgt := 62) hx hb d_B_check_52 (by decide) (fun c52 => ?_) (fun c52 => ?_)
                · replace h := ogt c52 h
                  exact w_B_check_62 G hTS hI  M _ hP hS (lv_sub hl [] rfl) h
                · replace h := ogf c52 h
                  refine lv_iload hx hb d_B_check_55 (lv_at hl 5 rfl) ?_
                  refine lv_ldc (v := 65535) hx hb hown (hts _ t_208) d_B_check_57 ?_
                  refine lv_icmp_le (tgt := 72) hx hb d_B_check_59 (by decide) (fun c59 => ?_) (fun c59 => ?_)
                  · replace h := ogt c59 h
                    refine lv_iload_n hx hb d_B_check_72 rfl (lv_at hl 3 rfl) ?_
                    refine lv_iconst (v := 4) hx hb d_B_check_73 (by decide) ?_
                    refine lv_icmp_ne (tgt := 97) hx hb d_B_check_74 (by decide) (fun c74 => ?_) (fun c74 => ?_)
                    · replace h := ogf c74 h
                      exact w_B_check_97 G hTS hI  x1 x2 x3 x4 x5 M _ hP hS (lv_sub hl [0, 1, 2, 3, 4, 5] rfl) h
                    · replace h := ogt c74 h
                      refine lv_iload hx hb d_B_check_77 (lv_at hl 4 rfl) ?_
                      refine lv_if_ne (tgt := 87) hx hb d_B_check_79 (by decide) (fun c79 => ?_) (fun c79 => ?_)
                      · replace h := ogf c79 h
                        exact w_B_check_87 G hTS hI  M _ hP hS (lv_sub hl [] rfl) h
                      · replace h := ogt c79 h
                        refine lv_iload hx hb d_B_check_82 (lv_at hl 5 rfl) ?_
                        refine lv_if_eq (tgt := 97) hx hb d_B_check_84 (by decide) (fun c84 => ?_) (fun c84 => ?_)
                        · replace h := ogt c84 h
                          exact w_B_check_97 G hTS hI  x1 x2 x3 x4 x5 M _ hP hS (lv_sub hl [0, 1, 2, 3, 4, 5] rfl) h
                        · replace h := ogf c84 h
                          exact w_B_check_87 G hTS hI  M _ hP hS (lv_sub hl [] rfl) h
                  · replace h := ogf c59 h
                    exact w_B_check_62 G hTS hI  M _ hP hS (lv_sub hl [] rfl) h
        · replace h := ogf c19 h
          exact w_B_check_22 G hTS hI  M _ hP hS (lv_sub hl [] rfl) h
theorem c_B_check (l : Launch) (x1 x2 x3 x4 x5 : Int32) (M : Mm) (sz : Nat) (hI : Is_B dA b N sh B C 0) {kx : Nat} {rv : Int32} {M' : Mm} (hlt : l.stackTraces = false) (h : f_B_check B C x1 x2 x3 x4 x5 M = some (kx, rv, M')) : MetT l y_B_check (wm y_B_check k_B_check 8 (some .int)) rm_B_check (PwT (dC, dI) cls6 (tyl dA) b N sh [.ref (b + 0), .int x1, .int x2, .int x3, .int x4, .int x5] M sz) (Qwt (dC, dI) cls6 b N sh kx rv M' sz) 1 6 (reg b N sz) := by
  refine mk_metT (by decide) (Nat.le_of_ble_eq_true rfl) hlt ?_
  intro p e s m below meth c ls G hsz hTS hP hS hl
  subst hsz
  exact w_B_check_0 G hTS hI _ _ _ _ _ _ ls hP hS hl h
end
