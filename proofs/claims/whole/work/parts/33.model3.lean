abbrev rm_D_refresh : Room := { frames := 2, cells := 0, slots := 0, locals := 52 }
def B_D_refresh_96 (B C : Nat) (K41 : Int32 → Int32 → Mm → Option (Mm)) (x1 x2 : Int32) (M : Mm) : Option (Mm) := bnd (x2 + 1) (fun v96 => K41 x1 v96 M)
def B_D_refresh_41 (B C : Nat) : Nat → Int32 → Int32 → Mm → Option (Mm)
  | 0, _, _, _ => none
  | n + 1, x1, x2, M => (if (M 0 2) ≤ x2 then some M else (if ixb ((8 * x1) + x2) 32 = true then (if (M 2 ((8 * x1) + x2).toNatClampNeg) < 0 then B_D_refresh_96 B C (fun y0 y1 M => B_D_refresh_41 B C n y0 y1 M) x1 x2 M else (f_D_broken B C x1 3 x2 (M 0 5) M).bind (fun q71 => (if 0 ≤ q71 then B_D_refresh_96 B C (fun y0 y1 M => B_D_refresh_41 B C n y0 y1 M) x1 x2 M else (if ixb ((8 * x1) + x2) 32 = true then (f_D_give B C x1 3 x2 (M 2 ((8 * x1) + x2).toNatClampNeg) M).bind (fun q92 => some q92) else none)))) else none))
def f_D_refresh (B C : Nat) (x1 : Int32) (M : Mm) : Option (Mm) := (f_D_anyOpen B C x1 M).bind (fun q2 => (if q2 = 0 then (f_D_broken B C x1 4 0 (M 0 5) M).bind (fun q16 => (if q16 < 0 then (f_D_give B C x1 4 0 0 M).bind (fun q28 => (if ixb x1 2 = true then bnd (up2 q28 12 x1.toNatClampNeg 0) (fun M37 => some M37) else none)) else some M)) else B_D_refresh_41 B C 1200 x1 0 M))
section
variable {p : Program} {l : Launch} {e : Env} {s : State} {m : MethodId} {args : Array Value} {below : List Frame} {meth : Method} {c : Code} {dC : Nat → ClassId} {dI : Nat → Nat → Nat} {dA : Nat → ClassId} {b N B C : Nat} {sh : Shp}
set_option maxHeartbeats 4000000 in
set_option maxRecDepth 100000 in
theorem w_D_refresh_96 {M' : Mm} (G : Cx p s m args meth c (dC, dI) cls6 (tyl dA) "BankTimesModel" k_D_refresh 3 none) (hI : Is_D dA b N sh B C 0)  {K41 : Int32 → Int32 → Mm → Option (Mm)} (hK41 : ∀ (x1 x2 : Int32) (M : Mm) (ls : Array Slot), va_P (dC, dI) cls6 (wd b N sh M) s.heap → va_S (reg b N s.heap.size) s.heap s.heap [] → lv_has ls 3 [(0, .ref (b + 0)), (1, .int x1), (2, .int x2)] → K41 x1 x2 M = some M' → W p l e rm_D_refresh s m args below meth c s.heap [] 0 0 (MQ below (Qwv (dC, dI) cls6 b N sh M' s.heap.size) args s 0 0 (reg b N s.heap.size)) (F0 m 41 ls []))  : ∀ (x1 x2 : Int32) (M : Mm) (ls : Array Slot), va_P (dC, dI) cls6 (wd b N sh M) s.heap → va_S (reg b N s.heap.size) s.heap s.heap [] → lv_has ls 3 [(0, .ref (b + 0)), (1, .int x1), (2, .int x2)] → B_D_refresh_96 B C K41 x1 x2 M = some M' → W p l e rm_D_refresh s m args below meth c s.heap [] 0 0 (MQ below (Qwv (dC, dI) cls6 b N sh M' s.heap.size) args s 0 0 (reg b N s.heap.size)) (F0 m 96 ls []) := by
  obtain ⟨hx, hb, hml, hr, hown, hts, hlk, hK⟩ := id G
  intro x1 x2 M ls hP hS hl h
  unfold B_D_refresh_96 at h
  obtain ⟨v96, e96, h⟩ := ln h
  refine lv_iinc (v := v96) (lv' := [(2, .int v96), (0, .ref (b + 0)), (1, .int x1)]) hx hb d_D_refresh_96 hl (k := 2) rfl (by rw [e96]; rfl) (by decide) rfl (fun ls hl => ?_)
  refine lv_goto (tgt := 41) hx hb d_D_refresh_99 (by decide) ?_
  exact hK41 x1 v96 M _ hP hS (lv_sub hl [1, 2, 0] rfl) h
set_option maxHeartbeats 4000000 in
set_option maxRecDepth 100000 in
theorem w_D_refresh_41 {M' : Mm} (G : Cx p s m args meth c (dC, dI) cls6 (tyl dA) "BankTimesModel" k_D_refresh 3 none) (hI : Is_D dA b N sh B C 0)   : ∀ (n : Nat) (x1 x2 : Int32) (M : Mm) (ls : Array Slot), va_P (dC, dI) cls6 (wd b N sh M) s.heap → va_S (reg b N s.heap.size) s.heap s.heap [] → lv_has ls 3 [(0, .ref (b + 0)), (1, .int x1), (2, .int x2)] → B_D_refresh_41 B C n x1 x2 M = some M' → W p l e rm_D_refresh s m args below meth c s.heap [] 0 0 (MQ below (Qwv (dC, dI) cls6 b N sh M' s.heap.size) args s 0 0 (reg b N s.heap.size)) (F0 m 41 ls []) := by
  obtain ⟨hx, hb, hml, hr, hown, hts, hlk, hK⟩ := id G
  intro n
  induction n with
  | zero =>
    intro x1 x2 M ls hP hS hl h
    cases h
  | succ n ih =>
    intro x1 x2 M ls hP hS hl h
    rw [B_D_refresh_41] at h
    refine lv_iload_n hx hb d_D_refresh_41 rfl (lv_at hl 2 rfl) ?_
    refine lv_aload_n hx hb d_D_refresh_42 rfl (lv_at hl 0 rfl) ?_
    refine wd_geti hx hb hts i_D hown hK hP 0 hI.1 hI.2.1 rfl 2 (by decide) t_231 rfl d_D_refresh_43 ?_
    refine lv_icmp_ge (tgt := 102) hx hb d_D_refresh_46 (by decide) (fun c46 => ?_) (fun c46 => ?_)
    · replace h := ogt c46 h
      obtain rfl := oe h
      exact wd_vret hx hb hr hlk hP hS d_D_refresh_102
    · replace h := ogf c46 h
      refine lv_aload_n hx hb d_D_refresh_49 rfl (lv_at hl 0 rfl) ?_
      refine wd_getr hx hb hts i_D hown hK hP 0 hI.1 hI.2.1 rfl 8 (by decide) t_220 rfl d_D_refresh_50 ?_
      refine lv_bipush (v := 8) hx hb d_D_refresh_53 (by decide) ?_
      refine lv_iload_n hx hb d_D_refresh_55 rfl (lv_at hl 1 rfl) ?_
      refine lv_imul hx hb d_D_refresh_56 ?_
      refine lv_iload_n hx hb d_D_refresh_57 rfl (lv_at hl 2 rfl) ?_
      refine lv_iadd hx hb d_D_refresh_58 ?_
      obtain ⟨hi59, h⟩ := og h
      refine wd_iald hx hb hK hP 2 0 hI.2.2.2.1.1 hI.2.2.2.1.2 rfl hi59 d_D_refresh_59 ?_
      refine lv_if_lt (tgt := 96) hx hb d_D_refresh_60 (by decide) (fun c60 => ?_) (fun c60 => ?_)
      · replace h := ogt c60 h
        exact w_D_refresh_96 G hI ih  x1 x2 M _ hP hS (lv_sub hl [0, 1, 2] rfl) h
      · replace h := ogf c60 h
        refine lv_aload_n hx hb d_D_refresh_63 rfl (lv_at hl 0 rfl) ?_
        refine lv_iload_n hx hb d_D_refresh_64 rfl (lv_at hl 1 rfl) ?_
        refine lv_iconst (v := 3) hx hb d_D_refresh_65 (by decide) ?_
        refine lv_iload_n hx hb d_D_refresh_66 rfl (lv_at hl 2 rfl) ?_
        refine lv_aload_n hx hb d_D_refresh_67 rfl (lv_at hl 0 rfl) ?_
        refine wd_geti hx hb hts i_D hown hK hP 0 hI.1 hI.2.1 rfl 5 (by decide) t_272 rfl d_D_refresh_68 ?_
        obtain ⟨q71, hc71, h⟩ := obd h
        refine wd_cvr (As := [.int x1, .int 3, .int x2, .int (M 0 5)]) (rest := []) ⟨hx, hb, hml, hown, hts⟩ hK hP 0 hI.1 hI.2.1 rfl (c_D_broken l x1 3 x2 (M 0 5) M _ hI hc71) (cwV 4 hts (wmV t_288 t_290 t_291 t_229 t_289) rfl rfl rfl (by decide +kernel) ⟨by decide, by decide⟩) rfl hl.1 rfl (Nat.le_of_ble_eq_true rfl) d_D_refresh_71 ⟨Nat.zero_le _, Nat.zero_le _⟩ ?_
        refine lv_if_ge (tgt := 96) hx hb d_D_refresh_74 (by decide) (fun c74 => ?_) (fun c74 => ?_)
        · replace h := ogt c74 h
          exact w_D_refresh_96 G hI ih  x1 x2 M _ hP hS (lv_sub hl [0, 1, 2] rfl) h
        · replace h := ogf c74 h
          refine lv_aload_n hx hb d_D_refresh_77 rfl (lv_at hl 0 rfl) ?_
          refine lv_iload_n hx hb d_D_refresh_78 rfl (lv_at hl 1 rfl) ?_
          refine lv_iconst (v := 3) hx hb d_D_refresh_79 (by decide) ?_
          refine lv_iload_n hx hb d_D_refresh_80 rfl (lv_at hl 2 rfl) ?_
          refine lv_aload_n hx hb d_D_refresh_81 rfl (lv_at hl 0 rfl) ?_
          refine wd_getr hx hb hts i_D hown hK hP 0 hI.1 hI.2.1 rfl 8 (by decide) t_220 rfl d_D_refresh_82 ?_
          refine lv_bipush (v := 8) hx hb d_D_refresh_85 (by decide) ?_
          refine lv_iload_n hx hb d_D_refresh_87 rfl (lv_at hl 1 rfl) ?_
          refine lv_imul hx hb d_D_refresh_88 ?_
          refine lv_iload_n hx hb d_D_refresh_89 rfl (lv_at hl 2 rfl) ?_
          refine lv_iadd hx hb d_D_refresh_90 ?_
          obtain ⟨hi91, h⟩ := og h
          refine wd_iald hx hb hK hP 2 0 hI.2.2.2.1.1 hI.2.2.2.1.2 rfl hi91 d_D_refresh_91 ?_
          obtain ⟨q92, hc92, h⟩ := obd h
          refine wd_cvv (As := [.int x1, .int 3, .int x2, .int (M 2 ((8 * x1) + x2).toNatClampNeg)]) (rest := []) ⟨hx, hb, hml, hown, hts⟩ hK hP hS 0 hI.1 hI.2.1 rfl (c_D_give l x1 3 x2 (M 2 ((8 * x1) + x2).toNatClampNeg) M _ hI hc92) (cwV 4 hts (wmV t_322 t_324 t_325 t_229 t_323) rfl rfl rfl (by decide +kernel) ⟨by decide, by decide⟩) rfl hl.1 rfl (Nat.le_of_ble_eq_true rfl) d_D_refresh_92 ⟨Nat.zero_le _, Nat.zero_le _⟩ (fun H locs hP hS => ?_)
          obtain rfl := oe h
          exact wd_vret hx hb hr hlk hP hS d_D_refresh_95
set_option maxHeartbeats 4000000 in
set_option maxRecDepth 100000 in
theorem w_D_refresh_0 {M' : Mm} (G : Cx p s m args meth c (dC, dI) cls6 (tyl dA) "BankTimesModel" k_D_refresh 3 none) (hI : Is_D dA b N sh B C 0)   : ∀ (x1 : Int32) (M : Mm) (ls : Array Slot), va_P (dC, dI) cls6 (wd b N sh M) s.heap → va_S (reg b N s.heap.size) s.heap s.heap [] → lv_has ls 3 [(0, .ref (b + 0)), (1, .int x1)] → f_D_refresh B C x1 M = some M' → W p l e rm_D_refresh s m args below meth c s.heap [] 0 0 (MQ below (Qwv (dC, dI) cls6 b N sh M' s.heap.size) args s 0 0 (reg b N s.heap.size)) (F0 m 0 ls []) := by
  obtain ⟨hx, hb, hml, hr, hown, hts, hlk, hK⟩ := id G
  intro x1 M ls hP hS hl h
  unfold f_D_refresh at h
  refine lv_aload_n hx hb d_D_refresh_0 rfl (lv_at hl 0 rfl) ?_
  refine lv_iload_n hx hb d_D_refresh_1 rfl (lv_at hl 1 rfl) ?_
  obtain ⟨q2, hc2, h⟩ := obd h
  refine wd_cvr (As := [.int x1]) (rest := []) ⟨hx, hb, hml, hown, hts⟩ hK hP 0 hI.1 hI.2.1 rfl (c_D_anyOpen l x1 M _ hI hc2) (cwV 1 hts (wmV t_233 t_235 t_236 t_229 t_234) rfl rfl rfl (by decide +kernel) ⟨by decide, by decide⟩) rfl hl.1 rfl (Nat.le_of_ble_eq_true rfl) d_D_refresh_2 ⟨Nat.zero_le _, Nat.zero_le _⟩ ?_
  refine lv_if_ne (tgt := 39) hx hb d_D_refresh_5 (by decide) (fun c5 => ?_) (fun c5 => ?_)
  · replace h := ogf c5 h
    refine lv_iconst (v := 0) hx hb d_D_refresh_39 (by decide) ?_
    refine lv_istore_n (lv' := [(2, .int 0), (0, .ref (b + 0)), (1, .int x1)]) hx hb d_D_refresh_40 rfl hl (by decide) rfl (fun ls hl => ?_)
    exact w_D_refresh_41 G hI  1200 x1 0 M _ hP hS (lv_sub hl [1, 2, 0] rfl) h
  · replace h := ogt c5 h
    refine lv_aload_n hx hb d_D_refresh_8 rfl (lv_at hl 0 rfl) ?_
    refine lv_iload_n hx hb d_D_refresh_9 rfl (lv_at hl 1 rfl) ?_
    refine lv_iconst (v := 4) hx hb d_D_refresh_10 (by decide) ?_
    refine lv_iconst (v := 0) hx hb d_D_refresh_11 (by decide) ?_
    refine lv_aload_n hx hb d_D_refresh_12 rfl (lv_at hl 0 rfl) ?_
    refine wd_geti hx hb hts i_D hown hK hP 0 hI.1 hI.2.1 rfl 5 (by decide) t_272 rfl d_D_refresh_13 ?_
    obtain ⟨q16, hc16, h⟩ := obd h
    refine wd_cvr (As := [.int x1, .int 4, .int 0, .int (M 0 5)]) (rest := []) ⟨hx, hb, hml, hown, hts⟩ hK hP 0 hI.1 hI.2.1 rfl (c_D_broken l x1 4 0 (M 0 5) M _ hI hc16) (cwV 4 hts (wmV t_288 t_290 t_291 t_229 t_289) rfl rfl rfl (by decide +kernel) ⟨by decide, by decide⟩) rfl hl.1 rfl (Nat.le_of_ble_eq_true rfl) d_D_refresh_16 ⟨Nat.zero_le _, Nat.zero_le _⟩ ?_
    refine lv_if_lt (tgt := 23) hx hb d_D_refresh_19 (by decide) (fun c19 => ?_) (fun c19 => ?_)
    · replace h := ogt c19 h
      refine lv_aload_n hx hb d_D_refresh_23 rfl (lv_at hl 0 rfl) ?_
      refine lv_iload_n hx hb d_D_refresh_24 rfl (lv_at hl 1 rfl) ?_
      refine lv_iconst (v := 4) hx hb d_D_refresh_25 (by decide) ?_
      refine lv_iconst (v := 0) hx hb d_D_refresh_26 (by decide) ?_
      refine lv_iconst (v := 0) hx hb d_D_refresh_27 (by decide) ?_
      obtain ⟨q28, hc28, h⟩ := obd h
      refine wd_cvv (As := [.int x1, .int 4, .int 0, .int 0]) (rest := []) ⟨hx, hb, hml, hown, hts⟩ hK hP hS 0 hI.1 hI.2.1 rfl (c_D_give l x1 4 0 0 M _ hI hc28) (cwV 4 hts (wmV t_322 t_324 t_325 t_229 t_323) rfl rfl rfl (by decide +kernel) ⟨by decide, by decide⟩) rfl hl.1 rfl (Nat.le_of_ble_eq_true rfl) d_D_refresh_28 ⟨Nat.zero_le _, Nat.zero_le _⟩ (fun H locs hP hS => ?_)
      refine lv_aload_n hx hb d_D_refresh_31 rfl (lv_at hl 0 rfl) ?_
      refine wd_getr hx hb hts i_D hown hK hP 0 hI.1 hI.2.1 rfl 18 (by decide) t_326 rfl d_D_refresh_32 ?_
      refine lv_iload_n hx hb d_D_refresh_35 rfl (lv_at hl 1 rfl) ?_
      refine lv_iconst (v := 0) hx hb d_D_refresh_36 (by decide) ?_
      obtain ⟨hi37, h⟩ := og h
      obtain ⟨M37, eM37, h⟩ := ln h
      refine wd_zast hx hb hK hP hS 12 1 hI.2.2.2.2.2.2.2.2.2.2.2.2.2.1.1 hI.2.2.2.2.2.2.2.2.2.2.2.2.2.1.2 rfl rfl hi37 d_D_refresh_37 (fun H locs hP hS => ?_)
      rw [← eM37] at hP
      obtain rfl := oe h
      exact wd_vret hx hb hr hlk hP hS d_D_refresh_38
    · replace h := ogf c19 h
      obtain rfl := oe h
      exact wd_vret hx hb hr hlk hP hS d_D_refresh_22
theorem c_D_refresh (l : Launch) (x1 : Int32) (M : Mm) (sz : Nat) (hI : Is_D dA b N sh B C 0) {M' : Mm} (h : f_D_refresh B C x1 M = some M') : Met l y_D_refresh (wm y_D_refresh k_D_refresh 3 none) rm_D_refresh (Pw (dC, dI) cls6 (tyl dA) b N sh [.ref (b + 0), .int x1] M sz) (Qwv (dC, dI) cls6 b N sh M' sz) 0 0 (reg b N sz) := by
  refine mk_met (by decide) (Nat.le_of_ble_eq_true rfl) ?_
  intro p e s m below meth c ls G hsz hP hS hl
  subst hsz
  exact w_D_refresh_0 G hI _ _ ls hP hS hl h
end
abbrev rm_D_serve : Room := { frames := 7, cells := 0, slots := 0, locals := 160 }
def B_D_serve_86 (B C : Nat) (x2 : Int32) (M : Mm) : Option (Mm) := (if ixb x2 600 = true then bnd (up2 M 17 x2.toNatClampNeg (M 0 5)) (fun M95 => bnd (up2 M95 0 21 ((M95 0 21) + 1)) (fun M103 => (if ixb x2 600 = true then bnd (up2 M103 0 22 ((M103 0 22) + ((M103 0 5) - (M103 16 x2.toNatClampNeg)))) (fun M123 => some M123) else none))) else none)
def B_D_serve_64 (B C : Nat) (x1 x2 x3 x4 s1 s2 s3 s4 : Int32) (M : Mm) : Option (Mm) := (f_D_give B C s1 s2 s3 s4 M).bind (fun q64 => (if ixb x1 2 = true then bnd (up2 q64 13 x1.toNatClampNeg x3) (fun M73 => (if x4 = 1 then B_D_serve_86 B C x2 M73 else (if x4 = 2 then B_D_serve_86 B C x2 M73 else some M73))) else none))
def f_D_serve (B C : Nat) (x1 : Int32) (M : Mm) : Option (Mm) := (f_D_named B C x1 M).bind (fun q2 => (if 0 ≤ q2 then (if ixb q2 600 = true then (f_D_bankOf B C (M 14 q2.toNatClampNeg) M).bind (fun q18 => (f_D_nextOf B C q2 M).bind (fun q24 => (if q24 = 3 then (if ixb ((8 * x1) + q18) 32 = true then B_D_serve_64 B C x1 q2 q18 q24 x1 q24 q18 (M 2 ((8 * x1) + q18).toNatClampNeg) M else none) else (if ixb q2 600 = true then (f_D_rowOf B C (M 14 q2.toNatClampNeg) M).bind (fun q61 => B_D_serve_64 B C x1 q2 q18 q24 x1 q24 q18 q61 M) else none)))) else none) else some M))
section
variable {p : Program} {l : Launch} {e : Env} {s : State} {m : MethodId} {args : Array Value} {below : List Frame} {meth : Method} {c : Code} {dC : Nat → ClassId} {dI : Nat → Nat → Nat} {dA : Nat → ClassId} {b N B C : Nat} {sh : Shp}
set_option maxHeartbeats 4000000 in
set_option maxRecDepth 100000 in
theorem w_D_serve_86 {M' : Mm} (G : Cx p s m args meth c (dC, dI) cls6 (tyl dA) "BankTimesModel" k_D_serve 5 none) (hI : Is_D dA b N sh B C 0)   : ∀ (x2 : Int32) (M : Mm) (H : Heap) (locs : List Loc) (ls : Array Slot), va_P (dC, dI) cls6 (wd b N sh M) H → va_S (reg b N s.heap.size) s.heap H locs → lv_has ls 5 [(0, .ref (b + 0)), (2, .int x2)] → B_D_serve_86 B C x2 M = some M' → W p l e rm_D_serve s m args below meth c H locs 0 0 (MQ below (Qwv (dC, dI) cls6 b N sh M' s.heap.size) args s 0 0 (reg b N s.heap.size)) (F0 m 86 ls []) := by
  obtain ⟨hx, hb, hml, hr, hown, hts, hlk, hK⟩ := id G
  intro x2 M H locs ls hP hS hl h
  unfold B_D_serve_86 at h
  refine lv_aload_n hx hb d_D_serve_86 rfl (lv_at hl 0 rfl) ?_
  refine wd_getr hx hb hts i_D hown hK hP 0 hI.1 hI.2.1 rfl 26 (by decide) t_243 rfl d_D_serve_87 ?_
  refine lv_iload_n hx hb d_D_serve_90 rfl (lv_at hl 1 rfl) ?_
  refine lv_aload_n hx hb d_D_serve_91 rfl (lv_at hl 0 rfl) ?_
  refine wd_geti hx hb hts i_D hown hK hP 0 hI.1 hI.2.1 rfl 5 (by decide) t_272 rfl d_D_serve_92 ?_
  obtain ⟨hi95, h⟩ := og h
  obtain ⟨M95, eM95, h⟩ := ln h
  refine wd_iast hx hb hK hP hS 17 0 hI.2.2.2.2.2.2.2.2.2.2.2.2.2.2.2.2.2.2.1.1 hI.2.2.2.2.2.2.2.2.2.2.2.2.2.2.2.2.2.2.1.2 rfl hi95 d_D_serve_95 (fun H locs hP hS => ?_)
  rw [← eM95] at hP
  refine lv_aload_n hx hb d_D_serve_96 rfl (lv_at hl 0 rfl) ?_
  refine lv_dup hx hb d_D_serve_97 rfl ?_
  refine wd_geti hx hb hts i_D hown hK hP 0 hI.1 hI.2.1 rfl 21 (by decide) t_331 rfl d_D_serve_98 ?_
  refine lv_iconst (v := 1) hx hb d_D_serve_101 (by decide) ?_
  refine lv_iadd hx hb d_D_serve_102 ?_
  obtain ⟨M103, eM103, h⟩ := ln h
  refine wd_puti hx hb hts i_D ty_D tyok_D nm_D hown hK hP hS 0 hI.1 hI.2.1 rfl 21 (by decide) t_331 rfl rfl (ty := .int) (by decide +kernel) rfl rfl d_D_serve_103 (fun H locs hP hS => ?_)
  rw [← eM103] at hP
  refine lv_aload_n hx hb d_D_serve_106 rfl (lv_at hl 0 rfl) ?_
  refine lv_dup hx hb d_D_serve_107 rfl ?_
  refine wd_geti hx hb hts i_D hown hK hP 0 hI.1 hI.2.1 rfl 22 (by decide) t_332 rfl d_D_serve_108 ?_
  refine lv_aload_n hx hb d_D_serve_111 rfl (lv_at hl 0 rfl) ?_
  refine wd_geti hx hb hts i_D hown hK hP 0 hI.1 hI.2.1 rfl 5 (by decide) t_272 rfl d_D_serve_112 ?_
  refine lv_aload_n hx hb d_D_serve_115 rfl (lv_at hl 0 rfl) ?_
  refine wd_getr hx hb hts i_D hown hK hP 0 hI.1 hI.2.1 rfl 25 (by decide) t_271 rfl d_D_serve_116 ?_
  refine lv_iload_n hx hb d_D_serve_119 rfl (lv_at hl 1 rfl) ?_
  obtain ⟨hi120, h⟩ := og h
  refine wd_iald hx hb hK hP 16 0 hI.2.2.2.2.2.2.2.2.2.2.2.2.2.2.2.2.2.1.1 hI.2.2.2.2.2.2.2.2.2.2.2.2.2.2.2.2.2.1.2 rfl hi120 d_D_serve_120 ?_
  refine lv_isub hx hb d_D_serve_121 ?_
  refine lv_iadd hx hb d_D_serve_122 ?_
  obtain ⟨M123, eM123, h⟩ := ln h
  refine wd_puti hx hb hts i_D ty_D tyok_D nm_D hown hK hP hS 0 hI.1 hI.2.1 rfl 22 (by decide) t_332 rfl rfl (ty := .int) (by decide +kernel) rfl rfl d_D_serve_123 (fun H locs hP hS => ?_)
  rw [← eM123] at hP
  obtain rfl := oe h
  exact wd_vret hx hb hr hlk hP hS d_D_serve_126
set_option maxHeartbeats 4000000 in
set_option maxRecDepth 100000 in
theorem w_D_serve_64 {M' : Mm} (G : Cx p s m args meth c (dC, dI) cls6 (tyl dA) "BankTimesModel" k_D_serve 5 none) (hI : Is_D dA b N sh B C 0)   : ∀ (x1 x2 x3 x4 s1 s2 s3 s4 : Int32) (M : Mm) (ls : Array Slot), va_P (dC, dI) cls6 (wd b N sh M) s.heap → va_S (reg b N s.heap.size) s.heap s.heap [] → lv_has ls 5 [(0, .ref (b + 0)), (1, .int x1), (2, .int x2), (3, .int x3), (4, .int x4)] → B_D_serve_64 B C x1 x2 x3 x4 s1 s2 s3 s4 M = some M' → W p l e rm_D_serve s m args below meth c s.heap [] 0 0 (MQ below (Qwv (dC, dI) cls6 b N sh M' s.heap.size) args s 0 0 (reg b N s.heap.size)) (F0 m 64 ls [.int s4, .int s3, .int s2, .int s1, .ref (b + 0)]) := by
  obtain ⟨hx, hb, hml, hr, hown, hts, hlk, hK⟩ := id G
  intro x1 x2 x3 x4 s1 s2 s3 s4 M ls hP hS hl h
  unfold B_D_serve_64 at h
  obtain ⟨q64, hc64, h⟩ := obd h
  refine wd_cvv (As := [.int s1, .int s2, .int s3, .int s4]) (rest := []) ⟨hx, hb, hml, hown, hts⟩ hK hP hS 0 hI.1 hI.2.1 rfl (c_D_give l s1 s2 s3 s4 M _ hI hc64) (cwV 4 hts (wmV t_322 t_324 t_325 t_229 t_323) rfl rfl rfl (by decide +kernel) ⟨by decide, by decide⟩) rfl hl.1 rfl (Nat.le_of_ble_eq_true rfl) d_D_serve_64 ⟨Nat.zero_le _, Nat.zero_le _⟩ (fun H locs hP hS => ?_)
  refine lv_aload_n hx hb d_D_serve_67 rfl (lv_at hl 0 rfl) ?_
  refine wd_getr hx hb hts i_D hown hK hP 0 hI.1 hI.2.1 rfl 19 (by decide) t_312 rfl d_D_serve_68 ?_
  refine lv_iload_n hx hb d_D_serve_71 rfl (lv_at hl 1 rfl) ?_
  refine lv_iload_n hx hb d_D_serve_72 rfl (lv_at hl 3 rfl) ?_
  obtain ⟨hi73, h⟩ := og h
  obtain ⟨M73, eM73, h⟩ := ln h
  refine wd_iast hx hb hK hP hS 13 0 hI.2.2.2.2.2.2.2.2.2.2.2.2.2.2.1.1 hI.2.2.2.2.2.2.2.2.2.2.2.2.2.2.1.2 rfl hi73 d_D_serve_73 (fun H locs hP hS => ?_)
  rw [← eM73] at hP
  refine lv_iload hx hb d_D_serve_74 (lv_at hl 4 rfl) ?_
  refine lv_iconst (v := 1) hx hb d_D_serve_76 (by decide) ?_
  refine lv_icmp_eq (tgt := 86) hx hb d_D_serve_77 (by decide) (fun c77 => ?_) (fun c77 => ?_)
  · replace h := ogt c77 h
    exact w_D_serve_86 G hI  x2 M73 _ _ _ hP hS (lv_sub hl [0, 2] rfl) h
  · replace h := ogf c77 h
    refine lv_iload hx hb d_D_serve_80 (lv_at hl 4 rfl) ?_
    refine lv_iconst (v := 2) hx hb d_D_serve_82 (by decide) ?_
    refine lv_icmp_ne (tgt := 126) hx hb d_D_serve_83 (by decide) (fun c83 => ?_) (fun c83 => ?_)
    · replace h := ogf c83 h
      obtain rfl := oe h
      exact wd_vret hx hb hr hlk hP hS d_D_serve_126
    · replace h := ogt c83 h
      exact w_D_serve_86 G hI  x2 M73 _ _ _ hP hS (lv_sub hl [0, 2] rfl) h
set_option maxHeartbeats 4000000 in
set_option maxRecDepth 100000 in
theorem w_D_serve_0 {M' : Mm} (G : Cx p s m args meth c (dC, dI) cls6 (tyl dA) "BankTimesModel" k_D_serve 5 none) (hI : Is_D dA b N sh B C 0)   : ∀ (x1 : Int32) (M : Mm) (ls : Array Slot), va_P (dC, dI) cls6 (wd b N sh M) s.heap → va_S (reg b N s.heap.size) s.heap s.heap [] → lv_has ls 5 [(0, .ref (b + 0)), (1, .int x1)] → f_D_serve B C x1 M = some M' → W p l e rm_D_serve s m args below meth c s.heap [] 0 0 (MQ below (Qwv (dC, dI) cls6 b N sh M' s.heap.size) args s 0 0 (reg b N s.heap.size)) (F0 m 0 ls []) := by
  obtain ⟨hx, hb, hml, hr, hown, hts, hlk, hK⟩ := id G
  intro x1 M ls hP hS hl h
  unfold f_D_serve at h
  refine lv_aload_n hx hb d_D_serve_0 rfl (lv_at hl 0 rfl) ?_
  refine lv_iload_n hx hb d_D_serve_1 rfl (lv_at hl 1 rfl) ?_
  obtain ⟨q2, hc2, h⟩ := obd h
  refine wd_cvr (As := [.int x1]) (rest := []) ⟨hx, hb, hml, hown, hts⟩ hK hP 0 hI.1 hI.2.1 rfl (c_D_named l x1 M _ hI hc2) (cwV 1 hts (wmV t_327 t_329 t_330 t_229 t_328) rfl rfl rfl (by decide +kernel) ⟨by decide, by decide⟩) rfl hl.1 rfl (Nat.le_of_ble_eq_true rfl) d_D_serve_2 ⟨Nat.zero_le _, Nat.zero_le _⟩ ?_
  refine lv_istore_n (lv' := [(2, .int q2), (0, .ref (b + 0)), (1, .int x1)]) hx hb d_D_serve_5 rfl hl (by decide) rfl (fun ls hl => ?_)
  refine lv_iload_n hx hb d_D_serve_6 rfl (lv_at hl 0 rfl) ?_
  refine lv_if_ge (tgt := 11) hx hb d_D_serve_7 (by decide) (fun c7 => ?_) (fun c7 => ?_)
  · replace h := ogt c7 h
    refine lv_aload_n hx hb d_D_serve_11 rfl (lv_at hl 1 rfl) ?_
    refine lv_aload_n hx hb d_D_serve_12 rfl (lv_at hl 1 rfl) ?_
    refine wd_getr hx hb hts i_D hown hK hP 0 hI.1 hI.2.1 rfl 23 (by decide) t_244 rfl d_D_serve_13 ?_
    refine lv_iload_n hx hb d_D_serve_16 rfl (lv_at hl 0 rfl) ?_
    obtain ⟨hi17, h⟩ := og h
    refine wd_iald hx hb hK hP 14 0 hI.2.2.2.2.2.2.2.2.2.2.2.2.2.2.2.1.1 hI.2.2.2.2.2.2.2.2.2.2.2.2.2.2.2.1.2 rfl hi17 d_D_serve_17 ?_
    obtain ⟨q18, hc18, h⟩ := obd h
    refine wd_cvr (As := [.int (M 14 q2.toNatClampNeg)]) (rest := []) ⟨hx, hb, hml, hown, hts⟩ hK hP 0 hI.1 hI.2.1 rfl (c_D_bankOf l (M 14 q2.toNatClampNeg) M _ hI hc18) (cwV 1 hts (wmV t_261 t_263 t_264 t_229 t_262) rfl rfl rfl (by decide +kernel) ⟨by decide, by decide⟩) rfl hl.1 rfl (Nat.le_of_ble_eq_true rfl) d_D_serve_18 ⟨Nat.zero_le _, Nat.zero_le _⟩ ?_
    refine lv_istore_n (lv' := [(3, .int q18), (2, .int q2), (0, .ref (b + 0)), (1, .int x1)]) hx hb d_D_serve_21 rfl hl (by decide) rfl (fun ls hl => ?_)
    refine lv_aload_n hx hb d_D_serve_22 rfl (lv_at hl 2 rfl) ?_
    refine lv_iload_n hx hb d_D_serve_23 rfl (lv_at hl 1 rfl) ?_
    obtain ⟨q24, hc24, h⟩ := obd h
    refine wd_cvr (As := [.int q2]) (rest := []) ⟨hx, hb, hml, hown, hts⟩ hK hP 0 hI.1 hI.2.1 rfl (c_D_nextOf l q2 M _ hI hc24) (cwV 1 hts (wmV t_284 t_286 t_287 t_229 t_285) rfl rfl rfl (by decide +kernel) ⟨by decide, by decide⟩) rfl hl.1 rfl (Nat.le_of_ble_eq_true rfl) d_D_serve_24 ⟨Nat.zero_le _, Nat.zero_le _⟩ ?_
    refine lv_istore (lv' := [(4, .int q24), (3, .int q18), (2, .int q2), (0, .ref (b + 0)), (1, .int x1)]) hx hb d_D_serve_27 hl (by decide) rfl (fun ls hl => ?_)
    refine lv_aload_n hx hb d_D_serve_29 rfl (lv_at hl 3 rfl) ?_
    refine lv_iload_n hx hb d_D_serve_30 rfl (lv_at hl 4 rfl) ?_
    refine lv_iload hx hb d_D_serve_31 (lv_at hl 0 rfl) ?_
    refine lv_iload_n hx hb d_D_serve_33 rfl (lv_at hl 1 rfl) ?_
    refine lv_iload hx hb d_D_serve_34 (lv_at hl 0 rfl) ?_
    refine lv_iconst (v := 3) hx hb d_D_serve_36 (by decide) ?_
    refine lv_icmp_ne (tgt := 54) hx hb d_D_serve_37 (by decide) (fun c37 => ?_) (fun c37 => ?_)
    · replace h := ogf c37 h
      refine lv_aload_n hx hb d_D_serve_54 rfl (lv_at hl 3 rfl) ?_
      refine lv_aload_n hx hb d_D_serve_55 rfl (lv_at hl 3 rfl) ?_
      refine wd_getr hx hb hts i_D hown hK hP 0 hI.1 hI.2.1 rfl 23 (by decide) t_244 rfl d_D_serve_56 ?_
      refine lv_iload_n hx hb d_D_serve_59 rfl (lv_at hl 2 rfl) ?_
      obtain ⟨hi60, h⟩ := og h
      refine wd_iald hx hb hK hP 14 0 hI.2.2.2.2.2.2.2.2.2.2.2.2.2.2.2.1.1 hI.2.2.2.2.2.2.2.2.2.2.2.2.2.2.2.1.2 rfl hi60 d_D_serve_60 ?_
      obtain ⟨q61, hc61, h⟩ := obd h
      refine wd_cvr (As := [.int (M 14 q2.toNatClampNeg)]) (rest := [.int q18, .int q24, .int x1, .ref (b + 0)]) ⟨hx, hb, hml, hown, hts⟩ hK hP 0 hI.1 hI.2.1 rfl (c_D_rowOf l (M 14 q2.toNatClampNeg) M _ hI hc61) (cwV 1 hts (wmV t_257 t_259 t_260 t_229 t_258) rfl rfl rfl (by decide +kernel) ⟨by decide, by decide⟩) rfl hl.1 rfl (Nat.le_of_ble_eq_true rfl) d_D_serve_61 ⟨Nat.zero_le _, Nat.zero_le _⟩ ?_
      exact w_D_serve_64 G hI  x1 q2 q18 q24 x1 q24 q18 q61 M _ hP hS (lv_sub hl [3, 4, 2, 1, 0] rfl) h
    · replace h := ogt c37 h
      refine lv_aload_n hx hb d_D_serve_40 rfl (lv_at hl 3 rfl) ?_
      refine wd_getr hx hb hts i_D hown hK hP 0 hI.1 hI.2.1 rfl 8 (by decide) t_220 rfl d_D_serve_41 ?_
      refine lv_bipush (v := 8) hx hb d_D_serve_44 (by decide) ?_
      refine lv_iload_n hx hb d_D_serve_46 rfl (lv_at hl 4 rfl) ?_
      refine lv_imul hx hb d_D_serve_47 ?_
      refine lv_iload_n hx hb d_D_serve_48 rfl (lv_at hl 1 rfl) ?_
      refine lv_iadd hx hb d_D_serve_49 ?_
      obtain ⟨hi50, h⟩ := og h
      refine wd_iald hx hb hK hP 2 0 hI.2.2.2.1.1 hI.2.2.2.1.2 rfl hi50 d_D_serve_50 ?_
      refine lv_goto (tgt := 64) hx hb d_D_serve_51 (by decide) ?_
      exact w_D_serve_64 G hI  x1 q2 q18 q24 x1 q24 q18 (M 2 ((8 * x1) + q18).toNatClampNeg) M _ hP hS (lv_sub hl [3, 4, 2, 1, 0] rfl) h
  · replace h := ogf c7 h
    obtain rfl := oe h
    exact wd_vret hx hb hr hlk hP hS d_D_serve_10
theorem c_D_serve (l : Launch) (x1 : Int32) (M : Mm) (sz : Nat) (hI : Is_D dA b N sh B C 0) {M' : Mm} (h : f_D_serve B C x1 M = some M') : Met l y_D_serve (wm y_D_serve k_D_serve 5 none) rm_D_serve (Pw (dC, dI) cls6 (tyl dA) b N sh [.ref (b + 0), .int x1] M sz) (Qwv (dC, dI) cls6 b N sh M' sz) 0 0 (reg b N sz) := by
  refine mk_met (by decide) (Nat.le_of_ble_eq_true rfl) ?_
  intro p e s m below meth c ls G hsz hP hS hl
  subst hsz
  exact w_D_serve_0 G hI _ _ ls hP hS hl h
end
abbrev rm_D_run : Room := { frames := 8, cells := 0, slots := 0, locals := 184 }
def B_D_run_108 (B C : Nat) (K47 : Int32 → Int32 → Int32 → Int32 → Mm → Option (Int32 × Mm)) (x1 x2 x3 x4 : Int32) (M : Mm) : Option (Int32 × Mm) := bnd (x4 + 1) (fun v108 => K47 x1 x2 x3 v108 M)
def B_D_run_83 (B C : Nat) (K47 : Int32 → Int32 → Int32 → Int32 → Mm → Option (Int32 × Mm)) (x1 x2 x3 x4 : Int32) (M : Mm) : Option (Int32 × Mm) := (if ixb x4 2 = true then (if (M 12 x4.toNatClampNeg) = 0 then (f_D_serve B C x4 M).bind (fun q105 => B_D_run_108 B C K47 x1 x2 x3 x4 q105) else (f_D_refresh B C x4 M).bind (fun q96 => B_D_run_108 B C K47 x1 x2 x3 x4 q96)) else none)
def B_D_run_47 (B C : Nat) (K29 : Int32 → Int32 → Int32 → Mm → Option (Int32 × Mm)) : Nat → Int32 → Int32 → Int32 → Int32 → Mm → Option (Int32 × Mm)
  | 0, _, _, _, _, _ => none
  | n + 1, x1, x2, x3, x4, M => (if (M 0 1) ≤ x4 then bnd (x3 + 1) (fun v114 => K29 x1 x2 v114 M) else (if (M 0 6) ≤ 0 then B_D_run_83 B C (fun y0 y1 y2 y3 M => B_D_run_47 B C K29 n y0 y1 y2 y3 M) x1 x2 x3 x4 M else (if ¬ (M 0 6) = 0 then (if ((M 0 5) - (M 0 5) / (M 0 6) * (M 0 6)) = 0 then (if ixb x4 2 = true then bnd (up2 M 12 x4.toNatClampNeg 1) (fun M82 => B_D_run_83 B C (fun y0 y1 y2 y3 M => B_D_run_47 B C K29 n y0 y1 y2 y3 M) x1 x2 x3 x4 M82) else none) else B_D_run_83 B C (fun y0 y1 y2 y3 M => B_D_run_47 B C K29 n y0 y1 y2 y3 M) x1 x2 x3 x4 M) else none)))
def B_D_run_29 (B C : Nat) : Nat → Int32 → Int32 → Int32 → Mm → Option (Int32 × Mm)
  | 0, _, _, _, _ => none
  | n + 1, x1, x2, x3, M => (if x1 ≤ x3 then some (((M 0 21) - x2), M) else bnd (up2 M 0 5 ((M 0 5) + 1)) (fun M41 => B_D_run_47 B C (fun y0 y1 y2 M => B_D_run_29 B C n y0 y1 y2 M) 1200 x1 x2 x3 0 M41))
def f_D_run (B C : Nat) (x1 : Int32) (M : Mm) : Option (Int32 × Mm) := bnd (up2 M 0 0 0) (fun M2 => (f_D_within B C x1 1 1000 M2).bind (fun q10 => (if q10 = 0 then (f_D_fail B C 1 M2).bind (fun q18 => some (q18.1, q18.2)) else bnd (M2 0 21) (fun v26 => B_D_run_29 B C 1200 x1 v26 0 M2))))
section
variable {p : Program} {l : Launch} {e : Env} {s : State} {m : MethodId} {args : Array Value} {below : List Frame} {meth : Method} {c : Code} {dC : Nat → ClassId} {dI : Nat → Nat → Nat} {dA : Nat → ClassId} {b N B C : Nat} {sh : Shp}
set_option maxHeartbeats 4000000 in
set_option maxRecDepth 100000 in
theorem w_D_run_108 {rv : Int32} {M' : Mm} (G : Cx p s m args meth c (dC, dI) cls6 (tyl dA) "BankTimesModel" k_D_run 5 (some .int)) (hI : Is_D dA b N sh B C 0)  {K47 : Int32 → Int32 → Int32 → Int32 → Mm → Option (Int32 × Mm)} (hK47 : ∀ (x1 x2 x3 x4 : Int32) (M : Mm) (H : Heap) (locs : List Loc) (ls : Array Slot), va_P (dC, dI) cls6 (wd b N sh M) H → va_S (reg b N s.heap.size) s.heap H locs → lv_has ls 5 [(0, .ref (b + 0)), (1, .int x1), (2, .int x2), (3, .int x3), (4, .int x4)] → K47 x1 x2 x3 x4 M = some (rv, M') → W p l e rm_D_run s m args below meth c H locs 0 0 (MQ below (Qwi (dC, dI) cls6 b N sh rv M' s.heap.size) args s 0 0 (reg b N s.heap.size)) (F0 m 47 ls []))  : ∀ (x1 x2 x3 x4 : Int32) (M : Mm) (H : Heap) (locs : List Loc) (ls : Array Slot), va_P (dC, dI) cls6 (wd b N sh M) H → va_S (reg b N s.heap.size) s.heap H locs → lv_has ls 5 [(0, .ref (b + 0)), (1, .int x1), (2, .int x2), (3, .int x3), (4, .int x4)] → B_D_run_108 B C K47 x1 x2 x3 x4 M = some (rv, M') → W p l e rm_D_run s m args below meth c H locs 0 0 (MQ below (Qwi (dC, dI) cls6 b N sh rv M' s.heap.size) args s 0 0 (reg b N s.heap.size)) (F0 m 108 ls []) := by
  obtain ⟨hx, hb, hml, hr, hown, hts, hlk, hK⟩ := id G
  intro x1 x2 x3 x4 M H locs ls hP hS hl h
  unfold B_D_run_108 at h
  obtain ⟨v108, e108, h⟩ := ln h
  refine lv_iinc (v := v108) (lv' := [(4, .int v108), (0, .ref (b + 0)), (1, .int x1), (2, .int x2), (3, .int x3)]) hx hb d_D_run_108 hl (k := 4) rfl (by rw [e108]; rfl) (by decide) rfl (fun ls hl => ?_)
  refine lv_goto (tgt := 47) hx hb d_D_run_111 (by decide) ?_
  exact hK47 x1 x2 x3 v108 M _ _ _ hP hS (lv_sub hl [1, 2, 3, 4, 0] rfl) h
set_option maxHeartbeats 4000000 in
set_option maxRecDepth 100000 in
theorem w_D_run_83 {rv : Int32} {M' : Mm} (G : Cx p s m args meth c (dC, dI) cls6 (tyl dA) "BankTimesModel" k_D_run 5 (some .int)) (hI : Is_D dA b N sh B C 0)  {K47 : Int32 → Int32 → Int32 → Int32 → Mm → Option (Int32 × Mm)} (hK47 : ∀ (x1 x2 x3 x4 : Int32) (M : Mm) (H : Heap) (locs : List Loc) (ls : Array Slot), va_P (dC, dI) cls6 (wd b N sh M) H → va_S (reg b N s.heap.size) s.heap H locs → lv_has ls 5 [(0, .ref (b + 0)), (1, .int x1), (2, .int x2), (3, .int x3), (4, .int x4)] → K47 x1 x2 x3 x4 M = some (rv, M') → W p l e rm_D_run s m args below meth c H locs 0 0 (MQ below (Qwi (dC, dI) cls6 b N sh rv M' s.heap.size) args s 0 0 (reg b N s.heap.size)) (F0 m 47 ls []))  : ∀ (x1 x2 x3 x4 : Int32) (M : Mm) (H : Heap) (locs : List Loc) (ls : Array Slot), va_P (dC, dI) cls6 (wd b N sh M) H → va_S (reg b N s.heap.size) s.heap H locs → lv_has ls 5 [(0, .ref (b + 0)), (1, .int x1), (2, .int x2), (3, .int x3), (4, .int x4)] → B_D_run_83 B C K47 x1 x2 x3 x4 M = some (rv, M') → W p l e rm_D_run s m args below meth c H locs 0 0 (MQ below (Qwi (dC, dI) cls6 b N sh rv M' s.heap.size) args s 0 0 (reg b N s.heap.size)) (F0 m 83 ls []) := by
  obtain ⟨hx, hb, hml, hr, hown, hts, hlk, hK⟩ := id G
  intro x1 x2 x3 x4 M H locs ls hP hS hl h
  unfold B_D_run_83 at h
  refine lv_aload_n hx hb d_D_run_83 rfl (lv_at hl 0 rfl) ?_
  refine wd_getr hx hb hts i_D hown hK hP 0 hI.1 hI.2.1 rfl 18 (by decide) t_326 rfl d_D_run_84 ?_
  refine lv_iload hx hb d_D_run_87 (lv_at hl 4 rfl) ?_
  obtain ⟨hi89, h⟩ := og h
  refine wd_zald hx hb hK hP 12 1 hI.2.2.2.2.2.2.2.2.2.2.2.2.2.1.1 hI.2.2.2.2.2.2.2.2.2.2.2.2.2.1.2 rfl hi89 d_D_run_89 ?_
  refine lv_if_eq (tgt := 102) hx hb d_D_run_90 (by decide) (fun c90 => ?_) (fun c90 => ?_)
  · replace h := ogt c90 h
    refine lv_aload_n hx hb d_D_run_102 rfl (lv_at hl 0 rfl) ?_
    refine lv_iload hx hb d_D_run_103 (lv_at hl 4 rfl) ?_
    obtain ⟨q105, hc105, h⟩ := obd h
    refine wd_cvv (As := [.int x4]) (rest := []) ⟨hx, hb, hml, hown, hts⟩ hK hP hS 0 hI.1 hI.2.1 rfl (c_D_serve l x4 M _ hI hc105) (cwV 1 hts (wmV t_333 t_335 t_336 t_229 t_334) rfl rfl rfl (by decide +kernel) ⟨by decide, by decide⟩) rfl hl.1 rfl (Nat.le_of_ble_eq_true rfl) d_D_run_105 ⟨Nat.zero_le _, Nat.zero_le _⟩ (fun H locs hP hS => ?_)
    exact w_D_run_108 G hI hK47  x1 x2 x3 x4 q105 _ _ _ hP hS (lv_sub hl [0, 1, 2, 3, 4] rfl) h
  · replace h := ogf c90 h
    refine lv_aload_n hx hb d_D_run_93 rfl (lv_at hl 0 rfl) ?_
    refine lv_iload hx hb d_D_run_94 (lv_at hl 4 rfl) ?_
    obtain ⟨q96, hc96, h⟩ := obd h
    refine wd_cvv (As := [.int x4]) (rest := []) ⟨hx, hb, hml, hown, hts⟩ hK hP hS 0 hI.1 hI.2.1 rfl (c_D_refresh l x4 M _ hI hc96) (cwV 1 hts (wmV t_337 t_339 t_340 t_229 t_338) rfl rfl rfl (by decide +kernel) ⟨by decide, by decide⟩) rfl hl.1 rfl (Nat.le_of_ble_eq_true rfl) d_D_run_96 ⟨Nat.zero_le _, Nat.zero_le _⟩ (fun H locs hP hS => ?_)
    refine lv_goto (tgt := 108) hx hb d_D_run_99 (by decide) ?_
    exact w_D_run_108 G hI hK47  x1 x2 x3 x4 q96 _ _ _ hP hS (lv_sub hl [0, 1, 2, 3, 4] rfl) h
set_option maxHeartbeats 4000000 in
set_option maxRecDepth 100000 in
theorem w_D_run_47 {rv : Int32} {M' : Mm} (G : Cx p s m args meth c (dC, dI) cls6 (tyl dA) "BankTimesModel" k_D_run 5 (some .int)) (hI : Is_D dA b N sh B C 0)  {K29 : Int32 → Int32 → Int32 → Mm → Option (Int32 × Mm)} (hK29 : ∀ (x1 x2 x3 : Int32) (M : Mm) (H : Heap) (locs : List Loc) (ls : Array Slot), va_P (dC, dI) cls6 (wd b N sh M) H → va_S (reg b N s.heap.size) s.heap H locs → lv_has ls 5 [(0, .ref (b + 0)), (1, .int x1), (2, .int x2), (3, .int x3)] → K29 x1 x2 x3 M = some (rv, M') → W p l e rm_D_run s m args below meth c H locs 0 0 (MQ below (Qwi (dC, dI) cls6 b N sh rv M' s.heap.size) args s 0 0 (reg b N s.heap.size)) (F0 m 29 ls []))  : ∀ (n : Nat) (x1 x2 x3 x4 : Int32) (M : Mm) (H : Heap) (locs : List Loc) (ls : Array Slot), va_P (dC, dI) cls6 (wd b N sh M) H → va_S (reg b N s.heap.size) s.heap H locs → lv_has ls 5 [(0, .ref (b + 0)), (1, .int x1), (2, .int x2), (3, .int x3), (4, .int x4)] → B_D_run_47 B C K29 n x1 x2 x3 x4 M = some (rv, M') → W p l e rm_D_run s m args below meth c H locs 0 0 (MQ below (Qwi (dC, dI) cls6 b N sh rv M' s.heap.size) args s 0 0 (reg b N s.heap.size)) (F0 m 47 ls []) := by
  obtain ⟨hx, hb, hml, hr, hown, hts, hlk, hK⟩ := id G
  intro n
  induction n with
  | zero =>
    intro x1 x2 x3 x4 M H locs ls hP hS hl h
    cases h
  | succ n ih =>
    intro x1 x2 x3 x4 M H locs ls hP hS hl h
    rw [B_D_run_47] at h
    refine lv_iload hx hb d_D_run_47 (lv_at hl 4 rfl) ?_
    refine lv_aload_n hx hb d_D_run_49 rfl (lv_at hl 0 rfl) ?_
    refine wd_geti hx hb hts i_D hown hK hP 0 hI.1 hI.2.1 rfl 1 (by decide) t_230 rfl d_D_run_50 ?_
    refine lv_icmp_ge (tgt := 114) hx hb d_D_run_53 (by decide) (fun c53 => ?_) (fun c53 => ?_)
    · replace h := ogt c53 h
      obtain ⟨v114, e114, h⟩ := ln h
      refine lv_iinc (v := v114) (lv' := [(3, .int v114), (0, .ref (b + 0)), (1, .int x1), (2, .int x2), (4, .int x4)]) hx hb d_D_run_114 hl (k := 3) rfl (by rw [e114]; rfl) (by decide) rfl (fun ls hl => ?_)
      refine lv_goto (tgt := 29) hx hb d_D_run_117 (by decide) ?_
      exact hK29 x1 x2 v114 M _ _ _ hP hS (lv_sub hl [1, 2, 3, 0] rfl) h
    · replace h := ogf c53 h
      refine lv_aload_n hx hb d_D_run_56 rfl (lv_at hl 0 rfl) ?_
      refine wd_geti hx hb hts i_D hown hK hP 0 hI.1 hI.2.1 rfl 6 (by decide) t_269 rfl d_D_run_57 ?_
      refine lv_if_le (tgt := 83) hx hb d_D_run_60 (by decide) (fun c60 => ?_) (fun c60 => ?_)
      · replace h := ogt c60 h
        exact w_D_run_83 G hI ih  x1 x2 x3 x4 M _ _ _ hP hS (lv_sub hl [0, 1, 2, 3, 4] rfl) h
      · replace h := ogf c60 h
        refine lv_aload_n hx hb d_D_run_63 rfl (lv_at hl 0 rfl) ?_
        refine wd_geti hx hb hts i_D hown hK hP 0 hI.1 hI.2.1 rfl 5 (by decide) t_272 rfl d_D_run_64 ?_
        refine lv_aload_n hx hb d_D_run_67 rfl (lv_at hl 0 rfl) ?_
        refine wd_geti hx hb hts i_D hown hK hP 0 hI.1 hI.2.1 rfl 6 (by decide) t_269 rfl d_D_run_68 ?_
        obtain ⟨hn71, h⟩ := og h
        refine lv_irem hx hb d_D_run_71 hn71 ?_
        refine lv_if_ne (tgt := 83) hx hb d_D_run_72 (by decide) (fun c72 => ?_) (fun c72 => ?_)
        · replace h := ogf c72 h
          exact w_D_run_83 G hI ih  x1 x2 x3 x4 M _ _ _ hP hS (lv_sub hl [0, 1, 2, 3, 4] rfl) h
        · replace h := ogt c72 h
          refine lv_aload_n hx hb d_D_run_75 rfl (lv_at hl 0 rfl) ?_
          refine wd_getr hx hb hts i_D hown hK hP 0 hI.1 hI.2.1 rfl 18 (by decide) t_326 rfl d_D_run_76 ?_
          refine lv_iload hx hb d_D_run_79 (lv_at hl 4 rfl) ?_
          refine lv_iconst (v := 1) hx hb d_D_run_81 (by decide) ?_
          obtain ⟨hi82, h⟩ := og h
          obtain ⟨M82, eM82, h⟩ := ln h
          refine wd_zast hx hb hK hP hS 12 1 hI.2.2.2.2.2.2.2.2.2.2.2.2.2.1.1 hI.2.2.2.2.2.2.2.2.2.2.2.2.2.1.2 rfl rfl hi82 d_D_run_82 (fun H locs hP hS => ?_)
          rw [← eM82] at hP
          exact w_D_run_83 G hI ih  x1 x2 x3 x4 M82 _ _ _ hP hS (lv_sub hl [0, 1, 2, 3, 4] rfl) h
set_option maxHeartbeats 4000000 in
set_option maxRecDepth 100000 in
theorem w_D_run_29 {rv : Int32} {M' : Mm} (G : Cx p s m args meth c (dC, dI) cls6 (tyl dA) "BankTimesModel" k_D_run 5 (some .int)) (hI : Is_D dA b N sh B C 0)   : ∀ (n : Nat) (x1 x2 x3 : Int32) (M : Mm) (H : Heap) (locs : List Loc) (ls : Array Slot), va_P (dC, dI) cls6 (wd b N sh M) H → va_S (reg b N s.heap.size) s.heap H locs → lv_has ls 5 [(0, .ref (b + 0)), (1, .int x1), (2, .int x2), (3, .int x3)] → B_D_run_29 B C n x1 x2 x3 M = some (rv, M') → W p l e rm_D_run s m args below meth c H locs 0 0 (MQ below (Qwi (dC, dI) cls6 b N sh rv M' s.heap.size) args s 0 0 (reg b N s.heap.size)) (F0 m 29 ls []) := by
  obtain ⟨hx, hb, hml, hr, hown, hts, hlk, hK⟩ := id G
  intro n
  induction n with
  | zero =>
    intro x1 x2 x3 M H locs ls hP hS hl h
    cases h
  | succ n ih =>
    intro x1 x2 x3 M H locs ls hP hS hl h
    rw [B_D_run_29] at h
    refine lv_iload_n hx hb d_D_run_29 rfl (lv_at hl 3 rfl) ?_
    refine lv_iload_n hx hb d_D_run_30 rfl (lv_at hl 1 rfl) ?_
    refine lv_icmp_ge (tgt := 120) hx hb d_D_run_31 (by decide) (fun c31 => ?_) (fun c31 => ?_)
    · replace h := ogt c31 h
      refine lv_aload_n hx hb d_D_run_120 rfl (lv_at hl 0 rfl) ?_
      refine wd_geti hx hb hts i_D hown hK hP 0 hI.1 hI.2.1 rfl 21 (by decide) t_331 rfl d_D_run_121 ?_
      refine lv_iload_n hx hb d_D_run_124 rfl (lv_at hl 2 rfl) ?_
      refine lv_isub hx hb d_D_run_125 ?_
      obtain ⟨rfl, rfl⟩ := oe2 h
      exact wd_iret hx hb hr hlk hP hS d_D_run_126
    · replace h := ogf c31 h
      refine lv_aload_n hx hb d_D_run_34 rfl (lv_at hl 0 rfl) ?_
      refine lv_dup hx hb d_D_run_35 rfl ?_
      refine wd_geti hx hb hts i_D hown hK hP 0 hI.1 hI.2.1 rfl 5 (by decide) t_272 rfl d_D_run_36 ?_
      refine lv_iconst (v := 1) hx hb d_D_run_39 (by decide) ?_
      refine lv_iadd hx hb d_D_run_40 ?_
      obtain ⟨M41, eM41, h⟩ := ln h
      refine wd_puti hx hb hts i_D ty_D tyok_D nm_D hown hK hP hS 0 hI.1 hI.2.1 rfl 5 (by decide) t_272 rfl rfl (ty := .int) (by decide +kernel) rfl rfl d_D_run_41 (fun H locs hP hS => ?_)
      rw [← eM41] at hP
      refine lv_iconst (v := 0) hx hb d_D_run_44 (by decide) ?_
      refine lv_istore (lv' := [(4, .int 0), (0, .ref (b + 0)), (1, .int x1), (2, .int x2), (3, .int x3)]) hx hb d_D_run_45 hl (by decide) rfl (fun ls hl => ?_)
      exact w_D_run_47 G hI ih  1200 x1 x2 x3 0 M41 _ _ _ hP hS (lv_sub hl [1, 2, 3, 4, 0] rfl) h
set_option maxHeartbeats 4000000 in
set_option maxRecDepth 100000 in
theorem w_D_run_0 {rv : Int32} {M' : Mm} (G : Cx p s m args meth c (dC, dI) cls6 (tyl dA) "BankTimesModel" k_D_run 5 (some .int)) (hI : Is_D dA b N sh B C 0)   : ∀ (x1 : Int32) (M : Mm) (ls : Array Slot), va_P (dC, dI) cls6 (wd b N sh M) s.heap → va_S (reg b N s.heap.size) s.heap s.heap [] → lv_has ls 5 [(0, .ref (b + 0)), (1, .int x1)] → f_D_run B C x1 M = some (rv, M') → W p l e rm_D_run s m args below meth c s.heap [] 0 0 (MQ below (Qwi (dC, dI) cls6 b N sh rv M' s.heap.size) args s 0 0 (reg b N s.heap.size)) (F0 m 0 ls []) := by
  obtain ⟨hx, hb, hml, hr, hown, hts, hlk, hK⟩ := id G
  intro x1 M ls hP hS hl h
  unfold f_D_run at h
  refine lv_aload_n hx hb d_D_run_0 rfl (lv_at hl 0 rfl) ?_
  refine lv_iconst (v := 0) hx hb d_D_run_1 (by decide) ?_
  obtain ⟨M2, eM2, h⟩ := ln h
  refine wd_puti hx hb hts i_D ty_D tyok_D nm_D hown hK hP hS 0 hI.1 hI.2.1 rfl 0 (by decide) t_213 rfl rfl (ty := .int) (by decide +kernel) rfl rfl d_D_run_2 (fun H locs hP hS => ?_)
  rw [← eM2] at hP
  refine lv_iload_n hx hb d_D_run_5 rfl (lv_at hl 1 rfl) ?_
  refine lv_iconst (v := 1) hx hb d_D_run_6 (by decide) ?_
  refine lv_sipush (v := 1000) hx hb d_D_run_7 (by decide) ?_
  obtain ⟨q10, hc10, h⟩ := obd h
  refine wd_csr (As := [.int x1, .int 1, .int 1000]) (rest := []) ⟨hx, hb, hml, hown, hts⟩ hK hP (c_D_within l x1 1 1000 M2 _  hc10) ⟨callB_of 3 hts (wm_good t_227) rfl rfl rfl (hts _ t_229) (hts _ t_226) (by decide +kernel) ⟨by decide, by decide⟩, hts _ t_228⟩ rfl hl.1 rfl (Nat.le_of_ble_eq_true rfl) d_D_run_10 ⟨Nat.zero_le _, Nat.zero_le _⟩ ?_
  refine lv_if_ne (tgt := 22) hx hb d_D_run_13 (by decide) (fun c13 => ?_) (fun c13 => ?_)
  · replace h := ogf c13 h
    refine lv_aload_n hx hb d_D_run_22 rfl (lv_at hl 0 rfl) ?_
    refine wd_geti hx hb hts i_D hown hK hP 0 hI.1 hI.2.1 rfl 21 (by decide) t_331 rfl d_D_run_23 ?_
    obtain ⟨v26, e26, h⟩ := ln h
    refine lv_nm e26 ?_
    refine lv_istore_n (lv' := [(2, .int v26), (0, .ref (b + 0)), (1, .int x1)]) hx hb d_D_run_26 rfl hl (by decide) rfl (fun ls hl => ?_)
    refine lv_iconst (v := 0) hx hb d_D_run_27 (by decide) ?_
    refine lv_istore_n (lv' := [(3, .int 0), (2, .int v26), (0, .ref (b + 0)), (1, .int x1)]) hx hb d_D_run_28 rfl hl (by decide) rfl (fun ls hl => ?_)
    exact w_D_run_29 G hI  1200 x1 v26 0 M2 _ _ _ hP hS (lv_sub hl [2, 3, 1, 0] rfl) h
  · replace h := ogt c13 h
    refine lv_aload_n hx hb d_D_run_16 rfl (lv_at hl 0 rfl) ?_
    refine lv_iconst (v := 1) hx hb d_D_run_17 (by decide) ?_
    obtain ⟨q18, hc18, h⟩ := obd h
    refine wd_cvi (As := [.int 1]) (rest := []) ⟨hx, hb, hml, hown, hts⟩ hK hP hS 0 hI.1 hI.2.1 rfl (c_D_fail l 1 M2 _ hI hc18) (cwV 1 hts (wmV t_253 t_255 t_256 t_229 t_254) rfl rfl rfl (by decide +kernel) ⟨by decide, by decide⟩) rfl hl.1 rfl (Nat.le_of_ble_eq_true rfl) d_D_run_18 ⟨Nat.zero_le _, Nat.zero_le _⟩ (fun H locs hP hS => ?_)
    obtain ⟨rfl, rfl⟩ := oe2 h
    exact wd_iret hx hb hr hlk hP hS d_D_run_21
theorem c_D_run (l : Launch) (x1 : Int32) (M : Mm) (sz : Nat) (hI : Is_D dA b N sh B C 0) {rv : Int32} {M' : Mm} (h : f_D_run B C x1 M = some (rv, M')) : Met l y_D_run (wm y_D_run k_D_run 5 (some .int)) rm_D_run (Pw (dC, dI) cls6 (tyl dA) b N sh [.ref (b + 0), .int x1] M sz) (Qwi (dC, dI) cls6 b N sh rv M' sz) 0 0 (reg b N sz) := by
  refine mk_met (by decide) (Nat.le_of_ble_eq_true rfl) ?_
  intro p e s m below meth c ls G hsz hP hS hl
  subst hsz
  exact w_D_run_0 G hI _ _ ls hP hS hl h
end
abbrev rm_D_done : Room := { frames := 1, cells := 0, slots := 0, locals := 22 }
def f_D_done (B C : Nat) (x1 : Int32) (M : Mm) : Option (Int32 × Mm) := bnd (up2 M 0 0 0) (fun M2 => (f_D_within B C x1 0 ((M2 0 20) - 1) M2).bind (fun q13 => (if q13 = 0 then (f_D_fail B C 1 M2).bind (fun q30 => some (q30.1, q30.2)) else (if ixb x1 600 = true then some (M2 17 x1.toNatClampNeg, M2) else none))))
section
variable {p : Program} {l : Launch} {e : Env} {s : State} {m : MethodId} {args : Array Value} {below : List Frame} {meth : Method} {c : Code} {dC : Nat → ClassId} {dI : Nat → Nat → Nat} {dA : Nat → ClassId} {b N B C : Nat} {sh : Shp}
set_option maxHeartbeats 4000000 in
set_option maxRecDepth 100000 in
theorem w_D_done_0 {rv : Int32} {M' : Mm} (G : Cx p s m args meth c (dC, dI) cls6 (tyl dA) "BankTimesModel" k_D_done 2 (some .int)) (hI : Is_D dA b N sh B C 0)   : ∀ (x1 : Int32) (M : Mm) (ls : Array Slot), va_P (dC, dI) cls6 (wd b N sh M) s.heap → va_S (reg b N s.heap.size) s.heap s.heap [] → lv_has ls 2 [(0, .ref (b + 0)), (1, .int x1)] → f_D_done B C x1 M = some (rv, M') → W p l e rm_D_done s m args below meth c s.heap [] 0 0 (MQ below (Qwi (dC, dI) cls6 b N sh rv M' s.heap.size) args s 0 0 (reg b N s.heap.size)) (F0 m 0 ls []) := by
  obtain ⟨hx, hb, hml, hr, hown, hts, hlk, hK⟩ := id G
  intro x1 M ls hP hS hl h
  unfold f_D_done at h
  refine lv_aload_n hx hb d_D_done_0 rfl (lv_at hl 0 rfl) ?_
  refine lv_iconst (v := 0) hx hb d_D_done_1 (by decide) ?_
  obtain ⟨M2, eM2, h⟩ := ln h
  refine wd_puti hx hb hts i_D ty_D tyok_D nm_D hown hK hP hS 0 hI.1 hI.2.1 rfl 0 (by decide) t_213 rfl rfl (ty := .int) (by decide +kernel) rfl rfl d_D_done_2 (fun H locs hP hS => ?_)
  rw [← eM2] at hP
  refine lv_iload_n hx hb d_D_done_5 rfl (lv_at hl 1 rfl) ?_
  refine lv_iconst (v := 0) hx hb d_D_done_6 (by decide) ?_
  refine lv_aload_n hx hb d_D_done_7 rfl (lv_at hl 0 rfl) ?_
  refine wd_geti hx hb hts i_D hown hK hP 0 hI.1 hI.2.1 rfl 20 (by decide) t_242 rfl d_D_done_8 ?_
  refine lv_iconst (v := 1) hx hb d_D_done_11 (by decide) ?_
  refine lv_isub hx hb d_D_done_12 ?_
  obtain ⟨q13, hc13, h⟩ := obd h
  refine wd_csr (As := [.int x1, .int 0, .int ((M2 0 20) - 1)]) (rest := []) ⟨hx, hb, hml, hown, hts⟩ hK hP (c_D_within l x1 0 ((M2 0 20) - 1) M2 _  hc13) ⟨callB_of 3 hts (wm_good t_227) rfl rfl rfl (hts _ t_229) (hts _ t_226) (by decide +kernel) ⟨by decide, by decide⟩, hts _ t_228⟩ rfl hl.1 rfl (Nat.le_of_ble_eq_true rfl) d_D_done_13 ⟨Nat.zero_le _, Nat.zero_le _⟩ ?_
  refine lv_if_eq (tgt := 28) hx hb d_D_done_16 (by decide) (fun c16 => ?_) (fun c16 => ?_)
  · replace h := ogt c16 h
    refine lv_aload_n hx hb d_D_done_28 rfl (lv_at hl 0 rfl) ?_
    refine lv_iconst (v := 1) hx hb d_D_done_29 (by decide) ?_
    obtain ⟨q30, hc30, h⟩ := obd h
    refine wd_cvi (As := [.int 1]) (rest := []) ⟨hx, hb, hml, hown, hts⟩ hK hP hS 0 hI.1 hI.2.1 rfl (c_D_fail l 1 M2 _ hI hc30) (cwV 1 hts (wmV t_253 t_255 t_256 t_229 t_254) rfl rfl rfl (by decide +kernel) ⟨by decide, by decide⟩) rfl hl.1 rfl (Nat.le_of_ble_eq_true rfl) d_D_done_30 ⟨Nat.zero_le _, Nat.zero_le _⟩ (fun H locs hP hS => ?_)
    obtain ⟨rfl, rfl⟩ := oe2 h
    exact wd_iret hx hb hr hlk hP hS d_D_done_33
  · replace h := ogf c16 h
    refine lv_aload_n hx hb d_D_done_19 rfl (lv_at hl 0 rfl) ?_
    refine wd_getr hx hb hts i_D hown hK hP 0 hI.1 hI.2.1 rfl 26 (by decide) t_243 rfl d_D_done_20 ?_
    refine lv_iload_n hx hb d_D_done_23 rfl (lv_at hl 1 rfl) ?_
    obtain ⟨hi24, h⟩ := og h
    refine wd_iald hx hb hK hP 17 0 hI.2.2.2.2.2.2.2.2.2.2.2.2.2.2.2.2.2.2.1.1 hI.2.2.2.2.2.2.2.2.2.2.2.2.2.2.2.2.2.2.1.2 rfl hi24 d_D_done_24 ?_
    refine lv_goto (tgt := 33) hx hb d_D_done_25 (by decide) ?_
    obtain ⟨rfl, rfl⟩ := oe2 h
    exact wd_iret hx hb hr hlk hP hS d_D_done_33
theorem c_D_done (l : Launch) (x1 : Int32) (M : Mm) (sz : Nat) (hI : Is_D dA b N sh B C 0) {rv : Int32} {M' : Mm} (h : f_D_done B C x1 M = some (rv, M')) : Met l y_D_done (wm y_D_done k_D_done 2 (some .int)) rm_D_done (Pw (dC, dI) cls6 (tyl dA) b N sh [.ref (b + 0), .int x1] M sz) (Qwi (dC, dI) cls6 b N sh rv M' sz) 0 0 (reg b N sz) := by
  refine mk_met (by decide) (Nat.le_of_ble_eq_true rfl) ?_
  intro p e s m below meth c ls G hsz hP hS hl
  subst hsz
  exact w_D_done_0 G hI _ _ ls hP hS hl h
end
abbrev rm_D_command : Room := { frames := 1, cells := 0, slots := 0, locals := 22 }
def B_D_command_46 (B C : Nat) (M : Mm) : Option (Int32 × Mm) := (f_D_fail B C 1 M).bind (fun q48 => some (q48.1, q48.2))
def B_D_command_25 (B C : Nat) (x1 x2 s0 : Int32) (M : Mm) : Option (Int32 × Mm) := (f_D_within B C x1 0 (s0 - 1) M).bind (fun q31 => (if q31 = 0 then B_D_command_46 B C M else (f_D_within B C x2 0 4 M).bind (fun q40 => (if q40 = 0 then B_D_command_46 B C M else bnd ((((M 0 27) - s0) + x1) - (((M 0 27) - s0) + x1) / 512 * 512) (fun v64 => (if x2 = 0 then (if ixb v64 512 = true then some (M 19 v64.toNatClampNeg, M) else none) else (if x2 = 1 then (if ixb v64 512 = true then some (M 20 v64.toNatClampNeg, M) else none) else (if x2 = 2 then (if ixb v64 512 = true then some (M 21 v64.toNatClampNeg, M) else none) else (if x2 = 3 then (if ixb v64 512 = true then some (M 22 v64.toNatClampNeg, M) else none) else (if ixb v64 512 = true then some (M 23 v64.toNatClampNeg, M) else none))))))))))
def f_D_command (B C : Nat) (x1 x2 : Int32) (M : Mm) : Option (Int32 × Mm) := bnd (up2 M 0 0 0) (fun M2 => (if 512 ≤ (M2 0 27) then B_D_command_25 B C x1 x2 512 M2 else B_D_command_25 B C x1 x2 (M2 0 27) M2))
section
variable {p : Program} {l : Launch} {e : Env} {s : State} {m : MethodId} {args : Array Value} {below : List Frame} {meth : Method} {c : Code} {dC : Nat → ClassId} {dI : Nat → Nat → Nat} {dA : Nat → ClassId} {b N B C : Nat} {sh : Shp}
set_option maxHeartbeats 4000000 in
set_option maxRecDepth 100000 in
theorem w_D_command_46 {rv : Int32} {M' : Mm} (G : Cx p s m args meth c (dC, dI) cls6 (tyl dA) "BankTimesModel" k_D_command 5 (some .int)) (hI : Is_D dA b N sh B C 0)   : ∀ (M : Mm) (H : Heap) (locs : List Loc) (ls : Array Slot), va_P (dC, dI) cls6 (wd b N sh M) H → va_S (reg b N s.heap.size) s.heap H locs → lv_has ls 5 [(0, .ref (b + 0))] → B_D_command_46 B C M = some (rv, M') → W p l e rm_D_command s m args below meth c H locs 0 0 (MQ below (Qwi (dC, dI) cls6 b N sh rv M' s.heap.size) args s 0 0 (reg b N s.heap.size)) (F0 m 46 ls []) := by
  obtain ⟨hx, hb, hml, hr, hown, hts, hlk, hK⟩ := id G
  intro M H locs ls hP hS hl h
  unfold B_D_command_46 at h
  refine lv_aload_n hx hb d_D_command_46 rfl (lv_at hl 0 rfl) ?_
  refine lv_iconst (v := 1) hx hb d_D_command_47 (by decide) ?_
  obtain ⟨q48, hc48, h⟩ := obd h
  refine wd_cvi (As := [.int 1]) (rest := []) ⟨hx, hb, hml, hown, hts⟩ hK hP hS 0 hI.1 hI.2.1 rfl (c_D_fail l 1 M _ hI hc48) (cwV 1 hts (wmV t_253 t_255 t_256 t_229 t_254) rfl rfl rfl (by decide +kernel) ⟨by decide, by decide⟩) rfl hl.1 rfl (Nat.le_of_ble_eq_true rfl) d_D_command_48 ⟨Nat.zero_le _, Nat.zero_le _⟩ (fun H locs hP hS => ?_)
  obtain ⟨rfl, rfl⟩ := oe2 h
  exact wd_iret hx hb hr hlk hP hS d_D_command_51
set_option maxHeartbeats 4000000 in
set_option maxRecDepth 100000 in
theorem w_D_command_25 {rv : Int32} {M' : Mm} (G : Cx p s m args meth c (dC, dI) cls6 (tyl dA) "BankTimesModel" k_D_command 5 (some .int)) (hI : Is_D dA b N sh B C 0)   : ∀ (x1 x2 s0 : Int32) (M : Mm) (H : Heap) (locs : List Loc) (ls : Array Slot), va_P (dC, dI) cls6 (wd b N sh M) H → va_S (reg b N s.heap.size) s.heap H locs → lv_has ls 5 [(0, .ref (b + 0)), (1, .int x1), (2, .int x2)] → B_D_command_25 B C x1 x2 s0 M = some (rv, M') → W p l e rm_D_command s m args below meth c H locs 0 0 (MQ below (Qwi (dC, dI) cls6 b N sh rv M' s.heap.size) args s 0 0 (reg b N s.heap.size)) (F0 m 25 ls [.int s0]) := by
  obtain ⟨hx, hb, hml, hr, hown, hts, hlk, hK⟩ := id G
  intro x1 x2 s0 M H locs ls hP hS hl h
  unfold B_D_command_25 at h
  refine lv_istore_n (lv' := [(3, .int s0), (0, .ref (b + 0)), (1, .int x1), (2, .int x2)]) hx hb d_D_command_25 rfl hl (by decide) rfl (fun ls hl => ?_)
  refine lv_iload_n hx hb d_D_command_26 rfl (lv_at hl 2 rfl) ?_
  refine lv_iconst (v := 0) hx hb d_D_command_27 (by decide) ?_
  refine lv_iload_n hx hb d_D_command_28 rfl (lv_at hl 0 rfl) ?_
  refine lv_iconst (v := 1) hx hb d_D_command_29 (by decide) ?_
  refine lv_isub hx hb d_D_command_30 ?_
  obtain ⟨q31, hc31, h⟩ := obd h
  refine wd_csr (As := [.int x1, .int 0, .int (s0 - 1)]) (rest := []) ⟨hx, hb, hml, hown, hts⟩ hK hP (c_D_within l x1 0 (s0 - 1) M _  hc31) ⟨callB_of 3 hts (wm_good t_227) rfl rfl rfl (hts _ t_229) (hts _ t_226) (by decide +kernel) ⟨by decide, by decide⟩, hts _ t_228⟩ rfl hl.1 rfl (Nat.le_of_ble_eq_true rfl) d_D_command_31 ⟨Nat.zero_le _, Nat.zero_le _⟩ ?_
  refine lv_if_eq (tgt := 46) hx hb d_D_command_34 (by decide) (fun c34 => ?_) (fun c34 => ?_)
  · replace h := ogt c34 h
    exact w_D_command_46 G hI  M _ _ _ hP hS (lv_sub hl [1] rfl) h
  · replace h := ogf c34 h
    refine lv_iload_n hx hb d_D_command_37 rfl (lv_at hl 3 rfl) ?_
    refine lv_iconst (v := 0) hx hb d_D_command_38 (by decide) ?_
    refine lv_iconst (v := 4) hx hb d_D_command_39 (by decide) ?_
    obtain ⟨q40, hc40, h⟩ := obd h
    refine wd_csr (As := [.int x2, .int 0, .int 4]) (rest := []) ⟨hx, hb, hml, hown, hts⟩ hK hP (c_D_within l x2 0 4 M _  hc40) ⟨callB_of 3 hts (wm_good t_227) rfl rfl rfl (hts _ t_229) (hts _ t_226) (by decide +kernel) ⟨by decide, by decide⟩, hts _ t_228⟩ rfl hl.1 rfl (Nat.le_of_ble_eq_true rfl) d_D_command_40 ⟨Nat.zero_le _, Nat.zero_le _⟩ ?_
    refine lv_if_ne (tgt := 52) hx hb d_D_command_43 (by decide) (fun c43 => ?_) (fun c43 => ?_)
    · replace h := ogf c43 h
      refine lv_aload_n hx hb d_D_command_52 rfl (lv_at hl 1 rfl) ?_
      refine wd_geti hx hb hts i_D hown hK hP 0 hI.1 hI.2.1 rfl 27 (by decide) t_273 rfl d_D_command_53 ?_
      refine lv_iload_n hx hb d_D_command_56 rfl (lv_at hl 0 rfl) ?_
      refine lv_isub hx hb d_D_command_57 ?_
      refine lv_iload_n hx hb d_D_command_58 rfl (lv_at hl 2 rfl) ?_
      refine lv_iadd hx hb d_D_command_59 ?_
      refine lv_sipush (v := 512) hx hb d_D_command_60 (by decide) ?_
      refine lv_irem hx hb d_D_command_63 (by decide) ?_
      obtain ⟨v64, e64, h⟩ := ln h
      refine lv_nm e64 ?_
      refine lv_istore (lv' := [(4, .int v64), (3, .int s0), (0, .ref (b + 0)), (1, .int x1), (2, .int x2)]) hx hb d_D_command_64 hl (by decide) rfl (fun ls hl => ?_)
      refine lv_iload_n hx hb d_D_command_66 rfl (lv_at hl 4 rfl) ?_
      refine lv_if_ne (tgt := 80) hx hb d_D_command_67 (by decide) (fun c67 => ?_) (fun c67 => ?_)
      · replace h := ogf c67 h
        refine lv_iload_n hx hb d_D_command_80 rfl (lv_at hl 4 rfl) ?_
        refine lv_iconst (v := 1) hx hb d_D_command_81 (by decide) ?_
        refine lv_icmp_ne (tgt := 95) hx hb d_D_command_82 (by decide) (fun c82 => ?_) (fun c82 => ?_)
        · replace h := ogf c82 h
          refine lv_iload_n hx hb d_D_command_95 rfl (lv_at hl 4 rfl) ?_
          refine lv_iconst (v := 2) hx hb d_D_command_96 (by decide) ?_
          refine lv_icmp_ne (tgt := 110) hx hb d_D_command_97 (by decide) (fun c97 => ?_) (fun c97 => ?_)
          · replace h := ogf c97 h
            refine lv_iload_n hx hb d_D_command_110 rfl (lv_at hl 4 rfl) ?_
            refine lv_iconst (v := 3) hx hb d_D_command_111 (by decide) ?_
            refine lv_icmp_ne (tgt := 125) hx hb d_D_command_112 (by decide) (fun c112 => ?_) (fun c112 => ?_)
            · replace h := ogf c112 h
              refine lv_aload_n hx hb d_D_command_125 rfl (lv_at hl 2 rfl) ?_
              refine wd_getr hx hb hts i_D hown hK hP 0 hI.1 hI.2.1 rfl 33 (by decide) t_278 rfl d_D_command_126 ?_
              refine lv_iload hx hb d_D_command_129 (lv_at hl 0 rfl) ?_
              obtain ⟨hi131, h⟩ := og h
              refine wd_iald hx hb hK hP 23 0 hI.2.2.2.2.2.2.2.2.2.2.2.2.2.2.2.2.2.2.2.2.2.2.2.2.1 hI.2.2.2.2.2.2.2.2.2.2.2.2.2.2.2.2.2.2.2.2.2.2.2.2.2 rfl hi131 d_D_command_131 ?_
              obtain ⟨rfl, rfl⟩ := oe2 h
              exact wd_iret hx hb hr hlk hP hS d_D_command_132
            · replace h := ogt c112 h
              refine lv_aload_n hx hb d_D_command_115 rfl (lv_at hl 2 rfl) ?_
              refine wd_getr hx hb hts i_D hown hK hP 0 hI.1 hI.2.1 rfl 32 (by decide) t_277 rfl d_D_command_116 ?_
              refine lv_iload hx hb d_D_command_119 (lv_at hl 0 rfl) ?_
              obtain ⟨hi121, h⟩ := og h
              refine wd_iald hx hb hK hP 22 0 hI.2.2.2.2.2.2.2.2.2.2.2.2.2.2.2.2.2.2.2.2.2.2.2.1.1 hI.2.2.2.2.2.2.2.2.2.2.2.2.2.2.2.2.2.2.2.2.2.2.2.1.2 rfl hi121 d_D_command_121 ?_
              refine lv_goto (tgt := 132) hx hb d_D_command_122 (by decide) ?_
              obtain ⟨rfl, rfl⟩ := oe2 h
              exact wd_iret hx hb hr hlk hP hS d_D_command_132
          · replace h := ogt c97 h
            refine lv_aload_n hx hb d_D_command_100 rfl (lv_at hl 2 rfl) ?_
            refine wd_getr hx hb hts i_D hown hK hP 0 hI.1 hI.2.1 rfl 31 (by decide) t_276 rfl d_D_command_101 ?_
            refine lv_iload hx hb d_D_command_104 (lv_at hl 0 rfl) ?_
            obtain ⟨hi106, h⟩ := og h
            refine wd_iald hx hb hK hP 21 0 hI.2.2.2.2.2.2.2.2.2.2.2.2.2.2.2.2.2.2.2.2.2.2.1.1 hI.2.2.2.2.2.2.2.2.2.2.2.2.2.2.2.2.2.2.2.2.2.2.1.2 rfl hi106 d_D_command_106 ?_
            refine lv_goto (tgt := 132) hx hb d_D_command_107 (by decide) ?_
            obtain ⟨rfl, rfl⟩ := oe2 h
            exact wd_iret hx hb hr hlk hP hS d_D_command_132
        · replace h := ogt c82 h
          refine lv_aload_n hx hb d_D_command_85 rfl (lv_at hl 2 rfl) ?_
          refine wd_getr hx hb hts i_D hown hK hP 0 hI.1 hI.2.1 rfl 30 (by decide) t_275 rfl d_D_command_86 ?_
          refine lv_iload hx hb d_D_command_89 (lv_at hl 0 rfl) ?_
          obtain ⟨hi91, h⟩ := og h
          refine wd_iald hx hb hK hP 20 0 hI.2.2.2.2.2.2.2.2.2.2.2.2.2.2.2.2.2.2.2.2.2.1.1 hI.2.2.2.2.2.2.2.2.2.2.2.2.2.2.2.2.2.2.2.2.2.1.2 rfl hi91 d_D_command_91 ?_
          refine lv_goto (tgt := 132) hx hb d_D_command_92 (by decide) ?_
          obtain ⟨rfl, rfl⟩ := oe2 h
          exact wd_iret hx hb hr hlk hP hS d_D_command_132
      · replace h := ogt c67 h
        refine lv_aload_n hx hb d_D_command_70 rfl (lv_at hl 2 rfl) ?_
        refine wd_getr hx hb hts i_D hown hK hP 0 hI.1 hI.2.1 rfl 29 (by decide) t_274 rfl d_D_command_71 ?_
        refine lv_iload hx hb d_D_command_74 (lv_at hl 0 rfl) ?_
        obtain ⟨hi76, h⟩ := og h
        refine wd_iald hx hb hK hP 19 0 hI.2.2.2.2.2.2.2.2.2.2.2.2.2.2.2.2.2.2.2.2.1.1 hI.2.2.2.2.2.2.2.2.2.2.2.2.2.2.2.2.2.2.2.2.1.2 rfl hi76 d_D_command_76 ?_
        refine lv_goto (tgt := 132) hx hb d_D_command_77 (by decide) ?_
        obtain ⟨rfl, rfl⟩ := oe2 h
        exact wd_iret hx hb hr hlk hP hS d_D_command_132
    · replace h := ogt c43 h
      exact w_D_command_46 G hI  M _ _ _ hP hS (lv_sub hl [1] rfl) h
set_option maxHeartbeats 4000000 in
set_option maxRecDepth 100000 in
theorem w_D_command_0 {rv : Int32} {M' : Mm} (G : Cx p s m args meth c (dC, dI) cls6 (tyl dA) "BankTimesModel" k_D_command 5 (some .int)) (hI : Is_D dA b N sh B C 0)   : ∀ (x1 x2 : Int32) (M : Mm) (ls : Array Slot), va_P (dC, dI) cls6 (wd b N sh M) s.heap → va_S (reg b N s.heap.size) s.heap s.heap [] → lv_has ls 5 [(0, .ref (b + 0)), (1, .int x1), (2, .int x2)] → f_D_command B C x1 x2 M = some (rv, M') → W p l e rm_D_command s m args below meth c s.heap [] 0 0 (MQ below (Qwi (dC, dI) cls6 b N sh rv M' s.heap.size) args s 0 0 (reg b N s.heap.size)) (F0 m 0 ls []) := by
  obtain ⟨hx, hb, hml, hr, hown, hts, hlk, hK⟩ := id G
  intro x1 x2 M ls hP hS hl h
  unfold f_D_command at h
  refine lv_aload_n hx hb d_D_command_0 rfl (lv_at hl 0 rfl) ?_
  refine lv_iconst (v := 0) hx hb d_D_command_1 (by decide) ?_
  obtain ⟨M2, eM2, h⟩ := ln h
  refine wd_puti hx hb hts i_D ty_D tyok_D nm_D hown hK hP hS 0 hI.1 hI.2.1 rfl 0 (by decide) t_213 rfl rfl (ty := .int) (by decide +kernel) rfl rfl d_D_command_2 (fun H locs hP hS => ?_)
  rw [← eM2] at hP
  refine lv_aload_n hx hb d_D_command_5 rfl (lv_at hl 0 rfl) ?_
  refine wd_geti hx hb hts i_D hown hK hP 0 hI.1 hI.2.1 rfl 27 (by decide) t_273 rfl d_D_command_6 ?_
  refine lv_sipush (v := 512) hx hb d_D_command_9 (by decide) ?_
  refine lv_icmp_ge (tgt := 22) hx hb d_D_command_12 (by decide) (fun c12 => ?_) (fun c12 => ?_)
  · replace h := ogt c12 h
    refine lv_sipush (v := 512) hx hb d_D_command_22 (by decide) ?_
    exact w_D_command_25 G hI  x1 x2 512 M2 _ _ _ hP hS (lv_sub hl [0, 1, 2] rfl) h
  · replace h := ogf c12 h
    refine lv_aload_n hx hb d_D_command_15 rfl (lv_at hl 0 rfl) ?_
    refine wd_geti hx hb hts i_D hown hK hP 0 hI.1 hI.2.1 rfl 27 (by decide) t_273 rfl d_D_command_16 ?_
    refine lv_goto (tgt := 25) hx hb d_D_command_19 (by decide) ?_
    exact w_D_command_25 G hI  x1 x2 (M2 0 27) M2 _ _ _ hP hS (lv_sub hl [0, 1, 2] rfl) h
theorem c_D_command (l : Launch) (x1 x2 : Int32) (M : Mm) (sz : Nat) (hI : Is_D dA b N sh B C 0) {rv : Int32} {M' : Mm} (h : f_D_command B C x1 x2 M = some (rv, M')) : Met l y_D_command (wm y_D_command k_D_command 5 (some .int)) rm_D_command (Pw (dC, dI) cls6 (tyl dA) b N sh [.ref (b + 0), .int x1, .int x2] M sz) (Qwi (dC, dI) cls6 b N sh rv M' sz) 0 0 (reg b N sz) := by
  refine mk_met (by decide) (Nat.le_of_ble_eq_true rfl) ?_
  intro p e s m below meth c ls G hsz hP hS hl
  subst hsz
  exact w_D_command_0 G hI _ _ _ ls hP hS hl h
end
abbrev rm_D_open : Room := { frames := 1, cells := 0, slots := 0, locals := 22 }
def B_D_open_47 (B C : Nat) (M : Mm) : Option (Int32 × Mm) := (f_D_fail B C 1 M).bind (fun q49 => some (q49.1, q49.2))
def f_D_open (B C : Nat) (x1 x2 : Int32) (M : Mm) : Option (Int32 × Mm) := bnd (up2 M 0 0 0) (fun M2 => (f_D_within B C x1 0 ((M2 0 1) - 1) M2).bind (fun q13 => (if q13 = 0 then B_D_open_47 B C M2 else (f_D_within B C x2 0 ((M2 0 2) - 1) M2).bind (fun q27 => (if q27 = 0 then B_D_open_47 B C M2 else (if ixb ((8 * x1) + x2) 32 = true then some (M2 2 ((8 * x1) + x2).toNatClampNeg, M2) else none))))))
section
variable {p : Program} {l : Launch} {e : Env} {s : State} {m : MethodId} {args : Array Value} {below : List Frame} {meth : Method} {c : Code} {dC : Nat → ClassId} {dI : Nat → Nat → Nat} {dA : Nat → ClassId} {b N B C : Nat} {sh : Shp}
set_option maxHeartbeats 4000000 in
set_option maxRecDepth 100000 in
theorem w_D_open_47 {rv : Int32} {M' : Mm} (G : Cx p s m args meth c (dC, dI) cls6 (tyl dA) "BankTimesModel" k_D_open 3 (some .int)) (hI : Is_D dA b N sh B C 0)   : ∀ (M : Mm) (H : Heap) (locs : List Loc) (ls : Array Slot), va_P (dC, dI) cls6 (wd b N sh M) H → va_S (reg b N s.heap.size) s.heap H locs → lv_has ls 3 [(0, .ref (b + 0))] → B_D_open_47 B C M = some (rv, M') → W p l e rm_D_open s m args below meth c H locs 0 0 (MQ below (Qwi (dC, dI) cls6 b N sh rv M' s.heap.size) args s 0 0 (reg b N s.heap.size)) (F0 m 47 ls []) := by
  obtain ⟨hx, hb, hml, hr, hown, hts, hlk, hK⟩ := id G
  intro M H locs ls hP hS hl h
  unfold B_D_open_47 at h
  refine lv_aload_n hx hb d_D_open_47 rfl (lv_at hl 0 rfl) ?_
  refine lv_iconst (v := 1) hx hb d_D_open_48 (by decide) ?_
  obtain ⟨q49, hc49, h⟩ := obd h
  refine wd_cvi (As := [.int 1]) (rest := []) ⟨hx, hb, hml, hown, hts⟩ hK hP hS 0 hI.1 hI.2.1 rfl (c_D_fail l 1 M _ hI hc49) (cwV 1 hts (wmV t_253 t_255 t_256 t_229 t_254) rfl rfl rfl (by decide +kernel) ⟨by decide, by decide⟩) rfl hl.1 rfl (Nat.le_of_ble_eq_true rfl) d_D_open_49 ⟨Nat.zero_le _, Nat.zero_le _⟩ (fun H locs hP hS => ?_)
  obtain ⟨rfl, rfl⟩ := oe2 h
  exact wd_iret hx hb hr hlk hP hS d_D_open_52
set_option maxHeartbeats 4000000 in
set_option maxRecDepth 100000 in
theorem w_D_open_0 {rv : Int32} {M' : Mm} (G : Cx p s m args meth c (dC, dI) cls6 (tyl dA) "BankTimesModel" k_D_open 3 (some .int)) (hI : Is_D dA b N sh B C 0)   : ∀ (x1 x2 : Int32) (M : Mm) (ls : Array Slot), va_P (dC, dI) cls6 (wd b N sh M) s.heap → va_S (reg b N s.heap.size) s.heap s.heap [] → lv_has ls 3 [(0, .ref (b + 0)), (1, .int x1), (2, .int x2)] → f_D_open B C x1 x2 M = some (rv, M') → W p l e rm_D_open s m args below meth c s.heap [] 0 0 (MQ below (Qwi (dC, dI) cls6 b N sh rv M' s.heap.size) args s 0 0 (reg b N s.heap.size)) (F0 m 0 ls []) := by
  obtain ⟨hx, hb, hml, hr, hown, hts, hlk, hK⟩ := id G
  intro x1 x2 M ls hP hS hl h
  unfold f_D_open at h
  refine lv_aload_n hx hb d_D_open_0 rfl (lv_at hl 0 rfl) ?_
  refine lv_iconst (v := 0) hx hb d_D_open_1 (by decide) ?_
  obtain ⟨M2, eM2, h⟩ := ln h
  refine wd_puti hx hb hts i_D ty_D tyok_D nm_D hown hK hP hS 0 hI.1 hI.2.1 rfl 0 (by decide) t_213 rfl rfl (ty := .int) (by decide +kernel) rfl rfl d_D_open_2 (fun H locs hP hS => ?_)
  rw [← eM2] at hP
  refine lv_iload_n hx hb d_D_open_5 rfl (lv_at hl 1 rfl) ?_
  refine lv_iconst (v := 0) hx hb d_D_open_6 (by decide) ?_
  refine lv_aload_n hx hb d_D_open_7 rfl (lv_at hl 0 rfl) ?_
  refine wd_geti hx hb hts i_D hown hK hP 0 hI.1 hI.2.1 rfl 1 (by decide) t_230 rfl d_D_open_8 ?_
  refine lv_iconst (v := 1) hx hb d_D_open_11 (by decide) ?_
  refine lv_isub hx hb d_D_open_12 ?_
  obtain ⟨q13, hc13, h⟩ := obd h
  refine wd_csr (As := [.int x1, .int 0, .int ((M2 0 1) - 1)]) (rest := []) ⟨hx, hb, hml, hown, hts⟩ hK hP (c_D_within l x1 0 ((M2 0 1) - 1) M2 _  hc13) ⟨callB_of 3 hts (wm_good t_227) rfl rfl rfl (hts _ t_229) (hts _ t_226) (by decide +kernel) ⟨by decide, by decide⟩, hts _ t_228⟩ rfl hl.1 rfl (Nat.le_of_ble_eq_true rfl) d_D_open_13 ⟨Nat.zero_le _, Nat.zero_le _⟩ ?_
  refine lv_if_eq (tgt := 47) hx hb d_D_open_16 (by decide) (fun c16 => ?_) (fun c16 => ?_)
  · replace h := ogt c16 h
    exact w_D_open_47 G hI  M2 _ _ _ hP hS (lv_sub hl [0] rfl) h
  · replace h := ogf c16 h
    refine lv_iload_n hx hb d_D_open_19 rfl (lv_at hl 2 rfl) ?_
    refine lv_iconst (v := 0) hx hb d_D_open_20 (by decide) ?_
    refine lv_aload_n hx hb d_D_open_21 rfl (lv_at hl 0 rfl) ?_
    refine wd_geti hx hb hts i_D hown hK hP 0 hI.1 hI.2.1 rfl 2 (by decide) t_231 rfl d_D_open_22 ?_
    refine lv_iconst (v := 1) hx hb d_D_open_25 (by decide) ?_
    refine lv_isub hx hb d_D_open_26 ?_
    obtain ⟨q27, hc27, h⟩ := obd h
    refine wd_csr (As := [.int x2, .int 0, .int ((M2 0 2) - 1)]) (rest := []) ⟨hx, hb, hml, hown, hts⟩ hK hP (c_D_within l x2 0 ((M2 0 2) - 1) M2 _  hc27) ⟨callB_of 3 hts (wm_good t_227) rfl rfl rfl (hts _ t_229) (hts _ t_226) (by decide +kernel) ⟨by decide, by decide⟩, hts _ t_228⟩ rfl hl.1 rfl (Nat.le_of_ble_eq_true rfl) d_D_open_27 ⟨Nat.zero_le _, Nat.zero_le _⟩ ?_
    refine lv_if_eq (tgt := 47) hx hb d_D_open_30 (by decide) (fun c30 => ?_) (fun c30 => ?_)
    · replace h := ogt c30 h
      exact w_D_open_47 G hI  M2 _ _ _ hP hS (lv_sub hl [0] rfl) h
    · replace h := ogf c30 h
      refine lv_aload_n hx hb d_D_open_33 rfl (lv_at hl 0 rfl) ?_
      refine wd_getr hx hb hts i_D hown hK hP 0 hI.1 hI.2.1 rfl 8 (by decide) t_220 rfl d_D_open_34 ?_
      refine lv_bipush (v := 8) hx hb d_D_open_37 (by decide) ?_
      refine lv_iload_n hx hb d_D_open_39 rfl (lv_at hl 1 rfl) ?_
      refine lv_imul hx hb d_D_open_40 ?_
      refine lv_iload_n hx hb d_D_open_41 rfl (lv_at hl 2 rfl) ?_
      refine lv_iadd hx hb d_D_open_42 ?_
      obtain ⟨hi43, h⟩ := og h
      refine wd_iald hx hb hK hP 2 0 hI.2.2.2.1.1 hI.2.2.2.1.2 rfl hi43 d_D_open_43 ?_
      refine lv_goto (tgt := 52) hx hb d_D_open_44 (by decide) ?_
      obtain ⟨rfl, rfl⟩ := oe2 h
      exact wd_iret hx hb hr hlk hP hS d_D_open_52
theorem c_D_open (l : Launch) (x1 x2 : Int32) (M : Mm) (sz : Nat) (hI : Is_D dA b N sh B C 0) {rv : Int32} {M' : Mm} (h : f_D_open B C x1 x2 M = some (rv, M')) : Met l y_D_open (wm y_D_open k_D_open 3 (some .int)) rm_D_open (Pw (dC, dI) cls6 (tyl dA) b N sh [.ref (b + 0), .int x1, .int x2] M sz) (Qwi (dC, dI) cls6 b N sh rv M' sz) 0 0 (reg b N sz) := by
  refine mk_met (by decide) (Nat.le_of_ble_eq_true rfl) ?_
  intro p e s m below meth c ls G hsz hP hS hl
  subst hsz
  exact w_D_open_0 G hI _ _ _ ls hP hS hl h
end
abbrev rm_D_begin : Room := { frames := 1, cells := 0, slots := 0, locals := 22 }
def f_D_begin (B C : Nat) (M : Mm) : Option (Mm) := bnd (up2 M 0 0 0) (fun M2 => (f_D_clear B C 2 M2).bind (fun q7 => (f_D_clear B C 3 q7).bind (fun q12 => some q12)))
section
variable {p : Program} {l : Launch} {e : Env} {s : State} {m : MethodId} {args : Array Value} {below : List Frame} {meth : Method} {c : Code} {dC : Nat → ClassId} {dI : Nat → Nat → Nat} {dA : Nat → ClassId} {b N B C : Nat} {sh : Shp}
set_option maxHeartbeats 4000000 in
set_option maxRecDepth 100000 in
theorem w_D_begin_0 {M' : Mm} (G : Cx p s m args meth c (dC, dI) cls6 (tyl dA) "BankTimesModel" k_D_begin 1 none) (hI : Is_D dA b N sh B C 0)   : ∀ (M : Mm) (ls : Array Slot), va_P (dC, dI) cls6 (wd b N sh M) s.heap → va_S (reg b N s.heap.size) s.heap s.heap [] → lv_has ls 1 [(0, .ref (b + 0))] → f_D_begin B C M = some M' → W p l e rm_D_begin s m args below meth c s.heap [] 0 0 (MQ below (Qwv (dC, dI) cls6 b N sh M' s.heap.size) args s 0 0 (reg b N s.heap.size)) (F0 m 0 ls []) := by
  obtain ⟨hx, hb, hml, hr, hown, hts, hlk, hK⟩ := id G
  intro M ls hP hS hl h
  unfold f_D_begin at h
  refine lv_aload_n hx hb d_D_begin_0 rfl (lv_at hl 0 rfl) ?_
  refine lv_iconst (v := 0) hx hb d_D_begin_1 (by decide) ?_
  obtain ⟨M2, eM2, h⟩ := ln h
  refine wd_puti hx hb hts i_D ty_D tyok_D nm_D hown hK hP hS 0 hI.1 hI.2.1 rfl 0 (by decide) t_213 rfl rfl (ty := .int) (by decide +kernel) rfl rfl d_D_begin_2 (fun H locs hP hS => ?_)
  rw [← eM2] at hP
  refine lv_aload_n hx hb d_D_begin_5 rfl (lv_at hl 0 rfl) ?_
  refine lv_iconst (v := 2) hx hb d_D_begin_6 (by decide) ?_
  obtain ⟨q7, hc7, h⟩ := obd h
  refine wd_cvv (As := [.int 2]) (rest := []) ⟨hx, hb, hml, hown, hts⟩ hK hP hS 0 hI.1 hI.2.1 rfl (c_D_clear l 2 M2 _ hI hc7) (cwV 1 hts (wmV t_341 t_343 t_344 t_229 t_342) rfl rfl rfl (by decide +kernel) ⟨by decide, by decide⟩) rfl hl.1 rfl (Nat.le_of_ble_eq_true rfl) d_D_begin_7 ⟨Nat.zero_le _, Nat.zero_le _⟩ (fun H locs hP hS => ?_)
  refine lv_aload_n hx hb d_D_begin_10 rfl (lv_at hl 0 rfl) ?_
  refine lv_iconst (v := 3) hx hb d_D_begin_11 (by decide) ?_
  obtain ⟨q12, hc12, h⟩ := obd h
  refine wd_cvv (As := [.int 3]) (rest := []) ⟨hx, hb, hml, hown, hts⟩ hK hP hS 0 hI.1 hI.2.1 rfl (c_D_clear l 3 q7 _ hI hc12) (cwV 1 hts (wmV t_341 t_343 t_344 t_229 t_342) rfl rfl rfl (by decide +kernel) ⟨by decide, by decide⟩) rfl hl.1 rfl (Nat.le_of_ble_eq_true rfl) d_D_begin_12 ⟨Nat.zero_le _, Nat.zero_le _⟩ (fun H locs hP hS => ?_)
  obtain rfl := oe h
  exact wd_vret hx hb hr hlk hP hS d_D_begin_15
theorem c_D_begin (l : Launch) (M : Mm) (sz : Nat) (hI : Is_D dA b N sh B C 0) {M' : Mm} (h : f_D_begin B C M = some M') : Met l y_D_begin (wm y_D_begin k_D_begin 1 none) rm_D_begin (Pw (dC, dI) cls6 (tyl dA) b N sh [.ref (b + 0)] M sz) (Qwv (dC, dI) cls6 b N sh M' sz) 0 0 (reg b N sz) := by
  refine mk_met (by decide) (Nat.le_of_ble_eq_true rfl) ?_
  intro p e s m below meth c ls G hsz hP hS hl
  subst hsz
  exact w_D_begin_0 G hI _ ls hP hS hl h
end
abbrev rm_D_check : Room := { frames := 2, cells := 0, slots := 0, locals := 51 }
def B_D_check_91 (B C : Nat) (x1 x2 x3 x4 x5 : Int32) (M : Mm) : Option (Int32 × Mm) := bnd (2 + x1) (fun v94 => (if ixb v94 4 = true then (if (M 11 v94.toNatClampNeg) < x2 then (f_D_fits B C v94 x3 x4 x5 M).bind (fun q117 => (if q117 = 0 then some (2, M) else (f_D_broken B C v94 x3 x4 x2 M).bind (fun q132 => (if q132 < 0 then (f_D_note B C v94 x3 x4 x5 x2 M).bind (fun q156 => (if ixb v94 4 = true then bnd (up2 q156 11 v94.toNatClampNeg x2) (fun M166 => some (0, M166)) else none)) else some ((3 + q132), M))))) else some (1, M)) else none))
def B_D_check_85 (B C : Nat) (M : Mm) : Option (Int32 × Mm) := (f_D_fail B C 1 M).bind (fun q87 => some (q87.1, q87.2))
def B_D_check_63 (B C : Nat) (x1 x2 x3 x4 x5 s0 : Int32) (M : Mm) : Option (Int32 × Mm) := (if s0 = 0 then B_D_check_85 B C M else (if x3 = 4 then (if x4 = 0 then (if x5 = 0 then B_D_check_91 B C x1 x2 x3 x4 x5 M else B_D_check_85 B C M) else B_D_check_85 B C M) else B_D_check_91 B C x1 x2 x3 x4 x5 M))
def B_D_check_62 (B C : Nat) (x1 x2 x3 x4 x5 : Int32) (M : Mm) : Option (Int32 × Mm) := B_D_check_63 B C x1 x2 x3 x4 x5 0 M
def f_D_check (B C : Nat) (x1 x2 x3 x4 x5 : Int32) (M : Mm) : Option (Int32 × Mm) := bnd (up2 M 0 0 0) (fun M2 => (f_D_within B C x1 0 ((M2 0 1) - 1) M2).bind (fun q13 => (if q13 = 0 then B_D_check_62 B C x1 x2 x3 x4 x5 M2 else (f_D_within B C x3 0 4 M2).bind (fun q22 => (if q22 = 0 then B_D_check_62 B C x1 x2 x3 x4 x5 M2 else (f_D_within B C x4 0 ((M2 0 2) - 1) M2).bind (fun q37 => (if q37 = 0 then B_D_check_62 B C x1 x2 x3 x4 x5 M2 else (if x2 < 0 then B_D_check_62 B C x1 x2 x3 x4 x5 M2 else (f_D_within B C x5 0 65535 M2).bind (fun q52 => (if q52 = 0 then B_D_check_62 B C x1 x2 x3 x4 x5 M2 else B_D_check_63 B C x1 x2 x3 x4 x5 1 M2))))))))))
section
variable {p : Program} {l : Launch} {e : Env} {s : State} {m : MethodId} {args : Array Value} {below : List Frame} {meth : Method} {c : Code} {dC : Nat → ClassId} {dI : Nat → Nat → Nat} {dA : Nat → ClassId} {b N B C : Nat} {sh : Shp}
set_option maxHeartbeats 4000000 in
set_option maxRecDepth 100000 in
theorem w_D_check_91 {rv : Int32} {M' : Mm} (G : Cx p s m args meth c (dC, dI) cls6 (tyl dA) "BankTimesModel" k_D_check 9 (some .int)) (hI : Is_D dA b N sh B C 0)   : ∀ (x1 x2 x3 x4 x5 : Int32) (M : Mm) (H : Heap) (locs : List Loc) (ls : Array Slot), va_P (dC, dI) cls6 (wd b N sh M) H → va_S (reg b N s.heap.size) s.heap H locs → lv_has ls 9 [(0, .ref (b + 0)), (1, .int x1), (2, .int x2), (3, .int x3), (4, .int x4), (5, .int x5)] → B_D_check_91 B C x1 x2 x3 x4 x5 M = some (rv, M') → W p l e rm_D_check s m args below meth c H locs 0 0 (MQ below (Qwi (dC, dI) cls6 b N sh rv M' s.heap.size) args s 0 0 (reg b N s.heap.size)) (F0 m 91 ls []) := by
  obtain ⟨hx, hb, hml, hr, hown, hts, hlk, hK⟩ := id G
  intro x1 x2 x3 x4 x5 M H locs ls hP hS hl h
  unfold B_D_check_91 at h
  refine lv_iconst (v := 2) hx hb d_D_check_91 (by decide) ?_
  refine lv_iload_n hx hb d_D_check_92 rfl (lv_at hl 1 rfl) ?_
  refine lv_iadd hx hb d_D_check_93 ?_
  obtain ⟨v94, e94, h⟩ := ln h
  refine lv_nm e94 ?_
  refine lv_istore (lv' := [(7, .int v94), (0, .ref (b + 0)), (1, .int x1), (2, .int x2), (3, .int x3), (4, .int x4), (5, .int x5)]) hx hb d_D_check_94 hl (by decide) rfl (fun ls hl => ?_)
  refine lv_iload_n hx hb d_D_check_96 rfl (lv_at hl 3 rfl) ?_
  refine lv_aload_n hx hb d_D_check_97 rfl (lv_at hl 1 rfl) ?_
  refine wd_getr hx hb hts i_D hown hK hP 0 hI.1 hI.2.1 rfl 17 (by decide) t_218 rfl d_D_check_98 ?_
  refine lv_iload hx hb d_D_check_101 (lv_at hl 0 rfl) ?_
  obtain ⟨hi103, h⟩ := og h
  refine wd_iald hx hb hK hP 11 0 hI.2.2.2.2.2.2.2.2.2.2.2.2.1.1 hI.2.2.2.2.2.2.2.2.2.2.2.2.1.2 rfl hi103 d_D_check_103 ?_
  refine lv_icmp_gt (tgt := 109) hx hb d_D_check_104 (by decide) (fun c104 => ?_) (fun c104 => ?_)
  · replace h := ogt c104 h
    refine lv_aload_n hx hb d_D_check_109 rfl (lv_at hl 1 rfl) ?_
    refine lv_iload hx hb d_D_check_110 (lv_at hl 0 rfl) ?_
    refine lv_iload_n hx hb d_D_check_112 rfl (lv_at hl 4 rfl) ?_
    refine lv_iload hx hb d_D_check_113 (lv_at hl 5 rfl) ?_
    refine lv_iload hx hb d_D_check_115 (lv_at hl 6 rfl) ?_
    obtain ⟨q117, hc117, h⟩ := obd h
    refine wd_cvr (As := [.int v94, .int x3, .int x4, .int x5]) (rest := []) ⟨hx, hb, hml, hown, hts⟩ hK hP 0 hI.1 hI.2.1 rfl (c_D_fits l v94 x3 x4 x5 M _ hI hc117) (cwV 4 hts (wmV t_345 t_347 t_348 t_229 t_346) rfl rfl rfl (by decide +kernel) ⟨by decide, by decide⟩) rfl hl.1 rfl (Nat.le_of_ble_eq_true rfl) d_D_check_117 ⟨Nat.zero_le _, Nat.zero_le _⟩ ?_
    refine lv_if_ne (tgt := 125) hx hb d_D_check_120 (by decide) (fun c120 => ?_) (fun c120 => ?_)
    · replace h := ogf c120 h
      refine lv_aload_n hx hb d_D_check_125 rfl (lv_at hl 1 rfl) ?_
      refine lv_iload hx hb d_D_check_126 (lv_at hl 0 rfl) ?_
      refine lv_iload_n hx hb d_D_check_128 rfl (lv_at hl 4 rfl) ?_
      refine lv_iload hx hb d_D_check_129 (lv_at hl 5 rfl) ?_
      refine lv_iload_n hx hb d_D_check_131 rfl (lv_at hl 3 rfl) ?_
      obtain ⟨q132, hc132, h⟩ := obd h
      refine wd_cvr (As := [.int v94, .int x3, .int x4, .int x2]) (rest := []) ⟨hx, hb, hml, hown, hts⟩ hK hP 0 hI.1 hI.2.1 rfl (c_D_broken l v94 x3 x4 x2 M _ hI hc132) (cwV 4 hts (wmV t_288 t_290 t_291 t_229 t_289) rfl rfl rfl (by decide +kernel) ⟨by decide, by decide⟩) rfl hl.1 rfl (Nat.le_of_ble_eq_true rfl) d_D_check_132 ⟨Nat.zero_le _, Nat.zero_le _⟩ ?_
      refine lv_istore (lv' := [(8, .int q132), (7, .int v94), (0, .ref (b + 0)), (1, .int x1), (2, .int x2), (3, .int x3), (4, .int x4), (5, .int x5)]) hx hb d_D_check_135 hl (by decide) rfl (fun ls hl => ?_)
      refine lv_iload hx hb d_D_check_137 (lv_at hl 0 rfl) ?_
      refine lv_if_lt (tgt := 147) hx hb d_D_check_139 (by decide) (fun c139 => ?_) (fun c139 => ?_)
      · replace h := ogt c139 h
        refine lv_aload_n hx hb d_D_check_147 rfl (lv_at hl 2 rfl) ?_
        refine lv_iload hx hb d_D_check_148 (lv_at hl 1 rfl) ?_
        refine lv_iload_n hx hb d_D_check_150 rfl (lv_at hl 5 rfl) ?_
        refine lv_iload hx hb d_D_check_151 (lv_at hl 6 rfl) ?_
        refine lv_iload hx hb d_D_check_153 (lv_at hl 7 rfl) ?_
        refine lv_iload_n hx hb d_D_check_155 rfl (lv_at hl 4 rfl) ?_
        obtain ⟨q156, hc156, h⟩ := obd h
        refine wd_cvv (As := [.int v94, .int x3, .int x4, .int x5, .int x2]) (rest := []) ⟨hx, hb, hml, hown, hts⟩ hK hP hS 0 hI.1 hI.2.1 rfl (c_D_note l v94 x3 x4 x5 x2 M _ hI hc156) (cwV 5 hts (wmV t_280 t_282 t_283 t_229 t_281) rfl rfl rfl (by decide +kernel) ⟨by decide, by decide⟩) rfl hl.1 rfl (Nat.le_of_ble_eq_true rfl) d_D_check_156 ⟨Nat.zero_le _, Nat.zero_le _⟩ (fun H locs hP hS => ?_)
        refine lv_aload_n hx hb d_D_check_159 rfl (lv_at hl 2 rfl) ?_
        refine wd_getr hx hb hts i_D hown hK hP 0 hI.1 hI.2.1 rfl 17 (by decide) t_218 rfl d_D_check_160 ?_
        refine lv_iload hx hb d_D_check_163 (lv_at hl 1 rfl) ?_
        refine lv_iload_n hx hb d_D_check_165 rfl (lv_at hl 4 rfl) ?_
        obtain ⟨hi166, h⟩ := og h
        obtain ⟨M166, eM166, h⟩ := ln h
        refine wd_iast hx hb hK hP hS 11 0 hI.2.2.2.2.2.2.2.2.2.2.2.2.1.1 hI.2.2.2.2.2.2.2.2.2.2.2.2.1.2 rfl hi166 d_D_check_166 (fun H locs hP hS => ?_)
        rw [← eM166] at hP
        refine lv_iconst (v := 0) hx hb d_D_check_167 (by decide) ?_
        obtain ⟨rfl, rfl⟩ := oe2 h
        exact wd_iret hx hb hr hlk hP hS d_D_check_168
      · replace h := ogf c139 h
        refine lv_iconst (v := 3) hx hb d_D_check_142 (by decide) ?_
        refine lv_iload hx hb d_D_check_143 (lv_at hl 0 rfl) ?_
        refine lv_iadd hx hb d_D_check_145 ?_
        obtain ⟨rfl, rfl⟩ := oe2 h
        exact wd_iret hx hb hr hlk hP hS d_D_check_146
    · replace h := ogt c120 h
      refine lv_iconst (v := 2) hx hb d_D_check_123 (by decide) ?_
      obtain ⟨rfl, rfl⟩ := oe2 h
      exact wd_iret hx hb hr hlk hP hS d_D_check_124
  · replace h := ogf c104 h
    refine lv_iconst (v := 1) hx hb d_D_check_107 (by decide) ?_
    obtain ⟨rfl, rfl⟩ := oe2 h
    exact wd_iret hx hb hr hlk hP hS d_D_check_108
set_option maxHeartbeats 4000000 in
set_option maxRecDepth 100000 in
theorem w_D_check_85 {rv : Int32} {M' : Mm} (G : Cx p s m args meth c (dC, dI) cls6 (tyl dA) "BankTimesModel" k_D_check 9 (some .int)) (hI : Is_D dA b N sh B C 0)   : ∀ (M : Mm) (H : Heap) (locs : List Loc) (ls : Array Slot), va_P (dC, dI) cls6 (wd b N sh M) H → va_S (reg b N s.heap.size) s.heap H locs → lv_has ls 9 [(0, .ref (b + 0))] → B_D_check_85 B C M = some (rv, M') → W p l e rm_D_check s m args below meth c H locs 0 0 (MQ below (Qwi (dC, dI) cls6 b N sh rv M' s.heap.size) args s 0 0 (reg b N s.heap.size)) (F0 m 85 ls []) := by
  obtain ⟨hx, hb, hml, hr, hown, hts, hlk, hK⟩ := id G
  intro M H locs ls hP hS hl h
  unfold B_D_check_85 at h
  refine lv_aload_n hx hb d_D_check_85 rfl (lv_at hl 0 rfl) ?_
  refine lv_iconst (v := 1) hx hb d_D_check_86 (by decide) ?_
  obtain ⟨q87, hc87, h⟩ := obd h
  refine wd_cvi (As := [.int 1]) (rest := []) ⟨hx, hb, hml, hown, hts⟩ hK hP hS 0 hI.1 hI.2.1 rfl (c_D_fail l 1 M _ hI hc87) (cwV 1 hts (wmV t_253 t_255 t_256 t_229 t_254) rfl rfl rfl (by decide +kernel) ⟨by decide, by decide⟩) rfl hl.1 rfl (Nat.le_of_ble_eq_true rfl) d_D_check_87 ⟨Nat.zero_le _, Nat.zero_le _⟩ (fun H locs hP hS => ?_)
  obtain ⟨rfl, rfl⟩ := oe2 h
  exact wd_iret hx hb hr hlk hP hS d_D_check_90
set_option maxHeartbeats 4000000 in
set_option maxRecDepth 100000 in
theorem w_D_check_63 {rv : Int32} {M' : Mm} (G : Cx p s m args meth c (dC, dI) cls6 (tyl dA) "BankTimesModel" k_D_check 9 (some .int)) (hI : Is_D dA b N sh B C 0)   : ∀ (x1 x2 x3 x4 x5 s0 : Int32) (M : Mm) (H : Heap) (locs : List Loc) (ls : Array Slot), va_P (dC, dI) cls6 (wd b N sh M) H → va_S (reg b N s.heap.size) s.heap H locs → lv_has ls 9 [(0, .ref (b + 0)), (1, .int x1), (2, .int x2), (3, .int x3), (4, .int x4), (5, .int x5)] → B_D_check_63 B C x1 x2 x3 x4 x5 s0 M = some (rv, M') → W p l e rm_D_check s m args below meth c H locs 0 0 (MQ below (Qwi (dC, dI) cls6 b N sh rv M' s.heap.size) args s 0 0 (reg b N s.heap.size)) (F0 m 63 ls [.int s0]) := by
  obtain ⟨hx, hb, hml, hr, hown, hts, hlk, hK⟩ := id G
  intro x1 x2 x3 x4 x5 s0 M H locs ls hP hS hl h
  unfold B_D_check_63 at h
  refine lv_istore (lv' := [(6, .int s0), (0, .ref (b + 0)), (1, .int x1), (2, .int x2), (3, .int x3), (4, .int x4), (5, .int x5)]) hx hb d_D_check_63 hl (by decide) rfl (fun ls hl => ?_)
  refine lv_iload hx hb d_D_check_65 (lv_at hl 0 rfl) ?_
  refine lv_if_eq (tgt := 85) hx hb d_D_check_67 (by decide) (fun c67 => ?_) (fun c67 => ?_)
  · replace h := ogt c67 h
    exact w_D_check_85 G hI  M _ _ _ hP hS (lv_sub hl [1] rfl) h
  · replace h := ogf c67 h
    refine lv_iload_n hx hb d_D_check_70 rfl (lv_at hl 4 rfl) ?_
    refine lv_iconst (v := 4) hx hb d_D_check_71 (by decide) ?_
    refine lv_icmp_ne (tgt := 91) hx hb d_D_check_72 (by decide) (fun c72 => ?_) (fun c72 => ?_)
    · replace h := ogf c72 h
      exact w_D_check_91 G hI  x1 x2 x3 x4 x5 M _ _ _ hP hS (lv_sub hl [1, 2, 3, 4, 5, 6] rfl) h
    · replace h := ogt c72 h
      refine lv_iload hx hb d_D_check_75 (lv_at hl 5 rfl) ?_
      refine lv_if_ne (tgt := 85) hx hb d_D_check_77 (by decide) (fun c77 => ?_) (fun c77 => ?_)
      · replace h := ogf c77 h
        exact w_D_check_85 G hI  M _ _ _ hP hS (lv_sub hl [1] rfl) h
      · replace h := ogt c77 h
        refine lv_iload hx hb d_D_check_80 (lv_at hl 6 rfl) ?_
        refine lv_if_eq (tgt := 91) hx hb d_D_check_82 (by decide) (fun c82 => ?_) (fun c82 => ?_)
        · replace h := ogt c82 h
          exact w_D_check_91 G hI  x1 x2 x3 x4 x5 M _ _ _ hP hS (lv_sub hl [1, 2, 3, 4, 5, 6] rfl) h
        · replace h := ogf c82 h
          exact w_D_check_85 G hI  M _ _ _ hP hS (lv_sub hl [1] rfl) h
set_option maxHeartbeats 4000000 in
set_option maxRecDepth 100000 in
theorem w_D_check_62 {rv : Int32} {M' : Mm} (G : Cx p s m args meth c (dC, dI) cls6 (tyl dA) "BankTimesModel" k_D_check 9 (some .int)) (hI : Is_D dA b N sh B C 0)   : ∀ (x1 x2 x3 x4 x5 : Int32) (M : Mm) (H : Heap) (locs : List Loc) (ls : Array Slot), va_P (dC, dI) cls6 (wd b N sh M) H → va_S (reg b N s.heap.size) s.heap H locs → lv_has ls 9 [(0, .ref (b + 0)), (1, .int x1), (2, .int x2), (3, .int x3), (4, .int x4), (5, .int x5)] → B_D_check_62 B C x1 x2 x3 x4 x5 M = some (rv, M') → W p l e rm_D_check s m args below meth c H locs 0 0 (MQ below (Qwi (dC, dI) cls6 b N sh rv M' s.heap.size) args s 0 0 (reg b N s.heap.size)) (F0 m 62 ls []) := by
  obtain ⟨hx, hb, hml, hr, hown, hts, hlk, hK⟩ := id G
  intro x1 x2 x3 x4 x5 M H locs ls hP hS hl h
  unfold B_D_check_62 at h
  refine lv_iconst (v := 0) hx hb d_D_check_62 (by decide) ?_
  exact w_D_check_63 G hI  x1 x2 x3 x4 x5 0 M _ _ _ hP hS (lv_sub hl [0, 1, 2, 3, 4, 5] rfl) h
set_option maxHeartbeats 4000000 in
set_option maxRecDepth 100000 in
theorem w_D_check_0 {rv : Int32} {M' : Mm} (G : Cx p s m args meth c (dC, dI) cls6 (tyl dA) "BankTimesModel" k_D_check 9 (some .int)) (hI : Is_D dA b N sh B C 0)   : ∀ (x1 x2 x3 x4 x5 : Int32) (M : Mm) (ls : Array Slot), va_P (dC, dI) cls6 (wd b N sh M) s.heap → va_S (reg b N s.heap.size) s.heap s.heap [] → lv_has ls 9 [(0, .ref (b + 0)), (1, .int x1), (2, .int x2), (3, .int x3), (4, .int x4), (5, .int x5)] → f_D_check B C x1 x2 x3 x4 x5 M = some (rv, M') → W p l e rm_D_check s m args below meth c s.heap [] 0 0 (MQ below (Qwi (dC, dI) cls6 b N sh rv M' s.heap.size) args s 0 0 (reg b N s.heap.size)) (F0 m 0 ls []) := by
  obtain ⟨hx, hb, hml, hr, hown, hts, hlk, hK⟩ := id G
  intro x1 x2 x3 x4 x5 M ls hP hS hl h
  unfold f_D_check at h
  refine lv_aload_n hx hb d_D_check_0 rfl (lv_at hl 0 rfl) ?_
  refine lv_iconst (v := 0) hx hb d_D_check_1 (by decide) ?_
  obtain ⟨M2, eM2, h⟩ := ln h
  refine wd_puti hx hb hts i_D ty_D tyok_D nm_D hown hK hP hS 0 hI.1 hI.2.1 rfl 0 (by decide) t_213 rfl rfl (ty := .int) (by decide +kernel) rfl rfl d_D_check_2 (fun H locs hP hS => ?_)
  rw [← eM2] at hP
  refine lv_iload_n hx hb d_D_check_5 rfl (lv_at hl 1 rfl) ?_
  refine lv_iconst (v := 0) hx hb d_D_check_6 (by decide) ?_
  refine lv_aload_n hx hb d_D_check_7 rfl (lv_at hl 0 rfl) ?_
  refine wd_geti hx hb hts i_D hown hK hP 0 hI.1 hI.2.1 rfl 1 (by decide) t_230 rfl d_D_check_8 ?_
  refine lv_iconst (v := 1) hx hb d_D_check_11 (by decide) ?_
  refine lv_isub hx hb d_D_check_12 ?_
  obtain ⟨q13, hc13, h⟩ := obd h
  refine wd_csr (As := [.int x1, .int 0, .int ((M2 0 1) - 1)]) (rest := []) ⟨hx, hb, hml, hown, hts⟩ hK hP (c_D_within l x1 0 ((M2 0 1) - 1) M2 _  hc13) ⟨callB_of 3 hts (wm_good t_227) rfl rfl rfl (hts _ t_229) (hts _ t_226) (by decide +kernel) ⟨by decide, by decide⟩, hts _ t_228⟩ rfl hl.1 rfl (Nat.le_of_ble_eq_true rfl) d_D_check_13 ⟨Nat.zero_le _, Nat.zero_le _⟩ ?_
  refine lv_if_eq (tgt := 62) hx hb d_D_check_16 (by decide) (fun c16 => ?_) (fun c16 => ?_)
  · replace h := ogt c16 h
    exact w_D_check_62 G hI  x1 x2 x3 x4 x5 M2 _ _ _ hP hS (lv_sub hl [0, 1, 2, 3, 4, 5] rfl) h
  · replace h := ogf c16 h
    refine lv_iload_n hx hb d_D_check_19 rfl (lv_at hl 3 rfl) ?_
    refine lv_iconst (v := 0) hx hb d_D_check_20 (by decide) ?_
    refine lv_iconst (v := 4) hx hb d_D_check_21 (by decide) ?_
    obtain ⟨q22, hc22, h⟩ := obd h
    refine wd_csr (As := [.int x3, .int 0, .int 4]) (rest := []) ⟨hx, hb, hml, hown, hts⟩ hK hP (c_D_within l x3 0 4 M2 _  hc22) ⟨callB_of 3 hts (wm_good t_227) rfl rfl rfl (hts _ t_229) (hts _ t_226) (by decide +kernel) ⟨by decide, by decide⟩, hts _ t_228⟩ rfl hl.1 rfl (Nat.le_of_ble_eq_true rfl) d_D_check_22 ⟨Nat.zero_le _, Nat.zero_le _⟩ ?_
    refine lv_if_eq (tgt := 62) hx hb d_D_check_25 (by decide) (fun c25 => ?_) (fun c25 => ?_)
    · replace h := ogt c25 h
      exact w_D_check_62 G hI  x1 x2 x3 x4 x5 M2 _ _ _ hP hS (lv_sub hl [0, 1, 2, 3, 4, 5] rfl) h
    · replace h := ogf c25 h
      refine lv_iload hx hb d_D_check_28 (lv_at hl 4 rfl) ?_
      refine lv_iconst (v := 0) hx hb d_D_check_30 (by decide) ?_
      refine lv_aload_n hx hb d_D_check_31 rfl (lv_at hl 0 rfl) ?_
      refine wd_geti hx hb hts i_D hown hK hP 0 hI.1 hI.2.1 rfl 2 (by decide) t_231 rfl d_D_check_32 ?_
      refine lv_iconst (v := 1) hx hb d_D_check_35 (by decide) ?_
      refine lv_isub hx hb d_D_check_36 ?_
      obtain ⟨q37, hc37, h⟩ := obd h
      refine wd_csr (As := [.int x4, .int 0, .int ((M2 0 2) - 1)]) (rest := []) ⟨hx, hb, hml, hown, hts⟩ hK hP (c_D_within l x4 0 ((M2 0 2) - 1) M2 _  hc37) ⟨callB_of 3 hts (wm_good t_227) rfl rfl rfl (hts _ t_229) (hts _ t_226) (by decide +kernel) ⟨by decide, by decide⟩, hts _ t_228⟩ rfl hl.1 rfl (Nat.le_of_ble_eq_true rfl) d_D_check_37 ⟨Nat.zero_le _, Nat.zero_le _⟩ ?_
      refine lv_if_eq (tgt := 62) hx hb d_D_check_40 (by decide) (fun c40 => ?_) (fun c40 => ?_)
      · replace h := ogt c40 h
        exact w_D_check_62 G hI  x1 x2 x3 x4 x5 M2 _ _ _ hP hS (lv_sub hl [0, 1, 2, 3, 4, 5] rfl) h
      · replace h := ogf c40 h
        refine lv_iload_n hx hb d_D_check_43 rfl (lv_at hl 2 rfl) ?_
        refine lv_if_lt (tgt := 62) hx hb d_D_check_44 (by decide) (fun c44 => ?_) (fun c44 => ?_)
        · replace h := ogt c44 h
          exact w_D_check_62 G hI  x1 x2 x3 x4 x5 M2 _ _ _ hP hS (lv_sub hl [0, 1, 2, 3, 4, 5] rfl) h
        · replace h := ogf c44 h
          refine lv_iload hx hb d_D_check_47 (lv_at hl 5 rfl) ?_
          refine lv_iconst (v := 0) hx hb d_D_check_49 (by decide) ?_
          refine lv_ldc (v := 65535) hx hb hown (hts _ t_349) d_D_check_50 ?_
          obtain ⟨q52, hc52, h⟩ := obd h
          refine wd_csr (As := [.int x5, .int 0, .int 65535]) (rest := []) ⟨hx, hb, hml, hown, hts⟩ hK hP (c_D_within l x5 0 65535 M2 _  hc52) ⟨callB_of 3 hts (wm_good t_227) rfl rfl rfl (hts _ t_229) (hts _ t_226) (by decide +kernel) ⟨by decide, by decide⟩, hts _ t_228⟩ rfl hl.1 rfl (Nat.le_of_ble_eq_true rfl) d_D_check_52 ⟨Nat.zero_le _, Nat.zero_le _⟩ ?_
          refine lv_if_eq (tgt := 62) hx hb d_D_check_55 (by decide) (fun c55 => ?_) (fun c55 => ?_)
          · replace h := ogt c55 h
            exact w_D_check_62 G hI  x1 x2 x3 x4 x5 M2 _ _ _ hP hS (lv_sub hl [0, 1, 2, 3, 4, 5] rfl) h
          · replace h := ogf c55 h
            refine lv_iconst (v := 1) hx hb d_D_check_58 (by decide) ?_
            refine lv_goto (tgt := 63) hx hb d_D_check_59 (by decide) ?_
            exact w_D_check_63 G hI  x1 x2 x3 x4 x5 1 M2 _ _ _ hP hS (lv_sub hl [0, 1, 2, 3, 4, 5] rfl) h
theorem c_D_check (l : Launch) (x1 x2 x3 x4 x5 : Int32) (M : Mm) (sz : Nat) (hI : Is_D dA b N sh B C 0) {rv : Int32} {M' : Mm} (h : f_D_check B C x1 x2 x3 x4 x5 M = some (rv, M')) : Met l y_D_check (wm y_D_check k_D_check 9 (some .int)) rm_D_check (Pw (dC, dI) cls6 (tyl dA) b N sh [.ref (b + 0), .int x1, .int x2, .int x3, .int x4, .int x5] M sz) (Qwi (dC, dI) cls6 b N sh rv M' sz) 0 0 (reg b N sz) := by
  refine mk_met (by decide) (Nat.le_of_ble_eq_true rfl) ?_
  intro p e s m below meth c ls G hsz hP hS hl
  subst hsz
  exact w_D_check_0 G hI _ _ _ _ _ _ ls hP hS hl h
end
abbrev rm_D_count : Room := { frames := 2, cells := 0, slots := 0, locals := 44 }
def B_D_count_152 (B C : Nat) (s0 s1 : Int32) (M : Mm) : Option (Int32 × Mm) := some ((s0 + s1), M)
def B_D_count_138 (B C : Nat) (s0 : Int32) (M : Mm) : Option (Int32 × Mm) := (if ixb 1 2 = true then (if (M 12 (1 : Int32).toNatClampNeg) = 0 then B_D_count_152 B C s0 0 M else B_D_count_152 B C s0 1 M) else none)
def f_D_count (B C : Nat) (x1 : Int32) (M : Mm) : Option (Int32 × Mm) := bnd (up2 M 0 0 0) (fun M2 => (f_D_within B C x1 0 13 M2).bind (fun q9 => (if q9 = 0 then some ((-1), M2) else (f_D_within B C x1 4 8 M2).bind (fun q21 => (if q21 = 0 then (if x1 = 0 then some (M2 0 5, M2) else (if x1 = 1 then some (M2 0 20, M2) else (if x1 = 2 then some (M2 0 21, M2) else (if x1 = 3 then some (M2 0 27, M2) else (if x1 = 4 then some (M2 0 2, M2) else (if x1 = 5 then some (M2 0 2, M2) else (if x1 = 6 then some (M2 0 2, M2) else (if x1 = 7 then some (M2 0 2, M2) else (if x1 = 8 then some (M2 0 2, M2) else (if x1 = 9 then (if ixb 0 2 = true then (if (M2 12 (0 : Int32).toNatClampNeg) = 0 then B_D_count_138 B C 0 M2 else B_D_count_138 B C 1 M2) else none) else (if x1 = 10 then (f_D_waiting B C (-1) M2).bind (fun q156 => some (q156, M2)) else (if x1 = 11 then some (M2 0 22, M2) else (if x1 = 12 then some (M2 0 1, M2) else some (M2 0 2, M2)))))))))))))) else (if ixb (x1 - 4) 5 = true then some (M2 18 (x1 - 4).toNatClampNeg, M2) else none))))))
section
variable {p : Program} {l : Launch} {e : Env} {s : State} {m : MethodId} {args : Array Value} {below : List Frame} {meth : Method} {c : Code} {dC : Nat → ClassId} {dI : Nat → Nat → Nat} {dA : Nat → ClassId} {b N B C : Nat} {sh : Shp}
set_option maxHeartbeats 4000000 in
set_option maxRecDepth 100000 in
theorem w_D_count_152 {rv : Int32} {M' : Mm} (G : Cx p s m args meth c (dC, dI) cls6 (tyl dA) "BankTimesModel" k_D_count 2 (some .int)) (hI : Is_D dA b N sh B C 0)   : ∀ (s0 s1 : Int32) (M : Mm) (H : Heap) (locs : List Loc) (ls : Array Slot), va_P (dC, dI) cls6 (wd b N sh M) H → va_S (reg b N s.heap.size) s.heap H locs → lv_has ls 2 [] → B_D_count_152 B C s0 s1 M = some (rv, M') → W p l e rm_D_count s m args below meth c H locs 0 0 (MQ below (Qwi (dC, dI) cls6 b N sh rv M' s.heap.size) args s 0 0 (reg b N s.heap.size)) (F0 m 152 ls [.int s1, .int s0]) := by
  obtain ⟨hx, hb, hml, hr, hown, hts, hlk, hK⟩ := id G
  intro s0 s1 M H locs ls hP hS hl h
  unfold B_D_count_152 at h
  refine lv_iadd hx hb d_D_count_152 ?_
  obtain ⟨rfl, rfl⟩ := oe2 h
  exact wd_iret hx hb hr hlk hP hS d_D_count_153
set_option maxHeartbeats 4000000 in
set_option maxRecDepth 100000 in
theorem w_D_count_138 {rv : Int32} {M' : Mm} (G : Cx p s m args meth c (dC, dI) cls6 (tyl dA) "BankTimesModel" k_D_count 2 (some .int)) (hI : Is_D dA b N sh B C 0)   : ∀ (s0 : Int32) (M : Mm) (H : Heap) (locs : List Loc) (ls : Array Slot), va_P (dC, dI) cls6 (wd b N sh M) H → va_S (reg b N s.heap.size) s.heap H locs → lv_has ls 2 [(0, .ref (b + 0))] → B_D_count_138 B C s0 M = some (rv, M') → W p l e rm_D_count s m args below meth c H locs 0 0 (MQ below (Qwi (dC, dI) cls6 b N sh rv M' s.heap.size) args s 0 0 (reg b N s.heap.size)) (F0 m 138 ls [.int s0]) := by
  obtain ⟨hx, hb, hml, hr, hown, hts, hlk, hK⟩ := id G
  intro s0 M H locs ls hP hS hl h
  unfold B_D_count_138 at h
  refine lv_aload_n hx hb d_D_count_138 rfl (lv_at hl 0 rfl) ?_
  refine wd_getr hx hb hts i_D hown hK hP 0 hI.1 hI.2.1 rfl 18 (by decide) t_326 rfl d_D_count_139 ?_
  refine lv_iconst (v := 1) hx hb d_D_count_142 (by decide) ?_
  obtain ⟨hi143, h⟩ := og h
  refine wd_zald hx hb hK hP 12 1 hI.2.2.2.2.2.2.2.2.2.2.2.2.2.1.1 hI.2.2.2.2.2.2.2.2.2.2.2.2.2.1.2 rfl hi143 d_D_count_143 ?_
  refine lv_if_eq (tgt := 151) hx hb d_D_count_144 (by decide) (fun c144 => ?_) (fun c144 => ?_)
  · replace h := ogt c144 h
    refine lv_iconst (v := 0) hx hb d_D_count_151 (by decide) ?_
    exact w_D_count_152 G hI  s0 0 M _ _ _ hP hS (lv_sub hl [] rfl) h
  · replace h := ogf c144 h
    refine lv_iconst (v := 1) hx hb d_D_count_147 (by decide) ?_
    refine lv_goto (tgt := 152) hx hb d_D_count_148 (by decide) ?_
    exact w_D_count_152 G hI  s0 1 M _ _ _ hP hS (lv_sub hl [] rfl) h
set_option maxHeartbeats 4000000 in
set_option maxRecDepth 100000 in
theorem w_D_count_0 {rv : Int32} {M' : Mm} (G : Cx p s m args meth c (dC, dI) cls6 (tyl dA) "BankTimesModel" k_D_count 2 (some .int)) (hI : Is_D dA b N sh B C 0)   : ∀ (x1 : Int32) (M : Mm) (ls : Array Slot), va_P (dC, dI) cls6 (wd b N sh M) s.heap → va_S (reg b N s.heap.size) s.heap s.heap [] → lv_has ls 2 [(0, .ref (b + 0)), (1, .int x1)] → f_D_count B C x1 M = some (rv, M') → W p l e rm_D_count s m args below meth c s.heap [] 0 0 (MQ below (Qwi (dC, dI) cls6 b N sh rv M' s.heap.size) args s 0 0 (reg b N s.heap.size)) (F0 m 0 ls []) := by
  obtain ⟨hx, hb, hml, hr, hown, hts, hlk, hK⟩ := id G
  intro x1 M ls hP hS hl h
  unfold f_D_count at h
  refine lv_aload_n hx hb d_D_count_0 rfl (lv_at hl 0 rfl) ?_
  refine lv_iconst (v := 0) hx hb d_D_count_1 (by decide) ?_
  obtain ⟨M2, eM2, h⟩ := ln h
  refine wd_puti hx hb hts i_D ty_D tyok_D nm_D hown hK hP hS 0 hI.1 hI.2.1 rfl 0 (by decide) t_213 rfl rfl (ty := .int) (by decide +kernel) rfl rfl d_D_count_2 (fun H locs hP hS => ?_)
  rw [← eM2] at hP
  refine lv_iload_n hx hb d_D_count_5 rfl (lv_at hl 1 rfl) ?_
  refine lv_iconst (v := 0) hx hb d_D_count_6 (by decide) ?_
  refine lv_bipush (v := 13) hx hb d_D_count_7 (by decide) ?_
  obtain ⟨q9, hc9, h⟩ := obd h
  refine wd_csr (As := [.int x1, .int 0, .int 13]) (rest := []) ⟨hx, hb, hml, hown, hts⟩ hK hP (c_D_within l x1 0 13 M2 _  hc9) ⟨callB_of 3 hts (wm_good t_227) rfl rfl rfl (hts _ t_229) (hts _ t_226) (by decide +kernel) ⟨by decide, by decide⟩, hts _ t_228⟩ rfl hl.1 rfl (Nat.le_of_ble_eq_true rfl) d_D_count_9 ⟨Nat.zero_le _, Nat.zero_le _⟩ ?_
  refine lv_if_ne (tgt := 17) hx hb d_D_count_12 (by decide) (fun c12 => ?_) (fun c12 => ?_)
  · replace h := ogf c12 h
    refine lv_iload_n hx hb d_D_count_17 rfl (lv_at hl 1 rfl) ?_
    refine lv_iconst (v := 4) hx hb d_D_count_18 (by decide) ?_
    refine lv_bipush (v := 8) hx hb d_D_count_19 (by decide) ?_
    obtain ⟨q21, hc21, h⟩ := obd h
    refine wd_csr (As := [.int x1, .int 4, .int 8]) (rest := []) ⟨hx, hb, hml, hown, hts⟩ hK hP (c_D_within l x1 4 8 M2 _  hc21) ⟨callB_of 3 hts (wm_good t_227) rfl rfl rfl (hts _ t_229) (hts _ t_226) (by decide +kernel) ⟨by decide, by decide⟩, hts _ t_228⟩ rfl hl.1 rfl (Nat.le_of_ble_eq_true rfl) d_D_count_21 ⟨Nat.zero_le _, Nat.zero_le _⟩ ?_
    refine lv_if_eq (tgt := 36) hx hb d_D_count_24 (by decide) (fun c24 => ?_) (fun c24 => ?_)
    · replace h := ogt c24 h
      refine lv_iload_n hx hb d_D_count_36 rfl (lv_at hl 1 rfl) ?_
      by_cases c37_0 : x1 = 0
      · replace h := ogt c37_0 h
        refine lv_tableIn (tgt := 104) hx hb d_D_count_37 (by rw [c37_0]; decide) (by rw [c37_0]; decide) (by rw [c37_0]; rfl) (by decide) ?_
        refine lv_aload_n hx hb d_D_count_104 rfl (lv_at hl 0 rfl) ?_
        refine wd_geti hx hb hts i_D hown hK hP 0 hI.1 hI.2.1 rfl 5 (by decide) t_272 rfl d_D_count_105 ?_
        obtain ⟨rfl, rfl⟩ := oe2 h
        exact wd_iret hx hb hr hlk hP hS d_D_count_108
      · replace h := ogf c37_0 h
        by_cases c37_1 : x1 = 1
        · replace h := ogt c37_1 h
          refine lv_tableIn (tgt := 109) hx hb d_D_count_37 (by rw [c37_1]; decide) (by rw [c37_1]; decide) (by rw [c37_1]; rfl) (by decide) ?_
          refine lv_aload_n hx hb d_D_count_109 rfl (lv_at hl 0 rfl) ?_
          refine wd_geti hx hb hts i_D hown hK hP 0 hI.1 hI.2.1 rfl 20 (by decide) t_242 rfl d_D_count_110 ?_
          obtain ⟨rfl, rfl⟩ := oe2 h
          exact wd_iret hx hb hr hlk hP hS d_D_count_113
        · replace h := ogf c37_1 h
          by_cases c37_2 : x1 = 2
          · replace h := ogt c37_2 h
            refine lv_tableIn (tgt := 114) hx hb d_D_count_37 (by rw [c37_2]; decide) (by rw [c37_2]; decide) (by rw [c37_2]; rfl) (by decide) ?_
            refine lv_aload_n hx hb d_D_count_114 rfl (lv_at hl 0 rfl) ?_
            refine wd_geti hx hb hts i_D hown hK hP 0 hI.1 hI.2.1 rfl 21 (by decide) t_331 rfl d_D_count_115 ?_
            obtain ⟨rfl, rfl⟩ := oe2 h
            exact wd_iret hx hb hr hlk hP hS d_D_count_118
          · replace h := ogf c37_2 h
            by_cases c37_3 : x1 = 3
            · replace h := ogt c37_3 h
              refine lv_tableIn (tgt := 119) hx hb d_D_count_37 (by rw [c37_3]; decide) (by rw [c37_3]; decide) (by rw [c37_3]; rfl) (by decide) ?_
              refine lv_aload_n hx hb d_D_count_119 rfl (lv_at hl 0 rfl) ?_
              refine wd_geti hx hb hts i_D hown hK hP 0 hI.1 hI.2.1 rfl 27 (by decide) t_273 rfl d_D_count_120 ?_
              obtain ⟨rfl, rfl⟩ := oe2 h
              exact wd_iret hx hb hr hlk hP hS d_D_count_123
            · replace h := ogf c37_3 h
              by_cases c37_4 : x1 = 4
              · replace h := ogt c37_4 h
                refine lv_tableIn (tgt := 170) hx hb d_D_count_37 (by rw [c37_4]; decide) (by rw [c37_4]; decide) (by rw [c37_4]; rfl) (by decide) ?_
                refine lv_aload_n hx hb d_D_count_170 rfl (lv_at hl 0 rfl) ?_
                refine wd_geti hx hb hts i_D hown hK hP 0 hI.1 hI.2.1 rfl 2 (by decide) t_231 rfl d_D_count_171 ?_
                obtain ⟨rfl, rfl⟩ := oe2 h
                exact wd_iret hx hb hr hlk hP hS d_D_count_174
              · replace h := ogf c37_4 h
                by_cases c37_5 : x1 = 5
                · replace h := ogt c37_5 h
                  refine lv_tableIn (tgt := 170) hx hb d_D_count_37 (by rw [c37_5]; decide) (by rw [c37_5]; decide) (by rw [c37_5]; rfl) (by decide) ?_
                  refine lv_aload_n hx hb d_D_count_170 rfl (lv_at hl 0 rfl) ?_
                  refine wd_geti hx hb hts i_D hown hK hP 0 hI.1 hI.2.1 rfl 2 (by decide) t_231 rfl d_D_count_171 ?_
                  obtain ⟨rfl, rfl⟩ := oe2 h
                  exact wd_iret hx hb hr hlk hP hS d_D_count_174
                · replace h := ogf c37_5 h
                  by_cases c37_6 : x1 = 6
                  · replace h := ogt c37_6 h
                    refine lv_tableIn (tgt := 170) hx hb d_D_count_37 (by rw [c37_6]; decide) (by rw [c37_6]; decide) (by rw [c37_6]; rfl) (by decide) ?_
                    refine lv_aload_n hx hb d_D_count_170 rfl (lv_at hl 0 rfl) ?_
                    refine wd_geti hx hb hts i_D hown hK hP 0 hI.1 hI.2.1 rfl 2 (by decide) t_231 rfl d_D_count_171 ?_
                    obtain ⟨rfl, rfl⟩ := oe2 h
                    exact wd_iret hx hb hr hlk hP hS d_D_count_174
                  · replace h := ogf c37_6 h
                    by_cases c37_7 : x1 = 7
                    · replace h := ogt c37_7 h
                      refine lv_tableIn (tgt := 170) hx hb d_D_count_37 (by rw [c37_7]; decide) (by rw [c37_7]; decide) (by rw [c37_7]; rfl) (by decide) ?_
                      refine lv_aload_n hx hb d_D_count_170 rfl (lv_at hl 0 rfl) ?_
                      refine wd_geti hx hb hts i_D hown hK hP 0 hI.1 hI.2.1 rfl 2 (by decide) t_231 rfl d_D_count_171 ?_
                      obtain ⟨rfl, rfl⟩ := oe2 h
                      exact wd_iret hx hb hr hlk hP hS d_D_count_174
                    · replace h := ogf c37_7 h
                      by_cases c37_8 : x1 = 8
                      · replace h := ogt c37_8 h
                        refine lv_tableIn (tgt := 170) hx hb d_D_count_37 (by rw [c37_8]; decide) (by rw [c37_8]; decide) (by rw [c37_8]; rfl) (by decide) ?_
                        refine lv_aload_n hx hb d_D_count_170 rfl (lv_at hl 0 rfl) ?_
                        refine wd_geti hx hb hts i_D hown hK hP 0 hI.1 hI.2.1 rfl 2 (by decide) t_231 rfl d_D_count_171 ?_
                        obtain ⟨rfl, rfl⟩ := oe2 h
                        exact wd_iret hx hb hr hlk hP hS d_D_count_174
                      · replace h := ogf c37_8 h
                        by_cases c37_9 : x1 = 9
                        · replace h := ogt c37_9 h
                          refine lv_tableIn (tgt := 124) hx hb d_D_count_37 (by rw [c37_9]; decide) (by rw [c37_9]; decide) (by rw [c37_9]; rfl) (by decide) ?_
                          refine lv_aload_n hx hb d_D_count_124 rfl (lv_at hl 0 rfl) ?_
                          refine wd_getr hx hb hts i_D hown hK hP 0 hI.1 hI.2.1 rfl 18 (by decide) t_326 rfl d_D_count_125 ?_
                          refine lv_iconst (v := 0) hx hb d_D_count_128 (by decide) ?_
                          obtain ⟨hi129, h⟩ := og h
                          refine wd_zald hx hb hK hP 12 1 hI.2.2.2.2.2.2.2.2.2.2.2.2.2.1.1 hI.2.2.2.2.2.2.2.2.2.2.2.2.2.1.2 rfl hi129 d_D_count_129 ?_
                          refine lv_if_eq (tgt := 137) hx hb d_D_count_130 (by decide) (fun c130 => ?_) (fun c130 => ?_)
                          · replace h := ogt c130 h
                            refine lv_iconst (v := 0) hx hb d_D_count_137 (by decide) ?_
                            exact w_D_count_138 G hI  0 M2 _ _ _ hP hS (lv_sub hl [0] rfl) h
                          · replace h := ogf c130 h
                            refine lv_iconst (v := 1) hx hb d_D_count_133 (by decide) ?_
                            refine lv_goto (tgt := 138) hx hb d_D_count_134 (by decide) ?_
                            exact w_D_count_138 G hI  1 M2 _ _ _ hP hS (lv_sub hl [0] rfl) h
                        · replace h := ogf c37_9 h
                          by_cases c37_10 : x1 = 10
                          · replace h := ogt c37_10 h
                            refine lv_tableIn (tgt := 154) hx hb d_D_count_37 (by rw [c37_10]; decide) (by rw [c37_10]; decide) (by rw [c37_10]; rfl) (by decide) ?_
                            refine lv_aload_n hx hb d_D_count_154 rfl (lv_at hl 0 rfl) ?_
                            refine lv_iconst (v := (-1)) hx hb d_D_count_155 (by decide) ?_
                            obtain ⟨q156, hc156, h⟩ := obd h
                            refine wd_cvr (As := [.int (-1)]) (rest := []) ⟨hx, hb, hml, hown, hts⟩ hK hP 0 hI.1 hI.2.1 rfl (c_D_waiting l (-1) M2 _ hI hc156) (cwV 1 hts (wmV t_265 t_267 t_268 t_229 t_266) rfl rfl rfl (by decide +kernel) ⟨by decide, by decide⟩) rfl hl.1 rfl (Nat.le_of_ble_eq_true rfl) d_D_count_156 ⟨Nat.zero_le _, Nat.zero_le _⟩ ?_
                            obtain ⟨rfl, rfl⟩ := oe2 h
                            exact wd_iret hx hb hr hlk hP hS d_D_count_159
                          · replace h := ogf c37_10 h
                            by_cases c37_11 : x1 = 11
                            · replace h := ogt c37_11 h
                              refine lv_tableIn (tgt := 160) hx hb d_D_count_37 (by rw [c37_11]; decide) (by rw [c37_11]; decide) (by rw [c37_11]; rfl) (by decide) ?_
                              refine lv_aload_n hx hb d_D_count_160 rfl (lv_at hl 0 rfl) ?_
                              refine wd_geti hx hb hts i_D hown hK hP 0 hI.1 hI.2.1 rfl 22 (by decide) t_332 rfl d_D_count_161 ?_
                              obtain ⟨rfl, rfl⟩ := oe2 h
                              exact wd_iret hx hb hr hlk hP hS d_D_count_164
                            · replace h := ogf c37_11 h
                              by_cases c37_12 : x1 = 12
                              · replace h := ogt c37_12 h
                                refine lv_tableIn (tgt := 165) hx hb d_D_count_37 (by rw [c37_12]; decide) (by rw [c37_12]; decide) (by rw [c37_12]; rfl) (by decide) ?_
                                refine lv_aload_n hx hb d_D_count_165 rfl (lv_at hl 0 rfl) ?_
                                refine wd_geti hx hb hts i_D hown hK hP 0 hI.1 hI.2.1 rfl 1 (by decide) t_230 rfl d_D_count_166 ?_
                                obtain ⟨rfl, rfl⟩ := oe2 h
                                exact wd_iret hx hb hr hlk hP hS d_D_count_169
                              · replace h := ogf c37_12 h
                                have z37_0 := lv_neT (a := 0) c37_0 (by decide)
                                have z37_1 := lv_neT (a := 1) c37_1 (by decide)
                                have z37_2 := lv_neT (a := 2) c37_2 (by decide)
                                have z37_3 := lv_neT (a := 3) c37_3 (by decide)
                                have z37_4 := lv_neT (a := 4) c37_4 (by decide)
                                have z37_5 := lv_neT (a := 5) c37_5 (by decide)
                                have z37_6 := lv_neT (a := 6) c37_6 (by decide)
                                have z37_7 := lv_neT (a := 7) c37_7 (by decide)
                                have z37_8 := lv_neT (a := 8) c37_8 (by decide)
                                have z37_9 := lv_neT (a := 9) c37_9 (by decide)
                                have z37_10 := lv_neT (a := 10) c37_10 (by decide)
                                have z37_11 := lv_neT (a := 11) c37_11 (by decide)
                                have z37_12 := lv_neT (a := 12) c37_12 (by decide)
                                refine lv_tableOut (tgt := 170) hx hb d_D_count_37 (by omega) (by decide) ?_
                                refine lv_aload_n hx hb d_D_count_170 rfl (lv_at hl 0 rfl) ?_
                                refine wd_geti hx hb hts i_D hown hK hP 0 hI.1 hI.2.1 rfl 2 (by decide) t_231 rfl d_D_count_171 ?_
                                obtain ⟨rfl, rfl⟩ := oe2 h
                                exact wd_iret hx hb hr hlk hP hS d_D_count_174
    · replace h := ogf c24 h
      refine lv_aload_n hx hb d_D_count_27 rfl (lv_at hl 0 rfl) ?_
      refine wd_getr hx hb hts i_D hown hK hP 0 hI.1 hI.2.1 rfl 28 (by decide) t_279 rfl d_D_count_28 ?_
      refine lv_iload_n hx hb d_D_count_31 rfl (lv_at hl 1 rfl) ?_
      refine lv_iconst (v := 4) hx hb d_D_count_32 (by decide) ?_
      refine lv_isub hx hb d_D_count_33 ?_
      obtain ⟨hi34, h⟩ := og h
      refine wd_iald hx hb hK hP 18 0 hI.2.2.2.2.2.2.2.2.2.2.2.2.2.2.2.2.2.2.2.1.1 hI.2.2.2.2.2.2.2.2.2.2.2.2.2.2.2.2.2.2.2.1.2 rfl hi34 d_D_count_34 ?_
      obtain ⟨rfl, rfl⟩ := oe2 h
      exact wd_iret hx hb hr hlk hP hS d_D_count_35
  · replace h := ogt c12 h
    refine lv_iconst (v := (-1)) hx hb d_D_count_15 (by decide) ?_
    obtain ⟨rfl, rfl⟩ := oe2 h
    exact wd_iret hx hb hr hlk hP hS d_D_count_16
theorem c_D_count (l : Launch) (x1 : Int32) (M : Mm) (sz : Nat) (hI : Is_D dA b N sh B C 0) {rv : Int32} {M' : Mm} (h : f_D_count B C x1 M = some (rv, M')) : Met l y_D_count (wm y_D_count k_D_count 2 (some .int)) rm_D_count (Pw (dC, dI) cls6 (tyl dA) b N sh [.ref (b + 0), .int x1] M sz) (Qwi (dC, dI) cls6 b N sh rv M' sz) 0 0 (reg b N sz) := by
  refine mk_met (by decide) (Nat.le_of_ble_eq_true rfl) ?_
  intro p e s m below meth c ls G hsz hP hS hl
  subst hsz
  exact w_D_count_0 G hI _ _ ls hP hS hl h
end
