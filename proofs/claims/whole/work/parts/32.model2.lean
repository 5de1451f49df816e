abbrev rm_D_part : Room := { frames := 2, cells := 0, slots := 0, locals := 43 }
def B_D_part_22 (B C : Nat) (M : Mm) : Option (Int32 × Mm) := (f_D_fail B C 1 M).bind (fun q24 => some (q24.1, q24.2))
def f_D_part (B C : Nat) (x1 x2 : Int32) (M : Mm) : Option (Int32 × Mm) := bnd (up2 M 0 0 0) (fun M2 => (f_D_isAddress B C x1 M2).bind (fun q7 => (if q7 = 0 then B_D_part_22 B C M2 else (f_D_within B C x2 0 3 M2).bind (fun q16 => (if q16 = 0 then B_D_part_22 B C M2 else (if x2 = 0 then (f_D_channelOf B C x1 M2).bind (fun q34 => some (q34, M2)) else (if x2 = 1 then (f_D_bankOf B C x1 M2).bind (fun q47 => some (q47, M2)) else (if x2 = 2 then (f_D_rowOf B C x1 M2).bind (fun q60 => some (q60, M2)) else some ((x1 &&& 15), M2)))))))))
section
variable {p : Program} {l : Launch} {e : Env} {s : State} {m : MethodId} {args : Array Value} {below : List Frame} {meth : Method} {c : Code} {dC : Nat → ClassId} {dI : Nat → Nat → Nat} {dA : Nat → ClassId} {b N B C : Nat} {sh : Shp}
set_option maxHeartbeats 4000000 in
set_option maxRecDepth 100000 in
theorem w_D_part_22 {rv : Int32} {M' : Mm} (G : Cx p s m args meth c (dC, dI) cls6 (tyl dA) "BankTimesModel" k_D_part 3 (some .int)) (hI : Is_D dA b N sh B C 0)   : ∀ (M : Mm) (H : Heap) (locs : List Loc) (ls : Array Slot), va_P (dC, dI) cls6 (wd b N sh M) H → va_S (reg b N s.heap.size) s.heap H locs → lv_has ls 3 [(0, .ref (b + 0))] → B_D_part_22 B C M = some (rv, M') → W p l e rm_D_part s m args below meth c H locs 0 0 (MQ below (Qwi (dC, dI) cls6 b N sh rv M' s.heap.size) args s 0 0 (reg b N s.heap.size)) (F0 m 22 ls []) := by
  obtain ⟨hx, hb, hml, hr, hown, hts, hlk, hK⟩ := id G
  intro M H locs ls hP hS hl h
  unfold B_D_part_22 at h
  refine lv_aload_n hx hb d_D_part_22 rfl (lv_at hl 0 rfl) ?_
  refine lv_iconst (v := 1) hx hb d_D_part_23 (by decide) ?_
  obtain ⟨q24, hc24, h⟩ := obd h
  refine wd_cvi (As := [.int 1]) (rest := []) ⟨hx, hb, hml, hown, hts⟩ hK hP hS 0 hI.1 hI.2.1 rfl (c_D_fail l 1 M _ hI hc24) (cwV 1 hts (wmV t_253 t_255 t_256 t_229 t_254) rfl rfl rfl (by decide +kernel) ⟨by decide, by decide⟩) rfl hl.1 rfl (Nat.le_of_ble_eq_true rfl) d_D_part_24 ⟨Nat.zero_le _, Nat.zero_le _⟩ (fun H locs hP hS => ?_)
  obtain ⟨rfl, rfl⟩ := oe2 h
  exact wd_iret hx hb hr hlk hP hS d_D_part_27
set_option maxHeartbeats 4000000 in
set_option maxRecDepth 100000 in
theorem w_D_part_0 {rv : Int32} {M' : Mm} (G : Cx p s m args meth c (dC, dI) cls6 (tyl dA) "BankTimesModel" k_D_part 3 (some .int)) (hI : Is_D dA b N sh B C 0)   : ∀ (x1 x2 : Int32) (M : Mm) (ls : Array Slot), va_P (dC, dI) cls6 (wd b N sh M) s.heap → va_S (reg b N s.heap.size) s.heap s.heap [] → lv_has ls 3 [(0, .ref (b + 0)), (1, .int x1), (2, .int x2)] → f_D_part B C x1 x2 M = some (rv, M') → W p l e rm_D_part s m args below meth c s.heap [] 0 0 (MQ below (Qwi (dC, dI) cls6 b N sh rv M' s.heap.size) args s 0 0 (reg b N s.heap.size)) (F0 m 0 ls []) := by
  obtain ⟨hx, hb, hml, hr, hown, hts, hlk, hK⟩ := id G
  intro x1 x2 M ls hP hS hl h
  unfold f_D_part at h
  refine lv_aload_n hx hb d_D_part_0 rfl (lv_at hl 0 rfl) ?_
  refine lv_iconst (v := 0) hx hb d_D_part_1 (by decide) ?_
  obtain ⟨M2, eM2, h⟩ := ln h
  refine wd_puti hx hb hts i_D ty_D tyok_D nm_D hown hK hP hS 0 hI.1 hI.2.1 rfl 0 (by decide) t_213 rfl rfl (ty := .int) (by decide +kernel) rfl rfl d_D_part_2 (fun H locs hP hS => ?_)
  rw [← eM2] at hP
  refine lv_aload_n hx hb d_D_part_5 rfl (lv_at hl 0 rfl) ?_
  refine lv_iload_n hx hb d_D_part_6 rfl (lv_at hl 1 rfl) ?_
  obtain ⟨q7, hc7, h⟩ := obd h
  refine wd_cvr (As := [.int x1]) (rest := []) ⟨hx, hb, hml, hown, hts⟩ hK hP 0 hI.1 hI.2.1 rfl (c_D_isAddress l x1 M2 _ hI hc7) (cwV 1 hts (wmV t_249 t_251 t_252 t_229 t_250) rfl rfl rfl (by decide +kernel) ⟨by decide, by decide⟩) rfl hl.1 rfl (Nat.le_of_ble_eq_true rfl) d_D_part_7 ⟨Nat.zero_le _, Nat.zero_le _⟩ ?_
  refine lv_if_eq (tgt := 22) hx hb d_D_part_10 (by decide) (fun c10 => ?_) (fun c10 => ?_)
  · replace h := ogt c10 h
    exact w_D_part_22 G hI  M2 _ _ _ hP hS (lv_sub hl [0] rfl) h
  · replace h := ogf c10 h
    refine lv_iload_n hx hb d_D_part_13 rfl (lv_at hl 2 rfl) ?_
    refine lv_iconst (v := 0) hx hb d_D_part_14 (by decide) ?_
    refine lv_iconst (v := 3) hx hb d_D_part_15 (by decide) ?_
    obtain ⟨q16, hc16, h⟩ := obd h
    refine wd_csr (As := [.int x2, .int 0, .int 3]) (rest := []) ⟨hx, hb, hml, hown, hts⟩ hK hP (c_D_within l x2 0 3 M2 _  hc16) ⟨callB_of 3 hts (wm_good t_227) rfl rfl rfl (hts _ t_229) (hts _ t_226) (by decide +kernel) ⟨by decide, by decide⟩, hts _ t_228⟩ rfl hl.1 rfl (Nat.le_of_ble_eq_true rfl) d_D_part_16 ⟨Nat.zero_le _, Nat.zero_le _⟩ ?_
    refine lv_if_ne (tgt := 28) hx hb d_D_part_19 (by decide) (fun c19 => ?_) (fun c19 => ?_)
    · replace h := ogf c19 h
      refine lv_iload_n hx hb d_D_part_28 rfl (lv_at hl 2 rfl) ?_
      refine lv_if_ne (tgt := 40) hx hb d_D_part_29 (by decide) (fun c29 => ?_) (fun c29 => ?_)
      · replace h := ogf c29 h
        refine lv_iload_n hx hb d_D_part_40 rfl (lv_at hl 2 rfl) ?_
        refine lv_iconst (v := 1) hx hb d_D_part_41 (by decide) ?_
        refine lv_icmp_ne (tgt := 53) hx hb d_D_part_42 (by decide) (fun c42 => ?_) (fun c42 => ?_)
        · replace h := ogf c42 h
          refine lv_iload_n hx hb d_D_part_53 rfl (lv_at hl 2 rfl) ?_
          refine lv_iconst (v := 2) hx hb d_D_part_54 (by decide) ?_
          refine lv_icmp_ne (tgt := 66) hx hb d_D_part_55 (by decide) (fun c55 => ?_) (fun c55 => ?_)
          · replace h := ogf c55 h
            refine lv_iload_n hx hb d_D_part_66 rfl (lv_at hl 1 rfl) ?_
            refine lv_bipush (v := 15) hx hb d_D_part_67 (by decide) ?_
            refine lv_iand hx hb d_D_part_69 ?_
            obtain ⟨rfl, rfl⟩ := oe2 h
            exact wd_iret hx hb hr hlk hP hS d_D_part_70
          · replace h := ogt c55 h
            refine lv_aload_n hx hb d_D_part_58 rfl (lv_at hl 0 rfl) ?_
            refine lv_iload_n hx hb d_D_part_59 rfl (lv_at hl 1 rfl) ?_
            obtain ⟨q60, hc60, h⟩ := obd h
            refine wd_cvr (As := [.int x1]) (rest := []) ⟨hx, hb, hml, hown, hts⟩ hK hP 0 hI.1 hI.2.1 rfl (c_D_rowOf l x1 M2 _ hI hc60) (cwV 1 hts (wmV t_257 t_259 t_260 t_229 t_258) rfl rfl rfl (by decide +kernel) ⟨by decide, by decide⟩) rfl hl.1 rfl (Nat.le_of_ble_eq_true rfl) d_D_part_60 ⟨Nat.zero_le _, Nat.zero_le _⟩ ?_
            refine lv_goto (tgt := 70) hx hb d_D_part_63 (by decide) ?_
            obtain ⟨rfl, rfl⟩ := oe2 h
            exact wd_iret hx hb hr hlk hP hS d_D_part_70
        · replace h := ogt c42 h
          refine lv_aload_n hx hb d_D_part_45 rfl (lv_at hl 0 rfl) ?_
          refine lv_iload_n hx hb d_D_part_46 rfl (lv_at hl 1 rfl) ?_
          obtain ⟨q47, hc47, h⟩ := obd h
          refine wd_cvr (As := [.int x1]) (rest := []) ⟨hx, hb, hml, hown, hts⟩ hK hP 0 hI.1 hI.2.1 rfl (c_D_bankOf l x1 M2 _ hI hc47) (cwV 1 hts (wmV t_261 t_263 t_264 t_229 t_262) rfl rfl rfl (by decide +kernel) ⟨by decide, by decide⟩) rfl hl.1 rfl (Nat.le_of_ble_eq_true rfl) d_D_part_47 ⟨Nat.zero_le _, Nat.zero_le _⟩ ?_
          refine lv_goto (tgt := 70) hx hb d_D_part_50 (by decide) ?_
          obtain ⟨rfl, rfl⟩ := oe2 h
          exact wd_iret hx hb hr hlk hP hS d_D_part_70
      · replace h := ogt c29 h
        refine lv_aload_n hx hb d_D_part_32 rfl (lv_at hl 0 rfl) ?_
        refine lv_iload_n hx hb d_D_part_33 rfl (lv_at hl 1 rfl) ?_
        obtain ⟨q34, hc34, h⟩ := obd h
        refine wd_cvr (As := [.int x1]) (rest := []) ⟨hx, hb, hml, hown, hts⟩ hK hP 0 hI.1 hI.2.1 rfl (c_D_channelOf l x1 M2 _ hI hc34) (cwV 1 hts (wmV t_245 t_247 t_248 t_229 t_246) rfl rfl rfl (by decide +kernel) ⟨by decide, by decide⟩) rfl hl.1 rfl (Nat.le_of_ble_eq_true rfl) d_D_part_34 ⟨Nat.zero_le _, Nat.zero_le _⟩ ?_
        refine lv_goto (tgt := 70) hx hb d_D_part_37 (by decide) ?_
        obtain ⟨rfl, rfl⟩ := oe2 h
        exact wd_iret hx hb hr hlk hP hS d_D_part_70
    · replace h := ogt c19 h
      exact w_D_part_22 G hI  M2 _ _ _ hP hS (lv_sub hl [0] rfl) h
theorem c_D_part (l : Launch) (x1 x2 : Int32) (M : Mm) (sz : Nat) (hI : Is_D dA b N sh B C 0) {rv : Int32} {M' : Mm} (h : f_D_part B C x1 x2 M = some (rv, M')) : Met l y_D_part (wm y_D_part k_D_part 3 (some .int)) rm_D_part (Pw (dC, dI) cls6 (tyl dA) b N sh [.ref (b + 0), .int x1, .int x2] M sz) (Qwi (dC, dI) cls6 b N sh rv M' sz) 0 0 (reg b N sz) := by
  refine mk_met (by decide) (Nat.le_of_ble_eq_true rfl) ?_
  intro p e s m below meth c ls G hsz hP hS hl
  subst hsz
  exact w_D_part_0 G hI _ _ _ ls hP hS hl h
end
abbrev rm_D_time : Room := { frames := 2, cells := 0, slots := 0, locals := 44 }
def B_D_time_61 (B C : Nat) (M : Mm) : Option (Int32 × Mm) := (f_D_fail B C 3 M).bind (fun q63 => some (q63.1, q63.2))
def f_D_time (B C : Nat) (x1 x2 : Int32) (M : Mm) : Option (Int32 × Mm) := bnd (up2 M 0 0 0) (fun M2 => (f_D_within B C x1 0 8 M2).bind (fun q9 => (if q9 = 0 then (f_D_fail B C 1 M2).bind (fun q17 => some (q17.1, q17.2)) else (f_D_within B C x2 1 100 M2).bind (fun q25 => (if q25 = 0 then (f_D_fail B C 2 M2).bind (fun q33 => some (q33.1, q33.2)) else (f_D_waiting B C (-1) M2).bind (fun q39 => (if 0 < q39 then B_D_time_61 B C M2 else (f_D_anyOpen B C 0 M2).bind (fun q47 => (if q47 = 0 then (f_D_anyOpen B C 1 M2).bind (fun q55 => (if q55 = 0 then (if ixb x1 9 = true then bnd (M2 1 x1.toNatClampNeg) (fun v73 => (if ixb x1 9 = true then bnd (up2 M2 1 x1.toNatClampNeg x2) (fun M80 => some (v73, M80)) else none)) else none) else B_D_time_61 B C M2)) else B_D_time_61 B C M2)))))))))
section
variable {p : Program} {l : Launch} {e : Env} {s : State} {m : MethodId} {args : Array Value} {below : List Frame} {meth : Method} {c : Code} {dC : Nat → ClassId} {dI : Nat → Nat → Nat} {dA : Nat → ClassId} {b N B C : Nat} {sh : Shp}
set_option maxHeartbeats 4000000 in
set_option maxRecDepth 100000 in
theorem w_D_time_61 {rv : Int32} {M' : Mm} (G : Cx p s m args meth c (dC, dI) cls6 (tyl dA) "BankTimesModel" k_D_time 4 (some .int)) (hI : Is_D dA b N sh B C 0)   : ∀ (M : Mm) (H : Heap) (locs : List Loc) (ls : Array Slot), va_P (dC, dI) cls6 (wd b N sh M) H → va_S (reg b N s.heap.size) s.heap H locs → lv_has ls 4 [(0, .ref (b + 0))] → B_D_time_61 B C M = some (rv, M') → W p l e rm_D_time s m args below meth c H locs 0 0 (MQ below (Qwi (dC, dI) cls6 b N sh rv M' s.heap.size) args s 0 0 (reg b N s.heap.size)) (F0 m 61 ls []) := by
  obtain ⟨hx, hb, hml, hr, hown, hts, hlk, hK⟩ := id G
  intro M H locs ls hP hS hl h
  unfold B_D_time_61 at h
  refine lv_aload_n hx hb d_D_time_61 rfl (lv_at hl 0 rfl) ?_
  refine lv_iconst (v := 3) hx hb d_D_time_62 (by decide) ?_
  obtain ⟨q63, hc63, h⟩ := obd h
  refine wd_cvi (As := [.int 3]) (rest := []) ⟨hx, hb, hml, hown, hts⟩ hK hP hS 0 hI.1 hI.2.1 rfl (c_D_fail l 3 M _ hI hc63) (cwV 1 hts (wmV t_253 t_255 t_256 t_229 t_254) rfl rfl rfl (by decide +kernel) ⟨by decide, by decide⟩) rfl hl.1 rfl (Nat.le_of_ble_eq_true rfl) d_D_time_63 ⟨Nat.zero_le _, Nat.zero_le _⟩ (fun H locs hP hS => ?_)
  obtain ⟨rfl, rfl⟩ := oe2 h
  exact wd_iret hx hb hr hlk hP hS d_D_time_66
set_option maxHeartbeats 4000000 in
set_option maxRecDepth 100000 in
theorem w_D_time_0 {rv : Int32} {M' : Mm} (G : Cx p s m args meth c (dC, dI) cls6 (tyl dA) "BankTimesModel" k_D_time 4 (some .int)) (hI : Is_D dA b N sh B C 0)   : ∀ (x1 x2 : Int32) (M : Mm) (ls : Array Slot), va_P (dC, dI) cls6 (wd b N sh M) s.heap → va_S (reg b N s.heap.size) s.heap s.heap [] → lv_has ls 4 [(0, .ref (b + 0)), (1, .int x1), (2, .int x2)] → f_D_time B C x1 x2 M = some (rv, M') → W p l e rm_D_time s m args below meth c s.heap [] 0 0 (MQ below (Qwi (dC, dI) cls6 b N sh rv M' s.heap.size) args s 0 0 (reg b N s.heap.size)) (F0 m 0 ls []) := by
  obtain ⟨hx, hb, hml, hr, hown, hts, hlk, hK⟩ := id G
  intro x1 x2 M ls hP hS hl h
  unfold f_D_time at h
  refine lv_aload_n hx hb d_D_time_0 rfl (lv_at hl 0 rfl) ?_
  refine lv_iconst (v := 0) hx hb d_D_time_1 (by decide) ?_
  obtain ⟨M2, eM2, h⟩ := ln h
  refine wd_puti hx hb hts i_D ty_D tyok_D nm_D hown hK hP hS 0 hI.1 hI.2.1 rfl 0 (by decide) t_213 rfl rfl (ty := .int) (by decide +kernel) rfl rfl d_D_time_2 (fun H locs hP hS => ?_)
  rw [← eM2] at hP
  refine lv_iload_n hx hb d_D_time_5 rfl (lv_at hl 1 rfl) ?_
  refine lv_iconst (v := 0) hx hb d_D_time_6 (by decide) ?_
  refine lv_bipush (v := 8) hx hb d_D_time_7 (by decide) ?_
  obtain ⟨q9, hc9, h⟩ := obd h
  refine wd_csr (As := [.int x1, .int 0, .int 8]) (rest := []) ⟨hx, hb, hml, hown, hts⟩ hK hP (c_D_within l x1 0 8 M2 _  hc9) ⟨callB_of 3 hts (wm_good t_227) rfl rfl rfl (hts _ t_229) (hts _ t_226) (by decide +kernel) ⟨by decide, by decide⟩, hts _ t_228⟩ rfl hl.1 rfl (Nat.le_of_ble_eq_true rfl) d_D_time_9 ⟨Nat.zero_le _, Nat.zero_le _⟩ ?_
  refine lv_if_ne (tgt := 21) hx hb d_D_time_12 (by decide) (fun c12 => ?_) (fun c12 => ?_)
  · replace h := ogf c12 h
    refine lv_iload_n hx hb d_D_time_21 rfl (lv_at hl 2 rfl) ?_
    refine lv_iconst (v := 1) hx hb d_D_time_22 (by decide) ?_
    refine lv_bipush (v := 100) hx hb d_D_time_23 (by decide) ?_
    obtain ⟨q25, hc25, h⟩ := obd h
    refine wd_csr (As := [.int x2, .int 1, .int 100]) (rest := []) ⟨hx, hb, hml, hown, hts⟩ hK hP (c_D_within l x2 1 100 M2 _  hc25) ⟨callB_of 3 hts (wm_good t_227) rfl rfl rfl (hts _ t_229) (hts _ t_226) (by decide +kernel) ⟨by decide, by decide⟩, hts _ t_228⟩ rfl hl.1 rfl (Nat.le_of_ble_eq_true rfl) d_D_time_25 ⟨Nat.zero_le _, Nat.zero_le _⟩ ?_
    refine lv_if_ne (tgt := 37) hx hb d_D_time_28 (by decide) (fun c28 => ?_) (fun c28 => ?_)
    · replace h := ogf c28 h
      refine lv_aload_n hx hb d_D_time_37 rfl (lv_at hl 0 rfl) ?_
      refine lv_iconst (v := (-1)) hx hb d_D_time_38 (by decide) ?_
      obtain ⟨q39, hc39, h⟩ := obd h
      refine wd_cvr (As := [.int (-1)]) (rest := []) ⟨hx, hb, hml, hown, hts⟩ hK hP 0 hI.1 hI.2.1 rfl (c_D_waiting l (-1) M2 _ hI hc39) (cwV 1 hts (wmV t_265 t_267 t_268 t_229 t_266) rfl rfl rfl (by decide +kernel) ⟨by decide, by decide⟩) rfl hl.1 rfl (Nat.le_of_ble_eq_true rfl) d_D_time_39 ⟨Nat.zero_le _, Nat.zero_le _⟩ ?_
      refine lv_if_gt (tgt := 61) hx hb d_D_time_42 (by decide) (fun c42 => ?_) (fun c42 => ?_)
      · replace h := ogt c42 h
        exact w_D_time_61 G hI  M2 _ _ _ hP hS (lv_sub hl [0] rfl) h
      · replace h := ogf c42 h
        refine lv_aload_n hx hb d_D_time_45 rfl (lv_at hl 0 rfl) ?_
        refine lv_iconst (v := 0) hx hb d_D_time_46 (by decide) ?_
        obtain ⟨q47, hc47, h⟩ := obd h
        refine wd_cvr (As := [.int 0]) (rest := []) ⟨hx, hb, hml, hown, hts⟩ hK hP 0 hI.1 hI.2.1 rfl (c_D_anyOpen l 0 M2 _ hI hc47) (cwV 1 hts (wmV t_233 t_235 t_236 t_229 t_234) rfl rfl rfl (by decide +kernel) ⟨by decide, by decide⟩) rfl hl.1 rfl (Nat.le_of_ble_eq_true rfl) d_D_time_47 ⟨Nat.zero_le _, Nat.zero_le _⟩ ?_
        refine lv_if_ne (tgt := 61) hx hb d_D_time_50 (by decide) (fun c50 => ?_) (fun c50 => ?_)
        · replace h := ogf c50 h
          exact w_D_time_61 G hI  M2 _ _ _ hP hS (lv_sub hl [0] rfl) h
        · replace h := ogt c50 h
          refine lv_aload_n hx hb d_D_time_53 rfl (lv_at hl 0 rfl) ?_
          refine lv_iconst (v := 1) hx hb d_D_time_54 (by decide) ?_
          obtain ⟨q55, hc55, h⟩ := obd h
          refine wd_cvr (As := [.int 1]) (rest := []) ⟨hx, hb, hml, hown, hts⟩ hK hP 0 hI.1 hI.2.1 rfl (c_D_anyOpen l 1 M2 _ hI hc55) (cwV 1 hts (wmV t_233 t_235 t_236 t_229 t_234) rfl rfl rfl (by decide +kernel) ⟨by decide, by decide⟩) rfl hl.1 rfl (Nat.le_of_ble_eq_true rfl) d_D_time_55 ⟨Nat.zero_le _, Nat.zero_le _⟩ ?_
          refine lv_if_eq (tgt := 67) hx hb d_D_time_58 (by decide) (fun c58 => ?_) (fun c58 => ?_)
          · replace h := ogt c58 h
            refine lv_aload_n hx hb d_D_time_67 rfl (lv_at hl 0 rfl) ?_
            refine wd_getr hx hb hts i_D hown hK hP 0 hI.1 hI.2.1 rfl 7 (by decide) t_241 rfl d_D_time_68 ?_
            refine lv_iload_n hx hb d_D_time_71 rfl (lv_at hl 1 rfl) ?_
            obtain ⟨hi72, h⟩ := og h
            refine wd_iald hx hb hK hP 1 0 hI.2.2.1.1 hI.2.2.1.2 rfl hi72 d_D_time_72 ?_
            obtain ⟨v73, e73, h⟩ := ln h
            refine lv_nm e73 ?_
            refine lv_istore_n (lv' := [(3, .int v73), (0, .ref (b + 0)), (1, .int x1), (2, .int x2)]) hx hb d_D_time_73 rfl hl (by decide) rfl (fun ls hl => ?_)
            refine lv_aload_n hx hb d_D_time_74 rfl (lv_at hl 1 rfl) ?_
            refine wd_getr hx hb hts i_D hown hK hP 0 hI.1 hI.2.1 rfl 7 (by decide) t_241 rfl d_D_time_75 ?_
            refine lv_iload_n hx hb d_D_time_78 rfl (lv_at hl 2 rfl) ?_
            refine lv_iload_n hx hb d_D_time_79 rfl (lv_at hl 3 rfl) ?_
            obtain ⟨hi80, h⟩ := og h
            obtain ⟨M80, eM80, h⟩ := ln h
            refine wd_iast hx hb hK hP hS 1 0 hI.2.2.1.1 hI.2.2.1.2 rfl hi80 d_D_time_80 (fun H locs hP hS => ?_)
            rw [← eM80] at hP
            refine lv_iload_n hx hb d_D_time_81 rfl (lv_at hl 0 rfl) ?_
            obtain ⟨rfl, rfl⟩ := oe2 h
            exact wd_iret hx hb hr hlk hP hS d_D_time_82
          · replace h := ogf c58 h
            exact w_D_time_61 G hI  M2 _ _ _ hP hS (lv_sub hl [0] rfl) h
    · replace h := ogt c28 h
      refine lv_aload_n hx hb d_D_time_31 rfl (lv_at hl 0 rfl) ?_
      refine lv_iconst (v := 2) hx hb d_D_time_32 (by decide) ?_
      obtain ⟨q33, hc33, h⟩ := obd h
      refine wd_cvi (As := [.int 2]) (rest := []) ⟨hx, hb, hml, hown, hts⟩ hK hP hS 0 hI.1 hI.2.1 rfl (c_D_fail l 2 M2 _ hI hc33) (cwV 1 hts (wmV t_253 t_255 t_256 t_229 t_254) rfl rfl rfl (by decide +kernel) ⟨by decide, by decide⟩) rfl hl.1 rfl (Nat.le_of_ble_eq_true rfl) d_D_time_33 ⟨Nat.zero_le _, Nat.zero_le _⟩ (fun H locs hP hS => ?_)
      obtain ⟨rfl, rfl⟩ := oe2 h
      exact wd_iret hx hb hr hlk hP hS d_D_time_36
  · replace h := ogt c12 h
    refine lv_aload_n hx hb d_D_time_15 rfl (lv_at hl 0 rfl) ?_
    refine lv_iconst (v := 1) hx hb d_D_time_16 (by decide) ?_
    obtain ⟨q17, hc17, h⟩ := obd h
    refine wd_cvi (As := [.int 1]) (rest := []) ⟨hx, hb, hml, hown, hts⟩ hK hP hS 0 hI.1 hI.2.1 rfl (c_D_fail l 1 M2 _ hI hc17) (cwV 1 hts (wmV t_253 t_255 t_256 t_229 t_254) rfl rfl rfl (by decide +kernel) ⟨by decide, by decide⟩) rfl hl.1 rfl (Nat.le_of_ble_eq_true rfl) d_D_time_17 ⟨Nat.zero_le _, Nat.zero_le _⟩ (fun H locs hP hS => ?_)
    obtain ⟨rfl, rfl⟩ := oe2 h
    exact wd_iret hx hb hr hlk hP hS d_D_time_20
theorem c_D_time (l : Launch) (x1 x2 : Int32) (M : Mm) (sz : Nat) (hI : Is_D dA b N sh B C 0) {rv : Int32} {M' : Mm} (h : f_D_time B C x1 x2 M = some (rv, M')) : Met l y_D_time (wm y_D_time k_D_time 4 (some .int)) rm_D_time (Pw (dC, dI) cls6 (tyl dA) b N sh [.ref (b + 0), .int x1, .int x2] M sz) (Qwi (dC, dI) cls6 b N sh rv M' sz) 0 0 (reg b N sz) := by
  refine mk_met (by decide) (Nat.le_of_ble_eq_true rfl) ?_
  intro p e s m below meth c ls G hsz hP hS hl
  subst hsz
  exact w_D_time_0 G hI _ _ _ ls hP hS hl h
end
abbrev rm_D_span : Room := { frames := 1, cells := 0, slots := 0, locals := 22 }
def B_D_span_27 (B C : Nat) (x1 : Int32) (M : Mm) : Option (Int32 × Mm) := bnd (M 0 6) (fun v31 => bnd (up2 M 0 6 x1) (fun M34 => some (v31, M34)))
def f_D_span (B C : Nat) (x1 : Int32) (M : Mm) : Option (Int32 × Mm) := bnd (up2 M 0 0 0) (fun M2 => (if x1 = 0 then B_D_span_27 B C x1 M2 else (f_D_within B C x1 50 10000 M2).bind (fun q15 => (if q15 = 0 then (f_D_fail B C 1 M2).bind (fun q23 => some (q23.1, q23.2)) else B_D_span_27 B C x1 M2))))
section
variable {p : Program} {l : Launch} {e : Env} {s : State} {m : MethodId} {args : Array Value} {below : List Frame} {meth : Method} {c : Code} {dC : Nat → ClassId} {dI : Nat → Nat → Nat} {dA : Nat → ClassId} {b N B C : Nat} {sh : Shp}
set_option maxHeartbeats 4000000 in
set_option maxRecDepth 100000 in
theorem w_D_span_27 {rv : Int32} {M' : Mm} (G : Cx p s m args meth c (dC, dI) cls6 (tyl dA) "BankTimesModel" k_D_span 3 (some .int)) (hI : Is_D dA b N sh B C 0)   : ∀ (x1 : Int32) (M : Mm) (H : Heap) (locs : List Loc) (ls : Array Slot), va_P (dC, dI) cls6 (wd b N sh M) H → va_S (reg b N s.heap.size) s.heap H locs → lv_has ls 3 [(0, .ref (b + 0)), (1, .int x1)] → B_D_span_27 B C x1 M = some (rv, M') → W p l e rm_D_span s m args below meth c H locs 0 0 (MQ below (Qwi (dC, dI) cls6 b N sh rv M' s.heap.size) args s 0 0 (reg b N s.heap.size)) (F0 m 27 ls []) := by
  obtain ⟨hx, hb, hml, hr, hown, hts, hlk, hK⟩ := id G
  intro x1 M H locs ls hP hS hl h
  unfold B_D_span_27 at h
  refine lv_aload_n hx hb d_D_span_27 rfl (lv_at hl 0 rfl) ?_
  refine wd_geti hx hb hts i_D hown hK hP 0 hI.1 hI.2.1 rfl 6 (by decide) t_269 rfl d_D_span_28 ?_
  obtain ⟨v31, e31, h⟩ := ln h
  refine lv_nm e31 ?_
  refine lv_istore_n (lv' := [(2, .int v31), (0, .ref (b + 0)), (1, .int x1)]) hx hb d_D_span_31 rfl hl (by decide) rfl (fun ls hl => ?_)
  refine lv_aload_n hx hb d_D_span_32 rfl (lv_at hl 1 rfl) ?_
  refine lv_iload_n hx hb d_D_span_33 rfl (lv_at hl 2 rfl) ?_
  obtain ⟨M34, eM34, h⟩ := ln h
  refine wd_puti hx hb hts i_D ty_D tyok_D nm_D hown hK hP hS 0 hI.1 hI.2.1 rfl 6 (by decide) t_269 rfl rfl (ty := .int) (by decide +kernel) rfl rfl d_D_span_34 (fun H locs hP hS => ?_)
  rw [← eM34] at hP
  refine lv_iload_n hx hb d_D_span_37 rfl (lv_at hl 0 rfl) ?_
  obtain ⟨rfl, rfl⟩ := oe2 h
  exact wd_iret hx hb hr hlk hP hS d_D_span_38
set_option maxHeartbeats 4000000 in
set_option maxRecDepth 100000 in
theorem w_D_span_0 {rv : Int32} {M' : Mm} (G : Cx p s m args meth c (dC, dI) cls6 (tyl dA) "BankTimesModel" k_D_span 3 (some .int)) (hI : Is_D dA b N sh B C 0)   : ∀ (x1 : Int32) (M : Mm) (ls : Array Slot), va_P (dC, dI) cls6 (wd b N sh M) s.heap → va_S (reg b N s.heap.size) s.heap s.heap [] → lv_has ls 3 [(0, .ref (b + 0)), (1, .int x1)] → f_D_span B C x1 M = some (rv, M') → W p l e rm_D_span s m args below meth c s.heap [] 0 0 (MQ below (Qwi (dC, dI) cls6 b N sh rv M' s.heap.size) args s 0 0 (reg b N s.heap.size)) (F0 m 0 ls []) := by
  obtain ⟨hx, hb, hml, hr, hown, hts, hlk, hK⟩ := id G
  intro x1 M ls hP hS hl h
  unfold f_D_span at h
  refine lv_aload_n hx hb d_D_span_0 rfl (lv_at hl 0 rfl) ?_
  refine lv_iconst (v := 0) hx hb d_D_span_1 (by decide) ?_
  obtain ⟨M2, eM2, h⟩ := ln h
  refine wd_puti hx hb hts i_D ty_D tyok_D nm_D hown hK hP hS 0 hI.1 hI.2.1 rfl 0 (by decide) t_213 rfl rfl (ty := .int) (by decide +kernel) rfl rfl d_D_span_2 (fun H locs hP hS => ?_)
  rw [← eM2] at hP
  refine lv_iload_n hx hb d_D_span_5 rfl (lv_at hl 1 rfl) ?_
  refine lv_if_eq (tgt := 27) hx hb d_D_span_6 (by decide) (fun c6 => ?_) (fun c6 => ?_)
  · replace h := ogt c6 h
    exact w_D_span_27 G hI  x1 M2 _ _ _ hP hS (lv_sub hl [0, 1] rfl) h
  · replace h := ogf c6 h
    refine lv_iload_n hx hb d_D_span_9 rfl (lv_at hl 1 rfl) ?_
    refine lv_bipush (v := 50) hx hb d_D_span_10 (by decide) ?_
    refine lv_sipush (v := 10000) hx hb d_D_span_12 (by decide) ?_
    obtain ⟨q15, hc15, h⟩ := obd h
    refine wd_csr (As := [.int x1, .int 50, .int 10000]) (rest := []) ⟨hx, hb, hml, hown, hts⟩ hK hP (c_D_within l x1 50 10000 M2 _  hc15) ⟨callB_of 3 hts (wm_good t_227) rfl rfl rfl (hts _ t_229) (hts _ t_226) (by decide +kernel) ⟨by decide, by decide⟩, hts _ t_228⟩ rfl hl.1 rfl (Nat.le_of_ble_eq_true rfl) d_D_span_15 ⟨Nat.zero_le _, Nat.zero_le _⟩ ?_
    refine lv_if_ne (tgt := 27) hx hb d_D_span_18 (by decide) (fun c18 => ?_) (fun c18 => ?_)
    · replace h := ogf c18 h
      exact w_D_span_27 G hI  x1 M2 _ _ _ hP hS (lv_sub hl [0, 1] rfl) h
    · replace h := ogt c18 h
      refine lv_aload_n hx hb d_D_span_21 rfl (lv_at hl 0 rfl) ?_
      refine lv_iconst (v := 1) hx hb d_D_span_22 (by decide) ?_
      obtain ⟨q23, hc23, h⟩ := obd h
      refine wd_cvi (As := [.int 1]) (rest := []) ⟨hx, hb, hml, hown, hts⟩ hK hP hS 0 hI.1 hI.2.1 rfl (c_D_fail l 1 M2 _ hI hc23) (cwV 1 hts (wmV t_253 t_255 t_256 t_229 t_254) rfl rfl rfl (by decide +kernel) ⟨by decide, by decide⟩) rfl hl.1 rfl (Nat.le_of_ble_eq_true rfl) d_D_span_23 ⟨Nat.zero_le _, Nat.zero_le _⟩ (fun H locs hP hS => ?_)
      obtain ⟨rfl, rfl⟩ := oe2 h
      exact wd_iret hx hb hr hlk hP hS d_D_span_26
theorem c_D_span (l : Launch) (x1 : Int32) (M : Mm) (sz : Nat) (hI : Is_D dA b N sh B C 0) {rv : Int32} {M' : Mm} (h : f_D_span B C x1 M = some (rv, M')) : Met l y_D_span (wm y_D_span k_D_span 3 (some .int)) rm_D_span (Pw (dC, dI) cls6 (tyl dA) b N sh [.ref (b + 0), .int x1] M sz) (Qwi (dC, dI) cls6 b N sh rv M' sz) 0 0 (reg b N sz) := by
  refine mk_met (by decide) (Nat.le_of_ble_eq_true rfl) ?_
  intro p e s m below meth c ls G hsz hP hS hl
  subst hsz
  exact w_D_span_0 G hI _ _ ls hP hS hl h
end
abbrev rm_D_ask : Room := { frames := 2, cells := 0, slots := 0, locals := 44 }
def f_D_ask (B C : Nat) (x1 x2 : Int32) (M : Mm) : Option (Int32 × Mm) := bnd (up2 M 0 0 0) (fun M2 => (f_D_isAddress B C x1 M2).bind (fun q7 => (if q7 = 0 then (f_D_fail B C 1 M2).bind (fun q15 => some (q15.1, q15.2)) else (f_D_channelOf B C x1 M2).bind (fun q22 => (f_D_waiting B C q22 M2).bind (fun q25 => (if q25 = 8 then (f_D_fail B C 2 M2).bind (fun q35 => some (q35.1, q35.2)) else (if ixb (M2 0 20) 600 = true then bnd (up2 M2 14 (M2 0 20).toNatClampNeg x1) (fun M48 => (if bz x2 = true then (if ixb (M48 0 20) 600 = true then bnd (up2 M48 15 (M48 0 20).toNatClampNeg x2) (fun M58 => (if ixb (M58 0 20) 600 = true then bnd (up2 M58 16 (M58 0 20).toNatClampNeg (M58 0 5)) (fun M71 => (if ixb (M71 0 20) 600 = true then bnd (up2 M71 17 (M71 0 20).toNatClampNeg (-1)) (fun M81 => bnd (up2 M81 0 20 ((M81 0 20) + 1)) (fun M89 => some (((M89 0 20) - 1), M89))) else none)) else none)) else none) else none)) else none)))))))
section
variable {p : Program} {l : Launch} {e : Env} {s : State} {m : MethodId} {args : Array Value} {below : List Frame} {meth : Method} {c : Code} {dC : Nat → ClassId} {dI : Nat → Nat → Nat} {dA : Nat → ClassId} {b N B C : Nat} {sh : Shp}
set_option maxHeartbeats 4000000 in
set_option maxRecDepth 100000 in
theorem w_D_ask_0 {rv : Int32} {M' : Mm} (G : Cx p s m args meth c (dC, dI) cls6 (tyl dA) "BankTimesModel" k_D_ask 3 (some .int)) (hI : Is_D dA b N sh B C 0)   : ∀ (x1 x2 : Int32) (M : Mm) (ls : Array Slot), va_P (dC, dI) cls6 (wd b N sh M) s.heap → va_S (reg b N s.heap.size) s.heap s.heap [] → lv_has ls 3 [(0, .ref (b + 0)), (1, .int x1), (2, .int x2)] → f_D_ask B C x1 x2 M = some (rv, M') → W p l e rm_D_ask s m args below meth c s.heap [] 0 0 (MQ below (Qwi (dC, dI) cls6 b N sh rv M' s.heap.size) args s 0 0 (reg b N s.heap.size)) (F0 m 0 ls []) := by
  obtain ⟨hx, hb, hml, hr, hown, hts, hlk, hK⟩ := id G
  intro x1 x2 M ls hP hS hl h
  unfold f_D_ask at h
  refine lv_aload_n hx hb d_D_ask_0 rfl (lv_at hl 0 rfl) ?_
  refine lv_iconst (v := 0) hx hb d_D_ask_1 (by decide) ?_
  obtain ⟨M2, eM2, h⟩ := ln h
  refine wd_puti hx hb hts i_D ty_D tyok_D nm_D hown hK hP hS 0 hI.1 hI.2.1 rfl 0 (by decide) t_213 rfl rfl (ty := .int) (by decide +kernel) rfl rfl d_D_ask_2 (fun H locs hP hS => ?_)
  rw [← eM2] at hP
  refine lv_aload_n hx hb d_D_ask_5 rfl (lv_at hl 0 rfl) ?_
  refine lv_iload_n hx hb d_D_ask_6 rfl (lv_at hl 1 rfl) ?_
  obtain ⟨q7, hc7, h⟩ := obd h
  refine wd_cvr (As := [.int x1]) (rest := []) ⟨hx, hb, hml, hown, hts⟩ hK hP 0 hI.1 hI.2.1 rfl (c_D_isAddress l x1 M2 _ hI hc7) (cwV 1 hts (wmV t_249 t_251 t_252 t_229 t_250) rfl rfl rfl (by decide +kernel) ⟨by decide, by decide⟩) rfl hl.1 rfl (Nat.le_of_ble_eq_true rfl) d_D_ask_7 ⟨Nat.zero_le _, Nat.zero_le _⟩ ?_
  refine lv_if_ne (tgt := 19) hx hb d_D_ask_10 (by decide) (fun c10 => ?_) (fun c10 => ?_)
  · replace h := ogf c10 h
    refine lv_aload_n hx hb d_D_ask_19 rfl (lv_at hl 0 rfl) ?_
    refine lv_aload_n hx hb d_D_ask_20 rfl (lv_at hl 0 rfl) ?_
    refine lv_iload_n hx hb d_D_ask_21 rfl (lv_at hl 1 rfl) ?_
    obtain ⟨q22, hc22, h⟩ := obd h
    refine wd_cvr (As := [.int x1]) (rest := [.ref (b + 0)]) ⟨hx, hb, hml, hown, hts⟩ hK hP 0 hI.1 hI.2.1 rfl (c_D_channelOf l x1 M2 _ hI hc22) (cwV 1 hts (wmV t_245 t_247 t_248 t_229 t_246) rfl rfl rfl (by decide +kernel) ⟨by decide, by decide⟩) rfl hl.1 rfl (Nat.le_of_ble_eq_true rfl) d_D_ask_22 ⟨Nat.zero_le _, Nat.zero_le _⟩ ?_
    obtain ⟨q25, hc25, h⟩ := obd h
    refine wd_cvr (As := [.int q22]) (rest := []) ⟨hx, hb, hml, hown, hts⟩ hK hP 0 hI.1 hI.2.1 rfl (c_D_waiting l q22 M2 _ hI hc25) (cwV 1 hts (wmV t_265 t_267 t_268 t_229 t_266) rfl rfl rfl (by decide +kernel) ⟨by decide, by decide⟩) rfl hl.1 rfl (Nat.le_of_ble_eq_true rfl) d_D_ask_25 ⟨Nat.zero_le _, Nat.zero_le _⟩ ?_
    refine lv_bipush (v := 8) hx hb d_D_ask_28 (by decide) ?_
    refine lv_icmp_ne (tgt := 39) hx hb d_D_ask_30 (by decide) (fun c30 => ?_) (fun c30 => ?_)
    · replace h := ogf c30 h
      refine lv_aload_n hx hb d_D_ask_39 rfl (lv_at hl 0 rfl) ?_
      refine wd_getr hx hb hts i_D hown hK hP 0 hI.1 hI.2.1 rfl 23 (by decide) t_244 rfl d_D_ask_40 ?_
      refine lv_aload_n hx hb d_D_ask_43 rfl (lv_at hl 0 rfl) ?_
      refine wd_geti hx hb hts i_D hown hK hP 0 hI.1 hI.2.1 rfl 20 (by decide) t_242 rfl d_D_ask_44 ?_
      refine lv_iload_n hx hb d_D_ask_47 rfl (lv_at hl 1 rfl) ?_
      obtain ⟨hi48, h⟩ := og h
      obtain ⟨M48, eM48, h⟩ := ln h
      refine wd_iast hx hb hK hP hS 14 0 hI.2.2.2.2.2.2.2.2.2.2.2.2.2.2.2.1.1 hI.2.2.2.2.2.2.2.2.2.2.2.2.2.2.2.1.2 rfl hi48 d_D_ask_48 (fun H locs hP hS => ?_)
      rw [← eM48] at hP
      refine lv_aload_n hx hb d_D_ask_49 rfl (lv_at hl 0 rfl) ?_
      refine wd_getr hx hb hts i_D hown hK hP 0 hI.1 hI.2.1 rfl 24 (by decide) t_270 rfl d_D_ask_50 ?_
      refine lv_aload_n hx hb d_D_ask_53 rfl (lv_at hl 0 rfl) ?_
      refine wd_geti hx hb hts i_D hown hK hP 0 hI.1 hI.2.1 rfl 20 (by decide) t_242 rfl d_D_ask_54 ?_
      refine lv_iload_n hx hb d_D_ask_57 rfl (lv_at hl 2 rfl) ?_
      obtain ⟨hz58, h⟩ := og h
      obtain ⟨hi58, h⟩ := og h
      obtain ⟨M58, eM58, h⟩ := ln h
      refine wd_zast hx hb hK hP hS 15 1 hI.2.2.2.2.2.2.2.2.2.2.2.2.2.2.2.2.1.1 hI.2.2.2.2.2.2.2.2.2.2.2.2.2.2.2.2.1.2 rfl (vpz hz58) hi58 d_D_ask_58 (fun H locs hP hS => ?_)
      rw [← eM58] at hP
      refine lv_aload_n hx hb d_D_ask_59 rfl (lv_at hl 0 rfl) ?_
      refine wd_getr hx hb hts i_D hown hK hP 0 hI.1 hI.2.1 rfl 25 (by decide) t_271 rfl d_D_ask_60 ?_
      refine lv_aload_n hx hb d_D_ask_63 rfl (lv_at hl 0 rfl) ?_
      refine wd_geti hx hb hts i_D hown hK hP 0 hI.1 hI.2.1 rfl 20 (by decide) t_242 rfl d_D_ask_64 ?_
      refine lv_aload_n hx hb d_D_ask_67 rfl (lv_at hl 0 rfl) ?_
      refine wd_geti hx hb hts i_D hown hK hP 0 hI.1 hI.2.1 rfl 5 (by decide) t_272 rfl d_D_ask_68 ?_
      obtain ⟨hi71, h⟩ := og h
      obtain ⟨M71, eM71, h⟩ := ln h
      refine wd_iast hx hb hK hP hS 16 0 hI.2.2.2.2.2.2.2.2.2.2.2.2.2.2.2.2.2.1.1 hI.2.2.2.2.2.2.2.2.2.2.2.2.2.2.2.2.2.1.2 rfl hi71 d_D_ask_71 (fun H locs hP hS => ?_)
      rw [← eM71] at hP
      refine lv_aload_n hx hb d_D_ask_72 rfl (lv_at hl 0 rfl) ?_
      refine wd_getr hx hb hts i_D hown hK hP 0 hI.1 hI.2.1 rfl 26 (by decide) t_243 rfl d_D_ask_73 ?_
      refine lv_aload_n hx hb d_D_ask_76 rfl (lv_at hl 0 rfl) ?_
      refine wd_geti hx hb hts i_D hown hK hP 0 hI.1 hI.2.1 rfl 20 (by decide) t_242 rfl d_D_ask_77 ?_
      refine lv_iconst (v := (-1)) hx hb d_D_ask_80 (by decide) ?_
      obtain ⟨hi81, h⟩ := og h
      obtain ⟨M81, eM81, h⟩ := ln h
      refine wd_iast hx hb hK hP hS 17 0 hI.2.2.2.2.2.2.2.2.2.2.2.2.2.2.2.2.2.2.1.1 hI.2.2.2.2.2.2.2.2.2.2.2.2.2.2.2.2.2.2.1.2 rfl hi81 d_D_ask_81 (fun H locs hP hS => ?_)
      rw [← eM81] at hP
      refine lv_aload_n hx hb d_D_ask_82 rfl (lv_at hl 0 rfl) ?_
      refine lv_dup hx hb d_D_ask_83 rfl ?_
      refine wd_geti hx hb hts i_D hown hK hP 0 hI.1 hI.2.1 rfl 20 (by decide) t_242 rfl d_D_ask_84 ?_
      refine lv_iconst (v := 1) hx hb d_D_ask_87 (by decide) ?_
      refine lv_iadd hx hb d_D_ask_88 ?_
      obtain ⟨M89, eM89, h⟩ := ln h
      refine wd_puti hx hb hts i_D ty_D tyok_D nm_D hown hK hP hS 0 hI.1 hI.2.1 rfl 20 (by decide) t_242 rfl rfl (ty := .int) (by decide +kernel) rfl rfl d_D_ask_89 (fun H locs hP hS => ?_)
      rw [← eM89] at hP
      refine lv_aload_n hx hb d_D_ask_92 rfl (lv_at hl 0 rfl) ?_
      refine wd_geti hx hb hts i_D hown hK hP 0 hI.1 hI.2.1 rfl 20 (by decide) t_242 rfl d_D_ask_93 ?_
      refine lv_iconst (v := 1) hx hb d_D_ask_96 (by decide) ?_
      refine lv_isub hx hb d_D_ask_97 ?_
      obtain ⟨rfl, rfl⟩ := oe2 h
      exact wd_iret hx hb hr hlk hP hS d_D_ask_98
    · replace h := ogt c30 h
      refine lv_aload_n hx hb d_D_ask_33 rfl (lv_at hl 0 rfl) ?_
      refine lv_iconst (v := 2) hx hb d_D_ask_34 (by decide) ?_
      obtain ⟨q35, hc35, h⟩ := obd h
      refine wd_cvi (As := [.int 2]) (rest := []) ⟨hx, hb, hml, hown, hts⟩ hK hP hS 0 hI.1 hI.2.1 rfl (c_D_fail l 2 M2 _ hI hc35) (cwV 1 hts (wmV t_253 t_255 t_256 t_229 t_254) rfl rfl rfl (by decide +kernel) ⟨by decide, by decide⟩) rfl hl.1 rfl (Nat.le_of_ble_eq_true rfl) d_D_ask_35 ⟨Nat.zero_le _, Nat.zero_le _⟩ (fun H locs hP hS => ?_)
      obtain ⟨rfl, rfl⟩ := oe2 h
      exact wd_iret hx hb hr hlk hP hS d_D_ask_38
  · replace h := ogt c10 h
    refine lv_aload_n hx hb d_D_ask_13 rfl (lv_at hl 0 rfl) ?_
    refine lv_iconst (v := 1) hx hb d_D_ask_14 (by decide) ?_
    obtain ⟨q15, hc15, h⟩ := obd h
    refine wd_cvi (As := [.int 1]) (rest := []) ⟨hx, hb, hml, hown, hts⟩ hK hP hS 0 hI.1 hI.2.1 rfl (c_D_fail l 1 M2 _ hI hc15) (cwV 1 hts (wmV t_253 t_255 t_256 t_229 t_254) rfl rfl rfl (by decide +kernel) ⟨by decide, by decide⟩) rfl hl.1 rfl (Nat.le_of_ble_eq_true rfl) d_D_ask_15 ⟨Nat.zero_le _, Nat.zero_le _⟩ (fun H locs hP hS => ?_)
    obtain ⟨rfl, rfl⟩ := oe2 h
    exact wd_iret hx hb hr hlk hP hS d_D_ask_18
theorem c_D_ask (l : Launch) (x1 x2 : Int32) (M : Mm) (sz : Nat) (hI : Is_D dA b N sh B C 0) {rv : Int32} {M' : Mm} (h : f_D_ask B C x1 x2 M = some (rv, M')) : Met l y_D_ask (wm y_D_ask k_D_ask 3 (some .int)) rm_D_ask (Pw (dC, dI) cls6 (tyl dA) b N sh [.ref (b + 0), .int x1, .int x2] M sz) (Qwi (dC, dI) cls6 b N sh rv M' sz) 0 0 (reg b N sz) := by
  refine mk_met (by decide) (Nat.le_of_ble_eq_true rfl) ?_
  intro p e s m below meth c ls G hsz hP hS hl
  subst hsz
  exact w_D_ask_0 G hI _ _ _ ls hP hS hl h
end
abbrev rm_D_give : Room := { frames := 1, cells := 0, slots := 0, locals := 27 }
def f_D_give (B C : Nat) (x1 x2 x3 x4 : Int32) (M : Mm) : Option (Mm) := bnd ((M 0 27) - (M 0 27) / 512 * 512) (fun v8 => (if ixb v8 512 = true then bnd (up2 M 19 v8.toNatClampNeg x1) (fun M17 => (if ixb v8 512 = true then bnd (up2 M17 20 v8.toNatClampNeg (M17 0 5)) (fun M28 => (if ixb v8 512 = true then bnd (up2 M28 21 v8.toNatClampNeg x2) (fun M36 => (if ixb v8 512 = true then bnd (up2 M36 22 v8.toNatClampNeg x3) (fun M44 => (if ixb v8 512 = true then bnd (up2 M44 23 v8.toNatClampNeg x4) (fun M53 => bnd (up2 M53 0 27 ((M53 0 27) + 1)) (fun M61 => (if ixb x2 5 = true then (if ixb x2 5 = true then bnd (up2 M61 18 x2.toNatClampNeg ((M61 18 x2.toNatClampNeg) + 1)) (fun M73 => (f_D_note B C x1 x2 x3 x4 (M73 0 5) M73).bind (fun q84 => some q84)) else none) else none))) else none)) else none)) else none)) else none)) else none))
section
variable {p : Program} {l : Launch} {e : Env} {s : State} {m : MethodId} {args : Array Value} {below : List Frame} {meth : Method} {c : Code} {dC : Nat → ClassId} {dI : Nat → Nat → Nat} {dA : Nat → ClassId} {b N B C : Nat} {sh : Shp}
set_option maxHeartbeats 4000000 in
set_option maxRecDepth 100000 in
theorem w_D_give_0 {M' : Mm} (G : Cx p s m args meth c (dC, dI) cls6 (tyl dA) "BankTimesModel" k_D_give 6 none) (hI : Is_D dA b N sh B C 0)   : ∀ (x1 x2 x3 x4 : Int32) (M : Mm) (ls : Array Slot), va_P (dC, dI) cls6 (wd b N sh M) s.heap → va_S (reg b N s.heap.size) s.heap s.heap [] → lv_has ls 6 [(0, .ref (b + 0)), (1, .int x1), (2, .int x2), (3, .int x3), (4, .int x4)] → f_D_give B C x1 x2 x3 x4 M = some M' → W p l e rm_D_give s m args below meth c s.heap [] 0 0 (MQ below (Qwv (dC, dI) cls6 b N sh M' s.heap.size) args s 0 0 (reg b N s.heap.size)) (F0 m 0 ls []) := by
  obtain ⟨hx, hb, hml, hr, hown, hts, hlk, hK⟩ := id G
  intro x1 x2 x3 x4 M ls hP hS hl h
  unfold f_D_give at h
  refine lv_aload_n hx hb d_D_give_0 rfl (lv_at hl 0 rfl) ?_
  refine wd_geti hx hb hts i_D hown hK hP 0 hI.1 hI.2.1 rfl 27 (by decide) t_273 rfl d_D_give_1 ?_
  refine lv_sipush (v := 512) hx hb d_D_give_4 (by decide) ?_
  refine lv_irem hx hb d_D_give_7 (by decide) ?_
  obtain ⟨v8, e8, h⟩ := ln h
  refine lv_nm e8 ?_
  refine lv_istore (lv' := [(5, .int v8), (0, .ref (b + 0)), (1, .int x1), (2, .int x2), (3, .int x3), (4, .int x4)]) hx hb d_D_give_8 hl (by decide) rfl (fun ls hl => ?_)
  refine lv_aload_n hx hb d_D_give_10 rfl (lv_at hl 1 rfl) ?_
  refine wd_getr hx hb hts i_D hown hK hP 0 hI.1 hI.2.1 rfl 29 (by decide) t_274 rfl d_D_give_11 ?_
  refine lv_iload hx hb d_D_give_14 (lv_at hl 0 rfl) ?_
  refine lv_iload_n hx hb d_D_give_16 rfl (lv_at hl 2 rfl) ?_
  obtain ⟨hi17, h⟩ := og h
  obtain ⟨M17, eM17, h⟩ := ln h
  refine wd_iast hx hb hK hP hS 19 0 hI.2.2.2.2.2.2.2.2.2.2.2.2.2.2.2.2.2.2.2.2.1.1 hI.2.2.2.2.2.2.2.2.2.2.2.2.2.2.2.2.2.2.2.2.1.2 rfl hi17 d_D_give_17 (fun H locs hP hS => ?_)
  rw [← eM17] at hP
  refine lv_aload_n hx hb d_D_give_18 rfl (lv_at hl 1 rfl) ?_
  refine wd_getr hx hb hts i_D hown hK hP 0 hI.1 hI.2.1 rfl 30 (by decide) t_275 rfl d_D_give_19 ?_
  refine lv_iload hx hb d_D_give_22 (lv_at hl 0 rfl) ?_
  refine lv_aload_n hx hb d_D_give_24 rfl (lv_at hl 1 rfl) ?_
  refine wd_geti hx hb hts i_D hown hK hP 0 hI.1 hI.2.1 rfl 5 (by decide) t_272 rfl d_D_give_25 ?_
  obtain ⟨hi28, h⟩ := og h
  obtain ⟨M28, eM28, h⟩ := ln h
  refine wd_iast hx hb hK hP hS 20 0 hI.2.2.2.2.2.2.2.2.2.2.2.2.2.2.2.2.2.2.2.2.2.1.1 hI.2.2.2.2.2.2.2.2.2.2.2.2.2.2.2.2.2.2.2.2.2.1.2 rfl hi28 d_D_give_28 (fun H locs hP hS => ?_)
  rw [← eM28] at hP
  refine lv_aload_n hx hb d_D_give_29 rfl (lv_at hl 1 rfl) ?_
  refine wd_getr hx hb hts i_D hown hK hP 0 hI.1 hI.2.1 rfl 31 (by decide) t_276 rfl d_D_give_30 ?_
  refine lv_iload hx hb d_D_give_33 (lv_at hl 0 rfl) ?_
  refine lv_iload_n hx hb d_D_give_35 rfl (lv_at hl 3 rfl) ?_
  obtain ⟨hi36, h⟩ := og h
  obtain ⟨M36, eM36, h⟩ := ln h
  refine wd_iast hx hb hK hP hS 21 0 hI.2.2.2.2.2.2.2.2.2.2.2.2.2.2.2.2.2.2.2.2.2.2.1.1 hI.2.2.2.2.2.2.2.2.2.2.2.2.2.2.2.2.2.2.2.2.2.2.1.2 rfl hi36 d_D_give_36 (fun H locs hP hS => ?_)
  rw [← eM36] at hP
  refine lv_aload_n hx hb d_D_give_37 rfl (lv_at hl 1 rfl) ?_
  refine wd_getr hx hb hts i_D hown hK hP 0 hI.1 hI.2.1 rfl 32 (by decide) t_277 rfl d_D_give_38 ?_
  refine lv_iload hx hb d_D_give_41 (lv_at hl 0 rfl) ?_
  refine lv_iload_n hx hb d_D_give_43 rfl (lv_at hl 4 rfl) ?_
  obtain ⟨hi44, h⟩ := og h
  obtain ⟨M44, eM44, h⟩ := ln h
  refine wd_iast hx hb hK hP hS 22 0 hI.2.2.2.2.2.2.2.2.2.2.2.2.2.2.2.2.2.2.2.2.2.2.2.1.1 hI.2.2.2.2.2.2.2.2.2.2.2.2.2.2.2.2.2.2.2.2.2.2.2.1.2 rfl hi44 d_D_give_44 (fun H locs hP hS => ?_)
  rw [← eM44] at hP
  refine lv_aload_n hx hb d_D_give_45 rfl (lv_at hl 1 rfl) ?_
  refine wd_getr hx hb hts i_D hown hK hP 0 hI.1 hI.2.1 rfl 33 (by decide) t_278 rfl d_D_give_46 ?_
  refine lv_iload hx hb d_D_give_49 (lv_at hl 0 rfl) ?_
  refine lv_iload hx hb d_D_give_51 (lv_at hl 5 rfl) ?_
  obtain ⟨hi53, h⟩ := og h
  obtain ⟨M53, eM53, h⟩ := ln h
  refine wd_iast hx hb hK hP hS 23 0 hI.2.2.2.2.2.2.2.2.2.2.2.2.2.2.2.2.2.2.2.2.2.2.2.2.1 hI.2.2.2.2.2.2.2.2.2.2.2.2.2.2.2.2.2.2.2.2.2.2.2.2.2 rfl hi53 d_D_give_53 (fun H locs hP hS => ?_)
  rw [← eM53] at hP
  refine lv_aload_n hx hb d_D_give_54 rfl (lv_at hl 1 rfl) ?_
  refine lv_dup hx hb d_D_give_55 rfl ?_
  refine wd_geti hx hb hts i_D hown hK hP 0 hI.1 hI.2.1 rfl 27 (by decide) t_273 rfl d_D_give_56 ?_
  refine lv_iconst (v := 1) hx hb d_D_give_59 (by decide) ?_
  refine lv_iadd hx hb d_D_give_60 ?_
  obtain ⟨M61, eM61, h⟩ := ln h
  refine wd_puti hx hb hts i_D ty_D tyok_D nm_D hown hK hP hS 0 hI.1 hI.2.1 rfl 27 (by decide) t_273 rfl rfl (ty := .int) (by decide +kernel) rfl rfl d_D_give_61 (fun H locs hP hS => ?_)
  rw [← eM61] at hP
  refine lv_aload_n hx hb d_D_give_64 rfl (lv_at hl 1 rfl) ?_
  refine wd_getr hx hb hts i_D hown hK hP 0 hI.1 hI.2.1 rfl 28 (by decide) t_279 rfl d_D_give_65 ?_
  refine lv_iload_n hx hb d_D_give_68 rfl (lv_at hl 3 rfl) ?_
  refine lv_dup2_11 hx hb d_D_give_69 rfl rfl ?_
  obtain ⟨hi70, h⟩ := og h
  refine wd_iald hx hb hK hP 18 0 hI.2.2.2.2.2.2.2.2.2.2.2.2.2.2.2.2.2.2.2.1.1 hI.2.2.2.2.2.2.2.2.2.2.2.2.2.2.2.2.2.2.2.1.2 rfl hi70 d_D_give_70 ?_
  refine lv_iconst (v := 1) hx hb d_D_give_71 (by decide) ?_
  refine lv_iadd hx hb d_D_give_72 ?_
  obtain ⟨hi73, h⟩ := og h
  obtain ⟨M73, eM73, h⟩ := ln h
  refine wd_iast hx hb hK hP hS 18 0 hI.2.2.2.2.2.2.2.2.2.2.2.2.2.2.2.2.2.2.2.1.1 hI.2.2.2.2.2.2.2.2.2.2.2.2.2.2.2.2.2.2.2.1.2 rfl hi73 d_D_give_73 (fun H locs hP hS => ?_)
  rw [← eM73] at hP
  refine lv_aload_n hx hb d_D_give_74 rfl (lv_at hl 1 rfl) ?_
  refine lv_iload_n hx hb d_D_give_75 rfl (lv_at hl 2 rfl) ?_
  refine lv_iload_n hx hb d_D_give_76 rfl (lv_at hl 3 rfl) ?_
  refine lv_iload_n hx hb d_D_give_77 rfl (lv_at hl 4 rfl) ?_
  refine lv_iload hx hb d_D_give_78 (lv_at hl 5 rfl) ?_
  refine lv_aload_n hx hb d_D_give_80 rfl (lv_at hl 1 rfl) ?_
  refine wd_geti hx hb hts i_D hown hK hP 0 hI.1 hI.2.1 rfl 5 (by decide) t_272 rfl d_D_give_81 ?_
  obtain ⟨q84, hc84, h⟩ := obd h
  refine wd_cvv (As := [.int x1, .int x2, .int x3, .int x4, .int (M73 0 5)]) (rest := []) ⟨hx, hb, hml, hown, hts⟩ hK hP hS 0 hI.1 hI.2.1 rfl (c_D_note l x1 x2 x3 x4 (M73 0 5) M73 _ hI hc84) (cwV 5 hts (wmV t_280 t_282 t_283 t_229 t_281) rfl rfl rfl (by decide +kernel) ⟨by decide, by decide⟩) rfl hl.1 rfl (Nat.le_of_ble_eq_true rfl) d_D_give_84 ⟨Nat.zero_le _, Nat.zero_le _⟩ (fun H locs hP hS => ?_)
  obtain rfl := oe h
  exact wd_vret hx hb hr hlk hP hS d_D_give_87
theorem c_D_give (l : Launch) (x1 x2 x3 x4 : Int32) (M : Mm) (sz : Nat) (hI : Is_D dA b N sh B C 0) {M' : Mm} (h : f_D_give B C x1 x2 x3 x4 M = some M') : Met l y_D_give (wm y_D_give k_D_give 6 none) rm_D_give (Pw (dC, dI) cls6 (tyl dA) b N sh [.ref (b + 0), .int x1, .int x2, .int x3, .int x4] M sz) (Qwv (dC, dI) cls6 b N sh M' sz) 0 0 (reg b N sz) := by
  refine mk_met (by decide) (Nat.le_of_ble_eq_true rfl) ?_
  intro p e s m below meth c ls G hsz hP hS hl
  subst hsz
  exact w_D_give_0 G hI _ _ _ _ _ ls hP hS hl h
end
abbrev rm_D_nextOf : Room := { frames := 1, cells := 0, slots := 0, locals := 21 }
def f_D_nextOf (B C : Nat) (x1 : Int32) (M : Mm) : Option (Int32) := (if ixb x1 600 = true then (f_D_channelOf B C (M 14 x1.toNatClampNeg) M).bind (fun q13 => (if ixb x1 600 = true then (f_D_bankOf B C (M 14 x1.toNatClampNeg) M).bind (fun q24 => (if ixb ((8 * q13) + q24) 32 = true then bnd (M 2 ((8 * q13) + q24).toNatClampNeg) (fun v29 => (if 0 ≤ v29 then (if ixb x1 600 = true then (f_D_rowOf B C (M 14 x1.toNatClampNeg) M).bind (fun q44 => (if v29 = q44 then (if ixb x1 600 = true then (if (M 15 x1.toNatClampNeg) = 0 then some 1 else some 2) else none) else some 3)) else none) else some 0)) else none)) else none)) else none)
section
variable {p : Program} {l : Launch} {e : Env} {s : State} {m : MethodId} {args : Array Value} {below : List Frame} {meth : Method} {c : Code} {dC : Nat → ClassId} {dI : Nat → Nat → Nat} {dA : Nat → ClassId} {b N B C : Nat} {sh : Shp}
set_option maxHeartbeats 4000000 in
set_option maxRecDepth 100000 in
theorem w_D_nextOf_0 {rv : Int32} (G : Cx p s m args meth c (dC, dI) cls6 (tyl dA) "BankTimesModel" k_D_nextOf 3 (some .int)) (hI : Is_D dA b N sh B C 0)   : ∀ (x1 : Int32) (M : Mm) (ls : Array Slot), va_P (dC, dI) cls6 (wd b N sh M) s.heap → va_S (reg b N s.heap.size) s.heap s.heap [] → lv_has ls 3 [(0, .ref (b + 0)), (1, .int x1)] → f_D_nextOf B C x1 M = some rv → W p l e rm_D_nextOf s m args below meth c s.heap [] 0 0 (MQ below (Qro rv) args s 0 0 nofree) (F0 m 0 ls []) := by
  obtain ⟨hx, hb, hml, hr, hown, hts, hlk, hK⟩ := id G
  intro x1 M ls hP hS hl h
  unfold f_D_nextOf at h
  refine lv_aload_n hx hb d_D_nextOf_0 rfl (lv_at hl 0 rfl) ?_
  refine wd_getr hx hb hts i_D hown hK hP 0 hI.1 hI.2.1 rfl 8 (by decide) t_220 rfl d_D_nextOf_1 ?_
  refine lv_bipush (v := 8) hx hb d_D_nextOf_4 (by decide) ?_
  refine lv_aload_n hx hb d_D_nextOf_6 rfl (lv_at hl 0 rfl) ?_
  refine lv_aload_n hx hb d_D_nextOf_7 rfl (lv_at hl 0 rfl) ?_
  refine wd_getr hx hb hts i_D hown hK hP 0 hI.1 hI.2.1 rfl 23 (by decide) t_244 rfl d_D_nextOf_8 ?_
  refine lv_iload_n hx hb d_D_nextOf_11 rfl (lv_at hl 1 rfl) ?_
  obtain ⟨hi12, h⟩ := og h
  refine wd_iald hx hb hK hP 14 0 hI.2.2.2.2.2.2.2.2.2.2.2.2.2.2.2.1.1 hI.2.2.2.2.2.2.2.2.2.2.2.2.2.2.2.1.2 rfl hi12 d_D_nextOf_12 ?_
  obtain ⟨q13, hc13, h⟩ := obd h
  refine wd_cvr (As := [.int (M 14 x1.toNatClampNeg)]) (rest := [.int 8, .ref (b + 2)]) ⟨hx, hb, hml, hown, hts⟩ hK hP 0 hI.1 hI.2.1 rfl (c_D_channelOf l (M 14 x1.toNatClampNeg) M _ hI hc13) (cwV 1 hts (wmV t_245 t_247 t_248 t_229 t_246) rfl rfl rfl (by decide +kernel) ⟨by decide, by decide⟩) rfl hl.1 rfl (Nat.le_of_ble_eq_true rfl) d_D_nextOf_13 ⟨Nat.zero_le _, Nat.zero_le _⟩ ?_
  refine lv_imul hx hb d_D_nextOf_16 ?_
  refine lv_aload_n hx hb d_D_nextOf_17 rfl (lv_at hl 0 rfl) ?_
  refine lv_aload_n hx hb d_D_nextOf_18 rfl (lv_at hl 0 rfl) ?_
  refine wd_getr hx hb hts i_D hown hK hP 0 hI.1 hI.2.1 rfl 23 (by decide) t_244 rfl d_D_nextOf_19 ?_
  refine lv_iload_n hx hb d_D_nextOf_22 rfl (lv_at hl 1 rfl) ?_
  obtain ⟨hi23, h⟩ := og h
  refine wd_iald hx hb hK hP 14 0 hI.2.2.2.2.2.2.2.2.2.2.2.2.2.2.2.1.1 hI.2.2.2.2.2.2.2.2.2.2.2.2.2.2.2.1.2 rfl hi23 d_D_nextOf_23 ?_
  obtain ⟨q24, hc24, h⟩ := obd h
  refine wd_cvr (As := [.int (M 14 x1.toNatClampNeg)]) (rest := [.int (8 * q13), .ref (b + 2)]) ⟨hx, hb, hml, hown, hts⟩ hK hP 0 hI.1 hI.2.1 rfl (c_D_bankOf l (M 14 x1.toNatClampNeg) M _ hI hc24) (cwV 1 hts (wmV t_261 t_263 t_264 t_229 t_262) rfl rfl rfl (by decide +kernel) ⟨by decide, by decide⟩) rfl hl.1 rfl (Nat.le_of_ble_eq_true rfl) d_D_nextOf_24 ⟨Nat.zero_le _, Nat.zero_le _⟩ ?_
  refine lv_iadd hx hb d_D_nextOf_27 ?_
  obtain ⟨hi28, h⟩ := og h
  refine wd_iald hx hb hK hP 2 0 hI.2.2.2.1.1 hI.2.2.2.1.2 rfl hi28 d_D_nextOf_28 ?_
  obtain ⟨v29, e29, h⟩ := ln h
  refine lv_nm e29 ?_
  refine lv_istore_n (lv' := [(2, .int v29), (0, .ref (b + 0)), (1, .int x1)]) hx hb d_D_nextOf_29 rfl hl (by decide) rfl (fun ls hl => ?_)
  refine lv_iload_n hx hb d_D_nextOf_30 rfl (lv_at hl 0 rfl) ?_
  refine lv_if_ge (tgt := 36) hx hb d_D_nextOf_31 (by decide) (fun c31 => ?_) (fun c31 => ?_)
  · replace h := ogt c31 h
    refine lv_iload_n hx hb d_D_nextOf_36 rfl (lv_at hl 0 rfl) ?_
    refine lv_aload_n hx hb d_D_nextOf_37 rfl (lv_at hl 1 rfl) ?_
    refine lv_aload_n hx hb d_D_nextOf_38 rfl (lv_at hl 1 rfl) ?_
    refine wd_getr hx hb hts i_D hown hK hP 0 hI.1 hI.2.1 rfl 23 (by decide) t_244 rfl d_D_nextOf_39 ?_
    refine lv_iload_n hx hb d_D_nextOf_42 rfl (lv_at hl 2 rfl) ?_
    obtain ⟨hi43, h⟩ := og h
    refine wd_iald hx hb hK hP 14 0 hI.2.2.2.2.2.2.2.2.2.2.2.2.2.2.2.1.1 hI.2.2.2.2.2.2.2.2.2.2.2.2.2.2.2.1.2 rfl hi43 d_D_nextOf_43 ?_
    obtain ⟨q44, hc44, h⟩ := obd h
    refine wd_cvr (As := [.int (M 14 x1.toNatClampNeg)]) (rest := [.int v29]) ⟨hx, hb, hml, hown, hts⟩ hK hP 0 hI.1 hI.2.1 rfl (c_D_rowOf l (M 14 x1.toNatClampNeg) M _ hI hc44) (cwV 1 hts (wmV t_257 t_259 t_260 t_229 t_258) rfl rfl rfl (by decide +kernel) ⟨by decide, by decide⟩) rfl hl.1 rfl (Nat.le_of_ble_eq_true rfl) d_D_nextOf_44 ⟨Nat.zero_le _, Nat.zero_le _⟩ ?_
    refine lv_icmp_eq (tgt := 54) hx hb d_D_nextOf_47 (by decide) (fun c47 => ?_) (fun c47 => ?_)
    · replace h := ogt c47 h
      refine lv_aload_n hx hb d_D_nextOf_54 rfl (lv_at hl 1 rfl) ?_
      refine wd_getr hx hb hts i_D hown hK hP 0 hI.1 hI.2.1 rfl 24 (by decide) t_270 rfl d_D_nextOf_55 ?_
      refine lv_iload_n hx hb d_D_nextOf_58 rfl (lv_at hl 2 rfl) ?_
      obtain ⟨hi59, h⟩ := og h
      refine wd_zald hx hb hK hP 15 1 hI.2.2.2.2.2.2.2.2.2.2.2.2.2.2.2.2.1.1 hI.2.2.2.2.2.2.2.2.2.2.2.2.2.2.2.2.1.2 rfl hi59 d_D_nextOf_59 ?_
      refine lv_if_eq (tgt := 67) hx hb d_D_nextOf_60 (by decide) (fun c60 => ?_) (fun c60 => ?_)
      · replace h := ogt c60 h
        refine lv_iconst (v := 1) hx hb d_D_nextOf_67 (by decide) ?_
        obtain rfl := oe h
        exact wd_iret0 hx hb hr hlk d_D_nextOf_68
      · replace h := ogf c60 h
        refine lv_iconst (v := 2) hx hb d_D_nextOf_63 (by decide) ?_
        refine lv_goto (tgt := 68) hx hb d_D_nextOf_64 (by decide) ?_
        obtain rfl := oe h
        exact wd_iret0 hx hb hr hlk d_D_nextOf_68
    · replace h := ogf c47 h
      refine lv_iconst (v := 3) hx hb d_D_nextOf_50 (by decide) ?_
      refine lv_goto (tgt := 68) hx hb d_D_nextOf_51 (by decide) ?_
      obtain rfl := oe h
      exact wd_iret0 hx hb hr hlk d_D_nextOf_68
  · replace h := ogf c31 h
    refine lv_iconst (v := 0) hx hb d_D_nextOf_34 (by decide) ?_
    obtain rfl := oe h
    exact wd_iret0 hx hb hr hlk d_D_nextOf_35
theorem c_D_nextOf (l : Launch) (x1 : Int32) (M : Mm) (sz : Nat) (hI : Is_D dA b N sh B C 0) {rv : Int32} (h : f_D_nextOf B C x1 M = some rv) : Met l y_D_nextOf (wm y_D_nextOf k_D_nextOf 3 (some .int)) rm_D_nextOf (Pw (dC, dI) cls6 (tyl dA) b N sh [.ref (b + 0), .int x1] M sz) (Qro rv) 0 0 nofree := by
  refine mk_met (by decide) (Nat.le_of_ble_eq_true rfl) ?_
  intro p e s m below meth c ls G hsz hP hS hl
  subst hsz
  exact w_D_nextOf_0 G hI _ _ ls hP hS hl h
end
abbrev rm_D_isReady : Room := { frames := 2, cells := 0, slots := 0, locals := 51 }
def f_D_isReady (B C : Nat) (x1 : Int32) (M : Mm) : Option (Int32) := (if ixb x1 600 = true then (f_D_channelOf B C (M 14 x1.toNatClampNeg) M).bind (fun q8 => (f_D_nextOf B C x1 M).bind (fun q13 => (if ixb x1 600 = true then (f_D_bankOf B C (M 14 x1.toNatClampNeg) M).bind (fun q23 => (f_D_broken B C q8 q13 q23 (M 0 5) M).bind (fun q30 => (if 0 ≤ q30 then some 0 else some 1))) else none))) else none)
section
variable {p : Program} {l : Launch} {e : Env} {s : State} {m : MethodId} {args : Array Value} {below : List Frame} {meth : Method} {c : Code} {dC : Nat → ClassId} {dI : Nat → Nat → Nat} {dA : Nat → ClassId} {b N B C : Nat} {sh : Shp}
set_option maxHeartbeats 4000000 in
set_option maxRecDepth 100000 in
theorem w_D_isReady_0 {rv : Int32} (G : Cx p s m args meth c (dC, dI) cls6 (tyl dA) "BankTimesModel" k_D_isReady 2 (some .boolean)) (hI : Is_D dA b N sh B C 0)   : ∀ (x1 : Int32) (M : Mm) (ls : Array Slot), va_P (dC, dI) cls6 (wd b N sh M) s.heap → va_S (reg b N s.heap.size) s.heap s.heap [] → lv_has ls 2 [(0, .ref (b + 0)), (1, .int x1)] → f_D_isReady B C x1 M = some rv → W p l e rm_D_isReady s m args below meth c s.heap [] 0 0 (MQ below (Qro rv) args s 0 0 nofree) (F0 m 0 ls []) := by
  obtain ⟨hx, hb, hml, hr, hown, hts, hlk, hK⟩ := id G
  intro x1 M ls hP hS hl h
  unfold f_D_isReady at h
  refine lv_aload_n hx hb d_D_isReady_0 rfl (lv_at hl 0 rfl) ?_
  refine lv_aload_n hx hb d_D_isReady_1 rfl (lv_at hl 0 rfl) ?_
  refine lv_aload_n hx hb d_D_isReady_2 rfl (lv_at hl 0 rfl) ?_
  refine wd_getr hx hb hts i_D hown hK hP 0 hI.1 hI.2.1 rfl 23 (by decide) t_244 rfl d_D_isReady_3 ?_
  refine lv_iload_n hx hb d_D_isReady_6 rfl (lv_at hl 1 rfl) ?_
  obtain ⟨hi7, h⟩ := og h
  refine wd_iald hx hb hK hP 14 0 hI.2.2.2.2.2.2.2.2.2.2.2.2.2.2.2.1.1 hI.2.2.2.2.2.2.2.2.2.2.2.2.2.2.2.1.2 rfl hi7 d_D_isReady_7 ?_
  obtain ⟨q8, hc8, h⟩ := obd h
  refine wd_cvr (As := [.int (M 14 x1.toNatClampNeg)]) (rest := [.ref (b + 0)]) ⟨hx, hb, hml, hown, hts⟩ hK hP 0 hI.1 hI.2.1 rfl (c_D_channelOf l (M 14 x1.toNatClampNeg) M _ hI hc8) (cwV 1 hts (wmV t_245 t_247 t_248 t_229 t_246) rfl rfl rfl (by decide +kernel) ⟨by decide, by decide⟩) rfl hl.1 rfl (Nat.le_of_ble_eq_true rfl) d_D_isReady_8 ⟨Nat.zero_le _, Nat.zero_le _⟩ ?_
  refine lv_aload_n hx hb d_D_isReady_11 rfl (lv_at hl 0 rfl) ?_
  refine lv_iload_n hx hb d_D_isReady_12 rfl (lv_at hl 1 rfl) ?_
  obtain ⟨q13, hc13, h⟩ := obd h
  refine wd_cvr (As := [.int x1]) (rest := [.int q8, .ref (b + 0)]) ⟨hx, hb, hml, hown, hts⟩ hK hP 0 hI.1 hI.2.1 rfl (c_D_nextOf l x1 M _ hI hc13) (cwV 1 hts (wmV t_284 t_286 t_287 t_229 t_285) rfl rfl rfl (by decide +kernel) ⟨by decide, by decide⟩) rfl hl.1 rfl (Nat.le_of_ble_eq_true rfl) d_D_isReady_13 ⟨Nat.zero_le _, Nat.zero_le _⟩ ?_
  refine lv_aload_n hx hb d_D_isReady_16 rfl (lv_at hl 0 rfl) ?_
  refine lv_aload_n hx hb d_D_isReady_17 rfl (lv_at hl 0 rfl) ?_
  refine wd_getr hx hb hts i_D hown hK hP 0 hI.1 hI.2.1 rfl 23 (by decide) t_244 rfl d_D_isReady_18 ?_
  refine lv_iload_n hx hb d_D_isReady_21 rfl (lv_at hl 1 rfl) ?_
  obtain ⟨hi22, h⟩ := og h
  refine wd_iald hx hb hK hP 14 0 hI.2.2.2.2.2.2.2.2.2.2.2.2.2.2.2.1.1 hI.2.2.2.2.2.2.2.2.2.2.2.2.2.2.2.1.2 rfl hi22 d_D_isReady_22 ?_
  obtain ⟨q23, hc23, h⟩ := obd h
  refine wd_cvr (As := [.int (M 14 x1.toNatClampNeg)]) (rest := [.int q13, .int q8, .ref (b + 0)]) ⟨hx, hb, hml, hown, hts⟩ hK hP 0 hI.1 hI.2.1 rfl (c_D_bankOf l (M 14 x1.toNatClampNeg) M _ hI hc23) (cwV 1 hts (wmV t_261 t_263 t_264 t_229 t_262) rfl rfl rfl (by decide +kernel) ⟨by decide, by decide⟩) rfl hl.1 rfl (Nat.le_of_ble_eq_true rfl) d_D_isReady_23 ⟨Nat.zero_le _, Nat.zero_le _⟩ ?_
  refine lv_aload_n hx hb d_D_isReady_26 rfl (lv_at hl 0 rfl) ?_
  refine wd_geti hx hb hts i_D hown hK hP 0 hI.1 hI.2.1 rfl 5 (by decide) t_272 rfl d_D_isReady_27 ?_
  obtain ⟨q30, hc30, h⟩ := obd h
  refine wd_cvr (As := [.int q8, .int q13, .int q23, .int (M 0 5)]) (rest := []) ⟨hx, hb, hml, hown, hts⟩ hK hP 0 hI.1 hI.2.1 rfl (c_D_broken l q8 q13 q23 (M 0 5) M _ hI hc30) (cwV 4 hts (wmV t_288 t_290 t_291 t_229 t_289) rfl rfl rfl (by decide +kernel) ⟨by decide, by decide⟩) rfl hl.1 rfl (Nat.le_of_ble_eq_true rfl) d_D_isReady_30 ⟨Nat.zero_le _, Nat.zero_le _⟩ ?_
  refine lv_if_ge (tgt := 40) hx hb d_D_isReady_33 (by decide) (fun c33 => ?_) (fun c33 => ?_)
  · replace h := ogt c33 h
    refine lv_iconst (v := 0) hx hb d_D_isReady_40 (by decide) ?_
    obtain rfl := oe h
    exact wd_zret0 hx hb hr rfl hlk d_D_isReady_41
  · replace h := ogf c33 h
    refine lv_iconst (v := 1) hx hb d_D_isReady_36 (by decide) ?_
    refine lv_goto (tgt := 41) hx hb d_D_isReady_37 (by decide) ?_
    obtain rfl := oe h
    exact wd_zret0 hx hb hr rfl hlk d_D_isReady_41
theorem c_D_isReady (l : Launch) (x1 : Int32) (M : Mm) (sz : Nat) (hI : Is_D dA b N sh B C 0) {rv : Int32} (h : f_D_isReady B C x1 M = some rv) : Met l y_D_isReady (wm y_D_isReady k_D_isReady 2 (some .boolean)) rm_D_isReady (Pw (dC, dI) cls6 (tyl dA) b N sh [.ref (b + 0), .int x1] M sz) (Qro rv) 0 0 nofree := by
  refine mk_met (by decide) (Nat.le_of_ble_eq_true rfl) ?_
  intro p e s m below meth c ls G hsz hP hS hl
  subst hsz
  exact w_D_isReady_0 G hI _ _ ls hP hS hl h
end
abbrev rm_D_isOf : Room := { frames := 1, cells := 0, slots := 0, locals := 21 }
def f_D_isOf (B C : Nat) (x1 x2 : Int32) (M : Mm) : Option (Int32) := (if ixb x1 600 = true then (if 0 ≤ (M 17 x1.toNatClampNeg) then some 0 else (if ixb x1 600 = true then (f_D_channelOf B C (M 14 x1.toNatClampNeg) M).bind (fun q16 => (if q16 = x2 then some 1 else some 0)) else none)) else none)
section
variable {p : Program} {l : Launch} {e : Env} {s : State} {m : MethodId} {args : Array Value} {below : List Frame} {meth : Method} {c : Code} {dC : Nat → ClassId} {dI : Nat → Nat → Nat} {dA : Nat → ClassId} {b N B C : Nat} {sh : Shp}
set_option maxHeartbeats 4000000 in
set_option maxRecDepth 100000 in
theorem w_D_isOf_0 {rv : Int32} (G : Cx p s m args meth c (dC, dI) cls6 (tyl dA) "BankTimesModel" k_D_isOf 3 (some .boolean)) (hI : Is_D dA b N sh B C 0)   : ∀ (x1 x2 : Int32) (M : Mm) (ls : Array Slot), va_P (dC, dI) cls6 (wd b N sh M) s.heap → va_S (reg b N s.heap.size) s.heap s.heap [] → lv_has ls 3 [(0, .ref (b + 0)), (1, .int x1), (2, .int x2)] → f_D_isOf B C x1 x2 M = some rv → W p l e rm_D_isOf s m args below meth c s.heap [] 0 0 (MQ below (Qro rv) args s 0 0 nofree) (F0 m 0 ls []) := by
  obtain ⟨hx, hb, hml, hr, hown, hts, hlk, hK⟩ := id G
  intro x1 x2 M ls hP hS hl h
  unfold f_D_isOf at h
  refine lv_aload_n hx hb d_D_isOf_0 rfl (lv_at hl 0 rfl) ?_
  refine wd_getr hx hb hts i_D hown hK hP 0 hI.1 hI.2.1 rfl 26 (by decide) t_243 rfl d_D_isOf_1 ?_
  refine lv_iload_n hx hb d_D_isOf_4 rfl (lv_at hl 1 rfl) ?_
  obtain ⟨hi5, h⟩ := og h
  refine wd_iald hx hb hK hP 17 0 hI.2.2.2.2.2.2.2.2.2.2.2.2.2.2.2.2.2.2.1.1 hI.2.2.2.2.2.2.2.2.2.2.2.2.2.2.2.2.2.2.1.2 rfl hi5 d_D_isOf_5 ?_
  refine lv_if_ge (tgt := 27) hx hb d_D_isOf_6 (by decide) (fun c6 => ?_) (fun c6 => ?_)
  · replace h := ogt c6 h
    refine lv_iconst (v := 0) hx hb d_D_isOf_27 (by decide) ?_
    obtain rfl := oe h
    exact wd_zret0 hx hb hr rfl hlk d_D_isOf_28
  · replace h := ogf c6 h
    refine lv_aload_n hx hb d_D_isOf_9 rfl (lv_at hl 0 rfl) ?_
    refine lv_aload_n hx hb d_D_isOf_10 rfl (lv_at hl 0 rfl) ?_
    refine wd_getr hx hb hts i_D hown hK hP 0 hI.1 hI.2.1 rfl 23 (by decide) t_244 rfl d_D_isOf_11 ?_
    refine lv_iload_n hx hb d_D_isOf_14 rfl (lv_at hl 1 rfl) ?_
    obtain ⟨hi15, h⟩ := og h
    refine wd_iald hx hb hK hP 14 0 hI.2.2.2.2.2.2.2.2.2.2.2.2.2.2.2.1.1 hI.2.2.2.2.2.2.2.2.2.2.2.2.2.2.2.1.2 rfl hi15 d_D_isOf_15 ?_
    obtain ⟨q16, hc16, h⟩ := obd h
    refine wd_cvr (As := [.int (M 14 x1.toNatClampNeg)]) (rest := []) ⟨hx, hb, hml, hown, hts⟩ hK hP 0 hI.1 hI.2.1 rfl (c_D_channelOf l (M 14 x1.toNatClampNeg) M _ hI hc16) (cwV 1 hts (wmV t_245 t_247 t_248 t_229 t_246) rfl rfl rfl (by decide +kernel) ⟨by decide, by decide⟩) rfl hl.1 rfl (Nat.le_of_ble_eq_true rfl) d_D_isOf_16 ⟨Nat.zero_le _, Nat.zero_le _⟩ ?_
    refine lv_iload_n hx hb d_D_isOf_19 rfl (lv_at hl 2 rfl) ?_
    refine lv_icmp_ne (tgt := 27) hx hb d_D_isOf_20 (by decide) (fun c20 => ?_) (fun c20 => ?_)
    · replace h := ogf c20 h
      refine lv_iconst (v := 0) hx hb d_D_isOf_27 (by decide) ?_
      obtain rfl := oe h
      exact wd_zret0 hx hb hr rfl hlk d_D_isOf_28
    · replace h := ogt c20 h
      refine lv_iconst (v := 1) hx hb d_D_isOf_23 (by decide) ?_
      refine lv_goto (tgt := 28) hx hb d_D_isOf_24 (by decide) ?_
      obtain rfl := oe h
      exact wd_zret0 hx hb hr rfl hlk d_D_isOf_28
theorem c_D_isOf (l : Launch) (x1 x2 : Int32) (M : Mm) (sz : Nat) (hI : Is_D dA b N sh B C 0) {rv : Int32} (h : f_D_isOf B C x1 x2 M = some rv) : Met l y_D_isOf (wm y_D_isOf k_D_isOf 3 (some .boolean)) rm_D_isOf (Pw (dC, dI) cls6 (tyl dA) b N sh [.ref (b + 0), .int x1, .int x2] M sz) (Qro rv) 0 0 nofree := by
  refine mk_met (by decide) (Nat.le_of_ble_eq_true rfl) ?_
  intro p e s m below meth c ls G hsz hP hS hl
  subst hsz
  exact w_D_isOf_0 G hI _ _ _ ls hP hS hl h
end
abbrev rm_D_isAmong : Room := { frames := 2, cells := 0, slots := 0, locals := 43 }
def B_D_isAmong_32 (B C : Nat) (M : Mm) : Option (Int32) := some 1
def B_D_isAmong_29 (B C : Nat) (s0 s1 : Int32) (M : Mm) : Option (Int32) := (if s0 = s1 then B_D_isAmong_32 B C M else some 0)
def f_D_isAmong (B C : Nat) (x1 x2 x3 : Int32) (M : Mm) : Option (Int32) := (f_D_isOf B C x1 x2 M).bind (fun q3 => (if q3 = 0 then some 0 else (if x3 = 0 then B_D_isAmong_32 B C M else (if ixb x1 600 = true then (if x3 = 2 then B_D_isAmong_29 B C (M 15 x1.toNatClampNeg) 1 M else B_D_isAmong_29 B C (M 15 x1.toNatClampNeg) 0 M) else none))))
section
variable {p : Program} {l : Launch} {e : Env} {s : State} {m : MethodId} {args : Array Value} {below : List Frame} {meth : Method} {c : Code} {dC : Nat → ClassId} {dI : Nat → Nat → Nat} {dA : Nat → ClassId} {b N B C : Nat} {sh : Shp}
set_option maxHeartbeats 4000000 in
set_option maxRecDepth 100000 in
theorem w_D_isAmong_32 {rv : Int32} (G : Cx p s m args meth c (dC, dI) cls6 (tyl dA) "BankTimesModel" k_D_isAmong 4 (some .boolean)) (hI : Is_D dA b N sh B C 0)   : ∀ (M : Mm) (ls : Array Slot), va_P (dC, dI) cls6 (wd b N sh M) s.heap → va_S (reg b N s.heap.size) s.heap s.heap [] → lv_has ls 4 [] → B_D_isAmong_32 B C M = some rv → W p l e rm_D_isAmong s m args below meth c s.heap [] 0 0 (MQ below (Qro rv) args s 0 0 nofree) (F0 m 32 ls []) := by
  obtain ⟨hx, hb, hml, hr, hown, hts, hlk, hK⟩ := id G
  intro M ls hP hS hl h
  unfold B_D_isAmong_32 at h
  refine lv_iconst (v := 1) hx hb d_D_isAmong_32 (by decide) ?_
  refine lv_goto (tgt := 37) hx hb d_D_isAmong_33 (by decide) ?_
  obtain rfl := oe h
  exact wd_zret0 hx hb hr rfl hlk d_D_isAmong_37
set_option maxHeartbeats 4000000 in
set_option maxRecDepth 100000 in
theorem w_D_isAmong_29 {rv : Int32} (G : Cx p s m args meth c (dC, dI) cls6 (tyl dA) "BankTimesModel" k_D_isAmong 4 (some .boolean)) (hI : Is_D dA b N sh B C 0)   : ∀ (s0 s1 : Int32) (M : Mm) (ls : Array Slot), va_P (dC, dI) cls6 (wd b N sh M) s.heap → va_S (reg b N s.heap.size) s.heap s.heap [] → lv_has ls 4 [] → B_D_isAmong_29 B C s0 s1 M = some rv → W p l e rm_D_isAmong s m args below meth c s.heap [] 0 0 (MQ below (Qro rv) args s 0 0 nofree) (F0 m 29 ls [.int s1, .int s0]) := by
  obtain ⟨hx, hb, hml, hr, hown, hts, hlk, hK⟩ := id G
  intro s0 s1 M ls hP hS hl h
  unfold B_D_isAmong_29 at h
  refine lv_icmp_ne (tgt := 36) hx hb d_D_isAmong_29 (by decide) (fun c29 => ?_) (fun c29 => ?_)
  · replace h := ogf c29 h
    refine lv_iconst (v := 0) hx hb d_D_isAmong_36 (by decide) ?_
    obtain rfl := oe h
    exact wd_zret0 hx hb hr rfl hlk d_D_isAmong_37
  · replace h := ogt c29 h
    exact w_D_isAmong_32 G hI  M _ hP hS (lv_sub hl [] rfl) h
set_option maxHeartbeats 4000000 in
set_option maxRecDepth 100000 in
theorem w_D_isAmong_0 {rv : Int32} (G : Cx p s m args meth c (dC, dI) cls6 (tyl dA) "BankTimesModel" k_D_isAmong 4 (some .boolean)) (hI : Is_D dA b N sh B C 0)   : ∀ (x1 x2 x3 : Int32) (M : Mm) (ls : Array Slot), va_P (dC, dI) cls6 (wd b N sh M) s.heap → va_S (reg b N s.heap.size) s.heap s.heap [] → lv_has ls 4 [(0, .ref (b + 0)), (1, .int x1), (2, .int x2), (3, .int x3)] → f_D_isAmong B C x1 x2 x3 M = some rv → W p l e rm_D_isAmong s m args below meth c s.heap [] 0 0 (MQ below (Qro rv) args s 0 0 nofree) (F0 m 0 ls []) := by
  obtain ⟨hx, hb, hml, hr, hown, hts, hlk, hK⟩ := id G
  intro x1 x2 x3 M ls hP hS hl h
  unfold f_D_isAmong at h
  refine lv_aload_n hx hb d_D_isAmong_0 rfl (lv_at hl 0 rfl) ?_
  refine lv_iload_n hx hb d_D_isAmong_1 rfl (lv_at hl 1 rfl) ?_
  refine lv_iload_n hx hb d_D_isAmong_2 rfl (lv_at hl 2 rfl) ?_
  obtain ⟨q3, hc3, h⟩ := obd h
  refine wd_cvr (As := [.int x1, .int x2]) (rest := []) ⟨hx, hb, hml, hown, hts⟩ hK hP 0 hI.1 hI.2.1 rfl (c_D_isOf l x1 x2 M _ hI hc3) (cwV 2 hts (wmV t_292 t_294 t_295 t_229 t_293) rfl rfl rfl (by decide +kernel) ⟨by decide, by decide⟩) rfl hl.1 rfl (Nat.le_of_ble_eq_true rfl) d_D_isAmong_3 ⟨Nat.zero_le _, Nat.zero_le _⟩ ?_
  refine lv_if_eq (tgt := 36) hx hb d_D_isAmong_6 (by decide) (fun c6 => ?_) (fun c6 => ?_)
  · replace h := ogt c6 h
    refine lv_iconst (v := 0) hx hb d_D_isAmong_36 (by decide) ?_
    obtain rfl := oe h
    exact wd_zret0 hx hb hr rfl hlk d_D_isAmong_37
  · replace h := ogf c6 h
    refine lv_iload_n hx hb d_D_isAmong_9 rfl (lv_at hl 3 rfl) ?_
    refine lv_if_eq (tgt := 32) hx hb d_D_isAmong_10 (by decide) (fun c10 => ?_) (fun c10 => ?_)
    · replace h := ogt c10 h
      exact w_D_isAmong_32 G hI  M _ hP hS (lv_sub hl [] rfl) h
    · replace h := ogf c10 h
      refine lv_aload_n hx hb d_D_isAmong_13 rfl (lv_at hl 0 rfl) ?_
      refine wd_getr hx hb hts i_D hown hK hP 0 hI.1 hI.2.1 rfl 24 (by decide) t_270 rfl d_D_isAmong_14 ?_
      refine lv_iload_n hx hb d_D_isAmong_17 rfl (lv_at hl 1 rfl) ?_
      obtain ⟨hi18, h⟩ := og h
      refine wd_zald hx hb hK hP 15 1 hI.2.2.2.2.2.2.2.2.2.2.2.2.2.2.2.2.1.1 hI.2.2.2.2.2.2.2.2.2.2.2.2.2.2.2.2.1.2 rfl hi18 d_D_isAmong_18 ?_
      refine lv_iload_n hx hb d_D_isAmong_19 rfl (lv_at hl 3 rfl) ?_
      refine lv_iconst (v := 2) hx hb d_D_isAmong_20 (by decide) ?_
      refine lv_icmp_ne (tgt := 28) hx hb d_D_isAmong_21 (by decide) (fun c21 => ?_) (fun c21 => ?_)
      · replace h := ogf c21 h
        refine lv_iconst (v := 0) hx hb d_D_isAmong_28 (by decide) ?_
        exact w_D_isAmong_29 G hI  (M 15 x1.toNatClampNeg) 0 M _ hP hS (lv_sub hl [] rfl) h
      · replace h := ogt c21 h
        refine lv_iconst (v := 1) hx hb d_D_isAmong_24 (by decide) ?_
        refine lv_goto (tgt := 29) hx hb d_D_isAmong_25 (by decide) ?_
        exact w_D_isAmong_29 G hI  (M 15 x1.toNatClampNeg) 1 M _ hP hS (lv_sub hl [] rfl) h
theorem c_D_isAmong (l : Launch) (x1 x2 x3 : Int32) (M : Mm) (sz : Nat) (hI : Is_D dA b N sh B C 0) {rv : Int32} (h : f_D_isAmong B C x1 x2 x3 M = some rv) : Met l y_D_isAmong (wm y_D_isAmong k_D_isAmong 4 (some .boolean)) rm_D_isAmong (Pw (dC, dI) cls6 (tyl dA) b N sh [.ref (b + 0), .int x1, .int x2, .int x3] M sz) (Qro rv) 0 0 nofree := by
  refine mk_met (by decide) (Nat.le_of_ble_eq_true rfl) ?_
  intro p e s m below meth c ls G hsz hP hS hl
  subst hsz
  exact w_D_isAmong_0 G hI _ _ _ _ ls hP hS hl h
end
abbrev rm_D_isWanted : Room := { frames := 3, cells := 0, slots := 0, locals := 66 }
def B_D_isWanted_100 (B C : Nat) (K6 : Int32 → Int32 → Int32 → Int32 → Int32 → Mm → Option (Int32)) (x1 x2 x3 x5 s0 : Int32) (M : Mm) : Option (Int32) := bnd (x5 + 1) (fun v102 => K6 x1 x2 x3 s0 v102 M)
def B_D_isWanted_99 (B C : Nat) (K6 : Int32 → Int32 → Int32 → Int32 → Int32 → Mm → Option (Int32)) (x1 x2 x3 x5 : Int32) (M : Mm) : Option (Int32) := B_D_isWanted_100 B C K6 x1 x2 x3 x5 0 M
def B_D_isWanted_95 (B C : Nat) (K6 : Int32 → Int32 → Int32 → Int32 → Int32 → Mm → Option (Int32)) (x1 x2 x3 x5 : Int32) (M : Mm) : Option (Int32) := B_D_isWanted_100 B C K6 x1 x2 x3 x5 1 M
def B_D_isWanted_6 (B C : Nat) : Nat → Int32 → Int32 → Int32 → Int32 → Int32 → Mm → Option (Int32)
  | 0, _, _, _, _, _, _ => none
  | n + 1, x1, x2, x3, x4, x5, M => (if (M 0 20) ≤ x5 then (if bz x4 = true then some x4 else none) else (if x4 = 0 then (if x5 = x1 then B_D_isWanted_99 B C (fun y0 y1 y2 y3 y4 M => B_D_isWanted_6 B C n y0 y1 y2 y3 y4 M) x1 x2 x3 x5 M else (f_D_isAmong B C x5 x2 x3 M).bind (fun q31 => (if q31 = 0 then B_D_isWanted_99 B C (fun y0 y1 y2 y3 y4 M => B_D_isWanted_6 B C n y0 y1 y2 y3 y4 M) x1 x2 x3 x5 M else (if ixb x5 600 = true then (f_D_bankOf B C (M 14 x5.toNatClampNeg) M).bind (fun q45 => (if ixb x1 600 = true then (f_D_bankOf B C (M 14 x1.toNatClampNeg) M).bind (fun q55 => (if q45 = q55 then (if ixb x5 600 = true then (f_D_rowOf B C (M 14 x5.toNatClampNeg) M).bind (fun q69 => (if ixb x1 600 = true then (f_D_bankOf B C (M 14 x1.toNatClampNeg) M).bind (fun q87 => (if ixb ((8 * x2) + q87) 32 = true then (if q69 = (M 2 ((8 * x2) + q87).toNatClampNeg) then B_D_isWanted_95 B C (fun y0 y1 y2 y3 y4 M => B_D_isWanted_6 B C n y0 y1 y2 y3 y4 M) x1 x2 x3 x5 M else B_D_isWanted_99 B C (fun y0 y1 y2 y3 y4 M => B_D_isWanted_6 B C n y0 y1 y2 y3 y4 M) x1 x2 x3 x5 M) else none)) else none)) else none) else B_D_isWanted_99 B C (fun y0 y1 y2 y3 y4 M => B_D_isWanted_6 B C n y0 y1 y2 y3 y4 M) x1 x2 x3 x5 M)) else none)) else none)))) else B_D_isWanted_95 B C (fun y0 y1 y2 y3 y4 M => B_D_isWanted_6 B C n y0 y1 y2 y3 y4 M) x1 x2 x3 x5 M))
def f_D_isWanted (B C : Nat) (x1 x2 x3 : Int32) (M : Mm) : Option (Int32) := B_D_isWanted_6 B C 1200 x1 x2 x3 0 0 M
section
variable {p : Program} {l : Launch} {e : Env} {s : State} {m : MethodId} {args : Array Value} {below : List Frame} {meth : Method} {c : Code} {dC : Nat → ClassId} {dI : Nat → Nat → Nat} {dA : Nat → ClassId} {b N B C : Nat} {sh : Shp}
set_option maxHeartbeats 4000000 in
set_option maxRecDepth 100000 in
theorem w_D_isWanted_100 {rv : Int32} (G : Cx p s m args meth c (dC, dI) cls6 (tyl dA) "BankTimesModel" k_D_isWanted 6 (some .boolean)) (hI : Is_D dA b N sh B C 0)  {K6 : Int32 → Int32 → Int32 → Int32 → Int32 → Mm → Option (Int32)} (hK6 : ∀ (x1 x2 x3 x4 x5 : Int32) (M : Mm) (ls : Array Slot), va_P (dC, dI) cls6 (wd b N sh M) s.heap → va_S (reg b N s.heap.size) s.heap s.heap [] → lv_has ls 6 [(0, .ref (b + 0)), (1, .int x1), (2, .int x2), (3, .int x3), (4, .int x4), (5, .int x5)] → K6 x1 x2 x3 x4 x5 M = some rv → W p l e rm_D_isWanted s m args below meth c s.heap [] 0 0 (MQ below (Qro rv) args s 0 0 nofree) (F0 m 6 ls []))  : ∀ (x1 x2 x3 x5 s0 : Int32) (M : Mm) (ls : Array Slot), va_P (dC, dI) cls6 (wd b N sh M) s.heap → va_S (reg b N s.heap.size) s.heap s.heap [] → lv_has ls 6 [(0, .ref (b + 0)), (1, .int x1), (2, .int x2), (3, .int x3), (5, .int x5)] → B_D_isWanted_100 B C K6 x1 x2 x3 x5 s0 M = some rv → W p l e rm_D_isWanted s m args below meth c s.heap [] 0 0 (MQ below (Qro rv) args s 0 0 nofree) (F0 m 100 ls [.int s0]) := by
  obtain ⟨hx, hb, hml, hr, hown, hts, hlk, hK⟩ := id G
  intro x1 x2 x3 x5 s0 M ls hP hS hl h
  unfold B_D_isWanted_100 at h
  refine lv_istore (lv' := [(4, .int s0), (0, .ref (b + 0)), (1, .int x1), (2, .int x2), (3, .int x3), (5, .int x5)]) hx hb d_D_isWanted_100 hl (by decide) rfl (fun ls hl => ?_)
  obtain ⟨v102, e102, h⟩ := ln h
  refine lv_iinc (v := v102) (lv' := [(5, .int v102), (4, .int s0), (0, .ref (b + 0)), (1, .int x1), (2, .int x2), (3, .int x3)]) hx hb d_D_isWanted_102 hl (k := 5) rfl (by rw [e102]; rfl) (by decide) rfl (fun ls hl => ?_)
  refine lv_goto (tgt := 6) hx hb d_D_isWanted_105 (by decide) ?_
  exact hK6 x1 x2 x3 s0 v102 M _ hP hS (lv_sub hl [2, 3, 4, 5, 1, 0] rfl) h
set_option maxHeartbeats 4000000 in
set_option maxRecDepth 100000 in
theorem w_D_isWanted_99 {rv : Int32} (G : Cx p s m args meth c (dC, dI) cls6 (tyl dA) "BankTimesModel" k_D_isWanted 6 (some .boolean)) (hI : Is_D dA b N sh B C 0)  {K6 : Int32 → Int32 → Int32 → Int32 → Int32 → Mm → Option (Int32)} (hK6 : ∀ (x1 x2 x3 x4 x5 : Int32) (M : Mm) (ls : Array Slot), va_P (dC, dI) cls6 (wd b N sh M) s.heap → va_S (reg b N s.heap.size) s.heap s.heap [] → lv_has ls 6 [(0, .ref (b + 0)), (1, .int x1), (2, .int x2), (3, .int x3), (4, .int x4), (5, .int x5)] → K6 x1 x2 x3 x4 x5 M = some rv → W p l e rm_D_isWanted s m args below meth c s.heap [] 0 0 (MQ below (Qro rv) args s 0 0 nofree) (F0 m 6 ls []))  : ∀ (x1 x2 x3 x5 : Int32) (M : Mm) (ls : Array Slot), va_P (dC, dI) cls6 (wd b N sh M) s.heap → va_S (reg b N s.heap.size) s.heap s.heap [] → lv_has ls 6 [(0, .ref (b + 0)), (1, .int x1), (2, .int x2), (3, .int x3), (5, .int x5)] → B_D_isWanted_99 B C K6 x1 x2 x3 x5 M = some rv → W p l e rm_D_isWanted s m args below meth c s.heap [] 0 0 (MQ below (Qro rv) args s 0 0 nofree) (F0 m 99 ls []) := by
  obtain ⟨hx, hb, hml, hr, hown, hts, hlk, hK⟩ := id G
  intro x1 x2 x3 x5 M ls hP hS hl h
  unfold B_D_isWanted_99 at h
  refine lv_iconst (v := 0) hx hb d_D_isWanted_99 (by decide) ?_
  exact w_D_isWanted_100 G hI hK6  x1 x2 x3 x5 0 M _ hP hS (lv_sub hl [0, 1, 2, 3, 4] rfl) h
set_option maxHeartbeats 4000000 in
set_option maxRecDepth 100000 in
theorem w_D_isWanted_95 {rv : Int32} (G : Cx p s m args meth c (dC, dI) cls6 (tyl dA) "BankTimesModel" k_D_isWanted 6 (some .boolean)) (hI : Is_D dA b N sh B C 0)  {K6 : Int32 → Int32 → Int32 → Int32 → Int32 → Mm → Option (Int32)} (hK6 : ∀ (x1 x2 x3 x4 x5 : Int32) (M : Mm) (ls : Array Slot), va_P (dC, dI) cls6 (wd b N sh M) s.heap → va_S (reg b N s.heap.size) s.heap s.heap [] → lv_has ls 6 [(0, .ref (b + 0)), (1, .int x1), (2, .int x2), (3, .int x3), (4, .int x4), (5, .int x5)] → K6 x1 x2 x3 x4 x5 M = some rv → W p l e rm_D_isWanted s m args below meth c s.heap [] 0 0 (MQ below (Qro rv) args s 0 0 nofree) (F0 m 6 ls []))  : ∀ (x1 x2 x3 x5 : Int32) (M : Mm) (ls : Array Slot), va_P (dC, dI) cls6 (wd b N sh M) s.heap → va_S (reg b N s.heap.size) s.heap s.heap [] → lv_has ls 6 [(0, .ref (b + 0)), (1, .int x1), (2, .int x2), (3, .int x3), (5, .int x5)] → B_D_isWanted_95 B C K6 x1 x2 x3 x5 M = some rv → W p l e rm_D_isWanted s m args below meth c s.heap [] 0 0 (MQ below (Qro rv) args s 0 0 nofree) (F0 m 95 ls []) := by
  obtain ⟨hx, hb, hml, hr, hown, hts, hlk, hK⟩ := id G
  intro x1 x2 x3 x5 M ls hP hS hl h
  unfold B_D_isWanted_95 at h
  refine lv_iconst (v := 1) hx hb d_D_isWanted_95 (by decide) ?_
  refine lv_goto (tgt := 100) hx hb d_D_isWanted_96 (by decide) ?_
  exact w_D_isWanted_100 G hI hK6  x1 x2 x3 x5 1 M _ hP hS (lv_sub hl [0, 1, 2, 3, 4] rfl) h
set_option maxHeartbeats 4000000 in
set_option maxRecDepth 100000 in
theorem w_D_isWanted_6 {rv : Int32} (G : Cx p s m args meth c (dC, dI) cls6 (tyl dA) "BankTimesModel" k_D_isWanted 6 (some .boolean)) (hI : Is_D dA b N sh B C 0)   : ∀ (n : Nat) (x1 x2 x3 x4 x5 : Int32) (M : Mm) (ls : Array Slot), va_P (dC, dI) cls6 (wd b N sh M) s.heap → va_S (reg b N s.heap.size) s.heap s.heap [] → lv_has ls 6 [(0, .ref (b + 0)), (1, .int x1), (2, .int x2), (3, .int x3), (4, .int x4), (5, .int x5)] → B_D_isWanted_6 B C n x1 x2 x3 x4 x5 M = some rv → W p l e rm_D_isWanted s m args below meth c s.heap [] 0 0 (MQ below (Qro rv) args s 0 0 nofree) (F0 m 6 ls []) := by
  obtain ⟨hx, hb, hml, hr, hown, hts, hlk, hK⟩ := id G
  intro n
  induction n with
  | zero =>
    intro x1 x2 x3 x4 x5 M ls hP hS hl h
    cases h
  | succ n ih =>
    intro x1 x2 x3 x4 x5 M ls hP hS hl h
    rw [B_D_isWanted_6] at h
    refine lv_iload hx hb d_D_isWanted_6 (lv_at hl 5 rfl) ?_
    refine lv_aload_n hx hb d_D_isWanted_8 rfl (lv_at hl 0 rfl) ?_
    refine wd_geti hx hb hts i_D hown hK hP 0 hI.1 hI.2.1 rfl 20 (by decide) t_242 rfl d_D_isWanted_9 ?_
    refine lv_icmp_ge (tgt := 108) hx hb d_D_isWanted_12 (by decide) (fun c12 => ?_) (fun c12 => ?_)
    · replace h := ogt c12 h
      refine lv_iload hx hb d_D_isWanted_108 (lv_at hl 4 rfl) ?_
      obtain ⟨hz110, h⟩ := og h
      obtain rfl := oe h
      exact wd_zret0 hx hb hr (nbz hz110) hlk d_D_isWanted_110
    · replace h := ogf c12 h
      refine lv_iload hx hb d_D_isWanted_15 (lv_at hl 4 rfl) ?_
      refine lv_if_ne (tgt := 95) hx hb d_D_isWanted_17 (by decide) (fun c17 => ?_) (fun c17 => ?_)
      · replace h := ogf c17 h
        exact w_D_isWanted_95 G hI ih  x1 x2 x3 x5 M _ hP hS (lv_sub hl [0, 1, 2, 3, 5] rfl) h
      · replace h := ogt c17 h
        refine lv_iload hx hb d_D_isWanted_20 (lv_at hl 5 rfl) ?_
        refine lv_iload_n hx hb d_D_isWanted_22 rfl (lv_at hl 1 rfl) ?_
        refine lv_icmp_eq (tgt := 99) hx hb d_D_isWanted_23 (by decide) (fun c23 => ?_) (fun c23 => ?_)
        · replace h := ogt c23 h
          exact w_D_isWanted_99 G hI ih  x1 x2 x3 x5 M _ hP hS (lv_sub hl [0, 1, 2, 3, 5] rfl) h
        · replace h := ogf c23 h
          refine lv_aload_n hx hb d_D_isWanted_26 rfl (lv_at hl 0 rfl) ?_
          refine lv_iload hx hb d_D_isWanted_27 (lv_at hl 5 rfl) ?_
          refine lv_iload_n hx hb d_D_isWanted_29 rfl (lv_at hl 2 rfl) ?_
          refine lv_iload_n hx hb d_D_isWanted_30 rfl (lv_at hl 3 rfl) ?_
          obtain ⟨q31, hc31, h⟩ := obd h
          refine wd_cvr (As := [.int x5, .int x2, .int x3]) (rest := []) ⟨hx, hb, hml, hown, hts⟩ hK hP 0 hI.1 hI.2.1 rfl (c_D_isAmong l x5 x2 x3 M _ hI hc31) (cwV 3 hts (wmV t_296 t_298 t_299 t_229 t_297) rfl rfl rfl (by decide +kernel) ⟨by decide, by decide⟩) rfl hl.1 rfl (Nat.le_of_ble_eq_true rfl) d_D_isWanted_31 ⟨Nat.zero_le _, Nat.zero_le _⟩ ?_
          refine lv_if_eq (tgt := 99) hx hb d_D_isWanted_34 (by decide) (fun c34 => ?_) (fun c34 => ?_)
          · replace h := ogt c34 h
            exact w_D_isWanted_99 G hI ih  x1 x2 x3 x5 M _ hP hS (lv_sub hl [0, 1, 2, 3, 5] rfl) h
          · replace h := ogf c34 h
            refine lv_aload_n hx hb d_D_isWanted_37 rfl (lv_at hl 0 rfl) ?_
            refine lv_aload_n hx hb d_D_isWanted_38 rfl (lv_at hl 0 rfl) ?_
            refine wd_getr hx hb hts i_D hown hK hP 0 hI.1 hI.2.1 rfl 23 (by decide) t_244 rfl d_D_isWanted_39 ?_
            refine lv_iload hx hb d_D_isWanted_42 (lv_at hl 5 rfl) ?_
            obtain ⟨hi44, h⟩ := og h
            refine wd_iald hx hb hK hP 14 0 hI.2.2.2.2.2.2.2.2.2.2.2.2.2.2.2.1.1 hI.2.2.2.2.2.2.2.2.2.2.2.2.2.2.2.1.2 rfl hi44 d_D_isWanted_44 ?_
            obtain ⟨q45, hc45, h⟩ := obd h
            refine wd_cvr (As := [.int (M 14 x5.toNatClampNeg)]) (rest := []) ⟨hx, hb, hml, hown, hts⟩ hK hP 0 hI.1 hI.2.1 rfl (c_D_bankOf l (M 14 x5.toNatClampNeg) M _ hI hc45) (cwV 1 hts (wmV t_261 t_263 t_264 t_229 t_262) rfl rfl rfl (by decide +kernel) ⟨by decide, by decide⟩) rfl hl.1 rfl (Nat.le_of_ble_eq_true rfl) d_D_isWanted_45 ⟨Nat.zero_le _, Nat.zero_le _⟩ ?_
            refine lv_aload_n hx hb d_D_isWanted_48 rfl (lv_at hl 0 rfl) ?_
            refine lv_aload_n hx hb d_D_isWanted_49 rfl (lv_at hl 0 rfl) ?_
            refine wd_getr hx hb hts i_D hown hK hP 0 hI.1 hI.2.1 rfl 23 (by decide) t_244 rfl d_D_isWanted_50 ?_
            refine lv_iload_n hx hb d_D_isWanted_53 rfl (lv_at hl 1 rfl) ?_
            obtain ⟨hi54, h⟩ := og h
            refine wd_iald hx hb hK hP 14 0 hI.2.2.2.2.2.2.2.2.2.2.2.2.2.2.2.1.1 hI.2.2.2.2.2.2.2.2.2.2.2.2.2.2.2.1.2 rfl hi54 d_D_isWanted_54 ?_
            obtain ⟨q55, hc55, h⟩ := obd h
            refine wd_cvr (As := [.int (M 14 x1.toNatClampNeg)]) (rest := [.int q45]) ⟨hx, hb, hml, hown, hts⟩ hK hP 0 hI.1 hI.2.1 rfl (c_D_bankOf l (M 14 x1.toNatClampNeg) M _ hI hc55) (cwV 1 hts (wmV t_261 t_263 t_264 t_229 t_262) rfl rfl rfl (by decide +kernel) ⟨by decide, by decide⟩) rfl hl.1 rfl (Nat.le_of_ble_eq_true rfl) d_D_isWanted_55 ⟨Nat.zero_le _, Nat.zero_le _⟩ ?_
            refine lv_icmp_ne (tgt := 99) hx hb d_D_isWanted_58 (by decide) (fun c58 => ?_) (fun c58 => ?_)
            · replace h := ogf c58 h
              exact w_D_isWanted_99 G hI ih  x1 x2 x3 x5 M _ hP hS (lv_sub hl [0, 1, 2, 3, 5] rfl) h
            · replace h := ogt c58 h
              refine lv_aload_n hx hb d_D_isWanted_61 rfl (lv_at hl 0 rfl) ?_
              refine lv_aload_n hx hb d_D_isWanted_62 rfl (lv_at hl 0 rfl) ?_
              refine wd_getr hx hb hts i_D hown hK hP 0 hI.1 hI.2.1 rfl 23 (by decide) t_244 rfl d_D_isWanted_63 ?_
              refine lv_iload hx hb d_D_isWanted_66 (lv_at hl 5 rfl) ?_
              obtain ⟨hi68, h⟩ := og h
              refine wd_iald hx hb hK hP 14 0 hI.2.2.2.2.2.2.2.2.2.2.2.2.2.2.2.1.1 hI.2.2.2.2.2.2.2.2.2.2.2.2.2.2.2.1.2 rfl hi68 d_D_isWanted_68 ?_
              obtain ⟨q69, hc69, h⟩ := obd h
              refine wd_cvr (As := [.int (M 14 x5.toNatClampNeg)]) (rest := []) ⟨hx, hb, hml, hown, hts⟩ hK hP 0 hI.1 hI.2.1 rfl (c_D_rowOf l (M 14 x5.toNatClampNeg) M _ hI hc69) (cwV 1 hts (wmV t_257 t_259 t_260 t_229 t_258) rfl rfl rfl (by decide +kernel) ⟨by decide, by decide⟩) rfl hl.1 rfl (Nat.le_of_ble_eq_true rfl) d_D_isWanted_69 ⟨Nat.zero_le _, Nat.zero_le _⟩ ?_
              refine lv_aload_n hx hb d_D_isWanted_72 rfl (lv_at hl 0 rfl) ?_
              refine wd_getr hx hb hts i_D hown hK hP 0 hI.1 hI.2.1 rfl 8 (by decide) t_220 rfl d_D_isWanted_73 ?_
              refine lv_bipush (v := 8) hx hb d_D_isWanted_76 (by decide) ?_
              refine lv_iload_n hx hb d_D_isWanted_78 rfl (lv_at hl 2 rfl) ?_
              refine lv_imul hx hb d_D_isWanted_79 ?_
              refine lv_aload_n hx hb d_D_isWanted_80 rfl (lv_at hl 0 rfl) ?_
              refine lv_aload_n hx hb d_D_isWanted_81 rfl (lv_at hl 0 rfl) ?_
              refine wd_getr hx hb hts i_D hown hK hP 0 hI.1 hI.2.1 rfl 23 (by decide) t_244 rfl d_D_isWanted_82 ?_
              refine lv_iload_n hx hb d_D_isWanted_85 rfl (lv_at hl 1 rfl) ?_
              obtain ⟨hi86, h⟩ := og h
              refine wd_iald hx hb hK hP 14 0 hI.2.2.2.2.2.2.2.2.2.2.2.2.2.2.2.1.1 hI.2.2.2.2.2.2.2.2.2.2.2.2.2.2.2.1.2 rfl hi86 d_D_isWanted_86 ?_
              obtain ⟨q87, hc87, h⟩ := obd h
              refine wd_cvr (As := [.int (M 14 x1.toNatClampNeg)]) (rest := [.int (8 * x2), .ref (b + 2), .int q69]) ⟨hx, hb, hml, hown, hts⟩ hK hP 0 hI.1 hI.2.1 rfl (c_D_bankOf l (M 14 x1.toNatClampNeg) M _ hI hc87) (cwV 1 hts (wmV t_261 t_263 t_264 t_229 t_262) rfl rfl rfl (by decide +kernel) ⟨by decide, by decide⟩) rfl hl.1 rfl (Nat.le_of_ble_eq_true rfl) d_D_isWanted_87 ⟨Nat.zero_le _, Nat.zero_le _⟩ ?_
              refine lv_iadd hx hb d_D_isWanted_90 ?_
              obtain ⟨hi91, h⟩ := og h
              refine wd_iald hx hb hK hP 2 0 hI.2.2.2.1.1 hI.2.2.2.1.2 rfl hi91 d_D_isWanted_91 ?_
              refine lv_icmp_ne (tgt := 99) hx hb d_D_isWanted_92 (by decide) (fun c92 => ?_) (fun c92 => ?_)
              · replace h := ogf c92 h
                exact w_D_isWanted_99 G hI ih  x1 x2 x3 x5 M _ hP hS (lv_sub hl [0, 1, 2, 3, 5] rfl) h
              · replace h := ogt c92 h
                exact w_D_isWanted_95 G hI ih  x1 x2 x3 x5 M _ hP hS (lv_sub hl [0, 1, 2, 3, 5] rfl) h
set_option maxHeartbeats 4000000 in
set_option maxRecDepth 100000 in
theorem w_D_isWanted_0 {rv : Int32} (G : Cx p s m args meth c (dC, dI) cls6 (tyl dA) "BankTimesModel" k_D_isWanted 6 (some .boolean)) (hI : Is_D dA b N sh B C 0)   : ∀ (x1 x2 x3 : Int32) (M : Mm) (ls : Array Slot), va_P (dC, dI) cls6 (wd b N sh M) s.heap → va_S (reg b N s.heap.size) s.heap s.heap [] → lv_has ls 6 [(0, .ref (b + 0)), (1, .int x1), (2, .int x2), (3, .int x3)] → f_D_isWanted B C x1 x2 x3 M = some rv → W p l e rm_D_isWanted s m args below meth c s.heap [] 0 0 (MQ below (Qro rv) args s 0 0 nofree) (F0 m 0 ls []) := by
  obtain ⟨hx, hb, hml, hr, hown, hts, hlk, hK⟩ := id G
  intro x1 x2 x3 M ls hP hS hl h
  unfold f_D_isWanted at h
  refine lv_iconst (v := 0) hx hb d_D_isWanted_0 (by decide) ?_
  refine lv_istore (lv' := [(4, .int 0), (0, .ref (b + 0)), (1, .int x1), (2, .int x2), (3, .int x3)]) hx hb d_D_isWanted_1 hl (by decide) rfl (fun ls hl => ?_)
  refine lv_iconst (v := 0) hx hb d_D_isWanted_3 (by decide) ?_
  refine lv_istore (lv' := [(5, .int 0), (4, .int 0), (0, .ref (b + 0)), (1, .int x1), (2, .int x2), (3, .int x3)]) hx hb d_D_isWanted_4 hl (by decide) rfl (fun ls hl => ?_)
  exact w_D_isWanted_6 G hI  1200 x1 x2 x3 0 0 M _ hP hS (lv_sub hl [2, 3, 4, 5, 1, 0] rfl) h
theorem c_D_isWanted (l : Launch) (x1 x2 x3 : Int32) (M : Mm) (sz : Nat) (hI : Is_D dA b N sh B C 0) {rv : Int32} (h : f_D_isWanted B C x1 x2 x3 M = some rv) : Met l y_D_isWanted (wm y_D_isWanted k_D_isWanted 6 (some .boolean)) rm_D_isWanted (Pw (dC, dI) cls6 (tyl dA) b N sh [.ref (b + 0), .int x1, .int x2, .int x3] M sz) (Qro rv) 0 0 nofree := by
  refine mk_met (by decide) (Nat.le_of_ble_eq_true rfl) ?_
  intro p e s m below meth c ls G hsz hP hS hl
  subst hsz
  exact w_D_isWanted_0 G hI _ _ _ _ ls hP hS hl h
end
abbrev rm_D_byRows : Room := { frames := 4, cells := 0, slots := 0, locals := 91 }
def B_D_byRows_103 (B C : Nat) (K56 : Int32 → Int32 → Int32 → Mm → Option (Int32)) (x1 x2 x3 : Int32) (M : Mm) : Option (Int32) := bnd (x3 + 1) (fun v103 => K56 x1 x2 v103 M)
def B_D_byRows_101 (B C : Nat) (x3 : Int32) (M : Mm) : Option (Int32) := some x3
def B_D_byRows_56 (B C : Nat) : Nat → Int32 → Int32 → Int32 → Mm → Option (Int32)
  | 0, _, _, _, _ => none
  | n + 1, x1, x2, x3, M => (if (M 0 20) ≤ x3 then some (-1) else (f_D_isAmong B C x3 x1 x2 M).bind (fun q68 => (if q68 = 0 then B_D_byRows_103 B C (fun y0 y1 y2 M => B_D_byRows_56 B C n y0 y1 y2 M) x1 x2 x3 M else (f_D_isReady B C x3 M).bind (fun q76 => (if q76 = 0 then B_D_byRows_103 B C (fun y0 y1 y2 M => B_D_byRows_56 B C n y0 y1 y2 M) x1 x2 x3 M else (f_D_nextOf B C x3 M).bind (fun q84 => (if q84 = 3 then (f_D_isWanted B C x3 x1 x2 M).bind (fun q95 => (if q95 = 0 then B_D_byRows_101 B C x3 M else B_D_byRows_103 B C (fun y0 y1 y2 M => B_D_byRows_56 B C n y0 y1 y2 M) x1 x2 x3 M)) else B_D_byRows_101 B C x3 M)))))))
def B_D_byRows_48 (B C : Nat) (K2 : Int32 → Int32 → Int32 → Mm → Option (Int32)) (x1 x2 x3 : Int32) (M : Mm) : Option (Int32) := bnd (x3 + 1) (fun v48 => K2 x1 x2 v48 M)
def B_D_byRows_38 (B C : Nat) (K2 : Int32 → Int32 → Int32 → Mm → Option (Int32)) (x1 x2 x3 : Int32) (M : Mm) : Option (Int32) := (f_D_isReady B C x3 M).bind (fun q40 => (if q40 = 0 then B_D_byRows_48 B C K2 x1 x2 x3 M else some x3))
def B_D_byRows_2 (B C : Nat) : Nat → Int32 → Int32 → Int32 → Mm → Option (Int32)
  | 0, _, _, _, _ => none
  | n + 1, x1, x2, x3, M => (if (M 0 20) ≤ x3 then B_D_byRows_56 B C 1200 x1 x2 0 M else (f_D_isAmong B C x3 x1 x2 M).bind (fun q14 => (if q14 = 0 then B_D_byRows_48 B C (fun y0 y1 y2 M => B_D_byRows_2 B C n y0 y1 y2 M) x1 x2 x3 M else (f_D_nextOf B C x3 M).bind (fun q22 => (if q22 = 1 then B_D_byRows_38 B C (fun y0 y1 y2 M => B_D_byRows_2 B C n y0 y1 y2 M) x1 x2 x3 M else (f_D_nextOf B C x3 M).bind (fun q31 => (if q31 = 2 then B_D_byRows_38 B C (fun y0 y1 y2 M => B_D_byRows_2 B C n y0 y1 y2 M) x1 x2 x3 M else B_D_byRows_48 B C (fun y0 y1 y2 M => B_D_byRows_2 B C n y0 y1 y2 M) x1 x2 x3 M)))))))
def f_D_byRows (B C : Nat) (x1 x2 : Int32) (M : Mm) : Option (Int32) := B_D_byRows_2 B C 1200 x1 x2 0 M
section
variable {p : Program} {l : Launch} {e : Env} {s : State} {m : MethodId} {args : Array Value} {below : List Frame} {meth : Method} {c : Code} {dC : Nat → ClassId} {dI : Nat → Nat → Nat} {dA : Nat → ClassId} {b N B C : Nat} {sh : Shp}
set_option maxHeartbeats 4000000 in
set_option maxRecDepth 100000 in
theorem w_D_byRows_103 {rv : Int32} (G : Cx p s m args meth c (dC, dI) cls6 (tyl dA) "BankTimesModel" k_D_byRows 4 (some .int)) (hI : Is_D dA b N sh B C 0)  {K56 : Int32 → Int32 → Int32 → Mm → Option (Int32)} (hK56 : ∀ (x1 x2 x3 : Int32) (M : Mm) (ls : Array Slot), va_P (dC, dI) cls6 (wd b N sh M) s.heap → va_S (reg b N s.heap.size) s.heap s.heap [] → lv_has ls 4 [(0, .ref (b + 0)), (1, .int x1), (2, .int x2), (3, .int x3)] → K56 x1 x2 x3 M = some rv → W p l e rm_D_byRows s m args below meth c s.heap [] 0 0 (MQ below (Qro rv) args s 0 0 nofree) (F0 m 56 ls []))  : ∀ (x1 x2 x3 : Int32) (M : Mm) (ls : Array Slot), va_P (dC, dI) cls6 (wd b N sh M) s.heap → va_S (reg b N s.heap.size) s.heap s.heap [] → lv_has ls 4 [(0, .ref (b + 0)), (1, .int x1), (2, .int x2), (3, .int x3)] → B_D_byRows_103 B C K56 x1 x2 x3 M = some rv → W p l e rm_D_byRows s m args below meth c s.heap [] 0 0 (MQ below (Qro rv) args s 0 0 nofree) (F0 m 103 ls []) := by
  obtain ⟨hx, hb, hml, hr, hown, hts, hlk, hK⟩ := id G
  intro x1 x2 x3 M ls hP hS hl h
  unfold B_D_byRows_103 at h
  obtain ⟨v103, e103, h⟩ := ln h
  refine lv_iinc (v := v103) (lv' := [(3, .int v103), (0, .ref (b + 0)), (1, .int x1), (2, .int x2)]) hx hb d_D_byRows_103 hl (k := 3) rfl (by rw [e103]; rfl) (by decide) rfl (fun ls hl => ?_)
  refine lv_goto (tgt := 56) hx hb d_D_byRows_106 (by decide) ?_
  exact hK56 x1 x2 v103 M _ hP hS (lv_sub hl [1, 2, 3, 0] rfl) h
set_option maxHeartbeats 4000000 in
set_option maxRecDepth 100000 in
theorem w_D_byRows_101 {rv : Int32} (G : Cx p s m args meth c (dC, dI) cls6 (tyl dA) "BankTimesModel" k_D_byRows 4 (some .int)) (hI : Is_D dA b N sh B C 0)   : ∀ (x3 : Int32) (M : Mm) (ls : Array Slot), va_P (dC, dI) cls6 (wd b N sh M) s.heap → va_S (reg b N s.heap.size) s.heap s.heap [] → lv_has ls 4 [(3, .int x3)] → B_D_byRows_101 B C x3 M = some rv → W p l e rm_D_byRows s m args below meth c s.heap [] 0 0 (MQ below (Qro rv) args s 0 0 nofree) (F0 m 101 ls []) := by
  obtain ⟨hx, hb, hml, hr, hown, hts, hlk, hK⟩ := id G
  intro x3 M ls hP hS hl h
  unfold B_D_byRows_101 at h
  refine lv_iload_n hx hb d_D_byRows_101 rfl (lv_at hl 0 rfl) ?_
  obtain rfl := oe h
  exact wd_iret0 hx hb hr hlk d_D_byRows_102
set_option maxHeartbeats 4000000 in
set_option maxRecDepth 100000 in
theorem w_D_byRows_56 {rv : Int32} (G : Cx p s m args meth c (dC, dI) cls6 (tyl dA) "BankTimesModel" k_D_byRows 4 (some .int)) (hI : Is_D dA b N sh B C 0)   : ∀ (n : Nat) (x1 x2 x3 : Int32) (M : Mm) (ls : Array Slot), va_P (dC, dI) cls6 (wd b N sh M) s.heap → va_S (reg b N s.heap.size) s.heap s.heap [] → lv_has ls 4 [(0, .ref (b + 0)), (1, .int x1), (2, .int x2), (3, .int x3)] → B_D_byRows_56 B C n x1 x2 x3 M = some rv → W p l e rm_D_byRows s m args below meth c s.heap [] 0 0 (MQ below (Qro rv) args s 0 0 nofree) (F0 m 56 ls []) := by
  obtain ⟨hx, hb, hml, hr, hown, hts, hlk, hK⟩ := id G
  intro n
  induction n with
  | zero =>
    intro x1 x2 x3 M ls hP hS hl h
    cases h
  | succ n ih =>
    intro x1 x2 x3 M ls hP hS hl h
    rw [B_D_byRows_56] at h
    refine lv_iload_n hx hb d_D_byRows_56 rfl (lv_at hl 3 rfl) ?_
    refine lv_aload_n hx hb d_D_byRows_57 rfl (lv_at hl 0 rfl) ?_
    refine wd_geti hx hb hts i_D hown hK hP 0 hI.1 hI.2.1 rfl 20 (by decide) t_242 rfl d_D_byRows_58 ?_
    refine lv_icmp_ge (tgt := 109) hx hb d_D_byRows_61 (by decide) (fun c61 => ?_) (fun c61 => ?_)
    · replace h := ogt c61 h
      refine lv_iconst (v := (-1)) hx hb d_D_byRows_109 (by decide) ?_
      obtain rfl := oe h
      exact wd_iret0 hx hb hr hlk d_D_byRows_110
    · replace h := ogf c61 h
      refine lv_aload_n hx hb d_D_byRows_64 rfl (lv_at hl 0 rfl) ?_
      refine lv_iload_n hx hb d_D_byRows_65 rfl (lv_at hl 3 rfl) ?_
      refine lv_iload_n hx hb d_D_byRows_66 rfl (lv_at hl 1 rfl) ?_
      refine lv_iload_n hx hb d_D_byRows_67 rfl (lv_at hl 2 rfl) ?_
      obtain ⟨q68, hc68, h⟩ := obd h
      refine wd_cvr (As := [.int x3, .int x1, .int x2]) (rest := []) ⟨hx, hb, hml, hown, hts⟩ hK hP 0 hI.1 hI.2.1 rfl (c_D_isAmong l x3 x1 x2 M _ hI hc68) (cwV 3 hts (wmV t_296 t_298 t_299 t_229 t_297) rfl rfl rfl (by decide +kernel) ⟨by decide, by decide⟩) rfl hl.1 rfl (Nat.le_of_ble_eq_true rfl) d_D_byRows_68 ⟨Nat.zero_le _, Nat.zero_le _⟩ ?_
      refine lv_if_eq (tgt := 103) hx hb d_D_byRows_71 (by decide) (fun c71 => ?_) (fun c71 => ?_)
      · replace h := ogt c71 h
        exact w_D_byRows_103 G hI ih  x1 x2 x3 M _ hP hS (lv_sub hl [0, 1, 2, 3] rfl) h
      · replace h := ogf c71 h
        refine lv_aload_n hx hb d_D_byRows_74 rfl (lv_at hl 0 rfl) ?_
        refine lv_iload_n hx hb d_D_byRows_75 rfl (lv_at hl 3 rfl) ?_
        obtain ⟨q76, hc76, h⟩ := obd h
        refine wd_cvr (As := [.int x3]) (rest := []) ⟨hx, hb, hml, hown, hts⟩ hK hP 0 hI.1 hI.2.1 rfl (c_D_isReady l x3 M _ hI hc76) (cwV 1 hts (wmV t_300 t_302 t_303 t_229 t_301) rfl rfl rfl (by decide +kernel) ⟨by decide, by decide⟩) rfl hl.1 rfl (Nat.le_of_ble_eq_true rfl) d_D_byRows_76 ⟨Nat.zero_le _, Nat.zero_le _⟩ ?_
        refine lv_if_eq (tgt := 103) hx hb d_D_byRows_79 (by decide) (fun c79 => ?_) (fun c79 => ?_)
        · replace h := ogt c79 h
          exact w_D_byRows_103 G hI ih  x1 x2 x3 M _ hP hS (lv_sub hl [0, 1, 2, 3] rfl) h
        · replace h := ogf c79 h
          refine lv_aload_n hx hb d_D_byRows_82 rfl (lv_at hl 0 rfl) ?_
          refine lv_iload_n hx hb d_D_byRows_83 rfl (lv_at hl 3 rfl) ?_
          obtain ⟨q84, hc84, h⟩ := obd h
          refine wd_cvr (As := [.int x3]) (rest := []) ⟨hx, hb, hml, hown, hts⟩ hK hP 0 hI.1 hI.2.1 rfl (c_D_nextOf l x3 M _ hI hc84) (cwV 1 hts (wmV t_284 t_286 t_287 t_229 t_285) rfl rfl rfl (by decide +kernel) ⟨by decide, by decide⟩) rfl hl.1 rfl (Nat.le_of_ble_eq_true rfl) d_D_byRows_84 ⟨Nat.zero_le _, Nat.zero_le _⟩ ?_
          refine lv_iconst (v := 3) hx hb d_D_byRows_87 (by decide) ?_
          refine lv_icmp_ne (tgt := 101) hx hb d_D_byRows_88 (by decide) (fun c88 => ?_) (fun c88 => ?_)
          · replace h := ogf c88 h
            exact w_D_byRows_101 G hI  x3 M _ hP hS (lv_sub hl [3] rfl) h
          · replace h := ogt c88 h
            refine lv_aload_n hx hb d_D_byRows_91 rfl (lv_at hl 0 rfl) ?_
            refine lv_iload_n hx hb d_D_byRows_92 rfl (lv_at hl 3 rfl) ?_
            refine lv_iload_n hx hb d_D_byRows_93 rfl (lv_at hl 1 rfl) ?_
            refine lv_iload_n hx hb d_D_byRows_94 rfl (lv_at hl 2 rfl) ?_
            obtain ⟨q95, hc95, h⟩ := obd h
            refine wd_cvr (As := [.int x3, .int x1, .int x2]) (rest := []) ⟨hx, hb, hml, hown, hts⟩ hK hP 0 hI.1 hI.2.1 rfl (c_D_isWanted l x3 x1 x2 M _ hI hc95) (cwV 3 hts (wmV t_304 t_306 t_307 t_229 t_305) rfl rfl rfl (by decide +kernel) ⟨by decide, by decide⟩) rfl hl.1 rfl (Nat.le_of_ble_eq_true rfl) d_D_byRows_95 ⟨Nat.zero_le _, Nat.zero_le _⟩ ?_
            refine lv_if_ne (tgt := 103) hx hb d_D_byRows_98 (by decide) (fun c98 => ?_) (fun c98 => ?_)
            · replace h := ogf c98 h
              exact w_D_byRows_103 G hI ih  x1 x2 x3 M _ hP hS (lv_sub hl [0, 1, 2, 3] rfl) h
            · replace h := ogt c98 h
              exact w_D_byRows_101 G hI  x3 M _ hP hS (lv_sub hl [3] rfl) h
set_option maxHeartbeats 4000000 in
set_option maxRecDepth 100000 in
theorem w_D_byRows_48 {rv : Int32} (G : Cx p s m args meth c (dC, dI) cls6 (tyl dA) "BankTimesModel" k_D_byRows 4 (some .int)) (hI : Is_D dA b N sh B C 0)  {K2 : Int32 → Int32 → Int32 → Mm → Option (Int32)} (hK2 : ∀ (x1 x2 x3 : Int32) (M : Mm) (ls : Array Slot), va_P (dC, dI) cls6 (wd b N sh M) s.heap → va_S (reg b N s.heap.size) s.heap s.heap [] → lv_has ls 4 [(0, .ref (b + 0)), (1, .int x1), (2, .int x2), (3, .int x3)] → K2 x1 x2 x3 M = some rv → W p l e rm_D_byRows s m args below meth c s.heap [] 0 0 (MQ below (Qro rv) args s 0 0 nofree) (F0 m 2 ls []))  : ∀ (x1 x2 x3 : Int32) (M : Mm) (ls : Array Slot), va_P (dC, dI) cls6 (wd b N sh M) s.heap → va_S (reg b N s.heap.size) s.heap s.heap [] → lv_has ls 4 [(0, .ref (b + 0)), (1, .int x1), (2, .int x2), (3, .int x3)] → B_D_byRows_48 B C K2 x1 x2 x3 M = some rv → W p l e rm_D_byRows s m args below meth c s.heap [] 0 0 (MQ below (Qro rv) args s 0 0 nofree) (F0 m 48 ls []) := by
  obtain ⟨hx, hb, hml, hr, hown, hts, hlk, hK⟩ := id G
  intro x1 x2 x3 M ls hP hS hl h
  unfold B_D_byRows_48 at h
  obtain ⟨v48, e48, h⟩ := ln h
  refine lv_iinc (v := v48) (lv' := [(3, .int v48), (0, .ref (b + 0)), (1, .int x1), (2, .int x2)]) hx hb d_D_byRows_48 hl (k := 3) rfl (by rw [e48]; rfl) (by decide) rfl (fun ls hl => ?_)
  refine lv_goto (tgt := 2) hx hb d_D_byRows_51 (by decide) ?_
  exact hK2 x1 x2 v48 M _ hP hS (lv_sub hl [1, 2, 3, 0] rfl) h
set_option maxHeartbeats 4000000 in
set_option maxRecDepth 100000 in
theorem w_D_byRows_38 {rv : Int32} (G : Cx p s m args meth c (dC, dI) cls6 (tyl dA) "BankTimesModel" k_D_byRows 4 (some .int)) (hI : Is_D dA b N sh B C 0)  {K2 : Int32 → Int32 → Int32 → Mm → Option (Int32)} (hK2 : ∀ (x1 x2 x3 : Int32) (M : Mm) (ls : Array Slot), va_P (dC, dI) cls6 (wd b N sh M) s.heap → va_S (reg b N s.heap.size) s.heap s.heap [] → lv_has ls 4 [(0, .ref (b + 0)), (1, .int x1), (2, .int x2), (3, .int x3)] → K2 x1 x2 x3 M = some rv → W p l e rm_D_byRows s m args below meth c s.heap [] 0 0 (MQ below (Qro rv) args s 0 0 nofree) (F0 m 2 ls []))  : ∀ (x1 x2 x3 : Int32) (M : Mm) (ls : Array Slot), va_P (dC, dI) cls6 (wd b N sh M) s.heap → va_S (reg b N s.heap.size) s.heap s.heap [] → lv_has ls 4 [(0, .ref (b + 0)), (1, .int x1), (2, .int x2), (3, .int x3)] → B_D_byRows_38 B C K2 x1 x2 x3 M = some rv → W p l e rm_D_byRows s m args below meth c s.heap [] 0 0 (MQ below (Qro rv) args s 0 0 nofree) (F0 m 38 ls []) := by
  obtain ⟨hx, hb, hml, hr, hown, hts, hlk, hK⟩ := id G
  intro x1 x2 x3 M ls hP hS hl h
  unfold B_D_byRows_38 at h
  refine lv_aload_n hx hb d_D_byRows_38 rfl (lv_at hl 0 rfl) ?_
  refine lv_iload_n hx hb d_D_byRows_39 rfl (lv_at hl 3 rfl) ?_
  obtain ⟨q40, hc40, h⟩ := obd h
  refine wd_cvr (As := [.int x3]) (rest := []) ⟨hx, hb, hml, hown, hts⟩ hK hP 0 hI.1 hI.2.1 rfl (c_D_isReady l x3 M _ hI hc40) (cwV 1 hts (wmV t_300 t_302 t_303 t_229 t_301) rfl rfl rfl (by decide +kernel) ⟨by decide, by decide⟩) rfl hl.1 rfl (Nat.le_of_ble_eq_true rfl) d_D_byRows_40 ⟨Nat.zero_le _, Nat.zero_le _⟩ ?_
  refine lv_if_eq (tgt := 48) hx hb d_D_byRows_43 (by decide) (fun c43 => ?_) (fun c43 => ?_)
  · replace h := ogt c43 h
    exact w_D_byRows_48 G hI hK2  x1 x2 x3 M _ hP hS (lv_sub hl [0, 1, 2, 3] rfl) h
  · replace h := ogf c43 h
    refine lv_iload_n hx hb d_D_byRows_46 rfl (lv_at hl 3 rfl) ?_
    obtain rfl := oe h
    exact wd_iret0 hx hb hr hlk d_D_byRows_47
set_option maxHeartbeats 4000000 in
set_option maxRecDepth 100000 in
theorem w_D_byRows_2 {rv : Int32} (G : Cx p s m args meth c (dC, dI) cls6 (tyl dA) "BankTimesModel" k_D_byRows 4 (some .int)) (hI : Is_D dA b N sh B C 0)   : ∀ (n : Nat) (x1 x2 x3 : Int32) (M : Mm) (ls : Array Slot), va_P (dC, dI) cls6 (wd b N sh M) s.heap → va_S (reg b N s.heap.size) s.heap s.heap [] → lv_has ls 4 [(0, .ref (b + 0)), (1, .int x1), (2, .int x2), (3, .int x3)] → B_D_byRows_2 B C n x1 x2 x3 M = some rv → W p l e rm_D_byRows s m args below meth c s.heap [] 0 0 (MQ below (Qro rv) args s 0 0 nofree) (F0 m 2 ls []) := by
  obtain ⟨hx, hb, hml, hr, hown, hts, hlk, hK⟩ := id G
  intro n
  induction n with
  | zero =>
    intro x1 x2 x3 M ls hP hS hl h
    cases h
  | succ n ih =>
    intro x1 x2 x3 M ls hP hS hl h
    rw [B_D_byRows_2] at h
    refine lv_iload_n hx hb d_D_byRows_2 rfl (lv_at hl 3 rfl) ?_
    refine lv_aload_n hx hb d_D_byRows_3 rfl (lv_at hl 0 rfl) ?_
    refine wd_geti hx hb hts i_D hown hK hP 0 hI.1 hI.2.1 rfl 20 (by decide) t_242 rfl d_D_byRows_4 ?_
    refine lv_icmp_ge (tgt := 54) hx hb d_D_byRows_7 (by decide) (fun c7 => ?_) (fun c7 => ?_)
    · replace h := ogt c7 h
      refine lv_iconst (v := 0) hx hb d_D_byRows_54 (by decide) ?_
      refine lv_istore_n (lv' := [(3, .int 0), (0, .ref (b + 0)), (1, .int x1), (2, .int x2)]) hx hb d_D_byRows_55 rfl hl (by decide) rfl (fun ls hl => ?_)
      exact w_D_byRows_56 G hI  1200 x1 x2 0 M _ hP hS (lv_sub hl [1, 2, 3, 0] rfl) h
    · replace h := ogf c7 h
      refine lv_aload_n hx hb d_D_byRows_10 rfl (lv_at hl 0 rfl) ?_
      refine lv_iload_n hx hb d_D_byRows_11 rfl (lv_at hl 3 rfl) ?_
      refine lv_iload_n hx hb d_D_byRows_12 rfl (lv_at hl 1 rfl) ?_
      refine lv_iload_n hx hb d_D_byRows_13 rfl (lv_at hl 2 rfl) ?_
      obtain ⟨q14, hc14, h⟩ := obd h
      refine wd_cvr (As := [.int x3, .int x1, .int x2]) (rest := []) ⟨hx, hb, hml, hown, hts⟩ hK hP 0 hI.1 hI.2.1 rfl (c_D_isAmong l x3 x1 x2 M _ hI hc14) (cwV 3 hts (wmV t_296 t_298 t_299 t_229 t_297) rfl rfl rfl (by decide +kernel) ⟨by decide, by decide⟩) rfl hl.1 rfl (Nat.le_of_ble_eq_true rfl) d_D_byRows_14 ⟨Nat.zero_le _, Nat.zero_le _⟩ ?_
      refine lv_if_eq (tgt := 48) hx hb d_D_byRows_17 (by decide) (fun c17 => ?_) (fun c17 => ?_)
      · replace h := ogt c17 h
        exact w_D_byRows_48 G hI ih  x1 x2 x3 M _ hP hS (lv_sub hl [0, 1, 2, 3] rfl) h
      · replace h := ogf c17 h
        refine lv_aload_n hx hb d_D_byRows_20 rfl (lv_at hl 0 rfl) ?_
        refine lv_iload_n hx hb d_D_byRows_21 rfl (lv_at hl 3 rfl) ?_
        obtain ⟨q22, hc22, h⟩ := obd h
        refine wd_cvr (As := [.int x3]) (rest := []) ⟨hx, hb, hml, hown, hts⟩ hK hP 0 hI.1 hI.2.1 rfl (c_D_nextOf l x3 M _ hI hc22) (cwV 1 hts (wmV t_284 t_286 t_287 t_229 t_285) rfl rfl rfl (by decide +kernel) ⟨by decide, by decide⟩) rfl hl.1 rfl (Nat.le_of_ble_eq_true rfl) d_D_byRows_22 ⟨Nat.zero_le _, Nat.zero_le _⟩ ?_
        refine lv_iconst (v := 1) hx hb d_D_byRows_25 (by decide) ?_
        refine lv_icmp_eq (tgt := 38) hx hb d_D_byRows_26 (by decide) (fun c26 => ?_) (fun c26 => ?_)
        · replace h := ogt c26 h
          exact w_D_byRows_38 G hI ih  x1 x2 x3 M _ hP hS (lv_sub hl [0, 1, 2, 3] rfl) h
        · replace h := ogf c26 h
          refine lv_aload_n hx hb d_D_byRows_29 rfl (lv_at hl 0 rfl) ?_
          refine lv_iload_n hx hb d_D_byRows_30 rfl (lv_at hl 3 rfl) ?_
          obtain ⟨q31, hc31, h⟩ := obd h
          refine wd_cvr (As := [.int x3]) (rest := []) ⟨hx, hb, hml, hown, hts⟩ hK hP 0 hI.1 hI.2.1 rfl (c_D_nextOf l x3 M _ hI hc31) (cwV 1 hts (wmV t_284 t_286 t_287 t_229 t_285) rfl rfl rfl (by decide +kernel) ⟨by decide, by decide⟩) rfl hl.1 rfl (Nat.le_of_ble_eq_true rfl) d_D_byRows_31 ⟨Nat.zero_le _, Nat.zero_le _⟩ ?_
          refine lv_iconst (v := 2) hx hb d_D_byRows_34 (by decide) ?_
          refine lv_icmp_ne (tgt := 48) hx hb d_D_byRows_35 (by decide) (fun c35 => ?_) (fun c35 => ?_)
          · replace h := ogf c35 h
            exact w_D_byRows_48 G hI ih  x1 x2 x3 M _ hP hS (lv_sub hl [0, 1, 2, 3] rfl) h
          · replace h := ogt c35 h
            exact w_D_byRows_38 G hI ih  x1 x2 x3 M _ hP hS (lv_sub hl [0, 1, 2, 3] rfl) h
set_option maxHeartbeats 4000000 in
set_option maxRecDepth 100000 in
theorem w_D_byRows_0 {rv : Int32} (G : Cx p s m args meth c (dC, dI) cls6 (tyl dA) "BankTimesModel" k_D_byRows 4 (some .int)) (hI : Is_D dA b N sh B C 0)   : ∀ (x1 x2 : Int32) (M : Mm) (ls : Array Slot), va_P (dC, dI) cls6 (wd b N sh M) s.heap → va_S (reg b N s.heap.size) s.heap s.heap [] → lv_has ls 4 [(0, .ref (b + 0)), (1, .int x1), (2, .int x2)] → f_D_byRows B C x1 x2 M = some rv → W p l e rm_D_byRows s m args below meth c s.heap [] 0 0 (MQ below (Qro rv) args s 0 0 nofree) (F0 m 0 ls []) := by
  obtain ⟨hx, hb, hml, hr, hown, hts, hlk, hK⟩ := id G
  intro x1 x2 M ls hP hS hl h
  unfold f_D_byRows at h
  refine lv_iconst (v := 0) hx hb d_D_byRows_0 (by decide) ?_
  refine lv_istore_n (lv' := [(3, .int 0), (0, .ref (b + 0)), (1, .int x1), (2, .int x2)]) hx hb d_D_byRows_1 rfl hl (by decide) rfl (fun ls hl => ?_)
  exact w_D_byRows_2 G hI  1200 x1 x2 0 M _ hP hS (lv_sub hl [1, 2, 3, 0] rfl) h
theorem c_D_byRows (l : Launch) (x1 x2 : Int32) (M : Mm) (sz : Nat) (hI : Is_D dA b N sh B C 0) {rv : Int32} (h : f_D_byRows B C x1 x2 M = some rv) : Met l y_D_byRows (wm y_D_byRows k_D_byRows 4 (some .int)) rm_D_byRows (Pw (dC, dI) cls6 (tyl dA) b N sh [.ref (b + 0), .int x1, .int x2] M sz) (Qro rv) 0 0 nofree := by
  refine mk_met (by decide) (Nat.le_of_ble_eq_true rfl) ?_
  intro p e s m below meth c ls G hsz hP hS hl
  subst hsz
  exact w_D_byRows_0 G hI _ _ _ ls hP hS hl h
end
abbrev rm_D_byReads : Room := { frames := 5, cells := 0, slots := 0, locals := 114 }
def B_D_byReads_76 (B C : Nat) (s1 s2 : Int32) (M : Mm) : Option (Int32) := (f_D_byRows B C s1 s2 M).bind (fun q76 => some q76)
def B_D_byReads_75 (B C : Nat) (s1 : Int32) (M : Mm) : Option (Int32) := B_D_byReads_76 B C s1 2 M
def B_D_byReads_52 (B C : Nat) (K7 : Int32 → Int32 → Int32 → Int32 → Mm → Option (Int32)) (x1 x2 x4 s0 s1 : Int32) (M : Mm) : Option (Int32) := bnd (s0 + s1) (fun v53 => bnd (x4 + 1) (fun v54 => K7 x1 x2 v53 v54 M))
def B_D_byReads_33 (B C : Nat) (K7 : Int32 → Int32 → Int32 → Int32 → Mm → Option (Int32)) (x1 x3 x4 s0 s1 : Int32) (M : Mm) : Option (Int32) := bnd (s0 + s1) (fun v34 => (f_D_isAmong B C x4 x1 2 M).bind (fun q41 => (if q41 = 0 then B_D_byReads_52 B C K7 x1 v34 x4 x3 0 M else B_D_byReads_52 B C K7 x1 v34 x4 x3 1 M)))
def B_D_byReads_7 (B C : Nat) : Nat → Int32 → Int32 → Int32 → Int32 → Mm → Option (Int32)
  | 0, _, _, _, _, _ => none
  | n + 1, x1, x2, x3, x4, M => (if (M 0 20) ≤ x4 then (if x2 ≤ 0 then B_D_byReads_75 B C x1 M else (if 5 ≤ x3 then B_D_byReads_75 B C x1 M else B_D_byReads_76 B C x1 1 M)) else (f_D_isAmong B C x4 x1 1 M).bind (fun q22 => (if q22 = 0 then B_D_byReads_33 B C (fun y0 y1 y2 y3 M => B_D_byReads_7 B C n y0 y1 y2 y3 M) x1 x3 x4 x2 0 M else B_D_byReads_33 B C (fun y0 y1 y2 y3 M => B_D_byReads_7 B C n y0 y1 y2 y3 M) x1 x3 x4 x2 1 M)))
def f_D_byReads (B C : Nat) (x1 : Int32) (M : Mm) : Option (Int32) := B_D_byReads_7 B C 1200 x1 0 0 0 M
section
variable {p : Program} {l : Launch} {e : Env} {s : State} {m : MethodId} {args : Array Value} {below : List Frame} {meth : Method} {c : Code} {dC : Nat → ClassId} {dI : Nat → Nat → Nat} {dA : Nat → ClassId} {b N B C : Nat} {sh : Shp}
set_option maxHeartbeats 4000000 in
set_option maxRecDepth 100000 in
theorem w_D_byReads_76 {rv : Int32} (G : Cx p s m args meth c (dC, dI) cls6 (tyl dA) "BankTimesModel" k_D_byReads 5 (some .int)) (hI : Is_D dA b N sh B C 0)   : ∀ (s1 s2 : Int32) (M : Mm) (ls : Array Slot), va_P (dC, dI) cls6 (wd b N sh M) s.heap → va_S (reg b N s.heap.size) s.heap s.heap [] → lv_has ls 5 [] → B_D_byReads_76 B C s1 s2 M = some rv → W p l e rm_D_byReads s m args below meth c s.heap [] 0 0 (MQ below (Qro rv) args s 0 0 nofree) (F0 m 76 ls [.int s2, .int s1, .ref (b + 0)]) := by
  obtain ⟨hx, hb, hml, hr, hown, hts, hlk, hK⟩ := id G
  intro s1 s2 M ls hP hS hl h
  unfold B_D_byReads_76 at h
  obtain ⟨q76, hc76, h⟩ := obd h
  refine wd_cvr (As := [.int s1, .int s2]) (rest := []) ⟨hx, hb, hml, hown, hts⟩ hK hP 0 hI.1 hI.2.1 rfl (c_D_byRows l s1 s2 M _ hI hc76) (cwV 2 hts (wmV t_308 t_310 t_311 t_229 t_309) rfl rfl rfl (by decide +kernel) ⟨by decide, by decide⟩) rfl hl.1 rfl (Nat.le_of_ble_eq_true rfl) d_D_byReads_76 ⟨Nat.zero_le _, Nat.zero_le _⟩ ?_
  obtain rfl := oe h
  exact wd_iret0 hx hb hr hlk d_D_byReads_79
set_option maxHeartbeats 4000000 in
set_option maxRecDepth 100000 in
theorem w_D_byReads_75 {rv : Int32} (G : Cx p s m args meth c (dC, dI) cls6 (tyl dA) "BankTimesModel" k_D_byReads 5 (some .int)) (hI : Is_D dA b N sh B C 0)   : ∀ (s1 : Int32) (M : Mm) (ls : Array Slot), va_P (dC, dI) cls6 (wd b N sh M) s.heap → va_S (reg b N s.heap.size) s.heap s.heap [] → lv_has ls 5 [] → B_D_byReads_75 B C s1 M = some rv → W p l e rm_D_byReads s m args below meth c s.heap [] 0 0 (MQ below (Qro rv) args s 0 0 nofree) (F0 m 75 ls [.int s1, .ref (b + 0)]) := by
  obtain ⟨hx, hb, hml, hr, hown, hts, hlk, hK⟩ := id G
  intro s1 M ls hP hS hl h
  unfold B_D_byReads_75 at h
  refine lv_iconst (v := 2) hx hb d_D_byReads_75 (by decide) ?_
  exact w_D_byReads_76 G hI  s1 2 M _ hP hS (lv_sub hl [] rfl) h
set_option maxHeartbeats 4000000 in
set_option maxRecDepth 100000 in
theorem w_D_byReads_52 {rv : Int32} (G : Cx p s m args meth c (dC, dI) cls6 (tyl dA) "BankTimesModel" k_D_byReads 5 (some .int)) (hI : Is_D dA b N sh B C 0)  {K7 : Int32 → Int32 → Int32 → Int32 → Mm → Option (Int32)} (hK7 : ∀ (x1 x2 x3 x4 : Int32) (M : Mm) (ls : Array Slot), va_P (dC, dI) cls6 (wd b N sh M) s.heap → va_S (reg b N s.heap.size) s.heap s.heap [] → lv_has ls 5 [(0, .ref (b + 0)), (1, .int x1), (2, .int x2), (3, .int x3), (4, .int x4)] → K7 x1 x2 x3 x4 M = some rv → W p l e rm_D_byReads s m args below meth c s.heap [] 0 0 (MQ below (Qro rv) args s 0 0 nofree) (F0 m 7 ls []))  : ∀ (x1 x2 x4 s0 s1 : Int32) (M : Mm) (ls : Array Slot), va_P (dC, dI) cls6 (wd b N sh M) s.heap → va_S (reg b N s.heap.size) s.heap s.heap [] → lv_has ls 5 [(0, .ref (b + 0)), (1, .int x1), (2, .int x2), (4, .int x4)] → B_D_byReads_52 B C K7 x1 x2 x4 s0 s1 M = some rv → W p l e rm_D_byReads s m args below meth c s.heap [] 0 0 (MQ below (Qro rv) args s 0 0 nofree) (F0 m 52 ls [.int s1, .int s0]) := by
  obtain ⟨hx, hb, hml, hr, hown, hts, hlk, hK⟩ := id G
  intro x1 x2 x4 s0 s1 M ls hP hS hl h
  unfold B_D_byReads_52 at h
  refine lv_iadd hx hb d_D_byReads_52 ?_
  obtain ⟨v53, e53, h⟩ := ln h
  refine lv_nm e53 ?_
  refine lv_istore_n (lv' := [(3, .int v53), (0, .ref (b + 0)), (1, .int x1), (2, .int x2), (4, .int x4)]) hx hb d_D_byReads_53 rfl hl (by decide) rfl (fun ls hl => ?_)
  obtain ⟨v54, e54, h⟩ := ln h
  refine lv_iinc (v := v54) (lv' := [(4, .int v54), (3, .int v53), (0, .ref (b + 0)), (1, .int x1), (2, .int x2)]) hx hb d_D_byReads_54 hl (k := 4) rfl (by rw [e54]; rfl) (by decide) rfl (fun ls hl => ?_)
  refine lv_goto (tgt := 7) hx hb d_D_byReads_57 (by decide) ?_
  exact hK7 x1 x2 v53 v54 M _ hP hS (lv_sub hl [2, 3, 4, 1, 0] rfl) h
set_option maxHeartbeats 4000000 in
set_option maxRecDepth 100000 in
theorem w_D_byReads_33 {rv : Int32} (G : Cx p s m args meth c (dC, dI) cls6 (tyl dA) "BankTimesModel" k_D_byReads 5 (some .int)) (hI : Is_D dA b N sh B C 0)  {K7 : Int32 → Int32 → Int32 → Int32 → Mm → Option (Int32)} (hK7 : ∀ (x1 x2 x3 x4 : Int32) (M : Mm) (ls : Array Slot), va_P (dC, dI) cls6 (wd b N sh M) s.heap → va_S (reg b N s.heap.size) s.heap s.heap [] → lv_has ls 5 [(0, .ref (b + 0)), (1, .int x1), (2, .int x2), (3, .int x3), (4, .int x4)] → K7 x1 x2 x3 x4 M = some rv → W p l e rm_D_byReads s m args below meth c s.heap [] 0 0 (MQ below (Qro rv) args s 0 0 nofree) (F0 m 7 ls []))  : ∀ (x1 x3 x4 s0 s1 : Int32) (M : Mm) (ls : Array Slot), va_P (dC, dI) cls6 (wd b N sh M) s.heap → va_S (reg b N s.heap.size) s.heap s.heap [] → lv_has ls 5 [(0, .ref (b + 0)), (1, .int x1), (3, .int x3), (4, .int x4)] → B_D_byReads_33 B C K7 x1 x3 x4 s0 s1 M = some rv → W p l e rm_D_byReads s m args below meth c s.heap [] 0 0 (MQ below (Qro rv) args s 0 0 nofree) (F0 m 33 ls [.int s1, .int s0]) := by
  obtain ⟨hx, hb, hml, hr, hown, hts, hlk, hK⟩ := id G
  intro x1 x3 x4 s0 s1 M ls hP hS hl h
  unfold B_D_byReads_33 at h
  refine lv_iadd hx hb d_D_byReads_33 ?_
  obtain ⟨v34, e34, h⟩ := ln h
  refine lv_nm e34 ?_
  refine lv_istore_n (lv' := [(2, .int v34), (0, .ref (b + 0)), (1, .int x1), (3, .int x3), (4, .int x4)]) hx hb d_D_byReads_34 rfl hl (by decide) rfl (fun ls hl => ?_)
  refine lv_iload_n hx hb d_D_byReads_35 rfl (lv_at hl 3 rfl) ?_
  refine lv_aload_n hx hb d_D_byReads_36 rfl (lv_at hl 1 rfl) ?_
  refine lv_iload hx hb d_D_byReads_37 (lv_at hl 4 rfl) ?_
  refine lv_iload_n hx hb d_D_byReads_39 rfl (lv_at hl 2 rfl) ?_
  refine lv_iconst (v := 2) hx hb d_D_byReads_40 (by decide) ?_
  obtain ⟨q41, hc41, h⟩ := obd h
  refine wd_cvr (As := [.int x4, .int x1, .int 2]) (rest := [.int x3]) ⟨hx, hb, hml, hown, hts⟩ hK hP 0 hI.1 hI.2.1 rfl (c_D_isAmong l x4 x1 2 M _ hI hc41) (cwV 3 hts (wmV t_296 t_298 t_299 t_229 t_297) rfl rfl rfl (by decide +kernel) ⟨by decide, by decide⟩) rfl hl.1 rfl (Nat.le_of_ble_eq_true rfl) d_D_byReads_41 ⟨Nat.zero_le _, Nat.zero_le _⟩ ?_
  refine lv_if_eq (tgt := 51) hx hb d_D_byReads_44 (by decide) (fun c44 => ?_) (fun c44 => ?_)
  · replace h := ogt c44 h
    refine lv_iconst (v := 0) hx hb d_D_byReads_51 (by decide) ?_
    exact w_D_byReads_52 G hI hK7  x1 v34 x4 x3 0 M _ hP hS (lv_sub hl [1, 2, 0, 4] rfl) h
  · replace h := ogf c44 h
    refine lv_iconst (v := 1) hx hb d_D_byReads_47 (by decide) ?_
    refine lv_goto (tgt := 52) hx hb d_D_byReads_48 (by decide) ?_
    exact w_D_byReads_52 G hI hK7  x1 v34 x4 x3 1 M _ hP hS (lv_sub hl [1, 2, 0, 4] rfl) h
set_option maxHeartbeats 4000000 in
set_option maxRecDepth 100000 in
theorem w_D_byReads_7 {rv : Int32} (G : Cx p s m args meth c (dC, dI) cls6 (tyl dA) "BankTimesModel" k_D_byReads 5 (some .int)) (hI : Is_D dA b N sh B C 0)   : ∀ (n : Nat) (x1 x2 x3 x4 : Int32) (M : Mm) (ls : Array Slot), va_P (dC, dI) cls6 (wd b N sh M) s.heap → va_S (reg b N s.heap.size) s.heap s.heap [] → lv_has ls 5 [(0, .ref (b + 0)), (1, .int x1), (2, .int x2), (3, .int x3), (4, .int x4)] → B_D_byReads_7 B C n x1 x2 x3 x4 M = some rv → W p l e rm_D_byReads s m args below meth c s.heap [] 0 0 (MQ below (Qro rv) args s 0 0 nofree) (F0 m 7 ls []) := by
  obtain ⟨hx, hb, hml, hr, hown, hts, hlk, hK⟩ := id G
  intro n
  induction n with
  | zero =>
    intro x1 x2 x3 x4 M ls hP hS hl h
    cases h
  | succ n ih =>
    intro x1 x2 x3 x4 M ls hP hS hl h
    rw [B_D_byReads_7] at h
    refine lv_iload hx hb d_D_byReads_7 (lv_at hl 4 rfl) ?_
    refine lv_aload_n hx hb d_D_byReads_9 rfl (lv_at hl 0 rfl) ?_
    refine wd_geti hx hb hts i_D hown hK hP 0 hI.1 hI.2.1 rfl 20 (by decide) t_242 rfl d_D_byReads_10 ?_
    refine lv_icmp_ge (tgt := 60) hx hb d_D_byReads_13 (by decide) (fun c13 => ?_) (fun c13 => ?_)
    · replace h := ogt c13 h
      refine lv_aload_n hx hb d_D_byReads_60 rfl (lv_at hl 0 rfl) ?_
      refine lv_iload_n hx hb d_D_byReads_61 rfl (lv_at hl 1 rfl) ?_
      refine lv_iload_n hx hb d_D_byReads_62 rfl (lv_at hl 2 rfl) ?_
      refine lv_if_le (tgt := 75) hx hb d_D_byReads_63 (by decide) (fun c63 => ?_) (fun c63 => ?_)
      · replace h := ogt c63 h
        exact w_D_byReads_75 G hI  x1 M _ hP hS (lv_sub hl [] rfl) h
      · replace h := ogf c63 h
        refine lv_iload_n hx hb d_D_byReads_66 rfl (lv_at hl 3 rfl) ?_
        refine lv_iconst (v := 5) hx hb d_D_byReads_67 (by decide) ?_
        refine lv_icmp_ge (tgt := 75) hx hb d_D_byReads_68 (by decide) (fun c68 => ?_) (fun c68 => ?_)
        · replace h := ogt c68 h
          exact w_D_byReads_75 G hI  x1 M _ hP hS (lv_sub hl [] rfl) h
        · replace h := ogf c68 h
          refine lv_iconst (v := 1) hx hb d_D_byReads_71 (by decide) ?_
          refine lv_goto (tgt := 76) hx hb d_D_byReads_72 (by decide) ?_
          exact w_D_byReads_76 G hI  x1 1 M _ hP hS (lv_sub hl [] rfl) h
    · replace h := ogf c13 h
      refine lv_iload_n hx hb d_D_byReads_16 rfl (lv_at hl 2 rfl) ?_
      refine lv_aload_n hx hb d_D_byReads_17 rfl (lv_at hl 0 rfl) ?_
      refine lv_iload hx hb d_D_byReads_18 (lv_at hl 4 rfl) ?_
      refine lv_iload_n hx hb d_D_byReads_20 rfl (lv_at hl 1 rfl) ?_
      refine lv_iconst (v := 1) hx hb d_D_byReads_21 (by decide) ?_
      obtain ⟨q22, hc22, h⟩ := obd h
      refine wd_cvr (As := [.int x4, .int x1, .int 1]) (rest := [.int x2]) ⟨hx, hb, hml, hown, hts⟩ hK hP 0 hI.1 hI.2.1 rfl (c_D_isAmong l x4 x1 1 M _ hI hc22) (cwV 3 hts (wmV t_296 t_298 t_299 t_229 t_297) rfl rfl rfl (by decide +kernel) ⟨by decide, by decide⟩) rfl hl.1 rfl (Nat.le_of_ble_eq_true rfl) d_D_byReads_22 ⟨Nat.zero_le _, Nat.zero_le _⟩ ?_
      refine lv_if_eq (tgt := 32) hx hb d_D_byReads_25 (by decide) (fun c25 => ?_) (fun c25 => ?_)
      · replace h := ogt c25 h
        refine lv_iconst (v := 0) hx hb d_D_byReads_32 (by decide) ?_
        exact w_D_byReads_33 G hI ih  x1 x3 x4 x2 0 M _ hP hS (lv_sub hl [0, 1, 3, 4] rfl) h
      · replace h := ogf c25 h
        refine lv_iconst (v := 1) hx hb d_D_byReads_28 (by decide) ?_
        refine lv_goto (tgt := 33) hx hb d_D_byReads_29 (by decide) ?_
        exact w_D_byReads_33 G hI ih  x1 x3 x4 x2 1 M _ hP hS (lv_sub hl [0, 1, 3, 4] rfl) h
set_option maxHeartbeats 4000000 in
set_option maxRecDepth 100000 in
theorem w_D_byReads_0 {rv : Int32} (G : Cx p s m args meth c (dC, dI) cls6 (tyl dA) "BankTimesModel" k_D_byReads 5 (some .int)) (hI : Is_D dA b N sh B C 0)   : ∀ (x1 : Int32) (M : Mm) (ls : Array Slot), va_P (dC, dI) cls6 (wd b N sh M) s.heap → va_S (reg b N s.heap.size) s.heap s.heap [] → lv_has ls 5 [(0, .ref (b + 0)), (1, .int x1)] → f_D_byReads B C x1 M = some rv → W p l e rm_D_byReads s m args below meth c s.heap [] 0 0 (MQ below (Qro rv) args s 0 0 nofree) (F0 m 0 ls []) := by
  obtain ⟨hx, hb, hml, hr, hown, hts, hlk, hK⟩ := id G
  intro x1 M ls hP hS hl h
  unfold f_D_byReads at h
  refine lv_iconst (v := 0) hx hb d_D_byReads_0 (by decide) ?_
  refine lv_istore_n (lv' := [(2, .int 0), (0, .ref (b + 0)), (1, .int x1)]) hx hb d_D_byReads_1 rfl hl (by decide) rfl (fun ls hl => ?_)
  refine lv_iconst (v := 0) hx hb d_D_byReads_2 (by decide) ?_
  refine lv_istore_n (lv' := [(3, .int 0), (2, .int 0), (0, .ref (b + 0)), (1, .int x1)]) hx hb d_D_byReads_3 rfl hl (by decide) rfl (fun ls hl => ?_)
  refine lv_iconst (v := 0) hx hb d_D_byReads_4 (by decide) ?_
  refine lv_istore (lv' := [(4, .int 0), (3, .int 0), (2, .int 0), (0, .ref (b + 0)), (1, .int x1)]) hx hb d_D_byReads_5 hl (by decide) rfl (fun ls hl => ?_)
  exact w_D_byReads_7 G hI  1200 x1 0 0 0 M _ hP hS (lv_sub hl [3, 4, 2, 1, 0] rfl) h
theorem c_D_byReads (l : Launch) (x1 : Int32) (M : Mm) (sz : Nat) (hI : Is_D dA b N sh B C 0) {rv : Int32} (h : f_D_byReads B C x1 M = some rv) : Met l y_D_byReads (wm y_D_byReads k_D_byReads 5 (some .int)) rm_D_byReads (Pw (dC, dI) cls6 (tyl dA) b N sh [.ref (b + 0), .int x1] M sz) (Qro rv) 0 0 nofree := by
  refine mk_met (by decide) (Nat.le_of_ble_eq_true rfl) ?_
  intro p e s m below meth c ls G hsz hP hS hl
  subst hsz
  exact w_D_byReads_0 G hI _ _ ls hP hS hl h
end
abbrev rm_D_byTurns : Room := { frames := 3, cells := 0, slots := 0, locals := 72 }
def B_D_byTurns_88 (B C : Nat) (K2 : Int32 → Int32 → Mm → Option (Int32)) (x1 x2 : Int32) (M : Mm) : Option (Int32) := bnd (x2 + 1) (fun v88 => K2 x1 v88 M)
def B_D_byTurns_67 (B C : Nat) (K2 : Int32 → Int32 → Mm → Option (Int32)) (x1 x2 x4 : Int32) (M : Mm) : Option (Int32) := (if (M 0 20) ≤ x4 then B_D_byTurns_88 B C K2 x1 x2 M else (f_D_isReady B C x4 M).bind (fun q79 => (if q79 = 0 then B_D_byTurns_88 B C K2 x1 x2 M else some x4)))
def B_D_byTurns_61 (B C : Nat) (K27 : Int32 → Int32 → Int32 → Int32 → Mm → Option (Int32)) (x1 x2 x3 x4 : Int32) (M : Mm) : Option (Int32) := bnd (x4 + 1) (fun v61 => K27 x1 x2 x3 v61 M)
def B_D_byTurns_27 (B C : Nat) (K2 : Int32 → Int32 → Mm → Option (Int32)) : Nat → Int32 → Int32 → Int32 → Int32 → Mm → Option (Int32)
  | 0, _, _, _, _, _ => none
  | n + 1, x1, x2, x3, x4, M => (if (M 0 20) ≤ x4 then B_D_byTurns_67 B C K2 x1 x2 x4 M else (f_D_isOf B C x4 x1 M).bind (fun q40 => (if q40 = 0 then B_D_byTurns_61 B C (fun y0 y1 y2 y3 M => B_D_byTurns_27 B C K2 n y0 y1 y2 y3 M) x1 x2 x3 x4 M else (if ixb x4 600 = true then (f_D_bankOf B C (M 14 x4.toNatClampNeg) M).bind (fun q54 => (if q54 = x3 then B_D_byTurns_67 B C K2 x1 x2 x4 M else B_D_byTurns_61 B C (fun y0 y1 y2 y3 M => B_D_byTurns_27 B C K2 n y0 y1 y2 y3 M) x1 x2 x3 x4 M)) else none))))
def B_D_byTurns_2 (B C : Nat) : Nat → Int32 → Int32 → Mm → Option (Int32)
  | 0, _, _, _ => none
  | n + 1, x1, x2, M => (if (M 0 2) < x2 then some (-1) else (if ixb x1 2 = true then (if ¬ (M 0 2) = 0 then bnd (((M 13 x1.toNatClampNeg) + x2) - ((M 13 x1.toNatClampNeg) + x2) / (M 0 2) * (M 0 2)) (fun v23 => B_D_byTurns_27 B C (fun y0 y1 M => B_D_byTurns_2 B C n y0 y1 M) 1200 x1 x2 v23 0 M) else none) else none))
def f_D_byTurns (B C : Nat) (x1 : Int32) (M : Mm) : Option (Int32) := B_D_byTurns_2 B C 1200 x1 1 M
section
variable {p : Program} {l : Launch} {e : Env} {s : State} {m : MethodId} {args : Array Value} {below : List Frame} {meth : Method} {c : Code} {dC : Nat → ClassId} {dI : Nat → Nat → Nat} {dA : Nat → ClassId} {b N B C : Nat} {sh : Shp}
set_option maxHeartbeats 4000000 in
set_option maxRecDepth 100000 in
theorem w_D_byTurns_88 {rv : Int32} (G : Cx p s m args meth c (dC, dI) cls6 (tyl dA) "BankTimesModel" k_D_byTurns 5 (some .int)) (hI : Is_D dA b N sh B C 0)  {K2 : Int32 → Int32 → Mm → Option (Int32)} (hK2 : ∀ (x1 x2 : Int32) (M : Mm) (ls : Array Slot), va_P (dC, dI) cls6 (wd b N sh M) s.heap → va_S (reg b N s.heap.size) s.heap s.heap [] → lv_has ls 5 [(0, .ref (b + 0)), (1, .int x1), (2, .int x2)] → K2 x1 x2 M = some rv → W p l e rm_D_byTurns s m args below meth c s.heap [] 0 0 (MQ below (Qro rv) args s 0 0 nofree) (F0 m 2 ls []))  : ∀ (x1 x2 : Int32) (M : Mm) (ls : Array Slot), va_P (dC, dI) cls6 (wd b N sh M) s.heap → va_S (reg b N s.heap.size) s.heap s.heap [] → lv_has ls 5 [(0, .ref (b + 0)), (1, .int x1), (2, .int x2)] → B_D_byTurns_88 B C K2 x1 x2 M = some rv → W p l e rm_D_byTurns s m args below meth c s.heap [] 0 0 (MQ below (Qro rv) args s 0 0 nofree) (F0 m 88 ls []) := by
  obtain ⟨hx, hb, hml, hr, hown, hts, hlk, hK⟩ := id G
  intro x1 x2 M ls hP hS hl h
  unfold B_D_byTurns_88 at h
  obtain ⟨v88, e88, h⟩ := ln h
  refine lv_iinc (v := v88) (lv' := [(2, .int v88), (0, .ref (b + 0)), (1, .int x1)]) hx hb d_D_byTurns_88 hl (k := 2) rfl (by rw [e88]; rfl) (by decide) rfl (fun ls hl => ?_)
  refine lv_goto (tgt := 2) hx hb d_D_byTurns_91 (by decide) ?_
  exact hK2 x1 v88 M _ hP hS (lv_sub hl [1, 2, 0] rfl) h
set_option maxHeartbeats 4000000 in
set_option maxRecDepth 100000 in
theorem w_D_byTurns_67 {rv : Int32} (G : Cx p s m args meth c (dC, dI) cls6 (tyl dA) "BankTimesModel" k_D_byTurns 5 (some .int)) (hI : Is_D dA b N sh B C 0)  {K2 : Int32 → Int32 → Mm → Option (Int32)} (hK2 : ∀ (x1 x2 : Int32) (M : Mm) (ls : Array Slot), va_P (dC, dI) cls6 (wd b N sh M) s.heap → va_S (reg b N s.heap.size) s.heap s.heap [] → lv_has ls 5 [(0, .ref (b + 0)), (1, .int x1), (2, .int x2)] → K2 x1 x2 M = some rv → W p l e rm_D_byTurns s m args below meth c s.heap [] 0 0 (MQ below (Qro rv) args s 0 0 nofree) (F0 m 2 ls []))  : ∀ (x1 x2 x4 : Int32) (M : Mm) (ls : Array Slot), va_P (dC, dI) cls6 (wd b N sh M) s.heap → va_S (reg b N s.heap.size) s.heap s.heap [] → lv_has ls 5 [(0, .ref (b + 0)), (1, .int x1), (2, .int x2), (4, .int x4)] → B_D_byTurns_67 B C K2 x1 x2 x4 M = some rv → W p l e rm_D_byTurns s m args below meth c s.heap [] 0 0 (MQ below (Qro rv) args s 0 0 nofree) (F0 m 67 ls []) := by
  obtain ⟨hx, hb, hml, hr, hown, hts, hlk, hK⟩ := id G
  intro x1 x2 x4 M ls hP hS hl h
  unfold B_D_byTurns_67 at h
  refine lv_iload hx hb d_D_byTurns_67 (lv_at hl 3 rfl) ?_
  refine lv_aload_n hx hb d_D_byTurns_69 rfl (lv_at hl 0 rfl) ?_
  refine wd_geti hx hb hts i_D hown hK hP 0 hI.1 hI.2.1 rfl 20 (by decide) t_242 rfl d_D_byTurns_70 ?_
  refine lv_icmp_ge (tgt := 88) hx hb d_D_byTurns_73 (by decide) (fun c73 => ?_) (fun c73 => ?_)
  · replace h := ogt c73 h
    exact w_D_byTurns_88 G hI hK2  x1 x2 M _ hP hS (lv_sub hl [0, 1, 2] rfl) h
  · replace h := ogf c73 h
    refine lv_aload_n hx hb d_D_byTurns_76 rfl (lv_at hl 0 rfl) ?_
    refine lv_iload hx hb d_D_byTurns_77 (lv_at hl 3 rfl) ?_
    obtain ⟨q79, hc79, h⟩ := obd h
    refine wd_cvr (As := [.int x4]) (rest := []) ⟨hx, hb, hml, hown, hts⟩ hK hP 0 hI.1 hI.2.1 rfl (c_D_isReady l x4 M _ hI hc79) (cwV 1 hts (wmV t_300 t_302 t_303 t_229 t_301) rfl rfl rfl (by decide +kernel) ⟨by decide, by decide⟩) rfl hl.1 rfl (Nat.le_of_ble_eq_true rfl) d_D_byTurns_79 ⟨Nat.zero_le _, Nat.zero_le _⟩ ?_
    refine lv_if_eq (tgt := 88) hx hb d_D_byTurns_82 (by decide) (fun c82 => ?_) (fun c82 => ?_)
    · replace h := ogt c82 h
      exact w_D_byTurns_88 G hI hK2  x1 x2 M _ hP hS (lv_sub hl [0, 1, 2] rfl) h
    · replace h := ogf c82 h
      refine lv_iload hx hb d_D_byTurns_85 (lv_at hl 3 rfl) ?_
      obtain rfl := oe h
      exact wd_iret0 hx hb hr hlk d_D_byTurns_87
set_option maxHeartbeats 4000000 in
set_option maxRecDepth 100000 in
theorem w_D_byTurns_61 {rv : Int32} (G : Cx p s m args meth c (dC, dI) cls6 (tyl dA) "BankTimesModel" k_D_byTurns 5 (some .int)) (hI : Is_D dA b N sh B C 0)  {K27 : Int32 → Int32 → Int32 → Int32 → Mm → Option (Int32)} (hK27 : ∀ (x1 x2 x3 x4 : Int32) (M : Mm) (ls : Array Slot), va_P (dC, dI) cls6 (wd b N sh M) s.heap → va_S (reg b N s.heap.size) s.heap s.heap [] → lv_has ls 5 [(0, .ref (b + 0)), (1, .int x1), (2, .int x2), (3, .int x3), (4, .int x4)] → K27 x1 x2 x3 x4 M = some rv → W p l e rm_D_byTurns s m args below meth c s.heap [] 0 0 (MQ below (Qro rv) args s 0 0 nofree) (F0 m 27 ls []))  : ∀ (x1 x2 x3 x4 : Int32) (M : Mm) (ls : Array Slot), va_P (dC, dI) cls6 (wd b N sh M) s.heap → va_S (reg b N s.heap.size) s.heap s.heap [] → lv_has ls 5 [(0, .ref (b + 0)), (1, .int x1), (2, .int x2), (3, .int x3), (4, .int x4)] → B_D_byTurns_61 B C K27 x1 x2 x3 x4 M = some rv → W p l e rm_D_byTurns s m args below meth c s.heap [] 0 0 (MQ below (Qro rv) args s 0 0 nofree) (F0 m 61 ls []) := by
  obtain ⟨hx, hb, hml, hr, hown, hts, hlk, hK⟩ := id G
  intro x1 x2 x3 x4 M ls hP hS hl h
  unfold B_D_byTurns_61 at h
  obtain ⟨v61, e61, h⟩ := ln h
  refine lv_iinc (v := v61) (lv' := [(4, .int v61), (0, .ref (b + 0)), (1, .int x1), (2, .int x2), (3, .int x3)]) hx hb d_D_byTurns_61 hl (k := 4) rfl (by rw [e61]; rfl) (by decide) rfl (fun ls hl => ?_)
  refine lv_goto (tgt := 27) hx hb d_D_byTurns_64 (by decide) ?_
  exact hK27 x1 x2 x3 v61 M _ hP hS (lv_sub hl [1, 2, 3, 4, 0] rfl) h
set_option maxHeartbeats 4000000 in
set_option maxRecDepth 100000 in
theorem w_D_byTurns_27 {rv : Int32} (G : Cx p s m args meth c (dC, dI) cls6 (tyl dA) "BankTimesModel" k_D_byTurns 5 (some .int)) (hI : Is_D dA b N sh B C 0)  {K2 : Int32 → Int32 → Mm → Option (Int32)} (hK2 : ∀ (x1 x2 : Int32) (M : Mm) (ls : Array Slot), va_P (dC, dI) cls6 (wd b N sh M) s.heap → va_S (reg b N s.heap.size) s.heap s.heap [] → lv_has ls 5 [(0, .ref (b + 0)), (1, .int x1), (2, .int x2)] → K2 x1 x2 M = some rv → W p l e rm_D_byTurns s m args below meth c s.heap [] 0 0 (MQ below (Qro rv) args s 0 0 nofree) (F0 m 2 ls []))  : ∀ (n : Nat) (x1 x2 x3 x4 : Int32) (M : Mm) (ls : Array Slot), va_P (dC, dI) cls6 (wd b N sh M) s.heap → va_S (reg b N s.heap.size) s.heap s.heap [] → lv_has ls 5 [(0, .ref (b + 0)), (1, .int x1), (2, .int x2), (3, .int x3), (4, .int x4)] → B_D_byTurns_27 B C K2 n x1 x2 x3 x4 M = some rv → W p l e rm_D_byTurns s m args below meth c s.heap [] 0 0 (MQ below (Qro rv) args s 0 0 nofree) (F0 m 27 ls []) := by
  obtain ⟨hx, hb, hml, hr, hown, hts, hlk, hK⟩ := id G
  intro n
  induction n with
  | zero =>
    intro x1 x2 x3 x4 M ls hP hS hl h
    cases h
  | succ n ih =>
    intro x1 x2 x3 x4 M ls hP hS hl h
    rw [B_D_byTurns_27] at h
    refine lv_iload hx hb d_D_byTurns_27 (lv_at hl 4 rfl) ?_
    refine lv_aload_n hx hb d_D_byTurns_29 rfl (lv_at hl 0 rfl) ?_
    refine wd_geti hx hb hts i_D hown hK hP 0 hI.1 hI.2.1 rfl 20 (by decide) t_242 rfl d_D_byTurns_30 ?_
    refine lv_icmp_ge (tgt := 67) hx hb d_D_byTurns_33 (by decide) (fun c33 => ?_) (fun c33 => ?_)
    · replace h := ogt c33 h
      exact w_D_byTurns_67 G hI hK2  x1 x2 x4 M _ hP hS (lv_sub hl [0, 1, 2, 4] rfl) h
    · replace h := ogf c33 h
      refine lv_aload_n hx hb d_D_byTurns_36 rfl (lv_at hl 0 rfl) ?_
      refine lv_iload hx hb d_D_byTurns_37 (lv_at hl 4 rfl) ?_
      refine lv_iload_n hx hb d_D_byTurns_39 rfl (lv_at hl 1 rfl) ?_
      obtain ⟨q40, hc40, h⟩ := obd h
      refine wd_cvr (As := [.int x4, .int x1]) (rest := []) ⟨hx, hb, hml, hown, hts⟩ hK hP 0 hI.1 hI.2.1 rfl (c_D_isOf l x4 x1 M _ hI hc40) (cwV 2 hts (wmV t_292 t_294 t_295 t_229 t_293) rfl rfl rfl (by decide +kernel) ⟨by decide, by decide⟩) rfl hl.1 rfl (Nat.le_of_ble_eq_true rfl) d_D_byTurns_40 ⟨Nat.zero_le _, Nat.zero_le _⟩ ?_
      refine lv_if_eq (tgt := 61) hx hb d_D_byTurns_43 (by decide) (fun c43 => ?_) (fun c43 => ?_)
      · replace h := ogt c43 h
        exact w_D_byTurns_61 G hI ih  x1 x2 x3 x4 M _ hP hS (lv_sub hl [0, 1, 2, 3, 4] rfl) h
      · replace h := ogf c43 h
        refine lv_aload_n hx hb d_D_byTurns_46 rfl (lv_at hl 0 rfl) ?_
        refine lv_aload_n hx hb d_D_byTurns_47 rfl (lv_at hl 0 rfl) ?_
        refine wd_getr hx hb hts i_D hown hK hP 0 hI.1 hI.2.1 rfl 23 (by decide) t_244 rfl d_D_byTurns_48 ?_
        refine lv_iload hx hb d_D_byTurns_51 (lv_at hl 4 rfl) ?_
        obtain ⟨hi53, h⟩ := og h
        refine wd_iald hx hb hK hP 14 0 hI.2.2.2.2.2.2.2.2.2.2.2.2.2.2.2.1.1 hI.2.2.2.2.2.2.2.2.2.2.2.2.2.2.2.1.2 rfl hi53 d_D_byTurns_53 ?_
        obtain ⟨q54, hc54, h⟩ := obd h
        refine wd_cvr (As := [.int (M 14 x4.toNatClampNeg)]) (rest := []) ⟨hx, hb, hml, hown, hts⟩ hK hP 0 hI.1 hI.2.1 rfl (c_D_bankOf l (M 14 x4.toNatClampNeg) M _ hI hc54) (cwV 1 hts (wmV t_261 t_263 t_264 t_229 t_262) rfl rfl rfl (by decide +kernel) ⟨by decide, by decide⟩) rfl hl.1 rfl (Nat.le_of_ble_eq_true rfl) d_D_byTurns_54 ⟨Nat.zero_le _, Nat.zero_le _⟩ ?_
        refine lv_iload_n hx hb d_D_byTurns_57 rfl (lv_at hl 3 rfl) ?_
        refine lv_icmp_eq (tgt := 67) hx hb d_D_byTurns_58 (by decide) (fun c58 => ?_) (fun c58 => ?_)
        · replace h := ogt c58 h
          exact w_D_byTurns_67 G hI hK2  x1 x2 x4 M _ hP hS (lv_sub hl [0, 1, 2, 4] rfl) h
        · replace h := ogf c58 h
          exact w_D_byTurns_61 G hI ih  x1 x2 x3 x4 M _ hP hS (lv_sub hl [0, 1, 2, 3, 4] rfl) h
set_option maxHeartbeats 4000000 in
set_option maxRecDepth 100000 in
theorem w_D_byTurns_2 {rv : Int32} (G : Cx p s m args meth c (dC, dI) cls6 (tyl dA) "BankTimesModel" k_D_byTurns 5 (some .int)) (hI : Is_D dA b N sh B C 0)   : ∀ (n : Nat) (x1 x2 : Int32) (M : Mm) (ls : Array Slot), va_P (dC, dI) cls6 (wd b N sh M) s.heap → va_S (reg b N s.heap.size) s.heap s.heap [] → lv_has ls 5 [(0, .ref (b + 0)), (1, .int x1), (2, .int x2)] → B_D_byTurns_2 B C n x1 x2 M = some rv → W p l e rm_D_byTurns s m args below meth c s.heap [] 0 0 (MQ below (Qro rv) args s 0 0 nofree) (F0 m 2 ls []) := by
  obtain ⟨hx, hb, hml, hr, hown, hts, hlk, hK⟩ := id G
  intro n
  induction n with
  | zero =>
    intro x1 x2 M ls hP hS hl h
    cases h
  | succ n ih =>
    intro x1 x2 M ls hP hS hl h
    rw [B_D_byTurns_2] at h
    refine lv_iload_n hx hb d_D_byTurns_2 rfl (lv_at hl 2 rfl) ?_
    refine lv_aload_n hx hb d_D_byTurns_3 rfl (lv_at hl 0 rfl) ?_
    refine wd_geti hx hb hts i_D hown hK hP 0 hI.1 hI.2.1 rfl 2 (by decide) t_231 rfl d_D_byTurns_4 ?_
    refine lv_icmp_gt (tgt := 94) hx hb d_D_byTurns_7 (by decide) (fun c7 => ?_) (fun c7 => ?_)
    · replace h := ogt c7 h
      refine lv_iconst (v := (-1)) hx hb d_D_byTurns_94 (by decide) ?_
      obtain rfl := oe h
      exact wd_iret0 hx hb hr hlk d_D_byTurns_95
    · replace h := ogf c7 h
      refine lv_aload_n hx hb d_D_byTurns_10 rfl (lv_at hl 0 rfl) ?_
      refine wd_getr hx hb hts i_D hown hK hP 0 hI.1 hI.2.1 rfl 19 (by decide) t_312 rfl d_D_byTurns_11 ?_
      refine lv_iload_n hx hb d_D_byTurns_14 rfl (lv_at hl 1 rfl) ?_
      obtain ⟨hi15, h⟩ := og h
      refine wd_iald hx hb hK hP 13 0 hI.2.2.2.2.2.2.2.2.2.2.2.2.2.2.1.1 hI.2.2.2.2.2.2.2.2.2.2.2.2.2.2.1.2 rfl hi15 d_D_byTurns_15 ?_
      refine lv_iload_n hx hb d_D_byTurns_16 rfl (lv_at hl 2 rfl) ?_
      refine lv_iadd hx hb d_D_byTurns_17 ?_
      refine lv_aload_n hx hb d_D_byTurns_18 rfl (lv_at hl 0 rfl) ?_
      refine wd_geti hx hb hts i_D hown hK hP 0 hI.1 hI.2.1 rfl 2 (by decide) t_231 rfl d_D_byTurns_19 ?_
      obtain ⟨hn22, h⟩ := og h
      refine lv_irem hx hb d_D_byTurns_22 hn22 ?_
      obtain ⟨v23, e23, h⟩ := ln h
      refine lv_nm e23 ?_
      refine lv_istore_n (lv' := [(3, .int v23), (0, .ref (b + 0)), (1, .int x1), (2, .int x2)]) hx hb d_D_byTurns_23 rfl hl (by decide) rfl (fun ls hl => ?_)
      refine lv_iconst (v := 0) hx hb d_D_byTurns_24 (by decide) ?_
      refine lv_istore (lv' := [(4, .int 0), (3, .int v23), (0, .ref (b + 0)), (1, .int x1), (2, .int x2)]) hx hb d_D_byTurns_25 hl (by decide) rfl (fun ls hl => ?_)
      exact w_D_byTurns_27 G hI ih  1200 x1 x2 v23 0 M _ hP hS (lv_sub hl [2, 3, 4, 1, 0] rfl) h
set_option maxHeartbeats 4000000 in
set_option maxRecDepth 100000 in
theorem w_D_byTurns_0 {rv : Int32} (G : Cx p s m args meth c (dC, dI) cls6 (tyl dA) "BankTimesModel" k_D_byTurns 5 (some .int)) (hI : Is_D dA b N sh B C 0)   : ∀ (x1 : Int32) (M : Mm) (ls : Array Slot), va_P (dC, dI) cls6 (wd b N sh M) s.heap → va_S (reg b N s.heap.size) s.heap s.heap [] → lv_has ls 5 [(0, .ref (b + 0)), (1, .int x1)] → f_D_byTurns B C x1 M = some rv → W p l e rm_D_byTurns s m args below meth c s.heap [] 0 0 (MQ below (Qro rv) args s 0 0 nofree) (F0 m 0 ls []) := by
  obtain ⟨hx, hb, hml, hr, hown, hts, hlk, hK⟩ := id G
  intro x1 M ls hP hS hl h
  unfold f_D_byTurns at h
  refine lv_iconst (v := 1) hx hb d_D_byTurns_0 (by decide) ?_
  refine lv_istore_n (lv' := [(2, .int 1), (0, .ref (b + 0)), (1, .int x1)]) hx hb d_D_byTurns_1 rfl hl (by decide) rfl (fun ls hl => ?_)
  exact w_D_byTurns_2 G hI  1200 x1 1 M _ hP hS (lv_sub hl [1, 2, 0] rfl) h
theorem c_D_byTurns (l : Launch) (x1 : Int32) (M : Mm) (sz : Nat) (hI : Is_D dA b N sh B C 0) {rv : Int32} (h : f_D_byTurns B C x1 M = some rv) : Met l y_D_byTurns (wm y_D_byTurns k_D_byTurns 5 (some .int)) rm_D_byTurns (Pw (dC, dI) cls6 (tyl dA) b N sh [.ref (b + 0), .int x1] M sz) (Qro rv) 0 0 nofree := by
  refine mk_met (by decide) (Nat.le_of_ble_eq_true rfl) ?_
  intro p e s m below meth c ls G hsz hP hS hl
  subst hsz
  exact w_D_byTurns_0 G hI _ _ ls hP hS hl h
end
abbrev rm_D_named : Room := { frames := 6, cells := 0, slots := 0, locals := 138 }
def B_D_named_68 (B C : Nat) (x2 : Int32) (M : Mm) : Option (Int32) := (if (M 0 20) ≤ x2 then some (-1) else (f_D_isReady B C x2 M).bind (fun q78 => (if q78 = 0 then some (-1) else some x2)))
def B_D_named_45 (B C : Nat) : Nat → Int32 → Int32 → Mm → Option (Int32)
  | 0, _, _, _ => none
  | n + 1, x1, x2, M => (if (M 0 20) ≤ x2 then B_D_named_68 B C x2 M else (f_D_isOf B C x2 x1 M).bind (fun q56 => (if q56 = 0 then bnd (x2 + 1) (fun v62 => B_D_named_45 B C n x1 v62 M) else B_D_named_68 B C x2 M)))
def f_D_named (B C : Nat) (x1 : Int32) (M : Mm) : Option (Int32) := (if (M 0 4) = 1 then (f_D_byRows B C x1 0 M).bind (fun q11 => some q11) else (if (M 0 4) = 2 then (f_D_byReads B C x1 M).bind (fun q25 => some q25) else (if (M 0 4) = 3 then (f_D_byTurns B C x1 M).bind (fun q39 => some q39) else B_D_named_45 B C 1200 x1 0 M)))
section
variable {p : Program} {l : Launch} {e : Env} {s : State} {m : MethodId} {args : Array Value} {below : List Frame} {meth : Method} {c : Code} {dC : Nat → ClassId} {dI : Nat → Nat → Nat} {dA : Nat → ClassId} {b N B C : Nat} {sh : Shp}
set_option maxHeartbeats 4000000 in
set_option maxRecDepth 100000 in
theorem w_D_named_68 {rv : Int32} (G : Cx p s m args meth c (dC, dI) cls6 (tyl dA) "BankTimesModel" k_D_named 3 (some .int)) (hI : Is_D dA b N sh B C 0)   : ∀ (x2 : Int32) (M : Mm) (ls : Array Slot), va_P (dC, dI) cls6 (wd b N sh M) s.heap → va_S (reg b N s.heap.size) s.heap s.heap [] → lv_has ls 3 [(0, .ref (b + 0)), (2, .int x2)] → B_D_named_68 B C x2 M = some rv → W p l e rm_D_named s m args below meth c s.heap [] 0 0 (MQ below (Qro rv) args s 0 0 nofree) (F0 m 68 ls []) := by
  obtain ⟨hx, hb, hml, hr, hown, hts, hlk, hK⟩ := id G
  intro x2 M ls hP hS hl h
  unfold B_D_named_68 at h
  refine lv_iload_n hx hb d_D_named_68 rfl (lv_at hl 1 rfl) ?_
  refine lv_aload_n hx hb d_D_named_69 rfl (lv_at hl 0 rfl) ?_
  refine wd_geti hx hb hts i_D hown hK hP 0 hI.1 hI.2.1 rfl 20 (by decide) t_242 rfl d_D_named_70 ?_
  refine lv_icmp_ge (tgt := 88) hx hb d_D_named_73 (by decide) (fun c73 => ?_) (fun c73 => ?_)
  · replace h := ogt c73 h
    refine lv_iconst (v := (-1)) hx hb d_D_named_88 (by decide) ?_
    obtain rfl := oe h
    exact wd_iret0 hx hb hr hlk d_D_named_89
  · replace h := ogf c73 h
    refine lv_aload_n hx hb d_D_named_76 rfl (lv_at hl 0 rfl) ?_
    refine lv_iload_n hx hb d_D_named_77 rfl (lv_at hl 1 rfl) ?_
    obtain ⟨q78, hc78, h⟩ := obd h
    refine wd_cvr (As := [.int x2]) (rest := []) ⟨hx, hb, hml, hown, hts⟩ hK hP 0 hI.1 hI.2.1 rfl (c_D_isReady l x2 M _ hI hc78) (cwV 1 hts (wmV t_300 t_302 t_303 t_229 t_301) rfl rfl rfl (by decide +kernel) ⟨by decide, by decide⟩) rfl hl.1 rfl (Nat.le_of_ble_eq_true rfl) d_D_named_78 ⟨Nat.zero_le _, Nat.zero_le _⟩ ?_
    refine lv_if_eq (tgt := 88) hx hb d_D_named_81 (by decide) (fun c81 => ?_) (fun c81 => ?_)
    · replace h := ogt c81 h
      refine lv_iconst (v := (-1)) hx hb d_D_named_88 (by decide) ?_
      obtain rfl := oe h
      exact wd_iret0 hx hb hr hlk d_D_named_89
    · replace h := ogf c81 h
      refine lv_iload_n hx hb d_D_named_84 rfl (lv_at hl 1 rfl) ?_
      refine lv_goto (tgt := 89) hx hb d_D_named_85 (by decide) ?_
      obtain rfl := oe h
      exact wd_iret0 hx hb hr hlk d_D_named_89
set_option maxHeartbeats 4000000 in
set_option maxRecDepth 100000 in
theorem w_D_named_45 {rv : Int32} (G : Cx p s m args meth c (dC, dI) cls6 (tyl dA) "BankTimesModel" k_D_named 3 (some .int)) (hI : Is_D dA b N sh B C 0)   : ∀ (n : Nat) (x1 x2 : Int32) (M : Mm) (ls : Array Slot), va_P (dC, dI) cls6 (wd b N sh M) s.heap → va_S (reg b N s.heap.size) s.heap s.heap [] → lv_has ls 3 [(0, .ref (b + 0)), (1, .int x1), (2, .int x2)] → B_D_named_45 B C n x1 x2 M = some rv → W p l e rm_D_named s m args below meth c s.heap [] 0 0 (MQ below (Qro rv) args s 0 0 nofree) (F0 m 45 ls []) := by
  obtain ⟨hx, hb, hml, hr, hown, hts, hlk, hK⟩ := id G
  intro n
  induction n with
  | zero =>
    intro x1 x2 M ls hP hS hl h
    cases h
  | succ n ih =>
    intro x1 x2 M ls hP hS hl h
    rw [B_D_named_45] at h
    refine lv_iload_n hx hb d_D_named_45 rfl (lv_at hl 2 rfl) ?_
    refine lv_aload_n hx hb d_D_named_46 rfl (lv_at hl 0 rfl) ?_
    refine wd_geti hx hb hts i_D hown hK hP 0 hI.1 hI.2.1 rfl 20 (by decide) t_242 rfl d_D_named_47 ?_
    refine lv_icmp_ge (tgt := 68) hx hb d_D_named_50 (by decide) (fun c50 => ?_) (fun c50 => ?_)
    · replace h := ogt c50 h
      exact w_D_named_68 G hI  x2 M _ hP hS (lv_sub hl [0, 2] rfl) h
    · replace h := ogf c50 h
      refine lv_aload_n hx hb d_D_named_53 rfl (lv_at hl 0 rfl) ?_
      refine lv_iload_n hx hb d_D_named_54 rfl (lv_at hl 2 rfl) ?_
      refine lv_iload_n hx hb d_D_named_55 rfl (lv_at hl 1 rfl) ?_
      obtain ⟨q56, hc56, h⟩ := obd h
      refine wd_cvr (As := [.int x2, .int x1]) (rest := []) ⟨hx, hb, hml, hown, hts⟩ hK hP 0 hI.1 hI.2.1 rfl (c_D_isOf l x2 x1 M _ hI hc56) (cwV 2 hts (wmV t_292 t_294 t_295 t_229 t_293) rfl rfl rfl (by decide +kernel) ⟨by decide, by decide⟩) rfl hl.1 rfl (Nat.le_of_ble_eq_true rfl) d_D_named_56 ⟨Nat.zero_le _, Nat.zero_le _⟩ ?_
      refine lv_if_ne (tgt := 68) hx hb d_D_named_59 (by decide) (fun c59 => ?_) (fun c59 => ?_)
      · replace h := ogf c59 h
        exact w_D_named_68 G hI  x2 M _ hP hS (lv_sub hl [0, 2] rfl) h
      · replace h := ogt c59 h
        obtain ⟨v62, e62, h⟩ := ln h
        refine lv_iinc (v := v62) (lv' := [(2, .int v62), (0, .ref (b + 0)), (1, .int x1)]) hx hb d_D_named_62 hl (k := 2) rfl (by rw [e62]; rfl) (by decide) rfl (fun ls hl => ?_)
        refine lv_goto (tgt := 45) hx hb d_D_named_65 (by decide) ?_
        exact ih x1 v62 M _ hP hS (lv_sub hl [1, 2, 0] rfl) h
set_option maxHeartbeats 4000000 in
set_option maxRecDepth 100000 in
theorem w_D_named_0 {rv : Int32} (G : Cx p s m args meth c (dC, dI) cls6 (tyl dA) "BankTimesModel" k_D_named 3 (some .int)) (hI : Is_D dA b N sh B C 0)   : ∀ (x1 : Int32) (M : Mm) (ls : Array Slot), va_P (dC, dI) cls6 (wd b N sh M) s.heap → va_S (reg b N s.heap.size) s.heap s.heap [] → lv_has ls 3 [(0, .ref (b + 0)), (1, .int x1)] → f_D_named B C x1 M = some rv → W p l e rm_D_named s m args below meth c s.heap [] 0 0 (MQ below (Qro rv) args s 0 0 nofree) (F0 m 0 ls []) := by
  obtain ⟨hx, hb, hml, hr, hown, hts, hlk, hK⟩ := id G
  intro x1 M ls hP hS hl h
  unfold f_D_named at h
  refine lv_aload_n hx hb d_D_named_0 rfl (lv_at hl 0 rfl) ?_
  refine wd_geti hx hb hts i_D hown hK hP 0 hI.1 hI.2.1 rfl 4 (by decide) t_313 rfl d_D_named_1 ?_
  refine lv_iconst (v := 1) hx hb d_D_named_4 (by decide) ?_
  refine lv_icmp_ne (tgt := 15) hx hb d_D_named_5 (by decide) (fun c5 => ?_) (fun c5 => ?_)
  · replace h := ogf c5 h
    refine lv_aload_n hx hb d_D_named_15 rfl (lv_at hl 0 rfl) ?_
    refine wd_geti hx hb hts i_D hown hK hP 0 hI.1 hI.2.1 rfl 4 (by decide) t_313 rfl d_D_named_16 ?_
    refine lv_iconst (v := 2) hx hb d_D_named_19 (by decide) ?_
    refine lv_icmp_ne (tgt := 29) hx hb d_D_named_20 (by decide) (fun c20 => ?_) (fun c20 => ?_)
    · replace h := ogf c20 h
      refine lv_aload_n hx hb d_D_named_29 rfl (lv_at hl 0 rfl) ?_
      refine wd_geti hx hb hts i_D hown hK hP 0 hI.1 hI.2.1 rfl 4 (by decide) t_313 rfl d_D_named_30 ?_
      refine lv_iconst (v := 3) hx hb d_D_named_33 (by decide) ?_
      refine lv_icmp_ne (tgt := 43) hx hb d_D_named_34 (by decide) (fun c34 => ?_) (fun c34 => ?_)
      · replace h := ogf c34 h
        refine lv_iconst (v := 0) hx hb d_D_named_43 (by decide) ?_
        refine lv_istore_n (lv' := [(2, .int 0), (0, .ref (b + 0)), (1, .int x1)]) hx hb d_D_named_44 rfl hl (by decide) rfl (fun ls hl => ?_)
        exact w_D_named_45 G hI  1200 x1 0 M _ hP hS (lv_sub hl [1, 2, 0] rfl) h
      · replace h := ogt c34 h
        refine lv_aload_n hx hb d_D_named_37 rfl (lv_at hl 0 rfl) ?_
        refine lv_iload_n hx hb d_D_named_38 rfl (lv_at hl 1 rfl) ?_
        obtain ⟨q39, hc39, h⟩ := obd h
        refine wd_cvr (As := [.int x1]) (rest := []) ⟨hx, hb, hml, hown, hts⟩ hK hP 0 hI.1 hI.2.1 rfl (c_D_byTurns l x1 M _ hI hc39) (cwV 1 hts (wmV t_314 t_316 t_317 t_229 t_315) rfl rfl rfl (by decide +kernel) ⟨by decide, by decide⟩) rfl hl.1 rfl (Nat.le_of_ble_eq_true rfl) d_D_named_39 ⟨Nat.zero_le _, Nat.zero_le _⟩ ?_
        obtain rfl := oe h
        exact wd_iret0 hx hb hr hlk d_D_named_42
    · replace h := ogt c20 h
      refine lv_aload_n hx hb d_D_named_23 rfl (lv_at hl 0 rfl) ?_
      refine lv_iload_n hx hb d_D_named_24 rfl (lv_at hl 1 rfl) ?_
      obtain ⟨q25, hc25, h⟩ := obd h
      refine wd_cvr (As := [.int x1]) (rest := []) ⟨hx, hb, hml, hown, hts⟩ hK hP 0 hI.1 hI.2.1 rfl (c_D_byReads l x1 M _ hI hc25) (cwV 1 hts (wmV t_318 t_320 t_321 t_229 t_319) rfl rfl rfl (by decide +kernel) ⟨by decide, by decide⟩) rfl hl.1 rfl (Nat.le_of_ble_eq_true rfl) d_D_named_25 ⟨Nat.zero_le _, Nat.zero_le _⟩ ?_
      obtain rfl := oe h
      exact wd_iret0 hx hb hr hlk d_D_named_28
  · replace h := ogt c5 h
    refine lv_aload_n hx hb d_D_named_8 rfl (lv_at hl 0 rfl) ?_
    refine lv_iload_n hx hb d_D_named_9 rfl (lv_at hl 1 rfl) ?_
    refine lv_iconst (v := 0) hx hb d_D_named_10 (by decide) ?_
    obtain ⟨q11, hc11, h⟩ := obd h
    refine wd_cvr (As := [.int x1, .int 0]) (rest := []) ⟨hx, hb, hml, hown, hts⟩ hK hP 0 hI.1 hI.2.1 rfl (c_D_byRows l x1 0 M _ hI hc11) (cwV 2 hts (wmV t_308 t_310 t_311 t_229 t_309) rfl rfl rfl (by decide +kernel) ⟨by decide, by decide⟩) rfl hl.1 rfl (Nat.le_of_ble_eq_true rfl) d_D_named_11 ⟨Nat.zero_le _, Nat.zero_le _⟩ ?_
    obtain rfl := oe h
    exact wd_iret0 hx hb hr hlk d_D_named_14
theorem c_D_named (l : Launch) (x1 : Int32) (M : Mm) (sz : Nat) (hI : Is_D dA b N sh B C 0) {rv : Int32} (h : f_D_named B C x1 M = some rv) : Met l y_D_named (wm y_D_named k_D_named 3 (some .int)) rm_D_named (Pw (dC, dI) cls6 (tyl dA) b N sh [.ref (b + 0), .int x1] M sz) (Qro rv) 0 0 nofree := by
  refine mk_met (by decide) (Nat.le_of_ble_eq_true rfl) ?_
  intro p e s m below meth c ls G hsz hP hS hl
  subst hsz
  exact w_D_named_0 G hI _ _ ls hP hS hl h
end
