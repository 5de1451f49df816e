abbrev rm_A_fill : Room := { frames := 0, cells := 0, slots := 0, locals := 0 }
def B_A_fill_5 (B C : Nat) (r0 : Nat) (n0 : Nat) : Nat → Int32 → Int32 → Int32 → Mm → Option (Mm)
  | 0, _, _, _, _ => none
  | n + 1, x1, x2, x3, M => (if x3 ≤ x2 then some M else (if ixb x2 n0 = true then bnd (up2 M r0 x2.toNatClampNeg x1) (fun M13 => bnd (x2 + 1) (fun v14 => B_A_fill_5 B C r0 n0 n x1 v14 x3 M13)) else none))
def f_A_fill (B C : Nat) (r0 : Nat) (n0 : Nat) (x1 : Int32) (M : Mm) : Option (Mm) := bnd (nI n0) (fun v4 => B_A_fill_5 B C r0 n0 1200 x1 0 v4 M)
section
variable {p : Program} {l : Launch} {e : Env} {s : State} {m : MethodId} {args : Array Value} {below : List Frame} {meth : Method} {c : Code} {dC : Nat → ClassId} {dI : Nat → Nat → Nat} {dA : Nat → ClassId} {b N B C : Nat} {sh : Shp}
set_option maxHeartbeats 4000000 in
set_option maxRecDepth 100000 in
theorem w_A_fill_5 {r0 : Nat} {n0 : Nat} {M' : Mm} (G : Cx p s m args meth c (dC, dI) cls6 (tyl dA) "java/util/Arrays" k_A_fill 4 none) (ha0 : r0 < N ∧ sh r0 = ia (dA 0) n0)   : ∀ (n : Nat) (x1 x2 x3 : Int32) (M : Mm) (H : Heap) (locs : List Loc) (ls : Array Slot), va_P (dC, dI) cls6 (wd b N sh M) H → va_S (reg b N s.heap.size) s.heap H locs → lv_has ls 4 [(0, .ref (b + r0)), (1, .int x1), (2, .int x2), (3, .int x3)] → B_A_fill_5 B C r0 n0 n x1 x2 x3 M = some M' → W p l e rm_A_fill s m args below meth c H locs 0 0 (MQ below (Qwv (dC, dI) cls6 b N sh M' s.heap.size) args s 0 0 (reg b N s.heap.size)) (F0 m 5 ls []) := by
  obtain ⟨hx, hb, hml, hr, hown, hts, hlk, hK⟩ := id G
  intro n
  induction n with
  | zero =>
    intro x1 x2 x3 M H locs ls hP hS hl h
    cases h
  | succ n ih =>
    intro x1 x2 x3 M H locs ls hP hS hl h
    rw [B_A_fill_5] at h
    refine lv_iload_n hx hb d_A_fill_5 rfl (lv_at hl 2 rfl) ?_
    refine lv_iload_n hx hb d_A_fill_6 rfl (lv_at hl 3 rfl) ?_
    refine lv_icmp_ge (tgt := 20) hx hb d_A_fill_7 (by decide) (fun c7 => ?_) (fun c7 => ?_)
    · replace h := ogt c7 h
      obtain rfl := oe h
      exact wd_vret hx hb hr hlk hP hS d_A_fill_20
    · replace h := ogf c7 h
      refine lv_aload_n hx hb d_A_fill_10 rfl (lv_at hl 0 rfl) ?_
      refine lv_iload_n hx hb d_A_fill_11 rfl (lv_at hl 2 rfl) ?_
      refine lv_iload_n hx hb d_A_fill_12 rfl (lv_at hl 1 rfl) ?_
      obtain ⟨hi13, h⟩ := og h
      obtain ⟨M13, eM13, h⟩ := ln h
      refine wd_iast hx hb hK hP hS r0 0 ha0.1 ha0.2 rfl hi13 d_A_fill_13 (fun H locs hP hS => ?_)
      rw [← eM13] at hP
      obtain ⟨v14, e14, h⟩ := ln h
      refine lv_iinc (v := v14) (lv' := [(2, .int v14), (0, .ref (b + r0)), (1, .int x1), (3, .int x3)]) hx hb d_A_fill_14 hl (k := 2) rfl (by rw [e14]; rfl) (by decide) rfl (fun ls hl => ?_)
      refine lv_goto (tgt := 5) hx hb d_A_fill_17 (by decide) ?_
      exact ih x1 v14 x3 M13 _ _ _ hP hS (lv_sub hl [1, 2, 0, 3] rfl) h
set_option maxHeartbeats 4000000 in
set_option maxRecDepth 100000 in
theorem w_A_fill_0 {r0 : Nat} {n0 : Nat} {M' : Mm} (G : Cx p s m args meth c (dC, dI) cls6 (tyl dA) "java/util/Arrays" k_A_fill 4 none) (ha0 : r0 < N ∧ sh r0 = ia (dA 0) n0)   : ∀ (x1 : Int32) (M : Mm) (ls : Array Slot), va_P (dC, dI) cls6 (wd b N sh M) s.heap → va_S (reg b N s.heap.size) s.heap s.heap [] → lv_has ls 4 [(0, .ref (b + r0)), (1, .int x1)] → f_A_fill B C r0 n0 x1 M = some M' → W p l e rm_A_fill s m args below meth c s.heap [] 0 0 (MQ below (Qwv (dC, dI) cls6 b N sh M' s.heap.size) args s 0 0 (reg b N s.heap.size)) (F0 m 0 ls []) := by
  obtain ⟨hx, hb, hml, hr, hown, hts, hlk, hK⟩ := id G
  intro x1 M ls hP hS hl h
  unfold f_A_fill at h
  refine lv_iconst (v := 0) hx hb d_A_fill_0 (by decide) ?_
  refine lv_istore_n (lv' := [(2, .int 0), (0, .ref (b + r0)), (1, .int x1)]) hx hb d_A_fill_1 rfl hl (by decide) rfl (fun ls hl => ?_)
  refine lv_aload_n hx hb d_A_fill_2 rfl (lv_at hl 1 rfl) ?_
  refine wd_alen hx hb hK hP r0 0 ha0.1 ha0.2 rfl d_A_fill_3 ?_
  obtain ⟨v4, e4, h⟩ := ln h
  refine lv_nm e4 ?_
  refine lv_istore_n (lv' := [(3, .int v4), (2, .int 0), (0, .ref (b + r0)), (1, .int x1)]) hx hb d_A_fill_4 rfl hl (by decide) rfl (fun ls hl => ?_)
  exact w_A_fill_5 G ha0  1200 x1 0 v4 M _ _ _ hP hS (lv_sub hl [2, 3, 1, 0] rfl) h
theorem c_A_fill (l : Launch) (r0 : Nat) (n0 : Nat) (x1 : Int32) (M : Mm) (sz : Nat) (ha0 : r0 < N ∧ sh r0 = ia (dA 0) n0) {M' : Mm} (h : f_A_fill B C r0 n0 x1 M = some M') : Met l y_A_fill (wm y_A_fill k_A_fill 4 none) rm_A_fill (Pw (dC, dI) cls6 (tyl dA) b N sh [.ref (b + r0), .int x1] M sz) (Qwv (dC, dI) cls6 b N sh M' sz) 0 0 (reg b N sz) := by
  refine mk_met (by decide) (Nat.le_of_ble_eq_true rfl) ?_
  intro p e s m below meth c ls G hsz hP hS hl
  subst hsz
  exact w_A_fill_0 G ha0 _ _ ls hP hS hl h
end
abbrev rm_R_forget : Room := { frames := 1, cells := 0, slots := 0, locals := 23 }
def f_R_forget (B C : Nat) (r : Nat) (M : Mm) : Option (Mm) := (f_A_fill B C (r + 1) B (-1) M).bind (fun q5 => (f_A_fill B C (r + 2) B (-1) q5).bind (fun q13 => (f_A_fill B C (r + 3) B (-1) q13).bind (fun q21 => (f_A_fill B C (r + 4) B (-1) q21).bind (fun q29 => (f_A_fill B C (r + 5) B (-1) q29).bind (fun q37 => (f_A_fill B C (r + 6) 4 (-1) q37).bind (fun q45 => bnd (up2 q45 r 7 (-1)) (fun M50 => bnd (up2 M50 r 8 (-1)) (fun M55 => bnd (up2 M55 r 9 (-1)) (fun M60 => bnd (up2 M60 r 10 (-1)) (fun M65 => some M65))))))))))
section
variable {p : Program} {l : Launch} {e : Env} {s : State} {m : MethodId} {args : Array Value} {below : List Frame} {meth : Method} {c : Code} {dC : Nat → ClassId} {dI : Nat → Nat → Nat} {dA : Nat → ClassId} {b N B C : Nat} {sh : Shp}
set_option maxHeartbeats 4000000 in
set_option maxRecDepth 100000 in
theorem w_R_forget_0 {r : Nat} {M' : Mm} (G : Cx p s m args meth c (dC, dI) cls6 (tyl dA) "BankTimes$Rules" k_R_forget 1 none) {t : Nat} (hI : Is_F dA b N sh B C t r)   : ∀ (M : Mm) (ls : Array Slot), va_P (dC, dI) cls6 (wd b N sh M) s.heap → va_S (reg b N s.heap.size) s.heap s.heap [] → lv_has ls 1 [(0, .ref (b + r))] → f_R_forget B C r M = some M' → W p l e rm_R_forget s m args below meth c s.heap [] 0 0 (MQ below (Qwv (dC, dI) cls6 b N sh M' s.heap.size) args s 0 0 (reg b N s.heap.size)) (F0 m 0 ls []) := by
  obtain ⟨hx, hb, hml, hr, hown, hts, hlk, hK⟩ := id G
  intro M ls hP hS hl h
  unfold f_R_forget at h
  refine lv_aload_n hx hb d_R_forget_0 rfl (lv_at hl 0 rfl) ?_
  refine wd_getr hx hb hts i_R hown hK hP r hI.1 hI.2.1 rfl 1 (by decide) t_14 rfl d_R_forget_1 ?_
  refine lv_iconst (v := (-1)) hx hb d_R_forget_4 (by decide) ?_
  obtain ⟨q5, hc5, h⟩ := obd h
  refine wd_csv (As := [.ref (b + (r + 1)), .int (-1)]) (rest := []) ⟨hx, hb, hml, hown, hts⟩ hK hP hS (c_A_fill l (r + 1) B (-1) M _ ⟨hI.2.2.1.1, hI.2.2.1.2⟩ hc5) ⟨callB_of 2 hts (wm_good t_29) rfl rfl rfl (hts _ t_31) (hts _ t_28) (by decide +kernel) ⟨by decide, by decide⟩, hts _ t_30⟩ rfl hl.1 rfl (Nat.le_of_ble_eq_true rfl) d_R_forget_5 ⟨Nat.zero_le _, Nat.zero_le _⟩ (fun H locs hP hS => ?_)
  refine lv_aload_n hx hb d_R_forget_8 rfl (lv_at hl 0 rfl) ?_
  refine wd_getr hx hb hts i_R hown hK hP r hI.1 hI.2.1 rfl 2 (by decide) t_0 rfl d_R_forget_9 ?_
  refine lv_iconst (v := (-1)) hx hb d_R_forget_12 (by decide) ?_
  obtain ⟨q13, hc13, h⟩ := obd h
  refine wd_csv (As := [.ref (b + (r + 2)), .int (-1)]) (rest := []) ⟨hx, hb, hml, hown, hts⟩ hK hP hS (c_A_fill l (r + 2) B (-1) q5 _ ⟨hI.2.2.2.1.1, hI.2.2.2.1.2⟩ hc13) ⟨callB_of 2 hts (wm_good t_29) rfl rfl rfl (hts _ t_31) (hts _ t_28) (by decide +kernel) ⟨by decide, by decide⟩, hts _ t_30⟩ rfl hl.1 rfl (Nat.le_of_ble_eq_true rfl) d_R_forget_13 ⟨Nat.zero_le _, Nat.zero_le _⟩ (fun H locs hP hS => ?_)
  refine lv_aload_n hx hb d_R_forget_16 rfl (lv_at hl 0 rfl) ?_
  refine wd_getr hx hb hts i_R hown hK hP r hI.1 hI.2.1 rfl 3 (by decide) t_2 rfl d_R_forget_17 ?_
  refine lv_iconst (v := (-1)) hx hb d_R_forget_20 (by decide) ?_
  obtain ⟨q21, hc21, h⟩ := obd h
  refine wd_csv (As := [.ref (b + (r + 3)), .int (-1)]) (rest := []) ⟨hx, hb, hml, hown, hts⟩ hK hP hS (c_A_fill l (r + 3) B (-1) q13 _ ⟨hI.2.2.2.2.1.1, hI.2.2.2.2.1.2⟩ hc21) ⟨callB_of 2 hts (wm_good t_29) rfl rfl rfl (hts _ t_31) (hts _ t_28) (by decide +kernel) ⟨by decide, by decide⟩, hts _ t_30⟩ rfl hl.1 rfl (Nat.le_of_ble_eq_true rfl) d_R_forget_21 ⟨Nat.zero_le _, Nat.zero_le _⟩ (fun H locs hP hS => ?_)
  refine lv_aload_n hx hb d_R_forget_24 rfl (lv_at hl 0 rfl) ?_
  refine wd_getr hx hb hts i_R hown hK hP r hI.1 hI.2.1 rfl 4 (by decide) t_5 rfl d_R_forget_25 ?_
  refine lv_iconst (v := (-1)) hx hb d_R_forget_28 (by decide) ?_
  obtain ⟨q29, hc29, h⟩ := obd h
  refine wd_csv (As := [.ref (b + (r + 4)), .int (-1)]) (rest := []) ⟨hx, hb, hml, hown, hts⟩ hK hP hS (c_A_fill l (r + 4) B (-1) q21 _ ⟨hI.2.2.2.2.2.1.1, hI.2.2.2.2.2.1.2⟩ hc29) ⟨callB_of 2 hts (wm_good t_29) rfl rfl rfl (hts _ t_31) (hts _ t_28) (by decide +kernel) ⟨by decide, by decide⟩, hts _ t_30⟩ rfl hl.1 rfl (Nat.le_of_ble_eq_true rfl) d_R_forget_29 ⟨Nat.zero_le _, Nat.zero_le _⟩ (fun H locs hP hS => ?_)
  refine lv_aload_n hx hb d_R_forget_32 rfl (lv_at hl 0 rfl) ?_
  refine wd_getr hx hb hts i_R hown hK hP r hI.1 hI.2.1 rfl 5 (by decide) t_1 rfl d_R_forget_33 ?_
  refine lv_iconst (v := (-1)) hx hb d_R_forget_36 (by decide) ?_
  obtain ⟨q37, hc37, h⟩ := obd h
  refine wd_csv (As := [.ref (b + (r + 5)), .int (-1)]) (rest := []) ⟨hx, hb, hml, hown, hts⟩ hK hP hS (c_A_fill l (r + 5) B (-1) q29 _ ⟨hI.2.2.2.2.2.2.1.1, hI.2.2.2.2.2.2.1.2⟩ hc37) ⟨callB_of 2 hts (wm_good t_29) rfl rfl rfl (hts _ t_31) (hts _ t_28) (by decide +kernel) ⟨by decide, by decide⟩, hts _ t_30⟩ rfl hl.1 rfl (Nat.le_of_ble_eq_true rfl) d_R_forget_37 ⟨Nat.zero_le _, Nat.zero_le _⟩ (fun H locs hP hS => ?_)
  refine lv_aload_n hx hb d_R_forget_40 rfl (lv_at hl 0 rfl) ?_
  refine wd_getr hx hb hts i_R hown hK hP r hI.1 hI.2.1 rfl 6 (by decide) t_6 rfl d_R_forget_41 ?_
  refine lv_iconst (v := (-1)) hx hb d_R_forget_44 (by decide) ?_
  obtain ⟨q45, hc45, h⟩ := obd h
  refine wd_csv (As := [.ref (b + (r + 6)), .int (-1)]) (rest := []) ⟨hx, hb, hml, hown, hts⟩ hK hP hS (c_A_fill l (r + 6) 4 (-1) q37 _ ⟨hI.2.2.2.2.2.2.2.1, hI.2.2.2.2.2.2.2.2⟩ hc45) ⟨callB_of 2 hts (wm_good t_29) rfl rfl rfl (hts _ t_31) (hts _ t_28) (by decide +kernel) ⟨by decide, by decide⟩, hts _ t_30⟩ rfl hl.1 rfl (Nat.le_of_ble_eq_true rfl) d_R_forget_45 ⟨Nat.zero_le _, Nat.zero_le _⟩ (fun H locs hP hS => ?_)
  refine lv_aload_n hx hb d_R_forget_48 rfl (lv_at hl 0 rfl) ?_
  refine lv_iconst (v := (-1)) hx hb d_R_forget_49 (by decide) ?_
  obtain ⟨M50, eM50, h⟩ := ln h
  refine wd_puti hx hb hts i_R ty_R tyok_R nm_R hown hK hP hS r hI.1 hI.2.1 rfl 7 (by decide) t_3 rfl rfl (ty := .int) (by decide +kernel) rfl rfl d_R_forget_50 (fun H locs hP hS => ?_)
  rw [← eM50] at hP
  refine lv_aload_n hx hb d_R_forget_53 rfl (lv_at hl 0 rfl) ?_
  refine lv_iconst (v := (-1)) hx hb d_R_forget_54 (by decide) ?_
  obtain ⟨M55, eM55, h⟩ := ln h
  refine wd_puti hx hb hts i_R ty_R tyok_R nm_R hown hK hP hS r hI.1 hI.2.1 rfl 8 (by decide) t_4 rfl rfl (ty := .int) (by decide +kernel) rfl rfl d_R_forget_55 (fun H locs hP hS => ?_)
  rw [← eM55] at hP
  refine lv_aload_n hx hb d_R_forget_58 rfl (lv_at hl 0 rfl) ?_
  refine lv_iconst (v := (-1)) hx hb d_R_forget_59 (by decide) ?_
  obtain ⟨M60, eM60, h⟩ := ln h
  refine wd_puti hx hb hts i_R ty_R tyok_R nm_R hown hK hP hS r hI.1 hI.2.1 rfl 9 (by decide) t_7 rfl rfl (ty := .int) (by decide +kernel) rfl rfl d_R_forget_60 (fun H locs hP hS => ?_)
  rw [← eM60] at hP
  refine lv_aload_n hx hb d_R_forget_63 rfl (lv_at hl 0 rfl) ?_
  refine lv_iconst (v := (-1)) hx hb d_R_forget_64 (by decide) ?_
  obtain ⟨M65, eM65, h⟩ := ln h
  refine wd_puti hx hb hts i_R ty_R tyok_R nm_R hown hK hP hS r hI.1 hI.2.1 rfl 10 (by decide) t_23 rfl rfl (ty := .int) (by decide +kernel) rfl rfl d_R_forget_65 (fun H locs hP hS => ?_)
  rw [← eM65] at hP
  obtain rfl := oe h
  exact wd_vret hx hb hr hlk hP hS d_R_forget_68
theorem c_R_forget (l : Launch) (r : Nat) (M : Mm) (sz : Nat) {t : Nat} (hI : Is_F dA b N sh B C t r) {M' : Mm} (h : f_R_forget B C r M = some M') : Met l y_R_forget (wm y_R_forget k_R_forget 1 none) rm_R_forget (Pw (dC, dI) cls6 (tyl dA) b N sh [.ref (b + r)] M sz) (Qwv (dC, dI) cls6 b N sh M' sz) 0 0 (reg b N sz) := by
  refine mk_met (by decide) (Nat.le_of_ble_eq_true rfl) ?_
  intro p e s m below meth c ls G hsz hP hS hl
  subst hsz
  exact w_R_forget_0 G hI _ ls hP hS hl h
end
