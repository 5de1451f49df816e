abbrev rm_C_nextKind : Room := { frames := 0, cells := 0, slots := 0, locals := 0 }
def f_C_nextKind (B C : Nat) (r : Nat) (x1 : Int32) (M : Mm) : Option (Int32) := (if ixb x1 8 = true then (if ixb (M ((r + 8) + 3) x1.toNatClampNeg) B = true then bnd (M ((r + 1) + 1) (M ((r + 8) + 3) x1.toNatClampNeg).toNatClampNeg) (fun v17 => (if v17 = (-1) then some 0 else (if ixb x1 8 = true then (if v17 = (M ((r + 8) + 4) x1.toNatClampNeg) then (if ixb x1 8 = true then (if (M ((r + 8) + 5) x1.toNatClampNeg) = 0 then some 1 else some 2) else none) else some 3) else none))) else none) else none)
section
variable {p : Program} {l : Launch} {e : Env} {s : State} {m : MethodId} {args : Array Value} {below : List Frame} {meth : Method} {c : Code} {dC : Nat → ClassId} {dI : Nat → Nat → Nat} {dA : Nat → ClassId} {b N B C : Nat} {sh : Shp}
set_option maxHeartbeats 4000000 in
set_option maxRecDepth 100000 in
theorem w_C_nextKind_0 {r : Nat} {rv : Int32} (G : Cx p s m args meth c (dC, dI) cls6 (tyl dA) "BankTimes$Channel" k_C_nextKind 3 (some .int)) (hI : Is_C dA b N sh B C r)   : ∀ (x1 : Int32) (M : Mm) (ls : Array Slot), va_P (dC, dI) cls6 (wd b N sh M) s.heap → va_S (reg b N s.heap.size) s.heap s.heap [] → lv_has ls 3 [(0, .ref (b + r)), (1, .int x1)] → f_C_nextKind B C r x1 M = some rv → W p l e rm_C_nextKind s m args below meth c s.heap [] 0 0 (MQ below (Qro rv) args s 0 0 nofree) (F0 m 0 ls []) := by
  obtain ⟨hx, hb, hml, hr, hown, hts, hlk, hK⟩ := id G
  intro x1 M ls hP hS hl h
  unfold f_C_nextKind at h
  refine lv_aload_n hx hb d_C_nextKind_0 rfl (lv_at hl 0 rfl) ?_
  refine wd_getr hx hb hts i_C hown hK hP r hI.1 hI.2.1 rfl 0 (by decide) t_49 rfl d_C_nextKind_1 ?_
  refine wd_getr hx hb hts i_R hown hK hP (r + 1) hI.2.2.1.1 hI.2.2.1.2.1 rfl 1 (by decide) t_50 rfl d_C_nextKind_4 ?_
  refine lv_aload_n hx hb d_C_nextKind_7 rfl (lv_at hl 0 rfl) ?_
  refine wd_getr hx hb hts i_C hown hK hP r hI.1 hI.2.1 rfl 1 (by decide) t_51 rfl d_C_nextKind_8 ?_
  refine wd_getr hx hb hts i_Q hown hK hP (r + 8) hI.2.2.2.1 hI.2.2.2.2.1 rfl 2 (by decide) t_52 rfl d_C_nextKind_11 ?_
  refine lv_iload_n hx hb d_C_nextKind_14 rfl (lv_at hl 1 rfl) ?_
  obtain ⟨hi15, h⟩ := og h
  refine wd_iald hx hb hK hP ((r + 8) + 3) 0 hI.2.2.2.2.2.2.2.1.1 hI.2.2.2.2.2.2.2.1.2 rfl hi15 d_C_nextKind_15 ?_
  obtain ⟨hi16, h⟩ := og h
  refine wd_iald hx hb hK hP ((r + 1) + 1) 0 hI.2.2.1.2.2.2.1.1 hI.2.2.1.2.2.2.1.2 rfl hi16 d_C_nextKind_16 ?_
  obtain ⟨v17, e17, h⟩ := ln h
  refine lv_nm e17 ?_
  refine lv_istore_n (lv' := [(2, .int v17), (0, .ref (b + r)), (1, .int x1)]) hx hb d_C_nextKind_17 rfl hl (by decide) rfl (fun ls hl => ?_)
  refine lv_iload_n hx hb d_C_nextKind_18 rfl (lv_at hl 0 rfl) ?_
  refine lv_iconst (v := (-1)) hx hb d_C_nextKind_19 (by decide) ?_
  refine lv_icmp_ne (tgt := 25) hx hb d_C_nextKind_20 (by decide) (fun c20 => ?_) (fun c20 => ?_)
  · replace h := ogf c20 h
    refine lv_iload_n hx hb d_C_nextKind_25 rfl (lv_at hl 0 rfl) ?_
    refine lv_aload_n hx hb d_C_nextKind_26 rfl (lv_at hl 1 rfl) ?_
    refine wd_getr hx hb hts i_C hown hK hP r hI.1 hI.2.1 rfl 1 (by decide) t_51 rfl d_C_nextKind_27 ?_
    refine wd_getr hx hb hts i_Q hown hK hP (r + 8) hI.2.2.2.1 hI.2.2.2.2.1 rfl 3 (by decide) t_53 rfl d_C_nextKind_30 ?_
    refine lv_iload_n hx hb d_C_nextKind_33 rfl (lv_at hl 2 rfl) ?_
    obtain ⟨hi34, h⟩ := og h
    refine wd_iald hx hb hK hP ((r + 8) + 4) 0 hI.2.2.2.2.2.2.2.2.1.1 hI.2.2.2.2.2.2.2.2.1.2 rfl hi34 d_C_nextKind_34 ?_
    refine lv_icmp_eq (tgt := 40) hx hb d_C_nextKind_35 (by decide) (fun c35 => ?_) (fun c35 => ?_)
    · replace h := ogt c35 h
      refine lv_aload_n hx hb d_C_nextKind_40 rfl (lv_at hl 1 rfl) ?_
      refine wd_getr hx hb hts i_C hown hK hP r hI.1 hI.2.1 rfl 1 (by decide) t_51 rfl d_C_nextKind_41 ?_
      refine wd_getr hx hb hts i_Q hown hK hP (r + 8) hI.2.2.2.1 hI.2.2.2.2.1 rfl 4 (by decide) t_54 rfl d_C_nextKind_44 ?_
      refine lv_iload_n hx hb d_C_nextKind_47 rfl (lv_at hl 2 rfl) ?_
      obtain ⟨hi48, h⟩ := og h
      refine wd_zald hx hb hK hP ((r + 8) + 5) 1 hI.2.2.2.2.2.2.2.2.2.1 hI.2.2.2.2.2.2.2.2.2.2 rfl hi48 d_C_nextKind_48 ?_
      refine lv_if_eq (tgt := 56) hx hb d_C_nextKind_49 (by decide) (fun c49 => ?_) (fun c49 => ?_)
      · replace h := ogt c49 h
        refine lv_iconst (v := 1) hx hb d_C_nextKind_56 (by decide) ?_
        obtain rfl := oe h
        exact wd_iret0 hx hb hr hlk d_C_nextKind_57
      · replace h := ogf c49 h
        refine lv_iconst (v := 2) hx hb d_C_nextKind_52 (by decide) ?_
        refine lv_goto (tgt := 57) hx hb d_C_nextKind_53 (by decide) ?_
        obtain rfl := oe h
        exact wd_iret0 hx hb hr hlk d_C_nextKind_57
    · replace h := ogf c35 h
      refine lv_iconst (v := 3) hx hb d_C_nextKind_38 (by decide) ?_
      obtain rfl := oe h
      exact wd_iret0 hx hb hr hlk d_C_nextKind_39
  · replace h := ogt c20 h
    refine lv_iconst (v := 0) hx hb d_C_nextKind_23 (by decide) ?_
    obtain rfl := oe h
    exact wd_iret0 hx hb hr hlk d_C_nextKind_24
theorem c_C_nextKind (l : Launch) (r : Nat) (x1 : Int32) (M : Mm) (sz : Nat) (hI : Is_C dA b N sh B C r) {rv : Int32} (h : f_C_nextKind B C r x1 M = some rv) : Met l y_C_nextKind (wm y_C_nextKind k_C_nextKind 3 (some .int)) rm_C_nextKind (Pw (dC, dI) cls6 (tyl dA) b N sh [.ref (b + r), .int x1] M sz) (Qro rv) 0 0 nofree := by
  refine mk_met (by decide) (Nat.le_of_ble_eq_true rfl) ?_
  intro p e s m below meth c ls G hsz hP hS hl
  subst hsz
  exact w_C_nextKind_0 G hI _ _ ls hP hS hl h
end
abbrev rm_C_isReady : Room := { frames := 2, cells := 0, slots := 0, locals := 49 }
def f_C_isReady (B C : Nat) (r : Nat) (x1 x2 : Int32) (M : Mm) : Option (Int32) := (f_C_nextKind B C r x1 M).bind (fun q7 => (if ixb x1 8 = true then (f_R_brokenTime B C (r + 1) x2 q7 (M ((r + 8) + 3) x1.toNatClampNeg) M).bind (fun q19 => (if q19 = (-1) then some 1 else some 0)) else none))
section
variable {p : Program} {l : Launch} {e : Env} {s : State} {m : MethodId} {args : Array Value} {below : List Frame} {meth : Method} {c : Code} {dC : Nat → ClassId} {dI : Nat → Nat → Nat} {dA : Nat → ClassId} {b N B C : Nat} {sh : Shp}
set_option maxHeartbeats 4000000 in
set_option maxRecDepth 100000 in
theorem w_C_isReady_0 {r : Nat} {rv : Int32} (G : Cx p s m args meth c (dC, dI) cls6 (tyl dA) "BankTimes$Channel" k_C_isReady 3 (some .boolean)) (hI : Is_C dA b N sh B C r)   : ∀ (x1 x2 : Int32) (M : Mm) (ls : Array Slot), va_P (dC, dI) cls6 (wd b N sh M) s.heap → va_S (reg b N s.heap.size) s.heap s.heap [] → lv_has ls 3 [(0, .ref (b + r)), (1, .int x1), (2, .int x2)] → f_C_isReady B C r x1 x2 M = some rv → W p l e rm_C_isReady s m args below meth c s.heap [] 0 0 (MQ below (Qro rv) args s 0 0 nofree) (F0 m 0 ls []) := by
  obtain ⟨hx, hb, hml, hr, hown, hts, hlk, hK⟩ := id G
  intro x1 x2 M ls hP hS hl h
  unfold f_C_isReady at h
  refine lv_aload_n hx hb d_C_isReady_0 rfl (lv_at hl 0 rfl) ?_
  refine wd_getr hx hb hts i_C hown hK hP r hI.1 hI.2.1 rfl 0 (by decide) t_49 rfl d_C_isReady_1 ?_
  refine lv_iload_n hx hb d_C_isReady_4 rfl (lv_at hl 2 rfl) ?_
  refine lv_aload_n hx hb d_C_isReady_5 rfl (lv_at hl 0 rfl) ?_
  refine lv_iload_n hx hb d_C_isReady_6 rfl (lv_at hl 1 rfl) ?_
  obtain ⟨q7, hc7, h⟩ := obd h
  refine wd_cvr (As := [.int x1]) (rest := [.int x2, .ref (b + (r + 1))]) ⟨hx, hb, hml, hown, hts⟩ hK hP r hI.1 hI.2.1 rfl (c_C_nextKind l r x1 M _ hI hc7) (cwV 1 hts (wmV t_55 t_57 t_58 t_59 t_56) rfl rfl rfl (by decide +kernel) ⟨by decide, by decide⟩) rfl hl.1 rfl (Nat.le_of_ble_eq_true rfl) d_C_isReady_7 ⟨Nat.zero_le _, Nat.zero_le _⟩ ?_
  refine lv_aload_n hx hb d_C_isReady_10 rfl (lv_at hl 0 rfl) ?_
  refine wd_getr hx hb hts i_C hown hK hP r hI.1 hI.2.1 rfl 1 (by decide) t_51 rfl d_C_isReady_11 ?_
  refine wd_getr hx hb hts i_Q hown hK hP (r + 8) hI.2.2.2.1 hI.2.2.2.2.1 rfl 2 (by decide) t_52 rfl d_C_isReady_14 ?_
  refine lv_iload_n hx hb d_C_isReady_17 rfl (lv_at hl 1 rfl) ?_
  obtain ⟨hi18, h⟩ := og h
  refine wd_iald hx hb hK hP ((r + 8) + 3) 0 hI.2.2.2.2.2.2.2.1.1 hI.2.2.2.2.2.2.2.1.2 rfl hi18 d_C_isReady_18 ?_
  obtain ⟨q19, hc19, h⟩ := obd h
  refine wd_cvr (As := [.int x2, .int q7, .int (M ((r + 8) + 3) x1.toNatClampNeg)]) (rest := []) ⟨hx, hb, hml, hown, hts⟩ hK hP (r + 1) hI.2.2.1.1 hI.2.2.1.2.1 rfl (c_R_brokenTime l (r + 1) x2 q7 (M ((r + 8) + 3) x1.toNatClampNeg) M _ hI.2.2.1 hc19) (cwV 3 hts (wmV t_60 t_17 t_18 t_13 t_16) rfl rfl rfl (by decide +kernel) ⟨by decide, by decide⟩) rfl hl.1 rfl (Nat.le_of_ble_eq_true rfl) d_C_isReady_19 ⟨Nat.zero_le _, Nat.zero_le _⟩ ?_
  refine lv_iconst (v := (-1)) hx hb d_C_isReady_22 (by decide) ?_
  refine lv_icmp_ne (tgt := 30) hx hb d_C_isReady_23 (by decide) (fun c23 => ?_) (fun c23 => ?_)
  · replace h := ogf c23 h
    refine lv_iconst (v := 0) hx hb d_C_isReady_30 (by decide) ?_
    obtain rfl := oe h
    exact wd_zret0 hx hb hr rfl hlk d_C_isReady_31
  · replace h := ogt c23 h
    refine lv_iconst (v := 1) hx hb d_C_isReady_26 (by decide) ?_
    refine lv_goto (tgt := 31) hx hb d_C_isReady_27 (by decide) ?_
    obtain rfl := oe h
    exact wd_zret0 hx hb hr rfl hlk d_C_isReady_31
theorem c_C_isReady (l : Launch) (r : Nat) (x1 x2 : Int32) (M : Mm) (sz : Nat) (hI : Is_C dA b N sh B C r) {rv : Int32} (h : f_C_isReady B C r x1 x2 M = some rv) : Met l y_C_isReady (wm y_C_isReady k_C_isReady 3 (some .boolean)) rm_C_isReady (Pw (dC, dI) cls6 (tyl dA) b N sh [.ref (b + r), .int x1, .int x2] M sz) (Qro rv) 0 0 nofree := by
  refine mk_met (by decide) (Nat.le_of_ble_eq_true rfl) ?_
  intro p e s m below meth c ls G hsz hP hS hl
  subst hsz
  exact w_C_isReady_0 G hI _ _ _ ls hP hS hl h
end
abbrev rm_C_isAmong : Room := { frames := 0, cells := 0, slots := 0, locals := 0 }
def B_C_isAmong_26 (B C : Nat) (r : Nat) (M : Mm) : Option (Int32) := some 1
def B_C_isAmong_23 (B C : Nat) (r : Nat) (s0 s1 : Int32) (M : Mm) : Option (Int32) := (if s0 = s1 then B_C_isAmong_26 B C r M else some 0)
def f_C_isAmong (B C : Nat) (r : Nat) (x1 x2 : Int32) (M : Mm) : Option (Int32) := (if x2 = 0 then B_C_isAmong_26 B C r M else (if ixb x1 8 = true then (if x2 = 2 then B_C_isAmong_23 B C r (M ((r + 8) + 5) x1.toNatClampNeg) 1 M else B_C_isAmong_23 B C r (M ((r + 8) + 5) x1.toNatClampNeg) 0 M) else none))
section
variable {p : Program} {l : Launch} {e : Env} {s : State} {m : MethodId} {args : Array Value} {below : List Frame} {meth : Method} {c : Code} {dC : Nat → ClassId} {dI : Nat → Nat → Nat} {dA : Nat → ClassId} {b N B C : Nat} {sh : Shp}
set_option maxHeartbeats 4000000 in
set_option maxRecDepth 100000 in
theorem w_C_isAmong_26 {r : Nat} {rv : Int32} (G : Cx p s m args meth c (dC, dI) cls6 (tyl dA) "BankTimes$Channel" k_C_isAmong 3 (some .boolean)) (hI : Is_C dA b N sh B C r)   : ∀ (M : Mm) (ls : Array Slot), va_P (dC, dI) cls6 (wd b N sh M) s.heap → va_S (reg b N s.heap.size) s.heap s.heap [] → lv_has ls 3 [] → B_C_isAmong_26 B C r M = some rv → W p l e rm_C_isAmong s m args below meth c s.heap [] 0 0 (MQ below (Qro rv) args s 0 0 nofree) (F0 m 26 ls []) := by
  obtain ⟨hx, hb, hml, hr, hown, hts, hlk, hK⟩ := id G
  intro M ls hP hS hl h
  unfold B_C_isAmong_26 at h
  refine lv_iconst (v := 1) hx hb d_C_isAmong_26 (by decide) ?_
  refine lv_goto (tgt := 31) hx hb d_C_isAmong_27 (by decide) ?_
  obtain rfl := oe h
  exact wd_zret0 hx hb hr rfl hlk d_C_isAmong_31
set_option maxHeartbeats 4000000 in
set_option maxRecDepth 100000 in
theorem w_C_isAmong_23 {r : Nat} {rv : Int32} (G : Cx p s m args meth c (dC, dI) cls6 (tyl dA) "BankTimes$Channel" k_C_isAmong 3 (some .boolean)) (hI : Is_C dA b N sh B C r)   : ∀ (s0 s1 : Int32) (M : Mm) (ls : Array Slot), va_P (dC, dI) cls6 (wd b N sh M) s.heap → va_S (reg b N s.heap.size) s.heap s.heap [] → lv_has ls 3 [] → B_C_isAmong_23 B C r s0 s1 M = some rv → W p l e rm_C_isAmong s m args below meth c s.heap [] 0 0 (MQ below (Qro rv) args s 0 0 nofree) (F0 m 23 ls [.int s1, .int s0]) := by
  obtain ⟨hx, hb, hml, hr, hown, hts, hlk, hK⟩ := id G
  intro s0 s1 M ls hP hS hl h
  unfold B_C_isAmong_23 at h
  refine lv_icmp_ne (tgt := 30) hx hb d_C_isAmong_23 (by decide) (fun c23 => ?_) (fun c23 => ?_)
  · replace h := ogf c23 h
    refine lv_iconst (v := 0) hx hb d_C_isAmong_30 (by decide) ?_
    obtain rfl := oe h
    exact wd_zret0 hx hb hr rfl hlk d_C_isAmong_31
  · replace h := ogt c23 h
    exact w_C_isAmong_26 G hI  M _ hP hS (lv_sub hl [] rfl) h
set_option maxHeartbeats 4000000 in
set_option maxRecDepth 100000 in
theorem w_C_isAmong_0 {r : Nat} {rv : Int32} (G : Cx p s m args meth c (dC, dI) cls6 (tyl dA) "BankTimes$Channel" k_C_isAmong 3 (some .boolean)) (hI : Is_C dA b N sh B C r)   : ∀ (x1 x2 : Int32) (M : Mm) (ls : Array Slot), va_P (dC, dI) cls6 (wd b N sh M) s.heap → va_S (reg b N s.heap.size) s.heap s.heap [] → lv_has ls 3 [(0, .ref (b + r)), (1, .int x1), (2, .int x2)] → f_C_isAmong B C r x1 x2 M = some rv → W p l e rm_C_isAmong s m args below meth c s.heap [] 0 0 (MQ below (Qro rv) args s 0 0 nofree) (F0 m 0 ls []) := by
  obtain ⟨hx, hb, hml, hr, hown, hts, hlk, hK⟩ := id G
  intro x1 x2 M ls hP hS hl h
  unfold f_C_isAmong at h
  refine lv_iload_n hx hb d_C_isAmong_0 rfl (lv_at hl 2 rfl) ?_
  refine lv_if_eq (tgt := 26) hx hb d_C_isAmong_1 (by decide) (fun c1 => ?_) (fun c1 => ?_)
  · replace h := ogt c1 h
    exact w_C_isAmong_26 G hI  M _ hP hS (lv_sub hl [] rfl) h
  · replace h := ogf c1 h
    refine lv_aload_n hx hb d_C_isAmong_4 rfl (lv_at hl 0 rfl) ?_
    refine wd_getr hx hb hts i_C hown hK hP r hI.1 hI.2.1 rfl 1 (by decide) t_51 rfl d_C_isAmong_5 ?_
    refine wd_getr hx hb hts i_Q hown hK hP (r + 8) hI.2.2.2.1 hI.2.2.2.2.1 rfl 4 (by decide) t_54 rfl d_C_isAmong_8 ?_
    refine lv_iload_n hx hb d_C_isAmong_11 rfl (lv_at hl 1 rfl) ?_
    obtain ⟨hi12, h⟩ := og h
    refine wd_zald hx hb hK hP ((r + 8) + 5) 1 hI.2.2.2.2.2.2.2.2.2.1 hI.2.2.2.2.2.2.2.2.2.2 rfl hi12 d_C_isAmong_12 ?_
    refine lv_iload_n hx hb d_C_isAmong_13 rfl (lv_at hl 2 rfl) ?_
    refine lv_iconst (v := 2) hx hb d_C_isAmong_14 (by decide) ?_
    refine lv_icmp_ne (tgt := 22) hx hb d_C_isAmong_15 (by decide) (fun c15 => ?_) (fun c15 => ?_)
    · replace h := ogf c15 h
      refine lv_iconst (v := 0) hx hb d_C_isAmong_22 (by decide) ?_
      exact w_C_isAmong_23 G hI  (M ((r + 8) + 5) x1.toNatClampNeg) 0 M _ hP hS (lv_sub hl [] rfl) h
    · replace h := ogt c15 h
      refine lv_iconst (v := 1) hx hb d_C_isAmong_18 (by decide) ?_
      refine lv_goto (tgt := 23) hx hb d_C_isAmong_19 (by decide) ?_
      exact w_C_isAmong_23 G hI  (M ((r + 8) + 5) x1.toNatClampNeg) 1 M _ hP hS (lv_sub hl [] rfl) h
theorem c_C_isAmong (l : Launch) (r : Nat) (x1 x2 : Int32) (M : Mm) (sz : Nat) (hI : Is_C dA b N sh B C r) {rv : Int32} (h : f_C_isAmong B C r x1 x2 M = some rv) : Met l y_C_isAmong (wm y_C_isAmong k_C_isAmong 3 (some .boolean)) rm_C_isAmong (Pw (dC, dI) cls6 (tyl dA) b N sh [.ref (b + r), .int x1, .int x2] M sz) (Qro rv) 0 0 nofree := by
  refine mk_met (by decide) (Nat.le_of_ble_eq_true rfl) ?_
  intro p e s m below meth c ls G hsz hP hS hl
  subst hsz
  exact w_C_isAmong_0 G hI _ _ _ ls hP hS hl h
end
abbrev rm_C_openRowIsWanted : Room := { frames := 1, cells := 0, slots := 0, locals := 22 }
def B_C_openRowIsWanted_58 (B C : Nat) (r : Nat) (K2 : Int32 → Int32 → Int32 → Mm → Option (Int32)) (x1 x2 x3 : Int32) (M : Mm) : Option (Int32) := bnd (x3 + 1) (fun v58 => K2 x1 x2 v58 M)
def B_C_openRowIsWanted_2 (B C : Nat) (r : Nat) : Nat → Int32 → Int32 → Int32 → Mm → Option (Int32)
  | 0, _, _, _, _ => none
  | n + 1, x1, x2, x3, M => (if (M (r + 8) 5) ≤ x3 then some 0 else (f_C_isAmong B C r x3 x2 M).bind (fun q16 => (if q16 = 0 then B_C_openRowIsWanted_58 B C r (fun y0 y1 y2 M => B_C_openRowIsWanted_2 B C r n y0 y1 y2 M) x1 x2 x3 M else (if ixb x3 8 = true then (if (M ((r + 8) + 3) x3.toNatClampNeg) = x1 then (if ixb x3 8 = true then (if ixb x1 B = true then (if (M ((r + 8) + 4) x3.toNatClampNeg) = (M ((r + 1) + 1) x1.toNatClampNeg) then some 1 else B_C_openRowIsWanted_58 B C r (fun y0 y1 y2 M => B_C_openRowIsWanted_2 B C r n y0 y1 y2 M) x1 x2 x3 M) else none) else none) else B_C_openRowIsWanted_58 B C r (fun y0 y1 y2 M => B_C_openRowIsWanted_2 B C r n y0 y1 y2 M) x1 x2 x3 M) else none))))
def f_C_openRowIsWanted (B C : Nat) (r : Nat) (x1 x2 : Int32) (M : Mm) : Option (Int32) := B_C_openRowIsWanted_2 B C r 1200 x1 x2 0 M
section
variable {p : Program} {l : Launch} {e : Env} {s : State} {m : MethodId} {args : Array Value} {below : List Frame} {meth : Method} {c : Code} {dC : Nat → ClassId} {dI : Nat → Nat → Nat} {dA : Nat → ClassId} {b N B C : Nat} {sh : Shp}
set_option maxHeartbeats 4000000 in
set_option maxRecDepth 100000 in
theorem w_C_openRowIsWanted_58 {r : Nat} {rv : Int32} (G : Cx p s m args meth c (dC, dI) cls6 (tyl dA) "BankTimes$Channel" k_C_openRowIsWanted 4 (some .boolean)) (hI : Is_C dA b N sh B C r)  {K2 : Int32 → Int32 → Int32 → Mm → Option (Int32)} (hK2 : ∀ (x1 x2 x3 : Int32) (M : Mm) (ls : Array Slot), va_P (dC, dI) cls6 (wd b N sh M) s.heap → va_S (reg b N s.heap.size) s.heap s.heap [] → lv_has ls 4 [(0, .ref (b + r)), (1, .int x1), (2, .int x2), (3, .int x3)] → K2 x1 x2 x3 M = some rv → W p l e rm_C_openRowIsWanted s m args below meth c s.heap [] 0 0 (MQ below (Qro rv) args s 0 0 nofree) (F0 m 2 ls []))  : ∀ (x1 x2 x3 : Int32) (M : Mm) (ls : Array Slot), va_P (dC, dI) cls6 (wd b N sh M) s.heap → va_S (reg b N s.heap.size) s.heap s.heap [] → lv_has ls 4 [(0, .ref (b + r)), (1, .int x1), (2, .int x2), (3, .int x3)] → B_C_openRowIsWanted_58 B C r K2 x1 x2 x3 M = some rv → W p l e rm_C_openRowIsWanted s m args below meth c s.heap [] 0 0 (MQ below (Qro rv) args s 0 0 nofree) (F0 m 58 ls []) := by
  obtain ⟨hx, hb, hml, hr, hown, hts, hlk, hK⟩ := id G
  intro x1 x2 x3 M ls hP hS hl h
  unfold B_C_openRowIsWanted_58 at h
  obtain ⟨v58, e58, h⟩ := ln h
  refine lv_iinc (v := v58) (lv' := [(3, .int v58), (0, .ref (b + r)), (1, .int x1), (2, .int x2)]) hx hb d_C_openRowIsWanted_58 hl (k := 3) rfl (by rw [e58]; rfl) (by decide) rfl (fun ls hl => ?_)
  refine lv_goto (tgt := 2) hx hb d_C_openRowIsWanted_61 (by decide) ?_
  exact hK2 x1 x2 v58 M _ hP hS (lv_sub hl [1, 2, 3, 0] rfl) h
set_option maxHeartbeats 4000000 in
set_option maxRecDepth 100000 in
theorem w_C_openRowIsWanted_2 {r : Nat} {rv : Int32} (G : Cx p s m args meth c (dC, dI) cls6 (tyl dA) "BankTimes$Channel" k_C_openRowIsWanted 4 (some .boolean)) (hI : Is_C dA b N sh B C r)   : ∀ (n : Nat) (x1 x2 x3 : Int32) (M : Mm) (ls : Array Slot), va_P (dC, dI) cls6 (wd b N sh M) s.heap → va_S (reg b N s.heap.size) s.heap s.heap [] → lv_has ls 4 [(0, .ref (b + r)), (1, .int x1), (2, .int x2), (3, .int x3)] → B_C_openRowIsWanted_2 B C r n x1 x2 x3 M = some rv → W p l e rm_C_openRowIsWanted s m args below meth c s.heap [] 0 0 (MQ below (Qro rv) args s 0 0 nofree) (F0 m 2 ls []) := by
  obtain ⟨hx, hb, hml, hr, hown, hts, hlk, hK⟩ := id G
  intro n
  induction n with
  | zero =>
    intro x1 x2 x3 M ls hP hS hl h
    cases h
  | succ n ih =>
    intro x1 x2 x3 M ls hP hS hl h
    rw [B_C_openRowIsWanted_2] at h
    refine lv_iload_n hx hb d_C_openRowIsWanted_2 rfl (lv_at hl 3 rfl) ?_
    refine lv_aload_n hx hb d_C_openRowIsWanted_3 rfl (lv_at hl 0 rfl) ?_
    refine wd_getr hx hb hts i_C hown hK hP r hI.1 hI.2.1 rfl 1 (by decide) t_51 rfl d_C_openRowIsWanted_4 ?_
    refine wd_geti hx hb hts i_Q hown hK hP (r + 8) hI.2.2.2.1 hI.2.2.2.2.1 rfl 5 (by decide) t_61 rfl d_C_openRowIsWanted_7 ?_
    refine lv_icmp_ge (tgt := 64) hx hb d_C_openRowIsWanted_10 (by decide) (fun c10 => ?_) (fun c10 => ?_)
    · replace h := ogt c10 h
      refine lv_iconst (v := 0) hx hb d_C_openRowIsWanted_64 (by decide) ?_
      obtain rfl := oe h
      exact wd_zret0 hx hb hr rfl hlk d_C_openRowIsWanted_65
    · replace h := ogf c10 h
      refine lv_aload_n hx hb d_C_openRowIsWanted_13 rfl (lv_at hl 0 rfl) ?_
      refine lv_iload_n hx hb d_C_openRowIsWanted_14 rfl (lv_at hl 3 rfl) ?_
      refine lv_iload_n hx hb d_C_openRowIsWanted_15 rfl (lv_at hl 2 rfl) ?_
      obtain ⟨q16, hc16, h⟩ := obd h
      refine wd_cvr (As := [.int x3, .int x2]) (rest := []) ⟨hx, hb, hml, hown, hts⟩ hK hP r hI.1 hI.2.1 rfl (c_C_isAmong l r x3 x2 M _ hI hc16) (cwV 2 hts (wmV t_62 t_64 t_65 t_59 t_63) rfl rfl rfl (by decide +kernel) ⟨by decide, by decide⟩) rfl hl.1 rfl (Nat.le_of_ble_eq_true rfl) d_C_openRowIsWanted_16 ⟨Nat.zero_le _, Nat.zero_le _⟩ ?_
      refine lv_if_eq (tgt := 58) hx hb d_C_openRowIsWanted_19 (by decide) (fun c19 => ?_) (fun c19 => ?_)
      · replace h := ogt c19 h
        exact w_C_openRowIsWanted_58 G hI ih  x1 x2 x3 M _ hP hS (lv_sub hl [0, 1, 2, 3] rfl) h
      · replace h := ogf c19 h
        refine lv_aload_n hx hb d_C_openRowIsWanted_22 rfl (lv_at hl 0 rfl) ?_
        refine wd_getr hx hb hts i_C hown hK hP r hI.1 hI.2.1 rfl 1 (by decide) t_51 rfl d_C_openRowIsWanted_23 ?_
        refine wd_getr hx hb hts i_Q hown hK hP (r + 8) hI.2.2.2.1 hI.2.2.2.2.1 rfl 2 (by decide) t_52 rfl d_C_openRowIsWanted_26 ?_
        refine lv_iload_n hx hb d_C_openRowIsWanted_29 rfl (lv_at hl 3 rfl) ?_
        obtain ⟨hi30, h⟩ := og h
        refine wd_iald hx hb hK hP ((r + 8) + 3) 0 hI.2.2.2.2.2.2.2.1.1 hI.2.2.2.2.2.2.2.1.2 rfl hi30 d_C_openRowIsWanted_30 ?_
        refine lv_iload_n hx hb d_C_openRowIsWanted_31 rfl (lv_at hl 1 rfl) ?_
        refine lv_icmp_ne (tgt := 58) hx hb d_C_openRowIsWanted_32 (by decide) (fun c32 => ?_) (fun c32 => ?_)
        · replace h := ogf c32 h
          exact w_C_openRowIsWanted_58 G hI ih  x1 x2 x3 M _ hP hS (lv_sub hl [0, 1, 2, 3] rfl) h
        · replace h := ogt c32 h
          refine lv_aload_n hx hb d_C_openRowIsWanted_35 rfl (lv_at hl 0 rfl) ?_
          refine wd_getr hx hb hts i_C hown hK hP r hI.1 hI.2.1 rfl 1 (by decide) t_51 rfl d_C_openRowIsWanted_36 ?_
          refine wd_getr hx hb hts i_Q hown hK hP (r + 8) hI.2.2.2.1 hI.2.2.2.2.1 rfl 3 (by decide) t_53 rfl d_C_openRowIsWanted_39 ?_
          refine lv_iload_n hx hb d_C_openRowIsWanted_42 rfl (lv_at hl 3 rfl) ?_
          obtain ⟨hi43, h⟩ := og h
          refine wd_iald hx hb hK hP ((r + 8) + 4) 0 hI.2.2.2.2.2.2.2.2.1.1 hI.2.2.2.2.2.2.2.2.1.2 rfl hi43 d_C_openRowIsWanted_43 ?_
          refine lv_aload_n hx hb d_C_openRowIsWanted_44 rfl (lv_at hl 0 rfl) ?_
          refine wd_getr hx hb hts i_C hown hK hP r hI.1 hI.2.1 rfl 0 (by decide) t_49 rfl d_C_openRowIsWanted_45 ?_
          refine wd_getr hx hb hts i_R hown hK hP (r + 1) hI.2.2.1.1 hI.2.2.1.2.1 rfl 1 (by decide) t_50 rfl d_C_openRowIsWanted_48 ?_
          refine lv_iload_n hx hb d_C_openRowIsWanted_51 rfl (lv_at hl 1 rfl) ?_
          obtain ⟨hi52, h⟩ := og h
          refine wd_iald hx hb hK hP ((r + 1) + 1) 0 hI.2.2.1.2.2.2.1.1 hI.2.2.1.2.2.2.1.2 rfl hi52 d_C_openRowIsWanted_52 ?_
          refine lv_icmp_ne (tgt := 58) hx hb d_C_openRowIsWanted_53 (by decide) (fun c53 => ?_) (fun c53 => ?_)
          · replace h := ogf c53 h
            exact w_C_openRowIsWanted_58 G hI ih  x1 x2 x3 M _ hP hS (lv_sub hl [0, 1, 2, 3] rfl) h
          · replace h := ogt c53 h
            refine lv_iconst (v := 1) hx hb d_C_openRowIsWanted_56 (by decide) ?_
            obtain rfl := oe h
            exact wd_zret0 hx hb hr rfl hlk d_C_openRowIsWanted_57
set_option maxHeartbeats 4000000 in
set_option maxRecDepth 100000 in
theorem w_C_openRowIsWanted_0 {r : Nat} {rv : Int32} (G : Cx p s m args meth c (dC, dI) cls6 (tyl dA) "BankTimes$Channel" k_C_openRowIsWanted 4 (some .boolean)) (hI : Is_C dA b N sh B C r)   : ∀ (x1 x2 : Int32) (M : Mm) (ls : Array Slot), va_P (dC, dI) cls6 (wd b N sh M) s.heap → va_S (reg b N s.heap.size) s.heap s.heap [] → lv_has ls 4 [(0, .ref (b + r)), (1, .int x1), (2, .int x2)] → f_C_openRowIsWanted B C r x1 x2 M = some rv → W p l e rm_C_openRowIsWanted s m args below meth c s.heap [] 0 0 (MQ below (Qro rv) args s 0 0 nofree) (F0 m 0 ls []) := by
  obtain ⟨hx, hb, hml, hr, hown, hts, hlk, hK⟩ := id G
  intro x1 x2 M ls hP hS hl h
  unfold f_C_openRowIsWanted at h
  refine lv_iconst (v := 0) hx hb d_C_openRowIsWanted_0 (by decide) ?_
  refine lv_istore_n (lv' := [(3, .int 0), (0, .ref (b + r)), (1, .int x1), (2, .int x2)]) hx hb d_C_openRowIsWanted_1 rfl hl (by decide) rfl (fun ls hl => ?_)
  exact w_C_openRowIsWanted_2 G hI  1200 x1 x2 0 M _ hP hS (lv_sub hl [1, 2, 3, 0] rfl) h
theorem c_C_openRowIsWanted (l : Launch) (r : Nat) (x1 x2 : Int32) (M : Mm) (sz : Nat) (hI : Is_C dA b N sh B C r) {rv : Int32} (h : f_C_openRowIsWanted B C r x1 x2 M = some rv) : Met l y_C_openRowIsWanted (wm y_C_openRowIsWanted k_C_openRowIsWanted 4 (some .boolean)) rm_C_openRowIsWanted (Pw (dC, dI) cls6 (tyl dA) b N sh [.ref (b + r), .int x1, .int x2] M sz) (Qro rv) 0 0 nofree := by
  refine mk_met (by decide) (Nat.le_of_ble_eq_true rfl) ?_
  intro p e s m below meth c ls G hsz hP hS hl
  subst hsz
  exact w_C_openRowIsWanted_0 G hI _ _ _ ls hP hS hl h
end
abbrev rm_C_chosenByRows : Room := { frames := 3, cells := 0, slots := 0, locals := 71 }
def B_C_chosenByRows_95 (B C : Nat) (r : Nat) (K5 : Int32 → Int32 → Int32 → Int32 → Mm → Option (Int32)) (x1 x2 x3 x4 : Int32) (M : Mm) : Option (Int32) := bnd (x4 + 1) (fun v95 => K5 x1 x2 x3 v95 M)
def B_C_chosenByRows_92 (B C : Nat) (r : Nat) (K5 : Int32 → Int32 → Int32 → Int32 → Mm → Option (Int32)) (x1 x2 x4 : Int32) (M : Mm) : Option (Int32) := B_C_chosenByRows_95 B C r K5 x1 x2 x4 x4 M
def B_C_chosenByRows_60 (B C : Nat) (r : Nat) (x4 : Int32) (M : Mm) : Option (Int32) := some x4
def B_C_chosenByRows_5 (B C : Nat) (r : Nat) : Nat → Int32 → Int32 → Int32 → Int32 → Mm → Option (Int32)
  | 0, _, _, _, _, _ => none
  | n + 1, x1, x2, x3, x4, M => (if (M (r + 8) 5) ≤ x4 then some x3 else (f_C_isAmong B C r x4 x1 M).bind (fun q21 => (if q21 = 0 then B_C_chosenByRows_95 B C r (fun y0 y1 y2 y3 M => B_C_chosenByRows_5 B C r n y0 y1 y2 y3 M) x1 x2 x3 x4 M else (f_C_isReady B C r x4 x2 M).bind (fun q31 => (if q31 = 0 then B_C_chosenByRows_95 B C r (fun y0 y1 y2 y3 M => B_C_chosenByRows_5 B C r n y0 y1 y2 y3 M) x1 x2 x3 x4 M else (f_C_nextKind B C r x4 M).bind (fun q43 => (if q43 = 1 then B_C_chosenByRows_60 B C r x4 M else (if q43 = 2 then B_C_chosenByRows_60 B C r x4 M else (if x3 = (-1) then (if q43 = 3 then (if ixb x4 8 = true then (f_C_openRowIsWanted B C r (M ((r + 8) + 3) x4.toNatClampNeg) x1 M).bind (fun q86 => (if q86 = 0 then B_C_chosenByRows_92 B C r (fun y0 y1 y2 y3 M => B_C_chosenByRows_5 B C r n y0 y1 y2 y3 M) x1 x2 x4 M else B_C_chosenByRows_95 B C r (fun y0 y1 y2 y3 M => B_C_chosenByRows_5 B C r n y0 y1 y2 y3 M) x1 x2 x3 x4 M)) else none) else B_C_chosenByRows_92 B C r (fun y0 y1 y2 y3 M => B_C_chosenByRows_5 B C r n y0 y1 y2 y3 M) x1 x2 x4 M) else B_C_chosenByRows_95 B C r (fun y0 y1 y2 y3 M => B_C_chosenByRows_5 B C r n y0 y1 y2 y3 M) x1 x2 x3 x4 M)))))))))
def f_C_chosenByRows (B C : Nat) (r : Nat) (x1 x2 : Int32) (M : Mm) : Option (Int32) := B_C_chosenByRows_5 B C r 1200 x1 x2 (-1) 0 M
section
variable {p : Program} {l : Launch} {e : Env} {s : State} {m : MethodId} {args : Array Value} {below : List Frame} {meth : Method} {c : Code} {dC : Nat → ClassId} {dI : Nat → Nat → Nat} {dA : Nat → ClassId} {b N B C : Nat} {sh : Shp}
set_option maxHeartbeats 4000000 in
set_option maxRecDepth 100000 in
theorem w_C_chosenByRows_95 {r : Nat} {rv : Int32} (G : Cx p s m args meth c (dC, dI) cls6 (tyl dA) "BankTimes$Channel" k_C_chosenByRows 6 (some .int)) (hI : Is_C dA b N sh B C r)  {K5 : Int32 → Int32 → Int32 → Int32 → Mm → Option (Int32)} (hK5 : ∀ (x1 x2 x3 x4 : Int32) (M : Mm) (ls : Array Slot), va_P (dC, dI) cls6 (wd b N sh M) s.heap → va_S (reg b N s.heap.size) s.heap s.heap [] → lv_has ls 6 [(0, .ref (b + r)), (1, .int x1), (2, .int x2), (3, .int x3), (4, .int x4)] → K5 x1 x2 x3 x4 M = some rv → W p l e rm_C_chosenByRows s m args below meth c s.heap [] 0 0 (MQ below (Qro rv) args s 0 0 nofree) (F0 m 5 ls []))  : ∀ (x1 x2 x3 x4 : Int32) (M : Mm) (ls : Array Slot), va_P (dC, dI) cls6 (wd b N sh M) s.heap → va_S (reg b N s.heap.size) s.heap s.heap [] → lv_has ls 6 [(0, .ref (b + r)), (1, .int x1), (2, .int x2), (3, .int x3), (4, .int x4)] → B_C_chosenByRows_95 B C r K5 x1 x2 x3 x4 M = some rv → W p l e rm_C_chosenByRows s m args below meth c s.heap [] 0 0 (MQ below (Qro rv) args s 0 0 nofree) (F0 m 95 ls []) := by
  obtain ⟨hx, hb, hml, hr, hown, hts, hlk, hK⟩ := id G
  intro x1 x2 x3 x4 M ls hP hS hl h
  unfold B_C_chosenByRows_95 at h
  obtain ⟨v95, e95, h⟩ := ln h
  refine lv_iinc (v := v95) (lv' := [(4, .int v95), (0, .ref (b + r)), (1, .int x1), (2, .int x2), (3, .int x3)]) hx hb d_C_chosenByRows_95 hl (k := 4) rfl (by rw [e95]; rfl) (by decide) rfl (fun ls hl => ?_)
  refine lv_goto (tgt := 5) hx hb d_C_chosenByRows_98 (by decide) ?_
  exact hK5 x1 x2 x3 v95 M _ hP hS (lv_sub hl [1, 2, 3, 4, 0] rfl) h
set_option maxHeartbeats 4000000 in
set_option maxRecDepth 100000 in
theorem w_C_chosenByRows_92 {r : Nat} {rv : Int32} (G : Cx p s m args meth c (dC, dI) cls6 (tyl dA) "BankTimes$Channel" k_C_chosenByRows 6 (some .int)) (hI : Is_C dA b N sh B C r)  {K5 : Int32 → Int32 → Int32 → Int32 → Mm → Option (Int32)} (hK5 : ∀ (x1 x2 x3 x4 : Int32) (M : Mm) (ls : Array Slot), va_P (dC, dI) cls6 (wd b N sh M) s.heap → va_S (reg b N s.heap.size) s.heap s.heap [] → lv_has ls 6 [(0, .ref (b + r)), (1, .int x1), (2, .int x2), (3, .int x3), (4, .int x4)] → K5 x1 x2 x3 x4 M = some rv → W p l e rm_C_chosenByRows s m args below meth c s.heap [] 0 0 (MQ below (Qro rv) args s 0 0 nofree) (F0 m 5 ls []))  : ∀ (x1 x2 x4 : Int32) (M : Mm) (ls : Array Slot), va_P (dC, dI) cls6 (wd b N sh M) s.heap → va_S (reg b N s.heap.size) s.heap s.heap [] → lv_has ls 6 [(0, .ref (b + r)), (1, .int x1), (2, .int x2), (4, .int x4)] → B_C_chosenByRows_92 B C r K5 x1 x2 x4 M = some rv → W p l e rm_C_chosenByRows s m args below meth c s.heap [] 0 0 (MQ below (Qro rv) args s 0 0 nofree) (F0 m 92 ls []) := by
  obtain ⟨hx, hb, hml, hr, hown, hts, hlk, hK⟩ := id G
  intro x1 x2 x4 M ls hP hS hl h
  unfold B_C_chosenByRows_92 at h
  refine lv_iload hx hb d_C_chosenByRows_92 (lv_at hl 3 rfl) ?_
  refine lv_istore_n (lv' := [(3, .int x4), (0, .ref (b + r)), (1, .int x1), (2, .int x2), (4, .int x4)]) hx hb d_C_chosenByRows_94 rfl hl (by decide) rfl (fun ls hl => ?_)
  exact w_C_chosenByRows_95 G hI hK5  x1 x2 x4 x4 M _ hP hS (lv_sub hl [1, 2, 3, 0, 4] rfl) h
set_option maxHeartbeats 4000000 in
set_option maxRecDepth 100000 in
theorem w_C_chosenByRows_60 {r : Nat} {rv : Int32} (G : Cx p s m args meth c (dC, dI) cls6 (tyl dA) "BankTimes$Channel" k_C_chosenByRows 6 (some .int)) (hI : Is_C dA b N sh B C r)   : ∀ (x4 : Int32) (M : Mm) (ls : Array Slot), va_P (dC, dI) cls6 (wd b N sh M) s.heap → va_S (reg b N s.heap.size) s.heap s.heap [] → lv_has ls 6 [(4, .int x4)] → B_C_chosenByRows_60 B C r x4 M = some rv → W p l e rm_C_chosenByRows s m args below meth c s.heap [] 0 0 (MQ below (Qro rv) args s 0 0 nofree) (F0 m 60 ls []) := by
  obtain ⟨hx, hb, hml, hr, hown, hts, hlk, hK⟩ := id G
  intro x4 M ls hP hS hl h
  unfold B_C_chosenByRows_60 at h
  refine lv_iload hx hb d_C_chosenByRows_60 (lv_at hl 0 rfl) ?_
  obtain rfl := oe h
  exact wd_iret0 hx hb hr hlk d_C_chosenByRows_62
set_option maxHeartbeats 4000000 in
set_option maxRecDepth 100000 in
theorem w_C_chosenByRows_5 {r : Nat} {rv : Int32} (G : Cx p s m args meth c (dC, dI) cls6 (tyl dA) "BankTimes$Channel" k_C_chosenByRows 6 (some .int)) (hI : Is_C dA b N sh B C r)   : ∀ (n : Nat) (x1 x2 x3 x4 : Int32) (M : Mm) (ls : Array Slot), va_P (dC, dI) cls6 (wd b N sh M) s.heap → va_S (reg b N s.heap.size) s.heap s.heap [] → lv_has ls 6 [(0, .ref (b + r)), (1, .int x1), (2, .int x2), (3, .int x3), (4, .int x4)] → B_C_chosenByRows_5 B C r n x1 x2 x3 x4 M = some rv → W p l e rm_C_chosenByRows s m args below meth c s.heap [] 0 0 (MQ below (Qro rv) args s 0 0 nofree) (F0 m 5 ls []) := by
  obtain ⟨hx, hb, hml, hr, hown, hts, hlk, hK⟩ := id G
  intro n
  induction n with
  | zero =>
    intro x1 x2 x3 x4 M ls hP hS hl h
    cases h
  | succ n ih =>
    intro x1 x2 x3 x4 M ls hP hS hl h
    rw [B_C_chosenByRows_5] at h
    refine lv_iload hx hb d_C_chosenByRows_5 (lv_at hl 4 rfl) ?_
    refine lv_aload_n hx hb d_C_chosenByRows_7 rfl (lv_at hl 0 rfl) ?_
    refine wd_getr hx hb hts i_C hown hK hP r hI.1 hI.2.1 rfl 1 (by decide) t_51 rfl d_C_chosenByRows_8 ?_
    refine wd_geti hx hb hts i_Q hown hK hP (r + 8) hI.2.2.2.1 hI.2.2.2.2.1 rfl 5 (by decide) t_61 rfl d_C_chosenByRows_11 ?_
    refine lv_icmp_ge (tgt := 101) hx hb d_C_chosenByRows_14 (by decide) (fun c14 => ?_) (fun c14 => ?_)
    · replace h := ogt c14 h
      refine lv_iload_n hx hb d_C_chosenByRows_101 rfl (lv_at hl 3 rfl) ?_
      obtain rfl := oe h
      exact wd_iret0 hx hb hr hlk d_C_chosenByRows_102
    · replace h := ogf c14 h
      refine lv_aload_n hx hb d_C_chosenByRows_17 rfl (lv_at hl 0 rfl) ?_
      refine lv_iload hx hb d_C_chosenByRows_18 (lv_at hl 4 rfl) ?_
      refine lv_iload_n hx hb d_C_chosenByRows_20 rfl (lv_at hl 1 rfl) ?_
      obtain ⟨q21, hc21, h⟩ := obd h
      refine wd_cvr (As := [.int x4, .int x1]) (rest := []) ⟨hx, hb, hml, hown, hts⟩ hK hP r hI.1 hI.2.1 rfl (c_C_isAmong l r x4 x1 M _ hI hc21) (cwV 2 hts (wmV t_62 t_64 t_65 t_59 t_63) rfl rfl rfl (by decide +kernel) ⟨by decide, by decide⟩) rfl hl.1 rfl (Nat.le_of_ble_eq_true rfl) d_C_chosenByRows_21 ⟨Nat.zero_le _, Nat.zero_le _⟩ ?_
      refine lv_if_eq (tgt := 95) hx hb d_C_chosenByRows_24 (by decide) (fun c24 => ?_) (fun c24 => ?_)
      · replace h := ogt c24 h
        exact w_C_chosenByRows_95 G hI ih  x1 x2 x3 x4 M _ hP hS (lv_sub hl [0, 1, 2, 3, 4] rfl) h
      · replace h := ogf c24 h
        refine lv_aload_n hx hb d_C_chosenByRows_27 rfl (lv_at hl 0 rfl) ?_
        refine lv_iload hx hb d_C_chosenByRows_28 (lv_at hl 4 rfl) ?_
        refine lv_iload_n hx hb d_C_chosenByRows_30 rfl (lv_at hl 2 rfl) ?_
        obtain ⟨q31, hc31, h⟩ := obd h
        refine wd_cvr (As := [.int x4, .int x2]) (rest := []) ⟨hx, hb, hml, hown, hts⟩ hK hP r hI.1 hI.2.1 rfl (c_C_isReady l r x4 x2 M _ hI hc31) (cwV 2 hts (wmV t_66 t_68 t_69 t_59 t_67) rfl rfl rfl (by decide +kernel) ⟨by decide, by decide⟩) rfl hl.1 rfl (Nat.le_of_ble_eq_true rfl) d_C_chosenByRows_31 ⟨Nat.zero_le _, Nat.zero_le _⟩ ?_
        refine lv_if_ne (tgt := 40) hx hb d_C_chosenByRows_34 (by decide) (fun c34 => ?_) (fun c34 => ?_)
        · replace h := ogf c34 h
          refine lv_aload_n hx hb d_C_chosenByRows_40 rfl (lv_at hl 0 rfl) ?_
          refine lv_iload hx hb d_C_chosenByRows_41 (lv_at hl 4 rfl) ?_
          obtain ⟨q43, hc43, h⟩ := obd h
          refine wd_cvr (As := [.int x4]) (rest := []) ⟨hx, hb, hml, hown, hts⟩ hK hP r hI.1 hI.2.1 rfl (c_C_nextKind l r x4 M _ hI hc43) (cwV 1 hts (wmV t_55 t_57 t_58 t_59 t_56) rfl rfl rfl (by decide +kernel) ⟨by decide, by decide⟩) rfl hl.1 rfl (Nat.le_of_ble_eq_true rfl) d_C_chosenByRows_43 ⟨Nat.zero_le _, Nat.zero_le _⟩ ?_
          refine lv_istore (lv' := [(5, .int q43), (0, .ref (b + r)), (1, .int x1), (2, .int x2), (3, .int x3), (4, .int x4)]) hx hb d_C_chosenByRows_46 hl (by decide) rfl (fun ls hl => ?_)
          refine lv_iload hx hb d_C_chosenByRows_48 (lv_at hl 0 rfl) ?_
          refine lv_iconst (v := 1) hx hb d_C_chosenByRows_50 (by decide) ?_
          refine lv_icmp_eq (tgt := 60) hx hb d_C_chosenByRows_51 (by decide) (fun c51 => ?_) (fun c51 => ?_)
          · replace h := ogt c51 h
            exact w_C_chosenByRows_60 G hI  x4 M _ hP hS (lv_sub hl [5] rfl) h
          · replace h := ogf c51 h
            refine lv_iload hx hb d_C_chosenByRows_54 (lv_at hl 0 rfl) ?_
            refine lv_iconst (v := 2) hx hb d_C_chosenByRows_56 (by decide) ?_
            refine lv_icmp_ne (tgt := 63) hx hb d_C_chosenByRows_57 (by decide) (fun c57 => ?_) (fun c57 => ?_)
            · replace h := ogf c57 h
              refine lv_iload_n hx hb d_C_chosenByRows_63 rfl (lv_at hl 4 rfl) ?_
              refine lv_iconst (v := (-1)) hx hb d_C_chosenByRows_64 (by decide) ?_
              refine lv_icmp_ne (tgt := 95) hx hb d_C_chosenByRows_65 (by decide) (fun c65 => ?_) (fun c65 => ?_)
              · replace h := ogf c65 h
                exact w_C_chosenByRows_95 G hI ih  x1 x2 x3 x4 M _ hP hS (lv_sub hl [1, 2, 3, 4, 5] rfl) h
              · replace h := ogt c65 h
                refine lv_iload hx hb d_C_chosenByRows_68 (lv_at hl 0 rfl) ?_
                refine lv_iconst (v := 3) hx hb d_C_chosenByRows_70 (by decide) ?_
                refine lv_icmp_ne (tgt := 92) hx hb d_C_chosenByRows_71 (by decide) (fun c71 => ?_) (fun c71 => ?_)
                · replace h := ogf c71 h
                  exact w_C_chosenByRows_92 G hI ih  x1 x2 x4 M _ hP hS (lv_sub hl [1, 2, 3, 5] rfl) h
                · replace h := ogt c71 h
                  refine lv_aload_n hx hb d_C_chosenByRows_74 rfl (lv_at hl 1 rfl) ?_
                  refine lv_aload_n hx hb d_C_chosenByRows_75 rfl (lv_at hl 1 rfl) ?_
                  refine wd_getr hx hb hts i_C hown hK hP r hI.1 hI.2.1 rfl 1 (by decide) t_51 rfl d_C_chosenByRows_76 ?_
                  refine wd_getr hx hb hts i_Q hown hK hP (r + 8) hI.2.2.2.1 hI.2.2.2.2.1 rfl 2 (by decide) t_52 rfl d_C_chosenByRows_79 ?_
                  refine lv_iload hx hb d_C_chosenByRows_82 (lv_at hl 5 rfl) ?_
                  obtain ⟨hi84, h⟩ := og h
                  refine wd_iald hx hb hK hP ((r + 8) + 3) 0 hI.2.2.2.2.2.2.2.1.1 hI.2.2.2.2.2.2.2.1.2 rfl hi84 d_C_chosenByRows_84 ?_
                  refine lv_iload_n hx hb d_C_chosenByRows_85 rfl (lv_at hl 2 rfl) ?_
                  obtain ⟨q86, hc86, h⟩ := obd h
                  refine wd_cvr (As := [.int (M ((r + 8) + 3) x4.toNatClampNeg), .int x1]) (rest := []) ⟨hx, hb, hml, hown, hts⟩ hK hP r hI.1 hI.2.1 rfl (c_C_openRowIsWanted l r (M ((r + 8) + 3) x4.toNatClampNeg) x1 M _ hI hc86) (cwV 2 hts (wmV t_70 t_72 t_73 t_59 t_71) rfl rfl rfl (by decide +kernel) ⟨by decide, by decide⟩) rfl hl.1 rfl (Nat.le_of_ble_eq_true rfl) d_C_chosenByRows_86 ⟨Nat.zero_le _, Nat.zero_le _⟩ ?_
                  refine lv_if_ne (tgt := 95) hx hb d_C_chosenByRows_89 (by decide) (fun c89 => ?_) (fun c89 => ?_)
                  · replace h := ogf c89 h
                    exact w_C_chosenByRows_95 G hI ih  x1 x2 x3 x4 M _ hP hS (lv_sub hl [1, 2, 3, 4, 5] rfl) h
                  · replace h := ogt c89 h
                    exact w_C_chosenByRows_92 G hI ih  x1 x2 x4 M _ hP hS (lv_sub hl [1, 2, 3, 5] rfl) h
            · replace h := ogt c57 h
              exact w_C_chosenByRows_60 G hI  x4 M _ hP hS (lv_sub hl [5] rfl) h
        · replace h := ogt c34 h
          refine lv_goto (tgt := 95) hx hb d_C_chosenByRows_37 (by decide) ?_
          exact w_C_chosenByRows_95 G hI ih  x1 x2 x3 x4 M _ hP hS (lv_sub hl [0, 1, 2, 3, 4] rfl) h
set_option maxHeartbeats 4000000 in
set_option maxRecDepth 100000 in
theorem w_C_chosenByRows_0 {r : Nat} {rv : Int32} (G : Cx p s m args meth c (dC, dI) cls6 (tyl dA) "BankTimes$Channel" k_C_chosenByRows 6 (some .int)) (hI : Is_C dA b N sh B C r)   : ∀ (x1 x2 : Int32) (M : Mm) (ls : Array Slot), va_P (dC, dI) cls6 (wd b N sh M) s.heap → va_S (reg b N s.heap.size) s.heap s.heap [] → lv_has ls 6 [(0, .ref (b + r)), (1, .int x1), (2, .int x2)] → f_C_chosenByRows B C r x1 x2 M = some rv → W p l e rm_C_chosenByRows s m args below meth c s.heap [] 0 0 (MQ below (Qro rv) args s 0 0 nofree) (F0 m 0 ls []) := by
  obtain ⟨hx, hb, hml, hr, hown, hts, hlk, hK⟩ := id G
  intro x1 x2 M ls hP hS hl h
  unfold f_C_chosenByRows at h
  refine lv_iconst (v := (-1)) hx hb d_C_chosenByRows_0 (by decide) ?_
  refine lv_istore_n (lv' := [(3, .int (-1)), (0, .ref (b + r)), (1, .int x1), (2, .int x2)]) hx hb d_C_chosenByRows_1 rfl hl (by decide) rfl (fun ls hl => ?_)
  refine lv_iconst (v := 0) hx hb d_C_chosenByRows_2 (by decide) ?_
  refine lv_istore (lv' := [(4, .int 0), (3, .int (-1)), (0, .ref (b + r)), (1, .int x1), (2, .int x2)]) hx hb d_C_chosenByRows_3 hl (by decide) rfl (fun ls hl => ?_)
  exact w_C_chosenByRows_5 G hI  1200 x1 x2 (-1) 0 M _ hP hS (lv_sub hl [2, 3, 4, 1, 0] rfl) h
theorem c_C_chosenByRows (l : Launch) (r : Nat) (x1 x2 : Int32) (M : Mm) (sz : Nat) (hI : Is_C dA b N sh B C r) {rv : Int32} (h : f_C_chosenByRows B C r x1 x2 M = some rv) : Met l y_C_chosenByRows (wm y_C_chosenByRows k_C_chosenByRows 6 (some .int)) rm_C_chosenByRows (Pw (dC, dI) cls6 (tyl dA) b N sh [.ref (b + r), .int x1, .int x2] M sz) (Qro rv) 0 0 nofree := by
  refine mk_met (by decide) (Nat.le_of_ble_eq_true rfl) ?_
  intro p e s m below meth c ls G hsz hP hS hl
  subst hsz
  exact w_C_chosenByRows_0 G hI _ _ _ ls hP hS hl h
end
abbrev rm_C_chosenByTurns : Room := { frames := 3, cells := 0, slots := 0, locals := 71 }
def B_C_chosenByTurns_47 (B C : Nat) (r : Nat) (K2 : Int32 → Int32 → Mm → Option (Int32)) (x1 x2 : Int32) (M : Mm) : Option (Int32) := bnd (x2 + 1) (fun v47 => K2 x1 v47 M)
def B_C_chosenByTurns_2 (B C : Nat) (r : Nat) : Nat → Int32 → Int32 → Mm → Option (Int32)
  | 0, _, _, _ => none
  | n + 1, x1, x2, M => (if (M r 2) < x2 then some (-1) else (f_Q_oldestOf B C (r + 8) (((M r 4) + x2) &&& ((M r 2) - 1)) M).bind (fun q27 => (if q27 = (-1) then B_C_chosenByTurns_47 B C r (fun y0 y1 M => B_C_chosenByTurns_2 B C r n y0 y1 M) x1 x2 M else (f_C_isReady B C r q27 x1 M).bind (fun q39 => (if q39 = 0 then B_C_chosenByTurns_47 B C r (fun y0 y1 M => B_C_chosenByTurns_2 B C r n y0 y1 M) x1 x2 M else some q27)))))
def f_C_chosenByTurns (B C : Nat) (r : Nat) (x1 : Int32) (M : Mm) : Option (Int32) := B_C_chosenByTurns_2 B C r 1200 x1 1 M
section
variable {p : Program} {l : Launch} {e : Env} {s : State} {m : MethodId} {args : Array Value} {below : List Frame} {meth : Method} {c : Code} {dC : Nat → ClassId} {dI : Nat → Nat → Nat} {dA : Nat → ClassId} {b N B C : Nat} {sh : Shp}
set_option maxHeartbeats 4000000 in
set_option maxRecDepth 100000 in
theorem w_C_chosenByTurns_47 {r : Nat} {rv : Int32} (G : Cx p s m args meth c (dC, dI) cls6 (tyl dA) "BankTimes$Channel" k_C_chosenByTurns 4 (some .int)) (hI : Is_C dA b N sh B C r)  {K2 : Int32 → Int32 → Mm → Option (Int32)} (hK2 : ∀ (x1 x2 : Int32) (M : Mm) (ls : Array Slot), va_P (dC, dI) cls6 (wd b N sh M) s.heap → va_S (reg b N s.heap.size) s.heap s.heap [] → lv_has ls 4 [(0, .ref (b + r)), (1, .int x1), (2, .int x2)] → K2 x1 x2 M = some rv → W p l e rm_C_chosenByTurns s m args below meth c s.heap [] 0 0 (MQ below (Qro rv) args s 0 0 nofree) (F0 m 2 ls []))  : ∀ (x1 x2 : Int32) (M : Mm) (ls : Array Slot), va_P (dC, dI) cls6 (wd b N sh M) s.heap → va_S (reg b N s.heap.size) s.heap s.heap [] → lv_has ls 4 [(0, .ref (b + r)), (1, .int x1), (2, .int x2)] → B_C_chosenByTurns_47 B C r K2 x1 x2 M = some rv → W p l e rm_C_chosenByTurns s m args below meth c s.heap [] 0 0 (MQ below (Qro rv) args s 0 0 nofree) (F0 m 47 ls []) := by
  obtain ⟨hx, hb, hml, hr, hown, hts, hlk, hK⟩ := id G
  intro x1 x2 M ls hP hS hl h
  unfold B_C_chosenByTurns_47 at h
  obtain ⟨v47, e47, h⟩ := ln h
  refine lv_iinc (v := v47) (lv' := [(2, .int v47), (0, .ref (b + r)), (1, .int x1)]) hx hb d_C_chosenByTurns_47 hl (k := 2) rfl (by rw [e47]; rfl) (by decide) rfl (fun ls hl => ?_)
  refine lv_goto (tgt := 2) hx hb d_C_chosenByTurns_50 (by decide) ?_
  exact hK2 x1 v47 M _ hP hS (lv_sub hl [1, 2, 0] rfl) h
set_option maxHeartbeats 4000000 in
set_option maxRecDepth 100000 in
theorem w_C_chosenByTurns_2 {r : Nat} {rv : Int32} (G : Cx p s m args meth c (dC, dI) cls6 (tyl dA) "BankTimes$Channel" k_C_chosenByTurns 4 (some .int)) (hI : Is_C dA b N sh B C r)   : ∀ (n : Nat) (x1 x2 : Int32) (M : Mm) (ls : Array Slot), va_P (dC, dI) cls6 (wd b N sh M) s.heap → va_S (reg b N s.heap.size) s.heap s.heap [] → lv_has ls 4 [(0, .ref (b + r)), (1, .int x1), (2, .int x2)] → B_C_chosenByTurns_2 B C r n x1 x2 M = some rv → W p l e rm_C_chosenByTurns s m args below meth c s.heap [] 0 0 (MQ below (Qro rv) args s 0 0 nofree) (F0 m 2 ls []) := by
  obtain ⟨hx, hb, hml, hr, hown, hts, hlk, hK⟩ := id G
  intro n
  induction n with
  | zero =>
    intro x1 x2 M ls hP hS hl h
    cases h
  | succ n ih =>
    intro x1 x2 M ls hP hS hl h
    rw [B_C_chosenByTurns_2] at h
    refine lv_iload_n hx hb d_C_chosenByTurns_2 rfl (lv_at hl 2 rfl) ?_
    refine lv_aload_n hx hb d_C_chosenByTurns_3 rfl (lv_at hl 0 rfl) ?_
    refine wd_geti hx hb hts i_C hown hK hP r hI.1 hI.2.1 rfl 2 (by decide) t_74 rfl d_C_chosenByTurns_4 ?_
    refine lv_icmp_gt (tgt := 53) hx hb d_C_chosenByTurns_7 (by decide) (fun c7 => ?_) (fun c7 => ?_)
    · replace h := ogt c7 h
      refine lv_iconst (v := (-1)) hx hb d_C_chosenByTurns_53 (by decide) ?_
      obtain rfl := oe h
      exact wd_iret0 hx hb hr hlk d_C_chosenByTurns_54
    · replace h := ogf c7 h
      refine lv_aload_n hx hb d_C_chosenByTurns_10 rfl (lv_at hl 0 rfl) ?_
      refine wd_getr hx hb hts i_C hown hK hP r hI.1 hI.2.1 rfl 1 (by decide) t_51 rfl d_C_chosenByTurns_11 ?_
      refine lv_aload_n hx hb d_C_chosenByTurns_14 rfl (lv_at hl 0 rfl) ?_
      refine wd_geti hx hb hts i_C hown hK hP r hI.1 hI.2.1 rfl 4 (by decide) t_75 rfl d_C_chosenByTurns_15 ?_
      refine lv_iload_n hx hb d_C_chosenByTurns_18 rfl (lv_at hl 2 rfl) ?_
      refine lv_iadd hx hb d_C_chosenByTurns_19 ?_
      refine lv_aload_n hx hb d_C_chosenByTurns_20 rfl (lv_at hl 0 rfl) ?_
      refine wd_geti hx hb hts i_C hown hK hP r hI.1 hI.2.1 rfl 2 (by decide) t_74 rfl d_C_chosenByTurns_21 ?_
      refine lv_iconst (v := 1) hx hb d_C_chosenByTurns_24 (by decide) ?_
      refine lv_isub hx hb d_C_chosenByTurns_25 ?_
      refine lv_iand hx hb d_C_chosenByTurns_26 ?_
      obtain ⟨q27, hc27, h⟩ := obd h
      refine wd_cvr (As := [.int (((M r 4) + x2) &&& ((M r 2) - 1))]) (rest := []) ⟨hx, hb, hml, hown, hts⟩ hK hP (r + 8) hI.2.2.2.1 hI.2.2.2.2.1 rfl (c_Q_oldestOf l (r + 8) (((M r 4) + x2) &&& ((M r 2) - 1)) M _ hI.2.2.2 hc27) (cwV 1 hts (wmV t_76 t_78 t_79 t_80 t_77) rfl rfl rfl (by decide +kernel) ⟨by decide, by decide⟩) rfl hl.1 rfl (Nat.le_of_ble_eq_true rfl) d_C_chosenByTurns_27 ⟨Nat.zero_le _, Nat.zero_le _⟩ ?_
      refine lv_istore_n (lv' := [(3, .int q27), (0, .ref (b + r)), (1, .int x1), (2, .int x2)]) hx hb d_C_chosenByTurns_30 rfl hl (by decide) rfl (fun ls hl => ?_)
      refine lv_iload_n hx hb d_C_chosenByTurns_31 rfl (lv_at hl 0 rfl) ?_
      refine lv_iconst (v := (-1)) hx hb d_C_chosenByTurns_32 (by decide) ?_
      refine lv_icmp_eq (tgt := 47) hx hb d_C_chosenByTurns_33 (by decide) (fun c33 => ?_) (fun c33 => ?_)
      · replace h := ogt c33 h
        exact w_C_chosenByTurns_47 G hI ih  x1 x2 M _ hP hS (lv_sub hl [1, 2, 3] rfl) h
      · replace h := ogf c33 h
        refine lv_aload_n hx hb d_C_chosenByTurns_36 rfl (lv_at hl 1 rfl) ?_
        refine lv_iload_n hx hb d_C_chosenByTurns_37 rfl (lv_at hl 0 rfl) ?_
        refine lv_iload_n hx hb d_C_chosenByTurns_38 rfl (lv_at hl 2 rfl) ?_
        obtain ⟨q39, hc39, h⟩ := obd h
        refine wd_cvr (As := [.int q27, .int x1]) (rest := []) ⟨hx, hb, hml, hown, hts⟩ hK hP r hI.1 hI.2.1 rfl (c_C_isReady l r q27 x1 M _ hI hc39) (cwV 2 hts (wmV t_66 t_68 t_69 t_59 t_67) rfl rfl rfl (by decide +kernel) ⟨by decide, by decide⟩) rfl hl.1 rfl (Nat.le_of_ble_eq_true rfl) d_C_chosenByTurns_39 ⟨Nat.zero_le _, Nat.zero_le _⟩ ?_
        refine lv_if_eq (tgt := 47) hx hb d_C_chosenByTurns_42 (by decide) (fun c42 => ?_) (fun c42 => ?_)
        · replace h := ogt c42 h
          exact w_C_chosenByTurns_47 G hI ih  x1 x2 M _ hP hS (lv_sub hl [1, 2, 3] rfl) h
        · replace h := ogf c42 h
          refine lv_iload_n hx hb d_C_chosenByTurns_45 rfl (lv_at hl 0 rfl) ?_
          obtain rfl := oe h
          exact wd_iret0 hx hb hr hlk d_C_chosenByTurns_46
set_option maxHeartbeats 4000000 in
set_option maxRecDepth 100000 in
theorem w_C_chosenByTurns_0 {r : Nat} {rv : Int32} (G : Cx p s m args meth c (dC, dI) cls6 (tyl dA) "BankTimes$Channel" k_C_chosenByTurns 4 (some .int)) (hI : Is_C dA b N sh B C r)   : ∀ (x1 : Int32) (M : Mm) (ls : Array Slot), va_P (dC, dI) cls6 (wd b N sh M) s.heap → va_S (reg b N s.heap.size) s.heap s.heap [] → lv_has ls 4 [(0, .ref (b + r)), (1, .int x1)] → f_C_chosenByTurns B C r x1 M = some rv → W p l e rm_C_chosenByTurns s m args below meth c s.heap [] 0 0 (MQ below (Qro rv) args s 0 0 nofree) (F0 m 0 ls []) := by
  obtain ⟨hx, hb, hml, hr, hown, hts, hlk, hK⟩ := id G
  intro x1 M ls hP hS hl h
  unfold f_C_chosenByTurns at h
  refine lv_iconst (v := 1) hx hb d_C_chosenByTurns_0 (by decide) ?_
  refine lv_istore_n (lv' := [(2, .int 1), (0, .ref (b + r)), (1, .int x1)]) hx hb d_C_chosenByTurns_1 rfl hl (by decide) rfl (fun ls hl => ?_)
  exact w_C_chosenByTurns_2 G hI  1200 x1 1 M _ hP hS (lv_sub hl [1, 2, 0] rfl) h
theorem c_C_chosenByTurns (l : Launch) (r : Nat) (x1 : Int32) (M : Mm) (sz : Nat) (hI : Is_C dA b N sh B C r) {rv : Int32} (h : f_C_chosenByTurns B C r x1 M = some rv) : Met l y_C_chosenByTurns (wm y_C_chosenByTurns k_C_chosenByTurns 4 (some .int)) rm_C_chosenByTurns (Pw (dC, dI) cls6 (tyl dA) b N sh [.ref (b + r), .int x1] M sz) (Qro rv) 0 0 nofree := by
  refine mk_met (by decide) (Nat.le_of_ble_eq_true rfl) ?_
  intro p e s m below meth c ls G hsz hP hS hl
  subst hsz
  exact w_C_chosenByTurns_0 G hI _ _ ls hP hS hl h
end
abbrev rm_C_chosen : Room := { frames := 4, cells := 0, slots := 0, locals := 96 }
def B_C_chosen_106 (B C : Nat) (r : Nat) (x2 s1 : Int32) (M : Mm) : Option (Int32) := (f_C_chosenByRows B C r s1 x2 M).bind (fun q107 => some q107)
def B_C_chosen_95 (B C : Nat) (r : Nat) (x2 s0 : Int32) (M : Mm) : Option (Int32) := (if s0 = 0 then B_C_chosen_106 B C r x2 2 M else B_C_chosen_106 B C r x2 1 M)
def B_C_chosen_94 (B C : Nat) (r : Nat) (x2 : Int32) (M : Mm) : Option (Int32) := B_C_chosen_95 B C r x2 0 M
def f_C_chosen (B C : Nat) (r : Nat) (x1 x2 : Int32) (M : Mm) : Option (Int32) := (if (M (r + 8) 5) = 0 then some (-1) else (if x1 = 0 then (f_C_isReady B C r 0 x2 M).bind (fun q43 => (if q43 = 0 then some (-1) else some 0)) else (if x1 = 1 then (f_C_chosenByRows B C r 0 x2 M).bind (fun q58 => some q58) else (if x1 = 2 then (if (M (r + 8) 5) ≤ (M (r + 8) 6) then B_C_chosen_94 B C r x2 M else (if 5 ≤ (M (r + 8) 6) then B_C_chosen_94 B C r x2 M else B_C_chosen_95 B C r x2 1 M)) else (f_C_chosenByTurns B C r x2 M).bind (fun q113 => some q113)))))
section
variable {p : Program} {l : Launch} {e : Env} {s : State} {m : MethodId} {args : Array Value} {below : List Frame} {meth : Method} {c : Code} {dC : Nat → ClassId} {dI : Nat → Nat → Nat} {dA : Nat → ClassId} {b N B C : Nat} {sh : Shp}
set_option maxHeartbeats 4000000 in
set_option maxRecDepth 100000 in
theorem w_C_chosen_106 {r : Nat} {rv : Int32} (G : Cx p s m args meth c (dC, dI) cls6 (tyl dA) "BankTimes$Channel" k_C_chosen 4 (some .int)) (hI : Is_C dA b N sh B C r)   : ∀ (x2 s1 : Int32) (M : Mm) (ls : Array Slot), va_P (dC, dI) cls6 (wd b N sh M) s.heap → va_S (reg b N s.heap.size) s.heap s.heap [] → lv_has ls 4 [(2, .int x2)] → B_C_chosen_106 B C r x2 s1 M = some rv → W p l e rm_C_chosen s m args below meth c s.heap [] 0 0 (MQ below (Qro rv) args s 0 0 nofree) (F0 m 106 ls [.int s1, .ref (b + r)]) := by
  obtain ⟨hx, hb, hml, hr, hown, hts, hlk, hK⟩ := id G
  intro x2 s1 M ls hP hS hl h
  unfold B_C_chosen_106 at h
  refine lv_iload_n hx hb d_C_chosen_106 rfl (lv_at hl 0 rfl) ?_
  obtain ⟨q107, hc107, h⟩ := obd h
  refine wd_cvr (As := [.int s1, .int x2]) (rest := []) ⟨hx, hb, hml, hown, hts⟩ hK hP r hI.1 hI.2.1 rfl (c_C_chosenByRows l r s1 x2 M _ hI hc107) (cwV 2 hts (wmV t_81 t_83 t_84 t_59 t_82) rfl rfl rfl (by decide +kernel) ⟨by decide, by decide⟩) rfl hl.1 rfl (Nat.le_of_ble_eq_true rfl) d_C_chosen_107 ⟨Nat.zero_le _, Nat.zero_le _⟩ ?_
  obtain rfl := oe h
  exact wd_iret0 hx hb hr hlk d_C_chosen_110
set_option maxHeartbeats 4000000 in
set_option maxRecDepth 100000 in
theorem w_C_chosen_95 {r : Nat} {rv : Int32} (G : Cx p s m args meth c (dC, dI) cls6 (tyl dA) "BankTimes$Channel" k_C_chosen 4 (some .int)) (hI : Is_C dA b N sh B C r)   : ∀ (x2 s0 : Int32) (M : Mm) (ls : Array Slot), va_P (dC, dI) cls6 (wd b N sh M) s.heap → va_S (reg b N s.heap.size) s.heap s.heap [] → lv_has ls 4 [(0, .ref (b + r)), (2, .int x2)] → B_C_chosen_95 B C r x2 s0 M = some rv → W p l e rm_C_chosen s m args below meth c s.heap [] 0 0 (MQ below (Qro rv) args s 0 0 nofree) (F0 m 95 ls [.int s0]) := by
  obtain ⟨hx, hb, hml, hr, hown, hts, hlk, hK⟩ := id G
  intro x2 s0 M ls hP hS hl h
  unfold B_C_chosen_95 at h
  refine lv_istore_n (lv' := [(3, .int s0), (0, .ref (b + r)), (2, .int x2)]) hx hb d_C_chosen_95 rfl hl (by decide) rfl (fun ls hl => ?_)
  refine lv_aload_n hx hb d_C_chosen_96 rfl (lv_at hl 1 rfl) ?_
  refine lv_iload_n hx hb d_C_chosen_97 rfl (lv_at hl 0 rfl) ?_
  refine lv_if_eq (tgt := 105) hx hb d_C_chosen_98 (by decide) (fun c98 => ?_) (fun c98 => ?_)
  · replace h := ogt c98 h
    refine lv_iconst (v := 2) hx hb d_C_chosen_105 (by decide) ?_
    exact w_C_chosen_106 G hI  x2 2 M _ hP hS (lv_sub hl [2] rfl) h
  · replace h := ogf c98 h
    refine lv_iconst (v := 1) hx hb d_C_chosen_101 (by decide) ?_
    refine lv_goto (tgt := 106) hx hb d_C_chosen_102 (by decide) ?_
    exact w_C_chosen_106 G hI  x2 1 M _ hP hS (lv_sub hl [2] rfl) h
set_option maxHeartbeats 4000000 in
set_option maxRecDepth 100000 in
theorem w_C_chosen_94 {r : Nat} {rv : Int32} (G : Cx p s m args meth c (dC, dI) cls6 (tyl dA) "BankTimes$Channel" k_C_chosen 4 (some .int)) (hI : Is_C dA b N sh B C r)   : ∀ (x2 : Int32) (M : Mm) (ls : Array Slot), va_P (dC, dI) cls6 (wd b N sh M) s.heap → va_S (reg b N s.heap.size) s.heap s.heap [] → lv_has ls 4 [(0, .ref (b + r)), (2, .int x2)] → B_C_chosen_94 B C r x2 M = some rv → W p l e rm_C_chosen s m args below meth c s.heap [] 0 0 (MQ below (Qro rv) args s 0 0 nofree) (F0 m 94 ls []) := by
  obtain ⟨hx, hb, hml, hr, hown, hts, hlk, hK⟩ := id G
  intro x2 M ls hP hS hl h
  unfold B_C_chosen_94 at h
  refine lv_iconst (v := 0) hx hb d_C_chosen_94 (by decide) ?_
  exact w_C_chosen_95 G hI  x2 0 M _ hP hS (lv_sub hl [0, 1] rfl) h
set_option maxHeartbeats 4000000 in
set_option maxRecDepth 100000 in
theorem w_C_chosen_0 {r : Nat} {rv : Int32} (G : Cx p s m args meth c (dC, dI) cls6 (tyl dA) "BankTimes$Channel" k_C_chosen 4 (some .int)) (hI : Is_C dA b N sh B C r)   : ∀ (x1 x2 : Int32) (M : Mm) (ls : Array Slot), va_P (dC, dI) cls6 (wd b N sh M) s.heap → va_S (reg b N s.heap.size) s.heap s.heap [] → lv_has ls 4 [(0, .ref (b + r)), (1, .int x1), (2, .int x2)] → f_C_chosen B C r x1 x2 M = some rv → W p l e rm_C_chosen s m args below meth c s.heap [] 0 0 (MQ below (Qro rv) args s 0 0 nofree) (F0 m 0 ls []) := by
  obtain ⟨hx, hb, hml, hr, hown, hts, hlk, hK⟩ := id G
  intro x1 x2 M ls hP hS hl h
  unfold f_C_chosen at h
  refine lv_aload_n hx hb d_C_chosen_0 rfl (lv_at hl 0 rfl) ?_
  refine wd_getr hx hb hts i_C hown hK hP r hI.1 hI.2.1 rfl 1 (by decide) t_51 rfl d_C_chosen_1 ?_
  refine wd_geti hx hb hts i_Q hown hK hP (r + 8) hI.2.2.2.1 hI.2.2.2.2.1 rfl 5 (by decide) t_61 rfl d_C_chosen_4 ?_
  refine lv_if_ne (tgt := 12) hx hb d_C_chosen_7 (by decide) (fun c7 => ?_) (fun c7 => ?_)
  · replace h := ogf c7 h
    refine lv_iload_n hx hb d_C_chosen_12 rfl (lv_at hl 1 rfl) ?_
    by_cases c13_0 : x1 = 0
    · replace h := ogt c13_0 h
      refine lv_tableIn (tgt := 40) hx hb d_C_chosen_13 (by rw [c13_0]; decide) (by rw [c13_0]; decide) (by rw [c13_0]; rfl) (by decide) ?_
      refine lv_aload_n hx hb d_C_chosen_40 rfl (lv_at hl 0 rfl) ?_
      refine lv_iconst (v := 0) hx hb d_C_chosen_41 (by decide) ?_
      refine lv_iload_n hx hb d_C_chosen_42 rfl (lv_at hl 2 rfl) ?_
      obtain ⟨q43, hc43, h⟩ := obd h
      refine wd_cvr (As := [.int 0, .int x2]) (rest := []) ⟨hx, hb, hml, hown, hts⟩ hK hP r hI.1 hI.2.1 rfl (c_C_isReady l r 0 x2 M _ hI hc43) (cwV 2 hts (wmV t_66 t_68 t_69 t_59 t_67) rfl rfl rfl (by decide +kernel) ⟨by decide, by decide⟩) rfl hl.1 rfl (Nat.le_of_ble_eq_true rfl) d_C_chosen_43 ⟨Nat.zero_le _, Nat.zero_le _⟩ ?_
      refine lv_if_eq (tgt := 53) hx hb d_C_chosen_46 (by decide) (fun c46 => ?_) (fun c46 => ?_)
      · replace h := ogt c46 h
        refine lv_iconst (v := (-1)) hx hb d_C_chosen_53 (by decide) ?_
        obtain rfl := oe h
        exact wd_iret0 hx hb hr hlk d_C_chosen_54
      · replace h := ogf c46 h
        refine lv_iconst (v := 0) hx hb d_C_chosen_49 (by decide) ?_
        refine lv_goto (tgt := 54) hx hb d_C_chosen_50 (by decide) ?_
        obtain rfl := oe h
        exact wd_iret0 hx hb hr hlk d_C_chosen_54
    · replace h := ogf c13_0 h
      by_cases c13_1 : x1 = 1
      · replace h := ogt c13_1 h
        refine lv_tableIn (tgt := 55) hx hb d_C_chosen_13 (by rw [c13_1]; decide) (by rw [c13_1]; decide) (by rw [c13_1]; rfl) (by decide) ?_
        refine lv_aload_n hx hb d_C_chosen_55 rfl (lv_at hl 0 rfl) ?_
        refine lv_iconst (v := 0) hx hb d_C_chosen_56 (by decide) ?_
        refine lv_iload_n hx hb d_C_chosen_57 rfl (lv_at hl 2 rfl) ?_
        obtain ⟨q58, hc58, h⟩ := obd h
        refine wd_cvr (As := [.int 0, .int x2]) (rest := []) ⟨hx, hb, hml, hown, hts⟩ hK hP r hI.1 hI.2.1 rfl (c_C_chosenByRows l r 0 x2 M _ hI hc58) (cwV 2 hts (wmV t_81 t_83 t_84 t_59 t_82) rfl rfl rfl (by decide +kernel) ⟨by decide, by decide⟩) rfl hl.1 rfl (Nat.le_of_ble_eq_true rfl) d_C_chosen_58 ⟨Nat.zero_le _, Nat.zero_le _⟩ ?_
        obtain rfl := oe h
        exact wd_iret0 hx hb hr hlk d_C_chosen_61
      · replace h := ogf c13_1 h
        by_cases c13_2 : x1 = 2
        · replace h := ogt c13_2 h
          refine lv_tableIn (tgt := 62) hx hb d_C_chosen_13 (by rw [c13_2]; decide) (by rw [c13_2]; decide) (by rw [c13_2]; rfl) (by decide) ?_
          refine lv_aload_n hx hb d_C_chosen_62 rfl (lv_at hl 0 rfl) ?_
          refine wd_getr hx hb hts i_C hown hK hP r hI.1 hI.2.1 rfl 1 (by decide) t_51 rfl d_C_chosen_63 ?_
          refine wd_geti hx hb hts i_Q hown hK hP (r + 8) hI.2.2.2.1 hI.2.2.2.2.1 rfl 6 (by decide) t_85 rfl d_C_chosen_66 ?_
          refine lv_aload_n hx hb d_C_chosen_69 rfl (lv_at hl 0 rfl) ?_
          refine wd_getr hx hb hts i_C hown hK hP r hI.1 hI.2.1 rfl 1 (by decide) t_51 rfl d_C_chosen_70 ?_
          refine wd_geti hx hb hts i_Q hown hK hP (r + 8) hI.2.2.2.1 hI.2.2.2.2.1 rfl 5 (by decide) t_61 rfl d_C_chosen_73 ?_
          refine lv_icmp_ge (tgt := 94) hx hb d_C_chosen_76 (by decide) (fun c76 => ?_) (fun c76 => ?_)
          · replace h := ogt c76 h
            exact w_C_chosen_94 G hI  x2 M _ hP hS (lv_sub hl [0, 2] rfl) h
          · replace h := ogf c76 h
            refine lv_aload_n hx hb d_C_chosen_79 rfl (lv_at hl 0 rfl) ?_
            refine wd_getr hx hb hts i_C hown hK hP r hI.1 hI.2.1 rfl 1 (by decide) t_51 rfl d_C_chosen_80 ?_
            refine wd_geti hx hb hts i_Q hown hK hP (r + 8) hI.2.2.2.1 hI.2.2.2.2.1 rfl 6 (by decide) t_85 rfl d_C_chosen_83 ?_
            refine lv_iconst (v := 5) hx hb d_C_chosen_86 (by decide) ?_
            refine lv_icmp_ge (tgt := 94) hx hb d_C_chosen_87 (by decide) (fun c87 => ?_) (fun c87 => ?_)
            · replace h := ogt c87 h
              exact w_C_chosen_94 G hI  x2 M _ hP hS (lv_sub hl [0, 2] rfl) h
            · replace h := ogf c87 h
              refine lv_iconst (v := 1) hx hb d_C_chosen_90 (by decide) ?_
              refine lv_goto (tgt := 95) hx hb d_C_chosen_91 (by decide) ?_
              exact w_C_chosen_95 G hI  x2 1 M _ hP hS (lv_sub hl [0, 2] rfl) h
        · replace h := ogf c13_2 h
          have z13_0 := lv_neT (a := 0) c13_0 (by decide)
          have z13_1 := lv_neT (a := 1) c13_1 (by decide)
          have z13_2 := lv_neT (a := 2) c13_2 (by decide)
          refine lv_tableOut (tgt := 111) hx hb d_C_chosen_13 (by omega) (by decide) ?_
          refine lv_aload_n hx hb d_C_chosen_111 rfl (lv_at hl 0 rfl) ?_
          refine lv_iload_n hx hb d_C_chosen_112 rfl (lv_at hl 2 rfl) ?_
          obtain ⟨q113, hc113, h⟩ := obd h
          refine wd_cvr (As := [.int x2]) (rest := []) ⟨hx, hb, hml, hown, hts⟩ hK hP r hI.1 hI.2.1 rfl (c_C_chosenByTurns l r x2 M _ hI hc113) (cwV 1 hts (wmV t_86 t_88 t_89 t_59 t_87) rfl rfl rfl (by decide +kernel) ⟨by decide, by decide⟩) rfl hl.1 rfl (Nat.le_of_ble_eq_true rfl) d_C_chosen_113 ⟨Nat.zero_le _, Nat.zero_le _⟩ ?_
          obtain rfl := oe h
          exact wd_iret0 hx hb hr hlk d_C_chosen_116
  · replace h := ogt c7 h
    refine lv_iconst (v := (-1)) hx hb d_C_chosen_10 (by decide) ?_
    obtain rfl := oe h
    exact wd_iret0 hx hb hr hlk d_C_chosen_11
theorem c_C_chosen (l : Launch) (r : Nat) (x1 x2 : Int32) (M : Mm) (sz : Nat) (hI : Is_C dA b N sh B C r) {rv : Int32} (h : f_C_chosen B C r x1 x2 M = some rv) : Met l y_C_chosen (wm y_C_chosen k_C_chosen 4 (some .int)) rm_C_chosen (Pw (dC, dI) cls6 (tyl dA) b N sh [.ref (b + r), .int x1, .int x2] M sz) (Qro rv) 0 0 nofree := by
  refine mk_met (by decide) (Nat.le_of_ble_eq_true rfl) ?_
  intro p e s m below meth c ls G hsz hP hS hl
  subst hsz
  exact w_C_chosen_0 G hI _ _ _ ls hP hS hl h
end
