theorem mk_metK {l : Launch} {y : MethodName} {cc : ByteArray} {nL : Nat} {ret : Option FieldType} {rm : Room} {D : va_G} {cl : List vw_C} {tys : List (ClassId × FieldType)} {b N : Nat} {sh : Shp} {av : List Value} {M : Mm} {sz mc ms : Nat} {Qc : Array Value → State → Outcome → State → Prop} {free : Addr → Prop} (hy : plainName y.cls = true) (hav : (lg_sl av).length ≤ nL)
    (hblk : ∀ (p : Program) (e : Env) (s : State) (m : MethodId) (below : List Frame) (meth : Method) (c : Code) (ls : Array Slot), Cx p s m av.toArray meth c D cl tys y.cls cc nL ret → meth.name = y.name → s.heap.size = sz → va_P D cl (wd b N sh M) s.heap → va_S (frm b) s.heap s.heap [] → lv_has ls nL (lv_args 0 av) → W p l e rm s m av.toArray below meth c s.heap [] 0 0 (MQ below Qc av.toArray s mc ms free) (F0 m 0 ls [])) :
    Met l y (wm y cc nL ret) rm (Pw D cl tys b N sh av M sz) Qc mc ms free := by
  refine Met.ofW (cc := cc) (maxL := nL) (ret := ret) hy rfl ?_
  intro p e s m args below meth c s₁ B hml hv
  obtain ⟨rfl, hsz, hP, hK⟩ := hv
  have hts := atoms_spec (ws := wm y cc nL ret) B.pre
  rw [lg_entry_eq]
  exact hblk p e s m below meth c _ ⟨B.exec, B.bytes, hml, B.returns, findClass_of_methodNamed B.named, fun w h => hts w (List.mem_cons_of_mem _ h), B.notSynchronized, hK⟩ (name_of_methodNamed B.named B.method).1 hsz hP va_S.rf (lv_entry av hav)
abbrev rm_G_init : Room := { frames := 1, cells := 2, slots := 2565, locals := 14 }
def sk_G_init (dA : Nat → ClassId) (b B t r : Nat) (sh : Shp) : Shp := upS (upS (upS (upS (sh) (r + 1) (ia (dA 0) 2560)) r (ob 1 [some (some (b + (r + 1))), some none, none, none, none])) (r + 1 + 1) (ia (dA 0) 5)) r (ob 1 [some (some (b + (r + 1))), some (some (b + (r + 1 + 1))), none, none, none])
def mk_G_init (B r : Nat) (M : Mm) : Mm := upM (upM (M) (r + 1) (fun _ => 0)) (r + 1 + 1) (fun _ => 0)
set_option maxHeartbeats 4000000 in
set_option maxRecDepth 100000 in
theorem c_G_init {dC : Nat → ClassId} {dI : Nat → Nat → Nat} {dA : Nat → ClassId} {b : Nat} (B C t : Nat) (l : Launch) (r : Nat) (sh : Shp) (M : Mm) (sz : Nat) (hsz0 : sz = b + (r + 1)) (hB8 : B ≤ 8) (hs : sh r = ob 1 [some none, some none, none, none, none]) : Met l y_G_init (wm y_G_init k_G_init 1 none) rm_G_init (Pw (dC, dI) cls6 (tyl dA) b (r + 1) sh [.ref (b + r)] M sz) (Qk (dC, dI) cls6 b (r + 3) (sk_G_init dA b B t r sh) (mk_G_init B r M)) 2 2565 (frm b) := by
  refine mk_metK (by decide) (Nat.le_of_ble_eq_true rfl) ?_
  intro p e s m below meth c ls G hin hsz hP hS hl
  rw [hsz0] at hsz
  obtain ⟨hx, hb, hml, hr, hown, hts, hlk, hK⟩ := id G
  have hl : lv_has ls 1 [(0, .ref (b + r))] := hl
  have hin : meth.name = "<init>" := hin
  refine lv_aload_n hx hb d_G_init_0 rfl (lv_at hl 0 rfl) ?_
  refine W.objInit hx hb hown (hts _ t_390) (hts _ t_391) (hts _ t_392) rfl (by rw [hml]; exact hl.1) rfl d_G_init_1 (Nat.le_of_ble_eq_true rfl) (Nat.le_of_ble_eq_true rfl) ?_
  refine lv_aload_n hx hb d_G_init_4 rfl (lv_at hl 0 rfl) ?_
  refine lv_sipush (v := 2560) hx hb d_G_init_5 (by decide) ?_
  refine wk_newa (N' := 2560) (atype := .int) (ty := .int) (cA := dA 0) hx hb (hts _ t_393) rfl hK 0 rfl (fun h => h) rfl hP hS (by rw [hsz]; omega) (wd_lo (by omega) hP) (by decide) (by decide) (show 2560 * 4 ≤ 536870912 by omega) (Nat.le_of_ble_eq_true rfl) (show 0 + 2560 ≤ 2565 by omega) d_G_init_8 (fun H hP hS => ?_)
  obtain ⟨sh1, esh1⟩ : ∃ z, z = upS sh (r + 1) (ia (dA 0) 2560) := ⟨_, rfl⟩
  obtain ⟨M1, eM1⟩ : ∃ z, z = upM M (r + 1) (fun _ => 0) := ⟨_, rfl⟩
  rw [← esh1, ← eM1] at hP
  have hs1 : sh1 r = ob 1 [some none, some none, none, none, none] := by rw [esh1, upS_ne (by omega)]; exact hs
  refine wk_putr hx hb hts i_G ty_G tyok_G nm_G hown hK hP hS r (by omega) hs1 rfl 0 (by decide) t_40 (Nat.le_of_ble_eq_true rfl) rfl hin rfl (ty := .array .int) (by decide +kernel) rfl rfl d_G_init_10 (fun H locs hP hS => ?_)
  obtain ⟨sh2, esh2⟩ : ∃ z, z = upS sh1 r (ob 1 [some (some (b + (r + 1))), some none, none, none, none]) := ⟨_, rfl⟩
  replace hP : va_P (dC, dI) cls6 (wd b (r + 1 + 1) (upS sh1 r (ob 1 [some (some (b + (r + 1))), some none, none, none, none])) M1) H := hP
  rw [← esh2] at hP
  have hs2 : sh2 r = ob 1 [some (some (b + (r + 1))), some none, none, none, none] := by rw [esh2, upS_at]
  refine lv_aload_n hx hb d_G_init_13 rfl (lv_at hl 0 rfl) ?_
  refine lv_iconst (v := 5) hx hb d_G_init_14 (by decide) ?_
  refine wk_newa (N' := 5) (atype := .int) (ty := .int) (cA := dA 0) hx hb (hts _ t_393) rfl hK 0 rfl (fun h => h) rfl hP hS (by rw [hsz]; omega) (wd_lo (by omega) hP) (by decide) (by decide) (show 5 * 4 ≤ 536870912 by omega) (Nat.le_of_ble_eq_true rfl) (show 0 + 2560 + 5 ≤ 2565 by omega) d_G_init_15 (fun H hP hS => ?_)
  obtain ⟨sh3, esh3⟩ : ∃ z, z = upS sh2 (r + 1 + 1) (ia (dA 0) 5) := ⟨_, rfl⟩
  obtain ⟨M3, eM3⟩ : ∃ z, z = upM M1 (r + 1 + 1) (fun _ => 0) := ⟨_, rfl⟩
  rw [← esh3, ← eM3] at hP
  have hs3 : sh3 r = ob 1 [some (some (b + (r + 1))), some none, none, none, none] := by rw [esh3, upS_ne (by omega)]; exact hs2
  refine wk_putr hx hb hts i_G ty_G tyok_G nm_G hown hK hP hS r (by omega) hs3 rfl 1 (by decide) t_47 (Nat.le_of_ble_eq_true rfl) rfl hin rfl (ty := .array .int) (by decide +kernel) rfl rfl d_G_init_17 (fun H locs hP hS => ?_)
  obtain ⟨sh4, esh4⟩ : ∃ z, z = upS sh3 r (ob 1 [some (some (b + (r + 1))), some (some (b + (r + 1 + 1))), none, none, none]) := ⟨_, rfl⟩
  replace hP : va_P (dC, dI) cls6 (wd b (r + 1 + 1 + 1) (upS sh3 r (ob 1 [some (some (b + (r + 1))), some (some (b + (r + 1 + 1))), none, none, none])) M3) H := hP
  rw [← esh4] at hP
  have hs4 : sh4 r = ob 1 [some (some (b + (r + 1))), some (some (b + (r + 1 + 1))), none, none, none] := by rw [esh4, upS_at]
  subst esh4
  subst eM3
  subst esh3
  subst esh2
  subst eM1
  subst esh1
  exact wk_vret hx hb hr hlk hP hS (Nat.le_of_ble_eq_true rfl) (show 0 + 2560 + 5 ≤ 2565 by omega) d_G_init_20
abbrev rm_Q_init : Room := { frames := 1, cells := 5, slots := 40, locals := 14 }
def sk_Q_init (dA : Nat → ClassId) (b B t r : Nat) (sh : Shp) : Shp := upS (upS (upS (upS (upS (upS (upS (upS (upS (upS (sh) (r + 1) (ia (dA 0) 8)) r (ob 2 [some (some (b + (r + 1))), some none, some none, some none, some none, none, none])) (r + 1 + 1) (ia (dA 0) 8)) r (ob 2 [some (some (b + (r + 1))), some (some (b + (r + 1 + 1))), some none, some none, some none, none, none])) (r + 1 + 1 + 1) (ia (dA 0) 8)) r (ob 2 [some (some (b + (r + 1))), some (some (b + (r + 1 + 1))), some (some (b + (r + 1 + 1 + 1))), some none, some none, none, none])) (r + 1 + 1 + 1 + 1) (ia (dA 0) 8)) r (ob 2 [some (some (b + (r + 1))), some (some (b + (r + 1 + 1))), some (some (b + (r + 1 + 1 + 1))), some (some (b + (r + 1 + 1 + 1 + 1))), some none, none, none])) (r + 1 + 1 + 1 + 1 + 1) (ia (dA 1) 8)) r (ob 2 [some (some (b + (r + 1))), some (some (b + (r + 1 + 1))), some (some (b + (r + 1 + 1 + 1))), some (some (b + (r + 1 + 1 + 1 + 1))), some (some (b + (r + 1 + 1 + 1 + 1 + 1))), none, none])
def mk_Q_init (B r : Nat) (M : Mm) : Mm := upM (upM (upM (upM (upM (M) (r + 1) (fun _ => 0)) (r + 1 + 1) (fun _ => 0)) (r + 1 + 1 + 1) (fun _ => 0)) (r + 1 + 1 + 1 + 1) (fun _ => 0)) (r + 1 + 1 + 1 + 1 + 1) (fun _ => 0)
set_option maxHeartbeats 4000000 in
set_option maxRecDepth 100000 in
theorem c_Q_init {dC : Nat → ClassId} {dI : Nat → Nat → Nat} {dA : Nat → ClassId} {b : Nat} (B C t : Nat) (l : Launch) (r : Nat) (sh : Shp) (M : Mm) (sz : Nat) (hsz0 : sz = b + (r + 1)) (hB8 : B ≤ 8) (hs : sh r = ob 2 [some none, some none, some none, some none, some none, none, none]) : Met l y_Q_init (wm y_Q_init k_Q_init 1 none) rm_Q_init (Pw (dC, dI) cls6 (tyl dA) b (r + 1) sh [.ref (b + r)] M sz) (Qk (dC, dI) cls6 b (r + 6) (sk_Q_init dA b B t r sh) (mk_Q_init B r M)) 5 40 (frm b) := by
  refine mk_metK (by decide) (Nat.le_of_ble_eq_true rfl) ?_
  intro p e s m below meth c ls G hin hsz hP hS hl
  rw [hsz0] at hsz
  obtain ⟨hx, hb, hml, hr, hown, hts, hlk, hK⟩ := id G
  have hl : lv_has ls 1 [(0, .ref (b + r))] := hl
  have hin : meth.name = "<init>" := hin
  refine lv_aload_n hx hb d_Q_init_0 rfl (lv_at hl 0 rfl) ?_
  refine W.objInit hx hb hown (hts _ t_394) (hts _ t_391) (hts _ t_392) rfl (by rw [hml]; exact hl.1) rfl d_Q_init_1 (Nat.le_of_ble_eq_true rfl) (Nat.le_of_ble_eq_true rfl) ?_
  refine lv_aload_n hx hb d_Q_init_4 rfl (lv_at hl 0 rfl) ?_
  refine lv_bipush (v := 8) hx hb d_Q_init_5 (by decide) ?_
  refine wk_newa (N' := 8) (atype := .int) (ty := .int) (cA := dA 0) hx hb (hts _ t_393) rfl hK 0 rfl (fun h => h) rfl hP hS (by rw [hsz]; omega) (wd_lo (by omega) hP) (by decide) (by decide) (show 8 * 4 ≤ 536870912 by omega) (Nat.le_of_ble_eq_true rfl) (show 0 + 8 ≤ 40 by omega) d_Q_init_7 (fun H hP hS => ?_)
  obtain ⟨sh1, esh1⟩ : ∃ z, z = upS sh (r + 1) (ia (dA 0) 8) := ⟨_, rfl⟩
  obtain ⟨M1, eM1⟩ : ∃ z, z = upM M (r + 1) (fun _ => 0) := ⟨_, rfl⟩
  rw [← esh1, ← eM1] at hP
  have hs1 : sh1 r = ob 2 [some none, some none, some none, some none, some none, none, none] := by rw [esh1, upS_ne (by omega)]; exact hs
  refine wk_putr hx hb hts i_Q ty_Q tyok_Q nm_Q hown hK hP hS r (by omega) hs1 rfl 0 (by decide) t_33 (Nat.le_of_ble_eq_true rfl) rfl hin rfl (ty := .array .int) (by decide +kernel) rfl rfl d_Q_init_9 (fun H locs hP hS => ?_)
  obtain ⟨sh2, esh2⟩ : ∃ z, z = upS sh1 r (ob 2 [some (some (b + (r + 1))), some none, some none, some none, some none, none, none]) := ⟨_, rfl⟩
  replace hP : va_P (dC, dI) cls6 (wd b (r + 1 + 1) (upS sh1 r (ob 2 [some (some (b + (r + 1))), some none, some none, some none, some none, none, none])) M1) H := hP
  rw [← esh2] at hP
  have hs2 : sh2 r = ob 2 [some (some (b + (r + 1))), some none, some none, some none, some none, none, none] := by rw [esh2, upS_at]
  refine lv_aload_n hx hb d_Q_init_12 rfl (lv_at hl 0 rfl) ?_
  refine lv_bipush (v := 8) hx hb d_Q_init_13 (by decide) ?_
  refine wk_newa (N' := 8) (atype := .int) (ty := .int) (cA := dA 0) hx hb (hts _ t_393) rfl hK 0 rfl (fun h => h) rfl hP hS (by rw [hsz]; omega) (wd_lo (by omega) hP) (by decide) (by decide) (show 8 * 4 ≤ 536870912 by omega) (Nat.le_of_ble_eq_true rfl) (show 0 + 8 + 8 ≤ 40 by omega) d_Q_init_15 (fun H hP hS => ?_)
  obtain ⟨sh3, esh3⟩ : ∃ z, z = upS sh2 (r + 1 + 1) (ia (dA 0) 8) := ⟨_, rfl⟩
  obtain ⟨M3, eM3⟩ : ∃ z, z = upM M1 (r + 1 + 1) (fun _ => 0) := ⟨_, rfl⟩
  rw [← esh3, ← eM3] at hP
  have hs3 : sh3 r = ob 2 [some (some (b + (r + 1))), some none, some none, some none, some none, none, none] := by rw [esh3, upS_ne (by omega)]; exact hs2
  refine wk_putr hx hb hts i_Q ty_Q tyok_Q nm_Q hown hK hP hS r (by omega) hs3 rfl 1 (by decide) t_34 (Nat.le_of_ble_eq_true rfl) rfl hin rfl (ty := .array .int) (by decide +kernel) rfl rfl d_Q_init_17 (fun H locs hP hS => ?_)
  obtain ⟨sh4, esh4⟩ : ∃ z, z = upS sh3 r (ob 2 [some (some (b + (r + 1))), some (some (b + (r + 1 + 1))), some none, some none, some none, none, none]) := ⟨_, rfl⟩
  replace hP : va_P (dC, dI) cls6 (wd b (r + 1 + 1 + 1) (upS sh3 r (ob 2 [some (some (b + (r + 1))), some (some (b + (r + 1 + 1))), some none, some none, some none, none, none])) M3) H := hP
  rw [← esh4] at hP
  have hs4 : sh4 r = ob 2 [some (some (b + (r + 1))), some (some (b + (r + 1 + 1))), some none, some none, some none, none, none] := by rw [esh4, upS_at]
  refine lv_aload_n hx hb d_Q_init_20 rfl (lv_at hl 0 rfl) ?_
  refine lv_bipush (v := 8) hx hb d_Q_init_21 (by decide) ?_
  refine wk_newa (N' := 8) (atype := .int) (ty := .int) (cA := dA 0) hx hb (hts _ t_393) rfl hK 0 rfl (fun h => h) rfl hP hS (by rw [hsz]; omega) (wd_lo (by omega) hP) (by decide) (by decide) (show 8 * 4 ≤ 536870912 by omega) (Nat.le_of_ble_eq_true rfl) (show 0 + 8 + 8 + 8 ≤ 40 by omega) d_Q_init_23 (fun H hP hS => ?_)
  obtain ⟨sh5, esh5⟩ : ∃ z, z = upS sh4 (r + 1 + 1 + 1) (ia (dA 0) 8) := ⟨_, rfl⟩
  obtain ⟨M5, eM5⟩ : ∃ z, z = upM M3 (r + 1 + 1 + 1) (fun _ => 0) := ⟨_, rfl⟩
  rw [← esh5, ← eM5] at hP
  have hs5 : sh5 r = ob 2 [some (some (b + (r + 1))), some (some (b + (r + 1 + 1))), some none, some none, some none, none, none] := by rw [esh5, upS_ne (by omega)]; exact hs4
  refine wk_putr hx hb hts i_Q ty_Q tyok_Q nm_Q hown hK hP hS r (by omega) hs5 rfl 2 (by decide) t_35 (Nat.le_of_ble_eq_true rfl) rfl hin rfl (ty := .array .int) (by decide +kernel) rfl rfl d_Q_init_25 (fun H locs hP hS => ?_)
  obtain ⟨sh6, esh6⟩ : ∃ z, z = upS sh5 r (ob 2 [some (some (b + (r + 1))), some (some (b + (r + 1 + 1))), some (some (b + (r + 1 + 1 + 1))), some none, some none, none, none]) := ⟨_, rfl⟩
  replace hP : va_P (dC, dI) cls6 (wd b (r + 1 + 1 + 1 + 1) (upS sh5 r (ob 2 [some (some (b + (r + 1))), some (some (b + (r + 1 + 1))), some (some (b + (r + 1 + 1 + 1))), some none, some none, none, none])) M5) H := hP
  rw [← esh6] at hP
  have hs6 : sh6 r = ob 2 [some (some (b + (r + 1))), some (some (b + (r + 1 + 1))), some (some (b + (r + 1 + 1 + 1))), some none, some none, none, none] := by rw [esh6, upS_at]
  refine lv_aload_n hx hb d_Q_init_28 rfl (lv_at hl 0 rfl) ?_
  refine lv_bipush (v := 8) hx hb d_Q_init_29 (by decide) ?_
  refine wk_newa (N' := 8) (atype := .int) (ty := .int) (cA := dA 0) hx hb (hts _ t_393) rfl hK 0 rfl (fun h => h) rfl hP hS (by rw [hsz]; omega) (wd_lo (by omega) hP) (by decide) (by decide) (show 8 * 4 ≤ 536870912 by omega) (Nat.le_of_ble_eq_true rfl) (show 0 + 8 + 8 + 8 + 8 ≤ 40 by omega) d_Q_init_31 (fun H hP hS => ?_)
  obtain ⟨sh7, esh7⟩ : ∃ z, z = upS sh6 (r + 1 + 1 + 1 + 1) (ia (dA 0) 8) := ⟨_, rfl⟩
  obtain ⟨M7, eM7⟩ : ∃ z, z = upM M5 (r + 1 + 1 + 1 + 1) (fun _ => 0) := ⟨_, rfl⟩
  rw [← esh7, ← eM7] at hP
  have hs7 : sh7 r = ob 2 [some (some (b + (r + 1))), some (some (b + (r + 1 + 1))), some (some (b + (r + 1 + 1 + 1))), some none, some none, none, none] := by rw [esh7, upS_ne (by omega)]; exact hs6
  refine wk_putr hx hb hts i_Q ty_Q tyok_Q nm_Q hown hK hP hS r (by omega) hs7 rfl 3 (by decide) t_36 (Nat.le_of_ble_eq_true rfl) rfl hin rfl (ty := .array .int) (by decide +kernel) rfl rfl d_Q_init_33 (fun H locs hP hS => ?_)
  obtain ⟨sh8, esh8⟩ : ∃ z, z = upS sh7 r (ob 2 [some (some (b + (r + 1))), some (some (b + (r + 1 + 1))), some (some (b + (r + 1 + 1 + 1))), some (some (b + (r + 1 + 1 + 1 + 1))), some none, none, none]) := ⟨_, rfl⟩
  replace hP : va_P (dC, dI) cls6 (wd b (r + 1 + 1 + 1 + 1 + 1) (upS sh7 r (ob 2 [some (some (b + (r + 1))), some (some (b + (r + 1 + 1))), some (some (b + (r + 1 + 1 + 1))), some (some (b + (r + 1 + 1 + 1 + 1))), some none, none, none])) M7) H := hP
  rw [← esh8] at hP
  have hs8 : sh8 r = ob 2 [some (some (b + (r + 1))), some (some (b + (r + 1 + 1))), some (some (b + (r + 1 + 1 + 1))), some (some (b + (r + 1 + 1 + 1 + 1))), some none, none, none] := by rw [esh8, upS_at]
  refine lv_aload_n hx hb d_Q_init_36 rfl (lv_at hl 0 rfl) ?_
  refine lv_bipush (v := 8) hx hb d_Q_init_37 (by decide) ?_
  refine wk_newa (N' := 8) (atype := .boolean) (ty := .boolean) (cA := dA 1) hx hb (hts _ t_395) rfl hK 1 rfl (fun h => h) rfl hP hS (by rw [hsz]; omega) (wd_lo (by omega) hP) (by decide) (by decide) (show 8 * 1 ≤ 536870912 by omega) (Nat.le_of_ble_eq_true rfl) (show 0 + 8 + 8 + 8 + 8 + 8 ≤ 40 by omega) d_Q_init_39 (fun H hP hS => ?_)
  obtain ⟨sh9, esh9⟩ : ∃ z, z = upS sh8 (r + 1 + 1 + 1 + 1 + 1) (ia (dA 1) 8) := ⟨_, rfl⟩
  obtain ⟨M9, eM9⟩ : ∃ z, z = upM M7 (r + 1 + 1 + 1 + 1 + 1) (fun _ => 0) := ⟨_, rfl⟩
  rw [← esh9, ← eM9] at hP
  have hs9 : sh9 r = ob 2 [some (some (b + (r + 1))), some (some (b + (r + 1 + 1))), some (some (b + (r + 1 + 1 + 1))), some (some (b + (r + 1 + 1 + 1 + 1))), some none, none, none] := by rw [esh9, upS_ne (by omega)]; exact hs8
  refine wk_putr hx hb hts i_Q ty_Q tyok_Q nm_Q hown hK hP hS r (by omega) hs9 rfl 4 (by decide) t_37 (Nat.le_of_ble_eq_true rfl) rfl hin rfl (ty := .array .boolean) (by decide +kernel) rfl rfl d_Q_init_41 (fun H locs hP hS => ?_)
  obtain ⟨sh10, esh10⟩ : ∃ z, z = upS sh9 r (ob 2 [some (some (b + (r + 1))), some (some (b + (r + 1 + 1))), some (some (b + (r + 1 + 1 + 1))), some (some (b + (r + 1 + 1 + 1 + 1))), some (some (b + (r + 1 + 1 + 1 + 1 + 1))), none, none]) := ⟨_, rfl⟩
  replace hP : va_P (dC, dI) cls6 (wd b (r + 1 + 1 + 1 + 1 + 1 + 1) (upS sh9 r (ob 2 [some (some (b + (r + 1))), some (some (b + (r + 1 + 1))), some (some (b + (r + 1 + 1 + 1))), some (some (b + (r + 1 + 1 + 1 + 1))), some (some (b + (r + 1 + 1 + 1 + 1 + 1))), none, none])) M9) H := hP
  rw [← esh10] at hP
  have hs10 : sh10 r = ob 2 [some (some (b + (r + 1))), some (some (b + (r + 1 + 1))), some (some (b + (r + 1 + 1 + 1))), some (some (b + (r + 1 + 1 + 1 + 1))), some (some (b + (r + 1 + 1 + 1 + 1 + 1))), none, none] := by rw [esh10, upS_at]
  subst esh10
  subst eM9
  subst esh9
  subst esh8
  subst eM7
  subst esh7
  subst esh6
  subst eM5
  subst esh5
  subst esh4
  subst eM3
  subst esh3
  subst esh2
  subst eM1
  subst esh1
  exact wk_vret hx hb hr hlk hP hS (Nat.le_of_ble_eq_true rfl) (show 0 + 8 + 8 + 8 + 8 + 8 ≤ 40 by omega) d_Q_init_44
abbrev rm_R_init : Room := { frames := 2, cells := 6, slots := 44, locals := 43 }
def sk_R_init (dA : Nat → ClassId) (b B t r : Nat) (sh : Shp) : Shp := upS (upS (upS (upS (upS (upS (upS (upS (upS (upS (upS (upS (upS (sh) r (ob 3 [some (some t), some none, some none, some none, some none, some none, some none, none, none, none, none])) (r + 1) (ia (dA 0) B)) r (ob 3 [some (some t), some (some (b + (r + 1))), some none, some none, some none, some none, some none, none, none, none, none])) (r + 1 + 1) (ia (dA 0) B)) r (ob 3 [some (some t), some (some (b + (r + 1))), some (some (b + (r + 1 + 1))), some none, some none, some none, some none, none, none, none, none])) (r + 1 + 1 + 1) (ia (dA 0) B)) r (ob 3 [some (some t), some (some (b + (r + 1))), some (some (b + (r + 1 + 1))), some (some (b + (r + 1 + 1 + 1))), some none, some none, some none, none, none, none, none])) (r + 1 + 1 + 1 + 1) (ia (dA 0) B)) r (ob 3 [some (some t), some (some (b + (r + 1))), some (some (b + (r + 1 + 1))), some (some (b + (r + 1 + 1 + 1))), some (some (b + (r + 1 + 1 + 1 + 1))), some none, some none, none, none, none, none])) (r + 1 + 1 + 1 + 1 + 1) (ia (dA 0) B)) r (ob 3 [some (some t), some (some (b + (r + 1))), some (some (b + (r + 1 + 1))), some (some (b + (r + 1 + 1 + 1))), some (some (b + (r + 1 + 1 + 1 + 1))), some (some (b + (r + 1 + 1 + 1 + 1 + 1))), some none, none, none, none, none])) (r + 1 + 1 + 1 + 1 + 1 + 1) (ia (dA 0) 4)) r (ob 3 [some (some t), some (some (b + (r + 1))), some (some (b + (r + 1 + 1))), some (some (b + (r + 1 + 1 + 1))), some (some (b + (r + 1 + 1 + 1 + 1))), some (some (b + (r + 1 + 1 + 1 + 1 + 1))), some (some (b + (r + 1 + 1 + 1 + 1 + 1 + 1))), none, none, none, none])
def mk_R_init (B r : Nat) (M : Mm) : Mm := rsF r B (upM (upM (upM (upM (upM (upM (M) (r + 1) (fun _ => 0)) (r + 1 + 1) (fun _ => 0)) (r + 1 + 1 + 1) (fun _ => 0)) (r + 1 + 1 + 1 + 1) (fun _ => 0)) (r + 1 + 1 + 1 + 1 + 1) (fun _ => 0)) (r + 1 + 1 + 1 + 1 + 1 + 1) (fun _ => 0))
set_option maxHeartbeats 4000000 in
set_option maxRecDepth 100000 in
theorem c_R_init {dC : Nat → ClassId} {dI : Nat → Nat → Nat} {dA : Nat → ClassId} {b : Nat} (B C t : Nat) (l : Launch) (r : Nat) (x1 : Int32) (sh : Shp) (M : Mm) (sz : Nat) (hsz0 : sz = b + (r + 1)) (hB8 : B ≤ 8) (hB : x1 = nI B) (hs : sh r = ob 3 [some none, some none, some none, some none, some none, some none, some none, none, none, none, none]) : Met l y_R_init (wm y_R_init k_R_init 3 none) rm_R_init (Pw (dC, dI) cls6 (tyl dA) b (r + 1) sh [.ref (b + r), .int x1, .ref t] M sz) (Qk (dC, dI) cls6 b (r + 7) (sk_R_init dA b B t r sh) (mk_R_init B r M)) 6 44 (frm b) := by
  refine mk_metK (by decide) (Nat.le_of_ble_eq_true rfl) ?_
  intro p e s m below meth c ls G hin hsz hP hS hl
  rw [hsz0] at hsz
  obtain ⟨hx, hb, hml, hr, hown, hts, hlk, hK⟩ := id G
  have hl : lv_has ls 3 [(0, .ref (b + r)), (1, .int x1), (2, .ref t)] := hl
  have hin : meth.name = "<init>" := hin
  refine lv_aload_n hx hb d_R_init_0 rfl (lv_at hl 0 rfl) ?_
  refine W.objInit hx hb hown (hts _ t_396) (hts _ t_391) (hts _ t_392) rfl (by rw [hml]; exact hl.1) rfl d_R_init_1 (Nat.le_of_ble_eq_true rfl) (Nat.le_of_ble_eq_true rfl) ?_
  refine lv_aload_n hx hb d_R_init_4 rfl (lv_at hl 0 rfl) ?_
  refine lv_aload_n hx hb d_R_init_5 rfl (lv_at hl 2 rfl) ?_
  refine wk_putr hx hb hts i_R ty_R tyok_R nm_R hown hK hP hS r (by omega) hs rfl 0 (by decide) t_8 (Nat.le_of_ble_eq_true rfl) rfl hin rfl (ty := .array .int) (by decide +kernel) rfl rfl d_R_init_6 (fun H locs hP hS => ?_)
  obtain ⟨sh1, esh1⟩ : ∃ z, z = upS sh r (ob 3 [some (some t), some none, some none, some none, some none, some none, some none, none, none, none, none]) := ⟨_, rfl⟩
  replace hP : va_P (dC, dI) cls6 (wd b (r + 1) (upS sh r (ob 3 [some (some t), some none, some none, some none, some none, some none, some none, none, none, none, none])) M) H := hP
  rw [← esh1] at hP
  have hs1 : sh1 r = ob 3 [some (some t), some none, some none, some none, some none, some none, some none, none, none, none, none] := by rw [esh1, upS_at]
  refine lv_aload_n hx hb d_R_init_9 rfl (lv_at hl 0 rfl) ?_
  refine lv_iload_n hx hb d_R_init_10 rfl (lv_at hl 1 rfl) ?_
  refine wk_newa (N' := B) (atype := .int) (ty := .int) (cA := dA 0) hx hb (hts _ t_393) rfl hK 0 rfl (fun h => h) rfl hP hS (by rw [hsz]; omega) (wd_lo (by omega) hP) (hB ▸ nI_pos (by omega)) (by rw [hB]; exact nI_clamp (by omega)) (show B * 4 ≤ 536870912 by omega) (Nat.le_of_ble_eq_true rfl) (show 0 + B ≤ 44 by omega) d_R_init_11 (fun H hP hS => ?_)
  obtain ⟨sh2, esh2⟩ : ∃ z, z = upS sh1 (r + 1) (ia (dA 0) B) := ⟨_, rfl⟩
  obtain ⟨M2, eM2⟩ : ∃ z, z = upM M (r + 1) (fun _ => 0) := ⟨_, rfl⟩
  rw [← esh2, ← eM2] at hP
  have hs2 : sh2 r = ob 3 [some (some t), some none, some none, some none, some none, some none, some none, none, none, none, none] := by rw [esh2, upS_ne (by omega)]; exact hs1
  refine wk_putr hx hb hts i_R ty_R tyok_R nm_R hown hK hP hS r (by omega) hs2 rfl 1 (by decide) t_14 (Nat.le_of_ble_eq_true rfl) rfl hin rfl (ty := .array .int) (by decide +kernel) rfl rfl d_R_init_13 (fun H locs hP hS => ?_)
  obtain ⟨sh3, esh3⟩ : ∃ z, z = upS sh2 r (ob 3 [some (some t), some (some (b + (r + 1))), some none, some none, some none, some none, some none, none, none, none, none]) := ⟨_, rfl⟩
  replace hP : va_P (dC, dI) cls6 (wd b (r + 1 + 1) (upS sh2 r (ob 3 [some (some t), some (some (b + (r + 1))), some none, some none, some none, some none, some none, none, none, none, none])) M2) H := hP
  rw [← esh3] at hP
  have hs3 : sh3 r = ob 3 [some (some t), some (some (b + (r + 1))), some none, some none, some none, some none, some none, none, none, none, none] := by rw [esh3, upS_at]
  refine lv_aload_n hx hb d_R_init_16 rfl (lv_at hl 0 rfl) ?_
  refine lv_iload_n hx hb d_R_init_17 rfl (lv_at hl 1 rfl) ?_
  refine wk_newa (N' := B) (atype := .int) (ty := .int) (cA := dA 0) hx hb (hts _ t_393) rfl hK 0 rfl (fun h => h) rfl hP hS (by rw [hsz]; omega) (wd_lo (by omega) hP) (hB ▸ nI_pos (by omega)) (by rw [hB]; exact nI_clamp (by omega)) (show B * 4 ≤ 536870912 by omega) (Nat.le_of_ble_eq_true rfl) (show 0 + B + B ≤ 44 by omega) d_R_init_18 (fun H hP hS => ?_)
  obtain ⟨sh4, esh4⟩ : ∃ z, z = upS sh3 (r + 1 + 1) (ia (dA 0) B) := ⟨_, rfl⟩
  obtain ⟨M4, eM4⟩ : ∃ z, z = upM M2 (r + 1 + 1) (fun _ => 0) := ⟨_, rfl⟩
  rw [← esh4, ← eM4] at hP
  have hs4 : sh4 r = ob 3 [some (some t), some (some (b + (r + 1))), some none, some none, some none, some none, some none, none, none, none, none] := by rw [esh4, upS_ne (by omega)]; exact hs3
  refine wk_putr hx hb hts i_R ty_R tyok_R nm_R hown hK hP hS r (by omega) hs4 rfl 2 (by decide) t_0 (Nat.le_of_ble_eq_true rfl) rfl hin rfl (ty := .array .int) (by decide +kernel) rfl rfl d_R_init_20 (fun H locs hP hS => ?_)
  obtain ⟨sh5, esh5⟩ : ∃ z, z = upS sh4 r (ob 3 [some (some t), some (some (b + (r + 1))), some (some (b + (r + 1 + 1))), some none, some none, some none, some none, none, none, none, none]) := ⟨_, rfl⟩
  replace hP : va_P (dC, dI) cls6 (wd b (r + 1 + 1 + 1) (upS sh4 r (ob 3 [some (some t), some (some (b + (r + 1))), some (some (b + (r + 1 + 1))), some none, some none, some none, some none, none, none, none, none])) M4) H := hP
  rw [← esh5] at hP
  have hs5 : sh5 r = ob 3 [some (some t), some (some (b + (r + 1))), some (some (b + (r + 1 + 1))), some none, some none, some none, some none, none, none, none, none] := by rw [esh5, upS_at]
  refine lv_aload_n hx hb d_R_init_23 rfl (lv_at hl 0 rfl) ?_
  refine lv_iload_n hx hb d_R_init_24 rfl (lv_at hl 1 rfl) ?_
  refine wk_newa (N' := B) (atype := .int) (ty := .int) (cA := dA 0) hx hb (hts _ t_393) rfl hK 0 rfl (fun h => h) rfl hP hS (by rw [hsz]; omega) (wd_lo (by omega) hP) (hB ▸ nI_pos (by omega)) (by rw [hB]; exact nI_clamp (by omega)) (show B * 4 ≤ 536870912 by omega) (Nat.le_of_ble_eq_true rfl) (show 0 + B + B + B ≤ 44 by omega) d_R_init_25 (fun H hP hS => ?_)
  obtain ⟨sh6, esh6⟩ : ∃ z, z = upS sh5 (r + 1 + 1 + 1) (ia (dA 0) B) := ⟨_, rfl⟩
  obtain ⟨M6, eM6⟩ : ∃ z, z = upM M4 (r + 1 + 1 + 1) (fun _ => 0) := ⟨_, rfl⟩
  rw [← esh6, ← eM6] at hP
  have hs6 : sh6 r = ob 3 [some (some t), some (some (b + (r + 1))), some (some (b + (r + 1 + 1))), some none, some none, some none, some none, none, none, none, none] := by rw [esh6, upS_ne (by omega)]; exact hs5
  refine wk_putr hx hb hts i_R ty_R tyok_R nm_R hown hK hP hS r (by omega) hs6 rfl 3 (by decide) t_2 (Nat.le_of_ble_eq_true rfl) rfl hin rfl (ty := .array .int) (by decide +kernel) rfl rfl d_R_init_27 (fun H locs hP hS => ?_)
  obtain ⟨sh7, esh7⟩ : ∃ z, z = upS sh6 r (ob 3 [some (some t), some (some (b + (r + 1))), some (some (b + (r + 1 + 1))), some (some (b + (r + 1 + 1 + 1))), some none, some none, some none, none, none, none, none]) := ⟨_, rfl⟩
  replace hP : va_P (dC, dI) cls6 (wd b (r + 1 + 1 + 1 + 1) (upS sh6 r (ob 3 [some (some t), some (some (b + (r + 1))), some (some (b + (r + 1 + 1))), some (some (b + (r + 1 + 1 + 1))), some none, some none, some none, none, none, none, none])) M6) H := hP
  rw [← esh7] at hP
  have hs7 : sh7 r = ob 3 [some (some t), some (some (b + (r + 1))), some (some (b + (r + 1 + 1))), some (some (b + (r + 1 + 1 + 1))), some none, some none, some none, none, none, none, none] := by rw [esh7, upS_at]
  refine lv_aload_n hx hb d_R_init_30 rfl (lv_at hl 0 rfl) ?_
  refine lv_iload_n hx hb d_R_init_31 rfl (lv_at hl 1 rfl) ?_
  refine wk_newa (N' := B) (atype := .int) (ty := .int) (cA := dA 0) hx hb (hts _ t_393) rfl hK 0 rfl (fun h => h) rfl hP hS (by rw [hsz]; omega) (wd_lo (by omega) hP) (hB ▸ nI_pos (by omega)) (by rw [hB]; exact nI_clamp (by omega)) (show B * 4 ≤ 536870912 by omega) (Nat.le_of_ble_eq_true rfl) (show 0 + B + B + B + B ≤ 44 by omega) d_R_init_32 (fun H hP hS => ?_)
  obtain ⟨sh8, esh8⟩ : ∃ z, z = upS sh7 (r + 1 + 1 + 1 + 1) (ia (dA 0) B) := ⟨_, rfl⟩
  obtain ⟨M8, eM8⟩ : ∃ z, z = upM M6 (r + 1 + 1 + 1 + 1) (fun _ => 0) := ⟨_, rfl⟩
  rw [← esh8, ← eM8] at hP
  have hs8 : sh8 r = ob 3 [some (some t), some (some (b + (r + 1))), some (some (b + (r + 1 + 1))), some (some (b + (r + 1 + 1 + 1))), some none, some none, some none, none, none, none, none] := by rw [esh8, upS_ne (by omega)]; exact hs7
  refine wk_putr hx hb hts i_R ty_R tyok_R nm_R hown hK hP hS r (by omega) hs8 rfl 4 (by decide) t_5 (Nat.le_of_ble_eq_true rfl) rfl hin rfl (ty := .array .int) (by decide +kernel) rfl rfl d_R_init_34 (fun H locs hP hS => ?_)
  obtain ⟨sh9, esh9⟩ : ∃ z, z = upS sh8 r (ob 3 [some (some t), some (some (b + (r + 1))), some (some (b + (r + 1 + 1))), some (some (b + (r + 1 + 1 + 1))), some (some (b + (r + 1 + 1 + 1 + 1))), some none, some none, none, none, none, none]) := ⟨_, rfl⟩
  replace hP : va_P (dC, dI) cls6 (wd b (r + 1 + 1 + 1 + 1 + 1) (upS sh8 r (ob 3 [some (some t), some (some (b + (r + 1))), some (some (b + (r + 1 + 1))), some (some (b + (r + 1 + 1 + 1))), some (some (b + (r + 1 + 1 + 1 + 1))), some none, some none, none, none, none, none])) M8) H := hP
  rw [← esh9] at hP
  have hs9 : sh9 r = ob 3 [some (some t), some (some (b + (r + 1))), some (some (b + (r + 1 + 1))), some (some (b + (r + 1 + 1 + 1))), some (some (b + (r + 1 + 1 + 1 + 1))), some none, some none, none, none, none, none] := by rw [esh9, upS_at]
  refine lv_aload_n hx hb d_R_init_37 rfl (lv_at hl 0 rfl) ?_
  refine lv_iload_n hx hb d_R_init_38 rfl (lv_at hl 1 rfl) ?_
  refine wk_newa (N' := B) (atype := .int) (ty := .int) (cA := dA 0) hx hb (hts _ t_393) rfl hK 0 rfl (fun h => h) rfl hP hS (by rw [hsz]; omega) (wd_lo (by omega) hP) (hB ▸ nI_pos (by omega)) (by rw [hB]; exact nI_clamp (by omega)) (show B * 4 ≤ 536870912 by omega) (Nat.le_of_ble_eq_true rfl) (show 0 + B + B + B + B + B ≤ 44 by omega) d_R_init_39 (fun H hP hS => ?_)
  obtain ⟨sh10, esh10⟩ : ∃ z, z = upS sh9 (r + 1 + 1 + 1 + 1 + 1) (ia (dA 0) B) := ⟨_, rfl⟩
  obtain ⟨M10, eM10⟩ : ∃ z, z = upM M8 (r + 1 + 1 + 1 + 1 + 1) (fun _ => 0) := ⟨_, rfl⟩
  rw [← esh10, ← eM10] at hP
  have hs10 : sh10 r = ob 3 [some (some t), some (some (b + (r + 1))), some (some (b + (r + 1 + 1))), some (some (b + (r + 1 + 1 + 1))), some (some (b + (r + 1 + 1 + 1 + 1))), some none, some none, none, none, none, none] := by rw [esh10, upS_ne (by omega)]; exact hs9
  refine wk_putr hx hb hts i_R ty_R tyok_R nm_R hown hK hP hS r (by omega) hs10 rfl 5 (by decide) t_1 (Nat.le_of_ble_eq_true rfl) rfl hin rfl (ty := .array .int) (by decide +kernel) rfl rfl d_R_init_41 (fun H locs hP hS => ?_)
  obtain ⟨sh11, esh11⟩ : ∃ z, z = upS sh10 r (ob 3 [some (some t), some (some (b + (r + 1))), some (some (b + (r + 1 + 1))), some (some (b + (r + 1 + 1 + 1))), some (some (b + (r + 1 + 1 + 1 + 1))), some (some (b + (r + 1 + 1 + 1 + 1 + 1))), some none, none, none, none, none]) := ⟨_, rfl⟩
  replace hP : va_P (dC, dI) cls6 (wd b (r + 1 + 1 + 1 + 1 + 1 + 1) (upS sh10 r (ob 3 [some (some t), some (some (b + (r + 1))), some (some (b + (r + 1 + 1))), some (some (b + (r + 1 + 1 + 1))), some (some (b + (r + 1 + 1 + 1 + 1))), some (some (b + (r + 1 + 1 + 1 + 1 + 1))), some none, none, none, none, none])) M10) H := hP
  rw [← esh11] at hP
  have hs11 : sh11 r = ob 3 [some (some t), some (some (b + (r + 1))), some (some (b + (r + 1 + 1))), some (some (b + (r + 1 + 1 + 1))), some (some (b + (r + 1 + 1 + 1 + 1))), some (some (b + (r + 1 + 1 + 1 + 1 + 1))), some none, none, none, none, none] := by rw [esh11, upS_at]
  refine lv_aload_n hx hb d_R_init_44 rfl (lv_at hl 0 rfl) ?_
  refine lv_iconst (v := 4) hx hb d_R_init_45 (by decide) ?_
  refine wk_newa (N' := 4) (atype := .int) (ty := .int) (cA := dA 0) hx hb (hts _ t_393) rfl hK 0 rfl (fun h => h) rfl hP hS (by rw [hsz]; omega) (wd_lo (by omega) hP) (by decide) (by decide) (show 4 * 4 ≤ 536870912 by omega) (Nat.le_of_ble_eq_true rfl) (show 0 + B + B + B + B + B + 4 ≤ 44 by omega) d_R_init_46 (fun H hP hS => ?_)
  obtain ⟨sh12, esh12⟩ : ∃ z, z = upS sh11 (r + 1 + 1 + 1 + 1 + 1 + 1) (ia (dA 0) 4) := ⟨_, rfl⟩
  obtain ⟨M12, eM12⟩ : ∃ z, z = upM M10 (r + 1 + 1 + 1 + 1 + 1 + 1) (fun _ => 0) := ⟨_, rfl⟩
  rw [← esh12, ← eM12] at hP
  have hs12 : sh12 r = ob 3 [some (some t), some (some (b + (r + 1))), some (some (b + (r + 1 + 1))), some (some (b + (r + 1 + 1 + 1))), some (some (b + (r + 1 + 1 + 1 + 1))), some (some (b + (r + 1 + 1 + 1 + 1 + 1))), some none, none, none, none, none] := by rw [esh12, upS_ne (by omega)]; exact hs11
  refine wk_putr hx hb hts i_R ty_R tyok_R nm_R hown hK hP hS r (by omega) hs12 rfl 6 (by decide) t_6 (Nat.le_of_ble_eq_true rfl) rfl hin rfl (ty := .array .int) (by decide +kernel) rfl rfl d_R_init_48 (fun H locs hP hS => ?_)
  obtain ⟨sh13, esh13⟩ : ∃ z, z = upS sh12 r (ob 3 [some (some t), some (some (b + (r + 1))), some (some (b + (r + 1 + 1))), some (some (b + (r + 1 + 1 + 1))), some (some (b + (r + 1 + 1 + 1 + 1))), some (some (b + (r + 1 + 1 + 1 + 1 + 1))), some (some (b + (r + 1 + 1 + 1 + 1 + 1 + 1))), none, none, none, none]) := ⟨_, rfl⟩
  replace hP : va_P (dC, dI) cls6 (wd b (r + 1 + 1 + 1 + 1 + 1 + 1 + 1) (upS sh12 r (ob 3 [some (some t), some (some (b + (r + 1))), some (some (b + (r + 1 + 1))), some (some (b + (r + 1 + 1 + 1))), some (some (b + (r + 1 + 1 + 1 + 1))), some (some (b + (r + 1 + 1 + 1 + 1 + 1))), some (some (b + (r + 1 + 1 + 1 + 1 + 1 + 1))), none, none, none, none])) M12) H := hP
  rw [← esh13] at hP
  have hs13 : sh13 r = ob 3 [some (some t), some (some (b + (r + 1))), some (some (b + (r + 1 + 1))), some (some (b + (r + 1 + 1 + 1))), some (some (b + (r + 1 + 1 + 1 + 1))), some (some (b + (r + 1 + 1 + 1 + 1 + 1))), some (some (b + (r + 1 + 1 + 1 + 1 + 1 + 1))), none, none, none, none] := by rw [esh13, upS_at]
  refine lv_aload_n hx hb d_R_init_51 rfl (lv_at hl 0 rfl) ?_
  have hIF : Is_F dA b (r + 1 + 1 + 1 + 1 + 1 + 1 + 1) sh13 B C t r := by
    refine ⟨by omega, hs13, ?_, ?_, ?_, ?_, ?_, ?_⟩
    all_goals (refine ⟨by omega, ?_⟩; simp [esh1, esh2, esh3, esh4, esh5, esh6, esh7, esh8, esh9, esh10, esh11, esh12, esh13, upS])
  have hfg := forget_eq (B := B) (C := C) (r := r) (M := M12) hB8
  refine wk_cvv (As := []) (rest := []) ⟨hx, hb, hml, hown, hts⟩ hK hP hS (Nat.le_trans (Nat.le_add_right _ _) (wd_lo (by omega) hP)) r (by omega) hs13 rfl (c_R_forget l r M12 _ hIF hfg) (cwV 0 hts (wmV t_397 t_157 t_158 t_13 t_156) rfl rfl rfl (by decide +kernel) ⟨by decide, by decide⟩) rfl hl.1 rfl (Nat.le_of_ble_eq_true rfl) d_R_init_52 ⟨Nat.le_of_ble_eq_true rfl, show 0 + B + B + B + B + B + 4 + 0 ≤ 44 by omega⟩ (fun H locs hP hS => ?_)
  subst esh13
  subst eM12
  subst esh12
  subst esh11
  subst eM10
  subst esh10
  subst esh9
  subst eM8
  subst esh8
  subst esh7
  subst eM6
  subst esh6
  subst esh5
  subst eM4
  subst esh4
  subst esh3
  subst eM2
  subst esh2
  subst esh1
  exact wk_vret hx hb hr hlk hP hS (Nat.le_of_ble_eq_true rfl) (show 0 + B + B + B + B + B + 4 ≤ 44 by omega) d_R_init_55
