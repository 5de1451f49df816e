abbrev rm_C_init : Room := { frames := rm_R_init.frames + 1, cells := 13, slots := 102, locals := 30 + rm_R_init.locals }
def sk_C_init (dA : Nat → ClassId) (b B t r : Nat) (sh : Shp) : Shp := upS (sk_Q_init dA b B t (r + 1 + 7) (upS (upS (sk_R_init dA b B t (r + 1) (upS sh (r + 1) (ob 3 [some none, some none, some none, some none, some none, some none, some none, none, none, none, none]))) r (ob 0 [some (some (b + (r + 1))), some none, none, none, none])) (r + 1 + 7) (ob 2 [some none, some none, some none, some none, some none, none, none]))) r (ob 0 [some (some (b + (r + 1))), some (some (b + (r + 1 + 7))), none, none, none])
def mk_C_init (B r : Nat) (M : Mm) : Mm := up2 (mk_Q_init B (r + 1 + 7) (upM (mk_R_init B (r + 1) (upM (up2 M r 4 (-1)) (r + 1) (fun _ => 0))) (r + 1 + 7) (fun _ => 0))) r 2 (nI B)
set_option maxHeartbeats 4000000 in
set_option maxRecDepth 100000 in
theorem c_C_init {dC : Nat → ClassId} {dI : Nat → Nat → Nat} {dA : Nat → ClassId} {b : Nat} (B C t : Nat) (l : Launch) (r : Nat) (x1 : Int32) (sh : Shp) (M : Mm) (sz : Nat) (hsz0 : sz = b + (r + 1)) (hB8 : B ≤ 8) (hB : x1 = nI B) (hs : sh r = ob 0 [some none, some none, none, none, none]) : Met l y_C_init (wm y_C_init k_C_init 3 none) rm_C_init (PwN (dC, dI) cls6 (tyl dA) b (r + 1) sh [.ref (b + r), .int x1, .ref t] M sz) (Qk (dC, dI) cls6 b (r + 14) (sk_C_init dA b B t r sh) (mk_C_init B r M)) 13 102 (frm b) := by
  refine mk_metN (by decide) (Nat.le_of_ble_eq_true rfl) ?_
  intro p e s m below meth c ls G hin hNS hsz hP hS hl
  rw [hsz0] at hsz
  obtain ⟨hx, hb, hml, hr, hown, hts, hlk, hK⟩ := id G
  have hl : lv_has ls 3 [(0, .ref (b + r)), (1, .int x1), (2, .ref t)] := hl
  have hin : meth.name = "<init>" := hin
  refine lv_aload_n hx hb d_C_init_0 rfl (lv_at hl 0 rfl) ?_
  refine W.objInit hx hb hown (hts _ t_398) (hts _ t_391) (hts _ t_392) rfl (by rw [hml]; exact hl.1) rfl d_C_init_1 (Nat.le_of_ble_eq_true rfl) (Nat.le_of_ble_eq_true rfl) ?_
  refine lv_aload_n hx hb d_C_init_4 rfl (lv_at hl 0 rfl) ?_
  refine lv_iconst (v := (-1)) hx hb d_C_init_5 (by decide) ?_
  refine wk_puti hx hb hts i_C ty_C tyok_C nm_C hown hK hP hS r (by omega) hs rfl 4 (by decide) t_75 rfl hin rfl (ty := .int) (by decide +kernel) rfl rfl d_C_init_6 (fun H locs hP hS => ?_)
  refine lv_aload_n hx hb d_C_init_9 rfl (lv_at hl 0 rfl) ?_
  refine wk_new (ci := 3) (L := [some none, some none, some none, some none, some none, some none, some none, none, none, none, none]) hx hb hts i_R ty_R tyok_R hown t_399 t_400 t_13 hK hP hS (by rw [hsz]; omega) (wd_lo (by omega) hP) rfl (by decide +kernel) (Nat.le_of_ble_eq_true rfl) (Nat.le_of_ble_eq_true rfl) d_C_init_10 (fun H hP hS => ?_)
  have hs1 : (upS sh (r + 1) (ob 3 [some none, some none, some none, some none, some none, some none, some none, none, none, none, none])) r = ob 0 [some none, some none, none, none, none] := by rw [upS_ne (by omega)]; exact hs
  have hs2 : (upS sh (r + 1) (ob 3 [some none, some none, some none, some none, some none, some none, some none, none, none, none, none])) (r + 1) = ob 3 [some none, some none, some none, some none, some none, some none, some none, none, none, none, none] := upS_at _ _ _
  refine lv_dup hx hb d_C_init_13 rfl ?_
  refine lv_iload_n hx hb d_C_init_14 rfl (lv_at hl 1 rfl) ?_
  refine lv_aload_n hx hb d_C_init_15 rfl (lv_at hl 2 rfl) ?_
  refine wk_size (q := b + (r + 1 + 1)) (by rw [hsz]; omega) (wd_lo (by omega) hP) fun hz => ?_
  refine wk_ci (As := [.int x1, .ref t]) (rest := [.ref (b + (r + 1)), .ref (b + r)]) ⟨hx, hb, hml, hown, hts⟩ hK hP hS (r + 1) (c_R_init B C t l (r + 1) x1 _ _ _ hz hB8 hB hs2) (cwI 2 hts (wm_good t_401) rfl rfl rfl (hts _ t_13) (hts _ t_402) (hts _ t_403) rfl (by decide +kernel) ⟨Nat.le_of_ble_eq_true rfl, Nat.le_of_ble_eq_true rfl⟩) rfl hl.1 rfl (Nat.le_of_ble_eq_true rfl) d_C_init_16 ⟨Nat.le_of_ble_eq_true rfl, Nat.le_of_ble_eq_true rfl⟩ (fun H locs hP hS => ?_)
  obtain ⟨sh3, e3⟩ : ∃ z, z = sk_R_init dA b B t (r + 1) (upS sh (r + 1) (ob 3 [some none, some none, some none, some none, some none, some none, some none, none, none, none, none])) := ⟨_, rfl⟩
  rw [← e3] at hP
  have hs3 : sh3 r = ob 0 [some none, some none, none, none, none] := by rw [e3, sk_R_lt (by omega)]; exact hs1
  refine wk_putr hx hb hts i_C ty_C tyok_C nm_C hown hK hP hS r (by omega) hs3 rfl 0 (by decide) t_49 (Nat.le_of_ble_eq_true rfl) rfl hin rfl (ty := .object "BankTimes$Rules") (by decide +kernel) rfl rfl d_C_init_19 (fun H locs hP hS => ?_)
  obtain ⟨sh4, e4⟩ : ∃ z, z = upS sh3 r (ob 0 [some (some (b + (r + 1))), some none, none, none, none]) := ⟨_, rfl⟩
  replace hP : va_P (dC, dI) cls6 (wd b (r + 1 + 7) (upS sh3 r (ob 0 [some (some (b + (r + 1))), some none, none, none, none])) _) H := hP
  rw [← e4] at hP
  have hs4 : sh4 r = ob 0 [some (some (b + (r + 1))), some none, none, none, none] := by rw [e4, upS_at]
  refine lv_aload_n hx hb d_C_init_22 rfl (lv_at hl 0 rfl) ?_
  refine wk_new (ci := 2) (L := [some none, some none, some none, some none, some none, none, none]) hx hb hts i_Q ty_Q tyok_Q hown t_404 t_405 t_80 hK hP hS (by rw [hsz]; show _ + (0 + 1 + 6) ≤ _; omega) (wd_lo (by omega) hP) rfl (by decide +kernel) (Nat.le_of_ble_eq_true rfl) (Nat.le_of_ble_eq_true rfl) d_C_init_23 (fun H hP hS => ?_)
  have hs5 : (upS sh4 (r + 1 + 7) (ob 2 [some none, some none, some none, some none, some none, none, none])) r = ob 0 [some (some (b + (r + 1))), some none, none, none, none] := by rw [upS_ne (by omega)]; exact hs4
  have hs6 : (upS sh4 (r + 1 + 7) (ob 2 [some none, some none, some none, some none, some none, none, none])) (r + 1 + 7) = ob 2 [some none, some none, some none, some none, some none, none, none] := upS_at _ _ _
  refine lv_dup hx hb d_C_init_26 rfl ?_
  refine wk_size (q := b + (r + 1 + 7 + 1)) (by rw [hsz]; show _ + (0 + 1 + 6 + 1) ≤ _; omega) (wd_lo (by omega) hP) fun hz => ?_
  refine wk_ciN (As := []) (rest := [.ref (b + (r + 1 + 7)), .ref (b + r)]) ⟨hx, hb, hml, hown, hts⟩ hK hP hS (r + 1 + 7) (c_Q_init B C t l (r + 1 + 7) _ _ _ hz hB8 hs6) ⟨va_cnB 0 hts (wm_good t_406) rfl rfl rfl hNS.1 (hts _ t_80) (by decide +kernel) ⟨Nat.le_of_ble_eq_true rfl, Nat.le_of_ble_eq_true rfl⟩, rfl, hts _ t_407⟩ rfl hl.1 rfl (Nat.le_of_ble_eq_true rfl) d_C_init_27 ⟨Nat.le_of_ble_eq_true rfl, Nat.le_of_ble_eq_true rfl⟩ (fun H locs hP hS => ?_)
  obtain ⟨sh7, e7⟩ : ∃ z, z = sk_Q_init dA b B t (r + 1 + 7) (upS sh4 (r + 1 + 7) (ob 2 [some none, some none, some none, some none, some none, none, none])) := ⟨_, rfl⟩
  rw [← e7] at hP
  have hs7 : sh7 r = ob 0 [some (some (b + (r + 1))), some none, none, none, none] := by rw [e7, sk_Q_lt (by omega)]; exact hs5
  refine wk_putr hx hb hts i_C ty_C tyok_C nm_C hown hK hP hS r (by omega) hs7 rfl 1 (by decide) t_51 (Nat.le_of_ble_eq_true rfl) rfl hin rfl (ty := .object "BankTimes$Queue") (by decide +kernel) rfl rfl d_C_init_30 (fun H locs hP hS => ?_)
  obtain ⟨sh8, e8⟩ : ∃ z, z = upS sh7 r (ob 0 [some (some (b + (r + 1))), some (some (b + (r + 1 + 7))), none, none, none]) := ⟨_, rfl⟩
  replace hP : va_P (dC, dI) cls6 (wd b (r + 1 + 7 + 6) (upS sh7 r (ob 0 [some (some (b + (r + 1))), some (some (b + (r + 1 + 7))), none, none, none])) _) H := hP
  rw [← e8] at hP
  have hs8 : sh8 r = ob 0 [some (some (b + (r + 1))), some (some (b + (r + 1 + 7))), none, none, none] := by rw [e8, upS_at]
  refine lv_aload_n hx hb d_C_init_33 rfl (lv_at hl 0 rfl) ?_
  refine lv_iload_n hx hb d_C_init_34 rfl (lv_at hl 1 rfl) ?_
  refine wk_puti hx hb hts i_C ty_C tyok_C nm_C hown hK hP hS r (by omega) hs8 rfl 2 (by decide) t_74 rfl hin rfl (ty := .int) (by decide +kernel) rfl rfl d_C_init_35 (fun H locs hP hS => ?_)
  subst hB; subst e8; subst e7; subst e4; subst e3
  exact wk_vret hx hb hr hlk hP hS (Nat.le_of_ble_eq_true rfl) (Nat.le_of_ble_eq_true rfl) d_C_init_38
