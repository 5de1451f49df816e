theorem cat_no {s : State} {ce : Cell} {A B : String} (hN : NoC s) (hm : (A, B) ∈ ncp) (hA : s.vm.findClass A = some ce.cls) : ∃ cN, s.vm.findClass B = some cN ∧ s.vm.assignable ce.cls cN = false := by
  obtain ⟨a, b, h1, h2, h3⟩ := hN _ hm
  cases hA.symm.trans h1
  exact ⟨b, h2, h3⟩
theorem regH_of {b N o sz : Nat} {H0 H : Heap} {locs : List Loc} (h : va_S (reg b N sz) H0 H locs) : va_S (regH b N o sz) H0 H locs := ⟨h.1, fun q h1 h2 => h.2.1 q h1 (fun z => h2 (Or.inl z)), fun q hq => Or.inl (h.2.2 q hq)⟩
theorem out_kept {D : va_G} {cl : List vw_C} {b N o : Nat} {e : va_E} {H0 H : Heap} {locs : List Loc} (hPo : va_P D cl [(o, e)] H0) (hS : va_S (reg b N H0.size) H0 H locs) (hol : o < H0.size) (ho : ¬ (b ≤ o ∧ o < b + N)) : va_P D cl [(o, e)] H := by
  refine hPo.kept fun k q hq => ?_
  match k, hq with
  | 0, hq =>
    cases hq
    exact hS.2.1 o hol (fun z => z.elim (fun z => ho z) (fun z => absurd z (Nat.not_le.mpr hol)))
  | k + 1, hq => simp at hq
theorem wd_apart {D : va_G} {cl : List vw_C} {b N o : Nat} {sh : Shp} {M : Mm} {H H1 : Heap} (hP : va_P D cl (wd b N sh M) H) (ho : ¬ (b ≤ o ∧ o < b + N)) (hq : ∀ q : Nat, q ≠ o → H1[q]? = H[q]?) : va_P D cl (wd b N sh M) H1 := by
  refine hP.kept fun k q hk => ?_
  obtain ⟨h1, rfl⟩ := wd_in hk
  refine hq _ (fun z => ho ?_)
  dsimp only at z
  omega
abbrev rm_L_time : Room := { frames := 7, cells := 1, slots := 6, locals := 106 }
def hk_L_time (kx : Nat) : Int32 := (if kx = 1 then 1 else (if kx = 2 then 2 else (if kx = 3 then 3 else 0)))
set_option maxHeartbeats 4000000 in
set_option maxRecDepth 100000 in
theorem c_L_time {dC : Nat → ClassId} {dI : Nat → Nat → Nat} {dA : Nat → ClassId} {b N B C : Nat} {sh : Shp} (l : Launch) (x1 x2 : Int32) (M : Mm) (sz o : Nat) (f : Nat → Int64) (hI : Is_B dA b N sh B C 0) (hlt : l.stackTraces = false) {kx : Nat} {rv : Int32} {M' : Mm} (h : f_B_time B C x1 x2 M = some (kx, rv, M')) (hkx : kx = 0 ∨ kx = 1 ∨ kx = 2 ∨ kx = 3) (ho : ¬ (b ≤ o ∧ o < b + N)) : Met l y_L_time (wmW y_L_time k_L_time 5 (some .int) [(0, 10, 13, 13), (0, 10, 17, 15), (0, 10, 21, 17)]) rm_L_time (PwH (dC, dI) cls6 (tyl dA) b N sh (dA 4) o f [.ref (b + 0), .int x1, .int x2, .ref o] M sz) (QwH (dC, dI) cls6 b N sh (dA 4) o (hk_L_time kx) (if kx = 0 then vp_updL f 0 rv.toInt64 else f) M' sz) 1 6 (regH b N o sz) := by
  refine mk_metW (by decide) (Nat.le_of_ble_eq_true rfl) ?_
  intro p e s m below meth c ls G hex hsz hHl hP hPo hl
  subst hsz
  obtain ⟨hx, hb, hml, hr, hown, hts, hlk, hK⟩ := id G
  have hl : lv_has ls 5 [(0, .ref (b + 0)), (1, .int x1), (2, .int x2), (3, .ref o)] := hl
  have hol : o < s.heap.size := (hPo 0 _ rfl).lt
  refine lv_aload_n hx hb d_L_time_0 rfl (lv_at hl 3 rfl) ?_
  refine lv_iconst (v := 0) hx hb d_L_time_1 (by decide) ?_
  refine lv_aload_n hx hb d_L_time_2 rfl (lv_at hl 0 rfl) ?_
  refine lv_iload_n hx hb d_L_time_3 rfl (lv_at hl 1 rfl) ?_
  refine lv_iload_n hx hb d_L_time_4 rfl (lv_at hl 2 rfl) ?_
  refine wd_cvt (As := [.int x1, .int x2]) (rest := [.int 0, .ref o]) ⟨hx, hb, hml, hown, hts⟩ hK hP hHl.1 0 hI.1 hI.2.1 rfl (c_B_time l x1 x2 M _ hI hlt h) (cwV 2 hts (wmV t_350 t_352 t_353 t_113 t_351) rfl rfl rfl (by decide +kernel) ⟨by decide, by decide⟩) rfl hl.1 rfl (Nat.le_of_ble_eq_true rfl) d_L_time_5 ⟨by decide, by decide⟩ (fun hk0 H1 locs1 hP1 hS1 => ?_) (fun hkn H1 locs1 a ce hP1 hS1 hce hcv hcc => ?_)
  · subst hk0
    refine lv_i2l hx hb d_L_time_8 rfl ?_
    have hPo1 := out_kept hPo hS1 hol ho
    refine wl_last hx hb hK 4 hPo1 (regH_of hS1) (Or.inr rfl) rfl d_L_time_9 (fun H2 locs2 hPo2 hoq hS3 => ?_)
    have hP2 := wd_apart hP1 ho hoq
    refine lv_goto (tgt := 25) hx hb d_L_time_10 (by decide) ?_
    refine lv_iconst (v := 0) hx hb d_L_time_25 (by decide) ?_
    exact W.iret (v := 0) hx hb hr (fun t ht _ => ⟨rfl, by rw [ht]; exact hP2, by rw [ht]; exact hPo2, hS3.F ht⟩) hS3.2.2 d_L_time_26 hlk
  · rcases hkx with hk9 | rfl | rfl | rfl
    · exact absurd hk9 hkn
    · have hPo1 := out_kept hPo hS1 hol ho
      refine wd_caught (k := 1) 0 ["java/lang/IndexOutOfBoundsException", "java/lang/IllegalArgumentException", "java/lang/IllegalStateException"] hx hown hex hce hcv hcc (by decide) (fun j hj q hq => ?_) rfl ?_
      · match j, hj, hq with
        | 0, _, hq =>
          cases hq
          exact ⟨_, _, rfl, hts _ t_354, hcc, va_asg _ _⟩
        | j + 1, hj, hq => exact absurd hj (by omega)
      · refine lv_astore (lv' := [(4, .ref a), (0, .ref (b + 0)), (1, .int x1), (2, .int x2), (3, .ref o)]) hx hb d_L_time_13 hl (by decide) rfl (fun ls hl => ?_)
        refine lv_iconst (v := 1) hx hb d_L_time_15 (by decide) ?_
        exact W.iret (v := 1) hx hb hr (fun t ht _ => ⟨rfl, by rw [ht]; exact hP1, by rw [ht]; exact hPo1, (regH_of hS1).F ht⟩) (regH_of hS1).2.2 d_L_time_16 hlk
    · have hPo1 := out_kept hPo hS1 hol ho
      refine wd_caught (k := 2) 1 ["java/lang/IndexOutOfBoundsException", "java/lang/IllegalArgumentException", "java/lang/IllegalStateException"] hx hown hex hce hcv hcc (by decide) (fun j hj q hq => ?_) rfl ?_
      · match j, hj, hq with
        | 0, _, hq =>
          cases hq
          obtain ⟨cN, q1, q2⟩ := cat_no (B := "java/lang/IndexOutOfBoundsException") hHl.2 (by decide +kernel) hcc
          exact ⟨_, cN, rfl, hts _ t_354, q1, q2⟩
        | 1, _, hq =>
          cases hq
          exact ⟨_, _, rfl, hts _ t_355, hcc, va_asg _ _⟩
        | j + 2, hj, hq => exact absurd hj (by omega)
      · refine lv_astore (lv' := [(4, .ref a), (0, .ref (b + 0)), (1, .int x1), (2, .int x2), (3, .ref o)]) hx hb d_L_time_17 hl (by decide) rfl (fun ls hl => ?_)
        refine lv_iconst (v := 2) hx hb d_L_time_19 (by decide) ?_
        exact W.iret (v := 2) hx hb hr (fun t ht _ => ⟨rfl, by rw [ht]; exact hP1, by rw [ht]; exact hPo1, (regH_of hS1).F ht⟩) (regH_of hS1).2.2 d_L_time_20 hlk
    · have hPo1 := out_kept hPo hS1 hol ho
      refine wd_caught (k := 3) 2 ["java/lang/IndexOutOfBoundsException", "java/lang/IllegalArgumentException", "java/lang/IllegalStateException"] hx hown hex hce hcv hcc (by decide) (fun j hj q hq => ?_) rfl ?_
      · match j, hj, hq with
        | 0, _, hq =>
          cases hq
          obtain ⟨cN, q1, q2⟩ := cat_no (B := "java/lang/IndexOutOfBoundsException") hHl.2 (by decide +kernel) hcc
          exact ⟨_, cN, rfl, hts _ t_354, q1, q2⟩
        | 1, _, hq =>
          cases hq
          obtain ⟨cN, q1, q2⟩ := cat_no (B := "java/lang/IllegalArgumentException") hHl.2 (by decide +kernel) hcc
          exact ⟨_, cN, rfl, hts _ t_355, q1, q2⟩
        | 2, _, hq =>
          cases hq
          exact ⟨_, _, rfl, hts _ t_356, hcc, va_asg _ _⟩
        | j + 3, hj, hq => exact absurd hj (by omega)
      · refine lv_astore (lv' := [(4, .ref a), (0, .ref (b + 0)), (1, .int x1), (2, .int x2), (3, .ref o)]) hx hb d_L_time_21 hl (by decide) rfl (fun ls hl => ?_)
        refine lv_iconst (v := 3) hx hb d_L_time_23 (by decide) ?_
        exact W.iret (v := 3) hx hb hr (fun t ht _ => ⟨rfl, by rw [ht]; exact hP1, by rw [ht]; exact hPo1, (regH_of hS1).F ht⟩) (regH_of hS1).2.2 d_L_time_24 hlk
abbrev rm_L_span : Room := { frames := 7, cells := 1, slots := 6, locals := 105 }
def hk_L_span (kx : Nat) : Int32 := (if kx = 2 then 1 else 0)
set_option maxHeartbeats 4000000 in
set_option maxRecDepth 100000 in
theorem c_L_span {dC : Nat → ClassId} {dI : Nat → Nat → Nat} {dA : Nat → ClassId} {b N B C : Nat} {sh : Shp} (l : Launch) (x1 : Int32) (M : Mm) (sz o : Nat) (f : Nat → Int64) (hI : Is_B dA b N sh B C 0) (hlt : l.stackTraces = false) {kx : Nat} {rv : Int32} {M' : Mm} (h : f_B_span B C x1 M = some (kx, rv, M')) (hkx : kx = 0 ∨ kx = 2) (ho : ¬ (b ≤ o ∧ o < b + N)) : Met l y_L_span (wmW y_L_span k_L_span 4 (some .int) [(0, 9, 12, 15)]) rm_L_span (PwH (dC, dI) cls6 (tyl dA) b N sh (dA 4) o f [.ref (b + 0), .int x1, .ref o] M sz) (QwH (dC, dI) cls6 b N sh (dA 4) o (hk_L_span kx) (if kx = 0 then vp_updL f 0 rv.toInt64 else f) M' sz) 1 6 (regH b N o sz) := by
  refine mk_metW (by decide) (Nat.le_of_ble_eq_true rfl) ?_
  intro p e s m below meth c ls G hex hsz hHl hP hPo hl
  subst hsz
  obtain ⟨hx, hb, hml, hr, hown, hts, hlk, hK⟩ := id G
  have hl : lv_has ls 4 [(0, .ref (b + 0)), (1, .int x1), (2, .ref o)] := hl
  have hol : o < s.heap.size := (hPo 0 _ rfl).lt
  refine lv_aload_n hx hb d_L_span_0 rfl (lv_at hl 2 rfl) ?_
  refine lv_iconst (v := 0) hx hb d_L_span_1 (by decide) ?_
  refine lv_aload_n hx hb d_L_span_2 rfl (lv_at hl 0 rfl) ?_
  refine lv_iload_n hx hb d_L_span_3 rfl (lv_at hl 1 rfl) ?_
  refine wd_cvt (As := [.int x1]) (rest := [.int 0, .ref o]) ⟨hx, hb, hml, hown, hts⟩ hK hP hHl.1 0 hI.1 hI.2.1 rfl (c_B_span l x1 M _ hI hlt h) (cwV 1 hts (wmV t_357 t_359 t_360 t_113 t_358) rfl rfl rfl (by decide +kernel) ⟨by decide, by decide⟩) rfl hl.1 rfl (Nat.le_of_ble_eq_true rfl) d_L_span_4 ⟨by decide, by decide⟩ (fun hk0 H1 locs1 hP1 hS1 => ?_) (fun hkn H1 locs1 a ce hP1 hS1 hce hcv hcc => ?_)
  · subst hk0
    refine lv_i2l hx hb d_L_span_7 rfl ?_
    have hPo1 := out_kept hPo hS1 hol ho
    refine wl_last hx hb hK 4 hPo1 (regH_of hS1) (Or.inr rfl) rfl d_L_span_8 (fun H2 locs2 hPo2 hoq hS3 => ?_)
    have hP2 := wd_apart hP1 ho hoq
    refine lv_goto (tgt := 15) hx hb d_L_span_9 (by decide) ?_
    refine lv_iconst (v := 0) hx hb d_L_span_15 (by decide) ?_
    exact W.iret (v := 0) hx hb hr (fun t ht _ => ⟨rfl, by rw [ht]; exact hP2, by rw [ht]; exact hPo2, hS3.F ht⟩) hS3.2.2 d_L_span_16 hlk
  · rcases hkx with hk9 | rfl
    · exact absurd hk9 hkn
    · have hPo1 := out_kept hPo hS1 hol ho
      refine wd_caught (k := 2) 0 ["java/lang/IllegalArgumentException"] hx hown hex hce hcv hcc (by decide) (fun j hj q hq => ?_) rfl ?_
      · match j, hj, hq with
        | 0, _, hq =>
          cases hq
          exact ⟨_, _, rfl, hts _ t_355, hcc, va_asg _ _⟩
        | j + 1, hj, hq => exact absurd hj (by omega)
      · refine lv_astore_n (lv' := [(3, .ref a), (0, .ref (b + 0)), (1, .int x1), (2, .ref o)]) hx hb d_L_span_12 rfl hl (by decide) rfl (fun ls hl => ?_)
        refine lv_iconst (v := 1) hx hb d_L_span_13 (by decide) ?_
        exact W.iret (v := 1) hx hb hr (fun t ht _ => ⟨rfl, by rw [ht]; exact hP1, by rw [ht]; exact hPo1, (regH_of hS1).F ht⟩) (regH_of hS1).2.2 d_L_span_14 hlk
abbrev rm_L_ask : Room := { frames := 7, cells := 1, slots := 6, locals := 107 }
def hk_L_ask (kx : Nat) : Int32 := (if kx = 2 then 1 else (if kx = 4 then 2 else 0))
set_option maxHeartbeats 4000000 in
set_option maxRecDepth 100000 in
theorem c_L_ask {dC : Nat → ClassId} {dI : Nat → Nat → Nat} {dA : Nat → ClassId} {b N B C : Nat} {sh : Shp} (l : Launch) (x1 x2 : Int32) (M : Mm) (sz o : Nat) (f : Nat → Int64) (hI : Is_B dA b N sh B C 0) (hlt : l.stackTraces = false) {kx : Nat} {rv : Int32} {M' : Mm} (h : f_B_ask B C x1 x2 M = some (kx, rv, M')) (hkx : kx = 0 ∨ kx = 2 ∨ kx = 4) (ho : ¬ (b ≤ o ∧ o < b + N)) : Met l y_L_ask (wmW y_L_ask k_L_ask 5 (some .int) [(0, 10, 13, 15), (0, 10, 17, 27)]) rm_L_ask (PwH (dC, dI) cls6 (tyl dA) b N sh (dA 4) o f [.ref (b + 0), .int x1, .int x2, .ref o] M sz) (QwH (dC, dI) cls6 b N sh (dA 4) o (hk_L_ask kx) (if kx = 0 then vp_updL f 0 rv.toInt64 else f) M' sz) 1 6 (regH b N o sz) := by
  refine mk_metW (by decide) (Nat.le_of_ble_eq_true rfl) ?_
  intro p e s m below meth c ls G hex hsz hHl hP hPo hl
  subst hsz
  obtain ⟨hx, hb, hml, hr, hown, hts, hlk, hK⟩ := id G
  have hl : lv_has ls 5 [(0, .ref (b + 0)), (1, .int x1), (2, .int x2), (3, .ref o)] := hl
  have hol : o < s.heap.size := (hPo 0 _ rfl).lt
  refine lv_aload_n hx hb d_L_ask_0 rfl (lv_at hl 3 rfl) ?_
  refine lv_iconst (v := 0) hx hb d_L_ask_1 (by decide) ?_
  refine lv_aload_n hx hb d_L_ask_2 rfl (lv_at hl 0 rfl) ?_
  refine lv_iload_n hx hb d_L_ask_3 rfl (lv_at hl 1 rfl) ?_
  refine lv_iload_n hx hb d_L_ask_4 rfl (lv_at hl 2 rfl) ?_
  refine wd_cvt (As := [.int x1, .int x2]) (rest := [.int 0, .ref o]) ⟨hx, hb, hml, hown, hts⟩ hK hP hHl.1 0 hI.1 hI.2.1 rfl (c_B_ask l x1 x2 M _ hI hlt h) (cwV 2 hts (wmV t_361 t_363 t_364 t_113 t_362) rfl rfl rfl (by decide +kernel) ⟨by decide, by decide⟩) rfl hl.1 rfl (Nat.le_of_ble_eq_true rfl) d_L_ask_5 ⟨by decide, by decide⟩ (fun hk0 H1 locs1 hP1 hS1 => ?_) (fun hkn H1 locs1 a ce hP1 hS1 hce hcv hcc => ?_)
  · subst hk0
    refine lv_i2l hx hb d_L_ask_8 rfl ?_
    have hPo1 := out_kept hPo hS1 hol ho
    refine wl_last hx hb hK 4 hPo1 (regH_of hS1) (Or.inr rfl) rfl d_L_ask_9 (fun H2 locs2 hPo2 hoq hS3 => ?_)
    have hP2 := wd_apart hP1 ho hoq
    refine lv_goto (tgt := 21) hx hb d_L_ask_10 (by decide) ?_
    refine lv_iconst (v := 0) hx hb d_L_ask_21 (by decide) ?_
    exact W.iret (v := 0) hx hb hr (fun t ht _ => ⟨rfl, by rw [ht]; exact hP2, by rw [ht]; exact hPo2, hS3.F ht⟩) hS3.2.2 d_L_ask_22 hlk
  · rcases hkx with hk9 | rfl | rfl
    · exact absurd hk9 hkn
    · have hPo1 := out_kept hPo hS1 hol ho
      refine wd_caught (k := 2) 0 ["java/lang/IllegalArgumentException", "java/lang/UnsupportedOperationException"] hx hown hex hce hcv hcc (by decide) (fun j hj q hq => ?_) rfl ?_
      · match j, hj, hq with
        | 0, _, hq =>
          cases hq
          exact ⟨_, _, rfl, hts _ t_355, hcc, va_asg _ _⟩
        | j + 1, hj, hq => exact absurd hj (by omega)
      · refine lv_astore (lv' := [(4, .ref a), (0, .ref (b + 0)), (1, .int x1), (2, .int x2), (3, .ref o)]) hx hb d_L_ask_13 hl (by decide) rfl (fun ls hl => ?_)
        refine lv_iconst (v := 1) hx hb d_L_ask_15 (by decide) ?_
        exact W.iret (v := 1) hx hb hr (fun t ht _ => ⟨rfl, by rw [ht]; exact hP1, by rw [ht]; exact hPo1, (regH_of hS1).F ht⟩) (regH_of hS1).2.2 d_L_ask_16 hlk
    · have hPo1 := out_kept hPo hS1 hol ho
      refine wd_caught (k := 4) 1 ["java/lang/IllegalArgumentException", "java/lang/UnsupportedOperationException"] hx hown hex hce hcv hcc (by decide) (fun j hj q hq => ?_) rfl ?_
      · match j, hj, hq with
        | 0, _, hq =>
          cases hq
          obtain ⟨cN, q1, q2⟩ := cat_no (B := "java/lang/IllegalArgumentException") hHl.2 (by decide +kernel) hcc
          exact ⟨_, cN, rfl, hts _ t_355, q1, q2⟩
        | 1, _, hq =>
          cases hq
          exact ⟨_, _, rfl, hts _ t_365, hcc, va_asg _ _⟩
        | j + 2, hj, hq => exact absurd hj (by omega)
      · refine lv_astore (lv' := [(4, .ref a), (0, .ref (b + 0)), (1, .int x1), (2, .int x2), (3, .ref o)]) hx hb d_L_ask_17 hl (by decide) rfl (fun ls hl => ?_)
        refine lv_iconst (v := 2) hx hb d_L_ask_19 (by decide) ?_
        exact W.iret (v := 2) hx hb hr (fun t ht _ => ⟨rfl, by rw [ht]; exact hP1, by rw [ht]; exact hPo1, (regH_of hS1).F ht⟩) (regH_of hS1).2.2 d_L_ask_20 hlk
abbrev rm_L_run : Room := { frames := 7, cells := 1, slots := 6, locals := 166 }
def hk_L_run (kx : Nat) : Int32 := (if kx = 2 then 1 else 0)
set_option maxHeartbeats 4000000 in
set_option maxRecDepth 100000 in
theorem c_L_run {dC : Nat → ClassId} {dI : Nat → Nat → Nat} {dA : Nat → ClassId} {b N B C : Nat} {sh : Shp} (l : Launch) (x1 : Int32) (M : Mm) (sz o : Nat) (f : Nat → Int64) (hI : Is_B dA b N sh B C 0) (hlt : l.stackTraces = false) {kx : Nat} {rv : Int32} {M' : Mm} (h : f_B_run B C x1 M = some (kx, rv, M')) (hkx : kx = 0 ∨ kx = 2) (ho : ¬ (b ≤ o ∧ o < b + N)) : Met l y_L_run (wmW y_L_run k_L_run 4 (some .int) [(0, 9, 12, 15)]) rm_L_run (PwH (dC, dI) cls6 (tyl dA) b N sh (dA 4) o f [.ref (b + 0), .int x1, .ref o] M sz) (QwH (dC, dI) cls6 b N sh (dA 4) o (hk_L_run kx) (if kx = 0 then vp_updL f 0 rv.toInt64 else f) M' sz) 1 6 (regH b N o sz) := by
  refine mk_metW (by decide) (Nat.le_of_ble_eq_true rfl) ?_
  intro p e s m below meth c ls G hex hsz hHl hP hPo hl
  subst hsz
  obtain ⟨hx, hb, hml, hr, hown, hts, hlk, hK⟩ := id G
  have hl : lv_has ls 4 [(0, .ref (b + 0)), (1, .int x1), (2, .ref o)] := hl
  have hol : o < s.heap.size := (hPo 0 _ rfl).lt
  refine lv_aload_n hx hb d_L_run_0 rfl (lv_at hl 2 rfl) ?_
  refine lv_iconst (v := 0) hx hb d_L_run_1 (by decide) ?_
  refine lv_aload_n hx hb d_L_run_2 rfl (lv_at hl 0 rfl) ?_
  refine lv_iload_n hx hb d_L_run_3 rfl (lv_at hl 1 rfl) ?_
  refine wd_cvt (As := [.int x1]) (rest := [.int 0, .ref o]) ⟨hx, hb, hml, hown, hts⟩ hK hP hHl.1 0 hI.1 hI.2.1 rfl (c_B_run l x1 M _ hI hlt h) (cwV 1 hts (wmV t_366 t_368 t_369 t_113 t_367) rfl rfl rfl (by decide +kernel) ⟨by decide, by decide⟩) rfl hl.1 rfl (Nat.le_of_ble_eq_true rfl) d_L_run_4 ⟨by decide, by decide⟩ (fun hk0 H1 locs1 hP1 hS1 => ?_) (fun hkn H1 locs1 a ce hP1 hS1 hce hcv hcc => ?_)
  · subst hk0
    refine lv_i2l hx hb d_L_run_7 rfl ?_
    have hPo1 := out_kept hPo hS1 hol ho
    refine wl_last hx hb hK 4 hPo1 (regH_of hS1) (Or.inr rfl) rfl d_L_run_8 (fun H2 locs2 hPo2 hoq hS3 => ?_)
    have hP2 := wd_apart hP1 ho hoq
    refine lv_goto (tgt := 15) hx hb d_L_run_9 (by decide) ?_
    refine lv_iconst (v := 0) hx hb d_L_run_15 (by decide) ?_
    exact W.iret (v := 0) hx hb hr (fun t ht _ => ⟨rfl, by rw [ht]; exact hP2, by rw [ht]; exact hPo2, hS3.F ht⟩) hS3.2.2 d_L_run_16 hlk
  · rcases hkx with hk9 | rfl
    · exact absurd hk9 hkn
    · have hPo1 := out_kept hPo hS1 hol ho
      refine wd_caught (k := 2) 0 ["java/lang/IllegalArgumentException"] hx hown hex hce hcv hcc (by decide) (fun j hj q hq => ?_) rfl ?_
      · match j, hj, hq with
        | 0, _, hq =>
          cases hq
          exact ⟨_, _, rfl, hts _ t_355, hcc, va_asg _ _⟩
        | j + 1, hj, hq => exact absurd hj (by omega)
      · refine lv_astore_n (lv' := [(3, .ref a), (0, .ref (b + 0)), (1, .int x1), (2, .ref o)]) hx hb d_L_run_12 rfl hl (by decide) rfl (fun ls hl => ?_)
        refine lv_iconst (v := 1) hx hb d_L_run_13 (by decide) ?_
        exact W.iret (v := 1) hx hb hr (fun t ht _ => ⟨rfl, by rw [ht]; exact hP1, by rw [ht]; exact hPo1, (regH_of hS1).F ht⟩) (regH_of hS1).2.2 d_L_run_14 hlk
abbrev rm_L_done : Room := { frames := 7, cells := 1, slots := 6, locals := 104 }
def hk_L_done (kx : Nat) : Int32 := (if kx = 1 then 1 else 0)
set_option maxHeartbeats 4000000 in
set_option maxRecDepth 100000 in
theorem c_L_done {dC : Nat → ClassId} {dI : Nat → Nat → Nat} {dA : Nat → ClassId} {b N B C : Nat} {sh : Shp} (l : Launch) (x1 : Int32) (M : Mm) (sz o : Nat) (f : Nat → Int64) (hI : Is_B dA b N sh B C 0) (hlt : l.stackTraces = false) {kx : Nat} {rv : Int32} {M' : Mm} (h : f_B_done B C x1 M = some (kx, rv, M')) (hkx : kx = 0 ∨ kx = 1) (ho : ¬ (b ≤ o ∧ o < b + N)) : Met l y_L_done (wmW y_L_done k_L_done 4 (some .int) [(0, 9, 12, 13)]) rm_L_done (PwH (dC, dI) cls6 (tyl dA) b N sh (dA 4) o f [.ref (b + 0), .int x1, .ref o] M sz) (QwH (dC, dI) cls6 b N sh (dA 4) o (hk_L_done kx) (if kx = 0 then vp_updL f 0 rv.toInt64 else f) M' sz) 1 6 (regH b N o sz) := by
  refine mk_metW (by decide) (Nat.le_of_ble_eq_true rfl) ?_
  intro p e s m below meth c ls G hex hsz hHl hP hPo hl
  subst hsz
  obtain ⟨hx, hb, hml, hr, hown, hts, hlk, hK⟩ := id G
  have hl : lv_has ls 4 [(0, .ref (b + 0)), (1, .int x1), (2, .ref o)] := hl
  have hol : o < s.heap.size := (hPo 0 _ rfl).lt
  refine lv_aload_n hx hb d_L_done_0 rfl (lv_at hl 2 rfl) ?_
  refine lv_iconst (v := 0) hx hb d_L_done_1 (by decide) ?_
  refine lv_aload_n hx hb d_L_done_2 rfl (lv_at hl 0 rfl) ?_
  refine lv_iload_n hx hb d_L_done_3 rfl (lv_at hl 1 rfl) ?_
  refine wd_cvt (As := [.int x1]) (rest := [.int 0, .ref o]) ⟨hx, hb, hml, hown, hts⟩ hK hP hHl.1 0 hI.1 hI.2.1 rfl (c_B_done l x1 M _ hI hlt h) (cwV 1 hts (wmV t_370 t_372 t_373 t_113 t_371) rfl rfl rfl (by decide +kernel) ⟨by decide, by decide⟩) rfl hl.1 rfl (Nat.le_of_ble_eq_true rfl) d_L_done_4 ⟨by decide, by decide⟩ (fun hk0 H1 locs1 hP1 hS1 => ?_) (fun hkn H1 locs1 a ce hP1 hS1 hce hcv hcc => ?_)
  · subst hk0
    refine lv_i2l hx hb d_L_done_7 rfl ?_
    have hPo1 := out_kept hPo hS1 hol ho
    refine wl_last hx hb hK 4 hPo1 (regH_of hS1) (Or.inr rfl) rfl d_L_done_8 (fun H2 locs2 hPo2 hoq hS3 => ?_)
    have hP2 := wd_apart hP1 ho hoq
    refine lv_goto (tgt := 15) hx hb d_L_done_9 (by decide) ?_
    refine lv_iconst (v := 0) hx hb d_L_done_15 (by decide) ?_
    exact W.iret (v := 0) hx hb hr (fun t ht _ => ⟨rfl, by rw [ht]; exact hP2, by rw [ht]; exact hPo2, hS3.F ht⟩) hS3.2.2 d_L_done_16 hlk
  · rcases hkx with hk9 | rfl
    · exact absurd hk9 hkn
    · have hPo1 := out_kept hPo hS1 hol ho
      refine wd_caught (k := 1) 0 ["java/lang/IndexOutOfBoundsException"] hx hown hex hce hcv hcc (by decide) (fun j hj q hq => ?_) rfl ?_
      · match j, hj, hq with
        | 0, _, hq =>
          cases hq
          exact ⟨_, _, rfl, hts _ t_354, hcc, va_asg _ _⟩
        | j + 1, hj, hq => exact absurd hj (by omega)
      · refine lv_astore_n (lv' := [(3, .ref a), (0, .ref (b + 0)), (1, .int x1), (2, .ref o)]) hx hb d_L_done_12 rfl hl (by decide) rfl (fun ls hl => ?_)
        refine lv_iconst (v := 1) hx hb d_L_done_13 (by decide) ?_
        exact W.iret (v := 1) hx hb hr (fun t ht _ => ⟨rfl, by rw [ht]; exact hP1, by rw [ht]; exact hPo1, (regH_of hS1).F ht⟩) (regH_of hS1).2.2 d_L_done_14 hlk
abbrev rm_L_command : Room := { frames := 7, cells := 1, slots := 6, locals := 105 }
def hk_L_command (kx : Nat) : Int32 := (if kx = 1 then 1 else 0)
set_option maxHeartbeats 4000000 in
set_option maxRecDepth 100000 in
theorem c_L_command {dC : Nat → ClassId} {dI : Nat → Nat → Nat} {dA : Nat → ClassId} {b N B C : Nat} {sh : Shp} (l : Launch) (x1 x2 : Int32) (M : Mm) (sz o : Nat) (f : Nat → Int64) (hI : Is_B dA b N sh B C 0) (hlt : l.stackTraces = false) {kx : Nat} {rv : Int32} {M' : Mm} (h : f_B_command B C x1 x2 M = some (kx, rv, M')) (hkx : kx = 0 ∨ kx = 1) (ho : ¬ (b ≤ o ∧ o < b + N)) : Met l y_L_command (wmW y_L_command k_L_command 5 (some .int) [(0, 10, 13, 13)]) rm_L_command (PwH (dC, dI) cls6 (tyl dA) b N sh (dA 4) o f [.ref (b + 0), .int x1, .int x2, .ref o] M sz) (QwH (dC, dI) cls6 b N sh (dA 4) o (hk_L_command kx) (if kx = 0 then vp_updL f 0 rv.toInt64 else f) M' sz) 1 6 (regH b N o sz) := by
  refine mk_metW (by decide) (Nat.le_of_ble_eq_true rfl) ?_
  intro p e s m below meth c ls G hex hsz hHl hP hPo hl
  subst hsz
  obtain ⟨hx, hb, hml, hr, hown, hts, hlk, hK⟩ := id G
  have hl : lv_has ls 5 [(0, .ref (b + 0)), (1, .int x1), (2, .int x2), (3, .ref o)] := hl
  have hol : o < s.heap.size := (hPo 0 _ rfl).lt
  refine lv_aload_n hx hb d_L_command_0 rfl (lv_at hl 3 rfl) ?_
  refine lv_iconst (v := 0) hx hb d_L_command_1 (by decide) ?_
  refine lv_aload_n hx hb d_L_command_2 rfl (lv_at hl 0 rfl) ?_
  refine lv_iload_n hx hb d_L_command_3 rfl (lv_at hl 1 rfl) ?_
  refine lv_iload_n hx hb d_L_command_4 rfl (lv_at hl 2 rfl) ?_
  refine wd_cvt (As := [.int x1, .int x2]) (rest := [.int 0, .ref o]) ⟨hx, hb, hml, hown, hts⟩ hK hP hHl.1 0 hI.1 hI.2.1 rfl (c_B_command l x1 x2 M _ hI hlt h) (cwV 2 hts (wmV t_374 t_376 t_377 t_113 t_375) rfl rfl rfl (by decide +kernel) ⟨by decide, by decide⟩) rfl hl.1 rfl (Nat.le_of_ble_eq_true rfl) d_L_command_5 ⟨by decide, by decide⟩ (fun hk0 H1 locs1 hP1 hS1 => ?_) (fun hkn H1 locs1 a ce hP1 hS1 hce hcv hcc => ?_)
  · subst hk0
    refine lv_i2l hx hb d_L_command_8 rfl ?_
    have hPo1 := out_kept hPo hS1 hol ho
    refine wl_last hx hb hK 4 hPo1 (regH_of hS1) (Or.inr rfl) rfl d_L_command_9 (fun H2 locs2 hPo2 hoq hS3 => ?_)
    have hP2 := wd_apart hP1 ho hoq
    refine lv_goto (tgt := 17) hx hb d_L_command_10 (by decide) ?_
    refine lv_iconst (v := 0) hx hb d_L_command_17 (by decide) ?_
    exact W.iret (v := 0) hx hb hr (fun t ht _ => ⟨rfl, by rw [ht]; exact hP2, by rw [ht]; exact hPo2, hS3.F ht⟩) hS3.2.2 d_L_command_18 hlk
  · rcases hkx with hk9 | rfl
    · exact absurd hk9 hkn
    · have hPo1 := out_kept hPo hS1 hol ho
      refine wd_caught (k := 1) 0 ["java/lang/IndexOutOfBoundsException"] hx hown hex hce hcv hcc (by decide) (fun j hj q hq => ?_) rfl ?_
      · match j, hj, hq with
        | 0, _, hq =>
          cases hq
          exact ⟨_, _, rfl, hts _ t_354, hcc, va_asg _ _⟩
        | j + 1, hj, hq => exact absurd hj (by omega)
      · refine lv_astore (lv' := [(4, .ref a), (0, .ref (b + 0)), (1, .int x1), (2, .int x2), (3, .ref o)]) hx hb d_L_command_13 hl (by decide) rfl (fun ls hl => ?_)
        refine lv_iconst (v := 1) hx hb d_L_command_15 (by decide) ?_
        exact W.iret (v := 1) hx hb hr (fun t ht _ => ⟨rfl, by rw [ht]; exact hP1, by rw [ht]; exact hPo1, (regH_of hS1).F ht⟩) (regH_of hS1).2.2 d_L_command_16 hlk
abbrev rm_L_open : Room := { frames := 7, cells := 1, slots := 6, locals := 105 }
def hk_L_open (kx : Nat) : Int32 := (if kx = 1 then 1 else 0)
set_option maxHeartbeats 4000000 in
set_option maxRecDepth 100000 in
theorem c_L_open {dC : Nat → ClassId} {dI : Nat → Nat → Nat} {dA : Nat → ClassId} {b N B C : Nat} {sh : Shp} (l : Launch) (x1 x2 : Int32) (M : Mm) (sz o : Nat) (f : Nat → Int64) (hI : Is_B dA b N sh B C 0) (hlt : l.stackTraces = false) {kx : Nat} {rv : Int32} {M' : Mm} (h : f_B_open B C x1 x2 M = some (kx, rv, M')) (hkx : kx = 0 ∨ kx = 1) (ho : ¬ (b ≤ o ∧ o < b + N)) : Met l y_L_open (wmW y_L_open k_L_open 5 (some .int) [(0, 10, 13, 13)]) rm_L_open (PwH (dC, dI) cls6 (tyl dA) b N sh (dA 4) o f [.ref (b + 0), .int x1, .int x2, .ref o] M sz) (QwH (dC, dI) cls6 b N sh (dA 4) o (hk_L_open kx) (if kx = 0 then vp_updL f 0 rv.toInt64 else f) M' sz) 1 6 (regH b N o sz) := by
  refine mk_metW (by decide) (Nat.le_of_ble_eq_true rfl) ?_
  intro p e s m below meth c ls G hex hsz hHl hP hPo hl
  subst hsz
  obtain ⟨hx, hb, hml, hr, hown, hts, hlk, hK⟩ := id G
  have hl : lv_has ls 5 [(0, .ref (b + 0)), (1, .int x1), (2, .int x2), (3, .ref o)] := hl
  have hol : o < s.heap.size := (hPo 0 _ rfl).lt
  refine lv_aload_n hx hb d_L_open_0 rfl (lv_at hl 3 rfl) ?_
  refine lv_iconst (v := 0) hx hb d_L_open_1 (by decide) ?_
  refine lv_aload_n hx hb d_L_open_2 rfl (lv_at hl 0 rfl) ?_
  refine lv_iload_n hx hb d_L_open_3 rfl (lv_at hl 1 rfl) ?_
  refine lv_iload_n hx hb d_L_open_4 rfl (lv_at hl 2 rfl) ?_
  refine wd_cvt (As := [.int x1, .int x2]) (rest := [.int 0, .ref o]) ⟨hx, hb, hml, hown, hts⟩ hK hP hHl.1 0 hI.1 hI.2.1 rfl (c_B_open l x1 x2 M _ hI hlt h) (cwV 2 hts (wmV t_378 t_380 t_381 t_113 t_379) rfl rfl rfl (by decide +kernel) ⟨by decide, by decide⟩) rfl hl.1 rfl (Nat.le_of_ble_eq_true rfl) d_L_open_5 ⟨by decide, by decide⟩ (fun hk0 H1 locs1 hP1 hS1 => ?_) (fun hkn H1 locs1 a ce hP1 hS1 hce hcv hcc => ?_)
  · subst hk0
    refine lv_i2l hx hb d_L_open_8 rfl ?_
    have hPo1 := out_kept hPo hS1 hol ho
    refine wl_last hx hb hK 4 hPo1 (regH_of hS1) (Or.inr rfl) rfl d_L_open_9 (fun H2 locs2 hPo2 hoq hS3 => ?_)
    have hP2 := wd_apart hP1 ho hoq
    refine lv_goto (tgt := 17) hx hb d_L_open_10 (by decide) ?_
    refine lv_iconst (v := 0) hx hb d_L_open_17 (by decide) ?_
    exact W.iret (v := 0) hx hb hr (fun t ht _ => ⟨rfl, by rw [ht]; exact hP2, by rw [ht]; exact hPo2, hS3.F ht⟩) hS3.2.2 d_L_open_18 hlk
  · rcases hkx with hk9 | rfl
    · exact absurd hk9 hkn
    · have hPo1 := out_kept hPo hS1 hol ho
      refine wd_caught (k := 1) 0 ["java/lang/IndexOutOfBoundsException"] hx hown hex hce hcv hcc (by decide) (fun j hj q hq => ?_) rfl ?_
      · match j, hj, hq with
        | 0, _, hq =>
          cases hq
          exact ⟨_, _, rfl, hts _ t_354, hcc, va_asg _ _⟩
        | j + 1, hj, hq => exact absurd hj (by omega)
      · refine lv_astore (lv' := [(4, .ref a), (0, .ref (b + 0)), (1, .int x1), (2, .int x2), (3, .ref o)]) hx hb d_L_open_13 hl (by decide) rfl (fun ls hl => ?_)
        refine lv_iconst (v := 1) hx hb d_L_open_15 (by decide) ?_
        exact W.iret (v := 1) hx hb hr (fun t ht _ => ⟨rfl, by rw [ht]; exact hP1, by rw [ht]; exact hPo1, (regH_of hS1).F ht⟩) (regH_of hS1).2.2 d_L_open_16 hlk
abbrev rm_L_part : Room := { frames := 7, cells := 1, slots := 6, locals := 105 }
def hk_L_part (kx : Nat) : Int32 := (if kx = 2 then 1 else 0)
set_option maxHeartbeats 4000000 in
set_option maxRecDepth 100000 in
theorem c_L_part {dC : Nat → ClassId} {dI : Nat → Nat → Nat} {dA : Nat → ClassId} {b N B C : Nat} {sh : Shp} (l : Launch) (x1 x2 : Int32) (M : Mm) (sz o : Nat) (f : Nat → Int64) (hI : Is_B dA b N sh B C 0) (hlt : l.stackTraces = false) {kx : Nat} {rv : Int32} {M' : Mm} (h : f_B_part B C x1 x2 M = some (kx, rv, M')) (hkx : kx = 0 ∨ kx = 2) (ho : ¬ (b ≤ o ∧ o < b + N)) : Met l y_L_part (wmW y_L_part k_L_part 5 (some .int) [(0, 10, 13, 15)]) rm_L_part (PwH (dC, dI) cls6 (tyl dA) b N sh (dA 4) o f [.ref (b + 0), .int x1, .int x2, .ref o] M sz) (QwH (dC, dI) cls6 b N sh (dA 4) o (hk_L_part kx) (if kx = 0 then vp_updL f 0 rv.toInt64 else f) M' sz) 1 6 (regH b N o sz) := by
  refine mk_metW (by decide) (Nat.le_of_ble_eq_true rfl) ?_
  intro p e s m below meth c ls G hex hsz hHl hP hPo hl
  subst hsz
  obtain ⟨hx, hb, hml, hr, hown, hts, hlk, hK⟩ := id G
  have hl : lv_has ls 5 [(0, .ref (b + 0)), (1, .int x1), (2, .int x2), (3, .ref o)] := hl
  have hol : o < s.heap.size := (hPo 0 _ rfl).lt
  refine lv_aload_n hx hb d_L_part_0 rfl (lv_at hl 3 rfl) ?_
  refine lv_iconst (v := 0) hx hb d_L_part_1 (by decide) ?_
  refine lv_aload_n hx hb d_L_part_2 rfl (lv_at hl 0 rfl) ?_
  refine lv_iload_n hx hb d_L_part_3 rfl (lv_at hl 1 rfl) ?_
  refine lv_iload_n hx hb d_L_part_4 rfl (lv_at hl 2 rfl) ?_
  refine wd_cvt (As := [.int x1, .int x2]) (rest := [.int 0, .ref o]) ⟨hx, hb, hml, hown, hts⟩ hK hP hHl.1 0 hI.1 hI.2.1 rfl (c_B_part l x1 x2 M _ hI hlt h) (cwV 2 hts (wmV t_382 t_384 t_385 t_113 t_383) rfl rfl rfl (by decide +kernel) ⟨by decide, by decide⟩) rfl hl.1 rfl (Nat.le_of_ble_eq_true rfl) d_L_part_5 ⟨by decide, by decide⟩ (fun hk0 H1 locs1 hP1 hS1 => ?_) (fun hkn H1 locs1 a ce hP1 hS1 hce hcv hcc => ?_)
  · subst hk0
    refine lv_i2l hx hb d_L_part_8 rfl ?_
    have hPo1 := out_kept hPo hS1 hol ho
    refine wl_last hx hb hK 4 hPo1 (regH_of hS1) (Or.inr rfl) rfl d_L_part_9 (fun H2 locs2 hPo2 hoq hS3 => ?_)
    have hP2 := wd_apart hP1 ho hoq
    refine lv_goto (tgt := 17) hx hb d_L_part_10 (by decide) ?_
    refine lv_iconst (v := 0) hx hb d_L_part_17 (by decide) ?_
    exact W.iret (v := 0) hx hb hr (fun t ht _ => ⟨rfl, by rw [ht]; exact hP2, by rw [ht]; exact hPo2, hS3.F ht⟩) hS3.2.2 d_L_part_18 hlk
  · rcases hkx with hk9 | rfl
    · exact absurd hk9 hkn
    · have hPo1 := out_kept hPo hS1 hol ho
      refine wd_caught (k := 2) 0 ["java/lang/IllegalArgumentException"] hx hown hex hce hcv hcc (by decide) (fun j hj q hq => ?_) rfl ?_
      · match j, hj, hq with
        | 0, _, hq =>
          cases hq
          exact ⟨_, _, rfl, hts _ t_355, hcc, va_asg _ _⟩
        | j + 1, hj, hq => exact absurd hj (by omega)
      · refine lv_astore (lv' := [(4, .ref a), (0, .ref (b + 0)), (1, .int x1), (2, .int x2), (3, .ref o)]) hx hb d_L_part_13 hl (by decide) rfl (fun ls hl => ?_)
        refine lv_iconst (v := 1) hx hb d_L_part_15 (by decide) ?_
        exact W.iret (v := 1) hx hb hr (fun t ht _ => ⟨rfl, by rw [ht]; exact hP1, by rw [ht]; exact hPo1, (regH_of hS1).F ht⟩) (regH_of hS1).2.2 d_L_part_16 hlk
abbrev rm_L_check : Room := { frames := 7, cells := 1, slots := 6, locals := 110 }
def hk_L_check (kx : Nat) : Int32 := (if kx = 2 then 1 else 0)
set_option maxHeartbeats 4000000 in
set_option maxRecDepth 100000 in
theorem c_L_check {dC : Nat → ClassId} {dI : Nat → Nat → Nat} {dA : Nat → ClassId} {b N B C : Nat} {sh : Shp} (l : Launch) (x1 x2 x3 x4 x5 : Int32) (M : Mm) (sz o : Nat) (f : Nat → Int64) (hI : Is_B dA b N sh B C 0) (hlt : l.stackTraces = false) {kx : Nat} {rv : Int32} {M' : Mm} (h : f_B_check B C x1 x2 x3 x4 x5 M = some (kx, rv, M')) (hkx : kx = 0 ∨ kx = 2) (ho : ¬ (b ≤ o ∧ o < b + N)) : Met l y_L_check (wmW y_L_check k_L_check 8 (some .int) [(0, 16, 19, 15)]) rm_L_check (PwH (dC, dI) cls6 (tyl dA) b N sh (dA 4) o f [.ref (b + 0), .int x1, .int x2, .int x3, .int x4, .int x5, .ref o] M sz) (QwH (dC, dI) cls6 b N sh (dA 4) o (hk_L_check kx) (if kx = 0 then vp_updL f 0 rv.toInt64 else f) M' sz) 1 6 (regH b N o sz) := by
  refine mk_metW (by decide) (Nat.le_of_ble_eq_true rfl) ?_
  intro p e s m below meth c ls G hex hsz hHl hP hPo hl
  subst hsz
  obtain ⟨hx, hb, hml, hr, hown, hts, hlk, hK⟩ := id G
  have hl : lv_has ls 8 [(0, .ref (b + 0)), (1, .int x1), (2, .int x2), (3, .int x3), (4, .int x4), (5, .int x5), (6, .ref o)] := hl
  have hol : o < s.heap.size := (hPo 0 _ rfl).lt
  refine lv_aload hx hb d_L_check_0 (lv_at hl 6 rfl) ?_
  refine lv_iconst (v := 0) hx hb d_L_check_2 (by decide) ?_
  refine lv_aload_n hx hb d_L_check_3 rfl (lv_at hl 0 rfl) ?_
  refine lv_iload_n hx hb d_L_check_4 rfl (lv_at hl 1 rfl) ?_
  refine lv_iload_n hx hb d_L_check_5 rfl (lv_at hl 2 rfl) ?_
  refine lv_iload_n hx hb d_L_check_6 rfl (lv_at hl 3 rfl) ?_
  refine lv_iload hx hb d_L_check_7 (lv_at hl 4 rfl) ?_
  refine lv_iload hx hb d_L_check_9 (lv_at hl 5 rfl) ?_
  refine wd_cvt (As := [.int x1, .int x2, .int x3, .int x4, .int x5]) (rest := [.int 0, .ref o]) ⟨hx, hb, hml, hown, hts⟩ hK hP hHl.1 0 hI.1 hI.2.1 rfl (c_B_check l x1 x2 x3 x4 x5 M _ hI hlt h) (cwV 5 hts (wmV t_386 t_388 t_389 t_113 t_387) rfl rfl rfl (by decide +kernel) ⟨by decide, by decide⟩) rfl hl.1 rfl (Nat.le_of_ble_eq_true rfl) d_L_check_11 ⟨by decide, by decide⟩ (fun hk0 H1 locs1 hP1 hS1 => ?_) (fun hkn H1 locs1 a ce hP1 hS1 hce hcv hcc => ?_)
  · subst hk0
    refine lv_i2l hx hb d_L_check_14 rfl ?_
    have hPo1 := out_kept hPo hS1 hol ho
    refine wl_last hx hb hK 4 hPo1 (regH_of hS1) (Or.inr rfl) rfl d_L_check_15 (fun H2 locs2 hPo2 hoq hS3 => ?_)
    have hP2 := wd_apart hP1 ho hoq
    refine lv_goto (tgt := 23) hx hb d_L_check_16 (by decide) ?_
    refine lv_iconst (v := 0) hx hb d_L_check_23 (by decide) ?_
    exact W.iret (v := 0) hx hb hr (fun t ht _ => ⟨rfl, by rw [ht]; exact hP2, by rw [ht]; exact hPo2, hS3.F ht⟩) hS3.2.2 d_L_check_24 hlk
  · rcases hkx with hk9 | rfl
    · exact absurd hk9 hkn
    · have hPo1 := out_kept hPo hS1 hol ho
      refine wd_caught (k := 2) 0 ["java/lang/IllegalArgumentException"] hx hown hex hce hcv hcc (by decide) (fun j hj q hq => ?_) rfl ?_
      · match j, hj, hq with
        | 0, _, hq =>
          cases hq
          exact ⟨_, _, rfl, hts _ t_355, hcc, va_asg _ _⟩
        | j + 1, hj, hq => exact absurd hj (by omega)
      · refine lv_astore (lv' := [(7, .ref a), (0, .ref (b + 0)), (1, .int x1), (2, .int x2), (3, .int x3), (4, .int x4), (5, .int x5), (6, .ref o)]) hx hb d_L_check_19 hl (by decide) rfl (fun ls hl => ?_)
        refine lv_iconst (v := 1) hx hb d_L_check_21 (by decide) ?_
        exact W.iret (v := 1) hx hb hr (fun t ht _ => ⟨rfl, by rw [ht]; exact hP1, by rw [ht]; exact hPo1, (regH_of hS1).F ht⟩) (regH_of hS1).2.2 d_L_check_22 hlk
