abbrev rm_R_startOf : Room := { frames := 0, cells := 0, slots := 0, locals := 0 }
def B_R_startOf_15 (B C : Nat) (r : Nat) (x1 x2 x3 s0 : Int32) (M : Mm) : Option (Int32) := (if x1 = 0 then (if s0 = 0 then some (-1) else (if ixb x3 B = true then some (M (r + 2) x3.toNatClampNeg) else none)) else (if x1 = 1 then (if x2 = 0 then (if ixb x3 B = true then some (M (r + 5) x3.toNatClampNeg) else none) else some (-1)) else (if x1 = 2 then (if x2 = 3 then (if ixb x3 B = true then some (M (r + 2) x3.toNatClampNeg) else none) else some (-1)) else (if x1 = 3 then (if s0 = 0 then (if x2 = 3 then (if ixb x3 B = true then some (M (r + 3) x3.toNatClampNeg) else none) else some (-1)) else some (M r 7)) else (if x1 = 4 then (if x2 = 1 then some (M r 8) else some (-1)) else (if x1 = 5 then (if x2 = 3 then (if ixb x3 B = true then some (M (r + 4) x3.toNatClampNeg) else none) else some (-1)) else (if x1 = 6 then (if x2 = 0 then (if ixb 0 4 = true then some (M (r + 6) (0 : Int32).toNatClampNeg) else none) else some (-1)) else (if x1 = 7 then some (M r 9) else (if x1 = 8 then (if x2 = 0 then (if ixb 3 4 = true then some (M (r + 6) (3 : Int32).toNatClampNeg) else none) else some (-1)) else some (-1))))))))))
def B_R_startOf_10 (B C : Nat) (r : Nat) (x1 x2 x3 : Int32) (M : Mm) : Option (Int32) := B_R_startOf_15 B C r x1 x2 x3 1 M
def f_R_startOf (B C : Nat) (r : Nat) (x1 x2 x3 : Int32) (M : Mm) : Option (Int32) := (if x2 = 1 then B_R_startOf_10 B C r x1 x2 x3 M else (if x2 = 2 then B_R_startOf_10 B C r x1 x2 x3 M else B_R_startOf_15 B C r x1 x2 x3 0 M))
section
variable {p : Program} {l : Launch} {e : Env} {s : State} {m : MethodId} {args : Array Value} {below : List Frame} {meth : Method} {c : Code} {dC : Nat → ClassId} {dI : Nat → Nat → Nat} {dA : Nat → ClassId} {b N B C : Nat} {sh : Shp}
set_option maxHeartbeats 4000000 in
set_option maxRecDepth 100000 in
theorem w_R_startOf_15 {r : Nat} {rv : Int32} (G : Cx p s m args meth c (dC, dI) cls6 (tyl dA) "BankTimes$Rules" k_R_startOf 5 (some .int)) (hI : Is_R dA b N sh B C r)   : ∀ (x1 x2 x3 s0 : Int32) (M : Mm) (ls : Array Slot), va_P (dC, dI) cls6 (wd b N sh M) s.heap → va_S (reg b N s.heap.size) s.heap s.heap [] → lv_has ls 5 [(0, .ref (b + r)), (1, .int x1), (2, .int x2), (3, .int x3)] → B_R_startOf_15 B C r x1 x2 x3 s0 M = some rv → W p l e rm_R_startOf s m args below meth c s.heap [] 0 0 (MQ below (Qro rv) args s 0 0 nofree) (F0 m 15 ls [.int s0]) := by
  obtain ⟨hx, hb, hml, hr, hown, hts, hlk, hK⟩ := id G
  intro x1 x2 x3 s0 M ls hP hS hl h
  unfold B_R_startOf_15 at h
  refine lv_istore (lv' := [(4, .int s0), (0, .ref (b + r)), (1, .int x1), (2, .int x2), (3, .int x3)]) hx hb d_R_startOf_15 hl (by decide) rfl (fun ls hl => ?_)
  refine lv_iload_n hx hb d_R_startOf_17 rfl (lv_at hl 2 rfl) ?_
  by_cases c18_0 : x1 = 0
  · replace h := ogt c18_0 h
    refine lv_tableIn (tgt := 68) hx hb d_R_startOf_18 (by rw [c18_0]; decide) (by rw [c18_0]; decide) (by rw [c18_0]; rfl) (by decide) ?_
    refine lv_iload hx hb d_R_startOf_68 (lv_at hl 0 rfl) ?_
    refine lv_if_eq (tgt := 82) hx hb d_R_startOf_70 (by decide) (fun c70 => ?_) (fun c70 => ?_)
    · replace h := ogt c70 h
      refine lv_iconst (v := (-1)) hx hb d_R_startOf_82 (by decide) ?_
      obtain rfl := oe h
      exact wd_iret0 hx hb hr hlk d_R_startOf_83
    · replace h := ogf c70 h
      refine lv_aload_n hx hb d_R_startOf_73 rfl (lv_at hl 1 rfl) ?_
      refine wd_getr hx hb hts i_R hown hK hP r hI.1 hI.2.1 rfl 2 (by decide) t_0 rfl d_R_startOf_74 ?_
      refine lv_iload_n hx hb d_R_startOf_77 rfl (lv_at hl 4 rfl) ?_
      obtain ⟨hi78, h⟩ := og h
      refine wd_iald hx hb hK hP (r + 2) 0 hI.2.2.2.2.1.1 hI.2.2.2.2.1.2 rfl hi78 d_R_startOf_78 ?_
      refine lv_goto (tgt := 83) hx hb d_R_startOf_79 (by decide) ?_
      obtain rfl := oe h
      exact wd_iret0 hx hb hr hlk d_R_startOf_83
  · replace h := ogf c18_0 h
    by_cases c18_1 : x1 = 1
    · replace h := ogt c18_1 h
      refine lv_tableIn (tgt := 84) hx hb d_R_startOf_18 (by rw [c18_1]; decide) (by rw [c18_1]; decide) (by rw [c18_1]; rfl) (by decide) ?_
      refine lv_iload_n hx hb d_R_startOf_84 rfl (lv_at hl 3 rfl) ?_
      refine lv_if_ne (tgt := 97) hx hb d_R_startOf_85 (by decide) (fun c85 => ?_) (fun c85 => ?_)
      · replace h := ogf c85 h
        refine lv_iconst (v := (-1)) hx hb d_R_startOf_97 (by decide) ?_
        obtain rfl := oe h
        exact wd_iret0 hx hb hr hlk d_R_startOf_98
      · replace h := ogt c85 h
        refine lv_aload_n hx hb d_R_startOf_88 rfl (lv_at hl 1 rfl) ?_
        refine wd_getr hx hb hts i_R hown hK hP r hI.1 hI.2.1 rfl 5 (by decide) t_1 rfl d_R_startOf_89 ?_
        refine lv_iload_n hx hb d_R_startOf_92 rfl (lv_at hl 4 rfl) ?_
        obtain ⟨hi93, h⟩ := og h
        refine wd_iald hx hb hK hP (r + 5) 0 hI.2.2.2.2.2.2.2.1.1 hI.2.2.2.2.2.2.2.1.2 rfl hi93 d_R_startOf_93 ?_
        refine lv_goto (tgt := 98) hx hb d_R_startOf_94 (by decide) ?_
        obtain rfl := oe h
        exact wd_iret0 hx hb hr hlk d_R_startOf_98
    · replace h := ogf c18_1 h
      by_cases c18_2 : x1 = 2
      · replace h := ogt c18_2 h
        refine lv_tableIn (tgt := 99) hx hb d_R_startOf_18 (by rw [c18_2]; decide) (by rw [c18_2]; decide) (by rw [c18_2]; rfl) (by decide) ?_
        refine lv_iload_n hx hb d_R_startOf_99 rfl (lv_at hl 3 rfl) ?_
        refine lv_iconst (v := 3) hx hb d_R_startOf_100 (by decide) ?_
        refine lv_icmp_ne (tgt := 113) hx hb d_R_startOf_101 (by decide) (fun c101 => ?_) (fun c101 => ?_)
        · replace h := ogf c101 h
          refine lv_iconst (v := (-1)) hx hb d_R_startOf_113 (by decide) ?_
          obtain rfl := oe h
          exact wd_iret0 hx hb hr hlk d_R_startOf_114
        · replace h := ogt c101 h
          refine lv_aload_n hx hb d_R_startOf_104 rfl (lv_at hl 1 rfl) ?_
          refine wd_getr hx hb hts i_R hown hK hP r hI.1 hI.2.1 rfl 2 (by decide) t_0 rfl d_R_startOf_105 ?_
          refine lv_iload_n hx hb d_R_startOf_108 rfl (lv_at hl 4 rfl) ?_
          obtain ⟨hi109, h⟩ := og h
          refine wd_iald hx hb hK hP (r + 2) 0 hI.2.2.2.2.1.1 hI.2.2.2.2.1.2 rfl hi109 d_R_startOf_109 ?_
          refine lv_goto (tgt := 114) hx hb d_R_startOf_110 (by decide) ?_
          obtain rfl := oe h
          exact wd_iret0 hx hb hr hlk d_R_startOf_114
      · replace h := ogf c18_2 h
        by_cases c18_3 : x1 = 3
        · replace h := ogt c18_3 h
          refine lv_tableIn (tgt := 115) hx hb d_R_startOf_18 (by rw [c18_3]; decide) (by rw [c18_3]; decide) (by rw [c18_3]; rfl) (by decide) ?_
          refine lv_iload hx hb d_R_startOf_115 (lv_at hl 0 rfl) ?_
          refine lv_if_eq (tgt := 127) hx hb d_R_startOf_117 (by decide) (fun c117 => ?_) (fun c117 => ?_)
          · replace h := ogt c117 h
            refine lv_iload_n hx hb d_R_startOf_127 rfl (lv_at hl 3 rfl) ?_
            refine lv_iconst (v := 3) hx hb d_R_startOf_128 (by decide) ?_
            refine lv_icmp_ne (tgt := 141) hx hb d_R_startOf_129 (by decide) (fun c129 => ?_) (fun c129 => ?_)
            · replace h := ogf c129 h
              refine lv_iconst (v := (-1)) hx hb d_R_startOf_141 (by decide) ?_
              obtain rfl := oe h
              exact wd_iret0 hx hb hr hlk d_R_startOf_142
            · replace h := ogt c129 h
              refine lv_aload_n hx hb d_R_startOf_132 rfl (lv_at hl 1 rfl) ?_
              refine wd_getr hx hb hts i_R hown hK hP r hI.1 hI.2.1 rfl 3 (by decide) t_2 rfl d_R_startOf_133 ?_
              refine lv_iload_n hx hb d_R_startOf_136 rfl (lv_at hl 4 rfl) ?_
              obtain ⟨hi137, h⟩ := og h
              refine wd_iald hx hb hK hP (r + 3) 0 hI.2.2.2.2.2.1.1 hI.2.2.2.2.2.1.2 rfl hi137 d_R_startOf_137 ?_
              refine lv_goto (tgt := 142) hx hb d_R_startOf_138 (by decide) ?_
              obtain rfl := oe h
              exact wd_iret0 hx hb hr hlk d_R_startOf_142
          · replace h := ogf c117 h
            refine lv_aload_n hx hb d_R_startOf_120 rfl (lv_at hl 1 rfl) ?_
            refine wd_geti hx hb hts i_R hown hK hP r hI.1 hI.2.1 rfl 7 (by decide) t_3 rfl d_R_startOf_121 ?_
            refine lv_goto (tgt := 142) hx hb d_R_startOf_124 (by decide) ?_
            obtain rfl := oe h
            exact wd_iret0 hx hb hr hlk d_R_startOf_142
        · replace h := ogf c18_3 h
          by_cases c18_4 : x1 = 4
          · replace h := ogt c18_4 h
            refine lv_tableIn (tgt := 143) hx hb d_R_startOf_18 (by rw [c18_4]; decide) (by rw [c18_4]; decide) (by rw [c18_4]; rfl) (by decide) ?_
            refine lv_iload_n hx hb d_R_startOf_143 rfl (lv_at hl 3 rfl) ?_
            refine lv_iconst (v := 1) hx hb d_R_startOf_144 (by decide) ?_
            refine lv_icmp_ne (tgt := 155) hx hb d_R_startOf_145 (by decide) (fun c145 => ?_) (fun c145 => ?_)
            · replace h := ogf c145 h
              refine lv_iconst (v := (-1)) hx hb d_R_startOf_155 (by decide) ?_
              obtain rfl := oe h
              exact wd_iret0 hx hb hr hlk d_R_startOf_156
            · replace h := ogt c145 h
              refine lv_aload_n hx hb d_R_startOf_148 rfl (lv_at hl 1 rfl) ?_
              refine wd_geti hx hb hts i_R hown hK hP r hI.1 hI.2.1 rfl 8 (by decide) t_4 rfl d_R_startOf_149 ?_
              refine lv_goto (tgt := 156) hx hb d_R_startOf_152 (by decide) ?_
              obtain rfl := oe h
              exact wd_iret0 hx hb hr hlk d_R_startOf_156
          · replace h := ogf c18_4 h
            by_cases c18_5 : x1 = 5
            · replace h := ogt c18_5 h
              refine lv_tableIn (tgt := 157) hx hb d_R_startOf_18 (by rw [c18_5]; decide) (by rw [c18_5]; decide) (by rw [c18_5]; rfl) (by decide) ?_
              refine lv_iload_n hx hb d_R_startOf_157 rfl (lv_at hl 3 rfl) ?_
              refine lv_iconst (v := 3) hx hb d_R_startOf_158 (by decide) ?_
              refine lv_icmp_ne (tgt := 171) hx hb d_R_startOf_159 (by decide) (fun c159 => ?_) (fun c159 => ?_)
              · replace h := ogf c159 h
                refine lv_iconst (v := (-1)) hx hb d_R_startOf_171 (by decide) ?_
                obtain rfl := oe h
                exact wd_iret0 hx hb hr hlk d_R_startOf_172
              · replace h := ogt c159 h
                refine lv_aload_n hx hb d_R_startOf_162 rfl (lv_at hl 1 rfl) ?_
                refine wd_getr hx hb hts i_R hown hK hP r hI.1 hI.2.1 rfl 4 (by decide) t_5 rfl d_R_startOf_163 ?_
                refine lv_iload_n hx hb d_R_startOf_166 rfl (lv_at hl 4 rfl) ?_
                obtain ⟨hi167, h⟩ := og h
                refine wd_iald hx hb hK hP (r + 4) 0 hI.2.2.2.2.2.2.1.1 hI.2.2.2.2.2.2.1.2 rfl hi167 d_R_startOf_167 ?_
                refine lv_goto (tgt := 172) hx hb d_R_startOf_168 (by decide) ?_
                obtain rfl := oe h
                exact wd_iret0 hx hb hr hlk d_R_startOf_172
            · replace h := ogf c18_5 h
              by_cases c18_6 : x1 = 6
              · replace h := ogt c18_6 h
                refine lv_tableIn (tgt := 173) hx hb d_R_startOf_18 (by rw [c18_6]; decide) (by rw [c18_6]; decide) (by rw [c18_6]; rfl) (by decide) ?_
                refine lv_iload_n hx hb d_R_startOf_173 rfl (lv_at hl 3 rfl) ?_
                refine lv_if_ne (tgt := 186) hx hb d_R_startOf_174 (by decide) (fun c174 => ?_) (fun c174 => ?_)
                · replace h := ogf c174 h
                  refine lv_iconst (v := (-1)) hx hb d_R_startOf_186 (by decide) ?_
                  obtain rfl := oe h
                  exact wd_iret0 hx hb hr hlk d_R_startOf_187
                · replace h := ogt c174 h
                  refine lv_aload_n hx hb d_R_startOf_177 rfl (lv_at hl 1 rfl) ?_
                  refine wd_getr hx hb hts i_R hown hK hP r hI.1 hI.2.1 rfl 6 (by decide) t_6 rfl d_R_startOf_178 ?_
                  refine lv_iconst (v := 0) hx hb d_R_startOf_181 (by decide) ?_
                  obtain ⟨hi182, h⟩ := og h
                  refine wd_iald hx hb hK hP (r + 6) 0 hI.2.2.2.2.2.2.2.2.1 hI.2.2.2.2.2.2.2.2.2 rfl hi182 d_R_startOf_182 ?_
                  refine lv_goto (tgt := 187) hx hb d_R_startOf_183 (by decide) ?_
                  obtain rfl := oe h
                  exact wd_iret0 hx hb hr hlk d_R_startOf_187
              · replace h := ogf c18_6 h
                by_cases c18_7 : x1 = 7
                · replace h := ogt c18_7 h
                  refine lv_tableIn (tgt := 188) hx hb d_R_startOf_18 (by rw [c18_7]; decide) (by rw [c18_7]; decide) (by rw [c18_7]; rfl) (by decide) ?_
                  refine lv_aload_n hx hb d_R_startOf_188 rfl (lv_at hl 1 rfl) ?_
                  refine wd_geti hx hb hts i_R hown hK hP r hI.1 hI.2.1 rfl 9 (by decide) t_7 rfl d_R_startOf_189 ?_
                  obtain rfl := oe h
                  exact wd_iret0 hx hb hr hlk d_R_startOf_192
                · replace h := ogf c18_7 h
                  by_cases c18_8 : x1 = 8
                  · replace h := ogt c18_8 h
                    refine lv_tableIn (tgt := 193) hx hb d_R_startOf_18 (by rw [c18_8]; decide) (by rw [c18_8]; decide) (by rw [c18_8]; rfl) (by decide) ?_
                    refine lv_iload_n hx hb d_R_startOf_193 rfl (lv_at hl 3 rfl) ?_
                    refine lv_if_ne (tgt := 206) hx hb d_R_startOf_194 (by decide) (fun c194 => ?_) (fun c194 => ?_)
                    · replace h := ogf c194 h
                      refine lv_iconst (v := (-1)) hx hb d_R_startOf_206 (by decide) ?_
                      obtain rfl := oe h
                      exact wd_iret0 hx hb hr hlk d_R_startOf_207
                    · replace h := ogt c194 h
                      refine lv_aload_n hx hb d_R_startOf_197 rfl (lv_at hl 1 rfl) ?_
                      refine wd_getr hx hb hts i_R hown hK hP r hI.1 hI.2.1 rfl 6 (by decide) t_6 rfl d_R_startOf_198 ?_
                      refine lv_iconst (v := 3) hx hb d_R_startOf_201 (by decide) ?_
                      obtain ⟨hi202, h⟩ := og h
                      refine wd_iald hx hb hK hP (r + 6) 0 hI.2.2.2.2.2.2.2.2.1 hI.2.2.2.2.2.2.2.2.2 rfl hi202 d_R_startOf_202 ?_
                      refine lv_goto (tgt := 207) hx hb d_R_startOf_203 (by decide) ?_
                      obtain rfl := oe h
                      exact wd_iret0 hx hb hr hlk d_R_startOf_207
                  · replace h := ogf c18_8 h
                    have z18_0 := lv_neT (a := 0) c18_0 (by decide)
                    have z18_1 := lv_neT (a := 1) c18_1 (by decide)
                    have z18_2 := lv_neT (a := 2) c18_2 (by decide)
                    have z18_3 := lv_neT (a := 3) c18_3 (by decide)
                    have z18_4 := lv_neT (a := 4) c18_4 (by decide)
                    have z18_5 := lv_neT (a := 5) c18_5 (by decide)
                    have z18_6 := lv_neT (a := 6) c18_6 (by decide)
                    have z18_7 := lv_neT (a := 7) c18_7 (by decide)
                    have z18_8 := lv_neT (a := 8) c18_8 (by decide)
                    refine lv_tableOut (tgt := 208) hx hb d_R_startOf_18 (by omega) (by decide) ?_
                    refine lv_iconst (v := (-1)) hx hb d_R_startOf_208 (by decide) ?_
                    obtain rfl := oe h
                    exact wd_iret0 hx hb hr hlk d_R_startOf_209
set_option maxHeartbeats 4000000 in
set_option maxRecDepth 100000 in
theorem w_R_startOf_10 {r : Nat} {rv : Int32} (G : Cx p s m args meth c (dC, dI) cls6 (tyl dA) "BankTimes$Rules" k_R_startOf 5 (some .int)) (hI : Is_R dA b N sh B C r)   : ∀ (x1 x2 x3 : Int32) (M : Mm) (ls : Array Slot), va_P (dC, dI) cls6 (wd b N sh M) s.heap → va_S (reg b N s.heap.size) s.heap s.heap [] → lv_has ls 5 [(0, .ref (b + r)), (1, .int x1), (2, .int x2), (3, .int x3)] → B_R_startOf_10 B C r x1 x2 x3 M = some rv → W p l e rm_R_startOf s m args below meth c s.heap [] 0 0 (MQ below (Qro rv) args s 0 0 nofree) (F0 m 10 ls []) := by
  obtain ⟨hx, hb, hml, hr, hown, hts, hlk, hK⟩ := id G
  intro x1 x2 x3 M ls hP hS hl h
  unfold B_R_startOf_10 at h
  refine lv_iconst (v := 1) hx hb d_R_startOf_10 (by decide) ?_
  refine lv_goto (tgt := 15) hx hb d_R_startOf_11 (by decide) ?_
  exact w_R_startOf_15 G hI  x1 x2 x3 1 M _ hP hS (lv_sub hl [0, 1, 2, 3] rfl) h
set_option maxHeartbeats 4000000 in
set_option maxRecDepth 100000 in
theorem w_R_startOf_0 {r : Nat} {rv : Int32} (G : Cx p s m args meth c (dC, dI) cls6 (tyl dA) "BankTimes$Rules" k_R_startOf 5 (some .int)) (hI : Is_R dA b N sh B C r)   : ∀ (x1 x2 x3 : Int32) (M : Mm) (ls : Array Slot), va_P (dC, dI) cls6 (wd b N sh M) s.heap → va_S (reg b N s.heap.size) s.heap s.heap [] → lv_has ls 5 [(0, .ref (b + r)), (1, .int x1), (2, .int x2), (3, .int x3)] → f_R_startOf B C r x1 x2 x3 M = some rv → W p l e rm_R_startOf s m args below meth c s.heap [] 0 0 (MQ below (Qro rv) args s 0 0 nofree) (F0 m 0 ls []) := by
  obtain ⟨hx, hb, hml, hr, hown, hts, hlk, hK⟩ := id G
  intro x1 x2 x3 M ls hP hS hl h
  unfold f_R_startOf at h
  refine lv_iload_n hx hb d_R_startOf_0 rfl (lv_at hl 2 rfl) ?_
  refine lv_iconst (v := 1) hx hb d_R_startOf_1 (by decide) ?_
  refine lv_icmp_eq (tgt := 10) hx hb d_R_startOf_2 (by decide) (fun c2 => ?_) (fun c2 => ?_)
  · replace h := ogt c2 h
    exact w_R_startOf_10 G hI  x1 x2 x3 M _ hP hS (lv_sub hl [0, 1, 2, 3] rfl) h
  · replace h := ogf c2 h
    refine lv_iload_n hx hb d_R_startOf_5 rfl (lv_at hl 2 rfl) ?_
    refine lv_iconst (v := 2) hx hb d_R_startOf_6 (by decide) ?_
    refine lv_icmp_ne (tgt := 14) hx hb d_R_startOf_7 (by decide) (fun c7 => ?_) (fun c7 => ?_)
    · replace h := ogf c7 h
      refine lv_iconst (v := 0) hx hb d_R_startOf_14 (by decide) ?_
      exact w_R_startOf_15 G hI  x1 x2 x3 0 M _ hP hS (lv_sub hl [0, 1, 2, 3] rfl) h
    · replace h := ogt c7 h
      exact w_R_startOf_10 G hI  x1 x2 x3 M _ hP hS (lv_sub hl [0, 1, 2, 3] rfl) h
theorem c_R_startOf (l : Launch) (r : Nat) (x1 x2 x3 : Int32) (M : Mm) (sz : Nat) (hI : Is_R dA b N sh B C r) {rv : Int32} (h : f_R_startOf B C r x1 x2 x3 M = some rv) : Met l y_R_startOf (wm y_R_startOf k_R_startOf 5 (some .int)) rm_R_startOf (Pw (dC, dI) cls6 (tyl dA) b N sh [.ref (b + r), .int x1, .int x2, .int x3] M sz) (Qro rv) 0 0 nofree := by
  refine mk_met (by decide) (Nat.le_of_ble_eq_true rfl) ?_
  intro p e s m below meth c ls G hsz hP hS hl
  subst hsz
  exact w_R_startOf_0 G hI _ _ _ _ ls hP hS hl h
end
abbrev rm_R_brokenTime : Room := { frames := 1, cells := 0, slots := 0, locals := 24 }
def B_R_brokenTime_46 (B C : Nat) (r : Nat) (K3 : Int32 → Int32 → Int32 → Int32 → Mm → Option (Int32)) (x1 x2 x3 x4 : Int32) (M : Mm) : Option (Int32) := bnd (x4 + 1) (fun v46 => K3 x1 x2 x3 v46 M)
def B_R_brokenTime_3 (B C : Nat) (r : Nat) : Nat → Int32 → Int32 → Int32 → Int32 → Mm → Option (Int32)
  | 0, _, _, _, _, _ => none
  | n + 1, x1, x2, x3, x4, M => (if (nI 9) ≤ x4 then some (-1) else (f_R_startOf B C r x4 x2 x3 M).bind (fun q18 => (if q18 = (-1) then B_R_brokenTime_46 B C r (fun y0 y1 y2 y3 M => B_R_brokenTime_3 B C r n y0 y1 y2 y3 M) x1 x2 x3 x4 M else (if ixb x4 9 = true then (if (M 1 x4.toNatClampNeg) ≤ (x1 - q18) then B_R_brokenTime_46 B C r (fun y0 y1 y2 y3 M => B_R_brokenTime_3 B C r n y0 y1 y2 y3 M) x1 x2 x3 x4 M else some x4) else none))))
def f_R_brokenTime (B C : Nat) (r : Nat) (x1 x2 x3 : Int32) (M : Mm) : Option (Int32) := B_R_brokenTime_3 B C r 1200 x1 x2 x3 0 M
section
variable {p : Program} {l : Launch} {e : Env} {s : State} {m : MethodId} {args : Array Value} {below : List Frame} {meth : Method} {c : Code} {dC : Nat → ClassId} {dI : Nat → Nat → Nat} {dA : Nat → ClassId} {b N B C : Nat} {sh : Shp}
set_option maxHeartbeats 4000000 in
set_option maxRecDepth 100000 in
theorem w_R_brokenTime_46 {r : Nat} {rv : Int32} (G : Cx p s m args meth c (dC, dI) cls6 (tyl dA) "BankTimes$Rules" k_R_brokenTime 6 (some .int)) (hI : Is_R dA b N sh B C r)  {K3 : Int32 → Int32 → Int32 → Int32 → Mm → Option (Int32)} (hK3 : ∀ (x1 x2 x3 x4 : Int32) (M : Mm) (ls : Array Slot), va_P (dC, dI) cls6 (wd b N sh M) s.heap → va_S (reg b N s.heap.size) s.heap s.heap [] → lv_has ls 6 [(0, .ref (b + r)), (1, .int x1), (2, .int x2), (3, .int x3), (4, .int x4)] → K3 x1 x2 x3 x4 M = some rv → W p l e rm_R_brokenTime s m args below meth c s.heap [] 0 0 (MQ below (Qro rv) args s 0 0 nofree) (F0 m 3 ls []))  : ∀ (x1 x2 x3 x4 : Int32) (M : Mm) (ls : Array Slot), va_P (dC, dI) cls6 (wd b N sh M) s.heap → va_S (reg b N s.heap.size) s.heap s.heap [] → lv_has ls 6 [(0, .ref (b + r)), (1, .int x1), (2, .int x2), (3, .int x3), (4, .int x4)] → B_R_brokenTime_46 B C r K3 x1 x2 x3 x4 M = some rv → W p l e rm_R_brokenTime s m args below meth c s.heap [] 0 0 (MQ below (Qro rv) args s 0 0 nofree) (F0 m 46 ls []) := by
  obtain ⟨hx, hb, hml, hr, hown, hts, hlk, hK⟩ := id G
  intro x1 x2 x3 x4 M ls hP hS hl h
  unfold B_R_brokenTime_46 at h
  obtain ⟨v46, e46, h⟩ := ln h
  refine lv_iinc (v := v46) (lv' := [(4, .int v46), (0, .ref (b + r)), (1, .int x1), (2, .int x2), (3, .int x3)]) hx hb d_R_brokenTime_46 hl (k := 4) rfl (by rw [e46]; rfl) (by decide) rfl (fun ls hl => ?_)
  refine lv_goto (tgt := 3) hx hb d_R_brokenTime_49 (by decide) ?_
  exact hK3 x1 x2 x3 v46 M _ hP hS (lv_sub hl [1, 2, 3, 4, 0] rfl) h
set_option maxHeartbeats 4000000 in
set_option maxRecDepth 100000 in
theorem w_R_brokenTime_3 {r : Nat} {rv : Int32} (G : Cx p s m args meth c (dC, dI) cls6 (tyl dA) "BankTimes$Rules" k_R_brokenTime 6 (some .int)) (hI : Is_R dA b N sh B C r)   : ∀ (n : Nat) (x1 x2 x3 x4 : Int32) (M : Mm) (ls : Array Slot), va_P (dC, dI) cls6 (wd b N sh M) s.heap → va_S (reg b N s.heap.size) s.heap s.heap [] → lv_has ls 6 [(0, .ref (b + r)), (1, .int x1), (2, .int x2), (3, .int x3), (4, .int x4)] → B_R_brokenTime_3 B C r n x1 x2 x3 x4 M = some rv → W p l e rm_R_brokenTime s m args below meth c s.heap [] 0 0 (MQ below (Qro rv) args s 0 0 nofree) (F0 m 3 ls []) := by
  obtain ⟨hx, hb, hml, hr, hown, hts, hlk, hK⟩ := id G
  intro n
  induction n with
  | zero =>
    intro x1 x2 x3 x4 M ls hP hS hl h
    cases h
  | succ n ih =>
    intro x1 x2 x3 x4 M ls hP hS hl h
    rw [B_R_brokenTime_3] at h
    refine lv_iload hx hb d_R_brokenTime_3 (lv_at hl 4 rfl) ?_
    refine lv_aload_n hx hb d_R_brokenTime_5 rfl (lv_at hl 0 rfl) ?_
    refine wd_getr hx hb hts i_R hown hK hP r hI.1 hI.2.1 rfl 0 (by decide) t_8 rfl d_R_brokenTime_6 ?_
    refine wd_alen hx hb hK hP 1 0 hI.2.2.1.1 hI.2.2.1.2 rfl d_R_brokenTime_9 ?_
    refine lv_icmp_ge (tgt := 52) hx hb d_R_brokenTime_10 (by decide) (fun c10 => ?_) (fun c10 => ?_)
    · replace h := ogt c10 h
      refine lv_iconst (v := (-1)) hx hb d_R_brokenTime_52 (by decide) ?_
      obtain rfl := oe h
      exact wd_iret0 hx hb hr hlk d_R_brokenTime_53
    · replace h := ogf c10 h
      refine lv_aload_n hx hb d_R_brokenTime_13 rfl (lv_at hl 0 rfl) ?_
      refine lv_iload hx hb d_R_brokenTime_14 (lv_at hl 4 rfl) ?_
      refine lv_iload_n hx hb d_R_brokenTime_16 rfl (lv_at hl 2 rfl) ?_
      refine lv_iload_n hx hb d_R_brokenTime_17 rfl (lv_at hl 3 rfl) ?_
      obtain ⟨q18, hc18, h⟩ := obd h
      refine wd_cvr (As := [.int x4, .int x2, .int x3]) (rest := []) ⟨hx, hb, hml, hown, hts⟩ hK hP r hI.1 hI.2.1 rfl (c_R_startOf l r x4 x2 x3 M _ hI hc18) (cwV 3 hts (wmV t_9 t_11 t_12 t_13 t_10) rfl rfl rfl (by decide +kernel) ⟨by decide, by decide⟩) rfl hl.1 rfl (Nat.le_of_ble_eq_true rfl) d_R_brokenTime_18 ⟨Nat.zero_le _, Nat.zero_le _⟩ ?_
      refine lv_istore (lv' := [(5, .int q18), (0, .ref (b + r)), (1, .int x1), (2, .int x2), (3, .int x3), (4, .int x4)]) hx hb d_R_brokenTime_21 hl (by decide) rfl (fun ls hl => ?_)
      refine lv_iload hx hb d_R_brokenTime_23 (lv_at hl 0 rfl) ?_
      refine lv_iconst (v := (-1)) hx hb d_R_brokenTime_25 (by decide) ?_
      refine lv_icmp_eq (tgt := 46) hx hb d_R_brokenTime_26 (by decide) (fun c26 => ?_) (fun c26 => ?_)
      · replace h := ogt c26 h
        exact w_R_brokenTime_46 G hI ih  x1 x2 x3 x4 M _ hP hS (lv_sub hl [1, 2, 3, 4, 5] rfl) h
      · replace h := ogf c26 h
        refine lv_iload_n hx hb d_R_brokenTime_29 rfl (lv_at hl 2 rfl) ?_
        refine lv_iload hx hb d_R_brokenTime_30 (lv_at hl 0 rfl) ?_
        refine lv_isub hx hb d_R_brokenTime_32 ?_
        refine lv_aload_n hx hb d_R_brokenTime_33 rfl (lv_at hl 1 rfl) ?_
        refine wd_getr hx hb hts i_R hown hK hP r hI.1 hI.2.1 rfl 0 (by decide) t_8 rfl d_R_brokenTime_34 ?_
        refine lv_iload hx hb d_R_brokenTime_37 (lv_at hl 5 rfl) ?_
        obtain ⟨hi39, h⟩ := og h
        refine wd_iald hx hb hK hP 1 0 hI.2.2.1.1 hI.2.2.1.2 rfl hi39 d_R_brokenTime_39 ?_
        refine lv_icmp_ge (tgt := 46) hx hb d_R_brokenTime_40 (by decide) (fun c40 => ?_) (fun c40 => ?_)
        · replace h := ogt c40 h
          exact w_R_brokenTime_46 G hI ih  x1 x2 x3 x4 M _ hP hS (lv_sub hl [1, 2, 3, 4, 5] rfl) h
        · replace h := ogf c40 h
          refine lv_iload hx hb d_R_brokenTime_43 (lv_at hl 5 rfl) ?_
          obtain rfl := oe h
          exact wd_iret0 hx hb hr hlk d_R_brokenTime_45
set_option maxHeartbeats 4000000 in
set_option maxRecDepth 100000 in
theorem w_R_brokenTime_0 {r : Nat} {rv : Int32} (G : Cx p s m args meth c (dC, dI) cls6 (tyl dA) "BankTimes$Rules" k_R_brokenTime 6 (some .int)) (hI : Is_R dA b N sh B C r)   : ∀ (x1 x2 x3 : Int32) (M : Mm) (ls : Array Slot), va_P (dC, dI) cls6 (wd b N sh M) s.heap → va_S (reg b N s.heap.size) s.heap s.heap [] → lv_has ls 6 [(0, .ref (b + r)), (1, .int x1), (2, .int x2), (3, .int x3)] → f_R_brokenTime B C r x1 x2 x3 M = some rv → W p l e rm_R_brokenTime s m args below meth c s.heap [] 0 0 (MQ below (Qro rv) args s 0 0 nofree) (F0 m 0 ls []) := by
  obtain ⟨hx, hb, hml, hr, hown, hts, hlk, hK⟩ := id G
  intro x1 x2 x3 M ls hP hS hl h
  unfold f_R_brokenTime at h
  refine lv_iconst (v := 0) hx hb d_R_brokenTime_0 (by decide) ?_
  refine lv_istore (lv' := [(4, .int 0), (0, .ref (b + r)), (1, .int x1), (2, .int x2), (3, .int x3)]) hx hb d_R_brokenTime_1 hl (by decide) rfl (fun ls hl => ?_)
  exact w_R_brokenTime_3 G hI  1200 x1 x2 x3 0 M _ hP hS (lv_sub hl [1, 2, 3, 4, 0] rfl) h
theorem c_R_brokenTime (l : Launch) (r : Nat) (x1 x2 x3 : Int32) (M : Mm) (sz : Nat) (hI : Is_R dA b N sh B C r) {rv : Int32} (h : f_R_brokenTime B C r x1 x2 x3 M = some rv) : Met l y_R_brokenTime (wm y_R_brokenTime k_R_brokenTime 6 (some .int)) rm_R_brokenTime (Pw (dC, dI) cls6 (tyl dA) b N sh [.ref (b + r), .int x1, .int x2, .int x3] M sz) (Qro rv) 0 0 nofree := by
  refine mk_met (by decide) (Nat.le_of_ble_eq_true rfl) ?_
  intro p e s m below meth c ls G hsz hP hS hl
  subst hsz
  exact w_R_brokenTime_0 G hI _ _ _ _ ls hP hS hl h
end
abbrev rm_R_anyOpen : Room := { frames := 0, cells := 0, slots := 0, locals := 0 }
def B_R_anyOpen_2 (B C : Nat) (r : Nat) : Nat → Int32 → Mm → Option (Int32)
  | 0, _, _ => none
  | n + 1, x1, M => (if (nI B) ≤ x1 then some 0 else (if ixb x1 B = true then (if (M (r + 1) x1.toNatClampNeg) = (-1) then bnd (x1 + 1) (fun v23 => B_R_anyOpen_2 B C r n v23 M) else some 1) else none))
def f_R_anyOpen (B C : Nat) (r : Nat) (M : Mm) : Option (Int32) := B_R_anyOpen_2 B C r 1200 0 M
section
variable {p : Program} {l : Launch} {e : Env} {s : State} {m : MethodId} {args : Array Value} {below : List Frame} {meth : Method} {c : Code} {dC : Nat → ClassId} {dI : Nat → Nat → Nat} {dA : Nat → ClassId} {b N B C : Nat} {sh : Shp}
set_option maxHeartbeats 4000000 in
set_option maxRecDepth 100000 in
theorem w_R_anyOpen_2 {r : Nat} {rv : Int32} (G : Cx p s m args meth c (dC, dI) cls6 (tyl dA) "BankTimes$Rules" k_R_anyOpen 2 (some .boolean)) (hI : Is_R dA b N sh B C r)   : ∀ (n : Nat) (x1 : Int32) (M : Mm) (ls : Array Slot), va_P (dC, dI) cls6 (wd b N sh M) s.heap → va_S (reg b N s.heap.size) s.heap s.heap [] → lv_has ls 2 [(0, .ref (b + r)), (1, .int x1)] → B_R_anyOpen_2 B C r n x1 M = some rv → W p l e rm_R_anyOpen s m args below meth c s.heap [] 0 0 (MQ below (Qro rv) args s 0 0 nofree) (F0 m 2 ls []) := by
  obtain ⟨hx, hb, hml, hr, hown, hts, hlk, hK⟩ := id G
  intro n
  induction n with
  | zero =>
    intro x1 M ls hP hS hl h
    cases h
  | succ n ih =>
    intro x1 M ls hP hS hl h
    rw [B_R_anyOpen_2] at h
    refine lv_iload_n hx hb d_R_anyOpen_2 rfl (lv_at hl 1 rfl) ?_
    refine lv_aload_n hx hb d_R_anyOpen_3 rfl (lv_at hl 0 rfl) ?_
    refine wd_getr hx hb hts i_R hown hK hP r hI.1 hI.2.1 rfl 1 (by decide) t_14 rfl d_R_anyOpen_4 ?_
    refine wd_alen hx hb hK hP (r + 1) 0 hI.2.2.2.1.1 hI.2.2.2.1.2 rfl d_R_anyOpen_7 ?_
    refine lv_icmp_ge (tgt := 29) hx hb d_R_anyOpen_8 (by decide) (fun c8 => ?_) (fun c8 => ?_)
    · replace h := ogt c8 h
      refine lv_iconst (v := 0) hx hb d_R_anyOpen_29 (by decide) ?_
      obtain rfl := oe h
      exact wd_zret0 hx hb hr rfl hlk d_R_anyOpen_30
    · replace h := ogf c8 h
      refine lv_aload_n hx hb d_R_anyOpen_11 rfl (lv_at hl 0 rfl) ?_
      refine wd_getr hx hb hts i_R hown hK hP r hI.1 hI.2.1 rfl 1 (by decide) t_14 rfl d_R_anyOpen_12 ?_
      refine lv_iload_n hx hb d_R_anyOpen_15 rfl (lv_at hl 1 rfl) ?_
      obtain ⟨hi16, h⟩ := og h
      refine wd_iald hx hb hK hP (r + 1) 0 hI.2.2.2.1.1 hI.2.2.2.1.2 rfl hi16 d_R_anyOpen_16 ?_
      refine lv_iconst (v := (-1)) hx hb d_R_anyOpen_17 (by decide) ?_
      refine lv_icmp_eq (tgt := 23) hx hb d_R_anyOpen_18 (by decide) (fun c18 => ?_) (fun c18 => ?_)
      · replace h := ogt c18 h
        obtain ⟨v23, e23, h⟩ := ln h
        refine lv_iinc (v := v23) (lv' := [(1, .int v23), (0, .ref (b + r))]) hx hb d_R_anyOpen_23 hl (k := 1) rfl (by rw [e23]; rfl) (by decide) rfl (fun ls hl => ?_)
        refine lv_goto (tgt := 2) hx hb d_R_anyOpen_26 (by decide) ?_
        exact ih v23 M _ hP hS (lv_sub hl [1, 0] rfl) h
      · replace h := ogf c18 h
        refine lv_iconst (v := 1) hx hb d_R_anyOpen_21 (by decide) ?_
        obtain rfl := oe h
        exact wd_zret0 hx hb hr rfl hlk d_R_anyOpen_22
set_option maxHeartbeats 4000000 in
set_option maxRecDepth 100000 in
theorem w_R_anyOpen_0 {r : Nat} {rv : Int32} (G : Cx p s m args meth c (dC, dI) cls6 (tyl dA) "BankTimes$Rules" k_R_anyOpen 2 (some .boolean)) (hI : Is_R dA b N sh B C r)   : ∀ (M : Mm) (ls : Array Slot), va_P (dC, dI) cls6 (wd b N sh M) s.heap → va_S (reg b N s.heap.size) s.heap s.heap [] → lv_has ls 2 [(0, .ref (b + r))] → f_R_anyOpen B C r M = some rv → W p l e rm_R_anyOpen s m args below meth c s.heap [] 0 0 (MQ below (Qro rv) args s 0 0 nofree) (F0 m 0 ls []) := by
  obtain ⟨hx, hb, hml, hr, hown, hts, hlk, hK⟩ := id G
  intro M ls hP hS hl h
  unfold f_R_anyOpen at h
  refine lv_iconst (v := 0) hx hb d_R_anyOpen_0 (by decide) ?_
  refine lv_istore_n (lv' := [(1, .int 0), (0, .ref (b + r))]) hx hb d_R_anyOpen_1 rfl hl (by decide) rfl (fun ls hl => ?_)
  exact w_R_anyOpen_2 G hI  1200 0 M _ hP hS (lv_sub hl [1, 0] rfl) h
theorem c_R_anyOpen (l : Launch) (r : Nat) (M : Mm) (sz : Nat) (hI : Is_R dA b N sh B C r) {rv : Int32} (h : f_R_anyOpen B C r M = some rv) : Met l y_R_anyOpen (wm y_R_anyOpen k_R_anyOpen 2 (some .boolean)) rm_R_anyOpen (Pw (dC, dI) cls6 (tyl dA) b N sh [.ref (b + r)] M sz) (Qro rv) 0 0 nofree := by
  refine mk_met (by decide) (Nat.le_of_ble_eq_true rfl) ?_
  intro p e s m below meth c ls G hsz hP hS hl
  subst hsz
  exact w_R_anyOpen_0 G hI _ ls hP hS hl h
end
abbrev rm_R_lowestToClose : Room := { frames := 2, cells := 0, slots := 0, locals := 49 }
def B_R_lowestToClose_34 (B C : Nat) (r : Nat) (K2 : Int32 → Int32 → Mm → Option (Int32)) (x1 x2 : Int32) (M : Mm) : Option (Int32) := bnd (x2 + 1) (fun v34 => K2 x1 v34 M)
def B_R_lowestToClose_2 (B C : Nat) (r : Nat) : Nat → Int32 → Int32 → Mm → Option (Int32)
  | 0, _, _, _ => none
  | n + 1, x1, x2, M => (if (nI B) ≤ x2 then some (-1) else (if ixb x2 B = true then (if (M (r + 1) x2.toNatClampNeg) = (-1) then B_R_lowestToClose_34 B C r (fun y0 y1 M => B_R_lowestToClose_2 B C r n y0 y1 M) x1 x2 M else (f_R_brokenTime B C r x1 3 x2 M).bind (fun q25 => (if q25 = (-1) then some x2 else B_R_lowestToClose_34 B C r (fun y0 y1 M => B_R_lowestToClose_2 B C r n y0 y1 M) x1 x2 M))) else none))
def f_R_lowestToClose (B C : Nat) (r : Nat) (x1 : Int32) (M : Mm) : Option (Int32) := B_R_lowestToClose_2 B C r 1200 x1 0 M
section
variable {p : Program} {l : Launch} {e : Env} {s : State} {m : MethodId} {args : Array Value} {below : List Frame} {meth : Method} {c : Code} {dC : Nat → ClassId} {dI : Nat → Nat → Nat} {dA : Nat → ClassId} {b N B C : Nat} {sh : Shp}
set_option maxHeartbeats 4000000 in
set_option maxRecDepth 100000 in
theorem w_R_lowestToClose_34 {r : Nat} {rv : Int32} (G : Cx p s m args meth c (dC, dI) cls6 (tyl dA) "BankTimes$Rules" k_R_lowestToClose 3 (some .int)) (hI : Is_R dA b N sh B C r)  {K2 : Int32 → Int32 → Mm → Option (Int32)} (hK2 : ∀ (x1 x2 : Int32) (M : Mm) (ls : Array Slot), va_P (dC, dI) cls6 (wd b N sh M) s.heap → va_S (reg b N s.heap.size) s.heap s.heap [] → lv_has ls 3 [(0, .ref (b + r)), (1, .int x1), (2, .int x2)] → K2 x1 x2 M = some rv → W p l e rm_R_lowestToClose s m args below meth c s.heap [] 0 0 (MQ below (Qro rv) args s 0 0 nofree) (F0 m 2 ls []))  : ∀ (x1 x2 : Int32) (M : Mm) (ls : Array Slot), va_P (dC, dI) cls6 (wd b N sh M) s.heap → va_S (reg b N s.heap.size) s.heap s.heap [] → lv_has ls 3 [(0, .ref (b + r)), (1, .int x1), (2, .int x2)] → B_R_lowestToClose_34 B C r K2 x1 x2 M = some rv → W p l e rm_R_lowestToClose s m args below meth c s.heap [] 0 0 (MQ below (Qro rv) args s 0 0 nofree) (F0 m 34 ls []) := by
  obtain ⟨hx, hb, hml, hr, hown, hts, hlk, hK⟩ := id G
  intro x1 x2 M ls hP hS hl h
  unfold B_R_lowestToClose_34 at h
  obtain ⟨v34, e34, h⟩ := ln h
  refine lv_iinc (v := v34) (lv' := [(2, .int v34), (0, .ref (b + r)), (1, .int x1)]) hx hb d_R_lowestToClose_34 hl (k := 2) rfl (by rw [e34]; rfl) (by decide) rfl (fun ls hl => ?_)
  refine lv_goto (tgt := 2) hx hb d_R_lowestToClose_37 (by decide) ?_
  exact hK2 x1 v34 M _ hP hS (lv_sub hl [1, 2, 0] rfl) h
set_option maxHeartbeats 4000000 in
set_option maxRecDepth 100000 in
theorem w_R_lowestToClose_2 {r : Nat} {rv : Int32} (G : Cx p s m args meth c (dC, dI) cls6 (tyl dA) "BankTimes$Rules" k_R_lowestToClose 3 (some .int)) (hI : Is_R dA b N sh B C r)   : ∀ (n : Nat) (x1 x2 : Int32) (M : Mm) (ls : Array Slot), va_P (dC, dI) cls6 (wd b N sh M) s.heap → va_S (reg b N s.heap.size) s.heap s.heap [] → lv_has ls 3 [(0, .ref (b + r)), (1, .int x1), (2, .int x2)] → B_R_lowestToClose_2 B C r n x1 x2 M = some rv → W p l e rm_R_lowestToClose s m args below meth c s.heap [] 0 0 (MQ below (Qro rv) args s 0 0 nofree) (F0 m 2 ls []) := by
  obtain ⟨hx, hb, hml, hr, hown, hts, hlk, hK⟩ := id G
  intro n
  induction n with
  | zero =>
    intro x1 x2 M ls hP hS hl h
    cases h
  | succ n ih =>
    intro x1 x2 M ls hP hS hl h
    rw [B_R_lowestToClose_2] at h
    refine lv_iload_n hx hb d_R_lowestToClose_2 rfl (lv_at hl 2 rfl) ?_
    refine lv_aload_n hx hb d_R_lowestToClose_3 rfl (lv_at hl 0 rfl) ?_
    refine wd_getr hx hb hts i_R hown hK hP r hI.1 hI.2.1 rfl 1 (by decide) t_14 rfl d_R_lowestToClose_4 ?_
    refine wd_alen hx hb hK hP (r + 1) 0 hI.2.2.2.1.1 hI.2.2.2.1.2 rfl d_R_lowestToClose_7 ?_
    refine lv_icmp_ge (tgt := 40) hx hb d_R_lowestToClose_8 (by decide) (fun c8 => ?_) (fun c8 => ?_)
    · replace h := ogt c8 h
      refine lv_iconst (v := (-1)) hx hb d_R_lowestToClose_40 (by decide) ?_
      obtain rfl := oe h
      exact wd_iret0 hx hb hr hlk d_R_lowestToClose_41
    · replace h := ogf c8 h
      refine lv_aload_n hx hb d_R_lowestToClose_11 rfl (lv_at hl 0 rfl) ?_
      refine wd_getr hx hb hts i_R hown hK hP r hI.1 hI.2.1 rfl 1 (by decide) t_14 rfl d_R_lowestToClose_12 ?_
      refine lv_iload_n hx hb d_R_lowestToClose_15 rfl (lv_at hl 2 rfl) ?_
      obtain ⟨hi16, h⟩ := og h
      refine wd_iald hx hb hK hP (r + 1) 0 hI.2.2.2.1.1 hI.2.2.2.1.2 rfl hi16 d_R_lowestToClose_16 ?_
      refine lv_iconst (v := (-1)) hx hb d_R_lowestToClose_17 (by decide) ?_
      refine lv_icmp_eq (tgt := 34) hx hb d_R_lowestToClose_18 (by decide) (fun c18 => ?_) (fun c18 => ?_)
      · replace h := ogt c18 h
        exact w_R_lowestToClose_34 G hI ih  x1 x2 M _ hP hS (lv_sub hl [0, 1, 2] rfl) h
      · replace h := ogf c18 h
        refine lv_aload_n hx hb d_R_lowestToClose_21 rfl (lv_at hl 0 rfl) ?_
        refine lv_iload_n hx hb d_R_lowestToClose_22 rfl (lv_at hl 1 rfl) ?_
        refine lv_iconst (v := 3) hx hb d_R_lowestToClose_23 (by decide) ?_
        refine lv_iload_n hx hb d_R_lowestToClose_24 rfl (lv_at hl 2 rfl) ?_
        obtain ⟨q25, hc25, h⟩ := obd h
        refine wd_cvr (As := [.int x1, .int 3, .int x2]) (rest := []) ⟨hx, hb, hml, hown, hts⟩ hK hP r hI.1 hI.2.1 rfl (c_R_brokenTime l r x1 3 x2 M _ hI hc25) (cwV 3 hts (wmV t_15 t_17 t_18 t_13 t_16) rfl rfl rfl (by decide +kernel) ⟨by decide, by decide⟩) rfl hl.1 rfl (Nat.le_of_ble_eq_true rfl) d_R_lowestToClose_25 ⟨Nat.zero_le _, Nat.zero_le _⟩ ?_
        refine lv_iconst (v := (-1)) hx hb d_R_lowestToClose_28 (by decide) ?_
        refine lv_icmp_ne (tgt := 34) hx hb d_R_lowestToClose_29 (by decide) (fun c29 => ?_) (fun c29 => ?_)
        · replace h := ogf c29 h
          exact w_R_lowestToClose_34 G hI ih  x1 x2 M _ hP hS (lv_sub hl [0, 1, 2] rfl) h
        · replace h := ogt c29 h
          refine lv_iload_n hx hb d_R_lowestToClose_32 rfl (lv_at hl 2 rfl) ?_
          obtain rfl := oe h
          exact wd_iret0 hx hb hr hlk d_R_lowestToClose_33
set_option maxHeartbeats 4000000 in
set_option maxRecDepth 100000 in
theorem w_R_lowestToClose_0 {r : Nat} {rv : Int32} (G : Cx p s m args meth c (dC, dI) cls6 (tyl dA) "BankTimes$Rules" k_R_lowestToClose 3 (some .int)) (hI : Is_R dA b N sh B C r)   : ∀ (x1 : Int32) (M : Mm) (ls : Array Slot), va_P (dC, dI) cls6 (wd b N sh M) s.heap → va_S (reg b N s.heap.size) s.heap s.heap [] → lv_has ls 3 [(0, .ref (b + r)), (1, .int x1)] → f_R_lowestToClose B C r x1 M = some rv → W p l e rm_R_lowestToClose s m args below meth c s.heap [] 0 0 (MQ below (Qro rv) args s 0 0 nofree) (F0 m 0 ls []) := by
  obtain ⟨hx, hb, hml, hr, hown, hts, hlk, hK⟩ := id G
  intro x1 M ls hP hS hl h
  unfold f_R_lowestToClose at h
  refine lv_iconst (v := 0) hx hb d_R_lowestToClose_0 (by decide) ?_
  refine lv_istore_n (lv' := [(2, .int 0), (0, .ref (b + r)), (1, .int x1)]) hx hb d_R_lowestToClose_1 rfl hl (by decide) rfl (fun ls hl => ?_)
  exact w_R_lowestToClose_2 G hI  1200 x1 0 M _ hP hS (lv_sub hl [1, 2, 0] rfl) h
theorem c_R_lowestToClose (l : Launch) (r : Nat) (x1 : Int32) (M : Mm) (sz : Nat) (hI : Is_R dA b N sh B C r) {rv : Int32} (h : f_R_lowestToClose B C r x1 M = some rv) : Met l y_R_lowestToClose (wm y_R_lowestToClose k_R_lowestToClose 3 (some .int)) rm_R_lowestToClose (Pw (dC, dI) cls6 (tyl dA) b N sh [.ref (b + r), .int x1] M sz) (Qro rv) 0 0 nofree := by
  refine mk_met (by decide) (Nat.le_of_ble_eq_true rfl) ?_
  intro p e s m below meth c ls G hsz hP hS hl
  subst hsz
  exact w_R_lowestToClose_0 G hI _ _ ls hP hS hl h
end
abbrev rm_R_fitsBank : Room := { frames := 1, cells := 0, slots := 0, locals := 21 }
def f_R_fitsBank (B C : Nat) (r : Nat) (x1 x2 x3 : Int32) (M : Mm) : Option (Int32) := (if x1 = 0 then (if ixb x2 B = true then (if (M (r + 1) x2.toNatClampNeg) = (-1) then some 1 else some 0) else none) else (if x1 = 1 then (if ixb x2 B = true then (if (M (r + 1) x2.toNatClampNeg) = x3 then some 1 else some 0) else none) else (if x1 = 2 then (if ixb x2 B = true then (if (M (r + 1) x2.toNatClampNeg) = x3 then some 1 else some 0) else none) else (if x1 = 3 then (if ixb x2 B = true then (if (M (r + 1) x2.toNatClampNeg) = (-1) then some 0 else some 1) else none) else (if x1 = 4 then (f_R_anyOpen B C r M).bind (fun q69 => (if q69 = 0 then some 1 else some 0)) else (if ixb x2 B = true then (if (M (r + 1) x2.toNatClampNeg) = x3 then some 1 else some 0) else none))))))
section
variable {p : Program} {l : Launch} {e : Env} {s : State} {m : MethodId} {args : Array Value} {below : List Frame} {meth : Method} {c : Code} {dC : Nat → ClassId} {dI : Nat → Nat → Nat} {dA : Nat → ClassId} {b N B C : Nat} {sh : Shp}
set_option maxHeartbeats 4000000 in
set_option maxRecDepth 100000 in
theorem w_R_fitsBank_0 {r : Nat} {rv : Int32} (G : Cx p s m args meth c (dC, dI) cls6 (tyl dA) "BankTimes$Rules" k_R_fitsBank 4 (some .boolean)) (hI : Is_R dA b N sh B C r)   : ∀ (x1 x2 x3 : Int32) (M : Mm) (ls : Array Slot), va_P (dC, dI) cls6 (wd b N sh M) s.heap → va_S (reg b N s.heap.size) s.heap s.heap [] → lv_has ls 4 [(0, .ref (b + r)), (1, .int x1), (2, .int x2), (3, .int x3)] → f_R_fitsBank B C r x1 x2 x3 M = some rv → W p l e rm_R_fitsBank s m args below meth c s.heap [] 0 0 (MQ below (Qro rv) args s 0 0 nofree) (F0 m 0 ls []) := by
  obtain ⟨hx, hb, hml, hr, hown, hts, hlk, hK⟩ := id G
  intro x1 x2 x3 M ls hP hS hl h
  unfold f_R_fitsBank at h
  refine lv_iload_n hx hb d_R_fitsBank_0 rfl (lv_at hl 1 rfl) ?_
  by_cases c1_0 : x1 = 0
  · replace h := ogt c1_0 h
    refine lv_tableIn (tgt := 36) hx hb d_R_fitsBank_1 (by rw [c1_0]; decide) (by rw [c1_0]; decide) (by rw [c1_0]; rfl) (by decide) ?_
    refine lv_aload_n hx hb d_R_fitsBank_36 rfl (lv_at hl 0 rfl) ?_
    refine wd_getr hx hb hts i_R hown hK hP r hI.1 hI.2.1 rfl 1 (by decide) t_14 rfl d_R_fitsBank_37 ?_
    refine lv_iload_n hx hb d_R_fitsBank_40 rfl (lv_at hl 2 rfl) ?_
    obtain ⟨hi41, h⟩ := og h
    refine wd_iald hx hb hK hP (r + 1) 0 hI.2.2.2.1.1 hI.2.2.2.1.2 rfl hi41 d_R_fitsBank_41 ?_
    refine lv_iconst (v := (-1)) hx hb d_R_fitsBank_42 (by decide) ?_
    refine lv_icmp_ne (tgt := 50) hx hb d_R_fitsBank_43 (by decide) (fun c43 => ?_) (fun c43 => ?_)
    · replace h := ogf c43 h
      refine lv_iconst (v := 0) hx hb d_R_fitsBank_50 (by decide) ?_
      obtain rfl := oe h
      exact wd_zret0 hx hb hr rfl hlk d_R_fitsBank_51
    · replace h := ogt c43 h
      refine lv_iconst (v := 1) hx hb d_R_fitsBank_46 (by decide) ?_
      refine lv_goto (tgt := 51) hx hb d_R_fitsBank_47 (by decide) ?_
      obtain rfl := oe h
      exact wd_zret0 hx hb hr rfl hlk d_R_fitsBank_51
  · replace h := ogf c1_0 h
    by_cases c1_1 : x1 = 1
    · replace h := ogt c1_1 h
      refine lv_tableIn (tgt := 81) hx hb d_R_fitsBank_1 (by rw [c1_1]; decide) (by rw [c1_1]; decide) (by rw [c1_1]; rfl) (by decide) ?_
      refine lv_aload_n hx hb d_R_fitsBank_81 rfl (lv_at hl 0 rfl) ?_
      refine wd_getr hx hb hts i_R hown hK hP r hI.1 hI.2.1 rfl 1 (by decide) t_14 rfl d_R_fitsBank_82 ?_
      refine lv_iload_n hx hb d_R_fitsBank_85 rfl (lv_at hl 2 rfl) ?_
      obtain ⟨hi86, h⟩ := og h
      refine wd_iald hx hb hK hP (r + 1) 0 hI.2.2.2.1.1 hI.2.2.2.1.2 rfl hi86 d_R_fitsBank_86 ?_
      refine lv_iload_n hx hb d_R_fitsBank_87 rfl (lv_at hl 3 rfl) ?_
      refine lv_icmp_ne (tgt := 95) hx hb d_R_fitsBank_88 (by decide) (fun c88 => ?_) (fun c88 => ?_)
      · replace h := ogf c88 h
        refine lv_iconst (v := 0) hx hb d_R_fitsBank_95 (by decide) ?_
        obtain rfl := oe h
        exact wd_zret0 hx hb hr rfl hlk d_R_fitsBank_96
      · replace h := ogt c88 h
        refine lv_iconst (v := 1) hx hb d_R_fitsBank_91 (by decide) ?_
        refine lv_goto (tgt := 96) hx hb d_R_fitsBank_92 (by decide) ?_
        obtain rfl := oe h
        exact wd_zret0 hx hb hr rfl hlk d_R_fitsBank_96
    · replace h := ogf c1_1 h
      by_cases c1_2 : x1 = 2
      · replace h := ogt c1_2 h
        refine lv_tableIn (tgt := 81) hx hb d_R_fitsBank_1 (by rw [c1_2]; decide) (by rw [c1_2]; decide) (by rw [c1_2]; rfl) (by decide) ?_
        refine lv_aload_n hx hb d_R_fitsBank_81 rfl (lv_at hl 0 rfl) ?_
        refine wd_getr hx hb hts i_R hown hK hP r hI.1 hI.2.1 rfl 1 (by decide) t_14 rfl d_R_fitsBank_82 ?_
        refine lv_iload_n hx hb d_R_fitsBank_85 rfl (lv_at hl 2 rfl) ?_
        obtain ⟨hi86, h⟩ := og h
        refine wd_iald hx hb hK hP (r + 1) 0 hI.2.2.2.1.1 hI.2.2.2.1.2 rfl hi86 d_R_fitsBank_86 ?_
        refine lv_iload_n hx hb d_R_fitsBank_87 rfl (lv_at hl 3 rfl) ?_
        refine lv_icmp_ne (tgt := 95) hx hb d_R_fitsBank_88 (by decide) (fun c88 => ?_) (fun c88 => ?_)
        · replace h := ogf c88 h
          refine lv_iconst (v := 0) hx hb d_R_fitsBank_95 (by decide) ?_
          obtain rfl := oe h
          exact wd_zret0 hx hb hr rfl hlk d_R_fitsBank_96
        · replace h := ogt c88 h
          refine lv_iconst (v := 1) hx hb d_R_fitsBank_91 (by decide) ?_
          refine lv_goto (tgt := 96) hx hb d_R_fitsBank_92 (by decide) ?_
          obtain rfl := oe h
          exact wd_zret0 hx hb hr rfl hlk d_R_fitsBank_96
      · replace h := ogf c1_2 h
        by_cases c1_3 : x1 = 3
        · replace h := ogt c1_3 h
          refine lv_tableIn (tgt := 52) hx hb d_R_fitsBank_1 (by rw [c1_3]; decide) (by rw [c1_3]; decide) (by rw [c1_3]; rfl) (by decide) ?_
          refine lv_aload_n hx hb d_R_fitsBank_52 rfl (lv_at hl 0 rfl) ?_
          refine wd_getr hx hb hts i_R hown hK hP r hI.1 hI.2.1 rfl 1 (by decide) t_14 rfl d_R_fitsBank_53 ?_
          refine lv_iload_n hx hb d_R_fitsBank_56 rfl (lv_at hl 2 rfl) ?_
          obtain ⟨hi57, h⟩ := og h
          refine wd_iald hx hb hK hP (r + 1) 0 hI.2.2.2.1.1 hI.2.2.2.1.2 rfl hi57 d_R_fitsBank_57 ?_
          refine lv_iconst (v := (-1)) hx hb d_R_fitsBank_58 (by decide) ?_
          refine lv_icmp_eq (tgt := 66) hx hb d_R_fitsBank_59 (by decide) (fun c59 => ?_) (fun c59 => ?_)
          · replace h := ogt c59 h
            refine lv_iconst (v := 0) hx hb d_R_fitsBank_66 (by decide) ?_
            obtain rfl := oe h
            exact wd_zret0 hx hb hr rfl hlk d_R_fitsBank_67
          · replace h := ogf c59 h
            refine lv_iconst (v := 1) hx hb d_R_fitsBank_62 (by decide) ?_
            refine lv_goto (tgt := 67) hx hb d_R_fitsBank_63 (by decide) ?_
            obtain rfl := oe h
            exact wd_zret0 hx hb hr rfl hlk d_R_fitsBank_67
        · replace h := ogf c1_3 h
          by_cases c1_4 : x1 = 4
          · replace h := ogt c1_4 h
            refine lv_tableIn (tgt := 68) hx hb d_R_fitsBank_1 (by rw [c1_4]; decide) (by rw [c1_4]; decide) (by rw [c1_4]; rfl) (by decide) ?_
            refine lv_aload_n hx hb d_R_fitsBank_68 rfl (lv_at hl 0 rfl) ?_
            obtain ⟨q69, hc69, h⟩ := obd h
            refine wd_cvr (As := []) (rest := []) ⟨hx, hb, hml, hown, hts⟩ hK hP r hI.1 hI.2.1 rfl (c_R_anyOpen l r M _ hI hc69) (cwV 0 hts (wmV t_19 t_21 t_22 t_13 t_20) rfl rfl rfl (by decide +kernel) ⟨by decide, by decide⟩) rfl hl.1 rfl (Nat.le_of_ble_eq_true rfl) d_R_fitsBank_69 ⟨Nat.zero_le _, Nat.zero_le _⟩ ?_
            refine lv_if_ne (tgt := 79) hx hb d_R_fitsBank_72 (by decide) (fun c72 => ?_) (fun c72 => ?_)
            · replace h := ogf c72 h
              refine lv_iconst (v := 0) hx hb d_R_fitsBank_79 (by decide) ?_
              obtain rfl := oe h
              exact wd_zret0 hx hb hr rfl hlk d_R_fitsBank_80
            · replace h := ogt c72 h
              refine lv_iconst (v := 1) hx hb d_R_fitsBank_75 (by decide) ?_
              refine lv_goto (tgt := 80) hx hb d_R_fitsBank_76 (by decide) ?_
              obtain rfl := oe h
              exact wd_zret0 hx hb hr rfl hlk d_R_fitsBank_80
          · replace h := ogf c1_4 h
            have z1_0 := lv_neT (a := 0) c1_0 (by decide)
            have z1_1 := lv_neT (a := 1) c1_1 (by decide)
            have z1_2 := lv_neT (a := 2) c1_2 (by decide)
            have z1_3 := lv_neT (a := 3) c1_3 (by decide)
            have z1_4 := lv_neT (a := 4) c1_4 (by decide)
            refine lv_tableOut (tgt := 81) hx hb d_R_fitsBank_1 (by omega) (by decide) ?_
            refine lv_aload_n hx hb d_R_fitsBank_81 rfl (lv_at hl 0 rfl) ?_
            refine wd_getr hx hb hts i_R hown hK hP r hI.1 hI.2.1 rfl 1 (by decide) t_14 rfl d_R_fitsBank_82 ?_
            refine lv_iload_n hx hb d_R_fitsBank_85 rfl (lv_at hl 2 rfl) ?_
            obtain ⟨hi86, h⟩ := og h
            refine wd_iald hx hb hK hP (r + 1) 0 hI.2.2.2.1.1 hI.2.2.2.1.2 rfl hi86 d_R_fitsBank_86 ?_
            refine lv_iload_n hx hb d_R_fitsBank_87 rfl (lv_at hl 3 rfl) ?_
            refine lv_icmp_ne (tgt := 95) hx hb d_R_fitsBank_88 (by decide) (fun c88 => ?_) (fun c88 => ?_)
            · replace h := ogf c88 h
              refine lv_iconst (v := 0) hx hb d_R_fitsBank_95 (by decide) ?_
              obtain rfl := oe h
              exact wd_zret0 hx hb hr rfl hlk d_R_fitsBank_96
            · replace h := ogt c88 h
              refine lv_iconst (v := 1) hx hb d_R_fitsBank_91 (by decide) ?_
              refine lv_goto (tgt := 96) hx hb d_R_fitsBank_92 (by decide) ?_
              obtain rfl := oe h
              exact wd_zret0 hx hb hr rfl hlk d_R_fitsBank_96
theorem c_R_fitsBank (l : Launch) (r : Nat) (x1 x2 x3 : Int32) (M : Mm) (sz : Nat) (hI : Is_R dA b N sh B C r) {rv : Int32} (h : f_R_fitsBank B C r x1 x2 x3 M = some rv) : Met l y_R_fitsBank (wm y_R_fitsBank k_R_fitsBank 4 (some .boolean)) rm_R_fitsBank (Pw (dC, dI) cls6 (tyl dA) b N sh [.ref (b + r), .int x1, .int x2, .int x3] M sz) (Qro rv) 0 0 nofree := by
  refine mk_met (by decide) (Nat.le_of_ble_eq_true rfl) ?_
  intro p e s m below meth c ls G hsz hP hS hl
  subst hsz
  exact w_R_fitsBank_0 G hI _ _ _ _ ls hP hS hl h
end
abbrev rm_R_brokenRule : Room := { frames := 2, cells := 0, slots := 0, locals := 49 }
def f_R_brokenRule (B C : Nat) (r : Nat) (x1 x2 x3 x4 : Int32) (M : Mm) : Option (Int32) := (if (M r 10) < x1 then (f_R_fitsBank B C r x2 x3 x4 M).bind (fun q15 => (if q15 = 0 then some 2 else (f_R_brokenTime B C r x1 x2 x3 M).bind (fun q27 => (if q27 = (-1) then some 0 else some (3 + q27))))) else some 1)
section
variable {p : Program} {l : Launch} {e : Env} {s : State} {m : MethodId} {args : Array Value} {below : List Frame} {meth : Method} {c : Code} {dC : Nat → ClassId} {dI : Nat → Nat → Nat} {dA : Nat → ClassId} {b N B C : Nat} {sh : Shp}
set_option maxHeartbeats 4000000 in
set_option maxRecDepth 100000 in
theorem w_R_brokenRule_0 {r : Nat} {rv : Int32} (G : Cx p s m args meth c (dC, dI) cls6 (tyl dA) "BankTimes$Rules" k_R_brokenRule 6 (some .int)) (hI : Is_R dA b N sh B C r)   : ∀ (x1 x2 x3 x4 : Int32) (M : Mm) (ls : Array Slot), va_P (dC, dI) cls6 (wd b N sh M) s.heap → va_S (reg b N s.heap.size) s.heap s.heap [] → lv_has ls 6 [(0, .ref (b + r)), (1, .int x1), (2, .int x2), (3, .int x3), (4, .int x4)] → f_R_brokenRule B C r x1 x2 x3 x4 M = some rv → W p l e rm_R_brokenRule s m args below meth c s.heap [] 0 0 (MQ below (Qro rv) args s 0 0 nofree) (F0 m 0 ls []) := by
  obtain ⟨hx, hb, hml, hr, hown, hts, hlk, hK⟩ := id G
  intro x1 x2 x3 x4 M ls hP hS hl h
  unfold f_R_brokenRule at h
  refine lv_iload_n hx hb d_R_brokenRule_0 rfl (lv_at hl 1 rfl) ?_
  refine lv_aload_n hx hb d_R_brokenRule_1 rfl (lv_at hl 0 rfl) ?_
  refine wd_geti hx hb hts i_R hown hK hP r hI.1 hI.2.1 rfl 10 (by decide) t_23 rfl d_R_brokenRule_2 ?_
  refine lv_icmp_gt (tgt := 10) hx hb d_R_brokenRule_5 (by decide) (fun c5 => ?_) (fun c5 => ?_)
  · replace h := ogt c5 h
    refine lv_aload_n hx hb d_R_brokenRule_10 rfl (lv_at hl 0 rfl) ?_
    refine lv_iload_n hx hb d_R_brokenRule_11 rfl (lv_at hl 2 rfl) ?_
    refine lv_iload_n hx hb d_R_brokenRule_12 rfl (lv_at hl 3 rfl) ?_
    refine lv_iload hx hb d_R_brokenRule_13 (lv_at hl 4 rfl) ?_
    obtain ⟨q15, hc15, h⟩ := obd h
    refine wd_cvr (As := [.int x2, .int x3, .int x4]) (rest := []) ⟨hx, hb, hml, hown, hts⟩ hK hP r hI.1 hI.2.1 rfl (c_R_fitsBank l r x2 x3 x4 M _ hI hc15) (cwV 3 hts (wmV t_24 t_26 t_27 t_13 t_25) rfl rfl rfl (by decide +kernel) ⟨by decide, by decide⟩) rfl hl.1 rfl (Nat.le_of_ble_eq_true rfl) d_R_brokenRule_15 ⟨Nat.zero_le _, Nat.zero_le _⟩ ?_
    refine lv_if_ne (tgt := 23) hx hb d_R_brokenRule_18 (by decide) (fun c18 => ?_) (fun c18 => ?_)
    · replace h := ogf c18 h
      refine lv_aload_n hx hb d_R_brokenRule_23 rfl (lv_at hl 0 rfl) ?_
      refine lv_iload_n hx hb d_R_brokenRule_24 rfl (lv_at hl 1 rfl) ?_
      refine lv_iload_n hx hb d_R_brokenRule_25 rfl (lv_at hl 2 rfl) ?_
      refine lv_iload_n hx hb d_R_brokenRule_26 rfl (lv_at hl 3 rfl) ?_
      obtain ⟨q27, hc27, h⟩ := obd h
      refine wd_cvr (As := [.int x1, .int x2, .int x3]) (rest := []) ⟨hx, hb, hml, hown, hts⟩ hK hP r hI.1 hI.2.1 rfl (c_R_brokenTime l r x1 x2 x3 M _ hI hc27) (cwV 3 hts (wmV t_15 t_17 t_18 t_13 t_16) rfl rfl rfl (by decide +kernel) ⟨by decide, by decide⟩) rfl hl.1 rfl (Nat.le_of_ble_eq_true rfl) d_R_brokenRule_27 ⟨Nat.zero_le _, Nat.zero_le _⟩ ?_
      refine lv_istore (lv' := [(5, .int q27), (0, .ref (b + r)), (1, .int x1), (2, .int x2), (3, .int x3), (4, .int x4)]) hx hb d_R_brokenRule_30 hl (by decide) rfl (fun ls hl => ?_)
      refine lv_iload hx hb d_R_brokenRule_32 (lv_at hl 0 rfl) ?_
      refine lv_iconst (v := (-1)) hx hb d_R_brokenRule_34 (by decide) ?_
      refine lv_icmp_ne (tgt := 42) hx hb d_R_brokenRule_35 (by decide) (fun c35 => ?_) (fun c35 => ?_)
      · replace h := ogf c35 h
        refine lv_iconst (v := 3) hx hb d_R_brokenRule_42 (by decide) ?_
        refine lv_iload hx hb d_R_brokenRule_43 (lv_at hl 0 rfl) ?_
        refine lv_iadd hx hb d_R_brokenRule_45 ?_
        obtain rfl := oe h
        exact wd_iret0 hx hb hr hlk d_R_brokenRule_46
      · replace h := ogt c35 h
        refine lv_iconst (v := 0) hx hb d_R_brokenRule_38 (by decide) ?_
        refine lv_goto (tgt := 46) hx hb d_R_brokenRule_39 (by decide) ?_
        obtain rfl := oe h
        exact wd_iret0 hx hb hr hlk d_R_brokenRule_46
    · replace h := ogt c18 h
      refine lv_iconst (v := 2) hx hb d_R_brokenRule_21 (by decide) ?_
      obtain rfl := oe h
      exact wd_iret0 hx hb hr hlk d_R_brokenRule_22
  · replace h := ogf c5 h
    refine lv_iconst (v := 1) hx hb d_R_brokenRule_8 (by decide) ?_
    obtain rfl := oe h
    exact wd_iret0 hx hb hr hlk d_R_brokenRule_9
theorem c_R_brokenRule (l : Launch) (r : Nat) (x1 x2 x3 x4 : Int32) (M : Mm) (sz : Nat) (hI : Is_R dA b N sh B C r) {rv : Int32} (h : f_R_brokenRule B C r x1 x2 x3 x4 M = some rv) : Met l y_R_brokenRule (wm y_R_brokenRule k_R_brokenRule 6 (some .int)) rm_R_brokenRule (Pw (dC, dI) cls6 (tyl dA) b N sh [.ref (b + r), .int x1, .int x2, .int x3, .int x4] M sz) (Qro rv) 0 0 nofree := by
  refine mk_met (by decide) (Nat.le_of_ble_eq_true rfl) ?_
  intro p e s m below meth c ls G hsz hP hS hl
  subst hsz
  exact w_R_brokenRule_0 G hI _ _ _ _ _ ls hP hS hl h
end
abbrev rm_R_take : Room := { frames := 0, cells := 0, slots := 0, locals := 0 }
def B_R_take_54 (B C : Nat) (r : Nat) : Nat → Int32 → Int32 → Mm → Option (Mm)
  | 0, _, _, _ => none
  | n + 1, x1, x5, M => (if x5 ≤ 0 then (if ixb 0 4 = true then bnd (up2 M (r + 6) (0 : Int32).toNatClampNeg x1) (fun M87 => some M87) else none) else (if ixb (x5 - 1) 4 = true then (if ixb x5 4 = true then bnd (up2 M (r + 6) x5.toNatClampNeg (M (r + 6) (x5 - 1).toNatClampNeg)) (fun M74 => bnd (x5 + (-1)) (fun v75 => B_R_take_54 B C r n x1 v75 M74)) else none) else none))
def f_R_take (B C : Nat) (r : Nat) (x1 x2 x3 x4 : Int32) (M : Mm) : Option (Mm) := bnd (up2 M r 10 x1) (fun M2 => (if x2 = 0 then (if ixb x3 B = true then bnd (up2 M2 (r + 1) x3.toNatClampNeg x4) (fun M43 => (if ixb x3 B = true then bnd (up2 M43 (r + 2) x3.toNatClampNeg x1) (fun M50 => B_R_take_54 B C r 1200 x1 3 M50) else none)) else none) else (if x2 = 1 then (if ixb x3 B = true then bnd (up2 M2 (r + 3) x3.toNatClampNeg x1) (fun M97 => bnd (up2 M97 r 7 x1) (fun M100 => some M100)) else none) else (if x2 = 2 then (if ixb x3 B = true then bnd (up2 M2 (r + 4) x3.toNatClampNeg x1) (fun M112 => bnd (up2 M112 r 7 x1) (fun M115 => bnd (up2 M115 r 8 x1) (fun M120 => some M120))) else none) else (if x2 = 3 then (if ixb x3 B = true then bnd (up2 M2 (r + 1) x3.toNatClampNeg (-1)) (fun M132 => (if ixb x3 B = true then bnd (up2 M132 (r + 5) x3.toNatClampNeg x1) (fun M139 => some M139) else none)) else none) else bnd (up2 M2 r 9 x1) (fun M145 => some M145))))))
section
variable {p : Program} {l : Launch} {e : Env} {s : State} {m : MethodId} {args : Array Value} {below : List Frame} {meth : Method} {c : Code} {dC : Nat → ClassId} {dI : Nat → Nat → Nat} {dA : Nat → ClassId} {b N B C : Nat} {sh : Shp}
set_option maxHeartbeats 4000000 in
set_option maxRecDepth 100000 in
theorem w_R_take_54 {r : Nat} {M' : Mm} (G : Cx p s m args meth c (dC, dI) cls6 (tyl dA) "BankTimes$Rules" k_R_take 6 none) (hI : Is_R dA b N sh B C r)   : ∀ (n : Nat) (x1 x5 : Int32) (M : Mm) (H : Heap) (locs : List Loc) (ls : Array Slot), va_P (dC, dI) cls6 (wd b N sh M) H → va_S (reg b N s.heap.size) s.heap H locs → lv_has ls 6 [(0, .ref (b + r)), (1, .int x1), (5, .int x5)] → B_R_take_54 B C r n x1 x5 M = some M' → W p l e rm_R_take s m args below meth c H locs 0 0 (MQ below (Qwv (dC, dI) cls6 b N sh M' s.heap.size) args s 0 0 (reg b N s.heap.size)) (F0 m 54 ls []) := by
  obtain ⟨hx, hb, hml, hr, hown, hts, hlk, hK⟩ := id G
  intro n
  induction n with
  | zero =>
    intro x1 x5 M H locs ls hP hS hl h
    cases h
  | succ n ih =>
    intro x1 x5 M H locs ls hP hS hl h
    rw [B_R_take_54] at h
    refine lv_iload hx hb d_R_take_54 (lv_at hl 2 rfl) ?_
    refine lv_if_le (tgt := 81) hx hb d_R_take_56 (by decide) (fun c56 => ?_) (fun c56 => ?_)
    · replace h := ogt c56 h
      refine lv_aload_n hx hb d_R_take_81 rfl (lv_at hl 0 rfl) ?_
      refine wd_getr hx hb hts i_R hown hK hP r hI.1 hI.2.1 rfl 6 (by decide) t_6 rfl d_R_take_82 ?_
      refine lv_iconst (v := 0) hx hb d_R_take_85 (by decide) ?_
      refine lv_iload_n hx hb d_R_take_86 rfl (lv_at hl 1 rfl) ?_
      obtain ⟨hi87, h⟩ := og h
      obtain ⟨M87, eM87, h⟩ := ln h
      refine wd_iast hx hb hK hP hS (r + 6) 0 hI.2.2.2.2.2.2.2.2.1 hI.2.2.2.2.2.2.2.2.2 rfl hi87 d_R_take_87 (fun H locs hP hS => ?_)
      rw [← eM87] at hP
      refine lv_goto (tgt := 148) hx hb d_R_take_88 (by decide) ?_
      obtain rfl := oe h
      exact wd_vret hx hb hr hlk hP hS d_R_take_148
    · replace h := ogf c56 h
      refine lv_aload_n hx hb d_R_take_59 rfl (lv_at hl 0 rfl) ?_
      refine wd_getr hx hb hts i_R hown hK hP r hI.1 hI.2.1 rfl 6 (by decide) t_6 rfl d_R_take_60 ?_
      refine lv_iload hx hb d_R_take_63 (lv_at hl 2 rfl) ?_
      refine lv_aload_n hx hb d_R_take_65 rfl (lv_at hl 0 rfl) ?_
      refine wd_getr hx hb hts i_R hown hK hP r hI.1 hI.2.1 rfl 6 (by decide) t_6 rfl d_R_take_66 ?_
      refine lv_iload hx hb d_R_take_69 (lv_at hl 2 rfl) ?_
      refine lv_iconst (v := 1) hx hb d_R_take_71 (by decide) ?_
      refine lv_isub hx hb d_R_take_72 ?_
      obtain ⟨hi73, h⟩ := og h
      refine wd_iald hx hb hK hP (r + 6) 0 hI.2.2.2.2.2.2.2.2.1 hI.2.2.2.2.2.2.2.2.2 rfl hi73 d_R_take_73 ?_
      obtain ⟨hi74, h⟩ := og h
      obtain ⟨M74, eM74, h⟩ := ln h
      refine wd_iast hx hb hK hP hS (r + 6) 0 hI.2.2.2.2.2.2.2.2.1 hI.2.2.2.2.2.2.2.2.2 rfl hi74 d_R_take_74 (fun H locs hP hS => ?_)
      rw [← eM74] at hP
      obtain ⟨v75, e75, h⟩ := ln h
      refine lv_iinc (v := v75) (lv' := [(5, .int v75), (0, .ref (b + r)), (1, .int x1)]) hx hb d_R_take_75 hl (k := 2) rfl (by rw [e75]; rfl) (by decide) rfl (fun ls hl => ?_)
      refine lv_goto (tgt := 54) hx hb d_R_take_78 (by decide) ?_
      exact ih x1 v75 M74 _ _ _ hP hS (lv_sub hl [1, 2, 0] rfl) h
set_option maxHeartbeats 4000000 in
set_option maxRecDepth 100000 in
theorem w_R_take_0 {r : Nat} {M' : Mm} (G : Cx p s m args meth c (dC, dI) cls6 (tyl dA) "BankTimes$Rules" k_R_take 6 none) (hI : Is_R dA b N sh B C r)   : ∀ (x1 x2 x3 x4 : Int32) (M : Mm) (ls : Array Slot), va_P (dC, dI) cls6 (wd b N sh M) s.heap → va_S (reg b N s.heap.size) s.heap s.heap [] → lv_has ls 6 [(0, .ref (b + r)), (1, .int x1), (2, .int x2), (3, .int x3), (4, .int x4)] → f_R_take B C r x1 x2 x3 x4 M = some M' → W p l e rm_R_take s m args below meth c s.heap [] 0 0 (MQ below (Qwv (dC, dI) cls6 b N sh M' s.heap.size) args s 0 0 (reg b N s.heap.size)) (F0 m 0 ls []) := by
  obtain ⟨hx, hb, hml, hr, hown, hts, hlk, hK⟩ := id G
  intro x1 x2 x3 x4 M ls hP hS hl h
  unfold f_R_take at h
  refine lv_aload_n hx hb d_R_take_0 rfl (lv_at hl 0 rfl) ?_
  refine lv_iload_n hx hb d_R_take_1 rfl (lv_at hl 1 rfl) ?_
  obtain ⟨M2, eM2, h⟩ := ln h
  refine wd_puti hx hb hts i_R ty_R tyok_R nm_R hown hK hP hS r hI.1 hI.2.1 rfl 10 (by decide) t_23 rfl rfl (ty := .int) (by decide +kernel) rfl rfl d_R_take_2 (fun H locs hP hS => ?_)
  rw [← eM2] at hP
  refine lv_iload_n hx hb d_R_take_5 rfl (lv_at hl 2 rfl) ?_
  by_cases c6_0 : x2 = 0
  · replace h := ogt c6_0 h
    refine lv_tableIn (tgt := 36) hx hb d_R_take_6 (by rw [c6_0]; decide) (by rw [c6_0]; decide) (by rw [c6_0]; rfl) (by decide) ?_
    refine lv_aload_n hx hb d_R_take_36 rfl (lv_at hl 0 rfl) ?_
    refine wd_getr hx hb hts i_R hown hK hP r hI.1 hI.2.1 rfl 1 (by decide) t_14 rfl d_R_take_37 ?_
    refine lv_iload_n hx hb d_R_take_40 rfl (lv_at hl 3 rfl) ?_
    refine lv_iload hx hb d_R_take_41 (lv_at hl 4 rfl) ?_
    obtain ⟨hi43, h⟩ := og h
    obtain ⟨M43, eM43, h⟩ := ln h
    refine wd_iast hx hb hK hP hS (r + 1) 0 hI.2.2.2.1.1 hI.2.2.2.1.2 rfl hi43 d_R_take_43 (fun H locs hP hS => ?_)
    rw [← eM43] at hP
    refine lv_aload_n hx hb d_R_take_44 rfl (lv_at hl 0 rfl) ?_
    refine wd_getr hx hb hts i_R hown hK hP r hI.1 hI.2.1 rfl 2 (by decide) t_0 rfl d_R_take_45 ?_
    refine lv_iload_n hx hb d_R_take_48 rfl (lv_at hl 3 rfl) ?_
    refine lv_iload_n hx hb d_R_take_49 rfl (lv_at hl 1 rfl) ?_
    obtain ⟨hi50, h⟩ := og h
    obtain ⟨M50, eM50, h⟩ := ln h
    refine wd_iast hx hb hK hP hS (r + 2) 0 hI.2.2.2.2.1.1 hI.2.2.2.2.1.2 rfl hi50 d_R_take_50 (fun H locs hP hS => ?_)
    rw [← eM50] at hP
    refine lv_iconst (v := 3) hx hb d_R_take_51 (by decide) ?_
    refine lv_istore (lv' := [(5, .int 3), (0, .ref (b + r)), (1, .int x1), (2, .int x2), (3, .int x3), (4, .int x4)]) hx hb d_R_take_52 hl (by decide) rfl (fun ls hl => ?_)
    exact w_R_take_54 G hI  1200 x1 3 M50 _ _ _ hP hS (lv_sub hl [1, 2, 0] rfl) h
  · replace h := ogf c6_0 h
    by_cases c6_1 : x2 = 1
    · replace h := ogt c6_1 h
      refine lv_tableIn (tgt := 91) hx hb d_R_take_6 (by rw [c6_1]; decide) (by rw [c6_1]; decide) (by rw [c6_1]; rfl) (by decide) ?_
      refine lv_aload_n hx hb d_R_take_91 rfl (lv_at hl 0 rfl) ?_
      refine wd_getr hx hb hts i_R hown hK hP r hI.1 hI.2.1 rfl 3 (by decide) t_2 rfl d_R_take_92 ?_
      refine lv_iload_n hx hb d_R_take_95 rfl (lv_at hl 3 rfl) ?_
      refine lv_iload_n hx hb d_R_take_96 rfl (lv_at hl 1 rfl) ?_
      obtain ⟨hi97, h⟩ := og h
      obtain ⟨M97, eM97, h⟩ := ln h
      refine wd_iast hx hb hK hP hS (r + 3) 0 hI.2.2.2.2.2.1.1 hI.2.2.2.2.2.1.2 rfl hi97 d_R_take_97 (fun H locs hP hS => ?_)
      rw [← eM97] at hP
      refine lv_aload_n hx hb d_R_take_98 rfl (lv_at hl 0 rfl) ?_
      refine lv_iload_n hx hb d_R_take_99 rfl (lv_at hl 1 rfl) ?_
      obtain ⟨M100, eM100, h⟩ := ln h
      refine wd_puti hx hb hts i_R ty_R tyok_R nm_R hown hK hP hS r hI.1 hI.2.1 rfl 7 (by decide) t_3 rfl rfl (ty := .int) (by decide +kernel) rfl rfl d_R_take_100 (fun H locs hP hS => ?_)
      rw [← eM100] at hP
      refine lv_goto (tgt := 148) hx hb d_R_take_103 (by decide) ?_
      obtain rfl := oe h
      exact wd_vret hx hb hr hlk hP hS d_R_take_148
    · replace h := ogf c6_1 h
      by_cases c6_2 : x2 = 2
      · replace h := ogt c6_2 h
        refine lv_tableIn (tgt := 106) hx hb d_R_take_6 (by rw [c6_2]; decide) (by rw [c6_2]; decide) (by rw [c6_2]; rfl) (by decide) ?_
        refine lv_aload_n hx hb d_R_take_106 rfl (lv_at hl 0 rfl) ?_
        refine wd_getr hx hb hts i_R hown hK hP r hI.1 hI.2.1 rfl 4 (by decide) t_5 rfl d_R_take_107 ?_
        refine lv_iload_n hx hb d_R_take_110 rfl (lv_at hl 3 rfl) ?_
        refine lv_iload_n hx hb d_R_take_111 rfl (lv_at hl 1 rfl) ?_
        obtain ⟨hi112, h⟩ := og h
        obtain ⟨M112, eM112, h⟩ := ln h
        refine wd_iast hx hb hK hP hS (r + 4) 0 hI.2.2.2.2.2.2.1.1 hI.2.2.2.2.2.2.1.2 rfl hi112 d_R_take_112 (fun H locs hP hS => ?_)
        rw [← eM112] at hP
        refine lv_aload_n hx hb d_R_take_113 rfl (lv_at hl 0 rfl) ?_
        refine lv_iload_n hx hb d_R_take_114 rfl (lv_at hl 1 rfl) ?_
        obtain ⟨M115, eM115, h⟩ := ln h
        refine wd_puti hx hb hts i_R ty_R tyok_R nm_R hown hK hP hS r hI.1 hI.2.1 rfl 7 (by decide) t_3 rfl rfl (ty := .int) (by decide +kernel) rfl rfl d_R_take_115 (fun H locs hP hS => ?_)
        rw [← eM115] at hP
        refine lv_aload_n hx hb d_R_take_118 rfl (lv_at hl 0 rfl) ?_
        refine lv_iload_n hx hb d_R_take_119 rfl (lv_at hl 1 rfl) ?_
        obtain ⟨M120, eM120, h⟩ := ln h
        refine wd_puti hx hb hts i_R ty_R tyok_R nm_R hown hK hP hS r hI.1 hI.2.1 rfl 8 (by decide) t_4 rfl rfl (ty := .int) (by decide +kernel) rfl rfl d_R_take_120 (fun H locs hP hS => ?_)
        rw [← eM120] at hP
        refine lv_goto (tgt := 148) hx hb d_R_take_123 (by decide) ?_
        obtain rfl := oe h
        exact wd_vret hx hb hr hlk hP hS d_R_take_148
      · replace h := ogf c6_2 h
        by_cases c6_3 : x2 = 3
        · replace h := ogt c6_3 h
          refine lv_tableIn (tgt := 126) hx hb d_R_take_6 (by rw [c6_3]; decide) (by rw [c6_3]; decide) (by rw [c6_3]; rfl) (by decide) ?_
          refine lv_aload_n hx hb d_R_take_126 rfl (lv_at hl 0 rfl) ?_
          refine wd_getr hx hb hts i_R hown hK hP r hI.1 hI.2.1 rfl 1 (by decide) t_14 rfl d_R_take_127 ?_
          refine lv_iload_n hx hb d_R_take_130 rfl (lv_at hl 3 rfl) ?_
          refine lv_iconst (v := (-1)) hx hb d_R_take_131 (by decide) ?_
          obtain ⟨hi132, h⟩ := og h
          obtain ⟨M132, eM132, h⟩ := ln h
          refine wd_iast hx hb hK hP hS (r + 1) 0 hI.2.2.2.1.1 hI.2.2.2.1.2 rfl hi132 d_R_take_132 (fun H locs hP hS => ?_)
          rw [← eM132] at hP
          refine lv_aload_n hx hb d_R_take_133 rfl (lv_at hl 0 rfl) ?_
          refine wd_getr hx hb hts i_R hown hK hP r hI.1 hI.2.1 rfl 5 (by decide) t_1 rfl d_R_take_134 ?_
          refine lv_iload_n hx hb d_R_take_137 rfl (lv_at hl 3 rfl) ?_
          refine lv_iload_n hx hb d_R_take_138 rfl (lv_at hl 1 rfl) ?_
          obtain ⟨hi139, h⟩ := og h
          obtain ⟨M139, eM139, h⟩ := ln h
          refine wd_iast hx hb hK hP hS (r + 5) 0 hI.2.2.2.2.2.2.2.1.1 hI.2.2.2.2.2.2.2.1.2 rfl hi139 d_R_take_139 (fun H locs hP hS => ?_)
          rw [← eM139] at hP
          refine lv_goto (tgt := 148) hx hb d_R_take_140 (by decide) ?_
          obtain rfl := oe h
          exact wd_vret hx hb hr hlk hP hS d_R_take_148
        · replace h := ogf c6_3 h
          have z6_0 := lv_neT (a := 0) c6_0 (by decide)
          have z6_1 := lv_neT (a := 1) c6_1 (by decide)
          have z6_2 := lv_neT (a := 2) c6_2 (by decide)
          have z6_3 := lv_neT (a := 3) c6_3 (by decide)
          refine lv_tableOut (tgt := 143) hx hb d_R_take_6 (by omega) (by decide) ?_
          refine lv_aload_n hx hb d_R_take_143 rfl (lv_at hl 0 rfl) ?_
          refine lv_iload_n hx hb d_R_take_144 rfl (lv_at hl 1 rfl) ?_
          obtain ⟨M145, eM145, h⟩ := ln h
          refine wd_puti hx hb hts i_R ty_R tyok_R nm_R hown hK hP hS r hI.1 hI.2.1 rfl 9 (by decide) t_7 rfl rfl (ty := .int) (by decide +kernel) rfl rfl d_R_take_145 (fun H locs hP hS => ?_)
          rw [← eM145] at hP
          obtain rfl := oe h
          exact wd_vret hx hb hr hlk hP hS d_R_take_148
theorem c_R_take (l : Launch) (r : Nat) (x1 x2 x3 x4 : Int32) (M : Mm) (sz : Nat) (hI : Is_R dA b N sh B C r) {M' : Mm} (h : f_R_take B C r x1 x2 x3 x4 M = some M') : Met l y_R_take (wm y_R_take k_R_take 6 none) rm_R_take (Pw (dC, dI) cls6 (tyl dA) b N sh [.ref (b + r), .int x1, .int x2, .int x3, .int x4] M sz) (Qwv (dC, dI) cls6 b N sh M' sz) 0 0 (reg b N sz) := by
  refine mk_met (by decide) (Nat.le_of_ble_eq_true rfl) ?_
  intro p e s m below meth c ls G hsz hP hS hl
  subst hsz
  exact w_R_take_0 G hI _ _ _ _ _ ls hP hS hl h
end
