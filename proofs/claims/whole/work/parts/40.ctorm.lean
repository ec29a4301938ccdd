def q_X10_init (σ : bl_St) : bl_St := (bl_pR (bl_pI (bl_pI (bl_pI (bl_pI (bl_pI (bl_pI (bl_pI (bl_pI (bl_pI (bl_pI (bl_pI (bl_pI (bl_pI (bl_pI (bl_pI (bl_pI (bl_pI (bl_pI (bl_pI (bl_pI (bl_pI (bl_pI (bl_pI (bl_pI (bl_pI (bl_pI (bl_pI (bl_pI (bl_pI (bl_pI (bl_pI (bl_pI (bl_pI (bl_pI (bl_pI (bl_pI (bl_pI (bl_pI (bl_pI (bl_pI (bl_pI (bl_pI (bl_pI (bl_pI (bl_pI (bl_pR (bl_pR (bl_pR (bl_pR (bl_pR (bl_pR (bl_pR (bl_pR (bl_pR (bl_pR (bl_pR (bl_pR (bl_pR σ 139 1 140) 139 2 141) 139 3 142) 139 4 143) 139 7 144) 139 8 145) 139 9 146) 139 14 147) 139 15 148) 139 16 149) 139 17 150) 139 18 151) 139 20 152) 153 0 99) 153 1 108) 153 2 97) 153 3 115) 153 4 115) 153 5 0) 153 6 108) 153 7 111) 153 8 115) 153 9 115) 153 10 0) 153 11 99) 153 12 104) 153 13 97) 153 14 110) 153 15 99) 153 16 101) 153 17 115) 153 18 0) 153 19 111) 153 20 100) 153 21 100) 153 22 115) 153 23 0) 153 24 111) 153 25 119) 153 26 110) 153 27 0) 153 28 103) 153 29 117) 153 30 97) 153 31 114) 153 32 100) 153 33 0) 153 34 108) 153 35 101) 153 36 97) 153 37 115) 153 38 116) 153 39 0) 153 40 110) 153 41 111) 153 42 110) 153 43 101) 153 44 0) 139 22 153)
set_option maxHeartbeats 4000000 in
set_option maxRecDepth 100000 in
theorem t_X10_init (l : Launch) (g : bl_Gp) (hL : bl_L g) (σ σ1 : bl_St) (hw : bl_WT (q_X10_init σ)) (hf : f_X10_starts (q_X10_init σ) 140 = some ((), σ1)) : Met l yX10_init (.code yX10_init cX10_init 1 none :: bl_tb) ({ frames := 1, cells := 14, slots := 5151, locals := 21 }) (va_Pc [.ref (bl_ad g 139)] (bl_G0 g 140 σ)) (va_Qv (fun u => u = σ1) (fun u t => bl_P g u t.heap) (bl_A g)) 14 5151 (bl_A g) := by
  have hs : bl_sh[139]? = some (10, 28) := rfl
  refine bl_metk (by decide) (Nat.le_of_ble_eq_true rfl) (fun p e s m below meth c ls X hr hin V hl => ?_)
  have hl : lv_has ls 1 [(0, .ref (bl_ad g 139))] := hl
  refine lv_aload_n X.1 X.2.1 dX10_init_0 rfl (lv_at hl 0 rfl) ?_
  refine bl_obj X hl.1 oi_X10_7 ⟨Nat.le_of_ble_eq_true rfl, Nat.le_of_ble_eq_true rfl⟩ dX10_init_1 ?_
  refine lv_aload_n X.1 X.2.1 dX10_init_4 rfl (lv_at hl 0 rfl) ?_
  refine lv_sipush (v := 167) X.1 X.2.1 dX10_init_5 (by decide) ?_
  refine bl_nnewi (len := 167) hL X V rfl aw_int (by decide) (by decide) (Nat.le_of_ble_eq_true rfl) (Nat.le_of_ble_eq_true rfl) (Nat.le_of_ble_eq_true rfl) dX10_init_8 (fun H V => ?_)
  have V : bl_N g s 141 _ _ _ := V
  refine bl_nputF (v := 140) hL X V (by decide) hs fF_X10_13 hin (by decide) (fun _ => rfl) (fun _ => rfl) dX10_init_10 (fun H locs V => ?_)
  refine lv_aload_n X.1 X.2.1 dX10_init_13 rfl (lv_at hl 0 rfl) ?_
  refine lv_sipush (v := 167) X.1 X.2.1 dX10_init_14 (by decide) ?_
  refine bl_nnewi (len := 167) hL X V rfl aw_int (by decide) (by decide) (Nat.le_of_ble_eq_true rfl) (Nat.le_of_ble_eq_true rfl) (Nat.le_of_ble_eq_true rfl) dX10_init_17 (fun H V => ?_)
  have V : bl_N g s 142 _ _ _ := V
  refine bl_nputF (v := 141) hL X V (by decide) hs fF_X10_17 hin (by decide) (fun _ => rfl) (fun _ => rfl) dX10_init_19 (fun H locs V => ?_)
  refine lv_aload_n X.1 X.2.1 dX10_init_22 rfl (lv_at hl 0 rfl) ?_
  refine lv_sipush (v := 167) X.1 X.2.1 dX10_init_23 (by decide) ?_
  refine bl_nnewi (len := 167) hL X V rfl aw_int (by decide) (by decide) (Nat.le_of_ble_eq_true rfl) (Nat.le_of_ble_eq_true rfl) (Nat.le_of_ble_eq_true rfl) dX10_init_26 (fun H V => ?_)
  have V : bl_N g s 143 _ _ _ := V
  refine bl_nputF (v := 142) hL X V (by decide) hs fF_X10_20 hin (by decide) (fun _ => rfl) (fun _ => rfl) dX10_init_28 (fun H locs V => ?_)
  refine lv_aload_n X.1 X.2.1 dX10_init_31 rfl (lv_at hl 0 rfl) ?_
  refine lv_sipush (v := 2004) X.1 X.2.1 dX10_init_32 (by decide) ?_
  refine bl_nnewi (len := 2004) hL X V rfl aw_int (by decide) (by decide) (Nat.le_of_ble_eq_true rfl) (Nat.le_of_ble_eq_true rfl) (Nat.le_of_ble_eq_true rfl) dX10_init_35 (fun H V => ?_)
  have V : bl_N g s 144 _ _ _ := V
  refine bl_nputF (v := 143) hL X V (by decide) hs fF_X10_23 hin (by decide) (fun _ => rfl) (fun _ => rfl) dX10_init_37 (fun H locs V => ?_)
  refine lv_aload_n X.1 X.2.1 dX10_init_40 rfl (lv_at hl 0 rfl) ?_
  refine lv_sipush (v := 168) X.1 X.2.1 dX10_init_41 (by decide) ?_
  refine bl_nnewl (len := 168) hL X V rfl aw_long (by decide) (by decide) (Nat.le_of_ble_eq_true rfl) (Nat.le_of_ble_eq_true rfl) (Nat.le_of_ble_eq_true rfl) dX10_init_44 (fun H V => ?_)
  have V : bl_N g s 145 _ _ _ := V
  refine bl_nputF (v := 144) hL X V (by decide) hs fF_X10_26 hin (by decide) (fun _ => rfl) (fun _ => rfl) dX10_init_46 (fun H locs V => ?_)
  refine lv_aload_n X.1 X.2.1 dX10_init_49 rfl (lv_at hl 0 rfl) ?_
  refine lv_sipush (v := 168) X.1 X.2.1 dX10_init_50 (by decide) ?_
  refine bl_nnewz (len := 168) hL X V rfl aw_boolean (by decide) (by decide) (Nat.le_of_ble_eq_true rfl) (Nat.le_of_ble_eq_true rfl) (Nat.le_of_ble_eq_true rfl) dX10_init_53 (fun H V => ?_)
  have V : bl_N g s 146 _ _ _ := V
  refine bl_nputF (v := 145) hL X V (by decide) hs fF_X10_30 hin (by decide) (fun _ => rfl) (fun _ => rfl) dX10_init_55 (fun H locs V => ?_)
  refine lv_aload_n X.1 X.2.1 dX10_init_58 rfl (lv_at hl 0 rfl) ?_
  refine lv_bipush (v := 42) X.1 X.2.1 dX10_init_59 (by decide) ?_
  refine bl_nnewl (len := 42) hL X V rfl aw_long (by decide) (by decide) (Nat.le_of_ble_eq_true rfl) (Nat.le_of_ble_eq_true rfl) (Nat.le_of_ble_eq_true rfl) dX10_init_61 (fun H V => ?_)
  have V : bl_N g s 147 _ _ _ := V
  refine bl_nputF (v := 146) hL X V (by decide) hs fF_X10_34 hin (by decide) (fun _ => rfl) (fun _ => rfl) dX10_init_63 (fun H locs V => ?_)
  refine lv_aload_n X.1 X.2.1 dX10_init_66 rfl (lv_at hl 0 rfl) ?_
  refine lv_bipush (v := 8) X.1 X.2.1 dX10_init_67 (by decide) ?_
  refine bl_nnewl (len := 8) hL X V rfl aw_long (by decide) (by decide) (Nat.le_of_ble_eq_true rfl) (Nat.le_of_ble_eq_true rfl) (Nat.le_of_ble_eq_true rfl) dX10_init_69 (fun H V => ?_)
  have V : bl_N g s 148 _ _ _ := V
  refine bl_nputF (v := 147) hL X V (by decide) hs fF_X10_37 hin (by decide) (fun _ => rfl) (fun _ => rfl) dX10_init_71 (fun H locs V => ?_)
  refine lv_aload_n X.1 X.2.1 dX10_init_74 rfl (lv_at hl 0 rfl) ?_
  refine lv_bipush (v := 8) X.1 X.2.1 dX10_init_75 (by decide) ?_
  refine bl_nnewl (len := 8) hL X V rfl aw_long (by decide) (by decide) (Nat.le_of_ble_eq_true rfl) (Nat.le_of_ble_eq_true rfl) (Nat.le_of_ble_eq_true rfl) dX10_init_77 (fun H V => ?_)
  have V : bl_N g s 149 _ _ _ := V
  refine bl_nputF (v := 148) hL X V (by decide) hs fF_X10_40 hin (by decide) (fun _ => rfl) (fun _ => rfl) dX10_init_79 (fun H locs V => ?_)
  refine lv_aload_n X.1 X.2.1 dX10_init_82 rfl (lv_at hl 0 rfl) ?_
  refine lv_sipush (v := 1344) X.1 X.2.1 dX10_init_83 (by decide) ?_
  refine bl_nnewl (len := 1344) hL X V rfl aw_long (by decide) (by decide) (Nat.le_of_ble_eq_true rfl) (Nat.le_of_ble_eq_true rfl) (Nat.le_of_ble_eq_true rfl) dX10_init_86 (fun H V => ?_)
  have V : bl_N g s 150 _ _ _ := V
  refine bl_nputF (v := 149) hL X V (by decide) hs fF_X10_43 hin (by decide) (fun _ => rfl) (fun _ => rfl) dX10_init_88 (fun H locs V => ?_)
  refine lv_aload_n X.1 X.2.1 dX10_init_91 rfl (lv_at hl 0 rfl) ?_
  refine lv_bipush (v := 63) X.1 X.2.1 dX10_init_92 (by decide) ?_
  refine bl_nnewl (len := 63) hL X V rfl aw_long (by decide) (by decide) (Nat.le_of_ble_eq_true rfl) (Nat.le_of_ble_eq_true rfl) (Nat.le_of_ble_eq_true rfl) dX10_init_94 (fun H V => ?_)
  have V : bl_N g s 151 _ _ _ := V
  refine bl_nputF (v := 150) hL X V (by decide) hs fF_X10_46 hin (by decide) (fun _ => rfl) (fun _ => rfl) dX10_init_96 (fun H locs V => ?_)
  refine lv_aload_n X.1 X.2.1 dX10_init_99 rfl (lv_at hl 0 rfl) ?_
  refine lv_sipush (v := 400) X.1 X.2.1 dX10_init_100 (by decide) ?_
  refine bl_nnewi (len := 400) hL X V rfl aw_int (by decide) (by decide) (Nat.le_of_ble_eq_true rfl) (Nat.le_of_ble_eq_true rfl) (Nat.le_of_ble_eq_true rfl) dX10_init_103 (fun H V => ?_)
  have V : bl_N g s 152 _ _ _ := V
  refine bl_nputF (v := 151) hL X V (by decide) hs fF_X10_49 hin (by decide) (fun _ => rfl) (fun _ => rfl) dX10_init_105 (fun H locs V => ?_)
  refine lv_aload_n X.1 X.2.1 dX10_init_108 rfl (lv_at hl 0 rfl) ?_
  refine lv_sipush (v := 400) X.1 X.2.1 dX10_init_109 (by decide) ?_
  refine bl_nnewi (len := 400) hL X V rfl aw_int (by decide) (by decide) (Nat.le_of_ble_eq_true rfl) (Nat.le_of_ble_eq_true rfl) (Nat.le_of_ble_eq_true rfl) dX10_init_112 (fun H V => ?_)
  have V : bl_N g s 153 _ _ _ := V
  refine bl_nputF (v := 152) hL X V (by decide) hs fF_X10_52 hin (by decide) (fun _ => rfl) (fun _ => rfl) dX10_init_114 (fun H locs V => ?_)
  refine lv_aload_n X.1 X.2.1 dX10_init_117 rfl (lv_at hl 0 rfl) ?_
  refine lv_bipush (v := 45) X.1 X.2.1 dX10_init_118 (by decide) ?_
  refine bl_nnewb (len := 45) hL X V rfl aw_byte (by decide) (by decide) (Nat.le_of_ble_eq_true rfl) (Nat.le_of_ble_eq_true rfl) (Nat.le_of_ble_eq_true rfl) dX10_init_120 (fun H V => ?_)
  have V : bl_N g s 154 _ _ _ := V
  refine lv_dup X.1 X.2.1 dX10_init_122 rfl ?_
  refine lv_iconst (v := 0) X.1 X.2.1 dX10_init_123 (by decide) ?_
  refine lv_bipush (v := 99) X.1 X.2.1 dX10_init_124 (by decide) ?_
  refine bl_nbast (i := 153) (k := 0) hL X V (by decide) (len := 45) rfl (by decide) (by decide) rfl dX10_init_126 (fun H locs V => ?_)
  refine lv_dup X.1 X.2.1 dX10_init_127 rfl ?_
  refine lv_iconst (v := 1) X.1 X.2.1 dX10_init_128 (by decide) ?_
  refine lv_bipush (v := 108) X.1 X.2.1 dX10_init_129 (by decide) ?_
  refine bl_nbast (i := 153) (k := 1) hL X V (by decide) (len := 45) rfl (by decide) (by decide) rfl dX10_init_131 (fun H locs V => ?_)
  refine lv_dup X.1 X.2.1 dX10_init_132 rfl ?_
  refine lv_iconst (v := 2) X.1 X.2.1 dX10_init_133 (by decide) ?_
  refine lv_bipush (v := 97) X.1 X.2.1 dX10_init_134 (by decide) ?_
  refine bl_nbast (i := 153) (k := 2) hL X V (by decide) (len := 45) rfl (by decide) (by decide) rfl dX10_init_136 (fun H locs V => ?_)
  refine lv_dup X.1 X.2.1 dX10_init_137 rfl ?_
  refine lv_iconst (v := 3) X.1 X.2.1 dX10_init_138 (by decide) ?_
  refine lv_bipush (v := 115) X.1 X.2.1 dX10_init_139 (by decide) ?_
  refine bl_nbast (i := 153) (k := 3) hL X V (by decide) (len := 45) rfl (by decide) (by decide) rfl dX10_init_141 (fun H locs V => ?_)
  refine lv_dup X.1 X.2.1 dX10_init_142 rfl ?_
  refine lv_iconst (v := 4) X.1 X.2.1 dX10_init_143 (by decide) ?_
  refine lv_bipush (v := 115) X.1 X.2.1 dX10_init_144 (by decide) ?_
  refine bl_nbast (i := 153) (k := 4) hL X V (by decide) (len := 45) rfl (by decide) (by decide) rfl dX10_init_146 (fun H locs V => ?_)
  refine lv_dup X.1 X.2.1 dX10_init_147 rfl ?_
  refine lv_iconst (v := 5) X.1 X.2.1 dX10_init_148 (by decide) ?_
  refine lv_iconst (v := 0) X.1 X.2.1 dX10_init_149 (by decide) ?_
  refine bl_nbast (i := 153) (k := 5) hL X V (by decide) (len := 45) rfl (by decide) (by decide) rfl dX10_init_150 (fun H locs V => ?_)
  refine lv_dup X.1 X.2.1 dX10_init_151 rfl ?_
  refine lv_bipush (v := 6) X.1 X.2.1 dX10_init_152 (by decide) ?_
  refine lv_bipush (v := 108) X.1 X.2.1 dX10_init_154 (by decide) ?_
  refine bl_nbast (i := 153) (k := 6) hL X V (by decide) (len := 45) rfl (by decide) (by decide) rfl dX10_init_156 (fun H locs V => ?_)
  refine lv_dup X.1 X.2.1 dX10_init_157 rfl ?_
  refine lv_bipush (v := 7) X.1 X.2.1 dX10_init_158 (by decide) ?_
  refine lv_bipush (v := 111) X.1 X.2.1 dX10_init_160 (by decide) ?_
  refine bl_nbast (i := 153) (k := 7) hL X V (by decide) (len := 45) rfl (by decide) (by decide) rfl dX10_init_162 (fun H locs V => ?_)
  refine lv_dup X.1 X.2.1 dX10_init_163 rfl ?_
  refine lv_bipush (v := 8) X.1 X.2.1 dX10_init_164 (by decide) ?_
  refine lv_bipush (v := 115) X.1 X.2.1 dX10_init_166 (by decide) ?_
  refine bl_nbast (i := 153) (k := 8) hL X V (by decide) (len := 45) rfl (by decide) (by decide) rfl dX10_init_168 (fun H locs V => ?_)
  refine lv_dup X.1 X.2.1 dX10_init_169 rfl ?_
  refine lv_bipush (v := 9) X.1 X.2.1 dX10_init_170 (by decide) ?_
  refine lv_bipush (v := 115) X.1 X.2.1 dX10_init_172 (by decide) ?_
  refine bl_nbast (i := 153) (k := 9) hL X V (by decide) (len := 45) rfl (by decide) (by decide) rfl dX10_init_174 (fun H locs V => ?_)
  refine lv_dup X.1 X.2.1 dX10_init_175 rfl ?_
  refine lv_bipush (v := 10) X.1 X.2.1 dX10_init_176 (by decide) ?_
  refine lv_iconst (v := 0) X.1 X.2.1 dX10_init_178 (by decide) ?_
  refine bl_nbast (i := 153) (k := 10) hL X V (by decide) (len := 45) rfl (by decide) (by decide) rfl dX10_init_179 (fun H locs V => ?_)
  refine lv_dup X.1 X.2.1 dX10_init_180 rfl ?_
  refine lv_bipush (v := 11) X.1 X.2.1 dX10_init_181 (by decide) ?_
  refine lv_bipush (v := 99) X.1 X.2.1 dX10_init_183 (by decide) ?_
  refine bl_nbast (i := 153) (k := 11) hL X V (by decide) (len := 45) rfl (by decide) (by decide) rfl dX10_init_185 (fun H locs V => ?_)
  refine lv_dup X.1 X.2.1 dX10_init_186 rfl ?_
  refine lv_bipush (v := 12) X.1 X.2.1 dX10_init_187 (by decide) ?_
  refine lv_bipush (v := 104) X.1 X.2.1 dX10_init_189 (by decide) ?_
  refine bl_nbast (i := 153) (k := 12) hL X V (by decide) (len := 45) rfl (by decide) (by decide) rfl dX10_init_191 (fun H locs V => ?_)
  refine lv_dup X.1 X.2.1 dX10_init_192 rfl ?_
  refine lv_bipush (v := 13) X.1 X.2.1 dX10_init_193 (by decide) ?_
  refine lv_bipush (v := 97) X.1 X.2.1 dX10_init_195 (by decide) ?_
  refine bl_nbast (i := 153) (k := 13) hL X V (by decide) (len := 45) rfl (by decide) (by decide) rfl dX10_init_197 (fun H locs V => ?_)
  refine lv_dup X.1 X.2.1 dX10_init_198 rfl ?_
  refine lv_bipush (v := 14) X.1 X.2.1 dX10_init_199 (by decide) ?_
  refine lv_bipush (v := 110) X.1 X.2.1 dX10_init_201 (by decide) ?_
  refine bl_nbast (i := 153) (k := 14) hL X V (by decide) (len := 45) rfl (by decide) (by decide) rfl dX10_init_203 (fun H locs V => ?_)
  refine lv_dup X.1 X.2.1 dX10_init_204 rfl ?_
  refine lv_bipush (v := 15) X.1 X.2.1 dX10_init_205 (by decide) ?_
  refine lv_bipush (v := 99) X.1 X.2.1 dX10_init_207 (by decide) ?_
  refine bl_nbast (i := 153) (k := 15) hL X V (by decide) (len := 45) rfl (by decide) (by decide) rfl dX10_init_209 (fun H locs V => ?_)
  refine lv_dup X.1 X.2.1 dX10_init_210 rfl ?_
  refine lv_bipush (v := 16) X.1 X.2.1 dX10_init_211 (by decide) ?_
  refine lv_bipush (v := 101) X.1 X.2.1 dX10_init_213 (by decide) ?_
  refine bl_nbast (i := 153) (k := 16) hL X V (by decide) (len := 45) rfl (by decide) (by decide) rfl dX10_init_215 (fun H locs V => ?_)
  refine lv_dup X.1 X.2.1 dX10_init_216 rfl ?_
  refine lv_bipush (v := 17) X.1 X.2.1 dX10_init_217 (by decide) ?_
  refine lv_bipush (v := 115) X.1 X.2.1 dX10_init_219 (by decide) ?_
  refine bl_nbast (i := 153) (k := 17) hL X V (by decide) (len := 45) rfl (by decide) (by decide) rfl dX10_init_221 (fun H locs V => ?_)
  refine lv_dup X.1 X.2.1 dX10_init_222 rfl ?_
  refine lv_bipush (v := 18) X.1 X.2.1 dX10_init_223 (by decide) ?_
  refine lv_iconst (v := 0) X.1 X.2.1 dX10_init_225 (by decide) ?_
  refine bl_nbast (i := 153) (k := 18) hL X V (by decide) (len := 45) rfl (by decide) (by decide) rfl dX10_init_226 (fun H locs V => ?_)
  refine lv_dup X.1 X.2.1 dX10_init_227 rfl ?_
  refine lv_bipush (v := 19) X.1 X.2.1 dX10_init_228 (by decide) ?_
  refine lv_bipush (v := 111) X.1 X.2.1 dX10_init_230 (by decide) ?_
  refine bl_nbast (i := 153) (k := 19) hL X V (by decide) (len := 45) rfl (by decide) (by decide) rfl dX10_init_232 (fun H locs V => ?_)
  refine lv_dup X.1 X.2.1 dX10_init_233 rfl ?_
  refine lv_bipush (v := 20) X.1 X.2.1 dX10_init_234 (by decide) ?_
  refine lv_bipush (v := 100) X.1 X.2.1 dX10_init_236 (by decide) ?_
  refine bl_nbast (i := 153) (k := 20) hL X V (by decide) (len := 45) rfl (by decide) (by decide) rfl dX10_init_238 (fun H locs V => ?_)
  refine lv_dup X.1 X.2.1 dX10_init_239 rfl ?_
  refine lv_bipush (v := 21) X.1 X.2.1 dX10_init_240 (by decide) ?_
  refine lv_bipush (v := 100) X.1 X.2.1 dX10_init_242 (by decide) ?_
  refine bl_nbast (i := 153) (k := 21) hL X V (by decide) (len := 45) rfl (by decide) (by decide) rfl dX10_init_244 (fun H locs V => ?_)
  refine lv_dup X.1 X.2.1 dX10_init_245 rfl ?_
  refine lv_bipush (v := 22) X.1 X.2.1 dX10_init_246 (by decide) ?_
  refine lv_bipush (v := 115) X.1 X.2.1 dX10_init_248 (by decide) ?_
  refine bl_nbast (i := 153) (k := 22) hL X V (by decide) (len := 45) rfl (by decide) (by decide) rfl dX10_init_250 (fun H locs V => ?_)
  refine lv_dup X.1 X.2.1 dX10_init_251 rfl ?_
  refine lv_bipush (v := 23) X.1 X.2.1 dX10_init_252 (by decide) ?_
  refine lv_iconst (v := 0) X.1 X.2.1 dX10_init_254 (by decide) ?_
  refine bl_nbast (i := 153) (k := 23) hL X V (by decide) (len := 45) rfl (by decide) (by decide) rfl dX10_init_255 (fun H locs V => ?_)
  refine lv_dup X.1 X.2.1 dX10_init_256 rfl ?_
  refine lv_bipush (v := 24) X.1 X.2.1 dX10_init_257 (by decide) ?_
  refine lv_bipush (v := 111) X.1 X.2.1 dX10_init_259 (by decide) ?_
  refine bl_nbast (i := 153) (k := 24) hL X V (by decide) (len := 45) rfl (by decide) (by decide) rfl dX10_init_261 (fun H locs V => ?_)
  refine lv_dup X.1 X.2.1 dX10_init_262 rfl ?_
  refine lv_bipush (v := 25) X.1 X.2.1 dX10_init_263 (by decide) ?_
  refine lv_bipush (v := 119) X.1 X.2.1 dX10_init_265 (by decide) ?_
  refine bl_nbast (i := 153) (k := 25) hL X V (by decide) (len := 45) rfl (by decide) (by decide) rfl dX10_init_267 (fun H locs V => ?_)
  refine lv_dup X.1 X.2.1 dX10_init_268 rfl ?_
  refine lv_bipush (v := 26) X.1 X.2.1 dX10_init_269 (by decide) ?_
  refine lv_bipush (v := 110) X.1 X.2.1 dX10_init_271 (by decide) ?_
  refine bl_nbast (i := 153) (k := 26) hL X V (by decide) (len := 45) rfl (by decide) (by decide) rfl dX10_init_273 (fun H locs V => ?_)
  refine lv_dup X.1 X.2.1 dX10_init_274 rfl ?_
  refine lv_bipush (v := 27) X.1 X.2.1 dX10_init_275 (by decide) ?_
  refine lv_iconst (v := 0) X.1 X.2.1 dX10_init_277 (by decide) ?_
  refine bl_nbast (i := 153) (k := 27) hL X V (by decide) (len := 45) rfl (by decide) (by decide) rfl dX10_init_278 (fun H locs V => ?_)
  refine lv_dup X.1 X.2.1 dX10_init_279 rfl ?_
  refine lv_bipush (v := 28) X.1 X.2.1 dX10_init_280 (by decide) ?_
  refine lv_bipush (v := 103) X.1 X.2.1 dX10_init_282 (by decide) ?_
  refine bl_nbast (i := 153) (k := 28) hL X V (by decide) (len := 45) rfl (by decide) (by decide) rfl dX10_init_284 (fun H locs V => ?_)
  refine lv_dup X.1 X.2.1 dX10_init_285 rfl ?_
  refine lv_bipush (v := 29) X.1 X.2.1 dX10_init_286 (by decide) ?_
  refine lv_bipush (v := 117) X.1 X.2.1 dX10_init_288 (by decide) ?_
  refine bl_nbast (i := 153) (k := 29) hL X V (by decide) (len := 45) rfl (by decide) (by decide) rfl dX10_init_290 (fun H locs V => ?_)
  refine lv_dup X.1 X.2.1 dX10_init_291 rfl ?_
  refine lv_bipush (v := 30) X.1 X.2.1 dX10_init_292 (by decide) ?_
  refine lv_bipush (v := 97) X.1 X.2.1 dX10_init_294 (by decide) ?_
  refine bl_nbast (i := 153) (k := 30) hL X V (by decide) (len := 45) rfl (by decide) (by decide) rfl dX10_init_296 (fun H locs V => ?_)
  refine lv_dup X.1 X.2.1 dX10_init_297 rfl ?_
  refine lv_bipush (v := 31) X.1 X.2.1 dX10_init_298 (by decide) ?_
  refine lv_bipush (v := 114) X.1 X.2.1 dX10_init_300 (by decide) ?_
  refine bl_nbast (i := 153) (k := 31) hL X V (by decide) (len := 45) rfl (by decide) (by decide) rfl dX10_init_302 (fun H locs V => ?_)
  refine lv_dup X.1 X.2.1 dX10_init_303 rfl ?_
  refine lv_bipush (v := 32) X.1 X.2.1 dX10_init_304 (by decide) ?_
  refine lv_bipush (v := 100) X.1 X.2.1 dX10_init_306 (by decide) ?_
  refine bl_nbast (i := 153) (k := 32) hL X V (by decide) (len := 45) rfl (by decide) (by decide) rfl dX10_init_308 (fun H locs V => ?_)
  refine lv_dup X.1 X.2.1 dX10_init_309 rfl ?_
  refine lv_bipush (v := 33) X.1 X.2.1 dX10_init_310 (by decide) ?_
  refine lv_iconst (v := 0) X.1 X.2.1 dX10_init_312 (by decide) ?_
  refine bl_nbast (i := 153) (k := 33) hL X V (by decide) (len := 45) rfl (by decide) (by decide) rfl dX10_init_313 (fun H locs V => ?_)
  refine lv_dup X.1 X.2.1 dX10_init_314 rfl ?_
  refine lv_bipush (v := 34) X.1 X.2.1 dX10_init_315 (by decide) ?_
  refine lv_bipush (v := 108) X.1 X.2.1 dX10_init_317 (by decide) ?_
  refine bl_nbast (i := 153) (k := 34) hL X V (by decide) (len := 45) rfl (by decide) (by decide) rfl dX10_init_319 (fun H locs V => ?_)
  refine lv_dup X.1 X.2.1 dX10_init_320 rfl ?_
  refine lv_bipush (v := 35) X.1 X.2.1 dX10_init_321 (by decide) ?_
  refine lv_bipush (v := 101) X.1 X.2.1 dX10_init_323 (by decide) ?_
  refine bl_nbast (i := 153) (k := 35) hL X V (by decide) (len := 45) rfl (by decide) (by decide) rfl dX10_init_325 (fun H locs V => ?_)
  refine lv_dup X.1 X.2.1 dX10_init_326 rfl ?_
  refine lv_bipush (v := 36) X.1 X.2.1 dX10_init_327 (by decide) ?_
  refine lv_bipush (v := 97) X.1 X.2.1 dX10_init_329 (by decide) ?_
  refine bl_nbast (i := 153) (k := 36) hL X V (by decide) (len := 45) rfl (by decide) (by decide) rfl dX10_init_331 (fun H locs V => ?_)
  refine lv_dup X.1 X.2.1 dX10_init_332 rfl ?_
  refine lv_bipush (v := 37) X.1 X.2.1 dX10_init_333 (by decide) ?_
  refine lv_bipush (v := 115) X.1 X.2.1 dX10_init_335 (by decide) ?_
  refine bl_nbast (i := 153) (k := 37) hL X V (by decide) (len := 45) rfl (by decide) (by decide) rfl dX10_init_337 (fun H locs V => ?_)
  refine lv_dup X.1 X.2.1 dX10_init_338 rfl ?_
  refine lv_bipush (v := 38) X.1 X.2.1 dX10_init_339 (by decide) ?_
  refine lv_bipush (v := 116) X.1 X.2.1 dX10_init_341 (by decide) ?_
  refine bl_nbast (i := 153) (k := 38) hL X V (by decide) (len := 45) rfl (by decide) (by decide) rfl dX10_init_343 (fun H locs V => ?_)
  refine lv_dup X.1 X.2.1 dX10_init_344 rfl ?_
  refine lv_bipush (v := 39) X.1 X.2.1 dX10_init_345 (by decide) ?_
  refine lv_iconst (v := 0) X.1 X.2.1 dX10_init_347 (by decide) ?_
  refine bl_nbast (i := 153) (k := 39) hL X V (by decide) (len := 45) rfl (by decide) (by decide) rfl dX10_init_348 (fun H locs V => ?_)
  refine lv_dup X.1 X.2.1 dX10_init_349 rfl ?_
  refine lv_bipush (v := 40) X.1 X.2.1 dX10_init_350 (by decide) ?_
  refine lv_bipush (v := 110) X.1 X.2.1 dX10_init_352 (by decide) ?_
  refine bl_nbast (i := 153) (k := 40) hL X V (by decide) (len := 45) rfl (by decide) (by decide) rfl dX10_init_354 (fun H locs V => ?_)
  refine lv_dup X.1 X.2.1 dX10_init_355 rfl ?_
  refine lv_bipush (v := 41) X.1 X.2.1 dX10_init_356 (by decide) ?_
  refine lv_bipush (v := 111) X.1 X.2.1 dX10_init_358 (by decide) ?_
  refine bl_nbast (i := 153) (k := 41) hL X V (by decide) (len := 45) rfl (by decide) (by decide) rfl dX10_init_360 (fun H locs V => ?_)
  refine lv_dup X.1 X.2.1 dX10_init_361 rfl ?_
  refine lv_bipush (v := 42) X.1 X.2.1 dX10_init_362 (by decide) ?_
  refine lv_bipush (v := 110) X.1 X.2.1 dX10_init_364 (by decide) ?_
  refine bl_nbast (i := 153) (k := 42) hL X V (by decide) (len := 45) rfl (by decide) (by decide) rfl dX10_init_366 (fun H locs V => ?_)
  refine lv_dup X.1 X.2.1 dX10_init_367 rfl ?_
  refine lv_bipush (v := 43) X.1 X.2.1 dX10_init_368 (by decide) ?_
  refine lv_bipush (v := 101) X.1 X.2.1 dX10_init_370 (by decide) ?_
  refine bl_nbast (i := 153) (k := 43) hL X V (by decide) (len := 45) rfl (by decide) (by decide) rfl dX10_init_372 (fun H locs V => ?_)
  refine lv_dup X.1 X.2.1 dX10_init_373 rfl ?_
  refine lv_bipush (v := 44) X.1 X.2.1 dX10_init_374 (by decide) ?_
  refine lv_iconst (v := 0) X.1 X.2.1 dX10_init_376 (by decide) ?_
  refine bl_nbast (i := 153) (k := 44) hL X V (by decide) (len := 45) rfl (by decide) (by decide) rfl dX10_init_377 (fun H locs V => ?_)
  refine bl_nputF (v := 153) hL X V (by decide) hs fF_X10_55 hin (by decide) (fun _ => rfl) (fun _ => rfl) dX10_init_378 (fun H locs V => ?_)
  refine lv_aload_n X.1 X.2.1 dX10_init_381 rfl (lv_at hl 0 rfl) ?_
  have V2 : bl_V g s (q_X10_init σ) H locs := ⟨⟨V.1.1, hw⟩, V.2⟩
  refine bl_ngetr (r := 140) X V (by decide) hs fl_X10_13 rfl (by decide) dX10_init_382 ?_
  refine bl_cSv (As := [.ref (bl_ad g 140)]) (rest := []) X V2 hl.1 ml_X10_59 mS_X10_starts (t_X10_starts l g _ 140 _ rfl hf) rfl rfl ⟨Nat.le_of_ble_eq_true rfl, Nat.le_of_ble_eq_true rfl⟩ rfl rfl (Nat.le_of_ble_eq_true rfl) ⟨Nat.le_of_ble_eq_true rfl, Nat.le_of_ble_eq_true rfl⟩ dX10_init_385 (fun H locs V => ?_)
  exact W.vret X.1 X.2.1 hr (fun t ht hW => ⟨⟨σ1, rfl, rfl, by show bl_P g σ1 t.heap; rw [ht]; exact V.1⟩, V.2.F ht⟩) V.2.2.2 dX10_init_388 X.2.2.2.2.2.2.2
