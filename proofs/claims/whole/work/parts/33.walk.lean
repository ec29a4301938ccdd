set_option maxHeartbeats 4000000 in
set_option maxRecDepth 100000 in
theorem t_X9_ofSort (l : Launch) (g : bl_Gp) (σ : bl_St) (a0 : Nat) (a1 : Int32) (a2 : Int32) (o : Int32 × bl_St) (ha0 : bl_sh[a0]? = some (9, 13)) (hf : f_X9_ofSort σ a0 a1 a2 = some o) : bl_Ci l g yX9_ofSort cX9_ofSort 3 (Option.some Jvm.ClassFile.FieldType.int) (bl_rm 1 22) [.ref (bl_ad g a0), .int a1, .int a2] σ o := by
  refine bl_met (by decide) (Nat.le_of_ble_eq_true rfl) (fun p e s m below meth c ls X hr V hl => ?_)
  have hl : lv_has ls 3 [(0, .ref (bl_ad g a0)), (1, .int a1), (2, .int a2)] := hl
  unfold f_X9_ofSort at hf
  refine lv_aload_n X.1 X.2.1 dX9_ofSort_0 rfl (lv_at hl 0 rfl) ?_
  refine bl_getr X V ha0 fl_X9_26 rfl dX9_ofSort_1 (fun h1 => ?_)
  refine lv_iload_n X.1 X.2.1 dX9_ofSort_4 rfl (lv_at hl 1 rfl) ?_
  obtain ⟨r2, σ3, h4, hf⟩ := bl_bd_at hf
  refine bl_cVi (As := [.int a1]) X V hl.1 h1 rfl ml_X9_133 mV_X8_hasSort (t_X8_hasSort l g σ (bl_R σ a0 2) a1 _ h1 h4) rfl rfl ⟨Nat.le_of_ble_eq_true rfl, Nat.le_of_ble_eq_true rfl⟩ rfl rfl (Nat.le_of_ble_eq_true rfl) ⟨Nat.zero_le _, Nat.zero_le _⟩ dX9_ofSort_5 (fun H locs V => ?_)
  refine lv_if_ne (tgt := 13) X.1 X.2.1 dX9_ofSort_8 (by decide) (fun c5 => ?_) (fun c5 => ?_)
  · have hf := bl_ifn c5 hf
    refine lv_iload_n X.1 X.2.1 dX9_ofSort_13 rfl (lv_at hl 2 rfl) ?_
    by_cases c6 : a2 = 0
    · have hf := bl_ifp c6 hf
      refine bl_swI (v := 0) (tgt := 40) X dX9_ofSort_14 (by rw [c6]; decide) (by decide) rfl (by decide) ?_
      refine lv_aload_n X.1 X.2.1 dX9_ofSort_40 rfl (lv_at hl 0 rfl) ?_
      refine bl_getr X V ha0 fl_X9_26 rfl dX9_ofSort_41 (fun h7 => ?_)
      refine lv_iload_n X.1 X.2.1 dX9_ofSort_44 rfl (lv_at hl 1 rfl) ?_
      refine lv_iconst (v := 0) X.1 X.2.1 dX9_ofSort_45 (by decide) ?_
      obtain ⟨r8, σ9, h10, hf⟩ := bl_bd_at hf
      refine bl_cVi (As := [.int a1, .int 0]) X V hl.1 h7 rfl ml_X9_140 mV_X8_sortPart (t_X8_sortPart l g σ3 (bl_R σ3 a0 2) a1 0 _ h7 h10) rfl rfl ⟨Nat.le_of_ble_eq_true rfl, Nat.le_of_ble_eq_true rfl⟩ rfl rfl (Nat.le_of_ble_eq_true rfl) ⟨Nat.zero_le _, Nat.zero_le _⟩ dX9_ofSort_46 (fun H locs V => ?_)
      exact bl_reti X V hr hf dX9_ofSort_49
    have hf := bl_ifn c6 hf
    by_cases c11 : a2 = 1
    · have hf := bl_ifp c11 hf
      refine bl_swI (v := 1) (tgt := 50) X dX9_ofSort_14 (by rw [c11]; decide) (by decide) rfl (by decide) ?_
      refine lv_aload_n X.1 X.2.1 dX9_ofSort_50 rfl (lv_at hl 0 rfl) ?_
      refine bl_getr X V ha0 fl_X9_26 rfl dX9_ofSort_51 (fun h12 => ?_)
      refine lv_iload_n X.1 X.2.1 dX9_ofSort_54 rfl (lv_at hl 1 rfl) ?_
      refine lv_iconst (v := 1) X.1 X.2.1 dX9_ofSort_55 (by decide) ?_
      obtain ⟨r13, σ14, h15, hf⟩ := bl_bd_at hf
      refine bl_cVi (As := [.int a1, .int 1]) X V hl.1 h12 rfl ml_X9_140 mV_X8_sortPart (t_X8_sortPart l g σ3 (bl_R σ3 a0 2) a1 1 _ h12 h15) rfl rfl ⟨Nat.le_of_ble_eq_true rfl, Nat.le_of_ble_eq_true rfl⟩ rfl rfl (Nat.le_of_ble_eq_true rfl) ⟨Nat.zero_le _, Nat.zero_le _⟩ dX9_ofSort_56 (fun H locs V => ?_)
      exact bl_reti X V hr hf dX9_ofSort_59
    have hf := bl_ifn c11 hf
    by_cases c16 : a2 = 2
    · have hf := bl_ifp c16 hf
      refine bl_swI (v := 2) (tgt := 60) X dX9_ofSort_14 (by rw [c16]; decide) (by decide) rfl (by decide) ?_
      refine lv_aload_n X.1 X.2.1 dX9_ofSort_60 rfl (lv_at hl 0 rfl) ?_
      refine bl_getr X V ha0 fl_X9_26 rfl dX9_ofSort_61 (fun h17 => ?_)
      obtain ⟨r18, σ19, h20, hf⟩ := bl_bd_at hf
      refine bl_cVi (As := []) X V hl.1 h17 rfl ml_X9_200 mV_X8_odds (t_X8_odds l g σ3 (bl_R σ3 a0 2) _ h17 h20) rfl rfl ⟨Nat.le_of_ble_eq_true rfl, Nat.le_of_ble_eq_true rfl⟩ rfl rfl (Nat.le_of_ble_eq_true rfl) ⟨Nat.zero_le _, Nat.zero_le _⟩ dX9_ofSort_64 (fun H locs V => ?_)
      refine lv_aload_n X.1 X.2.1 dX9_ofSort_67 rfl (lv_at hl 0 rfl) ?_
      refine bl_getr X V ha0 fl_X9_26 rfl dX9_ofSort_68 (fun h21 => ?_)
      refine lv_iload_n X.1 X.2.1 dX9_ofSort_71 rfl (lv_at hl 1 rfl) ?_
      refine lv_iconst (v := 1) X.1 X.2.1 dX9_ofSort_72 (by decide) ?_
      obtain ⟨r22, σ23, h24, hf⟩ := bl_bd_at hf
      refine bl_cVi (As := [.int a1, .int 1]) X V hl.1 h21 rfl ml_X9_140 mV_X8_sortPart (t_X8_sortPart l g σ19 (bl_R σ19 a0 2) a1 1 _ h21 h24) rfl rfl ⟨Nat.le_of_ble_eq_true rfl, Nat.le_of_ble_eq_true rfl⟩ rfl rfl (Nat.le_of_ble_eq_true rfl) ⟨Nat.zero_le _, Nat.zero_le _⟩ dX9_ofSort_73 (fun H locs V => ?_)
      refine lv_imul X.1 X.2.1 dX9_ofSort_76 ?_
      exact bl_reti X V hr hf dX9_ofSort_77
    have hf := bl_ifn c16 hf
    have c6 := lv_neT (a := 0) c6 (by decide)
    have c11 := lv_neT (a := 1) c11 (by decide)
    have c16 := lv_neT (a := 2) c16 (by decide)
    refine bl_swO (tgt := 78) X dX9_ofSort_14 (by omega) (by decide) ?_
    refine lv_iconst (v := (-1)) X.1 X.2.1 dX9_ofSort_78 (by decide) ?_
    exact bl_reti X V hr hf dX9_ofSort_79
  · have hf := bl_ifp c5 hf
    refine lv_iconst (v := (-1)) X.1 X.2.1 dX9_ofSort_11 (by decide) ?_
    exact bl_reti X V hr hf dX9_ofSort_12
set_option maxHeartbeats 4000000 in
set_option maxRecDepth 100000 in
theorem t_X9_life (l : Launch) (g : bl_Gp) (σ : bl_St) (a0 : Nat) (a1 : Int32) (o : Int32 × bl_St) (ha0 : bl_sh[a0]? = some (9, 13)) (hf : f_X9_life σ a0 a1 = some o) : bl_Ci l g yX9_life cX9_life 2 (Option.some Jvm.ClassFile.FieldType.int) (bl_rm 1 20) [.ref (bl_ad g a0), .int a1] σ o := by
  refine bl_met (by decide) (Nat.le_of_ble_eq_true rfl) (fun p e s m below meth c ls X hr V hl => ?_)
  have hl : lv_has ls 2 [(0, .ref (bl_ad g a0)), (1, .int a1)] := hl
  unfold f_X9_life at hf
  refine lv_iload_n X.1 X.2.1 dX9_life_0 rfl (lv_at hl 1 rfl) ?_
  by_cases c1 : a1 = 0
  · have hf := bl_ifp c1 hf
    refine bl_swI (v := 0) (tgt := 68) X dX9_life_1 (by rw [c1]; decide) (by decide) rfl (by decide) ?_
    refine lv_aload_n X.1 X.2.1 dX9_life_68 rfl (lv_at hl 0 rfl) ?_
    refine bl_getr X V ha0 fl_X9_26 rfl dX9_life_69 (fun h2 => ?_)
    refine bl_geti X V h2 fl_X9_111 dX9_life_72 ?_
    refine lv_if_ne (tgt := 82) X.1 X.2.1 dX9_life_75 (by decide) (fun c3 => ?_) (fun c3 => ?_)
    · have hf := bl_ifn c3 hf
      refine lv_aload_n X.1 X.2.1 dX9_life_82 rfl (lv_at hl 0 rfl) ?_
      refine bl_getr X V ha0 fl_X9_36 rfl dX9_life_83 (fun h4 => ?_)
      refine bl_geti X V h4 fl_X9_187 dX9_life_86 ?_
      exact bl_reti X V hr hf dX9_life_89
    · have hf := bl_ifp c3 hf
      refine lv_iconst (v := (-1)) X.1 X.2.1 dX9_life_78 (by decide) ?_
      refine lv_goto (tgt := 89) X.1 X.2.1 dX9_life_79 (by decide) ?_
      exact bl_reti X V hr hf dX9_life_89
  have hf := bl_ifn c1 hf
  by_cases c5 : a1 = 1
  · have hf := bl_ifp c5 hf
    refine bl_swI (v := 1) (tgt := 90) X dX9_life_1 (by rw [c5]; decide) (by decide) rfl (by decide) ?_
    refine lv_aload_n X.1 X.2.1 dX9_life_90 rfl (lv_at hl 0 rfl) ?_
    refine bl_getr X V ha0 fl_X9_36 rfl dX9_life_91 (fun h6 => ?_)
    refine bl_geti X V h6 fl_X9_150 dX9_life_94 ?_
    refine lv_if_eq (tgt := 104) X.1 X.2.1 dX9_life_97 (by decide) (fun c7 => ?_) (fun c7 => ?_)
    · have hf := bl_ifp c7 hf
      refine lv_iconst (v := 0) X.1 X.2.1 dX9_life_104 (by decide) ?_
      exact bl_reti X V hr hf dX9_life_105
    · have hf := bl_ifn c7 hf
      refine lv_iconst (v := 1) X.1 X.2.1 dX9_life_100 (by decide) ?_
      refine lv_goto (tgt := 105) X.1 X.2.1 dX9_life_101 (by decide) ?_
      exact bl_reti X V hr hf dX9_life_105
  have hf := bl_ifn c5 hf
  by_cases c8 : a1 = 2
  · have hf := bl_ifp c8 hf
    refine bl_swI (v := 2) (tgt := 106) X dX9_life_1 (by rw [c8]; decide) (by decide) rfl (by decide) ?_
    refine lv_aload_n X.1 X.2.1 dX9_life_106 rfl (lv_at hl 0 rfl) ?_
    refine bl_getr X V ha0 fl_X9_36 rfl dX9_life_107 (fun h9 => ?_)
    refine bl_geti X V h9 fl_X9_203 dX9_life_110 ?_
    exact bl_reti X V hr hf dX9_life_113
  have hf := bl_ifn c8 hf
  by_cases c10 : a1 = 3
  · have hf := bl_ifp c10 hf
    refine bl_swI (v := 3) (tgt := 114) X dX9_life_1 (by rw [c10]; decide) (by decide) rfl (by decide) ?_
    refine lv_aload_n X.1 X.2.1 dX9_life_114 rfl (lv_at hl 0 rfl) ?_
    refine bl_getr X V ha0 fl_X9_36 rfl dX9_life_115 (fun h11 => ?_)
    refine bl_geti X V h11 fl_X9_206 dX9_life_118 ?_
    exact bl_reti X V hr hf dX9_life_121
  have hf := bl_ifn c10 hf
  by_cases c12 : a1 = 4
  · have hf := bl_ifp c12 hf
    refine bl_swI (v := 4) (tgt := 122) X dX9_life_1 (by rw [c12]; decide) (by decide) rfl (by decide) ?_
    refine lv_aload_n X.1 X.2.1 dX9_life_122 rfl (lv_at hl 0 rfl) ?_
    refine bl_getr X V ha0 fl_X9_36 rfl dX9_life_123 (fun h13 => ?_)
    refine bl_geti X V h13 fl_X9_209 dX9_life_126 ?_
    refine lv_if_eq (tgt := 136) X.1 X.2.1 dX9_life_129 (by decide) (fun c14 => ?_) (fun c14 => ?_)
    · have hf := bl_ifp c14 hf
      refine lv_iconst (v := 0) X.1 X.2.1 dX9_life_136 (by decide) ?_
      exact bl_reti X V hr hf dX9_life_137
    · have hf := bl_ifn c14 hf
      refine lv_iconst (v := 1) X.1 X.2.1 dX9_life_132 (by decide) ?_
      refine lv_goto (tgt := 137) X.1 X.2.1 dX9_life_133 (by decide) ?_
      exact bl_reti X V hr hf dX9_life_137
  have hf := bl_ifn c12 hf
  by_cases c15 : a1 = 5
  · have hf := bl_ifp c15 hf
    refine bl_swI (v := 5) (tgt := 138) X dX9_life_1 (by rw [c15]; decide) (by decide) rfl (by decide) ?_
    refine lv_aload_n X.1 X.2.1 dX9_life_138 rfl (lv_at hl 0 rfl) ?_
    refine bl_getr X V ha0 fl_X9_36 rfl dX9_life_139 (fun h16 => ?_)
    refine bl_geti X V h16 fl_X9_190 dX9_life_142 ?_
    exact bl_reti X V hr hf dX9_life_145
  have hf := bl_ifn c15 hf
  by_cases c17 : a1 = 6
  · have hf := bl_ifp c17 hf
    refine bl_swI (v := 6) (tgt := 146) X dX9_life_1 (by rw [c17]; decide) (by decide) rfl (by decide) ?_
    refine lv_aload_n X.1 X.2.1 dX9_life_146 rfl (lv_at hl 0 rfl) ?_
    refine bl_getr X V ha0 fl_X9_36 rfl dX9_life_147 (fun h18 => ?_)
    refine bl_geti X V h18 fl_X9_212 dX9_life_150 ?_
    exact bl_reti X V hr hf dX9_life_153
  have hf := bl_ifn c17 hf
  by_cases c19 : a1 = 7
  · have hf := bl_ifp c19 hf
    refine bl_swI (v := 7) (tgt := 154) X dX9_life_1 (by rw [c19]; decide) (by decide) rfl (by decide) ?_
    refine lv_aload_n X.1 X.2.1 dX9_life_154 rfl (lv_at hl 0 rfl) ?_
    refine bl_getr X V ha0 fl_X9_36 rfl dX9_life_155 (fun h20 => ?_)
    refine bl_geti X V h20 fl_X9_215 dX9_life_158 ?_
    exact bl_reti X V hr hf dX9_life_161
  have hf := bl_ifn c19 hf
  by_cases c21 : a1 = 8
  · have hf := bl_ifp c21 hf
    refine bl_swI (v := 8) (tgt := 162) X dX9_life_1 (by rw [c21]; decide) (by decide) rfl (by decide) ?_
    refine lv_aload_n X.1 X.2.1 dX9_life_162 rfl (lv_at hl 0 rfl) ?_
    refine bl_getr X V ha0 fl_X9_36 rfl dX9_life_163 (fun h22 => ?_)
    refine bl_geti X V h22 fl_X9_218 dX9_life_166 ?_
    exact bl_reti X V hr hf dX9_life_169
  have hf := bl_ifn c21 hf
  by_cases c23 : a1 = 9
  · have hf := bl_ifp c23 hf
    refine bl_swI (v := 9) (tgt := 170) X dX9_life_1 (by rw [c23]; decide) (by decide) rfl (by decide) ?_
    refine lv_aload_n X.1 X.2.1 dX9_life_170 rfl (lv_at hl 0 rfl) ?_
    refine bl_getr X V ha0 fl_X9_36 rfl dX9_life_171 (fun h24 => ?_)
    refine bl_geti X V h24 fl_X9_221 dX9_life_174 ?_
    exact bl_reti X V hr hf dX9_life_177
  have hf := bl_ifn c23 hf
  by_cases c25 : a1 = 10
  · have hf := bl_ifp c25 hf
    refine bl_swI (v := 10) (tgt := 178) X dX9_life_1 (by rw [c25]; decide) (by decide) rfl (by decide) ?_
    refine lv_aload_n X.1 X.2.1 dX9_life_178 rfl (lv_at hl 0 rfl) ?_
    refine bl_getr X V ha0 fl_X9_36 rfl dX9_life_179 (fun h26 => ?_)
    refine bl_geti X V h26 fl_X9_224 dX9_life_182 ?_
    exact bl_reti X V hr hf dX9_life_185
  have hf := bl_ifn c25 hf
  by_cases c27 : a1 = 11
  · have hf := bl_ifp c27 hf
    refine bl_swI (v := 11) (tgt := 186) X dX9_life_1 (by rw [c27]; decide) (by decide) rfl (by decide) ?_
    refine lv_aload_n X.1 X.2.1 dX9_life_186 rfl (lv_at hl 0 rfl) ?_
    refine bl_getr X V ha0 fl_X9_36 rfl dX9_life_187 (fun h28 => ?_)
    refine bl_geti X V h28 fl_X9_227 dX9_life_190 ?_
    exact bl_reti X V hr hf dX9_life_193
  have hf := bl_ifn c27 hf
  by_cases c29 : a1 = 12
  · have hf := bl_ifp c29 hf
    refine bl_swI (v := 12) (tgt := 194) X dX9_life_1 (by rw [c29]; decide) (by decide) rfl (by decide) ?_
    refine lv_aload_n X.1 X.2.1 dX9_life_194 rfl (lv_at hl 0 rfl) ?_
    refine bl_getr X V ha0 fl_X9_36 rfl dX9_life_195 (fun h30 => ?_)
    obtain ⟨r31, σ32, h33, hf⟩ := bl_bd_at hf
    refine bl_cVi (As := []) X V hl.1 h30 rfl ml_X9_230 mV_X2_allPaid (t_X2_allPaid l g σ (bl_R σ a0 4) _ h30 h33) rfl rfl ⟨Nat.le_of_ble_eq_true rfl, Nat.le_of_ble_eq_true rfl⟩ rfl rfl (Nat.le_of_ble_eq_true rfl) ⟨Nat.zero_le _, Nat.zero_le _⟩ dX9_life_198 (fun H locs V => ?_)
    exact bl_reti X V hr hf dX9_life_201
  have hf := bl_ifn c29 hf
  have c1 := lv_neT (a := 0) c1 (by decide)
  have c5 := lv_neT (a := 1) c5 (by decide)
  have c8 := lv_neT (a := 2) c8 (by decide)
  have c10 := lv_neT (a := 3) c10 (by decide)
  have c12 := lv_neT (a := 4) c12 (by decide)
  have c15 := lv_neT (a := 5) c15 (by decide)
  have c17 := lv_neT (a := 6) c17 (by decide)
  have c19 := lv_neT (a := 7) c19 (by decide)
  have c21 := lv_neT (a := 8) c21 (by decide)
  have c23 := lv_neT (a := 9) c23 (by decide)
  have c25 := lv_neT (a := 10) c25 (by decide)
  have c27 := lv_neT (a := 11) c27 (by decide)
  have c29 := lv_neT (a := 12) c29 (by decide)
  refine bl_swO (tgt := 202) X dX9_life_1 (by omega) (by decide) ?_
  refine lv_iconst (v := (-1)) X.1 X.2.1 dX9_life_202 (by decide) ?_
  exact bl_reti X V hr hf dX9_life_203
set_option maxHeartbeats 4000000 in
set_option maxRecDepth 100000 in
theorem t_X9_entry (l : Launch) (g : bl_Gp) (σ : bl_St) (a0 : Nat) (a1 : Int32) (a2 : Int32) (a3 : Int32) (o : Int32 × bl_St) (ha0 : bl_sh[a0]? = some (20, 48)) (hf : f_X9_entry σ a0 a1 a2 a3 = some o) : bl_Ci l g yX9_entry cX9_entry 4 (Option.some Jvm.ClassFile.FieldType.int) (bl_rm 1 16) [.ref (bl_ad g a0), .int a1, .int a2, .int a3] σ o := by
  refine bl_met (by decide) (Nat.le_of_ble_eq_true rfl) (fun p e s m below meth c ls X hr V hl => ?_)
  have hl : lv_has ls 4 [(0, .ref (bl_ad g a0)), (1, .int a1), (2, .int a2), (3, .int a3)] := hl
  unfold f_X9_entry at hf
  refine lv_iload_n X.1 X.2.1 dX9_entry_0 rfl (lv_at hl 2 rfl) ?_
  refine lv_if_lt (tgt := 23) X.1 X.2.1 dX9_entry_1 (by decide) (fun c1 => ?_) (fun c1 => ?_)
  · have hf := bl_ifp c1 hf
    refine lv_iconst (v := (-1)) X.1 X.2.1 dX9_entry_23 (by decide) ?_
    exact bl_reti X V hr hf dX9_entry_24
  · have hf := bl_ifn c1 hf
    refine lv_iload_n X.1 X.2.1 dX9_entry_4 rfl (lv_at hl 2 rfl) ?_
    refine lv_bipush (v := 16) X.1 X.2.1 dX9_entry_5 (by decide) ?_
    refine lv_iload_n X.1 X.2.1 dX9_entry_7 rfl (lv_at hl 1 rfl) ?_
    refine bl_mini X hl.1 mm_X9_243 ⟨Nat.le_of_ble_eq_true rfl, Nat.le_of_ble_eq_true rfl⟩ ⟨Nat.zero_le _, Nat.zero_le _⟩ dX9_entry_8 ?_
    refine lv_icmp_ge (tgt := 23) X.1 X.2.1 dX9_entry_11 (by decide) (fun c2 => ?_) (fun c2 => ?_)
    · have hf := bl_ifp c2 hf
      refine lv_iconst (v := (-1)) X.1 X.2.1 dX9_entry_23 (by decide) ?_
      exact bl_reti X V hr hf dX9_entry_24
    · have hf := bl_ifn c2 hf
      refine lv_iload_n X.1 X.2.1 dX9_entry_14 rfl (lv_at hl 3 rfl) ?_
      refine lv_if_lt (tgt := 23) X.1 X.2.1 dX9_entry_15 (by decide) (fun c3 => ?_) (fun c3 => ?_)
      · have hf := bl_ifp c3 hf
        refine lv_iconst (v := (-1)) X.1 X.2.1 dX9_entry_23 (by decide) ?_
        exact bl_reti X V hr hf dX9_entry_24
      · have hf := bl_ifn c3 hf
        refine lv_iload_n X.1 X.2.1 dX9_entry_18 rfl (lv_at hl 3 rfl) ?_
        refine lv_iconst (v := 3) X.1 X.2.1 dX9_entry_19 (by decide) ?_
        refine lv_icmp_lt (tgt := 25) X.1 X.2.1 dX9_entry_20 (by decide) (fun c4 => ?_) (fun c4 => ?_)
        · have hf := bl_ifp c4 hf
          refine lv_aload_n X.1 X.2.1 dX9_entry_25 rfl (lv_at hl 0 rfl) ?_
          refine lv_iload_n X.1 X.2.1 dX9_entry_26 rfl (lv_at hl 1 rfl) ?_
          refine lv_iconst (v := 1) X.1 X.2.1 dX9_entry_27 (by decide) ?_
          refine lv_isub X.1 X.2.1 dX9_entry_28 ?_
          refine lv_iload_n X.1 X.2.1 dX9_entry_29 rfl (lv_at hl 2 rfl) ?_
          refine lv_isub X.1 X.2.1 dX9_entry_30 ?_
          refine lv_bipush (v := 16) X.1 X.2.1 dX9_entry_31 (by decide) ?_
          refine lv_irem X.1 X.2.1 dX9_entry_33 (by decide) ?_
          refine lv_iconst (v := 3) X.1 X.2.1 dX9_entry_34 (by decide) ?_
          refine lv_imul X.1 X.2.1 dX9_entry_35 ?_
          refine lv_iload_n X.1 X.2.1 dX9_entry_36 rfl (lv_at hl 3 rfl) ?_
          refine lv_iadd X.1 X.2.1 dX9_entry_37 ?_
          obtain ⟨h5, hf⟩ := bl_gd_at hf
          refine bl_iald (k := (Int32.toNatClampNeg (((((a1 - 1) - a2) - ((a1 - 1) - a2) / 16 * 16) * 3) + a3))) X V ha0 h5 rfl dX9_entry_38 ?_
          exact bl_reti X V hr hf dX9_entry_39
        · have hf := bl_ifn c4 hf
          refine lv_iconst (v := (-1)) X.1 X.2.1 dX9_entry_23 (by decide) ?_
          exact bl_reti X V hr hf dX9_entry_24
set_option maxHeartbeats 4000000 in
set_option maxRecDepth 100000 in
theorem t_X9_book (l : Launch) (g : bl_Gp) (σ : bl_St) (a0 : Nat) (a1 : Int32) (a2 : Int32) (o : Int32 × bl_St) (ha0 : bl_sh[a0]? = some (9, 13)) (hf : f_X9_book σ a0 a1 a2 = some o) : bl_Ci l g yX9_book cX9_book 3 (Option.some Jvm.ClassFile.FieldType.int) (bl_rm 2 39) [.ref (bl_ad g a0), .int a1, .int a2] σ o := by
  refine bl_met (by decide) (Nat.le_of_ble_eq_true rfl) (fun p e s m below meth c ls X hr V hl => ?_)
  have hl : lv_has ls 3 [(0, .ref (bl_ad g a0)), (1, .int a1), (2, .int a2)] := hl
  unfold f_X9_book at hf
  refine lv_aload_n X.1 X.2.1 dX9_book_0 rfl (lv_at hl 0 rfl) ?_
  refine bl_getr X V ha0 fl_X9_36 rfl dX9_book_1 (fun h1 => ?_)
  refine bl_getr X V h1 fl_X9_233 rfl dX9_book_4 (fun h2 => ?_)
  refine lv_aload_n X.1 X.2.1 dX9_book_7 rfl (lv_at hl 0 rfl) ?_
  refine bl_getr X V ha0 fl_X9_36 rfl dX9_book_8 (fun h3 => ?_)
  refine bl_geti X V h3 fl_X9_224 dX9_book_11 ?_
  refine lv_aload_n X.1 X.2.1 dX9_book_14 rfl (lv_at hl 0 rfl) ?_
  refine bl_getr X V ha0 fl_X9_36 rfl dX9_book_15 (fun h4 => ?_)
  refine bl_geti X V h4 fl_X9_227 dX9_book_18 ?_
  refine lv_iadd X.1 X.2.1 dX9_book_21 ?_
  refine lv_iload_n X.1 X.2.1 dX9_book_22 rfl (lv_at hl 1 rfl) ?_
  refine lv_iload_n X.1 X.2.1 dX9_book_23 rfl (lv_at hl 2 rfl) ?_
  obtain ⟨r5, σ6, h7, hf⟩ := bl_bd_at hf
  refine bl_cSi (As := [.ref (bl_ad g (bl_R σ (bl_R σ a0 4) 13)), .int ((bl_I σ (bl_R σ a0 4) 11) + (bl_I σ (bl_R σ a0 4) 12)), .int a1, .int a2]) X V hl.1 ml_X9_236 mS_X9_entry (t_X9_entry l g σ (bl_R σ (bl_R σ a0 4) 13) ((bl_I σ (bl_R σ a0 4) 11) + (bl_I σ (bl_R σ a0 4) 12)) a1 a2 _ h2 h7) rfl rfl ⟨Nat.le_of_ble_eq_true rfl, Nat.le_of_ble_eq_true rfl⟩ rfl rfl (Nat.le_of_ble_eq_true rfl) ⟨Nat.zero_le _, Nat.zero_le _⟩ dX9_book_24 (fun H locs V => ?_)
  exact bl_reti X V hr hf dX9_book_27
set_option maxHeartbeats 4000000 in
set_option maxRecDepth 100000 in
theorem t_X9_ledger (l : Launch) (g : bl_Gp) (σ : bl_St) (a0 : Nat) (a1 : Int32) (a2 : Int32) (o : Int32 × bl_St) (ha0 : bl_sh[a0]? = some (9, 13)) (hf : f_X9_ledger σ a0 a1 a2 = some o) : bl_Ci l g yX9_ledger cX9_ledger 3 (Option.some Jvm.ClassFile.FieldType.int) (bl_rm 2 39) [.ref (bl_ad g a0), .int a1, .int a2] σ o := by
  refine bl_met (by decide) (Nat.le_of_ble_eq_true rfl) (fun p e s m below meth c ls X hr V hl => ?_)
  have hl : lv_has ls 3 [(0, .ref (bl_ad g a0)), (1, .int a1), (2, .int a2)] := hl
  unfold f_X9_ledger at hf
  refine lv_aload_n X.1 X.2.1 dX9_ledger_0 rfl (lv_at hl 0 rfl) ?_
  refine bl_getr X V ha0 fl_X9_36 rfl dX9_ledger_1 (fun h1 => ?_)
  refine bl_getr X V h1 fl_X9_240 rfl dX9_ledger_4 (fun h2 => ?_)
  refine lv_aload_n X.1 X.2.1 dX9_ledger_7 rfl (lv_at hl 0 rfl) ?_
  refine bl_getr X V ha0 fl_X9_36 rfl dX9_ledger_8 (fun h3 => ?_)
  refine bl_geti X V h3 fl_X9_190 dX9_ledger_11 ?_
  refine lv_iload_n X.1 X.2.1 dX9_ledger_14 rfl (lv_at hl 1 rfl) ?_
  refine lv_iload_n X.1 X.2.1 dX9_ledger_15 rfl (lv_at hl 2 rfl) ?_
  obtain ⟨r4, σ5, h6, hf⟩ := bl_bd_at hf
  refine bl_cSi (As := [.ref (bl_ad g (bl_R σ (bl_R σ a0 4) 14)), .int (bl_I σ (bl_R σ a0 4) 6), .int a1, .int a2]) X V hl.1 ml_X9_236 mS_X9_entry (t_X9_entry l g σ (bl_R σ (bl_R σ a0 4) 14) (bl_I σ (bl_R σ a0 4) 6) a1 a2 _ h2 h6) rfl rfl ⟨Nat.le_of_ble_eq_true rfl, Nat.le_of_ble_eq_true rfl⟩ rfl rfl (Nat.le_of_ble_eq_true rfl) ⟨Nat.zero_le _, Nat.zero_le _⟩ dX9_ledger_16 (fun H locs V => ?_)
  exact bl_reti X V hr hf dX9_ledger_19
set_option maxHeartbeats 4000000 in
set_option maxRecDepth 100000 in
theorem w_X9_commonDivisor_7 {p : Program} {l : Launch} {e : Env} {s : State} {m : MethodId} {below : List Frame} {meth : Method} {c : Code} {g : bl_Gp} {as : List Value} {out : Int32 × bl_St} (X : bl_Cx g p s m as.toArray meth c cX9_commonDivisor 6 RX9) (hr : meth.sig.returnType = (Option.some Jvm.ClassFile.FieldType.int)) (k7 : bl_St → Int32 → Int32 → Int32 → Option (Int32 × bl_St)) (hk7 : ∀ (σ : bl_St) (v2 : Int32) (v3 : Int32) (v4 : Int32), k7 σ v2 v3 v4 = some out → ∀ (H : Heap) (locs : List Loc) (ls : Array Slot), bl_V g s σ H locs → lv_has ls 6 [(2, .int v2), (3, .int v3), (4, .int v4)] → W p l e (bl_rm 1 15) s m as.toArray below meth c H locs 0 0 (bl_Qi below g s as out) (F0 m 7 ls [])) : ∀ (σ : bl_St) (v2 : Int32) (v3 : Int32) (v4 : Int32), (b_X9_commonDivisor_7 k7) σ v2 v3 v4 = some out → ∀ (H : Heap) (locs : List Loc) (ls : Array Slot), bl_V g s σ H locs → lv_has ls 6 [(2, .int v2), (3, .int v3), (4, .int v4)] → W p l e (bl_rm 1 15) s m as.toArray below meth c H locs 0 0 (bl_Qi below g s as out) (F0 m 7 ls []) := by
  intro σ v2 v3 v4  hf H locs ls V hl
  unfold b_X9_commonDivisor_7 at hf
  refine lv_iload X.1 X.2.1 dX9_commonDivisor_7 (lv_at hl 2 rfl) ?_
  refine lv_bipush (v := 64) X.1 X.2.1 dX9_commonDivisor_9 (by decide) ?_
  refine lv_icmp_ge (tgt := 34) X.1 X.2.1 dX9_commonDivisor_11 (by decide) (fun c1 => ?_) (fun c1 => ?_)
  · have hf := bl_ifp c1 hf
    refine lv_iconst (v := 1) X.1 X.2.1 dX9_commonDivisor_34 (by decide) ?_
    refine lv_iload_n X.1 X.2.1 dX9_commonDivisor_35 rfl (lv_at hl 0 rfl) ?_
    refine bl_maxi X hl.1 mm_X9_376 ⟨Nat.le_of_ble_eq_true rfl, Nat.le_of_ble_eq_true rfl⟩ ⟨Nat.zero_le _, Nat.zero_le _⟩ dX9_commonDivisor_36 ?_
    exact bl_reti X V hr hf dX9_commonDivisor_39
  · have hf := bl_ifn c1 hf
    refine lv_iload_n X.1 X.2.1 dX9_commonDivisor_14 rfl (lv_at hl 1 rfl) ?_
    refine lv_if_eq (tgt := 34) X.1 X.2.1 dX9_commonDivisor_15 (by decide) (fun c2 => ?_) (fun c2 => ?_)
    · have hf := bl_ifp c2 hf
      refine lv_iconst (v := 1) X.1 X.2.1 dX9_commonDivisor_34 (by decide) ?_
      refine lv_iload_n X.1 X.2.1 dX9_commonDivisor_35 rfl (lv_at hl 0 rfl) ?_
      refine bl_maxi X hl.1 mm_X9_376 ⟨Nat.le_of_ble_eq_true rfl, Nat.le_of_ble_eq_true rfl⟩ ⟨Nat.zero_le _, Nat.zero_le _⟩ dX9_commonDivisor_36 ?_
      exact bl_reti X V hr hf dX9_commonDivisor_39
    · have hf := bl_ifn c2 hf
      refine lv_iload_n X.1 X.2.1 dX9_commonDivisor_18 rfl (lv_at hl 0 rfl) ?_
      refine lv_iload_n X.1 X.2.1 dX9_commonDivisor_19 rfl (lv_at hl 1 rfl) ?_
      obtain ⟨h3, hf⟩ := bl_gd_at hf
      refine lv_irem X.1 X.2.1 dX9_commonDivisor_20 (by simpa using h3) ?_
      refine lv_topi (fun x4 e5 => ?_)
      have hf := bl_let_at e5 hf
      refine lv_istore (lv' := [(5, .int x4), (2, .int v2), (3, .int v3), (4, .int v4)]) X.1 X.2.1 dX9_commonDivisor_21 hl (by decide) rfl (fun ls hl => ?_)
      refine lv_iload_n X.1 X.2.1 dX9_commonDivisor_23 rfl (lv_at hl 2 rfl) ?_
      refine lv_istore_n (lv' := [(2, .int v3), (5, .int x4), (3, .int v3), (4, .int v4)]) X.1 X.2.1 dX9_commonDivisor_24 rfl hl (by decide) rfl (fun ls hl => ?_)
      refine lv_iload X.1 X.2.1 dX9_commonDivisor_25 (lv_at hl 1 rfl) ?_
      refine lv_istore_n (lv' := [(3, .int x4), (2, .int v3), (5, .int x4), (4, .int v4)]) X.1 X.2.1 dX9_commonDivisor_27 rfl hl (by decide) rfl (fun ls hl => ?_)
      obtain ⟨x6, e7⟩ : ∃ z : Int32, z = v4 + 1 := ⟨_, rfl⟩
      have hf := bl_let_at e7 hf
      refine lv_iinc (v := x6) (lv' := [(4, .int x6), (3, .int x4), (2, .int v3), (5, .int x4)]) X.1 X.2.1 dX9_commonDivisor_28 hl (k := 3) rfl (by rw [e7]; rfl) (by decide) rfl (fun ls hl => ?_)
      refine lv_goto (tgt := 7) X.1 X.2.1 dX9_commonDivisor_31 (by decide) ?_
      exact hk7 σ v3 x4 x6  hf _ _ _ V (lv_sub hl [2, 1, 0] rfl)
theorem l_X9_commonDivisor_7 {p : Program} {l : Launch} {e : Env} {s : State} {m : MethodId} {below : List Frame} {meth : Method} {c : Code} {g : bl_Gp} {as : List Value} {out : Int32 × bl_St} (X : bl_Cx g p s m as.toArray meth c cX9_commonDivisor 6 RX9) (hr : meth.sig.returnType = (Option.some Jvm.ClassFile.FieldType.int)) (n : Nat) : ∀ (σ : bl_St) (v2 : Int32) (v3 : Int32) (v4 : Int32), (bl_fx (fun _ _ _ _ => none) (b_X9_commonDivisor_7 ) n) σ v2 v3 v4 = some out → ∀ (H : Heap) (locs : List Loc) (ls : Array Slot), bl_V g s σ H locs → lv_has ls 6 [(2, .int v2), (3, .int v3), (4, .int v4)] → W p l e (bl_rm 1 15) s m as.toArray below meth c H locs 0 0 (bl_Qi below g s as out) (F0 m 7 ls []) := by
  induction n with
  | zero =>
    intro σ v2 v3 v4  hf H locs ls V hl
    cases hf
  | succ n ih => exact w_X9_commonDivisor_7 X hr  _ ih
set_option maxHeartbeats 4000000 in
set_option maxRecDepth 100000 in
theorem t_X9_commonDivisor (l : Launch) (g : bl_Gp) (σ : bl_St) (a0 : Int32) (a1 : Int32) (o : Int32 × bl_St) (hf : f_X9_commonDivisor σ a0 a1 = some o) : bl_Ci l g yX9_commonDivisor cX9_commonDivisor 6 (Option.some Jvm.ClassFile.FieldType.int) (bl_rm 1 15) [.int a0, .int a1] σ o := by
  refine bl_met (by decide) (Nat.le_of_ble_eq_true rfl) (fun p e s m below meth c ls X hr V hl => ?_)
  have hl : lv_has ls 6 [(0, .int a0), (1, .int a1)] := hl
  unfold f_X9_commonDivisor at hf
  refine lv_iload_n X.1 X.2.1 dX9_commonDivisor_0 rfl (lv_at hl 0 rfl) ?_
  refine lv_istore_n (lv' := [(2, .int a0), (0, .int a0), (1, .int a1)]) X.1 X.2.1 dX9_commonDivisor_1 rfl hl (by decide) rfl (fun ls hl => ?_)
  refine lv_iload_n X.1 X.2.1 dX9_commonDivisor_2 rfl (lv_at hl 2 rfl) ?_
  refine lv_istore_n (lv' := [(3, .int a1), (2, .int a0), (0, .int a0), (1, .int a1)]) X.1 X.2.1 dX9_commonDivisor_3 rfl hl (by decide) rfl (fun ls hl => ?_)
  refine lv_iconst (v := 0) X.1 X.2.1 dX9_commonDivisor_4 (by decide) ?_
  refine lv_istore (lv' := [(4, .int 0), (3, .int a1), (2, .int a0), (0, .int a0), (1, .int a1)]) X.1 X.2.1 dX9_commonDivisor_5 hl (by decide) rfl (fun ls hl => ?_)
  exact l_X9_commonDivisor_7 X hr  bl_fu σ a0 a1 0  hf _ _ _ V (lv_sub hl [2, 1, 0] rfl)
set_option maxHeartbeats 4000000 in
set_option maxRecDepth 100000 in
theorem w_X9_mean_24 {p : Program} {l : Launch} {e : Env} {s : State} {m : MethodId} {below : List Frame} {meth : Method} {c : Code} {g : bl_Gp} {as : List Value} {out : Int32 × bl_St} (X : bl_Cx g p s m as.toArray meth c cX9_mean 5 RX9) (hr : meth.sig.returnType = (Option.some Jvm.ClassFile.FieldType.int)) (k24 : bl_St → Nat → Int32 → Int32 → Int32 → Int32 → Option (Int32 × bl_St)) (hk24 : ∀ (σ : bl_St) (v0 : Nat) (v1 : Int32) (v2 : Int32) (v3 : Int32) (v4 : Int32), bl_sh[v0]? = some (9, 13) → k24 σ v0 v1 v2 v3 v4 = some out → ∀ (H : Heap) (locs : List Loc) (ls : Array Slot), bl_V g s σ H locs → lv_has ls 5 [(0, .ref (bl_ad g v0)), (1, .int v1), (2, .int v2), (3, .int v3), (4, .int v4)] → W p l e (bl_rm 2 40) s m as.toArray below meth c H locs 0 0 (bl_Qi below g s as out) (F0 m 24 ls [])) : ∀ (σ : bl_St) (v0 : Nat) (v1 : Int32) (v2 : Int32) (v3 : Int32) (v4 : Int32), bl_sh[v0]? = some (9, 13) → (b_X9_mean_24 k24) σ v0 v1 v2 v3 v4 = some out → ∀ (H : Heap) (locs : List Loc) (ls : Array Slot), bl_V g s σ H locs → lv_has ls 5 [(0, .ref (bl_ad g v0)), (1, .int v1), (2, .int v2), (3, .int v3), (4, .int v4)] → W p l e (bl_rm 2 40) s m as.toArray below meth c H locs 0 0 (bl_Qi below g s as out) (F0 m 24 ls []) := by
  intro σ v0 v1 v2 v3 v4 hv0 hf H locs ls V hl
  unfold b_X9_mean_24 at hf
  refine lv_iload X.1 X.2.1 dX9_mean_24 (lv_at hl 4 rfl) ?_
  refine lv_iload_n X.1 X.2.1 dX9_mean_26 rfl (lv_at hl 2 rfl) ?_
  refine lv_icmp_ge (tgt := 59) X.1 X.2.1 dX9_mean_27 (by decide) (fun c1 => ?_) (fun c1 => ?_)
  · have hf := bl_ifp c1 hf
    refine lv_iload_n X.1 X.2.1 dX9_mean_59 rfl (lv_at hl 3 rfl) ?_
    refine lv_iload_n X.1 X.2.1 dX9_mean_60 rfl (lv_at hl 2 rfl) ?_
    obtain ⟨r2, σ3, h4, hf⟩ := bl_bd_at hf
    refine bl_cSi (As := [.int v3, .int v2]) X V hl.1 ml_X9_248 mS_X9_commonDivisor (t_X9_commonDivisor l g σ v3 v2 _  h4) rfl rfl ⟨Nat.le_of_ble_eq_true rfl, Nat.le_of_ble_eq_true rfl⟩ rfl rfl (Nat.le_of_ble_eq_true rfl) ⟨Nat.zero_le _, Nat.zero_le _⟩ dX9_mean_61 (fun H locs V => ?_)
    refine lv_istore (lv' := [(4, .int r2), (0, .ref (bl_ad g v0)), (1, .int v1), (2, .int v2), (3, .int v3)]) X.1 X.2.1 dX9_mean_64 hl (by decide) rfl (fun ls hl => ?_)
    refine lv_iload_n X.1 X.2.1 dX9_mean_66 rfl (lv_at hl 2 rfl) ?_
    refine lv_if_eq (tgt := 74) X.1 X.2.1 dX9_mean_67 (by decide) (fun c5 => ?_) (fun c5 => ?_)
    · have hf := bl_ifp c5 hf
      refine lv_iload_n X.1 X.2.1 dX9_mean_74 rfl (lv_at hl 4 rfl) ?_
      refine lv_iload X.1 X.2.1 dX9_mean_75 (lv_at hl 0 rfl) ?_
      obtain ⟨h6, hf⟩ := bl_gd_at hf
      refine lv_idiv X.1 X.2.1 dX9_mean_77 (by simpa using h6) ?_
      exact bl_reti X V hr hf dX9_mean_78
    · have hf := bl_ifn c5 hf
      refine lv_iload_n X.1 X.2.1 dX9_mean_70 rfl (lv_at hl 3 rfl) ?_
      refine lv_goto (tgt := 75) X.1 X.2.1 dX9_mean_71 (by decide) ?_
      refine lv_iload X.1 X.2.1 dX9_mean_75 (lv_at hl 0 rfl) ?_
      obtain ⟨h7, hf⟩ := bl_gd_at hf
      refine lv_idiv X.1 X.2.1 dX9_mean_77 (by simpa using h7) ?_
      exact bl_reti X V hr hf dX9_mean_78
  · have hf := bl_ifn c1 hf
    refine lv_iload_n X.1 X.2.1 dX9_mean_30 rfl (lv_at hl 3 rfl) ?_
    refine lv_aload_n X.1 X.2.1 dX9_mean_31 rfl (lv_at hl 0 rfl) ?_
    refine bl_getr X V hv0 fl_X9_36 rfl dX9_mean_32 (fun h8 => ?_)
    refine bl_getr X V h8 fl_X9_240 rfl dX9_mean_35 (fun h9 => ?_)
    refine lv_aload_n X.1 X.2.1 dX9_mean_38 rfl (lv_at hl 0 rfl) ?_
    refine bl_getr X V hv0 fl_X9_36 rfl dX9_mean_39 (fun h10 => ?_)
    refine bl_geti X V h10 fl_X9_190 dX9_mean_42 ?_
    refine lv_iload X.1 X.2.1 dX9_mean_45 (lv_at hl 4 rfl) ?_
    refine lv_iconst (v := 1) X.1 X.2.1 dX9_mean_47 (by decide) ?_
    obtain ⟨r11, σ12, h13, hf⟩ := bl_bd_at hf
    refine bl_cSi (As := [.ref (bl_ad g (bl_R σ (bl_R σ v0 4) 14)), .int (bl_I σ (bl_R σ v0 4) 6), .int v4, .int 1]) X V hl.1 ml_X9_236 mS_X9_entry (t_X9_entry l g σ (bl_R σ (bl_R σ v0 4) 14) (bl_I σ (bl_R σ v0 4) 6) v4 1 _ h9 h13) rfl rfl ⟨Nat.le_of_ble_eq_true rfl, Nat.le_of_ble_eq_true rfl⟩ rfl rfl (Nat.le_of_ble_eq_true rfl) ⟨Nat.zero_le _, Nat.zero_le _⟩ dX9_mean_48 (fun H locs V => ?_)
    refine lv_iadd X.1 X.2.1 dX9_mean_51 ?_
    refine lv_topi (fun x14 e15 => ?_)
    have hf := bl_let_at e15 hf
    refine lv_istore_n (lv' := [(3, .int x14), (0, .ref (bl_ad g v0)), (1, .int v1), (2, .int v2), (4, .int v4)]) X.1 X.2.1 dX9_mean_52 rfl hl (by decide) rfl (fun ls hl => ?_)
    obtain ⟨x16, e17⟩ : ∃ z : Int32, z = v4 + 1 := ⟨_, rfl⟩
    have hf := bl_let_at e17 hf
    refine lv_iinc (v := x16) (lv' := [(4, .int x16), (3, .int x14), (0, .ref (bl_ad g v0)), (1, .int v1), (2, .int v2)]) X.1 X.2.1 dX9_mean_53 hl (k := 4) rfl (by rw [e17]; rfl) (by decide) rfl (fun ls hl => ?_)
    refine lv_goto (tgt := 24) X.1 X.2.1 dX9_mean_56 (by decide) ?_
    exact hk24 σ12 v0 v1 v2 x14 x16 hv0 hf _ _ _ V (lv_sub hl [2, 3, 4, 1, 0] rfl)
theorem l_X9_mean_24 {p : Program} {l : Launch} {e : Env} {s : State} {m : MethodId} {below : List Frame} {meth : Method} {c : Code} {g : bl_Gp} {as : List Value} {out : Int32 × bl_St} (X : bl_Cx g p s m as.toArray meth c cX9_mean 5 RX9) (hr : meth.sig.returnType = (Option.some Jvm.ClassFile.FieldType.int)) (n : Nat) : ∀ (σ : bl_St) (v0 : Nat) (v1 : Int32) (v2 : Int32) (v3 : Int32) (v4 : Int32), bl_sh[v0]? = some (9, 13) → (bl_fx (fun _ _ _ _ _ _ => none) (b_X9_mean_24 ) n) σ v0 v1 v2 v3 v4 = some out → ∀ (H : Heap) (locs : List Loc) (ls : Array Slot), bl_V g s σ H locs → lv_has ls 5 [(0, .ref (bl_ad g v0)), (1, .int v1), (2, .int v2), (3, .int v3), (4, .int v4)] → W p l e (bl_rm 2 40) s m as.toArray below meth c H locs 0 0 (bl_Qi below g s as out) (F0 m 24 ls []) := by
  induction n with
  | zero =>
    intro σ v0 v1 v2 v3 v4 hv0 hf H locs ls V hl
    cases hf
  | succ n ih => exact w_X9_mean_24 X hr  _ ih
set_option maxHeartbeats 4000000 in
set_option maxRecDepth 100000 in
theorem t_X9_mean (l : Launch) (g : bl_Gp) (σ : bl_St) (a0 : Nat) (a1 : Int32) (o : Int32 × bl_St) (ha0 : bl_sh[a0]? = some (9, 13)) (hf : f_X9_mean σ a0 a1 = some o) : bl_Ci l g yX9_mean cX9_mean 5 (Option.some Jvm.ClassFile.FieldType.int) (bl_rm 2 40) [.ref (bl_ad g a0), .int a1] σ o := by
  refine bl_met (by decide) (Nat.le_of_ble_eq_true rfl) (fun p e s m below meth c ls X hr V hl => ?_)
  have hl : lv_has ls 5 [(0, .ref (bl_ad g a0)), (1, .int a1)] := hl
  unfold f_X9_mean at hf
  refine lv_bipush (v := 16) X.1 X.2.1 dX9_mean_0 (by decide) ?_
  refine lv_aload_n X.1 X.2.1 dX9_mean_2 rfl (lv_at hl 0 rfl) ?_
  refine bl_getr X V ha0 fl_X9_36 rfl dX9_mean_3 (fun h18 => ?_)
  refine bl_geti X V h18 fl_X9_190 dX9_mean_6 ?_
  refine bl_mini X hl.1 mm_X9_243 ⟨Nat.le_of_ble_eq_true rfl, Nat.le_of_ble_eq_true rfl⟩ ⟨Nat.zero_le _, Nat.zero_le _⟩ dX9_mean_9 ?_
  refine lv_topi (fun x19 e20 => ?_)
  have hf := bl_let_at e20 hf
  refine lv_istore_n (lv' := [(2, .int x19), (0, .ref (bl_ad g a0)), (1, .int a1)]) X.1 X.2.1 dX9_mean_12 rfl hl (by decide) rfl (fun ls hl => ?_)
  refine lv_iload_n X.1 X.2.1 dX9_mean_13 rfl (lv_at hl 0 rfl) ?_
  refine lv_if_gt (tgt := 19) X.1 X.2.1 dX9_mean_14 (by decide) (fun c21 => ?_) (fun c21 => ?_)
  · have hf := bl_ifp c21 hf
    refine lv_iconst (v := 0) X.1 X.2.1 dX9_mean_19 (by decide) ?_
    refine lv_istore_n (lv' := [(3, .int 0), (2, .int x19), (0, .ref (bl_ad g a0)), (1, .int a1)]) X.1 X.2.1 dX9_mean_20 rfl hl (by decide) rfl (fun ls hl => ?_)
    refine lv_iconst (v := 0) X.1 X.2.1 dX9_mean_21 (by decide) ?_
    refine lv_istore (lv' := [(4, .int 0), (3, .int 0), (2, .int x19), (0, .ref (bl_ad g a0)), (1, .int a1)]) X.1 X.2.1 dX9_mean_22 hl (by decide) rfl (fun ls hl => ?_)
    exact l_X9_mean_24 X hr  bl_fu σ a0 a1 x19 0 0 ha0 hf _ _ _ V (lv_sub hl [3, 4, 2, 1, 0] rfl)
  · have hf := bl_ifn c21 hf
    refine lv_iconst (v := (-1)) X.1 X.2.1 dX9_mean_17 (by decide) ?_
    exact bl_reti X V hr hf dX9_mean_18
set_option maxHeartbeats 4000000 in
set_option maxRecDepth 100000 in
theorem t_X9_isAsked (l : Launch) (g : bl_Gp) (σ : bl_St) (a0 : Nat) (a1 : Int32) (a2 : Int32) (o : Int32 × bl_St) (ha0 : bl_sh[a0]? = some (9, 13)) (hf : f_X9_isAsked σ a0 a1 a2 = some o) : bl_Ci l g yX9_isAsked cX9_isAsked 3 (Option.some Jvm.ClassFile.FieldType.boolean) (bl_rm 1 21) [.ref (bl_ad g a0), .int a1, .int a2] σ o := by
  refine bl_met (by decide) (Nat.le_of_ble_eq_true rfl) (fun p e s m below meth c ls X hr V hl => ?_)
  have hl : lv_has ls 3 [(0, .ref (bl_ad g a0)), (1, .int a1), (2, .int a2)] := hl
  unfold f_X9_isAsked at hf
  refine lv_iload_n X.1 X.2.1 dX9_isAsked_0 rfl (lv_at hl 1 rfl) ?_
  refine lv_if_lt (tgt := 25) X.1 X.2.1 dX9_isAsked_1 (by decide) (fun c1 => ?_) (fun c1 => ?_)
  · have hf := bl_ifp c1 hf
    refine lv_iconst (v := 0) X.1 X.2.1 dX9_isAsked_25 (by decide) ?_
    exact bl_retz X V hr (by decide) hf dX9_isAsked_26
  · have hf := bl_ifn c1 hf
    refine lv_iload_n X.1 X.2.1 dX9_isAsked_4 rfl (lv_at hl 1 rfl) ?_
    refine lv_bipush (v := 20) X.1 X.2.1 dX9_isAsked_5 (by decide) ?_
    refine lv_icmp_gt (tgt := 25) X.1 X.2.1 dX9_isAsked_7 (by decide) (fun c2 => ?_) (fun c2 => ?_)
    · have hf := bl_ifp c2 hf
      refine lv_iconst (v := 0) X.1 X.2.1 dX9_isAsked_25 (by decide) ?_
      exact bl_retz X V hr (by decide) hf dX9_isAsked_26
    · have hf := bl_ifn c2 hf
      refine lv_aload_n X.1 X.2.1 dX9_isAsked_10 rfl (lv_at hl 0 rfl) ?_
      refine bl_getr X V ha0 fl_X9_26 rfl dX9_isAsked_11 (fun h3 => ?_)
      refine lv_iload_n X.1 X.2.1 dX9_isAsked_14 rfl (lv_at hl 2 rfl) ?_
      obtain ⟨r4, σ5, h6, hf⟩ := bl_bd_at hf
      refine bl_cVi (As := [.int a2]) X V hl.1 h3 rfl ml_X9_114 mV_X8_hasClass (t_X8_hasClass l g σ (bl_R σ a0 2) a2 _ h3 h6) rfl rfl ⟨Nat.le_of_ble_eq_true rfl, Nat.le_of_ble_eq_true rfl⟩ rfl rfl (Nat.le_of_ble_eq_true rfl) ⟨Nat.zero_le _, Nat.zero_le _⟩ dX9_isAsked_15 (fun H locs V => ?_)
      refine lv_if_eq (tgt := 25) X.1 X.2.1 dX9_isAsked_18 (by decide) (fun c7 => ?_) (fun c7 => ?_)
      · have hf := bl_ifp c7 hf
        refine lv_iconst (v := 0) X.1 X.2.1 dX9_isAsked_25 (by decide) ?_
        exact bl_retz X V hr (by decide) hf dX9_isAsked_26
      · have hf := bl_ifn c7 hf
        refine lv_iconst (v := 1) X.1 X.2.1 dX9_isAsked_21 (by decide) ?_
        refine lv_goto (tgt := 26) X.1 X.2.1 dX9_isAsked_22 (by decide) ?_
        exact bl_retz X V hr (by decide) hf dX9_isAsked_26
set_option maxHeartbeats 4000000 in
set_option maxRecDepth 100000 in
theorem t_X9_cost (l : Launch) (g : bl_Gp) (σ : bl_St) (a0 : Nat) (a1 : Int32) (a2 : Int32) (o : Int64 × bl_St) (ha0 : bl_sh[a0]? = some (9, 13)) (hf : f_X9_cost σ a0 a1 a2 = some o) : bl_Cl l g yX9_cost cX9_cost 3 (Option.some Jvm.ClassFile.FieldType.long) (bl_rm 5 133) [.ref (bl_ad g a0), .int a1, .int a2] σ o := by
  refine bl_met (by decide) (Nat.le_of_ble_eq_true rfl) (fun p e s m below meth c ls X hr V hl => ?_)
  have hl : lv_has ls 3 [(0, .ref (bl_ad g a0)), (1, .int a1), (2, .int a2)] := hl
  unfold f_X9_cost at hf
  refine lv_aload_n X.1 X.2.1 dX9_cost_0 rfl (lv_at hl 0 rfl) ?_
  refine lv_iload_n X.1 X.2.1 dX9_cost_1 rfl (lv_at hl 1 rfl) ?_
  refine lv_iload_n X.1 X.2.1 dX9_cost_2 rfl (lv_at hl 2 rfl) ?_
  obtain ⟨r1, σ2, h3, hf⟩ := bl_bd_at hf
  refine bl_cVi (As := [.int a1, .int a2]) X V hl.1 ha0 rfl ml_X9_251 mV_X9_isAsked (t_X9_isAsked l g σ a0 a1 a2 _ ha0 h3) rfl rfl ⟨Nat.le_of_ble_eq_true rfl, Nat.le_of_ble_eq_true rfl⟩ rfl rfl (Nat.le_of_ble_eq_true rfl) ⟨Nat.zero_le _, Nat.zero_le _⟩ dX9_cost_3 (fun H locs V => ?_)
  refine lv_if_ne (tgt := 13) X.1 X.2.1 dX9_cost_6 (by decide) (fun c4 => ?_) (fun c4 => ?_)
  · have hf := bl_ifn c4 hf
    refine lv_aload_n X.1 X.2.1 dX9_cost_13 rfl (lv_at hl 0 rfl) ?_
    refine bl_getr X V ha0 fl_X9_55 rfl dX9_cost_14 (fun h5 => ?_)
    refine lv_iload_n X.1 X.2.1 dX9_cost_17 rfl (lv_at hl 1 rfl) ?_
    refine lv_iload_n X.1 X.2.1 dX9_cost_18 rfl (lv_at hl 2 rfl) ?_
    obtain ⟨r6, σ7, h8, hf⟩ := bl_bd_at hf
    refine bl_cVl (As := [.int a1, .int a2]) X V hl.1 h5 rfl ml_X9_256 mV_X4_costOf (t_X4_costOf l g σ2 (bl_R σ2 a0 7) a1 a2 _ h5 h8) rfl rfl ⟨Nat.le_of_ble_eq_true rfl, Nat.le_of_ble_eq_true rfl⟩ rfl rfl (Nat.le_of_ble_eq_true rfl) ⟨Nat.zero_le _, Nat.zero_le _⟩ dX9_cost_19 (fun H locs V => ?_)
    exact bl_retl X V hr hf dX9_cost_22
  · have hf := bl_ifp c4 hf
    refine lv_ldc2 (v := (-1)) X.1 X.2.1 X.2.2.2.1 (X.2.2.2.2.1 _ kl_X9_254) dX9_cost_9 ?_
    exact bl_retl X V hr hf dX9_cost_12
set_option maxHeartbeats 4000000 in
set_option maxRecDepth 100000 in
theorem t_X9_guards (l : Launch) (g : bl_Gp) (σ : bl_St) (a0 : Nat) (a1 : Int32) (a2 : Int32) (o : Int32 × bl_St) (ha0 : bl_sh[a0]? = some (9, 13)) (hf : f_X9_guards σ a0 a1 a2 = some o) : bl_Ci l g yX9_guards cX9_guards 3 (Option.some Jvm.ClassFile.FieldType.int) (bl_rm 4 111) [.ref (bl_ad g a0), .int a1, .int a2] σ o := by
  refine bl_met (by decide) (Nat.le_of_ble_eq_true rfl) (fun p e s m below meth c ls X hr V hl => ?_)
  have hl : lv_has ls 3 [(0, .ref (bl_ad g a0)), (1, .int a1), (2, .int a2)] := hl
  unfold f_X9_guards at hf
  refine lv_aload_n X.1 X.2.1 dX9_guards_0 rfl (lv_at hl 0 rfl) ?_
  refine lv_iload_n X.1 X.2.1 dX9_guards_1 rfl (lv_at hl 1 rfl) ?_
  refine lv_iload_n X.1 X.2.1 dX9_guards_2 rfl (lv_at hl 2 rfl) ?_
  obtain ⟨r1, σ2, h3, hf⟩ := bl_bd_at hf
  refine bl_cVi (As := [.int a1, .int a2]) X V hl.1 ha0 rfl ml_X9_251 mV_X9_isAsked (t_X9_isAsked l g σ a0 a1 a2 _ ha0 h3) rfl rfl ⟨Nat.le_of_ble_eq_true rfl, Nat.le_of_ble_eq_true rfl⟩ rfl rfl (Nat.le_of_ble_eq_true rfl) ⟨Nat.zero_le _, Nat.zero_le _⟩ dX9_guards_3 (fun H locs V => ?_)
  refine lv_if_ne (tgt := 11) X.1 X.2.1 dX9_guards_6 (by decide) (fun c4 => ?_) (fun c4 => ?_)
  · have hf := bl_ifn c4 hf
    refine lv_iload_n X.1 X.2.1 dX9_guards_11 rfl (lv_at hl 1 rfl) ?_
    refine lv_if_ne (tgt := 17) X.1 X.2.1 dX9_guards_12 (by decide) (fun c5 => ?_) (fun c5 => ?_)
    · have hf := bl_ifn c5 hf
      refine lv_aload_n X.1 X.2.1 dX9_guards_17 rfl (lv_at hl 0 rfl) ?_
      refine bl_getr X V ha0 fl_X9_55 rfl dX9_guards_18 (fun h6 => ?_)
      refine lv_iload_n X.1 X.2.1 dX9_guards_21 rfl (lv_at hl 1 rfl) ?_
      refine lv_iconst (v := 1) X.1 X.2.1 dX9_guards_22 (by decide) ?_
      refine lv_isub X.1 X.2.1 dX9_guards_23 ?_
      obtain ⟨r7, σ8, h9, hf⟩ := bl_bd_at hf
      refine bl_cVv (As := [.int (a1 - 1)]) X V hl.1 h6 rfl ml_X9_260 mV_X4_learn (t_X4_learn l g σ2 (bl_R σ2 a0 7) (a1 - 1) _ h6 h9) rfl rfl ⟨Nat.le_of_ble_eq_true rfl, Nat.le_of_ble_eq_true rfl⟩ rfl rfl (Nat.le_of_ble_eq_true rfl) ⟨Nat.zero_le _, Nat.zero_le _⟩ dX9_guards_24 (fun H locs V => ?_)
      refine lv_aload_n X.1 X.2.1 dX9_guards_27 rfl (lv_at hl 0 rfl) ?_
      refine bl_getr X V ha0 fl_X9_55 rfl dX9_guards_28 (fun h10 => ?_)
      refine lv_iload_n X.1 X.2.1 dX9_guards_31 rfl (lv_at hl 1 rfl) ?_
      refine lv_iload_n X.1 X.2.1 dX9_guards_32 rfl (lv_at hl 2 rfl) ?_
      obtain ⟨r11, σ12, h13, hf⟩ := bl_bd_at hf
      refine bl_cVi (As := [.int a1, .int a2]) X V hl.1 h10 rfl ml_X9_263 mV_X4_buys (t_X4_buys l g σ8 (bl_R σ8 a0 7) a1 a2 _ h10 h13) rfl rfl ⟨Nat.le_of_ble_eq_true rfl, Nat.le_of_ble_eq_true rfl⟩ rfl rfl (Nat.le_of_ble_eq_true rfl) ⟨Nat.zero_le _, Nat.zero_le _⟩ dX9_guards_33 (fun H locs V => ?_)
      refine lv_if_eq (tgt := 43) X.1 X.2.1 dX9_guards_36 (by decide) (fun c14 => ?_) (fun c14 => ?_)
      · have hf := bl_ifp c14 hf
        refine lv_iconst (v := 0) X.1 X.2.1 dX9_guards_43 (by decide) ?_
        exact bl_reti X V hr hf dX9_guards_44
      · have hf := bl_ifn c14 hf
        refine lv_iconst (v := 1) X.1 X.2.1 dX9_guards_39 (by decide) ?_
        refine lv_goto (tgt := 44) X.1 X.2.1 dX9_guards_40 (by decide) ?_
        exact bl_reti X V hr hf dX9_guards_44
    · have hf := bl_ifp c5 hf
      refine lv_iconst (v := 0) X.1 X.2.1 dX9_guards_15 (by decide) ?_
      exact bl_reti X V hr hf dX9_guards_16
  · have hf := bl_ifp c4 hf
    refine lv_iconst (v := (-1)) X.1 X.2.1 dX9_guards_9 (by decide) ?_
    exact bl_reti X V hr hf dX9_guards_10
set_option maxHeartbeats 4000000 in
set_option maxRecDepth 100000 in
theorem t_X9_isState (l : Launch) (g : bl_Gp) (σ : bl_St) (a0 : Nat) (a1 : Int32) (a2 : Int32) (a3 : Int32) (a4 : Int32) (o : Int32 × bl_St) (ha0 : bl_sh[a0]? = some (9, 13)) (hf : f_X9_isState σ a0 a1 a2 a3 a4 = some o) : bl_Ci l g yX9_isState cX9_isState 5 (Option.some Jvm.ClassFile.FieldType.boolean) (bl_rm 2 43) [.ref (bl_ad g a0), .int a1, .int a2, .int a3, .int a4] σ o := by
  refine bl_met (by decide) (Nat.le_of_ble_eq_true rfl) (fun p e s m below meth c ls X hr V hl => ?_)
  have hl : lv_has ls 5 [(0, .ref (bl_ad g a0)), (1, .int a1), (2, .int a2), (3, .int a3), (4, .int a4)] := hl
  unfold f_X9_isState at hf
  refine lv_iload_n X.1 X.2.1 dX9_isState_0 rfl (lv_at hl 1 rfl) ?_
  refine lv_if_le (tgt := 43) X.1 X.2.1 dX9_isState_1 (by decide) (fun c1 => ?_) (fun c1 => ?_)
  · have hf := bl_ifp c1 hf
    refine lv_iconst (v := 0) X.1 X.2.1 dX9_isState_43 (by decide) ?_
    exact bl_retz X V hr (by decide) hf dX9_isState_44
  · have hf := bl_ifn c1 hf
    refine lv_aload_n X.1 X.2.1 dX9_isState_4 rfl (lv_at hl 0 rfl) ?_
    refine lv_iload_n X.1 X.2.1 dX9_isState_5 rfl (lv_at hl 1 rfl) ?_
    refine lv_iload_n X.1 X.2.1 dX9_isState_6 rfl (lv_at hl 2 rfl) ?_
    obtain ⟨r2, σ3, h4, hf⟩ := bl_bd_at hf
    refine bl_cVi (As := [.int a1, .int a2]) X V hl.1 ha0 rfl ml_X9_251 mV_X9_isAsked (t_X9_isAsked l g σ a0 a1 a2 _ ha0 h4) rfl rfl ⟨Nat.le_of_ble_eq_true rfl, Nat.le_of_ble_eq_true rfl⟩ rfl rfl (Nat.le_of_ble_eq_true rfl) ⟨Nat.zero_le _, Nat.zero_le _⟩ dX9_isState_7 (fun H locs V => ?_)
    refine lv_if_eq (tgt := 43) X.1 X.2.1 dX9_isState_10 (by decide) (fun c5 => ?_) (fun c5 => ?_)
    · have hf := bl_ifp c5 hf
      refine lv_iconst (v := 0) X.1 X.2.1 dX9_isState_43 (by decide) ?_
      exact bl_retz X V hr (by decide) hf dX9_isState_44
    · have hf := bl_ifn c5 hf
      refine lv_iload_n X.1 X.2.1 dX9_isState_13 rfl (lv_at hl 3 rfl) ?_
      refine lv_if_lt (tgt := 43) X.1 X.2.1 dX9_isState_14 (by decide) (fun c6 => ?_) (fun c6 => ?_)
      · have hf := bl_ifp c6 hf
        refine lv_iconst (v := 0) X.1 X.2.1 dX9_isState_43 (by decide) ?_
        exact bl_retz X V hr (by decide) hf dX9_isState_44
      · have hf := bl_ifn c6 hf
        refine lv_iload_n X.1 X.2.1 dX9_isState_17 rfl (lv_at hl 3 rfl) ?_
        refine lv_aload_n X.1 X.2.1 dX9_isState_18 rfl (lv_at hl 0 rfl) ?_
        refine bl_getr X V ha0 fl_X9_26 rfl dX9_isState_19 (fun h7 => ?_)
        obtain ⟨r8, σ9, h10, hf⟩ := bl_bd_at hf
        refine bl_cVi (As := []) X V hl.1 h7 rfl ml_X9_278 mV_X8_chances (t_X8_chances l g σ3 (bl_R σ3 a0 2) _ h7 h10) rfl rfl ⟨Nat.le_of_ble_eq_true rfl, Nat.le_of_ble_eq_true rfl⟩ rfl rfl (Nat.le_of_ble_eq_true rfl) ⟨Nat.zero_le _, Nat.zero_le _⟩ dX9_isState_22 (fun H locs V => ?_)
        refine lv_icmp_gt (tgt := 43) X.1 X.2.1 dX9_isState_25 (by decide) (fun c11 => ?_) (fun c11 => ?_)
        · have hf := bl_ifp c11 hf
          refine lv_iconst (v := 0) X.1 X.2.1 dX9_isState_43 (by decide) ?_
          exact bl_retz X V hr (by decide) hf dX9_isState_44
        · have hf := bl_ifn c11 hf
          refine lv_iload X.1 X.2.1 dX9_isState_28 (lv_at hl 4 rfl) ?_
          refine lv_if_lt (tgt := 43) X.1 X.2.1 dX9_isState_30 (by decide) (fun c12 => ?_) (fun c12 => ?_)
          · have hf := bl_ifp c12 hf
            refine lv_iconst (v := 0) X.1 X.2.1 dX9_isState_43 (by decide) ?_
            exact bl_retz X V hr (by decide) hf dX9_isState_44
          · have hf := bl_ifn c12 hf
            refine lv_iload X.1 X.2.1 dX9_isState_33 (lv_at hl 4 rfl) ?_
            refine lv_iconst (v := 3) X.1 X.2.1 dX9_isState_35 (by decide) ?_
            refine lv_icmp_ge (tgt := 43) X.1 X.2.1 dX9_isState_36 (by decide) (fun c13 => ?_) (fun c13 => ?_)
            · have hf := bl_ifp c13 hf
              refine lv_iconst (v := 0) X.1 X.2.1 dX9_isState_43 (by decide) ?_
              exact bl_retz X V hr (by decide) hf dX9_isState_44
            · have hf := bl_ifn c13 hf
              refine lv_iconst (v := 1) X.1 X.2.1 dX9_isState_39 (by decide) ?_
              refine lv_goto (tgt := 44) X.1 X.2.1 dX9_isState_40 (by decide) ?_
              exact bl_retz X V hr (by decide) hf dX9_isState_44
set_option maxHeartbeats 4000000 in
set_option maxRecDepth 100000 in
theorem t_X9_ahead (l : Launch) (g : bl_Gp) (σ : bl_St) (a0 : Nat) (a1 : Int32) (a2 : Int32) (a3 : Int32) (a4 : Int32) (a5 : Int32) (o : Int64 × bl_St) (ha0 : bl_sh[a0]? = some (9, 13)) (hf : f_X9_ahead σ a0 a1 a2 a3 a4 a5 = some o) : bl_Cl l g yX9_ahead cX9_ahead 6 (Option.some Jvm.ClassFile.FieldType.long) (bl_rm 4 111) [.ref (bl_ad g a0), .int a1, .int a2, .int a3, .int a4, .int a5] σ o := by
  refine bl_met (by decide) (Nat.le_of_ble_eq_true rfl) (fun p e s m below meth c ls X hr V hl => ?_)
  have hl : lv_has ls 6 [(0, .ref (bl_ad g a0)), (1, .int a1), (2, .int a2), (3, .int a3), (4, .int a4), (5, .int a5)] := hl
  unfold f_X9_ahead at hf
  refine lv_aload_n X.1 X.2.1 dX9_ahead_0 rfl (lv_at hl 0 rfl) ?_
  refine lv_iload_n X.1 X.2.1 dX9_ahead_1 rfl (lv_at hl 1 rfl) ?_
  refine lv_iload_n X.1 X.2.1 dX9_ahead_2 rfl (lv_at hl 2 rfl) ?_
  refine lv_iload_n X.1 X.2.1 dX9_ahead_3 rfl (lv_at hl 3 rfl) ?_
  refine lv_iload X.1 X.2.1 dX9_ahead_4 (lv_at hl 4 rfl) ?_
  obtain ⟨r1, σ2, h3, hf⟩ := bl_bd_at hf
  refine bl_cVi (As := [.int a1, .int a2, .int a3, .int a4]) X V hl.1 ha0 rfl ml_X9_266 mV_X9_isState (t_X9_isState l g σ a0 a1 a2 a3 a4 _ ha0 h3) rfl rfl ⟨Nat.le_of_ble_eq_true rfl, Nat.le_of_ble_eq_true rfl⟩ rfl rfl (Nat.le_of_ble_eq_true rfl) ⟨Nat.zero_le _, Nat.zero_le _⟩ dX9_ahead_6 (fun H locs V => ?_)
  refine lv_if_ne (tgt := 16) X.1 X.2.1 dX9_ahead_9 (by decide) (fun c4 => ?_) (fun c4 => ?_)
  · have hf := bl_ifn c4 hf
    refine lv_aload_n X.1 X.2.1 dX9_ahead_16 rfl (lv_at hl 0 rfl) ?_
    refine bl_getr X V ha0 fl_X9_55 rfl dX9_ahead_17 (fun h5 => ?_)
    refine lv_iload_n X.1 X.2.1 dX9_ahead_20 rfl (lv_at hl 1 rfl) ?_
    refine lv_iconst (v := 1) X.1 X.2.1 dX9_ahead_21 (by decide) ?_
    refine lv_isub X.1 X.2.1 dX9_ahead_22 ?_
    obtain ⟨r6, σ7, h8, hf⟩ := bl_bd_at hf
    refine bl_cVv (As := [.int (a1 - 1)]) X V hl.1 h5 rfl ml_X9_260 mV_X4_learn (t_X4_learn l g σ2 (bl_R σ2 a0 7) (a1 - 1) _ h5 h8) rfl rfl ⟨Nat.le_of_ble_eq_true rfl, Nat.le_of_ble_eq_true rfl⟩ rfl rfl (Nat.le_of_ble_eq_true rfl) ⟨Nat.zero_le _, Nat.zero_le _⟩ dX9_ahead_23 (fun H locs V => ?_)
    refine lv_aload_n X.1 X.2.1 dX9_ahead_26 rfl (lv_at hl 0 rfl) ?_
    refine bl_getr X V ha0 fl_X9_55 rfl dX9_ahead_27 (fun h9 => ?_)
    refine lv_iload_n X.1 X.2.1 dX9_ahead_30 rfl (lv_at hl 1 rfl) ?_
    refine lv_iload_n X.1 X.2.1 dX9_ahead_31 rfl (lv_at hl 2 rfl) ?_
    refine lv_iload_n X.1 X.2.1 dX9_ahead_32 rfl (lv_at hl 3 rfl) ?_
    refine lv_iload X.1 X.2.1 dX9_ahead_33 (lv_at hl 4 rfl) ?_
    refine lv_iload X.1 X.2.1 dX9_ahead_35 (lv_at hl 5 rfl) ?_
    obtain ⟨r10, σ11, h12, hf⟩ := bl_bd_at hf
    refine bl_cVv (As := [.int a1, .int a2, .int a3, .int a4, .int a5]) X V hl.1 h9 rfl ml_X9_270 mV_X4_lookAhead (t_X4_lookAhead l g σ7 (bl_R σ7 a0 7) a1 a2 a3 a4 a5 _ h9 h12) rfl rfl ⟨Nat.le_of_ble_eq_true rfl, Nat.le_of_ble_eq_true rfl⟩ rfl rfl (Nat.le_of_ble_eq_true rfl) ⟨Nat.zero_le _, Nat.zero_le _⟩ dX9_ahead_37 (fun H locs V => ?_)
    refine lv_aload_n X.1 X.2.1 dX9_ahead_40 rfl (lv_at hl 0 rfl) ?_
    refine bl_getr X V ha0 fl_X9_55 rfl dX9_ahead_41 (fun h13 => ?_)
    refine lv_iload_n X.1 X.2.1 dX9_ahead_44 rfl (lv_at hl 3 rfl) ?_
    refine lv_iload X.1 X.2.1 dX9_ahead_45 (lv_at hl 4 rfl) ?_
    refine lv_iload X.1 X.2.1 dX9_ahead_47 (lv_at hl 5 rfl) ?_
    obtain ⟨r14, σ15, h16, hf⟩ := bl_bd_at hf
    refine bl_cVl (As := [.int a3, .int a4, .int a5]) X V hl.1 h13 rfl ml_X9_274 mV_X4_aheadOf (t_X4_aheadOf l g σ11 (bl_R σ11 a0 7) a3 a4 a5 _ h13 h16) rfl rfl ⟨Nat.le_of_ble_eq_true rfl, Nat.le_of_ble_eq_true rfl⟩ rfl rfl (Nat.le_of_ble_eq_true rfl) ⟨Nat.zero_le _, Nat.zero_le _⟩ dX9_ahead_49 (fun H locs V => ?_)
    exact bl_retl X V hr hf dX9_ahead_52
  · have hf := bl_ifp c4 hf
    refine lv_ldc2 (v := (-1)) X.1 X.2.1 X.2.2.2.1 (X.2.2.2.2.1 _ kl_X9_254) dX9_ahead_12 ?_
    exact bl_retl X V hr hf dX9_ahead_15
set_option maxHeartbeats 4000000 in
set_option maxRecDepth 100000 in
theorem t_X9_least (l : Launch) (g : bl_Gp) (σ : bl_St) (a0 : Nat) (a1 : Int32) (a2 : Int32) (a3 : Int32) (a4 : Int32) (a5 : Int32) (o : Int32 × bl_St) (ha0 : bl_sh[a0]? = some (9, 13)) (hf : f_X9_least σ a0 a1 a2 a3 a4 a5 = some o) : bl_Ci l g yX9_least cX9_least 6 (Option.some Jvm.ClassFile.FieldType.int) (bl_rm 4 111) [.ref (bl_ad g a0), .int a1, .int a2, .int a3, .int a4, .int a5] σ o := by
  refine bl_met (by decide) (Nat.le_of_ble_eq_true rfl) (fun p e s m below meth c ls X hr V hl => ?_)
  have hl : lv_has ls 6 [(0, .ref (bl_ad g a0)), (1, .int a1), (2, .int a2), (3, .int a3), (4, .int a4), (5, .int a5)] := hl
  unfold f_X9_least at hf
  refine lv_aload_n X.1 X.2.1 dX9_least_0 rfl (lv_at hl 0 rfl) ?_
  refine lv_iload_n X.1 X.2.1 dX9_least_1 rfl (lv_at hl 1 rfl) ?_
  refine lv_iload_n X.1 X.2.1 dX9_least_2 rfl (lv_at hl 2 rfl) ?_
  refine lv_iload_n X.1 X.2.1 dX9_least_3 rfl (lv_at hl 3 rfl) ?_
  refine lv_iload X.1 X.2.1 dX9_least_4 (lv_at hl 4 rfl) ?_
  obtain ⟨r1, σ2, h3, hf⟩ := bl_bd_at hf
  refine bl_cVi (As := [.int a1, .int a2, .int a3, .int a4]) X V hl.1 ha0 rfl ml_X9_266 mV_X9_isState (t_X9_isState l g σ a0 a1 a2 a3 a4 _ ha0 h3) rfl rfl ⟨Nat.le_of_ble_eq_true rfl, Nat.le_of_ble_eq_true rfl⟩ rfl rfl (Nat.le_of_ble_eq_true rfl) ⟨Nat.zero_le _, Nat.zero_le _⟩ dX9_least_6 (fun H locs V => ?_)
  refine lv_if_eq (tgt := 23) X.1 X.2.1 dX9_least_9 (by decide) (fun c4 => ?_) (fun c4 => ?_)
  · have hf := bl_ifp c4 hf
    refine lv_iconst (v := (-1)) X.1 X.2.1 dX9_least_23 (by decide) ?_
    exact bl_reti X V hr hf dX9_least_24
  · have hf := bl_ifn c4 hf
    refine lv_iload_n X.1 X.2.1 dX9_least_12 rfl (lv_at hl 3 rfl) ?_
    refine lv_aload_n X.1 X.2.1 dX9_least_13 rfl (lv_at hl 0 rfl) ?_
    refine bl_getr X V ha0 fl_X9_26 rfl dX9_least_14 (fun h5 => ?_)
    obtain ⟨r6, σ7, h8, hf⟩ := bl_bd_at hf
    refine bl_cVi (As := []) X V hl.1 h5 rfl ml_X9_278 mV_X8_chances (t_X8_chances l g σ2 (bl_R σ2 a0 2) _ h5 h8) rfl rfl ⟨Nat.le_of_ble_eq_true rfl, Nat.le_of_ble_eq_true rfl⟩ rfl rfl (Nat.le_of_ble_eq_true rfl) ⟨Nat.zero_le _, Nat.zero_le _⟩ dX9_least_17 (fun H locs V => ?_)
    refine lv_icmp_ne (tgt := 25) X.1 X.2.1 dX9_least_20 (by decide) (fun c9 => ?_) (fun c9 => ?_)
    · have hf := bl_ifn c9 hf
      refine lv_aload_n X.1 X.2.1 dX9_least_25 rfl (lv_at hl 0 rfl) ?_
      refine bl_getr X V ha0 fl_X9_55 rfl dX9_least_26 (fun h10 => ?_)
      refine lv_iload_n X.1 X.2.1 dX9_least_29 rfl (lv_at hl 1 rfl) ?_
      refine lv_iconst (v := 1) X.1 X.2.1 dX9_least_30 (by decide) ?_
      refine lv_isub X.1 X.2.1 dX9_least_31 ?_
      obtain ⟨r11, σ12, h13, hf⟩ := bl_bd_at hf
      refine bl_cVv (As := [.int (a1 - 1)]) X V hl.1 h10 rfl ml_X9_260 mV_X4_learn (t_X4_learn l g σ7 (bl_R σ7 a0 7) (a1 - 1) _ h10 h13) rfl rfl ⟨Nat.le_of_ble_eq_true rfl, Nat.le_of_ble_eq_true rfl⟩ rfl rfl (Nat.le_of_ble_eq_true rfl) ⟨Nat.zero_le _, Nat.zero_le _⟩ dX9_least_32 (fun H locs V => ?_)
      refine lv_aload_n X.1 X.2.1 dX9_least_35 rfl (lv_at hl 0 rfl) ?_
      refine bl_getr X V ha0 fl_X9_55 rfl dX9_least_36 (fun h14 => ?_)
      refine lv_iload_n X.1 X.2.1 dX9_least_39 rfl (lv_at hl 1 rfl) ?_
      refine lv_iload_n X.1 X.2.1 dX9_least_40 rfl (lv_at hl 2 rfl) ?_
      refine lv_iload_n X.1 X.2.1 dX9_least_41 rfl (lv_at hl 3 rfl) ?_
      refine lv_iload X.1 X.2.1 dX9_least_42 (lv_at hl 4 rfl) ?_
      refine lv_iload X.1 X.2.1 dX9_least_44 (lv_at hl 5 rfl) ?_
      obtain ⟨r15, σ16, h17, hf⟩ := bl_bd_at hf
      refine bl_cVv (As := [.int a1, .int a2, .int a3, .int a4, .int a5]) X V hl.1 h14 rfl ml_X9_270 mV_X4_lookAhead (t_X4_lookAhead l g σ12 (bl_R σ12 a0 7) a1 a2 a3 a4 a5 _ h14 h17) rfl rfl ⟨Nat.le_of_ble_eq_true rfl, Nat.le_of_ble_eq_true rfl⟩ rfl rfl (Nat.le_of_ble_eq_true rfl) ⟨Nat.zero_le _, Nat.zero_le _⟩ dX9_least_46 (fun H locs V => ?_)
      refine lv_aload_n X.1 X.2.1 dX9_least_49 rfl (lv_at hl 0 rfl) ?_
      refine bl_getr X V ha0 fl_X9_55 rfl dX9_least_50 (fun h18 => ?_)
      refine lv_iload_n X.1 X.2.1 dX9_least_53 rfl (lv_at hl 3 rfl) ?_
      refine lv_iload X.1 X.2.1 dX9_least_54 (lv_at hl 4 rfl) ?_
      refine lv_iload X.1 X.2.1 dX9_least_56 (lv_at hl 5 rfl) ?_
      obtain ⟨r19, σ20, h21, hf⟩ := bl_bd_at hf
      refine bl_cVi (As := [.int a3, .int a4, .int a5]) X V hl.1 h18 rfl ml_X9_281 mV_X4_leastTold (t_X4_leastTold l g σ16 (bl_R σ16 a0 7) a3 a4 a5 _ h18 h21) rfl rfl ⟨Nat.le_of_ble_eq_true rfl, Nat.le_of_ble_eq_true rfl⟩ rfl rfl (Nat.le_of_ble_eq_true rfl) ⟨Nat.zero_le _, Nat.zero_le _⟩ dX9_least_58 (fun H locs V => ?_)
      exact bl_reti X V hr hf dX9_least_61
    · have hf := bl_ifp c9 hf
      refine lv_iconst (v := (-1)) X.1 X.2.1 dX9_least_23 (by decide) ?_
      exact bl_reti X V hr hf dX9_least_24
set_option maxHeartbeats 4000000 in
set_option maxRecDepth 100000 in
theorem w_X9_tells_95 {p : Program} {l : Launch} {e : Env} {s : State} {m : MethodId} {below : List Frame} {meth : Method} {c : Code} {g : bl_Gp} {as : List Value} {out : Int32 × bl_St} (X : bl_Cx g p s m as.toArray meth c cX9_tells 8 RX9) (hr : meth.sig.returnType = (Option.some Jvm.ClassFile.FieldType.int)) (k55 : bl_St → Nat → Int32 → Int32 → Int32 → Int32 → Int32 → Option (Int32 × bl_St)) (hk55 : ∀ (σ : bl_St) (v0 : Nat) (v3 : Int32) (v4 : Int32) (v5 : Int32) (v6 : Int32) (v7 : Int32), bl_sh[v0]? = some (9, 13) → k55 σ v0 v3 v4 v5 v6 v7 = some out → ∀ (H : Heap) (locs : List Loc) (ls : Array Slot), bl_V g s σ H locs → lv_has ls 8 [(0, .ref (bl_ad g v0)), (3, .int v3), (4, .int v4), (5, .int v5), (6, .int v6), (7, .int v7)] → W p l e (bl_rm 4 111) s m as.toArray below meth c H locs 0 0 (bl_Qi below g s as out) (F0 m 55 ls [])) : ∀ (σ : bl_St) (v0 : Nat) (v3 : Int32) (v4 : Int32) (v5 : Int32) (v6 : Int32) (v7 : Int32), bl_sh[v0]? = some (9, 13) → (b_X9_tells_95 k55) σ v0 v3 v4 v5 v6 v7 = some out → ∀ (H : Heap) (locs : List Loc) (ls : Array Slot), bl_V g s σ H locs → lv_has ls 8 [(0, .ref (bl_ad g v0)), (3, .int v3), (4, .int v4), (5, .int v5), (6, .int v6), (7, .int v7)] → W p l e (bl_rm 4 111) s m as.toArray below meth c H locs 0 0 (bl_Qi below g s as out) (F0 m 95 ls []) := by
  intro σ v0 v3 v4 v5 v6 v7 hv0 hf H locs ls V hl
  unfold b_X9_tells_95 at hf
  obtain ⟨x1, e2⟩ : ∃ z : Int32, z = v7 + 1 := ⟨_, rfl⟩
  have hf := bl_let_at e2 hf
  refine lv_iinc (v := x1) (lv' := [(7, .int x1), (0, .ref (bl_ad g v0)), (3, .int v3), (4, .int v4), (5, .int v5), (6, .int v6)]) X.1 X.2.1 dX9_tells_95 hl (k := 5) rfl (by rw [e2]; rfl) (by decide) rfl (fun ls hl => ?_)
  refine lv_goto (tgt := 55) X.1 X.2.1 dX9_tells_98 (by decide) ?_
  exact hk55 σ v0 v3 v4 v5 v6 x1 hv0 hf _ _ _ V (lv_sub hl [1, 2, 3, 4, 5, 0] rfl)
set_option maxHeartbeats 4000000 in
set_option maxRecDepth 100000 in
theorem w_X9_tells_55 {p : Program} {l : Launch} {e : Env} {s : State} {m : MethodId} {below : List Frame} {meth : Method} {c : Code} {g : bl_Gp} {as : List Value} {out : Int32 × bl_St} (X : bl_Cx g p s m as.toArray meth c cX9_tells 8 RX9) (hr : meth.sig.returnType = (Option.some Jvm.ClassFile.FieldType.int)) (k55 : bl_St → Nat → Int32 → Int32 → Int32 → Int32 → Int32 → Option (Int32 × bl_St)) (hk55 : ∀ (σ : bl_St) (v0 : Nat) (v3 : Int32) (v4 : Int32) (v5 : Int32) (v6 : Int32) (v7 : Int32), bl_sh[v0]? = some (9, 13) → k55 σ v0 v3 v4 v5 v6 v7 = some out → ∀ (H : Heap) (locs : List Loc) (ls : Array Slot), bl_V g s σ H locs → lv_has ls 8 [(0, .ref (bl_ad g v0)), (3, .int v3), (4, .int v4), (5, .int v5), (6, .int v6), (7, .int v7)] → W p l e (bl_rm 4 111) s m as.toArray below meth c H locs 0 0 (bl_Qi below g s as out) (F0 m 55 ls [])) : ∀ (σ : bl_St) (v0 : Nat) (v3 : Int32) (v4 : Int32) (v5 : Int32) (v6 : Int32) (v7 : Int32), bl_sh[v0]? = some (9, 13) → (b_X9_tells_55 k55) σ v0 v3 v4 v5 v6 v7 = some out → ∀ (H : Heap) (locs : List Loc) (ls : Array Slot), bl_V g s σ H locs → lv_has ls 8 [(0, .ref (bl_ad g v0)), (3, .int v3), (4, .int v4), (5, .int v5), (6, .int v6), (7, .int v7)] → W p l e (bl_rm 4 111) s m as.toArray below meth c H locs 0 0 (bl_Qi below g s as out) (F0 m 55 ls []) := by
  intro σ v0 v3 v4 v5 v6 v7 hv0 hf H locs ls V hl
  unfold b_X9_tells_55 at hf
  refine lv_iload X.1 X.2.1 dX9_tells_55 (lv_at hl 5 rfl) ?_
  refine lv_aload_n X.1 X.2.1 dX9_tells_57 rfl (lv_at hl 0 rfl) ?_
  refine bl_getr X V hv0 fl_X9_26 rfl dX9_tells_58 (fun h3 => ?_)
  refine bl_geti X V h3 fl_X9_177 dX9_tells_61 ?_
  refine lv_icmp_ge (tgt := 101) X.1 X.2.1 dX9_tells_64 (by decide) (fun c4 => ?_) (fun c4 => ?_)
  · have hf := bl_ifp c4 hf
    refine lv_iload X.1 X.2.1 dX9_tells_101 (lv_at hl 4 rfl) ?_
    exact bl_reti X V hr hf dX9_tells_103
  · have hf := bl_ifn c4 hf
    refine lv_aload_n X.1 X.2.1 dX9_tells_67 rfl (lv_at hl 0 rfl) ?_
    refine bl_getr X V hv0 fl_X9_55 rfl dX9_tells_68 (fun h5 => ?_)
    refine lv_iload_n X.1 X.2.1 dX9_tells_71 rfl (lv_at hl 1 rfl) ?_
    refine lv_iload X.1 X.2.1 dX9_tells_72 (lv_at hl 2 rfl) ?_
    refine lv_iload X.1 X.2.1 dX9_tells_74 (lv_at hl 3 rfl) ?_
    refine lv_iload X.1 X.2.1 dX9_tells_76 (lv_at hl 5 rfl) ?_
    obtain ⟨r6, σ7, h8, hf⟩ := bl_bd_at hf
    refine bl_cVl (As := [.int v3, .int v4, .int v5, .int v7]) X V hl.1 h5 rfl ml_X9_285 mV_X4_gainOf (t_X4_gainOf l g σ (bl_R σ v0 7) v3 v4 v5 v7 _ h5 h8) rfl rfl ⟨Nat.le_of_ble_eq_true rfl, Nat.le_of_ble_eq_true rfl⟩ rfl rfl (Nat.le_of_ble_eq_true rfl) ⟨Nat.zero_le _, Nat.zero_le _⟩ dX9_tells_78 (fun H locs V => ?_)
    refine lv_lconst (v := 0) X.1 X.2.1 dX9_tells_81 (by decide) ?_
    refine bl_lc_le (tgt := 95) X dX9_tells_82 dX9_tells_83 (by decide) (fun c9 => ?_) (fun c9 => ?_)
    · have hf := bl_ifp c9 hf
      exact w_X9_tells_95 X hr k55 hk55 σ7 v0 v3 v4 v5 v6 v7 hv0 hf _ _ _ V (lv_sub hl [0, 1, 2, 3, 4, 5] rfl)
    · have hf := bl_ifn c9 hf
      refine lv_iload X.1 X.2.1 dX9_tells_86 (lv_at hl 4 rfl) ?_
      refine lv_iconst (v := 1) X.1 X.2.1 dX9_tells_88 (by decide) ?_
      refine lv_iload X.1 X.2.1 dX9_tells_89 (lv_at hl 5 rfl) ?_
      refine lv_ishl X.1 X.2.1 dX9_tells_91 ?_
      refine lv_ior X.1 X.2.1 dX9_tells_92 ?_
      refine lv_topi (fun x10 e11 => ?_)
      have hf := bl_let_at e11 hf
      refine lv_istore (lv' := [(6, .int x10), (0, .ref (bl_ad g v0)), (3, .int v3), (4, .int v4), (5, .int v5), (7, .int v7)]) X.1 X.2.1 dX9_tells_93 hl (by decide) rfl (fun ls hl => ?_)
      exact w_X9_tells_95 X hr k55 hk55 σ7 v0 v3 v4 v5 x10 v7 hv0 hf _ _ _ V (lv_sub hl [1, 2, 3, 4, 0, 5] rfl)
theorem l_X9_tells_55 {p : Program} {l : Launch} {e : Env} {s : State} {m : MethodId} {below : List Frame} {meth : Method} {c : Code} {g : bl_Gp} {as : List Value} {out : Int32 × bl_St} (X : bl_Cx g p s m as.toArray meth c cX9_tells 8 RX9) (hr : meth.sig.returnType = (Option.some Jvm.ClassFile.FieldType.int)) (n : Nat) : ∀ (σ : bl_St) (v0 : Nat) (v3 : Int32) (v4 : Int32) (v5 : Int32) (v6 : Int32) (v7 : Int32), bl_sh[v0]? = some (9, 13) → (bl_fx (fun _ _ _ _ _ _ _ => none) (b_X9_tells_55 ) n) σ v0 v3 v4 v5 v6 v7 = some out → ∀ (H : Heap) (locs : List Loc) (ls : Array Slot), bl_V g s σ H locs → lv_has ls 8 [(0, .ref (bl_ad g v0)), (3, .int v3), (4, .int v4), (5, .int v5), (6, .int v6), (7, .int v7)] → W p l e (bl_rm 4 111) s m as.toArray below meth c H locs 0 0 (bl_Qi below g s as out) (F0 m 55 ls []) := by
  induction n with
  | zero =>
    intro σ v0 v3 v4 v5 v6 v7 hv0 hf H locs ls V hl
    cases hf
  | succ n ih => exact w_X9_tells_55 X hr  _ ih
set_option maxHeartbeats 4000000 in
set_option maxRecDepth 100000 in
theorem t_X9_tells (l : Launch) (g : bl_Gp) (σ : bl_St) (a0 : Nat) (a1 : Int32) (a2 : Int32) (a3 : Int32) (a4 : Int32) (a5 : Int32) (o : Int32 × bl_St) (ha0 : bl_sh[a0]? = some (9, 13)) (hf : f_X9_tells σ a0 a1 a2 a3 a4 a5 = some o) : bl_Ci l g yX9_tells cX9_tells 8 (Option.some Jvm.ClassFile.FieldType.int) (bl_rm 4 111) [.ref (bl_ad g a0), .int a1, .int a2, .int a3, .int a4, .int a5] σ o := by
  refine bl_met (by decide) (Nat.le_of_ble_eq_true rfl) (fun p e s m below meth c ls X hr V hl => ?_)
  have hl : lv_has ls 8 [(0, .ref (bl_ad g a0)), (1, .int a1), (2, .int a2), (3, .int a3), (4, .int a4), (5, .int a5)] := hl
  unfold f_X9_tells at hf
  refine lv_aload_n X.1 X.2.1 dX9_tells_0 rfl (lv_at hl 0 rfl) ?_
  refine lv_iload_n X.1 X.2.1 dX9_tells_1 rfl (lv_at hl 1 rfl) ?_
  refine lv_iload_n X.1 X.2.1 dX9_tells_2 rfl (lv_at hl 2 rfl) ?_
  refine lv_iload_n X.1 X.2.1 dX9_tells_3 rfl (lv_at hl 3 rfl) ?_
  refine lv_iload X.1 X.2.1 dX9_tells_4 (lv_at hl 4 rfl) ?_
  obtain ⟨r12, σ13, h14, hf⟩ := bl_bd_at hf
  refine bl_cVi (As := [.int a1, .int a2, .int a3, .int a4]) X V hl.1 ha0 rfl ml_X9_266 mV_X9_isState (t_X9_isState l g σ a0 a1 a2 a3 a4 _ ha0 h14) rfl rfl ⟨Nat.le_of_ble_eq_true rfl, Nat.le_of_ble_eq_true rfl⟩ rfl rfl (Nat.le_of_ble_eq_true rfl) ⟨Nat.zero_le _, Nat.zero_le _⟩ dX9_tells_6 (fun H locs V => ?_)
  refine lv_if_eq (tgt := 23) X.1 X.2.1 dX9_tells_9 (by decide) (fun c15 => ?_) (fun c15 => ?_)
  · have hf := bl_ifp c15 hf
    refine lv_iconst (v := (-1)) X.1 X.2.1 dX9_tells_23 (by decide) ?_
    exact bl_reti X V hr hf dX9_tells_24
  · have hf := bl_ifn c15 hf
    refine lv_iload_n X.1 X.2.1 dX9_tells_12 rfl (lv_at hl 3 rfl) ?_
    refine lv_aload_n X.1 X.2.1 dX9_tells_13 rfl (lv_at hl 0 rfl) ?_
    refine bl_getr X V ha0 fl_X9_26 rfl dX9_tells_14 (fun h16 => ?_)
    obtain ⟨r17, σ18, h19, hf⟩ := bl_bd_at hf
    refine bl_cVi (As := []) X V hl.1 h16 rfl ml_X9_278 mV_X8_chances (t_X8_chances l g σ13 (bl_R σ13 a0 2) _ h16 h19) rfl rfl ⟨Nat.le_of_ble_eq_true rfl, Nat.le_of_ble_eq_true rfl⟩ rfl rfl (Nat.le_of_ble_eq_true rfl) ⟨Nat.zero_le _, Nat.zero_le _⟩ dX9_tells_17 (fun H locs V => ?_)
    refine lv_icmp_ne (tgt := 25) X.1 X.2.1 dX9_tells_20 (by decide) (fun c20 => ?_) (fun c20 => ?_)
    · have hf := bl_ifn c20 hf
      refine lv_aload_n X.1 X.2.1 dX9_tells_25 rfl (lv_at hl 0 rfl) ?_
      refine bl_getr X V ha0 fl_X9_55 rfl dX9_tells_26 (fun h21 => ?_)
      refine lv_iload_n X.1 X.2.1 dX9_tells_29 rfl (lv_at hl 1 rfl) ?_
      refine lv_iconst (v := 1) X.1 X.2.1 dX9_tells_30 (by decide) ?_
      refine lv_isub X.1 X.2.1 dX9_tells_31 ?_
      obtain ⟨r22, σ23, h24, hf⟩ := bl_bd_at hf
      refine bl_cVv (As := [.int (a1 - 1)]) X V hl.1 h21 rfl ml_X9_260 mV_X4_learn (t_X4_learn l g σ18 (bl_R σ18 a0 7) (a1 - 1) _ h21 h24) rfl rfl ⟨Nat.le_of_ble_eq_true rfl, Nat.le_of_ble_eq_true rfl⟩ rfl rfl (Nat.le_of_ble_eq_true rfl) ⟨Nat.zero_le _, Nat.zero_le _⟩ dX9_tells_32 (fun H locs V => ?_)
      refine lv_aload_n X.1 X.2.1 dX9_tells_35 rfl (lv_at hl 0 rfl) ?_
      refine bl_getr X V ha0 fl_X9_55 rfl dX9_tells_36 (fun h25 => ?_)
      refine lv_iload_n X.1 X.2.1 dX9_tells_39 rfl (lv_at hl 1 rfl) ?_
      refine lv_iload_n X.1 X.2.1 dX9_tells_40 rfl (lv_at hl 2 rfl) ?_
      refine lv_iload_n X.1 X.2.1 dX9_tells_41 rfl (lv_at hl 3 rfl) ?_
      refine lv_iload X.1 X.2.1 dX9_tells_42 (lv_at hl 4 rfl) ?_
      refine lv_iload X.1 X.2.1 dX9_tells_44 (lv_at hl 5 rfl) ?_
      obtain ⟨r26, σ27, h28, hf⟩ := bl_bd_at hf
      refine bl_cVv (As := [.int a1, .int a2, .int a3, .int a4, .int a5]) X V hl.1 h25 rfl ml_X9_270 mV_X4_lookAhead (t_X4_lookAhead l g σ23 (bl_R σ23 a0 7) a1 a2 a3 a4 a5 _ h25 h28) rfl rfl ⟨Nat.le_of_ble_eq_true rfl, Nat.le_of_ble_eq_true rfl⟩ rfl rfl (Nat.le_of_ble_eq_true rfl) ⟨Nat.zero_le _, Nat.zero_le _⟩ dX9_tells_46 (fun H locs V => ?_)
      refine lv_iconst (v := 0) X.1 X.2.1 dX9_tells_49 (by decide) ?_
      refine lv_istore (lv' := [(6, .int 0), (0, .ref (bl_ad g a0)), (1, .int a1), (2, .int a2), (3, .int a3), (4, .int a4), (5, .int a5)]) X.1 X.2.1 dX9_tells_50 hl (by decide) rfl (fun ls hl => ?_)
      refine lv_iconst (v := 0) X.1 X.2.1 dX9_tells_52 (by decide) ?_
      refine lv_istore (lv' := [(7, .int 0), (6, .int 0), (0, .ref (bl_ad g a0)), (1, .int a1), (2, .int a2), (3, .int a3), (4, .int a4), (5, .int a5)]) X.1 X.2.1 dX9_tells_53 hl (by decide) rfl (fun ls hl => ?_)
      exact l_X9_tells_55 X hr  bl_fu σ27 a0 a3 a4 a5 0 0 ha0 hf _ _ _ V (lv_sub hl [2, 5, 6, 7, 1, 0] rfl)
    · have hf := bl_ifp c20 hf
      refine lv_iconst (v := (-1)) X.1 X.2.1 dX9_tells_23 (by decide) ?_
      exact bl_reti X V hr hf dX9_tells_24
set_option maxHeartbeats 4000000 in
set_option maxRecDepth 100000 in
theorem t_X9_gain (l : Launch) (g : bl_Gp) (σ : bl_St) (a0 : Nat) (a1 : Int32) (a2 : Int32) (a3 : Int32) (a4 : Int32) (a5 : Int32) (a6 : Int32) (o : Int64 × bl_St) (ha0 : bl_sh[a0]? = some (9, 13)) (hf : f_X9_gain σ a0 a1 a2 a3 a4 a5 a6 = some o) : bl_Cl l g yX9_gain cX9_gain 7 (Option.some Jvm.ClassFile.FieldType.long) (bl_rm 4 111) [.ref (bl_ad g a0), .int a1, .int a2, .int a3, .int a4, .int a5, .int a6] σ o := by
  refine bl_met (by decide) (Nat.le_of_ble_eq_true rfl) (fun p e s m below meth c ls X hr V hl => ?_)
  have hl : lv_has ls 7 [(0, .ref (bl_ad g a0)), (1, .int a1), (2, .int a2), (3, .int a3), (4, .int a4), (5, .int a5), (6, .int a6)] := hl
  unfold f_X9_gain at hf
  refine lv_aload_n X.1 X.2.1 dX9_gain_0 rfl (lv_at hl 0 rfl) ?_
  refine lv_iload_n X.1 X.2.1 dX9_gain_1 rfl (lv_at hl 1 rfl) ?_
  refine lv_iload_n X.1 X.2.1 dX9_gain_2 rfl (lv_at hl 2 rfl) ?_
  refine lv_iload_n X.1 X.2.1 dX9_gain_3 rfl (lv_at hl 3 rfl) ?_
  refine lv_iload X.1 X.2.1 dX9_gain_4 (lv_at hl 4 rfl) ?_
  obtain ⟨r1, σ2, h3, hf⟩ := bl_bd_at hf
  refine bl_cVi (As := [.int a1, .int a2, .int a3, .int a4]) X V hl.1 ha0 rfl ml_X9_266 mV_X9_isState (t_X9_isState l g σ a0 a1 a2 a3 a4 _ ha0 h3) rfl rfl ⟨Nat.le_of_ble_eq_true rfl, Nat.le_of_ble_eq_true rfl⟩ rfl rfl (Nat.le_of_ble_eq_true rfl) ⟨Nat.zero_le _, Nat.zero_le _⟩ dX9_gain_6 (fun H locs V => ?_)
  refine lv_if_eq (tgt := 35) X.1 X.2.1 dX9_gain_9 (by decide) (fun c4 => ?_) (fun c4 => ?_)
  · have hf := bl_ifp c4 hf
    refine lv_ldc2 (v := (-9223372036854775808)) X.1 X.2.1 X.2.2.2.1 (X.2.2.2.2.1 _ kl_X9_289) dX9_gain_35 ?_
    exact bl_retl X V hr hf dX9_gain_38
  · have hf := bl_ifn c4 hf
    refine lv_iload_n X.1 X.2.1 dX9_gain_12 rfl (lv_at hl 3 rfl) ?_
    refine lv_aload_n X.1 X.2.1 dX9_gain_13 rfl (lv_at hl 0 rfl) ?_
    refine bl_getr X V ha0 fl_X9_26 rfl dX9_gain_14 (fun h5 => ?_)
    obtain ⟨r6, σ7, h8, hf⟩ := bl_bd_at hf
    refine bl_cVi (As := []) X V hl.1 h5 rfl ml_X9_278 mV_X8_chances (t_X8_chances l g σ2 (bl_R σ2 a0 2) _ h5 h8) rfl rfl ⟨Nat.le_of_ble_eq_true rfl, Nat.le_of_ble_eq_true rfl⟩ rfl rfl (Nat.le_of_ble_eq_true rfl) ⟨Nat.zero_le _, Nat.zero_le _⟩ dX9_gain_17 (fun H locs V => ?_)
    refine lv_icmp_eq (tgt := 35) X.1 X.2.1 dX9_gain_20 (by decide) (fun c9 => ?_) (fun c9 => ?_)
    · have hf := bl_ifp c9 hf
      refine lv_ldc2 (v := (-9223372036854775808)) X.1 X.2.1 X.2.2.2.1 (X.2.2.2.2.1 _ kl_X9_289) dX9_gain_35 ?_
      exact bl_retl X V hr hf dX9_gain_38
    · have hf := bl_ifn c9 hf
      refine lv_aload_n X.1 X.2.1 dX9_gain_23 rfl (lv_at hl 0 rfl) ?_
      refine bl_getr X V ha0 fl_X9_26 rfl dX9_gain_24 (fun h10 => ?_)
      refine lv_iload X.1 X.2.1 dX9_gain_27 (lv_at hl 6 rfl) ?_
      obtain ⟨r11, σ12, h13, hf⟩ := bl_bd_at hf
      refine bl_cVi (As := [.int a6]) X V hl.1 h10 rfl ml_X9_133 mV_X8_hasSort (t_X8_hasSort l g σ7 (bl_R σ7 a0 2) a6 _ h10 h13) rfl rfl ⟨Nat.le_of_ble_eq_true rfl, Nat.le_of_ble_eq_true rfl⟩ rfl rfl (Nat.le_of_ble_eq_true rfl) ⟨Nat.zero_le _, Nat.zero_le _⟩ dX9_gain_29 (fun H locs V => ?_)
      refine lv_if_ne (tgt := 39) X.1 X.2.1 dX9_gain_32 (by decide) (fun c14 => ?_) (fun c14 => ?_)
      · have hf := bl_ifn c14 hf
        refine lv_aload_n X.1 X.2.1 dX9_gain_39 rfl (lv_at hl 0 rfl) ?_
        refine bl_getr X V ha0 fl_X9_55 rfl dX9_gain_40 (fun h15 => ?_)
        refine lv_iload_n X.1 X.2.1 dX9_gain_43 rfl (lv_at hl 1 rfl) ?_
        refine lv_iconst (v := 1) X.1 X.2.1 dX9_gain_44 (by decide) ?_
        refine lv_isub X.1 X.2.1 dX9_gain_45 ?_
        obtain ⟨r16, σ17, h18, hf⟩ := bl_bd_at hf
        refine bl_cVv (As := [.int (a1 - 1)]) X V hl.1 h15 rfl ml_X9_260 mV_X4_learn (t_X4_learn l g σ12 (bl_R σ12 a0 7) (a1 - 1) _ h15 h18) rfl rfl ⟨Nat.le_of_ble_eq_true rfl, Nat.le_of_ble_eq_true rfl⟩ rfl rfl (Nat.le_of_ble_eq_true rfl) ⟨Nat.zero_le _, Nat.zero_le _⟩ dX9_gain_46 (fun H locs V => ?_)
        refine lv_aload_n X.1 X.2.1 dX9_gain_49 rfl (lv_at hl 0 rfl) ?_
        refine bl_getr X V ha0 fl_X9_55 rfl dX9_gain_50 (fun h19 => ?_)
        refine lv_iload_n X.1 X.2.1 dX9_gain_53 rfl (lv_at hl 1 rfl) ?_
        refine lv_iload_n X.1 X.2.1 dX9_gain_54 rfl (lv_at hl 2 rfl) ?_
        refine lv_iload_n X.1 X.2.1 dX9_gain_55 rfl (lv_at hl 3 rfl) ?_
        refine lv_iload X.1 X.2.1 dX9_gain_56 (lv_at hl 4 rfl) ?_
        refine lv_iload X.1 X.2.1 dX9_gain_58 (lv_at hl 5 rfl) ?_
        obtain ⟨r20, σ21, h22, hf⟩ := bl_bd_at hf
        refine bl_cVv (As := [.int a1, .int a2, .int a3, .int a4, .int a5]) X V hl.1 h19 rfl ml_X9_270 mV_X4_lookAhead (t_X4_lookAhead l g σ17 (bl_R σ17 a0 7) a1 a2 a3 a4 a5 _ h19 h22) rfl rfl ⟨Nat.le_of_ble_eq_true rfl, Nat.le_of_ble_eq_true rfl⟩ rfl rfl (Nat.le_of_ble_eq_true rfl) ⟨Nat.zero_le _, Nat.zero_le _⟩ dX9_gain_60 (fun H locs V => ?_)
        refine lv_aload_n X.1 X.2.1 dX9_gain_63 rfl (lv_at hl 0 rfl) ?_
        refine bl_getr X V ha0 fl_X9_55 rfl dX9_gain_64 (fun h23 => ?_)
        refine lv_iload_n X.1 X.2.1 dX9_gain_67 rfl (lv_at hl 3 rfl) ?_
        refine lv_iload X.1 X.2.1 dX9_gain_68 (lv_at hl 4 rfl) ?_
        refine lv_iload X.1 X.2.1 dX9_gain_70 (lv_at hl 5 rfl) ?_
        refine lv_iload X.1 X.2.1 dX9_gain_72 (lv_at hl 6 rfl) ?_
        obtain ⟨r24, σ25, h26, hf⟩ := bl_bd_at hf
        refine bl_cVl (As := [.int a3, .int a4, .int a5, .int a6]) X V hl.1 h23 rfl ml_X9_285 mV_X4_gainOf (t_X4_gainOf l g σ21 (bl_R σ21 a0 7) a3 a4 a5 a6 _ h23 h26) rfl rfl ⟨Nat.le_of_ble_eq_true rfl, Nat.le_of_ble_eq_true rfl⟩ rfl rfl (Nat.le_of_ble_eq_true rfl) ⟨Nat.zero_le _, Nat.zero_le _⟩ dX9_gain_74 (fun H locs V => ?_)
        exact bl_retl X V hr hf dX9_gain_77
      · have hf := bl_ifp c14 hf
        refine lv_ldc2 (v := (-9223372036854775808)) X.1 X.2.1 X.2.2.2.1 (X.2.2.2.2.1 _ kl_X9_289) dX9_gain_35 ?_
        exact bl_retl X V hr hf dX9_gain_38
set_option maxHeartbeats 4000000 in
set_option maxRecDepth 100000 in
theorem w_X9_patience_26 {p : Program} {l : Launch} {e : Env} {s : State} {m : MethodId} {below : List Frame} {meth : Method} {c : Code} {g : bl_Gp} {as : List Value} {out : Int32 × bl_St} (X : bl_Cx g p s m as.toArray meth c cX9_patience 4 RX9) (hr : meth.sig.returnType = (Option.some Jvm.ClassFile.FieldType.int)) (k26 : bl_St → Nat → Int32 → Int32 → Int32 → Option (Int32 × bl_St)) (hk26 : ∀ (σ : bl_St) (v0 : Nat) (v1 : Int32) (v2 : Int32) (v3 : Int32), bl_sh[v0]? = some (9, 13) → k26 σ v0 v1 v2 v3 = some out → ∀ (H : Heap) (locs : List Loc) (ls : Array Slot), bl_V g s σ H locs → lv_has ls 4 [(0, .ref (bl_ad g v0)), (1, .int v1), (2, .int v2), (3, .int v3)] → W p l e (bl_rm 4 111) s m as.toArray below meth c H locs 0 0 (bl_Qi below g s as out) (F0 m 26 ls [])) : ∀ (σ : bl_St) (v0 : Nat) (v1 : Int32) (v2 : Int32) (v3 : Int32), bl_sh[v0]? = some (9, 13) → (b_X9_patience_26 k26) σ v0 v1 v2 v3 = some out → ∀ (H : Heap) (locs : List Loc) (ls : Array Slot), bl_V g s σ H locs → lv_has ls 4 [(0, .ref (bl_ad g v0)), (1, .int v1), (2, .int v2), (3, .int v3)] → W p l e (bl_rm 4 111) s m as.toArray below meth c H locs 0 0 (bl_Qi below g s as out) (F0 m 26 ls []) := by
  intro σ v0 v1 v2 v3 hv0 hf H locs ls V hl
  unfold b_X9_patience_26 at hf
  refine lv_iload_n X.1 X.2.1 dX9_patience_26 rfl (lv_at hl 3 rfl) ?_
  refine lv_bipush (v := 20) X.1 X.2.1 dX9_patience_27 (by decide) ?_
  refine lv_icmp_gt (tgt := 78) X.1 X.2.1 dX9_patience_29 (by decide) (fun c1 => ?_) (fun c1 => ?_)
  · have hf := bl_ifp c1 hf
    refine lv_bipush (v := (-2)) X.1 X.2.1 dX9_patience_78 (by decide) ?_
    exact bl_reti X V hr hf dX9_patience_80
  · have hf := bl_ifn c1 hf
    refine lv_aload_n X.1 X.2.1 dX9_patience_32 rfl (lv_at hl 0 rfl) ?_
    refine bl_getr X V hv0 fl_X9_55 rfl dX9_patience_33 (fun h2 => ?_)
    refine lv_iload_n X.1 X.2.1 dX9_patience_36 rfl (lv_at hl 3 rfl) ?_
    refine lv_iconst (v := 1) X.1 X.2.1 dX9_patience_37 (by decide) ?_
    refine lv_isub X.1 X.2.1 dX9_patience_38 ?_
    obtain ⟨r3, σ4, h5, hf⟩ := bl_bd_at hf
    refine bl_cVv (As := [.int (v3 - 1)]) X V hl.1 h2 rfl ml_X9_260 mV_X4_learn (t_X4_learn l g σ (bl_R σ v0 7) (v3 - 1) _ h2 h5) rfl rfl ⟨Nat.le_of_ble_eq_true rfl, Nat.le_of_ble_eq_true rfl⟩ rfl rfl (Nat.le_of_ble_eq_true rfl) ⟨Nat.zero_le _, Nat.zero_le _⟩ dX9_patience_39 (fun H locs V => ?_)
    refine lv_aload_n X.1 X.2.1 dX9_patience_42 rfl (lv_at hl 0 rfl) ?_
    refine bl_getr X V hv0 fl_X9_55 rfl dX9_patience_43 (fun h6 => ?_)
    refine lv_iload_n X.1 X.2.1 dX9_patience_46 rfl (lv_at hl 3 rfl) ?_
    refine lv_iload_n X.1 X.2.1 dX9_patience_47 rfl (lv_at hl 1 rfl) ?_
    refine lv_iconst (v := 0) X.1 X.2.1 dX9_patience_48 (by decide) ?_
    refine lv_iconst (v := 0) X.1 X.2.1 dX9_patience_49 (by decide) ?_
    refine lv_iconst (v := 0) X.1 X.2.1 dX9_patience_50 (by decide) ?_
    obtain ⟨r7, σ8, h9, hf⟩ := bl_bd_at hf
    refine bl_cVv (As := [.int v3, .int v1, .int 0, .int 0, .int 0]) X V hl.1 h6 rfl ml_X9_270 mV_X4_lookAhead (t_X4_lookAhead l g σ4 (bl_R σ4 v0 7) v3 v1 0 0 0 _ h6 h9) rfl rfl ⟨Nat.le_of_ble_eq_true rfl, Nat.le_of_ble_eq_true rfl⟩ rfl rfl (Nat.le_of_ble_eq_true rfl) ⟨Nat.zero_le _, Nat.zero_le _⟩ dX9_patience_51 (fun H locs V => ?_)
    refine lv_aload_n X.1 X.2.1 dX9_patience_54 rfl (lv_at hl 0 rfl) ?_
    refine bl_getr X V hv0 fl_X9_55 rfl dX9_patience_55 (fun h10 => ?_)
    refine lv_iconst (v := 0) X.1 X.2.1 dX9_patience_58 (by decide) ?_
    refine lv_iconst (v := 0) X.1 X.2.1 dX9_patience_59 (by decide) ?_
    refine lv_iconst (v := 0) X.1 X.2.1 dX9_patience_60 (by decide) ?_
    refine lv_iload_n X.1 X.2.1 dX9_patience_61 rfl (lv_at hl 2 rfl) ?_
    obtain ⟨r11, σ12, h13, hf⟩ := bl_bd_at hf
    refine bl_cVl (As := [.int 0, .int 0, .int 0, .int v2]) X V hl.1 h10 rfl ml_X9_285 mV_X4_gainOf (t_X4_gainOf l g σ8 (bl_R σ8 v0 7) 0 0 0 v2 _ h10 h13) rfl rfl ⟨Nat.le_of_ble_eq_true rfl, Nat.le_of_ble_eq_true rfl⟩ rfl rfl (Nat.le_of_ble_eq_true rfl) ⟨Nat.zero_le _, Nat.zero_le _⟩ dX9_patience_62 (fun H locs V => ?_)
    refine lv_lconst (v := 0) X.1 X.2.1 dX9_patience_65 (by decide) ?_
    refine bl_lc_gt (tgt := 72) X dX9_patience_66 dX9_patience_67 (by decide) (fun c14 => ?_) (fun c14 => ?_)
    · have hf := bl_ifp c14 hf
      obtain ⟨x15, e16⟩ : ∃ z : Int32, z = v3 + 1 := ⟨_, rfl⟩
      have hf := bl_let_at e16 hf
      refine lv_iinc (v := x15) (lv' := [(3, .int x15), (0, .ref (bl_ad g v0)), (1, .int v1), (2, .int v2)]) X.1 X.2.1 dX9_patience_72 hl (k := 3) rfl (by rw [e16]; rfl) (by decide) rfl (fun ls hl => ?_)
      refine lv_goto (tgt := 26) X.1 X.2.1 dX9_patience_75 (by decide) ?_
      exact hk26 σ12 v0 v1 v2 x15 hv0 hf _ _ _ V (lv_sub hl [1, 2, 3, 0] rfl)
    · have hf := bl_ifn c14 hf
      refine lv_iload_n X.1 X.2.1 dX9_patience_70 rfl (lv_at hl 3 rfl) ?_
      exact bl_reti X V hr hf dX9_patience_71
theorem l_X9_patience_26 {p : Program} {l : Launch} {e : Env} {s : State} {m : MethodId} {below : List Frame} {meth : Method} {c : Code} {g : bl_Gp} {as : List Value} {out : Int32 × bl_St} (X : bl_Cx g p s m as.toArray meth c cX9_patience 4 RX9) (hr : meth.sig.returnType = (Option.some Jvm.ClassFile.FieldType.int)) (n : Nat) : ∀ (σ : bl_St) (v0 : Nat) (v1 : Int32) (v2 : Int32) (v3 : Int32), bl_sh[v0]? = some (9, 13) → (bl_fx (fun _ _ _ _ _ => none) (b_X9_patience_26 ) n) σ v0 v1 v2 v3 = some out → ∀ (H : Heap) (locs : List Loc) (ls : Array Slot), bl_V g s σ H locs → lv_has ls 4 [(0, .ref (bl_ad g v0)), (1, .int v1), (2, .int v2), (3, .int v3)] → W p l e (bl_rm 4 111) s m as.toArray below meth c H locs 0 0 (bl_Qi below g s as out) (F0 m 26 ls []) := by
  induction n with
  | zero =>
    intro σ v0 v1 v2 v3 hv0 hf H locs ls V hl
    cases hf
  | succ n ih => exact w_X9_patience_26 X hr  _ ih
set_option maxHeartbeats 4000000 in
set_option maxRecDepth 100000 in
theorem t_X9_patience (l : Launch) (g : bl_Gp) (σ : bl_St) (a0 : Nat) (a1 : Int32) (a2 : Int32) (o : Int32 × bl_St) (ha0 : bl_sh[a0]? = some (9, 13)) (hf : f_X9_patience σ a0 a1 a2 = some o) : bl_Ci l g yX9_patience cX9_patience 4 (Option.some Jvm.ClassFile.FieldType.int) (bl_rm 4 111) [.ref (bl_ad g a0), .int a1, .int a2] σ o := by
  refine bl_met (by decide) (Nat.le_of_ble_eq_true rfl) (fun p e s m below meth c ls X hr V hl => ?_)
  have hl : lv_has ls 4 [(0, .ref (bl_ad g a0)), (1, .int a1), (2, .int a2)] := hl
  unfold f_X9_patience at hf
  refine lv_aload_n X.1 X.2.1 dX9_patience_0 rfl (lv_at hl 0 rfl) ?_
  refine bl_getr X V ha0 fl_X9_26 rfl dX9_patience_1 (fun h17 => ?_)
  refine lv_iload_n X.1 X.2.1 dX9_patience_4 rfl (lv_at hl 1 rfl) ?_
  obtain ⟨r18, σ19, h20, hf⟩ := bl_bd_at hf
  refine bl_cVi (As := [.int a1]) X V hl.1 h17 rfl ml_X9_114 mV_X8_hasClass (t_X8_hasClass l g σ (bl_R σ a0 2) a1 _ h17 h20) rfl rfl ⟨Nat.le_of_ble_eq_true rfl, Nat.le_of_ble_eq_true rfl⟩ rfl rfl (Nat.le_of_ble_eq_true rfl) ⟨Nat.zero_le _, Nat.zero_le _⟩ dX9_patience_5 (fun H locs V => ?_)
  refine lv_if_eq (tgt := 22) X.1 X.2.1 dX9_patience_8 (by decide) (fun c21 => ?_) (fun c21 => ?_)
  · have hf := bl_ifp c21 hf
    refine lv_iconst (v := (-1)) X.1 X.2.1 dX9_patience_22 (by decide) ?_
    exact bl_reti X V hr hf dX9_patience_23
  · have hf := bl_ifn c21 hf
    refine lv_aload_n X.1 X.2.1 dX9_patience_11 rfl (lv_at hl 0 rfl) ?_
    refine bl_getr X V ha0 fl_X9_26 rfl dX9_patience_12 (fun h22 => ?_)
    refine lv_iload_n X.1 X.2.1 dX9_patience_15 rfl (lv_at hl 2 rfl) ?_
    obtain ⟨r23, σ24, h25, hf⟩ := bl_bd_at hf
    refine bl_cVi (As := [.int a2]) X V hl.1 h22 rfl ml_X9_133 mV_X8_hasSort (t_X8_hasSort l g σ19 (bl_R σ19 a0 2) a2 _ h22 h25) rfl rfl ⟨Nat.le_of_ble_eq_true rfl, Nat.le_of_ble_eq_true rfl⟩ rfl rfl (Nat.le_of_ble_eq_true rfl) ⟨Nat.zero_le _, Nat.zero_le _⟩ dX9_patience_16 (fun H locs V => ?_)
    refine lv_if_ne (tgt := 24) X.1 X.2.1 dX9_patience_19 (by decide) (fun c26 => ?_) (fun c26 => ?_)
    · have hf := bl_ifn c26 hf
      refine lv_iconst (v := 1) X.1 X.2.1 dX9_patience_24 (by decide) ?_
      refine lv_istore_n (lv' := [(3, .int 1), (0, .ref (bl_ad g a0)), (1, .int a1), (2, .int a2)]) X.1 X.2.1 dX9_patience_25 rfl hl (by decide) rfl (fun ls hl => ?_)
      exact l_X9_patience_26 X hr  bl_fu σ24 a0 a1 a2 1 ha0 hf _ _ _ V (lv_sub hl [1, 2, 3, 0] rfl)
    · have hf := bl_ifp c26 hf
      refine lv_iconst (v := (-1)) X.1 X.2.1 dX9_patience_22 (by decide) ?_
      exact bl_reti X V hr hf dX9_patience_23
set_option maxHeartbeats 4000000 in
set_option maxRecDepth 100000 in
theorem t_X9_worst (l : Launch) (g : bl_Gp) (σ : bl_St) (a0 : Nat) (a1 : Int32) (a2 : Int32) (o : Int64 × bl_St) (ha0 : bl_sh[a0]? = some (9, 13)) (hf : f_X9_worst σ a0 a1 a2 = some o) : bl_Cl l g yX9_worst cX9_worst 3 (Option.some Jvm.ClassFile.FieldType.long) (bl_rm 5 133) [.ref (bl_ad g a0), .int a1, .int a2] σ o := by
  refine bl_met (by decide) (Nat.le_of_ble_eq_true rfl) (fun p e s m below meth c ls X hr V hl => ?_)
  have hl : lv_has ls 3 [(0, .ref (bl_ad g a0)), (1, .int a1), (2, .int a2)] := hl
  unfold f_X9_worst at hf
  refine lv_aload_n X.1 X.2.1 dX9_worst_0 rfl (lv_at hl 0 rfl) ?_
  refine lv_iload_n X.1 X.2.1 dX9_worst_1 rfl (lv_at hl 1 rfl) ?_
  refine lv_iload_n X.1 X.2.1 dX9_worst_2 rfl (lv_at hl 2 rfl) ?_
  obtain ⟨r1, σ2, h3, hf⟩ := bl_bd_at hf
  refine bl_cVi (As := [.int a1, .int a2]) X V hl.1 ha0 rfl ml_X9_251 mV_X9_isAsked (t_X9_isAsked l g σ a0 a1 a2 _ ha0 h3) rfl rfl ⟨Nat.le_of_ble_eq_true rfl, Nat.le_of_ble_eq_true rfl⟩ rfl rfl (Nat.le_of_ble_eq_true rfl) ⟨Nat.zero_le _, Nat.zero_le _⟩ dX9_worst_3 (fun H locs V => ?_)
  refine lv_if_ne (tgt := 13) X.1 X.2.1 dX9_worst_6 (by decide) (fun c4 => ?_) (fun c4 => ?_)
  · have hf := bl_ifn c4 hf
    refine lv_aload_n X.1 X.2.1 dX9_worst_13 rfl (lv_at hl 0 rfl) ?_
    refine bl_getr X V ha0 fl_X9_59 rfl dX9_worst_14 (fun h5 => ?_)
    refine lv_aload_n X.1 X.2.1 dX9_worst_17 rfl (lv_at hl 0 rfl) ?_
    refine bl_getr X V ha0 fl_X9_26 rfl dX9_worst_18 (fun h6 => ?_)
    refine lv_iconst (v := 0) X.1 X.2.1 dX9_worst_21 (by decide) ?_
    obtain ⟨r7, σ8, h9, hf⟩ := bl_bd_at hf
    refine bl_cVv (As := [.ref (bl_ad g (bl_R σ2 a0 2)), .int 0]) X V hl.1 h5 rfl ml_X9_107 mV_X4_look (t_X4_look l g σ2 (bl_R σ2 a0 8) (bl_R σ2 a0 2) 0 _ h5 h6 h9) rfl rfl ⟨Nat.le_of_ble_eq_true rfl, Nat.le_of_ble_eq_true rfl⟩ rfl rfl (Nat.le_of_ble_eq_true rfl) ⟨Nat.zero_le _, Nat.zero_le _⟩ dX9_worst_22 (fun H locs V => ?_)
    refine lv_aload_n X.1 X.2.1 dX9_worst_25 rfl (lv_at hl 0 rfl) ?_
    refine bl_getr X V ha0 fl_X9_59 rfl dX9_worst_26 (fun h10 => ?_)
    refine lv_iconst (v := 1) X.1 X.2.1 dX9_worst_29 (by decide) ?_
    refine bl_puti X V h10 fp_X9_291 rfl rfl dX9_worst_30 (fun σ11 H locs e12 V => ?_)
    have hf := bl_let_at e12 hf
    refine lv_aload_n X.1 X.2.1 dX9_worst_33 rfl (lv_at hl 0 rfl) ?_
    refine bl_getr X V ha0 fl_X9_59 rfl dX9_worst_34 (fun h13 => ?_)
    refine lv_iload_n X.1 X.2.1 dX9_worst_37 rfl (lv_at hl 1 rfl) ?_
    refine lv_iload_n X.1 X.2.1 dX9_worst_38 rfl (lv_at hl 2 rfl) ?_
    obtain ⟨r14, σ15, h16, hf⟩ := bl_bd_at hf
    refine bl_cVl (As := [.int a1, .int a2]) X V hl.1 h13 rfl ml_X9_256 mV_X4_costOf (t_X4_costOf l g σ11 (bl_R σ11 a0 8) a1 a2 _ h13 h16) rfl rfl ⟨Nat.le_of_ble_eq_true rfl, Nat.le_of_ble_eq_true rfl⟩ rfl rfl (Nat.le_of_ble_eq_true rfl) ⟨Nat.zero_le _, Nat.zero_le _⟩ dX9_worst_39 (fun H locs V => ?_)
    exact bl_retl X V hr hf dX9_worst_42
  · have hf := bl_ifp c4 hf
    refine lv_ldc2 (v := (-1)) X.1 X.2.1 X.2.2.2.1 (X.2.2.2.2.1 _ kl_X9_254) dX9_worst_9 ?_
    exact bl_retl X V hr hf dX9_worst_12
set_option maxHeartbeats 4000000 in
set_option maxRecDepth 100000 in
theorem t_X9_bareCost (l : Launch) (g : bl_Gp) (σ : bl_St) (a0 : Nat) (a1 : Int32) (a2 : Int32) (o : Int64 × bl_St) (ha0 : bl_sh[a0]? = some (9, 13)) (hf : f_X9_bareCost σ a0 a1 a2 = some o) : bl_Cl l g yX9_bareCost cX9_bareCost 3 (Option.some Jvm.ClassFile.FieldType.long) (bl_rm 5 133) [.ref (bl_ad g a0), .int a1, .int a2] σ o := by
  refine bl_met (by decide) (Nat.le_of_ble_eq_true rfl) (fun p e s m below meth c ls X hr V hl => ?_)
  have hl : lv_has ls 3 [(0, .ref (bl_ad g a0)), (1, .int a1), (2, .int a2)] := hl
  unfold f_X9_bareCost at hf
  refine lv_aload_n X.1 X.2.1 dX9_bareCost_0 rfl (lv_at hl 0 rfl) ?_
  refine bl_getr X V ha0 fl_X9_59 rfl dX9_bareCost_1 (fun h1 => ?_)
  refine lv_aload_n X.1 X.2.1 dX9_bareCost_4 rfl (lv_at hl 0 rfl) ?_
  refine bl_getr X V ha0 fl_X9_26 rfl dX9_bareCost_5 (fun h2 => ?_)
  refine lv_iconst (v := 0) X.1 X.2.1 dX9_bareCost_8 (by decide) ?_
  obtain ⟨r3, σ4, h5, hf⟩ := bl_bd_at hf
  refine bl_cVv (As := [.ref (bl_ad g (bl_R σ a0 2)), .int 0]) X V hl.1 h1 rfl ml_X9_107 mV_X4_look (t_X4_look l g σ (bl_R σ a0 8) (bl_R σ a0 2) 0 _ h1 h2 h5) rfl rfl ⟨Nat.le_of_ble_eq_true rfl, Nat.le_of_ble_eq_true rfl⟩ rfl rfl (Nat.le_of_ble_eq_true rfl) ⟨Nat.zero_le _, Nat.zero_le _⟩ dX9_bareCost_9 (fun H locs V => ?_)
  refine lv_aload_n X.1 X.2.1 dX9_bareCost_12 rfl (lv_at hl 0 rfl) ?_
  refine bl_getr X V ha0 fl_X9_59 rfl dX9_bareCost_13 (fun h6 => ?_)
  refine lv_iload_n X.1 X.2.1 dX9_bareCost_16 rfl (lv_at hl 1 rfl) ?_
  refine lv_iload_n X.1 X.2.1 dX9_bareCost_17 rfl (lv_at hl 2 rfl) ?_
  obtain ⟨r7, σ8, h9, hf⟩ := bl_bd_at hf
  refine bl_cVl (As := [.int a1, .int a2]) X V hl.1 h6 rfl ml_X9_256 mV_X4_costOf (t_X4_costOf l g σ4 (bl_R σ4 a0 8) a1 a2 _ h6 h9) rfl rfl ⟨Nat.le_of_ble_eq_true rfl, Nat.le_of_ble_eq_true rfl⟩ rfl rfl (Nat.le_of_ble_eq_true rfl) ⟨Nat.zero_le _, Nat.zero_le _⟩ dX9_bareCost_18 (fun H locs V => ?_)
  exact bl_retl X V hr hf dX9_bareCost_21
set_option maxHeartbeats 4000000 in
set_option maxRecDepth 100000 in
theorem t_X9_bare (l : Launch) (g : bl_Gp) (σ : bl_St) (a0 : Nat) (a1 : Int32) (a2 : Int32) (o : Int64 × bl_St) (ha0 : bl_sh[a0]? = some (9, 13)) (hf : f_X9_bare σ a0 a1 a2 = some o) : bl_Cl l g yX9_bare cX9_bare 3 (Option.some Jvm.ClassFile.FieldType.long) (bl_rm 6 155) [.ref (bl_ad g a0), .int a1, .int a2] σ o := by
  refine bl_met (by decide) (Nat.le_of_ble_eq_true rfl) (fun p e s m below meth c ls X hr V hl => ?_)
  have hl : lv_has ls 3 [(0, .ref (bl_ad g a0)), (1, .int a1), (2, .int a2)] := hl
  unfold f_X9_bare at hf
  refine lv_aload_n X.1 X.2.1 dX9_bare_0 rfl (lv_at hl 0 rfl) ?_
  refine lv_iload_n X.1 X.2.1 dX9_bare_1 rfl (lv_at hl 1 rfl) ?_
  refine lv_iload_n X.1 X.2.1 dX9_bare_2 rfl (lv_at hl 2 rfl) ?_
  obtain ⟨r1, σ2, h3, hf⟩ := bl_bd_at hf
  refine bl_cVi (As := [.int a1, .int a2]) X V hl.1 ha0 rfl ml_X9_251 mV_X9_isAsked (t_X9_isAsked l g σ a0 a1 a2 _ ha0 h3) rfl rfl ⟨Nat.le_of_ble_eq_true rfl, Nat.le_of_ble_eq_true rfl⟩ rfl rfl (Nat.le_of_ble_eq_true rfl) ⟨Nat.zero_le _, Nat.zero_le _⟩ dX9_bare_3 (fun H locs V => ?_)
  refine lv_if_ne (tgt := 13) X.1 X.2.1 dX9_bare_6 (by decide) (fun c4 => ?_) (fun c4 => ?_)
  · have hf := bl_ifn c4 hf
    refine lv_aload_n X.1 X.2.1 dX9_bare_13 rfl (lv_at hl 0 rfl) ?_
    refine lv_iload_n X.1 X.2.1 dX9_bare_14 rfl (lv_at hl 1 rfl) ?_
    refine lv_iload_n X.1 X.2.1 dX9_bare_15 rfl (lv_at hl 2 rfl) ?_
    obtain ⟨r5, σ6, h7, hf⟩ := bl_bd_at hf
    refine bl_cVl (As := [.int a1, .int a2]) X V hl.1 ha0 rfl ml_X9_294 mV_X9_bareCost (t_X9_bareCost l g σ2 a0 a1 a2 _ ha0 h7) rfl rfl ⟨Nat.le_of_ble_eq_true rfl, Nat.le_of_ble_eq_true rfl⟩ rfl rfl (Nat.le_of_ble_eq_true rfl) ⟨Nat.zero_le _, Nat.zero_le _⟩ dX9_bare_16 (fun H locs V => ?_)
    exact bl_retl X V hr hf dX9_bare_19
  · have hf := bl_ifp c4 hf
    refine lv_ldc2 (v := (-1)) X.1 X.2.1 X.2.2.2.1 (X.2.2.2.2.1 _ kl_X9_254) dX9_bare_9 ?_
    exact bl_retl X V hr hf dX9_bare_12
set_option maxHeartbeats 4000000 in
set_option maxRecDepth 100000 in
theorem t_X9_costByRule (l : Launch) (g : bl_Gp) (σ : bl_St) (a0 : Nat) (a1 : Int32) (a2 : Int32) (a3 : Int32) (a4 : Int32) (o : Int64 × bl_St) (ha0 : bl_sh[a0]? = some (9, 13)) (hf : f_X9_costByRule σ a0 a1 a2 a3 a4 = some o) : bl_Cl l g yX9_costByRule cX9_costByRule 5 (Option.some Jvm.ClassFile.FieldType.long) (bl_rm 5 133) [.ref (bl_ad g a0), .int a1, .int a2, .int a3, .int a4] σ o := by
  refine bl_met (by decide) (Nat.le_of_ble_eq_true rfl) (fun p e s m below meth c ls X hr V hl => ?_)
  have hl : lv_has ls 5 [(0, .ref (bl_ad g a0)), (1, .int a1), (2, .int a2), (3, .int a3), (4, .int a4)] := hl
  unfold f_X9_costByRule at hf
  refine lv_aload_n X.1 X.2.1 dX9_costByRule_0 rfl (lv_at hl 0 rfl) ?_
  refine bl_getr X V ha0 fl_X9_59 rfl dX9_costByRule_1 (fun h1 => ?_)
  refine lv_aload_n X.1 X.2.1 dX9_costByRule_4 rfl (lv_at hl 0 rfl) ?_
  refine bl_getr X V ha0 fl_X9_26 rfl dX9_costByRule_5 (fun h2 => ?_)
  refine lv_iconst (v := 0) X.1 X.2.1 dX9_costByRule_8 (by decide) ?_
  obtain ⟨r3, σ4, h5, hf⟩ := bl_bd_at hf
  refine bl_cVv (As := [.ref (bl_ad g (bl_R σ a0 2)), .int 0]) X V hl.1 h1 rfl ml_X9_107 mV_X4_look (t_X4_look l g σ (bl_R σ a0 8) (bl_R σ a0 2) 0 _ h1 h2 h5) rfl rfl ⟨Nat.le_of_ble_eq_true rfl, Nat.le_of_ble_eq_true rfl⟩ rfl rfl (Nat.le_of_ble_eq_true rfl) ⟨Nat.zero_le _, Nat.zero_le _⟩ dX9_costByRule_9 (fun H locs V => ?_)
  refine lv_aload_n X.1 X.2.1 dX9_costByRule_12 rfl (lv_at hl 0 rfl) ?_
  refine bl_getr X V ha0 fl_X9_59 rfl dX9_costByRule_13 (fun h6 => ?_)
  refine lv_iload_n X.1 X.2.1 dX9_costByRule_16 rfl (lv_at hl 1 rfl) ?_
  refine bl_puti X V h6 fp_X9_379 rfl rfl dX9_costByRule_17 (fun σ7 H locs e8 V => ?_)
  have hf := bl_let_at e8 hf
  refine lv_aload_n X.1 X.2.1 dX9_costByRule_20 rfl (lv_at hl 0 rfl) ?_
  refine bl_getr X V ha0 fl_X9_59 rfl dX9_costByRule_21 (fun h9 => ?_)
  refine lv_iload_n X.1 X.2.1 dX9_costByRule_24 rfl (lv_at hl 2 rfl) ?_
  refine bl_puti X V h9 fp_X9_382 rfl rfl dX9_costByRule_25 (fun σ10 H locs e11 V => ?_)
  have hf := bl_let_at e11 hf
  refine lv_aload_n X.1 X.2.1 dX9_costByRule_28 rfl (lv_at hl 0 rfl) ?_
  refine bl_getr X V ha0 fl_X9_59 rfl dX9_costByRule_29 (fun h12 => ?_)
  refine lv_iload_n X.1 X.2.1 dX9_costByRule_32 rfl (lv_at hl 3 rfl) ?_
  refine lv_iload X.1 X.2.1 dX9_costByRule_33 (lv_at hl 4 rfl) ?_
  obtain ⟨r13, σ14, h15, hf⟩ := bl_bd_at hf
  refine bl_cVl (As := [.int a3, .int a4]) X V hl.1 h12 rfl ml_X9_256 mV_X4_costOf (t_X4_costOf l g σ10 (bl_R σ10 a0 8) a3 a4 _ h12 h15) rfl rfl ⟨Nat.le_of_ble_eq_true rfl, Nat.le_of_ble_eq_true rfl⟩ rfl rfl (Nat.le_of_ble_eq_true rfl) ⟨Nat.zero_le _, Nat.zero_le _⟩ dX9_costByRule_35 (fun H locs V => ?_)
  exact bl_retl X V hr hf dX9_costByRule_38
set_option maxHeartbeats 4000000 in
set_option maxRecDepth 100000 in
theorem t_X9_by (l : Launch) (g : bl_Gp) (σ : bl_St) (a0 : Nat) (a1 : Int32) (a2 : Int32) (a3 : Int32) (a4 : Int32) (o : Int64 × bl_St) (ha0 : bl_sh[a0]? = some (9, 13)) (hf : f_X9_by σ a0 a1 a2 a3 a4 = some o) : bl_Cl l g yX9_by cX9_by 5 (Option.some Jvm.ClassFile.FieldType.long) (bl_rm 6 157) [.ref (bl_ad g a0), .int a1, .int a2, .int a3, .int a4] σ o := by
  refine bl_met (by decide) (Nat.le_of_ble_eq_true rfl) (fun p e s m below meth c ls X hr V hl => ?_)
  have hl : lv_has ls 5 [(0, .ref (bl_ad g a0)), (1, .int a1), (2, .int a2), (3, .int a3), (4, .int a4)] := hl
  unfold f_X9_by at hf
  refine lv_aload_n X.1 X.2.1 dX9_by_0 rfl (lv_at hl 0 rfl) ?_
  refine lv_iload_n X.1 X.2.1 dX9_by_1 rfl (lv_at hl 3 rfl) ?_
  refine lv_iload X.1 X.2.1 dX9_by_2 (lv_at hl 4 rfl) ?_
  obtain ⟨r1, σ2, h3, hf⟩ := bl_bd_at hf
  refine bl_cVi (As := [.int a3, .int a4]) X V hl.1 ha0 rfl ml_X9_251 mV_X9_isAsked (t_X9_isAsked l g σ a0 a3 a4 _ ha0 h3) rfl rfl ⟨Nat.le_of_ble_eq_true rfl, Nat.le_of_ble_eq_true rfl⟩ rfl rfl (Nat.le_of_ble_eq_true rfl) ⟨Nat.zero_le _, Nat.zero_le _⟩ dX9_by_4 (fun H locs V => ?_)
  refine lv_if_eq (tgt := 18) X.1 X.2.1 dX9_by_7 (by decide) (fun c4 => ?_) (fun c4 => ?_)
  · have hf := bl_ifp c4 hf
    refine lv_ldc2 (v := (-1)) X.1 X.2.1 X.2.2.2.1 (X.2.2.2.2.1 _ kl_X9_254) dX9_by_18 ?_
    exact bl_retl X V hr hf dX9_by_21
  · have hf := bl_ifn c4 hf
    refine lv_iload_n X.1 X.2.1 dX9_by_10 rfl (lv_at hl 1 rfl) ?_
    refine lv_iload_n X.1 X.2.1 dX9_by_11 rfl (lv_at hl 2 rfl) ?_
    obtain ⟨r5, σ6, h7, hf⟩ := bl_bd_at hf
    refine bl_cSi (As := [.int a1, .int a2]) X V hl.1 ml_X9_297 mS_X9_isThumb (t_X9_isThumb l g σ2 a1 a2 _  h7) rfl rfl ⟨Nat.le_of_ble_eq_true rfl, Nat.le_of_ble_eq_true rfl⟩ rfl rfl (Nat.le_of_ble_eq_true rfl) ⟨Nat.zero_le _, Nat.zero_le _⟩ dX9_by_12 (fun H locs V => ?_)
    refine lv_if_ne (tgt := 22) X.1 X.2.1 dX9_by_15 (by decide) (fun c8 => ?_) (fun c8 => ?_)
    · have hf := bl_ifn c8 hf
      refine lv_aload_n X.1 X.2.1 dX9_by_22 rfl (lv_at hl 0 rfl) ?_
      refine lv_iload_n X.1 X.2.1 dX9_by_23 rfl (lv_at hl 1 rfl) ?_
      refine lv_iload_n X.1 X.2.1 dX9_by_24 rfl (lv_at hl 2 rfl) ?_
      refine lv_iload_n X.1 X.2.1 dX9_by_25 rfl (lv_at hl 3 rfl) ?_
      refine lv_iload X.1 X.2.1 dX9_by_26 (lv_at hl 4 rfl) ?_
      obtain ⟨r9, σ10, h11, hf⟩ := bl_bd_at hf
      refine bl_cVl (As := [.int a1, .int a2, .int a3, .int a4]) X V hl.1 ha0 rfl ml_X9_300 mV_X9_costByRule (t_X9_costByRule l g σ6 a0 a1 a2 a3 a4 _ ha0 h11) rfl rfl ⟨Nat.le_of_ble_eq_true rfl, Nat.le_of_ble_eq_true rfl⟩ rfl rfl (Nat.le_of_ble_eq_true rfl) ⟨Nat.zero_le _, Nat.zero_le _⟩ dX9_by_28 (fun H locs V => ?_)
      exact bl_retl X V hr hf dX9_by_31
    · have hf := bl_ifp c8 hf
      refine lv_ldc2 (v := (-1)) X.1 X.2.1 X.2.2.2.1 (X.2.2.2.2.1 _ kl_X9_254) dX9_by_18 ?_
      exact bl_retl X V hr hf dX9_by_21
set_option maxHeartbeats 4000000 in
set_option maxRecDepth 100000 in
theorem w_X9_bestLimit_90 {p : Program} {l : Launch} {e : Env} {s : State} {m : MethodId} {below : List Frame} {meth : Method} {c : Code} {g : bl_Gp} {as : List Value} {out : Int32 × bl_St} (X : bl_Cx g p s m as.toArray meth c cX9_bestLimit 10 RX9) (hr : meth.sig.returnType = (Option.some Jvm.ClassFile.FieldType.int)) (k26 : bl_St → Nat → Int32 → Int32 → Int32 → Int64 → Int32 → Option (Int32 × bl_St)) (hk26 : ∀ (σ : bl_St) (v0 : Nat) (v1 : Int32) (v2 : Int32) (v3 : Int32) (v4 : Int64) (v6 : Int32), bl_sh[v0]? = some (9, 13) → k26 σ v0 v1 v2 v3 v4 v6 = some out → ∀ (H : Heap) (locs : List Loc) (ls : Array Slot), bl_V g s σ H locs → lv_has ls 10 [(0, .ref (bl_ad g v0)), (1, .int v1), (2, .int v2), (3, .int v3), (4, .long v4), (6, .int v6)] → W p l e (bl_rm 6 157) s m as.toArray below meth c H locs 0 0 (bl_Qi below g s as out) (F0 m 26 ls [])) : ∀ (σ : bl_St) (v0 : Nat) (v1 : Int32) (v2 : Int32) (v3 : Int32) (v4 : Int64) (v6 : Int32), bl_sh[v0]? = some (9, 13) → (b_X9_bestLimit_90 k26) σ v0 v1 v2 v3 v4 v6 = some out → ∀ (H : Heap) (locs : List Loc) (ls : Array Slot), bl_V g s σ H locs → lv_has ls 10 [(0, .ref (bl_ad g v0)), (1, .int v1), (2, .int v2), (3, .int v3), (4, .long v4), (6, .int v6)] → W p l e (bl_rm 6 157) s m as.toArray below meth c H locs 0 0 (bl_Qi below g s as out) (F0 m 90 ls []) := by
  intro σ v0 v1 v2 v3 v4 v6 hv0 hf H locs ls V hl
  unfold b_X9_bestLimit_90 at hf
  obtain ⟨x1, e2⟩ : ∃ z : Int32, z = v6 + 1 := ⟨_, rfl⟩
  have hf := bl_let_at e2 hf
  refine lv_iinc (v := x1) (lv' := [(6, .int x1), (0, .ref (bl_ad g v0)), (1, .int v1), (2, .int v2), (3, .int v3), (4, .long v4)]) X.1 X.2.1 dX9_bestLimit_90 hl (k := 5) rfl (by rw [e2]; rfl) (by decide) rfl (fun ls hl => ?_)
  refine lv_goto (tgt := 26) X.1 X.2.1 dX9_bestLimit_93 (by decide) ?_
  exact hk26 σ v0 v1 v2 v3 v4 x1 hv0 hf _ _ _ V (lv_sub hl [1, 2, 3, 4, 5, 0] rfl)
set_option maxHeartbeats 4000000 in
set_option maxRecDepth 100000 in
theorem w_X9_bestLimit_83 {p : Program} {l : Launch} {e : Env} {s : State} {m : MethodId} {below : List Frame} {meth : Method} {c : Code} {g : bl_Gp} {as : List Value} {out : Int32 × bl_St} (X : bl_Cx g p s m as.toArray meth c cX9_bestLimit 10 RX9) (hr : meth.sig.returnType = (Option.some Jvm.ClassFile.FieldType.int)) (k26 : bl_St → Nat → Int32 → Int32 → Int32 → Int64 → Int32 → Option (Int32 × bl_St)) (hk26 : ∀ (σ : bl_St) (v0 : Nat) (v1 : Int32) (v2 : Int32) (v3 : Int32) (v4 : Int64) (v6 : Int32), bl_sh[v0]? = some (9, 13) → k26 σ v0 v1 v2 v3 v4 v6 = some out → ∀ (H : Heap) (locs : List Loc) (ls : Array Slot), bl_V g s σ H locs → lv_has ls 10 [(0, .ref (bl_ad g v0)), (1, .int v1), (2, .int v2), (3, .int v3), (4, .long v4), (6, .int v6)] → W p l e (bl_rm 6 157) s m as.toArray below meth c H locs 0 0 (bl_Qi below g s as out) (F0 m 26 ls [])) : ∀ (σ : bl_St) (v0 : Nat) (v1 : Int32) (v2 : Int32) (v6 : Int32) (v7 : Int32) (v8 : Int64), bl_sh[v0]? = some (9, 13) → (b_X9_bestLimit_83 k26) σ v0 v1 v2 v6 v7 v8 = some out → ∀ (H : Heap) (locs : List Loc) (ls : Array Slot), bl_V g s σ H locs → lv_has ls 10 [(0, .ref (bl_ad g v0)), (1, .int v1), (2, .int v2), (6, .int v6), (7, .int v7), (8, .long v8)] → W p l e (bl_rm 6 157) s m as.toArray below meth c H locs 0 0 (bl_Qi below g s as out) (F0 m 83 ls []) := by
  intro σ v0 v1 v2 v6 v7 v8 hv0 hf H locs ls V hl
  unfold b_X9_bestLimit_83 at hf
  refine lv_lload X.1 X.2.1 dX9_bestLimit_83 (lv_at hl 5 rfl) ?_
  refine lv_lstore (lv' := [(4, .long v8), (0, .ref (bl_ad g v0)), (1, .int v1), (2, .int v2), (6, .int v6), (7, .int v7), (8, .long v8)]) X.1 X.2.1 dX9_bestLimit_85 hl (by decide) rfl (fun ls hl => ?_)
  refine lv_iload X.1 X.2.1 dX9_bestLimit_87 (lv_at hl 5 rfl) ?_
  refine lv_istore_n (lv' := [(3, .int v7), (4, .long v8), (0, .ref (bl_ad g v0)), (1, .int v1), (2, .int v2), (6, .int v6), (7, .int v7), (8, .long v8)]) X.1 X.2.1 dX9_bestLimit_89 rfl hl (by decide) rfl (fun ls hl => ?_)
  exact w_X9_bestLimit_90 X hr k26 hk26 σ v0 v1 v2 v7 v8 v6 hv0 hf _ _ _ V (lv_sub hl [2, 3, 4, 0, 1, 5] rfl)
set_option maxHeartbeats 4000000 in
set_option maxRecDepth 100000 in
theorem w_X9_bestLimit_26 {p : Program} {l : Launch} {e : Env} {s : State} {m : MethodId} {below : List Frame} {meth : Method} {c : Code} {g : bl_Gp} {as : List Value} {out : Int32 × bl_St} (X : bl_Cx g p s m as.toArray meth c cX9_bestLimit 10 RX9) (hr : meth.sig.returnType = (Option.some Jvm.ClassFile.FieldType.int)) (k26 : bl_St → Nat → Int32 → Int32 → Int32 → Int64 → Int32 → Option (Int32 × bl_St)) (hk26 : ∀ (σ : bl_St) (v0 : Nat) (v1 : Int32) (v2 : Int32) (v3 : Int32) (v4 : Int64) (v6 : Int32), bl_sh[v0]? = some (9, 13) → k26 σ v0 v1 v2 v3 v4 v6 = some out → ∀ (H : Heap) (locs : List Loc) (ls : Array Slot), bl_V g s σ H locs → lv_has ls 10 [(0, .ref (bl_ad g v0)), (1, .int v1), (2, .int v2), (3, .int v3), (4, .long v4), (6, .int v6)] → W p l e (bl_rm 6 157) s m as.toArray below meth c H locs 0 0 (bl_Qi below g s as out) (F0 m 26 ls [])) : ∀ (σ : bl_St) (v0 : Nat) (v1 : Int32) (v2 : Int32) (v3 : Int32) (v4 : Int64) (v6 : Int32), bl_sh[v0]? = some (9, 13) → (b_X9_bestLimit_26 k26) σ v0 v1 v2 v3 v4 v6 = some out → ∀ (H : Heap) (locs : List Loc) (ls : Array Slot), bl_V g s σ H locs → lv_has ls 10 [(0, .ref (bl_ad g v0)), (1, .int v1), (2, .int v2), (3, .int v3), (4, .long v4), (6, .int v6)] → W p l e (bl_rm 6 157) s m as.toArray below meth c H locs 0 0 (bl_Qi below g s as out) (F0 m 26 ls []) := by
  intro σ v0 v1 v2 v3 v4 v6 hv0 hf H locs ls V hl
  unfold b_X9_bestLimit_26 at hf
  refine lv_iload X.1 X.2.1 dX9_bestLimit_26 (lv_at hl 5 rfl) ?_
  refine lv_aload_n X.1 X.2.1 dX9_bestLimit_28 rfl (lv_at hl 0 rfl) ?_
  refine bl_getr X V hv0 fl_X9_26 rfl dX9_bestLimit_29 (fun h3 => ?_)
  refine bl_geti X V h3 fl_X9_177 dX9_bestLimit_32 ?_
  refine lv_icmp_ge (tgt := 96) X.1 X.2.1 dX9_bestLimit_35 (by decide) (fun c4 => ?_) (fun c4 => ?_)
  · have hf := bl_ifp c4 hf
    refine lv_iload_n X.1 X.2.1 dX9_bestLimit_96 rfl (lv_at hl 3 rfl) ?_
    exact bl_reti X V hr hf dX9_bestLimit_97
  · have hf := bl_ifn c4 hf
    refine lv_aload_n X.1 X.2.1 dX9_bestLimit_38 rfl (lv_at hl 0 rfl) ?_
    refine bl_getr X V hv0 fl_X9_26 rfl dX9_bestLimit_39 (fun h5 => ?_)
    refine lv_iload X.1 X.2.1 dX9_bestLimit_42 (lv_at hl 5 rfl) ?_
    refine lv_iconst (v := 0) X.1 X.2.1 dX9_bestLimit_44 (by decide) ?_
    obtain ⟨r6, σ7, h8, hf⟩ := bl_bd_at hf
    refine bl_cVi (As := [.int v6, .int 0]) X V hl.1 h5 rfl ml_X9_140 mV_X8_sortPart (t_X8_sortPart l g σ (bl_R σ v0 2) v6 0 _ h5 h8) rfl rfl ⟨Nat.le_of_ble_eq_true rfl, Nat.le_of_ble_eq_true rfl⟩ rfl rfl (Nat.le_of_ble_eq_true rfl) ⟨Nat.zero_le _, Nat.zero_le _⟩ dX9_bestLimit_45 (fun H locs V => ?_)
    refine lv_istore (lv' := [(7, .int r6), (0, .ref (bl_ad g v0)), (1, .int v1), (2, .int v2), (3, .int v3), (4, .long v4), (6, .int v6)]) X.1 X.2.1 dX9_bestLimit_48 hl (by decide) rfl (fun ls hl => ?_)
    refine lv_aload_n X.1 X.2.1 dX9_bestLimit_50 rfl (lv_at hl 1 rfl) ?_
    refine lv_iconst (v := 3) X.1 X.2.1 dX9_bestLimit_51 (by decide) ?_
    refine lv_iload X.1 X.2.1 dX9_bestLimit_52 (lv_at hl 0 rfl) ?_
    refine lv_iload_n X.1 X.2.1 dX9_bestLimit_54 rfl (lv_at hl 2 rfl) ?_
    refine lv_iload_n X.1 X.2.1 dX9_bestLimit_55 rfl (lv_at hl 3 rfl) ?_
    obtain ⟨r9, σ10, h11, hf⟩ := bl_bd_at hf
    refine bl_cVl (As := [.int 3, .int r6, .int v1, .int v2]) X V hl.1 hv0 rfl ml_X9_300 mV_X9_costByRule (t_X9_costByRule l g σ7 v0 3 r6 v1 v2 _ hv0 h11) rfl rfl ⟨Nat.le_of_ble_eq_true rfl, Nat.le_of_ble_eq_true rfl⟩ rfl rfl (Nat.le_of_ble_eq_true rfl) ⟨Nat.zero_le _, Nat.zero_le _⟩ dX9_bestLimit_56 (fun H locs V => ?_)
    refine lv_lstore (lv' := [(8, .long r9), (7, .int r6), (0, .ref (bl_ad g v0)), (1, .int v1), (2, .int v2), (3, .int v3), (4, .long v4), (6, .int v6)]) X.1 X.2.1 dX9_bestLimit_59 hl (by decide) rfl (fun ls hl => ?_)
    refine lv_lload X.1 X.2.1 dX9_bestLimit_61 (lv_at hl 0 rfl) ?_
    refine lv_lload X.1 X.2.1 dX9_bestLimit_63 (lv_at hl 6 rfl) ?_
    refine bl_lc_lt (tgt := 83) X dX9_bestLimit_65 dX9_bestLimit_66 (by decide) (fun c12 => ?_) (fun c12 => ?_)
    · have hf := bl_ifp c12 hf
      exact w_X9_bestLimit_83 X hr k26 hk26 σ10 v0 v1 v2 v6 r6 r9 hv0 hf _ _ _ V (lv_sub hl [2, 3, 4, 7, 1, 0] rfl)
    · have hf := bl_ifn c12 hf
      refine lv_lload X.1 X.2.1 dX9_bestLimit_69 (lv_at hl 0 rfl) ?_
      refine lv_lload X.1 X.2.1 dX9_bestLimit_71 (lv_at hl 6 rfl) ?_
      refine bl_lc_ne (tgt := 90) X dX9_bestLimit_73 dX9_bestLimit_74 (by decide) (fun c13 => ?_) (fun c13 => ?_)
      · have hf := bl_ifn c13 hf
        exact w_X9_bestLimit_90 X hr k26 hk26 σ10 v0 v1 v2 v3 v4 v6 hv0 hf _ _ _ V (lv_sub hl [2, 3, 4, 5, 6, 7] rfl)
      · have hf := bl_ifp c13 hf
        refine lv_iload X.1 X.2.1 dX9_bestLimit_77 (lv_at hl 1 rfl) ?_
        refine lv_iload_n X.1 X.2.1 dX9_bestLimit_79 rfl (lv_at hl 5 rfl) ?_
        refine lv_icmp_ge (tgt := 90) X.1 X.2.1 dX9_bestLimit_80 (by decide) (fun c14 => ?_) (fun c14 => ?_)
        · have hf := bl_ifp c14 hf
          exact w_X9_bestLimit_90 X hr k26 hk26 σ10 v0 v1 v2 v3 v4 v6 hv0 hf _ _ _ V (lv_sub hl [2, 3, 4, 5, 6, 7] rfl)
        · have hf := bl_ifn c14 hf
          exact w_X9_bestLimit_83 X hr k26 hk26 σ10 v0 v1 v2 v6 r6 r9 hv0 hf _ _ _ V (lv_sub hl [2, 3, 4, 7, 1, 0] rfl)
theorem l_X9_bestLimit_26 {p : Program} {l : Launch} {e : Env} {s : State} {m : MethodId} {below : List Frame} {meth : Method} {c : Code} {g : bl_Gp} {as : List Value} {out : Int32 × bl_St} (X : bl_Cx g p s m as.toArray meth c cX9_bestLimit 10 RX9) (hr : meth.sig.returnType = (Option.some Jvm.ClassFile.FieldType.int)) (n : Nat) : ∀ (σ : bl_St) (v0 : Nat) (v1 : Int32) (v2 : Int32) (v3 : Int32) (v4 : Int64) (v6 : Int32), bl_sh[v0]? = some (9, 13) → (bl_fx (fun _ _ _ _ _ _ _ => none) (b_X9_bestLimit_26 ) n) σ v0 v1 v2 v3 v4 v6 = some out → ∀ (H : Heap) (locs : List Loc) (ls : Array Slot), bl_V g s σ H locs → lv_has ls 10 [(0, .ref (bl_ad g v0)), (1, .int v1), (2, .int v2), (3, .int v3), (4, .long v4), (6, .int v6)] → W p l e (bl_rm 6 157) s m as.toArray below meth c H locs 0 0 (bl_Qi below g s as out) (F0 m 26 ls []) := by
  induction n with
  | zero =>
    intro σ v0 v1 v2 v3 v4 v6 hv0 hf H locs ls V hl
    cases hf
  | succ n ih => exact w_X9_bestLimit_26 X hr  _ ih
set_option maxHeartbeats 4000000 in
set_option maxRecDepth 100000 in
theorem t_X9_bestLimit (l : Launch) (g : bl_Gp) (σ : bl_St) (a0 : Nat) (a1 : Int32) (a2 : Int32) (o : Int32 × bl_St) (ha0 : bl_sh[a0]? = some (9, 13)) (hf : f_X9_bestLimit σ a0 a1 a2 = some o) : bl_Ci l g yX9_bestLimit cX9_bestLimit 10 (Option.some Jvm.ClassFile.FieldType.int) (bl_rm 6 157) [.ref (bl_ad g a0), .int a1, .int a2] σ o := by
  refine bl_met (by decide) (Nat.le_of_ble_eq_true rfl) (fun p e s m below meth c ls X hr V hl => ?_)
  have hl : lv_has ls 10 [(0, .ref (bl_ad g a0)), (1, .int a1), (2, .int a2)] := hl
  unfold f_X9_bestLimit at hf
  refine lv_aload_n X.1 X.2.1 dX9_bestLimit_0 rfl (lv_at hl 0 rfl) ?_
  refine lv_iload_n X.1 X.2.1 dX9_bestLimit_1 rfl (lv_at hl 1 rfl) ?_
  refine lv_iload_n X.1 X.2.1 dX9_bestLimit_2 rfl (lv_at hl 2 rfl) ?_
  obtain ⟨r15, σ16, h17, hf⟩ := bl_bd_at hf
  refine bl_cVi (As := [.int a1, .int a2]) X V hl.1 ha0 rfl ml_X9_251 mV_X9_isAsked (t_X9_isAsked l g σ a0 a1 a2 _ ha0 h17) rfl rfl ⟨Nat.le_of_ble_eq_true rfl, Nat.le_of_ble_eq_true rfl⟩ rfl rfl (Nat.le_of_ble_eq_true rfl) ⟨Nat.zero_le _, Nat.zero_le _⟩ dX9_bestLimit_3 (fun H locs V => ?_)
  refine lv_if_ne (tgt := 11) X.1 X.2.1 dX9_bestLimit_6 (by decide) (fun c18 => ?_) (fun c18 => ?_)
  · have hf := bl_ifn c18 hf
    refine lv_iconst (v := 0) X.1 X.2.1 dX9_bestLimit_11 (by decide) ?_
    refine lv_istore_n (lv' := [(3, .int 0), (0, .ref (bl_ad g a0)), (1, .int a1), (2, .int a2)]) X.1 X.2.1 dX9_bestLimit_12 rfl hl (by decide) rfl (fun ls hl => ?_)
    refine lv_aload_n X.1 X.2.1 dX9_bestLimit_13 rfl (lv_at hl 1 rfl) ?_
    refine lv_iconst (v := 3) X.1 X.2.1 dX9_bestLimit_14 (by decide) ?_
    refine lv_iconst (v := 0) X.1 X.2.1 dX9_bestLimit_15 (by decide) ?_
    refine lv_iload_n X.1 X.2.1 dX9_bestLimit_16 rfl (lv_at hl 2 rfl) ?_
    refine lv_iload_n X.1 X.2.1 dX9_bestLimit_17 rfl (lv_at hl 3 rfl) ?_
    obtain ⟨r19, σ20, h21, hf⟩ := bl_bd_at hf
    refine bl_cVl (As := [.int 3, .int 0, .int a1, .int a2]) X V hl.1 ha0 rfl ml_X9_300 mV_X9_costByRule (t_X9_costByRule l g σ16 a0 3 0 a1 a2 _ ha0 h21) rfl rfl ⟨Nat.le_of_ble_eq_true rfl, Nat.le_of_ble_eq_true rfl⟩ rfl rfl (Nat.le_of_ble_eq_true rfl) ⟨Nat.zero_le _, Nat.zero_le _⟩ dX9_bestLimit_18 (fun H locs V => ?_)
    refine lv_lstore (lv' := [(4, .long r19), (3, .int 0), (0, .ref (bl_ad g a0)), (1, .int a1), (2, .int a2)]) X.1 X.2.1 dX9_bestLimit_21 hl (by decide) rfl (fun ls hl => ?_)
    refine lv_iconst (v := 0) X.1 X.2.1 dX9_bestLimit_23 (by decide) ?_
    refine lv_istore (lv' := [(6, .int 0), (4, .long r19), (3, .int 0), (0, .ref (bl_ad g a0)), (1, .int a1), (2, .int a2)]) X.1 X.2.1 dX9_bestLimit_24 hl (by decide) rfl (fun ls hl => ?_)
    exact l_X9_bestLimit_26 X hr  bl_fu σ20 a0 a1 a2 0 r19 0 ha0 hf _ _ _ V (lv_sub hl [3, 4, 5, 2, 1, 0] rfl)
  · have hf := bl_ifp c18 hf
    refine lv_iconst (v := (-1)) X.1 X.2.1 dX9_bestLimit_9 (by decide) ?_
    exact bl_reti X V hr hf dX9_bestLimit_10
set_option maxHeartbeats 4000000 in
set_option maxRecDepth 100000 in
theorem t_X9_worth (l : Launch) (g : bl_Gp) (σ : bl_St) (a0 : Nat) (a1 : Int32) (a2 : Int32) (a3 : Int32) (o : Int64 × bl_St) (ha0 : bl_sh[a0]? = some (9, 13)) (hf : f_X9_worth σ a0 a1 a2 a3 = some o) : bl_Cl l g yX9_worth cX9_worth 4 (Option.some Jvm.ClassFile.FieldType.long) (bl_rm 5 133) [.ref (bl_ad g a0), .int a1, .int a2, .int a3] σ o := by
  refine bl_met (by decide) (Nat.le_of_ble_eq_true rfl) (fun p e s m below meth c ls X hr V hl => ?_)
  have hl : lv_has ls 4 [(0, .ref (bl_ad g a0)), (1, .int a1), (2, .int a2), (3, .int a3)] := hl
  unfold f_X9_worth at hf
  refine lv_aload_n X.1 X.2.1 dX9_worth_0 rfl (lv_at hl 0 rfl) ?_
  refine lv_iload_n X.1 X.2.1 dX9_worth_1 rfl (lv_at hl 1 rfl) ?_
  refine lv_iload_n X.1 X.2.1 dX9_worth_2 rfl (lv_at hl 2 rfl) ?_
  obtain ⟨r1, σ2, h3, hf⟩ := bl_bd_at hf
  refine bl_cVi (As := [.int a1, .int a2]) X V hl.1 ha0 rfl ml_X9_251 mV_X9_isAsked (t_X9_isAsked l g σ a0 a1 a2 _ ha0 h3) rfl rfl ⟨Nat.le_of_ble_eq_true rfl, Nat.le_of_ble_eq_true rfl⟩ rfl rfl (Nat.le_of_ble_eq_true rfl) ⟨Nat.zero_le _, Nat.zero_le _⟩ dX9_worth_3 (fun H locs V => ?_)
  refine lv_if_eq (tgt := 20) X.1 X.2.1 dX9_worth_6 (by decide) (fun c4 => ?_) (fun c4 => ?_)
  · have hf := bl_ifp c4 hf
    refine lv_ldc2 (v := (-9223372036854775808)) X.1 X.2.1 X.2.2.2.1 (X.2.2.2.2.1 _ kl_X9_289) dX9_worth_20 ?_
    exact bl_retl X V hr hf dX9_worth_23
  · have hf := bl_ifn c4 hf
    refine lv_aload_n X.1 X.2.1 dX9_worth_9 rfl (lv_at hl 0 rfl) ?_
    refine bl_getr X V ha0 fl_X9_26 rfl dX9_worth_10 (fun h5 => ?_)
    refine lv_iload_n X.1 X.2.1 dX9_worth_13 rfl (lv_at hl 3 rfl) ?_
    obtain ⟨r6, σ7, h8, hf⟩ := bl_bd_at hf
    refine bl_cVi (As := [.int a3]) X V hl.1 h5 rfl ml_X9_114 mV_X8_hasClass (t_X8_hasClass l g σ2 (bl_R σ2 a0 2) a3 _ h5 h8) rfl rfl ⟨Nat.le_of_ble_eq_true rfl, Nat.le_of_ble_eq_true rfl⟩ rfl rfl (Nat.le_of_ble_eq_true rfl) ⟨Nat.zero_le _, Nat.zero_le _⟩ dX9_worth_14 (fun H locs V => ?_)
    refine lv_if_ne (tgt := 24) X.1 X.2.1 dX9_worth_17 (by decide) (fun c9 => ?_) (fun c9 => ?_)
    · have hf := bl_ifn c9 hf
      refine lv_aload_n X.1 X.2.1 dX9_worth_24 rfl (lv_at hl 0 rfl) ?_
      refine bl_getr X V ha0 fl_X9_55 rfl dX9_worth_25 (fun h10 => ?_)
      refine lv_iload_n X.1 X.2.1 dX9_worth_28 rfl (lv_at hl 1 rfl) ?_
      refine lv_iload_n X.1 X.2.1 dX9_worth_29 rfl (lv_at hl 3 rfl) ?_
      obtain ⟨r11, σ12, h13, hf⟩ := bl_bd_at hf
      refine bl_cVl (As := [.int a1, .int a3]) X V hl.1 h10 rfl ml_X9_256 mV_X4_costOf (t_X4_costOf l g σ7 (bl_R σ7 a0 7) a1 a3 _ h10 h13) rfl rfl ⟨Nat.le_of_ble_eq_true rfl, Nat.le_of_ble_eq_true rfl⟩ rfl rfl (Nat.le_of_ble_eq_true rfl) ⟨Nat.zero_le _, Nat.zero_le _⟩ dX9_worth_30 (fun H locs V => ?_)
      refine lv_aload_n X.1 X.2.1 dX9_worth_33 rfl (lv_at hl 0 rfl) ?_
      refine bl_getr X V ha0 fl_X9_55 rfl dX9_worth_34 (fun h14 => ?_)
      refine lv_iload_n X.1 X.2.1 dX9_worth_37 rfl (lv_at hl 1 rfl) ?_
      refine lv_iload_n X.1 X.2.1 dX9_worth_38 rfl (lv_at hl 2 rfl) ?_
      obtain ⟨r15, σ16, h17, hf⟩ := bl_bd_at hf
      refine bl_cVl (As := [.int a1, .int a2]) X V hl.1 h14 rfl ml_X9_256 mV_X4_costOf (t_X4_costOf l g σ12 (bl_R σ12 a0 7) a1 a2 _ h14 h17) rfl rfl ⟨Nat.le_of_ble_eq_true rfl, Nat.le_of_ble_eq_true rfl⟩ rfl rfl (Nat.le_of_ble_eq_true rfl) ⟨Nat.zero_le _, Nat.zero_le _⟩ dX9_worth_39 (fun H locs V => ?_)
      refine lv_lsub X.1 X.2.1 dX9_worth_42 ?_
      exact bl_retl X V hr hf dX9_worth_43
    · have hf := bl_ifp c9 hf
      refine lv_ldc2 (v := (-9223372036854775808)) X.1 X.2.1 X.2.2.2.1 (X.2.2.2.2.1 _ kl_X9_289) dX9_worth_20 ?_
      exact bl_retl X V hr hf dX9_worth_23
set_option maxHeartbeats 4000000 in
set_option maxRecDepth 100000 in
theorem w_X9_cheapest_50 {p : Program} {l : Launch} {e : Env} {s : State} {m : MethodId} {below : List Frame} {meth : Method} {c : Code} {g : bl_Gp} {as : List Value} {out : Int32 × bl_St} (X : bl_Cx g p s m as.toArray meth c cX9_cheapest 4 RX9) (hr : meth.sig.returnType = (Option.some Jvm.ClassFile.FieldType.int)) (k15 : bl_St → Nat → Int32 → Int32 → Int32 → Option (Int32 × bl_St)) (hk15 : ∀ (σ : bl_St) (v0 : Nat) (v1 : Int32) (v2 : Int32) (v3 : Int32), bl_sh[v0]? = some (9, 13) → k15 σ v0 v1 v2 v3 = some out → ∀ (H : Heap) (locs : List Loc) (ls : Array Slot), bl_V g s σ H locs → lv_has ls 4 [(0, .ref (bl_ad g v0)), (1, .int v1), (2, .int v2), (3, .int v3)] → W p l e (bl_rm 5 133) s m as.toArray below meth c H locs 0 0 (bl_Qi below g s as out) (F0 m 15 ls [])) : ∀ (σ : bl_St) (v0 : Nat) (v1 : Int32) (v2 : Int32) (v3 : Int32), bl_sh[v0]? = some (9, 13) → (b_X9_cheapest_50 k15) σ v0 v1 v2 v3 = some out → ∀ (H : Heap) (locs : List Loc) (ls : Array Slot), bl_V g s σ H locs → lv_has ls 4 [(0, .ref (bl_ad g v0)), (1, .int v1), (2, .int v2), (3, .int v3)] → W p l e (bl_rm 5 133) s m as.toArray below meth c H locs 0 0 (bl_Qi below g s as out) (F0 m 50 ls []) := by
  intro σ v0 v1 v2 v3 hv0 hf H locs ls V hl
  unfold b_X9_cheapest_50 at hf
  obtain ⟨x1, e2⟩ : ∃ z : Int32, z = v3 + 1 := ⟨_, rfl⟩
  have hf := bl_let_at e2 hf
  refine lv_iinc (v := x1) (lv' := [(3, .int x1), (0, .ref (bl_ad g v0)), (1, .int v1), (2, .int v2)]) X.1 X.2.1 dX9_cheapest_50 hl (k := 3) rfl (by rw [e2]; rfl) (by decide) rfl (fun ls hl => ?_)
  refine lv_goto (tgt := 15) X.1 X.2.1 dX9_cheapest_53 (by decide) ?_
  exact hk15 σ v0 v1 v2 x1 hv0 hf _ _ _ V (lv_sub hl [1, 2, 3, 0] rfl)
set_option maxHeartbeats 4000000 in
set_option maxRecDepth 100000 in
theorem w_X9_cheapest_15 {p : Program} {l : Launch} {e : Env} {s : State} {m : MethodId} {below : List Frame} {meth : Method} {c : Code} {g : bl_Gp} {as : List Value} {out : Int32 × bl_St} (X : bl_Cx g p s m as.toArray meth c cX9_cheapest 4 RX9) (hr : meth.sig.returnType = (Option.some Jvm.ClassFile.FieldType.int)) (k15 : bl_St → Nat → Int32 → Int32 → Int32 → Option (Int32 × bl_St)) (hk15 : ∀ (σ : bl_St) (v0 : Nat) (v1 : Int32) (v2 : Int32) (v3 : Int32), bl_sh[v0]? = some (9, 13) → k15 σ v0 v1 v2 v3 = some out → ∀ (H : Heap) (locs : List Loc) (ls : Array Slot), bl_V g s σ H locs → lv_has ls 4 [(0, .ref (bl_ad g v0)), (1, .int v1), (2, .int v2), (3, .int v3)] → W p l e (bl_rm 5 133) s m as.toArray below meth c H locs 0 0 (bl_Qi below g s as out) (F0 m 15 ls [])) : ∀ (σ : bl_St) (v0 : Nat) (v1 : Int32) (v2 : Int32) (v3 : Int32), bl_sh[v0]? = some (9, 13) → (b_X9_cheapest_15 k15) σ v0 v1 v2 v3 = some out → ∀ (H : Heap) (locs : List Loc) (ls : Array Slot), bl_V g s σ H locs → lv_has ls 4 [(0, .ref (bl_ad g v0)), (1, .int v1), (2, .int v2), (3, .int v3)] → W p l e (bl_rm 5 133) s m as.toArray below meth c H locs 0 0 (bl_Qi below g s as out) (F0 m 15 ls []) := by
  intro σ v0 v1 v2 v3 hv0 hf H locs ls V hl
  unfold b_X9_cheapest_15 at hf
  refine lv_iload_n X.1 X.2.1 dX9_cheapest_15 rfl (lv_at hl 3 rfl) ?_
  refine lv_aload_n X.1 X.2.1 dX9_cheapest_16 rfl (lv_at hl 0 rfl) ?_
  refine bl_getr X V hv0 fl_X9_26 rfl dX9_cheapest_17 (fun h3 => ?_)
  refine bl_geti X V h3 fl_X9_111 dX9_cheapest_20 ?_
  refine lv_icmp_ge (tgt := 56) X.1 X.2.1 dX9_cheapest_23 (by decide) (fun c4 => ?_) (fun c4 => ?_)
  · have hf := bl_ifp c4 hf
    refine lv_iload_n X.1 X.2.1 dX9_cheapest_56 rfl (lv_at hl 2 rfl) ?_
    exact bl_reti X V hr hf dX9_cheapest_57
  · have hf := bl_ifn c4 hf
    refine lv_aload_n X.1 X.2.1 dX9_cheapest_26 rfl (lv_at hl 0 rfl) ?_
    refine bl_getr X V hv0 fl_X9_55 rfl dX9_cheapest_27 (fun h5 => ?_)
    refine lv_iload_n X.1 X.2.1 dX9_cheapest_30 rfl (lv_at hl 1 rfl) ?_
    refine lv_iload_n X.1 X.2.1 dX9_cheapest_31 rfl (lv_at hl 3 rfl) ?_
    obtain ⟨r6, σ7, h8, hf⟩ := bl_bd_at hf
    refine bl_cVl (As := [.int v1, .int v3]) X V hl.1 h5 rfl ml_X9_256 mV_X4_costOf (t_X4_costOf l g σ (bl_R σ v0 7) v1 v3 _ h5 h8) rfl rfl ⟨Nat.le_of_ble_eq_true rfl, Nat.le_of_ble_eq_true rfl⟩ rfl rfl (Nat.le_of_ble_eq_true rfl) ⟨Nat.zero_le _, Nat.zero_le _⟩ dX9_cheapest_32 (fun H locs V => ?_)
    refine lv_aload_n X.1 X.2.1 dX9_cheapest_35 rfl (lv_at hl 0 rfl) ?_
    refine bl_getr X V hv0 fl_X9_55 rfl dX9_cheapest_36 (fun h9 => ?_)
    refine lv_iload_n X.1 X.2.1 dX9_cheapest_39 rfl (lv_at hl 1 rfl) ?_
    refine lv_iload_n X.1 X.2.1 dX9_cheapest_40 rfl (lv_at hl 2 rfl) ?_
    obtain ⟨r10, σ11, h12, hf⟩ := bl_bd_at hf
    refine bl_cVl (As := [.int v1, .int v2]) X V hl.1 h9 rfl ml_X9_256 mV_X4_costOf (t_X4_costOf l g σ7 (bl_R σ7 v0 7) v1 v2 _ h9 h12) rfl rfl ⟨Nat.le_of_ble_eq_true rfl, Nat.le_of_ble_eq_true rfl⟩ rfl rfl (Nat.le_of_ble_eq_true rfl) ⟨Nat.zero_le _, Nat.zero_le _⟩ dX9_cheapest_41 (fun H locs V => ?_)
    refine bl_lc_ge (tgt := 50) X dX9_cheapest_44 dX9_cheapest_45 (by decide) (fun c13 => ?_) (fun c13 => ?_)
    · have hf := bl_ifp c13 hf
      exact w_X9_cheapest_50 X hr k15 hk15 σ11 v0 v1 v2 v3 hv0 hf _ _ _ V (lv_sub hl [0, 1, 2, 3] rfl)
    · have hf := bl_ifn c13 hf
      refine lv_iload_n X.1 X.2.1 dX9_cheapest_48 rfl (lv_at hl 3 rfl) ?_
      refine lv_istore_n (lv' := [(2, .int v3), (0, .ref (bl_ad g v0)), (1, .int v1), (3, .int v3)]) X.1 X.2.1 dX9_cheapest_49 rfl hl (by decide) rfl (fun ls hl => ?_)
      exact w_X9_cheapest_50 X hr k15 hk15 σ11 v0 v1 v3 v3 hv0 hf _ _ _ V (lv_sub hl [1, 2, 0, 3] rfl)
theorem l_X9_cheapest_15 {p : Program} {l : Launch} {e : Env} {s : State} {m : MethodId} {below : List Frame} {meth : Method} {c : Code} {g : bl_Gp} {as : List Value} {out : Int32 × bl_St} (X : bl_Cx g p s m as.toArray meth c cX9_cheapest 4 RX9) (hr : meth.sig.returnType = (Option.some Jvm.ClassFile.FieldType.int)) (n : Nat) : ∀ (σ : bl_St) (v0 : Nat) (v1 : Int32) (v2 : Int32) (v3 : Int32), bl_sh[v0]? = some (9, 13) → (bl_fx (fun _ _ _ _ _ => none) (b_X9_cheapest_15 ) n) σ v0 v1 v2 v3 = some out → ∀ (H : Heap) (locs : List Loc) (ls : Array Slot), bl_V g s σ H locs → lv_has ls 4 [(0, .ref (bl_ad g v0)), (1, .int v1), (2, .int v2), (3, .int v3)] → W p l e (bl_rm 5 133) s m as.toArray below meth c H locs 0 0 (bl_Qi below g s as out) (F0 m 15 ls []) := by
  induction n with
  | zero =>
    intro σ v0 v1 v2 v3 hv0 hf H locs ls V hl
    cases hf
  | succ n ih => exact w_X9_cheapest_15 X hr  _ ih
set_option maxHeartbeats 4000000 in
set_option maxRecDepth 100000 in
theorem t_X9_cheapest (l : Launch) (g : bl_Gp) (σ : bl_St) (a0 : Nat) (a1 : Int32) (o : Int32 × bl_St) (ha0 : bl_sh[a0]? = some (9, 13)) (hf : f_X9_cheapest σ a0 a1 = some o) : bl_Ci l g yX9_cheapest cX9_cheapest 4 (Option.some Jvm.ClassFile.FieldType.int) (bl_rm 5 133) [.ref (bl_ad g a0), .int a1] σ o := by
  refine bl_met (by decide) (Nat.le_of_ble_eq_true rfl) (fun p e s m below meth c ls X hr V hl => ?_)
  have hl : lv_has ls 4 [(0, .ref (bl_ad g a0)), (1, .int a1)] := hl
  unfold f_X9_cheapest at hf
  refine lv_aload_n X.1 X.2.1 dX9_cheapest_0 rfl (lv_at hl 0 rfl) ?_
  refine lv_iload_n X.1 X.2.1 dX9_cheapest_1 rfl (lv_at hl 1 rfl) ?_
  refine lv_iconst (v := 0) X.1 X.2.1 dX9_cheapest_2 (by decide) ?_
  obtain ⟨r14, σ15, h16, hf⟩ := bl_bd_at hf
  refine bl_cVi (As := [.int a1, .int 0]) X V hl.1 ha0 rfl ml_X9_251 mV_X9_isAsked (t_X9_isAsked l g σ a0 a1 0 _ ha0 h16) rfl rfl ⟨Nat.le_of_ble_eq_true rfl, Nat.le_of_ble_eq_true rfl⟩ rfl rfl (Nat.le_of_ble_eq_true rfl) ⟨Nat.zero_le _, Nat.zero_le _⟩ dX9_cheapest_3 (fun H locs V => ?_)
  refine lv_if_ne (tgt := 11) X.1 X.2.1 dX9_cheapest_6 (by decide) (fun c17 => ?_) (fun c17 => ?_)
  · have hf := bl_ifn c17 hf
    refine lv_iconst (v := 0) X.1 X.2.1 dX9_cheapest_11 (by decide) ?_
    refine lv_istore_n (lv' := [(2, .int 0), (0, .ref (bl_ad g a0)), (1, .int a1)]) X.1 X.2.1 dX9_cheapest_12 rfl hl (by decide) rfl (fun ls hl => ?_)
    refine lv_iconst (v := 1) X.1 X.2.1 dX9_cheapest_13 (by decide) ?_
    refine lv_istore_n (lv' := [(3, .int 1), (2, .int 0), (0, .ref (bl_ad g a0)), (1, .int a1)]) X.1 X.2.1 dX9_cheapest_14 rfl hl (by decide) rfl (fun ls hl => ?_)
    exact l_X9_cheapest_15 X hr  bl_fu σ15 a0 a1 0 1 ha0 hf _ _ _ V (lv_sub hl [2, 3, 1, 0] rfl)
  · have hf := bl_ifp c17 hf
    refine lv_iconst (v := (-1)) X.1 X.2.1 dX9_cheapest_9 (by decide) ?_
    exact bl_reti X V hr hf dX9_cheapest_10
set_option maxHeartbeats 4000000 in
set_option maxRecDepth 100000 in
theorem w_X9_stepFrom_53 {p : Program} {l : Launch} {e : Env} {s : State} {m : MethodId} {below : List Frame} {meth : Method} {c : Code} {g : bl_Gp} {as : List Value} {out : Int32 × bl_St} (X : bl_Cx g p s m as.toArray meth c cX9_stepFrom 5 RX9) (hr : meth.sig.returnType = (Option.some Jvm.ClassFile.FieldType.int)) (k4 : bl_St → Nat → Int32 → Int32 → Int32 → Option (Int32 × bl_St)) (hk4 : ∀ (σ : bl_St) (v0 : Nat) (v1 : Int32) (v2 : Int32) (v3 : Int32), bl_sh[v0]? = some (9, 13) → k4 σ v0 v1 v2 v3 = some out → ∀ (H : Heap) (locs : List Loc) (ls : Array Slot), bl_V g s σ H locs → lv_has ls 5 [(0, .ref (bl_ad g v0)), (1, .int v1), (2, .int v2), (3, .int v3)] → W p l e (bl_rm 2 39) s m as.toArray below meth c H locs 0 0 (bl_Qi below g s as out) (F0 m 4 ls [])) : ∀ (σ : bl_St) (v0 : Nat) (v1 : Int32) (v2 : Int32) (v3 : Int32), bl_sh[v0]? = some (9, 13) → (b_X9_stepFrom_53 k4) σ v0 v1 v2 v3 = some out → ∀ (H : Heap) (locs : List Loc) (ls : Array Slot), bl_V g s σ H locs → lv_has ls 5 [(0, .ref (bl_ad g v0)), (1, .int v1), (2, .int v2), (3, .int v3)] → W p l e (bl_rm 2 39) s m as.toArray below meth c H locs 0 0 (bl_Qi below g s as out) (F0 m 53 ls []) := by
  intro σ v0 v1 v2 v3 hv0 hf H locs ls V hl
  unfold b_X9_stepFrom_53 at hf
  obtain ⟨x1, e2⟩ : ∃ z : Int32, z = v3 + 1 := ⟨_, rfl⟩
  have hf := bl_let_at e2 hf
  refine lv_iinc (v := x1) (lv' := [(3, .int x1), (0, .ref (bl_ad g v0)), (1, .int v1), (2, .int v2)]) X.1 X.2.1 dX9_stepFrom_53 hl (k := 3) rfl (by rw [e2]; rfl) (by decide) rfl (fun ls hl => ?_)
  refine lv_goto (tgt := 4) X.1 X.2.1 dX9_stepFrom_56 (by decide) ?_
  exact hk4 σ v0 v1 v2 x1 hv0 hf _ _ _ V (lv_sub hl [1, 2, 3, 0] rfl)
set_option maxHeartbeats 4000000 in
set_option maxRecDepth 100000 in
theorem w_X9_stepFrom_26 {p : Program} {l : Launch} {e : Env} {s : State} {m : MethodId} {below : List Frame} {meth : Method} {c : Code} {g : bl_Gp} {as : List Value} {out : Int32 × bl_St} (X : bl_Cx g p s m as.toArray meth c cX9_stepFrom 5 RX9) (hr : meth.sig.returnType = (Option.some Jvm.ClassFile.FieldType.int)) (k4 : bl_St → Nat → Int32 → Int32 → Int32 → Option (Int32 × bl_St)) (hk4 : ∀ (σ : bl_St) (v0 : Nat) (v1 : Int32) (v2 : Int32) (v3 : Int32), bl_sh[v0]? = some (9, 13) → k4 σ v0 v1 v2 v3 = some out → ∀ (H : Heap) (locs : List Loc) (ls : Array Slot), bl_V g s σ H locs → lv_has ls 5 [(0, .ref (bl_ad g v0)), (1, .int v1), (2, .int v2), (3, .int v3)] → W p l e (bl_rm 2 39) s m as.toArray below meth c H locs 0 0 (bl_Qi below g s as out) (F0 m 4 ls [])) (k26 : bl_St → Nat → Int32 → Int32 → Int32 → Int32 → Option (Int32 × bl_St)) (hk26 : ∀ (σ : bl_St) (v0 : Nat) (v1 : Int32) (v2 : Int32) (v3 : Int32) (v4 : Int32), bl_sh[v0]? = some (9, 13) → k26 σ v0 v1 v2 v3 v4 = some out → ∀ (H : Heap) (locs : List Loc) (ls : Array Slot), bl_V g s σ H locs → lv_has ls 5 [(0, .ref (bl_ad g v0)), (1, .int v1), (2, .int v2), (3, .int v3), (4, .int v4)] → W p l e (bl_rm 2 39) s m as.toArray below meth c H locs 0 0 (bl_Qi below g s as out) (F0 m 26 ls [])) : ∀ (σ : bl_St) (v0 : Nat) (v1 : Int32) (v2 : Int32) (v3 : Int32) (v4 : Int32), bl_sh[v0]? = some (9, 13) → (b_X9_stepFrom_26 k4 k26) σ v0 v1 v2 v3 v4 = some out → ∀ (H : Heap) (locs : List Loc) (ls : Array Slot), bl_V g s σ H locs → lv_has ls 5 [(0, .ref (bl_ad g v0)), (1, .int v1), (2, .int v2), (3, .int v3), (4, .int v4)] → W p l e (bl_rm 2 39) s m as.toArray below meth c H locs 0 0 (bl_Qi below g s as out) (F0 m 26 ls []) := by
  intro σ v0 v1 v2 v3 v4 hv0 hf H locs ls V hl
  unfold b_X9_stepFrom_26 at hf
  refine lv_iload X.1 X.2.1 dX9_stepFrom_26 (lv_at hl 4 rfl) ?_
  refine lv_iconst (v := 3) X.1 X.2.1 dX9_stepFrom_28 (by decide) ?_
  refine lv_icmp_ge (tgt := 53) X.1 X.2.1 dX9_stepFrom_29 (by decide) (fun c3 => ?_) (fun c3 => ?_)
  · have hf := bl_ifp c3 hf
    exact w_X9_stepFrom_53 X hr k4 hk4 σ v0 v1 v2 v3 hv0 hf _ _ _ V (lv_sub hl [0, 1, 2, 3] rfl)
  · have hf := bl_ifn c3 hf
    refine lv_iload_n X.1 X.2.1 dX9_stepFrom_32 rfl (lv_at hl 2 rfl) ?_
    refine lv_iconst (v := 1) X.1 X.2.1 dX9_stepFrom_33 (by decide) ?_
    refine lv_aload_n X.1 X.2.1 dX9_stepFrom_34 rfl (lv_at hl 0 rfl) ?_
    refine bl_getr X V hv0 fl_X9_26 rfl dX9_stepFrom_35 (fun h4 => ?_)
    refine lv_iload_n X.1 X.2.1 dX9_stepFrom_38 rfl (lv_at hl 3 rfl) ?_
    refine lv_iload X.1 X.2.1 dX9_stepFrom_39 (lv_at hl 4 rfl) ?_
    obtain ⟨r5, σ6, h7, hf⟩ := bl_bd_at hf
    refine bl_cVi (As := [.int v3, .int v4]) X V hl.1 h4 rfl ml_X9_307 mV_X8_next (t_X8_next l g σ (bl_R σ v0 2) v3 v4 _ h4 h7) rfl rfl ⟨Nat.le_of_ble_eq_true rfl, Nat.le_of_ble_eq_true rfl⟩ rfl rfl (Nat.le_of_ble_eq_true rfl) ⟨Nat.zero_le _, Nat.zero_le _⟩ dX9_stepFrom_41 (fun H locs V => ?_)
    refine lv_ishl X.1 X.2.1 dX9_stepFrom_44 ?_
    refine lv_ior X.1 X.2.1 dX9_stepFrom_45 ?_
    refine lv_topi (fun x8 e9 => ?_)
    have hf := bl_let_at e9 hf
    refine lv_istore_n (lv' := [(2, .int x8), (0, .ref (bl_ad g v0)), (1, .int v1), (3, .int v3), (4, .int v4)]) X.1 X.2.1 dX9_stepFrom_46 rfl hl (by decide) rfl (fun ls hl => ?_)
    obtain ⟨x10, e11⟩ : ∃ z : Int32, z = v4 + 1 := ⟨_, rfl⟩
    have hf := bl_let_at e11 hf
    refine lv_iinc (v := x10) (lv' := [(4, .int x10), (2, .int x8), (0, .ref (bl_ad g v0)), (1, .int v1), (3, .int v3)]) X.1 X.2.1 dX9_stepFrom_47 hl (k := 4) rfl (by rw [e11]; rfl) (by decide) rfl (fun ls hl => ?_)
    refine lv_goto (tgt := 26) X.1 X.2.1 dX9_stepFrom_50 (by decide) ?_
    exact hk26 σ6 v0 v1 x8 v3 x10 hv0 hf _ _ _ V (lv_sub hl [2, 3, 1, 4, 0] rfl)
theorem l_X9_stepFrom_26 {p : Program} {l : Launch} {e : Env} {s : State} {m : MethodId} {below : List Frame} {meth : Method} {c : Code} {g : bl_Gp} {as : List Value} {out : Int32 × bl_St} (X : bl_Cx g p s m as.toArray meth c cX9_stepFrom 5 RX9) (hr : meth.sig.returnType = (Option.some Jvm.ClassFile.FieldType.int)) (k4 : bl_St → Nat → Int32 → Int32 → Int32 → Option (Int32 × bl_St)) (hk4 : ∀ (σ : bl_St) (v0 : Nat) (v1 : Int32) (v2 : Int32) (v3 : Int32), bl_sh[v0]? = some (9, 13) → k4 σ v0 v1 v2 v3 = some out → ∀ (H : Heap) (locs : List Loc) (ls : Array Slot), bl_V g s σ H locs → lv_has ls 5 [(0, .ref (bl_ad g v0)), (1, .int v1), (2, .int v2), (3, .int v3)] → W p l e (bl_rm 2 39) s m as.toArray below meth c H locs 0 0 (bl_Qi below g s as out) (F0 m 4 ls [])) (n : Nat) : ∀ (σ : bl_St) (v0 : Nat) (v1 : Int32) (v2 : Int32) (v3 : Int32) (v4 : Int32), bl_sh[v0]? = some (9, 13) → (bl_fx (fun _ _ _ _ _ _ => none) (b_X9_stepFrom_26 k4) n) σ v0 v1 v2 v3 v4 = some out → ∀ (H : Heap) (locs : List Loc) (ls : Array Slot), bl_V g s σ H locs → lv_has ls 5 [(0, .ref (bl_ad g v0)), (1, .int v1), (2, .int v2), (3, .int v3), (4, .int v4)] → W p l e (bl_rm 2 39) s m as.toArray below meth c H locs 0 0 (bl_Qi below g s as out) (F0 m 26 ls []) := by
  induction n with
  | zero =>
    intro σ v0 v1 v2 v3 v4 hv0 hf H locs ls V hl
    cases hf
  | succ n ih => exact w_X9_stepFrom_26 X hr k4 hk4 _ ih
set_option maxHeartbeats 4000000 in
set_option maxRecDepth 100000 in
theorem w_X9_stepFrom_4 {p : Program} {l : Launch} {e : Env} {s : State} {m : MethodId} {below : List Frame} {meth : Method} {c : Code} {g : bl_Gp} {as : List Value} {out : Int32 × bl_St} (X : bl_Cx g p s m as.toArray meth c cX9_stepFrom 5 RX9) (hr : meth.sig.returnType = (Option.some Jvm.ClassFile.FieldType.int)) (k4 : bl_St → Nat → Int32 → Int32 → Int32 → Option (Int32 × bl_St)) (hk4 : ∀ (σ : bl_St) (v0 : Nat) (v1 : Int32) (v2 : Int32) (v3 : Int32), bl_sh[v0]? = some (9, 13) → k4 σ v0 v1 v2 v3 = some out → ∀ (H : Heap) (locs : List Loc) (ls : Array Slot), bl_V g s σ H locs → lv_has ls 5 [(0, .ref (bl_ad g v0)), (1, .int v1), (2, .int v2), (3, .int v3)] → W p l e (bl_rm 2 39) s m as.toArray below meth c H locs 0 0 (bl_Qi below g s as out) (F0 m 4 ls [])) : ∀ (σ : bl_St) (v0 : Nat) (v1 : Int32) (v2 : Int32) (v3 : Int32), bl_sh[v0]? = some (9, 13) → (b_X9_stepFrom_4 k4) σ v0 v1 v2 v3 = some out → ∀ (H : Heap) (locs : List Loc) (ls : Array Slot), bl_V g s σ H locs → lv_has ls 5 [(0, .ref (bl_ad g v0)), (1, .int v1), (2, .int v2), (3, .int v3)] → W p l e (bl_rm 2 39) s m as.toArray below meth c H locs 0 0 (bl_Qi below g s as out) (F0 m 4 ls []) := by
  intro σ v0 v1 v2 v3 hv0 hf H locs ls V hl
  unfold b_X9_stepFrom_4 at hf
  refine lv_iload_n X.1 X.2.1 dX9_stepFrom_4 rfl (lv_at hl 3 rfl) ?_
  refine lv_aload_n X.1 X.2.1 dX9_stepFrom_5 rfl (lv_at hl 0 rfl) ?_
  refine bl_getr X V hv0 fl_X9_26 rfl dX9_stepFrom_6 (fun h12 => ?_)
  refine bl_geti X V h12 fl_X9_111 dX9_stepFrom_9 ?_
  refine lv_icmp_ge (tgt := 59) X.1 X.2.1 dX9_stepFrom_12 (by decide) (fun c13 => ?_) (fun c13 => ?_)
  · have hf := bl_ifp c13 hf
    refine lv_iload_n X.1 X.2.1 dX9_stepFrom_59 rfl (lv_at hl 2 rfl) ?_
    exact bl_reti X V hr hf dX9_stepFrom_60
  · have hf := bl_ifn c13 hf
    refine lv_iload_n X.1 X.2.1 dX9_stepFrom_15 rfl (lv_at hl 1 rfl) ?_
    refine lv_iload_n X.1 X.2.1 dX9_stepFrom_16 rfl (lv_at hl 3 rfl) ?_
    refine lv_ishr X.1 X.2.1 dX9_stepFrom_17 ?_
    refine lv_iconst (v := 1) X.1 X.2.1 dX9_stepFrom_18 (by decide) ?_
    refine lv_iand X.1 X.2.1 dX9_stepFrom_19 ?_
    refine lv_if_eq (tgt := 53) X.1 X.2.1 dX9_stepFrom_20 (by decide) (fun c14 => ?_) (fun c14 => ?_)
    · have hf := bl_ifp c14 hf
      exact w_X9_stepFrom_53 X hr k4 hk4 σ v0 v1 v2 v3 hv0 hf _ _ _ V (lv_sub hl [0, 1, 2, 3] rfl)
    · have hf := bl_ifn c14 hf
      refine lv_iconst (v := 0) X.1 X.2.1 dX9_stepFrom_23 (by decide) ?_
      refine lv_istore (lv' := [(4, .int 0), (0, .ref (bl_ad g v0)), (1, .int v1), (2, .int v2), (3, .int v3)]) X.1 X.2.1 dX9_stepFrom_24 hl (by decide) rfl (fun ls hl => ?_)
      exact l_X9_stepFrom_26 X hr k4 hk4 bl_fu σ v0 v1 v2 v3 0 hv0 hf _ _ _ V (lv_sub hl [1, 2, 3, 4, 0] rfl)
theorem l_X9_stepFrom_4 {p : Program} {l : Launch} {e : Env} {s : State} {m : MethodId} {below : List Frame} {meth : Method} {c : Code} {g : bl_Gp} {as : List Value} {out : Int32 × bl_St} (X : bl_Cx g p s m as.toArray meth c cX9_stepFrom 5 RX9) (hr : meth.sig.returnType = (Option.some Jvm.ClassFile.FieldType.int)) (n : Nat) : ∀ (σ : bl_St) (v0 : Nat) (v1 : Int32) (v2 : Int32) (v3 : Int32), bl_sh[v0]? = some (9, 13) → (bl_fx (fun _ _ _ _ _ => none) (b_X9_stepFrom_4 ) n) σ v0 v1 v2 v3 = some out → ∀ (H : Heap) (locs : List Loc) (ls : Array Slot), bl_V g s σ H locs → lv_has ls 5 [(0, .ref (bl_ad g v0)), (1, .int v1), (2, .int v2), (3, .int v3)] → W p l e (bl_rm 2 39) s m as.toArray below meth c H locs 0 0 (bl_Qi below g s as out) (F0 m 4 ls []) := by
  induction n with
  | zero =>
    intro σ v0 v1 v2 v3 hv0 hf H locs ls V hl
    cases hf
  | succ n ih => exact w_X9_stepFrom_4 X hr  _ ih
set_option maxHeartbeats 4000000 in
set_option maxRecDepth 100000 in
theorem t_X9_stepFrom (l : Launch) (g : bl_Gp) (σ : bl_St) (a0 : Nat) (a1 : Int32) (o : Int32 × bl_St) (ha0 : bl_sh[a0]? = some (9, 13)) (hf : f_X9_stepFrom σ a0 a1 = some o) : bl_Ci l g yX9_stepFrom cX9_stepFrom 5 (Option.some Jvm.ClassFile.FieldType.int) (bl_rm 2 39) [.ref (bl_ad g a0), .int a1] σ o := by
  refine bl_met (by decide) (Nat.le_of_ble_eq_true rfl) (fun p e s m below meth c ls X hr V hl => ?_)
  have hl : lv_has ls 5 [(0, .ref (bl_ad g a0)), (1, .int a1)] := hl
  unfold f_X9_stepFrom at hf
  refine lv_iconst (v := 0) X.1 X.2.1 dX9_stepFrom_0 (by decide) ?_
  refine lv_istore_n (lv' := [(2, .int 0), (0, .ref (bl_ad g a0)), (1, .int a1)]) X.1 X.2.1 dX9_stepFrom_1 rfl hl (by decide) rfl (fun ls hl => ?_)
  refine lv_iconst (v := 0) X.1 X.2.1 dX9_stepFrom_2 (by decide) ?_
  refine lv_istore_n (lv' := [(3, .int 0), (2, .int 0), (0, .ref (bl_ad g a0)), (1, .int a1)]) X.1 X.2.1 dX9_stepFrom_3 rfl hl (by decide) rfl (fun ls hl => ?_)
  exact l_X9_stepFrom_4 X hr  bl_fu σ a0 a1 0 0 ha0 hf _ _ _ V (lv_sub hl [2, 3, 1, 0] rfl)
set_option maxHeartbeats 4000000 in
set_option maxRecDepth 100000 in
theorem w_X9_reach_19 {p : Program} {l : Launch} {e : Env} {s : State} {m : MethodId} {below : List Frame} {meth : Method} {c : Code} {g : bl_Gp} {as : List Value} {out : Int32 × bl_St} (X : bl_Cx g p s m as.toArray meth c cX9_reach 4 RX9) (hr : meth.sig.returnType = (Option.some Jvm.ClassFile.FieldType.int)) (k19 : bl_St → Nat → Int32 → Int32 → Option (Int32 × bl_St)) (hk19 : ∀ (σ : bl_St) (v0 : Nat) (v2 : Int32) (v3 : Int32), bl_sh[v0]? = some (9, 13) → k19 σ v0 v2 v3 = some out → ∀ (H : Heap) (locs : List Loc) (ls : Array Slot), bl_V g s σ H locs → lv_has ls 4 [(0, .ref (bl_ad g v0)), (2, .int v2), (3, .int v3)] → W p l e (bl_rm 3 63) s m as.toArray below meth c H locs 0 0 (bl_Qi below g s as out) (F0 m 19 ls [])) : ∀ (σ : bl_St) (v0 : Nat) (v2 : Int32) (v3 : Int32), bl_sh[v0]? = some (9, 13) → (b_X9_reach_19 k19) σ v0 v2 v3 = some out → ∀ (H : Heap) (locs : List Loc) (ls : Array Slot), bl_V g s σ H locs → lv_has ls 4 [(0, .ref (bl_ad g v0)), (2, .int v2), (3, .int v3)] → W p l e (bl_rm 3 63) s m as.toArray below meth c H locs 0 0 (bl_Qi below g s as out) (F0 m 19 ls []) := by
  intro σ v0 v2 v3 hv0 hf H locs ls V hl
  unfold b_X9_reach_19 at hf
  refine lv_iload_n X.1 X.2.1 dX9_reach_19 rfl (lv_at hl 2 rfl) ?_
  refine lv_aload_n X.1 X.2.1 dX9_reach_20 rfl (lv_at hl 0 rfl) ?_
  refine bl_getr X V hv0 fl_X9_26 rfl dX9_reach_21 (fun h1 => ?_)
  refine bl_geti X V h1 fl_X9_111 dX9_reach_24 ?_
  refine lv_icmp_ge (tgt := 44) X.1 X.2.1 dX9_reach_27 (by decide) (fun c2 => ?_) (fun c2 => ?_)
  · have hf := bl_ifp c2 hf
    refine lv_iload_n X.1 X.2.1 dX9_reach_44 rfl (lv_at hl 1 rfl) ?_
    exact bl_reti X V hr hf dX9_reach_45
  · have hf := bl_ifn c2 hf
    refine lv_iload_n X.1 X.2.1 dX9_reach_30 rfl (lv_at hl 1 rfl) ?_
    refine lv_aload_n X.1 X.2.1 dX9_reach_31 rfl (lv_at hl 0 rfl) ?_
    refine lv_iload_n X.1 X.2.1 dX9_reach_32 rfl (lv_at hl 1 rfl) ?_
    obtain ⟨r3, σ4, h5, hf⟩ := bl_bd_at hf
    refine bl_cVi (As := [.int v2]) X V hl.1 hv0 rfl ml_X9_304 mV_X9_stepFrom (t_X9_stepFrom l g σ v0 v2 _ hv0 h5) rfl rfl ⟨Nat.le_of_ble_eq_true rfl, Nat.le_of_ble_eq_true rfl⟩ rfl rfl (Nat.le_of_ble_eq_true rfl) ⟨Nat.zero_le _, Nat.zero_le _⟩ dX9_reach_33 (fun H locs V => ?_)
    refine lv_ior X.1 X.2.1 dX9_reach_36 ?_
    refine lv_topi (fun x6 e7 => ?_)
    have hf := bl_let_at e7 hf
    refine lv_istore_n (lv' := [(2, .int x6), (0, .ref (bl_ad g v0)), (3, .int v3)]) X.1 X.2.1 dX9_reach_37 rfl hl (by decide) rfl (fun ls hl => ?_)
    obtain ⟨x8, e9⟩ : ∃ z : Int32, z = v3 + 1 := ⟨_, rfl⟩
    have hf := bl_let_at e9 hf
    refine lv_iinc (v := x8) (lv' := [(3, .int x8), (2, .int x6), (0, .ref (bl_ad g v0))]) X.1 X.2.1 dX9_reach_38 hl (k := 2) rfl (by rw [e9]; rfl) (by decide) rfl (fun ls hl => ?_)
    refine lv_goto (tgt := 19) X.1 X.2.1 dX9_reach_41 (by decide) ?_
    exact hk19 σ4 v0 x6 x8 hv0 hf _ _ _ V (lv_sub hl [2, 1, 0] rfl)
theorem l_X9_reach_19 {p : Program} {l : Launch} {e : Env} {s : State} {m : MethodId} {below : List Frame} {meth : Method} {c : Code} {g : bl_Gp} {as : List Value} {out : Int32 × bl_St} (X : bl_Cx g p s m as.toArray meth c cX9_reach 4 RX9) (hr : meth.sig.returnType = (Option.some Jvm.ClassFile.FieldType.int)) (n : Nat) : ∀ (σ : bl_St) (v0 : Nat) (v2 : Int32) (v3 : Int32), bl_sh[v0]? = some (9, 13) → (bl_fx (fun _ _ _ _ => none) (b_X9_reach_19 ) n) σ v0 v2 v3 = some out → ∀ (H : Heap) (locs : List Loc) (ls : Array Slot), bl_V g s σ H locs → lv_has ls 4 [(0, .ref (bl_ad g v0)), (2, .int v2), (3, .int v3)] → W p l e (bl_rm 3 63) s m as.toArray below meth c H locs 0 0 (bl_Qi below g s as out) (F0 m 19 ls []) := by
  induction n with
  | zero =>
    intro σ v0 v2 v3 hv0 hf H locs ls V hl
    cases hf
  | succ n ih => exact w_X9_reach_19 X hr  _ ih
set_option maxHeartbeats 4000000 in
set_option maxRecDepth 100000 in
theorem t_X9_reach (l : Launch) (g : bl_Gp) (σ : bl_St) (a0 : Nat) (a1 : Int32) (o : Int32 × bl_St) (ha0 : bl_sh[a0]? = some (9, 13)) (hf : f_X9_reach σ a0 a1 = some o) : bl_Ci l g yX9_reach cX9_reach 4 (Option.some Jvm.ClassFile.FieldType.int) (bl_rm 3 63) [.ref (bl_ad g a0), .int a1] σ o := by
  refine bl_met (by decide) (Nat.le_of_ble_eq_true rfl) (fun p e s m below meth c ls X hr V hl => ?_)
  have hl : lv_has ls 4 [(0, .ref (bl_ad g a0)), (1, .int a1)] := hl
  unfold f_X9_reach at hf
  refine lv_aload_n X.1 X.2.1 dX9_reach_0 rfl (lv_at hl 0 rfl) ?_
  refine bl_getr X V ha0 fl_X9_26 rfl dX9_reach_1 (fun h10 => ?_)
  refine lv_iload_n X.1 X.2.1 dX9_reach_4 rfl (lv_at hl 1 rfl) ?_
  obtain ⟨r11, σ12, h13, hf⟩ := bl_bd_at hf
  refine bl_cVi (As := [.int a1]) X V hl.1 h10 rfl ml_X9_114 mV_X8_hasClass (t_X8_hasClass l g σ (bl_R σ a0 2) a1 _ h10 h13) rfl rfl ⟨Nat.le_of_ble_eq_true rfl, Nat.le_of_ble_eq_true rfl⟩ rfl rfl (Nat.le_of_ble_eq_true rfl) ⟨Nat.zero_le _, Nat.zero_le _⟩ dX9_reach_5 (fun H locs V => ?_)
  refine lv_if_ne (tgt := 13) X.1 X.2.1 dX9_reach_8 (by decide) (fun c14 => ?_) (fun c14 => ?_)
  · have hf := bl_ifn c14 hf
    refine lv_iconst (v := 1) X.1 X.2.1 dX9_reach_13 (by decide) ?_
    refine lv_iload_n X.1 X.2.1 dX9_reach_14 rfl (lv_at hl 1 rfl) ?_
    refine lv_ishl X.1 X.2.1 dX9_reach_15 ?_
    refine lv_topi (fun x15 e16 => ?_)
    have hf := bl_let_at e16 hf
    refine lv_istore_n (lv' := [(2, .int x15), (0, .ref (bl_ad g a0)), (1, .int a1)]) X.1 X.2.1 dX9_reach_16 rfl hl (by decide) rfl (fun ls hl => ?_)
    refine lv_iconst (v := 0) X.1 X.2.1 dX9_reach_17 (by decide) ?_
    refine lv_istore_n (lv' := [(3, .int 0), (2, .int x15), (0, .ref (bl_ad g a0)), (1, .int a1)]) X.1 X.2.1 dX9_reach_18 rfl hl (by decide) rfl (fun ls hl => ?_)
    exact l_X9_reach_19 X hr  bl_fu σ12 a0 x15 0 ha0 hf _ _ _ V (lv_sub hl [2, 1, 0] rfl)
  · have hf := bl_ifp c14 hf
    refine lv_iconst (v := (-1)) X.1 X.2.1 dX9_reach_11 (by decide) ?_
    exact bl_reti X V hr hf dX9_reach_12
set_option maxHeartbeats 4000000 in
set_option maxRecDepth 100000 in
theorem w_X9_years_29 {p : Program} {l : Launch} {e : Env} {s : State} {m : MethodId} {below : List Frame} {meth : Method} {c : Code} {g : bl_Gp} {as : List Value} {out : Int32 × bl_St} (X : bl_Cx g p s m as.toArray meth c cX9_years 5 RX9) (hr : meth.sig.returnType = (Option.some Jvm.ClassFile.FieldType.int)) (k29 : bl_St → Nat → Int32 → Int32 → Int32 → Option (Int32 × bl_St)) (hk29 : ∀ (σ : bl_St) (v0 : Nat) (v2 : Int32) (v3 : Int32) (v4 : Int32), bl_sh[v0]? = some (9, 13) → k29 σ v0 v2 v3 v4 = some out → ∀ (H : Heap) (locs : List Loc) (ls : Array Slot), bl_V g s σ H locs → lv_has ls 5 [(0, .ref (bl_ad g v0)), (2, .int v2), (3, .int v3), (4, .int v4)] → W p l e (bl_rm 2 39) s m as.toArray below meth c H locs 0 0 (bl_Qi below g s as out) (F0 m 29 ls [])) : ∀ (σ : bl_St) (v0 : Nat) (v2 : Int32) (v3 : Int32) (v4 : Int32), bl_sh[v0]? = some (9, 13) → (b_X9_years_29 k29) σ v0 v2 v3 v4 = some out → ∀ (H : Heap) (locs : List Loc) (ls : Array Slot), bl_V g s σ H locs → lv_has ls 5 [(0, .ref (bl_ad g v0)), (2, .int v2), (3, .int v3), (4, .int v4)] → W p l e (bl_rm 2 39) s m as.toArray below meth c H locs 0 0 (bl_Qi below g s as out) (F0 m 29 ls []) := by
  intro σ v0 v2 v3 v4 hv0 hf H locs ls V hl
  unfold b_X9_years_29 at hf
  refine lv_iload X.1 X.2.1 dX9_years_29 (lv_at hl 3 rfl) ?_
  refine lv_aload_n X.1 X.2.1 dX9_years_31 rfl (lv_at hl 0 rfl) ?_
  refine bl_getr X V hv0 fl_X9_26 rfl dX9_years_32 (fun h1 => ?_)
  refine bl_geti X V h1 fl_X9_111 dX9_years_35 ?_
  refine lv_icmp_ge (tgt := 65) X.1 X.2.1 dX9_years_38 (by decide) (fun c2 => ?_) (fun c2 => ?_)
  · have hf := bl_ifp c2 hf
    refine lv_bipush (v := (-2)) X.1 X.2.1 dX9_years_65 (by decide) ?_
    exact bl_reti X V hr hf dX9_years_67
  · have hf := bl_ifn c2 hf
    refine lv_iload_n X.1 X.2.1 dX9_years_41 rfl (lv_at hl 2 rfl) ?_
    refine lv_iload_n X.1 X.2.1 dX9_years_42 rfl (lv_at hl 1 rfl) ?_
    refine lv_icmp_ne (tgt := 49) X.1 X.2.1 dX9_years_43 (by decide) (fun c3 => ?_) (fun c3 => ?_)
    · have hf := bl_ifn c3 hf
      refine lv_aload_n X.1 X.2.1 dX9_years_49 rfl (lv_at hl 0 rfl) ?_
      refine bl_getr X V hv0 fl_X9_26 rfl dX9_years_50 (fun h4 => ?_)
      refine lv_iload_n X.1 X.2.1 dX9_years_53 rfl (lv_at hl 2 rfl) ?_
      refine lv_iconst (v := 0) X.1 X.2.1 dX9_years_54 (by decide) ?_
      obtain ⟨r5, σ6, h7, hf⟩ := bl_bd_at hf
      refine bl_cVi (As := [.int v3, .int 0]) X V hl.1 h4 rfl ml_X9_307 mV_X8_next (t_X8_next l g σ (bl_R σ v0 2) v3 0 _ h4 h7) rfl rfl ⟨Nat.le_of_ble_eq_true rfl, Nat.le_of_ble_eq_true rfl⟩ rfl rfl (Nat.le_of_ble_eq_true rfl) ⟨Nat.zero_le _, Nat.zero_le _⟩ dX9_years_55 (fun H locs V => ?_)
      refine lv_istore_n (lv' := [(3, .int r5), (0, .ref (bl_ad g v0)), (2, .int v2), (4, .int v4)]) X.1 X.2.1 dX9_years_58 rfl hl (by decide) rfl (fun ls hl => ?_)
      obtain ⟨x8, e9⟩ : ∃ z : Int32, z = v4 + 1 := ⟨_, rfl⟩
      have hf := bl_let_at e9 hf
      refine lv_iinc (v := x8) (lv' := [(4, .int x8), (3, .int r5), (0, .ref (bl_ad g v0)), (2, .int v2)]) X.1 X.2.1 dX9_years_59 hl (k := 3) rfl (by rw [e9]; rfl) (by decide) rfl (fun ls hl => ?_)
      refine lv_goto (tgt := 29) X.1 X.2.1 dX9_years_62 (by decide) ?_
      exact hk29 σ6 v0 v2 r5 x8 hv0 hf _ _ _ V (lv_sub hl [2, 3, 1, 0] rfl)
    · have hf := bl_ifp c3 hf
      refine lv_iload X.1 X.2.1 dX9_years_46 (lv_at hl 3 rfl) ?_
      exact bl_reti X V hr hf dX9_years_48
theorem l_X9_years_29 {p : Program} {l : Launch} {e : Env} {s : State} {m : MethodId} {below : List Frame} {meth : Method} {c : Code} {g : bl_Gp} {as : List Value} {out : Int32 × bl_St} (X : bl_Cx g p s m as.toArray meth c cX9_years 5 RX9) (hr : meth.sig.returnType = (Option.some Jvm.ClassFile.FieldType.int)) (n : Nat) : ∀ (σ : bl_St) (v0 : Nat) (v2 : Int32) (v3 : Int32) (v4 : Int32), bl_sh[v0]? = some (9, 13) → (bl_fx (fun _ _ _ _ _ => none) (b_X9_years_29 ) n) σ v0 v2 v3 v4 = some out → ∀ (H : Heap) (locs : List Loc) (ls : Array Slot), bl_V g s σ H locs → lv_has ls 5 [(0, .ref (bl_ad g v0)), (2, .int v2), (3, .int v3), (4, .int v4)] → W p l e (bl_rm 2 39) s m as.toArray below meth c H locs 0 0 (bl_Qi below g s as out) (F0 m 29 ls []) := by
  induction n with
  | zero =>
    intro σ v0 v2 v3 v4 hv0 hf H locs ls V hl
    cases hf
  | succ n ih => exact w_X9_years_29 X hr  _ ih
set_option maxHeartbeats 4000000 in
set_option maxRecDepth 100000 in
theorem t_X9_years (l : Launch) (g : bl_Gp) (σ : bl_St) (a0 : Nat) (a1 : Int32) (a2 : Int32) (o : Int32 × bl_St) (ha0 : bl_sh[a0]? = some (9, 13)) (hf : f_X9_years σ a0 a1 a2 = some o) : bl_Ci l g yX9_years cX9_years 5 (Option.some Jvm.ClassFile.FieldType.int) (bl_rm 2 39) [.ref (bl_ad g a0), .int a1, .int a2] σ o := by
  refine bl_met (by decide) (Nat.le_of_ble_eq_true rfl) (fun p e s m below meth c ls X hr V hl => ?_)
  have hl : lv_has ls 5 [(0, .ref (bl_ad g a0)), (1, .int a1), (2, .int a2)] := hl
  unfold f_X9_years at hf
  refine lv_aload_n X.1 X.2.1 dX9_years_0 rfl (lv_at hl 0 rfl) ?_
  refine bl_getr X V ha0 fl_X9_26 rfl dX9_years_1 (fun h10 => ?_)
  refine lv_iload_n X.1 X.2.1 dX9_years_4 rfl (lv_at hl 1 rfl) ?_
  obtain ⟨r11, σ12, h13, hf⟩ := bl_bd_at hf
  refine bl_cVi (As := [.int a1]) X V hl.1 h10 rfl ml_X9_114 mV_X8_hasClass (t_X8_hasClass l g σ (bl_R σ a0 2) a1 _ h10 h13) rfl rfl ⟨Nat.le_of_ble_eq_true rfl, Nat.le_of_ble_eq_true rfl⟩ rfl rfl (Nat.le_of_ble_eq_true rfl) ⟨Nat.zero_le _, Nat.zero_le _⟩ dX9_years_5 (fun H locs V => ?_)
  refine lv_if_eq (tgt := 22) X.1 X.2.1 dX9_years_8 (by decide) (fun c14 => ?_) (fun c14 => ?_)
  · have hf := bl_ifp c14 hf
    refine lv_iconst (v := (-1)) X.1 X.2.1 dX9_years_22 (by decide) ?_
    exact bl_reti X V hr hf dX9_years_23
  · have hf := bl_ifn c14 hf
    refine lv_aload_n X.1 X.2.1 dX9_years_11 rfl (lv_at hl 0 rfl) ?_
    refine bl_getr X V ha0 fl_X9_26 rfl dX9_years_12 (fun h15 => ?_)
    refine lv_iload_n X.1 X.2.1 dX9_years_15 rfl (lv_at hl 2 rfl) ?_
    obtain ⟨r16, σ17, h18, hf⟩ := bl_bd_at hf
    refine bl_cVi (As := [.int a2]) X V hl.1 h15 rfl ml_X9_114 mV_X8_hasClass (t_X8_hasClass l g σ12 (bl_R σ12 a0 2) a2 _ h15 h18) rfl rfl ⟨Nat.le_of_ble_eq_true rfl, Nat.le_of_ble_eq_true rfl⟩ rfl rfl (Nat.le_of_ble_eq_true rfl) ⟨Nat.zero_le _, Nat.zero_le _⟩ dX9_years_16 (fun H locs V => ?_)
    refine lv_if_ne (tgt := 24) X.1 X.2.1 dX9_years_19 (by decide) (fun c19 => ?_) (fun c19 => ?_)
    · have hf := bl_ifn c19 hf
      refine lv_iload_n X.1 X.2.1 dX9_years_24 rfl (lv_at hl 1 rfl) ?_
      refine lv_istore_n (lv' := [(3, .int a1), (0, .ref (bl_ad g a0)), (1, .int a1), (2, .int a2)]) X.1 X.2.1 dX9_years_25 rfl hl (by decide) rfl (fun ls hl => ?_)
      refine lv_iconst (v := 0) X.1 X.2.1 dX9_years_26 (by decide) ?_
      refine lv_istore (lv' := [(4, .int 0), (3, .int a1), (0, .ref (bl_ad g a0)), (1, .int a1), (2, .int a2)]) X.1 X.2.1 dX9_years_27 hl (by decide) rfl (fun ls hl => ?_)
      exact l_X9_years_29 X hr  bl_fu σ17 a0 a2 a1 0 ha0 hf _ _ _ V (lv_sub hl [2, 4, 1, 0] rfl)
    · have hf := bl_ifp c19 hf
      refine lv_iconst (v := (-1)) X.1 X.2.1 dX9_years_22 (by decide) ?_
      exact bl_reti X V hr hf dX9_years_23
set_option maxHeartbeats 4000000 in
set_option maxRecDepth 100000 in
theorem w_X9_waysOf_80 {p : Program} {l : Launch} {e : Env} {s : State} {m : MethodId} {below : List Frame} {meth : Method} {c : Code} {g : bl_Gp} {as : List Value} {out : Int32 × bl_St} (X : bl_Cx g p s m as.toArray meth c cX9_waysOf 5 RX9) (hr : meth.sig.returnType = (Option.some Jvm.ClassFile.FieldType.int)) (k47 : bl_St → Nat → Int32 → Int32 → Int32 → Int32 → Option (Int32 × bl_St)) (hk47 : ∀ (σ : bl_St) (v0 : Nat) (v1 : Int32) (v2 : Int32) (v3 : Int32) (v4 : Int32), bl_sh[v0]? = some (9, 13) → k47 σ v0 v1 v2 v3 v4 = some out → ∀ (H : Heap) (locs : List Loc) (ls : Array Slot), bl_V g s σ H locs → lv_has ls 5 [(0, .ref (bl_ad g v0)), (1, .int v1), (2, .int v2), (3, .int v3), (4, .int v4)] → W p l e (bl_rm 1 20) s m as.toArray below meth c H locs 0 0 (bl_Qi below g s as out) (F0 m 47 ls [])) : ∀ (σ : bl_St) (v0 : Nat) (v1 : Int32) (v2 : Int32) (v4 : Int32) (s0 : Int32) (s1 : Int32), bl_sh[v0]? = some (9, 13) → (b_X9_waysOf_80 k47) σ v0 v1 v2 v4 s0 s1 = some out → ∀ (H : Heap) (locs : List Loc) (ls : Array Slot), bl_V g s σ H locs → lv_has ls 5 [(0, .ref (bl_ad g v0)), (1, .int v1), (2, .int v2), (4, .int v4)] → W p l e (bl_rm 1 20) s m as.toArray below meth c H locs 0 0 (bl_Qi below g s as out) (F0 m 80 ls [.int s0, .int s1]) := by
  intro σ v0 v1 v2 v4 s0 s1 hv0 hf H locs ls V hl
  unfold b_X9_waysOf_80 at hf
  refine lv_imul X.1 X.2.1 dX9_waysOf_80 ?_
  refine lv_topi (fun x1 e2 => ?_)
  have hf := bl_let_at e2 hf
  refine lv_istore_n (lv' := [(3, .int x1), (0, .ref (bl_ad g v0)), (1, .int v1), (2, .int v2), (4, .int v4)]) X.1 X.2.1 dX9_waysOf_81 rfl hl (by decide) rfl (fun ls hl => ?_)
  obtain ⟨x3, e4⟩ : ∃ z : Int32, z = v4 + 1 := ⟨_, rfl⟩
  have hf := bl_let_at e4 hf
  refine lv_iinc (v := x3) (lv' := [(4, .int x3), (3, .int x1), (0, .ref (bl_ad g v0)), (1, .int v1), (2, .int v2)]) X.1 X.2.1 dX9_waysOf_82 hl (k := 4) rfl (by rw [e4]; rfl) (by decide) rfl (fun ls hl => ?_)
  refine lv_goto (tgt := 47) X.1 X.2.1 dX9_waysOf_85 (by decide) ?_
  exact hk47 σ v0 v1 v2 x1 x3 hv0 hf _ _ _ V (lv_sub hl [2, 3, 4, 1, 0] rfl)
set_option maxHeartbeats 4000000 in
set_option maxRecDepth 100000 in
theorem w_X9_waysOf_47 {p : Program} {l : Launch} {e : Env} {s : State} {m : MethodId} {below : List Frame} {meth : Method} {c : Code} {g : bl_Gp} {as : List Value} {out : Int32 × bl_St} (X : bl_Cx g p s m as.toArray meth c cX9_waysOf 5 RX9) (hr : meth.sig.returnType = (Option.some Jvm.ClassFile.FieldType.int)) (k47 : bl_St → Nat → Int32 → Int32 → Int32 → Int32 → Option (Int32 × bl_St)) (hk47 : ∀ (σ : bl_St) (v0 : Nat) (v1 : Int32) (v2 : Int32) (v3 : Int32) (v4 : Int32), bl_sh[v0]? = some (9, 13) → k47 σ v0 v1 v2 v3 v4 = some out → ∀ (H : Heap) (locs : List Loc) (ls : Array Slot), bl_V g s σ H locs → lv_has ls 5 [(0, .ref (bl_ad g v0)), (1, .int v1), (2, .int v2), (3, .int v3), (4, .int v4)] → W p l e (bl_rm 1 20) s m as.toArray below meth c H locs 0 0 (bl_Qi below g s as out) (F0 m 47 ls [])) : ∀ (σ : bl_St) (v0 : Nat) (v1 : Int32) (v2 : Int32) (v3 : Int32) (v4 : Int32), bl_sh[v0]? = some (9, 13) → (b_X9_waysOf_47 k47) σ v0 v1 v2 v3 v4 = some out → ∀ (H : Heap) (locs : List Loc) (ls : Array Slot), bl_V g s σ H locs → lv_has ls 5 [(0, .ref (bl_ad g v0)), (1, .int v1), (2, .int v2), (3, .int v3), (4, .int v4)] → W p l e (bl_rm 1 20) s m as.toArray below meth c H locs 0 0 (bl_Qi below g s as out) (F0 m 47 ls []) := by
  intro σ v0 v1 v2 v3 v4 hv0 hf H locs ls V hl
  unfold b_X9_waysOf_47 at hf
  refine lv_iload X.1 X.2.1 dX9_waysOf_47 (lv_at hl 4 rfl) ?_
  refine lv_iload_n X.1 X.2.1 dX9_waysOf_49 rfl (lv_at hl 2 rfl) ?_
  refine lv_icmp_ge (tgt := 88) X.1 X.2.1 dX9_waysOf_50 (by decide) (fun c5 => ?_) (fun c5 => ?_)
  · have hf := bl_ifp c5 hf
    refine lv_iload_n X.1 X.2.1 dX9_waysOf_88 rfl (lv_at hl 3 rfl) ?_
    exact bl_reti X V hr hf dX9_waysOf_89
  · have hf := bl_ifn c5 hf
    refine lv_iload_n X.1 X.2.1 dX9_waysOf_53 rfl (lv_at hl 3 rfl) ?_
    refine lv_iload X.1 X.2.1 dX9_waysOf_54 (lv_at hl 4 rfl) ?_
    refine lv_iload_n X.1 X.2.1 dX9_waysOf_56 rfl (lv_at hl 1 rfl) ?_
    refine lv_icmp_ge (tgt := 70) X.1 X.2.1 dX9_waysOf_57 (by decide) (fun c6 => ?_) (fun c6 => ?_)
    · have hf := bl_ifp c6 hf
      refine lv_bipush (v := 12) X.1 X.2.1 dX9_waysOf_70 (by decide) ?_
      refine lv_aload_n X.1 X.2.1 dX9_waysOf_72 rfl (lv_at hl 0 rfl) ?_
      refine bl_getr X V hv0 fl_X9_26 rfl dX9_waysOf_73 (fun h7 => ?_)
      obtain ⟨r8, σ9, h10, hf⟩ := bl_bd_at hf
      refine bl_cVi (As := []) X V hl.1 h7 rfl ml_X9_200 mV_X8_odds (t_X8_odds l g σ (bl_R σ v0 2) _ h7 h10) rfl rfl ⟨Nat.le_of_ble_eq_true rfl, Nat.le_of_ble_eq_true rfl⟩ rfl rfl (Nat.le_of_ble_eq_true rfl) ⟨Nat.zero_le _, Nat.zero_le _⟩ dX9_waysOf_76 (fun H locs V => ?_)
      refine lv_isub X.1 X.2.1 dX9_waysOf_79 ?_
      exact w_X9_waysOf_80 X hr k47 hk47 σ9 v0 v1 v2 v4 (12 - r8) v3 hv0 hf _ _ _ V (lv_sub hl [0, 1, 2, 4] rfl)
    · have hf := bl_ifn c6 hf
      refine lv_aload_n X.1 X.2.1 dX9_waysOf_60 rfl (lv_at hl 0 rfl) ?_
      refine bl_getr X V hv0 fl_X9_26 rfl dX9_waysOf_61 (fun h11 => ?_)
      obtain ⟨r12, σ13, h14, hf⟩ := bl_bd_at hf
      refine bl_cVi (As := []) X V hl.1 h11 rfl ml_X9_200 mV_X8_odds (t_X8_odds l g σ (bl_R σ v0 2) _ h11 h14) rfl rfl ⟨Nat.le_of_ble_eq_true rfl, Nat.le_of_ble_eq_true rfl⟩ rfl rfl (Nat.le_of_ble_eq_true rfl) ⟨Nat.zero_le _, Nat.zero_le _⟩ dX9_waysOf_64 (fun H locs V => ?_)
      refine lv_goto (tgt := 80) X.1 X.2.1 dX9_waysOf_67 (by decide) ?_
      exact w_X9_waysOf_80 X hr k47 hk47 σ13 v0 v1 v2 v4 r12 v3 hv0 hf _ _ _ V (lv_sub hl [0, 1, 2, 4] rfl)
theorem l_X9_waysOf_47 {p : Program} {l : Launch} {e : Env} {s : State} {m : MethodId} {below : List Frame} {meth : Method} {c : Code} {g : bl_Gp} {as : List Value} {out : Int32 × bl_St} (X : bl_Cx g p s m as.toArray meth c cX9_waysOf 5 RX9) (hr : meth.sig.returnType = (Option.some Jvm.ClassFile.FieldType.int)) (n : Nat) : ∀ (σ : bl_St) (v0 : Nat) (v1 : Int32) (v2 : Int32) (v3 : Int32) (v4 : Int32), bl_sh[v0]? = some (9, 13) → (bl_fx (fun _ _ _ _ _ _ => none) (b_X9_waysOf_47 ) n) σ v0 v1 v2 v3 v4 = some out → ∀ (H : Heap) (locs : List Loc) (ls : Array Slot), bl_V g s σ H locs → lv_has ls 5 [(0, .ref (bl_ad g v0)), (1, .int v1), (2, .int v2), (3, .int v3), (4, .int v4)] → W p l e (bl_rm 1 20) s m as.toArray below meth c H locs 0 0 (bl_Qi below g s as out) (F0 m 47 ls []) := by
  induction n with
  | zero =>
    intro σ v0 v1 v2 v3 v4 hv0 hf H locs ls V hl
    cases hf
  | succ n ih => exact w_X9_waysOf_47 X hr  _ ih
set_option maxHeartbeats 4000000 in
set_option maxRecDepth 100000 in
theorem w_X9_waysOf_20 {p : Program} {l : Launch} {e : Env} {s : State} {m : MethodId} {below : List Frame} {meth : Method} {c : Code} {g : bl_Gp} {as : List Value} {out : Int32 × bl_St} (X : bl_Cx g p s m as.toArray meth c cX9_waysOf 5 RX9) (hr : meth.sig.returnType = (Option.some Jvm.ClassFile.FieldType.int)) (k20 : bl_St → Nat → Int32 → Int32 → Int32 → Int32 → Option (Int32 × bl_St)) (hk20 : ∀ (σ : bl_St) (v0 : Nat) (v1 : Int32) (v2 : Int32) (v3 : Int32) (v4 : Int32), bl_sh[v0]? = some (9, 13) → k20 σ v0 v1 v2 v3 v4 = some out → ∀ (H : Heap) (locs : List Loc) (ls : Array Slot), bl_V g s σ H locs → lv_has ls 5 [(0, .ref (bl_ad g v0)), (1, .int v1), (2, .int v2), (3, .int v3), (4, .int v4)] → W p l e (bl_rm 1 20) s m as.toArray below meth c H locs 0 0 (bl_Qi below g s as out) (F0 m 20 ls [])) : ∀ (σ : bl_St) (v0 : Nat) (v1 : Int32) (v2 : Int32) (v3 : Int32) (v4 : Int32), bl_sh[v0]? = some (9, 13) → (b_X9_waysOf_20 k20) σ v0 v1 v2 v3 v4 = some out → ∀ (H : Heap) (locs : List Loc) (ls : Array Slot), bl_V g s σ H locs → lv_has ls 5 [(0, .ref (bl_ad g v0)), (1, .int v1), (2, .int v2), (3, .int v3), (4, .int v4)] → W p l e (bl_rm 1 20) s m as.toArray below meth c H locs 0 0 (bl_Qi below g s as out) (F0 m 20 ls []) := by
  intro σ v0 v1 v2 v3 v4 hv0 hf H locs ls V hl
  unfold b_X9_waysOf_20 at hf
  refine lv_iload X.1 X.2.1 dX9_waysOf_20 (lv_at hl 4 rfl) ?_
  refine lv_iload_n X.1 X.2.1 dX9_waysOf_22 rfl (lv_at hl 1 rfl) ?_
  refine lv_icmp_ge (tgt := 44) X.1 X.2.1 dX9_waysOf_23 (by decide) (fun c15 => ?_) (fun c15 => ?_)
  · have hf := bl_ifp c15 hf
    refine lv_iconst (v := 0) X.1 X.2.1 dX9_waysOf_44 (by decide) ?_
    refine lv_istore (lv' := [(4, .int 0), (0, .ref (bl_ad g v0)), (1, .int v1), (2, .int v2), (3, .int v3)]) X.1 X.2.1 dX9_waysOf_45 hl (by decide) rfl (fun ls hl => ?_)
    exact l_X9_waysOf_47 X hr  bl_fu σ v0 v1 v2 v3 0 hv0 hf _ _ _ V (lv_sub hl [1, 2, 3, 4, 0] rfl)
  · have hf := bl_ifn c15 hf
    refine lv_iload_n X.1 X.2.1 dX9_waysOf_26 rfl (lv_at hl 3 rfl) ?_
    refine lv_iload_n X.1 X.2.1 dX9_waysOf_27 rfl (lv_at hl 2 rfl) ?_
    refine lv_iload X.1 X.2.1 dX9_waysOf_28 (lv_at hl 4 rfl) ?_
    refine lv_isub X.1 X.2.1 dX9_waysOf_30 ?_
    refine lv_imul X.1 X.2.1 dX9_waysOf_31 ?_
    refine lv_iload X.1 X.2.1 dX9_waysOf_32 (lv_at hl 4 rfl) ?_
    refine lv_iconst (v := 1) X.1 X.2.1 dX9_waysOf_34 (by decide) ?_
    refine lv_iadd X.1 X.2.1 dX9_waysOf_35 ?_
    obtain ⟨h16, hf⟩ := bl_gd_at hf
    refine lv_idiv X.1 X.2.1 dX9_waysOf_36 (by simpa using h16) ?_
    refine lv_topi (fun x17 e18 => ?_)
    have hf := bl_let_at e18 hf
    refine lv_istore_n (lv' := [(3, .int x17), (0, .ref (bl_ad g v0)), (1, .int v1), (2, .int v2), (4, .int v4)]) X.1 X.2.1 dX9_waysOf_37 rfl hl (by decide) rfl (fun ls hl => ?_)
    obtain ⟨x19, e20⟩ : ∃ z : Int32, z = v4 + 1 := ⟨_, rfl⟩
    have hf := bl_let_at e20 hf
    refine lv_iinc (v := x19) (lv' := [(4, .int x19), (3, .int x17), (0, .ref (bl_ad g v0)), (1, .int v1), (2, .int v2)]) X.1 X.2.1 dX9_waysOf_38 hl (k := 4) rfl (by rw [e20]; rfl) (by decide) rfl (fun ls hl => ?_)
    refine lv_goto (tgt := 20) X.1 X.2.1 dX9_waysOf_41 (by decide) ?_
    exact hk20 σ v0 v1 v2 x17 x19 hv0 hf _ _ _ V (lv_sub hl [2, 3, 4, 1, 0] rfl)
theorem l_X9_waysOf_20 {p : Program} {l : Launch} {e : Env} {s : State} {m : MethodId} {below : List Frame} {meth : Method} {c : Code} {g : bl_Gp} {as : List Value} {out : Int32 × bl_St} (X : bl_Cx g p s m as.toArray meth c cX9_waysOf 5 RX9) (hr : meth.sig.returnType = (Option.some Jvm.ClassFile.FieldType.int)) (n : Nat) : ∀ (σ : bl_St) (v0 : Nat) (v1 : Int32) (v2 : Int32) (v3 : Int32) (v4 : Int32), bl_sh[v0]? = some (9, 13) → (bl_fx (fun _ _ _ _ _ _ => none) (b_X9_waysOf_20 ) n) σ v0 v1 v2 v3 v4 = some out → ∀ (H : Heap) (locs : List Loc) (ls : Array Slot), bl_V g s σ H locs → lv_has ls 5 [(0, .ref (bl_ad g v0)), (1, .int v1), (2, .int v2), (3, .int v3), (4, .int v4)] → W p l e (bl_rm 1 20) s m as.toArray below meth c H locs 0 0 (bl_Qi below g s as out) (F0 m 20 ls []) := by
  induction n with
  | zero =>
    intro σ v0 v1 v2 v3 v4 hv0 hf H locs ls V hl
    cases hf
  | succ n ih => exact w_X9_waysOf_20 X hr  _ ih
set_option maxHeartbeats 4000000 in
set_option maxRecDepth 100000 in
theorem t_X9_waysOf (l : Launch) (g : bl_Gp) (σ : bl_St) (a0 : Nat) (a1 : Int32) (o : Int32 × bl_St) (ha0 : bl_sh[a0]? = some (9, 13)) (hf : f_X9_waysOf σ a0 a1 = some o) : bl_Ci l g yX9_waysOf cX9_waysOf 5 (Option.some Jvm.ClassFile.FieldType.int) (bl_rm 1 20) [.ref (bl_ad g a0), .int a1] σ o := by
  refine bl_met (by decide) (Nat.le_of_ble_eq_true rfl) (fun p e s m below meth c ls X hr V hl => ?_)
  have hl : lv_has ls 5 [(0, .ref (bl_ad g a0)), (1, .int a1)] := hl
  unfold f_X9_waysOf at hf
  refine lv_aload_n X.1 X.2.1 dX9_waysOf_0 rfl (lv_at hl 0 rfl) ?_
  refine bl_getr X V ha0 fl_X9_26 rfl dX9_waysOf_1 (fun h21 => ?_)
  obtain ⟨r22, σ23, h24, hf⟩ := bl_bd_at hf
  refine bl_cVi (As := []) X V hl.1 h21 rfl ml_X9_278 mV_X8_chances (t_X8_chances l g σ (bl_R σ a0 2) _ h21 h24) rfl rfl ⟨Nat.le_of_ble_eq_true rfl, Nat.le_of_ble_eq_true rfl⟩ rfl rfl (Nat.le_of_ble_eq_true rfl) ⟨Nat.zero_le _, Nat.zero_le _⟩ dX9_waysOf_4 (fun H locs V => ?_)
  refine lv_istore_n (lv' := [(2, .int r22), (0, .ref (bl_ad g a0)), (1, .int a1)]) X.1 X.2.1 dX9_waysOf_7 rfl hl (by decide) rfl (fun ls hl => ?_)
  refine lv_iload_n X.1 X.2.1 dX9_waysOf_8 rfl (lv_at hl 2 rfl) ?_
  refine lv_iload_n X.1 X.2.1 dX9_waysOf_9 rfl (lv_at hl 0 rfl) ?_
  refine lv_icmp_le (tgt := 15) X.1 X.2.1 dX9_waysOf_10 (by decide) (fun c25 => ?_) (fun c25 => ?_)
  · have hf := bl_ifp c25 hf
    refine lv_iconst (v := 1) X.1 X.2.1 dX9_waysOf_15 (by decide) ?_
    refine lv_istore_n (lv' := [(3, .int 1), (2, .int r22), (0, .ref (bl_ad g a0)), (1, .int a1)]) X.1 X.2.1 dX9_waysOf_16 rfl hl (by decide) rfl (fun ls hl => ?_)
    refine lv_iconst (v := 0) X.1 X.2.1 dX9_waysOf_17 (by decide) ?_
    refine lv_istore (lv' := [(4, .int 0), (3, .int 1), (2, .int r22), (0, .ref (bl_ad g a0)), (1, .int a1)]) X.1 X.2.1 dX9_waysOf_18 hl (by decide) rfl (fun ls hl => ?_)
    exact l_X9_waysOf_20 X hr  bl_fu σ23 a0 a1 r22 1 0 ha0 hf _ _ _ V (lv_sub hl [3, 4, 2, 1, 0] rfl)
  · have hf := bl_ifn c25 hf
    refine lv_iconst (v := 0) X.1 X.2.1 dX9_waysOf_13 (by decide) ?_
    exact bl_reti X V hr hf dX9_waysOf_14
set_option maxHeartbeats 4000000 in
set_option maxRecDepth 100000 in
theorem t_X9_ways (l : Launch) (g : bl_Gp) (σ : bl_St) (a0 : Nat) (a1 : Int32) (o : Int32 × bl_St) (ha0 : bl_sh[a0]? = some (9, 13)) (hf : f_X9_ways σ a0 a1 = some o) : bl_Ci l g yX9_ways cX9_ways 2 (Option.some Jvm.ClassFile.FieldType.int) (bl_rm 2 44) [.ref (bl_ad g a0), .int a1] σ o := by
  refine bl_met (by decide) (Nat.le_of_ble_eq_true rfl) (fun p e s m below meth c ls X hr V hl => ?_)
  have hl : lv_has ls 2 [(0, .ref (bl_ad g a0)), (1, .int a1)] := hl
  unfold f_X9_ways at hf
  refine lv_iload_n X.1 X.2.1 dX9_ways_0 rfl (lv_at hl 1 rfl) ?_
  refine lv_if_lt (tgt := 19) X.1 X.2.1 dX9_ways_1 (by decide) (fun c1 => ?_) (fun c1 => ?_)
  · have hf := bl_ifp c1 hf
    refine lv_iconst (v := (-1)) X.1 X.2.1 dX9_ways_19 (by decide) ?_
    exact bl_reti X V hr hf dX9_ways_20
  · have hf := bl_ifn c1 hf
    refine lv_iload_n X.1 X.2.1 dX9_ways_4 rfl (lv_at hl 1 rfl) ?_
    refine lv_iconst (v := 3) X.1 X.2.1 dX9_ways_5 (by decide) ?_
    refine lv_icmp_gt (tgt := 19) X.1 X.2.1 dX9_ways_6 (by decide) (fun c2 => ?_) (fun c2 => ?_)
    · have hf := bl_ifp c2 hf
      refine lv_iconst (v := (-1)) X.1 X.2.1 dX9_ways_19 (by decide) ?_
      exact bl_reti X V hr hf dX9_ways_20
    · have hf := bl_ifn c2 hf
      refine lv_aload_n X.1 X.2.1 dX9_ways_9 rfl (lv_at hl 0 rfl) ?_
      refine bl_getr X V ha0 fl_X9_26 rfl dX9_ways_10 (fun h3 => ?_)
      refine bl_geti X V h3 fl_X9_111 dX9_ways_13 ?_
      refine lv_if_ne (tgt := 21) X.1 X.2.1 dX9_ways_16 (by decide) (fun c4 => ?_) (fun c4 => ?_)
      · have hf := bl_ifn c4 hf
        refine lv_aload_n X.1 X.2.1 dX9_ways_21 rfl (lv_at hl 0 rfl) ?_
        refine lv_iload_n X.1 X.2.1 dX9_ways_22 rfl (lv_at hl 1 rfl) ?_
        obtain ⟨r5, σ6, h7, hf⟩ := bl_bd_at hf
        refine bl_cVi (As := [.int a1]) X V hl.1 ha0 rfl ml_X9_310 mV_X9_waysOf (t_X9_waysOf l g σ a0 a1 _ ha0 h7) rfl rfl ⟨Nat.le_of_ble_eq_true rfl, Nat.le_of_ble_eq_true rfl⟩ rfl rfl (Nat.le_of_ble_eq_true rfl) ⟨Nat.zero_le _, Nat.zero_le _⟩ dX9_ways_23 (fun H locs V => ?_)
        exact bl_reti X V hr hf dX9_ways_26
      · have hf := bl_ifp c4 hf
        refine lv_iconst (v := (-1)) X.1 X.2.1 dX9_ways_19 (by decide) ?_
        exact bl_reti X V hr hf dX9_ways_20
set_option maxHeartbeats 4000000 in
set_option maxRecDepth 100000 in
theorem w_X9_moves_64 {p : Program} {l : Launch} {e : Env} {s : State} {m : MethodId} {below : List Frame} {meth : Method} {c : Code} {g : bl_Gp} {as : List Value} {out : Int32 × bl_St} (X : bl_Cx g p s m as.toArray meth c cX9_moves 5 RX9) (hr : meth.sig.returnType = (Option.some Jvm.ClassFile.FieldType.int)) (k29 : bl_St → Nat → Int32 → Int32 → Int32 → Int32 → Option (Int32 × bl_St)) (hk29 : ∀ (σ : bl_St) (v0 : Nat) (v1 : Int32) (v2 : Int32) (v3 : Int32) (v4 : Int32), bl_sh[v0]? = some (9, 13) → k29 σ v0 v1 v2 v3 v4 = some out → ∀ (H : Heap) (locs : List Loc) (ls : Array Slot), bl_V g s σ H locs → lv_has ls 5 [(0, .ref (bl_ad g v0)), (1, .int v1), (2, .int v2), (3, .int v3), (4, .int v4)] → W p l e (bl_rm 2 44) s m as.toArray below meth c H locs 0 0 (bl_Qi below g s as out) (F0 m 29 ls [])) : ∀ (σ : bl_St) (v0 : Nat) (v1 : Int32) (v2 : Int32) (v3 : Int32) (v4 : Int32), bl_sh[v0]? = some (9, 13) → (b_X9_moves_64 k29) σ v0 v1 v2 v3 v4 = some out → ∀ (H : Heap) (locs : List Loc) (ls : Array Slot), bl_V g s σ H locs → lv_has ls 5 [(0, .ref (bl_ad g v0)), (1, .int v1), (2, .int v2), (3, .int v3), (4, .int v4)] → W p l e (bl_rm 2 44) s m as.toArray below meth c H locs 0 0 (bl_Qi below g s as out) (F0 m 64 ls []) := by
  intro σ v0 v1 v2 v3 v4 hv0 hf H locs ls V hl
  unfold b_X9_moves_64 at hf
  obtain ⟨x1, e2⟩ : ∃ z : Int32, z = v4 + 1 := ⟨_, rfl⟩
  have hf := bl_let_at e2 hf
  refine lv_iinc (v := x1) (lv' := [(4, .int x1), (0, .ref (bl_ad g v0)), (1, .int v1), (2, .int v2), (3, .int v3)]) X.1 X.2.1 dX9_moves_64 hl (k := 4) rfl (by rw [e2]; rfl) (by decide) rfl (fun ls hl => ?_)
  refine lv_goto (tgt := 29) X.1 X.2.1 dX9_moves_67 (by decide) ?_
  exact hk29 σ v0 v1 v2 v3 x1 hv0 hf _ _ _ V (lv_sub hl [1, 2, 3, 4, 0] rfl)
set_option maxHeartbeats 4000000 in
set_option maxRecDepth 100000 in
theorem w_X9_moves_29 {p : Program} {l : Launch} {e : Env} {s : State} {m : MethodId} {below : List Frame} {meth : Method} {c : Code} {g : bl_Gp} {as : List Value} {out : Int32 × bl_St} (X : bl_Cx g p s m as.toArray meth c cX9_moves 5 RX9) (hr : meth.sig.returnType = (Option.some Jvm.ClassFile.FieldType.int)) (k29 : bl_St → Nat → Int32 → Int32 → Int32 → Int32 → Option (Int32 × bl_St)) (hk29 : ∀ (σ : bl_St) (v0 : Nat) (v1 : Int32) (v2 : Int32) (v3 : Int32) (v4 : Int32), bl_sh[v0]? = some (9, 13) → k29 σ v0 v1 v2 v3 v4 = some out → ∀ (H : Heap) (locs : List Loc) (ls : Array Slot), bl_V g s σ H locs → lv_has ls 5 [(0, .ref (bl_ad g v0)), (1, .int v1), (2, .int v2), (3, .int v3), (4, .int v4)] → W p l e (bl_rm 2 44) s m as.toArray below meth c H locs 0 0 (bl_Qi below g s as out) (F0 m 29 ls [])) : ∀ (σ : bl_St) (v0 : Nat) (v1 : Int32) (v2 : Int32) (v3 : Int32) (v4 : Int32), bl_sh[v0]? = some (9, 13) → (b_X9_moves_29 k29) σ v0 v1 v2 v3 v4 = some out → ∀ (H : Heap) (locs : List Loc) (ls : Array Slot), bl_V g s σ H locs → lv_has ls 5 [(0, .ref (bl_ad g v0)), (1, .int v1), (2, .int v2), (3, .int v3), (4, .int v4)] → W p l e (bl_rm 2 44) s m as.toArray below meth c H locs 0 0 (bl_Qi below g s as out) (F0 m 29 ls []) := by
  intro σ v0 v1 v2 v3 v4 hv0 hf H locs ls V hl
  unfold b_X9_moves_29 at hf
  refine lv_iload X.1 X.2.1 dX9_moves_29 (lv_at hl 4 rfl) ?_
  refine lv_aload_n X.1 X.2.1 dX9_moves_31 rfl (lv_at hl 0 rfl) ?_
  refine bl_getr X V hv0 fl_X9_26 rfl dX9_moves_32 (fun h3 => ?_)
  obtain ⟨r4, σ5, h6, hf⟩ := bl_bd_at hf
  refine bl_cVi (As := []) X V hl.1 h3 rfl ml_X9_278 mV_X8_chances (t_X8_chances l g σ (bl_R σ v0 2) _ h3 h6) rfl rfl ⟨Nat.le_of_ble_eq_true rfl, Nat.le_of_ble_eq_true rfl⟩ rfl rfl (Nat.le_of_ble_eq_true rfl) ⟨Nat.zero_le _, Nat.zero_le _⟩ dX9_moves_35 (fun H locs V => ?_)
  refine lv_icmp_gt (tgt := 70) X.1 X.2.1 dX9_moves_38 (by decide) (fun c7 => ?_) (fun c7 => ?_)
  · have hf := bl_ifp c7 hf
    refine lv_iload_n X.1 X.2.1 dX9_moves_70 rfl (lv_at hl 3 rfl) ?_
    exact bl_reti X V hr hf dX9_moves_71
  · have hf := bl_ifn c7 hf
    refine lv_aload_n X.1 X.2.1 dX9_moves_41 rfl (lv_at hl 0 rfl) ?_
    refine bl_getr X V hv0 fl_X9_26 rfl dX9_moves_42 (fun h8 => ?_)
    refine lv_iload_n X.1 X.2.1 dX9_moves_45 rfl (lv_at hl 1 rfl) ?_
    refine lv_iload X.1 X.2.1 dX9_moves_46 (lv_at hl 4 rfl) ?_
    obtain ⟨r9, σ10, h11, hf⟩ := bl_bd_at hf
    refine bl_cVi (As := [.int v1, .int v4]) X V hl.1 h8 rfl ml_X9_307 mV_X8_next (t_X8_next l g σ5 (bl_R σ5 v0 2) v1 v4 _ h8 h11) rfl rfl ⟨Nat.le_of_ble_eq_true rfl, Nat.le_of_ble_eq_true rfl⟩ rfl rfl (Nat.le_of_ble_eq_true rfl) ⟨Nat.zero_le _, Nat.zero_le _⟩ dX9_moves_48 (fun H locs V => ?_)
    refine lv_iload_n X.1 X.2.1 dX9_moves_51 rfl (lv_at hl 2 rfl) ?_
    refine lv_icmp_ne (tgt := 64) X.1 X.2.1 dX9_moves_52 (by decide) (fun c12 => ?_) (fun c12 => ?_)
    · have hf := bl_ifn c12 hf
      exact w_X9_moves_64 X hr k29 hk29 σ10 v0 v1 v2 v3 v4 hv0 hf _ _ _ V (lv_sub hl [0, 1, 2, 3, 4] rfl)
    · have hf := bl_ifp c12 hf
      refine lv_iload_n X.1 X.2.1 dX9_moves_55 rfl (lv_at hl 3 rfl) ?_
      refine lv_aload_n X.1 X.2.1 dX9_moves_56 rfl (lv_at hl 0 rfl) ?_
      refine lv_iload X.1 X.2.1 dX9_moves_57 (lv_at hl 4 rfl) ?_
      obtain ⟨r13, σ14, h15, hf⟩ := bl_bd_at hf
      refine bl_cVi (As := [.int v4]) X V hl.1 hv0 rfl ml_X9_310 mV_X9_waysOf (t_X9_waysOf l g σ10 v0 v4 _ hv0 h15) rfl rfl ⟨Nat.le_of_ble_eq_true rfl, Nat.le_of_ble_eq_true rfl⟩ rfl rfl (Nat.le_of_ble_eq_true rfl) ⟨Nat.zero_le _, Nat.zero_le _⟩ dX9_moves_59 (fun H locs V => ?_)
      refine lv_iadd X.1 X.2.1 dX9_moves_62 ?_
      refine lv_topi (fun x16 e17 => ?_)
      have hf := bl_let_at e17 hf
      refine lv_istore_n (lv' := [(3, .int x16), (0, .ref (bl_ad g v0)), (1, .int v1), (2, .int v2), (4, .int v4)]) X.1 X.2.1 dX9_moves_63 rfl hl (by decide) rfl (fun ls hl => ?_)
      exact w_X9_moves_64 X hr k29 hk29 σ14 v0 v1 v2 x16 v4 hv0 hf _ _ _ V (lv_sub hl [1, 2, 3, 0, 4] rfl)
theorem l_X9_moves_29 {p : Program} {l : Launch} {e : Env} {s : State} {m : MethodId} {below : List Frame} {meth : Method} {c : Code} {g : bl_Gp} {as : List Value} {out : Int32 × bl_St} (X : bl_Cx g p s m as.toArray meth c cX9_moves 5 RX9) (hr : meth.sig.returnType = (Option.some Jvm.ClassFile.FieldType.int)) (n : Nat) : ∀ (σ : bl_St) (v0 : Nat) (v1 : Int32) (v2 : Int32) (v3 : Int32) (v4 : Int32), bl_sh[v0]? = some (9, 13) → (bl_fx (fun _ _ _ _ _ _ => none) (b_X9_moves_29 ) n) σ v0 v1 v2 v3 v4 = some out → ∀ (H : Heap) (locs : List Loc) (ls : Array Slot), bl_V g s σ H locs → lv_has ls 5 [(0, .ref (bl_ad g v0)), (1, .int v1), (2, .int v2), (3, .int v3), (4, .int v4)] → W p l e (bl_rm 2 44) s m as.toArray below meth c H locs 0 0 (bl_Qi below g s as out) (F0 m 29 ls []) := by
  induction n with
  | zero =>
    intro σ v0 v1 v2 v3 v4 hv0 hf H locs ls V hl
    cases hf
  | succ n ih => exact w_X9_moves_29 X hr  _ ih
set_option maxHeartbeats 4000000 in
set_option maxRecDepth 100000 in
theorem t_X9_moves (l : Launch) (g : bl_Gp) (σ : bl_St) (a0 : Nat) (a1 : Int32) (a2 : Int32) (o : Int32 × bl_St) (ha0 : bl_sh[a0]? = some (9, 13)) (hf : f_X9_moves σ a0 a1 a2 = some o) : bl_Ci l g yX9_moves cX9_moves 5 (Option.some Jvm.ClassFile.FieldType.int) (bl_rm 2 44) [.ref (bl_ad g a0), .int a1, .int a2] σ o := by
  refine bl_met (by decide) (Nat.le_of_ble_eq_true rfl) (fun p e s m below meth c ls X hr V hl => ?_)
  have hl : lv_has ls 5 [(0, .ref (bl_ad g a0)), (1, .int a1), (2, .int a2)] := hl
  unfold f_X9_moves at hf
  refine lv_aload_n X.1 X.2.1 dX9_moves_0 rfl (lv_at hl 0 rfl) ?_
  refine bl_getr X V ha0 fl_X9_26 rfl dX9_moves_1 (fun h18 => ?_)
  refine lv_iload_n X.1 X.2.1 dX9_moves_4 rfl (lv_at hl 1 rfl) ?_
  obtain ⟨r19, σ20, h21, hf⟩ := bl_bd_at hf
  refine bl_cVi (As := [.int a1]) X V hl.1 h18 rfl ml_X9_114 mV_X8_hasClass (t_X8_hasClass l g σ (bl_R σ a0 2) a1 _ h18 h21) rfl rfl ⟨Nat.le_of_ble_eq_true rfl, Nat.le_of_ble_eq_true rfl⟩ rfl rfl (Nat.le_of_ble_eq_true rfl) ⟨Nat.zero_le _, Nat.zero_le _⟩ dX9_moves_5 (fun H locs V => ?_)
  refine lv_if_eq (tgt := 22) X.1 X.2.1 dX9_moves_8 (by decide) (fun c22 => ?_) (fun c22 => ?_)
  · have hf := bl_ifp c22 hf
    refine lv_iconst (v := (-1)) X.1 X.2.1 dX9_moves_22 (by decide) ?_
    exact bl_reti X V hr hf dX9_moves_23
  · have hf := bl_ifn c22 hf
    refine lv_aload_n X.1 X.2.1 dX9_moves_11 rfl (lv_at hl 0 rfl) ?_
    refine bl_getr X V ha0 fl_X9_26 rfl dX9_moves_12 (fun h23 => ?_)
    refine lv_iload_n X.1 X.2.1 dX9_moves_15 rfl (lv_at hl 2 rfl) ?_
    obtain ⟨r24, σ25, h26, hf⟩ := bl_bd_at hf
    refine bl_cVi (As := [.int a2]) X V hl.1 h23 rfl ml_X9_114 mV_X8_hasClass (t_X8_hasClass l g σ20 (bl_R σ20 a0 2) a2 _ h23 h26) rfl rfl ⟨Nat.le_of_ble_eq_true rfl, Nat.le_of_ble_eq_true rfl⟩ rfl rfl (Nat.le_of_ble_eq_true rfl) ⟨Nat.zero_le _, Nat.zero_le _⟩ dX9_moves_16 (fun H locs V => ?_)
    refine lv_if_ne (tgt := 24) X.1 X.2.1 dX9_moves_19 (by decide) (fun c27 => ?_) (fun c27 => ?_)
    · have hf := bl_ifn c27 hf
      refine lv_iconst (v := 0) X.1 X.2.1 dX9_moves_24 (by decide) ?_
      refine lv_istore_n (lv' := [(3, .int 0), (0, .ref (bl_ad g a0)), (1, .int a1), (2, .int a2)]) X.1 X.2.1 dX9_moves_25 rfl hl (by decide) rfl (fun ls hl => ?_)
      refine lv_iconst (v := 0) X.1 X.2.1 dX9_moves_26 (by decide) ?_
      refine lv_istore (lv' := [(4, .int 0), (3, .int 0), (0, .ref (bl_ad g a0)), (1, .int a1), (2, .int a2)]) X.1 X.2.1 dX9_moves_27 hl (by decide) rfl (fun ls hl => ?_)
      exact l_X9_moves_29 X hr  bl_fu σ25 a0 a1 a2 0 0 ha0 hf _ _ _ V (lv_sub hl [2, 3, 4, 1, 0] rfl)
    · have hf := bl_ifp c27 hf
      refine lv_iconst (v := (-1)) X.1 X.2.1 dX9_moves_22 (by decide) ?_
      exact bl_reti X V hr hf dX9_moves_23
