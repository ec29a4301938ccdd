set_option maxHeartbeats 4000000 in
set_option maxRecDepth 100000 in
theorem t_X10_isGuarded (l : Launch) (g : bl_Gp) (σ : bl_St) (a0 : Nat) (a1 : Int32) (a2 : Int32) (o : Int32 × bl_St) (ha0 : bl_sh[a0]? = some (10, 28)) (hf : f_X10_isGuarded σ a0 a1 a2 = some o) : bl_Ci l g yX10_isGuarded cX10_isGuarded 3 (Option.some Jvm.ClassFile.FieldType.boolean) (bl_rm 0 0) [.ref (bl_ad g a0), .int a1, .int a2] σ o := by
  refine bl_met (by decide) (Nat.le_of_ble_eq_true rfl) (fun p e s m below meth c ls X hr V hl => ?_)
  have hl : lv_has ls 3 [(0, .ref (bl_ad g a0)), (1, .int a1), (2, .int a2)] := hl
  unfold f_X10_isGuarded at hf
  refine lv_aload_n X.1 X.2.1 dX10_isGuarded_0 rfl (lv_at hl 0 rfl) ?_
  refine bl_getr X V ha0 fl_X10_30 rfl dX10_isGuarded_1 (fun h1 => ?_)
  refine lv_bipush (v := 8) X.1 X.2.1 dX10_isGuarded_4 (by decide) ?_
  refine lv_iload_n X.1 X.2.1 dX10_isGuarded_6 rfl (lv_at hl 1 rfl) ?_
  refine lv_imul X.1 X.2.1 dX10_isGuarded_7 ?_
  refine lv_iload_n X.1 X.2.1 dX10_isGuarded_8 rfl (lv_at hl 2 rfl) ?_
  refine lv_iadd X.1 X.2.1 dX10_isGuarded_9 ?_
  obtain ⟨h2, hf⟩ := bl_gd_at hf
  refine bl_zald (k := (Int32.toNatClampNeg ((8 * a1) + a2))) X V h1 h2 rfl dX10_isGuarded_10 ?_
  obtain ⟨h3, hf⟩ := bl_gd_at hf
  exact bl_retz X V hr h3 hf dX10_isGuarded_11
set_option maxHeartbeats 4000000 in
set_option maxRecDepth 100000 in
theorem w_X10_lossCost_78 {p : Program} {l : Launch} {e : Env} {s : State} {m : MethodId} {below : List Frame} {meth : Method} {c : Code} {g : bl_Gp} {as : List Value} {out : Int64 × bl_St} (X : bl_Cx g p s m as.toArray meth c cX10_lossCost 10 RX10) (hr : meth.sig.returnType = (Option.some Jvm.ClassFile.FieldType.long)) : ∀ (σ : bl_St) (v5 : Int64) (v7 : Int64) (s0 : Int32), (b_X10_lossCost_78 ) σ v5 v7 s0 = some out → ∀ (H : Heap) (locs : List Loc) (ls : Array Slot), bl_V g s σ H locs → lv_has ls 10 [(5, .long v5), (7, .long v7)] → W p l e (bl_rm 3 67) s m as.toArray below meth c H locs 0 0 (bl_Ql below g s as out) (F0 m 78 ls [.int s0]) := by
  intro σ v5 v7 s0  hf H locs ls V hl
  unfold b_X10_lossCost_78 at hf
  refine lv_istore (lv' := [(9, .int s0), (5, .long v5), (7, .long v7)]) X.1 X.2.1 dX10_lossCost_78 hl (by decide) rfl (fun ls hl => ?_)
  refine lv_iload X.1 X.2.1 dX10_lossCost_80 (lv_at hl 0 rfl) ?_
  refine lv_if_eq (tgt := 90) X.1 X.2.1 dX10_lossCost_82 (by decide) (fun c1 => ?_) (fun c1 => ?_)
  · have hf := bl_ifp c1 hf
    refine lv_lload X.1 X.2.1 dX10_lossCost_90 (lv_at hl 2 rfl) ?_
    exact bl_retl X V hr hf dX10_lossCost_92
  · have hf := bl_ifn c1 hf
    refine lv_lload X.1 X.2.1 dX10_lossCost_85 (lv_at hl 1 rfl) ?_
    refine lv_goto (tgt := 92) X.1 X.2.1 dX10_lossCost_87 (by decide) ?_
    exact bl_retl X V hr hf dX10_lossCost_92
set_option maxHeartbeats 4000000 in
set_option maxRecDepth 100000 in
theorem w_X10_lossCost_77 {p : Program} {l : Launch} {e : Env} {s : State} {m : MethodId} {below : List Frame} {meth : Method} {c : Code} {g : bl_Gp} {as : List Value} {out : Int64 × bl_St} (X : bl_Cx g p s m as.toArray meth c cX10_lossCost 10 RX10) (hr : meth.sig.returnType = (Option.some Jvm.ClassFile.FieldType.long)) : ∀ (σ : bl_St) (v5 : Int64) (v7 : Int64), (b_X10_lossCost_77 ) σ v5 v7 = some out → ∀ (H : Heap) (locs : List Loc) (ls : Array Slot), bl_V g s σ H locs → lv_has ls 10 [(5, .long v5), (7, .long v7)] → W p l e (bl_rm 3 67) s m as.toArray below meth c H locs 0 0 (bl_Ql below g s as out) (F0 m 77 ls []) := by
  intro σ v5 v7  hf H locs ls V hl
  unfold b_X10_lossCost_77 at hf
  refine lv_iconst (v := 0) X.1 X.2.1 dX10_lossCost_77 (by decide) ?_
  exact w_X10_lossCost_78 X hr  σ v5 v7 0  hf _ _ _ V (lv_sub hl [0, 1] rfl)
set_option maxHeartbeats 4000000 in
set_option maxRecDepth 100000 in
theorem w_X10_lossCost_73 {p : Program} {l : Launch} {e : Env} {s : State} {m : MethodId} {below : List Frame} {meth : Method} {c : Code} {g : bl_Gp} {as : List Value} {out : Int64 × bl_St} (X : bl_Cx g p s m as.toArray meth c cX10_lossCost 10 RX10) (hr : meth.sig.returnType = (Option.some Jvm.ClassFile.FieldType.long)) : ∀ (σ : bl_St) (v5 : Int64) (v7 : Int64), (b_X10_lossCost_73 ) σ v5 v7 = some out → ∀ (H : Heap) (locs : List Loc) (ls : Array Slot), bl_V g s σ H locs → lv_has ls 10 [(5, .long v5), (7, .long v7)] → W p l e (bl_rm 3 67) s m as.toArray below meth c H locs 0 0 (bl_Ql below g s as out) (F0 m 73 ls []) := by
  intro σ v5 v7  hf H locs ls V hl
  unfold b_X10_lossCost_73 at hf
  refine lv_iconst (v := 1) X.1 X.2.1 dX10_lossCost_73 (by decide) ?_
  refine lv_goto (tgt := 78) X.1 X.2.1 dX10_lossCost_74 (by decide) ?_
  exact w_X10_lossCost_78 X hr  σ v5 v7 1  hf _ _ _ V (lv_sub hl [0, 1] rfl)
set_option maxHeartbeats 4000000 in
set_option maxRecDepth 100000 in
theorem t_X10_lossCost (l : Launch) (g : bl_Gp) (σ : bl_St) (a0 : Nat) (a1 : Int32) (a2 : Int32) (a3 : Int32) (a4 : Int32) (o : Int64 × bl_St) (ha0 : bl_sh[a0]? = some (10, 28)) (hf : f_X10_lossCost σ a0 a1 a2 a3 a4 = some o) : bl_Cl l g yX10_lossCost cX10_lossCost 10 (Option.some Jvm.ClassFile.FieldType.long) (bl_rm 3 67) [.ref (bl_ad g a0), .int a1, .int a2, .int a3, .int a4] σ o := by
  refine bl_met (by decide) (Nat.le_of_ble_eq_true rfl) (fun p e s m below meth c ls X hr V hl => ?_)
  have hl : lv_has ls 10 [(0, .ref (bl_ad g a0)), (1, .int a1), (2, .int a2), (3, .int a3), (4, .int a4)] := hl
  unfold f_X10_lossCost at hf
  refine lv_aload_n X.1 X.2.1 dX10_lossCost_0 rfl (lv_at hl 0 rfl) ?_
  refine lv_iload_n X.1 X.2.1 dX10_lossCost_1 rfl (lv_at hl 1 rfl) ?_
  refine lv_iload_n X.1 X.2.1 dX10_lossCost_2 rfl (lv_at hl 2 rfl) ?_
  refine lv_iload_n X.1 X.2.1 dX10_lossCost_3 rfl (lv_at hl 3 rfl) ?_
  refine lv_iload X.1 X.2.1 dX10_lossCost_4 (lv_at hl 4 rfl) ?_
  obtain ⟨r2, σ3, h4, hf⟩ := bl_bd_at hf
  refine bl_cVl (As := [.int a1, .int a2, .int a3, .int a4]) X V hl.1 ha0 rfl ml_X10_188 mV_X10_toldCost (t_X10_toldCost l g σ a0 a1 a2 a3 a4 _ ha0 h4) rfl rfl ⟨Nat.le_of_ble_eq_true rfl, Nat.le_of_ble_eq_true rfl⟩ rfl rfl (Nat.le_of_ble_eq_true rfl) ⟨Nat.zero_le _, Nat.zero_le _⟩ dX10_lossCost_6 (fun H locs V => ?_)
  refine lv_lstore (lv' := [(5, .long r2), (0, .ref (bl_ad g a0)), (1, .int a1), (2, .int a2), (3, .int a3), (4, .int a4)]) X.1 X.2.1 dX10_lossCost_9 hl (by decide) rfl (fun ls hl => ?_)
  refine lv_aload_n X.1 X.2.1 dX10_lossCost_11 rfl (lv_at hl 1 rfl) ?_
  refine lv_iload_n X.1 X.2.1 dX10_lossCost_12 rfl (lv_at hl 2 rfl) ?_
  refine lv_iload_n X.1 X.2.1 dX10_lossCost_13 rfl (lv_at hl 3 rfl) ?_
  refine lv_iload_n X.1 X.2.1 dX10_lossCost_14 rfl (lv_at hl 4 rfl) ?_
  refine lv_iload X.1 X.2.1 dX10_lossCost_15 (lv_at hl 5 rfl) ?_
  obtain ⟨r5, σ6, h7, hf⟩ := bl_bd_at hf
  refine bl_cVl (As := [.int a1, .int a2, .int a3, .int a4]) X V hl.1 ha0 rfl ml_X10_185 mV_X10_borneCost (t_X10_borneCost l g σ3 a0 a1 a2 a3 a4 _ ha0 h7) rfl rfl ⟨Nat.le_of_ble_eq_true rfl, Nat.le_of_ble_eq_true rfl⟩ rfl rfl (Nat.le_of_ble_eq_true rfl) ⟨Nat.zero_le _, Nat.zero_le _⟩ dX10_lossCost_17 (fun H locs V => ?_)
  refine lv_lstore (lv' := [(7, .long r5), (5, .long r2), (0, .ref (bl_ad g a0)), (1, .int a1), (2, .int a2), (3, .int a3), (4, .int a4)]) X.1 X.2.1 dX10_lossCost_20 hl (by decide) rfl (fun ls hl => ?_)
  refine lv_aload_n X.1 X.2.1 dX10_lossCost_22 rfl (lv_at hl 2 rfl) ?_
  refine bl_geti X V ha0 fl_X10_191 dX10_lossCost_23 ?_
  refine lv_if_ne (tgt := 45) X.1 X.2.1 dX10_lossCost_26 (by decide) (fun c8 => ?_) (fun c8 => ?_)
  · have hf := bl_ifn c8 hf
    refine lv_aload_n X.1 X.2.1 dX10_lossCost_45 rfl (lv_at hl 2 rfl) ?_
    refine bl_geti X V ha0 fl_X10_191 dX10_lossCost_46 ?_
    refine lv_iconst (v := 1) X.1 X.2.1 dX10_lossCost_49 (by decide) ?_
    refine lv_icmp_eq (tgt := 73) X.1 X.2.1 dX10_lossCost_50 (by decide) (fun c9 => ?_) (fun c9 => ?_)
    · have hf := bl_ifp c9 hf
      exact w_X10_lossCost_73 X hr  σ6 r2 r5  hf _ _ _ V (lv_sub hl [1, 0] rfl)
    · have hf := bl_ifn c9 hf
      refine lv_aload_n X.1 X.2.1 dX10_lossCost_53 rfl (lv_at hl 2 rfl) ?_
      refine bl_geti X V ha0 fl_X10_191 dX10_lossCost_54 ?_
      refine lv_iconst (v := 3) X.1 X.2.1 dX10_lossCost_57 (by decide) ?_
      refine lv_icmp_ne (tgt := 77) X.1 X.2.1 dX10_lossCost_58 (by decide) (fun c10 => ?_) (fun c10 => ?_)
      · have hf := bl_ifn c10 hf
        exact w_X10_lossCost_77 X hr  σ6 r2 r5  hf _ _ _ V (lv_sub hl [1, 0] rfl)
      · have hf := bl_ifp c10 hf
        refine lv_aload_n X.1 X.2.1 dX10_lossCost_61 rfl (lv_at hl 2 rfl) ?_
        refine lv_iload_n X.1 X.2.1 dX10_lossCost_62 rfl (lv_at hl 3 rfl) ?_
        obtain ⟨r11, σ12, h13, hf⟩ := bl_bd_at hf
        refine bl_cVi (As := [.int a1]) X V hl.1 ha0 rfl ml_X10_78 mV_X10_size (t_X10_size l g σ6 a0 a1 _ ha0 h13) rfl rfl ⟨Nat.le_of_ble_eq_true rfl, Nat.le_of_ble_eq_true rfl⟩ rfl rfl (Nat.le_of_ble_eq_true rfl) ⟨Nat.zero_le _, Nat.zero_le _⟩ dX10_lossCost_63 (fun H locs V => ?_)
        refine lv_aload_n X.1 X.2.1 dX10_lossCost_66 rfl (lv_at hl 2 rfl) ?_
        refine bl_geti X V ha0 fl_X10_194 dX10_lossCost_67 ?_
        refine lv_icmp_le (tgt := 77) X.1 X.2.1 dX10_lossCost_70 (by decide) (fun c14 => ?_) (fun c14 => ?_)
        · have hf := bl_ifp c14 hf
          exact w_X10_lossCost_77 X hr  σ12 r2 r5  hf _ _ _ V (lv_sub hl [1, 0] rfl)
        · have hf := bl_ifn c14 hf
          exact w_X10_lossCost_73 X hr  σ12 r2 r5  hf _ _ _ V (lv_sub hl [1, 0] rfl)
  · have hf := bl_ifp c8 hf
    refine lv_lload X.1 X.2.1 dX10_lossCost_29 (lv_at hl 1 rfl) ?_
    refine lv_lload X.1 X.2.1 dX10_lossCost_31 (lv_at hl 0 rfl) ?_
    refine bl_lc_ge (tgt := 41) X dX10_lossCost_33 dX10_lossCost_34 (by decide) (fun c15 => ?_) (fun c15 => ?_)
    · have hf := bl_ifp c15 hf
      refine lv_iconst (v := 0) X.1 X.2.1 dX10_lossCost_41 (by decide) ?_
      refine lv_goto (tgt := 78) X.1 X.2.1 dX10_lossCost_42 (by decide) ?_
      exact w_X10_lossCost_78 X hr  σ6 r2 r5 0  hf _ _ _ V (lv_sub hl [1, 0] rfl)
    · have hf := bl_ifn c15 hf
      refine lv_iconst (v := 1) X.1 X.2.1 dX10_lossCost_37 (by decide) ?_
      refine lv_goto (tgt := 78) X.1 X.2.1 dX10_lossCost_38 (by decide) ?_
      exact w_X10_lossCost_78 X hr  σ6 r2 r5 1  hf _ _ _ V (lv_sub hl [1, 0] rfl)
set_option maxHeartbeats 4000000 in
set_option maxRecDepth 100000 in
theorem w_X10_chanceCost_118 {p : Program} {l : Launch} {e : Env} {s : State} {m : MethodId} {below : List Frame} {meth : Method} {c : Code} {g : bl_Gp} {as : List Value} {out : Int64 × bl_St} (X : bl_Cx g p s m as.toArray meth c cX10_chanceCost 10 RX10) (hr : meth.sig.returnType = (Option.some Jvm.ClassFile.FieldType.long)) (k118 : bl_St → Nat → Int32 → Int32 → Int32 → Int32 → Int64 → Int32 → Option (Int64 × bl_St)) (hk118 : ∀ (σ : bl_St) (v0 : Nat) (v1 : Int32) (v2 : Int32) (v3 : Int32) (v6 : Int32) (v7 : Int64) (v9 : Int32), bl_sh[v0]? = some (10, 28) → k118 σ v0 v1 v2 v3 v6 v7 v9 = some out → ∀ (H : Heap) (locs : List Loc) (ls : Array Slot), bl_V g s σ H locs → lv_has ls 10 [(0, .ref (bl_ad g v0)), (1, .int v1), (2, .int v2), (3, .int v3), (6, .int v6), (7, .long v7), (9, .int v9)] → W p l e (bl_rm 4 96) s m as.toArray below meth c H locs 0 0 (bl_Ql below g s as out) (F0 m 118 ls [])) : ∀ (σ : bl_St) (v0 : Nat) (v1 : Int32) (v2 : Int32) (v3 : Int32) (v6 : Int32) (v7 : Int64) (v9 : Int32), bl_sh[v0]? = some (10, 28) → (b_X10_chanceCost_118 k118) σ v0 v1 v2 v3 v6 v7 v9 = some out → ∀ (H : Heap) (locs : List Loc) (ls : Array Slot), bl_V g s σ H locs → lv_has ls 10 [(0, .ref (bl_ad g v0)), (1, .int v1), (2, .int v2), (3, .int v3), (6, .int v6), (7, .long v7), (9, .int v9)] → W p l e (bl_rm 4 96) s m as.toArray below meth c H locs 0 0 (bl_Ql below g s as out) (F0 m 118 ls []) := by
  intro σ v0 v1 v2 v3 v6 v7 v9 hv0 hf H locs ls V hl
  unfold b_X10_chanceCost_118 at hf
  refine lv_iload X.1 X.2.1 dX10_chanceCost_118 (lv_at hl 6 rfl) ?_
  refine lv_aload_n X.1 X.2.1 dX10_chanceCost_120 rfl (lv_at hl 0 rfl) ?_
  refine bl_getr X V hv0 fl_X10_13 rfl dX10_chanceCost_121 (fun h1 => ?_)
  refine lv_iconst (v := 1) X.1 X.2.1 dX10_chanceCost_124 (by decide) ?_
  refine bl_iald (k := 1) X V h1 (by decide) (by decide) dX10_chanceCost_125 ?_
  refine lv_icmp_ge (tgt := 164) X.1 X.2.1 dX10_chanceCost_126 (by decide) (fun c2 => ?_) (fun c2 => ?_)
  · have hf := bl_ifp c2 hf
    refine lv_lload X.1 X.2.1 dX10_chanceCost_164 (lv_at hl 5 rfl) ?_
    refine lv_bipush (v := 12) X.1 X.2.1 dX10_chanceCost_166 (by decide) ?_
    refine lv_iload X.1 X.2.1 dX10_chanceCost_168 (lv_at hl 4 rfl) ?_
    refine lv_imul X.1 X.2.1 dX10_chanceCost_170 ?_
    refine lv_i2l X.1 X.2.1 dX10_chanceCost_171 rfl ?_
    obtain ⟨h3, hf⟩ := bl_gd_at hf
    refine lv_ldiv X.1 X.2.1 dX10_chanceCost_172 (by simpa using h3) ?_
    exact bl_retl X V hr hf dX10_chanceCost_173
  · have hf := bl_ifn c2 hf
    refine lv_lload X.1 X.2.1 dX10_chanceCost_129 (lv_at hl 5 rfl) ?_
    refine lv_aload_n X.1 X.2.1 dX10_chanceCost_131 rfl (lv_at hl 0 rfl) ?_
    refine bl_getr X V hv0 fl_X10_13 rfl dX10_chanceCost_132 (fun h4 => ?_)
    refine lv_iconst (v := 3) X.1 X.2.1 dX10_chanceCost_135 (by decide) ?_
    refine bl_iald (k := 3) X V h4 (by decide) (by decide) dX10_chanceCost_136 ?_
    refine lv_aload_n X.1 X.2.1 dX10_chanceCost_137 rfl (lv_at hl 0 rfl) ?_
    refine lv_iload X.1 X.2.1 dX10_chanceCost_138 (lv_at hl 6 rfl) ?_
    obtain ⟨r5, σ6, h7, hf⟩ := bl_bd_at hf
    refine bl_cVi (As := [.int v9]) X V hl.1 hv0 rfl ml_X10_70 mV_X10_weight (t_X10_weight l g σ v0 v9 _ hv0 h7) rfl rfl ⟨Nat.le_of_ble_eq_true rfl, Nat.le_of_ble_eq_true rfl⟩ rfl rfl (Nat.le_of_ble_eq_true rfl) ⟨Nat.zero_le _, Nat.zero_le _⟩ dX10_chanceCost_140 (fun H locs V => ?_)
    refine lv_imul X.1 X.2.1 dX10_chanceCost_143 ?_
    refine lv_i2l X.1 X.2.1 dX10_chanceCost_144 rfl ?_
    refine lv_aload_n X.1 X.2.1 dX10_chanceCost_145 rfl (lv_at hl 0 rfl) ?_
    refine lv_iload X.1 X.2.1 dX10_chanceCost_146 (lv_at hl 6 rfl) ?_
    refine lv_iload_n X.1 X.2.1 dX10_chanceCost_148 rfl (lv_at hl 1 rfl) ?_
    refine lv_iload_n X.1 X.2.1 dX10_chanceCost_149 rfl (lv_at hl 2 rfl) ?_
    refine lv_iload_n X.1 X.2.1 dX10_chanceCost_150 rfl (lv_at hl 3 rfl) ?_
    obtain ⟨r8, σ9, h10, hf⟩ := bl_bd_at hf
    refine bl_cVl (As := [.int v9, .int v1, .int v2, .int v3]) X V hl.1 hv0 rfl ml_X10_203 mV_X10_lossCost (t_X10_lossCost l g σ6 v0 v9 v1 v2 v3 _ hv0 h10) rfl rfl ⟨Nat.le_of_ble_eq_true rfl, Nat.le_of_ble_eq_true rfl⟩ rfl rfl (Nat.le_of_ble_eq_true rfl) ⟨Nat.zero_le _, Nat.zero_le _⟩ dX10_chanceCost_151 (fun H locs V => ?_)
    refine lv_lmul X.1 X.2.1 dX10_chanceCost_154 ?_
    refine lv_ladd X.1 X.2.1 dX10_chanceCost_155 ?_
    refine lv_topl (fun x11 e12 => ?_)
    have hf := bl_let_at e12 hf
    refine lv_lstore (lv' := [(7, .long x11), (0, .ref (bl_ad g v0)), (1, .int v1), (2, .int v2), (3, .int v3), (6, .int v6), (9, .int v9)]) X.1 X.2.1 dX10_chanceCost_156 hl (by decide) rfl (fun ls hl => ?_)
    obtain ⟨x13, e14⟩ : ∃ z : Int32, z = v9 + 1 := ⟨_, rfl⟩
    have hf := bl_let_at e14 hf
    refine lv_iinc (v := x13) (lv' := [(9, .int x13), (7, .long x11), (0, .ref (bl_ad g v0)), (1, .int v1), (2, .int v2), (3, .int v3), (6, .int v6)]) X.1 X.2.1 dX10_chanceCost_158 hl (k := 6) rfl (by rw [e14]; rfl) (by decide) rfl (fun ls hl => ?_)
    refine lv_goto (tgt := 118) X.1 X.2.1 dX10_chanceCost_161 (by decide) ?_
    exact hk118 σ9 v0 v1 v2 v3 v6 x11 x13 hv0 hf _ _ _ V (lv_sub hl [2, 3, 4, 5, 6, 1, 0] rfl)
theorem l_X10_chanceCost_118 {p : Program} {l : Launch} {e : Env} {s : State} {m : MethodId} {below : List Frame} {meth : Method} {c : Code} {g : bl_Gp} {as : List Value} {out : Int64 × bl_St} (X : bl_Cx g p s m as.toArray meth c cX10_chanceCost 10 RX10) (hr : meth.sig.returnType = (Option.some Jvm.ClassFile.FieldType.long)) (n : Nat) : ∀ (σ : bl_St) (v0 : Nat) (v1 : Int32) (v2 : Int32) (v3 : Int32) (v6 : Int32) (v7 : Int64) (v9 : Int32), bl_sh[v0]? = some (10, 28) → (bl_fx (fun _ _ _ _ _ _ _ _ => none) (b_X10_chanceCost_118 ) n) σ v0 v1 v2 v3 v6 v7 v9 = some out → ∀ (H : Heap) (locs : List Loc) (ls : Array Slot), bl_V g s σ H locs → lv_has ls 10 [(0, .ref (bl_ad g v0)), (1, .int v1), (2, .int v2), (3, .int v3), (6, .int v6), (7, .long v7), (9, .int v9)] → W p l e (bl_rm 4 96) s m as.toArray below meth c H locs 0 0 (bl_Ql below g s as out) (F0 m 118 ls []) := by
  induction n with
  | zero =>
    intro σ v0 v1 v2 v3 v6 v7 v9 hv0 hf H locs ls V hl
    cases hf
  | succ n ih => exact w_X10_chanceCost_118 X hr  _ ih
set_option maxHeartbeats 4000000 in
set_option maxRecDepth 100000 in
theorem w_X10_chanceCost_46 {p : Program} {l : Launch} {e : Env} {s : State} {m : MethodId} {below : List Frame} {meth : Method} {c : Code} {g : bl_Gp} {as : List Value} {out : Int64 × bl_St} (X : bl_Cx g p s m as.toArray meth c cX10_chanceCost 10 RX10) (hr : meth.sig.returnType = (Option.some Jvm.ClassFile.FieldType.long)) (k46 : bl_St → Nat → Int32 → Int32 → Int32 → Int64 → Int32 → Option (Int64 × bl_St)) (hk46 : ∀ (σ : bl_St) (v0 : Nat) (v1 : Int32) (v2 : Int32) (v3 : Int32) (v6 : Int64) (v8 : Int32), bl_sh[v0]? = some (10, 28) → k46 σ v0 v1 v2 v3 v6 v8 = some out → ∀ (H : Heap) (locs : List Loc) (ls : Array Slot), bl_V g s σ H locs → lv_has ls 10 [(0, .ref (bl_ad g v0)), (1, .int v1), (2, .int v2), (3, .int v3), (6, .long v6), (8, .int v8)] → W p l e (bl_rm 4 96) s m as.toArray below meth c H locs 0 0 (bl_Ql below g s as out) (F0 m 46 ls [])) : ∀ (σ : bl_St) (v0 : Nat) (v1 : Int32) (v2 : Int32) (v3 : Int32) (v6 : Int64) (v8 : Int32), bl_sh[v0]? = some (10, 28) → (b_X10_chanceCost_46 k46) σ v0 v1 v2 v3 v6 v8 = some out → ∀ (H : Heap) (locs : List Loc) (ls : Array Slot), bl_V g s σ H locs → lv_has ls 10 [(0, .ref (bl_ad g v0)), (1, .int v1), (2, .int v2), (3, .int v3), (6, .long v6), (8, .int v8)] → W p l e (bl_rm 4 96) s m as.toArray below meth c H locs 0 0 (bl_Ql below g s as out) (F0 m 46 ls []) := by
  intro σ v0 v1 v2 v3 v6 v8 hv0 hf H locs ls V hl
  unfold b_X10_chanceCost_46 at hf
  refine lv_iload X.1 X.2.1 dX10_chanceCost_46 (lv_at hl 5 rfl) ?_
  refine lv_aload_n X.1 X.2.1 dX10_chanceCost_48 rfl (lv_at hl 0 rfl) ?_
  refine bl_getr X V hv0 fl_X10_13 rfl dX10_chanceCost_49 (fun h15 => ?_)
  refine lv_iconst (v := 1) X.1 X.2.1 dX10_chanceCost_52 (by decide) ?_
  refine bl_iald (k := 1) X V h15 (by decide) (by decide) dX10_chanceCost_53 ?_
  refine lv_icmp_ge (tgt := 88) X.1 X.2.1 dX10_chanceCost_54 (by decide) (fun c16 => ?_) (fun c16 => ?_)
  · have hf := bl_ifp c16 hf
    refine lv_lload X.1 X.2.1 dX10_chanceCost_88 (lv_at hl 4 rfl) ?_
    exact bl_retl X V hr hf dX10_chanceCost_90
  · have hf := bl_ifn c16 hf
    refine lv_aload_n X.1 X.2.1 dX10_chanceCost_57 rfl (lv_at hl 0 rfl) ?_
    refine bl_getr X V hv0 fl_X10_13 rfl dX10_chanceCost_58 (fun h17 => ?_)
    refine lv_iconst (v := 3) X.1 X.2.1 dX10_chanceCost_61 (by decide) ?_
    refine bl_iald (k := 3) X V h17 (by decide) (by decide) dX10_chanceCost_62 ?_
    refine lv_if_le (tgt := 88) X.1 X.2.1 dX10_chanceCost_63 (by decide) (fun c18 => ?_) (fun c18 => ?_)
    · have hf := bl_ifp c18 hf
      refine lv_lload X.1 X.2.1 dX10_chanceCost_88 (lv_at hl 4 rfl) ?_
      exact bl_retl X V hr hf dX10_chanceCost_90
    · have hf := bl_ifn c18 hf
      refine lv_lload X.1 X.2.1 dX10_chanceCost_66 (lv_at hl 4 rfl) ?_
      refine lv_aload_n X.1 X.2.1 dX10_chanceCost_68 rfl (lv_at hl 0 rfl) ?_
      refine lv_iload X.1 X.2.1 dX10_chanceCost_69 (lv_at hl 5 rfl) ?_
      refine lv_iload_n X.1 X.2.1 dX10_chanceCost_71 rfl (lv_at hl 1 rfl) ?_
      refine lv_iload_n X.1 X.2.1 dX10_chanceCost_72 rfl (lv_at hl 2 rfl) ?_
      refine lv_iload_n X.1 X.2.1 dX10_chanceCost_73 rfl (lv_at hl 3 rfl) ?_
      obtain ⟨r19, σ20, h21, hf⟩ := bl_bd_at hf
      refine bl_cVl (As := [.int v8, .int v1, .int v2, .int v3]) X V hl.1 hv0 rfl ml_X10_203 mV_X10_lossCost (t_X10_lossCost l g σ v0 v8 v1 v2 v3 _ hv0 h21) rfl rfl ⟨Nat.le_of_ble_eq_true rfl, Nat.le_of_ble_eq_true rfl⟩ rfl rfl (Nat.le_of_ble_eq_true rfl) ⟨Nat.zero_le _, Nat.zero_le _⟩ dX10_chanceCost_74 (fun H locs V => ?_)
      obtain ⟨r22, σ23, h24, hf⟩ := bl_bd_at hf
      refine bl_cSl (As := [.long v6, .long r19]) X V hl.1 ml_X10_206 mS_X10_greater (t_X10_greater l g σ20 v6 r19 _  h24) rfl rfl ⟨Nat.le_of_ble_eq_true rfl, Nat.le_of_ble_eq_true rfl⟩ rfl rfl (Nat.le_of_ble_eq_true rfl) ⟨Nat.zero_le _, Nat.zero_le _⟩ dX10_chanceCost_77 (fun H locs V => ?_)
      refine lv_lstore (lv' := [(6, .long r22), (0, .ref (bl_ad g v0)), (1, .int v1), (2, .int v2), (3, .int v3), (8, .int v8)]) X.1 X.2.1 dX10_chanceCost_80 hl (by decide) rfl (fun ls hl => ?_)
      obtain ⟨x25, e26⟩ : ∃ z : Int32, z = v8 + 1 := ⟨_, rfl⟩
      have hf := bl_let_at e26 hf
      refine lv_iinc (v := x25) (lv' := [(8, .int x25), (6, .long r22), (0, .ref (bl_ad g v0)), (1, .int v1), (2, .int v2), (3, .int v3)]) X.1 X.2.1 dX10_chanceCost_82 hl (k := 5) rfl (by rw [e26]; rfl) (by decide) rfl (fun ls hl => ?_)
      refine lv_goto (tgt := 46) X.1 X.2.1 dX10_chanceCost_85 (by decide) ?_
      exact hk46 σ23 v0 v1 v2 v3 r22 x25 hv0 hf _ _ _ V (lv_sub hl [2, 3, 4, 5, 1, 0] rfl)
theorem l_X10_chanceCost_46 {p : Program} {l : Launch} {e : Env} {s : State} {m : MethodId} {below : List Frame} {meth : Method} {c : Code} {g : bl_Gp} {as : List Value} {out : Int64 × bl_St} (X : bl_Cx g p s m as.toArray meth c cX10_chanceCost 10 RX10) (hr : meth.sig.returnType = (Option.some Jvm.ClassFile.FieldType.long)) (n : Nat) : ∀ (σ : bl_St) (v0 : Nat) (v1 : Int32) (v2 : Int32) (v3 : Int32) (v6 : Int64) (v8 : Int32), bl_sh[v0]? = some (10, 28) → (bl_fx (fun _ _ _ _ _ _ _ => none) (b_X10_chanceCost_46 ) n) σ v0 v1 v2 v3 v6 v8 = some out → ∀ (H : Heap) (locs : List Loc) (ls : Array Slot), bl_V g s σ H locs → lv_has ls 10 [(0, .ref (bl_ad g v0)), (1, .int v1), (2, .int v2), (3, .int v3), (6, .long v6), (8, .int v8)] → W p l e (bl_rm 4 96) s m as.toArray below meth c H locs 0 0 (bl_Ql below g s as out) (F0 m 46 ls []) := by
  induction n with
  | zero =>
    intro σ v0 v1 v2 v3 v6 v8 hv0 hf H locs ls V hl
    cases hf
  | succ n ih => exact w_X10_chanceCost_46 X hr  _ ih
set_option maxHeartbeats 4000000 in
set_option maxRecDepth 100000 in
theorem w_X10_chanceCost_41 {p : Program} {l : Launch} {e : Env} {s : State} {m : MethodId} {below : List Frame} {meth : Method} {c : Code} {g : bl_Gp} {as : List Value} {out : Int64 × bl_St} (X : bl_Cx g p s m as.toArray meth c cX10_chanceCost 10 RX10) (hr : meth.sig.returnType = (Option.some Jvm.ClassFile.FieldType.long)) : ∀ (σ : bl_St) (v0 : Nat) (v1 : Int32) (v2 : Int32) (v3 : Int32) (s0 : Int64), bl_sh[v0]? = some (10, 28) → (b_X10_chanceCost_41 ) σ v0 v1 v2 v3 s0 = some out → ∀ (H : Heap) (locs : List Loc) (ls : Array Slot), bl_V g s σ H locs → lv_has ls 10 [(0, .ref (bl_ad g v0)), (1, .int v1), (2, .int v2), (3, .int v3)] → W p l e (bl_rm 4 96) s m as.toArray below meth c H locs 0 0 (bl_Ql below g s as out) (F0 m 41 ls [.long s0]) := by
  intro σ v0 v1 v2 v3 s0 hv0 hf H locs ls V hl
  unfold b_X10_chanceCost_41 at hf
  refine lv_lstore (lv' := [(6, .long s0), (0, .ref (bl_ad g v0)), (1, .int v1), (2, .int v2), (3, .int v3)]) X.1 X.2.1 dX10_chanceCost_41 hl (by decide) rfl (fun ls hl => ?_)
  refine lv_iconst (v := 0) X.1 X.2.1 dX10_chanceCost_43 (by decide) ?_
  refine lv_istore (lv' := [(8, .int 0), (6, .long s0), (0, .ref (bl_ad g v0)), (1, .int v1), (2, .int v2), (3, .int v3)]) X.1 X.2.1 dX10_chanceCost_44 hl (by decide) rfl (fun ls hl => ?_)
  exact l_X10_chanceCost_46 X hr  bl_fu σ v0 v1 v2 v3 s0 0 hv0 hf _ _ _ V (lv_sub hl [2, 3, 4, 5, 1, 0] rfl)
set_option maxHeartbeats 4000000 in
set_option maxRecDepth 100000 in
theorem t_X10_chanceCost (l : Launch) (g : bl_Gp) (σ : bl_St) (a0 : Nat) (a1 : Int32) (a2 : Int32) (a3 : Int32) (o : Int64 × bl_St) (ha0 : bl_sh[a0]? = some (10, 28)) (hf : f_X10_chanceCost σ a0 a1 a2 a3 = some o) : bl_Cl l g yX10_chanceCost cX10_chanceCost 10 (Option.some Jvm.ClassFile.FieldType.long) (bl_rm 4 96) [.ref (bl_ad g a0), .int a1, .int a2, .int a3] σ o := by
  refine bl_met (by decide) (Nat.le_of_ble_eq_true rfl) (fun p e s m below meth c ls X hr V hl => ?_)
  have hl : lv_has ls 10 [(0, .ref (bl_ad g a0)), (1, .int a1), (2, .int a2), (3, .int a3)] := hl
  unfold f_X10_chanceCost at hf
  refine lv_aload_n X.1 X.2.1 dX10_chanceCost_0 rfl (lv_at hl 0 rfl) ?_
  refine bl_getr X V ha0 fl_X10_34 rfl dX10_chanceCost_1 (fun h27 => ?_)
  refine lv_iload_n X.1 X.2.1 dX10_chanceCost_4 rfl (lv_at hl 1 rfl) ?_
  refine lv_iconst (v := 1) X.1 X.2.1 dX10_chanceCost_5 (by decide) ?_
  refine lv_iadd X.1 X.2.1 dX10_chanceCost_6 ?_
  refine lv_iload_n X.1 X.2.1 dX10_chanceCost_7 rfl (lv_at hl 2 rfl) ?_
  refine lv_iload_n X.1 X.2.1 dX10_chanceCost_8 rfl (lv_at hl 3 rfl) ?_
  obtain ⟨r28, σ29, h30, hf⟩ := bl_bd_at hf
  refine bl_cSi (As := [.int (a1 + 1), .int a2, .int a3]) X V hl.1 ml_X10_181 mS_X10_slot (t_X10_slot l g σ (a1 + 1) a2 a3 _  h30) rfl rfl ⟨Nat.le_of_ble_eq_true rfl, Nat.le_of_ble_eq_true rfl⟩ rfl rfl (Nat.le_of_ble_eq_true rfl) ⟨Nat.zero_le _, Nat.zero_le _⟩ dX10_chanceCost_9 (fun H locs V => ?_)
  obtain ⟨h31, hf⟩ := bl_gd_at hf
  refine bl_lald (k := (Int32.toNatClampNeg r28)) X V h27 h31 rfl dX10_chanceCost_12 ?_
  refine lv_topl (fun x32 e33 => ?_)
  have hf := bl_let_at e33 hf
  refine lv_lstore (lv' := [(4, .long x32), (0, .ref (bl_ad g a0)), (1, .int a1), (2, .int a2), (3, .int a3)]) X.1 X.2.1 dX10_chanceCost_13 hl (by decide) rfl (fun ls hl => ?_)
  refine lv_aload_n X.1 X.2.1 dX10_chanceCost_15 rfl (lv_at hl 1 rfl) ?_
  refine bl_geti X V ha0 fl_X10_197 dX10_chanceCost_16 ?_
  refine lv_if_eq (tgt := 91) X.1 X.2.1 dX10_chanceCost_19 (by decide) (fun c34 => ?_) (fun c34 => ?_)
  · have hf := bl_ifp c34 hf
    refine lv_aload_n X.1 X.2.1 dX10_chanceCost_91 rfl (lv_at hl 1 rfl) ?_
    obtain ⟨r35, σ36, h37, hf⟩ := bl_bd_at hf
    refine bl_cVi (As := []) X V hl.1 ha0 rfl ml_X10_135 mV_X10_weights (t_X10_weights l g σ29 a0 _ ha0 h37) rfl rfl ⟨Nat.le_of_ble_eq_true rfl, Nat.le_of_ble_eq_true rfl⟩ rfl rfl (Nat.le_of_ble_eq_true rfl) ⟨Nat.zero_le _, Nat.zero_le _⟩ dX10_chanceCost_92 (fun H locs V => ?_)
    refine lv_istore (lv' := [(6, .int r35), (4, .long x32), (0, .ref (bl_ad g a0)), (1, .int a1), (2, .int a2), (3, .int a3)]) X.1 X.2.1 dX10_chanceCost_95 hl (by decide) rfl (fun ls hl => ?_)
    refine lv_bipush (v := 12) X.1 X.2.1 dX10_chanceCost_97 (by decide) ?_
    refine lv_aload_n X.1 X.2.1 dX10_chanceCost_99 rfl (lv_at hl 2 rfl) ?_
    refine bl_getr X V ha0 fl_X10_13 rfl dX10_chanceCost_100 (fun h38 => ?_)
    refine lv_iconst (v := 3) X.1 X.2.1 dX10_chanceCost_103 (by decide) ?_
    refine bl_iald (k := 3) X V h38 (by decide) (by decide) dX10_chanceCost_104 ?_
    refine lv_isub X.1 X.2.1 dX10_chanceCost_105 ?_
    refine lv_iload X.1 X.2.1 dX10_chanceCost_106 (lv_at hl 0 rfl) ?_
    refine lv_imul X.1 X.2.1 dX10_chanceCost_108 ?_
    refine lv_i2l X.1 X.2.1 dX10_chanceCost_109 rfl ?_
    refine lv_lload X.1 X.2.1 dX10_chanceCost_110 (lv_at hl 1 rfl) ?_
    refine lv_lmul X.1 X.2.1 dX10_chanceCost_112 ?_
    refine lv_topl (fun x39 e40 => ?_)
    have hf := bl_let_at e40 hf
    refine lv_lstore (lv' := [(7, .long x39), (6, .int r35), (4, .long x32), (0, .ref (bl_ad g a0)), (1, .int a1), (2, .int a2), (3, .int a3)]) X.1 X.2.1 dX10_chanceCost_113 hl (by decide) rfl (fun ls hl => ?_)
    refine lv_iconst (v := 0) X.1 X.2.1 dX10_chanceCost_115 (by decide) ?_
    refine lv_istore (lv' := [(9, .int 0), (7, .long x39), (6, .int r35), (4, .long x32), (0, .ref (bl_ad g a0)), (1, .int a1), (2, .int a2), (3, .int a3)]) X.1 X.2.1 dX10_chanceCost_116 hl (by decide) rfl (fun ls hl => ?_)
    exact l_X10_chanceCost_118 X hr  bl_fu σ36 a0 a1 a2 a3 r35 x39 0 ha0 hf _ _ _ V (lv_sub hl [4, 5, 6, 7, 2, 1, 0] rfl)
  · have hf := bl_ifn c34 hf
    refine lv_aload_n X.1 X.2.1 dX10_chanceCost_22 rfl (lv_at hl 1 rfl) ?_
    refine bl_getr X V ha0 fl_X10_13 rfl dX10_chanceCost_23 (fun h41 => ?_)
    refine lv_iconst (v := 3) X.1 X.2.1 dX10_chanceCost_26 (by decide) ?_
    refine bl_iald (k := 3) X V h41 (by decide) (by decide) dX10_chanceCost_27 ?_
    refine lv_bipush (v := 12) X.1 X.2.1 dX10_chanceCost_28 (by decide) ?_
    refine lv_icmp_ne (tgt := 39) X.1 X.2.1 dX10_chanceCost_30 (by decide) (fun c42 => ?_) (fun c42 => ?_)
    · have hf := bl_ifn c42 hf
      refine lv_lload X.1 X.2.1 dX10_chanceCost_39 (lv_at hl 0 rfl) ?_
      exact w_X10_chanceCost_41 X hr  σ29 a0 a1 a2 a3 x32 ha0 hf _ _ _ V (lv_sub hl [1, 2, 3, 4] rfl)
    · have hf := bl_ifp c42 hf
      refine lv_ldc2 (v := (-9223372036854775808)) X.1 X.2.1 X.2.2.2.1 (X.2.2.2.2.1 _ kl_X10_201) dX10_chanceCost_33 ?_
      refine lv_goto (tgt := 41) X.1 X.2.1 dX10_chanceCost_36 (by decide) ?_
      exact w_X10_chanceCost_41 X hr  σ29 a0 a1 a2 a3 (-9223372036854775808) ha0 hf _ _ _ V (lv_sub hl [1, 2, 3, 4] rfl)
set_option maxHeartbeats 4000000 in
set_option maxRecDepth 100000 in
theorem t_X10_costAt (l : Launch) (g : bl_Gp) (σ : bl_St) (a0 : Nat) (a1 : Int32) (a2 : Int32) (o : Int64 × bl_St) (ha0 : bl_sh[a0]? = some (10, 28)) (hf : f_X10_costAt σ a0 a1 a2 = some o) : bl_Cl l g yX10_costAt cX10_costAt 3 (Option.some Jvm.ClassFile.FieldType.long) (bl_rm 0 0) [.ref (bl_ad g a0), .int a1, .int a2] σ o := by
  refine bl_met (by decide) (Nat.le_of_ble_eq_true rfl) (fun p e s m below meth c ls X hr V hl => ?_)
  have hl : lv_has ls 3 [(0, .ref (bl_ad g a0)), (1, .int a1), (2, .int a2)] := hl
  unfold f_X10_costAt at hf
  refine lv_aload_n X.1 X.2.1 dX10_costAt_0 rfl (lv_at hl 0 rfl) ?_
  refine bl_getr X V ha0 fl_X10_26 rfl dX10_costAt_1 (fun h1 => ?_)
  refine lv_bipush (v := 8) X.1 X.2.1 dX10_costAt_4 (by decide) ?_
  refine lv_iload_n X.1 X.2.1 dX10_costAt_6 rfl (lv_at hl 1 rfl) ?_
  refine lv_imul X.1 X.2.1 dX10_costAt_7 ?_
  refine lv_iload_n X.1 X.2.1 dX10_costAt_8 rfl (lv_at hl 2 rfl) ?_
  refine lv_iadd X.1 X.2.1 dX10_costAt_9 ?_
  obtain ⟨h2, hf⟩ := bl_gd_at hf
  refine bl_lald (k := (Int32.toNatClampNeg ((8 * a1) + a2))) X V h1 h2 rfl dX10_costAt_10 ?_
  exact bl_retl X V hr hf dX10_costAt_11
set_option maxHeartbeats 4000000 in
set_option maxRecDepth 100000 in
theorem w_X10_laysChances_83 {p : Program} {l : Launch} {e : Env} {s : State} {m : MethodId} {below : List Frame} {meth : Method} {c : Code} {g : bl_Gp} {as : List Value} {out : Unit × bl_St} (X : bl_Cx g p s m as.toArray meth c cX10_laysChances 6 RX10) (hr : meth.sig.returnType = (Option.none : Option Jvm.ClassFile.FieldType)) (k74 : bl_St → Nat → Int32 → Int32 → Option (Unit × bl_St)) (hk74 : ∀ (σ : bl_St) (v0 : Nat) (v3 : Int32) (v4 : Int32), bl_sh[v0]? = some (10, 28) → k74 σ v0 v3 v4 = some out → ∀ (H : Heap) (locs : List Loc) (ls : Array Slot), bl_V g s σ H locs → lv_has ls 6 [(0, .ref (bl_ad g v0)), (3, .int v3), (4, .int v4)] → W p l e (bl_rm 5 125) s m as.toArray below meth c H locs 0 0 (bl_Qv below g s as out) (F0 m 74 ls [])) (k83 : bl_St → Nat → Int32 → Int32 → Int32 → Option (Unit × bl_St)) (hk83 : ∀ (σ : bl_St) (v0 : Nat) (v3 : Int32) (v4 : Int32) (v5 : Int32), bl_sh[v0]? = some (10, 28) → k83 σ v0 v3 v4 v5 = some out → ∀ (H : Heap) (locs : List Loc) (ls : Array Slot), bl_V g s σ H locs → lv_has ls 6 [(0, .ref (bl_ad g v0)), (3, .int v3), (4, .int v4), (5, .int v5)] → W p l e (bl_rm 5 125) s m as.toArray below meth c H locs 0 0 (bl_Qv below g s as out) (F0 m 83 ls [])) : ∀ (σ : bl_St) (v0 : Nat) (v3 : Int32) (v4 : Int32) (v5 : Int32), bl_sh[v0]? = some (10, 28) → (b_X10_laysChances_83 k74 k83) σ v0 v3 v4 v5 = some out → ∀ (H : Heap) (locs : List Loc) (ls : Array Slot), bl_V g s σ H locs → lv_has ls 6 [(0, .ref (bl_ad g v0)), (3, .int v3), (4, .int v4), (5, .int v5)] → W p l e (bl_rm 5 125) s m as.toArray below meth c H locs 0 0 (bl_Qv below g s as out) (F0 m 83 ls []) := by
  intro σ v0 v3 v4 v5 hv0 hf H locs ls V hl
  unfold b_X10_laysChances_83 at hf
  refine lv_iload X.1 X.2.1 dX10_laysChances_83 (lv_at hl 3 rfl) ?_
  refine lv_iconst (v := 2) X.1 X.2.1 dX10_laysChances_85 (by decide) ?_
  refine lv_icmp_ge (tgt := 117) X.1 X.2.1 dX10_laysChances_86 (by decide) (fun c1 => ?_) (fun c1 => ?_)
  · have hf := bl_ifp c1 hf
    obtain ⟨x2, e3⟩ : ∃ z : Int32, z = v4 + 1 := ⟨_, rfl⟩
    have hf := bl_let_at e3 hf
    refine lv_iinc (v := x2) (lv' := [(4, .int x2), (0, .ref (bl_ad g v0)), (3, .int v3), (5, .int v5)]) X.1 X.2.1 dX10_laysChances_117 hl (k := 2) rfl (by rw [e3]; rfl) (by decide) rfl (fun ls hl => ?_)
    refine lv_goto (tgt := 74) X.1 X.2.1 dX10_laysChances_120 (by decide) ?_
    exact hk74 σ v0 v3 x2 hv0 hf _ _ _ V (lv_sub hl [1, 2, 0] rfl)
  · have hf := bl_ifn c1 hf
    refine lv_aload_n X.1 X.2.1 dX10_laysChances_89 rfl (lv_at hl 0 rfl) ?_
    refine bl_getr X V hv0 fl_X10_34 rfl dX10_laysChances_90 (fun h4 => ?_)
    refine lv_iload_n X.1 X.2.1 dX10_laysChances_93 rfl (lv_at hl 1 rfl) ?_
    refine lv_iload X.1 X.2.1 dX10_laysChances_94 (lv_at hl 2 rfl) ?_
    refine lv_iload X.1 X.2.1 dX10_laysChances_96 (lv_at hl 3 rfl) ?_
    obtain ⟨r5, σ6, h7, hf⟩ := bl_bd_at hf
    refine bl_cSi (As := [.int v3, .int v4, .int v5]) X V hl.1 ml_X10_181 mS_X10_slot (t_X10_slot l g σ v3 v4 v5 _  h7) rfl rfl ⟨Nat.le_of_ble_eq_true rfl, Nat.le_of_ble_eq_true rfl⟩ rfl rfl (Nat.le_of_ble_eq_true rfl) ⟨Nat.zero_le _, Nat.zero_le _⟩ dX10_laysChances_98 (fun H locs V => ?_)
    refine lv_aload_n X.1 X.2.1 dX10_laysChances_101 rfl (lv_at hl 0 rfl) ?_
    refine lv_iload_n X.1 X.2.1 dX10_laysChances_102 rfl (lv_at hl 1 rfl) ?_
    refine lv_iload X.1 X.2.1 dX10_laysChances_103 (lv_at hl 2 rfl) ?_
    refine lv_iload X.1 X.2.1 dX10_laysChances_105 (lv_at hl 3 rfl) ?_
    obtain ⟨r8, σ9, h10, hf⟩ := bl_bd_at hf
    refine bl_cVl (As := [.int v3, .int v4, .int v5]) X V hl.1 hv0 rfl ml_X10_217 mV_X10_chanceCost (t_X10_chanceCost l g σ6 v0 v3 v4 v5 _ hv0 h10) rfl rfl ⟨Nat.le_of_ble_eq_true rfl, Nat.le_of_ble_eq_true rfl⟩ rfl rfl (Nat.le_of_ble_eq_true rfl) ⟨Nat.zero_le _, Nat.zero_le _⟩ dX10_laysChances_107 (fun H locs V => ?_)
    obtain ⟨h11, hf⟩ := bl_gd_at hf
    refine bl_last (k := (Int32.toNatClampNeg r5)) X V h4 h11 rfl dX10_laysChances_110 (fun σ12 H locs e13 V => ?_)
    have hf := bl_let_at e13 hf
    obtain ⟨x14, e15⟩ : ∃ z : Int32, z = v5 + 1 := ⟨_, rfl⟩
    have hf := bl_let_at e15 hf
    refine lv_iinc (v := x14) (lv' := [(5, .int x14), (0, .ref (bl_ad g v0)), (3, .int v3), (4, .int v4)]) X.1 X.2.1 dX10_laysChances_111 hl (k := 3) rfl (by rw [e15]; rfl) (by decide) rfl (fun ls hl => ?_)
    refine lv_goto (tgt := 83) X.1 X.2.1 dX10_laysChances_114 (by decide) ?_
    exact hk83 σ12 v0 v3 v4 x14 hv0 hf _ _ _ V (lv_sub hl [1, 2, 3, 0] rfl)
theorem l_X10_laysChances_83 {p : Program} {l : Launch} {e : Env} {s : State} {m : MethodId} {below : List Frame} {meth : Method} {c : Code} {g : bl_Gp} {as : List Value} {out : Unit × bl_St} (X : bl_Cx g p s m as.toArray meth c cX10_laysChances 6 RX10) (hr : meth.sig.returnType = (Option.none : Option Jvm.ClassFile.FieldType)) (k74 : bl_St → Nat → Int32 → Int32 → Option (Unit × bl_St)) (hk74 : ∀ (σ : bl_St) (v0 : Nat) (v3 : Int32) (v4 : Int32), bl_sh[v0]? = some (10, 28) → k74 σ v0 v3 v4 = some out → ∀ (H : Heap) (locs : List Loc) (ls : Array Slot), bl_V g s σ H locs → lv_has ls 6 [(0, .ref (bl_ad g v0)), (3, .int v3), (4, .int v4)] → W p l e (bl_rm 5 125) s m as.toArray below meth c H locs 0 0 (bl_Qv below g s as out) (F0 m 74 ls [])) (n : Nat) : ∀ (σ : bl_St) (v0 : Nat) (v3 : Int32) (v4 : Int32) (v5 : Int32), bl_sh[v0]? = some (10, 28) → (bl_fx (fun _ _ _ _ _ => none) (b_X10_laysChances_83 k74) n) σ v0 v3 v4 v5 = some out → ∀ (H : Heap) (locs : List Loc) (ls : Array Slot), bl_V g s σ H locs → lv_has ls 6 [(0, .ref (bl_ad g v0)), (3, .int v3), (4, .int v4), (5, .int v5)] → W p l e (bl_rm 5 125) s m as.toArray below meth c H locs 0 0 (bl_Qv below g s as out) (F0 m 83 ls []) := by
  induction n with
  | zero =>
    intro σ v0 v3 v4 v5 hv0 hf H locs ls V hl
    cases hf
  | succ n ih => exact w_X10_laysChances_83 X hr k74 hk74 _ ih
set_option maxHeartbeats 4000000 in
set_option maxRecDepth 100000 in
theorem w_X10_laysChances_74 {p : Program} {l : Launch} {e : Env} {s : State} {m : MethodId} {below : List Frame} {meth : Method} {c : Code} {g : bl_Gp} {as : List Value} {out : Unit × bl_St} (X : bl_Cx g p s m as.toArray meth c cX10_laysChances 6 RX10) (hr : meth.sig.returnType = (Option.none : Option Jvm.ClassFile.FieldType)) (k67 : bl_St → Nat → Int32 → Option (Unit × bl_St)) (hk67 : ∀ (σ : bl_St) (v0 : Nat) (v3 : Int32), bl_sh[v0]? = some (10, 28) → k67 σ v0 v3 = some out → ∀ (H : Heap) (locs : List Loc) (ls : Array Slot), bl_V g s σ H locs → lv_has ls 6 [(0, .ref (bl_ad g v0)), (3, .int v3)] → W p l e (bl_rm 5 125) s m as.toArray below meth c H locs 0 0 (bl_Qv below g s as out) (F0 m 67 ls [])) (k74 : bl_St → Nat → Int32 → Int32 → Option (Unit × bl_St)) (hk74 : ∀ (σ : bl_St) (v0 : Nat) (v3 : Int32) (v4 : Int32), bl_sh[v0]? = some (10, 28) → k74 σ v0 v3 v4 = some out → ∀ (H : Heap) (locs : List Loc) (ls : Array Slot), bl_V g s σ H locs → lv_has ls 6 [(0, .ref (bl_ad g v0)), (3, .int v3), (4, .int v4)] → W p l e (bl_rm 5 125) s m as.toArray below meth c H locs 0 0 (bl_Qv below g s as out) (F0 m 74 ls [])) : ∀ (σ : bl_St) (v0 : Nat) (v3 : Int32) (v4 : Int32), bl_sh[v0]? = some (10, 28) → (b_X10_laysChances_74 k67 k74) σ v0 v3 v4 = some out → ∀ (H : Heap) (locs : List Loc) (ls : Array Slot), bl_V g s σ H locs → lv_has ls 6 [(0, .ref (bl_ad g v0)), (3, .int v3), (4, .int v4)] → W p l e (bl_rm 5 125) s m as.toArray below meth c H locs 0 0 (bl_Qv below g s as out) (F0 m 74 ls []) := by
  intro σ v0 v3 v4 hv0 hf H locs ls V hl
  unfold b_X10_laysChances_74 at hf
  refine lv_iload X.1 X.2.1 dX10_laysChances_74 (lv_at hl 2 rfl) ?_
  refine lv_iconst (v := 3) X.1 X.2.1 dX10_laysChances_76 (by decide) ?_
  refine lv_icmp_ge (tgt := 123) X.1 X.2.1 dX10_laysChances_77 (by decide) (fun c16 => ?_) (fun c16 => ?_)
  · have hf := bl_ifp c16 hf
    obtain ⟨x17, e18⟩ : ∃ z : Int32, z = v3 + (-1) := ⟨_, rfl⟩
    have hf := bl_let_at e18 hf
    refine lv_iinc (v := x17) (lv' := [(3, .int x17), (0, .ref (bl_ad g v0)), (4, .int v4)]) X.1 X.2.1 dX10_laysChances_123 hl (k := 1) rfl (by rw [e18]; rfl) (by decide) rfl (fun ls hl => ?_)
    refine lv_goto (tgt := 67) X.1 X.2.1 dX10_laysChances_126 (by decide) ?_
    exact hk67 σ v0 x17 hv0 hf _ _ _ V (lv_sub hl [1, 0] rfl)
  · have hf := bl_ifn c16 hf
    refine lv_iconst (v := 0) X.1 X.2.1 dX10_laysChances_80 (by decide) ?_
    refine lv_istore (lv' := [(5, .int 0), (0, .ref (bl_ad g v0)), (3, .int v3), (4, .int v4)]) X.1 X.2.1 dX10_laysChances_81 hl (by decide) rfl (fun ls hl => ?_)
    exact l_X10_laysChances_83 X hr k74 hk74 bl_fu σ v0 v3 v4 0 hv0 hf _ _ _ V (lv_sub hl [1, 2, 3, 0] rfl)
theorem l_X10_laysChances_74 {p : Program} {l : Launch} {e : Env} {s : State} {m : MethodId} {below : List Frame} {meth : Method} {c : Code} {g : bl_Gp} {as : List Value} {out : Unit × bl_St} (X : bl_Cx g p s m as.toArray meth c cX10_laysChances 6 RX10) (hr : meth.sig.returnType = (Option.none : Option Jvm.ClassFile.FieldType)) (k67 : bl_St → Nat → Int32 → Option (Unit × bl_St)) (hk67 : ∀ (σ : bl_St) (v0 : Nat) (v3 : Int32), bl_sh[v0]? = some (10, 28) → k67 σ v0 v3 = some out → ∀ (H : Heap) (locs : List Loc) (ls : Array Slot), bl_V g s σ H locs → lv_has ls 6 [(0, .ref (bl_ad g v0)), (3, .int v3)] → W p l e (bl_rm 5 125) s m as.toArray below meth c H locs 0 0 (bl_Qv below g s as out) (F0 m 67 ls [])) (n : Nat) : ∀ (σ : bl_St) (v0 : Nat) (v3 : Int32) (v4 : Int32), bl_sh[v0]? = some (10, 28) → (bl_fx (fun _ _ _ _ => none) (b_X10_laysChances_74 k67) n) σ v0 v3 v4 = some out → ∀ (H : Heap) (locs : List Loc) (ls : Array Slot), bl_V g s σ H locs → lv_has ls 6 [(0, .ref (bl_ad g v0)), (3, .int v3), (4, .int v4)] → W p l e (bl_rm 5 125) s m as.toArray below meth c H locs 0 0 (bl_Qv below g s as out) (F0 m 74 ls []) := by
  induction n with
  | zero =>
    intro σ v0 v3 v4 hv0 hf H locs ls V hl
    cases hf
  | succ n ih => exact w_X10_laysChances_74 X hr k67 hk67 _ ih
set_option maxHeartbeats 4000000 in
set_option maxRecDepth 100000 in
theorem w_X10_laysChances_67 {p : Program} {l : Launch} {e : Env} {s : State} {m : MethodId} {below : List Frame} {meth : Method} {c : Code} {g : bl_Gp} {as : List Value} {out : Unit × bl_St} (X : bl_Cx g p s m as.toArray meth c cX10_laysChances 6 RX10) (hr : meth.sig.returnType = (Option.none : Option Jvm.ClassFile.FieldType)) (k67 : bl_St → Nat → Int32 → Option (Unit × bl_St)) (hk67 : ∀ (σ : bl_St) (v0 : Nat) (v3 : Int32), bl_sh[v0]? = some (10, 28) → k67 σ v0 v3 = some out → ∀ (H : Heap) (locs : List Loc) (ls : Array Slot), bl_V g s σ H locs → lv_has ls 6 [(0, .ref (bl_ad g v0)), (3, .int v3)] → W p l e (bl_rm 5 125) s m as.toArray below meth c H locs 0 0 (bl_Qv below g s as out) (F0 m 67 ls [])) : ∀ (σ : bl_St) (v0 : Nat) (v3 : Int32), bl_sh[v0]? = some (10, 28) → (b_X10_laysChances_67 k67) σ v0 v3 = some out → ∀ (H : Heap) (locs : List Loc) (ls : Array Slot), bl_V g s σ H locs → lv_has ls 6 [(0, .ref (bl_ad g v0)), (3, .int v3)] → W p l e (bl_rm 5 125) s m as.toArray below meth c H locs 0 0 (bl_Qv below g s as out) (F0 m 67 ls []) := by
  intro σ v0 v3 hv0 hf H locs ls V hl
  unfold b_X10_laysChances_67 at hf
  refine lv_iload_n X.1 X.2.1 dX10_laysChances_67 rfl (lv_at hl 1 rfl) ?_
  refine lv_if_lt (tgt := 129) X.1 X.2.1 dX10_laysChances_68 (by decide) (fun c19 => ?_) (fun c19 => ?_)
  · have hf := bl_ifp c19 hf
    exact bl_retv X V hr hf dX10_laysChances_129
  · have hf := bl_ifn c19 hf
    refine lv_iconst (v := 0) X.1 X.2.1 dX10_laysChances_71 (by decide) ?_
    refine lv_istore (lv' := [(4, .int 0), (0, .ref (bl_ad g v0)), (3, .int v3)]) X.1 X.2.1 dX10_laysChances_72 hl (by decide) rfl (fun ls hl => ?_)
    exact l_X10_laysChances_74 X hr k67 hk67 bl_fu σ v0 v3 0 hv0 hf _ _ _ V (lv_sub hl [1, 2, 0] rfl)
theorem l_X10_laysChances_67 {p : Program} {l : Launch} {e : Env} {s : State} {m : MethodId} {below : List Frame} {meth : Method} {c : Code} {g : bl_Gp} {as : List Value} {out : Unit × bl_St} (X : bl_Cx g p s m as.toArray meth c cX10_laysChances 6 RX10) (hr : meth.sig.returnType = (Option.none : Option Jvm.ClassFile.FieldType)) (n : Nat) : ∀ (σ : bl_St) (v0 : Nat) (v3 : Int32), bl_sh[v0]? = some (10, 28) → (bl_fx (fun _ _ _ => none) (b_X10_laysChances_67 ) n) σ v0 v3 = some out → ∀ (H : Heap) (locs : List Loc) (ls : Array Slot), bl_V g s σ H locs → lv_has ls 6 [(0, .ref (bl_ad g v0)), (3, .int v3)] → W p l e (bl_rm 5 125) s m as.toArray below meth c H locs 0 0 (bl_Qv below g s as out) (F0 m 67 ls []) := by
  induction n with
  | zero =>
    intro σ v0 v3 hv0 hf H locs ls V hl
    cases hf
  | succ n ih => exact w_X10_laysChances_67 X hr  _ ih
set_option maxHeartbeats 4000000 in
set_option maxRecDepth 100000 in
theorem w_X10_laysChances_2 {p : Program} {l : Launch} {e : Env} {s : State} {m : MethodId} {below : List Frame} {meth : Method} {c : Code} {g : bl_Gp} {as : List Value} {out : Unit × bl_St} (X : bl_Cx g p s m as.toArray meth c cX10_laysChances 6 RX10) (hr : meth.sig.returnType = (Option.none : Option Jvm.ClassFile.FieldType)) (k2 : bl_St → Nat → Int32 → Int32 → Int32 → Option (Unit × bl_St)) (hk2 : ∀ (σ : bl_St) (v0 : Nat) (v1 : Int32) (v2 : Int32) (v3 : Int32), bl_sh[v0]? = some (10, 28) → k2 σ v0 v1 v2 v3 = some out → ∀ (H : Heap) (locs : List Loc) (ls : Array Slot), bl_V g s σ H locs → lv_has ls 6 [(0, .ref (bl_ad g v0)), (1, .int v1), (2, .int v2), (3, .int v3)] → W p l e (bl_rm 5 125) s m as.toArray below meth c H locs 0 0 (bl_Qv below g s as out) (F0 m 2 ls [])) : ∀ (σ : bl_St) (v0 : Nat) (v1 : Int32) (v2 : Int32) (v3 : Int32), bl_sh[v0]? = some (10, 28) → (b_X10_laysChances_2 k2) σ v0 v1 v2 v3 = some out → ∀ (H : Heap) (locs : List Loc) (ls : Array Slot), bl_V g s σ H locs → lv_has ls 6 [(0, .ref (bl_ad g v0)), (1, .int v1), (2, .int v2), (3, .int v3)] → W p l e (bl_rm 5 125) s m as.toArray below meth c H locs 0 0 (bl_Qv below g s as out) (F0 m 2 ls []) := by
  intro σ v0 v1 v2 v3 hv0 hf H locs ls V hl
  unfold b_X10_laysChances_2 at hf
  refine lv_iload_n X.1 X.2.1 dX10_laysChances_2 rfl (lv_at hl 3 rfl) ?_
  refine lv_iconst (v := 3) X.1 X.2.1 dX10_laysChances_3 (by decide) ?_
  refine lv_icmp_ge (tgt := 60) X.1 X.2.1 dX10_laysChances_4 (by decide) (fun c20 => ?_) (fun c20 => ?_)
  · have hf := bl_ifp c20 hf
    refine lv_aload_n X.1 X.2.1 dX10_laysChances_60 rfl (lv_at hl 0 rfl) ?_
    refine bl_geti X V hv0 fl_X10_214 dX10_laysChances_61 ?_
    refine lv_iconst (v := 1) X.1 X.2.1 dX10_laysChances_64 (by decide) ?_
    refine lv_isub X.1 X.2.1 dX10_laysChances_65 ?_
    refine lv_topi (fun x21 e22 => ?_)
    have hf := bl_let_at e22 hf
    refine lv_istore_n (lv' := [(3, .int x21), (0, .ref (bl_ad g v0)), (1, .int v1), (2, .int v2)]) X.1 X.2.1 dX10_laysChances_66 rfl hl (by decide) rfl (fun ls hl => ?_)
    exact l_X10_laysChances_67 X hr  bl_fu σ v0 x21 hv0 hf _ _ _ V (lv_sub hl [1, 0] rfl)
  · have hf := bl_ifn c20 hf
    refine lv_aload_n X.1 X.2.1 dX10_laysChances_7 rfl (lv_at hl 0 rfl) ?_
    refine lv_iload_n X.1 X.2.1 dX10_laysChances_8 rfl (lv_at hl 1 rfl) ?_
    refine lv_iconst (v := 1) X.1 X.2.1 dX10_laysChances_9 (by decide) ?_
    refine lv_isub X.1 X.2.1 dX10_laysChances_10 ?_
    refine lv_aload_n X.1 X.2.1 dX10_laysChances_11 rfl (lv_at hl 0 rfl) ?_
    refine lv_iload_n X.1 X.2.1 dX10_laysChances_12 rfl (lv_at hl 2 rfl) ?_
    refine lv_iload_n X.1 X.2.1 dX10_laysChances_13 rfl (lv_at hl 3 rfl) ?_
    obtain ⟨r23, σ24, h25, hf⟩ := bl_bd_at hf
    refine bl_cVi (As := [.int v2, .int v3]) X V hl.1 hv0 rfl ml_X10_118 mV_X10_behind (t_X10_behind l g σ v0 v2 v3 _ hv0 h25) rfl rfl ⟨Nat.le_of_ble_eq_true rfl, Nat.le_of_ble_eq_true rfl⟩ rfl rfl (Nat.le_of_ble_eq_true rfl) ⟨Nat.zero_le _, Nat.zero_le _⟩ dX10_laysChances_14 (fun H locs V => ?_)
    obtain ⟨r26, σ27, h28, hf⟩ := bl_bd_at hf
    refine bl_cVl (As := [.int (v1 - 1), .int r23]) X V hl.1 hv0 rfl ml_X10_210 mV_X10_costAt (t_X10_costAt l g σ24 v0 (v1 - 1) r23 _ hv0 h28) rfl rfl ⟨Nat.le_of_ble_eq_true rfl, Nat.le_of_ble_eq_true rfl⟩ rfl rfl (Nat.le_of_ble_eq_true rfl) ⟨Nat.zero_le _, Nat.zero_le _⟩ dX10_laysChances_17 (fun H locs V => ?_)
    refine lv_lstore (lv' := [(4, .long r26), (0, .ref (bl_ad g v0)), (1, .int v1), (2, .int v2), (3, .int v3)]) X.1 X.2.1 dX10_laysChances_20 hl (by decide) rfl (fun ls hl => ?_)
    refine lv_aload_n X.1 X.2.1 dX10_laysChances_22 rfl (lv_at hl 1 rfl) ?_
    refine bl_getr X V hv0 fl_X10_34 rfl dX10_laysChances_23 (fun h29 => ?_)
    refine lv_aload_n X.1 X.2.1 dX10_laysChances_26 rfl (lv_at hl 1 rfl) ?_
    refine bl_geti X V hv0 fl_X10_214 dX10_laysChances_27 ?_
    refine lv_iload_n X.1 X.2.1 dX10_laysChances_30 rfl (lv_at hl 4 rfl) ?_
    refine lv_iconst (v := 0) X.1 X.2.1 dX10_laysChances_31 (by decide) ?_
    obtain ⟨r30, σ31, h32, hf⟩ := bl_bd_at hf
    refine bl_cSi (As := [.int (bl_I σ27 v0 10), .int v3, .int 0]) X V hl.1 ml_X10_181 mS_X10_slot (t_X10_slot l g σ27 (bl_I σ27 v0 10) v3 0 _  h32) rfl rfl ⟨Nat.le_of_ble_eq_true rfl, Nat.le_of_ble_eq_true rfl⟩ rfl rfl (Nat.le_of_ble_eq_true rfl) ⟨Nat.zero_le _, Nat.zero_le _⟩ dX10_laysChances_32 (fun H locs V => ?_)
    refine lv_lload X.1 X.2.1 dX10_laysChances_35 (lv_at hl 0 rfl) ?_
    obtain ⟨h33, hf⟩ := bl_gd_at hf
    refine bl_last (k := (Int32.toNatClampNeg r30)) X V h29 h33 rfl dX10_laysChances_37 (fun σ34 H locs e35 V => ?_)
    have hf := bl_let_at e35 hf
    refine lv_aload_n X.1 X.2.1 dX10_laysChances_38 rfl (lv_at hl 1 rfl) ?_
    refine bl_getr X V hv0 fl_X10_34 rfl dX10_laysChances_39 (fun h36 => ?_)
    refine lv_aload_n X.1 X.2.1 dX10_laysChances_42 rfl (lv_at hl 1 rfl) ?_
    refine bl_geti X V hv0 fl_X10_214 dX10_laysChances_43 ?_
    refine lv_iload_n X.1 X.2.1 dX10_laysChances_46 rfl (lv_at hl 4 rfl) ?_
    refine lv_iconst (v := 1) X.1 X.2.1 dX10_laysChances_47 (by decide) ?_
    obtain ⟨r37, σ38, h39, hf⟩ := bl_bd_at hf
    refine bl_cSi (As := [.int (bl_I σ34 v0 10), .int v3, .int 1]) X V hl.1 ml_X10_181 mS_X10_slot (t_X10_slot l g σ34 (bl_I σ34 v0 10) v3 1 _  h39) rfl rfl ⟨Nat.le_of_ble_eq_true rfl, Nat.le_of_ble_eq_true rfl⟩ rfl rfl (Nat.le_of_ble_eq_true rfl) ⟨Nat.zero_le _, Nat.zero_le _⟩ dX10_laysChances_48 (fun H locs V => ?_)
    refine lv_lload X.1 X.2.1 dX10_laysChances_51 (lv_at hl 0 rfl) ?_
    obtain ⟨h40, hf⟩ := bl_gd_at hf
    refine bl_last (k := (Int32.toNatClampNeg r37)) X V h36 h40 rfl dX10_laysChances_53 (fun σ41 H locs e42 V => ?_)
    have hf := bl_let_at e42 hf
    obtain ⟨x43, e44⟩ : ∃ z : Int32, z = v3 + 1 := ⟨_, rfl⟩
    have hf := bl_let_at e44 hf
    refine lv_iinc (v := x43) (lv' := [(3, .int x43), (4, .long r26), (0, .ref (bl_ad g v0)), (1, .int v1), (2, .int v2)]) X.1 X.2.1 dX10_laysChances_54 hl (k := 4) rfl (by rw [e44]; rfl) (by decide) rfl (fun ls hl => ?_)
    refine lv_goto (tgt := 2) X.1 X.2.1 dX10_laysChances_57 (by decide) ?_
    exact hk2 σ41 v0 v1 v2 x43 hv0 hf _ _ _ V (lv_sub hl [2, 3, 4, 0] rfl)
theorem l_X10_laysChances_2 {p : Program} {l : Launch} {e : Env} {s : State} {m : MethodId} {below : List Frame} {meth : Method} {c : Code} {g : bl_Gp} {as : List Value} {out : Unit × bl_St} (X : bl_Cx g p s m as.toArray meth c cX10_laysChances 6 RX10) (hr : meth.sig.returnType = (Option.none : Option Jvm.ClassFile.FieldType)) (n : Nat) : ∀ (σ : bl_St) (v0 : Nat) (v1 : Int32) (v2 : Int32) (v3 : Int32), bl_sh[v0]? = some (10, 28) → (bl_fx (fun _ _ _ _ _ => none) (b_X10_laysChances_2 ) n) σ v0 v1 v2 v3 = some out → ∀ (H : Heap) (locs : List Loc) (ls : Array Slot), bl_V g s σ H locs → lv_has ls 6 [(0, .ref (bl_ad g v0)), (1, .int v1), (2, .int v2), (3, .int v3)] → W p l e (bl_rm 5 125) s m as.toArray below meth c H locs 0 0 (bl_Qv below g s as out) (F0 m 2 ls []) := by
  induction n with
  | zero =>
    intro σ v0 v1 v2 v3 hv0 hf H locs ls V hl
    cases hf
  | succ n ih => exact w_X10_laysChances_2 X hr  _ ih
set_option maxHeartbeats 4000000 in
set_option maxRecDepth 100000 in
theorem t_X10_laysChances (l : Launch) (g : bl_Gp) (σ : bl_St) (a0 : Nat) (a1 : Int32) (a2 : Int32) (o : Unit × bl_St) (ha0 : bl_sh[a0]? = some (10, 28)) (hf : f_X10_laysChances σ a0 a1 a2 = some o) : bl_Cv l g yX10_laysChances cX10_laysChances 6 (Option.none : Option Jvm.ClassFile.FieldType) (bl_rm 5 125) [.ref (bl_ad g a0), .int a1, .int a2] σ o := by
  refine bl_met (by decide) (Nat.le_of_ble_eq_true rfl) (fun p e s m below meth c ls X hr V hl => ?_)
  have hl : lv_has ls 6 [(0, .ref (bl_ad g a0)), (1, .int a1), (2, .int a2)] := hl
  unfold f_X10_laysChances at hf
  refine lv_iconst (v := 0) X.1 X.2.1 dX10_laysChances_0 (by decide) ?_
  refine lv_istore_n (lv' := [(3, .int 0), (0, .ref (bl_ad g a0)), (1, .int a1), (2, .int a2)]) X.1 X.2.1 dX10_laysChances_1 rfl hl (by decide) rfl (fun ls hl => ?_)
  exact l_X10_laysChances_2 X hr  bl_fu σ a0 a1 a2 0 ha0 hf _ _ _ V (lv_sub hl [1, 2, 3, 0] rfl)
set_option maxHeartbeats 4000000 in
set_option maxRecDepth 100000 in
theorem w_X10_laysYears_182 {p : Program} {l : Launch} {e : Env} {s : State} {m : MethodId} {below : List Frame} {meth : Method} {c : Code} {g : bl_Gp} {as : List Value} {out : Unit × bl_St} (X : bl_Cx g p s m as.toArray meth c cX10_laysYears 15 RX10) (hr : meth.sig.returnType = (Option.none : Option Jvm.ClassFile.FieldType)) (k41 : bl_St → Nat → Int32 → Int32 → Int32 → Int32 → Int32 → Int32 → Option (Unit × bl_St)) (hk41 : ∀ (σ : bl_St) (v0 : Nat) (v1 : Int32) (v2 : Int32) (v4 : Int32) (v5 : Int32) (v6 : Int32) (v7 : Int32), bl_sh[v0]? = some (10, 28) → k41 σ v0 v1 v2 v4 v5 v6 v7 = some out → ∀ (H : Heap) (locs : List Loc) (ls : Array Slot), bl_V g s σ H locs → lv_has ls 15 [(0, .ref (bl_ad g v0)), (1, .int v1), (2, .int v2), (4, .int v4), (5, .int v5), (6, .int v6), (7, .int v7)] → W p l e (bl_rm 6 150) s m as.toArray below meth c H locs 0 0 (bl_Qv below g s as out) (F0 m 41 ls [])) : ∀ (σ : bl_St) (v0 : Nat) (v1 : Int32) (v2 : Int32) (v4 : Int32) (v5 : Int32) (v6 : Int32) (v7 : Int32) (s0 : Int64) (s1 : Int32) (s2 : Nat), bl_sh[v0]? = some (10, 28) → bl_sh[s2]? = some (21, 168) → (b_X10_laysYears_182 k41) σ v0 v1 v2 v4 v5 v6 v7 s0 s1 s2 = some out → ∀ (H : Heap) (locs : List Loc) (ls : Array Slot), bl_V g s σ H locs → lv_has ls 15 [(0, .ref (bl_ad g v0)), (1, .int v1), (2, .int v2), (4, .int v4), (5, .int v5), (6, .int v6), (7, .int v7)] → W p l e (bl_rm 6 150) s m as.toArray below meth c H locs 0 0 (bl_Qv below g s as out) (F0 m 182 ls [.long s0, .int s1, .ref (bl_ad g s2)]) := by
  intro σ v0 v1 v2 v4 v5 v6 v7 s0 s1 s2 hv0 hs2 hf H locs ls V hl
  unfold b_X10_laysYears_182 at hf
  obtain ⟨h1, hf⟩ := bl_gd_at hf
  refine bl_last (k := (Int32.toNatClampNeg s1)) X V hs2 h1 rfl dX10_laysYears_182 (fun σ2 H locs e3 V => ?_)
  have hf := bl_let_at e3 hf
  obtain ⟨x4, e5⟩ : ∃ z : Int32, z = v7 + 1 := ⟨_, rfl⟩
  have hf := bl_let_at e5 hf
  refine lv_iinc (v := x4) (lv' := [(7, .int x4), (0, .ref (bl_ad g v0)), (1, .int v1), (2, .int v2), (4, .int v4), (5, .int v5), (6, .int v6)]) X.1 X.2.1 dX10_laysYears_183 hl (k := 6) rfl (by rw [e5]; rfl) (by decide) rfl (fun ls hl => ?_)
  refine lv_goto (tgt := 41) X.1 X.2.1 dX10_laysYears_186 (by decide) ?_
  exact hk41 σ2 v0 v1 v2 v4 v5 v6 x4 hv0 hf _ _ _ V (lv_sub hl [1, 2, 3, 4, 5, 6, 0] rfl)
set_option maxHeartbeats 4000000 in
set_option maxRecDepth 100000 in
theorem w_X10_laysYears_141 {p : Program} {l : Launch} {e : Env} {s : State} {m : MethodId} {below : List Frame} {meth : Method} {c : Code} {g : bl_Gp} {as : List Value} {out : Unit × bl_St} (X : bl_Cx g p s m as.toArray meth c cX10_laysYears 15 RX10) (hr : meth.sig.returnType = (Option.none : Option Jvm.ClassFile.FieldType)) (k41 : bl_St → Nat → Int32 → Int32 → Int32 → Int32 → Int32 → Int32 → Option (Unit × bl_St)) (hk41 : ∀ (σ : bl_St) (v0 : Nat) (v1 : Int32) (v2 : Int32) (v4 : Int32) (v5 : Int32) (v6 : Int32) (v7 : Int32), bl_sh[v0]? = some (10, 28) → k41 σ v0 v1 v2 v4 v5 v6 v7 = some out → ∀ (H : Heap) (locs : List Loc) (ls : Array Slot), bl_V g s σ H locs → lv_has ls 15 [(0, .ref (bl_ad g v0)), (1, .int v1), (2, .int v2), (4, .int v4), (5, .int v5), (6, .int v6), (7, .int v7)] → W p l e (bl_rm 6 150) s m as.toArray below meth c H locs 0 0 (bl_Qv below g s as out) (F0 m 41 ls [])) : ∀ (σ : bl_St) (v0 : Nat) (v1 : Int32) (v2 : Int32) (v4 : Int32) (v5 : Int32) (v6 : Int32) (v7 : Int32) (v10 : Int64) (v12 : Int64) (s0 : Int32), bl_sh[v0]? = some (10, 28) → (b_X10_laysYears_141 k41) σ v0 v1 v2 v4 v5 v6 v7 v10 v12 s0 = some out → ∀ (H : Heap) (locs : List Loc) (ls : Array Slot), bl_V g s σ H locs → lv_has ls 15 [(0, .ref (bl_ad g v0)), (1, .int v1), (2, .int v2), (4, .int v4), (5, .int v5), (6, .int v6), (7, .int v7), (10, .long v10), (12, .long v12)] → W p l e (bl_rm 6 150) s m as.toArray below meth c H locs 0 0 (bl_Qv below g s as out) (F0 m 141 ls [.int s0]) := by
  intro σ v0 v1 v2 v4 v5 v6 v7 v10 v12 s0 hv0 hf H locs ls V hl
  unfold b_X10_laysYears_141 at hf
  refine lv_istore (lv' := [(14, .int s0), (0, .ref (bl_ad g v0)), (1, .int v1), (2, .int v2), (4, .int v4), (5, .int v5), (6, .int v6), (7, .int v7), (10, .long v10), (12, .long v12)]) X.1 X.2.1 dX10_laysYears_141 hl (by decide) rfl (fun ls hl => ?_)
  refine lv_aload_n X.1 X.2.1 dX10_laysYears_143 rfl (lv_at hl 1 rfl) ?_
  refine bl_getr X V hv0 fl_X10_30 rfl dX10_laysYears_144 (fun h6 => ?_)
  refine lv_bipush (v := 8) X.1 X.2.1 dX10_laysYears_147 (by decide) ?_
  refine lv_iload X.1 X.2.1 dX10_laysYears_149 (lv_at hl 6 rfl) ?_
  refine lv_imul X.1 X.2.1 dX10_laysYears_151 ?_
  refine lv_iload X.1 X.2.1 dX10_laysYears_152 (lv_at hl 7 rfl) ?_
  refine lv_iadd X.1 X.2.1 dX10_laysYears_154 ?_
  refine lv_iload X.1 X.2.1 dX10_laysYears_155 (lv_at hl 0 rfl) ?_
  obtain ⟨h7, hf⟩ := bl_gd_at hf
  refine bl_zast (k := (Int32.toNatClampNeg ((8 * v6) + v7))) X V h6 h7 rfl dX10_laysYears_157 (fun σ8 H locs e9 V => ?_)
  have hf := bl_let_at e9 hf
  refine lv_aload_n X.1 X.2.1 dX10_laysYears_158 rfl (lv_at hl 1 rfl) ?_
  refine bl_getr X V hv0 fl_X10_26 rfl dX10_laysYears_159 (fun h10 => ?_)
  refine lv_bipush (v := 8) X.1 X.2.1 dX10_laysYears_162 (by decide) ?_
  refine lv_iload X.1 X.2.1 dX10_laysYears_164 (lv_at hl 6 rfl) ?_
  refine lv_imul X.1 X.2.1 dX10_laysYears_166 ?_
  refine lv_iload X.1 X.2.1 dX10_laysYears_167 (lv_at hl 7 rfl) ?_
  refine lv_iadd X.1 X.2.1 dX10_laysYears_169 ?_
  refine lv_iload X.1 X.2.1 dX10_laysYears_170 (lv_at hl 0 rfl) ?_
  refine lv_if_eq (tgt := 180) X.1 X.2.1 dX10_laysYears_172 (by decide) (fun c11 => ?_) (fun c11 => ?_)
  · have hf := bl_ifp c11 hf
    refine lv_lload X.1 X.2.1 dX10_laysYears_180 (lv_at hl 8 rfl) ?_
    exact w_X10_laysYears_182 X hr k41 hk41 σ8 v0 v1 v2 v4 v5 v6 v7 v10 ((8 * v6) + v7) (bl_R σ8 v0 7) hv0 h10 hf _ _ _ V (lv_sub hl [1, 2, 3, 4, 5, 6, 7] rfl)
  · have hf := bl_ifn c11 hf
    refine lv_lload X.1 X.2.1 dX10_laysYears_175 (lv_at hl 9 rfl) ?_
    refine lv_goto (tgt := 182) X.1 X.2.1 dX10_laysYears_177 (by decide) ?_
    exact w_X10_laysYears_182 X hr k41 hk41 σ8 v0 v1 v2 v4 v5 v6 v7 v12 ((8 * v6) + v7) (bl_R σ8 v0 7) hv0 h10 hf _ _ _ V (lv_sub hl [1, 2, 3, 4, 5, 6, 7] rfl)
set_option maxHeartbeats 4000000 in
set_option maxRecDepth 100000 in
theorem w_X10_laysYears_140 {p : Program} {l : Launch} {e : Env} {s : State} {m : MethodId} {below : List Frame} {meth : Method} {c : Code} {g : bl_Gp} {as : List Value} {out : Unit × bl_St} (X : bl_Cx g p s m as.toArray meth c cX10_laysYears 15 RX10) (hr : meth.sig.returnType = (Option.none : Option Jvm.ClassFile.FieldType)) (k41 : bl_St → Nat → Int32 → Int32 → Int32 → Int32 → Int32 → Int32 → Option (Unit × bl_St)) (hk41 : ∀ (σ : bl_St) (v0 : Nat) (v1 : Int32) (v2 : Int32) (v4 : Int32) (v5 : Int32) (v6 : Int32) (v7 : Int32), bl_sh[v0]? = some (10, 28) → k41 σ v0 v1 v2 v4 v5 v6 v7 = some out → ∀ (H : Heap) (locs : List Loc) (ls : Array Slot), bl_V g s σ H locs → lv_has ls 15 [(0, .ref (bl_ad g v0)), (1, .int v1), (2, .int v2), (4, .int v4), (5, .int v5), (6, .int v6), (7, .int v7)] → W p l e (bl_rm 6 150) s m as.toArray below meth c H locs 0 0 (bl_Qv below g s as out) (F0 m 41 ls [])) : ∀ (σ : bl_St) (v0 : Nat) (v1 : Int32) (v2 : Int32) (v4 : Int32) (v5 : Int32) (v6 : Int32) (v7 : Int32) (v10 : Int64) (v12 : Int64), bl_sh[v0]? = some (10, 28) → (b_X10_laysYears_140 k41) σ v0 v1 v2 v4 v5 v6 v7 v10 v12 = some out → ∀ (H : Heap) (locs : List Loc) (ls : Array Slot), bl_V g s σ H locs → lv_has ls 15 [(0, .ref (bl_ad g v0)), (1, .int v1), (2, .int v2), (4, .int v4), (5, .int v5), (6, .int v6), (7, .int v7), (10, .long v10), (12, .long v12)] → W p l e (bl_rm 6 150) s m as.toArray below meth c H locs 0 0 (bl_Qv below g s as out) (F0 m 140 ls []) := by
  intro σ v0 v1 v2 v4 v5 v6 v7 v10 v12 hv0 hf H locs ls V hl
  unfold b_X10_laysYears_140 at hf
  refine lv_iconst (v := 0) X.1 X.2.1 dX10_laysYears_140 (by decide) ?_
  exact w_X10_laysYears_141 X hr k41 hk41 σ v0 v1 v2 v4 v5 v6 v7 v10 v12 0 hv0 hf _ _ _ V (lv_sub hl [0, 1, 2, 3, 4, 5, 6, 7, 8] rfl)
set_option maxHeartbeats 4000000 in
set_option maxRecDepth 100000 in
theorem w_X10_laysYears_41 {p : Program} {l : Launch} {e : Env} {s : State} {m : MethodId} {below : List Frame} {meth : Method} {c : Code} {g : bl_Gp} {as : List Value} {out : Unit × bl_St} (X : bl_Cx g p s m as.toArray meth c cX10_laysYears 15 RX10) (hr : meth.sig.returnType = (Option.none : Option Jvm.ClassFile.FieldType)) (k32 : bl_St → Nat → Int32 → Int32 → Int32 → Int32 → Int32 → Option (Unit × bl_St)) (hk32 : ∀ (σ : bl_St) (v0 : Nat) (v1 : Int32) (v2 : Int32) (v4 : Int32) (v5 : Int32) (v6 : Int32), bl_sh[v0]? = some (10, 28) → k32 σ v0 v1 v2 v4 v5 v6 = some out → ∀ (H : Heap) (locs : List Loc) (ls : Array Slot), bl_V g s σ H locs → lv_has ls 15 [(0, .ref (bl_ad g v0)), (1, .int v1), (2, .int v2), (4, .int v4), (5, .int v5), (6, .int v6)] → W p l e (bl_rm 6 150) s m as.toArray below meth c H locs 0 0 (bl_Qv below g s as out) (F0 m 32 ls [])) (k41 : bl_St → Nat → Int32 → Int32 → Int32 → Int32 → Int32 → Int32 → Option (Unit × bl_St)) (hk41 : ∀ (σ : bl_St) (v0 : Nat) (v1 : Int32) (v2 : Int32) (v4 : Int32) (v5 : Int32) (v6 : Int32) (v7 : Int32), bl_sh[v0]? = some (10, 28) → k41 σ v0 v1 v2 v4 v5 v6 v7 = some out → ∀ (H : Heap) (locs : List Loc) (ls : Array Slot), bl_V g s σ H locs → lv_has ls 15 [(0, .ref (bl_ad g v0)), (1, .int v1), (2, .int v2), (4, .int v4), (5, .int v5), (6, .int v6), (7, .int v7)] → W p l e (bl_rm 6 150) s m as.toArray below meth c H locs 0 0 (bl_Qv below g s as out) (F0 m 41 ls [])) : ∀ (σ : bl_St) (v0 : Nat) (v1 : Int32) (v2 : Int32) (v4 : Int32) (v5 : Int32) (v6 : Int32) (v7 : Int32), bl_sh[v0]? = some (10, 28) → (b_X10_laysYears_41 k32 k41) σ v0 v1 v2 v4 v5 v6 v7 = some out → ∀ (H : Heap) (locs : List Loc) (ls : Array Slot), bl_V g s σ H locs → lv_has ls 15 [(0, .ref (bl_ad g v0)), (1, .int v1), (2, .int v2), (4, .int v4), (5, .int v5), (6, .int v6), (7, .int v7)] → W p l e (bl_rm 6 150) s m as.toArray below meth c H locs 0 0 (bl_Qv below g s as out) (F0 m 41 ls []) := by
  intro σ v0 v1 v2 v4 v5 v6 v7 hv0 hf H locs ls V hl
  unfold b_X10_laysYears_41 at hf
  refine lv_iload X.1 X.2.1 dX10_laysYears_41 (lv_at hl 6 rfl) ?_
  refine lv_aload_n X.1 X.2.1 dX10_laysYears_43 rfl (lv_at hl 0 rfl) ?_
  refine bl_getr X V hv0 fl_X10_13 rfl dX10_laysYears_44 (fun h12 => ?_)
  refine lv_iconst (v := 0) X.1 X.2.1 dX10_laysYears_47 (by decide) ?_
  refine bl_iald (k := 0) X V h12 (by decide) (by decide) dX10_laysYears_48 ?_
  refine lv_icmp_ge (tgt := 189) X.1 X.2.1 dX10_laysYears_49 (by decide) (fun c13 => ?_) (fun c13 => ?_)
  · have hf := bl_ifp c13 hf
    obtain ⟨x14, e15⟩ : ∃ z : Int32, z = v6 + 1 := ⟨_, rfl⟩
    have hf := bl_let_at e15 hf
    refine lv_iinc (v := x14) (lv' := [(6, .int x14), (0, .ref (bl_ad g v0)), (1, .int v1), (2, .int v2), (4, .int v4), (5, .int v5), (7, .int v7)]) X.1 X.2.1 dX10_laysYears_189 hl (k := 5) rfl (by rw [e15]; rfl) (by decide) rfl (fun ls hl => ?_)
    refine lv_goto (tgt := 32) X.1 X.2.1 dX10_laysYears_192 (by decide) ?_
    exact hk32 σ v0 v1 v2 v4 v5 x14 hv0 hf _ _ _ V (lv_sub hl [1, 2, 3, 4, 5, 0] rfl)
  · have hf := bl_ifn c13 hf
    refine lv_aload_n X.1 X.2.1 dX10_laysYears_52 rfl (lv_at hl 0 rfl) ?_
    refine lv_iload X.1 X.2.1 dX10_laysYears_53 (lv_at hl 5 rfl) ?_
    refine lv_iload X.1 X.2.1 dX10_laysYears_55 (lv_at hl 6 rfl) ?_
    obtain ⟨r16, σ17, h18, hf⟩ := bl_bd_at hf
    refine bl_cVv (As := [.int v6, .int v7]) X V hl.1 hv0 rfl ml_X10_152 mV_X10_laysChances (t_X10_laysChances l g σ v0 v6 v7 _ hv0 h18) rfl rfl ⟨Nat.le_of_ble_eq_true rfl, Nat.le_of_ble_eq_true rfl⟩ rfl rfl (Nat.le_of_ble_eq_true rfl) ⟨Nat.zero_le _, Nat.zero_le _⟩ dX10_laysYears_57 (fun H locs V => ?_)
    refine lv_iload X.1 X.2.1 dX10_laysYears_60 (lv_at hl 3 rfl) ?_
    refine lv_i2l X.1 X.2.1 dX10_laysYears_62 rfl ?_
    refine lv_aload_n X.1 X.2.1 dX10_laysYears_63 rfl (lv_at hl 0 rfl) ?_
    refine lv_iload X.1 X.2.1 dX10_laysYears_64 (lv_at hl 6 rfl) ?_
    refine lv_iconst (v := 0) X.1 X.2.1 dX10_laysYears_66 (by decide) ?_
    obtain ⟨r19, σ20, h21, hf⟩ := bl_bd_at hf
    refine bl_cVi (As := [.int v7, .int 0]) X V hl.1 hv0 rfl ml_X10_74 mV_X10_ofClass (t_X10_ofClass l g σ17 v0 v7 0 _ hv0 h21) rfl rfl ⟨Nat.le_of_ble_eq_true rfl, Nat.le_of_ble_eq_true rfl⟩ rfl rfl (Nat.le_of_ble_eq_true rfl) ⟨Nat.zero_le _, Nat.zero_le _⟩ dX10_laysYears_67 (fun H locs V => ?_)
    refine lv_i2l X.1 X.2.1 dX10_laysYears_70 rfl ?_
    refine lv_lmul X.1 X.2.1 dX10_laysYears_71 ?_
    refine lv_ldc2 (v := 1000) X.1 X.2.1 X.2.2.2.1 (X.2.2.2.2.1 _ kl_X10_179) dX10_laysYears_72 ?_
    refine lv_lmul X.1 X.2.1 dX10_laysYears_75 ?_
    refine lv_topl (fun x22 e23 => ?_)
    have hf := bl_let_at e23 hf
    refine lv_lstore (lv' := [(8, .long x22), (0, .ref (bl_ad g v0)), (1, .int v1), (2, .int v2), (4, .int v4), (5, .int v5), (6, .int v6), (7, .int v7)]) X.1 X.2.1 dX10_laysYears_76 hl (by decide) rfl (fun ls hl => ?_)
    refine lv_lload X.1 X.2.1 dX10_laysYears_78 (lv_at hl 0 rfl) ?_
    refine lv_lload X.1 X.2.1 dX10_laysYears_80 (lv_at hl 0 rfl) ?_
    refine lv_iload X.1 X.2.1 dX10_laysYears_82 (lv_at hl 5 rfl) ?_
    refine lv_i2l X.1 X.2.1 dX10_laysYears_84 rfl ?_
    refine lv_lmul X.1 X.2.1 dX10_laysYears_85 ?_
    refine lv_ldc2 (v := 100) X.1 X.2.1 X.2.2.2.1 (X.2.2.2.2.1 _ kl_X10_221) dX10_laysYears_86 ?_
    refine lv_ldiv X.1 X.2.1 dX10_laysYears_89 (by decide) ?_
    refine lv_lsub X.1 X.2.1 dX10_laysYears_90 ?_
    refine lv_aload_n X.1 X.2.1 dX10_laysYears_91 rfl (lv_at hl 1 rfl) ?_
    refine bl_getr X V hv0 fl_X10_34 rfl dX10_laysYears_92 (fun h24 => ?_)
    refine lv_iconst (v := 0) X.1 X.2.1 dX10_laysYears_95 (by decide) ?_
    refine bl_lald (k := 0) X V h24 (by decide) (by decide) dX10_laysYears_96 ?_
    refine lv_ladd X.1 X.2.1 dX10_laysYears_97 ?_
    refine lv_topl (fun x25 e26 => ?_)
    have hf := bl_let_at e26 hf
    refine lv_lstore (lv' := [(10, .long x25), (8, .long x22), (0, .ref (bl_ad g v0)), (1, .int v1), (2, .int v2), (4, .int v4), (5, .int v5), (6, .int v6), (7, .int v7)]) X.1 X.2.1 dX10_laysYears_98 hl (by decide) rfl (fun ls hl => ?_)
    refine lv_lload X.1 X.2.1 dX10_laysYears_100 (lv_at hl 1 rfl) ?_
    refine lv_aload_n X.1 X.2.1 dX10_laysYears_102 rfl (lv_at hl 2 rfl) ?_
    refine lv_iload X.1 X.2.1 dX10_laysYears_103 (lv_at hl 8 rfl) ?_
    refine lv_iconst (v := 4) X.1 X.2.1 dX10_laysYears_105 (by decide) ?_
    obtain ⟨r27, σ28, h29, hf⟩ := bl_bd_at hf
    refine bl_cVi (As := [.int v7, .int 4]) X V hl.1 hv0 rfl ml_X10_74 mV_X10_ofClass (t_X10_ofClass l g σ20 v0 v7 4 _ hv0 h29) rfl rfl ⟨Nat.le_of_ble_eq_true rfl, Nat.le_of_ble_eq_true rfl⟩ rfl rfl (Nat.le_of_ble_eq_true rfl) ⟨Nat.zero_le _, Nat.zero_le _⟩ dX10_laysYears_106 (fun H locs V => ?_)
    refine lv_i2l X.1 X.2.1 dX10_laysYears_109 rfl ?_
    refine lv_ldc2 (v := 1000) X.1 X.2.1 X.2.2.2.1 (X.2.2.2.2.1 _ kl_X10_179) dX10_laysYears_110 ?_
    refine lv_lmul X.1 X.2.1 dX10_laysYears_113 ?_
    refine lv_ladd X.1 X.2.1 dX10_laysYears_114 ?_
    refine lv_aload_n X.1 X.2.1 dX10_laysYears_115 rfl (lv_at hl 2 rfl) ?_
    refine bl_getr X V hv0 fl_X10_34 rfl dX10_laysYears_116 (fun h30 => ?_)
    refine lv_iconst (v := 1) X.1 X.2.1 dX10_laysYears_119 (by decide) ?_
    refine bl_lald (k := 1) X V h30 (by decide) (by decide) dX10_laysYears_120 ?_
    refine lv_ladd X.1 X.2.1 dX10_laysYears_121 ?_
    refine lv_topl (fun x31 e32 => ?_)
    have hf := bl_let_at e32 hf
    refine lv_lstore (lv' := [(12, .long x31), (10, .long x25), (8, .long x22), (0, .ref (bl_ad g v0)), (1, .int v1), (2, .int v2), (4, .int v4), (5, .int v5), (6, .int v6), (7, .int v7)]) X.1 X.2.1 dX10_laysYears_122 hl (by decide) rfl (fun ls hl => ?_)
    refine lv_iload_n X.1 X.2.1 dX10_laysYears_124 rfl (lv_at hl 5 rfl) ?_
    refine lv_if_eq (tgt := 140) X.1 X.2.1 dX10_laysYears_125 (by decide) (fun c33 => ?_) (fun c33 => ?_)
    · have hf := bl_ifp c33 hf
      exact w_X10_laysYears_140 X hr k41 hk41 σ28 v0 v1 v2 v4 v5 v6 v7 x25 x31 hv0 hf _ _ _ V (lv_sub hl [3, 4, 5, 6, 7, 8, 9, 1, 0] rfl)
    · have hf := bl_ifn c33 hf
      refine lv_lload X.1 X.2.1 dX10_laysYears_128 (lv_at hl 0 rfl) ?_
      refine lv_lload X.1 X.2.1 dX10_laysYears_130 (lv_at hl 1 rfl) ?_
      refine bl_lc_ge (tgt := 140) X dX10_laysYears_132 dX10_laysYears_133 (by decide) (fun c34 => ?_) (fun c34 => ?_)
      · have hf := bl_ifp c34 hf
        exact w_X10_laysYears_140 X hr k41 hk41 σ28 v0 v1 v2 v4 v5 v6 v7 x25 x31 hv0 hf _ _ _ V (lv_sub hl [3, 4, 5, 6, 7, 8, 9, 1, 0] rfl)
      · have hf := bl_ifn c34 hf
        refine lv_iconst (v := 1) X.1 X.2.1 dX10_laysYears_136 (by decide) ?_
        refine lv_goto (tgt := 141) X.1 X.2.1 dX10_laysYears_137 (by decide) ?_
        exact w_X10_laysYears_141 X hr k41 hk41 σ28 v0 v1 v2 v4 v5 v6 v7 x25 x31 1 hv0 hf _ _ _ V (lv_sub hl [3, 4, 5, 6, 7, 8, 9, 1, 0] rfl)
theorem l_X10_laysYears_41 {p : Program} {l : Launch} {e : Env} {s : State} {m : MethodId} {below : List Frame} {meth : Method} {c : Code} {g : bl_Gp} {as : List Value} {out : Unit × bl_St} (X : bl_Cx g p s m as.toArray meth c cX10_laysYears 15 RX10) (hr : meth.sig.returnType = (Option.none : Option Jvm.ClassFile.FieldType)) (k32 : bl_St → Nat → Int32 → Int32 → Int32 → Int32 → Int32 → Option (Unit × bl_St)) (hk32 : ∀ (σ : bl_St) (v0 : Nat) (v1 : Int32) (v2 : Int32) (v4 : Int32) (v5 : Int32) (v6 : Int32), bl_sh[v0]? = some (10, 28) → k32 σ v0 v1 v2 v4 v5 v6 = some out → ∀ (H : Heap) (locs : List Loc) (ls : Array Slot), bl_V g s σ H locs → lv_has ls 15 [(0, .ref (bl_ad g v0)), (1, .int v1), (2, .int v2), (4, .int v4), (5, .int v5), (6, .int v6)] → W p l e (bl_rm 6 150) s m as.toArray below meth c H locs 0 0 (bl_Qv below g s as out) (F0 m 32 ls [])) (n : Nat) : ∀ (σ : bl_St) (v0 : Nat) (v1 : Int32) (v2 : Int32) (v4 : Int32) (v5 : Int32) (v6 : Int32) (v7 : Int32), bl_sh[v0]? = some (10, 28) → (bl_fx (fun _ _ _ _ _ _ _ _ => none) (b_X10_laysYears_41 k32) n) σ v0 v1 v2 v4 v5 v6 v7 = some out → ∀ (H : Heap) (locs : List Loc) (ls : Array Slot), bl_V g s σ H locs → lv_has ls 15 [(0, .ref (bl_ad g v0)), (1, .int v1), (2, .int v2), (4, .int v4), (5, .int v5), (6, .int v6), (7, .int v7)] → W p l e (bl_rm 6 150) s m as.toArray below meth c H locs 0 0 (bl_Qv below g s as out) (F0 m 41 ls []) := by
  induction n with
  | zero =>
    intro σ v0 v1 v2 v4 v5 v6 v7 hv0 hf H locs ls V hl
    cases hf
  | succ n ih => exact w_X10_laysYears_41 X hr k32 hk32 _ ih
set_option maxHeartbeats 4000000 in
set_option maxRecDepth 100000 in
theorem w_X10_laysYears_32 {p : Program} {l : Launch} {e : Env} {s : State} {m : MethodId} {below : List Frame} {meth : Method} {c : Code} {g : bl_Gp} {as : List Value} {out : Unit × bl_St} (X : bl_Cx g p s m as.toArray meth c cX10_laysYears 15 RX10) (hr : meth.sig.returnType = (Option.none : Option Jvm.ClassFile.FieldType)) (k32 : bl_St → Nat → Int32 → Int32 → Int32 → Int32 → Int32 → Option (Unit × bl_St)) (hk32 : ∀ (σ : bl_St) (v0 : Nat) (v1 : Int32) (v2 : Int32) (v4 : Int32) (v5 : Int32) (v6 : Int32), bl_sh[v0]? = some (10, 28) → k32 σ v0 v1 v2 v4 v5 v6 = some out → ∀ (H : Heap) (locs : List Loc) (ls : Array Slot), bl_V g s σ H locs → lv_has ls 15 [(0, .ref (bl_ad g v0)), (1, .int v1), (2, .int v2), (4, .int v4), (5, .int v5), (6, .int v6)] → W p l e (bl_rm 6 150) s m as.toArray below meth c H locs 0 0 (bl_Qv below g s as out) (F0 m 32 ls [])) : ∀ (σ : bl_St) (v0 : Nat) (v1 : Int32) (v2 : Int32) (v4 : Int32) (v5 : Int32) (v6 : Int32), bl_sh[v0]? = some (10, 28) → (b_X10_laysYears_32 k32) σ v0 v1 v2 v4 v5 v6 = some out → ∀ (H : Heap) (locs : List Loc) (ls : Array Slot), bl_V g s σ H locs → lv_has ls 15 [(0, .ref (bl_ad g v0)), (1, .int v1), (2, .int v2), (4, .int v4), (5, .int v5), (6, .int v6)] → W p l e (bl_rm 6 150) s m as.toArray below meth c H locs 0 0 (bl_Qv below g s as out) (F0 m 32 ls []) := by
  intro σ v0 v1 v2 v4 v5 v6 hv0 hf H locs ls V hl
  unfold b_X10_laysYears_32 at hf
  refine lv_iload X.1 X.2.1 dX10_laysYears_32 (lv_at hl 5 rfl) ?_
  refine lv_iload_n X.1 X.2.1 dX10_laysYears_34 rfl (lv_at hl 1 rfl) ?_
  refine lv_icmp_gt (tgt := 195) X.1 X.2.1 dX10_laysYears_35 (by decide) (fun c35 => ?_) (fun c35 => ?_)
  · have hf := bl_ifp c35 hf
    exact bl_retv X V hr hf dX10_laysYears_195
  · have hf := bl_ifn c35 hf
    refine lv_iconst (v := 0) X.1 X.2.1 dX10_laysYears_38 (by decide) ?_
    refine lv_istore (lv' := [(7, .int 0), (0, .ref (bl_ad g v0)), (1, .int v1), (2, .int v2), (4, .int v4), (5, .int v5), (6, .int v6)]) X.1 X.2.1 dX10_laysYears_39 hl (by decide) rfl (fun ls hl => ?_)
    exact l_X10_laysYears_41 X hr k32 hk32 bl_fu σ v0 v1 v2 v4 v5 v6 0 hv0 hf _ _ _ V (lv_sub hl [1, 2, 3, 4, 5, 6, 0] rfl)
theorem l_X10_laysYears_32 {p : Program} {l : Launch} {e : Env} {s : State} {m : MethodId} {below : List Frame} {meth : Method} {c : Code} {g : bl_Gp} {as : List Value} {out : Unit × bl_St} (X : bl_Cx g p s m as.toArray meth c cX10_laysYears 15 RX10) (hr : meth.sig.returnType = (Option.none : Option Jvm.ClassFile.FieldType)) (n : Nat) : ∀ (σ : bl_St) (v0 : Nat) (v1 : Int32) (v2 : Int32) (v4 : Int32) (v5 : Int32) (v6 : Int32), bl_sh[v0]? = some (10, 28) → (bl_fx (fun _ _ _ _ _ _ _ => none) (b_X10_laysYears_32 ) n) σ v0 v1 v2 v4 v5 v6 = some out → ∀ (H : Heap) (locs : List Loc) (ls : Array Slot), bl_V g s σ H locs → lv_has ls 15 [(0, .ref (bl_ad g v0)), (1, .int v1), (2, .int v2), (4, .int v4), (5, .int v5), (6, .int v6)] → W p l e (bl_rm 6 150) s m as.toArray below meth c H locs 0 0 (bl_Qv below g s as out) (F0 m 32 ls []) := by
  induction n with
  | zero =>
    intro σ v0 v1 v2 v4 v5 v6 hv0 hf H locs ls V hl
    cases hf
  | succ n ih => exact w_X10_laysYears_32 X hr  _ ih
set_option maxHeartbeats 4000000 in
set_option maxRecDepth 100000 in
theorem w_X10_laysYears_8 {p : Program} {l : Launch} {e : Env} {s : State} {m : MethodId} {below : List Frame} {meth : Method} {c : Code} {g : bl_Gp} {as : List Value} {out : Unit × bl_St} (X : bl_Cx g p s m as.toArray meth c cX10_laysYears 15 RX10) (hr : meth.sig.returnType = (Option.none : Option Jvm.ClassFile.FieldType)) (k8 : bl_St → Nat → Int32 → Int32 → Int32 → Int32 → Int32 → Option (Unit × bl_St)) (hk8 : ∀ (σ : bl_St) (v0 : Nat) (v1 : Int32) (v2 : Int32) (v4 : Int32) (v5 : Int32) (v6 : Int32), bl_sh[v0]? = some (10, 28) → k8 σ v0 v1 v2 v4 v5 v6 = some out → ∀ (H : Heap) (locs : List Loc) (ls : Array Slot), bl_V g s σ H locs → lv_has ls 15 [(0, .ref (bl_ad g v0)), (1, .int v1), (2, .int v2), (4, .int v4), (5, .int v5), (6, .int v6)] → W p l e (bl_rm 6 150) s m as.toArray below meth c H locs 0 0 (bl_Qv below g s as out) (F0 m 8 ls [])) : ∀ (σ : bl_St) (v0 : Nat) (v1 : Int32) (v2 : Int32) (v4 : Int32) (v5 : Int32) (v6 : Int32), bl_sh[v0]? = some (10, 28) → (b_X10_laysYears_8 k8) σ v0 v1 v2 v4 v5 v6 = some out → ∀ (H : Heap) (locs : List Loc) (ls : Array Slot), bl_V g s σ H locs → lv_has ls 15 [(0, .ref (bl_ad g v0)), (1, .int v1), (2, .int v2), (4, .int v4), (5, .int v5), (6, .int v6)] → W p l e (bl_rm 6 150) s m as.toArray below meth c H locs 0 0 (bl_Qv below g s as out) (F0 m 8 ls []) := by
  intro σ v0 v1 v2 v4 v5 v6 hv0 hf H locs ls V hl
  unfold b_X10_laysYears_8 at hf
  refine lv_iload X.1 X.2.1 dX10_laysYears_8 (lv_at hl 5 rfl) ?_
  refine lv_bipush (v := 8) X.1 X.2.1 dX10_laysYears_10 (by decide) ?_
  refine lv_icmp_ge (tgt := 29) X.1 X.2.1 dX10_laysYears_12 (by decide) (fun c36 => ?_) (fun c36 => ?_)
  · have hf := bl_ifp c36 hf
    refine lv_iconst (v := 1) X.1 X.2.1 dX10_laysYears_29 (by decide) ?_
    refine lv_istore (lv' := [(6, .int 1), (0, .ref (bl_ad g v0)), (1, .int v1), (2, .int v2), (4, .int v4), (5, .int v5)]) X.1 X.2.1 dX10_laysYears_30 hl (by decide) rfl (fun ls hl => ?_)
    exact l_X10_laysYears_32 X hr  bl_fu σ v0 v1 v2 v4 v5 1 hv0 hf _ _ _ V (lv_sub hl [1, 2, 3, 4, 5, 0] rfl)
  · have hf := bl_ifn c36 hf
    refine lv_aload_n X.1 X.2.1 dX10_laysYears_15 rfl (lv_at hl 0 rfl) ?_
    refine bl_getr X V hv0 fl_X10_26 rfl dX10_laysYears_16 (fun h37 => ?_)
    refine lv_iload X.1 X.2.1 dX10_laysYears_19 (lv_at hl 5 rfl) ?_
    refine lv_lconst (v := 0) X.1 X.2.1 dX10_laysYears_21 (by decide) ?_
    obtain ⟨h38, hf⟩ := bl_gd_at hf
    refine bl_last (k := (Int32.toNatClampNeg v6)) X V h37 h38 rfl dX10_laysYears_22 (fun σ39 H locs e40 V => ?_)
    have hf := bl_let_at e40 hf
    obtain ⟨x41, e42⟩ : ∃ z : Int32, z = v6 + 1 := ⟨_, rfl⟩
    have hf := bl_let_at e42 hf
    refine lv_iinc (v := x41) (lv' := [(6, .int x41), (0, .ref (bl_ad g v0)), (1, .int v1), (2, .int v2), (4, .int v4), (5, .int v5)]) X.1 X.2.1 dX10_laysYears_23 hl (k := 5) rfl (by rw [e42]; rfl) (by decide) rfl (fun ls hl => ?_)
    refine lv_goto (tgt := 8) X.1 X.2.1 dX10_laysYears_26 (by decide) ?_
    exact hk8 σ39 v0 v1 v2 v4 v5 x41 hv0 hf _ _ _ V (lv_sub hl [1, 2, 3, 4, 5, 0] rfl)
theorem l_X10_laysYears_8 {p : Program} {l : Launch} {e : Env} {s : State} {m : MethodId} {below : List Frame} {meth : Method} {c : Code} {g : bl_Gp} {as : List Value} {out : Unit × bl_St} (X : bl_Cx g p s m as.toArray meth c cX10_laysYears 15 RX10) (hr : meth.sig.returnType = (Option.none : Option Jvm.ClassFile.FieldType)) (n : Nat) : ∀ (σ : bl_St) (v0 : Nat) (v1 : Int32) (v2 : Int32) (v4 : Int32) (v5 : Int32) (v6 : Int32), bl_sh[v0]? = some (10, 28) → (bl_fx (fun _ _ _ _ _ _ _ => none) (b_X10_laysYears_8 ) n) σ v0 v1 v2 v4 v5 v6 = some out → ∀ (H : Heap) (locs : List Loc) (ls : Array Slot), bl_V g s σ H locs → lv_has ls 15 [(0, .ref (bl_ad g v0)), (1, .int v1), (2, .int v2), (4, .int v4), (5, .int v5), (6, .int v6)] → W p l e (bl_rm 6 150) s m as.toArray below meth c H locs 0 0 (bl_Qv below g s as out) (F0 m 8 ls []) := by
  induction n with
  | zero =>
    intro σ v0 v1 v2 v4 v5 v6 hv0 hf H locs ls V hl
    cases hf
  | succ n ih => exact w_X10_laysYears_8 X hr  _ ih
set_option maxHeartbeats 4000000 in
set_option maxRecDepth 100000 in
theorem t_X10_laysYears (l : Launch) (g : bl_Gp) (σ : bl_St) (a0 : Nat) (a1 : Int32) (a2 : Int32) (a3 : Int32) (a4 : Int32) (a5 : Int32) (o : Unit × bl_St) (ha0 : bl_sh[a0]? = some (10, 28)) (hf : f_X10_laysYears σ a0 a1 a2 a3 a4 a5 = some o) : bl_Cv l g yX10_laysYears cX10_laysYears 15 (Option.none : Option Jvm.ClassFile.FieldType) (bl_rm 6 150) [.ref (bl_ad g a0), .int a1, .int a2, .int a3, .int a4, .int a5] σ o := by
  refine bl_met (by decide) (Nat.le_of_ble_eq_true rfl) (fun p e s m below meth c ls X hr V hl => ?_)
  have hl : lv_has ls 15 [(0, .ref (bl_ad g a0)), (1, .int a1), (2, .int a2), (3, .int a3), (4, .int a4), (5, .int a5)] := hl
  unfold f_X10_laysYears at hf
  refine lv_aload_n X.1 X.2.1 dX10_laysYears_0 rfl (lv_at hl 0 rfl) ?_
  refine lv_iload_n X.1 X.2.1 dX10_laysYears_1 rfl (lv_at hl 3 rfl) ?_
  refine bl_puti X V ha0 fp_X10_214 rfl rfl dX10_laysYears_2 (fun σ43 H locs e44 V => ?_)
  have hf := bl_let_at e44 hf
  refine lv_iconst (v := 0) X.1 X.2.1 dX10_laysYears_5 (by decide) ?_
  refine lv_istore (lv' := [(6, .int 0), (0, .ref (bl_ad g a0)), (1, .int a1), (2, .int a2), (3, .int a3), (4, .int a4), (5, .int a5)]) X.1 X.2.1 dX10_laysYears_6 hl (by decide) rfl (fun ls hl => ?_)
  exact l_X10_laysYears_8 X hr  bl_fu σ43 a0 a1 a2 a4 a5 0 ha0 hf _ _ _ V (lv_sub hl [1, 2, 3, 5, 6, 0] rfl)
set_option maxHeartbeats 4000000 in
set_option maxRecDepth 100000 in
theorem t_X10_lays (l : Launch) (g : bl_Gp) (σ : bl_St) (a0 : Nat) (a1 : Int32) (a2 : Int32) (a3 : Int32) (a4 : Int32) (o : Unit × bl_St) (ha0 : bl_sh[a0]? = some (10, 28)) (hf : f_X10_lays σ a0 a1 a2 a3 a4 = some o) : bl_Cv l g yX10_lays cX10_lays 5 (Option.none : Option Jvm.ClassFile.FieldType) (bl_rm 7 184) [.ref (bl_ad g a0), .int a1, .int a2, .int a3, .int a4] σ o := by
  refine bl_met (by decide) (Nat.le_of_ble_eq_true rfl) (fun p e s m below meth c ls X hr V hl => ?_)
  have hl : lv_has ls 5 [(0, .ref (bl_ad g a0)), (1, .int a1), (2, .int a2), (3, .int a3), (4, .int a4)] := hl
  unfold f_X10_lays at hf
  refine lv_aload_n X.1 X.2.1 dX10_lays_0 rfl (lv_at hl 0 rfl) ?_
  refine lv_iload_n X.1 X.2.1 dX10_lays_1 rfl (lv_at hl 3 rfl) ?_
  refine bl_puti X V ha0 fp_X10_191 rfl rfl dX10_lays_2 (fun σ1 H locs e2 V => ?_)
  have hf := bl_let_at e2 hf
  refine lv_aload_n X.1 X.2.1 dX10_lays_5 rfl (lv_at hl 0 rfl) ?_
  refine lv_iload X.1 X.2.1 dX10_lays_6 (lv_at hl 4 rfl) ?_
  refine bl_puti X V ha0 fp_X10_194 rfl rfl dX10_lays_8 (fun σ3 H locs e4 V => ?_)
  have hf := bl_let_at e4 hf
  refine lv_aload_n X.1 X.2.1 dX10_lays_11 rfl (lv_at hl 0 rfl) ?_
  refine lv_iconst (v := 0) X.1 X.2.1 dX10_lays_12 (by decide) ?_
  refine bl_puti X V ha0 fp_X10_197 rfl rfl dX10_lays_13 (fun σ5 H locs e6 V => ?_)
  have hf := bl_let_at e6 hf
  refine lv_aload_n X.1 X.2.1 dX10_lays_16 rfl (lv_at hl 0 rfl) ?_
  refine lv_iload_n X.1 X.2.1 dX10_lays_17 rfl (lv_at hl 1 rfl) ?_
  refine lv_iload_n X.1 X.2.1 dX10_lays_18 rfl (lv_at hl 2 rfl) ?_
  refine lv_aload_n X.1 X.2.1 dX10_lays_19 rfl (lv_at hl 0 rfl) ?_
  refine bl_getr X V ha0 fl_X10_13 rfl dX10_lays_20 (fun h7 => ?_)
  refine lv_iconst (v := 2) X.1 X.2.1 dX10_lays_23 (by decide) ?_
  refine bl_iald (k := 2) X V h7 (by decide) (by decide) dX10_lays_24 ?_
  refine lv_iconst (v := 1) X.1 X.2.1 dX10_lays_25 (by decide) ?_
  refine lv_iconst (v := 0) X.1 X.2.1 dX10_lays_26 (by decide) ?_
  obtain ⟨r8, σ9, h10, hf⟩ := bl_bd_at hf
  refine bl_cVv (As := [.int a1, .int a2, .int (bl_I σ5 (bl_R σ5 a0 1) 2), .int 1, .int 0]) X V hl.1 ha0 rfl ml_X10_223 mV_X10_laysYears (t_X10_laysYears l g σ5 a0 a1 a2 (bl_I σ5 (bl_R σ5 a0 1) 2) 1 0 _ ha0 h10) rfl rfl ⟨Nat.le_of_ble_eq_true rfl, Nat.le_of_ble_eq_true rfl⟩ rfl rfl (Nat.le_of_ble_eq_true rfl) ⟨Nat.zero_le _, Nat.zero_le _⟩ dX10_lays_27 (fun H locs V => ?_)
  exact bl_retv X V hr hf dX10_lays_30
set_option maxHeartbeats 4000000 in
set_option maxRecDepth 100000 in
theorem w_X10_lives_186 {p : Program} {l : Launch} {e : Env} {s : State} {m : MethodId} {below : List Frame} {meth : Method} {c : Code} {g : bl_Gp} {as : List Value} {out : Unit × bl_St} (X : bl_Cx g p s m as.toArray meth c cX10_lives 11 RX10) (hr : meth.sig.returnType = (Option.none : Option Jvm.ClassFile.FieldType)) (k66 : bl_St → Nat → Int32 → Int32 → Int32 → Int32 → Int32 → Option (Unit × bl_St)) (hk66 : ∀ (σ : bl_St) (v0 : Nat) (v2 : Int32) (v3 : Int32) (v5 : Int32) (v6 : Int32) (v7 : Int32), bl_sh[v0]? = some (10, 28) → k66 σ v0 v2 v3 v5 v6 v7 = some out → ∀ (H : Heap) (locs : List Loc) (ls : Array Slot), bl_V g s σ H locs → lv_has ls 11 [(0, .ref (bl_ad g v0)), (2, .int v2), (3, .int v3), (5, .int v5), (6, .int v6), (7, .int v7)] → W p l e (bl_rm 8 208) s m as.toArray below meth c H locs 0 0 (bl_Qv below g s as out) (F0 m 66 ls [])) : ∀ (σ : bl_St) (v0 : Nat) (v2 : Int32) (v3 : Int32) (v5 : Int32) (v6 : Int32) (v7 : Int32), bl_sh[v0]? = some (10, 28) → (b_X10_lives_186 k66) σ v0 v2 v3 v5 v6 v7 = some out → ∀ (H : Heap) (locs : List Loc) (ls : Array Slot), bl_V g s σ H locs → lv_has ls 11 [(0, .ref (bl_ad g v0)), (2, .int v2), (3, .int v3), (5, .int v5), (6, .int v6), (7, .int v7)] → W p l e (bl_rm 8 208) s m as.toArray below meth c H locs 0 0 (bl_Qv below g s as out) (F0 m 186 ls []) := by
  intro σ v0 v2 v3 v5 v6 v7 hv0 hf H locs ls V hl
  unfold b_X10_lives_186 at hf
  obtain ⟨x1, e2⟩ : ∃ z : Int32, z = v7 + 1 := ⟨_, rfl⟩
  have hf := bl_let_at e2 hf
  refine lv_iinc (v := x1) (lv' := [(7, .int x1), (0, .ref (bl_ad g v0)), (2, .int v2), (3, .int v3), (5, .int v5), (6, .int v6)]) X.1 X.2.1 dX10_lives_186 hl (k := 5) rfl (by rw [e2]; rfl) (by decide) rfl (fun ls hl => ?_)
  refine lv_goto (tgt := 66) X.1 X.2.1 dX10_lives_189 (by decide) ?_
  exact hk66 σ v0 v2 v3 v5 v6 x1 hv0 hf _ _ _ V (lv_sub hl [1, 2, 3, 4, 5, 0] rfl)
set_option maxHeartbeats 4000000 in
set_option maxRecDepth 100000 in
theorem w_X10_lives_176 {p : Program} {l : Launch} {e : Env} {s : State} {m : MethodId} {below : List Frame} {meth : Method} {c : Code} {g : bl_Gp} {as : List Value} {out : Unit × bl_St} (X : bl_Cx g p s m as.toArray meth c cX10_lives 11 RX10) (hr : meth.sig.returnType = (Option.none : Option Jvm.ClassFile.FieldType)) (k66 : bl_St → Nat → Int32 → Int32 → Int32 → Int32 → Int32 → Option (Unit × bl_St)) (hk66 : ∀ (σ : bl_St) (v0 : Nat) (v2 : Int32) (v3 : Int32) (v5 : Int32) (v6 : Int32) (v7 : Int32), bl_sh[v0]? = some (10, 28) → k66 σ v0 v2 v3 v5 v6 v7 = some out → ∀ (H : Heap) (locs : List Loc) (ls : Array Slot), bl_V g s σ H locs → lv_has ls 11 [(0, .ref (bl_ad g v0)), (2, .int v2), (3, .int v3), (5, .int v5), (6, .int v6), (7, .int v7)] → W p l e (bl_rm 8 208) s m as.toArray below meth c H locs 0 0 (bl_Qv below g s as out) (F0 m 66 ls [])) : ∀ (σ : bl_St) (v0 : Nat) (v2 : Int32) (v3 : Int32) (v5 : Int32) (v6 : Int32) (v7 : Int32) (v8 : Int32) (v9 : Int32), bl_sh[v0]? = some (10, 28) → (b_X10_lives_176 k66) σ v0 v2 v3 v5 v6 v7 v8 v9 = some out → ∀ (H : Heap) (locs : List Loc) (ls : Array Slot), bl_V g s σ H locs → lv_has ls 11 [(0, .ref (bl_ad g v0)), (2, .int v2), (3, .int v3), (5, .int v5), (6, .int v6), (7, .int v7), (8, .int v8), (9, .int v9)] → W p l e (bl_rm 8 208) s m as.toArray below meth c H locs 0 0 (bl_Qv below g s as out) (F0 m 176 ls []) := by
  intro σ v0 v2 v3 v5 v6 v7 v8 v9 hv0 hf H locs ls V hl
  unfold b_X10_lives_176 at hf
  refine lv_aload_n X.1 X.2.1 dX10_lives_176 rfl (lv_at hl 0 rfl) ?_
  refine lv_iload X.1 X.2.1 dX10_lives_177 (lv_at hl 6 rfl) ?_
  refine lv_iload X.1 X.2.1 dX10_lives_179 (lv_at hl 7 rfl) ?_
  obtain ⟨r3, σ4, h5, hf⟩ := bl_bd_at hf
  refine bl_cVi (As := [.int v8, .int v9]) X V hl.1 hv0 rfl ml_X10_127 mV_X10_loses (t_X10_loses l g σ v0 v8 v9 _ hv0 h5) rfl rfl ⟨Nat.le_of_ble_eq_true rfl, Nat.le_of_ble_eq_true rfl⟩ rfl rfl (Nat.le_of_ble_eq_true rfl) ⟨Nat.zero_le _, Nat.zero_le _⟩ dX10_lives_181 (fun H locs V => ?_)
  refine lv_istore (lv' := [(10, .int r3), (0, .ref (bl_ad g v0)), (2, .int v2), (3, .int v3), (5, .int v5), (6, .int v6), (7, .int v7), (8, .int v8), (9, .int v9)]) X.1 X.2.1 dX10_lives_184 hl (by decide) rfl (fun ls hl => ?_)
  exact w_X10_lives_186 X hr k66 hk66 σ4 v0 v2 v3 v5 v6 v7 hv0 hf _ _ _ V (lv_sub hl [1, 2, 3, 4, 5, 6] rfl)
set_option maxHeartbeats 4000000 in
set_option maxRecDepth 100000 in
theorem w_X10_lives_174 {p : Program} {l : Launch} {e : Env} {s : State} {m : MethodId} {below : List Frame} {meth : Method} {c : Code} {g : bl_Gp} {as : List Value} {out : Unit × bl_St} (X : bl_Cx g p s m as.toArray meth c cX10_lives 11 RX10) (hr : meth.sig.returnType = (Option.none : Option Jvm.ClassFile.FieldType)) (k66 : bl_St → Nat → Int32 → Int32 → Int32 → Int32 → Int32 → Option (Unit × bl_St)) (hk66 : ∀ (σ : bl_St) (v0 : Nat) (v2 : Int32) (v3 : Int32) (v5 : Int32) (v6 : Int32) (v7 : Int32), bl_sh[v0]? = some (10, 28) → k66 σ v0 v2 v3 v5 v6 v7 = some out → ∀ (H : Heap) (locs : List Loc) (ls : Array Slot), bl_V g s σ H locs → lv_has ls 11 [(0, .ref (bl_ad g v0)), (2, .int v2), (3, .int v3), (5, .int v5), (6, .int v6), (7, .int v7)] → W p l e (bl_rm 8 208) s m as.toArray below meth c H locs 0 0 (bl_Qv below g s as out) (F0 m 66 ls [])) : ∀ (σ : bl_St) (v0 : Nat) (v2 : Int32) (v3 : Int32) (v5 : Int32) (v6 : Int32) (v7 : Int32) (v8 : Int32) (s0 : Int32), bl_sh[v0]? = some (10, 28) → (b_X10_lives_174 k66) σ v0 v2 v3 v5 v6 v7 v8 s0 = some out → ∀ (H : Heap) (locs : List Loc) (ls : Array Slot), bl_V g s σ H locs → lv_has ls 11 [(0, .ref (bl_ad g v0)), (2, .int v2), (3, .int v3), (5, .int v5), (6, .int v6), (7, .int v7), (8, .int v8)] → W p l e (bl_rm 8 208) s m as.toArray below meth c H locs 0 0 (bl_Qv below g s as out) (F0 m 174 ls [.int s0]) := by
  intro σ v0 v2 v3 v5 v6 v7 v8 s0 hv0 hf H locs ls V hl
  unfold b_X10_lives_174 at hf
  refine lv_istore (lv' := [(9, .int s0), (0, .ref (bl_ad g v0)), (2, .int v2), (3, .int v3), (5, .int v5), (6, .int v6), (7, .int v7), (8, .int v8)]) X.1 X.2.1 dX10_lives_174 hl (by decide) rfl (fun ls hl => ?_)
  exact w_X10_lives_176 X hr k66 hk66 σ v0 v2 v3 v5 v6 v7 v8 s0 hv0 hf _ _ _ V (lv_sub hl [1, 2, 3, 4, 5, 6, 7, 0] rfl)
set_option maxHeartbeats 4000000 in
set_option maxRecDepth 100000 in
theorem w_X10_lives_126 {p : Program} {l : Launch} {e : Env} {s : State} {m : MethodId} {below : List Frame} {meth : Method} {c : Code} {g : bl_Gp} {as : List Value} {out : Unit × bl_St} (X : bl_Cx g p s m as.toArray meth c cX10_lives 11 RX10) (hr : meth.sig.returnType = (Option.none : Option Jvm.ClassFile.FieldType)) (k66 : bl_St → Nat → Int32 → Int32 → Int32 → Int32 → Int32 → Option (Unit × bl_St)) (hk66 : ∀ (σ : bl_St) (v0 : Nat) (v2 : Int32) (v3 : Int32) (v5 : Int32) (v6 : Int32) (v7 : Int32), bl_sh[v0]? = some (10, 28) → k66 σ v0 v2 v3 v5 v6 v7 = some out → ∀ (H : Heap) (locs : List Loc) (ls : Array Slot), bl_V g s σ H locs → lv_has ls 11 [(0, .ref (bl_ad g v0)), (2, .int v2), (3, .int v3), (5, .int v5), (6, .int v6), (7, .int v7)] → W p l e (bl_rm 8 208) s m as.toArray below meth c H locs 0 0 (bl_Qv below g s as out) (F0 m 66 ls [])) : ∀ (σ : bl_St) (v0 : Nat) (v2 : Int32) (v3 : Int32) (v5 : Int32) (v6 : Int32) (v7 : Int32) (v8 : Int32) (s0 : Int32), bl_sh[v0]? = some (10, 28) → (b_X10_lives_126 k66) σ v0 v2 v3 v5 v6 v7 v8 s0 = some out → ∀ (H : Heap) (locs : List Loc) (ls : Array Slot), bl_V g s σ H locs → lv_has ls 11 [(0, .ref (bl_ad g v0)), (2, .int v2), (3, .int v3), (5, .int v5), (6, .int v6), (7, .int v7), (8, .int v8)] → W p l e (bl_rm 8 208) s m as.toArray below meth c H locs 0 0 (bl_Qv below g s as out) (F0 m 126 ls [.int s0]) := by
  intro σ v0 v2 v3 v5 v6 v7 v8 s0 hv0 hf H locs ls V hl
  unfold b_X10_lives_126 at hf
  refine lv_istore (lv' := [(9, .int s0), (0, .ref (bl_ad g v0)), (2, .int v2), (3, .int v3), (5, .int v5), (6, .int v6), (7, .int v7), (8, .int v8)]) X.1 X.2.1 dX10_lives_126 hl (by decide) rfl (fun ls hl => ?_)
  refine lv_iload_n X.1 X.2.1 dX10_lives_128 rfl (lv_at hl 2 rfl) ?_
  refine lv_if_ne (tgt := 176) X.1 X.2.1 dX10_lives_129 (by decide) (fun c6 => ?_) (fun c6 => ?_)
  · have hf := bl_ifn c6 hf
    exact w_X10_lives_176 X hr k66 hk66 σ v0 v2 v3 v5 v6 v7 v8 s0 hv0 hf _ _ _ V (lv_sub hl [1, 2, 3, 4, 5, 6, 7, 0] rfl)
  · have hf := bl_ifp c6 hf
    refine lv_aload_n X.1 X.2.1 dX10_lives_132 rfl (lv_at hl 1 rfl) ?_
    refine lv_iload X.1 X.2.1 dX10_lives_133 (lv_at hl 4 rfl) ?_
    refine lv_aload_n X.1 X.2.1 dX10_lives_135 rfl (lv_at hl 1 rfl) ?_
    refine bl_getr X V hv0 fl_X10_13 rfl dX10_lives_136 (fun h7 => ?_)
    refine lv_bipush (v := 55) X.1 X.2.1 dX10_lives_139 (by decide) ?_
    refine bl_iald (k := 55) X V h7 (by decide) (by decide) dX10_lives_141 ?_
    obtain ⟨r8, σ9, h10, hf⟩ := bl_bd_at hf
    refine bl_cVv (As := [.int v5, .int (bl_I σ (bl_R σ v0 1) 55)]) X V hl.1 hv0 rfl ml_X10_152 mV_X10_laysChances (t_X10_laysChances l g σ v0 v5 (bl_I σ (bl_R σ v0 1) 55) _ hv0 h10) rfl rfl ⟨Nat.le_of_ble_eq_true rfl, Nat.le_of_ble_eq_true rfl⟩ rfl rfl (Nat.le_of_ble_eq_true rfl) ⟨Nat.zero_le _, Nat.zero_le _⟩ dX10_lives_142 (fun H locs V => ?_)
    refine lv_aload_n X.1 X.2.1 dX10_lives_145 rfl (lv_at hl 1 rfl) ?_
    refine lv_iload X.1 X.2.1 dX10_lives_146 (lv_at hl 7 rfl) ?_
    refine lv_iload X.1 X.2.1 dX10_lives_148 (lv_at hl 6 rfl) ?_
    refine lv_aload_n X.1 X.2.1 dX10_lives_150 rfl (lv_at hl 1 rfl) ?_
    obtain ⟨r11, σ12, h13, hf⟩ := bl_bd_at hf
    refine bl_cVi (As := []) X V hl.1 hv0 rfl ml_X10_156 mV_X10_countedNow (t_X10_countedNow l g σ9 v0 _ hv0 h13) rfl rfl ⟨Nat.le_of_ble_eq_true rfl, Nat.le_of_ble_eq_true rfl⟩ rfl rfl (Nat.le_of_ble_eq_true rfl) ⟨Nat.zero_le _, Nat.zero_le _⟩ dX10_lives_151 (fun H locs V => ?_)
    refine lv_aload_n X.1 X.2.1 dX10_lives_154 rfl (lv_at hl 1 rfl) ?_
    refine bl_getr X V hv0 fl_X10_13 rfl dX10_lives_155 (fun h14 => ?_)
    refine lv_bipush (v := 59) X.1 X.2.1 dX10_lives_158 (by decide) ?_
    refine bl_iald (k := 59) X V h14 (by decide) (by decide) dX10_lives_160 ?_
    obtain ⟨r15, σ16, h17, hf⟩ := bl_bd_at hf
    refine bl_cVl (As := [.int v8, .int v7, .int r11, .int (bl_I σ12 (bl_R σ12 v0 1) 59)]) X V hl.1 hv0 rfl ml_X10_159 mV_X10_gainOf (t_X10_gainOf l g σ12 v0 v8 v7 r11 (bl_I σ12 (bl_R σ12 v0 1) 59) _ hv0 h17) rfl rfl ⟨Nat.le_of_ble_eq_true rfl, Nat.le_of_ble_eq_true rfl⟩ rfl rfl (Nat.le_of_ble_eq_true rfl) ⟨Nat.zero_le _, Nat.zero_le _⟩ dX10_lives_161 (fun H locs V => ?_)
    refine lv_lconst (v := 0) X.1 X.2.1 dX10_lives_164 (by decide) ?_
    refine bl_lc_le (tgt := 173) X dX10_lives_165 dX10_lives_166 (by decide) (fun c18 => ?_) (fun c18 => ?_)
    · have hf := bl_ifp c18 hf
      refine lv_iconst (v := 0) X.1 X.2.1 dX10_lives_173 (by decide) ?_
      exact w_X10_lives_174 X hr k66 hk66 σ16 v0 v2 v3 v5 v6 v7 v8 0 hv0 hf _ _ _ V (lv_sub hl [1, 2, 3, 4, 5, 6, 7] rfl)
    · have hf := bl_ifn c18 hf
      refine lv_iconst (v := 1) X.1 X.2.1 dX10_lives_169 (by decide) ?_
      refine lv_goto (tgt := 174) X.1 X.2.1 dX10_lives_170 (by decide) ?_
      exact w_X10_lives_174 X hr k66 hk66 σ16 v0 v2 v3 v5 v6 v7 v8 1 hv0 hf _ _ _ V (lv_sub hl [1, 2, 3, 4, 5, 6, 7] rfl)
set_option maxHeartbeats 4000000 in
set_option maxRecDepth 100000 in
theorem w_X10_lives_125 {p : Program} {l : Launch} {e : Env} {s : State} {m : MethodId} {below : List Frame} {meth : Method} {c : Code} {g : bl_Gp} {as : List Value} {out : Unit × bl_St} (X : bl_Cx g p s m as.toArray meth c cX10_lives 11 RX10) (hr : meth.sig.returnType = (Option.none : Option Jvm.ClassFile.FieldType)) (k66 : bl_St → Nat → Int32 → Int32 → Int32 → Int32 → Int32 → Option (Unit × bl_St)) (hk66 : ∀ (σ : bl_St) (v0 : Nat) (v2 : Int32) (v3 : Int32) (v5 : Int32) (v6 : Int32) (v7 : Int32), bl_sh[v0]? = some (10, 28) → k66 σ v0 v2 v3 v5 v6 v7 = some out → ∀ (H : Heap) (locs : List Loc) (ls : Array Slot), bl_V g s σ H locs → lv_has ls 11 [(0, .ref (bl_ad g v0)), (2, .int v2), (3, .int v3), (5, .int v5), (6, .int v6), (7, .int v7)] → W p l e (bl_rm 8 208) s m as.toArray below meth c H locs 0 0 (bl_Qv below g s as out) (F0 m 66 ls [])) : ∀ (σ : bl_St) (v0 : Nat) (v2 : Int32) (v3 : Int32) (v5 : Int32) (v6 : Int32) (v7 : Int32) (v8 : Int32), bl_sh[v0]? = some (10, 28) → (b_X10_lives_125 k66) σ v0 v2 v3 v5 v6 v7 v8 = some out → ∀ (H : Heap) (locs : List Loc) (ls : Array Slot), bl_V g s σ H locs → lv_has ls 11 [(0, .ref (bl_ad g v0)), (2, .int v2), (3, .int v3), (5, .int v5), (6, .int v6), (7, .int v7), (8, .int v8)] → W p l e (bl_rm 8 208) s m as.toArray below meth c H locs 0 0 (bl_Qv below g s as out) (F0 m 125 ls []) := by
  intro σ v0 v2 v3 v5 v6 v7 v8 hv0 hf H locs ls V hl
  unfold b_X10_lives_125 at hf
  refine lv_iconst (v := 0) X.1 X.2.1 dX10_lives_125 (by decide) ?_
  exact w_X10_lives_126 X hr k66 hk66 σ v0 v2 v3 v5 v6 v7 v8 0 hv0 hf _ _ _ V (lv_sub hl [0, 1, 2, 3, 4, 5, 6] rfl)
set_option maxHeartbeats 4000000 in
set_option maxRecDepth 100000 in
theorem w_X10_lives_121 {p : Program} {l : Launch} {e : Env} {s : State} {m : MethodId} {below : List Frame} {meth : Method} {c : Code} {g : bl_Gp} {as : List Value} {out : Unit × bl_St} (X : bl_Cx g p s m as.toArray meth c cX10_lives 11 RX10) (hr : meth.sig.returnType = (Option.none : Option Jvm.ClassFile.FieldType)) (k66 : bl_St → Nat → Int32 → Int32 → Int32 → Int32 → Int32 → Option (Unit × bl_St)) (hk66 : ∀ (σ : bl_St) (v0 : Nat) (v2 : Int32) (v3 : Int32) (v5 : Int32) (v6 : Int32) (v7 : Int32), bl_sh[v0]? = some (10, 28) → k66 σ v0 v2 v3 v5 v6 v7 = some out → ∀ (H : Heap) (locs : List Loc) (ls : Array Slot), bl_V g s σ H locs → lv_has ls 11 [(0, .ref (bl_ad g v0)), (2, .int v2), (3, .int v3), (5, .int v5), (6, .int v6), (7, .int v7)] → W p l e (bl_rm 8 208) s m as.toArray below meth c H locs 0 0 (bl_Qv below g s as out) (F0 m 66 ls [])) : ∀ (σ : bl_St) (v0 : Nat) (v2 : Int32) (v3 : Int32) (v5 : Int32) (v6 : Int32) (v7 : Int32) (v8 : Int32), bl_sh[v0]? = some (10, 28) → (b_X10_lives_121 k66) σ v0 v2 v3 v5 v6 v7 v8 = some out → ∀ (H : Heap) (locs : List Loc) (ls : Array Slot), bl_V g s σ H locs → lv_has ls 11 [(0, .ref (bl_ad g v0)), (2, .int v2), (3, .int v3), (5, .int v5), (6, .int v6), (7, .int v7), (8, .int v8)] → W p l e (bl_rm 8 208) s m as.toArray below meth c H locs 0 0 (bl_Qv below g s as out) (F0 m 121 ls []) := by
  intro σ v0 v2 v3 v5 v6 v7 v8 hv0 hf H locs ls V hl
  unfold b_X10_lives_121 at hf
  refine lv_iconst (v := 1) X.1 X.2.1 dX10_lives_121 (by decide) ?_
  refine lv_goto (tgt := 126) X.1 X.2.1 dX10_lives_122 (by decide) ?_
  exact w_X10_lives_126 X hr k66 hk66 σ v0 v2 v3 v5 v6 v7 v8 1 hv0 hf _ _ _ V (lv_sub hl [0, 1, 2, 3, 4, 5, 6] rfl)
set_option maxHeartbeats 4000000 in
set_option maxRecDepth 100000 in
theorem w_X10_lives_66 {p : Program} {l : Launch} {e : Env} {s : State} {m : MethodId} {below : List Frame} {meth : Method} {c : Code} {g : bl_Gp} {as : List Value} {out : Unit × bl_St} (X : bl_Cx g p s m as.toArray meth c cX10_lives 11 RX10) (hr : meth.sig.returnType = (Option.none : Option Jvm.ClassFile.FieldType)) (k21 : bl_St → Nat → Int32 → Int32 → Int32 → Option (Unit × bl_St)) (hk21 : ∀ (σ : bl_St) (v0 : Nat) (v2 : Int32) (v3 : Int32) (v5 : Int32), bl_sh[v0]? = some (10, 28) → k21 σ v0 v2 v3 v5 = some out → ∀ (H : Heap) (locs : List Loc) (ls : Array Slot), bl_V g s σ H locs → lv_has ls 11 [(0, .ref (bl_ad g v0)), (2, .int v2), (3, .int v3), (5, .int v5)] → W p l e (bl_rm 8 208) s m as.toArray below meth c H locs 0 0 (bl_Qv below g s as out) (F0 m 21 ls [])) (k66 : bl_St → Nat → Int32 → Int32 → Int32 → Int32 → Int32 → Option (Unit × bl_St)) (hk66 : ∀ (σ : bl_St) (v0 : Nat) (v2 : Int32) (v3 : Int32) (v5 : Int32) (v6 : Int32) (v7 : Int32), bl_sh[v0]? = some (10, 28) → k66 σ v0 v2 v3 v5 v6 v7 = some out → ∀ (H : Heap) (locs : List Loc) (ls : Array Slot), bl_V g s σ H locs → lv_has ls 11 [(0, .ref (bl_ad g v0)), (2, .int v2), (3, .int v3), (5, .int v5), (6, .int v6), (7, .int v7)] → W p l e (bl_rm 8 208) s m as.toArray below meth c H locs 0 0 (bl_Qv below g s as out) (F0 m 66 ls [])) : ∀ (σ : bl_St) (v0 : Nat) (v2 : Int32) (v3 : Int32) (v5 : Int32) (v6 : Int32) (v7 : Int32), bl_sh[v0]? = some (10, 28) → (b_X10_lives_66 k21 k66) σ v0 v2 v3 v5 v6 v7 = some out → ∀ (H : Heap) (locs : List Loc) (ls : Array Slot), bl_V g s σ H locs → lv_has ls 11 [(0, .ref (bl_ad g v0)), (2, .int v2), (3, .int v3), (5, .int v5), (6, .int v6), (7, .int v7)] → W p l e (bl_rm 8 208) s m as.toArray below meth c H locs 0 0 (bl_Qv below g s as out) (F0 m 66 ls []) := by
  intro σ v0 v2 v3 v5 v6 v7 hv0 hf H locs ls V hl
  unfold b_X10_lives_66 at hf
  refine lv_iload X.1 X.2.1 dX10_lives_66 (lv_at hl 5 rfl) ?_
  refine lv_iload X.1 X.2.1 dX10_lives_68 (lv_at hl 4 rfl) ?_
  refine lv_icmp_ge (tgt := 192) X.1 X.2.1 dX10_lives_70 (by decide) (fun c19 => ?_) (fun c19 => ?_)
  · have hf := bl_ifp c19 hf
    obtain ⟨x20, e21⟩ : ∃ z : Int32, z = v5 + (-1) := ⟨_, rfl⟩
    have hf := bl_let_at e21 hf
    refine lv_iinc (v := x20) (lv' := [(5, .int x20), (0, .ref (bl_ad g v0)), (2, .int v2), (3, .int v3), (6, .int v6), (7, .int v7)]) X.1 X.2.1 dX10_lives_192 hl (k := 3) rfl (by rw [e21]; rfl) (by decide) rfl (fun ls hl => ?_)
    refine lv_goto (tgt := 21) X.1 X.2.1 dX10_lives_195 (by decide) ?_
    exact hk21 σ v0 v2 v3 x20 hv0 hf _ _ _ V (lv_sub hl [1, 2, 3, 0] rfl)
  · have hf := bl_ifn c19 hf
    refine lv_aload_n X.1 X.2.1 dX10_lives_73 rfl (lv_at hl 0 rfl) ?_
    refine lv_bipush (v := 12) X.1 X.2.1 dX10_lives_74 (by decide) ?_
    obtain ⟨r22, σ23, h24, hf⟩ := bl_bd_at hf
    refine bl_cVi (As := [.int 12]) X V hl.1 hv0 rfl ml_X10_139 mV_X10_draws (t_X10_draws l g σ v0 12 _ hv0 h24) rfl rfl ⟨Nat.le_of_ble_eq_true rfl, Nat.le_of_ble_eq_true rfl⟩ rfl rfl (Nat.le_of_ble_eq_true rfl) ⟨Nat.zero_le _, Nat.zero_le _⟩ dX10_lives_76 (fun H locs V => ?_)
    refine lv_aload_n X.1 X.2.1 dX10_lives_79 rfl (lv_at hl 0 rfl) ?_
    refine bl_getr X V hv0 fl_X10_13 rfl dX10_lives_80 (fun h25 => ?_)
    refine lv_iconst (v := 3) X.1 X.2.1 dX10_lives_83 (by decide) ?_
    refine bl_iald (k := 3) X V h25 (by decide) (by decide) dX10_lives_84 ?_
    refine lv_icmp_lt (tgt := 95) X.1 X.2.1 dX10_lives_85 (by decide) (fun c26 => ?_) (fun c26 => ?_)
    · have hf := bl_ifp c26 hf
      refine lv_aload_n X.1 X.2.1 dX10_lives_95 rfl (lv_at hl 0 rfl) ?_
      obtain ⟨r27, σ28, h29, hf⟩ := bl_bd_at hf
      refine bl_cVi (As := []) X V hl.1 hv0 rfl ml_X10_149 mV_X10_sortDrawn (t_X10_sortDrawn l g σ23 v0 _ hv0 h29) rfl rfl ⟨Nat.le_of_ble_eq_true rfl, Nat.le_of_ble_eq_true rfl⟩ rfl rfl (Nat.le_of_ble_eq_true rfl) ⟨Nat.zero_le _, Nat.zero_le _⟩ dX10_lives_96 (fun H locs V => ?_)
      refine lv_istore (lv' := [(8, .int r27), (0, .ref (bl_ad g v0)), (2, .int v2), (3, .int v3), (5, .int v5), (6, .int v6), (7, .int v7)]) X.1 X.2.1 dX10_lives_99 hl (by decide) rfl (fun ls hl => ?_)
      refine lv_iload_n X.1 X.2.1 dX10_lives_101 rfl (lv_at hl 2 rfl) ?_
      refine lv_iconst (v := 1) X.1 X.2.1 dX10_lives_102 (by decide) ?_
      refine lv_icmp_eq (tgt := 121) X.1 X.2.1 dX10_lives_103 (by decide) (fun c30 => ?_) (fun c30 => ?_)
      · have hf := bl_ifp c30 hf
        exact w_X10_lives_121 X hr k66 hk66 σ28 v0 v2 v3 v5 v6 v7 r27 hv0 hf _ _ _ V (lv_sub hl [1, 2, 3, 4, 5, 6, 0] rfl)
      · have hf := bl_ifn c30 hf
        refine lv_iload_n X.1 X.2.1 dX10_lives_106 rfl (lv_at hl 2 rfl) ?_
        refine lv_iconst (v := 3) X.1 X.2.1 dX10_lives_107 (by decide) ?_
        refine lv_icmp_ne (tgt := 125) X.1 X.2.1 dX10_lives_108 (by decide) (fun c31 => ?_) (fun c31 => ?_)
        · have hf := bl_ifn c31 hf
          exact w_X10_lives_125 X hr k66 hk66 σ28 v0 v2 v3 v5 v6 v7 r27 hv0 hf _ _ _ V (lv_sub hl [1, 2, 3, 4, 5, 6, 0] rfl)
        · have hf := bl_ifp c31 hf
          refine lv_aload_n X.1 X.2.1 dX10_lives_111 rfl (lv_at hl 1 rfl) ?_
          refine lv_iload X.1 X.2.1 dX10_lives_112 (lv_at hl 0 rfl) ?_
          obtain ⟨r32, σ33, h34, hf⟩ := bl_bd_at hf
          refine bl_cVi (As := [.int r27]) X V hl.1 hv0 rfl ml_X10_78 mV_X10_size (t_X10_size l g σ28 v0 r27 _ hv0 h34) rfl rfl ⟨Nat.le_of_ble_eq_true rfl, Nat.le_of_ble_eq_true rfl⟩ rfl rfl (Nat.le_of_ble_eq_true rfl) ⟨Nat.zero_le _, Nat.zero_le _⟩ dX10_lives_114 (fun H locs V => ?_)
          refine lv_iload_n X.1 X.2.1 dX10_lives_117 rfl (lv_at hl 3 rfl) ?_
          refine lv_icmp_le (tgt := 125) X.1 X.2.1 dX10_lives_118 (by decide) (fun c35 => ?_) (fun c35 => ?_)
          · have hf := bl_ifp c35 hf
            exact w_X10_lives_125 X hr k66 hk66 σ33 v0 v2 v3 v5 v6 v7 r27 hv0 hf _ _ _ V (lv_sub hl [1, 2, 3, 4, 5, 6, 0] rfl)
          · have hf := bl_ifn c35 hf
            exact w_X10_lives_121 X hr k66 hk66 σ33 v0 v2 v3 v5 v6 v7 r27 hv0 hf _ _ _ V (lv_sub hl [1, 2, 3, 4, 5, 6, 0] rfl)
    · have hf := bl_ifn c26 hf
      refine lv_aload_n X.1 X.2.1 dX10_lives_88 rfl (lv_at hl 0 rfl) ?_
      obtain ⟨r36, σ37, h38, hf⟩ := bl_bd_at hf
      refine bl_cVv (As := []) X V hl.1 hv0 rfl ml_X10_121 mV_X10_goesBy (t_X10_goesBy l g σ23 v0 _ hv0 h38) rfl rfl ⟨Nat.le_of_ble_eq_true rfl, Nat.le_of_ble_eq_true rfl⟩ rfl rfl (Nat.le_of_ble_eq_true rfl) ⟨Nat.zero_le _, Nat.zero_le _⟩ dX10_lives_89 (fun H locs V => ?_)
      refine lv_goto (tgt := 186) X.1 X.2.1 dX10_lives_92 (by decide) ?_
      exact w_X10_lives_186 X hr k66 hk66 σ37 v0 v2 v3 v5 v6 v7 hv0 hf _ _ _ V (lv_sub hl [0, 1, 2, 3, 4, 5] rfl)
theorem l_X10_lives_66 {p : Program} {l : Launch} {e : Env} {s : State} {m : MethodId} {below : List Frame} {meth : Method} {c : Code} {g : bl_Gp} {as : List Value} {out : Unit × bl_St} (X : bl_Cx g p s m as.toArray meth c cX10_lives 11 RX10) (hr : meth.sig.returnType = (Option.none : Option Jvm.ClassFile.FieldType)) (k21 : bl_St → Nat → Int32 → Int32 → Int32 → Option (Unit × bl_St)) (hk21 : ∀ (σ : bl_St) (v0 : Nat) (v2 : Int32) (v3 : Int32) (v5 : Int32), bl_sh[v0]? = some (10, 28) → k21 σ v0 v2 v3 v5 = some out → ∀ (H : Heap) (locs : List Loc) (ls : Array Slot), bl_V g s σ H locs → lv_has ls 11 [(0, .ref (bl_ad g v0)), (2, .int v2), (3, .int v3), (5, .int v5)] → W p l e (bl_rm 8 208) s m as.toArray below meth c H locs 0 0 (bl_Qv below g s as out) (F0 m 21 ls [])) (n : Nat) : ∀ (σ : bl_St) (v0 : Nat) (v2 : Int32) (v3 : Int32) (v5 : Int32) (v6 : Int32) (v7 : Int32), bl_sh[v0]? = some (10, 28) → (bl_fx (fun _ _ _ _ _ _ _ => none) (b_X10_lives_66 k21) n) σ v0 v2 v3 v5 v6 v7 = some out → ∀ (H : Heap) (locs : List Loc) (ls : Array Slot), bl_V g s σ H locs → lv_has ls 11 [(0, .ref (bl_ad g v0)), (2, .int v2), (3, .int v3), (5, .int v5), (6, .int v6), (7, .int v7)] → W p l e (bl_rm 8 208) s m as.toArray below meth c H locs 0 0 (bl_Qv below g s as out) (F0 m 66 ls []) := by
  induction n with
  | zero =>
    intro σ v0 v2 v3 v5 v6 v7 hv0 hf H locs ls V hl
    cases hf
  | succ n ih => exact w_X10_lives_66 X hr k21 hk21 _ ih
set_option maxHeartbeats 4000000 in
set_option maxRecDepth 100000 in
theorem w_X10_lives_52 {p : Program} {l : Launch} {e : Env} {s : State} {m : MethodId} {below : List Frame} {meth : Method} {c : Code} {g : bl_Gp} {as : List Value} {out : Unit × bl_St} (X : bl_Cx g p s m as.toArray meth c cX10_lives 11 RX10) (hr : meth.sig.returnType = (Option.none : Option Jvm.ClassFile.FieldType)) (k21 : bl_St → Nat → Int32 → Int32 → Int32 → Option (Unit × bl_St)) (hk21 : ∀ (σ : bl_St) (v0 : Nat) (v2 : Int32) (v3 : Int32) (v5 : Int32), bl_sh[v0]? = some (10, 28) → k21 σ v0 v2 v3 v5 = some out → ∀ (H : Heap) (locs : List Loc) (ls : Array Slot), bl_V g s σ H locs → lv_has ls 11 [(0, .ref (bl_ad g v0)), (2, .int v2), (3, .int v3), (5, .int v5)] → W p l e (bl_rm 8 208) s m as.toArray below meth c H locs 0 0 (bl_Qv below g s as out) (F0 m 21 ls [])) : ∀ (σ : bl_St) (v0 : Nat) (v2 : Int32) (v3 : Int32) (v5 : Int32) (s0 : Int32) (s1 : Nat), bl_sh[v0]? = some (10, 28) → bl_sh[s1]? = some (10, 28) → (b_X10_lives_52 k21) σ v0 v2 v3 v5 s0 s1 = some out → ∀ (H : Heap) (locs : List Loc) (ls : Array Slot), bl_V g s σ H locs → lv_has ls 11 [(0, .ref (bl_ad g v0)), (2, .int v2), (3, .int v3), (5, .int v5)] → W p l e (bl_rm 8 208) s m as.toArray below meth c H locs 0 0 (bl_Qv below g s as out) (F0 m 52 ls [.int s0, .ref (bl_ad g s1)]) := by
  intro σ v0 v2 v3 v5 s0 s1 hv0 hs1 hf H locs ls V hl
  unfold b_X10_lives_52 at hf
  obtain ⟨r39, σ40, h41, hf⟩ := bl_bd_at hf
  refine bl_cVv (As := [.int s0]) X V hl.1 hs1 rfl ml_X10_110 mV_X10_begins (t_X10_begins l g σ s1 s0 _ hs1 h41) rfl rfl ⟨Nat.le_of_ble_eq_true rfl, Nat.le_of_ble_eq_true rfl⟩ rfl rfl (Nat.le_of_ble_eq_true rfl) ⟨Nat.zero_le _, Nat.zero_le _⟩ dX10_lives_52 (fun H locs V => ?_)
  refine lv_aload_n X.1 X.2.1 dX10_lives_55 rfl (lv_at hl 0 rfl) ?_
  refine bl_getr X V hv0 fl_X10_13 rfl dX10_lives_56 (fun h42 => ?_)
  refine lv_iconst (v := 2) X.1 X.2.1 dX10_lives_59 (by decide) ?_
  refine bl_iald (k := 2) X V h42 (by decide) (by decide) dX10_lives_60 ?_
  refine lv_topi (fun x43 e44 => ?_)
  have hf := bl_let_at e44 hf
  refine lv_istore (lv' := [(6, .int x43), (0, .ref (bl_ad g v0)), (2, .int v2), (3, .int v3), (5, .int v5)]) X.1 X.2.1 dX10_lives_61 hl (by decide) rfl (fun ls hl => ?_)
  refine lv_iconst (v := 0) X.1 X.2.1 dX10_lives_63 (by decide) ?_
  refine lv_istore (lv' := [(7, .int 0), (6, .int x43), (0, .ref (bl_ad g v0)), (2, .int v2), (3, .int v3), (5, .int v5)]) X.1 X.2.1 dX10_lives_64 hl (by decide) rfl (fun ls hl => ?_)
  exact l_X10_lives_66 X hr k21 hk21 bl_fu σ40 v0 v2 v3 v5 x43 0 hv0 hf _ _ _ V (lv_sub hl [2, 3, 4, 5, 1, 0] rfl)
set_option maxHeartbeats 4000000 in
set_option maxRecDepth 100000 in
theorem w_X10_lives_51 {p : Program} {l : Launch} {e : Env} {s : State} {m : MethodId} {below : List Frame} {meth : Method} {c : Code} {g : bl_Gp} {as : List Value} {out : Unit × bl_St} (X : bl_Cx g p s m as.toArray meth c cX10_lives 11 RX10) (hr : meth.sig.returnType = (Option.none : Option Jvm.ClassFile.FieldType)) (k21 : bl_St → Nat → Int32 → Int32 → Int32 → Option (Unit × bl_St)) (hk21 : ∀ (σ : bl_St) (v0 : Nat) (v2 : Int32) (v3 : Int32) (v5 : Int32), bl_sh[v0]? = some (10, 28) → k21 σ v0 v2 v3 v5 = some out → ∀ (H : Heap) (locs : List Loc) (ls : Array Slot), bl_V g s σ H locs → lv_has ls 11 [(0, .ref (bl_ad g v0)), (2, .int v2), (3, .int v3), (5, .int v5)] → W p l e (bl_rm 8 208) s m as.toArray below meth c H locs 0 0 (bl_Qv below g s as out) (F0 m 21 ls [])) : ∀ (σ : bl_St) (v0 : Nat) (v2 : Int32) (v3 : Int32) (v5 : Int32) (s0 : Nat), bl_sh[v0]? = some (10, 28) → bl_sh[s0]? = some (10, 28) → (b_X10_lives_51 k21) σ v0 v2 v3 v5 s0 = some out → ∀ (H : Heap) (locs : List Loc) (ls : Array Slot), bl_V g s σ H locs → lv_has ls 11 [(0, .ref (bl_ad g v0)), (2, .int v2), (3, .int v3), (5, .int v5)] → W p l e (bl_rm 8 208) s m as.toArray below meth c H locs 0 0 (bl_Qv below g s as out) (F0 m 51 ls [.ref (bl_ad g s0)]) := by
  intro σ v0 v2 v3 v5 s0 hv0 hs0 hf H locs ls V hl
  unfold b_X10_lives_51 at hf
  refine lv_iconst (v := 0) X.1 X.2.1 dX10_lives_51 (by decide) ?_
  exact w_X10_lives_52 X hr k21 hk21 σ v0 v2 v3 v5 0 s0 hv0 hs0 hf _ _ _ V (lv_sub hl [0, 1, 2, 3] rfl)
set_option maxHeartbeats 4000000 in
set_option maxRecDepth 100000 in
theorem w_X10_lives_21 {p : Program} {l : Launch} {e : Env} {s : State} {m : MethodId} {below : List Frame} {meth : Method} {c : Code} {g : bl_Gp} {as : List Value} {out : Unit × bl_St} (X : bl_Cx g p s m as.toArray meth c cX10_lives 11 RX10) (hr : meth.sig.returnType = (Option.none : Option Jvm.ClassFile.FieldType)) (k21 : bl_St → Nat → Int32 → Int32 → Int32 → Option (Unit × bl_St)) (hk21 : ∀ (σ : bl_St) (v0 : Nat) (v2 : Int32) (v3 : Int32) (v5 : Int32), bl_sh[v0]? = some (10, 28) → k21 σ v0 v2 v3 v5 = some out → ∀ (H : Heap) (locs : List Loc) (ls : Array Slot), bl_V g s σ H locs → lv_has ls 11 [(0, .ref (bl_ad g v0)), (2, .int v2), (3, .int v3), (5, .int v5)] → W p l e (bl_rm 8 208) s m as.toArray below meth c H locs 0 0 (bl_Qv below g s as out) (F0 m 21 ls [])) : ∀ (σ : bl_St) (v0 : Nat) (v2 : Int32) (v3 : Int32) (v5 : Int32), bl_sh[v0]? = some (10, 28) → (b_X10_lives_21 k21) σ v0 v2 v3 v5 = some out → ∀ (H : Heap) (locs : List Loc) (ls : Array Slot), bl_V g s σ H locs → lv_has ls 11 [(0, .ref (bl_ad g v0)), (2, .int v2), (3, .int v3), (5, .int v5)] → W p l e (bl_rm 8 208) s m as.toArray below meth c H locs 0 0 (bl_Qv below g s as out) (F0 m 21 ls []) := by
  intro σ v0 v2 v3 v5 hv0 hf H locs ls V hl
  unfold b_X10_lives_21 at hf
  refine lv_iload X.1 X.2.1 dX10_lives_21 (lv_at hl 3 rfl) ?_
  refine lv_if_le (tgt := 198) X.1 X.2.1 dX10_lives_23 (by decide) (fun c45 => ?_) (fun c45 => ?_)
  · have hf := bl_ifp c45 hf
    exact bl_retv X V hr hf dX10_lives_198
  · have hf := bl_ifn c45 hf
    refine lv_aload_n X.1 X.2.1 dX10_lives_26 rfl (lv_at hl 0 rfl) ?_
    refine lv_iload_n X.1 X.2.1 dX10_lives_27 rfl (lv_at hl 1 rfl) ?_
    refine lv_if_ne (tgt := 51) X.1 X.2.1 dX10_lives_28 (by decide) (fun c46 => ?_) (fun c46 => ?_)
    · have hf := bl_ifn c46 hf
      exact w_X10_lives_51 X hr k21 hk21 σ v0 v2 v3 v5 v0 hv0 hv0 hf _ _ _ V (lv_sub hl [0, 1, 2, 3] rfl)
    · have hf := bl_ifp c46 hf
      refine lv_aload_n X.1 X.2.1 dX10_lives_31 rfl (lv_at hl 0 rfl) ?_
      refine lv_iload X.1 X.2.1 dX10_lives_32 (lv_at hl 3 rfl) ?_
      refine lv_aload_n X.1 X.2.1 dX10_lives_34 rfl (lv_at hl 0 rfl) ?_
      refine bl_getr X V hv0 fl_X10_13 rfl dX10_lives_35 (fun h47 => ?_)
      refine lv_bipush (v := 55) X.1 X.2.1 dX10_lives_38 (by decide) ?_
      refine bl_iald (k := 55) X V h47 (by decide) (by decide) dX10_lives_40 ?_
      obtain ⟨r48, σ49, h50, hf⟩ := bl_bd_at hf
      refine bl_cVi (As := [.int v5, .int (bl_I σ (bl_R σ v0 1) 55)]) X V hl.1 hv0 rfl ml_X10_146 mV_X10_isGuarded (t_X10_isGuarded l g σ v0 v5 (bl_I σ (bl_R σ v0 1) 55) _ hv0 h50) rfl rfl ⟨Nat.le_of_ble_eq_true rfl, Nat.le_of_ble_eq_true rfl⟩ rfl rfl (Nat.le_of_ble_eq_true rfl) ⟨Nat.zero_le _, Nat.zero_le _⟩ dX10_lives_41 (fun H locs V => ?_)
      refine lv_if_eq (tgt := 51) X.1 X.2.1 dX10_lives_44 (by decide) (fun c51 => ?_) (fun c51 => ?_)
      · have hf := bl_ifp c51 hf
        exact w_X10_lives_51 X hr k21 hk21 σ49 v0 v2 v3 v5 v0 hv0 hv0 hf _ _ _ V (lv_sub hl [0, 1, 2, 3] rfl)
      · have hf := bl_ifn c51 hf
        refine lv_iconst (v := 1) X.1 X.2.1 dX10_lives_47 (by decide) ?_
        refine lv_goto (tgt := 52) X.1 X.2.1 dX10_lives_48 (by decide) ?_
        exact w_X10_lives_52 X hr k21 hk21 σ49 v0 v2 v3 v5 1 v0 hv0 hv0 hf _ _ _ V (lv_sub hl [0, 1, 2, 3] rfl)
theorem l_X10_lives_21 {p : Program} {l : Launch} {e : Env} {s : State} {m : MethodId} {below : List Frame} {meth : Method} {c : Code} {g : bl_Gp} {as : List Value} {out : Unit × bl_St} (X : bl_Cx g p s m as.toArray meth c cX10_lives 11 RX10) (hr : meth.sig.returnType = (Option.none : Option Jvm.ClassFile.FieldType)) (n : Nat) : ∀ (σ : bl_St) (v0 : Nat) (v2 : Int32) (v3 : Int32) (v5 : Int32), bl_sh[v0]? = some (10, 28) → (bl_fx (fun _ _ _ _ _ => none) (b_X10_lives_21 ) n) σ v0 v2 v3 v5 = some out → ∀ (H : Heap) (locs : List Loc) (ls : Array Slot), bl_V g s σ H locs → lv_has ls 11 [(0, .ref (bl_ad g v0)), (2, .int v2), (3, .int v3), (5, .int v5)] → W p l e (bl_rm 8 208) s m as.toArray below meth c H locs 0 0 (bl_Qv below g s as out) (F0 m 21 ls []) := by
  induction n with
  | zero =>
    intro σ v0 v2 v3 v5 hv0 hf H locs ls V hl
    cases hf
  | succ n ih => exact w_X10_lives_21 X hr  _ ih
set_option maxHeartbeats 4000000 in
set_option maxRecDepth 100000 in
theorem w_X10_lives_18 {p : Program} {l : Launch} {e : Env} {s : State} {m : MethodId} {below : List Frame} {meth : Method} {c : Code} {g : bl_Gp} {as : List Value} {out : Unit × bl_St} (X : bl_Cx g p s m as.toArray meth c cX10_lives 11 RX10) (hr : meth.sig.returnType = (Option.none : Option Jvm.ClassFile.FieldType)) : ∀ (σ : bl_St) (v0 : Nat) (v1 : Int32) (v2 : Int32) (v3 : Int32), bl_sh[v0]? = some (10, 28) → (b_X10_lives_18 ) σ v0 v1 v2 v3 = some out → ∀ (H : Heap) (locs : List Loc) (ls : Array Slot), bl_V g s σ H locs → lv_has ls 11 [(0, .ref (bl_ad g v0)), (1, .int v1), (2, .int v2), (3, .int v3)] → W p l e (bl_rm 8 208) s m as.toArray below meth c H locs 0 0 (bl_Qv below g s as out) (F0 m 18 ls []) := by
  intro σ v0 v1 v2 v3 hv0 hf H locs ls V hl
  unfold b_X10_lives_18 at hf
  refine lv_iload_n X.1 X.2.1 dX10_lives_18 rfl (lv_at hl 1 rfl) ?_
  refine lv_istore (lv' := [(5, .int v1), (0, .ref (bl_ad g v0)), (1, .int v1), (2, .int v2), (3, .int v3)]) X.1 X.2.1 dX10_lives_19 hl (by decide) rfl (fun ls hl => ?_)
  exact l_X10_lives_21 X hr  bl_fu σ v0 v2 v3 v1 hv0 hf _ _ _ V (lv_sub hl [1, 3, 4, 0] rfl)
set_option maxHeartbeats 4000000 in
set_option maxRecDepth 100000 in
theorem t_X10_lives (l : Launch) (g : bl_Gp) (σ : bl_St) (a0 : Nat) (a1 : Int32) (a2 : Int32) (a3 : Int32) (a4 : Int32) (o : Unit × bl_St) (ha0 : bl_sh[a0]? = some (10, 28)) (hf : f_X10_lives σ a0 a1 a2 a3 a4 = some o) : bl_Cv l g yX10_lives cX10_lives 11 (Option.none : Option Jvm.ClassFile.FieldType) (bl_rm 8 208) [.ref (bl_ad g a0), .int a1, .int a2, .int a3, .int a4] σ o := by
  refine bl_met (by decide) (Nat.le_of_ble_eq_true rfl) (fun p e s m below meth c ls X hr V hl => ?_)
  have hl : lv_has ls 11 [(0, .ref (bl_ad g a0)), (1, .int a1), (2, .int a2), (3, .int a3), (4, .int a4)] := hl
  unfold f_X10_lives at hf
  refine lv_aload_n X.1 X.2.1 dX10_lives_0 rfl (lv_at hl 0 rfl) ?_
  refine lv_iload X.1 X.2.1 dX10_lives_1 (lv_at hl 4 rfl) ?_
  refine bl_puti X V ha0 fp_X10_131 rfl rfl dX10_lives_3 (fun σ52 H locs e53 V => ?_)
  have hf := bl_let_at e53 hf
  refine lv_iload_n X.1 X.2.1 dX10_lives_6 rfl (lv_at hl 2 rfl) ?_
  refine lv_if_ne (tgt := 18) X.1 X.2.1 dX10_lives_7 (by decide) (fun c54 => ?_) (fun c54 => ?_)
  · have hf := bl_ifn c54 hf
    exact w_X10_lives_18 X hr  σ52 a0 a1 a2 a3 ha0 hf _ _ _ V (lv_sub hl [0, 1, 2, 3] rfl)
  · have hf := bl_ifp c54 hf
    refine lv_aload_n X.1 X.2.1 dX10_lives_10 rfl (lv_at hl 0 rfl) ?_
    refine lv_iload_n X.1 X.2.1 dX10_lives_11 rfl (lv_at hl 1 rfl) ?_
    refine lv_iconst (v := 1) X.1 X.2.1 dX10_lives_12 (by decide) ?_
    refine lv_iconst (v := 0) X.1 X.2.1 dX10_lives_13 (by decide) ?_
    refine lv_iconst (v := 0) X.1 X.2.1 dX10_lives_14 (by decide) ?_
    obtain ⟨r55, σ56, h57, hf⟩ := bl_bd_at hf
    refine bl_cVv (As := [.int a1, .int 1, .int 0, .int 0]) X V hl.1 ha0 rfl ml_X10_142 mV_X10_lays (t_X10_lays l g σ52 a0 a1 1 0 0 _ ha0 h57) rfl rfl ⟨Nat.le_of_ble_eq_true rfl, Nat.le_of_ble_eq_true rfl⟩ rfl rfl (Nat.le_of_ble_eq_true rfl) ⟨Nat.zero_le _, Nat.zero_le _⟩ dX10_lives_15 (fun H locs V => ?_)
    exact w_X10_lives_18 X hr  σ56 a0 a1 a2 a3 ha0 hf _ _ _ V (lv_sub hl [0, 1, 2, 3] rfl)
set_option maxHeartbeats 4000000 in
set_option maxRecDepth 100000 in
theorem w_X10_isLived_39 {p : Program} {l : Launch} {e : Env} {s : State} {m : MethodId} {below : List Frame} {meth : Method} {c : Code} {g : bl_Gp} {as : List Value} {out : Int32 × bl_St} (X : bl_Cx g p s m as.toArray meth c cX10_isLived 3 RX10) (hr : meth.sig.returnType = (Option.some Jvm.ClassFile.FieldType.boolean)) : ∀ (σ : bl_St) (s0 : Int64) (s1 : Int64) (s2 : Int64), (b_X10_isLived_39 ) σ s0 s1 s2 = some out → ∀ (H : Heap) (locs : List Loc) (ls : Array Slot), bl_V g s σ H locs → lv_has ls 3 [] → W p l e (bl_rm 1 25) s m as.toArray below meth c H locs 0 0 (bl_Qi below g s as out) (F0 m 39 ls [.long s0, .long s1, .long s2]) := by
  intro σ s0 s1 s2  hf H locs ls V hl
  unfold b_X10_isLived_39 at hf
  obtain ⟨r1, σ2, h3, hf⟩ := bl_bd_at hf
  refine bl_cSi (As := [.long s2, .long s1, .long s0]) X V hl.1 ml_X10_66 mS_X10_in (t_X10_in l g σ s2 s1 s0 _  h3) rfl rfl ⟨Nat.le_of_ble_eq_true rfl, Nat.le_of_ble_eq_true rfl⟩ rfl rfl (Nat.le_of_ble_eq_true rfl) ⟨Nat.zero_le _, Nat.zero_le _⟩ dX10_isLived_39 (fun H locs V => ?_)
  refine lv_if_eq (tgt := 49) X.1 X.2.1 dX10_isLived_42 (by decide) (fun c4 => ?_) (fun c4 => ?_)
  · have hf := bl_ifp c4 hf
    refine lv_iconst (v := 0) X.1 X.2.1 dX10_isLived_49 (by decide) ?_
    exact bl_retz X V hr (by decide) hf dX10_isLived_50
  · have hf := bl_ifn c4 hf
    refine lv_iconst (v := 1) X.1 X.2.1 dX10_isLived_45 (by decide) ?_
    refine lv_goto (tgt := 50) X.1 X.2.1 dX10_isLived_46 (by decide) ?_
    exact bl_retz X V hr (by decide) hf dX10_isLived_50
set_option maxHeartbeats 4000000 in
set_option maxRecDepth 100000 in
theorem t_X10_isLived (l : Launch) (g : bl_Gp) (σ : bl_St) (a0 : Int32) (a1 : Int32) (a2 : Int32) (o : Int32 × bl_St) (hf : f_X10_isLived σ a0 a1 a2 = some o) : bl_Ci l g yX10_isLived cX10_isLived 3 (Option.some Jvm.ClassFile.FieldType.boolean) (bl_rm 1 25) [.int a0, .int a1, .int a2] σ o := by
  refine bl_met (by decide) (Nat.le_of_ble_eq_true rfl) (fun p e s m below meth c ls X hr V hl => ?_)
  have hl : lv_has ls 3 [(0, .int a0), (1, .int a1), (2, .int a2)] := hl
  unfold f_X10_isLived at hf
  refine lv_iload_n X.1 X.2.1 dX10_isLived_0 rfl (lv_at hl 0 rfl) ?_
  refine lv_i2l X.1 X.2.1 dX10_isLived_1 rfl ?_
  refine lv_lconst (v := 1) X.1 X.2.1 dX10_isLived_2 (by decide) ?_
  refine lv_ldc2 (v := 20) X.1 X.2.1 X.2.2.2.1 (X.2.2.2.2.1 _ kl_X10_163) dX10_isLived_3 ?_
  obtain ⟨r5, σ6, h7, hf⟩ := bl_bd_at hf
  refine bl_cSi (As := [.long (Int32.toInt64 a0), .long 1, .long 20]) X V hl.1 ml_X10_66 mS_X10_in (t_X10_in l g σ (Int32.toInt64 a0) 1 20 _  h7) rfl rfl ⟨Nat.le_of_ble_eq_true rfl, Nat.le_of_ble_eq_true rfl⟩ rfl rfl (Nat.le_of_ble_eq_true rfl) ⟨Nat.zero_le _, Nat.zero_le _⟩ dX10_isLived_6 (fun H locs V => ?_)
  refine lv_if_eq (tgt := 49) X.1 X.2.1 dX10_isLived_9 (by decide) (fun c8 => ?_) (fun c8 => ?_)
  · have hf := bl_ifp c8 hf
    refine lv_iconst (v := 0) X.1 X.2.1 dX10_isLived_49 (by decide) ?_
    exact bl_retz X V hr (by decide) hf dX10_isLived_50
  · have hf := bl_ifn c8 hf
    refine lv_iload_n X.1 X.2.1 dX10_isLived_12 rfl (lv_at hl 1 rfl) ?_
    refine lv_i2l X.1 X.2.1 dX10_isLived_13 rfl ?_
    refine lv_lconst (v := 0) X.1 X.2.1 dX10_isLived_14 (by decide) ?_
    refine lv_ldc2 (v := 3) X.1 X.2.1 X.2.2.2.1 (X.2.2.2.2.1 _ kl_X10_100) dX10_isLived_15 ?_
    obtain ⟨r9, σ10, h11, hf⟩ := bl_bd_at hf
    refine bl_cSi (As := [.long (Int32.toInt64 a1), .long 0, .long 3]) X V hl.1 ml_X10_66 mS_X10_in (t_X10_in l g σ6 (Int32.toInt64 a1) 0 3 _  h11) rfl rfl ⟨Nat.le_of_ble_eq_true rfl, Nat.le_of_ble_eq_true rfl⟩ rfl rfl (Nat.le_of_ble_eq_true rfl) ⟨Nat.zero_le _, Nat.zero_le _⟩ dX10_isLived_18 (fun H locs V => ?_)
    refine lv_if_eq (tgt := 49) X.1 X.2.1 dX10_isLived_21 (by decide) (fun c12 => ?_) (fun c12 => ?_)
    · have hf := bl_ifp c12 hf
      refine lv_iconst (v := 0) X.1 X.2.1 dX10_isLived_49 (by decide) ?_
      exact bl_retz X V hr (by decide) hf dX10_isLived_50
    · have hf := bl_ifn c12 hf
      refine lv_iload_n X.1 X.2.1 dX10_isLived_24 rfl (lv_at hl 2 rfl) ?_
      refine lv_i2l X.1 X.2.1 dX10_isLived_25 rfl ?_
      refine lv_lconst (v := 0) X.1 X.2.1 dX10_isLived_26 (by decide) ?_
      refine lv_iload_n X.1 X.2.1 dX10_isLived_27 rfl (lv_at hl 1 rfl) ?_
      refine lv_iconst (v := 3) X.1 X.2.1 dX10_isLived_28 (by decide) ?_
      refine lv_icmp_ne (tgt := 38) X.1 X.2.1 dX10_isLived_29 (by decide) (fun c13 => ?_) (fun c13 => ?_)
      · have hf := bl_ifn c13 hf
        refine lv_lconst (v := 0) X.1 X.2.1 dX10_isLived_38 (by decide) ?_
        exact w_X10_isLived_39 X hr  σ10 0 0 (Int32.toInt64 a2)  hf _ _ _ V (lv_sub hl [] rfl)
      · have hf := bl_ifp c13 hf
        refine lv_ldc2 (v := 999) X.1 X.2.1 X.2.2.2.1 (X.2.2.2.2.1 _ kl_X10_96) dX10_isLived_32 ?_
        refine lv_goto (tgt := 39) X.1 X.2.1 dX10_isLived_35 (by decide) ?_
        exact w_X10_isLived_39 X hr  σ10 999 0 (Int32.toInt64 a2)  hf _ _ _ V (lv_sub hl [] rfl)
set_option maxHeartbeats 4000000 in
set_option maxRecDepth 100000 in
theorem t_X10_live (l : Launch) (g : bl_Gp) (σ : bl_St) (a0 : Nat) (a1 : Int32) (a2 : Int32) (a3 : Int32) (a4 : Int32) (o : Int32 × bl_St) (ha0 : bl_sh[a0]? = some (10, 28)) (hf : f_X10_live σ a0 a1 a2 a3 a4 = some o) : bl_Ci l g yX10_live cX10_live 6 (Option.some Jvm.ClassFile.FieldType.int) (bl_rm 9 238) [.ref (bl_ad g a0), .int a1, .int a2, .int a3, .int a4] σ o := by
  refine bl_met (by decide) (Nat.le_of_ble_eq_true rfl) (fun p e s m below meth c ls X hr V hl => ?_)
  have hl : lv_has ls 6 [(0, .ref (bl_ad g a0)), (1, .int a1), (2, .int a2), (3, .int a3), (4, .int a4)] := hl
  unfold f_X10_live at hf
  refine lv_aload_n X.1 X.2.1 dX10_live_0 rfl (lv_at hl 0 rfl) ?_
  refine bl_getr X V ha0 fl_X10_13 rfl dX10_live_1 (fun h1 => ?_)
  refine lv_iconst (v := 0) X.1 X.2.1 dX10_live_4 (by decide) ?_
  refine bl_iald (k := 0) X V h1 (by decide) (by decide) dX10_live_5 ?_
  refine lv_if_eq (tgt := 29) X.1 X.2.1 dX10_live_6 (by decide) (fun c2 => ?_) (fun c2 => ?_)
  · have hf := bl_ifp c2 hf
    refine lv_iconst (v := (-1)) X.1 X.2.1 dX10_live_29 (by decide) ?_
    exact bl_reti X V hr hf dX10_live_30
  · have hf := bl_ifn c2 hf
    refine lv_aload_n X.1 X.2.1 dX10_live_9 rfl (lv_at hl 0 rfl) ?_
    refine bl_getr X V ha0 fl_X10_13 rfl dX10_live_10 (fun h3 => ?_)
    refine lv_bipush (v := 56) X.1 X.2.1 dX10_live_13 (by decide) ?_
    refine bl_iald (k := 56) X V h3 (by decide) (by decide) dX10_live_15 ?_
    refine lv_iconst (v := 1) X.1 X.2.1 dX10_live_16 (by decide) ?_
    refine lv_icmp_eq (tgt := 29) X.1 X.2.1 dX10_live_17 (by decide) (fun c4 => ?_) (fun c4 => ?_)
    · have hf := bl_ifp c4 hf
      refine lv_iconst (v := (-1)) X.1 X.2.1 dX10_live_29 (by decide) ?_
      exact bl_reti X V hr hf dX10_live_30
    · have hf := bl_ifn c4 hf
      refine lv_iload_n X.1 X.2.1 dX10_live_20 rfl (lv_at hl 1 rfl) ?_
      refine lv_iload_n X.1 X.2.1 dX10_live_21 rfl (lv_at hl 2 rfl) ?_
      refine lv_iload_n X.1 X.2.1 dX10_live_22 rfl (lv_at hl 3 rfl) ?_
      obtain ⟨r5, σ6, h7, hf⟩ := bl_bd_at hf
      refine bl_cSi (As := [.int a1, .int a2, .int a3]) X V hl.1 ml_X10_165 mS_X10_isLived (t_X10_isLived l g σ a1 a2 a3 _  h7) rfl rfl ⟨Nat.le_of_ble_eq_true rfl, Nat.le_of_ble_eq_true rfl⟩ rfl rfl (Nat.le_of_ble_eq_true rfl) ⟨Nat.zero_le _, Nat.zero_le _⟩ dX10_live_23 (fun H locs V => ?_)
      refine lv_if_ne (tgt := 31) X.1 X.2.1 dX10_live_26 (by decide) (fun c8 => ?_) (fun c8 => ?_)
      · have hf := bl_ifn c8 hf
        refine lv_aload_n X.1 X.2.1 dX10_live_31 rfl (lv_at hl 0 rfl) ?_
        obtain ⟨r9, σ10, h11, hf⟩ := bl_bd_at hf
        refine bl_cVv (As := []) X V hl.1 ha0 rfl ml_X10_81 mV_X10_keeps (t_X10_keeps l g σ6 a0 _ ha0 h11) rfl rfl ⟨Nat.le_of_ble_eq_true rfl, Nat.le_of_ble_eq_true rfl⟩ rfl rfl (Nat.le_of_ble_eq_true rfl) ⟨Nat.zero_le _, Nat.zero_le _⟩ dX10_live_32 (fun H locs V => ?_)
        refine lv_aload_n X.1 X.2.1 dX10_live_35 rfl (lv_at hl 0 rfl) ?_
        obtain ⟨r12, σ13, h14, hf⟩ := bl_bd_at hf
        refine bl_cVi (As := []) X V hl.1 ha0 rfl ml_X10_169 mV_X10_allPaid (t_X10_allPaid l g σ10 a0 _ ha0 h14) rfl rfl ⟨Nat.le_of_ble_eq_true rfl, Nat.le_of_ble_eq_true rfl⟩ rfl rfl (Nat.le_of_ble_eq_true rfl) ⟨Nat.zero_le _, Nat.zero_le _⟩ dX10_live_36 (fun H locs V => ?_)
        refine lv_istore (lv' := [(5, .int r12), (0, .ref (bl_ad g a0)), (1, .int a1), (2, .int a2), (3, .int a3), (4, .int a4)]) X.1 X.2.1 dX10_live_39 hl (by decide) rfl (fun ls hl => ?_)
        refine lv_aload_n X.1 X.2.1 dX10_live_41 rfl (lv_at hl 1 rfl) ?_
        refine lv_iload_n X.1 X.2.1 dX10_live_42 rfl (lv_at hl 2 rfl) ?_
        refine lv_iload_n X.1 X.2.1 dX10_live_43 rfl (lv_at hl 3 rfl) ?_
        refine lv_iload_n X.1 X.2.1 dX10_live_44 rfl (lv_at hl 4 rfl) ?_
        refine lv_iload X.1 X.2.1 dX10_live_45 (lv_at hl 5 rfl) ?_
        obtain ⟨r15, σ16, h17, hf⟩ := bl_bd_at hf
        refine bl_cVv (As := [.int a1, .int a2, .int a3, .int a4]) X V hl.1 ha0 rfl ml_X10_172 mV_X10_lives (t_X10_lives l g σ13 a0 a1 a2 a3 a4 _ ha0 h17) rfl rfl ⟨Nat.le_of_ble_eq_true rfl, Nat.le_of_ble_eq_true rfl⟩ rfl rfl (Nat.le_of_ble_eq_true rfl) ⟨Nat.zero_le _, Nat.zero_le _⟩ dX10_live_47 (fun H locs V => ?_)
        refine lv_aload_n X.1 X.2.1 dX10_live_50 rfl (lv_at hl 1 rfl) ?_
        obtain ⟨r18, σ19, h20, hf⟩ := bl_bd_at hf
        refine bl_cVi (As := []) X V hl.1 ha0 rfl ml_X10_169 mV_X10_allPaid (t_X10_allPaid l g σ16 a0 _ ha0 h20) rfl rfl ⟨Nat.le_of_ble_eq_true rfl, Nat.le_of_ble_eq_true rfl⟩ rfl rfl (Nat.le_of_ble_eq_true rfl) ⟨Nat.zero_le _, Nat.zero_le _⟩ dX10_live_51 (fun H locs V => ?_)
        refine lv_iload X.1 X.2.1 dX10_live_54 (lv_at hl 0 rfl) ?_
        refine lv_isub X.1 X.2.1 dX10_live_56 ?_
        exact bl_reti X V hr hf dX10_live_57
      · have hf := bl_ifp c8 hf
        refine lv_iconst (v := (-1)) X.1 X.2.1 dX10_live_29 (by decide) ?_
        exact bl_reti X V hr hf dX10_live_30
set_option maxHeartbeats 4000000 in
set_option maxRecDepth 100000 in
theorem t_X10_come (l : Launch) (g : bl_Gp) (σ : bl_St) (a0 : Nat) (a1 : Int32) (a2 : Int32) (o : Int32 × bl_St) (ha0 : bl_sh[a0]? = some (10, 28)) (hf : f_X10_come σ a0 a1 a2 = some o) : bl_Ci l g yX10_come cX10_come 3 (Option.some Jvm.ClassFile.FieldType.int) (bl_rm 1 25) [.ref (bl_ad g a0), .int a1, .int a2] σ o := by
  refine bl_met (by decide) (Nat.le_of_ble_eq_true rfl) (fun p e s m below meth c ls X hr V hl => ?_)
  have hl : lv_has ls 3 [(0, .ref (bl_ad g a0)), (1, .int a1), (2, .int a2)] := hl
  unfold f_X10_come at hf
  refine lv_aload_n X.1 X.2.1 dX10_come_0 rfl (lv_at hl 0 rfl) ?_
  refine bl_getr X V ha0 fl_X10_13 rfl dX10_come_1 (fun h1 => ?_)
  refine lv_iconst (v := 0) X.1 X.2.1 dX10_come_4 (by decide) ?_
  refine bl_iald (k := 0) X V h1 (by decide) (by decide) dX10_come_5 ?_
  refine lv_if_eq (tgt := 43) X.1 X.2.1 dX10_come_6 (by decide) (fun c2 => ?_) (fun c2 => ?_)
  · have hf := bl_ifp c2 hf
    refine lv_iconst (v := (-1)) X.1 X.2.1 dX10_come_43 (by decide) ?_
    exact bl_reti X V hr hf dX10_come_44
  · have hf := bl_ifn c2 hf
    refine lv_iload_n X.1 X.2.1 dX10_come_9 rfl (lv_at hl 1 rfl) ?_
    refine lv_i2l X.1 X.2.1 dX10_come_10 rfl ?_
    refine lv_lconst (v := 1) X.1 X.2.1 dX10_come_11 (by decide) ?_
    refine lv_ldc2 (v := 999) X.1 X.2.1 X.2.2.2.1 (X.2.2.2.2.1 _ kl_X10_96) dX10_come_12 ?_
    obtain ⟨r3, σ4, h5, hf⟩ := bl_bd_at hf
    refine bl_cSi (As := [.long (Int32.toInt64 a1), .long 1, .long 999]) X V hl.1 ml_X10_66 mS_X10_in (t_X10_in l g σ (Int32.toInt64 a1) 1 999 _  h5) rfl rfl ⟨Nat.le_of_ble_eq_true rfl, Nat.le_of_ble_eq_true rfl⟩ rfl rfl (Nat.le_of_ble_eq_true rfl) ⟨Nat.zero_le _, Nat.zero_le _⟩ dX10_come_15 (fun H locs V => ?_)
    refine lv_if_eq (tgt := 43) X.1 X.2.1 dX10_come_18 (by decide) (fun c6 => ?_) (fun c6 => ?_)
    · have hf := bl_ifp c6 hf
      refine lv_iconst (v := (-1)) X.1 X.2.1 dX10_come_43 (by decide) ?_
      exact bl_reti X V hr hf dX10_come_44
    · have hf := bl_ifn c6 hf
      refine lv_iload_n X.1 X.2.1 dX10_come_21 rfl (lv_at hl 2 rfl) ?_
      refine lv_i2l X.1 X.2.1 dX10_come_22 rfl ?_
      refine lv_lconst (v := 1) X.1 X.2.1 dX10_come_23 (by decide) ?_
      refine lv_ldc2 (v := 9) X.1 X.2.1 X.2.2.2.1 (X.2.2.2.2.1 _ kl_X10_98) dX10_come_24 ?_
      obtain ⟨r7, σ8, h9, hf⟩ := bl_bd_at hf
      refine bl_cSi (As := [.long (Int32.toInt64 a2), .long 1, .long 9]) X V hl.1 ml_X10_66 mS_X10_in (t_X10_in l g σ4 (Int32.toInt64 a2) 1 9 _  h9) rfl rfl ⟨Nat.le_of_ble_eq_true rfl, Nat.le_of_ble_eq_true rfl⟩ rfl rfl (Nat.le_of_ble_eq_true rfl) ⟨Nat.zero_le _, Nat.zero_le _⟩ dX10_come_27 (fun H locs V => ?_)
      refine lv_if_eq (tgt := 43) X.1 X.2.1 dX10_come_30 (by decide) (fun c10 => ?_) (fun c10 => ?_)
      · have hf := bl_ifp c10 hf
        refine lv_iconst (v := (-1)) X.1 X.2.1 dX10_come_43 (by decide) ?_
        exact bl_reti X V hr hf dX10_come_44
      · have hf := bl_ifn c10 hf
        refine lv_aload_n X.1 X.2.1 dX10_come_33 rfl (lv_at hl 0 rfl) ?_
        refine bl_getr X V ha0 fl_X10_13 rfl dX10_come_34 (fun h11 => ?_)
        refine lv_iconst (v := 1) X.1 X.2.1 dX10_come_37 (by decide) ?_
        refine bl_iald (k := 1) X V h11 (by decide) (by decide) dX10_come_38 ?_
        refine lv_iconst (v := 5) X.1 X.2.1 dX10_come_39 (by decide) ?_
        refine lv_icmp_ne (tgt := 45) X.1 X.2.1 dX10_come_40 (by decide) (fun c12 => ?_) (fun c12 => ?_)
        · have hf := bl_ifn c12 hf
          refine lv_aload_n X.1 X.2.1 dX10_come_45 rfl (lv_at hl 0 rfl) ?_
          obtain ⟨r13, σ14, h15, hf⟩ := bl_bd_at hf
          refine bl_cVv (As := []) X V hl.1 ha0 rfl ml_X10_81 mV_X10_keeps (t_X10_keeps l g σ8 a0 _ ha0 h15) rfl rfl ⟨Nat.le_of_ble_eq_true rfl, Nat.le_of_ble_eq_true rfl⟩ rfl rfl (Nat.le_of_ble_eq_true rfl) ⟨Nat.zero_le _, Nat.zero_le _⟩ dX10_come_46 (fun H locs V => ?_)
          refine lv_aload_n X.1 X.2.1 dX10_come_49 rfl (lv_at hl 0 rfl) ?_
          refine bl_getr X V ha0 fl_X10_13 rfl dX10_come_50 (fun h16 => ?_)
          refine lv_bipush (v := 45) X.1 X.2.1 dX10_come_53 (by decide) ?_
          refine lv_iconst (v := 2) X.1 X.2.1 dX10_come_55 (by decide) ?_
          refine lv_aload_n X.1 X.2.1 dX10_come_56 rfl (lv_at hl 0 rfl) ?_
          refine bl_getr X V ha0 fl_X10_13 rfl dX10_come_57 (fun h17 => ?_)
          refine lv_iconst (v := 1) X.1 X.2.1 dX10_come_60 (by decide) ?_
          refine bl_iald (k := 1) X V h17 (by decide) (by decide) dX10_come_61 ?_
          refine lv_imul X.1 X.2.1 dX10_come_62 ?_
          refine lv_iadd X.1 X.2.1 dX10_come_63 ?_
          refine lv_iload_n X.1 X.2.1 dX10_come_64 rfl (lv_at hl 1 rfl) ?_
          obtain ⟨h18, hf⟩ := bl_gd_at hf
          refine bl_iast (k := (Int32.toNatClampNeg (45 + (2 * (bl_I σ14 (bl_R σ14 a0 1) 1))))) X V h16 h18 rfl dX10_come_65 (fun σ19 H locs e20 V => ?_)
          have hf := bl_let_at e20 hf
          refine lv_aload_n X.1 X.2.1 dX10_come_66 rfl (lv_at hl 0 rfl) ?_
          refine bl_getr X V ha0 fl_X10_13 rfl dX10_come_67 (fun h21 => ?_)
          refine lv_bipush (v := 45) X.1 X.2.1 dX10_come_70 (by decide) ?_
          refine lv_iconst (v := 2) X.1 X.2.1 dX10_come_72 (by decide) ?_
          refine lv_aload_n X.1 X.2.1 dX10_come_73 rfl (lv_at hl 0 rfl) ?_
          refine bl_getr X V ha0 fl_X10_13 rfl dX10_come_74 (fun h22 => ?_)
          refine lv_iconst (v := 1) X.1 X.2.1 dX10_come_77 (by decide) ?_
          refine bl_iald (k := 1) X V h22 (by decide) (by decide) dX10_come_78 ?_
          refine lv_imul X.1 X.2.1 dX10_come_79 ?_
          refine lv_iadd X.1 X.2.1 dX10_come_80 ?_
          refine lv_iconst (v := 1) X.1 X.2.1 dX10_come_81 (by decide) ?_
          refine lv_iadd X.1 X.2.1 dX10_come_82 ?_
          refine lv_iload_n X.1 X.2.1 dX10_come_83 rfl (lv_at hl 2 rfl) ?_
          obtain ⟨h23, hf⟩ := bl_gd_at hf
          refine bl_iast (k := (Int32.toNatClampNeg ((45 + (2 * (bl_I σ19 (bl_R σ19 a0 1) 1))) + 1))) X V h21 h23 rfl dX10_come_84 (fun σ24 H locs e25 V => ?_)
          have hf := bl_let_at e25 hf
          refine lv_aload_n X.1 X.2.1 dX10_come_85 rfl (lv_at hl 0 rfl) ?_
          refine bl_getr X V ha0 fl_X10_13 rfl dX10_come_86 (fun h26 => ?_)
          refine lv_iconst (v := 1) X.1 X.2.1 dX10_come_89 (by decide) ?_
          refine lv_dup2_11 X.1 X.2.1 dX10_come_90 rfl rfl ?_
          refine bl_iald (k := 1) X V h26 (by decide) (by decide) dX10_come_91 ?_
          refine lv_iconst (v := 1) X.1 X.2.1 dX10_come_92 (by decide) ?_
          refine lv_iadd X.1 X.2.1 dX10_come_93 ?_
          refine bl_iast (k := 1) X V h26 (by decide) (by decide) dX10_come_94 (fun σ27 H locs e28 V => ?_)
          have hf := bl_let_at e28 hf
          refine lv_aload_n X.1 X.2.1 dX10_come_95 rfl (lv_at hl 0 rfl) ?_
          refine bl_getr X V ha0 fl_X10_13 rfl dX10_come_96 (fun h29 => ?_)
          refine lv_iconst (v := 1) X.1 X.2.1 dX10_come_99 (by decide) ?_
          refine bl_iald (k := 1) X V h29 (by decide) (by decide) dX10_come_100 ?_
          refine lv_iconst (v := 1) X.1 X.2.1 dX10_come_101 (by decide) ?_
          refine lv_isub X.1 X.2.1 dX10_come_102 ?_
          exact bl_reti X V hr hf dX10_come_103
        · have hf := bl_ifp c12 hf
          refine lv_iconst (v := (-1)) X.1 X.2.1 dX10_come_43 (by decide) ?_
          exact bl_reti X V hr hf dX10_come_44
set_option maxHeartbeats 4000000 in
set_option maxRecDepth 100000 in
theorem w_X10_takesOut_7 {p : Program} {l : Launch} {e : Env} {s : State} {m : MethodId} {below : List Frame} {meth : Method} {c : Code} {g : bl_Gp} {as : List Value} {out : Unit × bl_St} (X : bl_Cx g p s m as.toArray meth c cX10_takesOut 3 RX10) (hr : meth.sig.returnType = (Option.none : Option Jvm.ClassFile.FieldType)) (k7 : bl_St → Nat → Int32 → Option (Unit × bl_St)) (hk7 : ∀ (σ : bl_St) (v0 : Nat) (v2 : Int32), bl_sh[v0]? = some (10, 28) → k7 σ v0 v2 = some out → ∀ (H : Heap) (locs : List Loc) (ls : Array Slot), bl_V g s σ H locs → lv_has ls 3 [(0, .ref (bl_ad g v0)), (2, .int v2)] → W p l e (bl_rm 0 0) s m as.toArray below meth c H locs 0 0 (bl_Qv below g s as out) (F0 m 7 ls [])) : ∀ (σ : bl_St) (v0 : Nat) (v2 : Int32), bl_sh[v0]? = some (10, 28) → (b_X10_takesOut_7 k7) σ v0 v2 = some out → ∀ (H : Heap) (locs : List Loc) (ls : Array Slot), bl_V g s σ H locs → lv_has ls 3 [(0, .ref (bl_ad g v0)), (2, .int v2)] → W p l e (bl_rm 0 0) s m as.toArray below meth c H locs 0 0 (bl_Qv below g s as out) (F0 m 7 ls []) := by
  intro σ v0 v2 hv0 hf H locs ls V hl
  unfold b_X10_takesOut_7 at hf
  refine lv_iload_n X.1 X.2.1 dX10_takesOut_7 rfl (lv_at hl 1 rfl) ?_
  refine lv_bipush (v := 45) X.1 X.2.1 dX10_takesOut_8 (by decide) ?_
  refine lv_iconst (v := 2) X.1 X.2.1 dX10_takesOut_10 (by decide) ?_
  refine lv_aload_n X.1 X.2.1 dX10_takesOut_11 rfl (lv_at hl 0 rfl) ?_
  refine bl_getr X V hv0 fl_X10_13 rfl dX10_takesOut_12 (fun h1 => ?_)
  refine lv_iconst (v := 1) X.1 X.2.1 dX10_takesOut_15 (by decide) ?_
  refine bl_iald (k := 1) X V h1 (by decide) (by decide) dX10_takesOut_16 ?_
  refine lv_imul X.1 X.2.1 dX10_takesOut_17 ?_
  refine lv_iadd X.1 X.2.1 dX10_takesOut_18 ?_
  refine lv_iconst (v := 2) X.1 X.2.1 dX10_takesOut_19 (by decide) ?_
  refine lv_isub X.1 X.2.1 dX10_takesOut_20 ?_
  refine lv_icmp_ge (tgt := 44) X.1 X.2.1 dX10_takesOut_21 (by decide) (fun c2 => ?_) (fun c2 => ?_)
  · have hf := bl_ifp c2 hf
    refine lv_aload_n X.1 X.2.1 dX10_takesOut_44 rfl (lv_at hl 0 rfl) ?_
    refine bl_getr X V hv0 fl_X10_13 rfl dX10_takesOut_45 (fun h3 => ?_)
    refine lv_iconst (v := 1) X.1 X.2.1 dX10_takesOut_48 (by decide) ?_
    refine lv_dup2_11 X.1 X.2.1 dX10_takesOut_49 rfl rfl ?_
    refine bl_iald (k := 1) X V h3 (by decide) (by decide) dX10_takesOut_50 ?_
    refine lv_iconst (v := 1) X.1 X.2.1 dX10_takesOut_51 (by decide) ?_
    refine lv_isub X.1 X.2.1 dX10_takesOut_52 ?_
    refine bl_iast (k := 1) X V h3 (by decide) (by decide) dX10_takesOut_53 (fun σ4 H locs e5 V => ?_)
    have hf := bl_let_at e5 hf
    exact bl_retv X V hr hf dX10_takesOut_54
  · have hf := bl_ifn c2 hf
    refine lv_aload_n X.1 X.2.1 dX10_takesOut_24 rfl (lv_at hl 0 rfl) ?_
    refine bl_getr X V hv0 fl_X10_13 rfl dX10_takesOut_25 (fun h6 => ?_)
    refine lv_iload_n X.1 X.2.1 dX10_takesOut_28 rfl (lv_at hl 1 rfl) ?_
    refine lv_aload_n X.1 X.2.1 dX10_takesOut_29 rfl (lv_at hl 0 rfl) ?_
    refine bl_getr X V hv0 fl_X10_13 rfl dX10_takesOut_30 (fun h7 => ?_)
    refine lv_iload_n X.1 X.2.1 dX10_takesOut_33 rfl (lv_at hl 1 rfl) ?_
    refine lv_iconst (v := 2) X.1 X.2.1 dX10_takesOut_34 (by decide) ?_
    refine lv_iadd X.1 X.2.1 dX10_takesOut_35 ?_
    obtain ⟨h8, hf⟩ := bl_gd_at hf
    refine bl_iald (k := (Int32.toNatClampNeg (v2 + 2))) X V h7 h8 rfl dX10_takesOut_36 ?_
    obtain ⟨h9, hf⟩ := bl_gd_at hf
    refine bl_iast (k := (Int32.toNatClampNeg v2)) X V h6 h9 rfl dX10_takesOut_37 (fun σ10 H locs e11 V => ?_)
    have hf := bl_let_at e11 hf
    obtain ⟨x12, e13⟩ : ∃ z : Int32, z = v2 + 1 := ⟨_, rfl⟩
    have hf := bl_let_at e13 hf
    refine lv_iinc (v := x12) (lv' := [(2, .int x12), (0, .ref (bl_ad g v0))]) X.1 X.2.1 dX10_takesOut_38 hl (k := 1) rfl (by rw [e13]; rfl) (by decide) rfl (fun ls hl => ?_)
    refine lv_goto (tgt := 7) X.1 X.2.1 dX10_takesOut_41 (by decide) ?_
    exact hk7 σ10 v0 x12 hv0 hf _ _ _ V (lv_sub hl [1, 0] rfl)
theorem l_X10_takesOut_7 {p : Program} {l : Launch} {e : Env} {s : State} {m : MethodId} {below : List Frame} {meth : Method} {c : Code} {g : bl_Gp} {as : List Value} {out : Unit × bl_St} (X : bl_Cx g p s m as.toArray meth c cX10_takesOut 3 RX10) (hr : meth.sig.returnType = (Option.none : Option Jvm.ClassFile.FieldType)) (n : Nat) : ∀ (σ : bl_St) (v0 : Nat) (v2 : Int32), bl_sh[v0]? = some (10, 28) → (bl_fx (fun _ _ _ => none) (b_X10_takesOut_7 ) n) σ v0 v2 = some out → ∀ (H : Heap) (locs : List Loc) (ls : Array Slot), bl_V g s σ H locs → lv_has ls 3 [(0, .ref (bl_ad g v0)), (2, .int v2)] → W p l e (bl_rm 0 0) s m as.toArray below meth c H locs 0 0 (bl_Qv below g s as out) (F0 m 7 ls []) := by
  induction n with
  | zero =>
    intro σ v0 v2 hv0 hf H locs ls V hl
    cases hf
  | succ n ih => exact w_X10_takesOut_7 X hr  _ ih
set_option maxHeartbeats 4000000 in
set_option maxRecDepth 100000 in
theorem t_X10_takesOut (l : Launch) (g : bl_Gp) (σ : bl_St) (a0 : Nat) (a1 : Int32) (o : Unit × bl_St) (ha0 : bl_sh[a0]? = some (10, 28)) (hf : f_X10_takesOut σ a0 a1 = some o) : bl_Cv l g yX10_takesOut cX10_takesOut 3 (Option.none : Option Jvm.ClassFile.FieldType) (bl_rm 0 0) [.ref (bl_ad g a0), .int a1] σ o := by
  refine bl_met (by decide) (Nat.le_of_ble_eq_true rfl) (fun p e s m below meth c ls X hr V hl => ?_)
  have hl : lv_has ls 3 [(0, .ref (bl_ad g a0)), (1, .int a1)] := hl
  unfold f_X10_takesOut at hf
  refine lv_bipush (v := 45) X.1 X.2.1 dX10_takesOut_0 (by decide) ?_
  refine lv_iconst (v := 2) X.1 X.2.1 dX10_takesOut_2 (by decide) ?_
  refine lv_iload_n X.1 X.2.1 dX10_takesOut_3 rfl (lv_at hl 1 rfl) ?_
  refine lv_imul X.1 X.2.1 dX10_takesOut_4 ?_
  refine lv_iadd X.1 X.2.1 dX10_takesOut_5 ?_
  refine lv_topi (fun x14 e15 => ?_)
  have hf := bl_let_at e15 hf
  refine lv_istore_n (lv' := [(2, .int x14), (0, .ref (bl_ad g a0)), (1, .int a1)]) X.1 X.2.1 dX10_takesOut_6 rfl hl (by decide) rfl (fun ls hl => ?_)
  exact l_X10_takesOut_7 X hr  bl_fu σ a0 x14 ha0 hf _ _ _ V (lv_sub hl [1, 0] rfl)
set_option maxHeartbeats 4000000 in
set_option maxRecDepth 100000 in
theorem t_X10_drop (l : Launch) (g : bl_Gp) (σ : bl_St) (a0 : Nat) (a1 : Int32) (o : Int32 × bl_St) (ha0 : bl_sh[a0]? = some (10, 28)) (hf : f_X10_drop σ a0 a1 = some o) : bl_Ci l g yX10_drop cX10_drop 2 (Option.some Jvm.ClassFile.FieldType.int) (bl_rm 2 46) [.ref (bl_ad g a0), .int a1] σ o := by
  refine bl_met (by decide) (Nat.le_of_ble_eq_true rfl) (fun p e s m below meth c ls X hr V hl => ?_)
  have hl : lv_has ls 2 [(0, .ref (bl_ad g a0)), (1, .int a1)] := hl
  unfold f_X10_drop at hf
  refine lv_aload_n X.1 X.2.1 dX10_drop_0 rfl (lv_at hl 0 rfl) ?_
  refine lv_iload_n X.1 X.2.1 dX10_drop_1 rfl (lv_at hl 1 rfl) ?_
  obtain ⟨r1, σ2, h3, hf⟩ := bl_bd_at hf
  refine bl_cVi (As := [.int a1]) X V hl.1 ha0 rfl ml_X10_93 mV_X10_isSort (t_X10_isSort l g σ a0 a1 _ ha0 h3) rfl rfl ⟨Nat.le_of_ble_eq_true rfl, Nat.le_of_ble_eq_true rfl⟩ rfl rfl (Nat.le_of_ble_eq_true rfl) ⟨Nat.zero_le _, Nat.zero_le _⟩ dX10_drop_2 (fun H locs V => ?_)
  refine lv_if_eq (tgt := 18) X.1 X.2.1 dX10_drop_5 (by decide) (fun c4 => ?_) (fun c4 => ?_)
  · have hf := bl_ifp c4 hf
    refine lv_iconst (v := (-1)) X.1 X.2.1 dX10_drop_18 (by decide) ?_
    exact bl_reti X V hr hf dX10_drop_19
  · have hf := bl_ifn c4 hf
    refine lv_aload_n X.1 X.2.1 dX10_drop_8 rfl (lv_at hl 0 rfl) ?_
    refine bl_getr X V ha0 fl_X10_13 rfl dX10_drop_9 (fun h5 => ?_)
    refine lv_iconst (v := 1) X.1 X.2.1 dX10_drop_12 (by decide) ?_
    refine bl_iald (k := 1) X V h5 (by decide) (by decide) dX10_drop_13 ?_
    refine lv_iconst (v := 1) X.1 X.2.1 dX10_drop_14 (by decide) ?_
    refine lv_icmp_ne (tgt := 20) X.1 X.2.1 dX10_drop_15 (by decide) (fun c6 => ?_) (fun c6 => ?_)
    · have hf := bl_ifn c6 hf
      refine lv_aload_n X.1 X.2.1 dX10_drop_20 rfl (lv_at hl 0 rfl) ?_
      obtain ⟨r7, σ8, h9, hf⟩ := bl_bd_at hf
      refine bl_cVv (As := []) X V hl.1 ha0 rfl ml_X10_81 mV_X10_keeps (t_X10_keeps l g σ2 a0 _ ha0 h9) rfl rfl ⟨Nat.le_of_ble_eq_true rfl, Nat.le_of_ble_eq_true rfl⟩ rfl rfl (Nat.le_of_ble_eq_true rfl) ⟨Nat.zero_le _, Nat.zero_le _⟩ dX10_drop_21 (fun H locs V => ?_)
      refine lv_aload_n X.1 X.2.1 dX10_drop_24 rfl (lv_at hl 0 rfl) ?_
      refine lv_iload_n X.1 X.2.1 dX10_drop_25 rfl (lv_at hl 1 rfl) ?_
      obtain ⟨r10, σ11, h12, hf⟩ := bl_bd_at hf
      refine bl_cVv (As := [.int a1]) X V hl.1 ha0 rfl ml_X10_175 mV_X10_takesOut (t_X10_takesOut l g σ8 a0 a1 _ ha0 h12) rfl rfl ⟨Nat.le_of_ble_eq_true rfl, Nat.le_of_ble_eq_true rfl⟩ rfl rfl (Nat.le_of_ble_eq_true rfl) ⟨Nat.zero_le _, Nat.zero_le _⟩ dX10_drop_26 (fun H locs V => ?_)
      refine lv_aload_n X.1 X.2.1 dX10_drop_29 rfl (lv_at hl 0 rfl) ?_
      refine bl_getr X V ha0 fl_X10_13 rfl dX10_drop_30 (fun h13 => ?_)
      refine lv_iconst (v := 1) X.1 X.2.1 dX10_drop_33 (by decide) ?_
      refine bl_iald (k := 1) X V h13 (by decide) (by decide) dX10_drop_34 ?_
      exact bl_reti X V hr hf dX10_drop_35
    · have hf := bl_ifp c6 hf
      refine lv_iconst (v := (-1)) X.1 X.2.1 dX10_drop_18 (by decide) ?_
      exact bl_reti X V hr hf dX10_drop_19
set_option maxHeartbeats 4000000 in
set_option maxRecDepth 100000 in
theorem t_X10_move (l : Launch) (g : bl_Gp) (σ : bl_St) (a0 : Nat) (a1 : Int32) (o : Int32 × bl_St) (ha0 : bl_sh[a0]? = some (10, 28)) (hf : f_X10_move σ a0 a1 = some o) : bl_Ci l g yX10_move cX10_move 2 (Option.some Jvm.ClassFile.FieldType.int) (bl_rm 2 46) [.ref (bl_ad g a0), .int a1] σ o := by
  refine bl_met (by decide) (Nat.le_of_ble_eq_true rfl) (fun p e s m below meth c ls X hr V hl => ?_)
  have hl : lv_has ls 2 [(0, .ref (bl_ad g a0)), (1, .int a1)] := hl
  unfold f_X10_move at hf
  refine lv_aload_n X.1 X.2.1 dX10_move_0 rfl (lv_at hl 0 rfl) ?_
  refine lv_iload_n X.1 X.2.1 dX10_move_1 rfl (lv_at hl 1 rfl) ?_
  obtain ⟨r1, σ2, h3, hf⟩ := bl_bd_at hf
  refine bl_cVi (As := [.int a1]) X V hl.1 ha0 rfl ml_X10_84 mV_X10_isClass (t_X10_isClass l g σ a0 a1 _ ha0 h3) rfl rfl ⟨Nat.le_of_ble_eq_true rfl, Nat.le_of_ble_eq_true rfl⟩ rfl rfl (Nat.le_of_ble_eq_true rfl) ⟨Nat.zero_le _, Nat.zero_le _⟩ dX10_move_2 (fun H locs V => ?_)
  refine lv_if_eq (tgt := 28) X.1 X.2.1 dX10_move_5 (by decide) (fun c4 => ?_) (fun c4 => ?_)
  · have hf := bl_ifp c4 hf
    refine lv_iconst (v := (-1)) X.1 X.2.1 dX10_move_28 (by decide) ?_
    exact bl_reti X V hr hf dX10_move_29
  · have hf := bl_ifn c4 hf
    refine lv_aload_n X.1 X.2.1 dX10_move_8 rfl (lv_at hl 0 rfl) ?_
    refine bl_getr X V ha0 fl_X10_13 rfl dX10_move_9 (fun h5 => ?_)
    refine lv_bipush (v := 56) X.1 X.2.1 dX10_move_12 (by decide) ?_
    refine bl_iald (k := 56) X V h5 (by decide) (by decide) dX10_move_14 ?_
    refine lv_if_ne (tgt := 28) X.1 X.2.1 dX10_move_15 (by decide) (fun c6 => ?_) (fun c6 => ?_)
    · have hf := bl_ifn c6 hf
      refine lv_iconst (v := (-1)) X.1 X.2.1 dX10_move_28 (by decide) ?_
      exact bl_reti X V hr hf dX10_move_29
    · have hf := bl_ifp c6 hf
      refine lv_aload_n X.1 X.2.1 dX10_move_18 rfl (lv_at hl 0 rfl) ?_
      refine lv_bipush (v := 55) X.1 X.2.1 dX10_move_19 (by decide) ?_
      refine lv_iload_n X.1 X.2.1 dX10_move_21 rfl (lv_at hl 1 rfl) ?_
      obtain ⟨r7, σ8, h9, hf⟩ := bl_bd_at hf
      refine bl_cVi (As := [.int 55, .int a1]) X V hl.1 ha0 rfl ml_X10_90 mV_X10_becomes (t_X10_becomes l g σ2 a0 55 a1 _ ha0 h9) rfl rfl ⟨Nat.le_of_ble_eq_true rfl, Nat.le_of_ble_eq_true rfl⟩ rfl rfl (Nat.le_of_ble_eq_true rfl) ⟨Nat.zero_le _, Nat.zero_le _⟩ dX10_move_22 (fun H locs V => ?_)
      refine lv_goto (tgt := 29) X.1 X.2.1 dX10_move_25 (by decide) ?_
      exact bl_reti X V hr hf dX10_move_29
set_option maxHeartbeats 4000000 in
set_option maxRecDepth 100000 in
theorem w_X10_anew_15 {p : Program} {l : Launch} {e : Env} {s : State} {m : MethodId} {below : List Frame} {meth : Method} {c : Code} {g : bl_Gp} {as : List Value} {out : Int32 × bl_St} (X : bl_Cx g p s m as.toArray meth c cX10_anew 3 RX10) (hr : meth.sig.returnType = (Option.some Jvm.ClassFile.FieldType.int)) (k15 : bl_St → Nat → Int32 → Int32 → Option (Int32 × bl_St)) (hk15 : ∀ (σ : bl_St) (v0 : Nat) (v1 : Int32) (v2 : Int32), bl_sh[v0]? = some (10, 28) → k15 σ v0 v1 v2 = some out → ∀ (H : Heap) (locs : List Loc) (ls : Array Slot), bl_V g s σ H locs → lv_has ls 3 [(0, .ref (bl_ad g v0)), (1, .int v1), (2, .int v2)] → W p l e (bl_rm 1 21) s m as.toArray below meth c H locs 0 0 (bl_Qi below g s as out) (F0 m 15 ls [])) : ∀ (σ : bl_St) (v0 : Nat) (v1 : Int32) (v2 : Int32), bl_sh[v0]? = some (10, 28) → (b_X10_anew_15 k15) σ v0 v1 v2 = some out → ∀ (H : Heap) (locs : List Loc) (ls : Array Slot), bl_V g s σ H locs → lv_has ls 3 [(0, .ref (bl_ad g v0)), (1, .int v1), (2, .int v2)] → W p l e (bl_rm 1 21) s m as.toArray below meth c H locs 0 0 (bl_Qi below g s as out) (F0 m 15 ls []) := by
  intro σ v0 v1 v2 hv0 hf H locs ls V hl
  unfold b_X10_anew_15 at hf
  refine lv_iload_n X.1 X.2.1 dX10_anew_15 rfl (lv_at hl 2 rfl) ?_
  refine lv_sipush (v := 167) X.1 X.2.1 dX10_anew_16 (by decide) ?_
  refine lv_icmp_ge (tgt := 35) X.1 X.2.1 dX10_anew_19 (by decide) (fun c1 => ?_) (fun c1 => ?_)
  · have hf := bl_ifp c1 hf
    refine lv_iload_n X.1 X.2.1 dX10_anew_35 rfl (lv_at hl 1 rfl) ?_
    exact bl_reti X V hr hf dX10_anew_36
  · have hf := bl_ifn c1 hf
    refine lv_aload_n X.1 X.2.1 dX10_anew_22 rfl (lv_at hl 0 rfl) ?_
    refine bl_getr X V hv0 fl_X10_13 rfl dX10_anew_23 (fun h2 => ?_)
    refine lv_iload_n X.1 X.2.1 dX10_anew_26 rfl (lv_at hl 2 rfl) ?_
    refine lv_iconst (v := 0) X.1 X.2.1 dX10_anew_27 (by decide) ?_
    obtain ⟨h3, hf⟩ := bl_gd_at hf
    refine bl_iast (k := (Int32.toNatClampNeg v2)) X V h2 h3 rfl dX10_anew_28 (fun σ4 H locs e5 V => ?_)
    have hf := bl_let_at e5 hf
    obtain ⟨x6, e7⟩ : ∃ z : Int32, z = v2 + 1 := ⟨_, rfl⟩
    have hf := bl_let_at e7 hf
    refine lv_iinc (v := x6) (lv' := [(2, .int x6), (0, .ref (bl_ad g v0)), (1, .int v1)]) X.1 X.2.1 dX10_anew_29 hl (k := 2) rfl (by rw [e7]; rfl) (by decide) rfl (fun ls hl => ?_)
    refine lv_goto (tgt := 15) X.1 X.2.1 dX10_anew_32 (by decide) ?_
    exact hk15 σ4 v0 v1 x6 hv0 hf _ _ _ V (lv_sub hl [1, 2, 0] rfl)
theorem l_X10_anew_15 {p : Program} {l : Launch} {e : Env} {s : State} {m : MethodId} {below : List Frame} {meth : Method} {c : Code} {g : bl_Gp} {as : List Value} {out : Int32 × bl_St} (X : bl_Cx g p s m as.toArray meth c cX10_anew 3 RX10) (hr : meth.sig.returnType = (Option.some Jvm.ClassFile.FieldType.int)) (n : Nat) : ∀ (σ : bl_St) (v0 : Nat) (v1 : Int32) (v2 : Int32), bl_sh[v0]? = some (10, 28) → (bl_fx (fun _ _ _ _ => none) (b_X10_anew_15 ) n) σ v0 v1 v2 = some out → ∀ (H : Heap) (locs : List Loc) (ls : Array Slot), bl_V g s σ H locs → lv_has ls 3 [(0, .ref (bl_ad g v0)), (1, .int v1), (2, .int v2)] → W p l e (bl_rm 1 21) s m as.toArray below meth c H locs 0 0 (bl_Qi below g s as out) (F0 m 15 ls []) := by
  induction n with
  | zero =>
    intro σ v0 v1 v2 hv0 hf H locs ls V hl
    cases hf
  | succ n ih => exact w_X10_anew_15 X hr  _ ih
set_option maxHeartbeats 4000000 in
set_option maxRecDepth 100000 in
theorem t_X10_anew (l : Launch) (g : bl_Gp) (σ : bl_St) (a0 : Nat) (o : Int32 × bl_St) (ha0 : bl_sh[a0]? = some (10, 28)) (hf : f_X10_anew σ a0 = some o) : bl_Ci l g yX10_anew cX10_anew 3 (Option.some Jvm.ClassFile.FieldType.int) (bl_rm 1 21) [.ref (bl_ad g a0)] σ o := by
  refine bl_met (by decide) (Nat.le_of_ble_eq_true rfl) (fun p e s m below meth c ls X hr V hl => ?_)
  have hl : lv_has ls 3 [(0, .ref (bl_ad g a0))] := hl
  unfold f_X10_anew at hf
  refine lv_aload_n X.1 X.2.1 dX10_anew_0 rfl (lv_at hl 0 rfl) ?_
  obtain ⟨r8, σ9, h10, hf⟩ := bl_bd_at hf
  refine bl_cVv (As := []) X V hl.1 ha0 rfl ml_X10_81 mV_X10_keeps (t_X10_keeps l g σ a0 _ ha0 h10) rfl rfl ⟨Nat.le_of_ble_eq_true rfl, Nat.le_of_ble_eq_true rfl⟩ rfl rfl (Nat.le_of_ble_eq_true rfl) ⟨Nat.zero_le _, Nat.zero_le _⟩ dX10_anew_1 (fun H locs V => ?_)
  refine lv_aload_n X.1 X.2.1 dX10_anew_4 rfl (lv_at hl 0 rfl) ?_
  refine bl_getr X V ha0 fl_X10_13 rfl dX10_anew_5 (fun h11 => ?_)
  refine lv_bipush (v := 60) X.1 X.2.1 dX10_anew_8 (by decide) ?_
  refine bl_iald (k := 60) X V h11 (by decide) (by decide) dX10_anew_10 ?_
  refine lv_topi (fun x12 e13 => ?_)
  have hf := bl_let_at e13 hf
  refine lv_istore_n (lv' := [(1, .int x12), (0, .ref (bl_ad g a0))]) X.1 X.2.1 dX10_anew_11 rfl hl (by decide) rfl (fun ls hl => ?_)
  refine lv_bipush (v := 55) X.1 X.2.1 dX10_anew_12 (by decide) ?_
  refine lv_istore_n (lv' := [(2, .int 55), (1, .int x12), (0, .ref (bl_ad g a0))]) X.1 X.2.1 dX10_anew_14 rfl hl (by decide) rfl (fun ls hl => ?_)
  exact l_X10_anew_15 X hr  bl_fu σ9 a0 x12 55 ha0 hf _ _ _ V (lv_sub hl [2, 1, 0] rfl)
set_option maxHeartbeats 4000000 in
set_option maxRecDepth 100000 in
theorem w_X10_undo_21 {p : Program} {l : Launch} {e : Env} {s : State} {m : MethodId} {below : List Frame} {meth : Method} {c : Code} {g : bl_Gp} {as : List Value} {out : Int32 × bl_St} (X : bl_Cx g p s m as.toArray meth c cX10_undo 2 RX10) (hr : meth.sig.returnType = (Option.some Jvm.ClassFile.FieldType.int)) (k21 : bl_St → Nat → Int32 → Option (Int32 × bl_St)) (hk21 : ∀ (σ : bl_St) (v0 : Nat) (v1 : Int32), bl_sh[v0]? = some (10, 28) → k21 σ v0 v1 = some out → ∀ (H : Heap) (locs : List Loc) (ls : Array Slot), bl_V g s σ H locs → lv_has ls 2 [(0, .ref (bl_ad g v0)), (1, .int v1)] → W p l e (bl_rm 0 0) s m as.toArray below meth c H locs 0 0 (bl_Qi below g s as out) (F0 m 21 ls [])) : ∀ (σ : bl_St) (v0 : Nat) (v1 : Int32), bl_sh[v0]? = some (10, 28) → (b_X10_undo_21 k21) σ v0 v1 = some out → ∀ (H : Heap) (locs : List Loc) (ls : Array Slot), bl_V g s σ H locs → lv_has ls 2 [(0, .ref (bl_ad g v0)), (1, .int v1)] → W p l e (bl_rm 0 0) s m as.toArray below meth c H locs 0 0 (bl_Qi below g s as out) (F0 m 21 ls []) := by
  intro σ v0 v1 hv0 hf H locs ls V hl
  unfold b_X10_undo_21 at hf
  refine lv_iload_n X.1 X.2.1 dX10_undo_21 rfl (lv_at hl 1 rfl) ?_
  refine lv_sipush (v := 167) X.1 X.2.1 dX10_undo_22 (by decide) ?_
  refine lv_icmp_ge (tgt := 55) X.1 X.2.1 dX10_undo_25 (by decide) (fun c1 => ?_) (fun c1 => ?_)
  · have hf := bl_ifp c1 hf
    refine lv_aload_n X.1 X.2.1 dX10_undo_55 rfl (lv_at hl 0 rfl) ?_
    refine bl_geti X V hv0 fl_X10_63 dX10_undo_56 ?_
    exact bl_reti X V hr hf dX10_undo_59
  · have hf := bl_ifn c1 hf
    refine lv_aload_n X.1 X.2.1 dX10_undo_28 rfl (lv_at hl 0 rfl) ?_
    refine bl_getr X V hv0 fl_X10_13 rfl dX10_undo_29 (fun h2 => ?_)
    refine lv_iload_n X.1 X.2.1 dX10_undo_32 rfl (lv_at hl 1 rfl) ?_
    refine lv_aload_n X.1 X.2.1 dX10_undo_33 rfl (lv_at hl 0 rfl) ?_
    refine bl_getr X V hv0 fl_X10_23 rfl dX10_undo_34 (fun h3 => ?_)
    refine lv_sipush (v := 167) X.1 X.2.1 dX10_undo_37 (by decide) ?_
    refine lv_aload_n X.1 X.2.1 dX10_undo_40 rfl (lv_at hl 0 rfl) ?_
    refine bl_geti X V hv0 fl_X10_63 dX10_undo_41 ?_
    refine lv_imul X.1 X.2.1 dX10_undo_44 ?_
    refine lv_iload_n X.1 X.2.1 dX10_undo_45 rfl (lv_at hl 1 rfl) ?_
    refine lv_iadd X.1 X.2.1 dX10_undo_46 ?_
    obtain ⟨h4, hf⟩ := bl_gd_at hf
    refine bl_iald (k := (Int32.toNatClampNeg ((167 * (bl_I σ v0 5)) + v1))) X V h3 h4 rfl dX10_undo_47 ?_
    obtain ⟨h5, hf⟩ := bl_gd_at hf
    refine bl_iast (k := (Int32.toNatClampNeg v1)) X V h2 h5 rfl dX10_undo_48 (fun σ6 H locs e7 V => ?_)
    have hf := bl_let_at e7 hf
    obtain ⟨x8, e9⟩ : ∃ z : Int32, z = v1 + 1 := ⟨_, rfl⟩
    have hf := bl_let_at e9 hf
    refine lv_iinc (v := x8) (lv' := [(1, .int x8), (0, .ref (bl_ad g v0))]) X.1 X.2.1 dX10_undo_49 hl (k := 1) rfl (by rw [e9]; rfl) (by decide) rfl (fun ls hl => ?_)
    refine lv_goto (tgt := 21) X.1 X.2.1 dX10_undo_52 (by decide) ?_
    exact hk21 σ6 v0 x8 hv0 hf _ _ _ V (lv_sub hl [1, 0] rfl)
theorem l_X10_undo_21 {p : Program} {l : Launch} {e : Env} {s : State} {m : MethodId} {below : List Frame} {meth : Method} {c : Code} {g : bl_Gp} {as : List Value} {out : Int32 × bl_St} (X : bl_Cx g p s m as.toArray meth c cX10_undo 2 RX10) (hr : meth.sig.returnType = (Option.some Jvm.ClassFile.FieldType.int)) (n : Nat) : ∀ (σ : bl_St) (v0 : Nat) (v1 : Int32), bl_sh[v0]? = some (10, 28) → (bl_fx (fun _ _ _ => none) (b_X10_undo_21 ) n) σ v0 v1 = some out → ∀ (H : Heap) (locs : List Loc) (ls : Array Slot), bl_V g s σ H locs → lv_has ls 2 [(0, .ref (bl_ad g v0)), (1, .int v1)] → W p l e (bl_rm 0 0) s m as.toArray below meth c H locs 0 0 (bl_Qi below g s as out) (F0 m 21 ls []) := by
  induction n with
  | zero =>
    intro σ v0 v1 hv0 hf H locs ls V hl
    cases hf
  | succ n ih => exact w_X10_undo_21 X hr  _ ih
set_option maxHeartbeats 4000000 in
set_option maxRecDepth 100000 in
theorem t_X10_undo (l : Launch) (g : bl_Gp) (σ : bl_St) (a0 : Nat) (o : Int32 × bl_St) (ha0 : bl_sh[a0]? = some (10, 28)) (hf : f_X10_undo σ a0 = some o) : bl_Ci l g yX10_undo cX10_undo 2 (Option.some Jvm.ClassFile.FieldType.int) (bl_rm 0 0) [.ref (bl_ad g a0)] σ o := by
  refine bl_met (by decide) (Nat.le_of_ble_eq_true rfl) (fun p e s m below meth c ls X hr V hl => ?_)
  have hl : lv_has ls 2 [(0, .ref (bl_ad g a0))] := hl
  unfold f_X10_undo at hf
  refine lv_aload_n X.1 X.2.1 dX10_undo_0 rfl (lv_at hl 0 rfl) ?_
  refine bl_geti X V ha0 fl_X10_63 dX10_undo_1 ?_
  refine lv_if_ne (tgt := 9) X.1 X.2.1 dX10_undo_4 (by decide) (fun c10 => ?_) (fun c10 => ?_)
  · have hf := bl_ifn c10 hf
    refine lv_aload_n X.1 X.2.1 dX10_undo_9 rfl (lv_at hl 0 rfl) ?_
    refine lv_dup X.1 X.2.1 dX10_undo_10 rfl ?_
    refine bl_geti X V ha0 fl_X10_63 dX10_undo_11 ?_
    refine lv_iconst (v := 1) X.1 X.2.1 dX10_undo_14 (by decide) ?_
    refine lv_isub X.1 X.2.1 dX10_undo_15 ?_
    refine bl_puti X V ha0 fp_X10_63 rfl rfl dX10_undo_16 (fun σ11 H locs e12 V => ?_)
    have hf := bl_let_at e12 hf
    refine lv_iconst (v := 0) X.1 X.2.1 dX10_undo_19 (by decide) ?_
    refine lv_istore_n (lv' := [(1, .int 0), (0, .ref (bl_ad g a0))]) X.1 X.2.1 dX10_undo_20 rfl hl (by decide) rfl (fun ls hl => ?_)
    exact l_X10_undo_21 X hr  bl_fu σ11 a0 0 ha0 hf _ _ _ V (lv_sub hl [1, 0] rfl)
  · have hf := bl_ifp c10 hf
    refine lv_iconst (v := (-1)) X.1 X.2.1 dX10_undo_7 (by decide) ?_
    exact bl_reti X V hr hf dX10_undo_8
set_option maxHeartbeats 4000000 in
set_option maxRecDepth 100000 in
theorem t_X10_areYears (l : Launch) (g : bl_Gp) (σ : bl_St) (a0 : Int32) (o : Int32 × bl_St) (hf : f_X10_areYears σ a0 = some o) : bl_Ci l g yX10_areYears cX10_areYears 1 (Option.some Jvm.ClassFile.FieldType.boolean) (bl_rm 1 25) [.int a0] σ o := by
  refine bl_met (by decide) (Nat.le_of_ble_eq_true rfl) (fun p e s m below meth c ls X hr V hl => ?_)
  have hl : lv_has ls 1 [(0, .int a0)] := hl
  unfold f_X10_areYears at hf
  refine lv_iload_n X.1 X.2.1 dX10_areYears_0 rfl (lv_at hl 0 rfl) ?_
  refine lv_i2l X.1 X.2.1 dX10_areYears_1 rfl ?_
  refine lv_lconst (v := 0) X.1 X.2.1 dX10_areYears_2 (by decide) ?_
  refine lv_ldc2 (v := 20) X.1 X.2.1 X.2.2.2.1 (X.2.2.2.2.1 _ kl_X10_163) dX10_areYears_3 ?_
  obtain ⟨r1, σ2, h3, hf⟩ := bl_bd_at hf
  refine bl_cSi (As := [.long (Int32.toInt64 a0), .long 0, .long 20]) X V hl.1 ml_X10_66 mS_X10_in (t_X10_in l g σ (Int32.toInt64 a0) 0 20 _  h3) rfl rfl ⟨Nat.le_of_ble_eq_true rfl, Nat.le_of_ble_eq_true rfl⟩ rfl rfl (Nat.le_of_ble_eq_true rfl) ⟨Nat.zero_le _, Nat.zero_le _⟩ dX10_areYears_6 (fun H locs V => ?_)
  obtain ⟨h4, hf⟩ := bl_gd_at hf
  exact bl_retz X V hr h4 hf dX10_areYears_9
set_option maxHeartbeats 4000000 in
set_option maxRecDepth 100000 in
theorem t_X10_bestCost (l : Launch) (g : bl_Gp) (σ : bl_St) (a0 : Nat) (a1 : Int32) (a2 : Int32) (o : Int64 × bl_St) (ha0 : bl_sh[a0]? = some (10, 28)) (hf : f_X10_bestCost σ a0 a1 a2 = some o) : bl_Cl l g yX10_bestCost cX10_bestCost 3 (Option.some Jvm.ClassFile.FieldType.long) (bl_rm 8 208) [.ref (bl_ad g a0), .int a1, .int a2] σ o := by
  refine bl_met (by decide) (Nat.le_of_ble_eq_true rfl) (fun p e s m below meth c ls X hr V hl => ?_)
  have hl : lv_has ls 3 [(0, .ref (bl_ad g a0)), (1, .int a1), (2, .int a2)] := hl
  unfold f_X10_bestCost at hf
  refine lv_aload_n X.1 X.2.1 dX10_bestCost_0 rfl (lv_at hl 0 rfl) ?_
  refine lv_iload_n X.1 X.2.1 dX10_bestCost_1 rfl (lv_at hl 1 rfl) ?_
  refine lv_iconst (v := 1) X.1 X.2.1 dX10_bestCost_2 (by decide) ?_
  refine lv_iconst (v := 0) X.1 X.2.1 dX10_bestCost_3 (by decide) ?_
  refine lv_iconst (v := 0) X.1 X.2.1 dX10_bestCost_4 (by decide) ?_
  obtain ⟨r1, σ2, h3, hf⟩ := bl_bd_at hf
  refine bl_cVv (As := [.int a1, .int 1, .int 0, .int 0]) X V hl.1 ha0 rfl ml_X10_142 mV_X10_lays (t_X10_lays l g σ a0 a1 1 0 0 _ ha0 h3) rfl rfl ⟨Nat.le_of_ble_eq_true rfl, Nat.le_of_ble_eq_true rfl⟩ rfl rfl (Nat.le_of_ble_eq_true rfl) ⟨Nat.zero_le _, Nat.zero_le _⟩ dX10_bestCost_5 (fun H locs V => ?_)
  refine lv_aload_n X.1 X.2.1 dX10_bestCost_8 rfl (lv_at hl 0 rfl) ?_
  refine lv_iload_n X.1 X.2.1 dX10_bestCost_9 rfl (lv_at hl 1 rfl) ?_
  refine lv_iload_n X.1 X.2.1 dX10_bestCost_10 rfl (lv_at hl 2 rfl) ?_
  obtain ⟨r4, σ5, h6, hf⟩ := bl_bd_at hf
  refine bl_cVl (As := [.int a1, .int a2]) X V hl.1 ha0 rfl ml_X10_210 mV_X10_costAt (t_X10_costAt l g σ2 a0 a1 a2 _ ha0 h6) rfl rfl ⟨Nat.le_of_ble_eq_true rfl, Nat.le_of_ble_eq_true rfl⟩ rfl rfl (Nat.le_of_ble_eq_true rfl) ⟨Nat.zero_le _, Nat.zero_le _⟩ dX10_bestCost_11 (fun H locs V => ?_)
  exact bl_retl X V hr hf dX10_bestCost_14
set_option maxHeartbeats 4000000 in
set_option maxRecDepth 100000 in
theorem t_X10_bareCost (l : Launch) (g : bl_Gp) (σ : bl_St) (a0 : Nat) (a1 : Int32) (a2 : Int32) (o : Int64 × bl_St) (ha0 : bl_sh[a0]? = some (10, 28)) (hf : f_X10_bareCost σ a0 a1 a2 = some o) : bl_Cl l g yX10_bareCost cX10_bareCost 3 (Option.some Jvm.ClassFile.FieldType.long) (bl_rm 8 208) [.ref (bl_ad g a0), .int a1, .int a2] σ o := by
  refine bl_met (by decide) (Nat.le_of_ble_eq_true rfl) (fun p e s m below meth c ls X hr V hl => ?_)
  have hl : lv_has ls 3 [(0, .ref (bl_ad g a0)), (1, .int a1), (2, .int a2)] := hl
  unfold f_X10_bareCost at hf
  refine lv_aload_n X.1 X.2.1 dX10_bareCost_0 rfl (lv_at hl 0 rfl) ?_
  refine lv_iload_n X.1 X.2.1 dX10_bareCost_1 rfl (lv_at hl 1 rfl) ?_
  refine lv_iconst (v := 0) X.1 X.2.1 dX10_bareCost_2 (by decide) ?_
  refine lv_iconst (v := 0) X.1 X.2.1 dX10_bareCost_3 (by decide) ?_
  refine lv_iconst (v := 0) X.1 X.2.1 dX10_bareCost_4 (by decide) ?_
  obtain ⟨r1, σ2, h3, hf⟩ := bl_bd_at hf
  refine bl_cVv (As := [.int a1, .int 0, .int 0, .int 0]) X V hl.1 ha0 rfl ml_X10_142 mV_X10_lays (t_X10_lays l g σ a0 a1 0 0 0 _ ha0 h3) rfl rfl ⟨Nat.le_of_ble_eq_true rfl, Nat.le_of_ble_eq_true rfl⟩ rfl rfl (Nat.le_of_ble_eq_true rfl) ⟨Nat.zero_le _, Nat.zero_le _⟩ dX10_bareCost_5 (fun H locs V => ?_)
  refine lv_aload_n X.1 X.2.1 dX10_bareCost_8 rfl (lv_at hl 0 rfl) ?_
  refine lv_iload_n X.1 X.2.1 dX10_bareCost_9 rfl (lv_at hl 1 rfl) ?_
  refine lv_iload_n X.1 X.2.1 dX10_bareCost_10 rfl (lv_at hl 2 rfl) ?_
  obtain ⟨r4, σ5, h6, hf⟩ := bl_bd_at hf
  refine bl_cVl (As := [.int a1, .int a2]) X V hl.1 ha0 rfl ml_X10_210 mV_X10_costAt (t_X10_costAt l g σ2 a0 a1 a2 _ ha0 h6) rfl rfl ⟨Nat.le_of_ble_eq_true rfl, Nat.le_of_ble_eq_true rfl⟩ rfl rfl (Nat.le_of_ble_eq_true rfl) ⟨Nat.zero_le _, Nat.zero_le _⟩ dX10_bareCost_11 (fun H locs V => ?_)
  exact bl_retl X V hr hf dX10_bareCost_14
set_option maxHeartbeats 4000000 in
set_option maxRecDepth 100000 in
theorem t_X10_cost (l : Launch) (g : bl_Gp) (σ : bl_St) (a0 : Nat) (a1 : Int32) (a2 : Int32) (o : Int64 × bl_St) (ha0 : bl_sh[a0]? = some (10, 28)) (hf : f_X10_cost σ a0 a1 a2 = some o) : bl_Cl l g yX10_cost cX10_cost 3 (Option.some Jvm.ClassFile.FieldType.long) (bl_rm 9 230) [.ref (bl_ad g a0), .int a1, .int a2] σ o := by
  refine bl_met (by decide) (Nat.le_of_ble_eq_true rfl) (fun p e s m below meth c ls X hr V hl => ?_)
  have hl : lv_has ls 3 [(0, .ref (bl_ad g a0)), (1, .int a1), (2, .int a2)] := hl
  unfold f_X10_cost at hf
  refine lv_iload_n X.1 X.2.1 dX10_cost_0 rfl (lv_at hl 1 rfl) ?_
  obtain ⟨r1, σ2, h3, hf⟩ := bl_bd_at hf
  refine bl_cSi (As := [.int a1]) X V hl.1 ml_X10_227 mS_X10_areYears (t_X10_areYears l g σ a1 _  h3) rfl rfl ⟨Nat.le_of_ble_eq_true rfl, Nat.le_of_ble_eq_true rfl⟩ rfl rfl (Nat.le_of_ble_eq_true rfl) ⟨Nat.zero_le _, Nat.zero_le _⟩ dX10_cost_1 (fun H locs V => ?_)
  refine lv_if_eq (tgt := 24) X.1 X.2.1 dX10_cost_4 (by decide) (fun c4 => ?_) (fun c4 => ?_)
  · have hf := bl_ifp c4 hf
    refine lv_ldc2 (v := (-1)) X.1 X.2.1 X.2.2.2.1 (X.2.2.2.2.1 _ kl_X10_233) dX10_cost_24 ?_
    exact bl_retl X V hr hf dX10_cost_27
  · have hf := bl_ifn c4 hf
    refine lv_aload_n X.1 X.2.1 dX10_cost_7 rfl (lv_at hl 0 rfl) ?_
    refine lv_iload_n X.1 X.2.1 dX10_cost_8 rfl (lv_at hl 2 rfl) ?_
    obtain ⟨r5, σ6, h7, hf⟩ := bl_bd_at hf
    refine bl_cVi (As := [.int a2]) X V hl.1 ha0 rfl ml_X10_84 mV_X10_isClass (t_X10_isClass l g σ2 a0 a2 _ ha0 h7) rfl rfl ⟨Nat.le_of_ble_eq_true rfl, Nat.le_of_ble_eq_true rfl⟩ rfl rfl (Nat.le_of_ble_eq_true rfl) ⟨Nat.zero_le _, Nat.zero_le _⟩ dX10_cost_9 (fun H locs V => ?_)
    refine lv_if_eq (tgt := 24) X.1 X.2.1 dX10_cost_12 (by decide) (fun c8 => ?_) (fun c8 => ?_)
    · have hf := bl_ifp c8 hf
      refine lv_ldc2 (v := (-1)) X.1 X.2.1 X.2.2.2.1 (X.2.2.2.2.1 _ kl_X10_233) dX10_cost_24 ?_
      exact bl_retl X V hr hf dX10_cost_27
    · have hf := bl_ifn c8 hf
      refine lv_aload_n X.1 X.2.1 dX10_cost_15 rfl (lv_at hl 0 rfl) ?_
      refine lv_iload_n X.1 X.2.1 dX10_cost_16 rfl (lv_at hl 1 rfl) ?_
      refine lv_iload_n X.1 X.2.1 dX10_cost_17 rfl (lv_at hl 2 rfl) ?_
      obtain ⟨r9, σ10, h11, hf⟩ := bl_bd_at hf
      refine bl_cVl (As := [.int a1, .int a2]) X V hl.1 ha0 rfl ml_X10_230 mV_X10_bestCost (t_X10_bestCost l g σ6 a0 a1 a2 _ ha0 h11) rfl rfl ⟨Nat.le_of_ble_eq_true rfl, Nat.le_of_ble_eq_true rfl⟩ rfl rfl (Nat.le_of_ble_eq_true rfl) ⟨Nat.zero_le _, Nat.zero_le _⟩ dX10_cost_18 (fun H locs V => ?_)
      refine lv_goto (tgt := 27) X.1 X.2.1 dX10_cost_21 (by decide) ?_
      exact bl_retl X V hr hf dX10_cost_27
set_option maxHeartbeats 4000000 in
set_option maxRecDepth 100000 in
theorem t_X10_guards (l : Launch) (g : bl_Gp) (σ : bl_St) (a0 : Nat) (a1 : Int32) (a2 : Int32) (o : Int32 × bl_St) (ha0 : bl_sh[a0]? = some (10, 28)) (hf : f_X10_guards σ a0 a1 a2 = some o) : bl_Ci l g yX10_guards cX10_guards 3 (Option.some Jvm.ClassFile.FieldType.int) (bl_rm 8 208) [.ref (bl_ad g a0), .int a1, .int a2] σ o := by
  refine bl_met (by decide) (Nat.le_of_ble_eq_true rfl) (fun p e s m below meth c ls X hr V hl => ?_)
  have hl : lv_has ls 3 [(0, .ref (bl_ad g a0)), (1, .int a1), (2, .int a2)] := hl
  unfold f_X10_guards at hf
  refine lv_iload_n X.1 X.2.1 dX10_guards_0 rfl (lv_at hl 1 rfl) ?_
  obtain ⟨r1, σ2, h3, hf⟩ := bl_bd_at hf
  refine bl_cSi (As := [.int a1]) X V hl.1 ml_X10_227 mS_X10_areYears (t_X10_areYears l g σ a1 _  h3) rfl rfl ⟨Nat.le_of_ble_eq_true rfl, Nat.le_of_ble_eq_true rfl⟩ rfl rfl (Nat.le_of_ble_eq_true rfl) ⟨Nat.zero_le _, Nat.zero_le _⟩ dX10_guards_1 (fun H locs V => ?_)
  refine lv_if_eq (tgt := 15) X.1 X.2.1 dX10_guards_4 (by decide) (fun c4 => ?_) (fun c4 => ?_)
  · have hf := bl_ifp c4 hf
    refine lv_iconst (v := (-1)) X.1 X.2.1 dX10_guards_15 (by decide) ?_
    exact bl_reti X V hr hf dX10_guards_16
  · have hf := bl_ifn c4 hf
    refine lv_aload_n X.1 X.2.1 dX10_guards_7 rfl (lv_at hl 0 rfl) ?_
    refine lv_iload_n X.1 X.2.1 dX10_guards_8 rfl (lv_at hl 2 rfl) ?_
    obtain ⟨r5, σ6, h7, hf⟩ := bl_bd_at hf
    refine bl_cVi (As := [.int a2]) X V hl.1 ha0 rfl ml_X10_84 mV_X10_isClass (t_X10_isClass l g σ2 a0 a2 _ ha0 h7) rfl rfl ⟨Nat.le_of_ble_eq_true rfl, Nat.le_of_ble_eq_true rfl⟩ rfl rfl (Nat.le_of_ble_eq_true rfl) ⟨Nat.zero_le _, Nat.zero_le _⟩ dX10_guards_9 (fun H locs V => ?_)
    refine lv_if_ne (tgt := 17) X.1 X.2.1 dX10_guards_12 (by decide) (fun c8 => ?_) (fun c8 => ?_)
    · have hf := bl_ifn c8 hf
      refine lv_aload_n X.1 X.2.1 dX10_guards_17 rfl (lv_at hl 0 rfl) ?_
      refine lv_iload_n X.1 X.2.1 dX10_guards_18 rfl (lv_at hl 1 rfl) ?_
      refine lv_iconst (v := 1) X.1 X.2.1 dX10_guards_19 (by decide) ?_
      refine lv_iconst (v := 0) X.1 X.2.1 dX10_guards_20 (by decide) ?_
      refine lv_iconst (v := 0) X.1 X.2.1 dX10_guards_21 (by decide) ?_
      obtain ⟨r9, σ10, h11, hf⟩ := bl_bd_at hf
      refine bl_cVv (As := [.int a1, .int 1, .int 0, .int 0]) X V hl.1 ha0 rfl ml_X10_142 mV_X10_lays (t_X10_lays l g σ6 a0 a1 1 0 0 _ ha0 h11) rfl rfl ⟨Nat.le_of_ble_eq_true rfl, Nat.le_of_ble_eq_true rfl⟩ rfl rfl (Nat.le_of_ble_eq_true rfl) ⟨Nat.zero_le _, Nat.zero_le _⟩ dX10_guards_22 (fun H locs V => ?_)
      refine lv_iload_n X.1 X.2.1 dX10_guards_25 rfl (lv_at hl 1 rfl) ?_
      refine lv_if_le (tgt := 42) X.1 X.2.1 dX10_guards_26 (by decide) (fun c12 => ?_) (fun c12 => ?_)
      · have hf := bl_ifp c12 hf
        refine lv_iconst (v := 0) X.1 X.2.1 dX10_guards_42 (by decide) ?_
        exact bl_reti X V hr hf dX10_guards_43
      · have hf := bl_ifn c12 hf
        refine lv_aload_n X.1 X.2.1 dX10_guards_29 rfl (lv_at hl 0 rfl) ?_
        refine lv_iload_n X.1 X.2.1 dX10_guards_30 rfl (lv_at hl 1 rfl) ?_
        refine lv_iload_n X.1 X.2.1 dX10_guards_31 rfl (lv_at hl 2 rfl) ?_
        obtain ⟨r13, σ14, h15, hf⟩ := bl_bd_at hf
        refine bl_cVi (As := [.int a1, .int a2]) X V hl.1 ha0 rfl ml_X10_146 mV_X10_isGuarded (t_X10_isGuarded l g σ10 a0 a1 a2 _ ha0 h15) rfl rfl ⟨Nat.le_of_ble_eq_true rfl, Nat.le_of_ble_eq_true rfl⟩ rfl rfl (Nat.le_of_ble_eq_true rfl) ⟨Nat.zero_le _, Nat.zero_le _⟩ dX10_guards_32 (fun H locs V => ?_)
        refine lv_if_eq (tgt := 42) X.1 X.2.1 dX10_guards_35 (by decide) (fun c16 => ?_) (fun c16 => ?_)
        · have hf := bl_ifp c16 hf
          refine lv_iconst (v := 0) X.1 X.2.1 dX10_guards_42 (by decide) ?_
          exact bl_reti X V hr hf dX10_guards_43
        · have hf := bl_ifn c16 hf
          refine lv_iconst (v := 1) X.1 X.2.1 dX10_guards_38 (by decide) ?_
          refine lv_goto (tgt := 43) X.1 X.2.1 dX10_guards_39 (by decide) ?_
          exact bl_reti X V hr hf dX10_guards_43
    · have hf := bl_ifp c8 hf
      refine lv_iconst (v := (-1)) X.1 X.2.1 dX10_guards_15 (by decide) ?_
      exact bl_reti X V hr hf dX10_guards_16
set_option maxHeartbeats 4000000 in
set_option maxRecDepth 100000 in
theorem t_X10_isChance (l : Launch) (g : bl_Gp) (σ : bl_St) (a0 : Nat) (a1 : Int32) (a2 : Int32) (a3 : Int32) (a4 : Int32) (a5 : Int32) (o : Int32 × bl_St) (ha0 : bl_sh[a0]? = some (10, 28)) (hf : f_X10_isChance σ a0 a1 a2 a3 a4 a5 = some o) : bl_Ci l g yX10_isChance cX10_isChance 6 (Option.some Jvm.ClassFile.FieldType.boolean) (bl_rm 8 208) [.ref (bl_ad g a0), .int a1, .int a2, .int a3, .int a4, .int a5] σ o := by
  refine bl_met (by decide) (Nat.le_of_ble_eq_true rfl) (fun p e s m below meth c ls X hr V hl => ?_)
  have hl : lv_has ls 6 [(0, .ref (bl_ad g a0)), (1, .int a1), (2, .int a2), (3, .int a3), (4, .int a4), (5, .int a5)] := hl
  unfold f_X10_isChance at hf
  refine lv_iload_n X.1 X.2.1 dX10_isChance_0 rfl (lv_at hl 1 rfl) ?_
  refine lv_i2l X.1 X.2.1 dX10_isChance_1 rfl ?_
  refine lv_lconst (v := 1) X.1 X.2.1 dX10_isChance_2 (by decide) ?_
  refine lv_ldc2 (v := 20) X.1 X.2.1 X.2.2.2.1 (X.2.2.2.2.1 _ kl_X10_163) dX10_isChance_3 ?_
  obtain ⟨r1, σ2, h3, hf⟩ := bl_bd_at hf
  refine bl_cSi (As := [.long (Int32.toInt64 a1), .long 1, .long 20]) X V hl.1 ml_X10_66 mS_X10_in (t_X10_in l g σ (Int32.toInt64 a1) 1 20 _  h3) rfl rfl ⟨Nat.le_of_ble_eq_true rfl, Nat.le_of_ble_eq_true rfl⟩ rfl rfl (Nat.le_of_ble_eq_true rfl) ⟨Nat.zero_le _, Nat.zero_le _⟩ dX10_isChance_6 (fun H locs V => ?_)
  refine lv_if_eq (tgt := 45) X.1 X.2.1 dX10_isChance_9 (by decide) (fun c4 => ?_) (fun c4 => ?_)
  · have hf := bl_ifp c4 hf
    refine lv_iconst (v := 0) X.1 X.2.1 dX10_isChance_45 (by decide) ?_
    exact bl_retz X V hr (by decide) hf dX10_isChance_46
  · have hf := bl_ifn c4 hf
    refine lv_aload_n X.1 X.2.1 dX10_isChance_12 rfl (lv_at hl 0 rfl) ?_
    refine lv_iload_n X.1 X.2.1 dX10_isChance_13 rfl (lv_at hl 2 rfl) ?_
    obtain ⟨r5, σ6, h7, hf⟩ := bl_bd_at hf
    refine bl_cVi (As := [.int a2]) X V hl.1 ha0 rfl ml_X10_84 mV_X10_isClass (t_X10_isClass l g σ2 a0 a2 _ ha0 h7) rfl rfl ⟨Nat.le_of_ble_eq_true rfl, Nat.le_of_ble_eq_true rfl⟩ rfl rfl (Nat.le_of_ble_eq_true rfl) ⟨Nat.zero_le _, Nat.zero_le _⟩ dX10_isChance_14 (fun H locs V => ?_)
    refine lv_if_eq (tgt := 45) X.1 X.2.1 dX10_isChance_17 (by decide) (fun c8 => ?_) (fun c8 => ?_)
    · have hf := bl_ifp c8 hf
      refine lv_iconst (v := 0) X.1 X.2.1 dX10_isChance_45 (by decide) ?_
      exact bl_retz X V hr (by decide) hf dX10_isChance_46
    · have hf := bl_ifn c8 hf
      refine lv_iload_n X.1 X.2.1 dX10_isChance_20 rfl (lv_at hl 3 rfl) ?_
      refine lv_i2l X.1 X.2.1 dX10_isChance_21 rfl ?_
      refine lv_lconst (v := 0) X.1 X.2.1 dX10_isChance_22 (by decide) ?_
      refine lv_iload X.1 X.2.1 dX10_isChance_23 (lv_at hl 5 rfl) ?_
      refine lv_i2l X.1 X.2.1 dX10_isChance_25 rfl ?_
      obtain ⟨r9, σ10, h11, hf⟩ := bl_bd_at hf
      refine bl_cSi (As := [.long (Int32.toInt64 a3), .long 0, .long (Int32.toInt64 a5)]) X V hl.1 ml_X10_66 mS_X10_in (t_X10_in l g σ6 (Int32.toInt64 a3) 0 (Int32.toInt64 a5) _  h11) rfl rfl ⟨Nat.le_of_ble_eq_true rfl, Nat.le_of_ble_eq_true rfl⟩ rfl rfl (Nat.le_of_ble_eq_true rfl) ⟨Nat.zero_le _, Nat.zero_le _⟩ dX10_isChance_26 (fun H locs V => ?_)
      refine lv_if_eq (tgt := 45) X.1 X.2.1 dX10_isChance_29 (by decide) (fun c12 => ?_) (fun c12 => ?_)
      · have hf := bl_ifp c12 hf
        refine lv_iconst (v := 0) X.1 X.2.1 dX10_isChance_45 (by decide) ?_
        exact bl_retz X V hr (by decide) hf dX10_isChance_46
      · have hf := bl_ifn c12 hf
        refine lv_iload X.1 X.2.1 dX10_isChance_32 (lv_at hl 4 rfl) ?_
        refine lv_i2l X.1 X.2.1 dX10_isChance_34 rfl ?_
        refine lv_lconst (v := 0) X.1 X.2.1 dX10_isChance_35 (by decide) ?_
        refine lv_ldc2 (v := 2) X.1 X.2.1 X.2.2.2.1 (X.2.2.2.2.1 _ kl_X10_235) dX10_isChance_36 ?_
        obtain ⟨r13, σ14, h15, hf⟩ := bl_bd_at hf
        refine bl_cSi (As := [.long (Int32.toInt64 a4), .long 0, .long 2]) X V hl.1 ml_X10_66 mS_X10_in (t_X10_in l g σ10 (Int32.toInt64 a4) 0 2 _  h15) rfl rfl ⟨Nat.le_of_ble_eq_true rfl, Nat.le_of_ble_eq_true rfl⟩ rfl rfl (Nat.le_of_ble_eq_true rfl) ⟨Nat.zero_le _, Nat.zero_le _⟩ dX10_isChance_39 (fun H locs V => ?_)
        refine lv_if_ne (tgt := 47) X.1 X.2.1 dX10_isChance_42 (by decide) (fun c16 => ?_) (fun c16 => ?_)
        · have hf := bl_ifn c16 hf
          refine lv_aload_n X.1 X.2.1 dX10_isChance_47 rfl (lv_at hl 0 rfl) ?_
          refine lv_iload_n X.1 X.2.1 dX10_isChance_48 rfl (lv_at hl 1 rfl) ?_
          refine lv_iconst (v := 1) X.1 X.2.1 dX10_isChance_49 (by decide) ?_
          refine lv_iconst (v := 0) X.1 X.2.1 dX10_isChance_50 (by decide) ?_
          refine lv_iconst (v := 0) X.1 X.2.1 dX10_isChance_51 (by decide) ?_
          obtain ⟨r17, σ18, h19, hf⟩ := bl_bd_at hf
          refine bl_cVv (As := [.int a1, .int 1, .int 0, .int 0]) X V hl.1 ha0 rfl ml_X10_142 mV_X10_lays (t_X10_lays l g σ14 a0 a1 1 0 0 _ ha0 h19) rfl rfl ⟨Nat.le_of_ble_eq_true rfl, Nat.le_of_ble_eq_true rfl⟩ rfl rfl (Nat.le_of_ble_eq_true rfl) ⟨Nat.zero_le _, Nat.zero_le _⟩ dX10_isChance_52 (fun H locs V => ?_)
          refine lv_aload_n X.1 X.2.1 dX10_isChance_55 rfl (lv_at hl 0 rfl) ?_
          refine lv_iload_n X.1 X.2.1 dX10_isChance_56 rfl (lv_at hl 1 rfl) ?_
          refine lv_iload_n X.1 X.2.1 dX10_isChance_57 rfl (lv_at hl 2 rfl) ?_
          obtain ⟨r20, σ21, h22, hf⟩ := bl_bd_at hf
          refine bl_cVv (As := [.int a1, .int a2]) X V hl.1 ha0 rfl ml_X10_152 mV_X10_laysChances (t_X10_laysChances l g σ18 a0 a1 a2 _ ha0 h22) rfl rfl ⟨Nat.le_of_ble_eq_true rfl, Nat.le_of_ble_eq_true rfl⟩ rfl rfl (Nat.le_of_ble_eq_true rfl) ⟨Nat.zero_le _, Nat.zero_le _⟩ dX10_isChance_58 (fun H locs V => ?_)
          refine lv_iconst (v := 1) X.1 X.2.1 dX10_isChance_61 (by decide) ?_
          exact bl_retz X V hr (by decide) hf dX10_isChance_62
        · have hf := bl_ifp c16 hf
          refine lv_iconst (v := 0) X.1 X.2.1 dX10_isChance_45 (by decide) ?_
          exact bl_retz X V hr (by decide) hf dX10_isChance_46
set_option maxHeartbeats 4000000 in
set_option maxRecDepth 100000 in
theorem t_X10_ahead (l : Launch) (g : bl_Gp) (σ : bl_St) (a0 : Nat) (a1 : Int32) (a2 : Int32) (a3 : Int32) (a4 : Int32) (a5 : Int32) (o : Int64 × bl_St) (ha0 : bl_sh[a0]? = some (10, 28)) (hf : f_X10_ahead σ a0 a1 a2 a3 a4 a5 = some o) : bl_Cl l g yX10_ahead cX10_ahead 6 (Option.some Jvm.ClassFile.FieldType.long) (bl_rm 9 233) [.ref (bl_ad g a0), .int a1, .int a2, .int a3, .int a4, .int a5] σ o := by
  refine bl_met (by decide) (Nat.le_of_ble_eq_true rfl) (fun p e s m below meth c ls X hr V hl => ?_)
  have hl : lv_has ls 6 [(0, .ref (bl_ad g a0)), (1, .int a1), (2, .int a2), (3, .int a3), (4, .int a4), (5, .int a5)] := hl
  unfold f_X10_ahead at hf
  refine lv_aload_n X.1 X.2.1 dX10_ahead_0 rfl (lv_at hl 0 rfl) ?_
  refine lv_iload_n X.1 X.2.1 dX10_ahead_1 rfl (lv_at hl 1 rfl) ?_
  refine lv_iload_n X.1 X.2.1 dX10_ahead_2 rfl (lv_at hl 2 rfl) ?_
  refine lv_iload_n X.1 X.2.1 dX10_ahead_3 rfl (lv_at hl 3 rfl) ?_
  refine lv_iload X.1 X.2.1 dX10_ahead_4 (lv_at hl 4 rfl) ?_
  refine lv_aload_n X.1 X.2.1 dX10_ahead_6 rfl (lv_at hl 0 rfl) ?_
  refine bl_getr X V ha0 fl_X10_13 rfl dX10_ahead_7 (fun h1 => ?_)
  refine lv_iconst (v := 2) X.1 X.2.1 dX10_ahead_10 (by decide) ?_
  refine bl_iald (k := 2) X V h1 (by decide) (by decide) dX10_ahead_11 ?_
  obtain ⟨r2, σ3, h4, hf⟩ := bl_bd_at hf
  refine bl_cVi (As := [.int a1, .int a2, .int a3, .int a4, .int (bl_I σ (bl_R σ a0 1) 2)]) X V hl.1 ha0 rfl ml_X10_237 mV_X10_isChance (t_X10_isChance l g σ a0 a1 a2 a3 a4 (bl_I σ (bl_R σ a0 1) 2) _ ha0 h4) rfl rfl ⟨Nat.le_of_ble_eq_true rfl, Nat.le_of_ble_eq_true rfl⟩ rfl rfl (Nat.le_of_ble_eq_true rfl) ⟨Nat.zero_le _, Nat.zero_le _⟩ dX10_ahead_12 (fun H locs V => ?_)
  refine lv_if_eq (tgt := 42) X.1 X.2.1 dX10_ahead_15 (by decide) (fun c5 => ?_) (fun c5 => ?_)
  · have hf := bl_ifp c5 hf
    refine lv_ldc2 (v := (-1)) X.1 X.2.1 X.2.2.2.1 (X.2.2.2.2.1 _ kl_X10_233) dX10_ahead_42 ?_
    exact bl_retl X V hr hf dX10_ahead_45
  · have hf := bl_ifn c5 hf
    refine lv_aload_n X.1 X.2.1 dX10_ahead_18 rfl (lv_at hl 0 rfl) ?_
    refine bl_getr X V ha0 fl_X10_34 rfl dX10_ahead_19 (fun h6 => ?_)
    refine lv_iload_n X.1 X.2.1 dX10_ahead_22 rfl (lv_at hl 3 rfl) ?_
    refine lv_iload X.1 X.2.1 dX10_ahead_23 (lv_at hl 4 rfl) ?_
    refine lv_iload X.1 X.2.1 dX10_ahead_25 (lv_at hl 5 rfl) ?_
    refine lv_if_eq (tgt := 34) X.1 X.2.1 dX10_ahead_27 (by decide) (fun c7 => ?_) (fun c7 => ?_)
    · have hf := bl_ifp c7 hf
      refine lv_iconst (v := 0) X.1 X.2.1 dX10_ahead_34 (by decide) ?_
      obtain ⟨r8, σ9, h10, hf⟩ := bl_bd_at hf
      refine bl_cSi (As := [.int a3, .int a4, .int 0]) X V hl.1 ml_X10_181 mS_X10_slot (t_X10_slot l g σ3 a3 a4 0 _  h10) rfl rfl ⟨Nat.le_of_ble_eq_true rfl, Nat.le_of_ble_eq_true rfl⟩ rfl rfl (Nat.le_of_ble_eq_true rfl) ⟨Nat.zero_le _, Nat.zero_le _⟩ dX10_ahead_35 (fun H locs V => ?_)
      obtain ⟨h11, hf⟩ := bl_gd_at hf
      refine bl_lald (k := (Int32.toNatClampNeg r8)) X V h6 h11 rfl dX10_ahead_38 ?_
      refine lv_goto (tgt := 45) X.1 X.2.1 dX10_ahead_39 (by decide) ?_
      exact bl_retl X V hr hf dX10_ahead_45
    · have hf := bl_ifn c7 hf
      refine lv_iconst (v := 1) X.1 X.2.1 dX10_ahead_30 (by decide) ?_
      refine lv_goto (tgt := 35) X.1 X.2.1 dX10_ahead_31 (by decide) ?_
      obtain ⟨r12, σ13, h14, hf⟩ := bl_bd_at hf
      refine bl_cSi (As := [.int a3, .int a4, .int 1]) X V hl.1 ml_X10_181 mS_X10_slot (t_X10_slot l g σ3 a3 a4 1 _  h14) rfl rfl ⟨Nat.le_of_ble_eq_true rfl, Nat.le_of_ble_eq_true rfl⟩ rfl rfl (Nat.le_of_ble_eq_true rfl) ⟨Nat.zero_le _, Nat.zero_le _⟩ dX10_ahead_35 (fun H locs V => ?_)
      obtain ⟨h15, hf⟩ := bl_gd_at hf
      refine bl_lald (k := (Int32.toNatClampNeg r12)) X V h6 h15 rfl dX10_ahead_38 ?_
      refine lv_goto (tgt := 45) X.1 X.2.1 dX10_ahead_39 (by decide) ?_
      exact bl_retl X V hr hf dX10_ahead_45
set_option maxHeartbeats 4000000 in
set_option maxRecDepth 100000 in
theorem w_X10_leastSize_89 {p : Program} {l : Launch} {e : Env} {s : State} {m : MethodId} {below : List Frame} {meth : Method} {c : Code} {g : bl_Gp} {as : List Value} {out : Int32 × bl_St} (X : bl_Cx g p s m as.toArray meth c cX10_leastSize 12 RX10) (hr : meth.sig.returnType = (Option.some Jvm.ClassFile.FieldType.int)) (k57 : bl_St → Nat → Int64 → Int64 → Int32 → Option (Int32 × bl_St)) (hk57 : ∀ (σ : bl_St) (v0 : Nat) (v5 : Int64) (v7 : Int64) (v9 : Int32), bl_sh[v0]? = some (10, 28) → k57 σ v0 v5 v7 v9 = some out → ∀ (H : Heap) (locs : List Loc) (ls : Array Slot), bl_V g s σ H locs → lv_has ls 12 [(0, .ref (bl_ad g v0)), (5, .long v5), (7, .long v7), (9, .int v9)] → W p l e (bl_rm 1 22) s m as.toArray below meth c H locs 0 0 (bl_Qi below g s as out) (F0 m 57 ls [])) : ∀ (σ : bl_St) (v0 : Nat) (v5 : Int64) (v7 : Int64) (v9 : Int32) (s0 : Int64), bl_sh[v0]? = some (10, 28) → (b_X10_leastSize_89 k57) σ v0 v5 v7 v9 s0 = some out → ∀ (H : Heap) (locs : List Loc) (ls : Array Slot), bl_V g s σ H locs → lv_has ls 12 [(0, .ref (bl_ad g v0)), (5, .long v5), (7, .long v7), (9, .int v9)] → W p l e (bl_rm 1 22) s m as.toArray below meth c H locs 0 0 (bl_Qi below g s as out) (F0 m 89 ls [.long s0]) := by
  intro σ v0 v5 v7 v9 s0 hv0 hf H locs ls V hl
  unfold b_X10_leastSize_89 at hf
  refine lv_lstore (lv' := [(10, .long s0), (0, .ref (bl_ad g v0)), (5, .long v5), (7, .long v7), (9, .int v9)]) X.1 X.2.1 dX10_leastSize_89 hl (by decide) rfl (fun ls hl => ?_)
  refine lv_lload X.1 X.2.1 dX10_leastSize_91 (lv_at hl 0 rfl) ?_
  refine lv_ldc2 (v := 1000) X.1 X.2.1 X.2.2.2.1 (X.2.2.2.2.1 _ kl_X10_179) dX10_leastSize_93 ?_
  refine lv_lmul X.1 X.2.1 dX10_leastSize_96 ?_
  refine lv_lload X.1 X.2.1 dX10_leastSize_97 (lv_at hl 2 rfl) ?_
  refine lv_ladd X.1 X.2.1 dX10_leastSize_99 ?_
  refine lv_iload X.1 X.2.1 dX10_leastSize_100 (lv_at hl 4 rfl) ?_
  refine lv_i2l X.1 X.2.1 dX10_leastSize_102 rfl ?_
  refine lv_ldc2 (v := 1000) X.1 X.2.1 X.2.2.2.1 (X.2.2.2.2.1 _ kl_X10_179) dX10_leastSize_103 ?_
  refine lv_lmul X.1 X.2.1 dX10_leastSize_106 ?_
  refine lv_lload X.1 X.2.1 dX10_leastSize_107 (lv_at hl 3 rfl) ?_
  refine lv_ladd X.1 X.2.1 dX10_leastSize_109 ?_
  refine bl_lc_ge (tgt := 117) X dX10_leastSize_110 dX10_leastSize_111 (by decide) (fun c1 => ?_) (fun c1 => ?_)
  · have hf := bl_ifp c1 hf
    obtain ⟨x2, e3⟩ : ∃ z : Int32, z = v9 + 1 := ⟨_, rfl⟩
    have hf := bl_let_at e3 hf
    refine lv_iinc (v := x2) (lv' := [(9, .int x2), (10, .long s0), (0, .ref (bl_ad g v0)), (5, .long v5), (7, .long v7)]) X.1 X.2.1 dX10_leastSize_117 hl (k := 4) rfl (by rw [e3]; rfl) (by decide) rfl (fun ls hl => ?_)
    refine lv_goto (tgt := 57) X.1 X.2.1 dX10_leastSize_120 (by decide) ?_
    exact hk57 σ v0 v5 v7 x2 hv0 hf _ _ _ V (lv_sub hl [2, 3, 4, 0] rfl)
  · have hf := bl_ifn c1 hf
    refine lv_iload X.1 X.2.1 dX10_leastSize_114 (lv_at hl 4 rfl) ?_
    exact bl_reti X V hr hf dX10_leastSize_116
set_option maxHeartbeats 4000000 in
set_option maxRecDepth 100000 in
theorem w_X10_leastSize_57 {p : Program} {l : Launch} {e : Env} {s : State} {m : MethodId} {below : List Frame} {meth : Method} {c : Code} {g : bl_Gp} {as : List Value} {out : Int32 × bl_St} (X : bl_Cx g p s m as.toArray meth c cX10_leastSize 12 RX10) (hr : meth.sig.returnType = (Option.some Jvm.ClassFile.FieldType.int)) (k57 : bl_St → Nat → Int64 → Int64 → Int32 → Option (Int32 × bl_St)) (hk57 : ∀ (σ : bl_St) (v0 : Nat) (v5 : Int64) (v7 : Int64) (v9 : Int32), bl_sh[v0]? = some (10, 28) → k57 σ v0 v5 v7 v9 = some out → ∀ (H : Heap) (locs : List Loc) (ls : Array Slot), bl_V g s σ H locs → lv_has ls 12 [(0, .ref (bl_ad g v0)), (5, .long v5), (7, .long v7), (9, .int v9)] → W p l e (bl_rm 1 22) s m as.toArray below meth c H locs 0 0 (bl_Qi below g s as out) (F0 m 57 ls [])) : ∀ (σ : bl_St) (v0 : Nat) (v5 : Int64) (v7 : Int64) (v9 : Int32), bl_sh[v0]? = some (10, 28) → (b_X10_leastSize_57 k57) σ v0 v5 v7 v9 = some out → ∀ (H : Heap) (locs : List Loc) (ls : Array Slot), bl_V g s σ H locs → lv_has ls 12 [(0, .ref (bl_ad g v0)), (5, .long v5), (7, .long v7), (9, .int v9)] → W p l e (bl_rm 1 22) s m as.toArray below meth c H locs 0 0 (bl_Qi below g s as out) (F0 m 57 ls []) := by
  intro σ v0 v5 v7 v9 hv0 hf H locs ls V hl
  unfold b_X10_leastSize_57 at hf
  refine lv_iload X.1 X.2.1 dX10_leastSize_57 (lv_at hl 3 rfl) ?_
  refine lv_sipush (v := 9999) X.1 X.2.1 dX10_leastSize_59 (by decide) ?_
  refine lv_icmp_gt (tgt := 123) X.1 X.2.1 dX10_leastSize_62 (by decide) (fun c4 => ?_) (fun c4 => ?_)
  · have hf := bl_ifp c4 hf
    refine lv_bipush (v := (-2)) X.1 X.2.1 dX10_leastSize_123 (by decide) ?_
    exact bl_reti X V hr hf dX10_leastSize_125
  · have hf := bl_ifn c4 hf
    refine lv_aload_n X.1 X.2.1 dX10_leastSize_65 rfl (lv_at hl 0 rfl) ?_
    refine bl_getr X V hv0 fl_X10_13 rfl dX10_leastSize_66 (fun h5 => ?_)
    refine lv_iconst (v := 4) X.1 X.2.1 dX10_leastSize_69 (by decide) ?_
    refine bl_iald (k := 4) X V h5 (by decide) (by decide) dX10_leastSize_70 ?_
    refine lv_iload X.1 X.2.1 dX10_leastSize_71 (lv_at hl 3 rfl) ?_
    refine lv_icmp_ge (tgt := 86) X.1 X.2.1 dX10_leastSize_73 (by decide) (fun c6 => ?_) (fun c6 => ?_)
    · have hf := bl_ifp c6 hf
      refine lv_iload X.1 X.2.1 dX10_leastSize_86 (lv_at hl 3 rfl) ?_
      refine lv_i2l X.1 X.2.1 dX10_leastSize_88 rfl ?_
      exact w_X10_leastSize_89 X hr k57 hk57 σ v0 v5 v7 v9 (Int32.toInt64 v9) hv0 hf _ _ _ V (lv_sub hl [0, 1, 2, 3] rfl)
    · have hf := bl_ifn c6 hf
      refine lv_aload_n X.1 X.2.1 dX10_leastSize_76 rfl (lv_at hl 0 rfl) ?_
      refine bl_getr X V hv0 fl_X10_13 rfl dX10_leastSize_77 (fun h7 => ?_)
      refine lv_iconst (v := 4) X.1 X.2.1 dX10_leastSize_80 (by decide) ?_
      refine bl_iald (k := 4) X V h7 (by decide) (by decide) dX10_leastSize_81 ?_
      refine lv_i2l X.1 X.2.1 dX10_leastSize_82 rfl ?_
      refine lv_goto (tgt := 89) X.1 X.2.1 dX10_leastSize_83 (by decide) ?_
      exact w_X10_leastSize_89 X hr k57 hk57 σ v0 v5 v7 v9 (Int32.toInt64 (bl_I σ (bl_R σ v0 1) 4)) hv0 hf _ _ _ V (lv_sub hl [0, 1, 2, 3] rfl)
theorem l_X10_leastSize_57 {p : Program} {l : Launch} {e : Env} {s : State} {m : MethodId} {below : List Frame} {meth : Method} {c : Code} {g : bl_Gp} {as : List Value} {out : Int32 × bl_St} (X : bl_Cx g p s m as.toArray meth c cX10_leastSize 12 RX10) (hr : meth.sig.returnType = (Option.some Jvm.ClassFile.FieldType.int)) (n : Nat) : ∀ (σ : bl_St) (v0 : Nat) (v5 : Int64) (v7 : Int64) (v9 : Int32), bl_sh[v0]? = some (10, 28) → (bl_fx (fun _ _ _ _ _ => none) (b_X10_leastSize_57 ) n) σ v0 v5 v7 v9 = some out → ∀ (H : Heap) (locs : List Loc) (ls : Array Slot), bl_V g s σ H locs → lv_has ls 12 [(0, .ref (bl_ad g v0)), (5, .long v5), (7, .long v7), (9, .int v9)] → W p l e (bl_rm 1 22) s m as.toArray below meth c H locs 0 0 (bl_Qi below g s as out) (F0 m 57 ls []) := by
  induction n with
  | zero =>
    intro σ v0 v5 v7 v9 hv0 hf H locs ls V hl
    cases hf
  | succ n ih => exact w_X10_leastSize_57 X hr  _ ih
set_option maxHeartbeats 4000000 in
set_option maxRecDepth 100000 in
theorem w_X10_leastSize_21 {p : Program} {l : Launch} {e : Env} {s : State} {m : MethodId} {below : List Frame} {meth : Method} {c : Code} {g : bl_Gp} {as : List Value} {out : Int32 × bl_St} (X : bl_Cx g p s m as.toArray meth c cX10_leastSize 12 RX10) (hr : meth.sig.returnType = (Option.some Jvm.ClassFile.FieldType.int)) : ∀ (σ : bl_St) (v0 : Nat) (v1 : Int32) (v2 : Int32) (v3 : Int32) (s0 : Int32), bl_sh[v0]? = some (10, 28) → (b_X10_leastSize_21 ) σ v0 v1 v2 v3 s0 = some out → ∀ (H : Heap) (locs : List Loc) (ls : Array Slot), bl_V g s σ H locs → lv_has ls 12 [(0, .ref (bl_ad g v0)), (1, .int v1), (2, .int v2), (3, .int v3)] → W p l e (bl_rm 1 22) s m as.toArray below meth c H locs 0 0 (bl_Qi below g s as out) (F0 m 21 ls [.int s0]) := by
  intro σ v0 v1 v2 v3 s0 hv0 hf H locs ls V hl
  unfold b_X10_leastSize_21 at hf
  refine lv_istore (lv' := [(4, .int s0), (0, .ref (bl_ad g v0)), (1, .int v1), (2, .int v2), (3, .int v3)]) X.1 X.2.1 dX10_leastSize_21 hl (by decide) rfl (fun ls hl => ?_)
  refine lv_aload_n X.1 X.2.1 dX10_leastSize_23 rfl (lv_at hl 1 rfl) ?_
  refine bl_getr X V hv0 fl_X10_34 rfl dX10_leastSize_24 (fun h8 => ?_)
  refine lv_iload_n X.1 X.2.1 dX10_leastSize_27 rfl (lv_at hl 2 rfl) ?_
  refine lv_iconst (v := 1) X.1 X.2.1 dX10_leastSize_28 (by decide) ?_
  refine lv_iadd X.1 X.2.1 dX10_leastSize_29 ?_
  refine lv_iload X.1 X.2.1 dX10_leastSize_30 (lv_at hl 0 rfl) ?_
  refine lv_iconst (v := 0) X.1 X.2.1 dX10_leastSize_32 (by decide) ?_
  obtain ⟨r9, σ10, h11, hf⟩ := bl_bd_at hf
  refine bl_cSi (As := [.int (v1 + 1), .int s0, .int 0]) X V hl.1 ml_X10_181 mS_X10_slot (t_X10_slot l g σ (v1 + 1) s0 0 _  h11) rfl rfl ⟨Nat.le_of_ble_eq_true rfl, Nat.le_of_ble_eq_true rfl⟩ rfl rfl (Nat.le_of_ble_eq_true rfl) ⟨Nat.zero_le _, Nat.zero_le _⟩ dX10_leastSize_33 (fun H locs V => ?_)
  obtain ⟨h12, hf⟩ := bl_gd_at hf
  refine bl_lald (k := (Int32.toNatClampNeg r9)) X V h8 h12 rfl dX10_leastSize_36 ?_
  refine lv_topl (fun x13 e14 => ?_)
  have hf := bl_let_at e14 hf
  refine lv_lstore (lv' := [(5, .long x13), (4, .int s0), (0, .ref (bl_ad g v0)), (1, .int v1), (2, .int v2), (3, .int v3)]) X.1 X.2.1 dX10_leastSize_37 hl (by decide) rfl (fun ls hl => ?_)
  refine lv_aload_n X.1 X.2.1 dX10_leastSize_39 rfl (lv_at hl 2 rfl) ?_
  refine bl_getr X V hv0 fl_X10_34 rfl dX10_leastSize_40 (fun h15 => ?_)
  refine lv_iload_n X.1 X.2.1 dX10_leastSize_43 rfl (lv_at hl 3 rfl) ?_
  refine lv_iconst (v := 1) X.1 X.2.1 dX10_leastSize_44 (by decide) ?_
  refine lv_iadd X.1 X.2.1 dX10_leastSize_45 ?_
  refine lv_iload_n X.1 X.2.1 dX10_leastSize_46 rfl (lv_at hl 4 rfl) ?_
  refine lv_iload_n X.1 X.2.1 dX10_leastSize_47 rfl (lv_at hl 5 rfl) ?_
  obtain ⟨r16, σ17, h18, hf⟩ := bl_bd_at hf
  refine bl_cSi (As := [.int (v1 + 1), .int v2, .int v3]) X V hl.1 ml_X10_181 mS_X10_slot (t_X10_slot l g σ10 (v1 + 1) v2 v3 _  h18) rfl rfl ⟨Nat.le_of_ble_eq_true rfl, Nat.le_of_ble_eq_true rfl⟩ rfl rfl (Nat.le_of_ble_eq_true rfl) ⟨Nat.zero_le _, Nat.zero_le _⟩ dX10_leastSize_48 (fun H locs V => ?_)
  obtain ⟨h19, hf⟩ := bl_gd_at hf
  refine bl_lald (k := (Int32.toNatClampNeg r16)) X V h15 h19 rfl dX10_leastSize_51 ?_
  refine lv_topl (fun x20 e21 => ?_)
  have hf := bl_let_at e21 hf
  refine lv_lstore (lv' := [(7, .long x20), (5, .long x13), (4, .int s0), (0, .ref (bl_ad g v0)), (1, .int v1), (2, .int v2), (3, .int v3)]) X.1 X.2.1 dX10_leastSize_52 hl (by decide) rfl (fun ls hl => ?_)
  refine lv_iconst (v := 1) X.1 X.2.1 dX10_leastSize_54 (by decide) ?_
  refine lv_istore (lv' := [(9, .int 1), (7, .long x20), (5, .long x13), (4, .int s0), (0, .ref (bl_ad g v0)), (1, .int v1), (2, .int v2), (3, .int v3)]) X.1 X.2.1 dX10_leastSize_55 hl (by decide) rfl (fun ls hl => ?_)
  exact l_X10_leastSize_57 X hr  bl_fu σ17 v0 x13 x20 1 hv0 hf _ _ _ V (lv_sub hl [4, 2, 1, 0] rfl)
set_option maxHeartbeats 4000000 in
set_option maxRecDepth 100000 in
theorem t_X10_leastSize (l : Launch) (g : bl_Gp) (σ : bl_St) (a0 : Nat) (a1 : Int32) (a2 : Int32) (a3 : Int32) (o : Int32 × bl_St) (ha0 : bl_sh[a0]? = some (10, 28)) (hf : f_X10_leastSize σ a0 a1 a2 a3 = some o) : bl_Ci l g yX10_leastSize cX10_leastSize 12 (Option.some Jvm.ClassFile.FieldType.int) (bl_rm 1 22) [.ref (bl_ad g a0), .int a1, .int a2, .int a3] σ o := by
  refine bl_met (by decide) (Nat.le_of_ble_eq_true rfl) (fun p e s m below meth c ls X hr V hl => ?_)
  have hl : lv_has ls 12 [(0, .ref (bl_ad g a0)), (1, .int a1), (2, .int a2), (3, .int a3)] := hl
  unfold f_X10_leastSize at hf
  refine lv_iload_n X.1 X.2.1 dX10_leastSize_0 rfl (lv_at hl 3 rfl) ?_
  refine lv_iconst (v := 1) X.1 X.2.1 dX10_leastSize_1 (by decide) ?_
  refine lv_icmp_ne (tgt := 9) X.1 X.2.1 dX10_leastSize_2 (by decide) (fun c22 => ?_) (fun c22 => ?_)
  · have hf := bl_ifn c22 hf
    refine lv_iload_n X.1 X.2.1 dX10_leastSize_9 rfl (lv_at hl 2 rfl) ?_
    refine lv_iconst (v := 2) X.1 X.2.1 dX10_leastSize_10 (by decide) ?_
    refine lv_icmp_ge (tgt := 20) X.1 X.2.1 dX10_leastSize_11 (by decide) (fun c23 => ?_) (fun c23 => ?_)
    · have hf := bl_ifp c23 hf
      refine lv_iconst (v := 2) X.1 X.2.1 dX10_leastSize_20 (by decide) ?_
      exact w_X10_leastSize_21 X hr  σ a0 a1 a2 a3 2 ha0 hf _ _ _ V (lv_sub hl [0, 1, 2, 3] rfl)
    · have hf := bl_ifn c23 hf
      refine lv_iload_n X.1 X.2.1 dX10_leastSize_14 rfl (lv_at hl 2 rfl) ?_
      refine lv_iconst (v := 1) X.1 X.2.1 dX10_leastSize_15 (by decide) ?_
      refine lv_iadd X.1 X.2.1 dX10_leastSize_16 ?_
      refine lv_goto (tgt := 21) X.1 X.2.1 dX10_leastSize_17 (by decide) ?_
      exact w_X10_leastSize_21 X hr  σ a0 a1 a2 a3 (a2 + 1) ha0 hf _ _ _ V (lv_sub hl [0, 1, 2, 3] rfl)
  · have hf := bl_ifp c22 hf
    refine lv_iload_n X.1 X.2.1 dX10_leastSize_5 rfl (lv_at hl 2 rfl) ?_
    refine lv_goto (tgt := 21) X.1 X.2.1 dX10_leastSize_6 (by decide) ?_
    exact w_X10_leastSize_21 X hr  σ a0 a1 a2 a3 a2 ha0 hf _ _ _ V (lv_sub hl [0, 1, 2, 3] rfl)
