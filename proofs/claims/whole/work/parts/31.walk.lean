set_option maxHeartbeats 4000000 in
set_option maxRecDepth 100000 in
theorem t_X4_index (l : Launch) (g : bl_Gp) (σ : bl_St) (a0 : Int32) (a1 : Int32) (a2 : Int32) (o : Int32 × bl_St) (hf : f_X4_index σ a0 a1 a2 = some o) : bl_Ci l g yX4_index cX4_index 3 (Option.some Jvm.ClassFile.FieldType.int) (bl_rm 0 0) [.int a0, .int a1, .int a2] σ o := by
  refine bl_met (by decide) (Nat.le_of_ble_eq_true rfl) (fun p e s m below meth c ls X hr V hl => ?_)
  have hl : lv_has ls 3 [(0, .int a0), (1, .int a1), (2, .int a2)] := hl
  unfold f_X4_index at hf
  refine lv_iload_n X.1 X.2.1 dX4_index_0 rfl (lv_at hl 0 rfl) ?_
  refine lv_iconst (v := 3) X.1 X.2.1 dX4_index_1 (by decide) ?_
  refine lv_imul X.1 X.2.1 dX4_index_2 ?_
  refine lv_iload_n X.1 X.2.1 dX4_index_3 rfl (lv_at hl 1 rfl) ?_
  refine lv_iadd X.1 X.2.1 dX4_index_4 ?_
  refine lv_iconst (v := 2) X.1 X.2.1 dX4_index_5 (by decide) ?_
  refine lv_imul X.1 X.2.1 dX4_index_6 ?_
  refine lv_iload_n X.1 X.2.1 dX4_index_7 rfl (lv_at hl 2 rfl) ?_
  refine lv_if_eq (tgt := 15) X.1 X.2.1 dX4_index_8 (by decide) (fun c1 => ?_) (fun c1 => ?_)
  · have hf := bl_ifp c1 hf
    refine lv_iconst (v := 0) X.1 X.2.1 dX4_index_15 (by decide) ?_
    refine lv_iadd X.1 X.2.1 dX4_index_16 ?_
    exact bl_reti X V hr hf dX4_index_17
  · have hf := bl_ifn c1 hf
    refine lv_iconst (v := 1) X.1 X.2.1 dX4_index_11 (by decide) ?_
    refine lv_goto (tgt := 16) X.1 X.2.1 dX4_index_12 (by decide) ?_
    refine lv_iadd X.1 X.2.1 dX4_index_16 ?_
    exact bl_reti X V hr hf dX4_index_17
set_option maxHeartbeats 4000000 in
set_option maxRecDepth 100000 in
theorem t_X4_guardPays (l : Launch) (g : bl_Gp) (σ : bl_St) (a0 : Nat) (a1 : Int32) (o : Int32 × bl_St) (ha0 : bl_sh[a0]? = some (4, 12)) (hf : f_X4_guardPays σ a0 a1 = some o) : bl_Ci l g yX4_guardPays cX4_guardPays 2 (Option.some Jvm.ClassFile.FieldType.boolean) (bl_rm 1 22) [.ref (bl_ad g a0), .int a1] σ o := by
  refine bl_met (by decide) (Nat.le_of_ble_eq_true rfl) (fun p e s m below meth c ls X hr V hl => ?_)
  have hl : lv_has ls 2 [(0, .ref (bl_ad g a0)), (1, .int a1)] := hl
  unfold f_X4_guardPays at hf
  refine lv_ldc2 (v := 1000) X.1 X.2.1 X.2.2.2.1 (X.2.2.2.2.1 _ kl_X4_116) dX4_guardPays_0 ?_
  refine lv_aload_n X.1 X.2.1 dX4_guardPays_3 rfl (lv_at hl 0 rfl) ?_
  refine bl_getr X V ha0 fl_X4_25 rfl dX4_guardPays_4 (fun h1 => ?_)
  refine lv_iload_n X.1 X.2.1 dX4_guardPays_7 rfl (lv_at hl 1 rfl) ?_
  refine lv_iconst (v := 4) X.1 X.2.1 dX4_guardPays_8 (by decide) ?_
  obtain ⟨r2, σ3, h4, hf⟩ := bl_bd_at hf
  refine bl_cVi (As := [.int a1, .int 4]) X V hl.1 h1 rfl ml_X4_120 mV_X8_part (t_X8_part l g σ (bl_R σ a0 0) a1 4 _ h1 h4) rfl rfl ⟨Nat.le_of_ble_eq_true rfl, Nat.le_of_ble_eq_true rfl⟩ rfl rfl (Nat.le_of_ble_eq_true rfl) ⟨Nat.zero_le _, Nat.zero_le _⟩ dX4_guardPays_9 (fun H locs V => ?_)
  refine lv_i2l X.1 X.2.1 dX4_guardPays_12 rfl ?_
  refine lv_lmul X.1 X.2.1 dX4_guardPays_13 ?_
  refine lv_aload_n X.1 X.2.1 dX4_guardPays_14 rfl (lv_at hl 0 rfl) ?_
  refine bl_getr X V ha0 fl_X4_22 rfl dX4_guardPays_15 (fun h5 => ?_)
  refine lv_iconst (v := 0) X.1 X.2.1 dX4_guardPays_18 (by decide) ?_
  refine lv_iconst (v := 0) X.1 X.2.1 dX4_guardPays_19 (by decide) ?_
  refine lv_iconst (v := 1) X.1 X.2.1 dX4_guardPays_20 (by decide) ?_
  obtain ⟨r6, σ7, h8, hf⟩ := bl_bd_at hf
  refine bl_cSi (As := [.int 0, .int 0, .int 1]) X V hl.1 ml_X4_86 mS_X4_index (t_X4_index l g σ3 0 0 1 _  h8) rfl rfl ⟨Nat.le_of_ble_eq_true rfl, Nat.le_of_ble_eq_true rfl⟩ rfl rfl (Nat.le_of_ble_eq_true rfl) ⟨Nat.zero_le _, Nat.zero_le _⟩ dX4_guardPays_21 (fun H locs V => ?_)
  obtain ⟨h9, hf⟩ := bl_gd_at hf
  refine bl_lald (k := (Int32.toNatClampNeg r6)) X V h5 h9 rfl dX4_guardPays_24 ?_
  refine lv_ladd X.1 X.2.1 dX4_guardPays_25 ?_
  refine lv_aload_n X.1 X.2.1 dX4_guardPays_26 rfl (lv_at hl 0 rfl) ?_
  refine bl_getr X V ha0 fl_X4_22 rfl dX4_guardPays_27 (fun h10 => ?_)
  refine lv_iconst (v := 0) X.1 X.2.1 dX4_guardPays_30 (by decide) ?_
  refine lv_iconst (v := 0) X.1 X.2.1 dX4_guardPays_31 (by decide) ?_
  refine lv_iconst (v := 0) X.1 X.2.1 dX4_guardPays_32 (by decide) ?_
  obtain ⟨r11, σ12, h13, hf⟩ := bl_bd_at hf
  refine bl_cSi (As := [.int 0, .int 0, .int 0]) X V hl.1 ml_X4_86 mS_X4_index (t_X4_index l g σ7 0 0 0 _  h13) rfl rfl ⟨Nat.le_of_ble_eq_true rfl, Nat.le_of_ble_eq_true rfl⟩ rfl rfl (Nat.le_of_ble_eq_true rfl) ⟨Nat.zero_le _, Nat.zero_le _⟩ dX4_guardPays_33 (fun H locs V => ?_)
  obtain ⟨h14, hf⟩ := bl_gd_at hf
  refine bl_lald (k := (Int32.toNatClampNeg r11)) X V h10 h14 rfl dX4_guardPays_36 ?_
  refine bl_lc_ge (tgt := 45) X dX4_guardPays_37 dX4_guardPays_38 (by decide) (fun c15 => ?_) (fun c15 => ?_)
  · have hf := bl_ifp c15 hf
    refine lv_iconst (v := 0) X.1 X.2.1 dX4_guardPays_45 (by decide) ?_
    exact bl_retz X V hr (by decide) hf dX4_guardPays_46
  · have hf := bl_ifn c15 hf
    refine lv_iconst (v := 1) X.1 X.2.1 dX4_guardPays_41 (by decide) ?_
    refine lv_goto (tgt := 46) X.1 X.2.1 dX4_guardPays_42 (by decide) ?_
    exact bl_retz X V hr (by decide) hf dX4_guardPays_46
set_option maxHeartbeats 4000000 in
set_option maxRecDepth 100000 in
theorem w_X4_costBehindPremium_42 {p : Program} {l : Launch} {e : Env} {s : State} {m : MethodId} {below : List Frame} {meth : Method} {c : Code} {g : bl_Gp} {as : List Value} {out : Int64 × bl_St} (X : bl_Cx g p s m as.toArray meth c cX4_costBehindPremium 2 RX4) (hr : meth.sig.returnType = (Option.some Jvm.ClassFile.FieldType.long)) : ∀ (σ : bl_St) (v0 : Nat), bl_sh[v0]? = some (4, 12) → (b_X4_costBehindPremium_42 ) σ v0 = some out → ∀ (H : Heap) (locs : List Loc) (ls : Array Slot), bl_V g s σ H locs → lv_has ls 2 [(0, .ref (bl_ad g v0))] → W p l e (bl_rm 2 43) s m as.toArray below meth c H locs 0 0 (bl_Ql below g s as out) (F0 m 42 ls []) := by
  intro σ v0 hv0 hf H locs ls V hl
  unfold b_X4_costBehindPremium_42 at hf
  refine lv_aload_n X.1 X.2.1 dX4_costBehindPremium_42 rfl (lv_at hl 0 rfl) ?_
  refine bl_getr X V hv0 fl_X4_22 rfl dX4_costBehindPremium_43 (fun h1 => ?_)
  refine lv_iconst (v := 0) X.1 X.2.1 dX4_costBehindPremium_46 (by decide) ?_
  refine lv_iconst (v := 0) X.1 X.2.1 dX4_costBehindPremium_47 (by decide) ?_
  refine lv_iconst (v := 0) X.1 X.2.1 dX4_costBehindPremium_48 (by decide) ?_
  obtain ⟨r2, σ3, h4, hf⟩ := bl_bd_at hf
  refine bl_cSi (As := [.int 0, .int 0, .int 0]) X V hl.1 ml_X4_86 mS_X4_index (t_X4_index l g σ 0 0 0 _  h4) rfl rfl ⟨Nat.le_of_ble_eq_true rfl, Nat.le_of_ble_eq_true rfl⟩ rfl rfl (Nat.le_of_ble_eq_true rfl) ⟨Nat.zero_le _, Nat.zero_le _⟩ dX4_costBehindPremium_49 (fun H locs V => ?_)
  obtain ⟨h5, hf⟩ := bl_gd_at hf
  refine bl_lald (k := (Int32.toNatClampNeg r2)) X V h1 h5 rfl dX4_costBehindPremium_52 ?_
  exact bl_retl X V hr hf dX4_costBehindPremium_53
set_option maxHeartbeats 4000000 in
set_option maxRecDepth 100000 in
theorem t_X4_costBehindPremium (l : Launch) (g : bl_Gp) (σ : bl_St) (a0 : Nat) (a1 : Int32) (o : Int64 × bl_St) (ha0 : bl_sh[a0]? = some (4, 12)) (hf : f_X4_costBehindPremium σ a0 a1 = some o) : bl_Cl l g yX4_costBehindPremium cX4_costBehindPremium 2 (Option.some Jvm.ClassFile.FieldType.long) (bl_rm 2 43) [.ref (bl_ad g a0), .int a1] σ o := by
  refine bl_met (by decide) (Nat.le_of_ble_eq_true rfl) (fun p e s m below meth c ls X hr V hl => ?_)
  have hl : lv_has ls 2 [(0, .ref (bl_ad g a0)), (1, .int a1)] := hl
  unfold f_X4_costBehindPremium at hf
  refine lv_aload_n X.1 X.2.1 dX4_costBehindPremium_0 rfl (lv_at hl 0 rfl) ?_
  refine bl_geti X V ha0 fl_X4_29 dX4_costBehindPremium_1 ?_
  refine lv_if_eq (tgt := 42) X.1 X.2.1 dX4_costBehindPremium_4 (by decide) (fun c6 => ?_) (fun c6 => ?_)
  · have hf := bl_ifp c6 hf
    exact w_X4_costBehindPremium_42 X hr  σ a0 ha0 hf _ _ _ V (lv_sub hl [0] rfl)
  · have hf := bl_ifn c6 hf
    refine lv_aload_n X.1 X.2.1 dX4_costBehindPremium_7 rfl (lv_at hl 0 rfl) ?_
    refine lv_iload_n X.1 X.2.1 dX4_costBehindPremium_8 rfl (lv_at hl 1 rfl) ?_
    obtain ⟨r7, σ8, h9, hf⟩ := bl_bd_at hf
    refine bl_cVi (As := [.int a1]) X V hl.1 ha0 rfl ml_X4_102 mV_X4_guardPays (t_X4_guardPays l g σ a0 a1 _ ha0 h9) rfl rfl ⟨Nat.le_of_ble_eq_true rfl, Nat.le_of_ble_eq_true rfl⟩ rfl rfl (Nat.le_of_ble_eq_true rfl) ⟨Nat.zero_le _, Nat.zero_le _⟩ dX4_costBehindPremium_9 (fun H locs V => ?_)
    refine lv_if_eq (tgt := 42) X.1 X.2.1 dX4_costBehindPremium_12 (by decide) (fun c10 => ?_) (fun c10 => ?_)
    · have hf := bl_ifp c10 hf
      exact w_X4_costBehindPremium_42 X hr  σ8 a0 ha0 hf _ _ _ V (lv_sub hl [0] rfl)
    · have hf := bl_ifn c10 hf
      refine lv_ldc2 (v := 1000) X.1 X.2.1 X.2.2.2.1 (X.2.2.2.2.1 _ kl_X4_116) dX4_costBehindPremium_15 ?_
      refine lv_aload_n X.1 X.2.1 dX4_costBehindPremium_18 rfl (lv_at hl 0 rfl) ?_
      refine bl_getr X V ha0 fl_X4_25 rfl dX4_costBehindPremium_19 (fun h11 => ?_)
      refine lv_iload_n X.1 X.2.1 dX4_costBehindPremium_22 rfl (lv_at hl 1 rfl) ?_
      refine lv_iconst (v := 4) X.1 X.2.1 dX4_costBehindPremium_23 (by decide) ?_
      obtain ⟨r12, σ13, h14, hf⟩ := bl_bd_at hf
      refine bl_cVi (As := [.int a1, .int 4]) X V hl.1 h11 rfl ml_X4_120 mV_X8_part (t_X8_part l g σ8 (bl_R σ8 a0 0) a1 4 _ h11 h14) rfl rfl ⟨Nat.le_of_ble_eq_true rfl, Nat.le_of_ble_eq_true rfl⟩ rfl rfl (Nat.le_of_ble_eq_true rfl) ⟨Nat.zero_le _, Nat.zero_le _⟩ dX4_costBehindPremium_24 (fun H locs V => ?_)
      refine lv_i2l X.1 X.2.1 dX4_costBehindPremium_27 rfl ?_
      refine lv_lmul X.1 X.2.1 dX4_costBehindPremium_28 ?_
      refine lv_aload_n X.1 X.2.1 dX4_costBehindPremium_29 rfl (lv_at hl 0 rfl) ?_
      refine bl_getr X V ha0 fl_X4_22 rfl dX4_costBehindPremium_30 (fun h15 => ?_)
      refine lv_iconst (v := 0) X.1 X.2.1 dX4_costBehindPremium_33 (by decide) ?_
      refine lv_iconst (v := 0) X.1 X.2.1 dX4_costBehindPremium_34 (by decide) ?_
      refine lv_iconst (v := 1) X.1 X.2.1 dX4_costBehindPremium_35 (by decide) ?_
      obtain ⟨r16, σ17, h18, hf⟩ := bl_bd_at hf
      refine bl_cSi (As := [.int 0, .int 0, .int 1]) X V hl.1 ml_X4_86 mS_X4_index (t_X4_index l g σ13 0 0 1 _  h18) rfl rfl ⟨Nat.le_of_ble_eq_true rfl, Nat.le_of_ble_eq_true rfl⟩ rfl rfl (Nat.le_of_ble_eq_true rfl) ⟨Nat.zero_le _, Nat.zero_le _⟩ dX4_costBehindPremium_36 (fun H locs V => ?_)
      obtain ⟨h19, hf⟩ := bl_gd_at hf
      refine bl_lald (k := (Int32.toNatClampNeg r16)) X V h15 h19 rfl dX4_costBehindPremium_39 ?_
      refine lv_ladd X.1 X.2.1 dX4_costBehindPremium_40 ?_
      exact bl_retl X V hr hf dX4_costBehindPremium_41
set_option maxHeartbeats 4000000 in
set_option maxRecDepth 100000 in
theorem t_X4_toldIndex (l : Launch) (g : bl_Gp) (σ : bl_St) (a0 : Int32) (a1 : Int32) (a2 : Int32) (o : Int32 × bl_St) (hf : f_X4_toldIndex σ a0 a1 a2 = some o) : bl_Ci l g yX4_toldIndex cX4_toldIndex 3 (Option.some Jvm.ClassFile.FieldType.int) (bl_rm 1 22) [.int a0, .int a1, .int a2] σ o := by
  refine bl_met (by decide) (Nat.le_of_ble_eq_true rfl) (fun p e s m below meth c ls X hr V hl => ?_)
  have hl : lv_has ls 3 [(0, .int a0), (1, .int a1), (2, .int a2)] := hl
  unfold f_X4_toldIndex at hf
  refine lv_iload_n X.1 X.2.1 dX4_toldIndex_0 rfl (lv_at hl 0 rfl) ?_
  refine lv_iconst (v := 1) X.1 X.2.1 dX4_toldIndex_1 (by decide) ?_
  refine lv_iadd X.1 X.2.1 dX4_toldIndex_2 ?_
  refine lv_iload_n X.1 X.2.1 dX4_toldIndex_3 rfl (lv_at hl 2 rfl) ?_
  refine lv_if_eq (tgt := 11) X.1 X.2.1 dX4_toldIndex_4 (by decide) (fun c1 => ?_) (fun c1 => ?_)
  · have hf := bl_ifp c1 hf
    refine lv_iconst (v := 2) X.1 X.2.1 dX4_toldIndex_11 (by decide) ?_
    refine lv_iload_n X.1 X.2.1 dX4_toldIndex_12 rfl (lv_at hl 1 rfl) ?_
    refine lv_iconst (v := 1) X.1 X.2.1 dX4_toldIndex_13 (by decide) ?_
    refine lv_iadd X.1 X.2.1 dX4_toldIndex_14 ?_
    refine bl_mini X hl.1 mm_X4_90 ⟨Nat.le_of_ble_eq_true rfl, Nat.le_of_ble_eq_true rfl⟩ ⟨Nat.zero_le _, Nat.zero_le _⟩ dX4_toldIndex_15 ?_
    refine lv_iconst (v := 0) X.1 X.2.1 dX4_toldIndex_18 (by decide) ?_
    obtain ⟨r2, σ3, h4, hf⟩ := bl_bd_at hf
    refine bl_cSi (As := [.int (a0 + 1), .int (if (a1 + 1) < 2 then (a1 + 1) else 2), .int 0]) X V hl.1 ml_X4_86 mS_X4_index (t_X4_index l g σ (a0 + 1) (if (a1 + 1) < 2 then (a1 + 1) else 2) 0 _  h4) rfl rfl ⟨Nat.le_of_ble_eq_true rfl, Nat.le_of_ble_eq_true rfl⟩ rfl rfl (Nat.le_of_ble_eq_true rfl) ⟨Nat.zero_le _, Nat.zero_le _⟩ dX4_toldIndex_19 (fun H locs V => ?_)
    exact bl_reti X V hr hf dX4_toldIndex_22
  · have hf := bl_ifn c1 hf
    refine lv_iload_n X.1 X.2.1 dX4_toldIndex_7 rfl (lv_at hl 1 rfl) ?_
    refine lv_goto (tgt := 18) X.1 X.2.1 dX4_toldIndex_8 (by decide) ?_
    refine lv_iconst (v := 0) X.1 X.2.1 dX4_toldIndex_18 (by decide) ?_
    obtain ⟨r5, σ6, h7, hf⟩ := bl_bd_at hf
    refine bl_cSi (As := [.int (a0 + 1), .int a1, .int 0]) X V hl.1 ml_X4_86 mS_X4_index (t_X4_index l g σ (a0 + 1) a1 0 _  h7) rfl rfl ⟨Nat.le_of_ble_eq_true rfl, Nat.le_of_ble_eq_true rfl⟩ rfl rfl (Nat.le_of_ble_eq_true rfl) ⟨Nat.zero_le _, Nat.zero_le _⟩ dX4_toldIndex_19 (fun H locs V => ?_)
    exact bl_reti X V hr hf dX4_toldIndex_22
set_option maxHeartbeats 4000000 in
set_option maxRecDepth 100000 in
theorem w_X4_lookAhead_218 {p : Program} {l : Launch} {e : Env} {s : State} {m : MethodId} {below : List Frame} {meth : Method} {c : Code} {g : bl_Gp} {as : List Value} {out : Unit × bl_St} (X : bl_Cx g p s m as.toArray meth c cX4_lookAhead 9 RX4) (hr : meth.sig.returnType = (Option.none : Option Jvm.ClassFile.FieldType)) (k81 : bl_St → Nat → Int32 → Int32 → Int32 → Int32 → Option (Unit × bl_St)) (hk81 : ∀ (σ : bl_St) (v0 : Nat) (v3 : Int32) (v4 : Int32) (v5 : Int32) (v6 : Int32), bl_sh[v0]? = some (4, 12) → k81 σ v0 v3 v4 v5 v6 = some out → ∀ (H : Heap) (locs : List Loc) (ls : Array Slot), bl_V g s σ H locs → lv_has ls 9 [(0, .ref (bl_ad g v0)), (3, .int v3), (4, .int v4), (5, .int v5), (6, .int v6)] → W p l e (bl_rm 2 60) s m as.toArray below meth c H locs 0 0 (bl_Qv below g s as out) (F0 m 81 ls [])) : ∀ (σ : bl_St) (v0 : Nat) (v3 : Int32) (v4 : Int32) (v5 : Int32) (v6 : Int32), bl_sh[v0]? = some (4, 12) → (b_X4_lookAhead_218 k81) σ v0 v3 v4 v5 v6 = some out → ∀ (H : Heap) (locs : List Loc) (ls : Array Slot), bl_V g s σ H locs → lv_has ls 9 [(0, .ref (bl_ad g v0)), (3, .int v3), (4, .int v4), (5, .int v5), (6, .int v6)] → W p l e (bl_rm 2 60) s m as.toArray below meth c H locs 0 0 (bl_Qv below g s as out) (F0 m 218 ls []) := by
  intro σ v0 v3 v4 v5 v6 hv0 hf H locs ls V hl
  unfold b_X4_lookAhead_218 at hf
  obtain ⟨x1, e2⟩ : ∃ z : Int32, z = v6 + (-1) := ⟨_, rfl⟩
  have hf := bl_let_at e2 hf
  refine lv_iinc (v := x1) (lv' := [(6, .int x1), (0, .ref (bl_ad g v0)), (3, .int v3), (4, .int v4), (5, .int v5)]) X.1 X.2.1 dX4_lookAhead_218 hl (k := 4) rfl (by rw [e2]; rfl) (by decide) rfl (fun ls hl => ?_)
  refine lv_goto (tgt := 81) X.1 X.2.1 dX4_lookAhead_221 (by decide) ?_
  exact hk81 σ v0 v3 v4 v5 x1 hv0 hf _ _ _ V (lv_sub hl [1, 2, 3, 4, 0] rfl)
set_option maxHeartbeats 4000000 in
set_option maxRecDepth 100000 in
theorem w_X4_lookAhead_104 {p : Program} {l : Launch} {e : Env} {s : State} {m : MethodId} {below : List Frame} {meth : Method} {c : Code} {g : bl_Gp} {as : List Value} {out : Unit × bl_St} (X : bl_Cx g p s m as.toArray meth c cX4_lookAhead 9 RX4) (hr : meth.sig.returnType = (Option.none : Option Jvm.ClassFile.FieldType)) (k81 : bl_St → Nat → Int32 → Int32 → Int32 → Int32 → Option (Unit × bl_St)) (hk81 : ∀ (σ : bl_St) (v0 : Nat) (v3 : Int32) (v4 : Int32) (v5 : Int32) (v6 : Int32), bl_sh[v0]? = some (4, 12) → k81 σ v0 v3 v4 v5 v6 = some out → ∀ (H : Heap) (locs : List Loc) (ls : Array Slot), bl_V g s σ H locs → lv_has ls 9 [(0, .ref (bl_ad g v0)), (3, .int v3), (4, .int v4), (5, .int v5), (6, .int v6)] → W p l e (bl_rm 2 60) s m as.toArray below meth c H locs 0 0 (bl_Qv below g s as out) (F0 m 81 ls [])) (k104 : bl_St → Nat → Int32 → Int32 → Int32 → Int32 → Int32 → Int32 → Option (Unit × bl_St)) (hk104 : ∀ (σ : bl_St) (v0 : Nat) (v3 : Int32) (v4 : Int32) (v5 : Int32) (v6 : Int32) (v7 : Int32) (v8 : Int32), bl_sh[v0]? = some (4, 12) → k104 σ v0 v3 v4 v5 v6 v7 v8 = some out → ∀ (H : Heap) (locs : List Loc) (ls : Array Slot), bl_V g s σ H locs → lv_has ls 9 [(0, .ref (bl_ad g v0)), (3, .int v3), (4, .int v4), (5, .int v5), (6, .int v6), (7, .int v7), (8, .int v8)] → W p l e (bl_rm 2 60) s m as.toArray below meth c H locs 0 0 (bl_Qv below g s as out) (F0 m 104 ls [])) : ∀ (σ : bl_St) (v0 : Nat) (v3 : Int32) (v4 : Int32) (v5 : Int32) (v6 : Int32) (v7 : Int32) (v8 : Int32), bl_sh[v0]? = some (4, 12) → (b_X4_lookAhead_104 k81 k104) σ v0 v3 v4 v5 v6 v7 v8 = some out → ∀ (H : Heap) (locs : List Loc) (ls : Array Slot), bl_V g s σ H locs → lv_has ls 9 [(0, .ref (bl_ad g v0)), (3, .int v3), (4, .int v4), (5, .int v5), (6, .int v6), (7, .int v7), (8, .int v8)] → W p l e (bl_rm 2 60) s m as.toArray below meth c H locs 0 0 (bl_Qv below g s as out) (F0 m 104 ls []) := by
  intro σ v0 v3 v4 v5 v6 v7 v8 hv0 hf H locs ls V hl
  unfold b_X4_lookAhead_104 at hf
  refine lv_iload X.1 X.2.1 dX4_lookAhead_104 (lv_at hl 6 rfl) ?_
  refine lv_iload X.1 X.2.1 dX4_lookAhead_106 (lv_at hl 5 rfl) ?_
  refine lv_icmp_gt (tgt := 165) X.1 X.2.1 dX4_lookAhead_108 (by decide) (fun c3 => ?_) (fun c3 => ?_)
  · have hf := bl_ifp c3 hf
    refine lv_iload X.1 X.2.1 dX4_lookAhead_165 (lv_at hl 3 rfl) ?_
    refine lv_if_eq (tgt := 218) X.1 X.2.1 dX4_lookAhead_167 (by decide) (fun c4 => ?_) (fun c4 => ?_)
    · have hf := bl_ifp c4 hf
      exact w_X4_lookAhead_218 X hr k81 hk81 σ v0 v3 v4 v5 v6 hv0 hf _ _ _ V (lv_sub hl [0, 1, 2, 3, 4] rfl)
    · have hf := bl_ifn c4 hf
      refine lv_aload_n X.1 X.2.1 dX4_lookAhead_170 rfl (lv_at hl 0 rfl) ?_
      refine bl_getr X V hv0 fl_X4_22 rfl dX4_lookAhead_171 (fun h5 => ?_)
      refine lv_iload X.1 X.2.1 dX4_lookAhead_174 (lv_at hl 4 rfl) ?_
      refine lv_iload X.1 X.2.1 dX4_lookAhead_176 (lv_at hl 2 rfl) ?_
      refine lv_iconst (v := 1) X.1 X.2.1 dX4_lookAhead_178 (by decide) ?_
      obtain ⟨r6, σ7, h8, hf⟩ := bl_bd_at hf
      refine bl_cSi (As := [.int v6, .int v4, .int 1]) X V hl.1 ml_X4_86 mS_X4_index (t_X4_index l g σ v6 v4 1 _  h8) rfl rfl ⟨Nat.le_of_ble_eq_true rfl, Nat.le_of_ble_eq_true rfl⟩ rfl rfl (Nat.le_of_ble_eq_true rfl) ⟨Nat.zero_le _, Nat.zero_le _⟩ dX4_lookAhead_179 (fun H locs V => ?_)
      refine lv_aload_n X.1 X.2.1 dX4_lookAhead_182 rfl (lv_at hl 0 rfl) ?_
      refine bl_getr X V hv0 fl_X4_12 rfl dX4_lookAhead_183 (fun h9 => ?_)
      refine lv_aload_n X.1 X.2.1 dX4_lookAhead_186 rfl (lv_at hl 0 rfl) ?_
      refine bl_getr X V hv0 fl_X4_22 rfl dX4_lookAhead_187 (fun h10 => ?_)
      refine lv_iload X.1 X.2.1 dX4_lookAhead_190 (lv_at hl 4 rfl) ?_
      refine lv_iconst (v := 1) X.1 X.2.1 dX4_lookAhead_192 (by decide) ?_
      refine lv_iadd X.1 X.2.1 dX4_lookAhead_193 ?_
      refine lv_iload X.1 X.2.1 dX4_lookAhead_194 (lv_at hl 2 rfl) ?_
      refine lv_iconst (v := 1) X.1 X.2.1 dX4_lookAhead_196 (by decide) ?_
      obtain ⟨r11, σ12, h13, hf⟩ := bl_bd_at hf
      refine bl_cSi (As := [.int (v6 + 1), .int v4, .int 1]) X V hl.1 ml_X4_86 mS_X4_index (t_X4_index l g σ7 (v6 + 1) v4 1 _  h13) rfl rfl ⟨Nat.le_of_ble_eq_true rfl, Nat.le_of_ble_eq_true rfl⟩ rfl rfl (Nat.le_of_ble_eq_true rfl) ⟨Nat.zero_le _, Nat.zero_le _⟩ dX4_lookAhead_197 (fun H locs V => ?_)
      obtain ⟨h14, hf⟩ := bl_gd_at hf
      refine bl_lald (k := (Int32.toNatClampNeg r11)) X V h10 h14 rfl dX4_lookAhead_200 ?_
      refine lv_aload_n X.1 X.2.1 dX4_lookAhead_201 rfl (lv_at hl 0 rfl) ?_
      refine bl_getr X V hv0 fl_X4_22 rfl dX4_lookAhead_202 (fun h15 => ?_)
      refine lv_iload X.1 X.2.1 dX4_lookAhead_205 (lv_at hl 4 rfl) ?_
      refine lv_iload X.1 X.2.1 dX4_lookAhead_207 (lv_at hl 2 rfl) ?_
      refine lv_iconst (v := 1) X.1 X.2.1 dX4_lookAhead_209 (by decide) ?_
      obtain ⟨r16, σ17, h18, hf⟩ := bl_bd_at hf
      refine bl_cSi (As := [.int v6, .int v4, .int 1]) X V hl.1 ml_X4_95 mS_X4_toldIndex (t_X4_toldIndex l g σ12 v6 v4 1 _  h18) rfl rfl ⟨Nat.le_of_ble_eq_true rfl, Nat.le_of_ble_eq_true rfl⟩ rfl rfl (Nat.le_of_ble_eq_true rfl) ⟨Nat.zero_le _, Nat.zero_le _⟩ dX4_lookAhead_210 (fun H locs V => ?_)
      obtain ⟨h19, hf⟩ := bl_gd_at hf
      refine bl_lald (k := (Int32.toNatClampNeg r16)) X V h15 h19 rfl dX4_lookAhead_213 ?_
      obtain ⟨r20, σ21, h22, hf⟩ := bl_bd_at hf
      refine bl_cVl (As := [.long (bl_J σ12 (bl_R σ7 v0 11) (Int32.toNatClampNeg r11)), .long (bl_J σ17 (bl_R σ12 v0 11) (Int32.toNatClampNeg r16))]) X V hl.1 h9 rfl ml_X4_98 mV_X3_chanceCost (t_X3_chanceCost l g σ17 (bl_R σ7 v0 9) (bl_J σ12 (bl_R σ7 v0 11) (Int32.toNatClampNeg r11)) (bl_J σ17 (bl_R σ12 v0 11) (Int32.toNatClampNeg r16)) _ h9 h22) rfl rfl ⟨Nat.le_of_ble_eq_true rfl, Nat.le_of_ble_eq_true rfl⟩ rfl rfl (Nat.le_of_ble_eq_true rfl) ⟨Nat.zero_le _, Nat.zero_le _⟩ dX4_lookAhead_214 (fun H locs V => ?_)
      obtain ⟨h23, hf⟩ := bl_gd_at hf
      refine bl_last (k := (Int32.toNatClampNeg r6)) X V h5 h23 rfl dX4_lookAhead_217 (fun σ24 H locs e25 V => ?_)
      have hf := bl_let_at e25 hf
      exact w_X4_lookAhead_218 X hr k81 hk81 σ24 v0 v3 v4 v5 v6 hv0 hf _ _ _ V (lv_sub hl [0, 1, 2, 3, 4] rfl)
  · have hf := bl_ifn c3 hf
    refine lv_aload_n X.1 X.2.1 dX4_lookAhead_111 rfl (lv_at hl 0 rfl) ?_
    refine bl_getr X V hv0 fl_X4_22 rfl dX4_lookAhead_112 (fun h26 => ?_)
    refine lv_iload X.1 X.2.1 dX4_lookAhead_115 (lv_at hl 4 rfl) ?_
    refine lv_iload X.1 X.2.1 dX4_lookAhead_117 (lv_at hl 6 rfl) ?_
    refine lv_iconst (v := 0) X.1 X.2.1 dX4_lookAhead_119 (by decide) ?_
    obtain ⟨r27, σ28, h29, hf⟩ := bl_bd_at hf
    refine bl_cSi (As := [.int v6, .int v8, .int 0]) X V hl.1 ml_X4_86 mS_X4_index (t_X4_index l g σ v6 v8 0 _  h29) rfl rfl ⟨Nat.le_of_ble_eq_true rfl, Nat.le_of_ble_eq_true rfl⟩ rfl rfl (Nat.le_of_ble_eq_true rfl) ⟨Nat.zero_le _, Nat.zero_le _⟩ dX4_lookAhead_120 (fun H locs V => ?_)
    refine lv_aload_n X.1 X.2.1 dX4_lookAhead_123 rfl (lv_at hl 0 rfl) ?_
    refine bl_getr X V hv0 fl_X4_12 rfl dX4_lookAhead_124 (fun h30 => ?_)
    refine lv_aload_n X.1 X.2.1 dX4_lookAhead_127 rfl (lv_at hl 0 rfl) ?_
    refine bl_getr X V hv0 fl_X4_22 rfl dX4_lookAhead_128 (fun h31 => ?_)
    refine lv_iload X.1 X.2.1 dX4_lookAhead_131 (lv_at hl 4 rfl) ?_
    refine lv_iconst (v := 1) X.1 X.2.1 dX4_lookAhead_133 (by decide) ?_
    refine lv_iadd X.1 X.2.1 dX4_lookAhead_134 ?_
    refine lv_iload X.1 X.2.1 dX4_lookAhead_135 (lv_at hl 6 rfl) ?_
    refine lv_iconst (v := 0) X.1 X.2.1 dX4_lookAhead_137 (by decide) ?_
    obtain ⟨r32, σ33, h34, hf⟩ := bl_bd_at hf
    refine bl_cSi (As := [.int (v6 + 1), .int v8, .int 0]) X V hl.1 ml_X4_86 mS_X4_index (t_X4_index l g σ28 (v6 + 1) v8 0 _  h34) rfl rfl ⟨Nat.le_of_ble_eq_true rfl, Nat.le_of_ble_eq_true rfl⟩ rfl rfl (Nat.le_of_ble_eq_true rfl) ⟨Nat.zero_le _, Nat.zero_le _⟩ dX4_lookAhead_138 (fun H locs V => ?_)
    obtain ⟨h35, hf⟩ := bl_gd_at hf
    refine bl_lald (k := (Int32.toNatClampNeg r32)) X V h31 h35 rfl dX4_lookAhead_141 ?_
    refine lv_aload_n X.1 X.2.1 dX4_lookAhead_142 rfl (lv_at hl 0 rfl) ?_
    refine bl_getr X V hv0 fl_X4_22 rfl dX4_lookAhead_143 (fun h36 => ?_)
    refine lv_iload X.1 X.2.1 dX4_lookAhead_146 (lv_at hl 4 rfl) ?_
    refine lv_iload X.1 X.2.1 dX4_lookAhead_148 (lv_at hl 6 rfl) ?_
    refine lv_iconst (v := 0) X.1 X.2.1 dX4_lookAhead_150 (by decide) ?_
    obtain ⟨r37, σ38, h39, hf⟩ := bl_bd_at hf
    refine bl_cSi (As := [.int v6, .int v8, .int 0]) X V hl.1 ml_X4_95 mS_X4_toldIndex (t_X4_toldIndex l g σ33 v6 v8 0 _  h39) rfl rfl ⟨Nat.le_of_ble_eq_true rfl, Nat.le_of_ble_eq_true rfl⟩ rfl rfl (Nat.le_of_ble_eq_true rfl) ⟨Nat.zero_le _, Nat.zero_le _⟩ dX4_lookAhead_151 (fun H locs V => ?_)
    obtain ⟨h40, hf⟩ := bl_gd_at hf
    refine bl_lald (k := (Int32.toNatClampNeg r37)) X V h36 h40 rfl dX4_lookAhead_154 ?_
    obtain ⟨r41, σ42, h43, hf⟩ := bl_bd_at hf
    refine bl_cVl (As := [.long (bl_J σ33 (bl_R σ28 v0 11) (Int32.toNatClampNeg r32)), .long (bl_J σ38 (bl_R σ33 v0 11) (Int32.toNatClampNeg r37))]) X V hl.1 h30 rfl ml_X4_98 mV_X3_chanceCost (t_X3_chanceCost l g σ38 (bl_R σ28 v0 9) (bl_J σ33 (bl_R σ28 v0 11) (Int32.toNatClampNeg r32)) (bl_J σ38 (bl_R σ33 v0 11) (Int32.toNatClampNeg r37)) _ h30 h43) rfl rfl ⟨Nat.le_of_ble_eq_true rfl, Nat.le_of_ble_eq_true rfl⟩ rfl rfl (Nat.le_of_ble_eq_true rfl) ⟨Nat.zero_le _, Nat.zero_le _⟩ dX4_lookAhead_155 (fun H locs V => ?_)
    obtain ⟨h44, hf⟩ := bl_gd_at hf
    refine bl_last (k := (Int32.toNatClampNeg r27)) X V h26 h44 rfl dX4_lookAhead_158 (fun σ45 H locs e46 V => ?_)
    have hf := bl_let_at e46 hf
    obtain ⟨x47, e48⟩ : ∃ z : Int32, z = v8 + 1 := ⟨_, rfl⟩
    have hf := bl_let_at e48 hf
    refine lv_iinc (v := x47) (lv' := [(8, .int x47), (0, .ref (bl_ad g v0)), (3, .int v3), (4, .int v4), (5, .int v5), (6, .int v6), (7, .int v7)]) X.1 X.2.1 dX4_lookAhead_159 hl (k := 6) rfl (by rw [e48]; rfl) (by decide) rfl (fun ls hl => ?_)
    refine lv_goto (tgt := 104) X.1 X.2.1 dX4_lookAhead_162 (by decide) ?_
    exact hk104 σ45 v0 v3 v4 v5 v6 v7 x47 hv0 hf _ _ _ V (lv_sub hl [1, 2, 3, 4, 5, 6, 0] rfl)
theorem l_X4_lookAhead_104 {p : Program} {l : Launch} {e : Env} {s : State} {m : MethodId} {below : List Frame} {meth : Method} {c : Code} {g : bl_Gp} {as : List Value} {out : Unit × bl_St} (X : bl_Cx g p s m as.toArray meth c cX4_lookAhead 9 RX4) (hr : meth.sig.returnType = (Option.none : Option Jvm.ClassFile.FieldType)) (k81 : bl_St → Nat → Int32 → Int32 → Int32 → Int32 → Option (Unit × bl_St)) (hk81 : ∀ (σ : bl_St) (v0 : Nat) (v3 : Int32) (v4 : Int32) (v5 : Int32) (v6 : Int32), bl_sh[v0]? = some (4, 12) → k81 σ v0 v3 v4 v5 v6 = some out → ∀ (H : Heap) (locs : List Loc) (ls : Array Slot), bl_V g s σ H locs → lv_has ls 9 [(0, .ref (bl_ad g v0)), (3, .int v3), (4, .int v4), (5, .int v5), (6, .int v6)] → W p l e (bl_rm 2 60) s m as.toArray below meth c H locs 0 0 (bl_Qv below g s as out) (F0 m 81 ls [])) (n : Nat) : ∀ (σ : bl_St) (v0 : Nat) (v3 : Int32) (v4 : Int32) (v5 : Int32) (v6 : Int32) (v7 : Int32) (v8 : Int32), bl_sh[v0]? = some (4, 12) → (bl_fx (fun _ _ _ _ _ _ _ _ => none) (b_X4_lookAhead_104 k81) n) σ v0 v3 v4 v5 v6 v7 v8 = some out → ∀ (H : Heap) (locs : List Loc) (ls : Array Slot), bl_V g s σ H locs → lv_has ls 9 [(0, .ref (bl_ad g v0)), (3, .int v3), (4, .int v4), (5, .int v5), (6, .int v6), (7, .int v7), (8, .int v8)] → W p l e (bl_rm 2 60) s m as.toArray below meth c H locs 0 0 (bl_Qv below g s as out) (F0 m 104 ls []) := by
  induction n with
  | zero =>
    intro σ v0 v3 v4 v5 v6 v7 v8 hv0 hf H locs ls V hl
    cases hf
  | succ n ih => exact w_X4_lookAhead_104 X hr k81 hk81 _ ih
set_option maxHeartbeats 4000000 in
set_option maxRecDepth 100000 in
theorem w_X4_lookAhead_81 {p : Program} {l : Launch} {e : Env} {s : State} {m : MethodId} {below : List Frame} {meth : Method} {c : Code} {g : bl_Gp} {as : List Value} {out : Unit × bl_St} (X : bl_Cx g p s m as.toArray meth c cX4_lookAhead 9 RX4) (hr : meth.sig.returnType = (Option.none : Option Jvm.ClassFile.FieldType)) (k81 : bl_St → Nat → Int32 → Int32 → Int32 → Int32 → Option (Unit × bl_St)) (hk81 : ∀ (σ : bl_St) (v0 : Nat) (v3 : Int32) (v4 : Int32) (v5 : Int32) (v6 : Int32), bl_sh[v0]? = some (4, 12) → k81 σ v0 v3 v4 v5 v6 = some out → ∀ (H : Heap) (locs : List Loc) (ls : Array Slot), bl_V g s σ H locs → lv_has ls 9 [(0, .ref (bl_ad g v0)), (3, .int v3), (4, .int v4), (5, .int v5), (6, .int v6)] → W p l e (bl_rm 2 60) s m as.toArray below meth c H locs 0 0 (bl_Qv below g s as out) (F0 m 81 ls [])) : ∀ (σ : bl_St) (v0 : Nat) (v3 : Int32) (v4 : Int32) (v5 : Int32) (v6 : Int32), bl_sh[v0]? = some (4, 12) → (b_X4_lookAhead_81 k81) σ v0 v3 v4 v5 v6 = some out → ∀ (H : Heap) (locs : List Loc) (ls : Array Slot), bl_V g s σ H locs → lv_has ls 9 [(0, .ref (bl_ad g v0)), (3, .int v3), (4, .int v4), (5, .int v5), (6, .int v6)] → W p l e (bl_rm 2 60) s m as.toArray below meth c H locs 0 0 (bl_Qv below g s as out) (F0 m 81 ls []) := by
  intro σ v0 v3 v4 v5 v6 hv0 hf H locs ls V hl
  unfold b_X4_lookAhead_81 at hf
  refine lv_iload X.1 X.2.1 dX4_lookAhead_81 (lv_at hl 4 rfl) ?_
  refine lv_iload_n X.1 X.2.1 dX4_lookAhead_83 rfl (lv_at hl 1 rfl) ?_
  refine lv_icmp_lt (tgt := 224) X.1 X.2.1 dX4_lookAhead_84 (by decide) (fun c49 => ?_) (fun c49 => ?_)
  · have hf := bl_ifp c49 hf
    exact bl_retv X V hr hf dX4_lookAhead_224
  · have hf := bl_ifn c49 hf
    refine lv_iconst (v := 2) X.1 X.2.1 dX4_lookAhead_87 (by decide) ?_
    refine lv_iload X.1 X.2.1 dX4_lookAhead_88 (lv_at hl 2 rfl) ?_
    refine lv_iload X.1 X.2.1 dX4_lookAhead_90 (lv_at hl 4 rfl) ?_
    refine lv_iadd X.1 X.2.1 dX4_lookAhead_92 ?_
    refine lv_iload_n X.1 X.2.1 dX4_lookAhead_93 rfl (lv_at hl 1 rfl) ?_
    refine lv_isub X.1 X.2.1 dX4_lookAhead_94 ?_
    refine bl_mini X hl.1 mm_X4_90 ⟨Nat.le_of_ble_eq_true rfl, Nat.le_of_ble_eq_true rfl⟩ ⟨Nat.zero_le _, Nat.zero_le _⟩ dX4_lookAhead_95 ?_
    refine lv_topi (fun x50 e51 => ?_)
    have hf := bl_let_at e51 hf
    refine lv_istore (lv' := [(7, .int x50), (0, .ref (bl_ad g v0)), (3, .int v3), (4, .int v4), (5, .int v5), (6, .int v6)]) X.1 X.2.1 dX4_lookAhead_98 hl (by decide) rfl (fun ls hl => ?_)
    refine lv_iload X.1 X.2.1 dX4_lookAhead_100 (lv_at hl 3 rfl) ?_
    refine lv_istore (lv' := [(8, .int v4), (7, .int x50), (0, .ref (bl_ad g v0)), (3, .int v3), (4, .int v4), (5, .int v5), (6, .int v6)]) X.1 X.2.1 dX4_lookAhead_102 hl (by decide) rfl (fun ls hl => ?_)
    exact l_X4_lookAhead_104 X hr k81 hk81 bl_fu σ v0 v3 v4 v5 v6 x50 v4 hv0 hf _ _ _ V (lv_sub hl [2, 3, 4, 5, 6, 1, 0] rfl)
theorem l_X4_lookAhead_81 {p : Program} {l : Launch} {e : Env} {s : State} {m : MethodId} {below : List Frame} {meth : Method} {c : Code} {g : bl_Gp} {as : List Value} {out : Unit × bl_St} (X : bl_Cx g p s m as.toArray meth c cX4_lookAhead 9 RX4) (hr : meth.sig.returnType = (Option.none : Option Jvm.ClassFile.FieldType)) (n : Nat) : ∀ (σ : bl_St) (v0 : Nat) (v3 : Int32) (v4 : Int32) (v5 : Int32) (v6 : Int32), bl_sh[v0]? = some (4, 12) → (bl_fx (fun _ _ _ _ _ _ => none) (b_X4_lookAhead_81 ) n) σ v0 v3 v4 v5 v6 = some out → ∀ (H : Heap) (locs : List Loc) (ls : Array Slot), bl_V g s σ H locs → lv_has ls 9 [(0, .ref (bl_ad g v0)), (3, .int v3), (4, .int v4), (5, .int v5), (6, .int v6)] → W p l e (bl_rm 2 60) s m as.toArray below meth c H locs 0 0 (bl_Qv below g s as out) (F0 m 81 ls []) := by
  induction n with
  | zero =>
    intro σ v0 v3 v4 v5 v6 hv0 hf H locs ls V hl
    cases hf
  | succ n ih => exact w_X4_lookAhead_81 X hr  _ ih
set_option maxHeartbeats 4000000 in
set_option maxRecDepth 100000 in
theorem w_X4_lookAhead_3 {p : Program} {l : Launch} {e : Env} {s : State} {m : MethodId} {below : List Frame} {meth : Method} {c : Code} {g : bl_Gp} {as : List Value} {out : Unit × bl_St} (X : bl_Cx g p s m as.toArray meth c cX4_lookAhead 9 RX4) (hr : meth.sig.returnType = (Option.none : Option Jvm.ClassFile.FieldType)) (k3 : bl_St → Nat → Int32 → Int32 → Int32 → Int32 → Int32 → Int32 → Option (Unit × bl_St)) (hk3 : ∀ (σ : bl_St) (v0 : Nat) (v1 : Int32) (v2 : Int32) (v3 : Int32) (v4 : Int32) (v5 : Int32) (v6 : Int32), bl_sh[v0]? = some (4, 12) → k3 σ v0 v1 v2 v3 v4 v5 v6 = some out → ∀ (H : Heap) (locs : List Loc) (ls : Array Slot), bl_V g s σ H locs → lv_has ls 9 [(0, .ref (bl_ad g v0)), (1, .int v1), (2, .int v2), (3, .int v3), (4, .int v4), (5, .int v5), (6, .int v6)] → W p l e (bl_rm 2 60) s m as.toArray below meth c H locs 0 0 (bl_Qv below g s as out) (F0 m 3 ls [])) : ∀ (σ : bl_St) (v0 : Nat) (v1 : Int32) (v2 : Int32) (v3 : Int32) (v4 : Int32) (v5 : Int32) (v6 : Int32), bl_sh[v0]? = some (4, 12) → (b_X4_lookAhead_3 k3) σ v0 v1 v2 v3 v4 v5 v6 = some out → ∀ (H : Heap) (locs : List Loc) (ls : Array Slot), bl_V g s σ H locs → lv_has ls 9 [(0, .ref (bl_ad g v0)), (1, .int v1), (2, .int v2), (3, .int v3), (4, .int v4), (5, .int v5), (6, .int v6)] → W p l e (bl_rm 2 60) s m as.toArray below meth c H locs 0 0 (bl_Qv below g s as out) (F0 m 3 ls []) := by
  intro σ v0 v1 v2 v3 v4 v5 v6 hv0 hf H locs ls V hl
  unfold b_X4_lookAhead_3 at hf
  refine lv_iload X.1 X.2.1 dX4_lookAhead_3 (lv_at hl 6 rfl) ?_
  refine lv_iconst (v := 3) X.1 X.2.1 dX4_lookAhead_5 (by decide) ?_
  refine lv_icmp_ge (tgt := 73) X.1 X.2.1 dX4_lookAhead_6 (by decide) (fun c52 => ?_) (fun c52 => ?_)
  · have hf := bl_ifp c52 hf
    refine lv_aload_n X.1 X.2.1 dX4_lookAhead_73 rfl (lv_at hl 0 rfl) ?_
    refine bl_geti X V hv0 fl_X4_58 dX4_lookAhead_74 ?_
    refine lv_iconst (v := 1) X.1 X.2.1 dX4_lookAhead_77 (by decide) ?_
    refine lv_isub X.1 X.2.1 dX4_lookAhead_78 ?_
    refine lv_topi (fun x53 e54 => ?_)
    have hf := bl_let_at e54 hf
    refine lv_istore (lv' := [(6, .int x53), (0, .ref (bl_ad g v0)), (1, .int v1), (2, .int v2), (3, .int v3), (4, .int v4), (5, .int v5)]) X.1 X.2.1 dX4_lookAhead_79 hl (by decide) rfl (fun ls hl => ?_)
    exact l_X4_lookAhead_81 X hr  bl_fu σ v0 v3 v4 v5 x53 hv0 hf _ _ _ V (lv_sub hl [1, 4, 5, 6, 0] rfl)
  · have hf := bl_ifn c52 hf
    refine lv_aload_n X.1 X.2.1 dX4_lookAhead_9 rfl (lv_at hl 0 rfl) ?_
    refine bl_getr X V hv0 fl_X4_18 rfl dX4_lookAhead_10 (fun h55 => ?_)
    refine lv_iload_n X.1 X.2.1 dX4_lookAhead_13 rfl (lv_at hl 1 rfl) ?_
    refine lv_iconst (v := 1) X.1 X.2.1 dX4_lookAhead_14 (by decide) ?_
    refine lv_isub X.1 X.2.1 dX4_lookAhead_15 ?_
    refine lv_bipush (v := 8) X.1 X.2.1 dX4_lookAhead_16 (by decide) ?_
    refine lv_imul X.1 X.2.1 dX4_lookAhead_18 ?_
    refine lv_aload_n X.1 X.2.1 dX4_lookAhead_19 rfl (lv_at hl 0 rfl) ?_
    refine bl_getr X V hv0 fl_X4_25 rfl dX4_lookAhead_20 (fun h56 => ?_)
    refine lv_iload_n X.1 X.2.1 dX4_lookAhead_23 rfl (lv_at hl 2 rfl) ?_
    refine lv_iload X.1 X.2.1 dX4_lookAhead_24 (lv_at hl 6 rfl) ?_
    obtain ⟨r57, σ58, h59, hf⟩ := bl_bd_at hf
    refine bl_cVi (As := [.int v2, .int v6]) X V hl.1 h56 rfl ml_X4_82 mV_X8_next (t_X8_next l g σ (bl_R σ v0 0) v2 v6 _ h56 h59) rfl rfl ⟨Nat.le_of_ble_eq_true rfl, Nat.le_of_ble_eq_true rfl⟩ rfl rfl (Nat.le_of_ble_eq_true rfl) ⟨Nat.zero_le _, Nat.zero_le _⟩ dX4_lookAhead_26 (fun H locs V => ?_)
    refine lv_iadd X.1 X.2.1 dX4_lookAhead_29 ?_
    obtain ⟨h60, hf⟩ := bl_gd_at hf
    refine bl_lald (k := (Int32.toNatClampNeg (((v1 - 1) * 8) + r57))) X V h55 h60 rfl dX4_lookAhead_30 ?_
    refine lv_topl (fun x61 e62 => ?_)
    have hf := bl_let_at e62 hf
    refine lv_lstore (lv' := [(7, .long x61), (0, .ref (bl_ad g v0)), (1, .int v1), (2, .int v2), (3, .int v3), (4, .int v4), (5, .int v5), (6, .int v6)]) X.1 X.2.1 dX4_lookAhead_31 hl (by decide) rfl (fun ls hl => ?_)
    refine lv_aload_n X.1 X.2.1 dX4_lookAhead_33 rfl (lv_at hl 1 rfl) ?_
    refine bl_getr X V hv0 fl_X4_22 rfl dX4_lookAhead_34 (fun h63 => ?_)
    refine lv_aload_n X.1 X.2.1 dX4_lookAhead_37 rfl (lv_at hl 1 rfl) ?_
    refine bl_geti X V hv0 fl_X4_58 dX4_lookAhead_38 ?_
    refine lv_iload X.1 X.2.1 dX4_lookAhead_41 (lv_at hl 7 rfl) ?_
    refine lv_iconst (v := 0) X.1 X.2.1 dX4_lookAhead_43 (by decide) ?_
    obtain ⟨r64, σ65, h66, hf⟩ := bl_bd_at hf
    refine bl_cSi (As := [.int (bl_I σ58 v0 8), .int v6, .int 0]) X V hl.1 ml_X4_86 mS_X4_index (t_X4_index l g σ58 (bl_I σ58 v0 8) v6 0 _  h66) rfl rfl ⟨Nat.le_of_ble_eq_true rfl, Nat.le_of_ble_eq_true rfl⟩ rfl rfl (Nat.le_of_ble_eq_true rfl) ⟨Nat.zero_le _, Nat.zero_le _⟩ dX4_lookAhead_44 (fun H locs V => ?_)
    refine lv_lload X.1 X.2.1 dX4_lookAhead_47 (lv_at hl 0 rfl) ?_
    obtain ⟨h67, hf⟩ := bl_gd_at hf
    refine bl_last (k := (Int32.toNatClampNeg r64)) X V h63 h67 rfl dX4_lookAhead_49 (fun σ68 H locs e69 V => ?_)
    have hf := bl_let_at e69 hf
    refine lv_aload_n X.1 X.2.1 dX4_lookAhead_50 rfl (lv_at hl 1 rfl) ?_
    refine bl_getr X V hv0 fl_X4_22 rfl dX4_lookAhead_51 (fun h70 => ?_)
    refine lv_aload_n X.1 X.2.1 dX4_lookAhead_54 rfl (lv_at hl 1 rfl) ?_
    refine bl_geti X V hv0 fl_X4_58 dX4_lookAhead_55 ?_
    refine lv_iload X.1 X.2.1 dX4_lookAhead_58 (lv_at hl 7 rfl) ?_
    refine lv_iconst (v := 1) X.1 X.2.1 dX4_lookAhead_60 (by decide) ?_
    obtain ⟨r71, σ72, h73, hf⟩ := bl_bd_at hf
    refine bl_cSi (As := [.int (bl_I σ68 v0 8), .int v6, .int 1]) X V hl.1 ml_X4_86 mS_X4_index (t_X4_index l g σ68 (bl_I σ68 v0 8) v6 1 _  h73) rfl rfl ⟨Nat.le_of_ble_eq_true rfl, Nat.le_of_ble_eq_true rfl⟩ rfl rfl (Nat.le_of_ble_eq_true rfl) ⟨Nat.zero_le _, Nat.zero_le _⟩ dX4_lookAhead_61 (fun H locs V => ?_)
    refine lv_lload X.1 X.2.1 dX4_lookAhead_64 (lv_at hl 0 rfl) ?_
    obtain ⟨h74, hf⟩ := bl_gd_at hf
    refine bl_last (k := (Int32.toNatClampNeg r71)) X V h70 h74 rfl dX4_lookAhead_66 (fun σ75 H locs e76 V => ?_)
    have hf := bl_let_at e76 hf
    obtain ⟨x77, e78⟩ : ∃ z : Int32, z = v6 + 1 := ⟨_, rfl⟩
    have hf := bl_let_at e78 hf
    refine lv_iinc (v := x77) (lv' := [(6, .int x77), (7, .long x61), (0, .ref (bl_ad g v0)), (1, .int v1), (2, .int v2), (3, .int v3), (4, .int v4), (5, .int v5)]) X.1 X.2.1 dX4_lookAhead_67 hl (k := 7) rfl (by rw [e78]; rfl) (by decide) rfl (fun ls hl => ?_)
    refine lv_goto (tgt := 3) X.1 X.2.1 dX4_lookAhead_70 (by decide) ?_
    exact hk3 σ75 v0 v1 v2 v3 v4 v5 x77 hv0 hf _ _ _ V (lv_sub hl [2, 3, 4, 5, 6, 7, 0] rfl)
theorem l_X4_lookAhead_3 {p : Program} {l : Launch} {e : Env} {s : State} {m : MethodId} {below : List Frame} {meth : Method} {c : Code} {g : bl_Gp} {as : List Value} {out : Unit × bl_St} (X : bl_Cx g p s m as.toArray meth c cX4_lookAhead 9 RX4) (hr : meth.sig.returnType = (Option.none : Option Jvm.ClassFile.FieldType)) (n : Nat) : ∀ (σ : bl_St) (v0 : Nat) (v1 : Int32) (v2 : Int32) (v3 : Int32) (v4 : Int32) (v5 : Int32) (v6 : Int32), bl_sh[v0]? = some (4, 12) → (bl_fx (fun _ _ _ _ _ _ _ _ => none) (b_X4_lookAhead_3 ) n) σ v0 v1 v2 v3 v4 v5 v6 = some out → ∀ (H : Heap) (locs : List Loc) (ls : Array Slot), bl_V g s σ H locs → lv_has ls 9 [(0, .ref (bl_ad g v0)), (1, .int v1), (2, .int v2), (3, .int v3), (4, .int v4), (5, .int v5), (6, .int v6)] → W p l e (bl_rm 2 60) s m as.toArray below meth c H locs 0 0 (bl_Qv below g s as out) (F0 m 3 ls []) := by
  induction n with
  | zero =>
    intro σ v0 v1 v2 v3 v4 v5 v6 hv0 hf H locs ls V hl
    cases hf
  | succ n ih => exact w_X4_lookAhead_3 X hr  _ ih
set_option maxHeartbeats 4000000 in
set_option maxRecDepth 100000 in
theorem t_X4_lookAhead (l : Launch) (g : bl_Gp) (σ : bl_St) (a0 : Nat) (a1 : Int32) (a2 : Int32) (a3 : Int32) (a4 : Int32) (a5 : Int32) (o : Unit × bl_St) (ha0 : bl_sh[a0]? = some (4, 12)) (hf : f_X4_lookAhead σ a0 a1 a2 a3 a4 a5 = some o) : bl_Cv l g yX4_lookAhead cX4_lookAhead 9 (Option.none : Option Jvm.ClassFile.FieldType) (bl_rm 2 60) [.ref (bl_ad g a0), .int a1, .int a2, .int a3, .int a4, .int a5] σ o := by
  refine bl_met (by decide) (Nat.le_of_ble_eq_true rfl) (fun p e s m below meth c ls X hr V hl => ?_)
  have hl : lv_has ls 9 [(0, .ref (bl_ad g a0)), (1, .int a1), (2, .int a2), (3, .int a3), (4, .int a4), (5, .int a5)] := hl
  unfold f_X4_lookAhead at hf
  refine lv_iconst (v := 0) X.1 X.2.1 dX4_lookAhead_0 (by decide) ?_
  refine lv_istore (lv' := [(6, .int 0), (0, .ref (bl_ad g a0)), (1, .int a1), (2, .int a2), (3, .int a3), (4, .int a4), (5, .int a5)]) X.1 X.2.1 dX4_lookAhead_1 hl (by decide) rfl (fun ls hl => ?_)
  exact l_X4_lookAhead_3 X hr  bl_fu σ a0 a1 a2 a3 a4 a5 0 ha0 hf _ _ _ V (lv_sub hl [1, 2, 3, 4, 5, 6, 0] rfl)
set_option maxHeartbeats 4000000 in
set_option maxRecDepth 100000 in
theorem t_X4_premiumPaid (l : Launch) (g : bl_Gp) (σ : bl_St) (a0 : Nat) (a1 : Int32) (o : Int64 × bl_St) (ha0 : bl_sh[a0]? = some (4, 12)) (hf : f_X4_premiumPaid σ a0 a1 = some o) : bl_Cl l g yX4_premiumPaid cX4_premiumPaid 4 (Option.some Jvm.ClassFile.FieldType.long) (bl_rm 1 22) [.ref (bl_ad g a0), .int a1] σ o := by
  refine bl_met (by decide) (Nat.le_of_ble_eq_true rfl) (fun p e s m below meth c ls X hr V hl => ?_)
  have hl : lv_has ls 4 [(0, .ref (bl_ad g a0)), (1, .int a1)] := hl
  unfold f_X4_premiumPaid at hf
  refine lv_ldc2 (v := 1000) X.1 X.2.1 X.2.2.2.1 (X.2.2.2.2.1 _ kl_X4_116) dX4_premiumPaid_0 ?_
  refine lv_aload_n X.1 X.2.1 dX4_premiumPaid_3 rfl (lv_at hl 0 rfl) ?_
  refine bl_geti X V ha0 fl_X4_33 dX4_premiumPaid_4 ?_
  refine lv_i2l X.1 X.2.1 dX4_premiumPaid_7 rfl ?_
  refine lv_lmul X.1 X.2.1 dX4_premiumPaid_8 ?_
  refine lv_aload_n X.1 X.2.1 dX4_premiumPaid_9 rfl (lv_at hl 0 rfl) ?_
  refine bl_getr X V ha0 fl_X4_25 rfl dX4_premiumPaid_10 (fun h1 => ?_)
  refine lv_iload_n X.1 X.2.1 dX4_premiumPaid_13 rfl (lv_at hl 1 rfl) ?_
  refine lv_iconst (v := 0) X.1 X.2.1 dX4_premiumPaid_14 (by decide) ?_
  obtain ⟨r2, σ3, h4, hf⟩ := bl_bd_at hf
  refine bl_cVi (As := [.int a1, .int 0]) X V hl.1 h1 rfl ml_X4_120 mV_X8_part (t_X8_part l g σ (bl_R σ a0 0) a1 0 _ h1 h4) rfl rfl ⟨Nat.le_of_ble_eq_true rfl, Nat.le_of_ble_eq_true rfl⟩ rfl rfl (Nat.le_of_ble_eq_true rfl) ⟨Nat.zero_le _, Nat.zero_le _⟩ dX4_premiumPaid_15 (fun H locs V => ?_)
  refine lv_i2l X.1 X.2.1 dX4_premiumPaid_18 rfl ?_
  refine lv_lmul X.1 X.2.1 dX4_premiumPaid_19 ?_
  refine lv_topl (fun x5 e6 => ?_)
  have hf := bl_let_at e6 hf
  refine lv_lstore_n (lv' := [(2, .long x5), (0, .ref (bl_ad g a0)), (1, .int a1)]) X.1 X.2.1 dX4_premiumPaid_20 rfl hl (by decide) rfl (fun ls hl => ?_)
  refine lv_lload_n X.1 X.2.1 dX4_premiumPaid_21 rfl (lv_at hl 0 rfl) ?_
  refine lv_lload_n X.1 X.2.1 dX4_premiumPaid_22 rfl (lv_at hl 0 rfl) ?_
  refine lv_aload_n X.1 X.2.1 dX4_premiumPaid_23 rfl (lv_at hl 1 rfl) ?_
  refine bl_geti X V ha0 fl_X4_46 dX4_premiumPaid_24 ?_
  refine lv_i2l X.1 X.2.1 dX4_premiumPaid_27 rfl ?_
  refine lv_lmul X.1 X.2.1 dX4_premiumPaid_28 ?_
  refine lv_ldc2 (v := 100) X.1 X.2.1 X.2.2.2.1 (X.2.2.2.2.1 _ kl_X4_123) dX4_premiumPaid_29 ?_
  refine lv_ldiv X.1 X.2.1 dX4_premiumPaid_32 (by decide) ?_
  refine lv_lsub X.1 X.2.1 dX4_premiumPaid_33 ?_
  exact bl_retl X V hr hf dX4_premiumPaid_34
set_option maxHeartbeats 4000000 in
set_option maxRecDepth 100000 in
theorem w_X4_learn_60 {p : Program} {l : Launch} {e : Env} {s : State} {m : MethodId} {below : List Frame} {meth : Method} {c : Code} {g : bl_Gp} {as : List Value} {out : Unit × bl_St} (X : bl_Cx g p s m as.toArray meth c cX4_learn 4 RX4) (hr : meth.sig.returnType = (Option.none : Option Jvm.ClassFile.FieldType)) (k53 : bl_St → Nat → Int32 → Int32 → Option (Unit × bl_St)) (hk53 : ∀ (σ : bl_St) (v0 : Nat) (v1 : Int32) (v2 : Int32), bl_sh[v0]? = some (4, 12) → k53 σ v0 v1 v2 = some out → ∀ (H : Heap) (locs : List Loc) (ls : Array Slot), bl_V g s σ H locs → lv_has ls 4 [(0, .ref (bl_ad g v0)), (1, .int v1), (2, .int v2)] → W p l e (bl_rm 3 88) s m as.toArray below meth c H locs 0 0 (bl_Qv below g s as out) (F0 m 53 ls [])) (k60 : bl_St → Nat → Int32 → Int32 → Int32 → Option (Unit × bl_St)) (hk60 : ∀ (σ : bl_St) (v0 : Nat) (v1 : Int32) (v2 : Int32) (v3 : Int32), bl_sh[v0]? = some (4, 12) → k60 σ v0 v1 v2 v3 = some out → ∀ (H : Heap) (locs : List Loc) (ls : Array Slot), bl_V g s σ H locs → lv_has ls 4 [(0, .ref (bl_ad g v0)), (1, .int v1), (2, .int v2), (3, .int v3)] → W p l e (bl_rm 3 88) s m as.toArray below meth c H locs 0 0 (bl_Qv below g s as out) (F0 m 60 ls [])) : ∀ (σ : bl_St) (v0 : Nat) (v1 : Int32) (v2 : Int32) (v3 : Int32), bl_sh[v0]? = some (4, 12) → (b_X4_learn_60 k53 k60) σ v0 v1 v2 v3 = some out → ∀ (H : Heap) (locs : List Loc) (ls : Array Slot), bl_V g s σ H locs → lv_has ls 4 [(0, .ref (bl_ad g v0)), (1, .int v1), (2, .int v2), (3, .int v3)] → W p l e (bl_rm 3 88) s m as.toArray below meth c H locs 0 0 (bl_Qv below g s as out) (F0 m 60 ls []) := by
  intro σ v0 v1 v2 v3 hv0 hf H locs ls V hl
  unfold b_X4_learn_60 at hf
  refine lv_iload_n X.1 X.2.1 dX4_learn_60 rfl (lv_at hl 3 rfl) ?_
  refine lv_aload_n X.1 X.2.1 dX4_learn_61 rfl (lv_at hl 0 rfl) ?_
  refine bl_getr X V hv0 fl_X4_25 rfl dX4_learn_62 (fun h1 => ?_)
  refine bl_geti X V h1 fl_X4_64 dX4_learn_65 ?_
  refine lv_icmp_ge (tgt := 111) X.1 X.2.1 dX4_learn_68 (by decide) (fun c2 => ?_) (fun c2 => ?_)
  · have hf := bl_ifp c2 hf
    refine lv_aload_n X.1 X.2.1 dX4_learn_111 rfl (lv_at hl 0 rfl) ?_
    refine lv_iload_n X.1 X.2.1 dX4_learn_112 rfl (lv_at hl 2 rfl) ?_
    refine bl_puti X V hv0 fp_X4_49 rfl rfl dX4_learn_113 (fun σ3 H locs e4 V => ?_)
    have hf := bl_let_at e4 hf
    obtain ⟨x5, e6⟩ : ∃ z : Int32, z = v2 + 1 := ⟨_, rfl⟩
    have hf := bl_let_at e6 hf
    refine lv_iinc (v := x5) (lv' := [(2, .int x5), (0, .ref (bl_ad g v0)), (1, .int v1), (3, .int v3)]) X.1 X.2.1 dX4_learn_116 hl (k := 2) rfl (by rw [e6]; rfl) (by decide) rfl (fun ls hl => ?_)
    refine lv_goto (tgt := 53) X.1 X.2.1 dX4_learn_119 (by decide) ?_
    exact hk53 σ3 v0 v1 x5 hv0 hf _ _ _ V (lv_sub hl [1, 2, 0] rfl)
  · have hf := bl_ifn c2 hf
    refine lv_aload_n X.1 X.2.1 dX4_learn_71 rfl (lv_at hl 0 rfl) ?_
    refine lv_iload_n X.1 X.2.1 dX4_learn_72 rfl (lv_at hl 2 rfl) ?_
    refine lv_iload_n X.1 X.2.1 dX4_learn_73 rfl (lv_at hl 3 rfl) ?_
    refine lv_iconst (v := 0) X.1 X.2.1 dX4_learn_74 (by decide) ?_
    refine lv_iconst (v := 0) X.1 X.2.1 dX4_learn_75 (by decide) ?_
    refine lv_aload_n X.1 X.2.1 dX4_learn_76 rfl (lv_at hl 0 rfl) ?_
    refine bl_geti X V hv0 fl_X4_29 dX4_learn_77 ?_
    obtain ⟨r7, σ8, h9, hf⟩ := bl_bd_at hf
    refine bl_cVv (As := [.int v2, .int v3, .int 0, .int 0, .int (bl_I σ v0 1)]) X V hl.1 hv0 rfl ml_X4_67 mV_X4_lookAhead (t_X4_lookAhead l g σ v0 v2 v3 0 0 (bl_I σ v0 1) _ hv0 h9) rfl rfl ⟨Nat.le_of_ble_eq_true rfl, Nat.le_of_ble_eq_true rfl⟩ rfl rfl (Nat.le_of_ble_eq_true rfl) ⟨Nat.zero_le _, Nat.zero_le _⟩ dX4_learn_80 (fun H locs V => ?_)
    refine lv_aload_n X.1 X.2.1 dX4_learn_83 rfl (lv_at hl 0 rfl) ?_
    refine bl_getr X V hv0 fl_X4_18 rfl dX4_learn_84 (fun h10 => ?_)
    refine lv_iload_n X.1 X.2.1 dX4_learn_87 rfl (lv_at hl 2 rfl) ?_
    refine lv_bipush (v := 8) X.1 X.2.1 dX4_learn_88 (by decide) ?_
    refine lv_imul X.1 X.2.1 dX4_learn_90 ?_
    refine lv_iload_n X.1 X.2.1 dX4_learn_91 rfl (lv_at hl 3 rfl) ?_
    refine lv_iadd X.1 X.2.1 dX4_learn_92 ?_
    refine lv_aload_n X.1 X.2.1 dX4_learn_93 rfl (lv_at hl 0 rfl) ?_
    refine lv_iload_n X.1 X.2.1 dX4_learn_94 rfl (lv_at hl 3 rfl) ?_
    obtain ⟨r11, σ12, h13, hf⟩ := bl_bd_at hf
    refine bl_cVl (As := [.int v3]) X V hl.1 hv0 rfl ml_X4_71 mV_X4_premiumPaid (t_X4_premiumPaid l g σ8 v0 v3 _ hv0 h13) rfl rfl ⟨Nat.le_of_ble_eq_true rfl, Nat.le_of_ble_eq_true rfl⟩ rfl rfl (Nat.le_of_ble_eq_true rfl) ⟨Nat.zero_le _, Nat.zero_le _⟩ dX4_learn_95 (fun H locs V => ?_)
    refine lv_aload_n X.1 X.2.1 dX4_learn_98 rfl (lv_at hl 0 rfl) ?_
    refine lv_iload_n X.1 X.2.1 dX4_learn_99 rfl (lv_at hl 3 rfl) ?_
    obtain ⟨r14, σ15, h16, hf⟩ := bl_bd_at hf
    refine bl_cVl (As := [.int v3]) X V hl.1 hv0 rfl ml_X4_75 mV_X4_costBehindPremium (t_X4_costBehindPremium l g σ12 v0 v3 _ hv0 h16) rfl rfl ⟨Nat.le_of_ble_eq_true rfl, Nat.le_of_ble_eq_true rfl⟩ rfl rfl (Nat.le_of_ble_eq_true rfl) ⟨Nat.zero_le _, Nat.zero_le _⟩ dX4_learn_100 (fun H locs V => ?_)
    refine lv_ladd X.1 X.2.1 dX4_learn_103 ?_
    obtain ⟨h17, hf⟩ := bl_gd_at hf
    refine bl_last (k := (Int32.toNatClampNeg ((v2 * 8) + v3))) X V h10 h17 rfl dX4_learn_104 (fun σ18 H locs e19 V => ?_)
    have hf := bl_let_at e19 hf
    obtain ⟨x20, e21⟩ : ∃ z : Int32, z = v3 + 1 := ⟨_, rfl⟩
    have hf := bl_let_at e21 hf
    refine lv_iinc (v := x20) (lv' := [(3, .int x20), (0, .ref (bl_ad g v0)), (1, .int v1), (2, .int v2)]) X.1 X.2.1 dX4_learn_105 hl (k := 3) rfl (by rw [e21]; rfl) (by decide) rfl (fun ls hl => ?_)
    refine lv_goto (tgt := 60) X.1 X.2.1 dX4_learn_108 (by decide) ?_
    exact hk60 σ18 v0 v1 v2 x20 hv0 hf _ _ _ V (lv_sub hl [1, 2, 3, 0] rfl)
theorem l_X4_learn_60 {p : Program} {l : Launch} {e : Env} {s : State} {m : MethodId} {below : List Frame} {meth : Method} {c : Code} {g : bl_Gp} {as : List Value} {out : Unit × bl_St} (X : bl_Cx g p s m as.toArray meth c cX4_learn 4 RX4) (hr : meth.sig.returnType = (Option.none : Option Jvm.ClassFile.FieldType)) (k53 : bl_St → Nat → Int32 → Int32 → Option (Unit × bl_St)) (hk53 : ∀ (σ : bl_St) (v0 : Nat) (v1 : Int32) (v2 : Int32), bl_sh[v0]? = some (4, 12) → k53 σ v0 v1 v2 = some out → ∀ (H : Heap) (locs : List Loc) (ls : Array Slot), bl_V g s σ H locs → lv_has ls 4 [(0, .ref (bl_ad g v0)), (1, .int v1), (2, .int v2)] → W p l e (bl_rm 3 88) s m as.toArray below meth c H locs 0 0 (bl_Qv below g s as out) (F0 m 53 ls [])) (n : Nat) : ∀ (σ : bl_St) (v0 : Nat) (v1 : Int32) (v2 : Int32) (v3 : Int32), bl_sh[v0]? = some (4, 12) → (bl_fx (fun _ _ _ _ _ => none) (b_X4_learn_60 k53) n) σ v0 v1 v2 v3 = some out → ∀ (H : Heap) (locs : List Loc) (ls : Array Slot), bl_V g s σ H locs → lv_has ls 4 [(0, .ref (bl_ad g v0)), (1, .int v1), (2, .int v2), (3, .int v3)] → W p l e (bl_rm 3 88) s m as.toArray below meth c H locs 0 0 (bl_Qv below g s as out) (F0 m 60 ls []) := by
  induction n with
  | zero =>
    intro σ v0 v1 v2 v3 hv0 hf H locs ls V hl
    cases hf
  | succ n ih => exact w_X4_learn_60 X hr k53 hk53 _ ih
set_option maxHeartbeats 4000000 in
set_option maxRecDepth 100000 in
theorem w_X4_learn_53 {p : Program} {l : Launch} {e : Env} {s : State} {m : MethodId} {below : List Frame} {meth : Method} {c : Code} {g : bl_Gp} {as : List Value} {out : Unit × bl_St} (X : bl_Cx g p s m as.toArray meth c cX4_learn 4 RX4) (hr : meth.sig.returnType = (Option.none : Option Jvm.ClassFile.FieldType)) (k53 : bl_St → Nat → Int32 → Int32 → Option (Unit × bl_St)) (hk53 : ∀ (σ : bl_St) (v0 : Nat) (v1 : Int32) (v2 : Int32), bl_sh[v0]? = some (4, 12) → k53 σ v0 v1 v2 = some out → ∀ (H : Heap) (locs : List Loc) (ls : Array Slot), bl_V g s σ H locs → lv_has ls 4 [(0, .ref (bl_ad g v0)), (1, .int v1), (2, .int v2)] → W p l e (bl_rm 3 88) s m as.toArray below meth c H locs 0 0 (bl_Qv below g s as out) (F0 m 53 ls [])) : ∀ (σ : bl_St) (v0 : Nat) (v1 : Int32) (v2 : Int32), bl_sh[v0]? = some (4, 12) → (b_X4_learn_53 k53) σ v0 v1 v2 = some out → ∀ (H : Heap) (locs : List Loc) (ls : Array Slot), bl_V g s σ H locs → lv_has ls 4 [(0, .ref (bl_ad g v0)), (1, .int v1), (2, .int v2)] → W p l e (bl_rm 3 88) s m as.toArray below meth c H locs 0 0 (bl_Qv below g s as out) (F0 m 53 ls []) := by
  intro σ v0 v1 v2 hv0 hf H locs ls V hl
  unfold b_X4_learn_53 at hf
  refine lv_iload_n X.1 X.2.1 dX4_learn_53 rfl (lv_at hl 2 rfl) ?_
  refine lv_iload_n X.1 X.2.1 dX4_learn_54 rfl (lv_at hl 1 rfl) ?_
  refine lv_icmp_gt (tgt := 122) X.1 X.2.1 dX4_learn_55 (by decide) (fun c22 => ?_) (fun c22 => ?_)
  · have hf := bl_ifp c22 hf
    exact bl_retv X V hr hf dX4_learn_122
  · have hf := bl_ifn c22 hf
    refine lv_iconst (v := 0) X.1 X.2.1 dX4_learn_58 (by decide) ?_
    refine lv_istore_n (lv' := [(3, .int 0), (0, .ref (bl_ad g v0)), (1, .int v1), (2, .int v2)]) X.1 X.2.1 dX4_learn_59 rfl hl (by decide) rfl (fun ls hl => ?_)
    exact l_X4_learn_60 X hr k53 hk53 bl_fu σ v0 v1 v2 0 hv0 hf _ _ _ V (lv_sub hl [1, 2, 3, 0] rfl)
theorem l_X4_learn_53 {p : Program} {l : Launch} {e : Env} {s : State} {m : MethodId} {below : List Frame} {meth : Method} {c : Code} {g : bl_Gp} {as : List Value} {out : Unit × bl_St} (X : bl_Cx g p s m as.toArray meth c cX4_learn 4 RX4) (hr : meth.sig.returnType = (Option.none : Option Jvm.ClassFile.FieldType)) (n : Nat) : ∀ (σ : bl_St) (v0 : Nat) (v1 : Int32) (v2 : Int32), bl_sh[v0]? = some (4, 12) → (bl_fx (fun _ _ _ _ => none) (b_X4_learn_53 ) n) σ v0 v1 v2 = some out → ∀ (H : Heap) (locs : List Loc) (ls : Array Slot), bl_V g s σ H locs → lv_has ls 4 [(0, .ref (bl_ad g v0)), (1, .int v1), (2, .int v2)] → W p l e (bl_rm 3 88) s m as.toArray below meth c H locs 0 0 (bl_Qv below g s as out) (F0 m 53 ls []) := by
  induction n with
  | zero =>
    intro σ v0 v1 v2 hv0 hf H locs ls V hl
    cases hf
  | succ n ih => exact w_X4_learn_53 X hr  _ ih
set_option maxHeartbeats 4000000 in
set_option maxRecDepth 100000 in
theorem w_X4_learn_46 {p : Program} {l : Launch} {e : Env} {s : State} {m : MethodId} {below : List Frame} {meth : Method} {c : Code} {g : bl_Gp} {as : List Value} {out : Unit × bl_St} (X : bl_Cx g p s m as.toArray meth c cX4_learn 4 RX4) (hr : meth.sig.returnType = (Option.none : Option Jvm.ClassFile.FieldType)) : ∀ (σ : bl_St) (v0 : Nat) (v1 : Int32), bl_sh[v0]? = some (4, 12) → (b_X4_learn_46 ) σ v0 v1 = some out → ∀ (H : Heap) (locs : List Loc) (ls : Array Slot), bl_V g s σ H locs → lv_has ls 4 [(0, .ref (bl_ad g v0)), (1, .int v1)] → W p l e (bl_rm 3 88) s m as.toArray below meth c H locs 0 0 (bl_Qv below g s as out) (F0 m 46 ls []) := by
  intro σ v0 v1 hv0 hf H locs ls V hl
  unfold b_X4_learn_46 at hf
  refine lv_aload_n X.1 X.2.1 dX4_learn_46 rfl (lv_at hl 0 rfl) ?_
  refine bl_geti X V hv0 fl_X4_49 dX4_learn_47 ?_
  refine lv_iconst (v := 1) X.1 X.2.1 dX4_learn_50 (by decide) ?_
  refine lv_iadd X.1 X.2.1 dX4_learn_51 ?_
  refine lv_topi (fun x23 e24 => ?_)
  have hf := bl_let_at e24 hf
  refine lv_istore_n (lv' := [(2, .int x23), (0, .ref (bl_ad g v0)), (1, .int v1)]) X.1 X.2.1 dX4_learn_52 rfl hl (by decide) rfl (fun ls hl => ?_)
  exact l_X4_learn_53 X hr  bl_fu σ v0 v1 x23 hv0 hf _ _ _ V (lv_sub hl [1, 2, 0] rfl)
set_option maxHeartbeats 4000000 in
set_option maxRecDepth 100000 in
theorem t_X4_learn (l : Launch) (g : bl_Gp) (σ : bl_St) (a0 : Nat) (a1 : Int32) (o : Unit × bl_St) (ha0 : bl_sh[a0]? = some (4, 12)) (hf : f_X4_learn σ a0 a1 = some o) : bl_Cv l g yX4_learn cX4_learn 4 (Option.none : Option Jvm.ClassFile.FieldType) (bl_rm 3 88) [.ref (bl_ad g a0), .int a1] σ o := by
  refine bl_met (by decide) (Nat.le_of_ble_eq_true rfl) (fun p e s m below meth c ls X hr V hl => ?_)
  have hl : lv_has ls 4 [(0, .ref (bl_ad g a0)), (1, .int a1)] := hl
  unfold f_X4_learn at hf
  refine lv_aload_n X.1 X.2.1 dX4_learn_0 rfl (lv_at hl 0 rfl) ?_
  refine bl_geti X V ha0 fl_X4_49 dX4_learn_1 ?_
  refine lv_if_ne (tgt := 46) X.1 X.2.1 dX4_learn_4 (by decide) (fun c25 => ?_) (fun c25 => ?_)
  · have hf := bl_ifn c25 hf
    exact w_X4_learn_46 X hr  σ a0 a1 ha0 hf _ _ _ V (lv_sub hl [0, 1] rfl)
  · have hf := bl_ifp c25 hf
    refine lv_aload_n X.1 X.2.1 dX4_learn_7 rfl (lv_at hl 0 rfl) ?_
    refine lv_aload_n X.1 X.2.1 dX4_learn_8 rfl (lv_at hl 0 rfl) ?_
    refine bl_getr X V ha0 fl_X4_25 rfl dX4_learn_9 (fun h26 => ?_)
    obtain ⟨r27, σ28, h29, hf⟩ := bl_bd_at hf
    refine bl_cVi (As := []) X V hl.1 h26 rfl ml_X4_52 mV_X8_chances (t_X8_chances l g σ (bl_R σ a0 0) _ h26 h29) rfl rfl ⟨Nat.le_of_ble_eq_true rfl, Nat.le_of_ble_eq_true rfl⟩ rfl rfl (Nat.le_of_ble_eq_true rfl) ⟨Nat.zero_le _, Nat.zero_le _⟩ dX4_learn_12 (fun H locs V => ?_)
    refine lv_aload_n X.1 X.2.1 dX4_learn_15 rfl (lv_at hl 0 rfl) ?_
    refine bl_geti X V ha0 fl_X4_33 dX4_learn_16 ?_
    refine lv_imul X.1 X.2.1 dX4_learn_19 ?_
    refine bl_puti X V ha0 fp_X4_58 rfl rfl dX4_learn_20 (fun σ30 H locs e31 V => ?_)
    have hf := bl_let_at e31 hf
    refine lv_aload_n X.1 X.2.1 dX4_learn_23 rfl (lv_at hl 0 rfl) ?_
    refine bl_getr X V ha0 fl_X4_12 rfl dX4_learn_24 (fun h32 => ?_)
    refine lv_aload_n X.1 X.2.1 dX4_learn_27 rfl (lv_at hl 0 rfl) ?_
    refine bl_getr X V ha0 fl_X4_25 rfl dX4_learn_28 (fun h33 => ?_)
    refine lv_aload_n X.1 X.2.1 dX4_learn_31 rfl (lv_at hl 0 rfl) ?_
    refine bl_geti X V ha0 fl_X4_37 dX4_learn_32 ?_
    refine lv_aload_n X.1 X.2.1 dX4_learn_35 rfl (lv_at hl 0 rfl) ?_
    refine bl_geti X V ha0 fl_X4_40 dX4_learn_36 ?_
    refine lv_aload_n X.1 X.2.1 dX4_learn_39 rfl (lv_at hl 0 rfl) ?_
    refine bl_geti X V ha0 fl_X4_43 dX4_learn_40 ?_
    obtain ⟨r34, σ35, h36, hf⟩ := bl_bd_at hf
    refine bl_cVv (As := [.ref (bl_ad g (bl_R σ30 a0 0)), .int (bl_I σ30 a0 2), .int (bl_I σ30 a0 3), .int (bl_I σ30 a0 4)]) X V hl.1 h32 rfl ml_X4_60 mV_X3_take (t_X3_take l g σ30 (bl_R σ30 a0 9) (bl_R σ30 a0 0) (bl_I σ30 a0 2) (bl_I σ30 a0 3) (bl_I σ30 a0 4) _ h32 h33 h36) rfl rfl ⟨Nat.le_of_ble_eq_true rfl, Nat.le_of_ble_eq_true rfl⟩ rfl rfl (Nat.le_of_ble_eq_true rfl) ⟨Nat.zero_le _, Nat.zero_le _⟩ dX4_learn_43 (fun H locs V => ?_)
    exact w_X4_learn_46 X hr  σ35 a0 a1 ha0 hf _ _ _ V (lv_sub hl [0, 1] rfl)
set_option maxHeartbeats 4000000 in
set_option maxRecDepth 100000 in
theorem t_X4_costOf (l : Launch) (g : bl_Gp) (σ : bl_St) (a0 : Nat) (a1 : Int32) (a2 : Int32) (o : Int64 × bl_St) (ha0 : bl_sh[a0]? = some (4, 12)) (hf : f_X4_costOf σ a0 a1 a2 = some o) : bl_Cl l g yX4_costOf cX4_costOf 3 (Option.some Jvm.ClassFile.FieldType.long) (bl_rm 4 111) [.ref (bl_ad g a0), .int a1, .int a2] σ o := by
  refine bl_met (by decide) (Nat.le_of_ble_eq_true rfl) (fun p e s m below meth c ls X hr V hl => ?_)
  have hl : lv_has ls 3 [(0, .ref (bl_ad g a0)), (1, .int a1), (2, .int a2)] := hl
  unfold f_X4_costOf at hf
  refine lv_aload_n X.1 X.2.1 dX4_costOf_0 rfl (lv_at hl 0 rfl) ?_
  refine lv_iload_n X.1 X.2.1 dX4_costOf_1 rfl (lv_at hl 1 rfl) ?_
  obtain ⟨r1, σ2, h3, hf⟩ := bl_bd_at hf
  refine bl_cVv (As := [.int a1]) X V hl.1 ha0 rfl ml_X4_78 mV_X4_learn (t_X4_learn l g σ a0 a1 _ ha0 h3) rfl rfl ⟨Nat.le_of_ble_eq_true rfl, Nat.le_of_ble_eq_true rfl⟩ rfl rfl (Nat.le_of_ble_eq_true rfl) ⟨Nat.zero_le _, Nat.zero_le _⟩ dX4_costOf_2 (fun H locs V => ?_)
  refine lv_aload_n X.1 X.2.1 dX4_costOf_5 rfl (lv_at hl 0 rfl) ?_
  refine bl_getr X V ha0 fl_X4_18 rfl dX4_costOf_6 (fun h4 => ?_)
  refine lv_iload_n X.1 X.2.1 dX4_costOf_9 rfl (lv_at hl 1 rfl) ?_
  refine lv_bipush (v := 8) X.1 X.2.1 dX4_costOf_10 (by decide) ?_
  refine lv_imul X.1 X.2.1 dX4_costOf_12 ?_
  refine lv_iload_n X.1 X.2.1 dX4_costOf_13 rfl (lv_at hl 2 rfl) ?_
  refine lv_iadd X.1 X.2.1 dX4_costOf_14 ?_
  obtain ⟨h5, hf⟩ := bl_gd_at hf
  refine bl_lald (k := (Int32.toNatClampNeg ((a1 * 8) + a2))) X V h4 h5 rfl dX4_costOf_15 ?_
  exact bl_retl X V hr hf dX4_costOf_16
set_option maxHeartbeats 4000000 in
set_option maxRecDepth 100000 in
theorem t_X4_buys (l : Launch) (g : bl_Gp) (σ : bl_St) (a0 : Nat) (a1 : Int32) (a2 : Int32) (o : Int32 × bl_St) (ha0 : bl_sh[a0]? = some (4, 12)) (hf : f_X4_buys σ a0 a1 a2 = some o) : bl_Ci l g yX4_buys cX4_buys 3 (Option.some Jvm.ClassFile.FieldType.boolean) (bl_rm 3 88) [.ref (bl_ad g a0), .int a1, .int a2] σ o := by
  refine bl_met (by decide) (Nat.le_of_ble_eq_true rfl) (fun p e s m below meth c ls X hr V hl => ?_)
  have hl : lv_has ls 3 [(0, .ref (bl_ad g a0)), (1, .int a1), (2, .int a2)] := hl
  unfold f_X4_buys at hf
  refine lv_aload_n X.1 X.2.1 dX4_buys_0 rfl (lv_at hl 0 rfl) ?_
  refine lv_iload_n X.1 X.2.1 dX4_buys_1 rfl (lv_at hl 1 rfl) ?_
  refine lv_iload_n X.1 X.2.1 dX4_buys_2 rfl (lv_at hl 2 rfl) ?_
  refine lv_iconst (v := 0) X.1 X.2.1 dX4_buys_3 (by decide) ?_
  refine lv_iconst (v := 0) X.1 X.2.1 dX4_buys_4 (by decide) ?_
  refine lv_iconst (v := 1) X.1 X.2.1 dX4_buys_5 (by decide) ?_
  obtain ⟨r1, σ2, h3, hf⟩ := bl_bd_at hf
  refine bl_cVv (As := [.int a1, .int a2, .int 0, .int 0, .int 1]) X V hl.1 ha0 rfl ml_X4_67 mV_X4_lookAhead (t_X4_lookAhead l g σ a0 a1 a2 0 0 1 _ ha0 h3) rfl rfl ⟨Nat.le_of_ble_eq_true rfl, Nat.le_of_ble_eq_true rfl⟩ rfl rfl (Nat.le_of_ble_eq_true rfl) ⟨Nat.zero_le _, Nat.zero_le _⟩ dX4_buys_6 (fun H locs V => ?_)
  refine lv_aload_n X.1 X.2.1 dX4_buys_9 rfl (lv_at hl 0 rfl) ?_
  refine lv_iload_n X.1 X.2.1 dX4_buys_10 rfl (lv_at hl 2 rfl) ?_
  obtain ⟨r4, σ5, h6, hf⟩ := bl_bd_at hf
  refine bl_cVi (As := [.int a2]) X V hl.1 ha0 rfl ml_X4_102 mV_X4_guardPays (t_X4_guardPays l g σ2 a0 a2 _ ha0 h6) rfl rfl ⟨Nat.le_of_ble_eq_true rfl, Nat.le_of_ble_eq_true rfl⟩ rfl rfl (Nat.le_of_ble_eq_true rfl) ⟨Nat.zero_le _, Nat.zero_le _⟩ dX4_buys_11 (fun H locs V => ?_)
  obtain ⟨h7, hf⟩ := bl_gd_at hf
  exact bl_retz X V hr h7 hf dX4_buys_14
set_option maxHeartbeats 4000000 in
set_option maxRecDepth 100000 in
theorem t_X4_aheadOf (l : Launch) (g : bl_Gp) (σ : bl_St) (a0 : Nat) (a1 : Int32) (a2 : Int32) (a3 : Int32) (o : Int64 × bl_St) (ha0 : bl_sh[a0]? = some (4, 12)) (hf : f_X4_aheadOf σ a0 a1 a2 a3 = some o) : bl_Cl l g yX4_aheadOf cX4_aheadOf 4 (Option.some Jvm.ClassFile.FieldType.long) (bl_rm 1 22) [.ref (bl_ad g a0), .int a1, .int a2, .int a3] σ o := by
  refine bl_met (by decide) (Nat.le_of_ble_eq_true rfl) (fun p e s m below meth c ls X hr V hl => ?_)
  have hl : lv_has ls 4 [(0, .ref (bl_ad g a0)), (1, .int a1), (2, .int a2), (3, .int a3)] := hl
  unfold f_X4_aheadOf at hf
  refine lv_aload_n X.1 X.2.1 dX4_aheadOf_0 rfl (lv_at hl 0 rfl) ?_
  refine bl_getr X V ha0 fl_X4_22 rfl dX4_aheadOf_1 (fun h1 => ?_)
  refine lv_iload_n X.1 X.2.1 dX4_aheadOf_4 rfl (lv_at hl 1 rfl) ?_
  refine lv_iload_n X.1 X.2.1 dX4_aheadOf_5 rfl (lv_at hl 2 rfl) ?_
  refine lv_iload_n X.1 X.2.1 dX4_aheadOf_6 rfl (lv_at hl 3 rfl) ?_
  obtain ⟨r2, σ3, h4, hf⟩ := bl_bd_at hf
  refine bl_cSi (As := [.int a1, .int a2, .int a3]) X V hl.1 ml_X4_86 mS_X4_index (t_X4_index l g σ a1 a2 a3 _  h4) rfl rfl ⟨Nat.le_of_ble_eq_true rfl, Nat.le_of_ble_eq_true rfl⟩ rfl rfl (Nat.le_of_ble_eq_true rfl) ⟨Nat.zero_le _, Nat.zero_le _⟩ dX4_aheadOf_7 (fun H locs V => ?_)
  obtain ⟨h5, hf⟩ := bl_gd_at hf
  refine bl_lald (k := (Int32.toNatClampNeg r2)) X V h1 h5 rfl dX4_aheadOf_10 ?_
  exact bl_retl X V hr hf dX4_aheadOf_11
set_option maxHeartbeats 4000000 in
set_option maxRecDepth 100000 in
theorem t_X4_dearerIfTold (l : Launch) (g : bl_Gp) (σ : bl_St) (a0 : Nat) (a1 : Int32) (a2 : Int32) (a3 : Int32) (o : Int64 × bl_St) (ha0 : bl_sh[a0]? = some (4, 12)) (hf : f_X4_dearerIfTold σ a0 a1 a2 a3 = some o) : bl_Cl l g yX4_dearerIfTold cX4_dearerIfTold 4 (Option.some Jvm.ClassFile.FieldType.long) (bl_rm 2 44) [.ref (bl_ad g a0), .int a1, .int a2, .int a3] σ o := by
  refine bl_met (by decide) (Nat.le_of_ble_eq_true rfl) (fun p e s m below meth c ls X hr V hl => ?_)
  have hl : lv_has ls 4 [(0, .ref (bl_ad g a0)), (1, .int a1), (2, .int a2), (3, .int a3)] := hl
  unfold f_X4_dearerIfTold at hf
  refine lv_aload_n X.1 X.2.1 dX4_dearerIfTold_0 rfl (lv_at hl 0 rfl) ?_
  refine bl_getr X V ha0 fl_X4_22 rfl dX4_dearerIfTold_1 (fun h1 => ?_)
  refine lv_iload_n X.1 X.2.1 dX4_dearerIfTold_4 rfl (lv_at hl 1 rfl) ?_
  refine lv_iload_n X.1 X.2.1 dX4_dearerIfTold_5 rfl (lv_at hl 2 rfl) ?_
  refine lv_iload_n X.1 X.2.1 dX4_dearerIfTold_6 rfl (lv_at hl 3 rfl) ?_
  obtain ⟨r2, σ3, h4, hf⟩ := bl_bd_at hf
  refine bl_cSi (As := [.int a1, .int a2, .int a3]) X V hl.1 ml_X4_95 mS_X4_toldIndex (t_X4_toldIndex l g σ a1 a2 a3 _  h4) rfl rfl ⟨Nat.le_of_ble_eq_true rfl, Nat.le_of_ble_eq_true rfl⟩ rfl rfl (Nat.le_of_ble_eq_true rfl) ⟨Nat.zero_le _, Nat.zero_le _⟩ dX4_dearerIfTold_7 (fun H locs V => ?_)
  obtain ⟨h5, hf⟩ := bl_gd_at hf
  refine bl_lald (k := (Int32.toNatClampNeg r2)) X V h1 h5 rfl dX4_dearerIfTold_10 ?_
  refine lv_aload_n X.1 X.2.1 dX4_dearerIfTold_11 rfl (lv_at hl 0 rfl) ?_
  refine bl_getr X V ha0 fl_X4_22 rfl dX4_dearerIfTold_12 (fun h6 => ?_)
  refine lv_iload_n X.1 X.2.1 dX4_dearerIfTold_15 rfl (lv_at hl 1 rfl) ?_
  refine lv_iconst (v := 1) X.1 X.2.1 dX4_dearerIfTold_16 (by decide) ?_
  refine lv_iadd X.1 X.2.1 dX4_dearerIfTold_17 ?_
  refine lv_iload_n X.1 X.2.1 dX4_dearerIfTold_18 rfl (lv_at hl 2 rfl) ?_
  refine lv_iload_n X.1 X.2.1 dX4_dearerIfTold_19 rfl (lv_at hl 3 rfl) ?_
  obtain ⟨r7, σ8, h9, hf⟩ := bl_bd_at hf
  refine bl_cSi (As := [.int (a1 + 1), .int a2, .int a3]) X V hl.1 ml_X4_86 mS_X4_index (t_X4_index l g σ3 (a1 + 1) a2 a3 _  h9) rfl rfl ⟨Nat.le_of_ble_eq_true rfl, Nat.le_of_ble_eq_true rfl⟩ rfl rfl (Nat.le_of_ble_eq_true rfl) ⟨Nat.zero_le _, Nat.zero_le _⟩ dX4_dearerIfTold_20 (fun H locs V => ?_)
  obtain ⟨h10, hf⟩ := bl_gd_at hf
  refine bl_lald (k := (Int32.toNatClampNeg r7)) X V h6 h10 rfl dX4_dearerIfTold_23 ?_
  refine lv_lsub X.1 X.2.1 dX4_dearerIfTold_24 ?_
  exact bl_retl X V hr hf dX4_dearerIfTold_25
set_option maxHeartbeats 4000000 in
set_option maxRecDepth 100000 in
theorem t_X4_gainOf (l : Launch) (g : bl_Gp) (σ : bl_St) (a0 : Nat) (a1 : Int32) (a2 : Int32) (a3 : Int32) (a4 : Int32) (o : Int64 × bl_St) (ha0 : bl_sh[a0]? = some (4, 12)) (hf : f_X4_gainOf σ a0 a1 a2 a3 a4 = some o) : bl_Cl l g yX4_gainOf cX4_gainOf 5 (Option.some Jvm.ClassFile.FieldType.long) (bl_rm 3 67) [.ref (bl_ad g a0), .int a1, .int a2, .int a3, .int a4] σ o := by
  refine bl_met (by decide) (Nat.le_of_ble_eq_true rfl) (fun p e s m below meth c ls X hr V hl => ?_)
  have hl : lv_has ls 5 [(0, .ref (bl_ad g a0)), (1, .int a1), (2, .int a2), (3, .int a3), (4, .int a4)] := hl
  unfold f_X4_gainOf at hf
  refine lv_aload_n X.1 X.2.1 dX4_gainOf_0 rfl (lv_at hl 0 rfl) ?_
  refine bl_getr X V ha0 fl_X4_12 rfl dX4_gainOf_1 (fun h1 => ?_)
  refine lv_iload X.1 X.2.1 dX4_gainOf_4 (lv_at hl 4 rfl) ?_
  obtain ⟨r2, σ3, h4, hf⟩ := bl_bd_at hf
  refine bl_cVl (As := [.int a4]) X V hl.1 h1 rfl ml_X4_106 mV_X3_savedIfTold (t_X3_savedIfTold l g σ (bl_R σ a0 9) a4 _ h1 h4) rfl rfl ⟨Nat.le_of_ble_eq_true rfl, Nat.le_of_ble_eq_true rfl⟩ rfl rfl (Nat.le_of_ble_eq_true rfl) ⟨Nat.zero_le _, Nat.zero_le _⟩ dX4_gainOf_6 (fun H locs V => ?_)
  refine lv_aload_n X.1 X.2.1 dX4_gainOf_9 rfl (lv_at hl 0 rfl) ?_
  refine lv_iload_n X.1 X.2.1 dX4_gainOf_10 rfl (lv_at hl 1 rfl) ?_
  refine lv_iload_n X.1 X.2.1 dX4_gainOf_11 rfl (lv_at hl 2 rfl) ?_
  refine lv_iload_n X.1 X.2.1 dX4_gainOf_12 rfl (lv_at hl 3 rfl) ?_
  obtain ⟨r5, σ6, h7, hf⟩ := bl_bd_at hf
  refine bl_cVl (As := [.int a1, .int a2, .int a3]) X V hl.1 ha0 rfl ml_X4_109 mV_X4_dearerIfTold (t_X4_dearerIfTold l g σ3 a0 a1 a2 a3 _ ha0 h7) rfl rfl ⟨Nat.le_of_ble_eq_true rfl, Nat.le_of_ble_eq_true rfl⟩ rfl rfl (Nat.le_of_ble_eq_true rfl) ⟨Nat.zero_le _, Nat.zero_le _⟩ dX4_gainOf_13 (fun H locs V => ?_)
  refine lv_lsub X.1 X.2.1 dX4_gainOf_16 ?_
  exact bl_retl X V hr hf dX4_gainOf_17
set_option maxHeartbeats 4000000 in
set_option maxRecDepth 100000 in
theorem t_X4_leastTold (l : Launch) (g : bl_Gp) (σ : bl_St) (a0 : Nat) (a1 : Int32) (a2 : Int32) (a3 : Int32) (o : Int32 × bl_St) (ha0 : bl_sh[a0]? = some (4, 12)) (hf : f_X4_leastTold σ a0 a1 a2 a3 = some o) : bl_Ci l g yX4_leastTold cX4_leastTold 8 (Option.some Jvm.ClassFile.FieldType.int) (bl_rm 3 67) [.ref (bl_ad g a0), .int a1, .int a2, .int a3] σ o := by
  refine bl_met (by decide) (Nat.le_of_ble_eq_true rfl) (fun p e s m below meth c ls X hr V hl => ?_)
  have hl : lv_has ls 8 [(0, .ref (bl_ad g a0)), (1, .int a1), (2, .int a2), (3, .int a3)] := hl
  unfold f_X4_leastTold at hf
  refine lv_aload_n X.1 X.2.1 dX4_leastTold_0 rfl (lv_at hl 0 rfl) ?_
  refine lv_iload_n X.1 X.2.1 dX4_leastTold_1 rfl (lv_at hl 1 rfl) ?_
  refine lv_iload_n X.1 X.2.1 dX4_leastTold_2 rfl (lv_at hl 2 rfl) ?_
  refine lv_iload_n X.1 X.2.1 dX4_leastTold_3 rfl (lv_at hl 3 rfl) ?_
  obtain ⟨r1, σ2, h3, hf⟩ := bl_bd_at hf
  refine bl_cVl (As := [.int a1, .int a2, .int a3]) X V hl.1 ha0 rfl ml_X4_109 mV_X4_dearerIfTold (t_X4_dearerIfTold l g σ a0 a1 a2 a3 _ ha0 h3) rfl rfl ⟨Nat.le_of_ble_eq_true rfl, Nat.le_of_ble_eq_true rfl⟩ rfl rfl (Nat.le_of_ble_eq_true rfl) ⟨Nat.zero_le _, Nat.zero_le _⟩ dX4_leastTold_4 (fun H locs V => ?_)
  refine lv_lstore (lv' := [(4, .long r1), (0, .ref (bl_ad g a0)), (1, .int a1), (2, .int a2), (3, .int a3)]) X.1 X.2.1 dX4_leastTold_7 hl (by decide) rfl (fun ls hl => ?_)
  refine lv_lload X.1 X.2.1 dX4_leastTold_9 (lv_at hl 0 rfl) ?_
  refine lv_lconst (v := 0) X.1 X.2.1 dX4_leastTold_11 (by decide) ?_
  refine bl_lc_ge (tgt := 18) X dX4_leastTold_12 dX4_leastTold_13 (by decide) (fun c4 => ?_) (fun c4 => ?_)
  · have hf := bl_ifp c4 hf
    refine lv_aload_n X.1 X.2.1 dX4_leastTold_18 rfl (lv_at hl 1 rfl) ?_
    refine bl_getr X V ha0 fl_X4_25 rfl dX4_leastTold_19 (fun h5 => ?_)
    obtain ⟨r6, σ7, h8, hf⟩ := bl_bd_at hf
    refine bl_cVi (As := []) X V hl.1 h5 rfl ml_X4_113 mV_X8_own (t_X8_own l g σ2 (bl_R σ2 a0 0) _ h5 h8) rfl rfl ⟨Nat.le_of_ble_eq_true rfl, Nat.le_of_ble_eq_true rfl⟩ rfl rfl (Nat.le_of_ble_eq_true rfl) ⟨Nat.zero_le _, Nat.zero_le _⟩ dX4_leastTold_22 (fun H locs V => ?_)
    refine lv_i2l X.1 X.2.1 dX4_leastTold_25 rfl ?_
    refine lv_lload X.1 X.2.1 dX4_leastTold_26 (lv_at hl 0 rfl) ?_
    refine lv_ldc2 (v := 1000) X.1 X.2.1 X.2.2.2.1 (X.2.2.2.2.1 _ kl_X4_116) dX4_leastTold_28 ?_
    refine lv_ldiv X.1 X.2.1 dX4_leastTold_31 (by decide) ?_
    refine lv_ladd X.1 X.2.1 dX4_leastTold_32 ?_
    refine lv_lconst (v := 1) X.1 X.2.1 dX4_leastTold_33 (by decide) ?_
    refine lv_ladd X.1 X.2.1 dX4_leastTold_34 ?_
    refine lv_topl (fun x9 e10 => ?_)
    have hf := bl_let_at e10 hf
    refine lv_lstore (lv' := [(6, .long x9), (4, .long r1), (0, .ref (bl_ad g a0)), (1, .int a1), (2, .int a2), (3, .int a3)]) X.1 X.2.1 dX4_leastTold_35 hl (by decide) rfl (fun ls hl => ?_)
    refine lv_lload X.1 X.2.1 dX4_leastTold_37 (lv_at hl 0 rfl) ?_
    refine lv_ldc2 (v := 9999) X.1 X.2.1 X.2.2.2.1 (X.2.2.2.2.1 _ kl_X4_118) dX4_leastTold_39 ?_
    refine bl_lc_le (tgt := 51) X dX4_leastTold_42 dX4_leastTold_43 (by decide) (fun c11 => ?_) (fun c11 => ?_)
    · have hf := bl_ifp c11 hf
      refine lv_lload X.1 X.2.1 dX4_leastTold_51 (lv_at hl 0 rfl) ?_
      refine lv_l2i X.1 X.2.1 dX4_leastTold_53 rfl ?_
      exact bl_reti X V hr hf dX4_leastTold_54
    · have hf := bl_ifn c11 hf
      refine lv_bipush (v := (-2)) X.1 X.2.1 dX4_leastTold_46 (by decide) ?_
      refine lv_goto (tgt := 54) X.1 X.2.1 dX4_leastTold_48 (by decide) ?_
      exact bl_reti X V hr hf dX4_leastTold_54
  · have hf := bl_ifn c4 hf
    refine lv_iconst (v := 1) X.1 X.2.1 dX4_leastTold_16 (by decide) ?_
    exact bl_reti X V hr hf dX4_leastTold_17
set_option maxHeartbeats 4000000 in
set_option maxRecDepth 100000 in
theorem t_X5_put (l : Launch) (g : bl_Gp) (σ : bl_St) (a0 : Nat) (a1 : Int32) (o : Unit × bl_St) (ha0 : bl_sh[a0]? = some (5, 2)) (hf : f_X5_put σ a0 a1 = some o) : bl_Cv l g yX5_put cX5_put 2 (Option.none : Option Jvm.ClassFile.FieldType) (bl_rm 0 0) [.ref (bl_ad g a0), .int a1] σ o := by
  refine bl_met (by decide) (Nat.le_of_ble_eq_true rfl) (fun p e s m below meth c ls X hr V hl => ?_)
  have hl : lv_has ls 2 [(0, .ref (bl_ad g a0)), (1, .int a1)] := hl
  unfold f_X5_put at hf
  refine lv_aload_n X.1 X.2.1 dX5_put_0 rfl (lv_at hl 0 rfl) ?_
  refine bl_geti X V ha0 fl_X5_32 dX5_put_1 ?_
  refine lv_sipush (v := 256) X.1 X.2.1 dX5_put_4 (by decide) ?_
  refine lv_icmp_ge (tgt := 30) X.1 X.2.1 dX5_put_7 (by decide) (fun c1 => ?_) (fun c1 => ?_)
  · have hf := bl_ifp c1 hf
    exact bl_retv X V hr hf dX5_put_30
  · have hf := bl_ifn c1 hf
    refine lv_aload_n X.1 X.2.1 dX5_put_10 rfl (lv_at hl 0 rfl) ?_
    refine bl_getr X V ha0 fl_X5_9 rfl dX5_put_11 (fun h2 => ?_)
    refine lv_aload_n X.1 X.2.1 dX5_put_14 rfl (lv_at hl 0 rfl) ?_
    refine bl_geti X V ha0 fl_X5_32 dX5_put_15 ?_
    refine lv_iload_n X.1 X.2.1 dX5_put_18 rfl (lv_at hl 1 rfl) ?_
    obtain ⟨h3, hf⟩ := bl_gd_at hf
    refine bl_iast (k := (Int32.toNatClampNeg (bl_I σ a0 1))) X V h2 h3 rfl dX5_put_19 (fun σ4 H locs e5 V => ?_)
    have hf := bl_let_at e5 hf
    refine lv_aload_n X.1 X.2.1 dX5_put_20 rfl (lv_at hl 0 rfl) ?_
    refine lv_dup X.1 X.2.1 dX5_put_21 rfl ?_
    refine bl_geti X V ha0 fl_X5_32 dX5_put_22 ?_
    refine lv_iconst (v := 1) X.1 X.2.1 dX5_put_25 (by decide) ?_
    refine lv_iadd X.1 X.2.1 dX5_put_26 ?_
    refine bl_puti X V ha0 fp_X5_32 rfl rfl dX5_put_27 (fun σ6 H locs e7 V => ?_)
    have hf := bl_let_at e7 hf
    exact bl_retv X V hr hf dX5_put_30
set_option maxHeartbeats 4000000 in
set_option maxRecDepth 100000 in
theorem t_X5_putBlank (l : Launch) (g : bl_Gp) (σ : bl_St) (a0 : Nat) (o : Unit × bl_St) (ha0 : bl_sh[a0]? = some (5, 2)) (hf : f_X5_putBlank σ a0 = some o) : bl_Cv l g yX5_putBlank cX5_putBlank 1 (Option.none : Option Jvm.ClassFile.FieldType) (bl_rm 1 21) [.ref (bl_ad g a0)] σ o := by
  refine bl_met (by decide) (Nat.le_of_ble_eq_true rfl) (fun p e s m below meth c ls X hr V hl => ?_)
  have hl : lv_has ls 1 [(0, .ref (bl_ad g a0))] := hl
  unfold f_X5_putBlank at hf
  refine lv_aload_n X.1 X.2.1 dX5_putBlank_0 rfl (lv_at hl 0 rfl) ?_
  refine bl_geti X V ha0 fl_X5_32 dX5_putBlank_1 ?_
  refine lv_if_le (tgt := 29) X.1 X.2.1 dX5_putBlank_4 (by decide) (fun c1 => ?_) (fun c1 => ?_)
  · have hf := bl_ifp c1 hf
    exact bl_retv X V hr hf dX5_putBlank_29
  · have hf := bl_ifn c1 hf
    refine lv_aload_n X.1 X.2.1 dX5_putBlank_7 rfl (lv_at hl 0 rfl) ?_
    refine bl_getr X V ha0 fl_X5_9 rfl dX5_putBlank_8 (fun h2 => ?_)
    refine lv_aload_n X.1 X.2.1 dX5_putBlank_11 rfl (lv_at hl 0 rfl) ?_
    refine bl_geti X V ha0 fl_X5_32 dX5_putBlank_12 ?_
    refine lv_iconst (v := 1) X.1 X.2.1 dX5_putBlank_15 (by decide) ?_
    refine lv_isub X.1 X.2.1 dX5_putBlank_16 ?_
    obtain ⟨h3, hf⟩ := bl_gd_at hf
    refine bl_iald (k := (Int32.toNatClampNeg ((bl_I σ a0 1) - 1))) X V h2 h3 rfl dX5_putBlank_17 ?_
    refine lv_bipush (v := 59) X.1 X.2.1 dX5_putBlank_18 (by decide) ?_
    refine lv_icmp_eq (tgt := 29) X.1 X.2.1 dX5_putBlank_20 (by decide) (fun c4 => ?_) (fun c4 => ?_)
    · have hf := bl_ifp c4 hf
      exact bl_retv X V hr hf dX5_putBlank_29
    · have hf := bl_ifn c4 hf
      refine lv_aload_n X.1 X.2.1 dX5_putBlank_23 rfl (lv_at hl 0 rfl) ?_
      refine lv_bipush (v := 32) X.1 X.2.1 dX5_putBlank_24 (by decide) ?_
      obtain ⟨r5, σ6, h7, hf⟩ := bl_bd_at hf
      refine bl_cVv (As := [.int 32]) X V hl.1 ha0 rfl ml_X5_28 mV_X5_put (t_X5_put l g σ a0 32 _ ha0 h7) rfl rfl ⟨Nat.le_of_ble_eq_true rfl, Nat.le_of_ble_eq_true rfl⟩ rfl rfl (Nat.le_of_ble_eq_true rfl) ⟨Nat.zero_le _, Nat.zero_le _⟩ dX5_putBlank_26 (fun H locs V => ?_)
      exact bl_retv X V hr hf dX5_putBlank_29
set_option maxHeartbeats 4000000 in
set_option maxRecDepth 100000 in
theorem w_X5_putWord_6 {p : Program} {l : Launch} {e : Env} {s : State} {m : MethodId} {below : List Frame} {meth : Method} {c : Code} {g : bl_Gp} {as : List Value} {out : Unit × bl_St} (X : bl_Cx g p s m as.toArray meth c cX5_putWord 3 RX5) (hr : meth.sig.returnType = (Option.none : Option Jvm.ClassFile.FieldType)) (k6 : bl_St → Nat → Nat → Int32 → Option (Unit × bl_St)) (hk6 : ∀ (σ : bl_St) (v0 : Nat) (v1 : Nat) (v2 : Int32), bl_sh[v0]? = some (5, 2) → k6 σ v0 v1 v2 = some out → ∀ (H : Heap) (locs : List Loc) (ls : Array Slot), bl_V g s σ H locs → lv_has ls 3 [(0, .ref (bl_ad g v0)), (1, .ref (bl_adr g 1 v1)), (2, .int v2)] → W p l e (bl_rm 4 85) s m as.toArray below meth c H locs 0 0 (bl_Qv below g s as out) (F0 m 6 ls [])) : ∀ (σ : bl_St) (v0 : Nat) (v1 : Nat) (v2 : Int32), bl_sh[v0]? = some (5, 2) → (b_X5_putWord_6 k6) σ v0 v1 v2 = some out → ∀ (H : Heap) (locs : List Loc) (ls : Array Slot), bl_V g s σ H locs → lv_has ls 3 [(0, .ref (bl_ad g v0)), (1, .ref (bl_adr g 1 v1)), (2, .int v2)] → W p l e (bl_rm 4 85) s m as.toArray below meth c H locs 0 0 (bl_Qv below g s as out) (F0 m 6 ls []) := by
  intro σ v0 v1 v2 hv0 hf H locs ls V hl
  unfold b_X5_putWord_6 at hf
  refine lv_iload_n X.1 X.2.1 dX5_putWord_6 rfl (lv_at hl 2 rfl) ?_
  refine lv_aload_n X.1 X.2.1 dX5_putWord_7 rfl (lv_at hl 1 rfl) ?_
  obtain ⟨r1, σ2, h3, hf⟩ := bl_bd_at hf
  refine bl_cTi (As := []) X V hl.1 (u_J0_length_8abf5 h3) rfl ml_X5_18 mV_J0_length_8abf5 (t_J0_length_8abf5 l g σ v1 _  h3) rfl rfl ⟨Nat.le_of_ble_eq_true rfl, Nat.le_of_ble_eq_true rfl⟩ rfl rfl (Nat.le_of_ble_eq_true rfl) ⟨Nat.zero_le _, Nat.zero_le _⟩ dX5_putWord_8 (fun H locs V => ?_)
  refine lv_icmp_ge (tgt := 29) X.1 X.2.1 dX5_putWord_11 (by decide) (fun c4 => ?_) (fun c4 => ?_)
  · have hf := bl_ifp c4 hf
    exact bl_retv X V hr hf dX5_putWord_29
  · have hf := bl_ifn c4 hf
    refine lv_aload_n X.1 X.2.1 dX5_putWord_14 rfl (lv_at hl 0 rfl) ?_
    refine lv_aload_n X.1 X.2.1 dX5_putWord_15 rfl (lv_at hl 1 rfl) ?_
    refine lv_iload_n X.1 X.2.1 dX5_putWord_16 rfl (lv_at hl 2 rfl) ?_
    obtain ⟨r5, σ6, h7, hf⟩ := bl_bd_at hf
    refine bl_cTi (As := [.int v2]) X V hl.1 (u_J0_charAt_5068e h7) rfl ml_X5_24 mV_J0_charAt_5068e (t_J0_charAt_5068e l g σ2 v1 v2 _  h7) rfl rfl ⟨Nat.le_of_ble_eq_true rfl, Nat.le_of_ble_eq_true rfl⟩ rfl rfl (Nat.le_of_ble_eq_true rfl) ⟨Nat.zero_le _, Nat.zero_le _⟩ dX5_putWord_17 (fun H locs V => ?_)
    obtain ⟨r8, σ9, h10, hf⟩ := bl_bd_at hf
    refine bl_cVv (As := [.int r5]) X V hl.1 hv0 rfl ml_X5_28 mV_X5_put (t_X5_put l g σ6 v0 r5 _ hv0 h10) rfl rfl ⟨Nat.le_of_ble_eq_true rfl, Nat.le_of_ble_eq_true rfl⟩ rfl rfl (Nat.le_of_ble_eq_true rfl) ⟨Nat.zero_le _, Nat.zero_le _⟩ dX5_putWord_20 (fun H locs V => ?_)
    obtain ⟨x11, e12⟩ : ∃ z : Int32, z = v2 + 1 := ⟨_, rfl⟩
    have hf := bl_let_at e12 hf
    refine lv_iinc (v := x11) (lv' := [(2, .int x11), (0, .ref (bl_ad g v0)), (1, .ref (bl_adr g 1 v1))]) X.1 X.2.1 dX5_putWord_23 hl (k := 2) rfl (by rw [e12]; rfl) (by decide) rfl (fun ls hl => ?_)
    refine lv_goto (tgt := 6) X.1 X.2.1 dX5_putWord_26 (by decide) ?_
    exact hk6 σ9 v0 v1 x11 hv0 hf _ _ _ V (lv_sub hl [1, 2, 0] rfl)
theorem l_X5_putWord_6 {p : Program} {l : Launch} {e : Env} {s : State} {m : MethodId} {below : List Frame} {meth : Method} {c : Code} {g : bl_Gp} {as : List Value} {out : Unit × bl_St} (X : bl_Cx g p s m as.toArray meth c cX5_putWord 3 RX5) (hr : meth.sig.returnType = (Option.none : Option Jvm.ClassFile.FieldType)) (n : Nat) : ∀ (σ : bl_St) (v0 : Nat) (v1 : Nat) (v2 : Int32), bl_sh[v0]? = some (5, 2) → (bl_fx (fun _ _ _ _ => none) (b_X5_putWord_6 ) n) σ v0 v1 v2 = some out → ∀ (H : Heap) (locs : List Loc) (ls : Array Slot), bl_V g s σ H locs → lv_has ls 3 [(0, .ref (bl_ad g v0)), (1, .ref (bl_adr g 1 v1)), (2, .int v2)] → W p l e (bl_rm 4 85) s m as.toArray below meth c H locs 0 0 (bl_Qv below g s as out) (F0 m 6 ls []) := by
  induction n with
  | zero =>
    intro σ v0 v1 v2 hv0 hf H locs ls V hl
    cases hf
  | succ n ih => exact w_X5_putWord_6 X hr  _ ih
set_option maxHeartbeats 4000000 in
set_option maxRecDepth 100000 in
theorem t_X5_putWord (l : Launch) (g : bl_Gp) (σ : bl_St) (a0 : Nat) (a1 : Nat) (o : Unit × bl_St) (ha0 : bl_sh[a0]? = some (5, 2)) (hf : f_X5_putWord σ a0 a1 = some o) : bl_Cv l g yX5_putWord cX5_putWord 3 (Option.none : Option Jvm.ClassFile.FieldType) (bl_rm 4 85) [.ref (bl_ad g a0), .ref (bl_adr g 1 a1)] σ o := by
  refine bl_met (by decide) (Nat.le_of_ble_eq_true rfl) (fun p e s m below meth c ls X hr V hl => ?_)
  have hl : lv_has ls 3 [(0, .ref (bl_ad g a0)), (1, .ref (bl_adr g 1 a1))] := hl
  unfold f_X5_putWord at hf
  refine lv_aload_n X.1 X.2.1 dX5_putWord_0 rfl (lv_at hl 0 rfl) ?_
  obtain ⟨r13, σ14, h15, hf⟩ := bl_bd_at hf
  refine bl_cVv (As := []) X V hl.1 ha0 rfl ml_X5_15 mV_X5_putBlank (t_X5_putBlank l g σ a0 _ ha0 h15) rfl rfl ⟨Nat.le_of_ble_eq_true rfl, Nat.le_of_ble_eq_true rfl⟩ rfl rfl (Nat.le_of_ble_eq_true rfl) ⟨Nat.zero_le _, Nat.zero_le _⟩ dX5_putWord_1 (fun H locs V => ?_)
  refine lv_iconst (v := 0) X.1 X.2.1 dX5_putWord_4 (by decide) ?_
  refine lv_istore_n (lv' := [(2, .int 0), (0, .ref (bl_ad g a0)), (1, .ref (bl_adr g 1 a1))]) X.1 X.2.1 dX5_putWord_5 rfl hl (by decide) rfl (fun ls hl => ?_)
  exact l_X5_putWord_6 X hr  bl_fu σ14 a0 a1 0 ha0 hf _ _ _ V (lv_sub hl [1, 2, 0] rfl)
set_option maxHeartbeats 4000000 in
set_option maxRecDepth 100000 in
theorem w_X5_putNumber_35 {p : Program} {l : Launch} {e : Env} {s : State} {m : MethodId} {below : List Frame} {meth : Method} {c : Code} {g : bl_Gp} {as : List Value} {out : Unit × bl_St} (X : bl_Cx g p s m as.toArray meth c cX5_putNumber 4 RX5) (hr : meth.sig.returnType = (Option.none : Option Jvm.ClassFile.FieldType)) (k35 : bl_St → Nat → Int32 → Int32 → Int32 → Option (Unit × bl_St)) (hk35 : ∀ (σ : bl_St) (v0 : Nat) (v1 : Int32) (v2 : Int32) (v3 : Int32), bl_sh[v0]? = some (5, 2) → k35 σ v0 v1 v2 v3 = some out → ∀ (H : Heap) (locs : List Loc) (ls : Array Slot), bl_V g s σ H locs → lv_has ls 4 [(0, .ref (bl_ad g v0)), (1, .int v1), (2, .int v2), (3, .int v3)] → W p l e (bl_rm 2 41) s m as.toArray below meth c H locs 0 0 (bl_Qv below g s as out) (F0 m 35 ls [])) : ∀ (σ : bl_St) (v0 : Nat) (v1 : Int32) (v2 : Int32) (v3 : Int32), bl_sh[v0]? = some (5, 2) → (b_X5_putNumber_35 k35) σ v0 v1 v2 v3 = some out → ∀ (H : Heap) (locs : List Loc) (ls : Array Slot), bl_V g s σ H locs → lv_has ls 4 [(0, .ref (bl_ad g v0)), (1, .int v1), (2, .int v2), (3, .int v3)] → W p l e (bl_rm 2 41) s m as.toArray below meth c H locs 0 0 (bl_Qv below g s as out) (F0 m 35 ls []) := by
  intro σ v0 v1 v2 v3 hv0 hf H locs ls V hl
  unfold b_X5_putNumber_35 at hf
  refine lv_iload_n X.1 X.2.1 dX5_putNumber_35 rfl (lv_at hl 3 rfl) ?_
  refine lv_bipush (v := 10) X.1 X.2.1 dX5_putNumber_36 (by decide) ?_
  refine lv_icmp_ge (tgt := 69) X.1 X.2.1 dX5_putNumber_38 (by decide) (fun c1 => ?_) (fun c1 => ?_)
  · have hf := bl_ifp c1 hf
    exact bl_retv X V hr hf dX5_putNumber_69
  · have hf := bl_ifn c1 hf
    refine lv_iload_n X.1 X.2.1 dX5_putNumber_41 rfl (lv_at hl 2 rfl) ?_
    refine lv_if_le (tgt := 69) X.1 X.2.1 dX5_putNumber_42 (by decide) (fun c2 => ?_) (fun c2 => ?_)
    · have hf := bl_ifp c2 hf
      exact bl_retv X V hr hf dX5_putNumber_69
    · have hf := bl_ifn c2 hf
      refine lv_aload_n X.1 X.2.1 dX5_putNumber_45 rfl (lv_at hl 0 rfl) ?_
      refine lv_bipush (v := 48) X.1 X.2.1 dX5_putNumber_46 (by decide) ?_
      refine lv_iload_n X.1 X.2.1 dX5_putNumber_48 rfl (lv_at hl 1 rfl) ?_
      refine lv_iload_n X.1 X.2.1 dX5_putNumber_49 rfl (lv_at hl 2 rfl) ?_
      obtain ⟨h3, hf⟩ := bl_gd_at hf
      refine lv_idiv X.1 X.2.1 dX5_putNumber_50 (by simpa using h3) ?_
      refine lv_bipush (v := 10) X.1 X.2.1 dX5_putNumber_51 (by decide) ?_
      refine lv_irem X.1 X.2.1 dX5_putNumber_53 (by decide) ?_
      refine lv_iadd X.1 X.2.1 dX5_putNumber_54 ?_
      obtain ⟨r4, σ5, h6, hf⟩ := bl_bd_at hf
      refine bl_cVv (As := [.int (48 + ((v1 / v2) - (v1 / v2) / 10 * 10))]) X V hl.1 hv0 rfl ml_X5_28 mV_X5_put (t_X5_put l g σ v0 (48 + ((v1 / v2) - (v1 / v2) / 10 * 10)) _ hv0 h6) rfl rfl ⟨Nat.le_of_ble_eq_true rfl, Nat.le_of_ble_eq_true rfl⟩ rfl rfl (Nat.le_of_ble_eq_true rfl) ⟨Nat.zero_le _, Nat.zero_le _⟩ dX5_putNumber_55 (fun H locs V => ?_)
      refine lv_iload_n X.1 X.2.1 dX5_putNumber_58 rfl (lv_at hl 2 rfl) ?_
      refine lv_bipush (v := 10) X.1 X.2.1 dX5_putNumber_59 (by decide) ?_
      refine lv_idiv X.1 X.2.1 dX5_putNumber_61 (by decide) ?_
      refine lv_topi (fun x7 e8 => ?_)
      have hf := bl_let_at e8 hf
      refine lv_istore_n (lv' := [(2, .int x7), (0, .ref (bl_ad g v0)), (1, .int v1), (3, .int v3)]) X.1 X.2.1 dX5_putNumber_62 rfl hl (by decide) rfl (fun ls hl => ?_)
      obtain ⟨x9, e10⟩ : ∃ z : Int32, z = v3 + 1 := ⟨_, rfl⟩
      have hf := bl_let_at e10 hf
      refine lv_iinc (v := x9) (lv' := [(3, .int x9), (2, .int x7), (0, .ref (bl_ad g v0)), (1, .int v1)]) X.1 X.2.1 dX5_putNumber_63 hl (k := 3) rfl (by rw [e10]; rfl) (by decide) rfl (fun ls hl => ?_)
      refine lv_goto (tgt := 35) X.1 X.2.1 dX5_putNumber_66 (by decide) ?_
      exact hk35 σ5 v0 v1 x7 x9 hv0 hf _ _ _ V (lv_sub hl [2, 3, 1, 0] rfl)
theorem l_X5_putNumber_35 {p : Program} {l : Launch} {e : Env} {s : State} {m : MethodId} {below : List Frame} {meth : Method} {c : Code} {g : bl_Gp} {as : List Value} {out : Unit × bl_St} (X : bl_Cx g p s m as.toArray meth c cX5_putNumber 4 RX5) (hr : meth.sig.returnType = (Option.none : Option Jvm.ClassFile.FieldType)) (n : Nat) : ∀ (σ : bl_St) (v0 : Nat) (v1 : Int32) (v2 : Int32) (v3 : Int32), bl_sh[v0]? = some (5, 2) → (bl_fx (fun _ _ _ _ _ => none) (b_X5_putNumber_35 ) n) σ v0 v1 v2 v3 = some out → ∀ (H : Heap) (locs : List Loc) (ls : Array Slot), bl_V g s σ H locs → lv_has ls 4 [(0, .ref (bl_ad g v0)), (1, .int v1), (2, .int v2), (3, .int v3)] → W p l e (bl_rm 2 41) s m as.toArray below meth c H locs 0 0 (bl_Qv below g s as out) (F0 m 35 ls []) := by
  induction n with
  | zero =>
    intro σ v0 v1 v2 v3 hv0 hf H locs ls V hl
    cases hf
  | succ n ih => exact w_X5_putNumber_35 X hr  _ ih
set_option maxHeartbeats 4000000 in
set_option maxRecDepth 100000 in
theorem w_X5_putNumber_33 {p : Program} {l : Launch} {e : Env} {s : State} {m : MethodId} {below : List Frame} {meth : Method} {c : Code} {g : bl_Gp} {as : List Value} {out : Unit × bl_St} (X : bl_Cx g p s m as.toArray meth c cX5_putNumber 4 RX5) (hr : meth.sig.returnType = (Option.none : Option Jvm.ClassFile.FieldType)) : ∀ (σ : bl_St) (v0 : Nat) (v1 : Int32) (v2 : Int32), bl_sh[v0]? = some (5, 2) → (b_X5_putNumber_33 ) σ v0 v1 v2 = some out → ∀ (H : Heap) (locs : List Loc) (ls : Array Slot), bl_V g s σ H locs → lv_has ls 4 [(0, .ref (bl_ad g v0)), (1, .int v1), (2, .int v2)] → W p l e (bl_rm 2 41) s m as.toArray below meth c H locs 0 0 (bl_Qv below g s as out) (F0 m 33 ls []) := by
  intro σ v0 v1 v2 hv0 hf H locs ls V hl
  unfold b_X5_putNumber_33 at hf
  refine lv_iconst (v := 0) X.1 X.2.1 dX5_putNumber_33 (by decide) ?_
  refine lv_istore_n (lv' := [(3, .int 0), (0, .ref (bl_ad g v0)), (1, .int v1), (2, .int v2)]) X.1 X.2.1 dX5_putNumber_34 rfl hl (by decide) rfl (fun ls hl => ?_)
  exact l_X5_putNumber_35 X hr  bl_fu σ v0 v1 v2 0 hv0 hf _ _ _ V (lv_sub hl [1, 2, 3, 0] rfl)
set_option maxHeartbeats 4000000 in
set_option maxRecDepth 100000 in
theorem w_X5_putNumber_8 {p : Program} {l : Launch} {e : Env} {s : State} {m : MethodId} {below : List Frame} {meth : Method} {c : Code} {g : bl_Gp} {as : List Value} {out : Unit × bl_St} (X : bl_Cx g p s m as.toArray meth c cX5_putNumber 4 RX5) (hr : meth.sig.returnType = (Option.none : Option Jvm.ClassFile.FieldType)) (k8 : bl_St → Nat → Int32 → Int32 → Int32 → Option (Unit × bl_St)) (hk8 : ∀ (σ : bl_St) (v0 : Nat) (v1 : Int32) (v2 : Int32) (v3 : Int32), bl_sh[v0]? = some (5, 2) → k8 σ v0 v1 v2 v3 = some out → ∀ (H : Heap) (locs : List Loc) (ls : Array Slot), bl_V g s σ H locs → lv_has ls 4 [(0, .ref (bl_ad g v0)), (1, .int v1), (2, .int v2), (3, .int v3)] → W p l e (bl_rm 2 41) s m as.toArray below meth c H locs 0 0 (bl_Qv below g s as out) (F0 m 8 ls [])) : ∀ (σ : bl_St) (v0 : Nat) (v1 : Int32) (v2 : Int32) (v3 : Int32), bl_sh[v0]? = some (5, 2) → (b_X5_putNumber_8 k8) σ v0 v1 v2 v3 = some out → ∀ (H : Heap) (locs : List Loc) (ls : Array Slot), bl_V g s σ H locs → lv_has ls 4 [(0, .ref (bl_ad g v0)), (1, .int v1), (2, .int v2), (3, .int v3)] → W p l e (bl_rm 2 41) s m as.toArray below meth c H locs 0 0 (bl_Qv below g s as out) (F0 m 8 ls []) := by
  intro σ v0 v1 v2 v3 hv0 hf H locs ls V hl
  unfold b_X5_putNumber_8 at hf
  refine lv_iload_n X.1 X.2.1 dX5_putNumber_8 rfl (lv_at hl 3 rfl) ?_
  refine lv_bipush (v := 9) X.1 X.2.1 dX5_putNumber_9 (by decide) ?_
  refine lv_icmp_ge (tgt := 33) X.1 X.2.1 dX5_putNumber_11 (by decide) (fun c11 => ?_) (fun c11 => ?_)
  · have hf := bl_ifp c11 hf
    exact w_X5_putNumber_33 X hr  σ v0 v1 v2 hv0 hf _ _ _ V (lv_sub hl [0, 1, 2] rfl)
  · have hf := bl_ifn c11 hf
    refine lv_iload_n X.1 X.2.1 dX5_putNumber_14 rfl (lv_at hl 1 rfl) ?_
    refine lv_iload_n X.1 X.2.1 dX5_putNumber_15 rfl (lv_at hl 2 rfl) ?_
    obtain ⟨h12, hf⟩ := bl_gd_at hf
    refine lv_idiv X.1 X.2.1 dX5_putNumber_16 (by simpa using h12) ?_
    refine lv_bipush (v := 10) X.1 X.2.1 dX5_putNumber_17 (by decide) ?_
    refine lv_icmp_lt (tgt := 33) X.1 X.2.1 dX5_putNumber_19 (by decide) (fun c13 => ?_) (fun c13 => ?_)
    · have hf := bl_ifp c13 hf
      exact w_X5_putNumber_33 X hr  σ v0 v1 v2 hv0 hf _ _ _ V (lv_sub hl [0, 1, 2] rfl)
    · have hf := bl_ifn c13 hf
      refine lv_iload_n X.1 X.2.1 dX5_putNumber_22 rfl (lv_at hl 2 rfl) ?_
      refine lv_bipush (v := 10) X.1 X.2.1 dX5_putNumber_23 (by decide) ?_
      refine lv_imul X.1 X.2.1 dX5_putNumber_25 ?_
      refine lv_topi (fun x14 e15 => ?_)
      have hf := bl_let_at e15 hf
      refine lv_istore_n (lv' := [(2, .int x14), (0, .ref (bl_ad g v0)), (1, .int v1), (3, .int v3)]) X.1 X.2.1 dX5_putNumber_26 rfl hl (by decide) rfl (fun ls hl => ?_)
      obtain ⟨x16, e17⟩ : ∃ z : Int32, z = v3 + 1 := ⟨_, rfl⟩
      have hf := bl_let_at e17 hf
      refine lv_iinc (v := x16) (lv' := [(3, .int x16), (2, .int x14), (0, .ref (bl_ad g v0)), (1, .int v1)]) X.1 X.2.1 dX5_putNumber_27 hl (k := 3) rfl (by rw [e17]; rfl) (by decide) rfl (fun ls hl => ?_)
      refine lv_goto (tgt := 8) X.1 X.2.1 dX5_putNumber_30 (by decide) ?_
      exact hk8 σ v0 v1 x14 x16 hv0 hf _ _ _ V (lv_sub hl [2, 3, 1, 0] rfl)
theorem l_X5_putNumber_8 {p : Program} {l : Launch} {e : Env} {s : State} {m : MethodId} {below : List Frame} {meth : Method} {c : Code} {g : bl_Gp} {as : List Value} {out : Unit × bl_St} (X : bl_Cx g p s m as.toArray meth c cX5_putNumber 4 RX5) (hr : meth.sig.returnType = (Option.none : Option Jvm.ClassFile.FieldType)) (n : Nat) : ∀ (σ : bl_St) (v0 : Nat) (v1 : Int32) (v2 : Int32) (v3 : Int32), bl_sh[v0]? = some (5, 2) → (bl_fx (fun _ _ _ _ _ => none) (b_X5_putNumber_8 ) n) σ v0 v1 v2 v3 = some out → ∀ (H : Heap) (locs : List Loc) (ls : Array Slot), bl_V g s σ H locs → lv_has ls 4 [(0, .ref (bl_ad g v0)), (1, .int v1), (2, .int v2), (3, .int v3)] → W p l e (bl_rm 2 41) s m as.toArray below meth c H locs 0 0 (bl_Qv below g s as out) (F0 m 8 ls []) := by
  induction n with
  | zero =>
    intro σ v0 v1 v2 v3 hv0 hf H locs ls V hl
    cases hf
  | succ n ih => exact w_X5_putNumber_8 X hr  _ ih
set_option maxHeartbeats 4000000 in
set_option maxRecDepth 100000 in
theorem t_X5_putNumber (l : Launch) (g : bl_Gp) (σ : bl_St) (a0 : Nat) (a1 : Int32) (o : Unit × bl_St) (ha0 : bl_sh[a0]? = some (5, 2)) (hf : f_X5_putNumber σ a0 a1 = some o) : bl_Cv l g yX5_putNumber cX5_putNumber 4 (Option.none : Option Jvm.ClassFile.FieldType) (bl_rm 2 41) [.ref (bl_ad g a0), .int a1] σ o := by
  refine bl_met (by decide) (Nat.le_of_ble_eq_true rfl) (fun p e s m below meth c ls X hr V hl => ?_)
  have hl : lv_has ls 4 [(0, .ref (bl_ad g a0)), (1, .int a1)] := hl
  unfold f_X5_putNumber at hf
  refine lv_aload_n X.1 X.2.1 dX5_putNumber_0 rfl (lv_at hl 0 rfl) ?_
  obtain ⟨r18, σ19, h20, hf⟩ := bl_bd_at hf
  refine bl_cVv (As := []) X V hl.1 ha0 rfl ml_X5_15 mV_X5_putBlank (t_X5_putBlank l g σ a0 _ ha0 h20) rfl rfl ⟨Nat.le_of_ble_eq_true rfl, Nat.le_of_ble_eq_true rfl⟩ rfl rfl (Nat.le_of_ble_eq_true rfl) ⟨Nat.zero_le _, Nat.zero_le _⟩ dX5_putNumber_1 (fun H locs V => ?_)
  refine lv_iconst (v := 1) X.1 X.2.1 dX5_putNumber_4 (by decide) ?_
  refine lv_istore_n (lv' := [(2, .int 1), (0, .ref (bl_ad g a0)), (1, .int a1)]) X.1 X.2.1 dX5_putNumber_5 rfl hl (by decide) rfl (fun ls hl => ?_)
  refine lv_iconst (v := 0) X.1 X.2.1 dX5_putNumber_6 (by decide) ?_
  refine lv_istore_n (lv' := [(3, .int 0), (2, .int 1), (0, .ref (bl_ad g a0)), (1, .int a1)]) X.1 X.2.1 dX5_putNumber_7 rfl hl (by decide) rfl (fun ls hl => ?_)
  exact l_X5_putNumber_8 X hr  bl_fu σ19 a0 a1 1 0 ha0 hf _ _ _ V (lv_sub hl [2, 3, 1, 0] rfl)
set_option maxHeartbeats 4000000 in
set_option maxRecDepth 100000 in
theorem t_X5_endPhrase (l : Launch) (g : bl_Gp) (σ : bl_St) (a0 : Nat) (o : Unit × bl_St) (ha0 : bl_sh[a0]? = some (5, 2)) (hf : f_X5_endPhrase σ a0 = some o) : bl_Cv l g yX5_endPhrase cX5_endPhrase 1 (Option.none : Option Jvm.ClassFile.FieldType) (bl_rm 1 21) [.ref (bl_ad g a0)] σ o := by
  refine bl_met (by decide) (Nat.le_of_ble_eq_true rfl) (fun p e s m below meth c ls X hr V hl => ?_)
  have hl : lv_has ls 1 [(0, .ref (bl_ad g a0))] := hl
  unfold f_X5_endPhrase at hf
  refine lv_aload_n X.1 X.2.1 dX5_endPhrase_0 rfl (lv_at hl 0 rfl) ?_
  refine lv_bipush (v := 59) X.1 X.2.1 dX5_endPhrase_1 (by decide) ?_
  obtain ⟨r1, σ2, h3, hf⟩ := bl_bd_at hf
  refine bl_cVv (As := [.int 59]) X V hl.1 ha0 rfl ml_X5_28 mV_X5_put (t_X5_put l g σ a0 59 _ ha0 h3) rfl rfl ⟨Nat.le_of_ble_eq_true rfl, Nat.le_of_ble_eq_true rfl⟩ rfl rfl (Nat.le_of_ble_eq_true rfl) ⟨Nat.zero_le _, Nat.zero_le _⟩ dX5_endPhrase_3 (fun H locs V => ?_)
  exact bl_retv X V hr hf dX5_endPhrase_6
set_option maxHeartbeats 4000000 in
set_option maxRecDepth 100000 in
theorem t_X5_signAt (l : Launch) (g : bl_Gp) (σ : bl_St) (a0 : Nat) (a1 : Int32) (o : Int32 × bl_St) (ha0 : bl_sh[a0]? = some (5, 2)) (hf : f_X5_signAt σ a0 a1 = some o) : bl_Ci l g yX5_signAt cX5_signAt 2 (Option.some Jvm.ClassFile.FieldType.int) (bl_rm 0 0) [.ref (bl_ad g a0), .int a1] σ o := by
  refine bl_met (by decide) (Nat.le_of_ble_eq_true rfl) (fun p e s m below meth c ls X hr V hl => ?_)
  have hl : lv_has ls 2 [(0, .ref (bl_ad g a0)), (1, .int a1)] := hl
  unfold f_X5_signAt at hf
  refine lv_iload_n X.1 X.2.1 dX5_signAt_0 rfl (lv_at hl 1 rfl) ?_
  refine lv_if_ge (tgt := 9) X.1 X.2.1 dX5_signAt_1 (by decide) (fun c1 => ?_) (fun c1 => ?_)
  · have hf := bl_ifp c1 hf
    refine lv_iload_n X.1 X.2.1 dX5_signAt_9 rfl (lv_at hl 1 rfl) ?_
    refine lv_aload_n X.1 X.2.1 dX5_signAt_10 rfl (lv_at hl 0 rfl) ?_
    refine bl_geti X V ha0 fl_X5_32 dX5_signAt_11 ?_
    refine lv_icmp_ge (tgt := 33) X.1 X.2.1 dX5_signAt_14 (by decide) (fun c2 => ?_) (fun c2 => ?_)
    · have hf := bl_ifp c2 hf
      refine lv_bipush (v := (-2)) X.1 X.2.1 dX5_signAt_33 (by decide) ?_
      exact bl_reti X V hr hf dX5_signAt_35
    · have hf := bl_ifn c2 hf
      refine lv_iload_n X.1 X.2.1 dX5_signAt_17 rfl (lv_at hl 1 rfl) ?_
      refine lv_sipush (v := 256) X.1 X.2.1 dX5_signAt_18 (by decide) ?_
      refine lv_icmp_ge (tgt := 33) X.1 X.2.1 dX5_signAt_21 (by decide) (fun c3 => ?_) (fun c3 => ?_)
      · have hf := bl_ifp c3 hf
        refine lv_bipush (v := (-2)) X.1 X.2.1 dX5_signAt_33 (by decide) ?_
        exact bl_reti X V hr hf dX5_signAt_35
      · have hf := bl_ifn c3 hf
        refine lv_aload_n X.1 X.2.1 dX5_signAt_24 rfl (lv_at hl 0 rfl) ?_
        refine bl_getr X V ha0 fl_X5_9 rfl dX5_signAt_25 (fun h4 => ?_)
        refine lv_iload_n X.1 X.2.1 dX5_signAt_28 rfl (lv_at hl 1 rfl) ?_
        obtain ⟨h5, hf⟩ := bl_gd_at hf
        refine bl_iald (k := (Int32.toNatClampNeg a1)) X V h4 h5 rfl dX5_signAt_29 ?_
        refine lv_goto (tgt := 35) X.1 X.2.1 dX5_signAt_30 (by decide) ?_
        exact bl_reti X V hr hf dX5_signAt_35
  · have hf := bl_ifn c1 hf
    refine lv_aload_n X.1 X.2.1 dX5_signAt_4 rfl (lv_at hl 0 rfl) ?_
    refine bl_geti X V ha0 fl_X5_32 dX5_signAt_5 ?_
    exact bl_reti X V hr hf dX5_signAt_8
set_option maxHeartbeats 4000000 in
set_option maxRecDepth 100000 in
theorem t_X8_copy (l : Launch) (g : bl_Gp) (σ : bl_St) (a0 : Nat) (a1 : Nat) (o : Unit × bl_St) (ha0 : bl_sh[a0]? = some (8, 5)) (ha1 : bl_sh[a1]? = some (8, 5)) (hf : f_X8_copy σ a0 a1 = some o) : bl_Cv l g yX8_copy cX8_copy 2 (Option.none : Option Jvm.ClassFile.FieldType) (bl_rm 1 18) [.ref (bl_ad g a0), .ref (bl_ad g a1)] σ o := by
  refine bl_met (by decide) (Nat.le_of_ble_eq_true rfl) (fun p e s m below meth c ls X hr V hl => ?_)
  have hl : lv_has ls 2 [(0, .ref (bl_ad g a0)), (1, .ref (bl_ad g a1))] := hl
  unfold f_X8_copy at hf
  refine lv_aload_n X.1 X.2.1 dX8_copy_0 rfl (lv_at hl 0 rfl) ?_
  refine lv_aload_n X.1 X.2.1 dX8_copy_1 rfl (lv_at hl 1 rfl) ?_
  refine bl_geti X V ha1 fl_X8_30 dX8_copy_2 ?_
  refine bl_puti X V ha0 fp_X8_30 rfl rfl dX8_copy_5 (fun σ1 H locs e2 V => ?_)
  have hf := bl_let_at e2 hf
  refine lv_aload_n X.1 X.2.1 dX8_copy_8 rfl (lv_at hl 0 rfl) ?_
  refine lv_aload_n X.1 X.2.1 dX8_copy_9 rfl (lv_at hl 1 rfl) ?_
  refine bl_geti X V ha1 fl_X8_34 dX8_copy_10 ?_
  refine bl_puti X V ha0 fp_X8_34 rfl rfl dX8_copy_13 (fun σ3 H locs e4 V => ?_)
  have hf := bl_let_at e4 hf
  refine lv_aload_n X.1 X.2.1 dX8_copy_16 rfl (lv_at hl 1 rfl) ?_
  refine bl_getr X V ha1 fl_X8_9 rfl dX8_copy_17 (fun h5 => ?_)
  refine lv_iconst (v := 0) X.1 X.2.1 dX8_copy_20 (by decide) ?_
  refine lv_aload_n X.1 X.2.1 dX8_copy_21 rfl (lv_at hl 0 rfl) ?_
  refine bl_getr X V ha0 fl_X8_9 rfl dX8_copy_22 (fun h6 => ?_)
  refine lv_iconst (v := 0) X.1 X.2.1 dX8_copy_25 (by decide) ?_
  refine lv_bipush (v := 40) X.1 X.2.1 dX8_copy_26 (by decide) ?_
  refine bl_copyi X V hl.1 ac_X8_24 h5 h6 (by decide) (Nat.le_of_ble_eq_true rfl) (Nat.le_of_ble_eq_true rfl) dX8_copy_28 (fun σ7 H locs e8 V => ?_)
  have hf := bl_let_at e8 hf
  refine lv_aload_n X.1 X.2.1 dX8_copy_31 rfl (lv_at hl 1 rfl) ?_
  refine bl_getr X V ha1 fl_X8_15 rfl dX8_copy_32 (fun h9 => ?_)
  refine lv_iconst (v := 0) X.1 X.2.1 dX8_copy_35 (by decide) ?_
  refine lv_aload_n X.1 X.2.1 dX8_copy_36 rfl (lv_at hl 0 rfl) ?_
  refine bl_getr X V ha0 fl_X8_15 rfl dX8_copy_37 (fun h10 => ?_)
  refine lv_iconst (v := 0) X.1 X.2.1 dX8_copy_40 (by decide) ?_
  refine lv_bipush (v := 10) X.1 X.2.1 dX8_copy_41 (by decide) ?_
  refine bl_copyi X V hl.1 ac_X8_24 h9 h10 (by decide) (Nat.le_of_ble_eq_true rfl) (Nat.le_of_ble_eq_true rfl) dX8_copy_43 (fun σ11 H locs e12 V => ?_)
  have hf := bl_let_at e12 hf
  refine lv_aload_n X.1 X.2.1 dX8_copy_46 rfl (lv_at hl 1 rfl) ?_
  refine bl_getr X V ha1 fl_X8_18 rfl dX8_copy_47 (fun h13 => ?_)
  refine lv_iconst (v := 0) X.1 X.2.1 dX8_copy_50 (by decide) ?_
  refine lv_aload_n X.1 X.2.1 dX8_copy_51 rfl (lv_at hl 0 rfl) ?_
  refine bl_getr X V ha0 fl_X8_18 rfl dX8_copy_52 (fun h14 => ?_)
  refine lv_iconst (v := 0) X.1 X.2.1 dX8_copy_55 (by decide) ?_
  refine lv_iconst (v := 3) X.1 X.2.1 dX8_copy_56 (by decide) ?_
  refine bl_copyi X V hl.1 ac_X8_24 h13 h14 (by decide) (Nat.le_of_ble_eq_true rfl) (Nat.le_of_ble_eq_true rfl) dX8_copy_57 (fun σ15 H locs e16 V => ?_)
  have hf := bl_let_at e16 hf
  exact bl_retv X V hr hf dX8_copy_60
set_option maxHeartbeats 4000000 in
set_option maxRecDepth 100000 in
theorem t_X6_keep (l : Launch) (g : bl_Gp) (σ : bl_St) (a0 : Nat) (a1 : Nat) (a2 : Nat) (o : Unit × bl_St) (ha0 : bl_sh[a0]? = some (6, 4)) (ha1 : bl_sh[a1]? = some (8, 5)) (ha2 : bl_sh[a2]? = some (2, 15)) (hf : f_X6_keep σ a0 a1 a2 = some o) : bl_Cv l g yX6_keep cX6_keep 3 (Option.none : Option Jvm.ClassFile.FieldType) (bl_rm 2 39) [.ref (bl_ad g a0), .ref (bl_ad g a1), .ref (bl_ad g a2)] σ o := by
  refine bl_met (by decide) (Nat.le_of_ble_eq_true rfl) (fun p e s m below meth c ls X hr V hl => ?_)
  have hl : lv_has ls 3 [(0, .ref (bl_ad g a0)), (1, .ref (bl_ad g a1)), (2, .ref (bl_ad g a2))] := hl
  unfold f_X6_keep at hf
  refine lv_aload_n X.1 X.2.1 dX6_keep_0 rfl (lv_at hl 0 rfl) ?_
  refine bl_getr X V ha0 fl_X6_11 rfl dX6_keep_1 (fun h1 => ?_)
  refine lv_aload_n X.1 X.2.1 dX6_keep_4 rfl (lv_at hl 0 rfl) ?_
  refine bl_geti X V ha0 fl_X6_25 dX6_keep_5 ?_
  obtain ⟨h2, hf⟩ := bl_gd_at hf
  refine bl_tald (k := (Int32.toNatClampNeg (bl_I σ a0 2))) X V h1 h2 rfl dX6_keep_8 (fun h3 => ?_)
  refine lv_aload_n X.1 X.2.1 dX6_keep_9 rfl (lv_at hl 1 rfl) ?_
  obtain ⟨r4, σ5, h6, hf⟩ := bl_bd_at hf
  refine bl_cVv (As := [.ref (bl_ad g a1)]) X V hl.1 h3 rfl ml_X6_29 mV_X8_copy (t_X8_copy l g σ (bl_R σ (bl_R σ a0 0) (Int32.toNatClampNeg (bl_I σ a0 2))) a1 _ h3 ha1 h6) rfl rfl ⟨Nat.le_of_ble_eq_true rfl, Nat.le_of_ble_eq_true rfl⟩ rfl rfl (Nat.le_of_ble_eq_true rfl) ⟨Nat.zero_le _, Nat.zero_le _⟩ dX6_keep_10 (fun H locs V => ?_)
  refine lv_aload_n X.1 X.2.1 dX6_keep_13 rfl (lv_at hl 0 rfl) ?_
  refine bl_getr X V ha0 fl_X6_19 rfl dX6_keep_14 (fun h7 => ?_)
  refine lv_aload_n X.1 X.2.1 dX6_keep_17 rfl (lv_at hl 0 rfl) ?_
  refine bl_geti X V ha0 fl_X6_25 dX6_keep_18 ?_
  obtain ⟨h8, hf⟩ := bl_gd_at hf
  refine bl_fald (k := (Int32.toNatClampNeg (bl_I σ5 a0 2))) X V h7 h8 rfl dX6_keep_21 (fun h9 => ?_)
  refine lv_aload_n X.1 X.2.1 dX6_keep_22 rfl (lv_at hl 2 rfl) ?_
  obtain ⟨r10, σ11, h12, hf⟩ := bl_bd_at hf
  refine bl_cVv (As := [.ref (bl_ad g a2)]) X V hl.1 h9 rfl ml_X6_33 mV_X2_copy (t_X2_copy l g σ5 (bl_R σ5 (bl_R σ5 a0 1) (Int32.toNatClampNeg (bl_I σ5 a0 2))) a2 _ h9 ha2 h12) rfl rfl ⟨Nat.le_of_ble_eq_true rfl, Nat.le_of_ble_eq_true rfl⟩ rfl rfl (Nat.le_of_ble_eq_true rfl) ⟨Nat.zero_le _, Nat.zero_le _⟩ dX6_keep_23 (fun H locs V => ?_)
  refine lv_aload_n X.1 X.2.1 dX6_keep_26 rfl (lv_at hl 0 rfl) ?_
  refine lv_aload_n X.1 X.2.1 dX6_keep_27 rfl (lv_at hl 0 rfl) ?_
  refine bl_geti X V ha0 fl_X6_25 dX6_keep_28 ?_
  refine lv_iconst (v := 1) X.1 X.2.1 dX6_keep_31 (by decide) ?_
  refine lv_iadd X.1 X.2.1 dX6_keep_32 ?_
  refine lv_bipush (v := 12) X.1 X.2.1 dX6_keep_33 (by decide) ?_
  refine lv_irem X.1 X.2.1 dX6_keep_35 (by decide) ?_
  refine bl_puti X V ha0 fp_X6_25 rfl rfl dX6_keep_36 (fun σ13 H locs e14 V => ?_)
  have hf := bl_let_at e14 hf
  refine lv_aload_n X.1 X.2.1 dX6_keep_39 rfl (lv_at hl 0 rfl) ?_
  refine lv_bipush (v := 12) X.1 X.2.1 dX6_keep_40 (by decide) ?_
  refine lv_aload_n X.1 X.2.1 dX6_keep_42 rfl (lv_at hl 0 rfl) ?_
  refine bl_geti X V ha0 fl_X6_36 dX6_keep_43 ?_
  refine lv_iconst (v := 1) X.1 X.2.1 dX6_keep_46 (by decide) ?_
  refine lv_iadd X.1 X.2.1 dX6_keep_47 ?_
  refine bl_mini X hl.1 mm_X6_39 ⟨Nat.le_of_ble_eq_true rfl, Nat.le_of_ble_eq_true rfl⟩ ⟨Nat.zero_le _, Nat.zero_le _⟩ dX6_keep_48 ?_
  refine bl_puti X V ha0 fp_X6_36 rfl rfl dX6_keep_51 (fun σ15 H locs e16 V => ?_)
  have hf := bl_let_at e16 hf
  exact bl_retv X V hr hf dX6_keep_54
set_option maxHeartbeats 4000000 in
set_option maxRecDepth 100000 in
theorem t_X6_takeBack (l : Launch) (g : bl_Gp) (σ : bl_St) (a0 : Nat) (a1 : Nat) (a2 : Nat) (o : Int32 × bl_St) (ha0 : bl_sh[a0]? = some (6, 4)) (ha1 : bl_sh[a1]? = some (8, 5)) (ha2 : bl_sh[a2]? = some (2, 15)) (hf : f_X6_takeBack σ a0 a1 a2 = some o) : bl_Ci l g yX6_takeBack cX6_takeBack 3 (Option.some Jvm.ClassFile.FieldType.boolean) (bl_rm 2 39) [.ref (bl_ad g a0), .ref (bl_ad g a1), .ref (bl_ad g a2)] σ o := by
  refine bl_met (by decide) (Nat.le_of_ble_eq_true rfl) (fun p e s m below meth c ls X hr V hl => ?_)
  have hl : lv_has ls 3 [(0, .ref (bl_ad g a0)), (1, .ref (bl_ad g a1)), (2, .ref (bl_ad g a2))] := hl
  unfold f_X6_takeBack at hf
  refine lv_aload_n X.1 X.2.1 dX6_takeBack_0 rfl (lv_at hl 0 rfl) ?_
  refine bl_geti X V ha0 fl_X6_36 dX6_takeBack_1 ?_
  refine lv_if_ne (tgt := 9) X.1 X.2.1 dX6_takeBack_4 (by decide) (fun c1 => ?_) (fun c1 => ?_)
  · have hf := bl_ifn c1 hf
    refine lv_aload_n X.1 X.2.1 dX6_takeBack_9 rfl (lv_at hl 0 rfl) ?_
    refine lv_aload_n X.1 X.2.1 dX6_takeBack_10 rfl (lv_at hl 0 rfl) ?_
    refine bl_geti X V ha0 fl_X6_25 dX6_takeBack_11 ?_
    refine lv_bipush (v := 12) X.1 X.2.1 dX6_takeBack_14 (by decide) ?_
    refine lv_iadd X.1 X.2.1 dX6_takeBack_16 ?_
    refine lv_iconst (v := 1) X.1 X.2.1 dX6_takeBack_17 (by decide) ?_
    refine lv_isub X.1 X.2.1 dX6_takeBack_18 ?_
    refine lv_bipush (v := 12) X.1 X.2.1 dX6_takeBack_19 (by decide) ?_
    refine lv_irem X.1 X.2.1 dX6_takeBack_21 (by decide) ?_
    refine bl_puti X V ha0 fp_X6_25 rfl rfl dX6_takeBack_22 (fun σ2 H locs e3 V => ?_)
    have hf := bl_let_at e3 hf
    refine lv_aload_n X.1 X.2.1 dX6_takeBack_25 rfl (lv_at hl 0 rfl) ?_
    refine lv_dup X.1 X.2.1 dX6_takeBack_26 rfl ?_
    refine bl_geti X V ha0 fl_X6_36 dX6_takeBack_27 ?_
    refine lv_iconst (v := 1) X.1 X.2.1 dX6_takeBack_30 (by decide) ?_
    refine lv_isub X.1 X.2.1 dX6_takeBack_31 ?_
    refine bl_puti X V ha0 fp_X6_36 rfl rfl dX6_takeBack_32 (fun σ4 H locs e5 V => ?_)
    have hf := bl_let_at e5 hf
    refine lv_aload_n X.1 X.2.1 dX6_takeBack_35 rfl (lv_at hl 1 rfl) ?_
    refine lv_aload_n X.1 X.2.1 dX6_takeBack_36 rfl (lv_at hl 0 rfl) ?_
    refine bl_getr X V ha0 fl_X6_11 rfl dX6_takeBack_37 (fun h6 => ?_)
    refine lv_aload_n X.1 X.2.1 dX6_takeBack_40 rfl (lv_at hl 0 rfl) ?_
    refine bl_geti X V ha0 fl_X6_25 dX6_takeBack_41 ?_
    obtain ⟨h7, hf⟩ := bl_gd_at hf
    refine bl_tald (k := (Int32.toNatClampNeg (bl_I σ4 a0 2))) X V h6 h7 rfl dX6_takeBack_44 (fun h8 => ?_)
    obtain ⟨r9, σ10, h11, hf⟩ := bl_bd_at hf
    refine bl_cVv (As := [.ref (bl_ad g (bl_R σ4 (bl_R σ4 a0 0) (Int32.toNatClampNeg (bl_I σ4 a0 2))))]) X V hl.1 ha1 rfl ml_X6_29 mV_X8_copy (t_X8_copy l g σ4 a1 (bl_R σ4 (bl_R σ4 a0 0) (Int32.toNatClampNeg (bl_I σ4 a0 2))) _ ha1 h8 h11) rfl rfl ⟨Nat.le_of_ble_eq_true rfl, Nat.le_of_ble_eq_true rfl⟩ rfl rfl (Nat.le_of_ble_eq_true rfl) ⟨Nat.zero_le _, Nat.zero_le _⟩ dX6_takeBack_45 (fun H locs V => ?_)
    refine lv_aload_n X.1 X.2.1 dX6_takeBack_48 rfl (lv_at hl 2 rfl) ?_
    refine lv_aload_n X.1 X.2.1 dX6_takeBack_49 rfl (lv_at hl 0 rfl) ?_
    refine bl_getr X V ha0 fl_X6_19 rfl dX6_takeBack_50 (fun h12 => ?_)
    refine lv_aload_n X.1 X.2.1 dX6_takeBack_53 rfl (lv_at hl 0 rfl) ?_
    refine bl_geti X V ha0 fl_X6_25 dX6_takeBack_54 ?_
    obtain ⟨h13, hf⟩ := bl_gd_at hf
    refine bl_fald (k := (Int32.toNatClampNeg (bl_I σ10 a0 2))) X V h12 h13 rfl dX6_takeBack_57 (fun h14 => ?_)
    obtain ⟨r15, σ16, h17, hf⟩ := bl_bd_at hf
    refine bl_cVv (As := [.ref (bl_ad g (bl_R σ10 (bl_R σ10 a0 1) (Int32.toNatClampNeg (bl_I σ10 a0 2))))]) X V hl.1 ha2 rfl ml_X6_33 mV_X2_copy (t_X2_copy l g σ10 a2 (bl_R σ10 (bl_R σ10 a0 1) (Int32.toNatClampNeg (bl_I σ10 a0 2))) _ ha2 h14 h17) rfl rfl ⟨Nat.le_of_ble_eq_true rfl, Nat.le_of_ble_eq_true rfl⟩ rfl rfl (Nat.le_of_ble_eq_true rfl) ⟨Nat.zero_le _, Nat.zero_le _⟩ dX6_takeBack_58 (fun H locs V => ?_)
    refine lv_iconst (v := 1) X.1 X.2.1 dX6_takeBack_61 (by decide) ?_
    exact bl_retz X V hr (by decide) hf dX6_takeBack_62
  · have hf := bl_ifp c1 hf
    refine lv_iconst (v := 0) X.1 X.2.1 dX6_takeBack_7 (by decide) ?_
    exact bl_retz X V hr (by decide) hf dX6_takeBack_8
set_option maxHeartbeats 4000000 in
set_option maxRecDepth 100000 in
theorem t_X6_forget (l : Launch) (g : bl_Gp) (σ : bl_St) (a0 : Nat) (o : Unit × bl_St) (ha0 : bl_sh[a0]? = some (6, 4)) (hf : f_X6_forget σ a0 = some o) : bl_Cv l g yX6_forget cX6_forget 1 (Option.none : Option Jvm.ClassFile.FieldType) (bl_rm 0 0) [.ref (bl_ad g a0)] σ o := by
  refine bl_met (by decide) (Nat.le_of_ble_eq_true rfl) (fun p e s m below meth c ls X hr V hl => ?_)
  have hl : lv_has ls 1 [(0, .ref (bl_ad g a0))] := hl
  unfold f_X6_forget at hf
  refine lv_aload_n X.1 X.2.1 dX6_forget_0 rfl (lv_at hl 0 rfl) ?_
  refine lv_iconst (v := 0) X.1 X.2.1 dX6_forget_1 (by decide) ?_
  refine bl_puti X V ha0 fp_X6_36 rfl rfl dX6_forget_2 (fun σ1 H locs e2 V => ?_)
  have hf := bl_let_at e2 hf
  exact bl_retv X V hr hf dX6_forget_5
set_option maxHeartbeats 4000000 in
set_option maxRecDepth 100000 in
theorem w_X7_append_3 {p : Program} {l : Launch} {e : Env} {s : State} {m : MethodId} {below : List Frame} {meth : Method} {c : Code} {g : bl_Gp} {as : List Value} {out : Unit × bl_St} (X : bl_Cx g p s m as.toArray meth c cX7_append 3 RX7) (hr : meth.sig.returnType = (Option.none : Option Jvm.ClassFile.FieldType)) (k3 : bl_St → Nat → Int32 → Int32 → Option (Unit × bl_St)) (hk3 : ∀ (σ : bl_St) (v0 : Nat) (v1 : Int32) (v2 : Int32), bl_sh[v0]? = some (7, 6) → k3 σ v0 v1 v2 = some out → ∀ (H : Heap) (locs : List Loc) (ls : Array Slot), bl_V g s σ H locs → lv_has ls 3 [(0, .ref (bl_ad g v0)), (1, .int v1), (2, .int v2)] → W p l e (bl_rm 0 0) s m as.toArray below meth c H locs 0 0 (bl_Qv below g s as out) (F0 m 3 ls [])) : ∀ (σ : bl_St) (v0 : Nat) (v1 : Int32) (v2 : Int32), bl_sh[v0]? = some (7, 6) → (b_X7_append_3 k3) σ v0 v1 v2 = some out → ∀ (H : Heap) (locs : List Loc) (ls : Array Slot), bl_V g s σ H locs → lv_has ls 3 [(0, .ref (bl_ad g v0)), (1, .int v1), (2, .int v2)] → W p l e (bl_rm 0 0) s m as.toArray below meth c H locs 0 0 (bl_Qv below g s as out) (F0 m 3 ls []) := by
  intro σ v0 v1 v2 hv0 hf H locs ls V hl
  unfold b_X7_append_3 at hf
  refine lv_iload_n X.1 X.2.1 dX7_append_3 rfl (lv_at hl 2 rfl) ?_
  refine lv_if_lt (tgt := 49) X.1 X.2.1 dX7_append_4 (by decide) (fun c1 => ?_) (fun c1 => ?_)
  · have hf := bl_ifp c1 hf
    exact bl_retv X V hr hf dX7_append_49
  · have hf := bl_ifn c1 hf
    refine lv_aload_n X.1 X.2.1 dX7_append_7 rfl (lv_at hl 0 rfl) ?_
    refine bl_geti X V hv0 fl_X7_25 dX7_append_8 ?_
    refine lv_sipush (v := 400) X.1 X.2.1 dX7_append_11 (by decide) ?_
    refine lv_icmp_ge (tgt := 49) X.1 X.2.1 dX7_append_14 (by decide) (fun c2 => ?_) (fun c2 => ?_)
    · have hf := bl_ifp c2 hf
      exact bl_retv X V hr hf dX7_append_49
    · have hf := bl_ifn c2 hf
      refine lv_aload_n X.1 X.2.1 dX7_append_17 rfl (lv_at hl 0 rfl) ?_
      refine bl_getr X V hv0 fl_X7_9 rfl dX7_append_18 (fun h3 => ?_)
      refine lv_aload_n X.1 X.2.1 dX7_append_21 rfl (lv_at hl 0 rfl) ?_
      refine bl_geti X V hv0 fl_X7_25 dX7_append_22 ?_
      refine lv_iload_n X.1 X.2.1 dX7_append_25 rfl (lv_at hl 1 rfl) ?_
      refine lv_iload_n X.1 X.2.1 dX7_append_26 rfl (lv_at hl 2 rfl) ?_
      refine lv_iushr X.1 X.2.1 dX7_append_27 rfl ?_
      refine lv_sipush (v := 255) X.1 X.2.1 dX7_append_28 (by decide) ?_
      refine lv_iand X.1 X.2.1 dX7_append_31 ?_
      obtain ⟨h4, hf⟩ := bl_gd_at hf
      refine bl_iast (k := (Int32.toNatClampNeg (bl_I σ v0 3))) X V h3 h4 rfl dX7_append_32 (fun σ5 H locs e6 V => ?_)
      have hf := bl_let_at e6 hf
      refine lv_aload_n X.1 X.2.1 dX7_append_33 rfl (lv_at hl 0 rfl) ?_
      refine lv_dup X.1 X.2.1 dX7_append_34 rfl ?_
      refine bl_geti X V hv0 fl_X7_25 dX7_append_35 ?_
      refine lv_iconst (v := 1) X.1 X.2.1 dX7_append_38 (by decide) ?_
      refine lv_iadd X.1 X.2.1 dX7_append_39 ?_
      refine bl_puti X V hv0 fp_X7_25 rfl rfl dX7_append_40 (fun σ7 H locs e8 V => ?_)
      have hf := bl_let_at e8 hf
      obtain ⟨x9, e10⟩ : ∃ z : Int32, z = v2 + (-8) := ⟨_, rfl⟩
      have hf := bl_let_at e10 hf
      refine lv_iinc (v := x9) (lv' := [(2, .int x9), (0, .ref (bl_ad g v0)), (1, .int v1)]) X.1 X.2.1 dX7_append_43 hl (k := 2) rfl (by rw [e10]; rfl) (by decide) rfl (fun ls hl => ?_)
      refine lv_goto (tgt := 3) X.1 X.2.1 dX7_append_46 (by decide) ?_
      exact hk3 σ7 v0 v1 x9 hv0 hf _ _ _ V (lv_sub hl [1, 2, 0] rfl)
theorem l_X7_append_3 {p : Program} {l : Launch} {e : Env} {s : State} {m : MethodId} {below : List Frame} {meth : Method} {c : Code} {g : bl_Gp} {as : List Value} {out : Unit × bl_St} (X : bl_Cx g p s m as.toArray meth c cX7_append 3 RX7) (hr : meth.sig.returnType = (Option.none : Option Jvm.ClassFile.FieldType)) (n : Nat) : ∀ (σ : bl_St) (v0 : Nat) (v1 : Int32) (v2 : Int32), bl_sh[v0]? = some (7, 6) → (bl_fx (fun _ _ _ _ => none) (b_X7_append_3 ) n) σ v0 v1 v2 = some out → ∀ (H : Heap) (locs : List Loc) (ls : Array Slot), bl_V g s σ H locs → lv_has ls 3 [(0, .ref (bl_ad g v0)), (1, .int v1), (2, .int v2)] → W p l e (bl_rm 0 0) s m as.toArray below meth c H locs 0 0 (bl_Qv below g s as out) (F0 m 3 ls []) := by
  induction n with
  | zero =>
    intro σ v0 v1 v2 hv0 hf H locs ls V hl
    cases hf
  | succ n ih => exact w_X7_append_3 X hr  _ ih
set_option maxHeartbeats 4000000 in
set_option maxRecDepth 100000 in
theorem t_X7_append (l : Launch) (g : bl_Gp) (σ : bl_St) (a0 : Nat) (a1 : Int32) (o : Unit × bl_St) (ha0 : bl_sh[a0]? = some (7, 6)) (hf : f_X7_append σ a0 a1 = some o) : bl_Cv l g yX7_append cX7_append 3 (Option.none : Option Jvm.ClassFile.FieldType) (bl_rm 0 0) [.ref (bl_ad g a0), .int a1] σ o := by
  refine bl_met (by decide) (Nat.le_of_ble_eq_true rfl) (fun p e s m below meth c ls X hr V hl => ?_)
  have hl : lv_has ls 3 [(0, .ref (bl_ad g a0)), (1, .int a1)] := hl
  unfold f_X7_append at hf
  refine lv_bipush (v := 24) X.1 X.2.1 dX7_append_0 (by decide) ?_
  refine lv_istore_n (lv' := [(2, .int 24), (0, .ref (bl_ad g a0)), (1, .int a1)]) X.1 X.2.1 dX7_append_2 rfl hl (by decide) rfl (fun ls hl => ?_)
  exact l_X7_append_3 X hr  bl_fu σ a0 a1 24 ha0 hf _ _ _ V (lv_sub hl [1, 2, 0] rfl)
set_option maxHeartbeats 4000000 in
set_option maxRecDepth 100000 in
theorem t_X8_hasClass (l : Launch) (g : bl_Gp) (σ : bl_St) (a0 : Nat) (a1 : Int32) (o : Int32 × bl_St) (ha0 : bl_sh[a0]? = some (8, 5)) (hf : f_X8_hasClass σ a0 a1 = some o) : bl_Ci l g yX8_hasClass cX8_hasClass 2 (Option.some Jvm.ClassFile.FieldType.boolean) (bl_rm 0 0) [.ref (bl_ad g a0), .int a1] σ o := by
  refine bl_met (by decide) (Nat.le_of_ble_eq_true rfl) (fun p e s m below meth c ls X hr V hl => ?_)
  have hl : lv_has ls 2 [(0, .ref (bl_ad g a0)), (1, .int a1)] := hl
  unfold f_X8_hasClass at hf
  refine lv_iload_n X.1 X.2.1 dX8_hasClass_0 rfl (lv_at hl 1 rfl) ?_
  refine lv_if_lt (tgt := 16) X.1 X.2.1 dX8_hasClass_1 (by decide) (fun c1 => ?_) (fun c1 => ?_)
  · have hf := bl_ifp c1 hf
    refine lv_iconst (v := 0) X.1 X.2.1 dX8_hasClass_16 (by decide) ?_
    exact bl_retz X V hr (by decide) hf dX8_hasClass_17
  · have hf := bl_ifn c1 hf
    refine lv_iload_n X.1 X.2.1 dX8_hasClass_4 rfl (lv_at hl 1 rfl) ?_
    refine lv_aload_n X.1 X.2.1 dX8_hasClass_5 rfl (lv_at hl 0 rfl) ?_
    refine bl_geti X V ha0 fl_X8_30 dX8_hasClass_6 ?_
    refine lv_icmp_ge (tgt := 16) X.1 X.2.1 dX8_hasClass_9 (by decide) (fun c2 => ?_) (fun c2 => ?_)
    · have hf := bl_ifp c2 hf
      refine lv_iconst (v := 0) X.1 X.2.1 dX8_hasClass_16 (by decide) ?_
      exact bl_retz X V hr (by decide) hf dX8_hasClass_17
    · have hf := bl_ifn c2 hf
      refine lv_iconst (v := 1) X.1 X.2.1 dX8_hasClass_12 (by decide) ?_
      refine lv_goto (tgt := 17) X.1 X.2.1 dX8_hasClass_13 (by decide) ?_
      exact bl_retz X V hr (by decide) hf dX8_hasClass_17
set_option maxHeartbeats 4000000 in
set_option maxRecDepth 100000 in
theorem w_X7_isWhole_37 {p : Program} {l : Launch} {e : Env} {s : State} {m : MethodId} {below : List Frame} {meth : Method} {c : Code} {g : bl_Gp} {as : List Value} {out : Int32 × bl_St} (X : bl_Cx g p s m as.toArray meth c cX7_isWhole 3 RX7) (hr : meth.sig.returnType = (Option.some Jvm.ClassFile.FieldType.boolean)) (k24 : bl_St → Nat → Int32 → Option (Int32 × bl_St)) (hk24 : ∀ (σ : bl_St) (v0 : Nat) (v1 : Int32), bl_sh[v0]? = some (7, 6) → k24 σ v0 v1 = some out → ∀ (H : Heap) (locs : List Loc) (ls : Array Slot), bl_V g s σ H locs → lv_has ls 3 [(0, .ref (bl_ad g v0)), (1, .int v1)] → W p l e (bl_rm 2 39) s m as.toArray below meth c H locs 0 0 (bl_Qi below g s as out) (F0 m 24 ls [])) (k37 : bl_St → Nat → Int32 → Int32 → Option (Int32 × bl_St)) (hk37 : ∀ (σ : bl_St) (v0 : Nat) (v1 : Int32) (v2 : Int32), bl_sh[v0]? = some (7, 6) → k37 σ v0 v1 v2 = some out → ∀ (H : Heap) (locs : List Loc) (ls : Array Slot), bl_V g s σ H locs → lv_has ls 3 [(0, .ref (bl_ad g v0)), (1, .int v1), (2, .int v2)] → W p l e (bl_rm 2 39) s m as.toArray below meth c H locs 0 0 (bl_Qi below g s as out) (F0 m 37 ls [])) : ∀ (σ : bl_St) (v0 : Nat) (v1 : Int32) (v2 : Int32), bl_sh[v0]? = some (7, 6) → (b_X7_isWhole_37 k24 k37) σ v0 v1 v2 = some out → ∀ (H : Heap) (locs : List Loc) (ls : Array Slot), bl_V g s σ H locs → lv_has ls 3 [(0, .ref (bl_ad g v0)), (1, .int v1), (2, .int v2)] → W p l e (bl_rm 2 39) s m as.toArray below meth c H locs 0 0 (bl_Qi below g s as out) (F0 m 37 ls []) := by
  intro σ v0 v1 v2 hv0 hf H locs ls V hl
  unfold b_X7_isWhole_37 at hf
  refine lv_iload_n X.1 X.2.1 dX7_isWhole_37 rfl (lv_at hl 2 rfl) ?_
  refine lv_iconst (v := 3) X.1 X.2.1 dX7_isWhole_38 (by decide) ?_
  refine lv_icmp_ge (tgt := 69) X.1 X.2.1 dX7_isWhole_39 (by decide) (fun c1 => ?_) (fun c1 => ?_)
  · have hf := bl_ifp c1 hf
    obtain ⟨x2, e3⟩ : ∃ z : Int32, z = v1 + 1 := ⟨_, rfl⟩
    have hf := bl_let_at e3 hf
    refine lv_iinc (v := x2) (lv' := [(1, .int x2), (0, .ref (bl_ad g v0)), (2, .int v2)]) X.1 X.2.1 dX7_isWhole_69 hl (k := 1) rfl (by rw [e3]; rfl) (by decide) rfl (fun ls hl => ?_)
    refine lv_goto (tgt := 24) X.1 X.2.1 dX7_isWhole_72 (by decide) ?_
    exact hk24 σ v0 x2 hv0 hf _ _ _ V (lv_sub hl [1, 0] rfl)
  · have hf := bl_ifn c1 hf
    refine lv_aload_n X.1 X.2.1 dX7_isWhole_42 rfl (lv_at hl 0 rfl) ?_
    refine bl_getr X V hv0 fl_X7_21 rfl dX7_isWhole_43 (fun h4 => ?_)
    refine lv_aload_n X.1 X.2.1 dX7_isWhole_46 rfl (lv_at hl 0 rfl) ?_
    refine bl_getr X V hv0 fl_X7_21 rfl dX7_isWhole_47 (fun h5 => ?_)
    refine lv_iload_n X.1 X.2.1 dX7_isWhole_50 rfl (lv_at hl 1 rfl) ?_
    refine lv_iload_n X.1 X.2.1 dX7_isWhole_51 rfl (lv_at hl 2 rfl) ?_
    obtain ⟨r6, σ7, h8, hf⟩ := bl_bd_at hf
    refine bl_cVi (As := [.int v1, .int v2]) X V hl.1 h5 rfl ml_X7_110 mV_X8_next (t_X8_next l g σ (bl_R σ v0 2) v1 v2 _ h5 h8) rfl rfl ⟨Nat.le_of_ble_eq_true rfl, Nat.le_of_ble_eq_true rfl⟩ rfl rfl (Nat.le_of_ble_eq_true rfl) ⟨Nat.zero_le _, Nat.zero_le _⟩ dX7_isWhole_52 (fun H locs V => ?_)
    obtain ⟨r9, σ10, h11, hf⟩ := bl_bd_at hf
    refine bl_cVi (As := [.int r6]) X V hl.1 h4 rfl ml_X7_113 mV_X8_hasClass (t_X8_hasClass l g σ7 (bl_R σ v0 2) r6 _ h4 h11) rfl rfl ⟨Nat.le_of_ble_eq_true rfl, Nat.le_of_ble_eq_true rfl⟩ rfl rfl (Nat.le_of_ble_eq_true rfl) ⟨Nat.zero_le _, Nat.zero_le _⟩ dX7_isWhole_55 (fun H locs V => ?_)
    refine lv_if_ne (tgt := 63) X.1 X.2.1 dX7_isWhole_58 (by decide) (fun c12 => ?_) (fun c12 => ?_)
    · have hf := bl_ifn c12 hf
      obtain ⟨x13, e14⟩ : ∃ z : Int32, z = v2 + 1 := ⟨_, rfl⟩
      have hf := bl_let_at e14 hf
      refine lv_iinc (v := x13) (lv' := [(2, .int x13), (0, .ref (bl_ad g v0)), (1, .int v1)]) X.1 X.2.1 dX7_isWhole_63 hl (k := 2) rfl (by rw [e14]; rfl) (by decide) rfl (fun ls hl => ?_)
      refine lv_goto (tgt := 37) X.1 X.2.1 dX7_isWhole_66 (by decide) ?_
      exact hk37 σ10 v0 v1 x13 hv0 hf _ _ _ V (lv_sub hl [1, 2, 0] rfl)
    · have hf := bl_ifp c12 hf
      refine lv_iconst (v := 0) X.1 X.2.1 dX7_isWhole_61 (by decide) ?_
      exact bl_retz X V hr (by decide) hf dX7_isWhole_62
theorem l_X7_isWhole_37 {p : Program} {l : Launch} {e : Env} {s : State} {m : MethodId} {below : List Frame} {meth : Method} {c : Code} {g : bl_Gp} {as : List Value} {out : Int32 × bl_St} (X : bl_Cx g p s m as.toArray meth c cX7_isWhole 3 RX7) (hr : meth.sig.returnType = (Option.some Jvm.ClassFile.FieldType.boolean)) (k24 : bl_St → Nat → Int32 → Option (Int32 × bl_St)) (hk24 : ∀ (σ : bl_St) (v0 : Nat) (v1 : Int32), bl_sh[v0]? = some (7, 6) → k24 σ v0 v1 = some out → ∀ (H : Heap) (locs : List Loc) (ls : Array Slot), bl_V g s σ H locs → lv_has ls 3 [(0, .ref (bl_ad g v0)), (1, .int v1)] → W p l e (bl_rm 2 39) s m as.toArray below meth c H locs 0 0 (bl_Qi below g s as out) (F0 m 24 ls [])) (n : Nat) : ∀ (σ : bl_St) (v0 : Nat) (v1 : Int32) (v2 : Int32), bl_sh[v0]? = some (7, 6) → (bl_fx (fun _ _ _ _ => none) (b_X7_isWhole_37 k24) n) σ v0 v1 v2 = some out → ∀ (H : Heap) (locs : List Loc) (ls : Array Slot), bl_V g s σ H locs → lv_has ls 3 [(0, .ref (bl_ad g v0)), (1, .int v1), (2, .int v2)] → W p l e (bl_rm 2 39) s m as.toArray below meth c H locs 0 0 (bl_Qi below g s as out) (F0 m 37 ls []) := by
  induction n with
  | zero =>
    intro σ v0 v1 v2 hv0 hf H locs ls V hl
    cases hf
  | succ n ih => exact w_X7_isWhole_37 X hr k24 hk24 _ ih
set_option maxHeartbeats 4000000 in
set_option maxRecDepth 100000 in
theorem w_X7_isWhole_24 {p : Program} {l : Launch} {e : Env} {s : State} {m : MethodId} {below : List Frame} {meth : Method} {c : Code} {g : bl_Gp} {as : List Value} {out : Int32 × bl_St} (X : bl_Cx g p s m as.toArray meth c cX7_isWhole 3 RX7) (hr : meth.sig.returnType = (Option.some Jvm.ClassFile.FieldType.boolean)) (k24 : bl_St → Nat → Int32 → Option (Int32 × bl_St)) (hk24 : ∀ (σ : bl_St) (v0 : Nat) (v1 : Int32), bl_sh[v0]? = some (7, 6) → k24 σ v0 v1 = some out → ∀ (H : Heap) (locs : List Loc) (ls : Array Slot), bl_V g s σ H locs → lv_has ls 3 [(0, .ref (bl_ad g v0)), (1, .int v1)] → W p l e (bl_rm 2 39) s m as.toArray below meth c H locs 0 0 (bl_Qi below g s as out) (F0 m 24 ls [])) : ∀ (σ : bl_St) (v0 : Nat) (v1 : Int32), bl_sh[v0]? = some (7, 6) → (b_X7_isWhole_24 k24) σ v0 v1 = some out → ∀ (H : Heap) (locs : List Loc) (ls : Array Slot), bl_V g s σ H locs → lv_has ls 3 [(0, .ref (bl_ad g v0)), (1, .int v1)] → W p l e (bl_rm 2 39) s m as.toArray below meth c H locs 0 0 (bl_Qi below g s as out) (F0 m 24 ls []) := by
  intro σ v0 v1 hv0 hf H locs ls V hl
  unfold b_X7_isWhole_24 at hf
  refine lv_iload_n X.1 X.2.1 dX7_isWhole_24 rfl (lv_at hl 1 rfl) ?_
  refine lv_aload_n X.1 X.2.1 dX7_isWhole_25 rfl (lv_at hl 0 rfl) ?_
  refine bl_getr X V hv0 fl_X7_21 rfl dX7_isWhole_26 (fun h15 => ?_)
  refine bl_geti X V h15 fl_X7_91 dX7_isWhole_29 ?_
  refine lv_icmp_ge (tgt := 75) X.1 X.2.1 dX7_isWhole_32 (by decide) (fun c16 => ?_) (fun c16 => ?_)
  · have hf := bl_ifp c16 hf
    refine lv_iconst (v := 1) X.1 X.2.1 dX7_isWhole_75 (by decide) ?_
    exact bl_retz X V hr (by decide) hf dX7_isWhole_76
  · have hf := bl_ifn c16 hf
    refine lv_iconst (v := 0) X.1 X.2.1 dX7_isWhole_35 (by decide) ?_
    refine lv_istore_n (lv' := [(2, .int 0), (0, .ref (bl_ad g v0)), (1, .int v1)]) X.1 X.2.1 dX7_isWhole_36 rfl hl (by decide) rfl (fun ls hl => ?_)
    exact l_X7_isWhole_37 X hr k24 hk24 bl_fu σ v0 v1 0 hv0 hf _ _ _ V (lv_sub hl [1, 2, 0] rfl)
theorem l_X7_isWhole_24 {p : Program} {l : Launch} {e : Env} {s : State} {m : MethodId} {below : List Frame} {meth : Method} {c : Code} {g : bl_Gp} {as : List Value} {out : Int32 × bl_St} (X : bl_Cx g p s m as.toArray meth c cX7_isWhole 3 RX7) (hr : meth.sig.returnType = (Option.some Jvm.ClassFile.FieldType.boolean)) (n : Nat) : ∀ (σ : bl_St) (v0 : Nat) (v1 : Int32), bl_sh[v0]? = some (7, 6) → (bl_fx (fun _ _ _ => none) (b_X7_isWhole_24 ) n) σ v0 v1 = some out → ∀ (H : Heap) (locs : List Loc) (ls : Array Slot), bl_V g s σ H locs → lv_has ls 3 [(0, .ref (bl_ad g v0)), (1, .int v1)] → W p l e (bl_rm 2 39) s m as.toArray below meth c H locs 0 0 (bl_Qi below g s as out) (F0 m 24 ls []) := by
  induction n with
  | zero =>
    intro σ v0 v1 hv0 hf H locs ls V hl
    cases hf
  | succ n ih => exact w_X7_isWhole_24 X hr  _ ih
set_option maxHeartbeats 4000000 in
set_option maxRecDepth 100000 in
theorem t_X7_isWhole (l : Launch) (g : bl_Gp) (σ : bl_St) (a0 : Nat) (o : Int32 × bl_St) (ha0 : bl_sh[a0]? = some (7, 6)) (hf : f_X7_isWhole σ a0 = some o) : bl_Ci l g yX7_isWhole cX7_isWhole 3 (Option.some Jvm.ClassFile.FieldType.boolean) (bl_rm 2 39) [.ref (bl_ad g a0)] σ o := by
  refine bl_met (by decide) (Nat.le_of_ble_eq_true rfl) (fun p e s m below meth c ls X hr V hl => ?_)
  have hl : lv_has ls 3 [(0, .ref (bl_ad g a0))] := hl
  unfold f_X7_isWhole at hf
  refine lv_aload_n X.1 X.2.1 dX7_isWhole_0 rfl (lv_at hl 0 rfl) ?_
  refine bl_getr X V ha0 fl_X7_21 rfl dX7_isWhole_1 (fun h17 => ?_)
  refine bl_geti X V h17 fl_X7_91 dX7_isWhole_4 ?_
  refine lv_if_eq (tgt := 20) X.1 X.2.1 dX7_isWhole_7 (by decide) (fun c18 => ?_) (fun c18 => ?_)
  · have hf := bl_ifp c18 hf
    refine lv_iconst (v := 0) X.1 X.2.1 dX7_isWhole_20 (by decide) ?_
    exact bl_retz X V hr (by decide) hf dX7_isWhole_21
  · have hf := bl_ifn c18 hf
    refine lv_aload_n X.1 X.2.1 dX7_isWhole_10 rfl (lv_at hl 0 rfl) ?_
    refine bl_getr X V ha0 fl_X7_21 rfl dX7_isWhole_11 (fun h19 => ?_)
    refine bl_geti X V h19 fl_X7_107 dX7_isWhole_14 ?_
    refine lv_if_ne (tgt := 22) X.1 X.2.1 dX7_isWhole_17 (by decide) (fun c20 => ?_) (fun c20 => ?_)
    · have hf := bl_ifn c20 hf
      refine lv_iconst (v := 0) X.1 X.2.1 dX7_isWhole_22 (by decide) ?_
      refine lv_istore_n (lv' := [(1, .int 0), (0, .ref (bl_ad g a0))]) X.1 X.2.1 dX7_isWhole_23 rfl hl (by decide) rfl (fun ls hl => ?_)
      exact l_X7_isWhole_24 X hr  bl_fu σ a0 0 ha0 hf _ _ _ V (lv_sub hl [1, 0] rfl)
    · have hf := bl_ifp c20 hf
      refine lv_iconst (v := 0) X.1 X.2.1 dX7_isWhole_20 (by decide) ?_
      exact bl_retz X V hr (by decide) hf dX7_isWhole_21
set_option maxHeartbeats 4000000 in
set_option maxRecDepth 100000 in
theorem t_X7_amountOf (l : Launch) (g : bl_Gp) (σ : bl_St) (a0 : Int32) (o : Int32 × bl_St) (hf : f_X7_amountOf σ a0 = some o) : bl_Ci l g yX7_amountOf cX7_amountOf 1 (Option.some Jvm.ClassFile.FieldType.int) (bl_rm 0 0) [.int a0] σ o := by
  refine bl_met (by decide) (Nat.le_of_ble_eq_true rfl) (fun p e s m below meth c ls X hr V hl => ?_)
  have hl : lv_has ls 1 [(0, .int a0)] := hl
  unfold f_X7_amountOf at hf
  refine lv_iload_n X.1 X.2.1 dX7_amountOf_0 rfl (lv_at hl 0 rfl) ?_
  refine lv_if_ne (tgt := 6) X.1 X.2.1 dX7_amountOf_1 (by decide) (fun c1 => ?_) (fun c1 => ?_)
  · have hf := bl_ifn c1 hf
    refine lv_iload_n X.1 X.2.1 dX7_amountOf_6 rfl (lv_at hl 0 rfl) ?_
    refine lv_iconst (v := 1) X.1 X.2.1 dX7_amountOf_7 (by decide) ?_
    refine lv_icmp_ne (tgt := 15) X.1 X.2.1 dX7_amountOf_8 (by decide) (fun c2 => ?_) (fun c2 => ?_)
    · have hf := bl_ifn c2 hf
      refine lv_iconst (v := 1) X.1 X.2.1 dX7_amountOf_15 (by decide) ?_
      exact bl_reti X V hr hf dX7_amountOf_16
    · have hf := bl_ifp c2 hf
      refine lv_iconst (v := 2) X.1 X.2.1 dX7_amountOf_11 (by decide) ?_
      refine lv_goto (tgt := 16) X.1 X.2.1 dX7_amountOf_12 (by decide) ?_
      exact bl_reti X V hr hf dX7_amountOf_16
  · have hf := bl_ifp c1 hf
    refine lv_iconst (v := 5) X.1 X.2.1 dX7_amountOf_4 (by decide) ?_
    exact bl_reti X V hr hf dX7_amountOf_5
set_option maxHeartbeats 4000000 in
set_option maxRecDepth 100000 in
theorem t_X7_highest (l : Launch) (g : bl_Gp) (σ : bl_St) (a0 : Int32) (a1 : Int32) (o : Int32 × bl_St) (hf : f_X7_highest σ a0 a1 = some o) : bl_Ci l g yX7_highest cX7_highest 2 (Option.some Jvm.ClassFile.FieldType.int) (bl_rm 0 0) [.int a0, .int a1] σ o := by
  refine bl_met (by decide) (Nat.le_of_ble_eq_true rfl) (fun p e s m below meth c ls X hr V hl => ?_)
  have hl : lv_has ls 2 [(0, .int a0), (1, .int a1)] := hl
  unfold f_X7_highest at hf
  refine lv_iload_n X.1 X.2.1 dX7_highest_0 rfl (lv_at hl 0 rfl) ?_
  refine lv_if_ne (tgt := 10) X.1 X.2.1 dX7_highest_1 (by decide) (fun c1 => ?_) (fun c1 => ?_)
  · have hf := bl_ifn c1 hf
    refine lv_iload_n X.1 X.2.1 dX7_highest_10 rfl (lv_at hl 0 rfl) ?_
    refine lv_iconst (v := 1) X.1 X.2.1 dX7_highest_11 (by decide) ?_
    refine lv_icmp_ne (tgt := 23) X.1 X.2.1 dX7_highest_12 (by decide) (fun c2 => ?_) (fun c2 => ?_)
    · have hf := bl_ifn c2 hf
      refine bl_sgetN X V X.2.2.2.2.2.2.1.1.2.2.2.1 (by decide +kernel) dX7_highest_23 (fun t3 h4 => ?_)
      refine lv_iload_n X.1 X.2.1 dX7_highest_26 rfl (lv_at hl 0 rfl) ?_
      refine lv_iconst (v := 2) X.1 X.2.1 dX7_highest_27 (by decide) ?_
      refine lv_isub X.1 X.2.1 dX7_highest_28 ?_
      obtain ⟨h5, hf⟩ := bl_gd_at hf
      refine bl_sld X V h4 h5 dX7_highest_29 ?_
      exact bl_reti X V hr hf dX7_highest_30
    · have hf := bl_ifp c2 hf
      refine bl_sgetN X V X.2.2.2.2.2.2.1.1.2.1 (by decide +kernel) dX7_highest_15 (fun t6 h7 => ?_)
      refine lv_iload_n X.1 X.2.1 dX7_highest_18 rfl (lv_at hl 1 rfl) ?_
      obtain ⟨h8, hf⟩ := bl_gd_at hf
      refine bl_sld X V h7 h8 dX7_highest_19 ?_
      refine lv_goto (tgt := 30) X.1 X.2.1 dX7_highest_20 (by decide) ?_
      exact bl_reti X V hr hf dX7_highest_30
  · have hf := bl_ifp c1 hf
    refine bl_sgetN X V X.2.2.2.2.2.2.1.1.1 (by decide +kernel) dX7_highest_4 (fun t9 h10 => ?_)
    refine lv_iload_n X.1 X.2.1 dX7_highest_7 rfl (lv_at hl 1 rfl) ?_
    obtain ⟨h11, hf⟩ := bl_gd_at hf
    refine bl_sld X V h10 h11 dX7_highest_8 ?_
    exact bl_reti X V hr hf dX7_highest_9
set_option maxHeartbeats 4000000 in
set_option maxRecDepth 100000 in
theorem w_X7_isFull_16 {p : Program} {l : Launch} {e : Env} {s : State} {m : MethodId} {below : List Frame} {meth : Method} {c : Code} {g : bl_Gp} {as : List Value} {out : Int32 × bl_St} (X : bl_Cx g p s m as.toArray meth c cX7_isFull 2 RX7) (hr : meth.sig.returnType = (Option.some Jvm.ClassFile.FieldType.boolean)) : ∀ (σ : bl_St) (v0 : Nat) (v1 : Int32), bl_sh[v0]? = some (7, 6) → (b_X7_isFull_16 ) σ v0 v1 = some out → ∀ (H : Heap) (locs : List Loc) (ls : Array Slot), bl_V g s σ H locs → lv_has ls 2 [(0, .ref (bl_ad g v0)), (1, .int v1)] → W p l e (bl_rm 0 0) s m as.toArray below meth c H locs 0 0 (bl_Qi below g s as out) (F0 m 16 ls []) := by
  intro σ v0 v1 hv0 hf H locs ls V hl
  unfold b_X7_isFull_16 at hf
  refine lv_iload_n X.1 X.2.1 dX7_isFull_16 rfl (lv_at hl 1 rfl) ?_
  refine lv_iconst (v := 1) X.1 X.2.1 dX7_isFull_17 (by decide) ?_
  refine lv_icmp_ne (tgt := 36) X.1 X.2.1 dX7_isFull_18 (by decide) (fun c1 => ?_) (fun c1 => ?_)
  · have hf := bl_ifn c1 hf
    refine lv_iconst (v := 0) X.1 X.2.1 dX7_isFull_36 (by decide) ?_
    exact bl_retz X V hr (by decide) hf dX7_isFull_37
  · have hf := bl_ifp c1 hf
    refine lv_aload_n X.1 X.2.1 dX7_isFull_21 rfl (lv_at hl 0 rfl) ?_
    refine bl_getr X V hv0 fl_X7_21 rfl dX7_isFull_22 (fun h2 => ?_)
    refine bl_geti X V h2 fl_X7_107 dX7_isFull_25 ?_
    refine lv_iconst (v := 5) X.1 X.2.1 dX7_isFull_28 (by decide) ?_
    refine lv_icmp_lt (tgt := 36) X.1 X.2.1 dX7_isFull_29 (by decide) (fun c3 => ?_) (fun c3 => ?_)
    · have hf := bl_ifp c3 hf
      refine lv_iconst (v := 0) X.1 X.2.1 dX7_isFull_36 (by decide) ?_
      exact bl_retz X V hr (by decide) hf dX7_isFull_37
    · have hf := bl_ifn c3 hf
      refine lv_iconst (v := 1) X.1 X.2.1 dX7_isFull_32 (by decide) ?_
      refine lv_goto (tgt := 37) X.1 X.2.1 dX7_isFull_33 (by decide) ?_
      exact bl_retz X V hr (by decide) hf dX7_isFull_37
set_option maxHeartbeats 4000000 in
set_option maxRecDepth 100000 in
theorem t_X7_isFull (l : Launch) (g : bl_Gp) (σ : bl_St) (a0 : Nat) (a1 : Int32) (o : Int32 × bl_St) (ha0 : bl_sh[a0]? = some (7, 6)) (hf : f_X7_isFull σ a0 a1 = some o) : bl_Ci l g yX7_isFull cX7_isFull 2 (Option.some Jvm.ClassFile.FieldType.boolean) (bl_rm 0 0) [.ref (bl_ad g a0), .int a1] σ o := by
  refine bl_met (by decide) (Nat.le_of_ble_eq_true rfl) (fun p e s m below meth c ls X hr V hl => ?_)
  have hl : lv_has ls 2 [(0, .ref (bl_ad g a0)), (1, .int a1)] := hl
  unfold f_X7_isFull at hf
  refine lv_iload_n X.1 X.2.1 dX7_isFull_0 rfl (lv_at hl 1 rfl) ?_
  refine lv_if_ne (tgt := 16) X.1 X.2.1 dX7_isFull_1 (by decide) (fun c4 => ?_) (fun c4 => ?_)
  · have hf := bl_ifn c4 hf
    exact w_X7_isFull_16 X hr  σ a0 a1 ha0 hf _ _ _ V (lv_sub hl [0, 1] rfl)
  · have hf := bl_ifp c4 hf
    refine lv_aload_n X.1 X.2.1 dX7_isFull_4 rfl (lv_at hl 0 rfl) ?_
    refine bl_getr X V ha0 fl_X7_21 rfl dX7_isFull_5 (fun h5 => ?_)
    refine bl_geti X V h5 fl_X7_91 dX7_isFull_8 ?_
    refine lv_bipush (v := 8) X.1 X.2.1 dX7_isFull_11 (by decide) ?_
    refine lv_icmp_ge (tgt := 32) X.1 X.2.1 dX7_isFull_13 (by decide) (fun c6 => ?_) (fun c6 => ?_)
    · have hf := bl_ifp c6 hf
      refine lv_iconst (v := 1) X.1 X.2.1 dX7_isFull_32 (by decide) ?_
      refine lv_goto (tgt := 37) X.1 X.2.1 dX7_isFull_33 (by decide) ?_
      exact bl_retz X V hr (by decide) hf dX7_isFull_37
    · have hf := bl_ifn c6 hf
      exact w_X7_isFull_16 X hr  σ a0 a1 ha0 hf _ _ _ V (lv_sub hl [0, 1] rfl)
set_option maxHeartbeats 4000000 in
set_option maxRecDepth 100000 in
theorem t_X7_isLetter (l : Launch) (g : bl_Gp) (σ : bl_St) (a0 : Int32) (o : Int32 × bl_St) (hf : f_X7_isLetter σ a0 = some o) : bl_Ci l g yX7_isLetter cX7_isLetter 1 (Option.some Jvm.ClassFile.FieldType.boolean) (bl_rm 0 0) [.int a0] σ o := by
  refine bl_met (by decide) (Nat.le_of_ble_eq_true rfl) (fun p e s m below meth c ls X hr V hl => ?_)
  have hl : lv_has ls 1 [(0, .int a0)] := hl
  unfold f_X7_isLetter at hf
  refine lv_iload_n X.1 X.2.1 dX7_isLetter_0 rfl (lv_at hl 0 rfl) ?_
  refine lv_bipush (v := 97) X.1 X.2.1 dX7_isLetter_1 (by decide) ?_
  refine lv_icmp_lt (tgt := 16) X.1 X.2.1 dX7_isLetter_3 (by decide) (fun c1 => ?_) (fun c1 => ?_)
  · have hf := bl_ifp c1 hf
    refine lv_iconst (v := 0) X.1 X.2.1 dX7_isLetter_16 (by decide) ?_
    exact bl_retz X V hr (by decide) hf dX7_isLetter_17
  · have hf := bl_ifn c1 hf
    refine lv_iload_n X.1 X.2.1 dX7_isLetter_6 rfl (lv_at hl 0 rfl) ?_
    refine lv_bipush (v := 122) X.1 X.2.1 dX7_isLetter_7 (by decide) ?_
    refine lv_icmp_gt (tgt := 16) X.1 X.2.1 dX7_isLetter_9 (by decide) (fun c2 => ?_) (fun c2 => ?_)
    · have hf := bl_ifp c2 hf
      refine lv_iconst (v := 0) X.1 X.2.1 dX7_isLetter_16 (by decide) ?_
      exact bl_retz X V hr (by decide) hf dX7_isLetter_17
    · have hf := bl_ifn c2 hf
      refine lv_iconst (v := 1) X.1 X.2.1 dX7_isLetter_12 (by decide) ?_
      refine lv_goto (tgt := 17) X.1 X.2.1 dX7_isLetter_13 (by decide) ?_
      exact bl_retz X V hr (by decide) hf dX7_isLetter_17
set_option maxHeartbeats 4000000 in
set_option maxRecDepth 100000 in
theorem w_X7_isWord_15 {p : Program} {l : Launch} {e : Env} {s : State} {m : MethodId} {below : List Frame} {meth : Method} {c : Code} {g : bl_Gp} {as : List Value} {out : Int32 × bl_St} (X : bl_Cx g p s m as.toArray meth c cX7_isWord 5 RX7) (hr : meth.sig.returnType = (Option.some Jvm.ClassFile.FieldType.boolean)) (k15 : bl_St → Nat → Nat → Int32 → Int32 → Option (Int32 × bl_St)) (hk15 : ∀ (σ : bl_St) (v0 : Nat) (v1 : Nat) (v2 : Int32) (v4 : Int32), bl_sh[v0]? = some (7, 6) → k15 σ v0 v1 v2 v4 = some out → ∀ (H : Heap) (locs : List Loc) (ls : Array Slot), bl_V g s σ H locs → lv_has ls 5 [(0, .ref (bl_ad g v0)), (1, .ref (bl_adr g 1 v1)), (2, .int v2), (4, .int v4)] → W p l e (bl_rm 4 85) s m as.toArray below meth c H locs 0 0 (bl_Qi below g s as out) (F0 m 15 ls [])) : ∀ (σ : bl_St) (v0 : Nat) (v1 : Nat) (v2 : Int32) (v4 : Int32), bl_sh[v0]? = some (7, 6) → (b_X7_isWord_15 k15) σ v0 v1 v2 v4 = some out → ∀ (H : Heap) (locs : List Loc) (ls : Array Slot), bl_V g s σ H locs → lv_has ls 5 [(0, .ref (bl_ad g v0)), (1, .ref (bl_adr g 1 v1)), (2, .int v2), (4, .int v4)] → W p l e (bl_rm 4 85) s m as.toArray below meth c H locs 0 0 (bl_Qi below g s as out) (F0 m 15 ls []) := by
  intro σ v0 v1 v2 v4 hv0 hf H locs ls V hl
  unfold b_X7_isWord_15 at hf
  refine lv_iload X.1 X.2.1 dX7_isWord_15 (lv_at hl 3 rfl) ?_
  refine lv_aload_n X.1 X.2.1 dX7_isWord_17 rfl (lv_at hl 1 rfl) ?_
  obtain ⟨r1, σ2, h3, hf⟩ := bl_bd_at hf
  refine bl_cTi (As := []) X V hl.1 (u_J0_length_8abf5 h3) rfl ml_X7_124 mV_J0_length_8abf5 (t_J0_length_8abf5 l g σ v1 _  h3) rfl rfl ⟨Nat.le_of_ble_eq_true rfl, Nat.le_of_ble_eq_true rfl⟩ rfl rfl (Nat.le_of_ble_eq_true rfl) ⟨Nat.zero_le _, Nat.zero_le _⟩ dX7_isWord_18 (fun H locs V => ?_)
  refine lv_icmp_ge (tgt := 50) X.1 X.2.1 dX7_isWord_21 (by decide) (fun c4 => ?_) (fun c4 => ?_)
  · have hf := bl_ifp c4 hf
    refine lv_iconst (v := 1) X.1 X.2.1 dX7_isWord_50 (by decide) ?_
    exact bl_retz X V hr (by decide) hf dX7_isWord_51
  · have hf := bl_ifn c4 hf
    refine lv_aload_n X.1 X.2.1 dX7_isWord_24 rfl (lv_at hl 0 rfl) ?_
    refine bl_getr X V hv0 fl_X7_9 rfl dX7_isWord_25 (fun h5 => ?_)
    refine lv_iload_n X.1 X.2.1 dX7_isWord_28 rfl (lv_at hl 2 rfl) ?_
    refine lv_iload X.1 X.2.1 dX7_isWord_29 (lv_at hl 3 rfl) ?_
    refine lv_iadd X.1 X.2.1 dX7_isWord_31 ?_
    obtain ⟨h6, hf⟩ := bl_gd_at hf
    refine bl_iald (k := (Int32.toNatClampNeg (v2 + v4))) X V h5 h6 rfl dX7_isWord_32 ?_
    refine lv_aload_n X.1 X.2.1 dX7_isWord_33 rfl (lv_at hl 1 rfl) ?_
    refine lv_iload X.1 X.2.1 dX7_isWord_34 (lv_at hl 3 rfl) ?_
    obtain ⟨r7, σ8, h9, hf⟩ := bl_bd_at hf
    refine bl_cTi (As := [.int v4]) X V hl.1 (u_J0_charAt_5068e h9) rfl ml_X7_129 mV_J0_charAt_5068e (t_J0_charAt_5068e l g σ2 v1 v4 _  h9) rfl rfl ⟨Nat.le_of_ble_eq_true rfl, Nat.le_of_ble_eq_true rfl⟩ rfl rfl (Nat.le_of_ble_eq_true rfl) ⟨Nat.zero_le _, Nat.zero_le _⟩ dX7_isWord_36 (fun H locs V => ?_)
    refine lv_icmp_eq (tgt := 44) X.1 X.2.1 dX7_isWord_39 (by decide) (fun c10 => ?_) (fun c10 => ?_)
    · have hf := bl_ifp c10 hf
      obtain ⟨x11, e12⟩ : ∃ z : Int32, z = v4 + 1 := ⟨_, rfl⟩
      have hf := bl_let_at e12 hf
      refine lv_iinc (v := x11) (lv' := [(4, .int x11), (0, .ref (bl_ad g v0)), (1, .ref (bl_adr g 1 v1)), (2, .int v2)]) X.1 X.2.1 dX7_isWord_44 hl (k := 3) rfl (by rw [e12]; rfl) (by decide) rfl (fun ls hl => ?_)
      refine lv_goto (tgt := 15) X.1 X.2.1 dX7_isWord_47 (by decide) ?_
      exact hk15 σ8 v0 v1 v2 x11 hv0 hf _ _ _ V (lv_sub hl [1, 2, 3, 0] rfl)
    · have hf := bl_ifn c10 hf
      refine lv_iconst (v := 0) X.1 X.2.1 dX7_isWord_42 (by decide) ?_
      exact bl_retz X V hr (by decide) hf dX7_isWord_43
theorem l_X7_isWord_15 {p : Program} {l : Launch} {e : Env} {s : State} {m : MethodId} {below : List Frame} {meth : Method} {c : Code} {g : bl_Gp} {as : List Value} {out : Int32 × bl_St} (X : bl_Cx g p s m as.toArray meth c cX7_isWord 5 RX7) (hr : meth.sig.returnType = (Option.some Jvm.ClassFile.FieldType.boolean)) (n : Nat) : ∀ (σ : bl_St) (v0 : Nat) (v1 : Nat) (v2 : Int32) (v4 : Int32), bl_sh[v0]? = some (7, 6) → (bl_fx (fun _ _ _ _ _ => none) (b_X7_isWord_15 ) n) σ v0 v1 v2 v4 = some out → ∀ (H : Heap) (locs : List Loc) (ls : Array Slot), bl_V g s σ H locs → lv_has ls 5 [(0, .ref (bl_ad g v0)), (1, .ref (bl_adr g 1 v1)), (2, .int v2), (4, .int v4)] → W p l e (bl_rm 4 85) s m as.toArray below meth c H locs 0 0 (bl_Qi below g s as out) (F0 m 15 ls []) := by
  induction n with
  | zero =>
    intro σ v0 v1 v2 v4 hv0 hf H locs ls V hl
    cases hf
  | succ n ih => exact w_X7_isWord_15 X hr  _ ih
set_option maxHeartbeats 4000000 in
set_option maxRecDepth 100000 in
theorem t_X7_isWord (l : Launch) (g : bl_Gp) (σ : bl_St) (a0 : Nat) (a1 : Nat) (a2 : Int32) (a3 : Int32) (o : Int32 × bl_St) (ha0 : bl_sh[a0]? = some (7, 6)) (hf : f_X7_isWord σ a0 a1 a2 a3 = some o) : bl_Ci l g yX7_isWord cX7_isWord 5 (Option.some Jvm.ClassFile.FieldType.boolean) (bl_rm 4 85) [.ref (bl_ad g a0), .ref (bl_adr g 1 a1), .int a2, .int a3] σ o := by
  refine bl_met (by decide) (Nat.le_of_ble_eq_true rfl) (fun p e s m below meth c ls X hr V hl => ?_)
  have hl : lv_has ls 5 [(0, .ref (bl_ad g a0)), (1, .ref (bl_adr g 1 a1)), (2, .int a2), (3, .int a3)] := hl
  unfold f_X7_isWord at hf
  refine lv_iload_n X.1 X.2.1 dX7_isWord_0 rfl (lv_at hl 3 rfl) ?_
  refine lv_iload_n X.1 X.2.1 dX7_isWord_1 rfl (lv_at hl 2 rfl) ?_
  refine lv_isub X.1 X.2.1 dX7_isWord_2 ?_
  refine lv_aload_n X.1 X.2.1 dX7_isWord_3 rfl (lv_at hl 1 rfl) ?_
  obtain ⟨r13, σ14, h15, hf⟩ := bl_bd_at hf
  refine bl_cTi (As := []) X V hl.1 (u_J0_length_8abf5 h15) rfl ml_X7_124 mV_J0_length_8abf5 (t_J0_length_8abf5 l g σ a1 _  h15) rfl rfl ⟨Nat.le_of_ble_eq_true rfl, Nat.le_of_ble_eq_true rfl⟩ rfl rfl (Nat.le_of_ble_eq_true rfl) ⟨Nat.zero_le _, Nat.zero_le _⟩ dX7_isWord_4 (fun H locs V => ?_)
  refine lv_icmp_eq (tgt := 12) X.1 X.2.1 dX7_isWord_7 (by decide) (fun c16 => ?_) (fun c16 => ?_)
  · have hf := bl_ifp c16 hf
    refine lv_iconst (v := 0) X.1 X.2.1 dX7_isWord_12 (by decide) ?_
    refine lv_istore (lv' := [(4, .int 0), (0, .ref (bl_ad g a0)), (1, .ref (bl_adr g 1 a1)), (2, .int a2), (3, .int a3)]) X.1 X.2.1 dX7_isWord_13 hl (by decide) rfl (fun ls hl => ?_)
    exact l_X7_isWord_15 X hr  bl_fu σ14 a0 a1 a2 0 ha0 hf _ _ _ V (lv_sub hl [1, 2, 3, 0] rfl)
  · have hf := bl_ifn c16 hf
    refine lv_iconst (v := 0) X.1 X.2.1 dX7_isWord_10 (by decide) ?_
    exact bl_retz X V hr (by decide) hf dX7_isWord_11
set_option maxHeartbeats 4000000 in
set_option maxRecDepth 100000 in
theorem t_X9_wordOf (l : Launch) (g : bl_Gp) (σ : bl_St) (a0 : Int32) (o : Nat × bl_St) (hf : f_X9_wordOf σ a0 = some o) : bl_Cr 1 l g yX9_wordOf cX9_wordOf 1 (Option.some (Jvm.ClassFile.FieldType.object "java/lang/String")) (bl_rm 0 0) [.int a0] σ o := by
  refine bl_met (by decide) (Nat.le_of_ble_eq_true rfl) (fun p e s m below meth c ls X hr V hl => ?_)
  have hl : lv_has ls 1 [(0, .int a0)] := hl
  unfold f_X9_wordOf at hf
  refine lv_iload_n X.1 X.2.1 dX9_wordOf_0 rfl (lv_at hl 0 rfl) ?_
  by_cases c1 : a0 = 0
  · have hf := bl_ifp c1 hf
    refine bl_swI (v := 0) (tgt := 32) X dX9_wordOf_1 (by rw [c1]; decide) (by decide) rfl (by decide) ?_
    refine bl_ldcs X (j := 0) rfl dX9_wordOf_32 ?_
    exact bl_retr (kd := 1) X V hr hf dX9_wordOf_35
  have hf := bl_ifn c1 hf
  by_cases c2 : a0 = 1
  · have hf := bl_ifp c2 hf
    refine bl_swI (v := 1) (tgt := 36) X dX9_wordOf_1 (by rw [c2]; decide) (by decide) rfl (by decide) ?_
    refine bl_ldcs X (j := 1) rfl dX9_wordOf_36 ?_
    exact bl_retr (kd := 1) X V hr hf dX9_wordOf_39
  have hf := bl_ifn c2 hf
  by_cases c3 : a0 = 2
  · have hf := bl_ifp c3 hf
    refine bl_swI (v := 2) (tgt := 40) X dX9_wordOf_1 (by rw [c3]; decide) (by decide) rfl (by decide) ?_
    refine bl_ldcs X (j := 2) rfl dX9_wordOf_40 ?_
    exact bl_retr (kd := 1) X V hr hf dX9_wordOf_43
  have hf := bl_ifn c3 hf
  by_cases c4 : a0 = 3
  · have hf := bl_ifp c4 hf
    refine bl_swI (v := 3) (tgt := 44) X dX9_wordOf_1 (by rw [c4]; decide) (by decide) rfl (by decide) ?_
    refine bl_ldcs X (j := 3) rfl dX9_wordOf_44 ?_
    exact bl_retr (kd := 1) X V hr hf dX9_wordOf_47
  have hf := bl_ifn c4 hf
  have c1 := lv_neT (a := 0) c1 (by decide)
  have c2 := lv_neT (a := 1) c2 (by decide)
  have c3 := lv_neT (a := 2) c3 (by decide)
  have c4 := lv_neT (a := 3) c4 (by decide)
  refine bl_swO (tgt := 48) X dX9_wordOf_1 (by omega) (by decide) ?_
  refine bl_ldcs X (j := 4) rfl dX9_wordOf_48 ?_
  exact bl_retr (kd := 1) X V hr hf dX9_wordOf_51
set_option maxHeartbeats 4000000 in
set_option maxRecDepth 100000 in
theorem w_X7_kindOf_2 {p : Program} {l : Launch} {e : Env} {s : State} {m : MethodId} {below : List Frame} {meth : Method} {c : Code} {g : bl_Gp} {as : List Value} {out : Int32 × bl_St} (X : bl_Cx g p s m as.toArray meth c cX7_kindOf 4 RX7) (hr : meth.sig.returnType = (Option.some Jvm.ClassFile.FieldType.int)) (k2 : bl_St → Nat → Int32 → Int32 → Int32 → Option (Int32 × bl_St)) (hk2 : ∀ (σ : bl_St) (v0 : Nat) (v1 : Int32) (v2 : Int32) (v3 : Int32), bl_sh[v0]? = some (7, 6) → k2 σ v0 v1 v2 v3 = some out → ∀ (H : Heap) (locs : List Loc) (ls : Array Slot), bl_V g s σ H locs → lv_has ls 4 [(0, .ref (bl_ad g v0)), (1, .int v1), (2, .int v2), (3, .int v3)] → W p l e (bl_rm 5 109) s m as.toArray below meth c H locs 0 0 (bl_Qi below g s as out) (F0 m 2 ls [])) : ∀ (σ : bl_St) (v0 : Nat) (v1 : Int32) (v2 : Int32) (v3 : Int32), bl_sh[v0]? = some (7, 6) → (b_X7_kindOf_2 k2) σ v0 v1 v2 v3 = some out → ∀ (H : Heap) (locs : List Loc) (ls : Array Slot), bl_V g s σ H locs → lv_has ls 4 [(0, .ref (bl_ad g v0)), (1, .int v1), (2, .int v2), (3, .int v3)] → W p l e (bl_rm 5 109) s m as.toArray below meth c H locs 0 0 (bl_Qi below g s as out) (F0 m 2 ls []) := by
  intro σ v0 v1 v2 v3 hv0 hf H locs ls V hl
  unfold b_X7_kindOf_2 at hf
  refine lv_iload_n X.1 X.2.1 dX7_kindOf_2 rfl (lv_at hl 3 rfl) ?_
  refine lv_iconst (v := 5) X.1 X.2.1 dX7_kindOf_3 (by decide) ?_
  refine lv_icmp_ge (tgt := 28) X.1 X.2.1 dX7_kindOf_4 (by decide) (fun c1 => ?_) (fun c1 => ?_)
  · have hf := bl_ifp c1 hf
    refine lv_iconst (v := (-1)) X.1 X.2.1 dX7_kindOf_28 (by decide) ?_
    exact bl_reti X V hr hf dX7_kindOf_29
  · have hf := bl_ifn c1 hf
    refine lv_aload_n X.1 X.2.1 dX7_kindOf_7 rfl (lv_at hl 0 rfl) ?_
    refine lv_iload_n X.1 X.2.1 dX7_kindOf_8 rfl (lv_at hl 3 rfl) ?_
    obtain ⟨r2, σ3, h4, hf⟩ := bl_bd_at hf
    refine bl_cNr (kd := 1) (As := [.int v3]) X V hl.1 (by decide +kernel) mS_X9_wordOf (t_X9_wordOf l g σ v3 _  h4) rfl rfl ⟨Nat.le_of_ble_eq_true rfl, Nat.le_of_ble_eq_true rfl⟩ rfl rfl (Nat.le_of_ble_eq_true rfl) ⟨Nat.zero_le _, Nat.zero_le _⟩ dX7_kindOf_9 (fun H locs V => ?_)
    refine lv_iload_n X.1 X.2.1 dX7_kindOf_12 rfl (lv_at hl 1 rfl) ?_
    refine lv_iload_n X.1 X.2.1 dX7_kindOf_13 rfl (lv_at hl 2 rfl) ?_
    obtain ⟨r5, σ6, h7, hf⟩ := bl_bd_at hf
    refine bl_cVi (As := [.ref (bl_adr g 1 r2), .int v1, .int v2]) X V hl.1 hv0 rfl ml_X7_120 mV_X7_isWord (t_X7_isWord l g σ3 v0 r2 v1 v2 _ hv0 h7) rfl rfl ⟨Nat.le_of_ble_eq_true rfl, Nat.le_of_ble_eq_true rfl⟩ rfl rfl (Nat.le_of_ble_eq_true rfl) ⟨Nat.zero_le _, Nat.zero_le _⟩ dX7_kindOf_14 (fun H locs V => ?_)
    refine lv_if_eq (tgt := 22) X.1 X.2.1 dX7_kindOf_17 (by decide) (fun c8 => ?_) (fun c8 => ?_)
    · have hf := bl_ifp c8 hf
      obtain ⟨x9, e10⟩ : ∃ z : Int32, z = v3 + 1 := ⟨_, rfl⟩
      have hf := bl_let_at e10 hf
      refine lv_iinc (v := x9) (lv' := [(3, .int x9), (0, .ref (bl_ad g v0)), (1, .int v1), (2, .int v2)]) X.1 X.2.1 dX7_kindOf_22 hl (k := 3) rfl (by rw [e10]; rfl) (by decide) rfl (fun ls hl => ?_)
      refine lv_goto (tgt := 2) X.1 X.2.1 dX7_kindOf_25 (by decide) ?_
      exact hk2 σ6 v0 v1 v2 x9 hv0 hf _ _ _ V (lv_sub hl [1, 2, 3, 0] rfl)
    · have hf := bl_ifn c8 hf
      refine lv_iload_n X.1 X.2.1 dX7_kindOf_20 rfl (lv_at hl 3 rfl) ?_
      exact bl_reti X V hr hf dX7_kindOf_21
theorem l_X7_kindOf_2 {p : Program} {l : Launch} {e : Env} {s : State} {m : MethodId} {below : List Frame} {meth : Method} {c : Code} {g : bl_Gp} {as : List Value} {out : Int32 × bl_St} (X : bl_Cx g p s m as.toArray meth c cX7_kindOf 4 RX7) (hr : meth.sig.returnType = (Option.some Jvm.ClassFile.FieldType.int)) (n : Nat) : ∀ (σ : bl_St) (v0 : Nat) (v1 : Int32) (v2 : Int32) (v3 : Int32), bl_sh[v0]? = some (7, 6) → (bl_fx (fun _ _ _ _ _ => none) (b_X7_kindOf_2 ) n) σ v0 v1 v2 v3 = some out → ∀ (H : Heap) (locs : List Loc) (ls : Array Slot), bl_V g s σ H locs → lv_has ls 4 [(0, .ref (bl_ad g v0)), (1, .int v1), (2, .int v2), (3, .int v3)] → W p l e (bl_rm 5 109) s m as.toArray below meth c H locs 0 0 (bl_Qi below g s as out) (F0 m 2 ls []) := by
  induction n with
  | zero =>
    intro σ v0 v1 v2 v3 hv0 hf H locs ls V hl
    cases hf
  | succ n ih => exact w_X7_kindOf_2 X hr  _ ih
set_option maxHeartbeats 4000000 in
set_option maxRecDepth 100000 in
theorem t_X7_kindOf (l : Launch) (g : bl_Gp) (σ : bl_St) (a0 : Nat) (a1 : Int32) (a2 : Int32) (o : Int32 × bl_St) (ha0 : bl_sh[a0]? = some (7, 6)) (hf : f_X7_kindOf σ a0 a1 a2 = some o) : bl_Ci l g yX7_kindOf cX7_kindOf 4 (Option.some Jvm.ClassFile.FieldType.int) (bl_rm 5 109) [.ref (bl_ad g a0), .int a1, .int a2] σ o := by
  refine bl_met (by decide) (Nat.le_of_ble_eq_true rfl) (fun p e s m below meth c ls X hr V hl => ?_)
  have hl : lv_has ls 4 [(0, .ref (bl_ad g a0)), (1, .int a1), (2, .int a2)] := hl
  unfold f_X7_kindOf at hf
  refine lv_iconst (v := 0) X.1 X.2.1 dX7_kindOf_0 (by decide) ?_
  refine lv_istore_n (lv' := [(3, .int 0), (0, .ref (bl_ad g a0)), (1, .int a1), (2, .int a2)]) X.1 X.2.1 dX7_kindOf_1 rfl hl (by decide) rfl (fun ls hl => ?_)
  exact l_X7_kindOf_2 X hr  bl_fu σ a0 a1 a2 0 ha0 hf _ _ _ V (lv_sub hl [1, 2, 3, 0] rfl)
set_option maxHeartbeats 4000000 in
set_option maxRecDepth 100000 in
theorem t_X7_lowest (l : Launch) (g : bl_Gp) (σ : bl_St) (a0 : Int32) (o : Int32 × bl_St) (hf : f_X7_lowest σ a0 = some o) : bl_Ci l g yX7_lowest cX7_lowest 1 (Option.some Jvm.ClassFile.FieldType.int) (bl_rm 0 0) [.int a0] σ o := by
  refine bl_met (by decide) (Nat.le_of_ble_eq_true rfl) (fun p e s m below meth c ls X hr V hl => ?_)
  have hl : lv_has ls 1 [(0, .int a0)] := hl
  unfold f_X7_lowest at hf
  refine lv_iload_n X.1 X.2.1 dX7_lowest_0 rfl (lv_at hl 0 rfl) ?_
  refine lv_if_ne (tgt := 6) X.1 X.2.1 dX7_lowest_1 (by decide) (fun c1 => ?_) (fun c1 => ?_)
  · have hf := bl_ifn c1 hf
    refine lv_iload_n X.1 X.2.1 dX7_lowest_6 rfl (lv_at hl 0 rfl) ?_
    refine lv_iconst (v := 1) X.1 X.2.1 dX7_lowest_7 (by decide) ?_
    refine lv_icmp_ne (tgt := 15) X.1 X.2.1 dX7_lowest_8 (by decide) (fun c2 => ?_) (fun c2 => ?_)
    · have hf := bl_ifn c2 hf
      refine bl_sgetN X V X.2.2.2.2.2.2.1.1.2.2.1 (by decide +kernel) dX7_lowest_15 (fun t3 h4 => ?_)
      refine lv_iload_n X.1 X.2.1 dX7_lowest_18 rfl (lv_at hl 0 rfl) ?_
      refine lv_iconst (v := 2) X.1 X.2.1 dX7_lowest_19 (by decide) ?_
      refine lv_isub X.1 X.2.1 dX7_lowest_20 ?_
      obtain ⟨h5, hf⟩ := bl_gd_at hf
      refine bl_sld X V h4 h5 dX7_lowest_21 ?_
      exact bl_reti X V hr hf dX7_lowest_22
    · have hf := bl_ifp c2 hf
      refine lv_iconst (v := 1) X.1 X.2.1 dX7_lowest_11 (by decide) ?_
      refine lv_goto (tgt := 22) X.1 X.2.1 dX7_lowest_12 (by decide) ?_
      exact bl_reti X V hr hf dX7_lowest_22
  · have hf := bl_ifp c1 hf
    refine lv_iconst (v := 0) X.1 X.2.1 dX7_lowest_4 (by decide) ?_
    exact bl_reti X V hr hf dX7_lowest_5
set_option maxHeartbeats 4000000 in
set_option maxRecDepth 100000 in
theorem w_X7_skipBlanks_39 {p : Program} {l : Launch} {e : Env} {s : State} {m : MethodId} {below : List Frame} {meth : Method} {c : Code} {g : bl_Gp} {as : List Value} {out : Unit × bl_St} (X : bl_Cx g p s m as.toArray meth c cX7_skipBlanks 1 RX7) (hr : meth.sig.returnType = (Option.none : Option Jvm.ClassFile.FieldType)) (k0 : bl_St → Nat → Option (Unit × bl_St)) (hk0 : ∀ (σ : bl_St) (v0 : Nat), bl_sh[v0]? = some (7, 6) → k0 σ v0 = some out → ∀ (H : Heap) (locs : List Loc) (ls : Array Slot), bl_V g s σ H locs → lv_has ls 1 [(0, .ref (bl_ad g v0))] → W p l e (bl_rm 0 0) s m as.toArray below meth c H locs 0 0 (bl_Qv below g s as out) (F0 m 0 ls [])) : ∀ (σ : bl_St) (v0 : Nat), bl_sh[v0]? = some (7, 6) → (b_X7_skipBlanks_39 k0) σ v0 = some out → ∀ (H : Heap) (locs : List Loc) (ls : Array Slot), bl_V g s σ H locs → lv_has ls 1 [(0, .ref (bl_ad g v0))] → W p l e (bl_rm 0 0) s m as.toArray below meth c H locs 0 0 (bl_Qv below g s as out) (F0 m 39 ls []) := by
  intro σ v0 hv0 hf H locs ls V hl
  unfold b_X7_skipBlanks_39 at hf
  refine lv_aload_n X.1 X.2.1 dX7_skipBlanks_39 rfl (lv_at hl 0 rfl) ?_
  refine lv_dup X.1 X.2.1 dX7_skipBlanks_40 rfl ?_
  refine bl_geti X V hv0 fl_X7_32 dX7_skipBlanks_41 ?_
  refine lv_iconst (v := 1) X.1 X.2.1 dX7_skipBlanks_44 (by decide) ?_
  refine lv_iadd X.1 X.2.1 dX7_skipBlanks_45 ?_
  refine bl_puti X V hv0 fp_X7_32 rfl rfl dX7_skipBlanks_46 (fun σ1 H locs e2 V => ?_)
  have hf := bl_let_at e2 hf
  refine lv_goto (tgt := 0) X.1 X.2.1 dX7_skipBlanks_49 (by decide) ?_
  exact hk0 σ1 v0 hv0 hf _ _ _ V (lv_sub hl [0] rfl)
set_option maxHeartbeats 4000000 in
set_option maxRecDepth 100000 in
theorem w_X7_skipBlanks_0 {p : Program} {l : Launch} {e : Env} {s : State} {m : MethodId} {below : List Frame} {meth : Method} {c : Code} {g : bl_Gp} {as : List Value} {out : Unit × bl_St} (X : bl_Cx g p s m as.toArray meth c cX7_skipBlanks 1 RX7) (hr : meth.sig.returnType = (Option.none : Option Jvm.ClassFile.FieldType)) (k0 : bl_St → Nat → Option (Unit × bl_St)) (hk0 : ∀ (σ : bl_St) (v0 : Nat), bl_sh[v0]? = some (7, 6) → k0 σ v0 = some out → ∀ (H : Heap) (locs : List Loc) (ls : Array Slot), bl_V g s σ H locs → lv_has ls 1 [(0, .ref (bl_ad g v0))] → W p l e (bl_rm 0 0) s m as.toArray below meth c H locs 0 0 (bl_Qv below g s as out) (F0 m 0 ls [])) : ∀ (σ : bl_St) (v0 : Nat), bl_sh[v0]? = some (7, 6) → (b_X7_skipBlanks_0 k0) σ v0 = some out → ∀ (H : Heap) (locs : List Loc) (ls : Array Slot), bl_V g s σ H locs → lv_has ls 1 [(0, .ref (bl_ad g v0))] → W p l e (bl_rm 0 0) s m as.toArray below meth c H locs 0 0 (bl_Qv below g s as out) (F0 m 0 ls []) := by
  intro σ v0 hv0 hf H locs ls V hl
  unfold b_X7_skipBlanks_0 at hf
  refine lv_aload_n X.1 X.2.1 dX7_skipBlanks_0 rfl (lv_at hl 0 rfl) ?_
  refine bl_geti X V hv0 fl_X7_32 dX7_skipBlanks_1 ?_
  refine lv_aload_n X.1 X.2.1 dX7_skipBlanks_4 rfl (lv_at hl 0 rfl) ?_
  refine bl_geti X V hv0 fl_X7_25 dX7_skipBlanks_5 ?_
  refine lv_icmp_ge (tgt := 52) X.1 X.2.1 dX7_skipBlanks_8 (by decide) (fun c3 => ?_) (fun c3 => ?_)
  · have hf := bl_ifp c3 hf
    exact bl_retv X V hr hf dX7_skipBlanks_52
  · have hf := bl_ifn c3 hf
    refine lv_aload_n X.1 X.2.1 dX7_skipBlanks_11 rfl (lv_at hl 0 rfl) ?_
    refine bl_getr X V hv0 fl_X7_9 rfl dX7_skipBlanks_12 (fun h4 => ?_)
    refine lv_aload_n X.1 X.2.1 dX7_skipBlanks_15 rfl (lv_at hl 0 rfl) ?_
    refine bl_geti X V hv0 fl_X7_32 dX7_skipBlanks_16 ?_
    obtain ⟨h5, hf⟩ := bl_gd_at hf
    refine bl_iald (k := (Int32.toNatClampNeg (bl_I σ v0 4))) X V h4 h5 rfl dX7_skipBlanks_19 ?_
    refine lv_bipush (v := 32) X.1 X.2.1 dX7_skipBlanks_20 (by decide) ?_
    refine lv_icmp_eq (tgt := 39) X.1 X.2.1 dX7_skipBlanks_22 (by decide) (fun c6 => ?_) (fun c6 => ?_)
    · have hf := bl_ifp c6 hf
      exact w_X7_skipBlanks_39 X hr k0 hk0 σ v0 hv0 hf _ _ _ V (lv_sub hl [0] rfl)
    · have hf := bl_ifn c6 hf
      refine lv_aload_n X.1 X.2.1 dX7_skipBlanks_25 rfl (lv_at hl 0 rfl) ?_
      refine bl_getr X V hv0 fl_X7_9 rfl dX7_skipBlanks_26 (fun h7 => ?_)
      refine lv_aload_n X.1 X.2.1 dX7_skipBlanks_29 rfl (lv_at hl 0 rfl) ?_
      refine bl_geti X V hv0 fl_X7_32 dX7_skipBlanks_30 ?_
      obtain ⟨h8, hf⟩ := bl_gd_at hf
      refine bl_iald (k := (Int32.toNatClampNeg (bl_I σ v0 4))) X V h7 h8 rfl dX7_skipBlanks_33 ?_
      refine lv_bipush (v := 10) X.1 X.2.1 dX7_skipBlanks_34 (by decide) ?_
      refine lv_icmp_ne (tgt := 52) X.1 X.2.1 dX7_skipBlanks_36 (by decide) (fun c9 => ?_) (fun c9 => ?_)
      · have hf := bl_ifn c9 hf
        exact bl_retv X V hr hf dX7_skipBlanks_52
      · have hf := bl_ifp c9 hf
        exact w_X7_skipBlanks_39 X hr k0 hk0 σ v0 hv0 hf _ _ _ V (lv_sub hl [0] rfl)
theorem l_X7_skipBlanks_0 {p : Program} {l : Launch} {e : Env} {s : State} {m : MethodId} {below : List Frame} {meth : Method} {c : Code} {g : bl_Gp} {as : List Value} {out : Unit × bl_St} (X : bl_Cx g p s m as.toArray meth c cX7_skipBlanks 1 RX7) (hr : meth.sig.returnType = (Option.none : Option Jvm.ClassFile.FieldType)) (n : Nat) : ∀ (σ : bl_St) (v0 : Nat), bl_sh[v0]? = some (7, 6) → (bl_fx (fun _ _ => none) (b_X7_skipBlanks_0 ) n) σ v0 = some out → ∀ (H : Heap) (locs : List Loc) (ls : Array Slot), bl_V g s σ H locs → lv_has ls 1 [(0, .ref (bl_ad g v0))] → W p l e (bl_rm 0 0) s m as.toArray below meth c H locs 0 0 (bl_Qv below g s as out) (F0 m 0 ls []) := by
  induction n with
  | zero =>
    intro σ v0 hv0 hf H locs ls V hl
    cases hf
  | succ n ih => exact w_X7_skipBlanks_0 X hr  _ ih
set_option maxHeartbeats 4000000 in
set_option maxRecDepth 100000 in
theorem t_X7_skipBlanks (l : Launch) (g : bl_Gp) (σ : bl_St) (a0 : Nat) (o : Unit × bl_St) (ha0 : bl_sh[a0]? = some (7, 6)) (hf : f_X7_skipBlanks σ a0 = some o) : bl_Cv l g yX7_skipBlanks cX7_skipBlanks 1 (Option.none : Option Jvm.ClassFile.FieldType) (bl_rm 0 0) [.ref (bl_ad g a0)] σ o := by
  refine bl_met (by decide) (Nat.le_of_ble_eq_true rfl) (fun p e s m below meth c ls X hr V hl => ?_)
  have hl : lv_has ls 1 [(0, .ref (bl_ad g a0))] := hl
  unfold f_X7_skipBlanks at hf
  exact l_X7_skipBlanks_0 X hr  bl_fu σ a0 ha0 hf _ _ _ V (lv_sub hl [0] rfl)
set_option maxHeartbeats 4000000 in
set_option maxRecDepth 100000 in
theorem t_X7_readEnd (l : Launch) (g : bl_Gp) (σ : bl_St) (a0 : Nat) (o : Unit × bl_St) (ha0 : bl_sh[a0]? = some (7, 6)) (hf : f_X7_readEnd σ a0 = some o) : bl_Cv l g yX7_readEnd cX7_readEnd 1 (Option.none : Option Jvm.ClassFile.FieldType) (bl_rm 1 20) [.ref (bl_ad g a0)] σ o := by
  refine bl_met (by decide) (Nat.le_of_ble_eq_true rfl) (fun p e s m below meth c ls X hr V hl => ?_)
  have hl : lv_has ls 1 [(0, .ref (bl_ad g a0))] := hl
  unfold f_X7_readEnd at hf
  refine lv_aload_n X.1 X.2.1 dX7_readEnd_0 rfl (lv_at hl 0 rfl) ?_
  obtain ⟨r1, σ2, h3, hf⟩ := bl_bd_at hf
  refine bl_cVv (As := []) X V hl.1 ha0 rfl ml_X7_38 mV_X7_skipBlanks (t_X7_skipBlanks l g σ a0 _ ha0 h3) rfl rfl ⟨Nat.le_of_ble_eq_true rfl, Nat.le_of_ble_eq_true rfl⟩ rfl rfl (Nat.le_of_ble_eq_true rfl) ⟨Nat.zero_le _, Nat.zero_le _⟩ dX7_readEnd_1 (fun H locs V => ?_)
  refine lv_aload_n X.1 X.2.1 dX7_readEnd_4 rfl (lv_at hl 0 rfl) ?_
  refine bl_geti X V ha0 fl_X7_32 dX7_readEnd_5 ?_
  refine lv_aload_n X.1 X.2.1 dX7_readEnd_8 rfl (lv_at hl 0 rfl) ?_
  refine bl_geti X V ha0 fl_X7_25 dX7_readEnd_9 ?_
  refine lv_icmp_ge (tgt := 42) X.1 X.2.1 dX7_readEnd_12 (by decide) (fun c4 => ?_) (fun c4 => ?_)
  · have hf := bl_ifp c4 hf
    refine lv_aload_n X.1 X.2.1 dX7_readEnd_42 rfl (lv_at hl 0 rfl) ?_
    refine lv_aload_n X.1 X.2.1 dX7_readEnd_43 rfl (lv_at hl 0 rfl) ?_
    refine bl_geti X V ha0 fl_X7_32 dX7_readEnd_44 ?_
    refine bl_puti X V ha0 fp_X7_35 rfl rfl dX7_readEnd_47 (fun σ5 H locs e6 V => ?_)
    have hf := bl_let_at e6 hf
    exact bl_retv X V hr hf dX7_readEnd_50
  · have hf := bl_ifn c4 hf
    refine lv_aload_n X.1 X.2.1 dX7_readEnd_15 rfl (lv_at hl 0 rfl) ?_
    refine bl_getr X V ha0 fl_X7_9 rfl dX7_readEnd_16 (fun h7 => ?_)
    refine lv_aload_n X.1 X.2.1 dX7_readEnd_19 rfl (lv_at hl 0 rfl) ?_
    refine bl_geti X V ha0 fl_X7_32 dX7_readEnd_20 ?_
    obtain ⟨h8, hf⟩ := bl_gd_at hf
    refine bl_iald (k := (Int32.toNatClampNeg (bl_I σ2 a0 4))) X V h7 h8 rfl dX7_readEnd_23 ?_
    refine lv_bipush (v := 59) X.1 X.2.1 dX7_readEnd_24 (by decide) ?_
    refine lv_icmp_ne (tgt := 42) X.1 X.2.1 dX7_readEnd_26 (by decide) (fun c9 => ?_) (fun c9 => ?_)
    · have hf := bl_ifn c9 hf
      refine lv_aload_n X.1 X.2.1 dX7_readEnd_42 rfl (lv_at hl 0 rfl) ?_
      refine lv_aload_n X.1 X.2.1 dX7_readEnd_43 rfl (lv_at hl 0 rfl) ?_
      refine bl_geti X V ha0 fl_X7_32 dX7_readEnd_44 ?_
      refine bl_puti X V ha0 fp_X7_35 rfl rfl dX7_readEnd_47 (fun σ10 H locs e11 V => ?_)
      have hf := bl_let_at e11 hf
      exact bl_retv X V hr hf dX7_readEnd_50
    · have hf := bl_ifp c9 hf
      refine lv_aload_n X.1 X.2.1 dX7_readEnd_29 rfl (lv_at hl 0 rfl) ?_
      refine lv_dup X.1 X.2.1 dX7_readEnd_30 rfl ?_
      refine bl_geti X V ha0 fl_X7_32 dX7_readEnd_31 ?_
      refine lv_iconst (v := 1) X.1 X.2.1 dX7_readEnd_34 (by decide) ?_
      refine lv_iadd X.1 X.2.1 dX7_readEnd_35 ?_
      refine bl_puti X V ha0 fp_X7_32 rfl rfl dX7_readEnd_36 (fun σ12 H locs e13 V => ?_)
      have hf := bl_let_at e13 hf
      refine lv_goto (tgt := 50) X.1 X.2.1 dX7_readEnd_39 (by decide) ?_
      exact bl_retv X V hr hf dX7_readEnd_50
set_option maxHeartbeats 4000000 in
set_option maxRecDepth 100000 in
theorem t_X7_isDigit (l : Launch) (g : bl_Gp) (σ : bl_St) (a0 : Int32) (o : Int32 × bl_St) (hf : f_X7_isDigit σ a0 = some o) : bl_Ci l g yX7_isDigit cX7_isDigit 1 (Option.some Jvm.ClassFile.FieldType.boolean) (bl_rm 0 0) [.int a0] σ o := by
  refine bl_met (by decide) (Nat.le_of_ble_eq_true rfl) (fun p e s m below meth c ls X hr V hl => ?_)
  have hl : lv_has ls 1 [(0, .int a0)] := hl
  unfold f_X7_isDigit at hf
  refine lv_iload_n X.1 X.2.1 dX7_isDigit_0 rfl (lv_at hl 0 rfl) ?_
  refine lv_bipush (v := 48) X.1 X.2.1 dX7_isDigit_1 (by decide) ?_
  refine lv_icmp_lt (tgt := 16) X.1 X.2.1 dX7_isDigit_3 (by decide) (fun c1 => ?_) (fun c1 => ?_)
  · have hf := bl_ifp c1 hf
    refine lv_iconst (v := 0) X.1 X.2.1 dX7_isDigit_16 (by decide) ?_
    exact bl_retz X V hr (by decide) hf dX7_isDigit_17
  · have hf := bl_ifn c1 hf
    refine lv_iload_n X.1 X.2.1 dX7_isDigit_6 rfl (lv_at hl 0 rfl) ?_
    refine lv_bipush (v := 57) X.1 X.2.1 dX7_isDigit_7 (by decide) ?_
    refine lv_icmp_gt (tgt := 16) X.1 X.2.1 dX7_isDigit_9 (by decide) (fun c2 => ?_) (fun c2 => ?_)
    · have hf := bl_ifp c2 hf
      refine lv_iconst (v := 0) X.1 X.2.1 dX7_isDigit_16 (by decide) ?_
      exact bl_retz X V hr (by decide) hf dX7_isDigit_17
    · have hf := bl_ifn c2 hf
      refine lv_iconst (v := 1) X.1 X.2.1 dX7_isDigit_12 (by decide) ?_
      refine lv_goto (tgt := 17) X.1 X.2.1 dX7_isDigit_13 (by decide) ?_
      exact bl_retz X V hr (by decide) hf dX7_isDigit_17
set_option maxHeartbeats 4000000 in
set_option maxRecDepth 100000 in
theorem w_X7_readNumber_128 {p : Program} {l : Launch} {e : Env} {s : State} {m : MethodId} {below : List Frame} {meth : Method} {c : Code} {g : bl_Gp} {as : List Value} {out : Unit × bl_St} (X : bl_Cx g p s m as.toArray meth c cX7_readNumber 7 RX7) (hr : meth.sig.returnType = (Option.none : Option Jvm.ClassFile.FieldType)) : ∀ (σ : bl_St) (v0 : Nat) (v1 : Int32) (v2 : Int32) (v3 : Int32) (v5 : Int32) (v6 : Int32), bl_sh[v0]? = some (7, 6) → (b_X7_readNumber_128 ) σ v0 v1 v2 v3 v5 v6 = some out → ∀ (H : Heap) (locs : List Loc) (ls : Array Slot), bl_V g s σ H locs → lv_has ls 7 [(0, .ref (bl_ad g v0)), (1, .int v1), (2, .int v2), (3, .int v3), (5, .int v5), (6, .int v6)] → W p l e (bl_rm 1 20) s m as.toArray below meth c H locs 0 0 (bl_Qv below g s as out) (F0 m 128 ls []) := by
  intro σ v0 v1 v2 v3 v5 v6 hv0 hf H locs ls V hl
  unfold b_X7_readNumber_128 at hf
  refine lv_aload_n X.1 X.2.1 dX7_readNumber_128 rfl (lv_at hl 0 rfl) ?_
  refine bl_geti X V hv0 fl_X7_32 dX7_readNumber_129 ?_
  refine lv_iload X.1 X.2.1 dX7_readNumber_132 (lv_at hl 4 rfl) ?_
  refine lv_isub X.1 X.2.1 dX7_readNumber_134 ?_
  refine lv_iconst (v := 3) X.1 X.2.1 dX7_readNumber_135 (by decide) ?_
  refine lv_icmp_gt (tgt := 151) X.1 X.2.1 dX7_readNumber_136 (by decide) (fun c1 => ?_) (fun c1 => ?_)
  · have hf := bl_ifp c1 hf
    refine lv_aload_n X.1 X.2.1 dX7_readNumber_151 rfl (lv_at hl 0 rfl) ?_
    refine lv_iload X.1 X.2.1 dX7_readNumber_152 (lv_at hl 4 rfl) ?_
    refine bl_puti X V hv0 fp_X7_35 rfl rfl dX7_readNumber_154 (fun σ2 H locs e3 V => ?_)
    have hf := bl_let_at e3 hf
    exact bl_retv X V hr hf dX7_readNumber_157
  · have hf := bl_ifn c1 hf
    refine lv_iload X.1 X.2.1 dX7_readNumber_139 (lv_at hl 5 rfl) ?_
    refine lv_iload_n X.1 X.2.1 dX7_readNumber_141 rfl (lv_at hl 2 rfl) ?_
    refine lv_icmp_lt (tgt := 151) X.1 X.2.1 dX7_readNumber_142 (by decide) (fun c4 => ?_) (fun c4 => ?_)
    · have hf := bl_ifp c4 hf
      refine lv_aload_n X.1 X.2.1 dX7_readNumber_151 rfl (lv_at hl 0 rfl) ?_
      refine lv_iload X.1 X.2.1 dX7_readNumber_152 (lv_at hl 4 rfl) ?_
      refine bl_puti X V hv0 fp_X7_35 rfl rfl dX7_readNumber_154 (fun σ5 H locs e6 V => ?_)
      have hf := bl_let_at e6 hf
      exact bl_retv X V hr hf dX7_readNumber_157
    · have hf := bl_ifn c4 hf
      refine lv_iload X.1 X.2.1 dX7_readNumber_145 (lv_at hl 5 rfl) ?_
      refine lv_iload_n X.1 X.2.1 dX7_readNumber_147 rfl (lv_at hl 3 rfl) ?_
      refine lv_icmp_le (tgt := 158) X.1 X.2.1 dX7_readNumber_148 (by decide) (fun c7 => ?_) (fun c7 => ?_)
      · have hf := bl_ifp c7 hf
        refine lv_aload_n X.1 X.2.1 dX7_readNumber_158 rfl (lv_at hl 0 rfl) ?_
        refine bl_getr X V hv0 fl_X7_15 rfl dX7_readNumber_159 (fun h8 => ?_)
        refine lv_iload_n X.1 X.2.1 dX7_readNumber_162 rfl (lv_at hl 1 rfl) ?_
        refine lv_iload X.1 X.2.1 dX7_readNumber_163 (lv_at hl 5 rfl) ?_
        obtain ⟨h9, hf⟩ := bl_gd_at hf
        refine bl_iast (k := (Int32.toNatClampNeg v1)) X V h8 h9 rfl dX7_readNumber_165 (fun σ10 H locs e11 V => ?_)
        have hf := bl_let_at e11 hf
        exact bl_retv X V hr hf dX7_readNumber_166
      · have hf := bl_ifn c7 hf
        refine lv_aload_n X.1 X.2.1 dX7_readNumber_151 rfl (lv_at hl 0 rfl) ?_
        refine lv_iload X.1 X.2.1 dX7_readNumber_152 (lv_at hl 4 rfl) ?_
        refine bl_puti X V hv0 fp_X7_35 rfl rfl dX7_readNumber_154 (fun σ12 H locs e13 V => ?_)
        have hf := bl_let_at e13 hf
        exact bl_retv X V hr hf dX7_readNumber_157
set_option maxHeartbeats 4000000 in
set_option maxRecDepth 100000 in
theorem w_X7_readNumber_63 {p : Program} {l : Launch} {e : Env} {s : State} {m : MethodId} {below : List Frame} {meth : Method} {c : Code} {g : bl_Gp} {as : List Value} {out : Unit × bl_St} (X : bl_Cx g p s m as.toArray meth c cX7_readNumber 7 RX7) (hr : meth.sig.returnType = (Option.none : Option Jvm.ClassFile.FieldType)) (k63 : bl_St → Nat → Int32 → Int32 → Int32 → Int32 → Int32 → Option (Unit × bl_St)) (hk63 : ∀ (σ : bl_St) (v0 : Nat) (v1 : Int32) (v2 : Int32) (v3 : Int32) (v5 : Int32) (v6 : Int32), bl_sh[v0]? = some (7, 6) → k63 σ v0 v1 v2 v3 v5 v6 = some out → ∀ (H : Heap) (locs : List Loc) (ls : Array Slot), bl_V g s σ H locs → lv_has ls 7 [(0, .ref (bl_ad g v0)), (1, .int v1), (2, .int v2), (3, .int v3), (5, .int v5), (6, .int v6)] → W p l e (bl_rm 1 20) s m as.toArray below meth c H locs 0 0 (bl_Qv below g s as out) (F0 m 63 ls [])) : ∀ (σ : bl_St) (v0 : Nat) (v1 : Int32) (v2 : Int32) (v3 : Int32) (v5 : Int32) (v6 : Int32), bl_sh[v0]? = some (7, 6) → (b_X7_readNumber_63 k63) σ v0 v1 v2 v3 v5 v6 = some out → ∀ (H : Heap) (locs : List Loc) (ls : Array Slot), bl_V g s σ H locs → lv_has ls 7 [(0, .ref (bl_ad g v0)), (1, .int v1), (2, .int v2), (3, .int v3), (5, .int v5), (6, .int v6)] → W p l e (bl_rm 1 20) s m as.toArray below meth c H locs 0 0 (bl_Qv below g s as out) (F0 m 63 ls []) := by
  intro σ v0 v1 v2 v3 v5 v6 hv0 hf H locs ls V hl
  unfold b_X7_readNumber_63 at hf
  refine lv_aload_n X.1 X.2.1 dX7_readNumber_63 rfl (lv_at hl 0 rfl) ?_
  refine bl_geti X V hv0 fl_X7_32 dX7_readNumber_64 ?_
  refine lv_aload_n X.1 X.2.1 dX7_readNumber_67 rfl (lv_at hl 0 rfl) ?_
  refine bl_geti X V hv0 fl_X7_25 dX7_readNumber_68 ?_
  refine lv_icmp_ge (tgt := 128) X.1 X.2.1 dX7_readNumber_71 (by decide) (fun c14 => ?_) (fun c14 => ?_)
  · have hf := bl_ifp c14 hf
    exact w_X7_readNumber_128 X hr  σ v0 v1 v2 v3 v5 v6 hv0 hf _ _ _ V (lv_sub hl [0, 1, 2, 3, 4, 5] rfl)
  · have hf := bl_ifn c14 hf
    refine lv_aload_n X.1 X.2.1 dX7_readNumber_74 rfl (lv_at hl 0 rfl) ?_
    refine bl_getr X V hv0 fl_X7_9 rfl dX7_readNumber_75 (fun h15 => ?_)
    refine lv_aload_n X.1 X.2.1 dX7_readNumber_78 rfl (lv_at hl 0 rfl) ?_
    refine bl_geti X V hv0 fl_X7_32 dX7_readNumber_79 ?_
    obtain ⟨h16, hf⟩ := bl_gd_at hf
    refine bl_iald (k := (Int32.toNatClampNeg (bl_I σ v0 4))) X V h15 h16 rfl dX7_readNumber_82 ?_
    obtain ⟨r17, σ18, h19, hf⟩ := bl_bd_at hf
    refine bl_cSi (As := [.int (bl_I σ (bl_R σ v0 0) (Int32.toNatClampNeg (bl_I σ v0 4)))]) X V hl.1 ml_X7_80 mS_X7_isDigit (t_X7_isDigit l g σ (bl_I σ (bl_R σ v0 0) (Int32.toNatClampNeg (bl_I σ v0 4))) _  h19) rfl rfl ⟨Nat.le_of_ble_eq_true rfl, Nat.le_of_ble_eq_true rfl⟩ rfl rfl (Nat.le_of_ble_eq_true rfl) ⟨Nat.zero_le _, Nat.zero_le _⟩ dX7_readNumber_83 (fun H locs V => ?_)
    refine lv_if_eq (tgt := 128) X.1 X.2.1 dX7_readNumber_86 (by decide) (fun c20 => ?_) (fun c20 => ?_)
    · have hf := bl_ifp c20 hf
      exact w_X7_readNumber_128 X hr  σ18 v0 v1 v2 v3 v5 v6 hv0 hf _ _ _ V (lv_sub hl [0, 1, 2, 3, 4, 5] rfl)
    · have hf := bl_ifn c20 hf
      refine lv_sipush (v := 9999) X.1 X.2.1 dX7_readNumber_89 (by decide) ?_
      refine lv_iload X.1 X.2.1 dX7_readNumber_92 (lv_at hl 5 rfl) ?_
      refine lv_bipush (v := 10) X.1 X.2.1 dX7_readNumber_94 (by decide) ?_
      refine lv_imul X.1 X.2.1 dX7_readNumber_96 ?_
      refine lv_aload_n X.1 X.2.1 dX7_readNumber_97 rfl (lv_at hl 0 rfl) ?_
      refine bl_getr X V hv0 fl_X7_9 rfl dX7_readNumber_98 (fun h21 => ?_)
      refine lv_aload_n X.1 X.2.1 dX7_readNumber_101 rfl (lv_at hl 0 rfl) ?_
      refine bl_geti X V hv0 fl_X7_32 dX7_readNumber_102 ?_
      obtain ⟨h22, hf⟩ := bl_gd_at hf
      refine bl_iald (k := (Int32.toNatClampNeg (bl_I σ18 v0 4))) X V h21 h22 rfl dX7_readNumber_105 ?_
      refine lv_iadd X.1 X.2.1 dX7_readNumber_106 ?_
      refine lv_bipush (v := 48) X.1 X.2.1 dX7_readNumber_107 (by decide) ?_
      refine lv_isub X.1 X.2.1 dX7_readNumber_109 ?_
      refine bl_mini X hl.1 mm_X7_83 ⟨Nat.le_of_ble_eq_true rfl, Nat.le_of_ble_eq_true rfl⟩ ⟨Nat.zero_le _, Nat.zero_le _⟩ dX7_readNumber_110 ?_
      refine lv_topi (fun x23 e24 => ?_)
      have hf := bl_let_at e24 hf
      refine lv_istore (lv' := [(6, .int x23), (0, .ref (bl_ad g v0)), (1, .int v1), (2, .int v2), (3, .int v3), (5, .int v5)]) X.1 X.2.1 dX7_readNumber_113 hl (by decide) rfl (fun ls hl => ?_)
      refine lv_aload_n X.1 X.2.1 dX7_readNumber_115 rfl (lv_at hl 1 rfl) ?_
      refine lv_dup X.1 X.2.1 dX7_readNumber_116 rfl ?_
      refine bl_geti X V hv0 fl_X7_32 dX7_readNumber_117 ?_
      refine lv_iconst (v := 1) X.1 X.2.1 dX7_readNumber_120 (by decide) ?_
      refine lv_iadd X.1 X.2.1 dX7_readNumber_121 ?_
      refine bl_puti X V hv0 fp_X7_32 rfl rfl dX7_readNumber_122 (fun σ25 H locs e26 V => ?_)
      have hf := bl_let_at e26 hf
      refine lv_goto (tgt := 63) X.1 X.2.1 dX7_readNumber_125 (by decide) ?_
      exact hk63 σ25 v0 v1 v2 v3 v5 x23 hv0 hf _ _ _ V (lv_sub hl [1, 2, 3, 4, 5, 0] rfl)
theorem l_X7_readNumber_63 {p : Program} {l : Launch} {e : Env} {s : State} {m : MethodId} {below : List Frame} {meth : Method} {c : Code} {g : bl_Gp} {as : List Value} {out : Unit × bl_St} (X : bl_Cx g p s m as.toArray meth c cX7_readNumber 7 RX7) (hr : meth.sig.returnType = (Option.none : Option Jvm.ClassFile.FieldType)) (n : Nat) : ∀ (σ : bl_St) (v0 : Nat) (v1 : Int32) (v2 : Int32) (v3 : Int32) (v5 : Int32) (v6 : Int32), bl_sh[v0]? = some (7, 6) → (bl_fx (fun _ _ _ _ _ _ _ => none) (b_X7_readNumber_63 ) n) σ v0 v1 v2 v3 v5 v6 = some out → ∀ (H : Heap) (locs : List Loc) (ls : Array Slot), bl_V g s σ H locs → lv_has ls 7 [(0, .ref (bl_ad g v0)), (1, .int v1), (2, .int v2), (3, .int v3), (5, .int v5), (6, .int v6)] → W p l e (bl_rm 1 20) s m as.toArray below meth c H locs 0 0 (bl_Qv below g s as out) (F0 m 63 ls []) := by
  induction n with
  | zero =>
    intro σ v0 v1 v2 v3 v5 v6 hv0 hf H locs ls V hl
    cases hf
  | succ n ih => exact w_X7_readNumber_63 X hr  _ ih
set_option maxHeartbeats 4000000 in
set_option maxRecDepth 100000 in
theorem t_X7_readNumber (l : Launch) (g : bl_Gp) (σ : bl_St) (a0 : Nat) (a1 : Int32) (a2 : Int32) (a3 : Int32) (o : Unit × bl_St) (ha0 : bl_sh[a0]? = some (7, 6)) (hf : f_X7_readNumber σ a0 a1 a2 a3 = some o) : bl_Cv l g yX7_readNumber cX7_readNumber 7 (Option.none : Option Jvm.ClassFile.FieldType) (bl_rm 1 20) [.ref (bl_ad g a0), .int a1, .int a2, .int a3] σ o := by
  refine bl_met (by decide) (Nat.le_of_ble_eq_true rfl) (fun p e s m below meth c ls X hr V hl => ?_)
  have hl : lv_has ls 7 [(0, .ref (bl_ad g a0)), (1, .int a1), (2, .int a2), (3, .int a3)] := hl
  unfold f_X7_readNumber at hf
  refine lv_aload_n X.1 X.2.1 dX7_readNumber_0 rfl (lv_at hl 0 rfl) ?_
  refine bl_geti X V ha0 fl_X7_32 dX7_readNumber_1 ?_
  refine lv_topi (fun x27 e28 => ?_)
  have hf := bl_let_at e28 hf
  refine lv_istore (lv' := [(4, .int x27), (0, .ref (bl_ad g a0)), (1, .int a1), (2, .int a2), (3, .int a3)]) X.1 X.2.1 dX7_readNumber_4 hl (by decide) rfl (fun ls hl => ?_)
  refine lv_aload_n X.1 X.2.1 dX7_readNumber_6 rfl (lv_at hl 1 rfl) ?_
  obtain ⟨r29, σ30, h31, hf⟩ := bl_bd_at hf
  refine bl_cVv (As := []) X V hl.1 ha0 rfl ml_X7_38 mV_X7_skipBlanks (t_X7_skipBlanks l g σ a0 _ ha0 h31) rfl rfl ⟨Nat.le_of_ble_eq_true rfl, Nat.le_of_ble_eq_true rfl⟩ rfl rfl (Nat.le_of_ble_eq_true rfl) ⟨Nat.zero_le _, Nat.zero_le _⟩ dX7_readNumber_7 (fun H locs V => ?_)
  refine lv_aload_n X.1 X.2.1 dX7_readNumber_10 rfl (lv_at hl 1 rfl) ?_
  refine bl_geti X V ha0 fl_X7_32 dX7_readNumber_11 ?_
  refine lv_iload X.1 X.2.1 dX7_readNumber_14 (lv_at hl 0 rfl) ?_
  refine lv_icmp_eq (tgt := 45) X.1 X.2.1 dX7_readNumber_16 (by decide) (fun c32 => ?_) (fun c32 => ?_)
  · have hf := bl_ifp c32 hf
    refine lv_aload_n X.1 X.2.1 dX7_readNumber_45 rfl (lv_at hl 1 rfl) ?_
    refine lv_aload_n X.1 X.2.1 dX7_readNumber_46 rfl (lv_at hl 1 rfl) ?_
    refine bl_geti X V ha0 fl_X7_32 dX7_readNumber_47 ?_
    refine bl_puti X V ha0 fp_X7_35 rfl rfl dX7_readNumber_50 (fun σ33 H locs e34 V => ?_)
    have hf := bl_let_at e34 hf
    exact bl_retv X V hr hf dX7_readNumber_53
  · have hf := bl_ifn c32 hf
    refine lv_aload_n X.1 X.2.1 dX7_readNumber_19 rfl (lv_at hl 1 rfl) ?_
    refine bl_geti X V ha0 fl_X7_32 dX7_readNumber_20 ?_
    refine lv_aload_n X.1 X.2.1 dX7_readNumber_23 rfl (lv_at hl 1 rfl) ?_
    refine bl_geti X V ha0 fl_X7_25 dX7_readNumber_24 ?_
    refine lv_icmp_ge (tgt := 45) X.1 X.2.1 dX7_readNumber_27 (by decide) (fun c35 => ?_) (fun c35 => ?_)
    · have hf := bl_ifp c35 hf
      refine lv_aload_n X.1 X.2.1 dX7_readNumber_45 rfl (lv_at hl 1 rfl) ?_
      refine lv_aload_n X.1 X.2.1 dX7_readNumber_46 rfl (lv_at hl 1 rfl) ?_
      refine bl_geti X V ha0 fl_X7_32 dX7_readNumber_47 ?_
      refine bl_puti X V ha0 fp_X7_35 rfl rfl dX7_readNumber_50 (fun σ36 H locs e37 V => ?_)
      have hf := bl_let_at e37 hf
      exact bl_retv X V hr hf dX7_readNumber_53
    · have hf := bl_ifn c35 hf
      refine lv_aload_n X.1 X.2.1 dX7_readNumber_30 rfl (lv_at hl 1 rfl) ?_
      refine bl_getr X V ha0 fl_X7_9 rfl dX7_readNumber_31 (fun h38 => ?_)
      refine lv_aload_n X.1 X.2.1 dX7_readNumber_34 rfl (lv_at hl 1 rfl) ?_
      refine bl_geti X V ha0 fl_X7_32 dX7_readNumber_35 ?_
      obtain ⟨h39, hf⟩ := bl_gd_at hf
      refine bl_iald (k := (Int32.toNatClampNeg (bl_I σ30 a0 4))) X V h38 h39 rfl dX7_readNumber_38 ?_
      obtain ⟨r40, σ41, h42, hf⟩ := bl_bd_at hf
      refine bl_cSi (As := [.int (bl_I σ30 (bl_R σ30 a0 0) (Int32.toNatClampNeg (bl_I σ30 a0 4)))]) X V hl.1 ml_X7_80 mS_X7_isDigit (t_X7_isDigit l g σ30 (bl_I σ30 (bl_R σ30 a0 0) (Int32.toNatClampNeg (bl_I σ30 a0 4))) _  h42) rfl rfl ⟨Nat.le_of_ble_eq_true rfl, Nat.le_of_ble_eq_true rfl⟩ rfl rfl (Nat.le_of_ble_eq_true rfl) ⟨Nat.zero_le _, Nat.zero_le _⟩ dX7_readNumber_39 (fun H locs V => ?_)
      refine lv_if_ne (tgt := 54) X.1 X.2.1 dX7_readNumber_42 (by decide) (fun c43 => ?_) (fun c43 => ?_)
      · have hf := bl_ifn c43 hf
        refine lv_aload_n X.1 X.2.1 dX7_readNumber_54 rfl (lv_at hl 1 rfl) ?_
        refine bl_geti X V ha0 fl_X7_32 dX7_readNumber_55 ?_
        refine lv_topi (fun x44 e45 => ?_)
        have hf := bl_let_at e45 hf
        refine lv_istore (lv' := [(5, .int x44), (4, .int x27), (0, .ref (bl_ad g a0)), (1, .int a1), (2, .int a2), (3, .int a3)]) X.1 X.2.1 dX7_readNumber_58 hl (by decide) rfl (fun ls hl => ?_)
        refine lv_iconst (v := 0) X.1 X.2.1 dX7_readNumber_60 (by decide) ?_
        refine lv_istore (lv' := [(6, .int 0), (5, .int x44), (4, .int x27), (0, .ref (bl_ad g a0)), (1, .int a1), (2, .int a2), (3, .int a3)]) X.1 X.2.1 dX7_readNumber_61 hl (by decide) rfl (fun ls hl => ?_)
        exact l_X7_readNumber_63 X hr  bl_fu σ41 a0 a1 a2 a3 x44 0 ha0 hf _ _ _ V (lv_sub hl [3, 4, 5, 6, 1, 0] rfl)
      · have hf := bl_ifp c43 hf
        refine lv_aload_n X.1 X.2.1 dX7_readNumber_45 rfl (lv_at hl 1 rfl) ?_
        refine lv_aload_n X.1 X.2.1 dX7_readNumber_46 rfl (lv_at hl 1 rfl) ?_
        refine bl_geti X V ha0 fl_X7_32 dX7_readNumber_47 ?_
        refine bl_puti X V ha0 fp_X7_35 rfl rfl dX7_readNumber_50 (fun σ46 H locs e47 V => ?_)
        have hf := bl_let_at e47 hf
        exact bl_retv X V hr hf dX7_readNumber_53
