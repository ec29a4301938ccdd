set_option maxHeartbeats 4000000 in
set_option maxRecDepth 100000 in
theorem t_X8_setSortPart (l : Launch) (g : bl_Gp) (σ : bl_St) (a0 : Nat) (a1 : Int32) (a2 : Int32) (a3 : Int32) (o : Unit × bl_St) (ha0 : bl_sh[a0]? = some (8, 5)) (hf : f_X8_setSortPart σ a0 a1 a2 a3 = some o) : bl_Cv l g yX8_setSortPart cX8_setSortPart 4 (Option.none : Option Jvm.ClassFile.FieldType) (bl_rm 0 0) [.ref (bl_ad g a0), .int a1, .int a2, .int a3] σ o := by
  refine bl_met (by decide) (Nat.le_of_ble_eq_true rfl) (fun p e s m below meth c ls X hr V hl => ?_)
  have hl : lv_has ls 4 [(0, .ref (bl_ad g a0)), (1, .int a1), (2, .int a2), (3, .int a3)] := hl
  unfold f_X8_setSortPart at hf
  refine lv_aload_n X.1 X.2.1 dX8_setSortPart_0 rfl (lv_at hl 0 rfl) ?_
  refine bl_getr X V ha0 fl_X8_15 rfl dX8_setSortPart_1 (fun h1 => ?_)
  refine lv_iload_n X.1 X.2.1 dX8_setSortPart_4 rfl (lv_at hl 1 rfl) ?_
  refine lv_iconst (v := 2) X.1 X.2.1 dX8_setSortPart_5 (by decide) ?_
  refine lv_imul X.1 X.2.1 dX8_setSortPart_6 ?_
  refine lv_iload_n X.1 X.2.1 dX8_setSortPart_7 rfl (lv_at hl 2 rfl) ?_
  refine lv_iadd X.1 X.2.1 dX8_setSortPart_8 ?_
  refine lv_iload_n X.1 X.2.1 dX8_setSortPart_9 rfl (lv_at hl 3 rfl) ?_
  obtain ⟨h2, hf⟩ := bl_gd_at hf
  refine bl_iast (k := (Int32.toNatClampNeg ((a1 * 2) + a2))) X V h1 h2 rfl dX8_setSortPart_10 (fun σ3 H locs e4 V => ?_)
  have hf := bl_let_at e4 hf
  exact bl_retv X V hr hf dX8_setSortPart_11
set_option maxHeartbeats 4000000 in
set_option maxRecDepth 100000 in
theorem t_X8_addSort (l : Launch) (g : bl_Gp) (σ : bl_St) (a0 : Nat) (a1 : Int32) (a2 : Int32) (o : Unit × bl_St) (ha0 : bl_sh[a0]? = some (8, 5)) (hf : f_X8_addSort σ a0 a1 a2 = some o) : bl_Cv l g yX8_addSort cX8_addSort 3 (Option.none : Option Jvm.ClassFile.FieldType) (bl_rm 1 23) [.ref (bl_ad g a0), .int a1, .int a2] σ o := by
  refine bl_met (by decide) (Nat.le_of_ble_eq_true rfl) (fun p e s m below meth c ls X hr V hl => ?_)
  have hl : lv_has ls 3 [(0, .ref (bl_ad g a0)), (1, .int a1), (2, .int a2)] := hl
  unfold f_X8_addSort at hf
  refine lv_aload_n X.1 X.2.1 dX8_addSort_0 rfl (lv_at hl 0 rfl) ?_
  refine lv_aload_n X.1 X.2.1 dX8_addSort_1 rfl (lv_at hl 0 rfl) ?_
  refine bl_geti X V ha0 fl_X8_34 dX8_addSort_2 ?_
  refine lv_iconst (v := 0) X.1 X.2.1 dX8_addSort_5 (by decide) ?_
  refine lv_iload_n X.1 X.2.1 dX8_addSort_6 rfl (lv_at hl 1 rfl) ?_
  obtain ⟨r1, σ2, h3, hf⟩ := bl_bd_at hf
  refine bl_cVv (As := [.int (bl_I σ a0 1), .int 0, .int a1]) X V hl.1 ha0 rfl ml_X8_43 mV_X8_setSortPart (t_X8_setSortPart l g σ a0 (bl_I σ a0 1) 0 a1 _ ha0 h3) rfl rfl ⟨Nat.le_of_ble_eq_true rfl, Nat.le_of_ble_eq_true rfl⟩ rfl rfl (Nat.le_of_ble_eq_true rfl) ⟨Nat.zero_le _, Nat.zero_le _⟩ dX8_addSort_7 (fun H locs V => ?_)
  refine lv_aload_n X.1 X.2.1 dX8_addSort_10 rfl (lv_at hl 0 rfl) ?_
  refine lv_aload_n X.1 X.2.1 dX8_addSort_11 rfl (lv_at hl 0 rfl) ?_
  refine bl_geti X V ha0 fl_X8_34 dX8_addSort_12 ?_
  refine lv_iconst (v := 1) X.1 X.2.1 dX8_addSort_15 (by decide) ?_
  refine lv_iload_n X.1 X.2.1 dX8_addSort_16 rfl (lv_at hl 2 rfl) ?_
  obtain ⟨r4, σ5, h6, hf⟩ := bl_bd_at hf
  refine bl_cVv (As := [.int (bl_I σ2 a0 1), .int 1, .int a2]) X V hl.1 ha0 rfl ml_X8_43 mV_X8_setSortPart (t_X8_setSortPart l g σ2 a0 (bl_I σ2 a0 1) 1 a2 _ ha0 h6) rfl rfl ⟨Nat.le_of_ble_eq_true rfl, Nat.le_of_ble_eq_true rfl⟩ rfl rfl (Nat.le_of_ble_eq_true rfl) ⟨Nat.zero_le _, Nat.zero_le _⟩ dX8_addSort_17 (fun H locs V => ?_)
  refine lv_aload_n X.1 X.2.1 dX8_addSort_20 rfl (lv_at hl 0 rfl) ?_
  refine lv_dup X.1 X.2.1 dX8_addSort_21 rfl ?_
  refine bl_geti X V ha0 fl_X8_34 dX8_addSort_22 ?_
  refine lv_iconst (v := 1) X.1 X.2.1 dX8_addSort_25 (by decide) ?_
  refine lv_iadd X.1 X.2.1 dX8_addSort_26 ?_
  refine bl_puti X V ha0 fp_X8_34 rfl rfl dX8_addSort_27 (fun σ7 H locs e8 V => ?_)
  have hf := bl_let_at e8 hf
  exact bl_retv X V hr hf dX8_addSort_30
set_option maxHeartbeats 4000000 in
set_option maxRecDepth 100000 in
theorem t_X7_take (l : Launch) (g : bl_Gp) (σ : bl_St) (a0 : Nat) (a1 : Int32) (o : Unit × bl_St) (ha0 : bl_sh[a0]? = some (7, 6)) (hf : f_X7_take σ a0 a1 = some o) : bl_Cv l g yX7_take cX7_take 2 (Option.none : Option Jvm.ClassFile.FieldType) (bl_rm 2 45) [.ref (bl_ad g a0), .int a1] σ o := by
  refine bl_met (by decide) (Nat.le_of_ble_eq_true rfl) (fun p e s m below meth c ls X hr V hl => ?_)
  have hl : lv_has ls 2 [(0, .ref (bl_ad g a0)), (1, .int a1)] := hl
  unfold f_X7_take at hf
  refine lv_iload_n X.1 X.2.1 dX7_take_0 rfl (lv_at hl 1 rfl) ?_
  refine lv_if_ne (tgt := 45) X.1 X.2.1 dX7_take_1 (by decide) (fun c1 => ?_) (fun c1 => ?_)
  · have hf := bl_ifn c1 hf
    refine lv_iload_n X.1 X.2.1 dX7_take_45 rfl (lv_at hl 1 rfl) ?_
    refine lv_iconst (v := 1) X.1 X.2.1 dX7_take_46 (by decide) ?_
    refine lv_icmp_ne (tgt := 72) X.1 X.2.1 dX7_take_47 (by decide) (fun c2 => ?_) (fun c2 => ?_)
    · have hf := bl_ifn c2 hf
      refine lv_aload_n X.1 X.2.1 dX7_take_72 rfl (lv_at hl 0 rfl) ?_
      refine bl_getr X V ha0 fl_X7_21 rfl dX7_take_73 (fun h3 => ?_)
      refine bl_getr X V h3 fl_X7_104 rfl dX7_take_76 (fun h4 => ?_)
      refine lv_iload_n X.1 X.2.1 dX7_take_79 rfl (lv_at hl 1 rfl) ?_
      refine lv_iconst (v := 2) X.1 X.2.1 dX7_take_80 (by decide) ?_
      refine lv_isub X.1 X.2.1 dX7_take_81 ?_
      refine lv_aload_n X.1 X.2.1 dX7_take_82 rfl (lv_at hl 0 rfl) ?_
      refine bl_getr X V ha0 fl_X7_15 rfl dX7_take_83 (fun h5 => ?_)
      refine lv_iconst (v := 0) X.1 X.2.1 dX7_take_86 (by decide) ?_
      refine bl_iald (k := 0) X V h5 (by decide) (by decide) dX7_take_87 ?_
      obtain ⟨h6, hf⟩ := bl_gd_at hf
      refine bl_iast (k := (Int32.toNatClampNeg (a1 - 2))) X V h4 h6 rfl dX7_take_88 (fun σ7 H locs e8 V => ?_)
      have hf := bl_let_at e8 hf
      exact bl_retv X V hr hf dX7_take_89
    · have hf := bl_ifp c2 hf
      refine lv_aload_n X.1 X.2.1 dX7_take_50 rfl (lv_at hl 0 rfl) ?_
      refine bl_getr X V ha0 fl_X7_21 rfl dX7_take_51 (fun h9 => ?_)
      refine lv_aload_n X.1 X.2.1 dX7_take_54 rfl (lv_at hl 0 rfl) ?_
      refine bl_getr X V ha0 fl_X7_15 rfl dX7_take_55 (fun h10 => ?_)
      refine lv_iconst (v := 0) X.1 X.2.1 dX7_take_58 (by decide) ?_
      refine bl_iald (k := 0) X V h10 (by decide) (by decide) dX7_take_59 ?_
      refine lv_aload_n X.1 X.2.1 dX7_take_60 rfl (lv_at hl 0 rfl) ?_
      refine bl_getr X V ha0 fl_X7_15 rfl dX7_take_61 (fun h11 => ?_)
      refine lv_iconst (v := 1) X.1 X.2.1 dX7_take_64 (by decide) ?_
      refine bl_iald (k := 1) X V h11 (by decide) (by decide) dX7_take_65 ?_
      obtain ⟨r12, σ13, h14, hf⟩ := bl_bd_at hf
      refine bl_cVv (As := [.int (bl_I σ (bl_R σ a0 1) 0), .int (bl_I σ (bl_R σ a0 1) 1)]) X V hl.1 h9 rfl ml_X7_100 mV_X8_addSort (t_X8_addSort l g σ (bl_R σ a0 2) (bl_I σ (bl_R σ a0 1) 0) (bl_I σ (bl_R σ a0 1) 1) _ h9 h14) rfl rfl ⟨Nat.le_of_ble_eq_true rfl, Nat.le_of_ble_eq_true rfl⟩ rfl rfl (Nat.le_of_ble_eq_true rfl) ⟨Nat.zero_le _, Nat.zero_le _⟩ dX7_take_66 (fun H locs V => ?_)
      refine lv_goto (tgt := 89) X.1 X.2.1 dX7_take_69 (by decide) ?_
      exact bl_retv X V hr hf dX7_take_89
  · have hf := bl_ifp c1 hf
    refine lv_aload_n X.1 X.2.1 dX7_take_4 rfl (lv_at hl 0 rfl) ?_
    refine bl_getr X V ha0 fl_X7_15 rfl dX7_take_5 (fun h15 => ?_)
    refine lv_iconst (v := 0) X.1 X.2.1 dX7_take_8 (by decide) ?_
    refine lv_aload_n X.1 X.2.1 dX7_take_9 rfl (lv_at hl 0 rfl) ?_
    refine bl_getr X V ha0 fl_X7_21 rfl dX7_take_10 (fun h16 => ?_)
    refine bl_getr X V h16 fl_X7_88 rfl dX7_take_13 (fun h17 => ?_)
    refine lv_aload_n X.1 X.2.1 dX7_take_16 rfl (lv_at hl 0 rfl) ?_
    refine bl_getr X V ha0 fl_X7_21 rfl dX7_take_17 (fun h18 => ?_)
    refine bl_geti X V h18 fl_X7_91 dX7_take_20 ?_
    refine lv_iconst (v := 5) X.1 X.2.1 dX7_take_23 (by decide) ?_
    refine lv_imul X.1 X.2.1 dX7_take_24 ?_
    refine lv_iconst (v := 5) X.1 X.2.1 dX7_take_25 (by decide) ?_
    obtain ⟨h19, hf⟩ := bl_gd_at hf
    refine bl_copyi X V hl.1 ac_X7_94 h15 h17 h19 (Nat.le_of_ble_eq_true rfl) (Nat.le_of_ble_eq_true rfl) dX7_take_26 (fun σ20 H locs e21 V => ?_)
    have hf := bl_let_at e21 hf
    refine lv_aload_n X.1 X.2.1 dX7_take_29 rfl (lv_at hl 0 rfl) ?_
    refine bl_getr X V ha0 fl_X7_21 rfl dX7_take_30 (fun h22 => ?_)
    refine lv_dup X.1 X.2.1 dX7_take_33 rfl ?_
    refine bl_geti X V h22 fl_X7_91 dX7_take_34 ?_
    refine lv_iconst (v := 1) X.1 X.2.1 dX7_take_37 (by decide) ?_
    refine lv_iadd X.1 X.2.1 dX7_take_38 ?_
    refine bl_puti X V h22 fp_X7_91 rfl rfl dX7_take_39 (fun σ23 H locs e24 V => ?_)
    have hf := bl_let_at e24 hf
    refine lv_goto (tgt := 89) X.1 X.2.1 dX7_take_42 (by decide) ?_
    exact bl_retv X V hr hf dX7_take_89
set_option maxHeartbeats 4000000 in
set_option maxRecDepth 100000 in
theorem w_X7_readPhrase_129 {p : Program} {l : Launch} {e : Env} {s : State} {m : MethodId} {below : List Frame} {meth : Method} {c : Code} {g : bl_Gp} {as : List Value} {out : Unit × bl_St} (X : bl_Cx g p s m as.toArray meth c cX7_readPhrase 5 RX7) (hr : meth.sig.returnType = (Option.none : Option Jvm.ClassFile.FieldType)) : ∀ (σ : bl_St) (v0 : Nat) (v2 : Int32), bl_sh[v0]? = some (7, 6) → (b_X7_readPhrase_129 ) σ v0 v2 = some out → ∀ (H : Heap) (locs : List Loc) (ls : Array Slot), bl_V g s σ H locs → lv_has ls 5 [(0, .ref (bl_ad g v0)), (2, .int v2)] → W p l e (bl_rm 6 132) s m as.toArray below meth c H locs 0 0 (bl_Qv below g s as out) (F0 m 129 ls []) := by
  intro σ v0 v2 hv0 hf H locs ls V hl
  unfold b_X7_readPhrase_129 at hf
  refine lv_aload_n X.1 X.2.1 dX7_readPhrase_129 rfl (lv_at hl 0 rfl) ?_
  refine bl_geti X V hv0 fl_X7_35 dX7_readPhrase_130 ?_
  refine lv_iconst (v := (-1)) X.1 X.2.1 dX7_readPhrase_133 (by decide) ?_
  refine lv_icmp_ne (tgt := 142) X.1 X.2.1 dX7_readPhrase_134 (by decide) (fun c1 => ?_) (fun c1 => ?_)
  · have hf := bl_ifn c1 hf
    exact bl_retv X V hr hf dX7_readPhrase_142
  · have hf := bl_ifp c1 hf
    refine lv_aload_n X.1 X.2.1 dX7_readPhrase_137 rfl (lv_at hl 0 rfl) ?_
    refine lv_iload_n X.1 X.2.1 dX7_readPhrase_138 rfl (lv_at hl 1 rfl) ?_
    obtain ⟨r2, σ3, h4, hf⟩ := bl_bd_at hf
    refine bl_cVv (As := [.int v2]) X V hl.1 hv0 rfl ml_X7_76 mV_X7_take (t_X7_take l g σ v0 v2 _ hv0 h4) rfl rfl ⟨Nat.le_of_ble_eq_true rfl, Nat.le_of_ble_eq_true rfl⟩ rfl rfl (Nat.le_of_ble_eq_true rfl) ⟨Nat.zero_le _, Nat.zero_le _⟩ dX7_readPhrase_139 (fun H locs V => ?_)
    exact bl_retv X V hr hf dX7_readPhrase_142
set_option maxHeartbeats 4000000 in
set_option maxRecDepth 100000 in
theorem w_X7_readPhrase_117 {p : Program} {l : Launch} {e : Env} {s : State} {m : MethodId} {below : List Frame} {meth : Method} {c : Code} {g : bl_Gp} {as : List Value} {out : Unit × bl_St} (X : bl_Cx g p s m as.toArray meth c cX7_readPhrase 5 RX7) (hr : meth.sig.returnType = (Option.none : Option Jvm.ClassFile.FieldType)) : ∀ (σ : bl_St) (v0 : Nat) (v2 : Int32), bl_sh[v0]? = some (7, 6) → (b_X7_readPhrase_117 ) σ v0 v2 = some out → ∀ (H : Heap) (locs : List Loc) (ls : Array Slot), bl_V g s σ H locs → lv_has ls 5 [(0, .ref (bl_ad g v0)), (2, .int v2)] → W p l e (bl_rm 6 132) s m as.toArray below meth c H locs 0 0 (bl_Qv below g s as out) (F0 m 117 ls []) := by
  intro σ v0 v2 hv0 hf H locs ls V hl
  unfold b_X7_readPhrase_117 at hf
  refine lv_aload_n X.1 X.2.1 dX7_readPhrase_117 rfl (lv_at hl 0 rfl) ?_
  refine bl_geti X V hv0 fl_X7_35 dX7_readPhrase_118 ?_
  refine lv_iconst (v := (-1)) X.1 X.2.1 dX7_readPhrase_121 (by decide) ?_
  refine lv_icmp_ne (tgt := 129) X.1 X.2.1 dX7_readPhrase_122 (by decide) (fun c5 => ?_) (fun c5 => ?_)
  · have hf := bl_ifn c5 hf
    exact w_X7_readPhrase_129 X hr  σ v0 v2 hv0 hf _ _ _ V (lv_sub hl [0, 1] rfl)
  · have hf := bl_ifp c5 hf
    refine lv_aload_n X.1 X.2.1 dX7_readPhrase_125 rfl (lv_at hl 0 rfl) ?_
    obtain ⟨r6, σ7, h8, hf⟩ := bl_bd_at hf
    refine bl_cVv (As := []) X V hl.1 hv0 rfl ml_X7_73 mV_X7_readEnd (t_X7_readEnd l g σ v0 _ hv0 h8) rfl rfl ⟨Nat.le_of_ble_eq_true rfl, Nat.le_of_ble_eq_true rfl⟩ rfl rfl (Nat.le_of_ble_eq_true rfl) ⟨Nat.zero_le _, Nat.zero_le _⟩ dX7_readPhrase_126 (fun H locs V => ?_)
    exact w_X7_readPhrase_129 X hr  σ7 v0 v2 hv0 hf _ _ _ V (lv_sub hl [0, 1] rfl)
set_option maxHeartbeats 4000000 in
set_option maxRecDepth 100000 in
theorem w_X7_readPhrase_81 {p : Program} {l : Launch} {e : Env} {s : State} {m : MethodId} {below : List Frame} {meth : Method} {c : Code} {g : bl_Gp} {as : List Value} {out : Unit × bl_St} (X : bl_Cx g p s m as.toArray meth c cX7_readPhrase 5 RX7) (hr : meth.sig.returnType = (Option.none : Option Jvm.ClassFile.FieldType)) (k81 : bl_St → Nat → Int32 → Int32 → Int32 → Option (Unit × bl_St)) (hk81 : ∀ (σ : bl_St) (v0 : Nat) (v2 : Int32) (v3 : Int32) (v4 : Int32), bl_sh[v0]? = some (7, 6) → k81 σ v0 v2 v3 v4 = some out → ∀ (H : Heap) (locs : List Loc) (ls : Array Slot), bl_V g s σ H locs → lv_has ls 5 [(0, .ref (bl_ad g v0)), (2, .int v2), (3, .int v3), (4, .int v4)] → W p l e (bl_rm 6 132) s m as.toArray below meth c H locs 0 0 (bl_Qv below g s as out) (F0 m 81 ls [])) : ∀ (σ : bl_St) (v0 : Nat) (v2 : Int32) (v3 : Int32) (v4 : Int32), bl_sh[v0]? = some (7, 6) → (b_X7_readPhrase_81 k81) σ v0 v2 v3 v4 = some out → ∀ (H : Heap) (locs : List Loc) (ls : Array Slot), bl_V g s σ H locs → lv_has ls 5 [(0, .ref (bl_ad g v0)), (2, .int v2), (3, .int v3), (4, .int v4)] → W p l e (bl_rm 6 132) s m as.toArray below meth c H locs 0 0 (bl_Qv below g s as out) (F0 m 81 ls []) := by
  intro σ v0 v2 v3 v4 hv0 hf H locs ls V hl
  unfold b_X7_readPhrase_81 at hf
  refine lv_iload X.1 X.2.1 dX7_readPhrase_81 (lv_at hl 3 rfl) ?_
  refine lv_iload_n X.1 X.2.1 dX7_readPhrase_83 rfl (lv_at hl 2 rfl) ?_
  refine lv_icmp_ge (tgt := 117) X.1 X.2.1 dX7_readPhrase_84 (by decide) (fun c9 => ?_) (fun c9 => ?_)
  · have hf := bl_ifp c9 hf
    exact w_X7_readPhrase_117 X hr  σ v0 v2 hv0 hf _ _ _ V (lv_sub hl [0, 1] rfl)
  · have hf := bl_ifn c9 hf
    refine lv_aload_n X.1 X.2.1 dX7_readPhrase_87 rfl (lv_at hl 0 rfl) ?_
    refine bl_geti X V hv0 fl_X7_35 dX7_readPhrase_88 ?_
    refine lv_iconst (v := (-1)) X.1 X.2.1 dX7_readPhrase_91 (by decide) ?_
    refine lv_icmp_ne (tgt := 117) X.1 X.2.1 dX7_readPhrase_92 (by decide) (fun c10 => ?_) (fun c10 => ?_)
    · have hf := bl_ifn c10 hf
      exact w_X7_readPhrase_117 X hr  σ v0 v2 hv0 hf _ _ _ V (lv_sub hl [0, 1] rfl)
    · have hf := bl_ifp c10 hf
      refine lv_aload_n X.1 X.2.1 dX7_readPhrase_95 rfl (lv_at hl 0 rfl) ?_
      refine lv_iload X.1 X.2.1 dX7_readPhrase_96 (lv_at hl 3 rfl) ?_
      refine lv_iload_n X.1 X.2.1 dX7_readPhrase_98 rfl (lv_at hl 1 rfl) ?_
      obtain ⟨r11, σ12, h13, hf⟩ := bl_bd_at hf
      refine bl_cSi (As := [.int v2]) X V hl.1 ml_X7_63 mS_X7_lowest (t_X7_lowest l g σ v2 _  h13) rfl rfl ⟨Nat.le_of_ble_eq_true rfl, Nat.le_of_ble_eq_true rfl⟩ rfl rfl (Nat.le_of_ble_eq_true rfl) ⟨Nat.zero_le _, Nat.zero_le _⟩ dX7_readPhrase_99 (fun H locs V => ?_)
      refine lv_iload_n X.1 X.2.1 dX7_readPhrase_102 rfl (lv_at hl 1 rfl) ?_
      refine lv_iload X.1 X.2.1 dX7_readPhrase_103 (lv_at hl 3 rfl) ?_
      obtain ⟨r14, σ15, h16, hf⟩ := bl_bd_at hf
      refine bl_cSi (As := [.int v2, .int v4]) X V hl.1 ml_X7_66 mS_X7_highest (t_X7_highest l g σ12 v2 v4 _  h16) rfl rfl ⟨Nat.le_of_ble_eq_true rfl, Nat.le_of_ble_eq_true rfl⟩ rfl rfl (Nat.le_of_ble_eq_true rfl) ⟨Nat.zero_le _, Nat.zero_le _⟩ dX7_readPhrase_105 (fun H locs V => ?_)
      obtain ⟨r17, σ18, h19, hf⟩ := bl_bd_at hf
      refine bl_cVv (As := [.int v4, .int r11, .int r14]) X V hl.1 hv0 rfl ml_X7_69 mV_X7_readNumber (t_X7_readNumber l g σ15 v0 v4 r11 r14 _ hv0 h19) rfl rfl ⟨Nat.le_of_ble_eq_true rfl, Nat.le_of_ble_eq_true rfl⟩ rfl rfl (Nat.le_of_ble_eq_true rfl) ⟨Nat.zero_le _, Nat.zero_le _⟩ dX7_readPhrase_108 (fun H locs V => ?_)
      obtain ⟨x20, e21⟩ : ∃ z : Int32, z = v4 + 1 := ⟨_, rfl⟩
      have hf := bl_let_at e21 hf
      refine lv_iinc (v := x20) (lv' := [(4, .int x20), (0, .ref (bl_ad g v0)), (2, .int v2), (3, .int v3)]) X.1 X.2.1 dX7_readPhrase_111 hl (k := 3) rfl (by rw [e21]; rfl) (by decide) rfl (fun ls hl => ?_)
      refine lv_goto (tgt := 81) X.1 X.2.1 dX7_readPhrase_114 (by decide) ?_
      exact hk81 σ18 v0 v2 v3 x20 hv0 hf _ _ _ V (lv_sub hl [1, 2, 3, 0] rfl)
theorem l_X7_readPhrase_81 {p : Program} {l : Launch} {e : Env} {s : State} {m : MethodId} {below : List Frame} {meth : Method} {c : Code} {g : bl_Gp} {as : List Value} {out : Unit × bl_St} (X : bl_Cx g p s m as.toArray meth c cX7_readPhrase 5 RX7) (hr : meth.sig.returnType = (Option.none : Option Jvm.ClassFile.FieldType)) (n : Nat) : ∀ (σ : bl_St) (v0 : Nat) (v2 : Int32) (v3 : Int32) (v4 : Int32), bl_sh[v0]? = some (7, 6) → (bl_fx (fun _ _ _ _ _ => none) (b_X7_readPhrase_81 ) n) σ v0 v2 v3 v4 = some out → ∀ (H : Heap) (locs : List Loc) (ls : Array Slot), bl_V g s σ H locs → lv_has ls 5 [(0, .ref (bl_ad g v0)), (2, .int v2), (3, .int v3), (4, .int v4)] → W p l e (bl_rm 6 132) s m as.toArray below meth c H locs 0 0 (bl_Qv below g s as out) (F0 m 81 ls []) := by
  induction n with
  | zero =>
    intro σ v0 v2 v3 v4 hv0 hf H locs ls V hl
    cases hf
  | succ n ih => exact w_X7_readPhrase_81 X hr  _ ih
set_option maxHeartbeats 4000000 in
set_option maxRecDepth 100000 in
theorem w_X7_readPhrase_44 {p : Program} {l : Launch} {e : Env} {s : State} {m : MethodId} {below : List Frame} {meth : Method} {c : Code} {g : bl_Gp} {as : List Value} {out : Unit × bl_St} (X : bl_Cx g p s m as.toArray meth c cX7_readPhrase 5 RX7) (hr : meth.sig.returnType = (Option.none : Option Jvm.ClassFile.FieldType)) : ∀ (σ : bl_St) (v0 : Nat) (v1 : Int32), bl_sh[v0]? = some (7, 6) → (b_X7_readPhrase_44 ) σ v0 v1 = some out → ∀ (H : Heap) (locs : List Loc) (ls : Array Slot), bl_V g s σ H locs → lv_has ls 5 [(0, .ref (bl_ad g v0)), (1, .int v1)] → W p l e (bl_rm 6 132) s m as.toArray below meth c H locs 0 0 (bl_Qv below g s as out) (F0 m 44 ls []) := by
  intro σ v0 v1 hv0 hf H locs ls V hl
  unfold b_X7_readPhrase_44 at hf
  refine lv_aload_n X.1 X.2.1 dX7_readPhrase_44 rfl (lv_at hl 0 rfl) ?_
  refine lv_iload_n X.1 X.2.1 dX7_readPhrase_45 rfl (lv_at hl 1 rfl) ?_
  refine lv_aload_n X.1 X.2.1 dX7_readPhrase_46 rfl (lv_at hl 0 rfl) ?_
  refine bl_geti X V hv0 fl_X7_32 dX7_readPhrase_47 ?_
  obtain ⟨r22, σ23, h24, hf⟩ := bl_bd_at hf
  refine bl_cVi (As := [.int v1, .int (bl_I σ v0 4)]) X V hl.1 hv0 rfl ml_X7_52 mV_X7_kindOf (t_X7_kindOf l g σ v0 v1 (bl_I σ v0 4) _ hv0 h24) rfl rfl ⟨Nat.le_of_ble_eq_true rfl, Nat.le_of_ble_eq_true rfl⟩ rfl rfl (Nat.le_of_ble_eq_true rfl) ⟨Nat.zero_le _, Nat.zero_le _⟩ dX7_readPhrase_50 (fun H locs V => ?_)
  refine lv_istore_n (lv' := [(2, .int r22), (0, .ref (bl_ad g v0)), (1, .int v1)]) X.1 X.2.1 dX7_readPhrase_53 rfl hl (by decide) rfl (fun ls hl => ?_)
  refine lv_iload_n X.1 X.2.1 dX7_readPhrase_54 rfl (lv_at hl 0 rfl) ?_
  refine lv_iconst (v := (-1)) X.1 X.2.1 dX7_readPhrase_55 (by decide) ?_
  refine lv_icmp_eq (tgt := 67) X.1 X.2.1 dX7_readPhrase_56 (by decide) (fun c25 => ?_) (fun c25 => ?_)
  · have hf := bl_ifp c25 hf
    refine lv_aload_n X.1 X.2.1 dX7_readPhrase_67 rfl (lv_at hl 1 rfl) ?_
    refine lv_iload_n X.1 X.2.1 dX7_readPhrase_68 rfl (lv_at hl 2 rfl) ?_
    refine bl_puti X V hv0 fp_X7_35 rfl rfl dX7_readPhrase_69 (fun σ26 H locs e27 V => ?_)
    have hf := bl_let_at e27 hf
    exact bl_retv X V hr hf dX7_readPhrase_72
  · have hf := bl_ifn c25 hf
    refine lv_aload_n X.1 X.2.1 dX7_readPhrase_59 rfl (lv_at hl 1 rfl) ?_
    refine lv_iload_n X.1 X.2.1 dX7_readPhrase_60 rfl (lv_at hl 0 rfl) ?_
    obtain ⟨r28, σ29, h30, hf⟩ := bl_bd_at hf
    refine bl_cVi (As := [.int r22]) X V hl.1 hv0 rfl ml_X7_56 mV_X7_isFull (t_X7_isFull l g σ23 v0 r22 _ hv0 h30) rfl rfl ⟨Nat.le_of_ble_eq_true rfl, Nat.le_of_ble_eq_true rfl⟩ rfl rfl (Nat.le_of_ble_eq_true rfl) ⟨Nat.zero_le _, Nat.zero_le _⟩ dX7_readPhrase_61 (fun H locs V => ?_)
    refine lv_if_eq (tgt := 73) X.1 X.2.1 dX7_readPhrase_64 (by decide) (fun c31 => ?_) (fun c31 => ?_)
    · have hf := bl_ifp c31 hf
      refine lv_iload_n X.1 X.2.1 dX7_readPhrase_73 rfl (lv_at hl 0 rfl) ?_
      obtain ⟨r32, σ33, h34, hf⟩ := bl_bd_at hf
      refine bl_cSi (As := [.int r22]) X V hl.1 ml_X7_59 mS_X7_amountOf (t_X7_amountOf l g σ29 r22 _  h34) rfl rfl ⟨Nat.le_of_ble_eq_true rfl, Nat.le_of_ble_eq_true rfl⟩ rfl rfl (Nat.le_of_ble_eq_true rfl) ⟨Nat.zero_le _, Nat.zero_le _⟩ dX7_readPhrase_74 (fun H locs V => ?_)
      refine lv_istore_n (lv' := [(3, .int r32), (2, .int r22), (0, .ref (bl_ad g v0)), (1, .int v1)]) X.1 X.2.1 dX7_readPhrase_77 rfl hl (by decide) rfl (fun ls hl => ?_)
      refine lv_iconst (v := 0) X.1 X.2.1 dX7_readPhrase_78 (by decide) ?_
      refine lv_istore (lv' := [(4, .int 0), (3, .int r32), (2, .int r22), (0, .ref (bl_ad g v0)), (1, .int v1)]) X.1 X.2.1 dX7_readPhrase_79 hl (by decide) rfl (fun ls hl => ?_)
      exact l_X7_readPhrase_81 X hr  bl_fu σ33 v0 r22 r32 0 hv0 hf _ _ _ V (lv_sub hl [3, 2, 1, 0] rfl)
    · have hf := bl_ifn c31 hf
      refine lv_aload_n X.1 X.2.1 dX7_readPhrase_67 rfl (lv_at hl 1 rfl) ?_
      refine lv_iload_n X.1 X.2.1 dX7_readPhrase_68 rfl (lv_at hl 2 rfl) ?_
      refine bl_puti X V hv0 fp_X7_35 rfl rfl dX7_readPhrase_69 (fun σ35 H locs e36 V => ?_)
      have hf := bl_let_at e36 hf
      exact bl_retv X V hr hf dX7_readPhrase_72
set_option maxHeartbeats 4000000 in
set_option maxRecDepth 100000 in
theorem w_X7_readPhrase_5 {p : Program} {l : Launch} {e : Env} {s : State} {m : MethodId} {below : List Frame} {meth : Method} {c : Code} {g : bl_Gp} {as : List Value} {out : Unit × bl_St} (X : bl_Cx g p s m as.toArray meth c cX7_readPhrase 5 RX7) (hr : meth.sig.returnType = (Option.none : Option Jvm.ClassFile.FieldType)) (k5 : bl_St → Nat → Int32 → Option (Unit × bl_St)) (hk5 : ∀ (σ : bl_St) (v0 : Nat) (v1 : Int32), bl_sh[v0]? = some (7, 6) → k5 σ v0 v1 = some out → ∀ (H : Heap) (locs : List Loc) (ls : Array Slot), bl_V g s σ H locs → lv_has ls 5 [(0, .ref (bl_ad g v0)), (1, .int v1)] → W p l e (bl_rm 6 132) s m as.toArray below meth c H locs 0 0 (bl_Qv below g s as out) (F0 m 5 ls [])) : ∀ (σ : bl_St) (v0 : Nat) (v1 : Int32), bl_sh[v0]? = some (7, 6) → (b_X7_readPhrase_5 k5) σ v0 v1 = some out → ∀ (H : Heap) (locs : List Loc) (ls : Array Slot), bl_V g s σ H locs → lv_has ls 5 [(0, .ref (bl_ad g v0)), (1, .int v1)] → W p l e (bl_rm 6 132) s m as.toArray below meth c H locs 0 0 (bl_Qv below g s as out) (F0 m 5 ls []) := by
  intro σ v0 v1 hv0 hf H locs ls V hl
  unfold b_X7_readPhrase_5 at hf
  refine lv_aload_n X.1 X.2.1 dX7_readPhrase_5 rfl (lv_at hl 0 rfl) ?_
  refine bl_geti X V hv0 fl_X7_32 dX7_readPhrase_6 ?_
  refine lv_aload_n X.1 X.2.1 dX7_readPhrase_9 rfl (lv_at hl 0 rfl) ?_
  refine bl_geti X V hv0 fl_X7_25 dX7_readPhrase_10 ?_
  refine lv_icmp_ge (tgt := 44) X.1 X.2.1 dX7_readPhrase_13 (by decide) (fun c37 => ?_) (fun c37 => ?_)
  · have hf := bl_ifp c37 hf
    exact w_X7_readPhrase_44 X hr  σ v0 v1 hv0 hf _ _ _ V (lv_sub hl [0, 1] rfl)
  · have hf := bl_ifn c37 hf
    refine lv_aload_n X.1 X.2.1 dX7_readPhrase_16 rfl (lv_at hl 0 rfl) ?_
    refine bl_getr X V hv0 fl_X7_9 rfl dX7_readPhrase_17 (fun h38 => ?_)
    refine lv_aload_n X.1 X.2.1 dX7_readPhrase_20 rfl (lv_at hl 0 rfl) ?_
    refine bl_geti X V hv0 fl_X7_32 dX7_readPhrase_21 ?_
    obtain ⟨h39, hf⟩ := bl_gd_at hf
    refine bl_iald (k := (Int32.toNatClampNeg (bl_I σ v0 4))) X V h38 h39 rfl dX7_readPhrase_24 ?_
    obtain ⟨r40, σ41, h42, hf⟩ := bl_bd_at hf
    refine bl_cSi (As := [.int (bl_I σ (bl_R σ v0 0) (Int32.toNatClampNeg (bl_I σ v0 4)))]) X V hl.1 ml_X7_48 mS_X7_isLetter (t_X7_isLetter l g σ (bl_I σ (bl_R σ v0 0) (Int32.toNatClampNeg (bl_I σ v0 4))) _  h42) rfl rfl ⟨Nat.le_of_ble_eq_true rfl, Nat.le_of_ble_eq_true rfl⟩ rfl rfl (Nat.le_of_ble_eq_true rfl) ⟨Nat.zero_le _, Nat.zero_le _⟩ dX7_readPhrase_25 (fun H locs V => ?_)
    refine lv_if_eq (tgt := 44) X.1 X.2.1 dX7_readPhrase_28 (by decide) (fun c43 => ?_) (fun c43 => ?_)
    · have hf := bl_ifp c43 hf
      exact w_X7_readPhrase_44 X hr  σ41 v0 v1 hv0 hf _ _ _ V (lv_sub hl [0, 1] rfl)
    · have hf := bl_ifn c43 hf
      refine lv_aload_n X.1 X.2.1 dX7_readPhrase_31 rfl (lv_at hl 0 rfl) ?_
      refine lv_dup X.1 X.2.1 dX7_readPhrase_32 rfl ?_
      refine bl_geti X V hv0 fl_X7_32 dX7_readPhrase_33 ?_
      refine lv_iconst (v := 1) X.1 X.2.1 dX7_readPhrase_36 (by decide) ?_
      refine lv_iadd X.1 X.2.1 dX7_readPhrase_37 ?_
      refine bl_puti X V hv0 fp_X7_32 rfl rfl dX7_readPhrase_38 (fun σ44 H locs e45 V => ?_)
      have hf := bl_let_at e45 hf
      refine lv_goto (tgt := 5) X.1 X.2.1 dX7_readPhrase_41 (by decide) ?_
      exact hk5 σ44 v0 v1 hv0 hf _ _ _ V (lv_sub hl [0, 1] rfl)
theorem l_X7_readPhrase_5 {p : Program} {l : Launch} {e : Env} {s : State} {m : MethodId} {below : List Frame} {meth : Method} {c : Code} {g : bl_Gp} {as : List Value} {out : Unit × bl_St} (X : bl_Cx g p s m as.toArray meth c cX7_readPhrase 5 RX7) (hr : meth.sig.returnType = (Option.none : Option Jvm.ClassFile.FieldType)) (n : Nat) : ∀ (σ : bl_St) (v0 : Nat) (v1 : Int32), bl_sh[v0]? = some (7, 6) → (bl_fx (fun _ _ _ => none) (b_X7_readPhrase_5 ) n) σ v0 v1 = some out → ∀ (H : Heap) (locs : List Loc) (ls : Array Slot), bl_V g s σ H locs → lv_has ls 5 [(0, .ref (bl_ad g v0)), (1, .int v1)] → W p l e (bl_rm 6 132) s m as.toArray below meth c H locs 0 0 (bl_Qv below g s as out) (F0 m 5 ls []) := by
  induction n with
  | zero =>
    intro σ v0 v1 hv0 hf H locs ls V hl
    cases hf
  | succ n ih => exact w_X7_readPhrase_5 X hr  _ ih
set_option maxHeartbeats 4000000 in
set_option maxRecDepth 100000 in
theorem t_X7_readPhrase (l : Launch) (g : bl_Gp) (σ : bl_St) (a0 : Nat) (o : Unit × bl_St) (ha0 : bl_sh[a0]? = some (7, 6)) (hf : f_X7_readPhrase σ a0 = some o) : bl_Cv l g yX7_readPhrase cX7_readPhrase 5 (Option.none : Option Jvm.ClassFile.FieldType) (bl_rm 6 132) [.ref (bl_ad g a0)] σ o := by
  refine bl_met (by decide) (Nat.le_of_ble_eq_true rfl) (fun p e s m below meth c ls X hr V hl => ?_)
  have hl : lv_has ls 5 [(0, .ref (bl_ad g a0))] := hl
  unfold f_X7_readPhrase at hf
  refine lv_aload_n X.1 X.2.1 dX7_readPhrase_0 rfl (lv_at hl 0 rfl) ?_
  refine bl_geti X V ha0 fl_X7_32 dX7_readPhrase_1 ?_
  refine lv_topi (fun x46 e47 => ?_)
  have hf := bl_let_at e47 hf
  refine lv_istore_n (lv' := [(1, .int x46), (0, .ref (bl_ad g a0))]) X.1 X.2.1 dX7_readPhrase_4 rfl hl (by decide) rfl (fun ls hl => ?_)
  exact l_X7_readPhrase_5 X hr  bl_fu σ a0 x46 ha0 hf _ _ _ V (lv_sub hl [1, 0] rfl)
set_option maxHeartbeats 4000000 in
set_option maxRecDepth 100000 in
theorem t_X8_clear (l : Launch) (g : bl_Gp) (σ : bl_St) (a0 : Nat) (o : Unit × bl_St) (ha0 : bl_sh[a0]? = some (8, 5)) (hf : f_X8_clear σ a0 = some o) : bl_Cv l g yX8_clear cX8_clear 1 (Option.none : Option Jvm.ClassFile.FieldType) (bl_rm 1 18) [.ref (bl_ad g a0)] σ o := by
  refine bl_met (by decide) (Nat.le_of_ble_eq_true rfl) (fun p e s m below meth c ls X hr V hl => ?_)
  have hl : lv_has ls 1 [(0, .ref (bl_ad g a0))] := hl
  unfold f_X8_clear at hf
  refine lv_aload_n X.1 X.2.1 dX8_clear_0 rfl (lv_at hl 0 rfl) ?_
  refine lv_iconst (v := 0) X.1 X.2.1 dX8_clear_1 (by decide) ?_
  refine bl_puti X V ha0 fp_X8_30 rfl rfl dX8_clear_2 (fun σ1 H locs e2 V => ?_)
  have hf := bl_let_at e2 hf
  refine lv_aload_n X.1 X.2.1 dX8_clear_5 rfl (lv_at hl 0 rfl) ?_
  refine lv_iconst (v := 0) X.1 X.2.1 dX8_clear_6 (by decide) ?_
  refine bl_puti X V ha0 fp_X8_34 rfl rfl dX8_clear_7 (fun σ3 H locs e4 V => ?_)
  have hf := bl_let_at e4 hf
  refine bl_sgetN X V X.2.2.2.2.2.2.1.1.2.2.2.2 (by decide +kernel) dX8_clear_10 (fun t5 h6 => ?_)
  refine lv_iconst (v := 0) X.1 X.2.1 dX8_clear_13 (by decide) ?_
  refine lv_aload_n X.1 X.2.1 dX8_clear_14 rfl (lv_at hl 0 rfl) ?_
  refine bl_getr X V ha0 fl_X8_18 rfl dX8_clear_15 (fun h7 => ?_)
  refine lv_iconst (v := 0) X.1 X.2.1 dX8_clear_18 (by decide) ?_
  refine lv_iconst (v := 3) X.1 X.2.1 dX8_clear_19 (by decide) ?_
  refine bl_copys X V hl.1 ac_X8_24 h6 h7 (by decide +kernel) (Nat.le_of_ble_eq_true rfl) (Nat.le_of_ble_eq_true rfl) dX8_clear_20 (fun σ8 H locs e9 V => ?_)
  have hf := bl_let_at e9 hf
  exact bl_retv X V hr hf dX8_clear_23
set_option maxHeartbeats 4000000 in
set_option maxRecDepth 100000 in
theorem w_X7_parse_63 {p : Program} {l : Launch} {e : Env} {s : State} {m : MethodId} {below : List Frame} {meth : Method} {c : Code} {g : bl_Gp} {as : List Value} {out : Int32 × bl_St} (X : bl_Cx g p s m as.toArray meth c cX7_parse 2 RX7) (hr : meth.sig.returnType = (Option.some Jvm.ClassFile.FieldType.int)) : ∀ (σ : bl_St) (v0 : Nat), bl_sh[v0]? = some (7, 6) → (b_X7_parse_63 ) σ v0 = some out → ∀ (H : Heap) (locs : List Loc) (ls : Array Slot), bl_V g s σ H locs → lv_has ls 2 [(0, .ref (bl_ad g v0))] → W p l e (bl_rm 7 156) s m as.toArray below meth c H locs 0 0 (bl_Qi below g s as out) (F0 m 63 ls []) := by
  intro σ v0 hv0 hf H locs ls V hl
  unfold b_X7_parse_63 at hf
  refine lv_aload_n X.1 X.2.1 dX7_parse_63 rfl (lv_at hl 0 rfl) ?_
  refine bl_geti X V hv0 fl_X7_35 dX7_parse_64 ?_
  refine lv_iconst (v := (-1)) X.1 X.2.1 dX7_parse_67 (by decide) ?_
  refine lv_icmp_ne (tgt := 86) X.1 X.2.1 dX7_parse_68 (by decide) (fun c1 => ?_) (fun c1 => ?_)
  · have hf := bl_ifn c1 hf
    refine lv_aload_n X.1 X.2.1 dX7_parse_86 rfl (lv_at hl 0 rfl) ?_
    refine bl_geti X V hv0 fl_X7_35 dX7_parse_87 ?_
    exact bl_reti X V hr hf dX7_parse_90
  · have hf := bl_ifp c1 hf
    refine lv_aload_n X.1 X.2.1 dX7_parse_71 rfl (lv_at hl 0 rfl) ?_
    obtain ⟨r2, σ3, h4, hf⟩ := bl_bd_at hf
    refine bl_cVi (As := []) X V hl.1 hv0 rfl ml_X7_44 mV_X7_isWhole (t_X7_isWhole l g σ v0 _ hv0 h4) rfl rfl ⟨Nat.le_of_ble_eq_true rfl, Nat.le_of_ble_eq_true rfl⟩ rfl rfl (Nat.le_of_ble_eq_true rfl) ⟨Nat.zero_le _, Nat.zero_le _⟩ dX7_parse_72 (fun H locs V => ?_)
    refine lv_if_ne (tgt := 86) X.1 X.2.1 dX7_parse_75 (by decide) (fun c5 => ?_) (fun c5 => ?_)
    · have hf := bl_ifn c5 hf
      refine lv_aload_n X.1 X.2.1 dX7_parse_86 rfl (lv_at hl 0 rfl) ?_
      refine bl_geti X V hv0 fl_X7_35 dX7_parse_87 ?_
      exact bl_reti X V hr hf dX7_parse_90
    · have hf := bl_ifp c5 hf
      refine lv_aload_n X.1 X.2.1 dX7_parse_78 rfl (lv_at hl 0 rfl) ?_
      refine lv_aload_n X.1 X.2.1 dX7_parse_79 rfl (lv_at hl 0 rfl) ?_
      refine bl_geti X V hv0 fl_X7_25 dX7_parse_80 ?_
      refine bl_puti X V hv0 fp_X7_35 rfl rfl dX7_parse_83 (fun σ6 H locs e7 V => ?_)
      have hf := bl_let_at e7 hf
      refine lv_aload_n X.1 X.2.1 dX7_parse_86 rfl (lv_at hl 0 rfl) ?_
      refine bl_geti X V hv0 fl_X7_35 dX7_parse_87 ?_
      exact bl_reti X V hr hf dX7_parse_90
set_option maxHeartbeats 4000000 in
set_option maxRecDepth 100000 in
theorem w_X7_parse_23 {p : Program} {l : Launch} {e : Env} {s : State} {m : MethodId} {below : List Frame} {meth : Method} {c : Code} {g : bl_Gp} {as : List Value} {out : Int32 × bl_St} (X : bl_Cx g p s m as.toArray meth c cX7_parse 2 RX7) (hr : meth.sig.returnType = (Option.some Jvm.ClassFile.FieldType.int)) (k23 : bl_St → Nat → Int32 → Option (Int32 × bl_St)) (hk23 : ∀ (σ : bl_St) (v0 : Nat) (v1 : Int32), bl_sh[v0]? = some (7, 6) → k23 σ v0 v1 = some out → ∀ (H : Heap) (locs : List Loc) (ls : Array Slot), bl_V g s σ H locs → lv_has ls 2 [(0, .ref (bl_ad g v0)), (1, .int v1)] → W p l e (bl_rm 7 156) s m as.toArray below meth c H locs 0 0 (bl_Qi below g s as out) (F0 m 23 ls [])) : ∀ (σ : bl_St) (v0 : Nat) (v1 : Int32), bl_sh[v0]? = some (7, 6) → (b_X7_parse_23 k23) σ v0 v1 = some out → ∀ (H : Heap) (locs : List Loc) (ls : Array Slot), bl_V g s σ H locs → lv_has ls 2 [(0, .ref (bl_ad g v0)), (1, .int v1)] → W p l e (bl_rm 7 156) s m as.toArray below meth c H locs 0 0 (bl_Qi below g s as out) (F0 m 23 ls []) := by
  intro σ v0 v1 hv0 hf H locs ls V hl
  unfold b_X7_parse_23 at hf
  refine lv_iload_n X.1 X.2.1 dX7_parse_23 rfl (lv_at hl 1 rfl) ?_
  refine lv_sipush (v := 400) X.1 X.2.1 dX7_parse_24 (by decide) ?_
  refine lv_icmp_ge (tgt := 63) X.1 X.2.1 dX7_parse_27 (by decide) (fun c8 => ?_) (fun c8 => ?_)
  · have hf := bl_ifp c8 hf
    exact w_X7_parse_63 X hr  σ v0 hv0 hf _ _ _ V (lv_sub hl [0] rfl)
  · have hf := bl_ifn c8 hf
    refine lv_aload_n X.1 X.2.1 dX7_parse_30 rfl (lv_at hl 0 rfl) ?_
    refine bl_geti X V hv0 fl_X7_32 dX7_parse_31 ?_
    refine lv_aload_n X.1 X.2.1 dX7_parse_34 rfl (lv_at hl 0 rfl) ?_
    refine bl_geti X V hv0 fl_X7_25 dX7_parse_35 ?_
    refine lv_icmp_ge (tgt := 63) X.1 X.2.1 dX7_parse_38 (by decide) (fun c9 => ?_) (fun c9 => ?_)
    · have hf := bl_ifp c9 hf
      exact w_X7_parse_63 X hr  σ v0 hv0 hf _ _ _ V (lv_sub hl [0] rfl)
    · have hf := bl_ifn c9 hf
      refine lv_aload_n X.1 X.2.1 dX7_parse_41 rfl (lv_at hl 0 rfl) ?_
      refine bl_geti X V hv0 fl_X7_35 dX7_parse_42 ?_
      refine lv_iconst (v := (-1)) X.1 X.2.1 dX7_parse_45 (by decide) ?_
      refine lv_icmp_ne (tgt := 63) X.1 X.2.1 dX7_parse_46 (by decide) (fun c10 => ?_) (fun c10 => ?_)
      · have hf := bl_ifn c10 hf
        exact w_X7_parse_63 X hr  σ v0 hv0 hf _ _ _ V (lv_sub hl [0] rfl)
      · have hf := bl_ifp c10 hf
        refine lv_aload_n X.1 X.2.1 dX7_parse_49 rfl (lv_at hl 0 rfl) ?_
        obtain ⟨r11, σ12, h13, hf⟩ := bl_bd_at hf
        refine bl_cVv (As := []) X V hl.1 hv0 rfl ml_X7_41 mV_X7_readPhrase (t_X7_readPhrase l g σ v0 _ hv0 h13) rfl rfl ⟨Nat.le_of_ble_eq_true rfl, Nat.le_of_ble_eq_true rfl⟩ rfl rfl (Nat.le_of_ble_eq_true rfl) ⟨Nat.zero_le _, Nat.zero_le _⟩ dX7_parse_50 (fun H locs V => ?_)
        refine lv_aload_n X.1 X.2.1 dX7_parse_53 rfl (lv_at hl 0 rfl) ?_
        obtain ⟨r14, σ15, h16, hf⟩ := bl_bd_at hf
        refine bl_cVv (As := []) X V hl.1 hv0 rfl ml_X7_38 mV_X7_skipBlanks (t_X7_skipBlanks l g σ12 v0 _ hv0 h16) rfl rfl ⟨Nat.le_of_ble_eq_true rfl, Nat.le_of_ble_eq_true rfl⟩ rfl rfl (Nat.le_of_ble_eq_true rfl) ⟨Nat.zero_le _, Nat.zero_le _⟩ dX7_parse_54 (fun H locs V => ?_)
        obtain ⟨x17, e18⟩ : ∃ z : Int32, z = v1 + 1 := ⟨_, rfl⟩
        have hf := bl_let_at e18 hf
        refine lv_iinc (v := x17) (lv' := [(1, .int x17), (0, .ref (bl_ad g v0))]) X.1 X.2.1 dX7_parse_57 hl (k := 1) rfl (by rw [e18]; rfl) (by decide) rfl (fun ls hl => ?_)
        refine lv_goto (tgt := 23) X.1 X.2.1 dX7_parse_60 (by decide) ?_
        exact hk23 σ15 v0 x17 hv0 hf _ _ _ V (lv_sub hl [1, 0] rfl)
theorem l_X7_parse_23 {p : Program} {l : Launch} {e : Env} {s : State} {m : MethodId} {below : List Frame} {meth : Method} {c : Code} {g : bl_Gp} {as : List Value} {out : Int32 × bl_St} (X : bl_Cx g p s m as.toArray meth c cX7_parse 2 RX7) (hr : meth.sig.returnType = (Option.some Jvm.ClassFile.FieldType.int)) (n : Nat) : ∀ (σ : bl_St) (v0 : Nat) (v1 : Int32), bl_sh[v0]? = some (7, 6) → (bl_fx (fun _ _ _ => none) (b_X7_parse_23 ) n) σ v0 v1 = some out → ∀ (H : Heap) (locs : List Loc) (ls : Array Slot), bl_V g s σ H locs → lv_has ls 2 [(0, .ref (bl_ad g v0)), (1, .int v1)] → W p l e (bl_rm 7 156) s m as.toArray below meth c H locs 0 0 (bl_Qi below g s as out) (F0 m 23 ls []) := by
  induction n with
  | zero =>
    intro σ v0 v1 hv0 hf H locs ls V hl
    cases hf
  | succ n ih => exact w_X7_parse_23 X hr  _ ih
set_option maxHeartbeats 4000000 in
set_option maxRecDepth 100000 in
theorem t_X7_parse (l : Launch) (g : bl_Gp) (σ : bl_St) (a0 : Nat) (o : Int32 × bl_St) (ha0 : bl_sh[a0]? = some (7, 6)) (hf : f_X7_parse σ a0 = some o) : bl_Ci l g yX7_parse cX7_parse 2 (Option.some Jvm.ClassFile.FieldType.int) (bl_rm 7 156) [.ref (bl_ad g a0)] σ o := by
  refine bl_met (by decide) (Nat.le_of_ble_eq_true rfl) (fun p e s m below meth c ls X hr V hl => ?_)
  have hl : lv_has ls 2 [(0, .ref (bl_ad g a0))] := hl
  unfold f_X7_parse at hf
  refine lv_aload_n X.1 X.2.1 dX7_parse_0 rfl (lv_at hl 0 rfl) ?_
  refine bl_getr X V ha0 fl_X7_21 rfl dX7_parse_1 (fun h19 => ?_)
  obtain ⟨r20, σ21, h22, hf⟩ := bl_bd_at hf
  refine bl_cVv (As := []) X V hl.1 h19 rfl ml_X7_29 mV_X8_clear (t_X8_clear l g σ (bl_R σ a0 2) _ h19 h22) rfl rfl ⟨Nat.le_of_ble_eq_true rfl, Nat.le_of_ble_eq_true rfl⟩ rfl rfl (Nat.le_of_ble_eq_true rfl) ⟨Nat.zero_le _, Nat.zero_le _⟩ dX7_parse_4 (fun H locs V => ?_)
  refine lv_aload_n X.1 X.2.1 dX7_parse_7 rfl (lv_at hl 0 rfl) ?_
  refine lv_iconst (v := 0) X.1 X.2.1 dX7_parse_8 (by decide) ?_
  refine bl_puti X V ha0 fp_X7_32 rfl rfl dX7_parse_9 (fun σ23 H locs e24 V => ?_)
  have hf := bl_let_at e24 hf
  refine lv_aload_n X.1 X.2.1 dX7_parse_12 rfl (lv_at hl 0 rfl) ?_
  refine lv_iconst (v := (-1)) X.1 X.2.1 dX7_parse_13 (by decide) ?_
  refine bl_puti X V ha0 fp_X7_35 rfl rfl dX7_parse_14 (fun σ25 H locs e26 V => ?_)
  have hf := bl_let_at e26 hf
  refine lv_aload_n X.1 X.2.1 dX7_parse_17 rfl (lv_at hl 0 rfl) ?_
  obtain ⟨r27, σ28, h29, hf⟩ := bl_bd_at hf
  refine bl_cVv (As := []) X V hl.1 ha0 rfl ml_X7_38 mV_X7_skipBlanks (t_X7_skipBlanks l g σ25 a0 _ ha0 h29) rfl rfl ⟨Nat.le_of_ble_eq_true rfl, Nat.le_of_ble_eq_true rfl⟩ rfl rfl (Nat.le_of_ble_eq_true rfl) ⟨Nat.zero_le _, Nat.zero_le _⟩ dX7_parse_18 (fun H locs V => ?_)
  refine lv_iconst (v := 0) X.1 X.2.1 dX7_parse_21 (by decide) ?_
  refine lv_istore_n (lv' := [(1, .int 0), (0, .ref (bl_ad g a0))]) X.1 X.2.1 dX7_parse_22 rfl hl (by decide) rfl (fun ls hl => ?_)
  exact l_X7_parse_23 X hr  bl_fu σ28 a0 0 ha0 hf _ _ _ V (lv_sub hl [1, 0] rfl)
set_option maxHeartbeats 4000000 in
set_option maxRecDepth 100000 in
theorem t_X8_hasSort (l : Launch) (g : bl_Gp) (σ : bl_St) (a0 : Nat) (a1 : Int32) (o : Int32 × bl_St) (ha0 : bl_sh[a0]? = some (8, 5)) (hf : f_X8_hasSort σ a0 a1 = some o) : bl_Ci l g yX8_hasSort cX8_hasSort 2 (Option.some Jvm.ClassFile.FieldType.boolean) (bl_rm 0 0) [.ref (bl_ad g a0), .int a1] σ o := by
  refine bl_met (by decide) (Nat.le_of_ble_eq_true rfl) (fun p e s m below meth c ls X hr V hl => ?_)
  have hl : lv_has ls 2 [(0, .ref (bl_ad g a0)), (1, .int a1)] := hl
  unfold f_X8_hasSort at hf
  refine lv_iload_n X.1 X.2.1 dX8_hasSort_0 rfl (lv_at hl 1 rfl) ?_
  refine lv_if_lt (tgt := 16) X.1 X.2.1 dX8_hasSort_1 (by decide) (fun c1 => ?_) (fun c1 => ?_)
  · have hf := bl_ifp c1 hf
    refine lv_iconst (v := 0) X.1 X.2.1 dX8_hasSort_16 (by decide) ?_
    exact bl_retz X V hr (by decide) hf dX8_hasSort_17
  · have hf := bl_ifn c1 hf
    refine lv_iload_n X.1 X.2.1 dX8_hasSort_4 rfl (lv_at hl 1 rfl) ?_
    refine lv_aload_n X.1 X.2.1 dX8_hasSort_5 rfl (lv_at hl 0 rfl) ?_
    refine bl_geti X V ha0 fl_X8_34 dX8_hasSort_6 ?_
    refine lv_icmp_ge (tgt := 16) X.1 X.2.1 dX8_hasSort_9 (by decide) (fun c2 => ?_) (fun c2 => ?_)
    · have hf := bl_ifp c2 hf
      refine lv_iconst (v := 0) X.1 X.2.1 dX8_hasSort_16 (by decide) ?_
      exact bl_retz X V hr (by decide) hf dX8_hasSort_17
    · have hf := bl_ifn c2 hf
      refine lv_iconst (v := 1) X.1 X.2.1 dX8_hasSort_12 (by decide) ?_
      refine lv_goto (tgt := 17) X.1 X.2.1 dX8_hasSort_13 (by decide) ?_
      exact bl_retz X V hr (by decide) hf dX8_hasSort_17
set_option maxHeartbeats 4000000 in
set_option maxRecDepth 100000 in
theorem t_X8_setPart (l : Launch) (g : bl_Gp) (σ : bl_St) (a0 : Nat) (a1 : Int32) (a2 : Int32) (a3 : Int32) (o : Unit × bl_St) (ha0 : bl_sh[a0]? = some (8, 5)) (hf : f_X8_setPart σ a0 a1 a2 a3 = some o) : bl_Cv l g yX8_setPart cX8_setPart 4 (Option.none : Option Jvm.ClassFile.FieldType) (bl_rm 0 0) [.ref (bl_ad g a0), .int a1, .int a2, .int a3] σ o := by
  refine bl_met (by decide) (Nat.le_of_ble_eq_true rfl) (fun p e s m below meth c ls X hr V hl => ?_)
  have hl : lv_has ls 4 [(0, .ref (bl_ad g a0)), (1, .int a1), (2, .int a2), (3, .int a3)] := hl
  unfold f_X8_setPart at hf
  refine lv_aload_n X.1 X.2.1 dX8_setPart_0 rfl (lv_at hl 0 rfl) ?_
  refine bl_getr X V ha0 fl_X8_9 rfl dX8_setPart_1 (fun h1 => ?_)
  refine lv_iload_n X.1 X.2.1 dX8_setPart_4 rfl (lv_at hl 1 rfl) ?_
  refine lv_iconst (v := 5) X.1 X.2.1 dX8_setPart_5 (by decide) ?_
  refine lv_imul X.1 X.2.1 dX8_setPart_6 ?_
  refine lv_iload_n X.1 X.2.1 dX8_setPart_7 rfl (lv_at hl 2 rfl) ?_
  refine lv_iadd X.1 X.2.1 dX8_setPart_8 ?_
  refine lv_iload_n X.1 X.2.1 dX8_setPart_9 rfl (lv_at hl 3 rfl) ?_
  obtain ⟨h2, hf⟩ := bl_gd_at hf
  refine bl_iast (k := (Int32.toNatClampNeg ((a1 * 5) + a2))) X V h1 h2 rfl dX8_setPart_10 (fun σ3 H locs e4 V => ?_)
  have hf := bl_let_at e4 hf
  exact bl_retv X V hr hf dX8_setPart_11
set_option maxHeartbeats 4000000 in
set_option maxRecDepth 100000 in
theorem w_X8_removeSort_4 {p : Program} {l : Launch} {e : Env} {s : State} {m : MethodId} {below : List Frame} {meth : Method} {c : Code} {g : bl_Gp} {as : List Value} {out : Unit × bl_St} (X : bl_Cx g p s m as.toArray meth c cX8_removeSort 3 RX8) (hr : meth.sig.returnType = (Option.none : Option Jvm.ClassFile.FieldType)) (k4 : bl_St → Nat → Int32 → Option (Unit × bl_St)) (hk4 : ∀ (σ : bl_St) (v0 : Nat) (v2 : Int32), bl_sh[v0]? = some (8, 5) → k4 σ v0 v2 = some out → ∀ (H : Heap) (locs : List Loc) (ls : Array Slot), bl_V g s σ H locs → lv_has ls 3 [(0, .ref (bl_ad g v0)), (2, .int v2)] → W p l e (bl_rm 1 23) s m as.toArray below meth c H locs 0 0 (bl_Qv below g s as out) (F0 m 4 ls [])) : ∀ (σ : bl_St) (v0 : Nat) (v2 : Int32), bl_sh[v0]? = some (8, 5) → (b_X8_removeSort_4 k4) σ v0 v2 = some out → ∀ (H : Heap) (locs : List Loc) (ls : Array Slot), bl_V g s σ H locs → lv_has ls 3 [(0, .ref (bl_ad g v0)), (2, .int v2)] → W p l e (bl_rm 1 23) s m as.toArray below meth c H locs 0 0 (bl_Qv below g s as out) (F0 m 4 ls []) := by
  intro σ v0 v2 hv0 hf H locs ls V hl
  unfold b_X8_removeSort_4 at hf
  refine lv_iload_n X.1 X.2.1 dX8_removeSort_4 rfl (lv_at hl 1 rfl) ?_
  refine lv_aload_n X.1 X.2.1 dX8_removeSort_5 rfl (lv_at hl 0 rfl) ?_
  refine bl_geti X V hv0 fl_X8_34 dX8_removeSort_6 ?_
  refine lv_icmp_ge (tgt := 46) X.1 X.2.1 dX8_removeSort_9 (by decide) (fun c1 => ?_) (fun c1 => ?_)
  · have hf := bl_ifp c1 hf
    refine lv_aload_n X.1 X.2.1 dX8_removeSort_46 rfl (lv_at hl 0 rfl) ?_
    refine lv_dup X.1 X.2.1 dX8_removeSort_47 rfl ?_
    refine bl_geti X V hv0 fl_X8_34 dX8_removeSort_48 ?_
    refine lv_iconst (v := 1) X.1 X.2.1 dX8_removeSort_51 (by decide) ?_
    refine lv_isub X.1 X.2.1 dX8_removeSort_52 ?_
    refine bl_puti X V hv0 fp_X8_34 rfl rfl dX8_removeSort_53 (fun σ2 H locs e3 V => ?_)
    have hf := bl_let_at e3 hf
    exact bl_retv X V hr hf dX8_removeSort_56
  · have hf := bl_ifn c1 hf
    refine lv_aload_n X.1 X.2.1 dX8_removeSort_12 rfl (lv_at hl 0 rfl) ?_
    refine lv_iload_n X.1 X.2.1 dX8_removeSort_13 rfl (lv_at hl 1 rfl) ?_
    refine lv_iconst (v := 1) X.1 X.2.1 dX8_removeSort_14 (by decide) ?_
    refine lv_isub X.1 X.2.1 dX8_removeSort_15 ?_
    refine lv_iconst (v := 0) X.1 X.2.1 dX8_removeSort_16 (by decide) ?_
    refine lv_aload_n X.1 X.2.1 dX8_removeSort_17 rfl (lv_at hl 0 rfl) ?_
    refine lv_iload_n X.1 X.2.1 dX8_removeSort_18 rfl (lv_at hl 1 rfl) ?_
    refine lv_iconst (v := 0) X.1 X.2.1 dX8_removeSort_19 (by decide) ?_
    obtain ⟨r4, σ5, h6, hf⟩ := bl_bd_at hf
    refine bl_cVi (As := [.int v2, .int 0]) X V hl.1 hv0 rfl ml_X8_47 mV_X8_sortPart (t_X8_sortPart l g σ v0 v2 0 _ hv0 h6) rfl rfl ⟨Nat.le_of_ble_eq_true rfl, Nat.le_of_ble_eq_true rfl⟩ rfl rfl (Nat.le_of_ble_eq_true rfl) ⟨Nat.zero_le _, Nat.zero_le _⟩ dX8_removeSort_20 (fun H locs V => ?_)
    obtain ⟨r7, σ8, h9, hf⟩ := bl_bd_at hf
    refine bl_cVv (As := [.int (v2 - 1), .int 0, .int r4]) X V hl.1 hv0 rfl ml_X8_43 mV_X8_setSortPart (t_X8_setSortPart l g σ5 v0 (v2 - 1) 0 r4 _ hv0 h9) rfl rfl ⟨Nat.le_of_ble_eq_true rfl, Nat.le_of_ble_eq_true rfl⟩ rfl rfl (Nat.le_of_ble_eq_true rfl) ⟨Nat.zero_le _, Nat.zero_le _⟩ dX8_removeSort_23 (fun H locs V => ?_)
    refine lv_aload_n X.1 X.2.1 dX8_removeSort_26 rfl (lv_at hl 0 rfl) ?_
    refine lv_iload_n X.1 X.2.1 dX8_removeSort_27 rfl (lv_at hl 1 rfl) ?_
    refine lv_iconst (v := 1) X.1 X.2.1 dX8_removeSort_28 (by decide) ?_
    refine lv_isub X.1 X.2.1 dX8_removeSort_29 ?_
    refine lv_iconst (v := 1) X.1 X.2.1 dX8_removeSort_30 (by decide) ?_
    refine lv_aload_n X.1 X.2.1 dX8_removeSort_31 rfl (lv_at hl 0 rfl) ?_
    refine lv_iload_n X.1 X.2.1 dX8_removeSort_32 rfl (lv_at hl 1 rfl) ?_
    refine lv_iconst (v := 1) X.1 X.2.1 dX8_removeSort_33 (by decide) ?_
    obtain ⟨r10, σ11, h12, hf⟩ := bl_bd_at hf
    refine bl_cVi (As := [.int v2, .int 1]) X V hl.1 hv0 rfl ml_X8_47 mV_X8_sortPart (t_X8_sortPart l g σ8 v0 v2 1 _ hv0 h12) rfl rfl ⟨Nat.le_of_ble_eq_true rfl, Nat.le_of_ble_eq_true rfl⟩ rfl rfl (Nat.le_of_ble_eq_true rfl) ⟨Nat.zero_le _, Nat.zero_le _⟩ dX8_removeSort_34 (fun H locs V => ?_)
    obtain ⟨r13, σ14, h15, hf⟩ := bl_bd_at hf
    refine bl_cVv (As := [.int (v2 - 1), .int 1, .int r10]) X V hl.1 hv0 rfl ml_X8_43 mV_X8_setSortPart (t_X8_setSortPart l g σ11 v0 (v2 - 1) 1 r10 _ hv0 h15) rfl rfl ⟨Nat.le_of_ble_eq_true rfl, Nat.le_of_ble_eq_true rfl⟩ rfl rfl (Nat.le_of_ble_eq_true rfl) ⟨Nat.zero_le _, Nat.zero_le _⟩ dX8_removeSort_37 (fun H locs V => ?_)
    obtain ⟨x16, e17⟩ : ∃ z : Int32, z = v2 + 1 := ⟨_, rfl⟩
    have hf := bl_let_at e17 hf
    refine lv_iinc (v := x16) (lv' := [(2, .int x16), (0, .ref (bl_ad g v0))]) X.1 X.2.1 dX8_removeSort_40 hl (k := 1) rfl (by rw [e17]; rfl) (by decide) rfl (fun ls hl => ?_)
    refine lv_goto (tgt := 4) X.1 X.2.1 dX8_removeSort_43 (by decide) ?_
    exact hk4 σ14 v0 x16 hv0 hf _ _ _ V (lv_sub hl [1, 0] rfl)
theorem l_X8_removeSort_4 {p : Program} {l : Launch} {e : Env} {s : State} {m : MethodId} {below : List Frame} {meth : Method} {c : Code} {g : bl_Gp} {as : List Value} {out : Unit × bl_St} (X : bl_Cx g p s m as.toArray meth c cX8_removeSort 3 RX8) (hr : meth.sig.returnType = (Option.none : Option Jvm.ClassFile.FieldType)) (n : Nat) : ∀ (σ : bl_St) (v0 : Nat) (v2 : Int32), bl_sh[v0]? = some (8, 5) → (bl_fx (fun _ _ _ => none) (b_X8_removeSort_4 ) n) σ v0 v2 = some out → ∀ (H : Heap) (locs : List Loc) (ls : Array Slot), bl_V g s σ H locs → lv_has ls 3 [(0, .ref (bl_ad g v0)), (2, .int v2)] → W p l e (bl_rm 1 23) s m as.toArray below meth c H locs 0 0 (bl_Qv below g s as out) (F0 m 4 ls []) := by
  induction n with
  | zero =>
    intro σ v0 v2 hv0 hf H locs ls V hl
    cases hf
  | succ n ih => exact w_X8_removeSort_4 X hr  _ ih
set_option maxHeartbeats 4000000 in
set_option maxRecDepth 100000 in
theorem t_X8_removeSort (l : Launch) (g : bl_Gp) (σ : bl_St) (a0 : Nat) (a1 : Int32) (o : Unit × bl_St) (ha0 : bl_sh[a0]? = some (8, 5)) (hf : f_X8_removeSort σ a0 a1 = some o) : bl_Cv l g yX8_removeSort cX8_removeSort 3 (Option.none : Option Jvm.ClassFile.FieldType) (bl_rm 1 23) [.ref (bl_ad g a0), .int a1] σ o := by
  refine bl_met (by decide) (Nat.le_of_ble_eq_true rfl) (fun p e s m below meth c ls X hr V hl => ?_)
  have hl : lv_has ls 3 [(0, .ref (bl_ad g a0)), (1, .int a1)] := hl
  unfold f_X8_removeSort at hf
  refine lv_iload_n X.1 X.2.1 dX8_removeSort_0 rfl (lv_at hl 1 rfl) ?_
  refine lv_iconst (v := 1) X.1 X.2.1 dX8_removeSort_1 (by decide) ?_
  refine lv_iadd X.1 X.2.1 dX8_removeSort_2 ?_
  refine lv_topi (fun x18 e19 => ?_)
  have hf := bl_let_at e19 hf
  refine lv_istore_n (lv' := [(2, .int x18), (0, .ref (bl_ad g a0)), (1, .int a1)]) X.1 X.2.1 dX8_removeSort_3 rfl hl (by decide) rfl (fun ls hl => ?_)
  exact l_X8_removeSort_4 X hr  bl_fu σ a0 x18 ha0 hf _ _ _ V (lv_sub hl [1, 0] rfl)
set_option maxHeartbeats 4000000 in
set_option maxRecDepth 100000 in
theorem t_X9_feed (l : Launch) (g : bl_Gp) (σ : bl_St) (a0 : Nat) (a1 : Int32) (a2 : Int32) (a3 : Int32) (a4 : Int32) (a5 : Int32) (o : Int32 × bl_St) (ha0 : bl_sh[a0]? = some (9, 13)) (hf : f_X9_feed σ a0 a1 a2 a3 a4 a5 = some o) : bl_Ci l g yX9_feed cX9_feed 6 (Option.some Jvm.ClassFile.FieldType.int) (bl_rm 1 22) [.ref (bl_ad g a0), .int a1, .int a2, .int a3, .int a4, .int a5] σ o := by
  refine bl_met (by decide) (Nat.le_of_ble_eq_true rfl) (fun p e s m below meth c ls X hr V hl => ?_)
  have hl : lv_has ls 6 [(0, .ref (bl_ad g a0)), (1, .int a1), (2, .int a2), (3, .int a3), (4, .int a4), (5, .int a5)] := hl
  unfold f_X9_feed at hf
  refine lv_aload_n X.1 X.2.1 dX9_feed_0 rfl (lv_at hl 0 rfl) ?_
  refine bl_getr X V ha0 fl_X9_10 rfl dX9_feed_1 (fun h1 => ?_)
  refine bl_geti X V h1 fl_X9_83 dX9_feed_4 ?_
  refine lv_bipush (v := 20) X.1 X.2.1 dX9_feed_7 (by decide) ?_
  refine lv_iadd X.1 X.2.1 dX9_feed_9 ?_
  refine lv_sipush (v := 400) X.1 X.2.1 dX9_feed_10 (by decide) ?_
  refine lv_icmp_le (tgt := 18) X.1 X.2.1 dX9_feed_13 (by decide) (fun c2 => ?_) (fun c2 => ?_)
  · have hf := bl_ifp c2 hf
    refine lv_aload_n X.1 X.2.1 dX9_feed_18 rfl (lv_at hl 0 rfl) ?_
    refine bl_getr X V ha0 fl_X9_10 rfl dX9_feed_19 (fun h3 => ?_)
    refine lv_iload_n X.1 X.2.1 dX9_feed_22 rfl (lv_at hl 1 rfl) ?_
    obtain ⟨r4, σ5, h6, hf⟩ := bl_bd_at hf
    refine bl_cVv (As := [.int a1]) X V hl.1 h3 rfl ml_X9_87 mV_X7_append (t_X7_append l g σ (bl_R σ a0 0) a1 _ h3 h6) rfl rfl ⟨Nat.le_of_ble_eq_true rfl, Nat.le_of_ble_eq_true rfl⟩ rfl rfl (Nat.le_of_ble_eq_true rfl) ⟨Nat.zero_le _, Nat.zero_le _⟩ dX9_feed_23 (fun H locs V => ?_)
    refine lv_aload_n X.1 X.2.1 dX9_feed_26 rfl (lv_at hl 0 rfl) ?_
    refine bl_getr X V ha0 fl_X9_10 rfl dX9_feed_27 (fun h7 => ?_)
    refine lv_iload_n X.1 X.2.1 dX9_feed_30 rfl (lv_at hl 2 rfl) ?_
    obtain ⟨r8, σ9, h10, hf⟩ := bl_bd_at hf
    refine bl_cVv (As := [.int a2]) X V hl.1 h7 rfl ml_X9_87 mV_X7_append (t_X7_append l g σ5 (bl_R σ5 a0 0) a2 _ h7 h10) rfl rfl ⟨Nat.le_of_ble_eq_true rfl, Nat.le_of_ble_eq_true rfl⟩ rfl rfl (Nat.le_of_ble_eq_true rfl) ⟨Nat.zero_le _, Nat.zero_le _⟩ dX9_feed_31 (fun H locs V => ?_)
    refine lv_aload_n X.1 X.2.1 dX9_feed_34 rfl (lv_at hl 0 rfl) ?_
    refine bl_getr X V ha0 fl_X9_10 rfl dX9_feed_35 (fun h11 => ?_)
    refine lv_iload_n X.1 X.2.1 dX9_feed_38 rfl (lv_at hl 3 rfl) ?_
    obtain ⟨r12, σ13, h14, hf⟩ := bl_bd_at hf
    refine bl_cVv (As := [.int a3]) X V hl.1 h11 rfl ml_X9_87 mV_X7_append (t_X7_append l g σ9 (bl_R σ9 a0 0) a3 _ h11 h14) rfl rfl ⟨Nat.le_of_ble_eq_true rfl, Nat.le_of_ble_eq_true rfl⟩ rfl rfl (Nat.le_of_ble_eq_true rfl) ⟨Nat.zero_le _, Nat.zero_le _⟩ dX9_feed_39 (fun H locs V => ?_)
    refine lv_aload_n X.1 X.2.1 dX9_feed_42 rfl (lv_at hl 0 rfl) ?_
    refine bl_getr X V ha0 fl_X9_10 rfl dX9_feed_43 (fun h15 => ?_)
    refine lv_iload X.1 X.2.1 dX9_feed_46 (lv_at hl 4 rfl) ?_
    obtain ⟨r16, σ17, h18, hf⟩ := bl_bd_at hf
    refine bl_cVv (As := [.int a4]) X V hl.1 h15 rfl ml_X9_87 mV_X7_append (t_X7_append l g σ13 (bl_R σ13 a0 0) a4 _ h15 h18) rfl rfl ⟨Nat.le_of_ble_eq_true rfl, Nat.le_of_ble_eq_true rfl⟩ rfl rfl (Nat.le_of_ble_eq_true rfl) ⟨Nat.zero_le _, Nat.zero_le _⟩ dX9_feed_48 (fun H locs V => ?_)
    refine lv_aload_n X.1 X.2.1 dX9_feed_51 rfl (lv_at hl 0 rfl) ?_
    refine bl_getr X V ha0 fl_X9_10 rfl dX9_feed_52 (fun h19 => ?_)
    refine lv_iload X.1 X.2.1 dX9_feed_55 (lv_at hl 5 rfl) ?_
    obtain ⟨r20, σ21, h22, hf⟩ := bl_bd_at hf
    refine bl_cVv (As := [.int a5]) X V hl.1 h19 rfl ml_X9_87 mV_X7_append (t_X7_append l g σ17 (bl_R σ17 a0 0) a5 _ h19 h22) rfl rfl ⟨Nat.le_of_ble_eq_true rfl, Nat.le_of_ble_eq_true rfl⟩ rfl rfl (Nat.le_of_ble_eq_true rfl) ⟨Nat.zero_le _, Nat.zero_le _⟩ dX9_feed_57 (fun H locs V => ?_)
    refine lv_aload_n X.1 X.2.1 dX9_feed_60 rfl (lv_at hl 0 rfl) ?_
    refine bl_getr X V ha0 fl_X9_10 rfl dX9_feed_61 (fun h23 => ?_)
    refine bl_geti X V h23 fl_X9_83 dX9_feed_64 ?_
    exact bl_reti X V hr hf dX9_feed_67
  · have hf := bl_ifn c2 hf
    refine lv_iconst (v := (-1)) X.1 X.2.1 dX9_feed_16 (by decide) ?_
    exact bl_reti X V hr hf dX9_feed_17
set_option maxHeartbeats 4000000 in
set_option maxRecDepth 100000 in
theorem t_X9_back (l : Launch) (g : bl_Gp) (σ : bl_St) (a0 : Nat) (a1 : Int32) (o : Int32 × bl_St) (ha0 : bl_sh[a0]? = some (9, 13)) (hf : f_X9_back σ a0 a1 = some o) : bl_Ci l g yX9_back cX9_back 2 (Option.some Jvm.ClassFile.FieldType.int) (bl_rm 0 0) [.ref (bl_ad g a0), .int a1] σ o := by
  refine bl_met (by decide) (Nat.le_of_ble_eq_true rfl) (fun p e s m below meth c ls X hr V hl => ?_)
  have hl : lv_has ls 2 [(0, .ref (bl_ad g a0)), (1, .int a1)] := hl
  unfold f_X9_back at hf
  refine lv_iload_n X.1 X.2.1 dX9_back_0 rfl (lv_at hl 1 rfl) ?_
  refine lv_if_lt (tgt := 15) X.1 X.2.1 dX9_back_1 (by decide) (fun c1 => ?_) (fun c1 => ?_)
  · have hf := bl_ifp c1 hf
    refine lv_iconst (v := (-1)) X.1 X.2.1 dX9_back_15 (by decide) ?_
    exact bl_reti X V hr hf dX9_back_16
  · have hf := bl_ifn c1 hf
    refine lv_iload_n X.1 X.2.1 dX9_back_4 rfl (lv_at hl 1 rfl) ?_
    refine lv_aload_n X.1 X.2.1 dX9_back_5 rfl (lv_at hl 0 rfl) ?_
    refine bl_getr X V ha0 fl_X9_10 rfl dX9_back_6 (fun h2 => ?_)
    refine bl_geti X V h2 fl_X9_83 dX9_back_9 ?_
    refine lv_icmp_le (tgt := 17) X.1 X.2.1 dX9_back_12 (by decide) (fun c3 => ?_) (fun c3 => ?_)
    · have hf := bl_ifp c3 hf
      refine lv_aload_n X.1 X.2.1 dX9_back_17 rfl (lv_at hl 0 rfl) ?_
      refine bl_getr X V ha0 fl_X9_10 rfl dX9_back_18 (fun h4 => ?_)
      refine lv_dup X.1 X.2.1 dX9_back_21 rfl ?_
      refine bl_geti X V h4 fl_X9_83 dX9_back_22 ?_
      refine lv_iload_n X.1 X.2.1 dX9_back_25 rfl (lv_at hl 1 rfl) ?_
      refine lv_isub X.1 X.2.1 dX9_back_26 ?_
      refine bl_puti X V h4 fp_X9_83 rfl rfl dX9_back_27 (fun σ5 H locs e6 V => ?_)
      have hf := bl_let_at e6 hf
      refine lv_aload_n X.1 X.2.1 dX9_back_30 rfl (lv_at hl 0 rfl) ?_
      refine bl_getr X V ha0 fl_X9_10 rfl dX9_back_31 (fun h7 => ?_)
      refine bl_geti X V h7 fl_X9_83 dX9_back_34 ?_
      exact bl_reti X V hr hf dX9_back_37
    · have hf := bl_ifn c3 hf
      refine lv_iconst (v := (-1)) X.1 X.2.1 dX9_back_15 (by decide) ?_
      exact bl_reti X V hr hf dX9_back_16
set_option maxHeartbeats 4000000 in
set_option maxRecDepth 100000 in
theorem t_X9_text (l : Launch) (g : bl_Gp) (σ : bl_St) (a0 : Nat) (o : Int32 × bl_St) (ha0 : bl_sh[a0]? = some (9, 13)) (hf : f_X9_text σ a0 = some o) : bl_Ci l g yX9_text cX9_text 2 (Option.some Jvm.ClassFile.FieldType.int) (bl_rm 8 177) [.ref (bl_ad g a0)] σ o := by
  refine bl_met (by decide) (Nat.le_of_ble_eq_true rfl) (fun p e s m below meth c ls X hr V hl => ?_)
  have hl : lv_has ls 2 [(0, .ref (bl_ad g a0))] := hl
  unfold f_X9_text at hf
  refine lv_aload_n X.1 X.2.1 dX9_text_0 rfl (lv_at hl 0 rfl) ?_
  refine bl_getr X V ha0 fl_X9_10 rfl dX9_text_1 (fun h1 => ?_)
  obtain ⟨r2, σ3, h4, hf⟩ := bl_bd_at hf
  refine bl_cVi (As := []) X V hl.1 h1 rfl ml_X9_91 mV_X7_parse (t_X7_parse l g σ (bl_R σ a0 0) _ h1 h4) rfl rfl ⟨Nat.le_of_ble_eq_true rfl, Nat.le_of_ble_eq_true rfl⟩ rfl rfl (Nat.le_of_ble_eq_true rfl) ⟨Nat.zero_le _, Nat.zero_le _⟩ dX9_text_4 (fun H locs V => ?_)
  refine lv_istore_n (lv' := [(1, .int r2), (0, .ref (bl_ad g a0))]) X.1 X.2.1 dX9_text_7 rfl hl (by decide) rfl (fun ls hl => ?_)
  refine lv_aload_n X.1 X.2.1 dX9_text_8 rfl (lv_at hl 1 rfl) ?_
  refine bl_getr X V ha0 fl_X9_10 rfl dX9_text_9 (fun h5 => ?_)
  refine lv_iconst (v := 0) X.1 X.2.1 dX9_text_12 (by decide) ?_
  refine bl_puti X V h5 fp_X9_83 rfl rfl dX9_text_13 (fun σ6 H locs e7 V => ?_)
  have hf := bl_let_at e7 hf
  refine lv_iload_n X.1 X.2.1 dX9_text_16 rfl (lv_at hl 0 rfl) ?_
  refine lv_iconst (v := (-1)) X.1 X.2.1 dX9_text_17 (by decide) ?_
  refine lv_icmp_eq (tgt := 26) X.1 X.2.1 dX9_text_18 (by decide) (fun c8 => ?_) (fun c8 => ?_)
  · have hf := bl_ifp c8 hf
    refine lv_aload_n X.1 X.2.1 dX9_text_26 rfl (lv_at hl 1 rfl) ?_
    refine bl_getr X V ha0 fl_X9_26 rfl dX9_text_27 (fun h9 => ?_)
    refine lv_aload_n X.1 X.2.1 dX9_text_30 rfl (lv_at hl 1 rfl) ?_
    refine bl_getr X V ha0 fl_X9_10 rfl dX9_text_31 (fun h10 => ?_)
    refine bl_getr X V h10 fl_X9_95 rfl dX9_text_34 (fun h11 => ?_)
    obtain ⟨r12, σ13, h14, hf⟩ := bl_bd_at hf
    refine bl_cVv (As := [.ref (bl_ad g (bl_R σ6 (bl_R σ6 a0 0) 2))]) X V hl.1 h9 rfl ml_X9_98 mV_X8_copy (t_X8_copy l g σ6 (bl_R σ6 a0 2) (bl_R σ6 (bl_R σ6 a0 0) 2) _ h9 h11 h14) rfl rfl ⟨Nat.le_of_ble_eq_true rfl, Nat.le_of_ble_eq_true rfl⟩ rfl rfl (Nat.le_of_ble_eq_true rfl) ⟨Nat.zero_le _, Nat.zero_le _⟩ dX9_text_37 (fun H locs V => ?_)
    refine lv_aload_n X.1 X.2.1 dX9_text_40 rfl (lv_at hl 1 rfl) ?_
    refine bl_getr X V ha0 fl_X9_36 rfl dX9_text_41 (fun h15 => ?_)
    obtain ⟨r16, σ17, h18, hf⟩ := bl_bd_at hf
    refine bl_cVv (As := []) X V hl.1 h15 rfl ml_X9_101 mV_X2_clear (t_X2_clear l g σ13 (bl_R σ13 a0 4) _ h15 h18) rfl rfl ⟨Nat.le_of_ble_eq_true rfl, Nat.le_of_ble_eq_true rfl⟩ rfl rfl (Nat.le_of_ble_eq_true rfl) ⟨Nat.zero_le _, Nat.zero_le _⟩ dX9_text_44 (fun H locs V => ?_)
    refine lv_aload_n X.1 X.2.1 dX9_text_47 rfl (lv_at hl 1 rfl) ?_
    refine bl_getr X V ha0 fl_X9_46 rfl dX9_text_48 (fun h19 => ?_)
    obtain ⟨r20, σ21, h22, hf⟩ := bl_bd_at hf
    refine bl_cVv (As := []) X V hl.1 h19 rfl ml_X9_104 mV_X6_forget (t_X6_forget l g σ17 (bl_R σ17 a0 6) _ h19 h22) rfl rfl ⟨Nat.le_of_ble_eq_true rfl, Nat.le_of_ble_eq_true rfl⟩ rfl rfl (Nat.le_of_ble_eq_true rfl) ⟨Nat.zero_le _, Nat.zero_le _⟩ dX9_text_51 (fun H locs V => ?_)
    refine lv_aload_n X.1 X.2.1 dX9_text_54 rfl (lv_at hl 1 rfl) ?_
    refine bl_getr X V ha0 fl_X9_55 rfl dX9_text_55 (fun h23 => ?_)
    refine lv_aload_n X.1 X.2.1 dX9_text_58 rfl (lv_at hl 1 rfl) ?_
    refine bl_getr X V ha0 fl_X9_26 rfl dX9_text_59 (fun h24 => ?_)
    refine lv_iconst (v := 1) X.1 X.2.1 dX9_text_62 (by decide) ?_
    obtain ⟨r25, σ26, h27, hf⟩ := bl_bd_at hf
    refine bl_cVv (As := [.ref (bl_ad g (bl_R σ21 a0 2)), .int 1]) X V hl.1 h23 rfl ml_X9_107 mV_X4_look (t_X4_look l g σ21 (bl_R σ21 a0 7) (bl_R σ21 a0 2) 1 _ h23 h24 h27) rfl rfl ⟨Nat.le_of_ble_eq_true rfl, Nat.le_of_ble_eq_true rfl⟩ rfl rfl (Nat.le_of_ble_eq_true rfl) ⟨Nat.zero_le _, Nat.zero_le _⟩ dX9_text_63 (fun H locs V => ?_)
    refine lv_aload_n X.1 X.2.1 dX9_text_66 rfl (lv_at hl 1 rfl) ?_
    refine bl_getr X V ha0 fl_X9_26 rfl dX9_text_67 (fun h28 => ?_)
    refine bl_geti X V h28 fl_X9_111 dX9_text_70 ?_
    exact bl_reti X V hr hf dX9_text_73
  · have hf := bl_ifn c8 hf
    refine lv_bipush (v := (-4)) X.1 X.2.1 dX9_text_21 (by decide) ?_
    refine lv_iload_n X.1 X.2.1 dX9_text_23 rfl (lv_at hl 0 rfl) ?_
    refine lv_isub X.1 X.2.1 dX9_text_24 ?_
    exact bl_reti X V hr hf dX9_text_25
set_option maxHeartbeats 4000000 in
set_option maxRecDepth 100000 in
theorem t_X9_highestPart (l : Launch) (g : bl_Gp) (σ : bl_St) (a0 : Nat) (a1 : Int32) (o : Int32 × bl_St) (ha0 : bl_sh[a0]? = some (9, 13)) (hf : f_X9_highestPart σ a0 a1 = some o) : bl_Ci l g yX9_highestPart cX9_highestPart 2 (Option.some Jvm.ClassFile.FieldType.int) (bl_rm 0 0) [.ref (bl_ad g a0), .int a1] σ o := by
  refine bl_met (by decide) (Nat.le_of_ble_eq_true rfl) (fun p e s m below meth c ls X hr V hl => ?_)
  have hl : lv_has ls 2 [(0, .ref (bl_ad g a0)), (1, .int a1)] := hl
  unfold f_X9_highestPart at hf
  refine lv_iload_n X.1 X.2.1 dX9_highestPart_0 rfl (lv_at hl 1 rfl) ?_
  refine lv_iconst (v := 1) X.1 X.2.1 dX9_highestPart_1 (by decide) ?_
  refine lv_icmp_lt (tgt := 22) X.1 X.2.1 dX9_highestPart_2 (by decide) (fun c1 => ?_) (fun c1 => ?_)
  · have hf := bl_ifp c1 hf
    refine bl_sget X V X.2.2.2.2.2.2.1.1.1 gs_X9_336 dX9_highestPart_22 (fun t2 h3 => ?_)
    refine lv_iload_n X.1 X.2.1 dX9_highestPart_25 rfl (lv_at hl 1 rfl) ?_
    obtain ⟨h4, hf⟩ := bl_gd_at hf
    refine bl_sld X V h3 h4 dX9_highestPart_26 ?_
    exact bl_reti X V hr hf dX9_highestPart_27
  · have hf := bl_ifn c1 hf
    refine lv_iload_n X.1 X.2.1 dX9_highestPart_5 rfl (lv_at hl 1 rfl) ?_
    refine lv_iconst (v := 3) X.1 X.2.1 dX9_highestPart_6 (by decide) ?_
    refine lv_icmp_gt (tgt := 22) X.1 X.2.1 dX9_highestPart_7 (by decide) (fun c5 => ?_) (fun c5 => ?_)
    · have hf := bl_ifp c5 hf
      refine bl_sget X V X.2.2.2.2.2.2.1.1.1 gs_X9_336 dX9_highestPart_22 (fun t6 h7 => ?_)
      refine lv_iload_n X.1 X.2.1 dX9_highestPart_25 rfl (lv_at hl 1 rfl) ?_
      obtain ⟨h8, hf⟩ := bl_gd_at hf
      refine bl_sld X V h7 h8 dX9_highestPart_26 ?_
      exact bl_reti X V hr hf dX9_highestPart_27
    · have hf := bl_ifn c5 hf
      refine lv_aload_n X.1 X.2.1 dX9_highestPart_10 rfl (lv_at hl 0 rfl) ?_
      refine bl_getr X V ha0 fl_X9_26 rfl dX9_highestPart_11 (fun h9 => ?_)
      refine bl_geti X V h9 fl_X9_111 dX9_highestPart_14 ?_
      refine lv_iconst (v := 1) X.1 X.2.1 dX9_highestPart_17 (by decide) ?_
      refine lv_isub X.1 X.2.1 dX9_highestPart_18 ?_
      refine lv_goto (tgt := 27) X.1 X.2.1 dX9_highestPart_19 (by decide) ?_
      exact bl_reti X V hr hf dX9_highestPart_27
set_option maxHeartbeats 4000000 in
set_option maxRecDepth 100000 in
theorem t_X9_keepForUndo (l : Launch) (g : bl_Gp) (σ : bl_St) (a0 : Nat) (o : Unit × bl_St) (ha0 : bl_sh[a0]? = some (9, 13)) (hf : f_X9_keepForUndo σ a0 = some o) : bl_Cv l g yX9_keepForUndo cX9_keepForUndo 1 (Option.none : Option Jvm.ClassFile.FieldType) (bl_rm 3 61) [.ref (bl_ad g a0)] σ o := by
  refine bl_met (by decide) (Nat.le_of_ble_eq_true rfl) (fun p e s m below meth c ls X hr V hl => ?_)
  have hl : lv_has ls 1 [(0, .ref (bl_ad g a0))] := hl
  unfold f_X9_keepForUndo at hf
  refine lv_aload_n X.1 X.2.1 dX9_keepForUndo_0 rfl (lv_at hl 0 rfl) ?_
  refine bl_getr X V ha0 fl_X9_46 rfl dX9_keepForUndo_1 (fun h1 => ?_)
  refine lv_aload_n X.1 X.2.1 dX9_keepForUndo_4 rfl (lv_at hl 0 rfl) ?_
  refine bl_getr X V ha0 fl_X9_26 rfl dX9_keepForUndo_5 (fun h2 => ?_)
  refine lv_aload_n X.1 X.2.1 dX9_keepForUndo_8 rfl (lv_at hl 0 rfl) ?_
  refine bl_getr X V ha0 fl_X9_36 rfl dX9_keepForUndo_9 (fun h3 => ?_)
  obtain ⟨r4, σ5, h6, hf⟩ := bl_bd_at hf
  refine bl_cVv (As := [.ref (bl_ad g (bl_R σ a0 2)), .ref (bl_ad g (bl_R σ a0 4))]) X V hl.1 h1 rfl ml_X9_369 mV_X6_keep (t_X6_keep l g σ (bl_R σ a0 6) (bl_R σ a0 2) (bl_R σ a0 4) _ h1 h2 h3 h6) rfl rfl ⟨Nat.le_of_ble_eq_true rfl, Nat.le_of_ble_eq_true rfl⟩ rfl rfl (Nat.le_of_ble_eq_true rfl) ⟨Nat.zero_le _, Nat.zero_le _⟩ dX9_keepForUndo_12 (fun H locs V => ?_)
  refine lv_aload_n X.1 X.2.1 dX9_keepForUndo_15 rfl (lv_at hl 0 rfl) ?_
  refine bl_getr X V ha0 fl_X9_55 rfl dX9_keepForUndo_16 (fun h7 => ?_)
  refine lv_aload_n X.1 X.2.1 dX9_keepForUndo_19 rfl (lv_at hl 0 rfl) ?_
  refine bl_getr X V ha0 fl_X9_26 rfl dX9_keepForUndo_20 (fun h8 => ?_)
  refine lv_iconst (v := 1) X.1 X.2.1 dX9_keepForUndo_23 (by decide) ?_
  obtain ⟨r9, σ10, h11, hf⟩ := bl_bd_at hf
  refine bl_cVv (As := [.ref (bl_ad g (bl_R σ5 a0 2)), .int 1]) X V hl.1 h7 rfl ml_X9_107 mV_X4_look (t_X4_look l g σ5 (bl_R σ5 a0 7) (bl_R σ5 a0 2) 1 _ h7 h8 h11) rfl rfl ⟨Nat.le_of_ble_eq_true rfl, Nat.le_of_ble_eq_true rfl⟩ rfl rfl (Nat.le_of_ble_eq_true rfl) ⟨Nat.zero_le _, Nat.zero_le _⟩ dX9_keepForUndo_24 (fun H locs V => ?_)
  exact bl_retv X V hr hf dX9_keepForUndo_27
set_option maxHeartbeats 4000000 in
set_option maxRecDepth 100000 in
theorem t_X9_set (l : Launch) (g : bl_Gp) (σ : bl_St) (a0 : Nat) (a1 : Int32) (a2 : Int32) (a3 : Int32) (o : Int32 × bl_St) (ha0 : bl_sh[a0]? = some (9, 13)) (hf : f_X9_set σ a0 a1 a2 a3 = some o) : bl_Ci l g yX9_set cX9_set 5 (Option.some Jvm.ClassFile.FieldType.int) (bl_rm 4 81) [.ref (bl_ad g a0), .int a1, .int a2, .int a3] σ o := by
  refine bl_met (by decide) (Nat.le_of_ble_eq_true rfl) (fun p e s m below meth c ls X hr V hl => ?_)
  have hl : lv_has ls 5 [(0, .ref (bl_ad g a0)), (1, .int a1), (2, .int a2), (3, .int a3)] := hl
  unfold f_X9_set at hf
  refine lv_aload_n X.1 X.2.1 dX9_set_0 rfl (lv_at hl 0 rfl) ?_
  refine bl_getr X V ha0 fl_X9_26 rfl dX9_set_1 (fun h1 => ?_)
  refine lv_iload_n X.1 X.2.1 dX9_set_4 rfl (lv_at hl 1 rfl) ?_
  obtain ⟨r2, σ3, h4, hf⟩ := bl_bd_at hf
  refine bl_cVi (As := [.int a1]) X V hl.1 h1 rfl ml_X9_114 mV_X8_hasClass (t_X8_hasClass l g σ (bl_R σ a0 2) a1 _ h1 h4) rfl rfl ⟨Nat.le_of_ble_eq_true rfl, Nat.le_of_ble_eq_true rfl⟩ rfl rfl (Nat.le_of_ble_eq_true rfl) ⟨Nat.zero_le _, Nat.zero_le _⟩ dX9_set_5 (fun H locs V => ?_)
  refine lv_if_eq (tgt := 33) X.1 X.2.1 dX9_set_8 (by decide) (fun c5 => ?_) (fun c5 => ?_)
  · have hf := bl_ifp c5 hf
    refine lv_iconst (v := (-1)) X.1 X.2.1 dX9_set_33 (by decide) ?_
    exact bl_reti X V hr hf dX9_set_34
  · have hf := bl_ifn c5 hf
    refine lv_iload_n X.1 X.2.1 dX9_set_11 rfl (lv_at hl 2 rfl) ?_
    refine lv_if_lt (tgt := 33) X.1 X.2.1 dX9_set_12 (by decide) (fun c6 => ?_) (fun c6 => ?_)
    · have hf := bl_ifp c6 hf
      refine lv_iconst (v := (-1)) X.1 X.2.1 dX9_set_33 (by decide) ?_
      exact bl_reti X V hr hf dX9_set_34
    · have hf := bl_ifn c6 hf
      refine lv_iload_n X.1 X.2.1 dX9_set_15 rfl (lv_at hl 2 rfl) ?_
      refine lv_iconst (v := 5) X.1 X.2.1 dX9_set_16 (by decide) ?_
      refine lv_icmp_ge (tgt := 33) X.1 X.2.1 dX9_set_17 (by decide) (fun c7 => ?_) (fun c7 => ?_)
      · have hf := bl_ifp c7 hf
        refine lv_iconst (v := (-1)) X.1 X.2.1 dX9_set_33 (by decide) ?_
        exact bl_reti X V hr hf dX9_set_34
      · have hf := bl_ifn c7 hf
        refine lv_iload_n X.1 X.2.1 dX9_set_20 rfl (lv_at hl 3 rfl) ?_
        refine lv_if_lt (tgt := 33) X.1 X.2.1 dX9_set_21 (by decide) (fun c8 => ?_) (fun c8 => ?_)
        · have hf := bl_ifp c8 hf
          refine lv_iconst (v := (-1)) X.1 X.2.1 dX9_set_33 (by decide) ?_
          exact bl_reti X V hr hf dX9_set_34
        · have hf := bl_ifn c8 hf
          refine lv_iload_n X.1 X.2.1 dX9_set_24 rfl (lv_at hl 3 rfl) ?_
          refine lv_aload_n X.1 X.2.1 dX9_set_25 rfl (lv_at hl 0 rfl) ?_
          refine lv_iload_n X.1 X.2.1 dX9_set_26 rfl (lv_at hl 2 rfl) ?_
          obtain ⟨r9, σ10, h11, hf⟩ := bl_bd_at hf
          refine bl_cVi (As := [.int a2]) X V hl.1 ha0 rfl ml_X9_118 mV_X9_highestPart (t_X9_highestPart l g σ3 a0 a2 _ ha0 h11) rfl rfl ⟨Nat.le_of_ble_eq_true rfl, Nat.le_of_ble_eq_true rfl⟩ rfl rfl (Nat.le_of_ble_eq_true rfl) ⟨Nat.zero_le _, Nat.zero_le _⟩ dX9_set_27 (fun H locs V => ?_)
          refine lv_icmp_le (tgt := 35) X.1 X.2.1 dX9_set_30 (by decide) (fun c12 => ?_) (fun c12 => ?_)
          · have hf := bl_ifp c12 hf
            refine lv_aload_n X.1 X.2.1 dX9_set_35 rfl (lv_at hl 0 rfl) ?_
            refine bl_getr X V ha0 fl_X9_26 rfl dX9_set_36 (fun h13 => ?_)
            refine lv_iload_n X.1 X.2.1 dX9_set_39 rfl (lv_at hl 1 rfl) ?_
            refine lv_iload_n X.1 X.2.1 dX9_set_40 rfl (lv_at hl 2 rfl) ?_
            obtain ⟨r14, σ15, h16, hf⟩ := bl_bd_at hf
            refine bl_cVi (As := [.int a1, .int a2]) X V hl.1 h13 rfl ml_X9_122 mV_X8_part (t_X8_part l g σ10 (bl_R σ10 a0 2) a1 a2 _ h13 h16) rfl rfl ⟨Nat.le_of_ble_eq_true rfl, Nat.le_of_ble_eq_true rfl⟩ rfl rfl (Nat.le_of_ble_eq_true rfl) ⟨Nat.zero_le _, Nat.zero_le _⟩ dX9_set_41 (fun H locs V => ?_)
            refine lv_istore (lv' := [(4, .int r14), (0, .ref (bl_ad g a0)), (1, .int a1), (2, .int a2), (3, .int a3)]) X.1 X.2.1 dX9_set_44 hl (by decide) rfl (fun ls hl => ?_)
            refine lv_iload X.1 X.2.1 dX9_set_46 (lv_at hl 0 rfl) ?_
            refine lv_iload_n X.1 X.2.1 dX9_set_48 rfl (lv_at hl 4 rfl) ?_
            refine lv_icmp_ne (tgt := 54) X.1 X.2.1 dX9_set_49 (by decide) (fun c17 => ?_) (fun c17 => ?_)
            · have hf := bl_ifn c17 hf
              refine lv_aload_n X.1 X.2.1 dX9_set_54 rfl (lv_at hl 1 rfl) ?_
              obtain ⟨r18, σ19, h20, hf⟩ := bl_bd_at hf
              refine bl_cVv (As := []) X V hl.1 ha0 rfl ml_X9_126 mV_X9_keepForUndo (t_X9_keepForUndo l g σ15 a0 _ ha0 h20) rfl rfl ⟨Nat.le_of_ble_eq_true rfl, Nat.le_of_ble_eq_true rfl⟩ rfl rfl (Nat.le_of_ble_eq_true rfl) ⟨Nat.zero_le _, Nat.zero_le _⟩ dX9_set_55 (fun H locs V => ?_)
              refine lv_aload_n X.1 X.2.1 dX9_set_58 rfl (lv_at hl 1 rfl) ?_
              refine bl_getr X V ha0 fl_X9_26 rfl dX9_set_59 (fun h21 => ?_)
              refine lv_iload_n X.1 X.2.1 dX9_set_62 rfl (lv_at hl 2 rfl) ?_
              refine lv_iload_n X.1 X.2.1 dX9_set_63 rfl (lv_at hl 3 rfl) ?_
              refine lv_iload_n X.1 X.2.1 dX9_set_64 rfl (lv_at hl 4 rfl) ?_
              obtain ⟨r22, σ23, h24, hf⟩ := bl_bd_at hf
              refine bl_cVv (As := [.int a1, .int a2, .int a3]) X V hl.1 h21 rfl ml_X9_129 mV_X8_setPart (t_X8_setPart l g σ19 (bl_R σ19 a0 2) a1 a2 a3 _ h21 h24) rfl rfl ⟨Nat.le_of_ble_eq_true rfl, Nat.le_of_ble_eq_true rfl⟩ rfl rfl (Nat.le_of_ble_eq_true rfl) ⟨Nat.zero_le _, Nat.zero_le _⟩ dX9_set_65 (fun H locs V => ?_)
              refine lv_iload X.1 X.2.1 dX9_set_68 (lv_at hl 0 rfl) ?_
              exact bl_reti X V hr hf dX9_set_70
            · have hf := bl_ifp c17 hf
              refine lv_iconst (v := (-1)) X.1 X.2.1 dX9_set_52 (by decide) ?_
              exact bl_reti X V hr hf dX9_set_53
          · have hf := bl_ifn c12 hf
            refine lv_iconst (v := (-1)) X.1 X.2.1 dX9_set_33 (by decide) ?_
            exact bl_reti X V hr hf dX9_set_34
set_option maxHeartbeats 4000000 in
set_option maxRecDepth 100000 in
theorem t_X9_sort (l : Launch) (g : bl_Gp) (σ : bl_St) (a0 : Nat) (a1 : Int32) (a2 : Int32) (a3 : Int32) (o : Int32 × bl_St) (ha0 : bl_sh[a0]? = some (9, 13)) (hf : f_X9_sort σ a0 a1 a2 a3 = some o) : bl_Ci l g yX9_sort cX9_sort 5 (Option.some Jvm.ClassFile.FieldType.int) (bl_rm 4 81) [.ref (bl_ad g a0), .int a1, .int a2, .int a3] σ o := by
  refine bl_met (by decide) (Nat.le_of_ble_eq_true rfl) (fun p e s m below meth c ls X hr V hl => ?_)
  have hl : lv_has ls 5 [(0, .ref (bl_ad g a0)), (1, .int a1), (2, .int a2), (3, .int a3)] := hl
  unfold f_X9_sort at hf
  refine lv_aload_n X.1 X.2.1 dX9_sort_0 rfl (lv_at hl 0 rfl) ?_
  refine bl_getr X V ha0 fl_X9_26 rfl dX9_sort_1 (fun h1 => ?_)
  refine lv_iload_n X.1 X.2.1 dX9_sort_4 rfl (lv_at hl 1 rfl) ?_
  obtain ⟨r2, σ3, h4, hf⟩ := bl_bd_at hf
  refine bl_cVi (As := [.int a1]) X V hl.1 h1 rfl ml_X9_133 mV_X8_hasSort (t_X8_hasSort l g σ (bl_R σ a0 2) a1 _ h1 h4) rfl rfl ⟨Nat.le_of_ble_eq_true rfl, Nat.le_of_ble_eq_true rfl⟩ rfl rfl (Nat.le_of_ble_eq_true rfl) ⟨Nat.zero_le _, Nat.zero_le _⟩ dX9_sort_5 (fun H locs V => ?_)
  refine lv_if_eq (tgt := 34) X.1 X.2.1 dX9_sort_8 (by decide) (fun c5 => ?_) (fun c5 => ?_)
  · have hf := bl_ifp c5 hf
    refine lv_iconst (v := (-1)) X.1 X.2.1 dX9_sort_34 (by decide) ?_
    exact bl_reti X V hr hf dX9_sort_35
  · have hf := bl_ifn c5 hf
    refine lv_iload_n X.1 X.2.1 dX9_sort_11 rfl (lv_at hl 2 rfl) ?_
    refine lv_if_lt (tgt := 34) X.1 X.2.1 dX9_sort_12 (by decide) (fun c6 => ?_) (fun c6 => ?_)
    · have hf := bl_ifp c6 hf
      refine lv_iconst (v := (-1)) X.1 X.2.1 dX9_sort_34 (by decide) ?_
      exact bl_reti X V hr hf dX9_sort_35
    · have hf := bl_ifn c6 hf
      refine lv_iload_n X.1 X.2.1 dX9_sort_15 rfl (lv_at hl 2 rfl) ?_
      refine lv_iconst (v := 2) X.1 X.2.1 dX9_sort_16 (by decide) ?_
      refine lv_icmp_ge (tgt := 34) X.1 X.2.1 dX9_sort_17 (by decide) (fun c7 => ?_) (fun c7 => ?_)
      · have hf := bl_ifp c7 hf
        refine lv_iconst (v := (-1)) X.1 X.2.1 dX9_sort_34 (by decide) ?_
        exact bl_reti X V hr hf dX9_sort_35
      · have hf := bl_ifn c7 hf
        refine lv_iload_n X.1 X.2.1 dX9_sort_20 rfl (lv_at hl 3 rfl) ?_
        refine lv_iconst (v := 1) X.1 X.2.1 dX9_sort_21 (by decide) ?_
        refine lv_icmp_lt (tgt := 34) X.1 X.2.1 dX9_sort_22 (by decide) (fun c8 => ?_) (fun c8 => ?_)
        · have hf := bl_ifp c8 hf
          refine lv_iconst (v := (-1)) X.1 X.2.1 dX9_sort_34 (by decide) ?_
          exact bl_reti X V hr hf dX9_sort_35
        · have hf := bl_ifn c8 hf
          refine lv_iload_n X.1 X.2.1 dX9_sort_25 rfl (lv_at hl 3 rfl) ?_
          refine bl_sget X V X.2.2.2.2.2.2.1.1.2.1 gs_X9_136 dX9_sort_26 (fun t9 h10 => ?_)
          refine lv_iload_n X.1 X.2.1 dX9_sort_29 rfl (lv_at hl 2 rfl) ?_
          obtain ⟨h11, hf⟩ := bl_gd_at hf
          refine bl_sld X V h10 h11 dX9_sort_30 ?_
          refine lv_icmp_le (tgt := 36) X.1 X.2.1 dX9_sort_31 (by decide) (fun c12 => ?_) (fun c12 => ?_)
          · have hf := bl_ifp c12 hf
            refine lv_aload_n X.1 X.2.1 dX9_sort_36 rfl (lv_at hl 0 rfl) ?_
            refine bl_getr X V ha0 fl_X9_26 rfl dX9_sort_37 (fun h13 => ?_)
            refine lv_iload_n X.1 X.2.1 dX9_sort_40 rfl (lv_at hl 1 rfl) ?_
            refine lv_iload_n X.1 X.2.1 dX9_sort_41 rfl (lv_at hl 2 rfl) ?_
            obtain ⟨r14, σ15, h16, hf⟩ := bl_bd_at hf
            refine bl_cVi (As := [.int a1, .int a2]) X V hl.1 h13 rfl ml_X9_140 mV_X8_sortPart (t_X8_sortPart l g σ3 (bl_R σ3 a0 2) a1 a2 _ h13 h16) rfl rfl ⟨Nat.le_of_ble_eq_true rfl, Nat.le_of_ble_eq_true rfl⟩ rfl rfl (Nat.le_of_ble_eq_true rfl) ⟨Nat.zero_le _, Nat.zero_le _⟩ dX9_sort_42 (fun H locs V => ?_)
            refine lv_istore (lv' := [(4, .int r14), (0, .ref (bl_ad g a0)), (1, .int a1), (2, .int a2), (3, .int a3)]) X.1 X.2.1 dX9_sort_45 hl (by decide) rfl (fun ls hl => ?_)
            refine lv_iload X.1 X.2.1 dX9_sort_47 (lv_at hl 0 rfl) ?_
            refine lv_iload_n X.1 X.2.1 dX9_sort_49 rfl (lv_at hl 4 rfl) ?_
            refine lv_icmp_ne (tgt := 55) X.1 X.2.1 dX9_sort_50 (by decide) (fun c17 => ?_) (fun c17 => ?_)
            · have hf := bl_ifn c17 hf
              refine lv_aload_n X.1 X.2.1 dX9_sort_55 rfl (lv_at hl 1 rfl) ?_
              obtain ⟨r18, σ19, h20, hf⟩ := bl_bd_at hf
              refine bl_cVv (As := []) X V hl.1 ha0 rfl ml_X9_126 mV_X9_keepForUndo (t_X9_keepForUndo l g σ15 a0 _ ha0 h20) rfl rfl ⟨Nat.le_of_ble_eq_true rfl, Nat.le_of_ble_eq_true rfl⟩ rfl rfl (Nat.le_of_ble_eq_true rfl) ⟨Nat.zero_le _, Nat.zero_le _⟩ dX9_sort_56 (fun H locs V => ?_)
              refine lv_aload_n X.1 X.2.1 dX9_sort_59 rfl (lv_at hl 1 rfl) ?_
              refine bl_getr X V ha0 fl_X9_26 rfl dX9_sort_60 (fun h21 => ?_)
              refine lv_iload_n X.1 X.2.1 dX9_sort_63 rfl (lv_at hl 2 rfl) ?_
              refine lv_iload_n X.1 X.2.1 dX9_sort_64 rfl (lv_at hl 3 rfl) ?_
              refine lv_iload_n X.1 X.2.1 dX9_sort_65 rfl (lv_at hl 4 rfl) ?_
              obtain ⟨r22, σ23, h24, hf⟩ := bl_bd_at hf
              refine bl_cVv (As := [.int a1, .int a2, .int a3]) X V hl.1 h21 rfl ml_X9_143 mV_X8_setSortPart (t_X8_setSortPart l g σ19 (bl_R σ19 a0 2) a1 a2 a3 _ h21 h24) rfl rfl ⟨Nat.le_of_ble_eq_true rfl, Nat.le_of_ble_eq_true rfl⟩ rfl rfl (Nat.le_of_ble_eq_true rfl) ⟨Nat.zero_le _, Nat.zero_le _⟩ dX9_sort_66 (fun H locs V => ?_)
              refine lv_iload X.1 X.2.1 dX9_sort_69 (lv_at hl 0 rfl) ?_
              exact bl_reti X V hr hf dX9_sort_71
            · have hf := bl_ifp c17 hf
              refine lv_iconst (v := (-1)) X.1 X.2.1 dX9_sort_53 (by decide) ?_
              exact bl_reti X V hr hf dX9_sort_54
          · have hf := bl_ifn c12 hf
            refine lv_iconst (v := (-1)) X.1 X.2.1 dX9_sort_34 (by decide) ?_
            exact bl_reti X V hr hf dX9_sort_35
set_option maxHeartbeats 4000000 in
set_option maxRecDepth 100000 in
theorem t_X9_isRule (l : Launch) (g : bl_Gp) (σ : bl_St) (a0 : Int32) (a1 : Int32) (o : Int32 × bl_St) (hf : f_X9_isRule σ a0 a1 = some o) : bl_Ci l g yX9_isRule cX9_isRule 2 (Option.some Jvm.ClassFile.FieldType.boolean) (bl_rm 0 0) [.int a0, .int a1] σ o := by
  refine bl_met (by decide) (Nat.le_of_ble_eq_true rfl) (fun p e s m below meth c ls X hr V hl => ?_)
  have hl : lv_has ls 2 [(0, .int a0), (1, .int a1)] := hl
  unfold f_X9_isRule at hf
  refine lv_iload_n X.1 X.2.1 dX9_isRule_0 rfl (lv_at hl 0 rfl) ?_
  refine lv_if_lt (tgt := 31) X.1 X.2.1 dX9_isRule_1 (by decide) (fun c1 => ?_) (fun c1 => ?_)
  · have hf := bl_ifp c1 hf
    refine lv_iconst (v := 0) X.1 X.2.1 dX9_isRule_31 (by decide) ?_
    exact bl_retz X V hr (by decide) hf dX9_isRule_32
  · have hf := bl_ifn c1 hf
    refine lv_iload_n X.1 X.2.1 dX9_isRule_4 rfl (lv_at hl 0 rfl) ?_
    refine lv_iconst (v := 3) X.1 X.2.1 dX9_isRule_5 (by decide) ?_
    refine lv_icmp_ge (tgt := 31) X.1 X.2.1 dX9_isRule_6 (by decide) (fun c2 => ?_) (fun c2 => ?_)
    · have hf := bl_ifp c2 hf
      refine lv_iconst (v := 0) X.1 X.2.1 dX9_isRule_31 (by decide) ?_
      exact bl_retz X V hr (by decide) hf dX9_isRule_32
    · have hf := bl_ifn c2 hf
      refine lv_iload_n X.1 X.2.1 dX9_isRule_9 rfl (lv_at hl 1 rfl) ?_
      refine bl_sget X V X.2.2.2.2.2.2.1.1.2.2.1 gs_X9_373 dX9_isRule_10 (fun t3 h4 => ?_)
      refine lv_iload_n X.1 X.2.1 dX9_isRule_13 rfl (lv_at hl 0 rfl) ?_
      obtain ⟨h5, hf⟩ := bl_gd_at hf
      refine bl_sld X V h4 h5 dX9_isRule_14 ?_
      refine lv_icmp_lt (tgt := 31) X.1 X.2.1 dX9_isRule_15 (by decide) (fun c6 => ?_) (fun c6 => ?_)
      · have hf := bl_ifp c6 hf
        refine lv_iconst (v := 0) X.1 X.2.1 dX9_isRule_31 (by decide) ?_
        exact bl_retz X V hr (by decide) hf dX9_isRule_32
      · have hf := bl_ifn c6 hf
        refine lv_iload_n X.1 X.2.1 dX9_isRule_18 rfl (lv_at hl 1 rfl) ?_
        refine bl_sget X V X.2.2.2.2.2.2.1.1.2.2.2.1 gs_X9_329 dX9_isRule_19 (fun t7 h8 => ?_)
        refine lv_iload_n X.1 X.2.1 dX9_isRule_22 rfl (lv_at hl 0 rfl) ?_
        obtain ⟨h9, hf⟩ := bl_gd_at hf
        refine bl_sld X V h8 h9 dX9_isRule_23 ?_
        refine lv_icmp_gt (tgt := 31) X.1 X.2.1 dX9_isRule_24 (by decide) (fun c10 => ?_) (fun c10 => ?_)
        · have hf := bl_ifp c10 hf
          refine lv_iconst (v := 0) X.1 X.2.1 dX9_isRule_31 (by decide) ?_
          exact bl_retz X V hr (by decide) hf dX9_isRule_32
        · have hf := bl_ifn c10 hf
          refine lv_iconst (v := 1) X.1 X.2.1 dX9_isRule_27 (by decide) ?_
          refine lv_goto (tgt := 32) X.1 X.2.1 dX9_isRule_28 (by decide) ?_
          exact bl_retz X V hr (by decide) hf dX9_isRule_32
set_option maxHeartbeats 4000000 in
set_option maxRecDepth 100000 in
theorem w_X9_rule_24 {p : Program} {l : Launch} {e : Env} {s : State} {m : MethodId} {below : List Frame} {meth : Method} {c : Code} {g : bl_Gp} {as : List Value} {out : Int32 × bl_St} (X : bl_Cx g p s m as.toArray meth c cX9_rule 4 RX9) (hr : meth.sig.returnType = (Option.some Jvm.ClassFile.FieldType.int)) : ∀ (σ : bl_St) (v0 : Nat) (v1 : Int32) (v2 : Int32), bl_sh[v0]? = some (9, 13) → (b_X9_rule_24 ) σ v0 v1 v2 = some out → ∀ (H : Heap) (locs : List Loc) (ls : Array Slot), bl_V g s σ H locs → lv_has ls 4 [(0, .ref (bl_ad g v0)), (1, .int v1), (2, .int v2)] → W p l e (bl_rm 4 81) s m as.toArray below meth c H locs 0 0 (bl_Qi below g s as out) (F0 m 24 ls []) := by
  intro σ v0 v1 v2 hv0 hf H locs ls V hl
  unfold b_X9_rule_24 at hf
  refine lv_aload_n X.1 X.2.1 dX9_rule_24 rfl (lv_at hl 0 rfl) ?_
  refine bl_getr X V hv0 fl_X9_26 rfl dX9_rule_25 (fun h1 => ?_)
  refine bl_getr X V h1 fl_X9_154 rfl dX9_rule_28 (fun h2 => ?_)
  refine lv_iload_n X.1 X.2.1 dX9_rule_31 rfl (lv_at hl 1 rfl) ?_
  obtain ⟨h3, hf⟩ := bl_gd_at hf
  refine bl_iald (k := (Int32.toNatClampNeg v1)) X V h2 h3 rfl dX9_rule_32 ?_
  refine lv_topi (fun x4 e5 => ?_)
  have hf := bl_let_at e5 hf
  refine lv_istore_n (lv' := [(3, .int x4), (0, .ref (bl_ad g v0)), (1, .int v1), (2, .int v2)]) X.1 X.2.1 dX9_rule_33 rfl hl (by decide) rfl (fun ls hl => ?_)
  refine lv_iload_n X.1 X.2.1 dX9_rule_34 rfl (lv_at hl 0 rfl) ?_
  refine lv_iload_n X.1 X.2.1 dX9_rule_35 rfl (lv_at hl 3 rfl) ?_
  refine lv_icmp_ne (tgt := 41) X.1 X.2.1 dX9_rule_36 (by decide) (fun c6 => ?_) (fun c6 => ?_)
  · have hf := bl_ifn c6 hf
    refine lv_aload_n X.1 X.2.1 dX9_rule_41 rfl (lv_at hl 1 rfl) ?_
    obtain ⟨r7, σ8, h9, hf⟩ := bl_bd_at hf
    refine bl_cVv (As := []) X V hl.1 hv0 rfl ml_X9_126 mV_X9_keepForUndo (t_X9_keepForUndo l g σ v0 _ hv0 h9) rfl rfl ⟨Nat.le_of_ble_eq_true rfl, Nat.le_of_ble_eq_true rfl⟩ rfl rfl (Nat.le_of_ble_eq_true rfl) ⟨Nat.zero_le _, Nat.zero_le _⟩ dX9_rule_42 (fun H locs V => ?_)
    refine lv_aload_n X.1 X.2.1 dX9_rule_45 rfl (lv_at hl 1 rfl) ?_
    refine bl_getr X V hv0 fl_X9_26 rfl dX9_rule_46 (fun h10 => ?_)
    refine bl_getr X V h10 fl_X9_154 rfl dX9_rule_49 (fun h11 => ?_)
    refine lv_iload_n X.1 X.2.1 dX9_rule_52 rfl (lv_at hl 2 rfl) ?_
    refine lv_iload_n X.1 X.2.1 dX9_rule_53 rfl (lv_at hl 3 rfl) ?_
    obtain ⟨h12, hf⟩ := bl_gd_at hf
    refine bl_iast (k := (Int32.toNatClampNeg v1)) X V h11 h12 rfl dX9_rule_54 (fun σ13 H locs e14 V => ?_)
    have hf := bl_let_at e14 hf
    refine lv_iload_n X.1 X.2.1 dX9_rule_55 rfl (lv_at hl 0 rfl) ?_
    exact bl_reti X V hr hf dX9_rule_56
  · have hf := bl_ifp c6 hf
    refine lv_iconst (v := (-1)) X.1 X.2.1 dX9_rule_39 (by decide) ?_
    exact bl_reti X V hr hf dX9_rule_40
set_option maxHeartbeats 4000000 in
set_option maxRecDepth 100000 in
theorem t_X9_rule (l : Launch) (g : bl_Gp) (σ : bl_St) (a0 : Nat) (a1 : Int32) (a2 : Int32) (o : Int32 × bl_St) (ha0 : bl_sh[a0]? = some (9, 13)) (hf : f_X9_rule σ a0 a1 a2 = some o) : bl_Ci l g yX9_rule cX9_rule 4 (Option.some Jvm.ClassFile.FieldType.int) (bl_rm 4 81) [.ref (bl_ad g a0), .int a1, .int a2] σ o := by
  refine bl_met (by decide) (Nat.le_of_ble_eq_true rfl) (fun p e s m below meth c ls X hr V hl => ?_)
  have hl : lv_has ls 4 [(0, .ref (bl_ad g a0)), (1, .int a1), (2, .int a2)] := hl
  unfold f_X9_rule at hf
  refine lv_iload_n X.1 X.2.1 dX9_rule_0 rfl (lv_at hl 1 rfl) ?_
  refine lv_iload_n X.1 X.2.1 dX9_rule_1 rfl (lv_at hl 2 rfl) ?_
  obtain ⟨r15, σ16, h17, hf⟩ := bl_bd_at hf
  refine bl_cSi (As := [.int a1, .int a2]) X V hl.1 ml_X9_146 mS_X9_isRule (t_X9_isRule l g σ a1 a2 _  h17) rfl rfl ⟨Nat.le_of_ble_eq_true rfl, Nat.le_of_ble_eq_true rfl⟩ rfl rfl (Nat.le_of_ble_eq_true rfl) ⟨Nat.zero_le _, Nat.zero_le _⟩ dX9_rule_2 (fun H locs V => ?_)
  refine lv_if_eq (tgt := 22) X.1 X.2.1 dX9_rule_5 (by decide) (fun c18 => ?_) (fun c18 => ?_)
  · have hf := bl_ifp c18 hf
    refine lv_iconst (v := (-1)) X.1 X.2.1 dX9_rule_22 (by decide) ?_
    exact bl_reti X V hr hf dX9_rule_23
  · have hf := bl_ifn c18 hf
    refine lv_iload_n X.1 X.2.1 dX9_rule_8 rfl (lv_at hl 1 rfl) ?_
    refine lv_if_ne (tgt := 24) X.1 X.2.1 dX9_rule_9 (by decide) (fun c19 => ?_) (fun c19 => ?_)
    · have hf := bl_ifn c19 hf
      exact w_X9_rule_24 X hr  σ16 a0 a1 a2 ha0 hf _ _ _ V (lv_sub hl [0, 1, 2] rfl)
    · have hf := bl_ifp c19 hf
      refine lv_aload_n X.1 X.2.1 dX9_rule_12 rfl (lv_at hl 0 rfl) ?_
      refine bl_getr X V ha0 fl_X9_36 rfl dX9_rule_13 (fun h20 => ?_)
      refine bl_geti X V h20 fl_X9_150 dX9_rule_16 ?_
      refine lv_if_eq (tgt := 24) X.1 X.2.1 dX9_rule_19 (by decide) (fun c21 => ?_) (fun c21 => ?_)
      · have hf := bl_ifp c21 hf
        exact w_X9_rule_24 X hr  σ16 a0 a1 a2 ha0 hf _ _ _ V (lv_sub hl [0, 1, 2] rfl)
      · have hf := bl_ifn c21 hf
        refine lv_iconst (v := (-1)) X.1 X.2.1 dX9_rule_22 (by decide) ?_
        exact bl_reti X V hr hf dX9_rule_23
set_option maxHeartbeats 4000000 in
set_option maxRecDepth 100000 in
theorem t_X9_begin (l : Launch) (g : bl_Gp) (σ : bl_St) (a0 : Nat) (a1 : Int32) (o : Int32 × bl_St) (ha0 : bl_sh[a0]? = some (9, 13)) (hf : f_X9_begin σ a0 a1 = some o) : bl_Ci l g yX9_begin cX9_begin 2 (Option.some Jvm.ClassFile.FieldType.int) (bl_rm 4 81) [.ref (bl_ad g a0), .int a1] σ o := by
  refine bl_met (by decide) (Nat.le_of_ble_eq_true rfl) (fun p e s m below meth c ls X hr V hl => ?_)
  have hl : lv_has ls 2 [(0, .ref (bl_ad g a0)), (1, .int a1)] := hl
  unfold f_X9_begin at hf
  refine lv_aload_n X.1 X.2.1 dX9_begin_0 rfl (lv_at hl 0 rfl) ?_
  refine bl_getr X V ha0 fl_X9_36 rfl dX9_begin_1 (fun h1 => ?_)
  refine bl_geti X V h1 fl_X9_150 dX9_begin_4 ?_
  refine lv_if_ne (tgt := 20) X.1 X.2.1 dX9_begin_7 (by decide) (fun c2 => ?_) (fun c2 => ?_)
  · have hf := bl_ifn c2 hf
    refine lv_iconst (v := (-1)) X.1 X.2.1 dX9_begin_20 (by decide) ?_
    exact bl_reti X V hr hf dX9_begin_21
  · have hf := bl_ifp c2 hf
    refine lv_aload_n X.1 X.2.1 dX9_begin_10 rfl (lv_at hl 0 rfl) ?_
    refine bl_getr X V ha0 fl_X9_26 rfl dX9_begin_11 (fun h3 => ?_)
    refine bl_geti X V h3 fl_X9_111 dX9_begin_14 ?_
    refine lv_if_ne (tgt := 22) X.1 X.2.1 dX9_begin_17 (by decide) (fun c4 => ?_) (fun c4 => ?_)
    · have hf := bl_ifn c4 hf
      refine lv_aload_n X.1 X.2.1 dX9_begin_22 rfl (lv_at hl 0 rfl) ?_
      obtain ⟨r5, σ6, h7, hf⟩ := bl_bd_at hf
      refine bl_cVv (As := []) X V hl.1 ha0 rfl ml_X9_126 mV_X9_keepForUndo (t_X9_keepForUndo l g σ a0 _ ha0 h7) rfl rfl ⟨Nat.le_of_ble_eq_true rfl, Nat.le_of_ble_eq_true rfl⟩ rfl rfl (Nat.le_of_ble_eq_true rfl) ⟨Nat.zero_le _, Nat.zero_le _⟩ dX9_begin_23 (fun H locs V => ?_)
      refine lv_aload_n X.1 X.2.1 dX9_begin_26 rfl (lv_at hl 0 rfl) ?_
      refine bl_getr X V ha0 fl_X9_36 rfl dX9_begin_27 (fun h8 => ?_)
      refine lv_aload_n X.1 X.2.1 dX9_begin_30 rfl (lv_at hl 0 rfl) ?_
      refine bl_getr X V ha0 fl_X9_26 rfl dX9_begin_31 (fun h9 => ?_)
      refine lv_iload_n X.1 X.2.1 dX9_begin_34 rfl (lv_at hl 1 rfl) ?_
      obtain ⟨r10, σ11, h12, hf⟩ := bl_bd_at hf
      refine bl_cVi (As := [.ref (bl_ad g (bl_R σ6 a0 2)), .int a1]) X V hl.1 h8 rfl ml_X9_157 mV_X2_startYear (t_X2_startYear l g σ6 (bl_R σ6 a0 4) (bl_R σ6 a0 2) a1 _ h8 h9 h12) rfl rfl ⟨Nat.le_of_ble_eq_true rfl, Nat.le_of_ble_eq_true rfl⟩ rfl rfl (Nat.le_of_ble_eq_true rfl) ⟨Nat.zero_le _, Nat.zero_le _⟩ dX9_begin_35 (fun H locs V => ?_)
      exact bl_reti X V hr hf dX9_begin_38
    · have hf := bl_ifp c4 hf
      refine lv_iconst (v := (-1)) X.1 X.2.1 dX9_begin_20 (by decide) ?_
      exact bl_reti X V hr hf dX9_begin_21
set_option maxHeartbeats 4000000 in
set_option maxRecDepth 100000 in
theorem t_X9_quiet (l : Launch) (g : bl_Gp) (σ : bl_St) (a0 : Nat) (o : Int32 × bl_St) (ha0 : bl_sh[a0]? = some (9, 13)) (hf : f_X9_quiet σ a0 = some o) : bl_Ci l g yX9_quiet cX9_quiet 1 (Option.some Jvm.ClassFile.FieldType.int) (bl_rm 4 90) [.ref (bl_ad g a0)] σ o := by
  refine bl_met (by decide) (Nat.le_of_ble_eq_true rfl) (fun p e s m below meth c ls X hr V hl => ?_)
  have hl : lv_has ls 1 [(0, .ref (bl_ad g a0))] := hl
  unfold f_X9_quiet at hf
  refine lv_aload_n X.1 X.2.1 dX9_quiet_0 rfl (lv_at hl 0 rfl) ?_
  refine bl_getr X V ha0 fl_X9_36 rfl dX9_quiet_1 (fun h1 => ?_)
  refine bl_geti X V h1 fl_X9_150 dX9_quiet_4 ?_
  refine lv_if_ne (tgt := 12) X.1 X.2.1 dX9_quiet_7 (by decide) (fun c2 => ?_) (fun c2 => ?_)
  · have hf := bl_ifn c2 hf
    refine lv_aload_n X.1 X.2.1 dX9_quiet_12 rfl (lv_at hl 0 rfl) ?_
    obtain ⟨r3, σ4, h5, hf⟩ := bl_bd_at hf
    refine bl_cVv (As := []) X V hl.1 ha0 rfl ml_X9_126 mV_X9_keepForUndo (t_X9_keepForUndo l g σ a0 _ ha0 h5) rfl rfl ⟨Nat.le_of_ble_eq_true rfl, Nat.le_of_ble_eq_true rfl⟩ rfl rfl (Nat.le_of_ble_eq_true rfl) ⟨Nat.zero_le _, Nat.zero_le _⟩ dX9_quiet_13 (fun H locs V => ?_)
    refine lv_aload_n X.1 X.2.1 dX9_quiet_16 rfl (lv_at hl 0 rfl) ?_
    refine bl_getr X V ha0 fl_X9_36 rfl dX9_quiet_17 (fun h6 => ?_)
    refine lv_aload_n X.1 X.2.1 dX9_quiet_20 rfl (lv_at hl 0 rfl) ?_
    refine bl_getr X V ha0 fl_X9_26 rfl dX9_quiet_21 (fun h7 => ?_)
    obtain ⟨r8, σ9, h10, hf⟩ := bl_bd_at hf
    refine bl_cVi (As := [.ref (bl_ad g (bl_R σ4 a0 2))]) X V hl.1 h6 rfl ml_X9_161 mV_X2_passChance (t_X2_passChance l g σ4 (bl_R σ4 a0 4) (bl_R σ4 a0 2) _ h6 h7 h10) rfl rfl ⟨Nat.le_of_ble_eq_true rfl, Nat.le_of_ble_eq_true rfl⟩ rfl rfl (Nat.le_of_ble_eq_true rfl) ⟨Nat.zero_le _, Nat.zero_le _⟩ dX9_quiet_24 (fun H locs V => ?_)
    exact bl_reti X V hr hf dX9_quiet_27
  · have hf := bl_ifp c2 hf
    refine lv_iconst (v := (-1)) X.1 X.2.1 dX9_quiet_10 (by decide) ?_
    exact bl_reti X V hr hf dX9_quiet_11
set_option maxHeartbeats 4000000 in
set_option maxRecDepth 100000 in
theorem t_X9_loss (l : Launch) (g : bl_Gp) (σ : bl_St) (a0 : Nat) (a1 : Int32) (a2 : Int32) (o : Int32 × bl_St) (ha0 : bl_sh[a0]? = some (9, 13)) (hf : f_X9_loss σ a0 a1 a2 = some o) : bl_Ci l g yX9_loss cX9_loss 4 (Option.some Jvm.ClassFile.FieldType.int) (bl_rm 4 90) [.ref (bl_ad g a0), .int a1, .int a2] σ o := by
  refine bl_met (by decide) (Nat.le_of_ble_eq_true rfl) (fun p e s m below meth c ls X hr V hl => ?_)
  have hl : lv_has ls 4 [(0, .ref (bl_ad g a0)), (1, .int a1), (2, .int a2)] := hl
  unfold f_X9_loss at hf
  refine lv_aload_n X.1 X.2.1 dX9_loss_0 rfl (lv_at hl 0 rfl) ?_
  refine bl_getr X V ha0 fl_X9_36 rfl dX9_loss_1 (fun h1 => ?_)
  refine bl_geti X V h1 fl_X9_150 dX9_loss_4 ?_
  refine lv_if_eq (tgt := 21) X.1 X.2.1 dX9_loss_7 (by decide) (fun c2 => ?_) (fun c2 => ?_)
  · have hf := bl_ifp c2 hf
    refine lv_iconst (v := (-1)) X.1 X.2.1 dX9_loss_21 (by decide) ?_
    exact bl_reti X V hr hf dX9_loss_22
  · have hf := bl_ifn c2 hf
    refine lv_aload_n X.1 X.2.1 dX9_loss_10 rfl (lv_at hl 0 rfl) ?_
    refine bl_getr X V ha0 fl_X9_26 rfl dX9_loss_11 (fun h3 => ?_)
    refine lv_iload_n X.1 X.2.1 dX9_loss_14 rfl (lv_at hl 1 rfl) ?_
    obtain ⟨r4, σ5, h6, hf⟩ := bl_bd_at hf
    refine bl_cVi (As := [.int a1]) X V hl.1 h3 rfl ml_X9_133 mV_X8_hasSort (t_X8_hasSort l g σ (bl_R σ a0 2) a1 _ h3 h6) rfl rfl ⟨Nat.le_of_ble_eq_true rfl, Nat.le_of_ble_eq_true rfl⟩ rfl rfl (Nat.le_of_ble_eq_true rfl) ⟨Nat.zero_le _, Nat.zero_le _⟩ dX9_loss_15 (fun H locs V => ?_)
    refine lv_if_ne (tgt := 23) X.1 X.2.1 dX9_loss_18 (by decide) (fun c7 => ?_) (fun c7 => ?_)
    · have hf := bl_ifn c7 hf
      refine lv_aload_n X.1 X.2.1 dX9_loss_23 rfl (lv_at hl 0 rfl) ?_
      obtain ⟨r8, σ9, h10, hf⟩ := bl_bd_at hf
      refine bl_cVv (As := []) X V hl.1 ha0 rfl ml_X9_126 mV_X9_keepForUndo (t_X9_keepForUndo l g σ5 a0 _ ha0 h10) rfl rfl ⟨Nat.le_of_ble_eq_true rfl, Nat.le_of_ble_eq_true rfl⟩ rfl rfl (Nat.le_of_ble_eq_true rfl) ⟨Nat.zero_le _, Nat.zero_le _⟩ dX9_loss_24 (fun H locs V => ?_)
      refine lv_aload_n X.1 X.2.1 dX9_loss_27 rfl (lv_at hl 0 rfl) ?_
      refine bl_getr X V ha0 fl_X9_36 rfl dX9_loss_28 (fun h11 => ?_)
      refine lv_aload_n X.1 X.2.1 dX9_loss_31 rfl (lv_at hl 0 rfl) ?_
      refine bl_getr X V ha0 fl_X9_26 rfl dX9_loss_32 (fun h12 => ?_)
      refine lv_iload_n X.1 X.2.1 dX9_loss_35 rfl (lv_at hl 1 rfl) ?_
      refine lv_iload_n X.1 X.2.1 dX9_loss_36 rfl (lv_at hl 2 rfl) ?_
      obtain ⟨r13, σ14, h15, hf⟩ := bl_bd_at hf
      refine bl_cVi (As := [.ref (bl_ad g (bl_R σ9 a0 2)), .int a1, .int a2]) X V hl.1 h11 rfl ml_X9_165 mV_X2_takeLoss (t_X2_takeLoss l g σ9 (bl_R σ9 a0 4) (bl_R σ9 a0 2) a1 a2 _ h11 h12 h15) rfl rfl ⟨Nat.le_of_ble_eq_true rfl, Nat.le_of_ble_eq_true rfl⟩ rfl rfl (Nat.le_of_ble_eq_true rfl) ⟨Nat.zero_le _, Nat.zero_le _⟩ dX9_loss_37 (fun H locs V => ?_)
      refine lv_istore_n (lv' := [(3, .int r13), (0, .ref (bl_ad g a0)), (1, .int a1), (2, .int a2)]) X.1 X.2.1 dX9_loss_40 rfl hl (by decide) rfl (fun ls hl => ?_)
      refine lv_aload_n X.1 X.2.1 dX9_loss_41 rfl (lv_at hl 1 rfl) ?_
      refine bl_getr X V ha0 fl_X9_36 rfl dX9_loss_42 (fun h16 => ?_)
      refine lv_aload_n X.1 X.2.1 dX9_loss_45 rfl (lv_at hl 1 rfl) ?_
      refine bl_getr X V ha0 fl_X9_26 rfl dX9_loss_46 (fun h17 => ?_)
      obtain ⟨r18, σ19, h20, hf⟩ := bl_bd_at hf
      refine bl_cVi (As := [.ref (bl_ad g (bl_R σ14 a0 2))]) X V hl.1 h16 rfl ml_X9_161 mV_X2_passChance (t_X2_passChance l g σ14 (bl_R σ14 a0 4) (bl_R σ14 a0 2) _ h16 h17 h20) rfl rfl ⟨Nat.le_of_ble_eq_true rfl, Nat.le_of_ble_eq_true rfl⟩ rfl rfl (Nat.le_of_ble_eq_true rfl) ⟨Nat.zero_le _, Nat.zero_le _⟩ dX9_loss_49 (fun H locs V => ?_)
      refine lv_pop X.1 X.2.1 dX9_loss_52 rfl ?_
      refine lv_iload_n X.1 X.2.1 dX9_loss_53 rfl (lv_at hl 0 rfl) ?_
      exact bl_reti X V hr hf dX9_loss_54
    · have hf := bl_ifp c7 hf
      refine lv_iconst (v := (-1)) X.1 X.2.1 dX9_loss_21 (by decide) ?_
      exact bl_reti X V hr hf dX9_loss_22
set_option maxHeartbeats 4000000 in
set_option maxRecDepth 100000 in
theorem t_X9_isThumb (l : Launch) (g : bl_Gp) (σ : bl_St) (a0 : Int32) (a1 : Int32) (o : Int32 × bl_St) (hf : f_X9_isThumb σ a0 a1 = some o) : bl_Ci l g yX9_isThumb cX9_isThumb 2 (Option.some Jvm.ClassFile.FieldType.boolean) (bl_rm 0 0) [.int a0, .int a1] σ o := by
  refine bl_met (by decide) (Nat.le_of_ble_eq_true rfl) (fun p e s m below meth c ls X hr V hl => ?_)
  have hl : lv_has ls 2 [(0, .int a0), (1, .int a1)] := hl
  unfold f_X9_isThumb at hf
  refine lv_iload_n X.1 X.2.1 dX9_isThumb_0 rfl (lv_at hl 0 rfl) ?_
  refine lv_iconst (v := 3) X.1 X.2.1 dX9_isThumb_1 (by decide) ?_
  refine lv_icmp_ne (tgt := 22) X.1 X.2.1 dX9_isThumb_2 (by decide) (fun c1 => ?_) (fun c1 => ?_)
  · have hf := bl_ifn c1 hf
    refine lv_iload_n X.1 X.2.1 dX9_isThumb_22 rfl (lv_at hl 0 rfl) ?_
    refine lv_if_lt (tgt := 39) X.1 X.2.1 dX9_isThumb_23 (by decide) (fun c2 => ?_) (fun c2 => ?_)
    · have hf := bl_ifp c2 hf
      refine lv_iconst (v := 0) X.1 X.2.1 dX9_isThumb_39 (by decide) ?_
      exact bl_retz X V hr (by decide) hf dX9_isThumb_40
    · have hf := bl_ifn c2 hf
      refine lv_iload_n X.1 X.2.1 dX9_isThumb_26 rfl (lv_at hl 0 rfl) ?_
      refine lv_iconst (v := 3) X.1 X.2.1 dX9_isThumb_27 (by decide) ?_
      refine lv_icmp_ge (tgt := 39) X.1 X.2.1 dX9_isThumb_28 (by decide) (fun c3 => ?_) (fun c3 => ?_)
      · have hf := bl_ifp c3 hf
        refine lv_iconst (v := 0) X.1 X.2.1 dX9_isThumb_39 (by decide) ?_
        exact bl_retz X V hr (by decide) hf dX9_isThumb_40
      · have hf := bl_ifn c3 hf
        refine lv_iload_n X.1 X.2.1 dX9_isThumb_31 rfl (lv_at hl 1 rfl) ?_
        refine lv_if_ne (tgt := 39) X.1 X.2.1 dX9_isThumb_32 (by decide) (fun c4 => ?_) (fun c4 => ?_)
        · have hf := bl_ifn c4 hf
          refine lv_iconst (v := 0) X.1 X.2.1 dX9_isThumb_39 (by decide) ?_
          exact bl_retz X V hr (by decide) hf dX9_isThumb_40
        · have hf := bl_ifp c4 hf
          refine lv_iconst (v := 1) X.1 X.2.1 dX9_isThumb_35 (by decide) ?_
          refine lv_goto (tgt := 40) X.1 X.2.1 dX9_isThumb_36 (by decide) ?_
          exact bl_retz X V hr (by decide) hf dX9_isThumb_40
  · have hf := bl_ifp c1 hf
    refine lv_iload_n X.1 X.2.1 dX9_isThumb_5 rfl (lv_at hl 1 rfl) ?_
    refine lv_if_lt (tgt := 20) X.1 X.2.1 dX9_isThumb_6 (by decide) (fun c5 => ?_) (fun c5 => ?_)
    · have hf := bl_ifp c5 hf
      refine lv_iconst (v := 0) X.1 X.2.1 dX9_isThumb_20 (by decide) ?_
      exact bl_retz X V hr (by decide) hf dX9_isThumb_21
    · have hf := bl_ifn c5 hf
      refine lv_iload_n X.1 X.2.1 dX9_isThumb_9 rfl (lv_at hl 1 rfl) ?_
      refine lv_sipush (v := 999) X.1 X.2.1 dX9_isThumb_10 (by decide) ?_
      refine lv_icmp_gt (tgt := 20) X.1 X.2.1 dX9_isThumb_13 (by decide) (fun c6 => ?_) (fun c6 => ?_)
      · have hf := bl_ifp c6 hf
        refine lv_iconst (v := 0) X.1 X.2.1 dX9_isThumb_20 (by decide) ?_
        exact bl_retz X V hr (by decide) hf dX9_isThumb_21
      · have hf := bl_ifn c6 hf
        refine lv_iconst (v := 1) X.1 X.2.1 dX9_isThumb_16 (by decide) ?_
        refine lv_goto (tgt := 21) X.1 X.2.1 dX9_isThumb_17 (by decide) ?_
        exact bl_retz X V hr (by decide) hf dX9_isThumb_21
set_option maxHeartbeats 4000000 in
set_option maxRecDepth 100000 in
theorem t_X9_canLive (l : Launch) (g : bl_Gp) (σ : bl_St) (a0 : Nat) (a1 : Int32) (a2 : Int32) (a3 : Int32) (o : Int32 × bl_St) (ha0 : bl_sh[a0]? = some (9, 13)) (hf : f_X9_canLive σ a0 a1 a2 a3 = some o) : bl_Ci l g yX9_canLive cX9_canLive 4 (Option.some Jvm.ClassFile.FieldType.boolean) (bl_rm 1 21) [.ref (bl_ad g a0), .int a1, .int a2, .int a3] σ o := by
  refine bl_met (by decide) (Nat.le_of_ble_eq_true rfl) (fun p e s m below meth c ls X hr V hl => ?_)
  have hl : lv_has ls 4 [(0, .ref (bl_ad g a0)), (1, .int a1), (2, .int a2), (3, .int a3)] := hl
  unfold f_X9_canLive at hf
  refine lv_aload_n X.1 X.2.1 dX9_canLive_0 rfl (lv_at hl 0 rfl) ?_
  refine bl_getr X V ha0 fl_X9_26 rfl dX9_canLive_1 (fun h1 => ?_)
  refine bl_geti X V h1 fl_X9_111 dX9_canLive_4 ?_
  refine lv_if_le (tgt := 33) X.1 X.2.1 dX9_canLive_7 (by decide) (fun c2 => ?_) (fun c2 => ?_)
  · have hf := bl_ifp c2 hf
    refine lv_iconst (v := 0) X.1 X.2.1 dX9_canLive_33 (by decide) ?_
    exact bl_retz X V hr (by decide) hf dX9_canLive_34
  · have hf := bl_ifn c2 hf
    refine lv_iload_n X.1 X.2.1 dX9_canLive_10 rfl (lv_at hl 1 rfl) ?_
    refine lv_iconst (v := 1) X.1 X.2.1 dX9_canLive_11 (by decide) ?_
    refine lv_icmp_lt (tgt := 33) X.1 X.2.1 dX9_canLive_12 (by decide) (fun c3 => ?_) (fun c3 => ?_)
    · have hf := bl_ifp c3 hf
      refine lv_iconst (v := 0) X.1 X.2.1 dX9_canLive_33 (by decide) ?_
      exact bl_retz X V hr (by decide) hf dX9_canLive_34
    · have hf := bl_ifn c3 hf
      refine lv_iload_n X.1 X.2.1 dX9_canLive_15 rfl (lv_at hl 1 rfl) ?_
      refine lv_bipush (v := 20) X.1 X.2.1 dX9_canLive_16 (by decide) ?_
      refine lv_icmp_gt (tgt := 33) X.1 X.2.1 dX9_canLive_18 (by decide) (fun c4 => ?_) (fun c4 => ?_)
      · have hf := bl_ifp c4 hf
        refine lv_iconst (v := 0) X.1 X.2.1 dX9_canLive_33 (by decide) ?_
        exact bl_retz X V hr (by decide) hf dX9_canLive_34
      · have hf := bl_ifn c4 hf
        refine lv_iload_n X.1 X.2.1 dX9_canLive_21 rfl (lv_at hl 2 rfl) ?_
        refine lv_iload_n X.1 X.2.1 dX9_canLive_22 rfl (lv_at hl 3 rfl) ?_
        obtain ⟨r5, σ6, h7, hf⟩ := bl_bd_at hf
        refine bl_cSi (As := [.int a2, .int a3]) X V hl.1 ml_X9_297 mS_X9_isThumb (t_X9_isThumb l g σ a2 a3 _  h7) rfl rfl ⟨Nat.le_of_ble_eq_true rfl, Nat.le_of_ble_eq_true rfl⟩ rfl rfl (Nat.le_of_ble_eq_true rfl) ⟨Nat.zero_le _, Nat.zero_le _⟩ dX9_canLive_23 (fun H locs V => ?_)
        refine lv_if_eq (tgt := 33) X.1 X.2.1 dX9_canLive_26 (by decide) (fun c8 => ?_) (fun c8 => ?_)
        · have hf := bl_ifp c8 hf
          refine lv_iconst (v := 0) X.1 X.2.1 dX9_canLive_33 (by decide) ?_
          exact bl_retz X V hr (by decide) hf dX9_canLive_34
        · have hf := bl_ifn c8 hf
          refine lv_iconst (v := 1) X.1 X.2.1 dX9_canLive_29 (by decide) ?_
          refine lv_goto (tgt := 34) X.1 X.2.1 dX9_canLive_30 (by decide) ?_
          exact bl_retz X V hr (by decide) hf dX9_canLive_34
set_option maxHeartbeats 4000000 in
set_option maxRecDepth 100000 in
theorem t_X9_isTold (l : Launch) (g : bl_Gp) (σ : bl_St) (a0 : Nat) (a1 : Nat) (a2 : Int32) (a3 : Int32) (a4 : Int32) (o : Int32 × bl_St) (ha0 : bl_sh[a0]? = some (9, 13)) (ha1 : bl_sh[a1]? = some (2, 15)) (hf : f_X9_isTold σ a0 a1 a2 a3 a4 = some o) : bl_Ci l g yX9_isTold cX9_isTold 5 (Option.some Jvm.ClassFile.FieldType.boolean) (bl_rm 4 91) [.ref (bl_ad g a0), .ref (bl_ad g a1), .int a2, .int a3, .int a4] σ o := by
  refine bl_met (by decide) (Nat.le_of_ble_eq_true rfl) (fun p e s m below meth c ls X hr V hl => ?_)
  have hl : lv_has ls 5 [(0, .ref (bl_ad g a0)), (1, .ref (bl_ad g a1)), (2, .int a2), (3, .int a3), (4, .int a4)] := hl
  unfold f_X9_isTold at hf
  refine lv_iload_n X.1 X.2.1 dX9_isTold_0 rfl (lv_at hl 2 rfl) ?_
  by_cases c1 : a2 = 1
  · have hf := bl_ifp c1 hf
    refine bl_swI (v := 1) (tgt := 28) X dX9_isTold_1 (by rw [c1]; decide) (by decide) rfl (by decide) ?_
    refine lv_iconst (v := 1) X.1 X.2.1 dX9_isTold_28 (by decide) ?_
    exact bl_retz X V hr (by decide) hf dX9_isTold_29
  have hf := bl_ifn c1 hf
  by_cases c2 : a2 = 2
  · have hf := bl_ifp c2 hf
    refine bl_swI (v := 2) (tgt := 30) X dX9_isTold_1 (by rw [c2]; decide) (by decide) rfl (by decide) ?_
    refine lv_iconst (v := 0) X.1 X.2.1 dX9_isTold_30 (by decide) ?_
    exact bl_retz X V hr (by decide) hf dX9_isTold_31
  have hf := bl_ifn c2 hf
  by_cases c3 : a2 = 3
  · have hf := bl_ifp c3 hf
    refine bl_swI (v := 3) (tgt := 32) X dX9_isTold_1 (by rw [c3]; decide) (by decide) rfl (by decide) ?_
    refine lv_aload_n X.1 X.2.1 dX9_isTold_32 rfl (lv_at hl 0 rfl) ?_
    refine bl_getr X V ha0 fl_X9_26 rfl dX9_isTold_33 (fun h4 => ?_)
    refine lv_iload X.1 X.2.1 dX9_isTold_36 (lv_at hl 4 rfl) ?_
    refine lv_iconst (v := 0) X.1 X.2.1 dX9_isTold_38 (by decide) ?_
    obtain ⟨r5, σ6, h7, hf⟩ := bl_bd_at hf
    refine bl_cVi (As := [.int a4, .int 0]) X V hl.1 h4 rfl ml_X9_140 mV_X8_sortPart (t_X8_sortPart l g σ (bl_R σ a0 2) a4 0 _ h4 h7) rfl rfl ⟨Nat.le_of_ble_eq_true rfl, Nat.le_of_ble_eq_true rfl⟩ rfl rfl (Nat.le_of_ble_eq_true rfl) ⟨Nat.zero_le _, Nat.zero_le _⟩ dX9_isTold_39 (fun H locs V => ?_)
    refine lv_iload_n X.1 X.2.1 dX9_isTold_42 rfl (lv_at hl 3 rfl) ?_
    refine lv_icmp_le (tgt := 50) X.1 X.2.1 dX9_isTold_43 (by decide) (fun c8 => ?_) (fun c8 => ?_)
    · have hf := bl_ifp c8 hf
      refine lv_iconst (v := 0) X.1 X.2.1 dX9_isTold_50 (by decide) ?_
      exact bl_retz X V hr (by decide) hf dX9_isTold_51
    · have hf := bl_ifn c8 hf
      refine lv_iconst (v := 1) X.1 X.2.1 dX9_isTold_46 (by decide) ?_
      refine lv_goto (tgt := 51) X.1 X.2.1 dX9_isTold_47 (by decide) ?_
      exact bl_retz X V hr (by decide) hf dX9_isTold_51
  have hf := bl_ifn c3 hf
  have c1 := lv_neT (a := 1) c1 (by decide)
  have c2 := lv_neT (a := 2) c2 (by decide)
  have c3 := lv_neT (a := 3) c3 (by decide)
  refine bl_swO (tgt := 52) X dX9_isTold_1 (by omega) (by decide) ?_
  refine lv_aload_n X.1 X.2.1 dX9_isTold_52 rfl (lv_at hl 0 rfl) ?_
  refine bl_getr X V ha0 fl_X9_55 rfl dX9_isTold_53 (fun h9 => ?_)
  refine lv_aload_n X.1 X.2.1 dX9_isTold_56 rfl (lv_at hl 1 rfl) ?_
  refine bl_geti X V ha1 fl_X9_203 dX9_isTold_57 ?_
  refine lv_iconst (v := 2) X.1 X.2.1 dX9_isTold_60 (by decide) ?_
  refine lv_aload_n X.1 X.2.1 dX9_isTold_61 rfl (lv_at hl 1 rfl) ?_
  refine bl_geti X V ha1 fl_X9_206 dX9_isTold_62 ?_
  refine bl_mini X hl.1 mm_X9_243 ⟨Nat.le_of_ble_eq_true rfl, Nat.le_of_ble_eq_true rfl⟩ ⟨Nat.zero_le _, Nat.zero_le _⟩ dX9_isTold_65 ?_
  refine lv_aload_n X.1 X.2.1 dX9_isTold_68 rfl (lv_at hl 1 rfl) ?_
  refine bl_geti X V ha1 fl_X9_209 dX9_isTold_69 ?_
  refine lv_iload X.1 X.2.1 dX9_isTold_72 (lv_at hl 4 rfl) ?_
  obtain ⟨r10, σ11, h12, hf⟩ := bl_bd_at hf
  refine bl_cVl (As := [.int (bl_I σ a1 2), .int (if (bl_I σ a1 3) < 2 then (bl_I σ a1 3) else 2), .int (bl_I σ a1 4), .int a4]) X V hl.1 h9 rfl ml_X9_285 mV_X4_gainOf (t_X4_gainOf l g σ (bl_R σ a0 7) (bl_I σ a1 2) (if (bl_I σ a1 3) < 2 then (bl_I σ a1 3) else 2) (bl_I σ a1 4) a4 _ h9 h12) rfl rfl ⟨Nat.le_of_ble_eq_true rfl, Nat.le_of_ble_eq_true rfl⟩ rfl rfl (Nat.le_of_ble_eq_true rfl) ⟨Nat.zero_le _, Nat.zero_le _⟩ dX9_isTold_74 (fun H locs V => ?_)
  refine lv_lconst (v := 0) X.1 X.2.1 dX9_isTold_77 (by decide) ?_
  refine bl_lc_le (tgt := 86) X dX9_isTold_78 dX9_isTold_79 (by decide) (fun c13 => ?_) (fun c13 => ?_)
  · have hf := bl_ifp c13 hf
    refine lv_iconst (v := 0) X.1 X.2.1 dX9_isTold_86 (by decide) ?_
    exact bl_retz X V hr (by decide) hf dX9_isTold_87
  · have hf := bl_ifn c13 hf
    refine lv_iconst (v := 1) X.1 X.2.1 dX9_isTold_82 (by decide) ?_
    refine lv_goto (tgt := 87) X.1 X.2.1 dX9_isTold_83 (by decide) ?_
    exact bl_retz X V hr (by decide) hf dX9_isTold_87
set_option maxHeartbeats 4000000 in
set_option maxRecDepth 100000 in
theorem w_X9_liveOneYear_109 {p : Program} {l : Launch} {e : Env} {s : State} {m : MethodId} {below : List Frame} {meth : Method} {c : Code} {g : bl_Gp} {as : List Value} {out : Unit × bl_St} (X : bl_Cx g p s m as.toArray meth c cX9_liveOneYear 9 RX9) (hr : meth.sig.returnType = (Option.none : Option Jvm.ClassFile.FieldType)) (k49 : bl_St → Nat → Nat → Int32 → Int32 → Int32 → Int32 → Option (Unit × bl_St)) (hk49 : ∀ (σ : bl_St) (v0 : Nat) (v1 : Nat) (v3 : Int32) (v4 : Int32) (v6 : Int32) (v7 : Int32), bl_sh[v0]? = some (9, 13) → bl_sh[v1]? = some (2, 15) → k49 σ v0 v1 v3 v4 v6 v7 = some out → ∀ (H : Heap) (locs : List Loc) (ls : Array Slot), bl_V g s σ H locs → lv_has ls 9 [(0, .ref (bl_ad g v0)), (1, .ref (bl_ad g v1)), (3, .int v3), (4, .int v4), (6, .int v6), (7, .int v7)] → W p l e (bl_rm 5 115) s m as.toArray below meth c H locs 0 0 (bl_Qv below g s as out) (F0 m 49 ls [])) : ∀ (σ : bl_St) (v0 : Nat) (v1 : Nat) (v3 : Int32) (v4 : Int32) (v6 : Int32) (v7 : Int32), bl_sh[v0]? = some (9, 13) → bl_sh[v1]? = some (2, 15) → (b_X9_liveOneYear_109 k49) σ v0 v1 v3 v4 v6 v7 = some out → ∀ (H : Heap) (locs : List Loc) (ls : Array Slot), bl_V g s σ H locs → lv_has ls 9 [(0, .ref (bl_ad g v0)), (1, .ref (bl_ad g v1)), (3, .int v3), (4, .int v4), (6, .int v6), (7, .int v7)] → W p l e (bl_rm 5 115) s m as.toArray below meth c H locs 0 0 (bl_Qv below g s as out) (F0 m 109 ls []) := by
  intro σ v0 v1 v3 v4 v6 v7 hv0 hv1 hf H locs ls V hl
  unfold b_X9_liveOneYear_109 at hf
  refine lv_aload_n X.1 X.2.1 dX9_liveOneYear_109 rfl (lv_at hl 1 rfl) ?_
  refine lv_aload_n X.1 X.2.1 dX9_liveOneYear_110 rfl (lv_at hl 0 rfl) ?_
  refine bl_getr X V hv0 fl_X9_26 rfl dX9_liveOneYear_111 (fun h1 => ?_)
  obtain ⟨r2, σ3, h4, hf⟩ := bl_bd_at hf
  refine bl_cVi (As := [.ref (bl_ad g (bl_R σ v0 2))]) X V hl.1 hv1 rfl ml_X9_161 mV_X2_passChance (t_X2_passChance l g σ v1 (bl_R σ v0 2) _ hv1 h1 h4) rfl rfl ⟨Nat.le_of_ble_eq_true rfl, Nat.le_of_ble_eq_true rfl⟩ rfl rfl (Nat.le_of_ble_eq_true rfl) ⟨Nat.zero_le _, Nat.zero_le _⟩ dX9_liveOneYear_114 (fun H locs V => ?_)
  refine lv_pop X.1 X.2.1 dX9_liveOneYear_117 rfl ?_
  obtain ⟨x5, e6⟩ : ∃ z : Int32, z = v7 + 1 := ⟨_, rfl⟩
  have hf := bl_let_at e6 hf
  refine lv_iinc (v := x5) (lv' := [(7, .int x5), (0, .ref (bl_ad g v0)), (1, .ref (bl_ad g v1)), (3, .int v3), (4, .int v4), (6, .int v6)]) X.1 X.2.1 dX9_liveOneYear_118 hl (k := 5) rfl (by rw [e6]; rfl) (by decide) rfl (fun ls hl => ?_)
  refine lv_goto (tgt := 49) X.1 X.2.1 dX9_liveOneYear_121 (by decide) ?_
  exact hk49 σ3 v0 v1 v3 v4 v6 x5 hv0 hv1 hf _ _ _ V (lv_sub hl [1, 2, 3, 4, 5, 0] rfl)
set_option maxHeartbeats 4000000 in
set_option maxRecDepth 100000 in
theorem w_X9_liveOneYear_49 {p : Program} {l : Launch} {e : Env} {s : State} {m : MethodId} {below : List Frame} {meth : Method} {c : Code} {g : bl_Gp} {as : List Value} {out : Unit × bl_St} (X : bl_Cx g p s m as.toArray meth c cX9_liveOneYear 9 RX9) (hr : meth.sig.returnType = (Option.none : Option Jvm.ClassFile.FieldType)) (k49 : bl_St → Nat → Nat → Int32 → Int32 → Int32 → Int32 → Option (Unit × bl_St)) (hk49 : ∀ (σ : bl_St) (v0 : Nat) (v1 : Nat) (v3 : Int32) (v4 : Int32) (v6 : Int32) (v7 : Int32), bl_sh[v0]? = some (9, 13) → bl_sh[v1]? = some (2, 15) → k49 σ v0 v1 v3 v4 v6 v7 = some out → ∀ (H : Heap) (locs : List Loc) (ls : Array Slot), bl_V g s σ H locs → lv_has ls 9 [(0, .ref (bl_ad g v0)), (1, .ref (bl_ad g v1)), (3, .int v3), (4, .int v4), (6, .int v6), (7, .int v7)] → W p l e (bl_rm 5 115) s m as.toArray below meth c H locs 0 0 (bl_Qv below g s as out) (F0 m 49 ls [])) : ∀ (σ : bl_St) (v0 : Nat) (v1 : Nat) (v3 : Int32) (v4 : Int32) (v6 : Int32) (v7 : Int32), bl_sh[v0]? = some (9, 13) → bl_sh[v1]? = some (2, 15) → (b_X9_liveOneYear_49 k49) σ v0 v1 v3 v4 v6 v7 = some out → ∀ (H : Heap) (locs : List Loc) (ls : Array Slot), bl_V g s σ H locs → lv_has ls 9 [(0, .ref (bl_ad g v0)), (1, .ref (bl_ad g v1)), (3, .int v3), (4, .int v4), (6, .int v6), (7, .int v7)] → W p l e (bl_rm 5 115) s m as.toArray below meth c H locs 0 0 (bl_Qv below g s as out) (F0 m 49 ls []) := by
  intro σ v0 v1 v3 v4 v6 v7 hv0 hv1 hf H locs ls V hl
  unfold b_X9_liveOneYear_49 at hf
  refine lv_iload X.1 X.2.1 dX9_liveOneYear_49 (lv_at hl 5 rfl) ?_
  refine lv_iload X.1 X.2.1 dX9_liveOneYear_51 (lv_at hl 4 rfl) ?_
  refine lv_icmp_ge (tgt := 124) X.1 X.2.1 dX9_liveOneYear_53 (by decide) (fun c7 => ?_) (fun c7 => ?_)
  · have hf := bl_ifp c7 hf
    exact bl_retv X V hr hf dX9_liveOneYear_124
  · have hf := bl_ifn c7 hf
    refine lv_aload_n X.1 X.2.1 dX9_liveOneYear_56 rfl (lv_at hl 0 rfl) ?_
    refine bl_getr X V hv0 fl_X9_72 rfl dX9_liveOneYear_57 (fun h8 => ?_)
    refine lv_bipush (v := 12) X.1 X.2.1 dX9_liveOneYear_60 (by decide) ?_
    obtain ⟨r9, σ10, h11, hf⟩ := bl_bd_at hf
    refine bl_cVi (As := [.int 12]) X V hl.1 h8 rfl ml_X9_404 mV_X0_next (t_X0_next l g σ (bl_R σ v0 10) 12 _ h8 h11) rfl rfl ⟨Nat.le_of_ble_eq_true rfl, Nat.le_of_ble_eq_true rfl⟩ rfl rfl (Nat.le_of_ble_eq_true rfl) ⟨Nat.zero_le _, Nat.zero_le _⟩ dX9_liveOneYear_62 (fun H locs V => ?_)
    refine lv_aload_n X.1 X.2.1 dX9_liveOneYear_65 rfl (lv_at hl 0 rfl) ?_
    refine bl_getr X V hv0 fl_X9_26 rfl dX9_liveOneYear_66 (fun h12 => ?_)
    obtain ⟨r13, σ14, h15, hf⟩ := bl_bd_at hf
    refine bl_cVi (As := []) X V hl.1 h12 rfl ml_X9_200 mV_X8_odds (t_X8_odds l g σ10 (bl_R σ10 v0 2) _ h12 h15) rfl rfl ⟨Nat.le_of_ble_eq_true rfl, Nat.le_of_ble_eq_true rfl⟩ rfl rfl (Nat.le_of_ble_eq_true rfl) ⟨Nat.zero_le _, Nat.zero_le _⟩ dX9_liveOneYear_69 (fun H locs V => ?_)
    refine lv_icmp_ge (tgt := 109) X.1 X.2.1 dX9_liveOneYear_72 (by decide) (fun c16 => ?_) (fun c16 => ?_)
    · have hf := bl_ifp c16 hf
      exact w_X9_liveOneYear_109 X hr k49 hk49 σ14 v0 v1 v3 v4 v6 v7 hv0 hv1 hf _ _ _ V (lv_sub hl [0, 1, 2, 3, 4, 5] rfl)
    · have hf := bl_ifn c16 hf
      refine lv_aload_n X.1 X.2.1 dX9_liveOneYear_75 rfl (lv_at hl 0 rfl) ?_
      refine bl_getr X V hv0 fl_X9_72 rfl dX9_liveOneYear_76 (fun h17 => ?_)
      refine lv_aload_n X.1 X.2.1 dX9_liveOneYear_79 rfl (lv_at hl 0 rfl) ?_
      refine bl_getr X V hv0 fl_X9_26 rfl dX9_liveOneYear_80 (fun h18 => ?_)
      obtain ⟨r19, σ20, h21, hf⟩ := bl_bd_at hf
      refine bl_cVi (As := [.ref (bl_ad g (bl_R σ14 v0 2))]) X V hl.1 h17 rfl ml_X9_406 mV_X0_nextSort (t_X0_nextSort l g σ14 (bl_R σ14 v0 10) (bl_R σ14 v0 2) _ h17 h18 h21) rfl rfl ⟨Nat.le_of_ble_eq_true rfl, Nat.le_of_ble_eq_true rfl⟩ rfl rfl (Nat.le_of_ble_eq_true rfl) ⟨Nat.zero_le _, Nat.zero_le _⟩ dX9_liveOneYear_83 (fun H locs V => ?_)
      refine lv_istore (lv' := [(8, .int r19), (0, .ref (bl_ad g v0)), (1, .ref (bl_ad g v1)), (3, .int v3), (4, .int v4), (6, .int v6), (7, .int v7)]) X.1 X.2.1 dX9_liveOneYear_86 hl (by decide) rfl (fun ls hl => ?_)
      refine lv_aload_n X.1 X.2.1 dX9_liveOneYear_88 rfl (lv_at hl 2 rfl) ?_
      refine lv_aload_n X.1 X.2.1 dX9_liveOneYear_89 rfl (lv_at hl 1 rfl) ?_
      refine bl_getr X V hv0 fl_X9_26 rfl dX9_liveOneYear_90 (fun h22 => ?_)
      refine lv_iload X.1 X.2.1 dX9_liveOneYear_93 (lv_at hl 0 rfl) ?_
      refine lv_aload_n X.1 X.2.1 dX9_liveOneYear_95 rfl (lv_at hl 1 rfl) ?_
      refine lv_aload_n X.1 X.2.1 dX9_liveOneYear_96 rfl (lv_at hl 2 rfl) ?_
      refine lv_iload_n X.1 X.2.1 dX9_liveOneYear_97 rfl (lv_at hl 3 rfl) ?_
      refine lv_iload X.1 X.2.1 dX9_liveOneYear_98 (lv_at hl 4 rfl) ?_
      refine lv_iload X.1 X.2.1 dX9_liveOneYear_100 (lv_at hl 0 rfl) ?_
      obtain ⟨r23, σ24, h25, hf⟩ := bl_bd_at hf
      refine bl_cVi (As := [.ref (bl_ad g v1), .int v3, .int v4, .int r19]) X V hl.1 hv0 rfl ml_X9_409 mV_X9_isTold (t_X9_isTold l g σ20 v0 v1 v3 v4 r19 _ hv0 hv1 h25) rfl rfl ⟨Nat.le_of_ble_eq_true rfl, Nat.le_of_ble_eq_true rfl⟩ rfl rfl (Nat.le_of_ble_eq_true rfl) ⟨Nat.zero_le _, Nat.zero_le _⟩ dX9_liveOneYear_102 (fun H locs V => ?_)
      obtain ⟨r26, σ27, h28, hf⟩ := bl_bd_at hf
      refine bl_cVi (As := [.ref (bl_ad g (bl_R σ20 v0 2)), .int r19, .int r23]) X V hl.1 hv1 rfl ml_X9_165 mV_X2_takeLoss (t_X2_takeLoss l g σ24 v1 (bl_R σ20 v0 2) r19 r23 _ hv1 h22 h28) rfl rfl ⟨Nat.le_of_ble_eq_true rfl, Nat.le_of_ble_eq_true rfl⟩ rfl rfl (Nat.le_of_ble_eq_true rfl) ⟨Nat.zero_le _, Nat.zero_le _⟩ dX9_liveOneYear_105 (fun H locs V => ?_)
      refine lv_pop X.1 X.2.1 dX9_liveOneYear_108 rfl ?_
      exact w_X9_liveOneYear_109 X hr k49 hk49 σ27 v0 v1 v3 v4 v6 v7 hv0 hv1 hf _ _ _ V (lv_sub hl [1, 2, 3, 4, 5, 6] rfl)
theorem l_X9_liveOneYear_49 {p : Program} {l : Launch} {e : Env} {s : State} {m : MethodId} {below : List Frame} {meth : Method} {c : Code} {g : bl_Gp} {as : List Value} {out : Unit × bl_St} (X : bl_Cx g p s m as.toArray meth c cX9_liveOneYear 9 RX9) (hr : meth.sig.returnType = (Option.none : Option Jvm.ClassFile.FieldType)) (n : Nat) : ∀ (σ : bl_St) (v0 : Nat) (v1 : Nat) (v3 : Int32) (v4 : Int32) (v6 : Int32) (v7 : Int32), bl_sh[v0]? = some (9, 13) → bl_sh[v1]? = some (2, 15) → (bl_fx (fun _ _ _ _ _ _ _ => none) (b_X9_liveOneYear_49 ) n) σ v0 v1 v3 v4 v6 v7 = some out → ∀ (H : Heap) (locs : List Loc) (ls : Array Slot), bl_V g s σ H locs → lv_has ls 9 [(0, .ref (bl_ad g v0)), (1, .ref (bl_ad g v1)), (3, .int v3), (4, .int v4), (6, .int v6), (7, .int v7)] → W p l e (bl_rm 5 115) s m as.toArray below meth c H locs 0 0 (bl_Qv below g s as out) (F0 m 49 ls []) := by
  induction n with
  | zero =>
    intro σ v0 v1 v3 v4 v6 v7 hv0 hv1 hf H locs ls V hl
    cases hf
  | succ n ih => exact w_X9_liveOneYear_49 X hr  _ ih
set_option maxHeartbeats 4000000 in
set_option maxRecDepth 100000 in
theorem w_X9_liveOneYear_24 {p : Program} {l : Launch} {e : Env} {s : State} {m : MethodId} {below : List Frame} {meth : Method} {c : Code} {g : bl_Gp} {as : List Value} {out : Unit × bl_St} (X : bl_Cx g p s m as.toArray meth c cX9_liveOneYear 9 RX9) (hr : meth.sig.returnType = (Option.none : Option Jvm.ClassFile.FieldType)) : ∀ (σ : bl_St) (v0 : Nat) (v1 : Nat) (v3 : Int32) (v4 : Int32) (s0 : Int32), bl_sh[v0]? = some (9, 13) → bl_sh[v1]? = some (2, 15) → (b_X9_liveOneYear_24 ) σ v0 v1 v3 v4 s0 = some out → ∀ (H : Heap) (locs : List Loc) (ls : Array Slot), bl_V g s σ H locs → lv_has ls 9 [(0, .ref (bl_ad g v0)), (1, .ref (bl_ad g v1)), (3, .int v3), (4, .int v4)] → W p l e (bl_rm 5 115) s m as.toArray below meth c H locs 0 0 (bl_Qv below g s as out) (F0 m 24 ls [.int s0]) := by
  intro σ v0 v1 v3 v4 s0 hv0 hv1 hf H locs ls V hl
  unfold b_X9_liveOneYear_24 at hf
  refine lv_istore (lv' := [(5, .int s0), (0, .ref (bl_ad g v0)), (1, .ref (bl_ad g v1)), (3, .int v3), (4, .int v4)]) X.1 X.2.1 dX9_liveOneYear_24 hl (by decide) rfl (fun ls hl => ?_)
  refine lv_aload_n X.1 X.2.1 dX9_liveOneYear_26 rfl (lv_at hl 1 rfl) ?_
  refine bl_getr X V hv0 fl_X9_26 rfl dX9_liveOneYear_27 (fun h29 => ?_)
  obtain ⟨r30, σ31, h32, hf⟩ := bl_bd_at hf
  refine bl_cVi (As := []) X V hl.1 h29 rfl ml_X9_278 mV_X8_chances (t_X8_chances l g σ (bl_R σ v0 2) _ h29 h32) rfl rfl ⟨Nat.le_of_ble_eq_true rfl, Nat.le_of_ble_eq_true rfl⟩ rfl rfl (Nat.le_of_ble_eq_true rfl) ⟨Nat.zero_le _, Nat.zero_le _⟩ dX9_liveOneYear_30 (fun H locs V => ?_)
  refine lv_istore (lv' := [(6, .int r30), (5, .int s0), (0, .ref (bl_ad g v0)), (1, .ref (bl_ad g v1)), (3, .int v3), (4, .int v4)]) X.1 X.2.1 dX9_liveOneYear_33 hl (by decide) rfl (fun ls hl => ?_)
  refine lv_aload_n X.1 X.2.1 dX9_liveOneYear_35 rfl (lv_at hl 3 rfl) ?_
  refine lv_aload_n X.1 X.2.1 dX9_liveOneYear_36 rfl (lv_at hl 2 rfl) ?_
  refine bl_getr X V hv0 fl_X9_26 rfl dX9_liveOneYear_37 (fun h33 => ?_)
  refine lv_iload X.1 X.2.1 dX9_liveOneYear_40 (lv_at hl 1 rfl) ?_
  obtain ⟨r34, σ35, h36, hf⟩ := bl_bd_at hf
  refine bl_cVi (As := [.ref (bl_ad g (bl_R σ31 v0 2)), .int s0]) X V hl.1 hv1 rfl ml_X9_157 mV_X2_startYear (t_X2_startYear l g σ31 v1 (bl_R σ31 v0 2) s0 _ hv1 h33 h36) rfl rfl ⟨Nat.le_of_ble_eq_true rfl, Nat.le_of_ble_eq_true rfl⟩ rfl rfl (Nat.le_of_ble_eq_true rfl) ⟨Nat.zero_le _, Nat.zero_le _⟩ dX9_liveOneYear_42 (fun H locs V => ?_)
  refine lv_pop X.1 X.2.1 dX9_liveOneYear_45 rfl ?_
  refine lv_iconst (v := 0) X.1 X.2.1 dX9_liveOneYear_46 (by decide) ?_
  refine lv_istore (lv' := [(7, .int 0), (6, .int r30), (5, .int s0), (0, .ref (bl_ad g v0)), (1, .ref (bl_ad g v1)), (3, .int v3), (4, .int v4)]) X.1 X.2.1 dX9_liveOneYear_47 hl (by decide) rfl (fun ls hl => ?_)
  exact l_X9_liveOneYear_49 X hr  bl_fu σ35 v0 v1 v3 v4 r30 0 hv0 hv1 hf _ _ _ V (lv_sub hl [3, 4, 5, 6, 1, 0] rfl)
set_option maxHeartbeats 4000000 in
set_option maxRecDepth 100000 in
theorem w_X9_liveOneYear_23 {p : Program} {l : Launch} {e : Env} {s : State} {m : MethodId} {below : List Frame} {meth : Method} {c : Code} {g : bl_Gp} {as : List Value} {out : Unit × bl_St} (X : bl_Cx g p s m as.toArray meth c cX9_liveOneYear 9 RX9) (hr : meth.sig.returnType = (Option.none : Option Jvm.ClassFile.FieldType)) : ∀ (σ : bl_St) (v0 : Nat) (v1 : Nat) (v3 : Int32) (v4 : Int32), bl_sh[v0]? = some (9, 13) → bl_sh[v1]? = some (2, 15) → (b_X9_liveOneYear_23 ) σ v0 v1 v3 v4 = some out → ∀ (H : Heap) (locs : List Loc) (ls : Array Slot), bl_V g s σ H locs → lv_has ls 9 [(0, .ref (bl_ad g v0)), (1, .ref (bl_ad g v1)), (3, .int v3), (4, .int v4)] → W p l e (bl_rm 5 115) s m as.toArray below meth c H locs 0 0 (bl_Qv below g s as out) (F0 m 23 ls []) := by
  intro σ v0 v1 v3 v4 hv0 hv1 hf H locs ls V hl
  unfold b_X9_liveOneYear_23 at hf
  refine lv_iconst (v := 0) X.1 X.2.1 dX9_liveOneYear_23 (by decide) ?_
  exact w_X9_liveOneYear_24 X hr  σ v0 v1 v3 v4 0 hv0 hv1 hf _ _ _ V (lv_sub hl [0, 1, 2, 3] rfl)
set_option maxHeartbeats 4000000 in
set_option maxRecDepth 100000 in
theorem t_X9_liveOneYear (l : Launch) (g : bl_Gp) (σ : bl_St) (a0 : Nat) (a1 : Nat) (a2 : Int32) (a3 : Int32) (a4 : Int32) (o : Unit × bl_St) (ha0 : bl_sh[a0]? = some (9, 13)) (ha1 : bl_sh[a1]? = some (2, 15)) (hf : f_X9_liveOneYear σ a0 a1 a2 a3 a4 = some o) : bl_Cv l g yX9_liveOneYear cX9_liveOneYear 9 (Option.none : Option Jvm.ClassFile.FieldType) (bl_rm 5 115) [.ref (bl_ad g a0), .ref (bl_ad g a1), .int a2, .int a3, .int a4] σ o := by
  refine bl_met (by decide) (Nat.le_of_ble_eq_true rfl) (fun p e s m below meth c ls X hr V hl => ?_)
  have hl : lv_has ls 9 [(0, .ref (bl_ad g a0)), (1, .ref (bl_ad g a1)), (2, .int a2), (3, .int a3), (4, .int a4)] := hl
  unfold f_X9_liveOneYear at hf
  refine lv_iload_n X.1 X.2.1 dX9_liveOneYear_0 rfl (lv_at hl 3 rfl) ?_
  refine lv_if_ne (tgt := 23) X.1 X.2.1 dX9_liveOneYear_1 (by decide) (fun c37 => ?_) (fun c37 => ?_)
  · have hf := bl_ifn c37 hf
    exact w_X9_liveOneYear_23 X hr  σ a0 a1 a3 a4 ha0 ha1 hf _ _ _ V (lv_sub hl [0, 1, 3, 4] rfl)
  · have hf := bl_ifp c37 hf
    refine lv_aload_n X.1 X.2.1 dX9_liveOneYear_4 rfl (lv_at hl 0 rfl) ?_
    refine bl_getr X V ha0 fl_X9_55 rfl dX9_liveOneYear_5 (fun h38 => ?_)
    refine lv_iload_n X.1 X.2.1 dX9_liveOneYear_8 rfl (lv_at hl 2 rfl) ?_
    refine lv_aload_n X.1 X.2.1 dX9_liveOneYear_9 rfl (lv_at hl 1 rfl) ?_
    refine bl_geti X V ha1 fl_X9_187 dX9_liveOneYear_10 ?_
    obtain ⟨r39, σ40, h41, hf⟩ := bl_bd_at hf
    refine bl_cVi (As := [.int a2, .int (bl_I σ a1 0)]) X V hl.1 h38 rfl ml_X9_263 mV_X4_buys (t_X4_buys l g σ (bl_R σ a0 7) a2 (bl_I σ a1 0) _ h38 h41) rfl rfl ⟨Nat.le_of_ble_eq_true rfl, Nat.le_of_ble_eq_true rfl⟩ rfl rfl (Nat.le_of_ble_eq_true rfl) ⟨Nat.zero_le _, Nat.zero_le _⟩ dX9_liveOneYear_13 (fun H locs V => ?_)
    refine lv_if_eq (tgt := 23) X.1 X.2.1 dX9_liveOneYear_16 (by decide) (fun c42 => ?_) (fun c42 => ?_)
    · have hf := bl_ifp c42 hf
      exact w_X9_liveOneYear_23 X hr  σ40 a0 a1 a3 a4 ha0 ha1 hf _ _ _ V (lv_sub hl [0, 1, 3, 4] rfl)
    · have hf := bl_ifn c42 hf
      refine lv_iconst (v := 1) X.1 X.2.1 dX9_liveOneYear_19 (by decide) ?_
      refine lv_goto (tgt := 24) X.1 X.2.1 dX9_liveOneYear_20 (by decide) ?_
      exact w_X9_liveOneYear_24 X hr  σ40 a0 a1 a3 a4 1 ha0 ha1 hf _ _ _ V (lv_sub hl [0, 1, 3, 4] rfl)
set_option maxHeartbeats 4000000 in
set_option maxRecDepth 100000 in
theorem w_X9_liveByDraws_30 {p : Program} {l : Launch} {e : Env} {s : State} {m : MethodId} {below : List Frame} {meth : Method} {c : Code} {g : bl_Gp} {as : List Value} {out : Int32 × bl_St} (X : bl_Cx g p s m as.toArray meth c cX9_liveByDraws 8 RX9) (hr : meth.sig.returnType = (Option.some Jvm.ClassFile.FieldType.int)) (k30 : bl_St → Nat → Nat → Int32 → Int32 → Int32 → Int32 → Option (Int32 × bl_St)) (hk30 : ∀ (σ : bl_St) (v0 : Nat) (v1 : Nat) (v3 : Int32) (v4 : Int32) (v6 : Int32) (v7 : Int32), bl_sh[v0]? = some (9, 13) → bl_sh[v1]? = some (2, 15) → k30 σ v0 v1 v3 v4 v6 v7 = some out → ∀ (H : Heap) (locs : List Loc) (ls : Array Slot), bl_V g s σ H locs → lv_has ls 8 [(0, .ref (bl_ad g v0)), (1, .ref (bl_ad g v1)), (3, .int v3), (4, .int v4), (6, .int v6), (7, .int v7)] → W p l e (bl_rm 6 143) s m as.toArray below meth c H locs 0 0 (bl_Qi below g s as out) (F0 m 30 ls [])) : ∀ (σ : bl_St) (v0 : Nat) (v1 : Nat) (v3 : Int32) (v4 : Int32) (v6 : Int32) (v7 : Int32), bl_sh[v0]? = some (9, 13) → bl_sh[v1]? = some (2, 15) → (b_X9_liveByDraws_30 k30) σ v0 v1 v3 v4 v6 v7 = some out → ∀ (H : Heap) (locs : List Loc) (ls : Array Slot), bl_V g s σ H locs → lv_has ls 8 [(0, .ref (bl_ad g v0)), (1, .ref (bl_ad g v1)), (3, .int v3), (4, .int v4), (6, .int v6), (7, .int v7)] → W p l e (bl_rm 6 143) s m as.toArray below meth c H locs 0 0 (bl_Qi below g s as out) (F0 m 30 ls []) := by
  intro σ v0 v1 v3 v4 v6 v7 hv0 hv1 hf H locs ls V hl
  unfold b_X9_liveByDraws_30 at hf
  refine lv_iload X.1 X.2.1 dX9_liveByDraws_30 (lv_at hl 5 rfl) ?_
  refine lv_if_le (tgt := 51) X.1 X.2.1 dX9_liveByDraws_32 (by decide) (fun c1 => ?_) (fun c1 => ?_)
  · have hf := bl_ifp c1 hf
    refine lv_aload_n X.1 X.2.1 dX9_liveByDraws_51 rfl (lv_at hl 1 rfl) ?_
    obtain ⟨r2, σ3, h4, hf⟩ := bl_bd_at hf
    refine bl_cVi (As := []) X V hl.1 hv1 rfl ml_X9_230 mV_X2_allPaid (t_X2_allPaid l g σ v1 _ hv1 h4) rfl rfl ⟨Nat.le_of_ble_eq_true rfl, Nat.le_of_ble_eq_true rfl⟩ rfl rfl (Nat.le_of_ble_eq_true rfl) ⟨Nat.zero_le _, Nat.zero_le _⟩ dX9_liveByDraws_52 (fun H locs V => ?_)
    refine lv_iload X.1 X.2.1 dX9_liveByDraws_55 (lv_at hl 4 rfl) ?_
    refine lv_isub X.1 X.2.1 dX9_liveByDraws_57 ?_
    exact bl_reti X V hr hf dX9_liveByDraws_58
  · have hf := bl_ifn c1 hf
    refine lv_aload_n X.1 X.2.1 dX9_liveByDraws_35 rfl (lv_at hl 0 rfl) ?_
    refine lv_aload_n X.1 X.2.1 dX9_liveByDraws_36 rfl (lv_at hl 1 rfl) ?_
    refine lv_iload X.1 X.2.1 dX9_liveByDraws_37 (lv_at hl 5 rfl) ?_
    refine lv_iload_n X.1 X.2.1 dX9_liveByDraws_39 rfl (lv_at hl 2 rfl) ?_
    refine lv_iload X.1 X.2.1 dX9_liveByDraws_40 (lv_at hl 3 rfl) ?_
    obtain ⟨r5, σ6, h7, hf⟩ := bl_bd_at hf
    refine bl_cVv (As := [.ref (bl_ad g v1), .int v7, .int v3, .int v4]) X V hl.1 hv0 rfl ml_X9_400 mV_X9_liveOneYear (t_X9_liveOneYear l g σ v0 v1 v7 v3 v4 _ hv0 hv1 h7) rfl rfl ⟨Nat.le_of_ble_eq_true rfl, Nat.le_of_ble_eq_true rfl⟩ rfl rfl (Nat.le_of_ble_eq_true rfl) ⟨Nat.zero_le _, Nat.zero_le _⟩ dX9_liveByDraws_42 (fun H locs V => ?_)
    obtain ⟨x8, e9⟩ : ∃ z : Int32, z = v7 + (-1) := ⟨_, rfl⟩
    have hf := bl_let_at e9 hf
    refine lv_iinc (v := x8) (lv' := [(7, .int x8), (0, .ref (bl_ad g v0)), (1, .ref (bl_ad g v1)), (3, .int v3), (4, .int v4), (6, .int v6)]) X.1 X.2.1 dX9_liveByDraws_45 hl (k := 5) rfl (by rw [e9]; rfl) (by decide) rfl (fun ls hl => ?_)
    refine lv_goto (tgt := 30) X.1 X.2.1 dX9_liveByDraws_48 (by decide) ?_
    exact hk30 σ6 v0 v1 v3 v4 v6 x8 hv0 hv1 hf _ _ _ V (lv_sub hl [1, 2, 3, 4, 5, 0] rfl)
theorem l_X9_liveByDraws_30 {p : Program} {l : Launch} {e : Env} {s : State} {m : MethodId} {below : List Frame} {meth : Method} {c : Code} {g : bl_Gp} {as : List Value} {out : Int32 × bl_St} (X : bl_Cx g p s m as.toArray meth c cX9_liveByDraws 8 RX9) (hr : meth.sig.returnType = (Option.some Jvm.ClassFile.FieldType.int)) (n : Nat) : ∀ (σ : bl_St) (v0 : Nat) (v1 : Nat) (v3 : Int32) (v4 : Int32) (v6 : Int32) (v7 : Int32), bl_sh[v0]? = some (9, 13) → bl_sh[v1]? = some (2, 15) → (bl_fx (fun _ _ _ _ _ _ _ => none) (b_X9_liveByDraws_30 ) n) σ v0 v1 v3 v4 v6 v7 = some out → ∀ (H : Heap) (locs : List Loc) (ls : Array Slot), bl_V g s σ H locs → lv_has ls 8 [(0, .ref (bl_ad g v0)), (1, .ref (bl_ad g v1)), (3, .int v3), (4, .int v4), (6, .int v6), (7, .int v7)] → W p l e (bl_rm 6 143) s m as.toArray below meth c H locs 0 0 (bl_Qi below g s as out) (F0 m 30 ls []) := by
  induction n with
  | zero =>
    intro σ v0 v1 v3 v4 v6 v7 hv0 hv1 hf H locs ls V hl
    cases hf
  | succ n ih => exact w_X9_liveByDraws_30 X hr  _ ih
set_option maxHeartbeats 4000000 in
set_option maxRecDepth 100000 in
theorem w_X9_liveByDraws_27 {p : Program} {l : Launch} {e : Env} {s : State} {m : MethodId} {below : List Frame} {meth : Method} {c : Code} {g : bl_Gp} {as : List Value} {out : Int32 × bl_St} (X : bl_Cx g p s m as.toArray meth c cX9_liveByDraws 8 RX9) (hr : meth.sig.returnType = (Option.some Jvm.ClassFile.FieldType.int)) : ∀ (σ : bl_St) (v0 : Nat) (v1 : Nat) (v2 : Int32) (v3 : Int32) (v4 : Int32) (v6 : Int32), bl_sh[v0]? = some (9, 13) → bl_sh[v1]? = some (2, 15) → (b_X9_liveByDraws_27 ) σ v0 v1 v2 v3 v4 v6 = some out → ∀ (H : Heap) (locs : List Loc) (ls : Array Slot), bl_V g s σ H locs → lv_has ls 8 [(0, .ref (bl_ad g v0)), (1, .ref (bl_ad g v1)), (2, .int v2), (3, .int v3), (4, .int v4), (6, .int v6)] → W p l e (bl_rm 6 143) s m as.toArray below meth c H locs 0 0 (bl_Qi below g s as out) (F0 m 27 ls []) := by
  intro σ v0 v1 v2 v3 v4 v6 hv0 hv1 hf H locs ls V hl
  unfold b_X9_liveByDraws_27 at hf
  refine lv_iload_n X.1 X.2.1 dX9_liveByDraws_27 rfl (lv_at hl 2 rfl) ?_
  refine lv_istore (lv' := [(7, .int v2), (0, .ref (bl_ad g v0)), (1, .ref (bl_ad g v1)), (2, .int v2), (3, .int v3), (4, .int v4), (6, .int v6)]) X.1 X.2.1 dX9_liveByDraws_28 hl (by decide) rfl (fun ls hl => ?_)
  exact l_X9_liveByDraws_30 X hr  bl_fu σ v0 v1 v3 v4 v6 v2 hv0 hv1 hf _ _ _ V (lv_sub hl [1, 2, 4, 5, 6, 0] rfl)
set_option maxHeartbeats 4000000 in
set_option maxRecDepth 100000 in
theorem t_X9_liveByDraws (l : Launch) (g : bl_Gp) (σ : bl_St) (a0 : Nat) (a1 : Nat) (a2 : Int32) (a3 : Int32) (a4 : Int32) (a5 : Int32) (o : Int32 × bl_St) (ha0 : bl_sh[a0]? = some (9, 13)) (ha1 : bl_sh[a1]? = some (2, 15)) (hf : f_X9_liveByDraws σ a0 a1 a2 a3 a4 a5 = some o) : bl_Ci l g yX9_liveByDraws cX9_liveByDraws 8 (Option.some Jvm.ClassFile.FieldType.int) (bl_rm 6 143) [.ref (bl_ad g a0), .ref (bl_ad g a1), .int a2, .int a3, .int a4, .int a5] σ o := by
  refine bl_met (by decide) (Nat.le_of_ble_eq_true rfl) (fun p e s m below meth c ls X hr V hl => ?_)
  have hl : lv_has ls 8 [(0, .ref (bl_ad g a0)), (1, .ref (bl_ad g a1)), (2, .int a2), (3, .int a3), (4, .int a4), (5, .int a5)] := hl
  unfold f_X9_liveByDraws at hf
  refine lv_aload_n X.1 X.2.1 dX9_liveByDraws_0 rfl (lv_at hl 1 rfl) ?_
  obtain ⟨r10, σ11, h12, hf⟩ := bl_bd_at hf
  refine bl_cVi (As := []) X V hl.1 ha1 rfl ml_X9_230 mV_X2_allPaid (t_X2_allPaid l g σ a1 _ ha1 h12) rfl rfl ⟨Nat.le_of_ble_eq_true rfl, Nat.le_of_ble_eq_true rfl⟩ rfl rfl (Nat.le_of_ble_eq_true rfl) ⟨Nat.zero_le _, Nat.zero_le _⟩ dX9_liveByDraws_1 (fun H locs V => ?_)
  refine lv_istore (lv' := [(6, .int r10), (0, .ref (bl_ad g a0)), (1, .ref (bl_ad g a1)), (2, .int a2), (3, .int a3), (4, .int a4), (5, .int a5)]) X.1 X.2.1 dX9_liveByDraws_4 hl (by decide) rfl (fun ls hl => ?_)
  refine lv_aload_n X.1 X.2.1 dX9_liveByDraws_6 rfl (lv_at hl 1 rfl) ?_
  refine bl_getr X V ha0 fl_X9_72 rfl dX9_liveByDraws_7 (fun h13 => ?_)
  refine lv_iload X.1 X.2.1 dX9_liveByDraws_10 (lv_at hl 6 rfl) ?_
  refine bl_puti X V h13 fp_X9_397 rfl rfl dX9_liveByDraws_12 (fun σ14 H locs e15 V => ?_)
  have hf := bl_let_at e15 hf
  refine lv_iload_n X.1 X.2.1 dX9_liveByDraws_15 rfl (lv_at hl 4 rfl) ?_
  refine lv_if_ne (tgt := 27) X.1 X.2.1 dX9_liveByDraws_16 (by decide) (fun c16 => ?_) (fun c16 => ?_)
  · have hf := bl_ifn c16 hf
    exact w_X9_liveByDraws_27 X hr  σ14 a0 a1 a2 a3 a4 r10 ha0 ha1 hf _ _ _ V (lv_sub hl [1, 2, 3, 4, 5, 0] rfl)
  · have hf := bl_ifp c16 hf
    refine lv_aload_n X.1 X.2.1 dX9_liveByDraws_19 rfl (lv_at hl 1 rfl) ?_
    refine bl_getr X V ha0 fl_X9_55 rfl dX9_liveByDraws_20 (fun h17 => ?_)
    refine lv_iload_n X.1 X.2.1 dX9_liveByDraws_23 rfl (lv_at hl 3 rfl) ?_
    obtain ⟨r18, σ19, h20, hf⟩ := bl_bd_at hf
    refine bl_cVv (As := [.int a2]) X V hl.1 h17 rfl ml_X9_260 mV_X4_learn (t_X4_learn l g σ14 (bl_R σ14 a0 7) a2 _ h17 h20) rfl rfl ⟨Nat.le_of_ble_eq_true rfl, Nat.le_of_ble_eq_true rfl⟩ rfl rfl (Nat.le_of_ble_eq_true rfl) ⟨Nat.zero_le _, Nat.zero_le _⟩ dX9_liveByDraws_24 (fun H locs V => ?_)
    exact w_X9_liveByDraws_27 X hr  σ19 a0 a1 a2 a3 a4 r10 ha0 ha1 hf _ _ _ V (lv_sub hl [1, 2, 3, 4, 5, 0] rfl)
set_option maxHeartbeats 4000000 in
set_option maxRecDepth 100000 in
theorem t_X9_live (l : Launch) (g : bl_Gp) (σ : bl_St) (a0 : Nat) (a1 : Int32) (a2 : Int32) (a3 : Int32) (a4 : Int32) (o : Int32 × bl_St) (ha0 : bl_sh[a0]? = some (9, 13)) (hf : f_X9_live σ a0 a1 a2 a3 a4 = some o) : bl_Ci l g yX9_live cX9_live 5 (Option.some Jvm.ClassFile.FieldType.int) (bl_rm 7 170) [.ref (bl_ad g a0), .int a1, .int a2, .int a3, .int a4] σ o := by
  refine bl_met (by decide) (Nat.le_of_ble_eq_true rfl) (fun p e s m below meth c ls X hr V hl => ?_)
  have hl : lv_has ls 5 [(0, .ref (bl_ad g a0)), (1, .int a1), (2, .int a2), (3, .int a3), (4, .int a4)] := hl
  unfold f_X9_live at hf
  refine lv_aload_n X.1 X.2.1 dX9_live_0 rfl (lv_at hl 0 rfl) ?_
  refine bl_getr X V ha0 fl_X9_36 rfl dX9_live_1 (fun h1 => ?_)
  refine bl_geti X V h1 fl_X9_150 dX9_live_4 ?_
  refine lv_if_ne (tgt := 20) X.1 X.2.1 dX9_live_7 (by decide) (fun c2 => ?_) (fun c2 => ?_)
  · have hf := bl_ifn c2 hf
    refine lv_iconst (v := (-1)) X.1 X.2.1 dX9_live_20 (by decide) ?_
    exact bl_reti X V hr hf dX9_live_21
  · have hf := bl_ifp c2 hf
    refine lv_aload_n X.1 X.2.1 dX9_live_10 rfl (lv_at hl 0 rfl) ?_
    refine lv_iload_n X.1 X.2.1 dX9_live_11 rfl (lv_at hl 1 rfl) ?_
    refine lv_iload_n X.1 X.2.1 dX9_live_12 rfl (lv_at hl 2 rfl) ?_
    refine lv_iload_n X.1 X.2.1 dX9_live_13 rfl (lv_at hl 3 rfl) ?_
    obtain ⟨r3, σ4, h5, hf⟩ := bl_bd_at hf
    refine bl_cVi (As := [.int a1, .int a2, .int a3]) X V hl.1 ha0 rfl ml_X9_169 mV_X9_canLive (t_X9_canLive l g σ a0 a1 a2 a3 _ ha0 h5) rfl rfl ⟨Nat.le_of_ble_eq_true rfl, Nat.le_of_ble_eq_true rfl⟩ rfl rfl (Nat.le_of_ble_eq_true rfl) ⟨Nat.zero_le _, Nat.zero_le _⟩ dX9_live_14 (fun H locs V => ?_)
    refine lv_if_ne (tgt := 22) X.1 X.2.1 dX9_live_17 (by decide) (fun c6 => ?_) (fun c6 => ?_)
    · have hf := bl_ifn c6 hf
      refine lv_aload_n X.1 X.2.1 dX9_live_22 rfl (lv_at hl 0 rfl) ?_
      obtain ⟨r7, σ8, h9, hf⟩ := bl_bd_at hf
      refine bl_cVv (As := []) X V hl.1 ha0 rfl ml_X9_126 mV_X9_keepForUndo (t_X9_keepForUndo l g σ4 a0 _ ha0 h9) rfl rfl ⟨Nat.le_of_ble_eq_true rfl, Nat.le_of_ble_eq_true rfl⟩ rfl rfl (Nat.le_of_ble_eq_true rfl) ⟨Nat.zero_le _, Nat.zero_le _⟩ dX9_live_23 (fun H locs V => ?_)
      refine lv_aload_n X.1 X.2.1 dX9_live_26 rfl (lv_at hl 0 rfl) ?_
      refine lv_aload_n X.1 X.2.1 dX9_live_27 rfl (lv_at hl 0 rfl) ?_
      refine bl_getr X V ha0 fl_X9_36 rfl dX9_live_28 (fun h10 => ?_)
      refine lv_iload_n X.1 X.2.1 dX9_live_31 rfl (lv_at hl 1 rfl) ?_
      refine lv_iload_n X.1 X.2.1 dX9_live_32 rfl (lv_at hl 2 rfl) ?_
      refine lv_iload_n X.1 X.2.1 dX9_live_33 rfl (lv_at hl 3 rfl) ?_
      refine lv_iload X.1 X.2.1 dX9_live_34 (lv_at hl 4 rfl) ?_
      obtain ⟨r11, σ12, h13, hf⟩ := bl_bd_at hf
      refine bl_cVi (As := [.ref (bl_ad g (bl_R σ8 a0 4)), .int a1, .int a2, .int a3, .int a4]) X V hl.1 ha0 rfl ml_X9_173 mV_X9_liveByDraws (t_X9_liveByDraws l g σ8 a0 (bl_R σ8 a0 4) a1 a2 a3 a4 _ ha0 h10 h13) rfl rfl ⟨Nat.le_of_ble_eq_true rfl, Nat.le_of_ble_eq_true rfl⟩ rfl rfl (Nat.le_of_ble_eq_true rfl) ⟨Nat.zero_le _, Nat.zero_le _⟩ dX9_live_36 (fun H locs V => ?_)
      exact bl_reti X V hr hf dX9_live_39
    · have hf := bl_ifp c6 hf
      refine lv_iconst (v := (-1)) X.1 X.2.1 dX9_live_20 (by decide) ?_
      exact bl_reti X V hr hf dX9_live_21
set_option maxHeartbeats 4000000 in
set_option maxRecDepth 100000 in
theorem t_X9_come (l : Launch) (g : bl_Gp) (σ : bl_St) (a0 : Nat) (a1 : Int32) (a2 : Int32) (o : Int32 × bl_St) (ha0 : bl_sh[a0]? = some (9, 13)) (hf : f_X9_come σ a0 a1 a2 = some o) : bl_Ci l g yX9_come cX9_come 3 (Option.some Jvm.ClassFile.FieldType.int) (bl_rm 4 81) [.ref (bl_ad g a0), .int a1, .int a2] σ o := by
  refine bl_met (by decide) (Nat.le_of_ble_eq_true rfl) (fun p e s m below meth c ls X hr V hl => ?_)
  have hl : lv_has ls 3 [(0, .ref (bl_ad g a0)), (1, .int a1), (2, .int a2)] := hl
  unfold f_X9_come at hf
  refine lv_iload_n X.1 X.2.1 dX9_come_0 rfl (lv_at hl 1 rfl) ?_
  refine lv_iconst (v := 1) X.1 X.2.1 dX9_come_1 (by decide) ?_
  refine lv_icmp_lt (tgt := 28) X.1 X.2.1 dX9_come_2 (by decide) (fun c1 => ?_) (fun c1 => ?_)
  · have hf := bl_ifp c1 hf
    refine lv_iconst (v := (-1)) X.1 X.2.1 dX9_come_28 (by decide) ?_
    exact bl_reti X V hr hf dX9_come_29
  · have hf := bl_ifn c1 hf
    refine lv_iload_n X.1 X.2.1 dX9_come_5 rfl (lv_at hl 1 rfl) ?_
    refine bl_sget X V X.2.2.2.2.2.2.1.1.2.1 gs_X9_136 dX9_come_6 (fun t2 h3 => ?_)
    refine lv_iconst (v := 0) X.1 X.2.1 dX9_come_9 (by decide) ?_
    refine bl_sld X V h3 (by decide +kernel) dX9_come_10 ?_
    refine lv_icmp_gt (tgt := 28) X.1 X.2.1 dX9_come_11 (by decide) (fun c4 => ?_) (fun c4 => ?_)
    · have hf := bl_ifp c4 hf
      refine lv_iconst (v := (-1)) X.1 X.2.1 dX9_come_28 (by decide) ?_
      exact bl_reti X V hr hf dX9_come_29
    · have hf := bl_ifn c4 hf
      refine lv_iload_n X.1 X.2.1 dX9_come_14 rfl (lv_at hl 2 rfl) ?_
      refine lv_iconst (v := 1) X.1 X.2.1 dX9_come_15 (by decide) ?_
      refine lv_icmp_lt (tgt := 28) X.1 X.2.1 dX9_come_16 (by decide) (fun c5 => ?_) (fun c5 => ?_)
      · have hf := bl_ifp c5 hf
        refine lv_iconst (v := (-1)) X.1 X.2.1 dX9_come_28 (by decide) ?_
        exact bl_reti X V hr hf dX9_come_29
      · have hf := bl_ifn c5 hf
        refine lv_iload_n X.1 X.2.1 dX9_come_19 rfl (lv_at hl 2 rfl) ?_
        refine bl_sget X V X.2.2.2.2.2.2.1.1.2.1 gs_X9_136 dX9_come_20 (fun t6 h7 => ?_)
        refine lv_iconst (v := 1) X.1 X.2.1 dX9_come_23 (by decide) ?_
        refine bl_sld X V h7 (by decide +kernel) dX9_come_24 ?_
        refine lv_icmp_le (tgt := 30) X.1 X.2.1 dX9_come_25 (by decide) (fun c8 => ?_) (fun c8 => ?_)
        · have hf := bl_ifp c8 hf
          refine lv_aload_n X.1 X.2.1 dX9_come_30 rfl (lv_at hl 0 rfl) ?_
          refine bl_getr X V ha0 fl_X9_26 rfl dX9_come_31 (fun h9 => ?_)
          refine bl_geti X V h9 fl_X9_177 dX9_come_34 ?_
          refine lv_iconst (v := 5) X.1 X.2.1 dX9_come_37 (by decide) ?_
          refine lv_icmp_ge (tgt := 51) X.1 X.2.1 dX9_come_38 (by decide) (fun c10 => ?_) (fun c10 => ?_)
          · have hf := bl_ifp c10 hf
            refine lv_iconst (v := (-1)) X.1 X.2.1 dX9_come_51 (by decide) ?_
            exact bl_reti X V hr hf dX9_come_52
          · have hf := bl_ifn c10 hf
            refine lv_aload_n X.1 X.2.1 dX9_come_41 rfl (lv_at hl 0 rfl) ?_
            refine bl_getr X V ha0 fl_X9_26 rfl dX9_come_42 (fun h11 => ?_)
            refine bl_geti X V h11 fl_X9_111 dX9_come_45 ?_
            refine lv_if_ne (tgt := 53) X.1 X.2.1 dX9_come_48 (by decide) (fun c12 => ?_) (fun c12 => ?_)
            · have hf := bl_ifn c12 hf
              refine lv_aload_n X.1 X.2.1 dX9_come_53 rfl (lv_at hl 0 rfl) ?_
              obtain ⟨r13, σ14, h15, hf⟩ := bl_bd_at hf
              refine bl_cVv (As := []) X V hl.1 ha0 rfl ml_X9_126 mV_X9_keepForUndo (t_X9_keepForUndo l g σ a0 _ ha0 h15) rfl rfl ⟨Nat.le_of_ble_eq_true rfl, Nat.le_of_ble_eq_true rfl⟩ rfl rfl (Nat.le_of_ble_eq_true rfl) ⟨Nat.zero_le _, Nat.zero_le _⟩ dX9_come_54 (fun H locs V => ?_)
              refine lv_aload_n X.1 X.2.1 dX9_come_57 rfl (lv_at hl 0 rfl) ?_
              refine bl_getr X V ha0 fl_X9_26 rfl dX9_come_58 (fun h16 => ?_)
              refine lv_iload_n X.1 X.2.1 dX9_come_61 rfl (lv_at hl 1 rfl) ?_
              refine lv_iload_n X.1 X.2.1 dX9_come_62 rfl (lv_at hl 2 rfl) ?_
              obtain ⟨r17, σ18, h19, hf⟩ := bl_bd_at hf
              refine bl_cVv (As := [.int a1, .int a2]) X V hl.1 h16 rfl ml_X9_180 mV_X8_addSort (t_X8_addSort l g σ14 (bl_R σ14 a0 2) a1 a2 _ h16 h19) rfl rfl ⟨Nat.le_of_ble_eq_true rfl, Nat.le_of_ble_eq_true rfl⟩ rfl rfl (Nat.le_of_ble_eq_true rfl) ⟨Nat.zero_le _, Nat.zero_le _⟩ dX9_come_63 (fun H locs V => ?_)
              refine lv_aload_n X.1 X.2.1 dX9_come_66 rfl (lv_at hl 0 rfl) ?_
              refine bl_getr X V ha0 fl_X9_26 rfl dX9_come_67 (fun h20 => ?_)
              refine bl_geti X V h20 fl_X9_177 dX9_come_70 ?_
              refine lv_iconst (v := 1) X.1 X.2.1 dX9_come_73 (by decide) ?_
              refine lv_isub X.1 X.2.1 dX9_come_74 ?_
              exact bl_reti X V hr hf dX9_come_75
            · have hf := bl_ifp c12 hf
              refine lv_iconst (v := (-1)) X.1 X.2.1 dX9_come_51 (by decide) ?_
              exact bl_reti X V hr hf dX9_come_52
        · have hf := bl_ifn c8 hf
          refine lv_iconst (v := (-1)) X.1 X.2.1 dX9_come_28 (by decide) ?_
          exact bl_reti X V hr hf dX9_come_29
set_option maxHeartbeats 4000000 in
set_option maxRecDepth 100000 in
theorem t_X9_drop (l : Launch) (g : bl_Gp) (σ : bl_St) (a0 : Nat) (a1 : Int32) (o : Int32 × bl_St) (ha0 : bl_sh[a0]? = some (9, 13)) (hf : f_X9_drop σ a0 a1 = some o) : bl_Ci l g yX9_drop cX9_drop 2 (Option.some Jvm.ClassFile.FieldType.int) (bl_rm 4 81) [.ref (bl_ad g a0), .int a1] σ o := by
  refine bl_met (by decide) (Nat.le_of_ble_eq_true rfl) (fun p e s m below meth c ls X hr V hl => ?_)
  have hl : lv_has ls 2 [(0, .ref (bl_ad g a0)), (1, .int a1)] := hl
  unfold f_X9_drop at hf
  refine lv_aload_n X.1 X.2.1 dX9_drop_0 rfl (lv_at hl 0 rfl) ?_
  refine bl_getr X V ha0 fl_X9_26 rfl dX9_drop_1 (fun h1 => ?_)
  refine lv_iload_n X.1 X.2.1 dX9_drop_4 rfl (lv_at hl 1 rfl) ?_
  obtain ⟨r2, σ3, h4, hf⟩ := bl_bd_at hf
  refine bl_cVi (As := [.int a1]) X V hl.1 h1 rfl ml_X9_133 mV_X8_hasSort (t_X8_hasSort l g σ (bl_R σ a0 2) a1 _ h1 h4) rfl rfl ⟨Nat.le_of_ble_eq_true rfl, Nat.le_of_ble_eq_true rfl⟩ rfl rfl (Nat.le_of_ble_eq_true rfl) ⟨Nat.zero_le _, Nat.zero_le _⟩ dX9_drop_5 (fun H locs V => ?_)
  refine lv_if_eq (tgt := 22) X.1 X.2.1 dX9_drop_8 (by decide) (fun c5 => ?_) (fun c5 => ?_)
  · have hf := bl_ifp c5 hf
    refine lv_iconst (v := (-1)) X.1 X.2.1 dX9_drop_22 (by decide) ?_
    exact bl_reti X V hr hf dX9_drop_23
  · have hf := bl_ifn c5 hf
    refine lv_aload_n X.1 X.2.1 dX9_drop_11 rfl (lv_at hl 0 rfl) ?_
    refine bl_getr X V ha0 fl_X9_26 rfl dX9_drop_12 (fun h6 => ?_)
    refine bl_geti X V h6 fl_X9_177 dX9_drop_15 ?_
    refine lv_iconst (v := 1) X.1 X.2.1 dX9_drop_18 (by decide) ?_
    refine lv_icmp_ne (tgt := 24) X.1 X.2.1 dX9_drop_19 (by decide) (fun c7 => ?_) (fun c7 => ?_)
    · have hf := bl_ifn c7 hf
      refine lv_aload_n X.1 X.2.1 dX9_drop_24 rfl (lv_at hl 0 rfl) ?_
      obtain ⟨r8, σ9, h10, hf⟩ := bl_bd_at hf
      refine bl_cVv (As := []) X V hl.1 ha0 rfl ml_X9_126 mV_X9_keepForUndo (t_X9_keepForUndo l g σ3 a0 _ ha0 h10) rfl rfl ⟨Nat.le_of_ble_eq_true rfl, Nat.le_of_ble_eq_true rfl⟩ rfl rfl (Nat.le_of_ble_eq_true rfl) ⟨Nat.zero_le _, Nat.zero_le _⟩ dX9_drop_25 (fun H locs V => ?_)
      refine lv_aload_n X.1 X.2.1 dX9_drop_28 rfl (lv_at hl 0 rfl) ?_
      refine bl_getr X V ha0 fl_X9_26 rfl dX9_drop_29 (fun h11 => ?_)
      refine lv_iload_n X.1 X.2.1 dX9_drop_32 rfl (lv_at hl 1 rfl) ?_
      obtain ⟨r12, σ13, h14, hf⟩ := bl_bd_at hf
      refine bl_cVv (As := [.int a1]) X V hl.1 h11 rfl ml_X9_184 mV_X8_removeSort (t_X8_removeSort l g σ9 (bl_R σ9 a0 2) a1 _ h11 h14) rfl rfl ⟨Nat.le_of_ble_eq_true rfl, Nat.le_of_ble_eq_true rfl⟩ rfl rfl (Nat.le_of_ble_eq_true rfl) ⟨Nat.zero_le _, Nat.zero_le _⟩ dX9_drop_33 (fun H locs V => ?_)
      refine lv_aload_n X.1 X.2.1 dX9_drop_36 rfl (lv_at hl 0 rfl) ?_
      refine bl_getr X V ha0 fl_X9_26 rfl dX9_drop_37 (fun h15 => ?_)
      refine bl_geti X V h15 fl_X9_177 dX9_drop_40 ?_
      exact bl_reti X V hr hf dX9_drop_43
    · have hf := bl_ifp c7 hf
      refine lv_iconst (v := (-1)) X.1 X.2.1 dX9_drop_22 (by decide) ?_
      exact bl_reti X V hr hf dX9_drop_23
set_option maxHeartbeats 4000000 in
set_option maxRecDepth 100000 in
theorem t_X9_move (l : Launch) (g : bl_Gp) (σ : bl_St) (a0 : Nat) (a1 : Int32) (o : Int32 × bl_St) (ha0 : bl_sh[a0]? = some (9, 13)) (hf : f_X9_move σ a0 a1 = some o) : bl_Ci l g yX9_move cX9_move 3 (Option.some Jvm.ClassFile.FieldType.int) (bl_rm 4 81) [.ref (bl_ad g a0), .int a1] σ o := by
  refine bl_met (by decide) (Nat.le_of_ble_eq_true rfl) (fun p e s m below meth c ls X hr V hl => ?_)
  have hl : lv_has ls 3 [(0, .ref (bl_ad g a0)), (1, .int a1)] := hl
  unfold f_X9_move at hf
  refine lv_aload_n X.1 X.2.1 dX9_move_0 rfl (lv_at hl 0 rfl) ?_
  refine bl_getr X V ha0 fl_X9_26 rfl dX9_move_1 (fun h1 => ?_)
  refine lv_iload_n X.1 X.2.1 dX9_move_4 rfl (lv_at hl 1 rfl) ?_
  obtain ⟨r2, σ3, h4, hf⟩ := bl_bd_at hf
  refine bl_cVi (As := [.int a1]) X V hl.1 h1 rfl ml_X9_114 mV_X8_hasClass (t_X8_hasClass l g σ (bl_R σ a0 2) a1 _ h1 h4) rfl rfl ⟨Nat.le_of_ble_eq_true rfl, Nat.le_of_ble_eq_true rfl⟩ rfl rfl (Nat.le_of_ble_eq_true rfl) ⟨Nat.zero_le _, Nat.zero_le _⟩ dX9_move_5 (fun H locs V => ?_)
  refine lv_if_eq (tgt := 32) X.1 X.2.1 dX9_move_8 (by decide) (fun c5 => ?_) (fun c5 => ?_)
  · have hf := bl_ifp c5 hf
    refine lv_iconst (v := (-1)) X.1 X.2.1 dX9_move_32 (by decide) ?_
    exact bl_reti X V hr hf dX9_move_33
  · have hf := bl_ifn c5 hf
    refine lv_aload_n X.1 X.2.1 dX9_move_11 rfl (lv_at hl 0 rfl) ?_
    refine bl_getr X V ha0 fl_X9_36 rfl dX9_move_12 (fun h6 => ?_)
    refine bl_geti X V h6 fl_X9_150 dX9_move_15 ?_
    refine lv_if_ne (tgt := 32) X.1 X.2.1 dX9_move_18 (by decide) (fun c7 => ?_) (fun c7 => ?_)
    · have hf := bl_ifn c7 hf
      refine lv_iconst (v := (-1)) X.1 X.2.1 dX9_move_32 (by decide) ?_
      exact bl_reti X V hr hf dX9_move_33
    · have hf := bl_ifp c7 hf
      refine lv_aload_n X.1 X.2.1 dX9_move_21 rfl (lv_at hl 0 rfl) ?_
      refine bl_getr X V ha0 fl_X9_36 rfl dX9_move_22 (fun h8 => ?_)
      refine bl_geti X V h8 fl_X9_187 dX9_move_25 ?_
      refine lv_iload_n X.1 X.2.1 dX9_move_28 rfl (lv_at hl 1 rfl) ?_
      refine lv_icmp_ne (tgt := 34) X.1 X.2.1 dX9_move_29 (by decide) (fun c9 => ?_) (fun c9 => ?_)
      · have hf := bl_ifn c9 hf
        refine lv_aload_n X.1 X.2.1 dX9_move_34 rfl (lv_at hl 0 rfl) ?_
        obtain ⟨r10, σ11, h12, hf⟩ := bl_bd_at hf
        refine bl_cVv (As := []) X V hl.1 ha0 rfl ml_X9_126 mV_X9_keepForUndo (t_X9_keepForUndo l g σ3 a0 _ ha0 h12) rfl rfl ⟨Nat.le_of_ble_eq_true rfl, Nat.le_of_ble_eq_true rfl⟩ rfl rfl (Nat.le_of_ble_eq_true rfl) ⟨Nat.zero_le _, Nat.zero_le _⟩ dX9_move_35 (fun H locs V => ?_)
        refine lv_aload_n X.1 X.2.1 dX9_move_38 rfl (lv_at hl 0 rfl) ?_
        refine bl_getr X V ha0 fl_X9_36 rfl dX9_move_39 (fun h13 => ?_)
        refine bl_geti X V h13 fl_X9_187 dX9_move_42 ?_
        refine lv_topi (fun x14 e15 => ?_)
        have hf := bl_let_at e15 hf
        refine lv_istore_n (lv' := [(2, .int x14), (0, .ref (bl_ad g a0)), (1, .int a1)]) X.1 X.2.1 dX9_move_45 rfl hl (by decide) rfl (fun ls hl => ?_)
        refine lv_aload_n X.1 X.2.1 dX9_move_46 rfl (lv_at hl 1 rfl) ?_
        refine bl_getr X V ha0 fl_X9_36 rfl dX9_move_47 (fun h16 => ?_)
        refine lv_iload_n X.1 X.2.1 dX9_move_50 rfl (lv_at hl 2 rfl) ?_
        refine bl_puti X V h16 fp_X9_187 rfl rfl dX9_move_51 (fun σ17 H locs e18 V => ?_)
        have hf := bl_let_at e18 hf
        refine lv_iload_n X.1 X.2.1 dX9_move_54 rfl (lv_at hl 0 rfl) ?_
        exact bl_reti X V hr hf dX9_move_55
      · have hf := bl_ifp c9 hf
        refine lv_iconst (v := (-1)) X.1 X.2.1 dX9_move_32 (by decide) ?_
        exact bl_reti X V hr hf dX9_move_33
set_option maxHeartbeats 4000000 in
set_option maxRecDepth 100000 in
theorem t_X9_anew (l : Launch) (g : bl_Gp) (σ : bl_St) (a0 : Nat) (o : Int32 × bl_St) (ha0 : bl_sh[a0]? = some (9, 13)) (hf : f_X9_anew σ a0 = some o) : bl_Ci l g yX9_anew cX9_anew 2 (Option.some Jvm.ClassFile.FieldType.int) (bl_rm 4 81) [.ref (bl_ad g a0)] σ o := by
  refine bl_met (by decide) (Nat.le_of_ble_eq_true rfl) (fun p e s m below meth c ls X hr V hl => ?_)
  have hl : lv_has ls 2 [(0, .ref (bl_ad g a0))] := hl
  unfold f_X9_anew at hf
  refine lv_aload_n X.1 X.2.1 dX9_anew_0 rfl (lv_at hl 0 rfl) ?_
  obtain ⟨r1, σ2, h3, hf⟩ := bl_bd_at hf
  refine bl_cVv (As := []) X V hl.1 ha0 rfl ml_X9_126 mV_X9_keepForUndo (t_X9_keepForUndo l g σ a0 _ ha0 h3) rfl rfl ⟨Nat.le_of_ble_eq_true rfl, Nat.le_of_ble_eq_true rfl⟩ rfl rfl (Nat.le_of_ble_eq_true rfl) ⟨Nat.zero_le _, Nat.zero_le _⟩ dX9_anew_1 (fun H locs V => ?_)
  refine lv_aload_n X.1 X.2.1 dX9_anew_4 rfl (lv_at hl 0 rfl) ?_
  refine bl_getr X V ha0 fl_X9_36 rfl dX9_anew_5 (fun h4 => ?_)
  refine bl_geti X V h4 fl_X9_190 dX9_anew_8 ?_
  refine lv_topi (fun x5 e6 => ?_)
  have hf := bl_let_at e6 hf
  refine lv_istore_n (lv' := [(1, .int x5), (0, .ref (bl_ad g a0))]) X.1 X.2.1 dX9_anew_11 rfl hl (by decide) rfl (fun ls hl => ?_)
  refine lv_aload_n X.1 X.2.1 dX9_anew_12 rfl (lv_at hl 1 rfl) ?_
  refine bl_getr X V ha0 fl_X9_36 rfl dX9_anew_13 (fun h7 => ?_)
  obtain ⟨r8, σ9, h10, hf⟩ := bl_bd_at hf
  refine bl_cVv (As := []) X V hl.1 h7 rfl ml_X9_101 mV_X2_clear (t_X2_clear l g σ2 (bl_R σ2 a0 4) _ h7 h10) rfl rfl ⟨Nat.le_of_ble_eq_true rfl, Nat.le_of_ble_eq_true rfl⟩ rfl rfl (Nat.le_of_ble_eq_true rfl) ⟨Nat.zero_le _, Nat.zero_le _⟩ dX9_anew_16 (fun H locs V => ?_)
  refine lv_iload_n X.1 X.2.1 dX9_anew_19 rfl (lv_at hl 0 rfl) ?_
  exact bl_reti X V hr hf dX9_anew_20
set_option maxHeartbeats 4000000 in
set_option maxRecDepth 100000 in
theorem t_X9_undo (l : Launch) (g : bl_Gp) (σ : bl_St) (a0 : Nat) (o : Int32 × bl_St) (ha0 : bl_sh[a0]? = some (9, 13)) (hf : f_X9_undo σ a0 = some o) : bl_Ci l g yX9_undo cX9_undo 1 (Option.some Jvm.ClassFile.FieldType.int) (bl_rm 3 61) [.ref (bl_ad g a0)] σ o := by
  refine bl_met (by decide) (Nat.le_of_ble_eq_true rfl) (fun p e s m below meth c ls X hr V hl => ?_)
  have hl : lv_has ls 1 [(0, .ref (bl_ad g a0))] := hl
  unfold f_X9_undo at hf
  refine lv_aload_n X.1 X.2.1 dX9_undo_0 rfl (lv_at hl 0 rfl) ?_
  refine bl_getr X V ha0 fl_X9_46 rfl dX9_undo_1 (fun h1 => ?_)
  refine lv_aload_n X.1 X.2.1 dX9_undo_4 rfl (lv_at hl 0 rfl) ?_
  refine bl_getr X V ha0 fl_X9_26 rfl dX9_undo_5 (fun h2 => ?_)
  refine lv_aload_n X.1 X.2.1 dX9_undo_8 rfl (lv_at hl 0 rfl) ?_
  refine bl_getr X V ha0 fl_X9_36 rfl dX9_undo_9 (fun h3 => ?_)
  obtain ⟨r4, σ5, h6, hf⟩ := bl_bd_at hf
  refine bl_cVi (As := [.ref (bl_ad g (bl_R σ a0 2)), .ref (bl_ad g (bl_R σ a0 4))]) X V hl.1 h1 rfl ml_X9_193 mV_X6_takeBack (t_X6_takeBack l g σ (bl_R σ a0 6) (bl_R σ a0 2) (bl_R σ a0 4) _ h1 h2 h3 h6) rfl rfl ⟨Nat.le_of_ble_eq_true rfl, Nat.le_of_ble_eq_true rfl⟩ rfl rfl (Nat.le_of_ble_eq_true rfl) ⟨Nat.zero_le _, Nat.zero_le _⟩ dX9_undo_12 (fun H locs V => ?_)
  refine lv_if_ne (tgt := 20) X.1 X.2.1 dX9_undo_15 (by decide) (fun c7 => ?_) (fun c7 => ?_)
  · have hf := bl_ifn c7 hf
    refine lv_aload_n X.1 X.2.1 dX9_undo_20 rfl (lv_at hl 0 rfl) ?_
    refine bl_getr X V ha0 fl_X9_55 rfl dX9_undo_21 (fun h8 => ?_)
    refine lv_aload_n X.1 X.2.1 dX9_undo_24 rfl (lv_at hl 0 rfl) ?_
    refine bl_getr X V ha0 fl_X9_26 rfl dX9_undo_25 (fun h9 => ?_)
    refine lv_iconst (v := 1) X.1 X.2.1 dX9_undo_28 (by decide) ?_
    obtain ⟨r10, σ11, h12, hf⟩ := bl_bd_at hf
    refine bl_cVv (As := [.ref (bl_ad g (bl_R σ5 a0 2)), .int 1]) X V hl.1 h8 rfl ml_X9_107 mV_X4_look (t_X4_look l g σ5 (bl_R σ5 a0 7) (bl_R σ5 a0 2) 1 _ h8 h9 h12) rfl rfl ⟨Nat.le_of_ble_eq_true rfl, Nat.le_of_ble_eq_true rfl⟩ rfl rfl (Nat.le_of_ble_eq_true rfl) ⟨Nat.zero_le _, Nat.zero_le _⟩ dX9_undo_29 (fun H locs V => ?_)
    refine lv_aload_n X.1 X.2.1 dX9_undo_32 rfl (lv_at hl 0 rfl) ?_
    refine bl_getr X V ha0 fl_X9_46 rfl dX9_undo_33 (fun h13 => ?_)
    refine bl_geti X V h13 fl_X9_197 dX9_undo_36 ?_
    exact bl_reti X V hr hf dX9_undo_39
  · have hf := bl_ifp c7 hf
    refine lv_iconst (v := (-1)) X.1 X.2.1 dX9_undo_18 (by decide) ?_
    exact bl_reti X V hr hf dX9_undo_19
set_option maxHeartbeats 4000000 in
set_option maxRecDepth 100000 in
theorem t_X9_of (l : Launch) (g : bl_Gp) (σ : bl_St) (a0 : Nat) (a1 : Int32) (a2 : Int32) (o : Int32 × bl_St) (ha0 : bl_sh[a0]? = some (9, 13)) (hf : f_X9_of σ a0 a1 a2 = some o) : bl_Ci l g yX9_of cX9_of 3 (Option.some Jvm.ClassFile.FieldType.int) (bl_rm 1 22) [.ref (bl_ad g a0), .int a1, .int a2] σ o := by
  refine bl_met (by decide) (Nat.le_of_ble_eq_true rfl) (fun p e s m below meth c ls X hr V hl => ?_)
  have hl : lv_has ls 3 [(0, .ref (bl_ad g a0)), (1, .int a1), (2, .int a2)] := hl
  unfold f_X9_of at hf
  refine lv_aload_n X.1 X.2.1 dX9_of_0 rfl (lv_at hl 0 rfl) ?_
  refine bl_getr X V ha0 fl_X9_26 rfl dX9_of_1 (fun h1 => ?_)
  refine lv_iload_n X.1 X.2.1 dX9_of_4 rfl (lv_at hl 1 rfl) ?_
  obtain ⟨r2, σ3, h4, hf⟩ := bl_bd_at hf
  refine bl_cVi (As := [.int a1]) X V hl.1 h1 rfl ml_X9_114 mV_X8_hasClass (t_X8_hasClass l g σ (bl_R σ a0 2) a1 _ h1 h4) rfl rfl ⟨Nat.le_of_ble_eq_true rfl, Nat.le_of_ble_eq_true rfl⟩ rfl rfl (Nat.le_of_ble_eq_true rfl) ⟨Nat.zero_le _, Nat.zero_le _⟩ dX9_of_5 (fun H locs V => ?_)
  refine lv_if_eq (tgt := 20) X.1 X.2.1 dX9_of_8 (by decide) (fun c5 => ?_) (fun c5 => ?_)
  · have hf := bl_ifp c5 hf
    refine lv_iconst (v := (-1)) X.1 X.2.1 dX9_of_20 (by decide) ?_
    exact bl_reti X V hr hf dX9_of_21
  · have hf := bl_ifn c5 hf
    refine lv_iload_n X.1 X.2.1 dX9_of_11 rfl (lv_at hl 2 rfl) ?_
    refine lv_if_lt (tgt := 20) X.1 X.2.1 dX9_of_12 (by decide) (fun c6 => ?_) (fun c6 => ?_)
    · have hf := bl_ifp c6 hf
      refine lv_iconst (v := (-1)) X.1 X.2.1 dX9_of_20 (by decide) ?_
      exact bl_reti X V hr hf dX9_of_21
    · have hf := bl_ifn c6 hf
      refine lv_iload_n X.1 X.2.1 dX9_of_15 rfl (lv_at hl 2 rfl) ?_
      refine lv_iconst (v := 5) X.1 X.2.1 dX9_of_16 (by decide) ?_
      refine lv_icmp_lt (tgt := 22) X.1 X.2.1 dX9_of_17 (by decide) (fun c7 => ?_) (fun c7 => ?_)
      · have hf := bl_ifp c7 hf
        refine lv_aload_n X.1 X.2.1 dX9_of_22 rfl (lv_at hl 0 rfl) ?_
        refine bl_getr X V ha0 fl_X9_26 rfl dX9_of_23 (fun h8 => ?_)
        refine lv_iload_n X.1 X.2.1 dX9_of_26 rfl (lv_at hl 1 rfl) ?_
        refine lv_iload_n X.1 X.2.1 dX9_of_27 rfl (lv_at hl 2 rfl) ?_
        obtain ⟨r9, σ10, h11, hf⟩ := bl_bd_at hf
        refine bl_cVi (As := [.int a1, .int a2]) X V hl.1 h8 rfl ml_X9_122 mV_X8_part (t_X8_part l g σ3 (bl_R σ3 a0 2) a1 a2 _ h8 h11) rfl rfl ⟨Nat.le_of_ble_eq_true rfl, Nat.le_of_ble_eq_true rfl⟩ rfl rfl (Nat.le_of_ble_eq_true rfl) ⟨Nat.zero_le _, Nat.zero_le _⟩ dX9_of_28 (fun H locs V => ?_)
        exact bl_reti X V hr hf dX9_of_31
      · have hf := bl_ifn c7 hf
        refine lv_iconst (v := (-1)) X.1 X.2.1 dX9_of_20 (by decide) ?_
        exact bl_reti X V hr hf dX9_of_21
