set_option maxHeartbeats 4000000 in
set_option maxRecDepth 100000 in
theorem w_X9_spreadOneYear_42 {p : Program} {l : Launch} {e : Env} {s : State} {m : MethodId} {below : List Frame} {meth : Method} {c : Code} {g : bl_Gp} {as : List Value} {out : Unit × bl_St} (X : bl_Cx g p s m as.toArray meth c cX9_spreadOneYear 4 RX9) (hr : meth.sig.returnType = (Option.none : Option Jvm.ClassFile.FieldType)) (k23 : bl_St → Nat → Int32 → Option (Unit × bl_St)) (hk23 : ∀ (σ : bl_St) (v0 : Nat) (v1 : Int32), bl_sh[v0]? = some (9, 13) → k23 σ v0 v1 = some out → ∀ (H : Heap) (locs : List Loc) (ls : Array Slot), bl_V g s σ H locs → lv_has ls 4 [(0, .ref (bl_ad g v0)), (1, .int v1)] → W p l e (bl_rm 2 44) s m as.toArray below meth c H locs 0 0 (bl_Qv below g s as out) (F0 m 23 ls [])) (k42 : bl_St → Nat → Int32 → Int32 → Int32 → Option (Unit × bl_St)) (hk42 : ∀ (σ : bl_St) (v0 : Nat) (v1 : Int32) (v2 : Int32) (v3 : Int32), bl_sh[v0]? = some (9, 13) → k42 σ v0 v1 v2 v3 = some out → ∀ (H : Heap) (locs : List Loc) (ls : Array Slot), bl_V g s σ H locs → lv_has ls 4 [(0, .ref (bl_ad g v0)), (1, .int v1), (2, .int v2), (3, .int v3)] → W p l e (bl_rm 2 44) s m as.toArray below meth c H locs 0 0 (bl_Qv below g s as out) (F0 m 42 ls [])) : ∀ (σ : bl_St) (v0 : Nat) (v1 : Int32) (v2 : Int32) (v3 : Int32), bl_sh[v0]? = some (9, 13) → (b_X9_spreadOneYear_42 k23 k42) σ v0 v1 v2 v3 = some out → ∀ (H : Heap) (locs : List Loc) (ls : Array Slot), bl_V g s σ H locs → lv_has ls 4 [(0, .ref (bl_ad g v0)), (1, .int v1), (2, .int v2), (3, .int v3)] → W p l e (bl_rm 2 44) s m as.toArray below meth c H locs 0 0 (bl_Qv below g s as out) (F0 m 42 ls []) := by
  intro σ v0 v1 v2 v3 hv0 hf H locs ls V hl
  unfold b_X9_spreadOneYear_42 at hf
  refine lv_iload_n X.1 X.2.1 dX9_spreadOneYear_42 rfl (lv_at hl 3 rfl) ?_
  refine lv_aload_n X.1 X.2.1 dX9_spreadOneYear_43 rfl (lv_at hl 0 rfl) ?_
  refine bl_getr X V hv0 fl_X9_26 rfl dX9_spreadOneYear_44 (fun h1 => ?_)
  refine bl_geti X V h1 fl_X9_111 dX9_spreadOneYear_47 ?_
  refine lv_icmp_ge (tgt := 85) X.1 X.2.1 dX9_spreadOneYear_50 (by decide) (fun c2 => ?_) (fun c2 => ?_)
  · have hf := bl_ifp c2 hf
    obtain ⟨x3, e4⟩ : ∃ z : Int32, z = v1 + 1 := ⟨_, rfl⟩
    have hf := bl_let_at e4 hf
    refine lv_iinc (v := x3) (lv' := [(1, .int x3), (0, .ref (bl_ad g v0)), (2, .int v2), (3, .int v3)]) X.1 X.2.1 dX9_spreadOneYear_85 hl (k := 1) rfl (by rw [e4]; rfl) (by decide) rfl (fun ls hl => ?_)
    refine lv_goto (tgt := 23) X.1 X.2.1 dX9_spreadOneYear_88 (by decide) ?_
    exact hk23 σ v0 x3 hv0 hf _ _ _ V (lv_sub hl [1, 0] rfl)
  · have hf := bl_ifn c2 hf
    refine lv_aload_n X.1 X.2.1 dX9_spreadOneYear_53 rfl (lv_at hl 0 rfl) ?_
    refine bl_getr X V hv0 fl_X9_80 rfl dX9_spreadOneYear_54 (fun h5 => ?_)
    refine lv_aload_n X.1 X.2.1 dX9_spreadOneYear_57 rfl (lv_at hl 0 rfl) ?_
    refine bl_getr X V hv0 fl_X9_26 rfl dX9_spreadOneYear_58 (fun h6 => ?_)
    refine lv_iload_n X.1 X.2.1 dX9_spreadOneYear_61 rfl (lv_at hl 3 rfl) ?_
    refine lv_iload_n X.1 X.2.1 dX9_spreadOneYear_62 rfl (lv_at hl 1 rfl) ?_
    obtain ⟨r7, σ8, h9, hf⟩ := bl_bd_at hf
    refine bl_cVi (As := [.int v3, .int v1]) X V hl.1 h6 rfl ml_X9_307 mV_X8_next (t_X8_next l g σ (bl_R σ v0 2) v3 v1 _ h6 h9) rfl rfl ⟨Nat.le_of_ble_eq_true rfl, Nat.le_of_ble_eq_true rfl⟩ rfl rfl (Nat.le_of_ble_eq_true rfl) ⟨Nat.zero_le _, Nat.zero_le _⟩ dX9_spreadOneYear_63 (fun H locs V => ?_)
    refine lv_dup2_11 X.1 X.2.1 dX9_spreadOneYear_66 rfl rfl ?_
    obtain ⟨h10, hf⟩ := bl_gd_at hf
    refine bl_lald (k := (Int32.toNatClampNeg r7)) X V h5 h10 rfl dX9_spreadOneYear_67 ?_
    refine lv_aload_n X.1 X.2.1 dX9_spreadOneYear_68 rfl (lv_at hl 0 rfl) ?_
    refine bl_getr X V hv0 fl_X9_76 rfl dX9_spreadOneYear_69 (fun h11 => ?_)
    refine lv_iload_n X.1 X.2.1 dX9_spreadOneYear_72 rfl (lv_at hl 3 rfl) ?_
    obtain ⟨h12, hf⟩ := bl_gd_at hf
    refine bl_lald (k := (Int32.toNatClampNeg v3)) X V h11 h12 rfl dX9_spreadOneYear_73 ?_
    refine lv_iload_n X.1 X.2.1 dX9_spreadOneYear_74 rfl (lv_at hl 2 rfl) ?_
    refine lv_i2l X.1 X.2.1 dX9_spreadOneYear_75 rfl ?_
    refine lv_lmul X.1 X.2.1 dX9_spreadOneYear_76 ?_
    refine lv_ladd X.1 X.2.1 dX9_spreadOneYear_77 ?_
    obtain ⟨h13, hf⟩ := bl_gd_at hf
    refine bl_last (k := (Int32.toNatClampNeg r7)) X V h5 h13 rfl dX9_spreadOneYear_78 (fun σ14 H locs e15 V => ?_)
    have hf := bl_let_at e15 hf
    obtain ⟨x16, e17⟩ : ∃ z : Int32, z = v3 + 1 := ⟨_, rfl⟩
    have hf := bl_let_at e17 hf
    refine lv_iinc (v := x16) (lv' := [(3, .int x16), (0, .ref (bl_ad g v0)), (1, .int v1), (2, .int v2)]) X.1 X.2.1 dX9_spreadOneYear_79 hl (k := 3) rfl (by rw [e17]; rfl) (by decide) rfl (fun ls hl => ?_)
    refine lv_goto (tgt := 42) X.1 X.2.1 dX9_spreadOneYear_82 (by decide) ?_
    exact hk42 σ14 v0 v1 v2 x16 hv0 hf _ _ _ V (lv_sub hl [1, 2, 3, 0] rfl)
theorem l_X9_spreadOneYear_42 {p : Program} {l : Launch} {e : Env} {s : State} {m : MethodId} {below : List Frame} {meth : Method} {c : Code} {g : bl_Gp} {as : List Value} {out : Unit × bl_St} (X : bl_Cx g p s m as.toArray meth c cX9_spreadOneYear 4 RX9) (hr : meth.sig.returnType = (Option.none : Option Jvm.ClassFile.FieldType)) (k23 : bl_St → Nat → Int32 → Option (Unit × bl_St)) (hk23 : ∀ (σ : bl_St) (v0 : Nat) (v1 : Int32), bl_sh[v0]? = some (9, 13) → k23 σ v0 v1 = some out → ∀ (H : Heap) (locs : List Loc) (ls : Array Slot), bl_V g s σ H locs → lv_has ls 4 [(0, .ref (bl_ad g v0)), (1, .int v1)] → W p l e (bl_rm 2 44) s m as.toArray below meth c H locs 0 0 (bl_Qv below g s as out) (F0 m 23 ls [])) (n : Nat) : ∀ (σ : bl_St) (v0 : Nat) (v1 : Int32) (v2 : Int32) (v3 : Int32), bl_sh[v0]? = some (9, 13) → (bl_fx (fun _ _ _ _ _ => none) (b_X9_spreadOneYear_42 k23) n) σ v0 v1 v2 v3 = some out → ∀ (H : Heap) (locs : List Loc) (ls : Array Slot), bl_V g s σ H locs → lv_has ls 4 [(0, .ref (bl_ad g v0)), (1, .int v1), (2, .int v2), (3, .int v3)] → W p l e (bl_rm 2 44) s m as.toArray below meth c H locs 0 0 (bl_Qv below g s as out) (F0 m 42 ls []) := by
  induction n with
  | zero =>
    intro σ v0 v1 v2 v3 hv0 hf H locs ls V hl
    cases hf
  | succ n ih => exact w_X9_spreadOneYear_42 X hr k23 hk23 _ ih
set_option maxHeartbeats 4000000 in
set_option maxRecDepth 100000 in
theorem w_X9_spreadOneYear_23 {p : Program} {l : Launch} {e : Env} {s : State} {m : MethodId} {below : List Frame} {meth : Method} {c : Code} {g : bl_Gp} {as : List Value} {out : Unit × bl_St} (X : bl_Cx g p s m as.toArray meth c cX9_spreadOneYear 4 RX9) (hr : meth.sig.returnType = (Option.none : Option Jvm.ClassFile.FieldType)) (k23 : bl_St → Nat → Int32 → Option (Unit × bl_St)) (hk23 : ∀ (σ : bl_St) (v0 : Nat) (v1 : Int32), bl_sh[v0]? = some (9, 13) → k23 σ v0 v1 = some out → ∀ (H : Heap) (locs : List Loc) (ls : Array Slot), bl_V g s σ H locs → lv_has ls 4 [(0, .ref (bl_ad g v0)), (1, .int v1)] → W p l e (bl_rm 2 44) s m as.toArray below meth c H locs 0 0 (bl_Qv below g s as out) (F0 m 23 ls [])) : ∀ (σ : bl_St) (v0 : Nat) (v1 : Int32), bl_sh[v0]? = some (9, 13) → (b_X9_spreadOneYear_23 k23) σ v0 v1 = some out → ∀ (H : Heap) (locs : List Loc) (ls : Array Slot), bl_V g s σ H locs → lv_has ls 4 [(0, .ref (bl_ad g v0)), (1, .int v1)] → W p l e (bl_rm 2 44) s m as.toArray below meth c H locs 0 0 (bl_Qv below g s as out) (F0 m 23 ls []) := by
  intro σ v0 v1 hv0 hf H locs ls V hl
  unfold b_X9_spreadOneYear_23 at hf
  refine lv_iload_n X.1 X.2.1 dX9_spreadOneYear_23 rfl (lv_at hl 1 rfl) ?_
  refine lv_aload_n X.1 X.2.1 dX9_spreadOneYear_24 rfl (lv_at hl 0 rfl) ?_
  refine bl_getr X V hv0 fl_X9_26 rfl dX9_spreadOneYear_25 (fun h18 => ?_)
  obtain ⟨r19, σ20, h21, hf⟩ := bl_bd_at hf
  refine bl_cVi (As := []) X V hl.1 h18 rfl ml_X9_278 mV_X8_chances (t_X8_chances l g σ (bl_R σ v0 2) _ h18 h21) rfl rfl ⟨Nat.le_of_ble_eq_true rfl, Nat.le_of_ble_eq_true rfl⟩ rfl rfl (Nat.le_of_ble_eq_true rfl) ⟨Nat.zero_le _, Nat.zero_le _⟩ dX9_spreadOneYear_28 (fun H locs V => ?_)
  refine lv_icmp_gt (tgt := 91) X.1 X.2.1 dX9_spreadOneYear_31 (by decide) (fun c22 => ?_) (fun c22 => ?_)
  · have hf := bl_ifp c22 hf
    refine lv_aload_n X.1 X.2.1 dX9_spreadOneYear_91 rfl (lv_at hl 0 rfl) ?_
    refine bl_getr X V hv0 fl_X9_80 rfl dX9_spreadOneYear_92 (fun h23 => ?_)
    refine lv_iconst (v := 0) X.1 X.2.1 dX9_spreadOneYear_95 (by decide) ?_
    refine lv_aload_n X.1 X.2.1 dX9_spreadOneYear_96 rfl (lv_at hl 0 rfl) ?_
    refine bl_getr X V hv0 fl_X9_76 rfl dX9_spreadOneYear_97 (fun h24 => ?_)
    refine lv_iconst (v := 0) X.1 X.2.1 dX9_spreadOneYear_100 (by decide) ?_
    refine lv_bipush (v := 8) X.1 X.2.1 dX9_spreadOneYear_101 (by decide) ?_
    refine bl_copyl X V hl.1 ac_X9_391 h23 h24 (by decide) (Nat.le_of_ble_eq_true rfl) (Nat.le_of_ble_eq_true rfl) dX9_spreadOneYear_103 (fun σ25 H locs e26 V => ?_)
    have hf := bl_let_at e26 hf
    exact bl_retv X V hr hf dX9_spreadOneYear_106
  · have hf := bl_ifn c22 hf
    refine lv_aload_n X.1 X.2.1 dX9_spreadOneYear_34 rfl (lv_at hl 0 rfl) ?_
    refine lv_iload_n X.1 X.2.1 dX9_spreadOneYear_35 rfl (lv_at hl 1 rfl) ?_
    obtain ⟨r27, σ28, h29, hf⟩ := bl_bd_at hf
    refine bl_cVi (As := [.int v1]) X V hl.1 hv0 rfl ml_X9_310 mV_X9_waysOf (t_X9_waysOf l g σ20 v0 v1 _ hv0 h29) rfl rfl ⟨Nat.le_of_ble_eq_true rfl, Nat.le_of_ble_eq_true rfl⟩ rfl rfl (Nat.le_of_ble_eq_true rfl) ⟨Nat.zero_le _, Nat.zero_le _⟩ dX9_spreadOneYear_36 (fun H locs V => ?_)
    refine lv_istore_n (lv' := [(2, .int r27), (0, .ref (bl_ad g v0)), (1, .int v1)]) X.1 X.2.1 dX9_spreadOneYear_39 rfl hl (by decide) rfl (fun ls hl => ?_)
    refine lv_iconst (v := 0) X.1 X.2.1 dX9_spreadOneYear_40 (by decide) ?_
    refine lv_istore_n (lv' := [(3, .int 0), (2, .int r27), (0, .ref (bl_ad g v0)), (1, .int v1)]) X.1 X.2.1 dX9_spreadOneYear_41 rfl hl (by decide) rfl (fun ls hl => ?_)
    exact l_X9_spreadOneYear_42 X hr k23 hk23 bl_fu σ28 v0 v1 r27 0 hv0 hf _ _ _ V (lv_sub hl [2, 3, 1, 0] rfl)
theorem l_X9_spreadOneYear_23 {p : Program} {l : Launch} {e : Env} {s : State} {m : MethodId} {below : List Frame} {meth : Method} {c : Code} {g : bl_Gp} {as : List Value} {out : Unit × bl_St} (X : bl_Cx g p s m as.toArray meth c cX9_spreadOneYear 4 RX9) (hr : meth.sig.returnType = (Option.none : Option Jvm.ClassFile.FieldType)) (n : Nat) : ∀ (σ : bl_St) (v0 : Nat) (v1 : Int32), bl_sh[v0]? = some (9, 13) → (bl_fx (fun _ _ _ => none) (b_X9_spreadOneYear_23 ) n) σ v0 v1 = some out → ∀ (H : Heap) (locs : List Loc) (ls : Array Slot), bl_V g s σ H locs → lv_has ls 4 [(0, .ref (bl_ad g v0)), (1, .int v1)] → W p l e (bl_rm 2 44) s m as.toArray below meth c H locs 0 0 (bl_Qv below g s as out) (F0 m 23 ls []) := by
  induction n with
  | zero =>
    intro σ v0 v1 hv0 hf H locs ls V hl
    cases hf
  | succ n ih => exact w_X9_spreadOneYear_23 X hr  _ ih
set_option maxHeartbeats 4000000 in
set_option maxRecDepth 100000 in
theorem w_X9_spreadOneYear_2 {p : Program} {l : Launch} {e : Env} {s : State} {m : MethodId} {below : List Frame} {meth : Method} {c : Code} {g : bl_Gp} {as : List Value} {out : Unit × bl_St} (X : bl_Cx g p s m as.toArray meth c cX9_spreadOneYear 4 RX9) (hr : meth.sig.returnType = (Option.none : Option Jvm.ClassFile.FieldType)) (k2 : bl_St → Nat → Int32 → Option (Unit × bl_St)) (hk2 : ∀ (σ : bl_St) (v0 : Nat) (v1 : Int32), bl_sh[v0]? = some (9, 13) → k2 σ v0 v1 = some out → ∀ (H : Heap) (locs : List Loc) (ls : Array Slot), bl_V g s σ H locs → lv_has ls 4 [(0, .ref (bl_ad g v0)), (1, .int v1)] → W p l e (bl_rm 2 44) s m as.toArray below meth c H locs 0 0 (bl_Qv below g s as out) (F0 m 2 ls [])) : ∀ (σ : bl_St) (v0 : Nat) (v1 : Int32), bl_sh[v0]? = some (9, 13) → (b_X9_spreadOneYear_2 k2) σ v0 v1 = some out → ∀ (H : Heap) (locs : List Loc) (ls : Array Slot), bl_V g s σ H locs → lv_has ls 4 [(0, .ref (bl_ad g v0)), (1, .int v1)] → W p l e (bl_rm 2 44) s m as.toArray below meth c H locs 0 0 (bl_Qv below g s as out) (F0 m 2 ls []) := by
  intro σ v0 v1 hv0 hf H locs ls V hl
  unfold b_X9_spreadOneYear_2 at hf
  refine lv_iload_n X.1 X.2.1 dX9_spreadOneYear_2 rfl (lv_at hl 1 rfl) ?_
  refine lv_bipush (v := 8) X.1 X.2.1 dX9_spreadOneYear_3 (by decide) ?_
  refine lv_icmp_ge (tgt := 21) X.1 X.2.1 dX9_spreadOneYear_5 (by decide) (fun c30 => ?_) (fun c30 => ?_)
  · have hf := bl_ifp c30 hf
    refine lv_iconst (v := 0) X.1 X.2.1 dX9_spreadOneYear_21 (by decide) ?_
    refine lv_istore_n (lv' := [(1, .int 0), (0, .ref (bl_ad g v0))]) X.1 X.2.1 dX9_spreadOneYear_22 rfl hl (by decide) rfl (fun ls hl => ?_)
    exact l_X9_spreadOneYear_23 X hr  bl_fu σ v0 0 hv0 hf _ _ _ V (lv_sub hl [1, 0] rfl)
  · have hf := bl_ifn c30 hf
    refine lv_aload_n X.1 X.2.1 dX9_spreadOneYear_8 rfl (lv_at hl 0 rfl) ?_
    refine bl_getr X V hv0 fl_X9_80 rfl dX9_spreadOneYear_9 (fun h31 => ?_)
    refine lv_iload_n X.1 X.2.1 dX9_spreadOneYear_12 rfl (lv_at hl 1 rfl) ?_
    refine lv_lconst (v := 0) X.1 X.2.1 dX9_spreadOneYear_13 (by decide) ?_
    obtain ⟨h32, hf⟩ := bl_gd_at hf
    refine bl_last (k := (Int32.toNatClampNeg v1)) X V h31 h32 rfl dX9_spreadOneYear_14 (fun σ33 H locs e34 V => ?_)
    have hf := bl_let_at e34 hf
    obtain ⟨x35, e36⟩ : ∃ z : Int32, z = v1 + 1 := ⟨_, rfl⟩
    have hf := bl_let_at e36 hf
    refine lv_iinc (v := x35) (lv' := [(1, .int x35), (0, .ref (bl_ad g v0))]) X.1 X.2.1 dX9_spreadOneYear_15 hl (k := 1) rfl (by rw [e36]; rfl) (by decide) rfl (fun ls hl => ?_)
    refine lv_goto (tgt := 2) X.1 X.2.1 dX9_spreadOneYear_18 (by decide) ?_
    exact hk2 σ33 v0 x35 hv0 hf _ _ _ V (lv_sub hl [1, 0] rfl)
theorem l_X9_spreadOneYear_2 {p : Program} {l : Launch} {e : Env} {s : State} {m : MethodId} {below : List Frame} {meth : Method} {c : Code} {g : bl_Gp} {as : List Value} {out : Unit × bl_St} (X : bl_Cx g p s m as.toArray meth c cX9_spreadOneYear 4 RX9) (hr : meth.sig.returnType = (Option.none : Option Jvm.ClassFile.FieldType)) (n : Nat) : ∀ (σ : bl_St) (v0 : Nat) (v1 : Int32), bl_sh[v0]? = some (9, 13) → (bl_fx (fun _ _ _ => none) (b_X9_spreadOneYear_2 ) n) σ v0 v1 = some out → ∀ (H : Heap) (locs : List Loc) (ls : Array Slot), bl_V g s σ H locs → lv_has ls 4 [(0, .ref (bl_ad g v0)), (1, .int v1)] → W p l e (bl_rm 2 44) s m as.toArray below meth c H locs 0 0 (bl_Qv below g s as out) (F0 m 2 ls []) := by
  induction n with
  | zero =>
    intro σ v0 v1 hv0 hf H locs ls V hl
    cases hf
  | succ n ih => exact w_X9_spreadOneYear_2 X hr  _ ih
set_option maxHeartbeats 4000000 in
set_option maxRecDepth 100000 in
theorem t_X9_spreadOneYear (l : Launch) (g : bl_Gp) (σ : bl_St) (a0 : Nat) (o : Unit × bl_St) (ha0 : bl_sh[a0]? = some (9, 13)) (hf : f_X9_spreadOneYear σ a0 = some o) : bl_Cv l g yX9_spreadOneYear cX9_spreadOneYear 4 (Option.none : Option Jvm.ClassFile.FieldType) (bl_rm 2 44) [.ref (bl_ad g a0)] σ o := by
  refine bl_met (by decide) (Nat.le_of_ble_eq_true rfl) (fun p e s m below meth c ls X hr V hl => ?_)
  have hl : lv_has ls 4 [(0, .ref (bl_ad g a0))] := hl
  unfold f_X9_spreadOneYear at hf
  refine lv_iconst (v := 0) X.1 X.2.1 dX9_spreadOneYear_0 (by decide) ?_
  refine lv_istore_n (lv' := [(1, .int 0), (0, .ref (bl_ad g a0))]) X.1 X.2.1 dX9_spreadOneYear_1 rfl hl (by decide) rfl (fun ls hl => ?_)
  exact l_X9_spreadOneYear_2 X hr  bl_fu σ a0 0 ha0 hf _ _ _ V (lv_sub hl [1, 0] rfl)
set_option maxHeartbeats 4000000 in
set_option maxRecDepth 100000 in
theorem w_X9_spread_91 {p : Program} {l : Launch} {e : Env} {s : State} {m : MethodId} {below : List Frame} {meth : Method} {c : Code} {g : bl_Gp} {as : List Value} {out : Int64 × bl_St} (X : bl_Cx g p s m as.toArray meth c cX9_spread 5 RX9) (hr : meth.sig.returnType = (Option.some Jvm.ClassFile.FieldType.long)) (k91 : bl_St → Nat → Int32 → Int32 → Int32 → Option (Int64 × bl_St)) (hk91 : ∀ (σ : bl_St) (v0 : Nat) (v1 : Int32) (v3 : Int32) (v4 : Int32), bl_sh[v0]? = some (9, 13) → k91 σ v0 v1 v3 v4 = some out → ∀ (H : Heap) (locs : List Loc) (ls : Array Slot), bl_V g s σ H locs → lv_has ls 5 [(0, .ref (bl_ad g v0)), (1, .int v1), (3, .int v3), (4, .int v4)] → W p l e (bl_rm 3 67) s m as.toArray below meth c H locs 0 0 (bl_Ql below g s as out) (F0 m 91 ls [])) : ∀ (σ : bl_St) (v0 : Nat) (v1 : Int32) (v3 : Int32) (v4 : Int32), bl_sh[v0]? = some (9, 13) → (b_X9_spread_91 k91) σ v0 v1 v3 v4 = some out → ∀ (H : Heap) (locs : List Loc) (ls : Array Slot), bl_V g s σ H locs → lv_has ls 5 [(0, .ref (bl_ad g v0)), (1, .int v1), (3, .int v3), (4, .int v4)] → W p l e (bl_rm 3 67) s m as.toArray below meth c H locs 0 0 (bl_Ql below g s as out) (F0 m 91 ls []) := by
  intro σ v0 v1 v3 v4 hv0 hf H locs ls V hl
  unfold b_X9_spread_91 at hf
  refine lv_iload X.1 X.2.1 dX9_spread_91 (lv_at hl 3 rfl) ?_
  refine lv_iload_n X.1 X.2.1 dX9_spread_93 rfl (lv_at hl 1 rfl) ?_
  refine lv_icmp_ge (tgt := 107) X.1 X.2.1 dX9_spread_94 (by decide) (fun c1 => ?_) (fun c1 => ?_)
  · have hf := bl_ifp c1 hf
    refine lv_aload_n X.1 X.2.1 dX9_spread_107 rfl (lv_at hl 0 rfl) ?_
    refine bl_getr X V hv0 fl_X9_76 rfl dX9_spread_108 (fun h2 => ?_)
    refine lv_iload_n X.1 X.2.1 dX9_spread_111 rfl (lv_at hl 2 rfl) ?_
    obtain ⟨h3, hf⟩ := bl_gd_at hf
    refine bl_lald (k := (Int32.toNatClampNeg v3)) X V h2 h3 rfl dX9_spread_112 ?_
    exact bl_retl X V hr hf dX9_spread_113
  · have hf := bl_ifn c1 hf
    refine lv_aload_n X.1 X.2.1 dX9_spread_97 rfl (lv_at hl 0 rfl) ?_
    obtain ⟨r4, σ5, h6, hf⟩ := bl_bd_at hf
    refine bl_cVv (As := []) X V hl.1 hv0 rfl ml_X9_313 mV_X9_spreadOneYear (t_X9_spreadOneYear l g σ v0 _ hv0 h6) rfl rfl ⟨Nat.le_of_ble_eq_true rfl, Nat.le_of_ble_eq_true rfl⟩ rfl rfl (Nat.le_of_ble_eq_true rfl) ⟨Nat.zero_le _, Nat.zero_le _⟩ dX9_spread_98 (fun H locs V => ?_)
    obtain ⟨x7, e8⟩ : ∃ z : Int32, z = v4 + 1 := ⟨_, rfl⟩
    have hf := bl_let_at e8 hf
    refine lv_iinc (v := x7) (lv' := [(4, .int x7), (0, .ref (bl_ad g v0)), (1, .int v1), (3, .int v3)]) X.1 X.2.1 dX9_spread_101 hl (k := 3) rfl (by rw [e8]; rfl) (by decide) rfl (fun ls hl => ?_)
    refine lv_goto (tgt := 91) X.1 X.2.1 dX9_spread_104 (by decide) ?_
    exact hk91 σ5 v0 v1 v3 x7 hv0 hf _ _ _ V (lv_sub hl [1, 2, 3, 0] rfl)
theorem l_X9_spread_91 {p : Program} {l : Launch} {e : Env} {s : State} {m : MethodId} {below : List Frame} {meth : Method} {c : Code} {g : bl_Gp} {as : List Value} {out : Int64 × bl_St} (X : bl_Cx g p s m as.toArray meth c cX9_spread 5 RX9) (hr : meth.sig.returnType = (Option.some Jvm.ClassFile.FieldType.long)) (n : Nat) : ∀ (σ : bl_St) (v0 : Nat) (v1 : Int32) (v3 : Int32) (v4 : Int32), bl_sh[v0]? = some (9, 13) → (bl_fx (fun _ _ _ _ _ => none) (b_X9_spread_91 ) n) σ v0 v1 v3 v4 = some out → ∀ (H : Heap) (locs : List Loc) (ls : Array Slot), bl_V g s σ H locs → lv_has ls 5 [(0, .ref (bl_ad g v0)), (1, .int v1), (3, .int v3), (4, .int v4)] → W p l e (bl_rm 3 67) s m as.toArray below meth c H locs 0 0 (bl_Ql below g s as out) (F0 m 91 ls []) := by
  induction n with
  | zero =>
    intro σ v0 v1 v3 v4 hv0 hf H locs ls V hl
    cases hf
  | succ n ih => exact w_X9_spread_91 X hr  _ ih
set_option maxHeartbeats 4000000 in
set_option maxRecDepth 100000 in
theorem w_X9_spread_81 {p : Program} {l : Launch} {e : Env} {s : State} {m : MethodId} {below : List Frame} {meth : Method} {c : Code} {g : bl_Gp} {as : List Value} {out : Int64 × bl_St} (X : bl_Cx g p s m as.toArray meth c cX9_spread 5 RX9) (hr : meth.sig.returnType = (Option.some Jvm.ClassFile.FieldType.long)) (k57 : bl_St → Nat → Int32 → Int32 → Int32 → Int32 → Option (Int64 × bl_St)) (hk57 : ∀ (σ : bl_St) (v0 : Nat) (v1 : Int32) (v2 : Int32) (v3 : Int32) (v4 : Int32), bl_sh[v0]? = some (9, 13) → k57 σ v0 v1 v2 v3 v4 = some out → ∀ (H : Heap) (locs : List Loc) (ls : Array Slot), bl_V g s σ H locs → lv_has ls 5 [(0, .ref (bl_ad g v0)), (1, .int v1), (2, .int v2), (3, .int v3), (4, .int v4)] → W p l e (bl_rm 3 67) s m as.toArray below meth c H locs 0 0 (bl_Ql below g s as out) (F0 m 57 ls [])) : ∀ (σ : bl_St) (v0 : Nat) (v1 : Int32) (v2 : Int32) (v3 : Int32) (v4 : Int32) (s0 : Int64) (s1 : Int32) (s2 : Nat), bl_sh[v0]? = some (9, 13) → bl_sh[s2]? = some (21, 8) → (b_X9_spread_81 k57) σ v0 v1 v2 v3 v4 s0 s1 s2 = some out → ∀ (H : Heap) (locs : List Loc) (ls : Array Slot), bl_V g s σ H locs → lv_has ls 5 [(0, .ref (bl_ad g v0)), (1, .int v1), (2, .int v2), (3, .int v3), (4, .int v4)] → W p l e (bl_rm 3 67) s m as.toArray below meth c H locs 0 0 (bl_Ql below g s as out) (F0 m 81 ls [.long s0, .int s1, .ref (bl_ad g s2)]) := by
  intro σ v0 v1 v2 v3 v4 s0 s1 s2 hv0 hs2 hf H locs ls V hl
  unfold b_X9_spread_81 at hf
  obtain ⟨h9, hf⟩ := bl_gd_at hf
  refine bl_last (k := (Int32.toNatClampNeg s1)) X V hs2 h9 rfl dX9_spread_81 (fun σ10 H locs e11 V => ?_)
  have hf := bl_let_at e11 hf
  obtain ⟨x12, e13⟩ : ∃ z : Int32, z = v4 + 1 := ⟨_, rfl⟩
  have hf := bl_let_at e13 hf
  refine lv_iinc (v := x12) (lv' := [(4, .int x12), (0, .ref (bl_ad g v0)), (1, .int v1), (2, .int v2), (3, .int v3)]) X.1 X.2.1 dX9_spread_82 hl (k := 4) rfl (by rw [e13]; rfl) (by decide) rfl (fun ls hl => ?_)
  refine lv_goto (tgt := 57) X.1 X.2.1 dX9_spread_85 (by decide) ?_
  exact hk57 σ10 v0 v1 v2 v3 x12 hv0 hf _ _ _ V (lv_sub hl [1, 2, 3, 4, 0] rfl)
set_option maxHeartbeats 4000000 in
set_option maxRecDepth 100000 in
theorem w_X9_spread_57 {p : Program} {l : Launch} {e : Env} {s : State} {m : MethodId} {below : List Frame} {meth : Method} {c : Code} {g : bl_Gp} {as : List Value} {out : Int64 × bl_St} (X : bl_Cx g p s m as.toArray meth c cX9_spread 5 RX9) (hr : meth.sig.returnType = (Option.some Jvm.ClassFile.FieldType.long)) (k57 : bl_St → Nat → Int32 → Int32 → Int32 → Int32 → Option (Int64 × bl_St)) (hk57 : ∀ (σ : bl_St) (v0 : Nat) (v1 : Int32) (v2 : Int32) (v3 : Int32) (v4 : Int32), bl_sh[v0]? = some (9, 13) → k57 σ v0 v1 v2 v3 v4 = some out → ∀ (H : Heap) (locs : List Loc) (ls : Array Slot), bl_V g s σ H locs → lv_has ls 5 [(0, .ref (bl_ad g v0)), (1, .int v1), (2, .int v2), (3, .int v3), (4, .int v4)] → W p l e (bl_rm 3 67) s m as.toArray below meth c H locs 0 0 (bl_Ql below g s as out) (F0 m 57 ls [])) : ∀ (σ : bl_St) (v0 : Nat) (v1 : Int32) (v2 : Int32) (v3 : Int32) (v4 : Int32), bl_sh[v0]? = some (9, 13) → (b_X9_spread_57 k57) σ v0 v1 v2 v3 v4 = some out → ∀ (H : Heap) (locs : List Loc) (ls : Array Slot), bl_V g s σ H locs → lv_has ls 5 [(0, .ref (bl_ad g v0)), (1, .int v1), (2, .int v2), (3, .int v3), (4, .int v4)] → W p l e (bl_rm 3 67) s m as.toArray below meth c H locs 0 0 (bl_Ql below g s as out) (F0 m 57 ls []) := by
  intro σ v0 v1 v2 v3 v4 hv0 hf H locs ls V hl
  unfold b_X9_spread_57 at hf
  refine lv_iload X.1 X.2.1 dX9_spread_57 (lv_at hl 4 rfl) ?_
  refine lv_bipush (v := 8) X.1 X.2.1 dX9_spread_59 (by decide) ?_
  refine lv_icmp_ge (tgt := 88) X.1 X.2.1 dX9_spread_61 (by decide) (fun c14 => ?_) (fun c14 => ?_)
  · have hf := bl_ifp c14 hf
    refine lv_iconst (v := 0) X.1 X.2.1 dX9_spread_88 (by decide) ?_
    refine lv_istore (lv' := [(4, .int 0), (0, .ref (bl_ad g v0)), (1, .int v1), (2, .int v2), (3, .int v3)]) X.1 X.2.1 dX9_spread_89 hl (by decide) rfl (fun ls hl => ?_)
    exact l_X9_spread_91 X hr  bl_fu σ v0 v1 v3 0 hv0 hf _ _ _ V (lv_sub hl [1, 2, 4, 0] rfl)
  · have hf := bl_ifn c14 hf
    refine lv_aload_n X.1 X.2.1 dX9_spread_64 rfl (lv_at hl 0 rfl) ?_
    refine bl_getr X V hv0 fl_X9_76 rfl dX9_spread_65 (fun h15 => ?_)
    refine lv_iload X.1 X.2.1 dX9_spread_68 (lv_at hl 4 rfl) ?_
    refine lv_iload X.1 X.2.1 dX9_spread_70 (lv_at hl 4 rfl) ?_
    refine lv_iload_n X.1 X.2.1 dX9_spread_72 rfl (lv_at hl 2 rfl) ?_
    refine lv_icmp_ne (tgt := 80) X.1 X.2.1 dX9_spread_73 (by decide) (fun c16 => ?_) (fun c16 => ?_)
    · have hf := bl_ifn c16 hf
      refine lv_lconst (v := 0) X.1 X.2.1 dX9_spread_80 (by decide) ?_
      exact w_X9_spread_81 X hr k57 hk57 σ v0 v1 v2 v3 v4 0 v4 (bl_R σ v0 11) hv0 h15 hf _ _ _ V (lv_sub hl [0, 1, 2, 3, 4] rfl)
    · have hf := bl_ifp c16 hf
      refine lv_lconst (v := 1) X.1 X.2.1 dX9_spread_76 (by decide) ?_
      refine lv_goto (tgt := 81) X.1 X.2.1 dX9_spread_77 (by decide) ?_
      exact w_X9_spread_81 X hr k57 hk57 σ v0 v1 v2 v3 v4 1 v4 (bl_R σ v0 11) hv0 h15 hf _ _ _ V (lv_sub hl [0, 1, 2, 3, 4] rfl)
theorem l_X9_spread_57 {p : Program} {l : Launch} {e : Env} {s : State} {m : MethodId} {below : List Frame} {meth : Method} {c : Code} {g : bl_Gp} {as : List Value} {out : Int64 × bl_St} (X : bl_Cx g p s m as.toArray meth c cX9_spread 5 RX9) (hr : meth.sig.returnType = (Option.some Jvm.ClassFile.FieldType.long)) (n : Nat) : ∀ (σ : bl_St) (v0 : Nat) (v1 : Int32) (v2 : Int32) (v3 : Int32) (v4 : Int32), bl_sh[v0]? = some (9, 13) → (bl_fx (fun _ _ _ _ _ _ => none) (b_X9_spread_57 ) n) σ v0 v1 v2 v3 v4 = some out → ∀ (H : Heap) (locs : List Loc) (ls : Array Slot), bl_V g s σ H locs → lv_has ls 5 [(0, .ref (bl_ad g v0)), (1, .int v1), (2, .int v2), (3, .int v3), (4, .int v4)] → W p l e (bl_rm 3 67) s m as.toArray below meth c H locs 0 0 (bl_Ql below g s as out) (F0 m 57 ls []) := by
  induction n with
  | zero =>
    intro σ v0 v1 v2 v3 v4 hv0 hf H locs ls V hl
    cases hf
  | succ n ih => exact w_X9_spread_57 X hr  _ ih
set_option maxHeartbeats 4000000 in
set_option maxRecDepth 100000 in
theorem t_X9_spread (l : Launch) (g : bl_Gp) (σ : bl_St) (a0 : Nat) (a1 : Int32) (a2 : Int32) (a3 : Int32) (o : Int64 × bl_St) (ha0 : bl_sh[a0]? = some (9, 13)) (hf : f_X9_spread σ a0 a1 a2 a3 = some o) : bl_Cl l g yX9_spread cX9_spread 5 (Option.some Jvm.ClassFile.FieldType.long) (bl_rm 3 67) [.ref (bl_ad g a0), .int a1, .int a2, .int a3] σ o := by
  refine bl_met (by decide) (Nat.le_of_ble_eq_true rfl) (fun p e s m below meth c ls X hr V hl => ?_)
  have hl : lv_has ls 5 [(0, .ref (bl_ad g a0)), (1, .int a1), (2, .int a2), (3, .int a3)] := hl
  unfold f_X9_spread at hf
  refine lv_aload_n X.1 X.2.1 dX9_spread_0 rfl (lv_at hl 0 rfl) ?_
  refine bl_getr X V ha0 fl_X9_26 rfl dX9_spread_1 (fun h17 => ?_)
  refine lv_iload_n X.1 X.2.1 dX9_spread_4 rfl (lv_at hl 2 rfl) ?_
  obtain ⟨r18, σ19, h20, hf⟩ := bl_bd_at hf
  refine bl_cVi (As := [.int a2]) X V hl.1 h17 rfl ml_X9_114 mV_X8_hasClass (t_X8_hasClass l g σ (bl_R σ a0 2) a2 _ h17 h20) rfl rfl ⟨Nat.le_of_ble_eq_true rfl, Nat.le_of_ble_eq_true rfl⟩ rfl rfl (Nat.le_of_ble_eq_true rfl) ⟨Nat.zero_le _, Nat.zero_le _⟩ dX9_spread_5 (fun H locs V => ?_)
  refine lv_if_eq (tgt := 22) X.1 X.2.1 dX9_spread_8 (by decide) (fun c21 => ?_) (fun c21 => ?_)
  · have hf := bl_ifp c21 hf
    refine lv_ldc2 (v := (-1)) X.1 X.2.1 X.2.2.2.1 (X.2.2.2.2.1 _ kl_X9_254) dX9_spread_22 ?_
    exact bl_retl X V hr hf dX9_spread_25
  · have hf := bl_ifn c21 hf
    refine lv_aload_n X.1 X.2.1 dX9_spread_11 rfl (lv_at hl 0 rfl) ?_
    refine bl_getr X V ha0 fl_X9_26 rfl dX9_spread_12 (fun h22 => ?_)
    refine lv_iload_n X.1 X.2.1 dX9_spread_15 rfl (lv_at hl 3 rfl) ?_
    obtain ⟨r23, σ24, h25, hf⟩ := bl_bd_at hf
    refine bl_cVi (As := [.int a3]) X V hl.1 h22 rfl ml_X9_114 mV_X8_hasClass (t_X8_hasClass l g σ19 (bl_R σ19 a0 2) a3 _ h22 h25) rfl rfl ⟨Nat.le_of_ble_eq_true rfl, Nat.le_of_ble_eq_true rfl⟩ rfl rfl (Nat.le_of_ble_eq_true rfl) ⟨Nat.zero_le _, Nat.zero_le _⟩ dX9_spread_16 (fun H locs V => ?_)
    refine lv_if_ne (tgt := 26) X.1 X.2.1 dX9_spread_19 (by decide) (fun c26 => ?_) (fun c26 => ?_)
    · have hf := bl_ifn c26 hf
      refine lv_iload_n X.1 X.2.1 dX9_spread_26 rfl (lv_at hl 1 rfl) ?_
      refine lv_if_lt (tgt := 50) X.1 X.2.1 dX9_spread_27 (by decide) (fun c27 => ?_) (fun c27 => ?_)
      · have hf := bl_ifp c27 hf
        refine lv_ldc2 (v := (-1)) X.1 X.2.1 X.2.2.2.1 (X.2.2.2.2.1 _ kl_X9_254) dX9_spread_50 ?_
        exact bl_retl X V hr hf dX9_spread_53
      · have hf := bl_ifn c27 hf
        refine lv_iload_n X.1 X.2.1 dX9_spread_30 rfl (lv_at hl 1 rfl) ?_
        refine lv_bipush (v := 16) X.1 X.2.1 dX9_spread_31 (by decide) ?_
        refine lv_icmp_gt (tgt := 50) X.1 X.2.1 dX9_spread_33 (by decide) (fun c28 => ?_) (fun c28 => ?_)
        · have hf := bl_ifp c28 hf
          refine lv_ldc2 (v := (-1)) X.1 X.2.1 X.2.2.2.1 (X.2.2.2.2.1 _ kl_X9_254) dX9_spread_50 ?_
          exact bl_retl X V hr hf dX9_spread_53
        · have hf := bl_ifn c28 hf
          refine lv_iload_n X.1 X.2.1 dX9_spread_36 rfl (lv_at hl 1 rfl) ?_
          refine lv_aload_n X.1 X.2.1 dX9_spread_37 rfl (lv_at hl 0 rfl) ?_
          refine bl_getr X V ha0 fl_X9_26 rfl dX9_spread_38 (fun h29 => ?_)
          obtain ⟨r30, σ31, h32, hf⟩ := bl_bd_at hf
          refine bl_cVi (As := []) X V hl.1 h29 rfl ml_X9_278 mV_X8_chances (t_X8_chances l g σ24 (bl_R σ24 a0 2) _ h29 h32) rfl rfl ⟨Nat.le_of_ble_eq_true rfl, Nat.le_of_ble_eq_true rfl⟩ rfl rfl (Nat.le_of_ble_eq_true rfl) ⟨Nat.zero_le _, Nat.zero_le _⟩ dX9_spread_41 (fun H locs V => ?_)
          refine lv_imul X.1 X.2.1 dX9_spread_44 ?_
          refine lv_bipush (v := 16) X.1 X.2.1 dX9_spread_45 (by decide) ?_
          refine lv_icmp_le (tgt := 54) X.1 X.2.1 dX9_spread_47 (by decide) (fun c33 => ?_) (fun c33 => ?_)
          · have hf := bl_ifp c33 hf
            refine lv_iconst (v := 0) X.1 X.2.1 dX9_spread_54 (by decide) ?_
            refine lv_istore (lv' := [(4, .int 0), (0, .ref (bl_ad g a0)), (1, .int a1), (2, .int a2), (3, .int a3)]) X.1 X.2.1 dX9_spread_55 hl (by decide) rfl (fun ls hl => ?_)
            exact l_X9_spread_57 X hr  bl_fu σ31 a0 a1 a2 a3 0 ha0 hf _ _ _ V (lv_sub hl [1, 2, 3, 4, 0] rfl)
          · have hf := bl_ifn c33 hf
            refine lv_ldc2 (v := (-1)) X.1 X.2.1 X.2.2.2.1 (X.2.2.2.2.1 _ kl_X9_254) dX9_spread_50 ?_
            exact bl_retl X V hr hf dX9_spread_53
    · have hf := bl_ifp c26 hf
      refine lv_ldc2 (v := (-1)) X.1 X.2.1 X.2.2.2.1 (X.2.2.2.2.1 _ kl_X9_254) dX9_spread_22 ?_
      exact bl_retl X V hr hf dX9_spread_25
set_option maxHeartbeats 4000000 in
set_option maxRecDepth 100000 in
theorem t_X9_shared (l : Launch) (g : bl_Gp) (σ : bl_St) (a0 : Nat) (a1 : Int32) (a2 : Int32) (a3 : Int32) (o : Int64 × bl_St) (ha0 : bl_sh[a0]? = some (9, 13)) (hf : f_X9_shared σ a0 a1 a2 a3 = some o) : bl_Cl l g yX9_shared cX9_shared 4 (Option.some Jvm.ClassFile.FieldType.long) (bl_rm 5 139) [.ref (bl_ad g a0), .int a1, .int a2, .int a3] σ o := by
  refine bl_met (by decide) (Nat.le_of_ble_eq_true rfl) (fun p e s m below meth c ls X hr V hl => ?_)
  have hl : lv_has ls 4 [(0, .ref (bl_ad g a0)), (1, .int a1), (2, .int a2), (3, .int a3)] := hl
  unfold f_X9_shared at hf
  refine lv_aload_n X.1 X.2.1 dX9_shared_0 rfl (lv_at hl 0 rfl) ?_
  refine lv_iload_n X.1 X.2.1 dX9_shared_1 rfl (lv_at hl 1 rfl) ?_
  refine lv_iload_n X.1 X.2.1 dX9_shared_2 rfl (lv_at hl 2 rfl) ?_
  obtain ⟨r1, σ2, h3, hf⟩ := bl_bd_at hf
  refine bl_cVi (As := [.int a1, .int a2]) X V hl.1 ha0 rfl ml_X9_251 mV_X9_isAsked (t_X9_isAsked l g σ a0 a1 a2 _ ha0 h3) rfl rfl ⟨Nat.le_of_ble_eq_true rfl, Nat.le_of_ble_eq_true rfl⟩ rfl rfl (Nat.le_of_ble_eq_true rfl) ⟨Nat.zero_le _, Nat.zero_le _⟩ dX9_shared_3 (fun H locs V => ?_)
  refine lv_if_eq (tgt := 20) X.1 X.2.1 dX9_shared_6 (by decide) (fun c4 => ?_) (fun c4 => ?_)
  · have hf := bl_ifp c4 hf
    refine lv_ldc2 (v := (-1)) X.1 X.2.1 X.2.2.2.1 (X.2.2.2.2.1 _ kl_X9_254) dX9_shared_20 ?_
    exact bl_retl X V hr hf dX9_shared_23
  · have hf := bl_ifn c4 hf
    refine lv_aload_n X.1 X.2.1 dX9_shared_9 rfl (lv_at hl 0 rfl) ?_
    refine bl_getr X V ha0 fl_X9_26 rfl dX9_shared_10 (fun h5 => ?_)
    refine lv_iload_n X.1 X.2.1 dX9_shared_13 rfl (lv_at hl 3 rfl) ?_
    obtain ⟨r6, σ7, h8, hf⟩ := bl_bd_at hf
    refine bl_cVi (As := [.int a3]) X V hl.1 h5 rfl ml_X9_114 mV_X8_hasClass (t_X8_hasClass l g σ2 (bl_R σ2 a0 2) a3 _ h5 h8) rfl rfl ⟨Nat.le_of_ble_eq_true rfl, Nat.le_of_ble_eq_true rfl⟩ rfl rfl (Nat.le_of_ble_eq_true rfl) ⟨Nat.zero_le _, Nat.zero_le _⟩ dX9_shared_14 (fun H locs V => ?_)
    refine lv_if_ne (tgt := 24) X.1 X.2.1 dX9_shared_17 (by decide) (fun c9 => ?_) (fun c9 => ?_)
    · have hf := bl_ifn c9 hf
      refine lv_aload_n X.1 X.2.1 dX9_shared_24 rfl (lv_at hl 0 rfl) ?_
      refine bl_getr X V ha0 fl_X9_65 rfl dX9_shared_25 (fun h10 => ?_)
      refine lv_aload_n X.1 X.2.1 dX9_shared_28 rfl (lv_at hl 0 rfl) ?_
      refine bl_getr X V ha0 fl_X9_26 rfl dX9_shared_29 (fun h11 => ?_)
      refine lv_iload_n X.1 X.2.1 dX9_shared_32 rfl (lv_at hl 1 rfl) ?_
      refine lv_iload_n X.1 X.2.1 dX9_shared_33 rfl (lv_at hl 2 rfl) ?_
      refine lv_iload_n X.1 X.2.1 dX9_shared_34 rfl (lv_at hl 3 rfl) ?_
      obtain ⟨r12, σ13, h14, hf⟩ := bl_bd_at hf
      refine bl_cVl (As := [.ref (bl_ad g (bl_R σ7 a0 2)), .int a1, .int a2, .int a3]) X V hl.1 h10 rfl ml_X9_316 mV_X1_costOf (t_X1_costOf l g σ7 (bl_R σ7 a0 9) (bl_R σ7 a0 2) a1 a2 a3 _ h10 h11 h14) rfl rfl ⟨Nat.le_of_ble_eq_true rfl, Nat.le_of_ble_eq_true rfl⟩ rfl rfl (Nat.le_of_ble_eq_true rfl) ⟨Nat.zero_le _, Nat.zero_le _⟩ dX9_shared_35 (fun H locs V => ?_)
      exact bl_retl X V hr hf dX9_shared_38
    · have hf := bl_ifp c9 hf
      refine lv_ldc2 (v := (-1)) X.1 X.2.1 X.2.2.2.1 (X.2.2.2.2.1 _ kl_X9_254) dX9_shared_20 ?_
      exact bl_retl X V hr hf dX9_shared_23
set_option maxHeartbeats 4000000 in
set_option maxRecDepth 100000 in
theorem t_X9_joinedClass (l : Launch) (g : bl_Gp) (σ : bl_St) (a0 : Nat) (a1 : Int32) (a2 : Int32) (o : Int32 × bl_St) (ha0 : bl_sh[a0]? = some (9, 13)) (hf : f_X9_joinedClass σ a0 a1 a2 = some o) : bl_Ci l g yX9_joinedClass cX9_joinedClass 3 (Option.some Jvm.ClassFile.FieldType.int) (bl_rm 1 22) [.ref (bl_ad g a0), .int a1, .int a2] σ o := by
  refine bl_met (by decide) (Nat.le_of_ble_eq_true rfl) (fun p e s m below meth c ls X hr V hl => ?_)
  have hl : lv_has ls 3 [(0, .ref (bl_ad g a0)), (1, .int a1), (2, .int a2)] := hl
  unfold f_X9_joinedClass at hf
  refine lv_aload_n X.1 X.2.1 dX9_joinedClass_0 rfl (lv_at hl 0 rfl) ?_
  refine bl_getr X V ha0 fl_X9_26 rfl dX9_joinedClass_1 (fun h1 => ?_)
  refine lv_iload_n X.1 X.2.1 dX9_joinedClass_4 rfl (lv_at hl 2 rfl) ?_
  refine lv_iconst (v := 0) X.1 X.2.1 dX9_joinedClass_5 (by decide) ?_
  obtain ⟨r2, σ3, h4, hf⟩ := bl_bd_at hf
  refine bl_cVi (As := [.int a2, .int 0]) X V hl.1 h1 rfl ml_X9_122 mV_X8_part (t_X8_part l g σ (bl_R σ a0 2) a2 0 _ h1 h4) rfl rfl ⟨Nat.le_of_ble_eq_true rfl, Nat.le_of_ble_eq_true rfl⟩ rfl rfl (Nat.le_of_ble_eq_true rfl) ⟨Nat.zero_le _, Nat.zero_le _⟩ dX9_joinedClass_6 (fun H locs V => ?_)
  refine lv_aload_n X.1 X.2.1 dX9_joinedClass_9 rfl (lv_at hl 0 rfl) ?_
  refine bl_getr X V ha0 fl_X9_26 rfl dX9_joinedClass_10 (fun h5 => ?_)
  refine lv_iload_n X.1 X.2.1 dX9_joinedClass_13 rfl (lv_at hl 1 rfl) ?_
  refine lv_iconst (v := 0) X.1 X.2.1 dX9_joinedClass_14 (by decide) ?_
  obtain ⟨r6, σ7, h8, hf⟩ := bl_bd_at hf
  refine bl_cVi (As := [.int a1, .int 0]) X V hl.1 h5 rfl ml_X9_122 mV_X8_part (t_X8_part l g σ3 (bl_R σ3 a0 2) a1 0 _ h5 h8) rfl rfl ⟨Nat.le_of_ble_eq_true rfl, Nat.le_of_ble_eq_true rfl⟩ rfl rfl (Nat.le_of_ble_eq_true rfl) ⟨Nat.zero_le _, Nat.zero_le _⟩ dX9_joinedClass_15 (fun H locs V => ?_)
  refine lv_icmp_le (tgt := 25) X.1 X.2.1 dX9_joinedClass_18 (by decide) (fun c9 => ?_) (fun c9 => ?_)
  · have hf := bl_ifp c9 hf
    refine lv_iload_n X.1 X.2.1 dX9_joinedClass_25 rfl (lv_at hl 1 rfl) ?_
    exact bl_reti X V hr hf dX9_joinedClass_26
  · have hf := bl_ifn c9 hf
    refine lv_iload_n X.1 X.2.1 dX9_joinedClass_21 rfl (lv_at hl 2 rfl) ?_
    refine lv_goto (tgt := 26) X.1 X.2.1 dX9_joinedClass_22 (by decide) ?_
    exact bl_reti X V hr hf dX9_joinedClass_26
set_option maxHeartbeats 4000000 in
set_option maxRecDepth 100000 in
theorem t_X9_joinedCost (l : Launch) (g : bl_Gp) (σ : bl_St) (a0 : Nat) (a1 : Int32) (a2 : Int32) (a3 : Int32) (o : Int64 × bl_St) (ha0 : bl_sh[a0]? = some (9, 13)) (hf : f_X9_joinedCost σ a0 a1 a2 a3 = some o) : bl_Cl l g yX9_joinedCost cX9_joinedCost 4 (Option.some Jvm.ClassFile.FieldType.long) (bl_rm 5 133) [.ref (bl_ad g a0), .int a1, .int a2, .int a3] σ o := by
  refine bl_met (by decide) (Nat.le_of_ble_eq_true rfl) (fun p e s m below meth c ls X hr V hl => ?_)
  have hl : lv_has ls 4 [(0, .ref (bl_ad g a0)), (1, .int a1), (2, .int a2), (3, .int a3)] := hl
  unfold f_X9_joinedCost at hf
  refine lv_aload_n X.1 X.2.1 dX9_joinedCost_0 rfl (lv_at hl 0 rfl) ?_
  refine bl_getr X V ha0 fl_X9_59 rfl dX9_joinedCost_1 (fun h1 => ?_)
  refine lv_aload_n X.1 X.2.1 dX9_joinedCost_4 rfl (lv_at hl 0 rfl) ?_
  refine bl_getr X V ha0 fl_X9_26 rfl dX9_joinedCost_5 (fun h2 => ?_)
  refine lv_iconst (v := 0) X.1 X.2.1 dX9_joinedCost_8 (by decide) ?_
  obtain ⟨r3, σ4, h5, hf⟩ := bl_bd_at hf
  refine bl_cVv (As := [.ref (bl_ad g (bl_R σ a0 2)), .int 0]) X V hl.1 h1 rfl ml_X9_107 mV_X4_look (t_X4_look l g σ (bl_R σ a0 8) (bl_R σ a0 2) 0 _ h1 h2 h5) rfl rfl ⟨Nat.le_of_ble_eq_true rfl, Nat.le_of_ble_eq_true rfl⟩ rfl rfl (Nat.le_of_ble_eq_true rfl) ⟨Nat.zero_le _, Nat.zero_le _⟩ dX9_joinedCost_9 (fun H locs V => ?_)
  refine lv_aload_n X.1 X.2.1 dX9_joinedCost_12 rfl (lv_at hl 0 rfl) ?_
  refine bl_getr X V ha0 fl_X9_59 rfl dX9_joinedCost_13 (fun h6 => ?_)
  refine lv_iconst (v := 2) X.1 X.2.1 dX9_joinedCost_16 (by decide) ?_
  refine bl_puti X V h6 fp_X9_385 rfl rfl dX9_joinedCost_17 (fun σ7 H locs e8 V => ?_)
  have hf := bl_let_at e8 hf
  refine lv_aload_n X.1 X.2.1 dX9_joinedCost_20 rfl (lv_at hl 0 rfl) ?_
  refine bl_getr X V ha0 fl_X9_59 rfl dX9_joinedCost_21 (fun h9 => ?_)
  refine lv_iload_n X.1 X.2.1 dX9_joinedCost_24 rfl (lv_at hl 3 rfl) ?_
  refine bl_puti X V h9 fp_X9_388 rfl rfl dX9_joinedCost_25 (fun σ10 H locs e11 V => ?_)
  have hf := bl_let_at e11 hf
  refine lv_aload_n X.1 X.2.1 dX9_joinedCost_28 rfl (lv_at hl 0 rfl) ?_
  refine bl_getr X V ha0 fl_X9_59 rfl dX9_joinedCost_29 (fun h12 => ?_)
  refine lv_iload_n X.1 X.2.1 dX9_joinedCost_32 rfl (lv_at hl 1 rfl) ?_
  refine lv_iload_n X.1 X.2.1 dX9_joinedCost_33 rfl (lv_at hl 2 rfl) ?_
  obtain ⟨r13, σ14, h15, hf⟩ := bl_bd_at hf
  refine bl_cVl (As := [.int a1, .int a2]) X V hl.1 h12 rfl ml_X9_256 mV_X4_costOf (t_X4_costOf l g σ10 (bl_R σ10 a0 8) a1 a2 _ h12 h15) rfl rfl ⟨Nat.le_of_ble_eq_true rfl, Nat.le_of_ble_eq_true rfl⟩ rfl rfl (Nat.le_of_ble_eq_true rfl) ⟨Nat.zero_le _, Nat.zero_le _⟩ dX9_joinedCost_34 (fun H locs V => ?_)
  exact bl_retl X V hr hf dX9_joinedCost_37
set_option maxHeartbeats 4000000 in
set_option maxRecDepth 100000 in
theorem t_X9_joined (l : Launch) (g : bl_Gp) (σ : bl_St) (a0 : Nat) (a1 : Int32) (a2 : Int32) (a3 : Int32) (a4 : Int32) (o : Int64 × bl_St) (ha0 : bl_sh[a0]? = some (9, 13)) (hf : f_X9_joined σ a0 a1 a2 a3 a4 = some o) : bl_Cl l g yX9_joined cX9_joined 5 (Option.some Jvm.ClassFile.FieldType.long) (bl_rm 6 156) [.ref (bl_ad g a0), .int a1, .int a2, .int a3, .int a4] σ o := by
  refine bl_met (by decide) (Nat.le_of_ble_eq_true rfl) (fun p e s m below meth c ls X hr V hl => ?_)
  have hl : lv_has ls 5 [(0, .ref (bl_ad g a0)), (1, .int a1), (2, .int a2), (3, .int a3), (4, .int a4)] := hl
  unfold f_X9_joined at hf
  refine lv_aload_n X.1 X.2.1 dX9_joined_0 rfl (lv_at hl 0 rfl) ?_
  refine lv_iload_n X.1 X.2.1 dX9_joined_1 rfl (lv_at hl 1 rfl) ?_
  refine lv_iload_n X.1 X.2.1 dX9_joined_2 rfl (lv_at hl 2 rfl) ?_
  obtain ⟨r1, σ2, h3, hf⟩ := bl_bd_at hf
  refine bl_cVi (As := [.int a1, .int a2]) X V hl.1 ha0 rfl ml_X9_251 mV_X9_isAsked (t_X9_isAsked l g σ a0 a1 a2 _ ha0 h3) rfl rfl ⟨Nat.le_of_ble_eq_true rfl, Nat.le_of_ble_eq_true rfl⟩ rfl rfl (Nat.le_of_ble_eq_true rfl) ⟨Nat.zero_le _, Nat.zero_le _⟩ dX9_joined_3 (fun H locs V => ?_)
  refine lv_if_eq (tgt := 32) X.1 X.2.1 dX9_joined_6 (by decide) (fun c4 => ?_) (fun c4 => ?_)
  · have hf := bl_ifp c4 hf
    refine lv_ldc2 (v := (-1)) X.1 X.2.1 X.2.2.2.1 (X.2.2.2.2.1 _ kl_X9_254) dX9_joined_32 ?_
    exact bl_retl X V hr hf dX9_joined_35
  · have hf := bl_ifn c4 hf
    refine lv_aload_n X.1 X.2.1 dX9_joined_9 rfl (lv_at hl 0 rfl) ?_
    refine bl_getr X V ha0 fl_X9_26 rfl dX9_joined_10 (fun h5 => ?_)
    refine lv_iload_n X.1 X.2.1 dX9_joined_13 rfl (lv_at hl 3 rfl) ?_
    obtain ⟨r6, σ7, h8, hf⟩ := bl_bd_at hf
    refine bl_cVi (As := [.int a3]) X V hl.1 h5 rfl ml_X9_114 mV_X8_hasClass (t_X8_hasClass l g σ2 (bl_R σ2 a0 2) a3 _ h5 h8) rfl rfl ⟨Nat.le_of_ble_eq_true rfl, Nat.le_of_ble_eq_true rfl⟩ rfl rfl (Nat.le_of_ble_eq_true rfl) ⟨Nat.zero_le _, Nat.zero_le _⟩ dX9_joined_14 (fun H locs V => ?_)
    refine lv_if_eq (tgt := 32) X.1 X.2.1 dX9_joined_17 (by decide) (fun c9 => ?_) (fun c9 => ?_)
    · have hf := bl_ifp c9 hf
      refine lv_ldc2 (v := (-1)) X.1 X.2.1 X.2.2.2.1 (X.2.2.2.2.1 _ kl_X9_254) dX9_joined_32 ?_
      exact bl_retl X V hr hf dX9_joined_35
    · have hf := bl_ifn c9 hf
      refine lv_iload X.1 X.2.1 dX9_joined_20 (lv_at hl 4 rfl) ?_
      refine lv_if_lt (tgt := 32) X.1 X.2.1 dX9_joined_22 (by decide) (fun c10 => ?_) (fun c10 => ?_)
      · have hf := bl_ifp c10 hf
        refine lv_ldc2 (v := (-1)) X.1 X.2.1 X.2.2.2.1 (X.2.2.2.2.1 _ kl_X9_254) dX9_joined_32 ?_
        exact bl_retl X V hr hf dX9_joined_35
      · have hf := bl_ifn c10 hf
        refine lv_iload X.1 X.2.1 dX9_joined_25 (lv_at hl 4 rfl) ?_
        refine lv_bipush (v := 50) X.1 X.2.1 dX9_joined_27 (by decide) ?_
        refine lv_icmp_le (tgt := 36) X.1 X.2.1 dX9_joined_29 (by decide) (fun c11 => ?_) (fun c11 => ?_)
        · have hf := bl_ifp c11 hf
          refine lv_aload_n X.1 X.2.1 dX9_joined_36 rfl (lv_at hl 0 rfl) ?_
          refine lv_iload_n X.1 X.2.1 dX9_joined_37 rfl (lv_at hl 1 rfl) ?_
          refine lv_aload_n X.1 X.2.1 dX9_joined_38 rfl (lv_at hl 0 rfl) ?_
          refine lv_iload_n X.1 X.2.1 dX9_joined_39 rfl (lv_at hl 2 rfl) ?_
          refine lv_iload_n X.1 X.2.1 dX9_joined_40 rfl (lv_at hl 3 rfl) ?_
          obtain ⟨r12, σ13, h14, hf⟩ := bl_bd_at hf
          refine bl_cVi (As := [.int a2, .int a3]) X V hl.1 ha0 rfl ml_X9_319 mV_X9_joinedClass (t_X9_joinedClass l g σ7 a0 a2 a3 _ ha0 h14) rfl rfl ⟨Nat.le_of_ble_eq_true rfl, Nat.le_of_ble_eq_true rfl⟩ rfl rfl (Nat.le_of_ble_eq_true rfl) ⟨Nat.zero_le _, Nat.zero_le _⟩ dX9_joined_41 (fun H locs V => ?_)
          refine lv_iload X.1 X.2.1 dX9_joined_44 (lv_at hl 4 rfl) ?_
          obtain ⟨r15, σ16, h17, hf⟩ := bl_bd_at hf
          refine bl_cVl (As := [.int a1, .int r12, .int a4]) X V hl.1 ha0 rfl ml_X9_322 mV_X9_joinedCost (t_X9_joinedCost l g σ13 a0 a1 r12 a4 _ ha0 h17) rfl rfl ⟨Nat.le_of_ble_eq_true rfl, Nat.le_of_ble_eq_true rfl⟩ rfl rfl (Nat.le_of_ble_eq_true rfl) ⟨Nat.zero_le _, Nat.zero_le _⟩ dX9_joined_46 (fun H locs V => ?_)
          exact bl_retl X V hr hf dX9_joined_49
        · have hf := bl_ifn c11 hf
          refine lv_ldc2 (v := (-1)) X.1 X.2.1 X.2.2.2.1 (X.2.2.2.2.1 _ kl_X9_254) dX9_joined_32 ?_
          exact bl_retl X V hr hf dX9_joined_35
set_option maxHeartbeats 4000000 in
set_option maxRecDepth 100000 in
theorem w_X9_rebate_124 {p : Program} {l : Launch} {e : Env} {s : State} {m : MethodId} {below : List Frame} {meth : Method} {c : Code} {g : bl_Gp} {as : List Value} {out : Int32 × bl_St} (X : bl_Cx g p s m as.toArray meth c cX9_rebate 11 RX9) (hr : meth.sig.returnType = (Option.some Jvm.ClassFile.FieldType.int)) (k73 : bl_St → Nat → Int32 → Int64 → Int32 → Int32 → Int32 → Int32 → Option (Int32 × bl_St)) (hk73 : ∀ (σ : bl_St) (v0 : Nat) (v1 : Int32) (v4 : Int64) (v6 : Int32) (v7 : Int32) (v8 : Int32) (v9 : Int32), bl_sh[v0]? = some (9, 13) → k73 σ v0 v1 v4 v6 v7 v8 v9 = some out → ∀ (H : Heap) (locs : List Loc) (ls : Array Slot), bl_V g s σ H locs → lv_has ls 11 [(0, .ref (bl_ad g v0)), (1, .int v1), (4, .long v4), (6, .int v6), (7, .int v7), (8, .int v8), (9, .int v9)] → W p l e (bl_rm 6 156) s m as.toArray below meth c H locs 0 0 (bl_Qi below g s as out) (F0 m 73 ls [])) : ∀ (σ : bl_St) (v0 : Nat) (v1 : Int32) (v4 : Int64) (v6 : Int32) (v7 : Int32) (v8 : Int32) (v9 : Int32), bl_sh[v0]? = some (9, 13) → (b_X9_rebate_124 k73) σ v0 v1 v4 v6 v7 v8 v9 = some out → ∀ (H : Heap) (locs : List Loc) (ls : Array Slot), bl_V g s σ H locs → lv_has ls 11 [(0, .ref (bl_ad g v0)), (1, .int v1), (4, .long v4), (6, .int v6), (7, .int v7), (8, .int v8), (9, .int v9)] → W p l e (bl_rm 6 156) s m as.toArray below meth c H locs 0 0 (bl_Qi below g s as out) (F0 m 124 ls []) := by
  intro σ v0 v1 v4 v6 v7 v8 v9 hv0 hf H locs ls V hl
  unfold b_X9_rebate_124 at hf
  obtain ⟨x1, e2⟩ : ∃ z : Int32, z = v9 + 1 := ⟨_, rfl⟩
  have hf := bl_let_at e2 hf
  refine lv_iinc (v := x1) (lv' := [(9, .int x1), (0, .ref (bl_ad g v0)), (1, .int v1), (4, .long v4), (6, .int v6), (7, .int v7), (8, .int v8)]) X.1 X.2.1 dX9_rebate_124 hl (k := 6) rfl (by rw [e2]; rfl) (by decide) rfl (fun ls hl => ?_)
  refine lv_goto (tgt := 73) X.1 X.2.1 dX9_rebate_127 (by decide) ?_
  exact hk73 σ v0 v1 v4 v6 v7 v8 x1 hv0 hf _ _ _ V (lv_sub hl [1, 2, 3, 4, 5, 6, 0] rfl)
set_option maxHeartbeats 4000000 in
set_option maxRecDepth 100000 in
theorem w_X9_rebate_73 {p : Program} {l : Launch} {e : Env} {s : State} {m : MethodId} {below : List Frame} {meth : Method} {c : Code} {g : bl_Gp} {as : List Value} {out : Int32 × bl_St} (X : bl_Cx g p s m as.toArray meth c cX9_rebate 11 RX9) (hr : meth.sig.returnType = (Option.some Jvm.ClassFile.FieldType.int)) (k73 : bl_St → Nat → Int32 → Int64 → Int32 → Int32 → Int32 → Int32 → Option (Int32 × bl_St)) (hk73 : ∀ (σ : bl_St) (v0 : Nat) (v1 : Int32) (v4 : Int64) (v6 : Int32) (v7 : Int32) (v8 : Int32) (v9 : Int32), bl_sh[v0]? = some (9, 13) → k73 σ v0 v1 v4 v6 v7 v8 v9 = some out → ∀ (H : Heap) (locs : List Loc) (ls : Array Slot), bl_V g s σ H locs → lv_has ls 11 [(0, .ref (bl_ad g v0)), (1, .int v1), (4, .long v4), (6, .int v6), (7, .int v7), (8, .int v8), (9, .int v9)] → W p l e (bl_rm 6 156) s m as.toArray below meth c H locs 0 0 (bl_Qi below g s as out) (F0 m 73 ls [])) : ∀ (σ : bl_St) (v0 : Nat) (v1 : Int32) (v4 : Int64) (v6 : Int32) (v7 : Int32) (v8 : Int32) (v9 : Int32), bl_sh[v0]? = some (9, 13) → (b_X9_rebate_73 k73) σ v0 v1 v4 v6 v7 v8 v9 = some out → ∀ (H : Heap) (locs : List Loc) (ls : Array Slot), bl_V g s σ H locs → lv_has ls 11 [(0, .ref (bl_ad g v0)), (1, .int v1), (4, .long v4), (6, .int v6), (7, .int v7), (8, .int v8), (9, .int v9)] → W p l e (bl_rm 6 156) s m as.toArray below meth c H locs 0 0 (bl_Qi below g s as out) (F0 m 73 ls []) := by
  intro σ v0 v1 v4 v6 v7 v8 v9 hv0 hf H locs ls V hl
  unfold b_X9_rebate_73 at hf
  refine lv_iload X.1 X.2.1 dX9_rebate_73 (lv_at hl 6 rfl) ?_
  refine lv_bipush (v := 50) X.1 X.2.1 dX9_rebate_75 (by decide) ?_
  refine lv_icmp_ge (tgt := 130) X.1 X.2.1 dX9_rebate_77 (by decide) (fun c3 => ?_) (fun c3 => ?_)
  · have hf := bl_ifp c3 hf
    refine lv_iload X.1 X.2.1 dX9_rebate_130 (lv_at hl 4 rfl) ?_
    exact bl_reti X V hr hf dX9_rebate_132
  · have hf := bl_ifn c3 hf
    refine lv_iload X.1 X.2.1 dX9_rebate_80 (lv_at hl 4 rfl) ?_
    refine lv_iload X.1 X.2.1 dX9_rebate_82 (lv_at hl 5 rfl) ?_
    refine lv_icmp_ge (tgt := 130) X.1 X.2.1 dX9_rebate_84 (by decide) (fun c4 => ?_) (fun c4 => ?_)
    · have hf := bl_ifp c4 hf
      refine lv_iload X.1 X.2.1 dX9_rebate_130 (lv_at hl 4 rfl) ?_
      exact bl_reti X V hr hf dX9_rebate_132
    · have hf := bl_ifn c4 hf
      refine lv_iload X.1 X.2.1 dX9_rebate_87 (lv_at hl 4 rfl) ?_
      refine lv_iload X.1 X.2.1 dX9_rebate_89 (lv_at hl 5 rfl) ?_
      refine lv_iadd X.1 X.2.1 dX9_rebate_91 ?_
      refine lv_iconst (v := 2) X.1 X.2.1 dX9_rebate_92 (by decide) ?_
      refine lv_idiv X.1 X.2.1 dX9_rebate_93 (by decide) ?_
      refine lv_topi (fun x5 e6 => ?_)
      have hf := bl_let_at e6 hf
      refine lv_istore (lv' := [(10, .int x5), (0, .ref (bl_ad g v0)), (1, .int v1), (4, .long v4), (6, .int v6), (7, .int v7), (8, .int v8), (9, .int v9)]) X.1 X.2.1 dX9_rebate_94 hl (by decide) rfl (fun ls hl => ?_)
      refine lv_aload_n X.1 X.2.1 dX9_rebate_96 rfl (lv_at hl 1 rfl) ?_
      refine lv_iload_n X.1 X.2.1 dX9_rebate_97 rfl (lv_at hl 2 rfl) ?_
      refine lv_iload X.1 X.2.1 dX9_rebate_98 (lv_at hl 4 rfl) ?_
      refine lv_iload X.1 X.2.1 dX9_rebate_100 (lv_at hl 0 rfl) ?_
      obtain ⟨r7, σ8, h9, hf⟩ := bl_bd_at hf
      refine bl_cVl (As := [.int v1, .int v6, .int x5]) X V hl.1 hv0 rfl ml_X9_322 mV_X9_joinedCost (t_X9_joinedCost l g σ v0 v1 v6 x5 _ hv0 h9) rfl rfl ⟨Nat.le_of_ble_eq_true rfl, Nat.le_of_ble_eq_true rfl⟩ rfl rfl (Nat.le_of_ble_eq_true rfl) ⟨Nat.zero_le _, Nat.zero_le _⟩ dX9_rebate_102 (fun H locs V => ?_)
      refine lv_lload X.1 X.2.1 dX9_rebate_105 (lv_at hl 3 rfl) ?_
      refine bl_lc_ge (tgt := 118) X dX9_rebate_107 dX9_rebate_108 (by decide) (fun c10 => ?_) (fun c10 => ?_)
      · have hf := bl_ifp c10 hf
        refine lv_iload X.1 X.2.1 dX9_rebate_118 (lv_at hl 0 rfl) ?_
        refine lv_iconst (v := 1) X.1 X.2.1 dX9_rebate_120 (by decide) ?_
        refine lv_iadd X.1 X.2.1 dX9_rebate_121 ?_
        refine lv_topi (fun x11 e12 => ?_)
        have hf := bl_let_at e12 hf
        refine lv_istore (lv' := [(7, .int x11), (10, .int x5), (0, .ref (bl_ad g v0)), (1, .int v1), (4, .long v4), (6, .int v6), (8, .int v8), (9, .int v9)]) X.1 X.2.1 dX9_rebate_122 hl (by decide) rfl (fun ls hl => ?_)
        exact w_X9_rebate_124 X hr k73 hk73 σ8 v0 v1 v4 v6 x11 v8 v9 hv0 hf _ _ _ V (lv_sub hl [2, 3, 4, 5, 0, 6, 7] rfl)
      · have hf := bl_ifn c10 hf
        refine lv_iload X.1 X.2.1 dX9_rebate_111 (lv_at hl 0 rfl) ?_
        refine lv_istore (lv' := [(8, .int x5), (10, .int x5), (0, .ref (bl_ad g v0)), (1, .int v1), (4, .long v4), (6, .int v6), (7, .int v7), (9, .int v9)]) X.1 X.2.1 dX9_rebate_113 hl (by decide) rfl (fun ls hl => ?_)
        refine lv_goto (tgt := 124) X.1 X.2.1 dX9_rebate_115 (by decide) ?_
        exact w_X9_rebate_124 X hr k73 hk73 σ8 v0 v1 v4 v6 v7 x5 v9 hv0 hf _ _ _ V (lv_sub hl [2, 3, 4, 5, 6, 0, 7] rfl)
theorem l_X9_rebate_73 {p : Program} {l : Launch} {e : Env} {s : State} {m : MethodId} {below : List Frame} {meth : Method} {c : Code} {g : bl_Gp} {as : List Value} {out : Int32 × bl_St} (X : bl_Cx g p s m as.toArray meth c cX9_rebate 11 RX9) (hr : meth.sig.returnType = (Option.some Jvm.ClassFile.FieldType.int)) (n : Nat) : ∀ (σ : bl_St) (v0 : Nat) (v1 : Int32) (v4 : Int64) (v6 : Int32) (v7 : Int32) (v8 : Int32) (v9 : Int32), bl_sh[v0]? = some (9, 13) → (bl_fx (fun _ _ _ _ _ _ _ _ => none) (b_X9_rebate_73 ) n) σ v0 v1 v4 v6 v7 v8 v9 = some out → ∀ (H : Heap) (locs : List Loc) (ls : Array Slot), bl_V g s σ H locs → lv_has ls 11 [(0, .ref (bl_ad g v0)), (1, .int v1), (4, .long v4), (6, .int v6), (7, .int v7), (8, .int v8), (9, .int v9)] → W p l e (bl_rm 6 156) s m as.toArray below meth c H locs 0 0 (bl_Qi below g s as out) (F0 m 73 ls []) := by
  induction n with
  | zero =>
    intro σ v0 v1 v4 v6 v7 v8 v9 hv0 hf H locs ls V hl
    cases hf
  | succ n ih => exact w_X9_rebate_73 X hr  _ ih
set_option maxHeartbeats 4000000 in
set_option maxRecDepth 100000 in
theorem t_X9_rebate (l : Launch) (g : bl_Gp) (σ : bl_St) (a0 : Nat) (a1 : Int32) (a2 : Int32) (a3 : Int32) (o : Int32 × bl_St) (ha0 : bl_sh[a0]? = some (9, 13)) (hf : f_X9_rebate σ a0 a1 a2 a3 = some o) : bl_Ci l g yX9_rebate cX9_rebate 11 (Option.some Jvm.ClassFile.FieldType.int) (bl_rm 6 156) [.ref (bl_ad g a0), .int a1, .int a2, .int a3] σ o := by
  refine bl_met (by decide) (Nat.le_of_ble_eq_true rfl) (fun p e s m below meth c ls X hr V hl => ?_)
  have hl : lv_has ls 11 [(0, .ref (bl_ad g a0)), (1, .int a1), (2, .int a2), (3, .int a3)] := hl
  unfold f_X9_rebate at hf
  refine lv_aload_n X.1 X.2.1 dX9_rebate_0 rfl (lv_at hl 0 rfl) ?_
  refine lv_iload_n X.1 X.2.1 dX9_rebate_1 rfl (lv_at hl 1 rfl) ?_
  refine lv_iload_n X.1 X.2.1 dX9_rebate_2 rfl (lv_at hl 2 rfl) ?_
  obtain ⟨r13, σ14, h15, hf⟩ := bl_bd_at hf
  refine bl_cVi (As := [.int a1, .int a2]) X V hl.1 ha0 rfl ml_X9_251 mV_X9_isAsked (t_X9_isAsked l g σ a0 a1 a2 _ ha0 h15) rfl rfl ⟨Nat.le_of_ble_eq_true rfl, Nat.le_of_ble_eq_true rfl⟩ rfl rfl (Nat.le_of_ble_eq_true rfl) ⟨Nat.zero_le _, Nat.zero_le _⟩ dX9_rebate_3 (fun H locs V => ?_)
  refine lv_if_eq (tgt := 20) X.1 X.2.1 dX9_rebate_6 (by decide) (fun c16 => ?_) (fun c16 => ?_)
  · have hf := bl_ifp c16 hf
    refine lv_iconst (v := (-1)) X.1 X.2.1 dX9_rebate_20 (by decide) ?_
    exact bl_reti X V hr hf dX9_rebate_21
  · have hf := bl_ifn c16 hf
    refine lv_aload_n X.1 X.2.1 dX9_rebate_9 rfl (lv_at hl 0 rfl) ?_
    refine bl_getr X V ha0 fl_X9_26 rfl dX9_rebate_10 (fun h17 => ?_)
    refine lv_iload_n X.1 X.2.1 dX9_rebate_13 rfl (lv_at hl 3 rfl) ?_
    obtain ⟨r18, σ19, h20, hf⟩ := bl_bd_at hf
    refine bl_cVi (As := [.int a3]) X V hl.1 h17 rfl ml_X9_114 mV_X8_hasClass (t_X8_hasClass l g σ14 (bl_R σ14 a0 2) a3 _ h17 h20) rfl rfl ⟨Nat.le_of_ble_eq_true rfl, Nat.le_of_ble_eq_true rfl⟩ rfl rfl (Nat.le_of_ble_eq_true rfl) ⟨Nat.zero_le _, Nat.zero_le _⟩ dX9_rebate_14 (fun H locs V => ?_)
    refine lv_if_ne (tgt := 22) X.1 X.2.1 dX9_rebate_17 (by decide) (fun c21 => ?_) (fun c21 => ?_)
    · have hf := bl_ifn c21 hf
      refine lv_aload_n X.1 X.2.1 dX9_rebate_22 rfl (lv_at hl 0 rfl) ?_
      refine lv_iload_n X.1 X.2.1 dX9_rebate_23 rfl (lv_at hl 1 rfl) ?_
      refine lv_iload_n X.1 X.2.1 dX9_rebate_24 rfl (lv_at hl 2 rfl) ?_
      obtain ⟨r22, σ23, h24, hf⟩ := bl_bd_at hf
      refine bl_cVl (As := [.int a1, .int a2]) X V hl.1 ha0 rfl ml_X9_294 mV_X9_bareCost (t_X9_bareCost l g σ19 a0 a1 a2 _ ha0 h24) rfl rfl ⟨Nat.le_of_ble_eq_true rfl, Nat.le_of_ble_eq_true rfl⟩ rfl rfl (Nat.le_of_ble_eq_true rfl) ⟨Nat.zero_le _, Nat.zero_le _⟩ dX9_rebate_25 (fun H locs V => ?_)
      refine lv_aload_n X.1 X.2.1 dX9_rebate_28 rfl (lv_at hl 0 rfl) ?_
      refine lv_iload_n X.1 X.2.1 dX9_rebate_29 rfl (lv_at hl 1 rfl) ?_
      refine lv_iload_n X.1 X.2.1 dX9_rebate_30 rfl (lv_at hl 3 rfl) ?_
      obtain ⟨r25, σ26, h27, hf⟩ := bl_bd_at hf
      refine bl_cVl (As := [.int a1, .int a3]) X V hl.1 ha0 rfl ml_X9_294 mV_X9_bareCost (t_X9_bareCost l g σ23 a0 a1 a3 _ ha0 h27) rfl rfl ⟨Nat.le_of_ble_eq_true rfl, Nat.le_of_ble_eq_true rfl⟩ rfl rfl (Nat.le_of_ble_eq_true rfl) ⟨Nat.zero_le _, Nat.zero_le _⟩ dX9_rebate_31 (fun H locs V => ?_)
      refine lv_ladd X.1 X.2.1 dX9_rebate_34 ?_
      refine lv_topl (fun x28 e29 => ?_)
      have hf := bl_let_at e29 hf
      refine lv_lstore (lv' := [(4, .long x28), (0, .ref (bl_ad g a0)), (1, .int a1), (2, .int a2), (3, .int a3)]) X.1 X.2.1 dX9_rebate_35 hl (by decide) rfl (fun ls hl => ?_)
      refine lv_aload_n X.1 X.2.1 dX9_rebate_37 rfl (lv_at hl 1 rfl) ?_
      refine lv_iload_n X.1 X.2.1 dX9_rebate_38 rfl (lv_at hl 3 rfl) ?_
      refine lv_iload_n X.1 X.2.1 dX9_rebate_39 rfl (lv_at hl 4 rfl) ?_
      obtain ⟨r30, σ31, h32, hf⟩ := bl_bd_at hf
      refine bl_cVi (As := [.int a2, .int a3]) X V hl.1 ha0 rfl ml_X9_319 mV_X9_joinedClass (t_X9_joinedClass l g σ26 a0 a2 a3 _ ha0 h32) rfl rfl ⟨Nat.le_of_ble_eq_true rfl, Nat.le_of_ble_eq_true rfl⟩ rfl rfl (Nat.le_of_ble_eq_true rfl) ⟨Nat.zero_le _, Nat.zero_le _⟩ dX9_rebate_40 (fun H locs V => ?_)
      refine lv_istore (lv' := [(6, .int r30), (4, .long x28), (0, .ref (bl_ad g a0)), (1, .int a1), (2, .int a2), (3, .int a3)]) X.1 X.2.1 dX9_rebate_43 hl (by decide) rfl (fun ls hl => ?_)
      refine lv_aload_n X.1 X.2.1 dX9_rebate_45 rfl (lv_at hl 2 rfl) ?_
      refine lv_iload_n X.1 X.2.1 dX9_rebate_46 rfl (lv_at hl 3 rfl) ?_
      refine lv_iload X.1 X.2.1 dX9_rebate_47 (lv_at hl 0 rfl) ?_
      refine lv_bipush (v := 50) X.1 X.2.1 dX9_rebate_49 (by decide) ?_
      obtain ⟨r33, σ34, h35, hf⟩ := bl_bd_at hf
      refine bl_cVl (As := [.int a1, .int r30, .int 50]) X V hl.1 ha0 rfl ml_X9_322 mV_X9_joinedCost (t_X9_joinedCost l g σ31 a0 a1 r30 50 _ ha0 h35) rfl rfl ⟨Nat.le_of_ble_eq_true rfl, Nat.le_of_ble_eq_true rfl⟩ rfl rfl (Nat.le_of_ble_eq_true rfl) ⟨Nat.zero_le _, Nat.zero_le _⟩ dX9_rebate_51 (fun H locs V => ?_)
      refine lv_lload X.1 X.2.1 dX9_rebate_54 (lv_at hl 1 rfl) ?_
      refine bl_lc_lt (tgt := 63) X dX9_rebate_56 dX9_rebate_57 (by decide) (fun c36 => ?_) (fun c36 => ?_)
      · have hf := bl_ifp c36 hf
        refine lv_iconst (v := 0) X.1 X.2.1 dX9_rebate_63 (by decide) ?_
        refine lv_istore (lv' := [(7, .int 0), (6, .int r30), (4, .long x28), (0, .ref (bl_ad g a0)), (1, .int a1), (2, .int a2), (3, .int a3)]) X.1 X.2.1 dX9_rebate_64 hl (by decide) rfl (fun ls hl => ?_)
        refine lv_bipush (v := 50) X.1 X.2.1 dX9_rebate_66 (by decide) ?_
        refine lv_istore (lv' := [(8, .int 50), (7, .int 0), (6, .int r30), (4, .long x28), (0, .ref (bl_ad g a0)), (1, .int a1), (2, .int a2), (3, .int a3)]) X.1 X.2.1 dX9_rebate_68 hl (by decide) rfl (fun ls hl => ?_)
        refine lv_iconst (v := 0) X.1 X.2.1 dX9_rebate_70 (by decide) ?_
        refine lv_istore (lv' := [(9, .int 0), (8, .int 50), (7, .int 0), (6, .int r30), (4, .long x28), (0, .ref (bl_ad g a0)), (1, .int a1), (2, .int a2), (3, .int a3)]) X.1 X.2.1 dX9_rebate_71 hl (by decide) rfl (fun ls hl => ?_)
        exact l_X9_rebate_73 X hr  bl_fu σ34 a0 a1 x28 r30 0 50 0 ha0 hf _ _ _ V (lv_sub hl [5, 6, 4, 3, 2, 1, 0] rfl)
      · have hf := bl_ifn c36 hf
        refine lv_bipush (v := (-2)) X.1 X.2.1 dX9_rebate_60 (by decide) ?_
        exact bl_reti X V hr hf dX9_rebate_62
    · have hf := bl_ifp c21 hf
      refine lv_iconst (v := (-1)) X.1 X.2.1 dX9_rebate_20 (by decide) ?_
      exact bl_reti X V hr hf dX9_rebate_21
set_option maxHeartbeats 4000000 in
set_option maxRecDepth 100000 in
theorem t_X9_advice (l : Launch) (g : bl_Gp) (σ : bl_St) (a0 : Nat) (a1 : Int32) (a2 : Int32) (o : Int32 × bl_St) (ha0 : bl_sh[a0]? = some (9, 13)) (hf : f_X9_advice σ a0 a1 a2 = some o) : bl_Ci l g yX9_advice cX9_advice 4 (Option.some Jvm.ClassFile.FieldType.int) (bl_rm 4 111) [.ref (bl_ad g a0), .int a1, .int a2] σ o := by
  refine bl_met (by decide) (Nat.le_of_ble_eq_true rfl) (fun p e s m below meth c ls X hr V hl => ?_)
  have hl : lv_has ls 4 [(0, .ref (bl_ad g a0)), (1, .int a1), (2, .int a2)] := hl
  unfold f_X9_advice at hf
  refine lv_aload_n X.1 X.2.1 dX9_advice_0 rfl (lv_at hl 0 rfl) ?_
  refine bl_getr X V ha0 fl_X9_36 rfl dX9_advice_1 (fun h1 => ?_)
  refine bl_geti X V h1 fl_X9_150 dX9_advice_4 ?_
  refine lv_if_eq (tgt := 32) X.1 X.2.1 dX9_advice_7 (by decide) (fun c2 => ?_) (fun c2 => ?_)
  · have hf := bl_ifp c2 hf
    refine lv_iconst (v := (-1)) X.1 X.2.1 dX9_advice_32 (by decide) ?_
    exact bl_reti X V hr hf dX9_advice_33
  · have hf := bl_ifn c2 hf
    refine lv_iload_n X.1 X.2.1 dX9_advice_10 rfl (lv_at hl 1 rfl) ?_
    refine lv_iconst (v := 1) X.1 X.2.1 dX9_advice_11 (by decide) ?_
    refine lv_icmp_lt (tgt := 32) X.1 X.2.1 dX9_advice_12 (by decide) (fun c3 => ?_) (fun c3 => ?_)
    · have hf := bl_ifp c3 hf
      refine lv_iconst (v := (-1)) X.1 X.2.1 dX9_advice_32 (by decide) ?_
      exact bl_reti X V hr hf dX9_advice_33
    · have hf := bl_ifn c3 hf
      refine lv_iload_n X.1 X.2.1 dX9_advice_15 rfl (lv_at hl 1 rfl) ?_
      refine lv_bipush (v := 20) X.1 X.2.1 dX9_advice_16 (by decide) ?_
      refine lv_icmp_gt (tgt := 32) X.1 X.2.1 dX9_advice_18 (by decide) (fun c4 => ?_) (fun c4 => ?_)
      · have hf := bl_ifp c4 hf
        refine lv_iconst (v := (-1)) X.1 X.2.1 dX9_advice_32 (by decide) ?_
        exact bl_reti X V hr hf dX9_advice_33
      · have hf := bl_ifn c4 hf
        refine lv_aload_n X.1 X.2.1 dX9_advice_21 rfl (lv_at hl 0 rfl) ?_
        refine bl_getr X V ha0 fl_X9_26 rfl dX9_advice_22 (fun h5 => ?_)
        refine lv_iload_n X.1 X.2.1 dX9_advice_25 rfl (lv_at hl 2 rfl) ?_
        obtain ⟨r6, σ7, h8, hf⟩ := bl_bd_at hf
        refine bl_cVi (As := [.int a2]) X V hl.1 h5 rfl ml_X9_133 mV_X8_hasSort (t_X8_hasSort l g σ (bl_R σ a0 2) a2 _ h5 h8) rfl rfl ⟨Nat.le_of_ble_eq_true rfl, Nat.le_of_ble_eq_true rfl⟩ rfl rfl (Nat.le_of_ble_eq_true rfl) ⟨Nat.zero_le _, Nat.zero_le _⟩ dX9_advice_26 (fun H locs V => ?_)
        refine lv_if_ne (tgt := 34) X.1 X.2.1 dX9_advice_29 (by decide) (fun c9 => ?_) (fun c9 => ?_)
        · have hf := bl_ifn c9 hf
          refine lv_iconst (v := 2) X.1 X.2.1 dX9_advice_34 (by decide) ?_
          refine lv_aload_n X.1 X.2.1 dX9_advice_35 rfl (lv_at hl 0 rfl) ?_
          refine bl_getr X V ha0 fl_X9_36 rfl dX9_advice_36 (fun h10 => ?_)
          refine bl_geti X V h10 fl_X9_206 dX9_advice_39 ?_
          refine bl_mini X hl.1 mm_X9_243 ⟨Nat.le_of_ble_eq_true rfl, Nat.le_of_ble_eq_true rfl⟩ ⟨Nat.zero_le _, Nat.zero_le _⟩ dX9_advice_42 ?_
          refine lv_topi (fun x11 e12 => ?_)
          have hf := bl_let_at e12 hf
          refine lv_istore_n (lv' := [(3, .int x11), (0, .ref (bl_ad g a0)), (1, .int a1), (2, .int a2)]) X.1 X.2.1 dX9_advice_45 rfl hl (by decide) rfl (fun ls hl => ?_)
          refine lv_aload_n X.1 X.2.1 dX9_advice_46 rfl (lv_at hl 1 rfl) ?_
          refine bl_getr X V ha0 fl_X9_55 rfl dX9_advice_47 (fun h13 => ?_)
          refine lv_iload_n X.1 X.2.1 dX9_advice_50 rfl (lv_at hl 2 rfl) ?_
          refine lv_iconst (v := 1) X.1 X.2.1 dX9_advice_51 (by decide) ?_
          refine lv_isub X.1 X.2.1 dX9_advice_52 ?_
          obtain ⟨r14, σ15, h16, hf⟩ := bl_bd_at hf
          refine bl_cVv (As := [.int (a1 - 1)]) X V hl.1 h13 rfl ml_X9_260 mV_X4_learn (t_X4_learn l g σ7 (bl_R σ7 a0 7) (a1 - 1) _ h13 h16) rfl rfl ⟨Nat.le_of_ble_eq_true rfl, Nat.le_of_ble_eq_true rfl⟩ rfl rfl (Nat.le_of_ble_eq_true rfl) ⟨Nat.zero_le _, Nat.zero_le _⟩ dX9_advice_53 (fun H locs V => ?_)
          refine lv_aload_n X.1 X.2.1 dX9_advice_56 rfl (lv_at hl 1 rfl) ?_
          refine bl_getr X V ha0 fl_X9_55 rfl dX9_advice_57 (fun h17 => ?_)
          refine lv_iload_n X.1 X.2.1 dX9_advice_60 rfl (lv_at hl 2 rfl) ?_
          refine lv_aload_n X.1 X.2.1 dX9_advice_61 rfl (lv_at hl 1 rfl) ?_
          refine bl_getr X V ha0 fl_X9_36 rfl dX9_advice_62 (fun h18 => ?_)
          refine bl_geti X V h18 fl_X9_187 dX9_advice_65 ?_
          refine lv_aload_n X.1 X.2.1 dX9_advice_68 rfl (lv_at hl 1 rfl) ?_
          refine bl_getr X V ha0 fl_X9_36 rfl dX9_advice_69 (fun h19 => ?_)
          refine bl_geti X V h19 fl_X9_203 dX9_advice_72 ?_
          refine lv_iload_n X.1 X.2.1 dX9_advice_75 rfl (lv_at hl 0 rfl) ?_
          refine lv_aload_n X.1 X.2.1 dX9_advice_76 rfl (lv_at hl 1 rfl) ?_
          refine bl_getr X V ha0 fl_X9_36 rfl dX9_advice_77 (fun h20 => ?_)
          refine bl_geti X V h20 fl_X9_209 dX9_advice_80 ?_
          obtain ⟨r21, σ22, h23, hf⟩ := bl_bd_at hf
          refine bl_cVv (As := [.int a1, .int (bl_I σ15 (bl_R σ15 a0 4) 0), .int (bl_I σ15 (bl_R σ15 a0 4) 2), .int x11, .int (bl_I σ15 (bl_R σ15 a0 4) 4)]) X V hl.1 h17 rfl ml_X9_270 mV_X4_lookAhead (t_X4_lookAhead l g σ15 (bl_R σ15 a0 7) a1 (bl_I σ15 (bl_R σ15 a0 4) 0) (bl_I σ15 (bl_R σ15 a0 4) 2) x11 (bl_I σ15 (bl_R σ15 a0 4) 4) _ h17 h23) rfl rfl ⟨Nat.le_of_ble_eq_true rfl, Nat.le_of_ble_eq_true rfl⟩ rfl rfl (Nat.le_of_ble_eq_true rfl) ⟨Nat.zero_le _, Nat.zero_le _⟩ dX9_advice_83 (fun H locs V => ?_)
          refine lv_aload_n X.1 X.2.1 dX9_advice_86 rfl (lv_at hl 1 rfl) ?_
          refine bl_getr X V ha0 fl_X9_55 rfl dX9_advice_87 (fun h24 => ?_)
          refine lv_aload_n X.1 X.2.1 dX9_advice_90 rfl (lv_at hl 1 rfl) ?_
          refine bl_getr X V ha0 fl_X9_36 rfl dX9_advice_91 (fun h25 => ?_)
          refine bl_geti X V h25 fl_X9_203 dX9_advice_94 ?_
          refine lv_iload_n X.1 X.2.1 dX9_advice_97 rfl (lv_at hl 0 rfl) ?_
          refine lv_aload_n X.1 X.2.1 dX9_advice_98 rfl (lv_at hl 1 rfl) ?_
          refine bl_getr X V ha0 fl_X9_36 rfl dX9_advice_99 (fun h26 => ?_)
          refine bl_geti X V h26 fl_X9_209 dX9_advice_102 ?_
          refine lv_iload_n X.1 X.2.1 dX9_advice_105 rfl (lv_at hl 3 rfl) ?_
          obtain ⟨r27, σ28, h29, hf⟩ := bl_bd_at hf
          refine bl_cVl (As := [.int (bl_I σ22 (bl_R σ22 a0 4) 2), .int x11, .int (bl_I σ22 (bl_R σ22 a0 4) 4), .int a2]) X V hl.1 h24 rfl ml_X9_285 mV_X4_gainOf (t_X4_gainOf l g σ22 (bl_R σ22 a0 7) (bl_I σ22 (bl_R σ22 a0 4) 2) x11 (bl_I σ22 (bl_R σ22 a0 4) 4) a2 _ h24 h29) rfl rfl ⟨Nat.le_of_ble_eq_true rfl, Nat.le_of_ble_eq_true rfl⟩ rfl rfl (Nat.le_of_ble_eq_true rfl) ⟨Nat.zero_le _, Nat.zero_le _⟩ dX9_advice_106 (fun H locs V => ?_)
          refine lv_lconst (v := 0) X.1 X.2.1 dX9_advice_109 (by decide) ?_
          refine bl_lc_le (tgt := 118) X dX9_advice_110 dX9_advice_111 (by decide) (fun c30 => ?_) (fun c30 => ?_)
          · have hf := bl_ifp c30 hf
            refine lv_iconst (v := 0) X.1 X.2.1 dX9_advice_118 (by decide) ?_
            exact bl_reti X V hr hf dX9_advice_119
          · have hf := bl_ifn c30 hf
            refine lv_iconst (v := 1) X.1 X.2.1 dX9_advice_114 (by decide) ?_
            refine lv_goto (tgt := 119) X.1 X.2.1 dX9_advice_115 (by decide) ?_
            exact bl_reti X V hr hf dX9_advice_119
        · have hf := bl_ifp c9 hf
          refine lv_iconst (v := (-1)) X.1 X.2.1 dX9_advice_32 (by decide) ?_
          exact bl_reti X V hr hf dX9_advice_33
set_option maxHeartbeats 4000000 in
set_option maxRecDepth 100000 in
theorem w_X9_rest_20 {p : Program} {l : Launch} {e : Env} {s : State} {m : MethodId} {below : List Frame} {meth : Method} {c : Code} {g : bl_Gp} {as : List Value} {out : Int32 × bl_St} (X : bl_Cx g p s m as.toArray meth c cX9_rest 5 RX9) (hr : meth.sig.returnType = (Option.some Jvm.ClassFile.FieldType.int)) (k20 : bl_St → Nat → Int32 → Int32 → Int32 → Option (Int32 × bl_St)) (hk20 : ∀ (σ : bl_St) (v0 : Nat) (v2 : Int32) (v3 : Int32) (v4 : Int32), bl_sh[v0]? = some (9, 13) → k20 σ v0 v2 v3 v4 = some out → ∀ (H : Heap) (locs : List Loc) (ls : Array Slot), bl_V g s σ H locs → lv_has ls 5 [(0, .ref (bl_ad g v0)), (2, .int v2), (3, .int v3), (4, .int v4)] → W p l e (bl_rm 2 39) s m as.toArray below meth c H locs 0 0 (bl_Qi below g s as out) (F0 m 20 ls [])) : ∀ (σ : bl_St) (v0 : Nat) (v2 : Int32) (v3 : Int32) (v4 : Int32), bl_sh[v0]? = some (9, 13) → (b_X9_rest_20 k20) σ v0 v2 v3 v4 = some out → ∀ (H : Heap) (locs : List Loc) (ls : Array Slot), bl_V g s σ H locs → lv_has ls 5 [(0, .ref (bl_ad g v0)), (2, .int v2), (3, .int v3), (4, .int v4)] → W p l e (bl_rm 2 39) s m as.toArray below meth c H locs 0 0 (bl_Qi below g s as out) (F0 m 20 ls []) := by
  intro σ v0 v2 v3 v4 hv0 hf H locs ls V hl
  unfold b_X9_rest_20 at hf
  refine lv_iload X.1 X.2.1 dX9_rest_20 (lv_at hl 3 rfl) ?_
  refine lv_aload_n X.1 X.2.1 dX9_rest_22 rfl (lv_at hl 0 rfl) ?_
  refine bl_getr X V hv0 fl_X9_26 rfl dX9_rest_23 (fun h1 => ?_)
  refine bl_geti X V h1 fl_X9_111 dX9_rest_26 ?_
  refine lv_icmp_gt (tgt := 62) X.1 X.2.1 dX9_rest_29 (by decide) (fun c2 => ?_) (fun c2 => ?_)
  · have hf := bl_ifp c2 hf
    refine lv_iload_n X.1 X.2.1 dX9_rest_62 rfl (lv_at hl 2 rfl) ?_
    exact bl_reti X V hr hf dX9_rest_63
  · have hf := bl_ifn c2 hf
    refine lv_iload_n X.1 X.2.1 dX9_rest_32 rfl (lv_at hl 1 rfl) ?_
    refine lv_iload_n X.1 X.2.1 dX9_rest_33 rfl (lv_at hl 2 rfl) ?_
    refine lv_ishr X.1 X.2.1 dX9_rest_34 ?_
    refine lv_iconst (v := 1) X.1 X.2.1 dX9_rest_35 (by decide) ?_
    refine lv_iand X.1 X.2.1 dX9_rest_36 ?_
    refine lv_if_ne (tgt := 62) X.1 X.2.1 dX9_rest_37 (by decide) (fun c3 => ?_) (fun c3 => ?_)
    · have hf := bl_ifn c3 hf
      refine lv_iload_n X.1 X.2.1 dX9_rest_62 rfl (lv_at hl 2 rfl) ?_
      exact bl_reti X V hr hf dX9_rest_63
    · have hf := bl_ifp c3 hf
      refine lv_iload_n X.1 X.2.1 dX9_rest_40 rfl (lv_at hl 1 rfl) ?_
      refine lv_iconst (v := 1) X.1 X.2.1 dX9_rest_41 (by decide) ?_
      refine lv_iload_n X.1 X.2.1 dX9_rest_42 rfl (lv_at hl 2 rfl) ?_
      refine lv_ishl X.1 X.2.1 dX9_rest_43 ?_
      refine lv_ior X.1 X.2.1 dX9_rest_44 ?_
      refine lv_topi (fun x4 e5 => ?_)
      have hf := bl_let_at e5 hf
      refine lv_istore_n (lv' := [(2, .int x4), (0, .ref (bl_ad g v0)), (3, .int v3), (4, .int v4)]) X.1 X.2.1 dX9_rest_45 rfl hl (by decide) rfl (fun ls hl => ?_)
      refine lv_aload_n X.1 X.2.1 dX9_rest_46 rfl (lv_at hl 1 rfl) ?_
      refine bl_getr X V hv0 fl_X9_26 rfl dX9_rest_47 (fun h6 => ?_)
      refine lv_iload_n X.1 X.2.1 dX9_rest_50 rfl (lv_at hl 2 rfl) ?_
      refine lv_iconst (v := 0) X.1 X.2.1 dX9_rest_51 (by decide) ?_
      obtain ⟨r7, σ8, h9, hf⟩ := bl_bd_at hf
      refine bl_cVi (As := [.int v3, .int 0]) X V hl.1 h6 rfl ml_X9_307 mV_X8_next (t_X8_next l g σ (bl_R σ v0 2) v3 0 _ h6 h9) rfl rfl ⟨Nat.le_of_ble_eq_true rfl, Nat.le_of_ble_eq_true rfl⟩ rfl rfl (Nat.le_of_ble_eq_true rfl) ⟨Nat.zero_le _, Nat.zero_le _⟩ dX9_rest_52 (fun H locs V => ?_)
      refine lv_istore_n (lv' := [(3, .int r7), (2, .int x4), (0, .ref (bl_ad g v0)), (4, .int v4)]) X.1 X.2.1 dX9_rest_55 rfl hl (by decide) rfl (fun ls hl => ?_)
      obtain ⟨x10, e11⟩ : ∃ z : Int32, z = v4 + 1 := ⟨_, rfl⟩
      have hf := bl_let_at e11 hf
      refine lv_iinc (v := x10) (lv' := [(4, .int x10), (3, .int r7), (2, .int x4), (0, .ref (bl_ad g v0))]) X.1 X.2.1 dX9_rest_56 hl (k := 3) rfl (by rw [e11]; rfl) (by decide) rfl (fun ls hl => ?_)
      refine lv_goto (tgt := 20) X.1 X.2.1 dX9_rest_59 (by decide) ?_
      exact hk20 σ8 v0 x4 r7 x10 hv0 hf _ _ _ V (lv_sub hl [3, 2, 1, 0] rfl)
theorem l_X9_rest_20 {p : Program} {l : Launch} {e : Env} {s : State} {m : MethodId} {below : List Frame} {meth : Method} {c : Code} {g : bl_Gp} {as : List Value} {out : Int32 × bl_St} (X : bl_Cx g p s m as.toArray meth c cX9_rest 5 RX9) (hr : meth.sig.returnType = (Option.some Jvm.ClassFile.FieldType.int)) (n : Nat) : ∀ (σ : bl_St) (v0 : Nat) (v2 : Int32) (v3 : Int32) (v4 : Int32), bl_sh[v0]? = some (9, 13) → (bl_fx (fun _ _ _ _ _ => none) (b_X9_rest_20 ) n) σ v0 v2 v3 v4 = some out → ∀ (H : Heap) (locs : List Loc) (ls : Array Slot), bl_V g s σ H locs → lv_has ls 5 [(0, .ref (bl_ad g v0)), (2, .int v2), (3, .int v3), (4, .int v4)] → W p l e (bl_rm 2 39) s m as.toArray below meth c H locs 0 0 (bl_Qi below g s as out) (F0 m 20 ls []) := by
  induction n with
  | zero =>
    intro σ v0 v2 v3 v4 hv0 hf H locs ls V hl
    cases hf
  | succ n ih => exact w_X9_rest_20 X hr  _ ih
set_option maxHeartbeats 4000000 in
set_option maxRecDepth 100000 in
theorem t_X9_rest (l : Launch) (g : bl_Gp) (σ : bl_St) (a0 : Nat) (a1 : Int32) (o : Int32 × bl_St) (ha0 : bl_sh[a0]? = some (9, 13)) (hf : f_X9_rest σ a0 a1 = some o) : bl_Ci l g yX9_rest cX9_rest 5 (Option.some Jvm.ClassFile.FieldType.int) (bl_rm 2 39) [.ref (bl_ad g a0), .int a1] σ o := by
  refine bl_met (by decide) (Nat.le_of_ble_eq_true rfl) (fun p e s m below meth c ls X hr V hl => ?_)
  have hl : lv_has ls 5 [(0, .ref (bl_ad g a0)), (1, .int a1)] := hl
  unfold f_X9_rest at hf
  refine lv_aload_n X.1 X.2.1 dX9_rest_0 rfl (lv_at hl 0 rfl) ?_
  refine bl_getr X V ha0 fl_X9_26 rfl dX9_rest_1 (fun h12 => ?_)
  refine lv_iload_n X.1 X.2.1 dX9_rest_4 rfl (lv_at hl 1 rfl) ?_
  obtain ⟨r13, σ14, h15, hf⟩ := bl_bd_at hf
  refine bl_cVi (As := [.int a1]) X V hl.1 h12 rfl ml_X9_114 mV_X8_hasClass (t_X8_hasClass l g σ (bl_R σ a0 2) a1 _ h12 h15) rfl rfl ⟨Nat.le_of_ble_eq_true rfl, Nat.le_of_ble_eq_true rfl⟩ rfl rfl (Nat.le_of_ble_eq_true rfl) ⟨Nat.zero_le _, Nat.zero_le _⟩ dX9_rest_5 (fun H locs V => ?_)
  refine lv_if_ne (tgt := 13) X.1 X.2.1 dX9_rest_8 (by decide) (fun c16 => ?_) (fun c16 => ?_)
  · have hf := bl_ifn c16 hf
    refine lv_iconst (v := 0) X.1 X.2.1 dX9_rest_13 (by decide) ?_
    refine lv_istore_n (lv' := [(2, .int 0), (0, .ref (bl_ad g a0)), (1, .int a1)]) X.1 X.2.1 dX9_rest_14 rfl hl (by decide) rfl (fun ls hl => ?_)
    refine lv_iload_n X.1 X.2.1 dX9_rest_15 rfl (lv_at hl 2 rfl) ?_
    refine lv_istore_n (lv' := [(3, .int a1), (2, .int 0), (0, .ref (bl_ad g a0)), (1, .int a1)]) X.1 X.2.1 dX9_rest_16 rfl hl (by decide) rfl (fun ls hl => ?_)
    refine lv_iconst (v := 0) X.1 X.2.1 dX9_rest_17 (by decide) ?_
    refine lv_istore (lv' := [(4, .int 0), (3, .int a1), (2, .int 0), (0, .ref (bl_ad g a0)), (1, .int a1)]) X.1 X.2.1 dX9_rest_18 hl (by decide) rfl (fun ls hl => ?_)
    exact l_X9_rest_20 X hr  bl_fu σ14 a0 0 a1 0 ha0 hf _ _ _ V (lv_sub hl [3, 2, 1, 0] rfl)
  · have hf := bl_ifp c16 hf
    refine lv_iconst (v := (-1)) X.1 X.2.1 dX9_rest_11 (by decide) ?_
    exact bl_reti X V hr hf dX9_rest_12
set_option maxHeartbeats 4000000 in
set_option maxRecDepth 100000 in
theorem t_X9_costWere (l : Launch) (g : bl_Gp) (σ : bl_St) (a0 : Nat) (a1 : Int32) (a2 : Int32) (a3 : Int32) (a4 : Int32) (o : Int64 × bl_St) (ha0 : bl_sh[a0]? = some (9, 13)) (hf : f_X9_costWere σ a0 a1 a2 a3 a4 = some o) : bl_Cl l g yX9_costWere cX9_costWere 5 (Option.some Jvm.ClassFile.FieldType.long) (bl_rm 5 133) [.ref (bl_ad g a0), .int a1, .int a2, .int a3, .int a4] σ o := by
  refine bl_met (by decide) (Nat.le_of_ble_eq_true rfl) (fun p e s m below meth c ls X hr V hl => ?_)
  have hl : lv_has ls 5 [(0, .ref (bl_ad g a0)), (1, .int a1), (2, .int a2), (3, .int a3), (4, .int a4)] := hl
  unfold f_X9_costWere at hf
  refine lv_aload_n X.1 X.2.1 dX9_costWere_0 rfl (lv_at hl 0 rfl) ?_
  refine bl_getr X V ha0 fl_X9_30 rfl dX9_costWere_1 (fun h1 => ?_)
  refine lv_aload_n X.1 X.2.1 dX9_costWere_4 rfl (lv_at hl 0 rfl) ?_
  refine bl_getr X V ha0 fl_X9_26 rfl dX9_costWere_5 (fun h2 => ?_)
  obtain ⟨r3, σ4, h5, hf⟩ := bl_bd_at hf
  refine bl_cVv (As := [.ref (bl_ad g (bl_R σ a0 2))]) X V hl.1 h1 rfl ml_X9_98 mV_X8_copy (t_X8_copy l g σ (bl_R σ a0 3) (bl_R σ a0 2) _ h1 h2 h5) rfl rfl ⟨Nat.le_of_ble_eq_true rfl, Nat.le_of_ble_eq_true rfl⟩ rfl rfl (Nat.le_of_ble_eq_true rfl) ⟨Nat.zero_le _, Nat.zero_le _⟩ dX9_costWere_8 (fun H locs V => ?_)
  refine lv_aload_n X.1 X.2.1 dX9_costWere_11 rfl (lv_at hl 0 rfl) ?_
  refine bl_getr X V ha0 fl_X9_30 rfl dX9_costWere_12 (fun h6 => ?_)
  refine bl_getr X V h6 fl_X9_154 rfl dX9_costWere_15 (fun h7 => ?_)
  refine lv_iload_n X.1 X.2.1 dX9_costWere_18 rfl (lv_at hl 1 rfl) ?_
  refine lv_iload_n X.1 X.2.1 dX9_costWere_19 rfl (lv_at hl 2 rfl) ?_
  obtain ⟨h8, hf⟩ := bl_gd_at hf
  refine bl_iast (k := (Int32.toNatClampNeg a1)) X V h7 h8 rfl dX9_costWere_20 (fun σ9 H locs e10 V => ?_)
  have hf := bl_let_at e10 hf
  refine lv_aload_n X.1 X.2.1 dX9_costWere_21 rfl (lv_at hl 0 rfl) ?_
  refine bl_getr X V ha0 fl_X9_59 rfl dX9_costWere_22 (fun h11 => ?_)
  refine lv_aload_n X.1 X.2.1 dX9_costWere_25 rfl (lv_at hl 0 rfl) ?_
  refine bl_getr X V ha0 fl_X9_30 rfl dX9_costWere_26 (fun h12 => ?_)
  refine lv_iconst (v := 1) X.1 X.2.1 dX9_costWere_29 (by decide) ?_
  obtain ⟨r13, σ14, h15, hf⟩ := bl_bd_at hf
  refine bl_cVv (As := [.ref (bl_ad g (bl_R σ9 a0 3)), .int 1]) X V hl.1 h11 rfl ml_X9_107 mV_X4_look (t_X4_look l g σ9 (bl_R σ9 a0 8) (bl_R σ9 a0 3) 1 _ h11 h12 h15) rfl rfl ⟨Nat.le_of_ble_eq_true rfl, Nat.le_of_ble_eq_true rfl⟩ rfl rfl (Nat.le_of_ble_eq_true rfl) ⟨Nat.zero_le _, Nat.zero_le _⟩ dX9_costWere_30 (fun H locs V => ?_)
  refine lv_aload_n X.1 X.2.1 dX9_costWere_33 rfl (lv_at hl 0 rfl) ?_
  refine bl_getr X V ha0 fl_X9_59 rfl dX9_costWere_34 (fun h16 => ?_)
  refine lv_iload_n X.1 X.2.1 dX9_costWere_37 rfl (lv_at hl 3 rfl) ?_
  refine lv_iload X.1 X.2.1 dX9_costWere_38 (lv_at hl 4 rfl) ?_
  obtain ⟨r17, σ18, h19, hf⟩ := bl_bd_at hf
  refine bl_cVl (As := [.int a3, .int a4]) X V hl.1 h16 rfl ml_X9_256 mV_X4_costOf (t_X4_costOf l g σ14 (bl_R σ14 a0 8) a3 a4 _ h16 h19) rfl rfl ⟨Nat.le_of_ble_eq_true rfl, Nat.le_of_ble_eq_true rfl⟩ rfl rfl (Nat.le_of_ble_eq_true rfl) ⟨Nat.zero_le _, Nat.zero_le _⟩ dX9_costWere_40 (fun H locs V => ?_)
  exact bl_retl X V hr hf dX9_costWere_43
set_option maxHeartbeats 4000000 in
set_option maxRecDepth 100000 in
theorem t_X9_were (l : Launch) (g : bl_Gp) (σ : bl_St) (a0 : Nat) (a1 : Int32) (a2 : Int32) (a3 : Int32) (a4 : Int32) (o : Int64 × bl_St) (ha0 : bl_sh[a0]? = some (9, 13)) (hf : f_X9_were σ a0 a1 a2 a3 a4 = some o) : bl_Cl l g yX9_were cX9_were 5 (Option.some Jvm.ClassFile.FieldType.long) (bl_rm 6 157) [.ref (bl_ad g a0), .int a1, .int a2, .int a3, .int a4] σ o := by
  refine bl_met (by decide) (Nat.le_of_ble_eq_true rfl) (fun p e s m below meth c ls X hr V hl => ?_)
  have hl : lv_has ls 5 [(0, .ref (bl_ad g a0)), (1, .int a1), (2, .int a2), (3, .int a3), (4, .int a4)] := hl
  unfold f_X9_were at hf
  refine lv_aload_n X.1 X.2.1 dX9_were_0 rfl (lv_at hl 0 rfl) ?_
  refine lv_iload_n X.1 X.2.1 dX9_were_1 rfl (lv_at hl 3 rfl) ?_
  refine lv_iload X.1 X.2.1 dX9_were_2 (lv_at hl 4 rfl) ?_
  obtain ⟨r1, σ2, h3, hf⟩ := bl_bd_at hf
  refine bl_cVi (As := [.int a3, .int a4]) X V hl.1 ha0 rfl ml_X9_251 mV_X9_isAsked (t_X9_isAsked l g σ a0 a3 a4 _ ha0 h3) rfl rfl ⟨Nat.le_of_ble_eq_true rfl, Nat.le_of_ble_eq_true rfl⟩ rfl rfl (Nat.le_of_ble_eq_true rfl) ⟨Nat.zero_le _, Nat.zero_le _⟩ dX9_were_4 (fun H locs V => ?_)
  refine lv_if_eq (tgt := 18) X.1 X.2.1 dX9_were_7 (by decide) (fun c4 => ?_) (fun c4 => ?_)
  · have hf := bl_ifp c4 hf
    refine lv_ldc2 (v := (-1)) X.1 X.2.1 X.2.2.2.1 (X.2.2.2.2.1 _ kl_X9_254) dX9_were_18 ?_
    exact bl_retl X V hr hf dX9_were_21
  · have hf := bl_ifn c4 hf
    refine lv_iload_n X.1 X.2.1 dX9_were_10 rfl (lv_at hl 1 rfl) ?_
    refine lv_iload_n X.1 X.2.1 dX9_were_11 rfl (lv_at hl 2 rfl) ?_
    obtain ⟨r5, σ6, h7, hf⟩ := bl_bd_at hf
    refine bl_cSi (As := [.int a1, .int a2]) X V hl.1 ml_X9_146 mS_X9_isRule (t_X9_isRule l g σ2 a1 a2 _  h7) rfl rfl ⟨Nat.le_of_ble_eq_true rfl, Nat.le_of_ble_eq_true rfl⟩ rfl rfl (Nat.le_of_ble_eq_true rfl) ⟨Nat.zero_le _, Nat.zero_le _⟩ dX9_were_12 (fun H locs V => ?_)
    refine lv_if_ne (tgt := 22) X.1 X.2.1 dX9_were_15 (by decide) (fun c8 => ?_) (fun c8 => ?_)
    · have hf := bl_ifn c8 hf
      refine lv_aload_n X.1 X.2.1 dX9_were_22 rfl (lv_at hl 0 rfl) ?_
      refine lv_iload_n X.1 X.2.1 dX9_were_23 rfl (lv_at hl 1 rfl) ?_
      refine lv_iload_n X.1 X.2.1 dX9_were_24 rfl (lv_at hl 2 rfl) ?_
      refine lv_iload_n X.1 X.2.1 dX9_were_25 rfl (lv_at hl 3 rfl) ?_
      refine lv_iload X.1 X.2.1 dX9_were_26 (lv_at hl 4 rfl) ?_
      obtain ⟨r9, σ10, h11, hf⟩ := bl_bd_at hf
      refine bl_cVl (As := [.int a1, .int a2, .int a3, .int a4]) X V hl.1 ha0 rfl ml_X9_326 mV_X9_costWere (t_X9_costWere l g σ6 a0 a1 a2 a3 a4 _ ha0 h11) rfl rfl ⟨Nat.le_of_ble_eq_true rfl, Nat.le_of_ble_eq_true rfl⟩ rfl rfl (Nat.le_of_ble_eq_true rfl) ⟨Nat.zero_le _, Nat.zero_le _⟩ dX9_were_28 (fun H locs V => ?_)
      exact bl_retl X V hr hf dX9_were_31
    · have hf := bl_ifp c8 hf
      refine lv_ldc2 (v := (-1)) X.1 X.2.1 X.2.2.2.1 (X.2.2.2.2.1 _ kl_X9_254) dX9_were_18 ?_
      exact bl_retl X V hr hf dX9_were_21
set_option maxHeartbeats 4000000 in
set_option maxRecDepth 100000 in
theorem t_X9_lacking (l : Launch) (g : bl_Gp) (σ : bl_St) (a0 : Nat) (a1 : Int32) (a2 : Int32) (a3 : Int32) (o : Int64 × bl_St) (ha0 : bl_sh[a0]? = some (9, 13)) (hf : f_X9_lacking σ a0 a1 a2 a3 = some o) : bl_Cl l g yX9_lacking cX9_lacking 4 (Option.some Jvm.ClassFile.FieldType.long) (bl_rm 5 133) [.ref (bl_ad g a0), .int a1, .int a2, .int a3] σ o := by
  refine bl_met (by decide) (Nat.le_of_ble_eq_true rfl) (fun p e s m below meth c ls X hr V hl => ?_)
  have hl : lv_has ls 4 [(0, .ref (bl_ad g a0)), (1, .int a1), (2, .int a2), (3, .int a3)] := hl
  unfold f_X9_lacking at hf
  refine lv_aload_n X.1 X.2.1 dX9_lacking_0 rfl (lv_at hl 0 rfl) ?_
  refine lv_iload_n X.1 X.2.1 dX9_lacking_1 rfl (lv_at hl 2 rfl) ?_
  refine lv_iload_n X.1 X.2.1 dX9_lacking_2 rfl (lv_at hl 3 rfl) ?_
  obtain ⟨r1, σ2, h3, hf⟩ := bl_bd_at hf
  refine bl_cVi (As := [.int a2, .int a3]) X V hl.1 ha0 rfl ml_X9_251 mV_X9_isAsked (t_X9_isAsked l g σ a0 a2 a3 _ ha0 h3) rfl rfl ⟨Nat.le_of_ble_eq_true rfl, Nat.le_of_ble_eq_true rfl⟩ rfl rfl (Nat.le_of_ble_eq_true rfl) ⟨Nat.zero_le _, Nat.zero_le _⟩ dX9_lacking_3 (fun H locs V => ?_)
  refine lv_if_eq (tgt := 31) X.1 X.2.1 dX9_lacking_6 (by decide) (fun c4 => ?_) (fun c4 => ?_)
  · have hf := bl_ifp c4 hf
    refine lv_ldc2 (v := (-1)) X.1 X.2.1 X.2.2.2.1 (X.2.2.2.2.1 _ kl_X9_254) dX9_lacking_31 ?_
    exact bl_retl X V hr hf dX9_lacking_34
  · have hf := bl_ifn c4 hf
    refine lv_aload_n X.1 X.2.1 dX9_lacking_9 rfl (lv_at hl 0 rfl) ?_
    refine bl_getr X V ha0 fl_X9_26 rfl dX9_lacking_10 (fun h5 => ?_)
    refine lv_iload_n X.1 X.2.1 dX9_lacking_13 rfl (lv_at hl 1 rfl) ?_
    obtain ⟨r6, σ7, h8, hf⟩ := bl_bd_at hf
    refine bl_cVi (As := [.int a1]) X V hl.1 h5 rfl ml_X9_133 mV_X8_hasSort (t_X8_hasSort l g σ2 (bl_R σ2 a0 2) a1 _ h5 h8) rfl rfl ⟨Nat.le_of_ble_eq_true rfl, Nat.le_of_ble_eq_true rfl⟩ rfl rfl (Nat.le_of_ble_eq_true rfl) ⟨Nat.zero_le _, Nat.zero_le _⟩ dX9_lacking_14 (fun H locs V => ?_)
    refine lv_if_eq (tgt := 31) X.1 X.2.1 dX9_lacking_17 (by decide) (fun c9 => ?_) (fun c9 => ?_)
    · have hf := bl_ifp c9 hf
      refine lv_ldc2 (v := (-1)) X.1 X.2.1 X.2.2.2.1 (X.2.2.2.2.1 _ kl_X9_254) dX9_lacking_31 ?_
      exact bl_retl X V hr hf dX9_lacking_34
    · have hf := bl_ifn c9 hf
      refine lv_aload_n X.1 X.2.1 dX9_lacking_20 rfl (lv_at hl 0 rfl) ?_
      refine bl_getr X V ha0 fl_X9_26 rfl dX9_lacking_21 (fun h10 => ?_)
      refine bl_geti X V h10 fl_X9_177 dX9_lacking_24 ?_
      refine lv_iconst (v := 1) X.1 X.2.1 dX9_lacking_27 (by decide) ?_
      refine lv_icmp_ne (tgt := 35) X.1 X.2.1 dX9_lacking_28 (by decide) (fun c11 => ?_) (fun c11 => ?_)
      · have hf := bl_ifn c11 hf
        refine lv_aload_n X.1 X.2.1 dX9_lacking_35 rfl (lv_at hl 0 rfl) ?_
        refine bl_getr X V ha0 fl_X9_30 rfl dX9_lacking_36 (fun h12 => ?_)
        refine lv_aload_n X.1 X.2.1 dX9_lacking_39 rfl (lv_at hl 0 rfl) ?_
        refine bl_getr X V ha0 fl_X9_26 rfl dX9_lacking_40 (fun h13 => ?_)
        obtain ⟨r14, σ15, h16, hf⟩ := bl_bd_at hf
        refine bl_cVv (As := [.ref (bl_ad g (bl_R σ7 a0 2))]) X V hl.1 h12 rfl ml_X9_98 mV_X8_copy (t_X8_copy l g σ7 (bl_R σ7 a0 3) (bl_R σ7 a0 2) _ h12 h13 h16) rfl rfl ⟨Nat.le_of_ble_eq_true rfl, Nat.le_of_ble_eq_true rfl⟩ rfl rfl (Nat.le_of_ble_eq_true rfl) ⟨Nat.zero_le _, Nat.zero_le _⟩ dX9_lacking_43 (fun H locs V => ?_)
        refine lv_aload_n X.1 X.2.1 dX9_lacking_46 rfl (lv_at hl 0 rfl) ?_
        refine bl_getr X V ha0 fl_X9_30 rfl dX9_lacking_47 (fun h17 => ?_)
        refine lv_iload_n X.1 X.2.1 dX9_lacking_50 rfl (lv_at hl 1 rfl) ?_
        obtain ⟨r18, σ19, h20, hf⟩ := bl_bd_at hf
        refine bl_cVv (As := [.int a1]) X V hl.1 h17 rfl ml_X9_184 mV_X8_removeSort (t_X8_removeSort l g σ15 (bl_R σ15 a0 3) a1 _ h17 h20) rfl rfl ⟨Nat.le_of_ble_eq_true rfl, Nat.le_of_ble_eq_true rfl⟩ rfl rfl (Nat.le_of_ble_eq_true rfl) ⟨Nat.zero_le _, Nat.zero_le _⟩ dX9_lacking_51 (fun H locs V => ?_)
        refine lv_aload_n X.1 X.2.1 dX9_lacking_54 rfl (lv_at hl 0 rfl) ?_
        refine bl_getr X V ha0 fl_X9_59 rfl dX9_lacking_55 (fun h21 => ?_)
        refine lv_aload_n X.1 X.2.1 dX9_lacking_58 rfl (lv_at hl 0 rfl) ?_
        refine bl_getr X V ha0 fl_X9_30 rfl dX9_lacking_59 (fun h22 => ?_)
        refine lv_iconst (v := 1) X.1 X.2.1 dX9_lacking_62 (by decide) ?_
        obtain ⟨r23, σ24, h25, hf⟩ := bl_bd_at hf
        refine bl_cVv (As := [.ref (bl_ad g (bl_R σ19 a0 3)), .int 1]) X V hl.1 h21 rfl ml_X9_107 mV_X4_look (t_X4_look l g σ19 (bl_R σ19 a0 8) (bl_R σ19 a0 3) 1 _ h21 h22 h25) rfl rfl ⟨Nat.le_of_ble_eq_true rfl, Nat.le_of_ble_eq_true rfl⟩ rfl rfl (Nat.le_of_ble_eq_true rfl) ⟨Nat.zero_le _, Nat.zero_le _⟩ dX9_lacking_63 (fun H locs V => ?_)
        refine lv_aload_n X.1 X.2.1 dX9_lacking_66 rfl (lv_at hl 0 rfl) ?_
        refine bl_getr X V ha0 fl_X9_59 rfl dX9_lacking_67 (fun h26 => ?_)
        refine lv_iload_n X.1 X.2.1 dX9_lacking_70 rfl (lv_at hl 2 rfl) ?_
        refine lv_iload_n X.1 X.2.1 dX9_lacking_71 rfl (lv_at hl 3 rfl) ?_
        obtain ⟨r27, σ28, h29, hf⟩ := bl_bd_at hf
        refine bl_cVl (As := [.int a2, .int a3]) X V hl.1 h26 rfl ml_X9_256 mV_X4_costOf (t_X4_costOf l g σ24 (bl_R σ24 a0 8) a2 a3 _ h26 h29) rfl rfl ⟨Nat.le_of_ble_eq_true rfl, Nat.le_of_ble_eq_true rfl⟩ rfl rfl (Nat.le_of_ble_eq_true rfl) ⟨Nat.zero_le _, Nat.zero_le _⟩ dX9_lacking_72 (fun H locs V => ?_)
        exact bl_retl X V hr hf dX9_lacking_75
      · have hf := bl_ifp c11 hf
        refine lv_ldc2 (v := (-1)) X.1 X.2.1 X.2.2.2.1 (X.2.2.2.2.1 _ kl_X9_254) dX9_lacking_31 ?_
        exact bl_retl X V hr hf dX9_lacking_34
set_option maxHeartbeats 4000000 in
set_option maxRecDepth 100000 in
theorem w_X9_oddsFor_15 {p : Program} {l : Launch} {e : Env} {s : State} {m : MethodId} {below : List Frame} {meth : Method} {c : Code} {g : bl_Gp} {as : List Value} {out : Int32 × bl_St} (X : bl_Cx g p s m as.toArray meth c cX9_oddsFor 6 RX9) (hr : meth.sig.returnType = (Option.some Jvm.ClassFile.FieldType.int)) (k15 : bl_St → Nat → Int64 → Int32 → Int32 → Int32 → Option (Int32 × bl_St)) (hk15 : ∀ (σ : bl_St) (v0 : Nat) (v1 : Int64) (v3 : Int32) (v4 : Int32) (v5 : Int32), bl_sh[v0]? = some (9, 13) → k15 σ v0 v1 v3 v4 v5 = some out → ∀ (H : Heap) (locs : List Loc) (ls : Array Slot), bl_V g s σ H locs → lv_has ls 6 [(0, .ref (bl_ad g v0)), (1, .long v1), (3, .int v3), (4, .int v4), (5, .int v5)] → W p l e (bl_rm 6 157) s m as.toArray below meth c H locs 0 0 (bl_Qi below g s as out) (F0 m 15 ls [])) : ∀ (σ : bl_St) (v0 : Nat) (v1 : Int64) (v3 : Int32) (v4 : Int32) (v5 : Int32), bl_sh[v0]? = some (9, 13) → (b_X9_oddsFor_15 k15) σ v0 v1 v3 v4 v5 = some out → ∀ (H : Heap) (locs : List Loc) (ls : Array Slot), bl_V g s σ H locs → lv_has ls 6 [(0, .ref (bl_ad g v0)), (1, .long v1), (3, .int v3), (4, .int v4), (5, .int v5)] → W p l e (bl_rm 6 157) s m as.toArray below meth c H locs 0 0 (bl_Qi below g s as out) (F0 m 15 ls []) := by
  intro σ v0 v1 v3 v4 v5 hv0 hf H locs ls V hl
  unfold b_X9_oddsFor_15 at hf
  refine lv_iload X.1 X.2.1 dX9_oddsFor_15 (lv_at hl 4 rfl) ?_
  refine lv_bipush (v := 12) X.1 X.2.1 dX9_oddsFor_17 (by decide) ?_
  refine lv_icmp_gt (tgt := 46) X.1 X.2.1 dX9_oddsFor_19 (by decide) (fun c1 => ?_) (fun c1 => ?_)
  · have hf := bl_ifp c1 hf
    refine lv_bipush (v := (-2)) X.1 X.2.1 dX9_oddsFor_46 (by decide) ?_
    exact bl_reti X V hr hf dX9_oddsFor_48
  · have hf := bl_ifn c1 hf
    refine lv_aload_n X.1 X.2.1 dX9_oddsFor_22 rfl (lv_at hl 0 rfl) ?_
    refine lv_iconst (v := 1) X.1 X.2.1 dX9_oddsFor_23 (by decide) ?_
    refine lv_iload X.1 X.2.1 dX9_oddsFor_24 (lv_at hl 4 rfl) ?_
    refine lv_iload_n X.1 X.2.1 dX9_oddsFor_26 rfl (lv_at hl 2 rfl) ?_
    refine lv_iload X.1 X.2.1 dX9_oddsFor_27 (lv_at hl 3 rfl) ?_
    obtain ⟨r2, σ3, h4, hf⟩ := bl_bd_at hf
    refine bl_cVl (As := [.int 1, .int v5, .int v3, .int v4]) X V hl.1 hv0 rfl ml_X9_326 mV_X9_costWere (t_X9_costWere l g σ v0 1 v5 v3 v4 _ hv0 h4) rfl rfl ⟨Nat.le_of_ble_eq_true rfl, Nat.le_of_ble_eq_true rfl⟩ rfl rfl (Nat.le_of_ble_eq_true rfl) ⟨Nat.zero_le _, Nat.zero_le _⟩ dX9_oddsFor_29 (fun H locs V => ?_)
    refine lv_lload_n X.1 X.2.1 dX9_oddsFor_32 rfl (lv_at hl 1 rfl) ?_
    refine bl_lc_lt (tgt := 40) X dX9_oddsFor_33 dX9_oddsFor_34 (by decide) (fun c5 => ?_) (fun c5 => ?_)
    · have hf := bl_ifp c5 hf
      obtain ⟨x6, e7⟩ : ∃ z : Int32, z = v5 + 1 := ⟨_, rfl⟩
      have hf := bl_let_at e7 hf
      refine lv_iinc (v := x6) (lv' := [(5, .int x6), (0, .ref (bl_ad g v0)), (1, .long v1), (3, .int v3), (4, .int v4)]) X.1 X.2.1 dX9_oddsFor_40 hl (k := 4) rfl (by rw [e7]; rfl) (by decide) rfl (fun ls hl => ?_)
      refine lv_goto (tgt := 15) X.1 X.2.1 dX9_oddsFor_43 (by decide) ?_
      exact hk15 σ3 v0 v1 v3 v4 x6 hv0 hf _ _ _ V (lv_sub hl [1, 2, 3, 4, 0] rfl)
    · have hf := bl_ifn c5 hf
      refine lv_iload X.1 X.2.1 dX9_oddsFor_37 (lv_at hl 4 rfl) ?_
      exact bl_reti X V hr hf dX9_oddsFor_39
theorem l_X9_oddsFor_15 {p : Program} {l : Launch} {e : Env} {s : State} {m : MethodId} {below : List Frame} {meth : Method} {c : Code} {g : bl_Gp} {as : List Value} {out : Int32 × bl_St} (X : bl_Cx g p s m as.toArray meth c cX9_oddsFor 6 RX9) (hr : meth.sig.returnType = (Option.some Jvm.ClassFile.FieldType.int)) (n : Nat) : ∀ (σ : bl_St) (v0 : Nat) (v1 : Int64) (v3 : Int32) (v4 : Int32) (v5 : Int32), bl_sh[v0]? = some (9, 13) → (bl_fx (fun _ _ _ _ _ _ => none) (b_X9_oddsFor_15 ) n) σ v0 v1 v3 v4 v5 = some out → ∀ (H : Heap) (locs : List Loc) (ls : Array Slot), bl_V g s σ H locs → lv_has ls 6 [(0, .ref (bl_ad g v0)), (1, .long v1), (3, .int v3), (4, .int v4), (5, .int v5)] → W p l e (bl_rm 6 157) s m as.toArray below meth c H locs 0 0 (bl_Qi below g s as out) (F0 m 15 ls []) := by
  induction n with
  | zero =>
    intro σ v0 v1 v3 v4 v5 hv0 hf H locs ls V hl
    cases hf
  | succ n ih => exact w_X9_oddsFor_15 X hr  _ ih
set_option maxHeartbeats 4000000 in
set_option maxRecDepth 100000 in
theorem t_X9_oddsFor (l : Launch) (g : bl_Gp) (σ : bl_St) (a0 : Nat) (a1 : Int64) (a3 : Int32) (a4 : Int32) (o : Int32 × bl_St) (ha0 : bl_sh[a0]? = some (9, 13)) (hf : f_X9_oddsFor σ a0 a1 a3 a4 = some o) : bl_Ci l g yX9_oddsFor cX9_oddsFor 6 (Option.some Jvm.ClassFile.FieldType.int) (bl_rm 6 157) [.ref (bl_ad g a0), .long a1, .int a3, .int a4] σ o := by
  refine bl_met (by decide) (Nat.le_of_ble_eq_true rfl) (fun p e s m below meth c ls X hr V hl => ?_)
  have hl : lv_has ls 6 [(0, .ref (bl_ad g a0)), (1, .long a1), (3, .int a3), (4, .int a4)] := hl
  unfold f_X9_oddsFor at hf
  refine lv_aload_n X.1 X.2.1 dX9_oddsFor_0 rfl (lv_at hl 0 rfl) ?_
  refine lv_iload_n X.1 X.2.1 dX9_oddsFor_1 rfl (lv_at hl 2 rfl) ?_
  refine lv_iload X.1 X.2.1 dX9_oddsFor_2 (lv_at hl 3 rfl) ?_
  obtain ⟨r8, σ9, h10, hf⟩ := bl_bd_at hf
  refine bl_cVi (As := [.int a3, .int a4]) X V hl.1 ha0 rfl ml_X9_251 mV_X9_isAsked (t_X9_isAsked l g σ a0 a3 a4 _ ha0 h10) rfl rfl ⟨Nat.le_of_ble_eq_true rfl, Nat.le_of_ble_eq_true rfl⟩ rfl rfl (Nat.le_of_ble_eq_true rfl) ⟨Nat.zero_le _, Nat.zero_le _⟩ dX9_oddsFor_4 (fun H locs V => ?_)
  refine lv_if_ne (tgt := 12) X.1 X.2.1 dX9_oddsFor_7 (by decide) (fun c11 => ?_) (fun c11 => ?_)
  · have hf := bl_ifn c11 hf
    refine lv_iconst (v := 0) X.1 X.2.1 dX9_oddsFor_12 (by decide) ?_
    refine lv_istore (lv' := [(5, .int 0), (0, .ref (bl_ad g a0)), (1, .long a1), (3, .int a3), (4, .int a4)]) X.1 X.2.1 dX9_oddsFor_13 hl (by decide) rfl (fun ls hl => ?_)
    exact l_X9_oddsFor_15 X hr  bl_fu σ9 a0 a1 a3 a4 0 ha0 hf _ _ _ V (lv_sub hl [1, 2, 3, 4, 0] rfl)
  · have hf := bl_ifp c11 hf
    refine lv_iconst (v := (-1)) X.1 X.2.1 dX9_oddsFor_10 (by decide) ?_
    exact bl_reti X V hr hf dX9_oddsFor_11
set_option maxHeartbeats 4000000 in
set_option maxRecDepth 100000 in
theorem w_X9_bestOwn_85 {p : Program} {l : Launch} {e : Env} {s : State} {m : MethodId} {below : List Frame} {meth : Method} {c : Code} {g : bl_Gp} {as : List Value} {out : Int32 × bl_St} (X : bl_Cx g p s m as.toArray meth c cX9_bestOwn 10 RX9) (hr : meth.sig.returnType = (Option.some Jvm.ClassFile.FieldType.int)) (k38 : bl_St → Nat → Int32 → Int32 → Int32 → Int32 → Int64 → Int32 → Option (Int32 × bl_St)) (hk38 : ∀ (σ : bl_St) (v0 : Nat) (v1 : Int32) (v2 : Int32) (v3 : Int32) (v4 : Int32) (v5 : Int64) (v7 : Int32), bl_sh[v0]? = some (9, 13) → k38 σ v0 v1 v2 v3 v4 v5 v7 = some out → ∀ (H : Heap) (locs : List Loc) (ls : Array Slot), bl_V g s σ H locs → lv_has ls 10 [(0, .ref (bl_ad g v0)), (1, .int v1), (2, .int v2), (3, .int v3), (4, .int v4), (5, .long v5), (7, .int v7)] → W p l e (bl_rm 6 157) s m as.toArray below meth c H locs 0 0 (bl_Qi below g s as out) (F0 m 38 ls [])) : ∀ (σ : bl_St) (v0 : Nat) (v1 : Int32) (v2 : Int32) (v3 : Int32) (v4 : Int32) (v5 : Int64) (v7 : Int32), bl_sh[v0]? = some (9, 13) → (b_X9_bestOwn_85 k38) σ v0 v1 v2 v3 v4 v5 v7 = some out → ∀ (H : Heap) (locs : List Loc) (ls : Array Slot), bl_V g s σ H locs → lv_has ls 10 [(0, .ref (bl_ad g v0)), (1, .int v1), (2, .int v2), (3, .int v3), (4, .int v4), (5, .long v5), (7, .int v7)] → W p l e (bl_rm 6 157) s m as.toArray below meth c H locs 0 0 (bl_Qi below g s as out) (F0 m 85 ls []) := by
  intro σ v0 v1 v2 v3 v4 v5 v7 hv0 hf H locs ls V hl
  unfold b_X9_bestOwn_85 at hf
  obtain ⟨x1, e2⟩ : ∃ z : Int32, z = v7 + 1 := ⟨_, rfl⟩
  have hf := bl_let_at e2 hf
  refine lv_iinc (v := x1) (lv' := [(7, .int x1), (0, .ref (bl_ad g v0)), (1, .int v1), (2, .int v2), (3, .int v3), (4, .int v4), (5, .long v5)]) X.1 X.2.1 dX9_bestOwn_85 hl (k := 6) rfl (by rw [e2]; rfl) (by decide) rfl (fun ls hl => ?_)
  refine lv_goto (tgt := 38) X.1 X.2.1 dX9_bestOwn_88 (by decide) ?_
  exact hk38 σ v0 v1 v2 v3 v4 v5 x1 hv0 hf _ _ _ V (lv_sub hl [1, 2, 3, 4, 5, 6, 0] rfl)
set_option maxHeartbeats 4000000 in
set_option maxRecDepth 100000 in
theorem w_X9_bestOwn_38 {p : Program} {l : Launch} {e : Env} {s : State} {m : MethodId} {below : List Frame} {meth : Method} {c : Code} {g : bl_Gp} {as : List Value} {out : Int32 × bl_St} (X : bl_Cx g p s m as.toArray meth c cX9_bestOwn 10 RX9) (hr : meth.sig.returnType = (Option.some Jvm.ClassFile.FieldType.int)) (k38 : bl_St → Nat → Int32 → Int32 → Int32 → Int32 → Int64 → Int32 → Option (Int32 × bl_St)) (hk38 : ∀ (σ : bl_St) (v0 : Nat) (v1 : Int32) (v2 : Int32) (v3 : Int32) (v4 : Int32) (v5 : Int64) (v7 : Int32), bl_sh[v0]? = some (9, 13) → k38 σ v0 v1 v2 v3 v4 v5 v7 = some out → ∀ (H : Heap) (locs : List Loc) (ls : Array Slot), bl_V g s σ H locs → lv_has ls 10 [(0, .ref (bl_ad g v0)), (1, .int v1), (2, .int v2), (3, .int v3), (4, .int v4), (5, .long v5), (7, .int v7)] → W p l e (bl_rm 6 157) s m as.toArray below meth c H locs 0 0 (bl_Qi below g s as out) (F0 m 38 ls [])) : ∀ (σ : bl_St) (v0 : Nat) (v1 : Int32) (v2 : Int32) (v3 : Int32) (v4 : Int32) (v5 : Int64) (v7 : Int32), bl_sh[v0]? = some (9, 13) → (b_X9_bestOwn_38 k38) σ v0 v1 v2 v3 v4 v5 v7 = some out → ∀ (H : Heap) (locs : List Loc) (ls : Array Slot), bl_V g s σ H locs → lv_has ls 10 [(0, .ref (bl_ad g v0)), (1, .int v1), (2, .int v2), (3, .int v3), (4, .int v4), (5, .long v5), (7, .int v7)] → W p l e (bl_rm 6 157) s m as.toArray below meth c H locs 0 0 (bl_Qi below g s as out) (F0 m 38 ls []) := by
  intro σ v0 v1 v2 v3 v4 v5 v7 hv0 hf H locs ls V hl
  unfold b_X9_bestOwn_38 at hf
  refine lv_iload X.1 X.2.1 dX9_bestOwn_38 (lv_at hl 6 rfl) ?_
  refine bl_sget X V X.2.2.2.2.2.2.1.1.2.2.2.1 gs_X9_329 dX9_bestOwn_40 (fun t3 h4 => ?_)
  refine lv_iconst (v := 2) X.1 X.2.1 dX9_bestOwn_43 (by decide) ?_
  refine bl_sld X V h4 (by decide +kernel) dX9_bestOwn_44 ?_
  refine lv_icmp_gt (tgt := 91) X.1 X.2.1 dX9_bestOwn_45 (by decide) (fun c5 => ?_) (fun c5 => ?_)
  · have hf := bl_ifp c5 hf
    refine lv_iload X.1 X.2.1 dX9_bestOwn_91 (lv_at hl 4 rfl) ?_
    exact bl_reti X V hr hf dX9_bestOwn_93
  · have hf := bl_ifn c5 hf
    refine lv_aload_n X.1 X.2.1 dX9_bestOwn_48 rfl (lv_at hl 0 rfl) ?_
    refine lv_iconst (v := 2) X.1 X.2.1 dX9_bestOwn_49 (by decide) ?_
    refine lv_iload X.1 X.2.1 dX9_bestOwn_50 (lv_at hl 6 rfl) ?_
    refine lv_iload_n X.1 X.2.1 dX9_bestOwn_52 rfl (lv_at hl 2 rfl) ?_
    refine lv_iload_n X.1 X.2.1 dX9_bestOwn_53 rfl (lv_at hl 3 rfl) ?_
    obtain ⟨r6, σ7, h8, hf⟩ := bl_bd_at hf
    refine bl_cVl (As := [.int 2, .int v7, .int v2, .int v3]) X V hl.1 hv0 rfl ml_X9_326 mV_X9_costWere (t_X9_costWere l g σ v0 2 v7 v2 v3 _ hv0 h8) rfl rfl ⟨Nat.le_of_ble_eq_true rfl, Nat.le_of_ble_eq_true rfl⟩ rfl rfl (Nat.le_of_ble_eq_true rfl) ⟨Nat.zero_le _, Nat.zero_le _⟩ dX9_bestOwn_54 (fun H locs V => ?_)
    refine lv_iload_n X.1 X.2.1 dX9_bestOwn_57 rfl (lv_at hl 1 rfl) ?_
    refine lv_i2l X.1 X.2.1 dX9_bestOwn_58 rfl ?_
    refine lv_iload X.1 X.2.1 dX9_bestOwn_59 (lv_at hl 6 rfl) ?_
    refine lv_i2l X.1 X.2.1 dX9_bestOwn_61 rfl ?_
    refine lv_lmul X.1 X.2.1 dX9_bestOwn_62 ?_
    refine lv_iload_n X.1 X.2.1 dX9_bestOwn_63 rfl (lv_at hl 2 rfl) ?_
    refine lv_i2l X.1 X.2.1 dX9_bestOwn_64 rfl ?_
    refine lv_lmul X.1 X.2.1 dX9_bestOwn_65 ?_
    refine lv_lsub X.1 X.2.1 dX9_bestOwn_66 ?_
    refine lv_topl (fun x9 e10 => ?_)
    have hf := bl_let_at e10 hf
    refine lv_lstore (lv' := [(8, .long x9), (0, .ref (bl_ad g v0)), (1, .int v1), (2, .int v2), (3, .int v3), (4, .int v4), (5, .long v5), (7, .int v7)]) X.1 X.2.1 dX9_bestOwn_67 hl (by decide) rfl (fun ls hl => ?_)
    refine lv_lload X.1 X.2.1 dX9_bestOwn_69 (lv_at hl 0 rfl) ?_
    refine lv_lload X.1 X.2.1 dX9_bestOwn_71 (lv_at hl 6 rfl) ?_
    refine bl_lc_ge (tgt := 85) X dX9_bestOwn_73 dX9_bestOwn_74 (by decide) (fun c11 => ?_) (fun c11 => ?_)
    · have hf := bl_ifp c11 hf
      exact w_X9_bestOwn_85 X hr k38 hk38 σ7 v0 v1 v2 v3 v4 v5 v7 hv0 hf _ _ _ V (lv_sub hl [1, 2, 3, 4, 5, 6, 7] rfl)
    · have hf := bl_ifn c11 hf
      refine lv_lload X.1 X.2.1 dX9_bestOwn_77 (lv_at hl 0 rfl) ?_
      refine lv_lstore (lv' := [(5, .long x9), (8, .long x9), (0, .ref (bl_ad g v0)), (1, .int v1), (2, .int v2), (3, .int v3), (4, .int v4), (7, .int v7)]) X.1 X.2.1 dX9_bestOwn_79 hl (by decide) rfl (fun ls hl => ?_)
      refine lv_iload X.1 X.2.1 dX9_bestOwn_81 (lv_at hl 7 rfl) ?_
      refine lv_istore (lv' := [(4, .int v7), (5, .long x9), (8, .long x9), (0, .ref (bl_ad g v0)), (1, .int v1), (2, .int v2), (3, .int v3), (7, .int v7)]) X.1 X.2.1 dX9_bestOwn_83 hl (by decide) rfl (fun ls hl => ?_)
      exact w_X9_bestOwn_85 X hr k38 hk38 σ7 v0 v1 v2 v3 v7 x9 v7 hv0 hf _ _ _ V (lv_sub hl [3, 4, 5, 6, 0, 1, 7] rfl)
theorem l_X9_bestOwn_38 {p : Program} {l : Launch} {e : Env} {s : State} {m : MethodId} {below : List Frame} {meth : Method} {c : Code} {g : bl_Gp} {as : List Value} {out : Int32 × bl_St} (X : bl_Cx g p s m as.toArray meth c cX9_bestOwn 10 RX9) (hr : meth.sig.returnType = (Option.some Jvm.ClassFile.FieldType.int)) (n : Nat) : ∀ (σ : bl_St) (v0 : Nat) (v1 : Int32) (v2 : Int32) (v3 : Int32) (v4 : Int32) (v5 : Int64) (v7 : Int32), bl_sh[v0]? = some (9, 13) → (bl_fx (fun _ _ _ _ _ _ _ _ => none) (b_X9_bestOwn_38 ) n) σ v0 v1 v2 v3 v4 v5 v7 = some out → ∀ (H : Heap) (locs : List Loc) (ls : Array Slot), bl_V g s σ H locs → lv_has ls 10 [(0, .ref (bl_ad g v0)), (1, .int v1), (2, .int v2), (3, .int v3), (4, .int v4), (5, .long v5), (7, .int v7)] → W p l e (bl_rm 6 157) s m as.toArray below meth c H locs 0 0 (bl_Qi below g s as out) (F0 m 38 ls []) := by
  induction n with
  | zero =>
    intro σ v0 v1 v2 v3 v4 v5 v7 hv0 hf H locs ls V hl
    cases hf
  | succ n ih => exact w_X9_bestOwn_38 X hr  _ ih
set_option maxHeartbeats 4000000 in
set_option maxRecDepth 100000 in
theorem t_X9_bestOwn (l : Launch) (g : bl_Gp) (σ : bl_St) (a0 : Nat) (a1 : Int32) (a2 : Int32) (a3 : Int32) (o : Int32 × bl_St) (ha0 : bl_sh[a0]? = some (9, 13)) (hf : f_X9_bestOwn σ a0 a1 a2 a3 = some o) : bl_Ci l g yX9_bestOwn cX9_bestOwn 10 (Option.some Jvm.ClassFile.FieldType.int) (bl_rm 6 157) [.ref (bl_ad g a0), .int a1, .int a2, .int a3] σ o := by
  refine bl_met (by decide) (Nat.le_of_ble_eq_true rfl) (fun p e s m below meth c ls X hr V hl => ?_)
  have hl : lv_has ls 10 [(0, .ref (bl_ad g a0)), (1, .int a1), (2, .int a2), (3, .int a3)] := hl
  unfold f_X9_bestOwn at hf
  refine lv_aload_n X.1 X.2.1 dX9_bestOwn_0 rfl (lv_at hl 0 rfl) ?_
  refine lv_iload_n X.1 X.2.1 dX9_bestOwn_1 rfl (lv_at hl 2 rfl) ?_
  refine lv_iload_n X.1 X.2.1 dX9_bestOwn_2 rfl (lv_at hl 3 rfl) ?_
  obtain ⟨r12, σ13, h14, hf⟩ := bl_bd_at hf
  refine bl_cVi (As := [.int a2, .int a3]) X V hl.1 ha0 rfl ml_X9_251 mV_X9_isAsked (t_X9_isAsked l g σ a0 a2 a3 _ ha0 h14) rfl rfl ⟨Nat.le_of_ble_eq_true rfl, Nat.le_of_ble_eq_true rfl⟩ rfl rfl (Nat.le_of_ble_eq_true rfl) ⟨Nat.zero_le _, Nat.zero_le _⟩ dX9_bestOwn_3 (fun H locs V => ?_)
  refine lv_if_eq (tgt := 20) X.1 X.2.1 dX9_bestOwn_6 (by decide) (fun c15 => ?_) (fun c15 => ?_)
  · have hf := bl_ifp c15 hf
    refine lv_iconst (v := (-1)) X.1 X.2.1 dX9_bestOwn_20 (by decide) ?_
    exact bl_reti X V hr hf dX9_bestOwn_21
  · have hf := bl_ifn c15 hf
    refine lv_iload_n X.1 X.2.1 dX9_bestOwn_9 rfl (lv_at hl 1 rfl) ?_
    refine lv_if_lt (tgt := 20) X.1 X.2.1 dX9_bestOwn_10 (by decide) (fun c16 => ?_) (fun c16 => ?_)
    · have hf := bl_ifp c16 hf
      refine lv_iconst (v := (-1)) X.1 X.2.1 dX9_bestOwn_20 (by decide) ?_
      exact bl_reti X V hr hf dX9_bestOwn_21
    · have hf := bl_ifn c16 hf
      refine lv_iload_n X.1 X.2.1 dX9_bestOwn_13 rfl (lv_at hl 1 rfl) ?_
      refine lv_sipush (v := 9999) X.1 X.2.1 dX9_bestOwn_14 (by decide) ?_
      refine lv_icmp_le (tgt := 22) X.1 X.2.1 dX9_bestOwn_17 (by decide) (fun c17 => ?_) (fun c17 => ?_)
      · have hf := bl_ifp c17 hf
        refine lv_iconst (v := 0) X.1 X.2.1 dX9_bestOwn_22 (by decide) ?_
        refine lv_istore (lv' := [(4, .int 0), (0, .ref (bl_ad g a0)), (1, .int a1), (2, .int a2), (3, .int a3)]) X.1 X.2.1 dX9_bestOwn_23 hl (by decide) rfl (fun ls hl => ?_)
        refine lv_aload_n X.1 X.2.1 dX9_bestOwn_25 rfl (lv_at hl 1 rfl) ?_
        refine lv_iconst (v := 2) X.1 X.2.1 dX9_bestOwn_26 (by decide) ?_
        refine lv_iconst (v := 0) X.1 X.2.1 dX9_bestOwn_27 (by decide) ?_
        refine lv_iload_n X.1 X.2.1 dX9_bestOwn_28 rfl (lv_at hl 3 rfl) ?_
        refine lv_iload_n X.1 X.2.1 dX9_bestOwn_29 rfl (lv_at hl 4 rfl) ?_
        obtain ⟨r18, σ19, h20, hf⟩ := bl_bd_at hf
        refine bl_cVl (As := [.int 2, .int 0, .int a2, .int a3]) X V hl.1 ha0 rfl ml_X9_326 mV_X9_costWere (t_X9_costWere l g σ13 a0 2 0 a2 a3 _ ha0 h20) rfl rfl ⟨Nat.le_of_ble_eq_true rfl, Nat.le_of_ble_eq_true rfl⟩ rfl rfl (Nat.le_of_ble_eq_true rfl) ⟨Nat.zero_le _, Nat.zero_le _⟩ dX9_bestOwn_30 (fun H locs V => ?_)
        refine lv_lstore (lv' := [(5, .long r18), (4, .int 0), (0, .ref (bl_ad g a0)), (1, .int a1), (2, .int a2), (3, .int a3)]) X.1 X.2.1 dX9_bestOwn_33 hl (by decide) rfl (fun ls hl => ?_)
        refine lv_iconst (v := 1) X.1 X.2.1 dX9_bestOwn_35 (by decide) ?_
        refine lv_istore (lv' := [(7, .int 1), (5, .long r18), (4, .int 0), (0, .ref (bl_ad g a0)), (1, .int a1), (2, .int a2), (3, .int a3)]) X.1 X.2.1 dX9_bestOwn_36 hl (by decide) rfl (fun ls hl => ?_)
        exact l_X9_bestOwn_38 X hr  bl_fu σ19 a0 a1 a2 a3 0 r18 1 ha0 hf _ _ _ V (lv_sub hl [3, 4, 5, 6, 2, 1, 0] rfl)
      · have hf := bl_ifn c17 hf
        refine lv_iconst (v := (-1)) X.1 X.2.1 dX9_bestOwn_20 (by decide) ?_
        exact bl_reti X V hr hf dX9_bestOwn_21
set_option maxHeartbeats 4000000 in
set_option maxRecDepth 100000 in
theorem t_X9_lifeElsewhere (l : Launch) (g : bl_Gp) (σ : bl_St) (a0 : Nat) (o : Nat × bl_St) (ha0 : bl_sh[a0]? = some (9, 13)) (hf : f_X9_lifeElsewhere σ a0 = some o) : bl_Cr 0 l g yX9_lifeElsewhere cX9_lifeElsewhere 1 (Option.some (Jvm.ClassFile.FieldType.object "BonusLadder$Life")) (bl_rm 2 40) [.ref (bl_ad g a0)] σ o := by
  refine bl_met (by decide) (Nat.le_of_ble_eq_true rfl) (fun p e s m below meth c ls X hr V hl => ?_)
  have hl : lv_has ls 1 [(0, .ref (bl_ad g a0))] := hl
  unfold f_X9_lifeElsewhere at hf
  refine lv_aload_n X.1 X.2.1 dX9_lifeElsewhere_0 rfl (lv_at hl 0 rfl) ?_
  refine bl_getr X V ha0 fl_X9_40 rfl dX9_lifeElsewhere_1 (fun h1 => ?_)
  obtain ⟨r2, σ3, h4, hf⟩ := bl_bd_at hf
  refine bl_cVv (As := []) X V hl.1 h1 rfl ml_X9_101 mV_X2_clear (t_X2_clear l g σ (bl_R σ a0 5) _ h1 h4) rfl rfl ⟨Nat.le_of_ble_eq_true rfl, Nat.le_of_ble_eq_true rfl⟩ rfl rfl (Nat.le_of_ble_eq_true rfl) ⟨Nat.zero_le _, Nat.zero_le _⟩ dX9_lifeElsewhere_4 (fun H locs V => ?_)
  refine lv_aload_n X.1 X.2.1 dX9_lifeElsewhere_7 rfl (lv_at hl 0 rfl) ?_
  refine bl_getr X V ha0 fl_X9_40 rfl dX9_lifeElsewhere_8 (fun h5 => ?_)
  refine lv_aload_n X.1 X.2.1 dX9_lifeElsewhere_11 rfl (lv_at hl 0 rfl) ?_
  refine bl_getr X V ha0 fl_X9_36 rfl dX9_lifeElsewhere_12 (fun h6 => ?_)
  refine bl_geti X V h6 fl_X9_187 dX9_lifeElsewhere_15 ?_
  refine bl_puti X V h5 fp_X9_187 rfl rfl dX9_lifeElsewhere_18 (fun σ7 H locs e8 V => ?_)
  have hf := bl_let_at e8 hf
  refine lv_aload_n X.1 X.2.1 dX9_lifeElsewhere_21 rfl (lv_at hl 0 rfl) ?_
  refine bl_getr X V ha0 fl_X9_40 rfl dX9_lifeElsewhere_22 (fun h9 => ?_)
  exact bl_retr (kd := 0) X V hr hf dX9_lifeElsewhere_25
theorem s_X9_lifeElsewhere {σ σ1 : bl_St} {a0 r : Nat} (hw : bl_WT σ1) (ha0 : bl_sh[a0]? = some (9, 13)) (hc : f_X9_lifeElsewhere σ a0 = some (r, σ1)) : bl_sh[r]? = some (2, 15) := by
  unfold f_X9_lifeElsewhere at hc
  obtain ⟨_, σa, -, hc⟩ := bl_bd_at hc
  have hc := bl_let_at rfl hc
  cases hc
  exact (hw.1 a0 9 13 5 (2, 15) ha0 rfl).2
set_option maxHeartbeats 4000000 in
set_option maxRecDepth 100000 in
theorem t_X9_would (l : Launch) (g : bl_Gp) (σ : bl_St) (a0 : Nat) (a1 : Int32) (a2 : Int32) (a3 : Int32) (a4 : Int32) (a5 : Int32) (o : Int32 × bl_St) (ha0 : bl_sh[a0]? = some (9, 13)) (hf : f_X9_would σ a0 a1 a2 a3 a4 a5 = some o) : bl_Ci l g yX9_would cX9_would 7 (Option.some Jvm.ClassFile.FieldType.int) (bl_rm 7 170) [.ref (bl_ad g a0), .int a1, .int a2, .int a3, .int a4, .int a5] σ o := by
  refine bl_met (by decide) (Nat.le_of_ble_eq_true rfl) (fun p e s m below meth c ls X hr V hl => ?_)
  have hl : lv_has ls 7 [(0, .ref (bl_ad g a0)), (1, .int a1), (2, .int a2), (3, .int a3), (4, .int a4), (5, .int a5)] := hl
  unfold f_X9_would at hf
  refine lv_iload X.1 X.2.1 dX9_would_0 (lv_at hl 5 rfl) ?_
  refine lv_if_lt (tgt := 21) X.1 X.2.1 dX9_would_2 (by decide) (fun c1 => ?_) (fun c1 => ?_)
  · have hf := bl_ifp c1 hf
    refine lv_iconst (v := (-1)) X.1 X.2.1 dX9_would_21 (by decide) ?_
    exact bl_reti X V hr hf dX9_would_22
  · have hf := bl_ifn c1 hf
    refine lv_iload X.1 X.2.1 dX9_would_5 (lv_at hl 5 rfl) ?_
    refine lv_iconst (v := 3) X.1 X.2.1 dX9_would_7 (by decide) ?_
    refine lv_icmp_gt (tgt := 21) X.1 X.2.1 dX9_would_8 (by decide) (fun c2 => ?_) (fun c2 => ?_)
    · have hf := bl_ifp c2 hf
      refine lv_iconst (v := (-1)) X.1 X.2.1 dX9_would_21 (by decide) ?_
      exact bl_reti X V hr hf dX9_would_22
    · have hf := bl_ifn c2 hf
      refine lv_aload_n X.1 X.2.1 dX9_would_11 rfl (lv_at hl 0 rfl) ?_
      refine lv_iload_n X.1 X.2.1 dX9_would_12 rfl (lv_at hl 1 rfl) ?_
      refine lv_iload_n X.1 X.2.1 dX9_would_13 rfl (lv_at hl 2 rfl) ?_
      refine lv_iload_n X.1 X.2.1 dX9_would_14 rfl (lv_at hl 3 rfl) ?_
      obtain ⟨r3, σ4, h5, hf⟩ := bl_bd_at hf
      refine bl_cVi (As := [.int a1, .int a2, .int a3]) X V hl.1 ha0 rfl ml_X9_169 mV_X9_canLive (t_X9_canLive l g σ a0 a1 a2 a3 _ ha0 h5) rfl rfl ⟨Nat.le_of_ble_eq_true rfl, Nat.le_of_ble_eq_true rfl⟩ rfl rfl (Nat.le_of_ble_eq_true rfl) ⟨Nat.zero_le _, Nat.zero_le _⟩ dX9_would_15 (fun H locs V => ?_)
      refine lv_if_ne (tgt := 23) X.1 X.2.1 dX9_would_18 (by decide) (fun c6 => ?_) (fun c6 => ?_)
      · have hf := bl_ifn c6 hf
        refine lv_aload_n X.1 X.2.1 dX9_would_23 rfl (lv_at hl 0 rfl) ?_
        refine lv_aload_n X.1 X.2.1 dX9_would_24 rfl (lv_at hl 0 rfl) ?_
        obtain ⟨r7, σ8, h9, hf⟩ := bl_bd_at hf
        refine bl_cVr (kd := 0) (As := []) X V hl.1 ha0 rfl ml_X9_332 mV_X9_lifeElsewhere (t_X9_lifeElsewhere l g σ4 a0 _ ha0 h9) rfl rfl ⟨Nat.le_of_ble_eq_true rfl, Nat.le_of_ble_eq_true rfl⟩ rfl rfl (Nat.le_of_ble_eq_true rfl) ⟨Nat.zero_le _, Nat.zero_le _⟩ dX9_would_25 (fun H locs V => ?_)
        have h10 := s_X9_lifeElsewhere V.1.2 ha0 h9
        refine lv_iload_n X.1 X.2.1 dX9_would_28 rfl (lv_at hl 1 rfl) ?_
        refine lv_iload_n X.1 X.2.1 dX9_would_29 rfl (lv_at hl 2 rfl) ?_
        refine lv_iload_n X.1 X.2.1 dX9_would_30 rfl (lv_at hl 3 rfl) ?_
        refine lv_iload X.1 X.2.1 dX9_would_31 (lv_at hl 4 rfl) ?_
        obtain ⟨r11, σ12, h13, hf⟩ := bl_bd_at hf
        refine bl_cVi (As := [.ref (bl_ad g r7), .int a1, .int a2, .int a3, .int a4]) X V hl.1 ha0 rfl ml_X9_173 mV_X9_liveByDraws (t_X9_liveByDraws l g σ8 a0 r7 a1 a2 a3 a4 _ ha0 h10 h13) rfl rfl ⟨Nat.le_of_ble_eq_true rfl, Nat.le_of_ble_eq_true rfl⟩ rfl rfl (Nat.le_of_ble_eq_true rfl) ⟨Nat.zero_le _, Nat.zero_le _⟩ dX9_would_33 (fun H locs V => ?_)
        refine lv_istore (lv' := [(6, .int r11), (0, .ref (bl_ad g a0)), (1, .int a1), (2, .int a2), (3, .int a3), (4, .int a4), (5, .int a5)]) X.1 X.2.1 dX9_would_36 hl (by decide) rfl (fun ls hl => ?_)
        refine lv_iload X.1 X.2.1 dX9_would_38 (lv_at hl 6 rfl) ?_
        by_cases c14 : a5 = 0
        · have hf := bl_ifp c14 hf
          refine bl_swI (v := 0) (tgt := 68) X dX9_would_40 (by rw [c14]; decide) (by decide) rfl (by decide) ?_
          refine lv_iload X.1 X.2.1 dX9_would_68 (lv_at hl 0 rfl) ?_
          exact bl_reti X V hr hf dX9_would_70
        have hf := bl_ifn c14 hf
        by_cases c15 : a5 = 1
        · have hf := bl_ifp c15 hf
          refine bl_swI (v := 1) (tgt := 71) X dX9_would_40 (by rw [c15]; decide) (by decide) rfl (by decide) ?_
          refine lv_aload_n X.1 X.2.1 dX9_would_71 rfl (lv_at hl 1 rfl) ?_
          refine bl_getr X V ha0 fl_X9_40 rfl dX9_would_72 (fun h16 => ?_)
          refine bl_geti X V h16 fl_X9_224 dX9_would_75 ?_
          exact bl_reti X V hr hf dX9_would_78
        have hf := bl_ifn c15 hf
        by_cases c17 : a5 = 2
        · have hf := bl_ifp c17 hf
          refine bl_swI (v := 2) (tgt := 79) X dX9_would_40 (by rw [c17]; decide) (by decide) rfl (by decide) ?_
          refine lv_aload_n X.1 X.2.1 dX9_would_79 rfl (lv_at hl 1 rfl) ?_
          refine bl_getr X V ha0 fl_X9_40 rfl dX9_would_80 (fun h18 => ?_)
          refine bl_geti X V h18 fl_X9_227 dX9_would_83 ?_
          exact bl_reti X V hr hf dX9_would_86
        have hf := bl_ifn c17 hf
        have c14 := lv_neT (a := 0) c14 (by decide)
        have c15 := lv_neT (a := 1) c15 (by decide)
        have c17 := lv_neT (a := 2) c17 (by decide)
        refine bl_swO (tgt := 87) X dX9_would_40 (by omega) (by decide) ?_
        refine lv_aload_n X.1 X.2.1 dX9_would_87 rfl (lv_at hl 1 rfl) ?_
        refine bl_getr X V ha0 fl_X9_40 rfl dX9_would_88 (fun h19 => ?_)
        refine bl_geti X V h19 fl_X9_187 dX9_would_91 ?_
        exact bl_reti X V hr hf dX9_would_94
      · have hf := bl_ifp c6 hf
        refine lv_iconst (v := (-1)) X.1 X.2.1 dX9_would_21 (by decide) ?_
        exact bl_reti X V hr hf dX9_would_22
set_option maxHeartbeats 4000000 in
set_option maxRecDepth 100000 in
theorem w_X9_bestRule_66 {p : Program} {l : Launch} {e : Env} {s : State} {m : MethodId} {below : List Frame} {meth : Method} {c : Code} {g : bl_Gp} {as : List Value} {out : Int32 × bl_St} (X : bl_Cx g p s m as.toArray meth c cX9_bestRule 7 RX9) (hr : meth.sig.returnType = (Option.some Jvm.ClassFile.FieldType.int)) (k31 : bl_St → Nat → Int32 → Int32 → Int32 → Int32 → Int32 → Option (Int32 × bl_St)) (hk31 : ∀ (σ : bl_St) (v0 : Nat) (v1 : Int32) (v2 : Int32) (v3 : Int32) (v4 : Int32) (v5 : Int32), bl_sh[v0]? = some (9, 13) → k31 σ v0 v1 v2 v3 v4 v5 = some out → ∀ (H : Heap) (locs : List Loc) (ls : Array Slot), bl_V g s σ H locs → lv_has ls 7 [(0, .ref (bl_ad g v0)), (1, .int v1), (2, .int v2), (3, .int v3), (4, .int v4), (5, .int v5)] → W p l e (bl_rm 7 170) s m as.toArray below meth c H locs 0 0 (bl_Qi below g s as out) (F0 m 31 ls [])) : ∀ (σ : bl_St) (v0 : Nat) (v1 : Int32) (v2 : Int32) (v3 : Int32) (v4 : Int32) (v5 : Int32), bl_sh[v0]? = some (9, 13) → (b_X9_bestRule_66 k31) σ v0 v1 v2 v3 v4 v5 = some out → ∀ (H : Heap) (locs : List Loc) (ls : Array Slot), bl_V g s σ H locs → lv_has ls 7 [(0, .ref (bl_ad g v0)), (1, .int v1), (2, .int v2), (3, .int v3), (4, .int v4), (5, .int v5)] → W p l e (bl_rm 7 170) s m as.toArray below meth c H locs 0 0 (bl_Qi below g s as out) (F0 m 66 ls []) := by
  intro σ v0 v1 v2 v3 v4 v5 hv0 hf H locs ls V hl
  unfold b_X9_bestRule_66 at hf
  obtain ⟨x1, e2⟩ : ∃ z : Int32, z = v5 + 1 := ⟨_, rfl⟩
  have hf := bl_let_at e2 hf
  refine lv_iinc (v := x1) (lv' := [(5, .int x1), (0, .ref (bl_ad g v0)), (1, .int v1), (2, .int v2), (3, .int v3), (4, .int v4)]) X.1 X.2.1 dX9_bestRule_66 hl (k := 5) rfl (by rw [e2]; rfl) (by decide) rfl (fun ls hl => ?_)
  refine lv_goto (tgt := 31) X.1 X.2.1 dX9_bestRule_69 (by decide) ?_
  exact hk31 σ v0 v1 v2 v3 v4 x1 hv0 hf _ _ _ V (lv_sub hl [1, 2, 3, 4, 5, 0] rfl)
set_option maxHeartbeats 4000000 in
set_option maxRecDepth 100000 in
theorem w_X9_bestRule_31 {p : Program} {l : Launch} {e : Env} {s : State} {m : MethodId} {below : List Frame} {meth : Method} {c : Code} {g : bl_Gp} {as : List Value} {out : Int32 × bl_St} (X : bl_Cx g p s m as.toArray meth c cX9_bestRule 7 RX9) (hr : meth.sig.returnType = (Option.some Jvm.ClassFile.FieldType.int)) (k31 : bl_St → Nat → Int32 → Int32 → Int32 → Int32 → Int32 → Option (Int32 × bl_St)) (hk31 : ∀ (σ : bl_St) (v0 : Nat) (v1 : Int32) (v2 : Int32) (v3 : Int32) (v4 : Int32) (v5 : Int32), bl_sh[v0]? = some (9, 13) → k31 σ v0 v1 v2 v3 v4 v5 = some out → ∀ (H : Heap) (locs : List Loc) (ls : Array Slot), bl_V g s σ H locs → lv_has ls 7 [(0, .ref (bl_ad g v0)), (1, .int v1), (2, .int v2), (3, .int v3), (4, .int v4), (5, .int v5)] → W p l e (bl_rm 7 170) s m as.toArray below meth c H locs 0 0 (bl_Qi below g s as out) (F0 m 31 ls [])) : ∀ (σ : bl_St) (v0 : Nat) (v1 : Int32) (v2 : Int32) (v3 : Int32) (v4 : Int32) (v5 : Int32), bl_sh[v0]? = some (9, 13) → (b_X9_bestRule_31 k31) σ v0 v1 v2 v3 v4 v5 = some out → ∀ (H : Heap) (locs : List Loc) (ls : Array Slot), bl_V g s σ H locs → lv_has ls 7 [(0, .ref (bl_ad g v0)), (1, .int v1), (2, .int v2), (3, .int v3), (4, .int v4), (5, .int v5)] → W p l e (bl_rm 7 170) s m as.toArray below meth c H locs 0 0 (bl_Qi below g s as out) (F0 m 31 ls []) := by
  intro σ v0 v1 v2 v3 v4 v5 hv0 hf H locs ls V hl
  unfold b_X9_bestRule_31 at hf
  refine lv_iload X.1 X.2.1 dX9_bestRule_31 (lv_at hl 5 rfl) ?_
  refine lv_iconst (v := 2) X.1 X.2.1 dX9_bestRule_33 (by decide) ?_
  refine lv_icmp_gt (tgt := 72) X.1 X.2.1 dX9_bestRule_34 (by decide) (fun c3 => ?_) (fun c3 => ?_)
  · have hf := bl_ifp c3 hf
    refine lv_iload_n X.1 X.2.1 dX9_bestRule_72 rfl (lv_at hl 3 rfl) ?_
    exact bl_reti X V hr hf dX9_bestRule_73
  · have hf := bl_ifn c3 hf
    refine lv_aload_n X.1 X.2.1 dX9_bestRule_37 rfl (lv_at hl 0 rfl) ?_
    refine lv_aload_n X.1 X.2.1 dX9_bestRule_38 rfl (lv_at hl 0 rfl) ?_
    obtain ⟨r4, σ5, h6, hf⟩ := bl_bd_at hf
    refine bl_cVr (kd := 0) (As := []) X V hl.1 hv0 rfl ml_X9_332 mV_X9_lifeElsewhere (t_X9_lifeElsewhere l g σ v0 _ hv0 h6) rfl rfl ⟨Nat.le_of_ble_eq_true rfl, Nat.le_of_ble_eq_true rfl⟩ rfl rfl (Nat.le_of_ble_eq_true rfl) ⟨Nat.zero_le _, Nat.zero_le _⟩ dX9_bestRule_39 (fun H locs V => ?_)
    have h7 := s_X9_lifeElsewhere V.1.2 hv0 h6
    refine lv_iload_n X.1 X.2.1 dX9_bestRule_42 rfl (lv_at hl 1 rfl) ?_
    refine lv_iload X.1 X.2.1 dX9_bestRule_43 (lv_at hl 5 rfl) ?_
    refine lv_iconst (v := 0) X.1 X.2.1 dX9_bestRule_45 (by decide) ?_
    refine lv_iload_n X.1 X.2.1 dX9_bestRule_46 rfl (lv_at hl 2 rfl) ?_
    obtain ⟨r8, σ9, h10, hf⟩ := bl_bd_at hf
    refine bl_cVi (As := [.ref (bl_ad g r4), .int v1, .int v5, .int 0, .int v2]) X V hl.1 hv0 rfl ml_X9_173 mV_X9_liveByDraws (t_X9_liveByDraws l g σ5 v0 r4 v1 v5 0 v2 _ hv0 h7 h10) rfl rfl ⟨Nat.le_of_ble_eq_true rfl, Nat.le_of_ble_eq_true rfl⟩ rfl rfl (Nat.le_of_ble_eq_true rfl) ⟨Nat.zero_le _, Nat.zero_le _⟩ dX9_bestRule_47 (fun H locs V => ?_)
    refine lv_istore (lv' := [(6, .int r8), (0, .ref (bl_ad g v0)), (1, .int v1), (2, .int v2), (3, .int v3), (4, .int v4), (5, .int v5)]) X.1 X.2.1 dX9_bestRule_50 hl (by decide) rfl (fun ls hl => ?_)
    refine lv_iload X.1 X.2.1 dX9_bestRule_52 (lv_at hl 0 rfl) ?_
    refine lv_iload X.1 X.2.1 dX9_bestRule_54 (lv_at hl 5 rfl) ?_
    refine lv_icmp_ge (tgt := 66) X.1 X.2.1 dX9_bestRule_56 (by decide) (fun c11 => ?_) (fun c11 => ?_)
    · have hf := bl_ifp c11 hf
      exact w_X9_bestRule_66 X hr k31 hk31 σ9 v0 v1 v2 v3 v4 v5 hv0 hf _ _ _ V (lv_sub hl [1, 2, 3, 4, 5, 6] rfl)
    · have hf := bl_ifn c11 hf
      refine lv_iload X.1 X.2.1 dX9_bestRule_59 (lv_at hl 0 rfl) ?_
      refine lv_istore (lv' := [(4, .int r8), (6, .int r8), (0, .ref (bl_ad g v0)), (1, .int v1), (2, .int v2), (3, .int v3), (5, .int v5)]) X.1 X.2.1 dX9_bestRule_61 hl (by decide) rfl (fun ls hl => ?_)
      refine lv_iload X.1 X.2.1 dX9_bestRule_63 (lv_at hl 6 rfl) ?_
      refine lv_istore_n (lv' := [(3, .int v5), (4, .int r8), (6, .int r8), (0, .ref (bl_ad g v0)), (1, .int v1), (2, .int v2), (5, .int v5)]) X.1 X.2.1 dX9_bestRule_65 rfl hl (by decide) rfl (fun ls hl => ?_)
      exact w_X9_bestRule_66 X hr k31 hk31 σ9 v0 v1 v2 v5 r8 v5 hv0 hf _ _ _ V (lv_sub hl [3, 4, 5, 0, 1, 6] rfl)
theorem l_X9_bestRule_31 {p : Program} {l : Launch} {e : Env} {s : State} {m : MethodId} {below : List Frame} {meth : Method} {c : Code} {g : bl_Gp} {as : List Value} {out : Int32 × bl_St} (X : bl_Cx g p s m as.toArray meth c cX9_bestRule 7 RX9) (hr : meth.sig.returnType = (Option.some Jvm.ClassFile.FieldType.int)) (n : Nat) : ∀ (σ : bl_St) (v0 : Nat) (v1 : Int32) (v2 : Int32) (v3 : Int32) (v4 : Int32) (v5 : Int32), bl_sh[v0]? = some (9, 13) → (bl_fx (fun _ _ _ _ _ _ _ => none) (b_X9_bestRule_31 ) n) σ v0 v1 v2 v3 v4 v5 = some out → ∀ (H : Heap) (locs : List Loc) (ls : Array Slot), bl_V g s σ H locs → lv_has ls 7 [(0, .ref (bl_ad g v0)), (1, .int v1), (2, .int v2), (3, .int v3), (4, .int v4), (5, .int v5)] → W p l e (bl_rm 7 170) s m as.toArray below meth c H locs 0 0 (bl_Qi below g s as out) (F0 m 31 ls []) := by
  induction n with
  | zero =>
    intro σ v0 v1 v2 v3 v4 v5 hv0 hf H locs ls V hl
    cases hf
  | succ n ih => exact w_X9_bestRule_31 X hr  _ ih
set_option maxHeartbeats 4000000 in
set_option maxRecDepth 100000 in
theorem t_X9_bestRule (l : Launch) (g : bl_Gp) (σ : bl_St) (a0 : Nat) (a1 : Int32) (a2 : Int32) (o : Int32 × bl_St) (ha0 : bl_sh[a0]? = some (9, 13)) (hf : f_X9_bestRule σ a0 a1 a2 = some o) : bl_Ci l g yX9_bestRule cX9_bestRule 7 (Option.some Jvm.ClassFile.FieldType.int) (bl_rm 7 170) [.ref (bl_ad g a0), .int a1, .int a2] σ o := by
  refine bl_met (by decide) (Nat.le_of_ble_eq_true rfl) (fun p e s m below meth c ls X hr V hl => ?_)
  have hl : lv_has ls 7 [(0, .ref (bl_ad g a0)), (1, .int a1), (2, .int a2)] := hl
  unfold f_X9_bestRule at hf
  refine lv_aload_n X.1 X.2.1 dX9_bestRule_0 rfl (lv_at hl 0 rfl) ?_
  refine lv_iload_n X.1 X.2.1 dX9_bestRule_1 rfl (lv_at hl 1 rfl) ?_
  refine lv_iconst (v := 0) X.1 X.2.1 dX9_bestRule_2 (by decide) ?_
  refine lv_iconst (v := 0) X.1 X.2.1 dX9_bestRule_3 (by decide) ?_
  obtain ⟨r12, σ13, h14, hf⟩ := bl_bd_at hf
  refine bl_cVi (As := [.int a1, .int 0, .int 0]) X V hl.1 ha0 rfl ml_X9_169 mV_X9_canLive (t_X9_canLive l g σ a0 a1 0 0 _ ha0 h14) rfl rfl ⟨Nat.le_of_ble_eq_true rfl, Nat.le_of_ble_eq_true rfl⟩ rfl rfl (Nat.le_of_ble_eq_true rfl) ⟨Nat.zero_le _, Nat.zero_le _⟩ dX9_bestRule_4 (fun H locs V => ?_)
  refine lv_if_ne (tgt := 12) X.1 X.2.1 dX9_bestRule_7 (by decide) (fun c15 => ?_) (fun c15 => ?_)
  · have hf := bl_ifn c15 hf
    refine lv_iconst (v := 0) X.1 X.2.1 dX9_bestRule_12 (by decide) ?_
    refine lv_istore_n (lv' := [(3, .int 0), (0, .ref (bl_ad g a0)), (1, .int a1), (2, .int a2)]) X.1 X.2.1 dX9_bestRule_13 rfl hl (by decide) rfl (fun ls hl => ?_)
    refine lv_aload_n X.1 X.2.1 dX9_bestRule_14 rfl (lv_at hl 1 rfl) ?_
    refine lv_aload_n X.1 X.2.1 dX9_bestRule_15 rfl (lv_at hl 1 rfl) ?_
    obtain ⟨r16, σ17, h18, hf⟩ := bl_bd_at hf
    refine bl_cVr (kd := 0) (As := []) X V hl.1 ha0 rfl ml_X9_332 mV_X9_lifeElsewhere (t_X9_lifeElsewhere l g σ13 a0 _ ha0 h18) rfl rfl ⟨Nat.le_of_ble_eq_true rfl, Nat.le_of_ble_eq_true rfl⟩ rfl rfl (Nat.le_of_ble_eq_true rfl) ⟨Nat.zero_le _, Nat.zero_le _⟩ dX9_bestRule_16 (fun H locs V => ?_)
    have h19 := s_X9_lifeElsewhere V.1.2 ha0 h18
    refine lv_iload_n X.1 X.2.1 dX9_bestRule_19 rfl (lv_at hl 2 rfl) ?_
    refine lv_iconst (v := 0) X.1 X.2.1 dX9_bestRule_20 (by decide) ?_
    refine lv_iconst (v := 0) X.1 X.2.1 dX9_bestRule_21 (by decide) ?_
    refine lv_iload_n X.1 X.2.1 dX9_bestRule_22 rfl (lv_at hl 3 rfl) ?_
    obtain ⟨r20, σ21, h22, hf⟩ := bl_bd_at hf
    refine bl_cVi (As := [.ref (bl_ad g r16), .int a1, .int 0, .int 0, .int a2]) X V hl.1 ha0 rfl ml_X9_173 mV_X9_liveByDraws (t_X9_liveByDraws l g σ17 a0 r16 a1 0 0 a2 _ ha0 h19 h22) rfl rfl ⟨Nat.le_of_ble_eq_true rfl, Nat.le_of_ble_eq_true rfl⟩ rfl rfl (Nat.le_of_ble_eq_true rfl) ⟨Nat.zero_le _, Nat.zero_le _⟩ dX9_bestRule_23 (fun H locs V => ?_)
    refine lv_istore (lv' := [(4, .int r20), (3, .int 0), (0, .ref (bl_ad g a0)), (1, .int a1), (2, .int a2)]) X.1 X.2.1 dX9_bestRule_26 hl (by decide) rfl (fun ls hl => ?_)
    refine lv_iconst (v := 1) X.1 X.2.1 dX9_bestRule_28 (by decide) ?_
    refine lv_istore (lv' := [(5, .int 1), (4, .int r20), (3, .int 0), (0, .ref (bl_ad g a0)), (1, .int a1), (2, .int a2)]) X.1 X.2.1 dX9_bestRule_29 hl (by decide) rfl (fun ls hl => ?_)
    exact l_X9_bestRule_31 X hr  bl_fu σ21 a0 a1 a2 0 r20 1 ha0 hf _ _ _ V (lv_sub hl [3, 4, 5, 2, 1, 0] rfl)
  · have hf := bl_ifp c15 hf
    refine lv_iconst (v := (-1)) X.1 X.2.1 dX9_bestRule_10 (by decide) ?_
    exact bl_reti X V hr hf dX9_bestRule_11
set_option maxHeartbeats 4000000 in
set_option maxRecDepth 100000 in
theorem w_X9_dearest_32 {p : Program} {l : Launch} {e : Env} {s : State} {m : MethodId} {below : List Frame} {meth : Method} {c : Code} {g : bl_Gp} {as : List Value} {out : Int32 × bl_St} (X : bl_Cx g p s m as.toArray meth c cX9_dearest 4 RX9) (hr : meth.sig.returnType = (Option.some Jvm.ClassFile.FieldType.int)) (k32 : bl_St → Nat → Int32 → Int32 → Int32 → Option (Int32 × bl_St)) (hk32 : ∀ (σ : bl_St) (v0 : Nat) (v1 : Int32) (v2 : Int32) (v3 : Int32), bl_sh[v0]? = some (9, 13) → k32 σ v0 v1 v2 v3 = some out → ∀ (H : Heap) (locs : List Loc) (ls : Array Slot), bl_V g s σ H locs → lv_has ls 4 [(0, .ref (bl_ad g v0)), (1, .int v1), (2, .int v2), (3, .int v3)] → W p l e (bl_rm 4 111) s m as.toArray below meth c H locs 0 0 (bl_Qi below g s as out) (F0 m 32 ls [])) : ∀ (σ : bl_St) (v0 : Nat) (v1 : Int32) (v2 : Int32) (v3 : Int32), bl_sh[v0]? = some (9, 13) → (b_X9_dearest_32 k32) σ v0 v1 v2 v3 = some out → ∀ (H : Heap) (locs : List Loc) (ls : Array Slot), bl_V g s σ H locs → lv_has ls 4 [(0, .ref (bl_ad g v0)), (1, .int v1), (2, .int v2), (3, .int v3)] → W p l e (bl_rm 4 111) s m as.toArray below meth c H locs 0 0 (bl_Qi below g s as out) (F0 m 32 ls []) := by
  intro σ v0 v1 v2 v3 hv0 hf H locs ls V hl
  unfold b_X9_dearest_32 at hf
  refine lv_iload_n X.1 X.2.1 dX9_dearest_32 rfl (lv_at hl 3 rfl) ?_
  refine lv_if_lt (tgt := 88) X.1 X.2.1 dX9_dearest_33 (by decide) (fun c1 => ?_) (fun c1 => ?_)
  · have hf := bl_ifp c1 hf
    refine lv_bipush (v := (-2)) X.1 X.2.1 dX9_dearest_88 (by decide) ?_
    exact bl_reti X V hr hf dX9_dearest_90
  · have hf := bl_ifn c1 hf
    refine lv_aload_n X.1 X.2.1 dX9_dearest_36 rfl (lv_at hl 0 rfl) ?_
    refine bl_getr X V hv0 fl_X9_30 rfl dX9_dearest_37 (fun h2 => ?_)
    refine lv_iload_n X.1 X.2.1 dX9_dearest_40 rfl (lv_at hl 2 rfl) ?_
    refine lv_iconst (v := 4) X.1 X.2.1 dX9_dearest_41 (by decide) ?_
    refine lv_iload_n X.1 X.2.1 dX9_dearest_42 rfl (lv_at hl 3 rfl) ?_
    obtain ⟨r3, σ4, h5, hf⟩ := bl_bd_at hf
    refine bl_cVv (As := [.int v2, .int 4, .int v3]) X V hl.1 h2 rfl ml_X9_129 mV_X8_setPart (t_X8_setPart l g σ (bl_R σ v0 3) v2 4 v3 _ h2 h5) rfl rfl ⟨Nat.le_of_ble_eq_true rfl, Nat.le_of_ble_eq_true rfl⟩ rfl rfl (Nat.le_of_ble_eq_true rfl) ⟨Nat.zero_le _, Nat.zero_le _⟩ dX9_dearest_43 (fun H locs V => ?_)
    refine lv_aload_n X.1 X.2.1 dX9_dearest_46 rfl (lv_at hl 0 rfl) ?_
    refine bl_getr X V hv0 fl_X9_59 rfl dX9_dearest_47 (fun h6 => ?_)
    refine lv_aload_n X.1 X.2.1 dX9_dearest_50 rfl (lv_at hl 0 rfl) ?_
    refine bl_getr X V hv0 fl_X9_30 rfl dX9_dearest_51 (fun h7 => ?_)
    refine lv_iconst (v := 1) X.1 X.2.1 dX9_dearest_54 (by decide) ?_
    obtain ⟨r8, σ9, h10, hf⟩ := bl_bd_at hf
    refine bl_cVv (As := [.ref (bl_ad g (bl_R σ4 v0 3)), .int 1]) X V hl.1 h6 rfl ml_X9_107 mV_X4_look (t_X4_look l g σ4 (bl_R σ4 v0 8) (bl_R σ4 v0 3) 1 _ h6 h7 h10) rfl rfl ⟨Nat.le_of_ble_eq_true rfl, Nat.le_of_ble_eq_true rfl⟩ rfl rfl (Nat.le_of_ble_eq_true rfl) ⟨Nat.zero_le _, Nat.zero_le _⟩ dX9_dearest_55 (fun H locs V => ?_)
    refine lv_aload_n X.1 X.2.1 dX9_dearest_58 rfl (lv_at hl 0 rfl) ?_
    refine bl_getr X V hv0 fl_X9_59 rfl dX9_dearest_59 (fun h11 => ?_)
    refine lv_iload_n X.1 X.2.1 dX9_dearest_62 rfl (lv_at hl 1 rfl) ?_
    refine lv_iconst (v := 1) X.1 X.2.1 dX9_dearest_63 (by decide) ?_
    refine lv_isub X.1 X.2.1 dX9_dearest_64 ?_
    obtain ⟨r12, σ13, h14, hf⟩ := bl_bd_at hf
    refine bl_cVv (As := [.int (v1 - 1)]) X V hl.1 h11 rfl ml_X9_260 mV_X4_learn (t_X4_learn l g σ9 (bl_R σ9 v0 8) (v1 - 1) _ h11 h14) rfl rfl ⟨Nat.le_of_ble_eq_true rfl, Nat.le_of_ble_eq_true rfl⟩ rfl rfl (Nat.le_of_ble_eq_true rfl) ⟨Nat.zero_le _, Nat.zero_le _⟩ dX9_dearest_65 (fun H locs V => ?_)
    refine lv_aload_n X.1 X.2.1 dX9_dearest_68 rfl (lv_at hl 0 rfl) ?_
    refine bl_getr X V hv0 fl_X9_59 rfl dX9_dearest_69 (fun h15 => ?_)
    refine lv_iload_n X.1 X.2.1 dX9_dearest_72 rfl (lv_at hl 1 rfl) ?_
    refine lv_iload_n X.1 X.2.1 dX9_dearest_73 rfl (lv_at hl 2 rfl) ?_
    obtain ⟨r16, σ17, h18, hf⟩ := bl_bd_at hf
    refine bl_cVi (As := [.int v1, .int v2]) X V hl.1 h15 rfl ml_X9_263 mV_X4_buys (t_X4_buys l g σ13 (bl_R σ13 v0 8) v1 v2 _ h15 h18) rfl rfl ⟨Nat.le_of_ble_eq_true rfl, Nat.le_of_ble_eq_true rfl⟩ rfl rfl (Nat.le_of_ble_eq_true rfl) ⟨Nat.zero_le _, Nat.zero_le _⟩ dX9_dearest_74 (fun H locs V => ?_)
    refine lv_if_eq (tgt := 82) X.1 X.2.1 dX9_dearest_77 (by decide) (fun c19 => ?_) (fun c19 => ?_)
    · have hf := bl_ifp c19 hf
      obtain ⟨x20, e21⟩ : ∃ z : Int32, z = v3 + (-1) := ⟨_, rfl⟩
      have hf := bl_let_at e21 hf
      refine lv_iinc (v := x20) (lv' := [(3, .int x20), (0, .ref (bl_ad g v0)), (1, .int v1), (2, .int v2)]) X.1 X.2.1 dX9_dearest_82 hl (k := 3) rfl (by rw [e21]; rfl) (by decide) rfl (fun ls hl => ?_)
      refine lv_goto (tgt := 32) X.1 X.2.1 dX9_dearest_85 (by decide) ?_
      exact hk32 σ17 v0 v1 v2 x20 hv0 hf _ _ _ V (lv_sub hl [1, 2, 3, 0] rfl)
    · have hf := bl_ifn c19 hf
      refine lv_iload_n X.1 X.2.1 dX9_dearest_80 rfl (lv_at hl 3 rfl) ?_
      exact bl_reti X V hr hf dX9_dearest_81
theorem l_X9_dearest_32 {p : Program} {l : Launch} {e : Env} {s : State} {m : MethodId} {below : List Frame} {meth : Method} {c : Code} {g : bl_Gp} {as : List Value} {out : Int32 × bl_St} (X : bl_Cx g p s m as.toArray meth c cX9_dearest 4 RX9) (hr : meth.sig.returnType = (Option.some Jvm.ClassFile.FieldType.int)) (n : Nat) : ∀ (σ : bl_St) (v0 : Nat) (v1 : Int32) (v2 : Int32) (v3 : Int32), bl_sh[v0]? = some (9, 13) → (bl_fx (fun _ _ _ _ _ => none) (b_X9_dearest_32 ) n) σ v0 v1 v2 v3 = some out → ∀ (H : Heap) (locs : List Loc) (ls : Array Slot), bl_V g s σ H locs → lv_has ls 4 [(0, .ref (bl_ad g v0)), (1, .int v1), (2, .int v2), (3, .int v3)] → W p l e (bl_rm 4 111) s m as.toArray below meth c H locs 0 0 (bl_Qi below g s as out) (F0 m 32 ls []) := by
  induction n with
  | zero =>
    intro σ v0 v1 v2 v3 hv0 hf H locs ls V hl
    cases hf
  | succ n ih => exact w_X9_dearest_32 X hr  _ ih
set_option maxHeartbeats 4000000 in
set_option maxRecDepth 100000 in
theorem t_X9_dearest (l : Launch) (g : bl_Gp) (σ : bl_St) (a0 : Nat) (a1 : Int32) (a2 : Int32) (o : Int32 × bl_St) (ha0 : bl_sh[a0]? = some (9, 13)) (hf : f_X9_dearest σ a0 a1 a2 = some o) : bl_Ci l g yX9_dearest cX9_dearest 4 (Option.some Jvm.ClassFile.FieldType.int) (bl_rm 4 111) [.ref (bl_ad g a0), .int a1, .int a2] σ o := by
  refine bl_met (by decide) (Nat.le_of_ble_eq_true rfl) (fun p e s m below meth c ls X hr V hl => ?_)
  have hl : lv_has ls 4 [(0, .ref (bl_ad g a0)), (1, .int a1), (2, .int a2)] := hl
  unfold f_X9_dearest at hf
  refine lv_aload_n X.1 X.2.1 dX9_dearest_0 rfl (lv_at hl 0 rfl) ?_
  refine lv_iload_n X.1 X.2.1 dX9_dearest_1 rfl (lv_at hl 1 rfl) ?_
  refine lv_iload_n X.1 X.2.1 dX9_dearest_2 rfl (lv_at hl 2 rfl) ?_
  obtain ⟨r22, σ23, h24, hf⟩ := bl_bd_at hf
  refine bl_cVi (As := [.int a1, .int a2]) X V hl.1 ha0 rfl ml_X9_251 mV_X9_isAsked (t_X9_isAsked l g σ a0 a1 a2 _ ha0 h24) rfl rfl ⟨Nat.le_of_ble_eq_true rfl, Nat.le_of_ble_eq_true rfl⟩ rfl rfl (Nat.le_of_ble_eq_true rfl) ⟨Nat.zero_le _, Nat.zero_le _⟩ dX9_dearest_3 (fun H locs V => ?_)
  refine lv_if_eq (tgt := 13) X.1 X.2.1 dX9_dearest_6 (by decide) (fun c25 => ?_) (fun c25 => ?_)
  · have hf := bl_ifp c25 hf
    refine lv_iconst (v := (-1)) X.1 X.2.1 dX9_dearest_13 (by decide) ?_
    exact bl_reti X V hr hf dX9_dearest_14
  · have hf := bl_ifn c25 hf
    refine lv_iload_n X.1 X.2.1 dX9_dearest_9 rfl (lv_at hl 1 rfl) ?_
    refine lv_if_ne (tgt := 15) X.1 X.2.1 dX9_dearest_10 (by decide) (fun c26 => ?_) (fun c26 => ?_)
    · have hf := bl_ifn c26 hf
      refine lv_aload_n X.1 X.2.1 dX9_dearest_15 rfl (lv_at hl 0 rfl) ?_
      refine bl_getr X V ha0 fl_X9_30 rfl dX9_dearest_16 (fun h27 => ?_)
      refine lv_aload_n X.1 X.2.1 dX9_dearest_19 rfl (lv_at hl 0 rfl) ?_
      refine bl_getr X V ha0 fl_X9_26 rfl dX9_dearest_20 (fun h28 => ?_)
      obtain ⟨r29, σ30, h31, hf⟩ := bl_bd_at hf
      refine bl_cVv (As := [.ref (bl_ad g (bl_R σ23 a0 2))]) X V hl.1 h27 rfl ml_X9_98 mV_X8_copy (t_X8_copy l g σ23 (bl_R σ23 a0 3) (bl_R σ23 a0 2) _ h27 h28 h31) rfl rfl ⟨Nat.le_of_ble_eq_true rfl, Nat.le_of_ble_eq_true rfl⟩ rfl rfl (Nat.le_of_ble_eq_true rfl) ⟨Nat.zero_le _, Nat.zero_le _⟩ dX9_dearest_23 (fun H locs V => ?_)
      refine bl_sget X V X.2.2.2.2.2.2.1.1.1 gs_X9_336 dX9_dearest_26 (fun t32 h33 => ?_)
      refine lv_iconst (v := 4) X.1 X.2.1 dX9_dearest_29 (by decide) ?_
      refine bl_sld X V h33 (by decide +kernel) dX9_dearest_30 ?_
      refine lv_topi (fun x34 e35 => ?_)
      have hf := bl_let_at e35 hf
      refine lv_istore_n (lv' := [(3, .int x34), (0, .ref (bl_ad g a0)), (1, .int a1), (2, .int a2)]) X.1 X.2.1 dX9_dearest_31 rfl hl (by decide) rfl (fun ls hl => ?_)
      exact l_X9_dearest_32 X hr  bl_fu σ30 a0 a1 a2 x34 ha0 hf _ _ _ V (lv_sub hl [1, 2, 3, 0] rfl)
    · have hf := bl_ifp c26 hf
      refine lv_iconst (v := (-1)) X.1 X.2.1 dX9_dearest_13 (by decide) ?_
      exact bl_reti X V hr hf dX9_dearest_14
set_option maxHeartbeats 4000000 in
set_option maxRecDepth 100000 in
theorem w_X9_spell_152 {p : Program} {l : Launch} {e : Env} {s : State} {m : MethodId} {below : List Frame} {meth : Method} {c : Code} {g : bl_Gp} {as : List Value} {out : Int32 × bl_St} (X : bl_Cx g p s m as.toArray meth c cX9_spell 4 RX9) (hr : meth.sig.returnType = (Option.some Jvm.ClassFile.FieldType.int)) (k152 : bl_St → Nat → Int32 → Int32 → Option (Int32 × bl_St)) (hk152 : ∀ (σ : bl_St) (v0 : Nat) (v1 : Int32) (v2 : Int32), bl_sh[v0]? = some (9, 13) → k152 σ v0 v1 v2 = some out → ∀ (H : Heap) (locs : List Loc) (ls : Array Slot), bl_V g s σ H locs → lv_has ls 4 [(0, .ref (bl_ad g v0)), (1, .int v1), (2, .int v2)] → W p l e (bl_rm 5 107) s m as.toArray below meth c H locs 0 0 (bl_Qi below g s as out) (F0 m 152 ls [])) : ∀ (σ : bl_St) (v0 : Nat) (v1 : Int32) (v2 : Int32), bl_sh[v0]? = some (9, 13) → (b_X9_spell_152 k152) σ v0 v1 v2 = some out → ∀ (H : Heap) (locs : List Loc) (ls : Array Slot), bl_V g s σ H locs → lv_has ls 4 [(0, .ref (bl_ad g v0)), (1, .int v1), (2, .int v2)] → W p l e (bl_rm 5 107) s m as.toArray below meth c H locs 0 0 (bl_Qi below g s as out) (F0 m 152 ls []) := by
  intro σ v0 v1 v2 hv0 hf H locs ls V hl
  unfold b_X9_spell_152 at hf
  refine lv_iload_n X.1 X.2.1 dX9_spell_152 rfl (lv_at hl 2 rfl) ?_
  refine lv_iconst (v := 3) X.1 X.2.1 dX9_spell_153 (by decide) ?_
  refine lv_icmp_ge (tgt := 199) X.1 X.2.1 dX9_spell_154 (by decide) (fun c1 => ?_) (fun c1 => ?_)
  · have hf := bl_ifp c1 hf
    refine lv_aload_n X.1 X.2.1 dX9_spell_199 rfl (lv_at hl 0 rfl) ?_
    refine bl_getr X V hv0 fl_X9_19 rfl dX9_spell_200 (fun h2 => ?_)
    refine lv_iload_n X.1 X.2.1 dX9_spell_203 rfl (lv_at hl 1 rfl) ?_
    obtain ⟨r3, σ4, h5, hf⟩ := bl_bd_at hf
    refine bl_cVi (As := [.int v1]) X V hl.1 h2 rfl ml_X9_354 mV_X5_signAt (t_X5_signAt l g σ (bl_R σ v0 1) v1 _ h2 h5) rfl rfl ⟨Nat.le_of_ble_eq_true rfl, Nat.le_of_ble_eq_true rfl⟩ rfl rfl (Nat.le_of_ble_eq_true rfl) ⟨Nat.zero_le _, Nat.zero_le _⟩ dX9_spell_204 (fun H locs V => ?_)
    exact bl_reti X V hr hf dX9_spell_207
  · have hf := bl_ifn c1 hf
    refine lv_aload_n X.1 X.2.1 dX9_spell_157 rfl (lv_at hl 0 rfl) ?_
    refine bl_getr X V hv0 fl_X9_19 rfl dX9_spell_158 (fun h6 => ?_)
    refine lv_iconst (v := 2) X.1 X.2.1 dX9_spell_161 (by decide) ?_
    refine lv_iload_n X.1 X.2.1 dX9_spell_162 rfl (lv_at hl 2 rfl) ?_
    refine lv_iadd X.1 X.2.1 dX9_spell_163 ?_
    obtain ⟨r7, σ8, h9, hf⟩ := bl_bd_at hf
    refine bl_cSr (kd := 1) (As := [.int (2 + v2)]) X V hl.1 ml_X9_340 mS_X9_wordOf (t_X9_wordOf l g σ (2 + v2) _  h9) rfl rfl ⟨Nat.le_of_ble_eq_true rfl, Nat.le_of_ble_eq_true rfl⟩ rfl rfl (Nat.le_of_ble_eq_true rfl) ⟨Nat.zero_le _, Nat.zero_le _⟩ dX9_spell_164 (fun H locs V => ?_)
    obtain ⟨r10, σ11, h12, hf⟩ := bl_bd_at hf
    refine bl_cVv (As := [.ref (bl_adr g 1 r7)]) X V hl.1 h6 rfl ml_X9_344 mV_X5_putWord (t_X5_putWord l g σ8 (bl_R σ v0 1) r7 _ h6 h12) rfl rfl ⟨Nat.le_of_ble_eq_true rfl, Nat.le_of_ble_eq_true rfl⟩ rfl rfl (Nat.le_of_ble_eq_true rfl) ⟨Nat.zero_le _, Nat.zero_le _⟩ dX9_spell_167 (fun H locs V => ?_)
    refine lv_aload_n X.1 X.2.1 dX9_spell_170 rfl (lv_at hl 0 rfl) ?_
    refine bl_getr X V hv0 fl_X9_19 rfl dX9_spell_171 (fun h13 => ?_)
    refine lv_aload_n X.1 X.2.1 dX9_spell_174 rfl (lv_at hl 0 rfl) ?_
    refine bl_getr X V hv0 fl_X9_26 rfl dX9_spell_175 (fun h14 => ?_)
    refine bl_getr X V h14 fl_X9_154 rfl dX9_spell_178 (fun h15 => ?_)
    refine lv_iload_n X.1 X.2.1 dX9_spell_181 rfl (lv_at hl 2 rfl) ?_
    obtain ⟨h16, hf⟩ := bl_gd_at hf
    refine bl_iald (k := (Int32.toNatClampNeg v2)) X V h15 h16 rfl dX9_spell_182 ?_
    obtain ⟨r17, σ18, h19, hf⟩ := bl_bd_at hf
    refine bl_cVv (As := [.int (bl_I σ11 (bl_R σ11 (bl_R σ11 v0 2) 4) (Int32.toNatClampNeg v2))]) X V hl.1 h13 rfl ml_X9_348 mV_X5_putNumber (t_X5_putNumber l g σ11 (bl_R σ11 v0 1) (bl_I σ11 (bl_R σ11 (bl_R σ11 v0 2) 4) (Int32.toNatClampNeg v2)) _ h13 h19) rfl rfl ⟨Nat.le_of_ble_eq_true rfl, Nat.le_of_ble_eq_true rfl⟩ rfl rfl (Nat.le_of_ble_eq_true rfl) ⟨Nat.zero_le _, Nat.zero_le _⟩ dX9_spell_183 (fun H locs V => ?_)
    refine lv_aload_n X.1 X.2.1 dX9_spell_186 rfl (lv_at hl 0 rfl) ?_
    refine bl_getr X V hv0 fl_X9_19 rfl dX9_spell_187 (fun h20 => ?_)
    obtain ⟨r21, σ22, h23, hf⟩ := bl_bd_at hf
    refine bl_cVv (As := []) X V hl.1 h20 rfl ml_X9_351 mV_X5_endPhrase (t_X5_endPhrase l g σ18 (bl_R σ18 v0 1) _ h20 h23) rfl rfl ⟨Nat.le_of_ble_eq_true rfl, Nat.le_of_ble_eq_true rfl⟩ rfl rfl (Nat.le_of_ble_eq_true rfl) ⟨Nat.zero_le _, Nat.zero_le _⟩ dX9_spell_190 (fun H locs V => ?_)
    obtain ⟨x24, e25⟩ : ∃ z : Int32, z = v2 + 1 := ⟨_, rfl⟩
    have hf := bl_let_at e25 hf
    refine lv_iinc (v := x24) (lv' := [(2, .int x24), (0, .ref (bl_ad g v0)), (1, .int v1)]) X.1 X.2.1 dX9_spell_193 hl (k := 2) rfl (by rw [e25]; rfl) (by decide) rfl (fun ls hl => ?_)
    refine lv_goto (tgt := 152) X.1 X.2.1 dX9_spell_196 (by decide) ?_
    exact hk152 σ22 v0 v1 x24 hv0 hf _ _ _ V (lv_sub hl [1, 2, 0] rfl)
theorem l_X9_spell_152 {p : Program} {l : Launch} {e : Env} {s : State} {m : MethodId} {below : List Frame} {meth : Method} {c : Code} {g : bl_Gp} {as : List Value} {out : Int32 × bl_St} (X : bl_Cx g p s m as.toArray meth c cX9_spell 4 RX9) (hr : meth.sig.returnType = (Option.some Jvm.ClassFile.FieldType.int)) (n : Nat) : ∀ (σ : bl_St) (v0 : Nat) (v1 : Int32) (v2 : Int32), bl_sh[v0]? = some (9, 13) → (bl_fx (fun _ _ _ _ => none) (b_X9_spell_152 ) n) σ v0 v1 v2 = some out → ∀ (H : Heap) (locs : List Loc) (ls : Array Slot), bl_V g s σ H locs → lv_has ls 4 [(0, .ref (bl_ad g v0)), (1, .int v1), (2, .int v2)] → W p l e (bl_rm 5 107) s m as.toArray below meth c H locs 0 0 (bl_Qi below g s as out) (F0 m 152 ls []) := by
  induction n with
  | zero =>
    intro σ v0 v1 v2 hv0 hf H locs ls V hl
    cases hf
  | succ n ih => exact w_X9_spell_152 X hr  _ ih
set_option maxHeartbeats 4000000 in
set_option maxRecDepth 100000 in
theorem w_X9_spell_83 {p : Program} {l : Launch} {e : Env} {s : State} {m : MethodId} {below : List Frame} {meth : Method} {c : Code} {g : bl_Gp} {as : List Value} {out : Int32 × bl_St} (X : bl_Cx g p s m as.toArray meth c cX9_spell 4 RX9) (hr : meth.sig.returnType = (Option.some Jvm.ClassFile.FieldType.int)) (k83 : bl_St → Nat → Int32 → Int32 → Option (Int32 × bl_St)) (hk83 : ∀ (σ : bl_St) (v0 : Nat) (v1 : Int32) (v2 : Int32), bl_sh[v0]? = some (9, 13) → k83 σ v0 v1 v2 = some out → ∀ (H : Heap) (locs : List Loc) (ls : Array Slot), bl_V g s σ H locs → lv_has ls 4 [(0, .ref (bl_ad g v0)), (1, .int v1), (2, .int v2)] → W p l e (bl_rm 5 107) s m as.toArray below meth c H locs 0 0 (bl_Qi below g s as out) (F0 m 83 ls [])) : ∀ (σ : bl_St) (v0 : Nat) (v1 : Int32) (v2 : Int32), bl_sh[v0]? = some (9, 13) → (b_X9_spell_83 k83) σ v0 v1 v2 = some out → ∀ (H : Heap) (locs : List Loc) (ls : Array Slot), bl_V g s σ H locs → lv_has ls 4 [(0, .ref (bl_ad g v0)), (1, .int v1), (2, .int v2)] → W p l e (bl_rm 5 107) s m as.toArray below meth c H locs 0 0 (bl_Qi below g s as out) (F0 m 83 ls []) := by
  intro σ v0 v1 v2 hv0 hf H locs ls V hl
  unfold b_X9_spell_83 at hf
  refine lv_iload_n X.1 X.2.1 dX9_spell_83 rfl (lv_at hl 2 rfl) ?_
  refine lv_aload_n X.1 X.2.1 dX9_spell_84 rfl (lv_at hl 0 rfl) ?_
  refine bl_getr X V hv0 fl_X9_26 rfl dX9_spell_85 (fun h26 => ?_)
  refine bl_geti X V h26 fl_X9_177 dX9_spell_88 ?_
  refine lv_icmp_ge (tgt := 150) X.1 X.2.1 dX9_spell_91 (by decide) (fun c27 => ?_) (fun c27 => ?_)
  · have hf := bl_ifp c27 hf
    refine lv_iconst (v := 0) X.1 X.2.1 dX9_spell_150 (by decide) ?_
    refine lv_istore_n (lv' := [(2, .int 0), (0, .ref (bl_ad g v0)), (1, .int v1)]) X.1 X.2.1 dX9_spell_151 rfl hl (by decide) rfl (fun ls hl => ?_)
    exact l_X9_spell_152 X hr  bl_fu σ v0 v1 0 hv0 hf _ _ _ V (lv_sub hl [1, 2, 0] rfl)
  · have hf := bl_ifn c27 hf
    refine lv_aload_n X.1 X.2.1 dX9_spell_94 rfl (lv_at hl 0 rfl) ?_
    refine bl_getr X V hv0 fl_X9_19 rfl dX9_spell_95 (fun h28 => ?_)
    refine lv_iconst (v := 1) X.1 X.2.1 dX9_spell_98 (by decide) ?_
    obtain ⟨r29, σ30, h31, hf⟩ := bl_bd_at hf
    refine bl_cSr (kd := 1) (As := [.int 1]) X V hl.1 ml_X9_340 mS_X9_wordOf (t_X9_wordOf l g σ 1 _  h31) rfl rfl ⟨Nat.le_of_ble_eq_true rfl, Nat.le_of_ble_eq_true rfl⟩ rfl rfl (Nat.le_of_ble_eq_true rfl) ⟨Nat.zero_le _, Nat.zero_le _⟩ dX9_spell_99 (fun H locs V => ?_)
    obtain ⟨r32, σ33, h34, hf⟩ := bl_bd_at hf
    refine bl_cVv (As := [.ref (bl_adr g 1 r29)]) X V hl.1 h28 rfl ml_X9_344 mV_X5_putWord (t_X5_putWord l g σ30 (bl_R σ v0 1) r29 _ h28 h34) rfl rfl ⟨Nat.le_of_ble_eq_true rfl, Nat.le_of_ble_eq_true rfl⟩ rfl rfl (Nat.le_of_ble_eq_true rfl) ⟨Nat.zero_le _, Nat.zero_le _⟩ dX9_spell_102 (fun H locs V => ?_)
    refine lv_aload_n X.1 X.2.1 dX9_spell_105 rfl (lv_at hl 0 rfl) ?_
    refine bl_getr X V hv0 fl_X9_19 rfl dX9_spell_106 (fun h35 => ?_)
    refine lv_aload_n X.1 X.2.1 dX9_spell_109 rfl (lv_at hl 0 rfl) ?_
    refine bl_getr X V hv0 fl_X9_26 rfl dX9_spell_110 (fun h36 => ?_)
    refine lv_iload_n X.1 X.2.1 dX9_spell_113 rfl (lv_at hl 2 rfl) ?_
    refine lv_iconst (v := 0) X.1 X.2.1 dX9_spell_114 (by decide) ?_
    obtain ⟨r37, σ38, h39, hf⟩ := bl_bd_at hf
    refine bl_cVi (As := [.int v2, .int 0]) X V hl.1 h36 rfl ml_X9_140 mV_X8_sortPart (t_X8_sortPart l g σ33 (bl_R σ33 v0 2) v2 0 _ h36 h39) rfl rfl ⟨Nat.le_of_ble_eq_true rfl, Nat.le_of_ble_eq_true rfl⟩ rfl rfl (Nat.le_of_ble_eq_true rfl) ⟨Nat.zero_le _, Nat.zero_le _⟩ dX9_spell_115 (fun H locs V => ?_)
    obtain ⟨r40, σ41, h42, hf⟩ := bl_bd_at hf
    refine bl_cVv (As := [.int r37]) X V hl.1 h35 rfl ml_X9_348 mV_X5_putNumber (t_X5_putNumber l g σ38 (bl_R σ33 v0 1) r37 _ h35 h42) rfl rfl ⟨Nat.le_of_ble_eq_true rfl, Nat.le_of_ble_eq_true rfl⟩ rfl rfl (Nat.le_of_ble_eq_true rfl) ⟨Nat.zero_le _, Nat.zero_le _⟩ dX9_spell_118 (fun H locs V => ?_)
    refine lv_aload_n X.1 X.2.1 dX9_spell_121 rfl (lv_at hl 0 rfl) ?_
    refine bl_getr X V hv0 fl_X9_19 rfl dX9_spell_122 (fun h43 => ?_)
    refine lv_aload_n X.1 X.2.1 dX9_spell_125 rfl (lv_at hl 0 rfl) ?_
    refine bl_getr X V hv0 fl_X9_26 rfl dX9_spell_126 (fun h44 => ?_)
    refine lv_iload_n X.1 X.2.1 dX9_spell_129 rfl (lv_at hl 2 rfl) ?_
    refine lv_iconst (v := 1) X.1 X.2.1 dX9_spell_130 (by decide) ?_
    obtain ⟨r45, σ46, h47, hf⟩ := bl_bd_at hf
    refine bl_cVi (As := [.int v2, .int 1]) X V hl.1 h44 rfl ml_X9_140 mV_X8_sortPart (t_X8_sortPart l g σ41 (bl_R σ41 v0 2) v2 1 _ h44 h47) rfl rfl ⟨Nat.le_of_ble_eq_true rfl, Nat.le_of_ble_eq_true rfl⟩ rfl rfl (Nat.le_of_ble_eq_true rfl) ⟨Nat.zero_le _, Nat.zero_le _⟩ dX9_spell_131 (fun H locs V => ?_)
    obtain ⟨r48, σ49, h50, hf⟩ := bl_bd_at hf
    refine bl_cVv (As := [.int r45]) X V hl.1 h43 rfl ml_X9_348 mV_X5_putNumber (t_X5_putNumber l g σ46 (bl_R σ41 v0 1) r45 _ h43 h50) rfl rfl ⟨Nat.le_of_ble_eq_true rfl, Nat.le_of_ble_eq_true rfl⟩ rfl rfl (Nat.le_of_ble_eq_true rfl) ⟨Nat.zero_le _, Nat.zero_le _⟩ dX9_spell_134 (fun H locs V => ?_)
    refine lv_aload_n X.1 X.2.1 dX9_spell_137 rfl (lv_at hl 0 rfl) ?_
    refine bl_getr X V hv0 fl_X9_19 rfl dX9_spell_138 (fun h51 => ?_)
    obtain ⟨r52, σ53, h54, hf⟩ := bl_bd_at hf
    refine bl_cVv (As := []) X V hl.1 h51 rfl ml_X9_351 mV_X5_endPhrase (t_X5_endPhrase l g σ49 (bl_R σ49 v0 1) _ h51 h54) rfl rfl ⟨Nat.le_of_ble_eq_true rfl, Nat.le_of_ble_eq_true rfl⟩ rfl rfl (Nat.le_of_ble_eq_true rfl) ⟨Nat.zero_le _, Nat.zero_le _⟩ dX9_spell_141 (fun H locs V => ?_)
    obtain ⟨x55, e56⟩ : ∃ z : Int32, z = v2 + 1 := ⟨_, rfl⟩
    have hf := bl_let_at e56 hf
    refine lv_iinc (v := x55) (lv' := [(2, .int x55), (0, .ref (bl_ad g v0)), (1, .int v1)]) X.1 X.2.1 dX9_spell_144 hl (k := 2) rfl (by rw [e56]; rfl) (by decide) rfl (fun ls hl => ?_)
    refine lv_goto (tgt := 83) X.1 X.2.1 dX9_spell_147 (by decide) ?_
    exact hk83 σ53 v0 v1 x55 hv0 hf _ _ _ V (lv_sub hl [1, 2, 0] rfl)
theorem l_X9_spell_83 {p : Program} {l : Launch} {e : Env} {s : State} {m : MethodId} {below : List Frame} {meth : Method} {c : Code} {g : bl_Gp} {as : List Value} {out : Int32 × bl_St} (X : bl_Cx g p s m as.toArray meth c cX9_spell 4 RX9) (hr : meth.sig.returnType = (Option.some Jvm.ClassFile.FieldType.int)) (n : Nat) : ∀ (σ : bl_St) (v0 : Nat) (v1 : Int32) (v2 : Int32), bl_sh[v0]? = some (9, 13) → (bl_fx (fun _ _ _ _ => none) (b_X9_spell_83 ) n) σ v0 v1 v2 = some out → ∀ (H : Heap) (locs : List Loc) (ls : Array Slot), bl_V g s σ H locs → lv_has ls 4 [(0, .ref (bl_ad g v0)), (1, .int v1), (2, .int v2)] → W p l e (bl_rm 5 107) s m as.toArray below meth c H locs 0 0 (bl_Qi below g s as out) (F0 m 83 ls []) := by
  induction n with
  | zero =>
    intro σ v0 v1 v2 hv0 hf H locs ls V hl
    cases hf
  | succ n ih => exact w_X9_spell_83 X hr  _ ih
set_option maxHeartbeats 4000000 in
set_option maxRecDepth 100000 in
theorem w_X9_spell_41 {p : Program} {l : Launch} {e : Env} {s : State} {m : MethodId} {below : List Frame} {meth : Method} {c : Code} {g : bl_Gp} {as : List Value} {out : Int32 × bl_St} (X : bl_Cx g p s m as.toArray meth c cX9_spell 4 RX9) (hr : meth.sig.returnType = (Option.some Jvm.ClassFile.FieldType.int)) (k17 : bl_St → Nat → Int32 → Int32 → Option (Int32 × bl_St)) (hk17 : ∀ (σ : bl_St) (v0 : Nat) (v1 : Int32) (v2 : Int32), bl_sh[v0]? = some (9, 13) → k17 σ v0 v1 v2 = some out → ∀ (H : Heap) (locs : List Loc) (ls : Array Slot), bl_V g s σ H locs → lv_has ls 4 [(0, .ref (bl_ad g v0)), (1, .int v1), (2, .int v2)] → W p l e (bl_rm 5 107) s m as.toArray below meth c H locs 0 0 (bl_Qi below g s as out) (F0 m 17 ls [])) (k41 : bl_St → Nat → Int32 → Int32 → Int32 → Option (Int32 × bl_St)) (hk41 : ∀ (σ : bl_St) (v0 : Nat) (v1 : Int32) (v2 : Int32) (v3 : Int32), bl_sh[v0]? = some (9, 13) → k41 σ v0 v1 v2 v3 = some out → ∀ (H : Heap) (locs : List Loc) (ls : Array Slot), bl_V g s σ H locs → lv_has ls 4 [(0, .ref (bl_ad g v0)), (1, .int v1), (2, .int v2), (3, .int v3)] → W p l e (bl_rm 5 107) s m as.toArray below meth c H locs 0 0 (bl_Qi below g s as out) (F0 m 41 ls [])) : ∀ (σ : bl_St) (v0 : Nat) (v1 : Int32) (v2 : Int32) (v3 : Int32), bl_sh[v0]? = some (9, 13) → (b_X9_spell_41 k17 k41) σ v0 v1 v2 v3 = some out → ∀ (H : Heap) (locs : List Loc) (ls : Array Slot), bl_V g s σ H locs → lv_has ls 4 [(0, .ref (bl_ad g v0)), (1, .int v1), (2, .int v2), (3, .int v3)] → W p l e (bl_rm 5 107) s m as.toArray below meth c H locs 0 0 (bl_Qi below g s as out) (F0 m 41 ls []) := by
  intro σ v0 v1 v2 v3 hv0 hf H locs ls V hl
  unfold b_X9_spell_41 at hf
  refine lv_iload_n X.1 X.2.1 dX9_spell_41 rfl (lv_at hl 3 rfl) ?_
  refine lv_iconst (v := 5) X.1 X.2.1 dX9_spell_42 (by decide) ?_
  refine lv_icmp_ge (tgt := 68) X.1 X.2.1 dX9_spell_43 (by decide) (fun c57 => ?_) (fun c57 => ?_)
  · have hf := bl_ifp c57 hf
    refine lv_aload_n X.1 X.2.1 dX9_spell_68 rfl (lv_at hl 0 rfl) ?_
    refine bl_getr X V hv0 fl_X9_19 rfl dX9_spell_69 (fun h58 => ?_)
    obtain ⟨r59, σ60, h61, hf⟩ := bl_bd_at hf
    refine bl_cVv (As := []) X V hl.1 h58 rfl ml_X9_351 mV_X5_endPhrase (t_X5_endPhrase l g σ (bl_R σ v0 1) _ h58 h61) rfl rfl ⟨Nat.le_of_ble_eq_true rfl, Nat.le_of_ble_eq_true rfl⟩ rfl rfl (Nat.le_of_ble_eq_true rfl) ⟨Nat.zero_le _, Nat.zero_le _⟩ dX9_spell_72 (fun H locs V => ?_)
    obtain ⟨x62, e63⟩ : ∃ z : Int32, z = v2 + 1 := ⟨_, rfl⟩
    have hf := bl_let_at e63 hf
    refine lv_iinc (v := x62) (lv' := [(2, .int x62), (0, .ref (bl_ad g v0)), (1, .int v1), (3, .int v3)]) X.1 X.2.1 dX9_spell_75 hl (k := 2) rfl (by rw [e63]; rfl) (by decide) rfl (fun ls hl => ?_)
    refine lv_goto (tgt := 17) X.1 X.2.1 dX9_spell_78 (by decide) ?_
    exact hk17 σ60 v0 v1 x62 hv0 hf _ _ _ V (lv_sub hl [1, 2, 0] rfl)
  · have hf := bl_ifn c57 hf
    refine lv_aload_n X.1 X.2.1 dX9_spell_46 rfl (lv_at hl 0 rfl) ?_
    refine bl_getr X V hv0 fl_X9_19 rfl dX9_spell_47 (fun h64 => ?_)
    refine lv_aload_n X.1 X.2.1 dX9_spell_50 rfl (lv_at hl 0 rfl) ?_
    refine bl_getr X V hv0 fl_X9_26 rfl dX9_spell_51 (fun h65 => ?_)
    refine lv_iload_n X.1 X.2.1 dX9_spell_54 rfl (lv_at hl 2 rfl) ?_
    refine lv_iload_n X.1 X.2.1 dX9_spell_55 rfl (lv_at hl 3 rfl) ?_
    obtain ⟨r66, σ67, h68, hf⟩ := bl_bd_at hf
    refine bl_cVi (As := [.int v2, .int v3]) X V hl.1 h65 rfl ml_X9_122 mV_X8_part (t_X8_part l g σ (bl_R σ v0 2) v2 v3 _ h65 h68) rfl rfl ⟨Nat.le_of_ble_eq_true rfl, Nat.le_of_ble_eq_true rfl⟩ rfl rfl (Nat.le_of_ble_eq_true rfl) ⟨Nat.zero_le _, Nat.zero_le _⟩ dX9_spell_56 (fun H locs V => ?_)
    obtain ⟨r69, σ70, h71, hf⟩ := bl_bd_at hf
    refine bl_cVv (As := [.int r66]) X V hl.1 h64 rfl ml_X9_348 mV_X5_putNumber (t_X5_putNumber l g σ67 (bl_R σ v0 1) r66 _ h64 h71) rfl rfl ⟨Nat.le_of_ble_eq_true rfl, Nat.le_of_ble_eq_true rfl⟩ rfl rfl (Nat.le_of_ble_eq_true rfl) ⟨Nat.zero_le _, Nat.zero_le _⟩ dX9_spell_59 (fun H locs V => ?_)
    obtain ⟨x72, e73⟩ : ∃ z : Int32, z = v3 + 1 := ⟨_, rfl⟩
    have hf := bl_let_at e73 hf
    refine lv_iinc (v := x72) (lv' := [(3, .int x72), (0, .ref (bl_ad g v0)), (1, .int v1), (2, .int v2)]) X.1 X.2.1 dX9_spell_62 hl (k := 3) rfl (by rw [e73]; rfl) (by decide) rfl (fun ls hl => ?_)
    refine lv_goto (tgt := 41) X.1 X.2.1 dX9_spell_65 (by decide) ?_
    exact hk41 σ70 v0 v1 v2 x72 hv0 hf _ _ _ V (lv_sub hl [1, 2, 3, 0] rfl)
theorem l_X9_spell_41 {p : Program} {l : Launch} {e : Env} {s : State} {m : MethodId} {below : List Frame} {meth : Method} {c : Code} {g : bl_Gp} {as : List Value} {out : Int32 × bl_St} (X : bl_Cx g p s m as.toArray meth c cX9_spell 4 RX9) (hr : meth.sig.returnType = (Option.some Jvm.ClassFile.FieldType.int)) (k17 : bl_St → Nat → Int32 → Int32 → Option (Int32 × bl_St)) (hk17 : ∀ (σ : bl_St) (v0 : Nat) (v1 : Int32) (v2 : Int32), bl_sh[v0]? = some (9, 13) → k17 σ v0 v1 v2 = some out → ∀ (H : Heap) (locs : List Loc) (ls : Array Slot), bl_V g s σ H locs → lv_has ls 4 [(0, .ref (bl_ad g v0)), (1, .int v1), (2, .int v2)] → W p l e (bl_rm 5 107) s m as.toArray below meth c H locs 0 0 (bl_Qi below g s as out) (F0 m 17 ls [])) (n : Nat) : ∀ (σ : bl_St) (v0 : Nat) (v1 : Int32) (v2 : Int32) (v3 : Int32), bl_sh[v0]? = some (9, 13) → (bl_fx (fun _ _ _ _ _ => none) (b_X9_spell_41 k17) n) σ v0 v1 v2 v3 = some out → ∀ (H : Heap) (locs : List Loc) (ls : Array Slot), bl_V g s σ H locs → lv_has ls 4 [(0, .ref (bl_ad g v0)), (1, .int v1), (2, .int v2), (3, .int v3)] → W p l e (bl_rm 5 107) s m as.toArray below meth c H locs 0 0 (bl_Qi below g s as out) (F0 m 41 ls []) := by
  induction n with
  | zero =>
    intro σ v0 v1 v2 v3 hv0 hf H locs ls V hl
    cases hf
  | succ n ih => exact w_X9_spell_41 X hr k17 hk17 _ ih
set_option maxHeartbeats 4000000 in
set_option maxRecDepth 100000 in
theorem w_X9_spell_17 {p : Program} {l : Launch} {e : Env} {s : State} {m : MethodId} {below : List Frame} {meth : Method} {c : Code} {g : bl_Gp} {as : List Value} {out : Int32 × bl_St} (X : bl_Cx g p s m as.toArray meth c cX9_spell 4 RX9) (hr : meth.sig.returnType = (Option.some Jvm.ClassFile.FieldType.int)) (k17 : bl_St → Nat → Int32 → Int32 → Option (Int32 × bl_St)) (hk17 : ∀ (σ : bl_St) (v0 : Nat) (v1 : Int32) (v2 : Int32), bl_sh[v0]? = some (9, 13) → k17 σ v0 v1 v2 = some out → ∀ (H : Heap) (locs : List Loc) (ls : Array Slot), bl_V g s σ H locs → lv_has ls 4 [(0, .ref (bl_ad g v0)), (1, .int v1), (2, .int v2)] → W p l e (bl_rm 5 107) s m as.toArray below meth c H locs 0 0 (bl_Qi below g s as out) (F0 m 17 ls [])) : ∀ (σ : bl_St) (v0 : Nat) (v1 : Int32) (v2 : Int32), bl_sh[v0]? = some (9, 13) → (b_X9_spell_17 k17) σ v0 v1 v2 = some out → ∀ (H : Heap) (locs : List Loc) (ls : Array Slot), bl_V g s σ H locs → lv_has ls 4 [(0, .ref (bl_ad g v0)), (1, .int v1), (2, .int v2)] → W p l e (bl_rm 5 107) s m as.toArray below meth c H locs 0 0 (bl_Qi below g s as out) (F0 m 17 ls []) := by
  intro σ v0 v1 v2 hv0 hf H locs ls V hl
  unfold b_X9_spell_17 at hf
  refine lv_iload_n X.1 X.2.1 dX9_spell_17 rfl (lv_at hl 2 rfl) ?_
  refine lv_aload_n X.1 X.2.1 dX9_spell_18 rfl (lv_at hl 0 rfl) ?_
  refine bl_getr X V hv0 fl_X9_26 rfl dX9_spell_19 (fun h74 => ?_)
  refine bl_geti X V h74 fl_X9_111 dX9_spell_22 ?_
  refine lv_icmp_ge (tgt := 81) X.1 X.2.1 dX9_spell_25 (by decide) (fun c75 => ?_) (fun c75 => ?_)
  · have hf := bl_ifp c75 hf
    refine lv_iconst (v := 0) X.1 X.2.1 dX9_spell_81 (by decide) ?_
    refine lv_istore_n (lv' := [(2, .int 0), (0, .ref (bl_ad g v0)), (1, .int v1)]) X.1 X.2.1 dX9_spell_82 rfl hl (by decide) rfl (fun ls hl => ?_)
    exact l_X9_spell_83 X hr  bl_fu σ v0 v1 0 hv0 hf _ _ _ V (lv_sub hl [1, 2, 0] rfl)
  · have hf := bl_ifn c75 hf
    refine lv_aload_n X.1 X.2.1 dX9_spell_28 rfl (lv_at hl 0 rfl) ?_
    refine bl_getr X V hv0 fl_X9_19 rfl dX9_spell_29 (fun h76 => ?_)
    refine lv_iconst (v := 0) X.1 X.2.1 dX9_spell_32 (by decide) ?_
    obtain ⟨r77, σ78, h79, hf⟩ := bl_bd_at hf
    refine bl_cSr (kd := 1) (As := [.int 0]) X V hl.1 ml_X9_340 mS_X9_wordOf (t_X9_wordOf l g σ 0 _  h79) rfl rfl ⟨Nat.le_of_ble_eq_true rfl, Nat.le_of_ble_eq_true rfl⟩ rfl rfl (Nat.le_of_ble_eq_true rfl) ⟨Nat.zero_le _, Nat.zero_le _⟩ dX9_spell_33 (fun H locs V => ?_)
    obtain ⟨r80, σ81, h82, hf⟩ := bl_bd_at hf
    refine bl_cVv (As := [.ref (bl_adr g 1 r77)]) X V hl.1 h76 rfl ml_X9_344 mV_X5_putWord (t_X5_putWord l g σ78 (bl_R σ v0 1) r77 _ h76 h82) rfl rfl ⟨Nat.le_of_ble_eq_true rfl, Nat.le_of_ble_eq_true rfl⟩ rfl rfl (Nat.le_of_ble_eq_true rfl) ⟨Nat.zero_le _, Nat.zero_le _⟩ dX9_spell_36 (fun H locs V => ?_)
    refine lv_iconst (v := 0) X.1 X.2.1 dX9_spell_39 (by decide) ?_
    refine lv_istore_n (lv' := [(3, .int 0), (0, .ref (bl_ad g v0)), (1, .int v1), (2, .int v2)]) X.1 X.2.1 dX9_spell_40 rfl hl (by decide) rfl (fun ls hl => ?_)
    exact l_X9_spell_41 X hr k17 hk17 bl_fu σ81 v0 v1 v2 0 hv0 hf _ _ _ V (lv_sub hl [1, 2, 3, 0] rfl)
theorem l_X9_spell_17 {p : Program} {l : Launch} {e : Env} {s : State} {m : MethodId} {below : List Frame} {meth : Method} {c : Code} {g : bl_Gp} {as : List Value} {out : Int32 × bl_St} (X : bl_Cx g p s m as.toArray meth c cX9_spell 4 RX9) (hr : meth.sig.returnType = (Option.some Jvm.ClassFile.FieldType.int)) (n : Nat) : ∀ (σ : bl_St) (v0 : Nat) (v1 : Int32) (v2 : Int32), bl_sh[v0]? = some (9, 13) → (bl_fx (fun _ _ _ _ => none) (b_X9_spell_17 ) n) σ v0 v1 v2 = some out → ∀ (H : Heap) (locs : List Loc) (ls : Array Slot), bl_V g s σ H locs → lv_has ls 4 [(0, .ref (bl_ad g v0)), (1, .int v1), (2, .int v2)] → W p l e (bl_rm 5 107) s m as.toArray below meth c H locs 0 0 (bl_Qi below g s as out) (F0 m 17 ls []) := by
  induction n with
  | zero =>
    intro σ v0 v1 v2 hv0 hf H locs ls V hl
    cases hf
  | succ n ih => exact w_X9_spell_17 X hr  _ ih
set_option maxHeartbeats 4000000 in
set_option maxRecDepth 100000 in
theorem t_X9_spell (l : Launch) (g : bl_Gp) (σ : bl_St) (a0 : Nat) (a1 : Int32) (o : Int32 × bl_St) (ha0 : bl_sh[a0]? = some (9, 13)) (hf : f_X9_spell σ a0 a1 = some o) : bl_Ci l g yX9_spell cX9_spell 4 (Option.some Jvm.ClassFile.FieldType.int) (bl_rm 5 107) [.ref (bl_ad g a0), .int a1] σ o := by
  refine bl_met (by decide) (Nat.le_of_ble_eq_true rfl) (fun p e s m below meth c ls X hr V hl => ?_)
  have hl : lv_has ls 4 [(0, .ref (bl_ad g a0)), (1, .int a1)] := hl
  unfold f_X9_spell at hf
  refine lv_iload_n X.1 X.2.1 dX9_spell_0 rfl (lv_at hl 1 rfl) ?_
  refine lv_iconst (v := (-1)) X.1 X.2.1 dX9_spell_1 (by decide) ?_
  refine lv_icmp_ge (tgt := 7) X.1 X.2.1 dX9_spell_2 (by decide) (fun c83 => ?_) (fun c83 => ?_)
  · have hf := bl_ifp c83 hf
    refine lv_aload_n X.1 X.2.1 dX9_spell_7 rfl (lv_at hl 0 rfl) ?_
    refine bl_getr X V ha0 fl_X9_19 rfl dX9_spell_8 (fun h84 => ?_)
    refine lv_iconst (v := 0) X.1 X.2.1 dX9_spell_11 (by decide) ?_
    refine bl_puti X V h84 fp_X9_339 rfl rfl dX9_spell_12 (fun σ85 H locs e86 V => ?_)
    have hf := bl_let_at e86 hf
    refine lv_iconst (v := 0) X.1 X.2.1 dX9_spell_15 (by decide) ?_
    refine lv_istore_n (lv' := [(2, .int 0), (0, .ref (bl_ad g a0)), (1, .int a1)]) X.1 X.2.1 dX9_spell_16 rfl hl (by decide) rfl (fun ls hl => ?_)
    exact l_X9_spell_17 X hr  bl_fu σ85 a0 a1 0 ha0 hf _ _ _ V (lv_sub hl [1, 2, 0] rfl)
  · have hf := bl_ifn c83 hf
    refine lv_iconst (v := (-1)) X.1 X.2.1 dX9_spell_5 (by decide) ?_
    exact bl_reti X V hr hf dX9_spell_6
set_option maxHeartbeats 4000000 in
set_option maxRecDepth 100000 in
theorem w_X9_report_156 {p : Program} {l : Launch} {e : Env} {s : State} {m : MethodId} {below : List Frame} {meth : Method} {c : Code} {g : bl_Gp} {as : List Value} {out : Int32 × bl_St} (X : bl_Cx g p s m as.toArray meth c cX9_report 6 RX9) (hr : meth.sig.returnType = (Option.some Jvm.ClassFile.FieldType.int)) (k48 : bl_St → Nat → Int32 → Int32 → Int32 → Option (Int32 × bl_St)) (hk48 : ∀ (σ : bl_St) (v0 : Nat) (v1 : Int32) (v2 : Int32) (v3 : Int32), bl_sh[v0]? = some (9, 13) → k48 σ v0 v1 v2 v3 = some out → ∀ (H : Heap) (locs : List Loc) (ls : Array Slot), bl_V g s σ H locs → lv_has ls 6 [(0, .ref (bl_ad g v0)), (1, .int v1), (2, .int v2), (3, .int v3)] → W p l e (bl_rm 5 111) s m as.toArray below meth c H locs 0 0 (bl_Qi below g s as out) (F0 m 48 ls [])) : ∀ (σ : bl_St) (v0 : Nat) (v1 : Int32) (v2 : Int32) (v3 : Int32), bl_sh[v0]? = some (9, 13) → (b_X9_report_156 k48) σ v0 v1 v2 v3 = some out → ∀ (H : Heap) (locs : List Loc) (ls : Array Slot), bl_V g s σ H locs → lv_has ls 6 [(0, .ref (bl_ad g v0)), (1, .int v1), (2, .int v2), (3, .int v3)] → W p l e (bl_rm 5 111) s m as.toArray below meth c H locs 0 0 (bl_Qi below g s as out) (F0 m 156 ls []) := by
  intro σ v0 v1 v2 v3 hv0 hf H locs ls V hl
  unfold b_X9_report_156 at hf
  refine lv_aload_n X.1 X.2.1 dX9_report_156 rfl (lv_at hl 0 rfl) ?_
  refine bl_getr X V hv0 fl_X9_19 rfl dX9_report_157 (fun h1 => ?_)
  obtain ⟨r2, σ3, h4, hf⟩ := bl_bd_at hf
  refine bl_cVv (As := []) X V hl.1 h1 rfl ml_X9_351 mV_X5_endPhrase (t_X5_endPhrase l g σ (bl_R σ v0 1) _ h1 h4) rfl rfl ⟨Nat.le_of_ble_eq_true rfl, Nat.le_of_ble_eq_true rfl⟩ rfl rfl (Nat.le_of_ble_eq_true rfl) ⟨Nat.zero_le _, Nat.zero_le _⟩ dX9_report_160 (fun H locs V => ?_)
  obtain ⟨x5, e6⟩ : ∃ z : Int32, z = v3 + 1 := ⟨_, rfl⟩
  have hf := bl_let_at e6 hf
  refine lv_iinc (v := x5) (lv' := [(3, .int x5), (0, .ref (bl_ad g v0)), (1, .int v1), (2, .int v2)]) X.1 X.2.1 dX9_report_163 hl (k := 3) rfl (by rw [e6]; rfl) (by decide) rfl (fun ls hl => ?_)
  refine lv_goto (tgt := 48) X.1 X.2.1 dX9_report_166 (by decide) ?_
  exact hk48 σ3 v0 v1 v2 x5 hv0 hf _ _ _ V (lv_sub hl [1, 2, 3, 0] rfl)
set_option maxHeartbeats 4000000 in
set_option maxRecDepth 100000 in
theorem w_X9_report_117 {p : Program} {l : Launch} {e : Env} {s : State} {m : MethodId} {below : List Frame} {meth : Method} {c : Code} {g : bl_Gp} {as : List Value} {out : Int32 × bl_St} (X : bl_Cx g p s m as.toArray meth c cX9_report 6 RX9) (hr : meth.sig.returnType = (Option.some Jvm.ClassFile.FieldType.int)) (k48 : bl_St → Nat → Int32 → Int32 → Int32 → Option (Int32 × bl_St)) (hk48 : ∀ (σ : bl_St) (v0 : Nat) (v1 : Int32) (v2 : Int32) (v3 : Int32), bl_sh[v0]? = some (9, 13) → k48 σ v0 v1 v2 v3 = some out → ∀ (H : Heap) (locs : List Loc) (ls : Array Slot), bl_V g s σ H locs → lv_has ls 6 [(0, .ref (bl_ad g v0)), (1, .int v1), (2, .int v2), (3, .int v3)] → W p l e (bl_rm 5 111) s m as.toArray below meth c H locs 0 0 (bl_Qi below g s as out) (F0 m 48 ls [])) : ∀ (σ : bl_St) (v0 : Nat) (v1 : Int32) (v2 : Int32) (v3 : Int32) (v5 : Int32), bl_sh[v0]? = some (9, 13) → (b_X9_report_117 k48) σ v0 v1 v2 v3 v5 = some out → ∀ (H : Heap) (locs : List Loc) (ls : Array Slot), bl_V g s σ H locs → lv_has ls 6 [(0, .ref (bl_ad g v0)), (1, .int v1), (2, .int v2), (3, .int v3), (5, .int v5)] → W p l e (bl_rm 5 111) s m as.toArray below meth c H locs 0 0 (bl_Qi below g s as out) (F0 m 117 ls []) := by
  intro σ v0 v1 v2 v3 v5 hv0 hf H locs ls V hl
  unfold b_X9_report_117 at hf
  refine lv_iload X.1 X.2.1 dX9_report_117 (lv_at hl 4 rfl) ?_
  refine lv_bipush (v := (-2)) X.1 X.2.1 dX9_report_119 (by decide) ?_
  refine lv_icmp_ne (tgt := 137) X.1 X.2.1 dX9_report_121 (by decide) (fun c7 => ?_) (fun c7 => ?_)
  · have hf := bl_ifn c7 hf
    refine lv_aload_n X.1 X.2.1 dX9_report_137 rfl (lv_at hl 0 rfl) ?_
    refine bl_getr X V hv0 fl_X9_19 rfl dX9_report_138 (fun h8 => ?_)
    refine bl_ldcs X (j := 7) rfl dX9_report_141 ?_
    obtain ⟨r9, σ10, h11, hf⟩ := bl_bd_at hf
    refine bl_cVv (As := [.ref (bl_adr g 1 7)]) X V hl.1 h8 rfl ml_X9_344 mV_X5_putWord (t_X5_putWord l g σ (bl_R σ v0 1) 7 _ h8 h11) rfl rfl ⟨Nat.le_of_ble_eq_true rfl, Nat.le_of_ble_eq_true rfl⟩ rfl rfl (Nat.le_of_ble_eq_true rfl) ⟨Nat.zero_le _, Nat.zero_le _⟩ dX9_report_144 (fun H locs V => ?_)
    refine lv_aload_n X.1 X.2.1 dX9_report_147 rfl (lv_at hl 0 rfl) ?_
    refine bl_getr X V hv0 fl_X9_19 rfl dX9_report_148 (fun h12 => ?_)
    refine lv_iload X.1 X.2.1 dX9_report_151 (lv_at hl 4 rfl) ?_
    obtain ⟨r13, σ14, h15, hf⟩ := bl_bd_at hf
    refine bl_cVv (As := [.int v5]) X V hl.1 h12 rfl ml_X9_348 mV_X5_putNumber (t_X5_putNumber l g σ10 (bl_R σ10 v0 1) v5 _ h12 h15) rfl rfl ⟨Nat.le_of_ble_eq_true rfl, Nat.le_of_ble_eq_true rfl⟩ rfl rfl (Nat.le_of_ble_eq_true rfl) ⟨Nat.zero_le _, Nat.zero_le _⟩ dX9_report_153 (fun H locs V => ?_)
    exact w_X9_report_156 X hr k48 hk48 σ14 v0 v1 v2 v3 hv0 hf _ _ _ V (lv_sub hl [0, 1, 2, 3] rfl)
  · have hf := bl_ifp c7 hf
    refine lv_aload_n X.1 X.2.1 dX9_report_124 rfl (lv_at hl 0 rfl) ?_
    refine bl_getr X V hv0 fl_X9_19 rfl dX9_report_125 (fun h16 => ?_)
    refine bl_ldcs X (j := 6) rfl dX9_report_128 ?_
    obtain ⟨r17, σ18, h19, hf⟩ := bl_bd_at hf
    refine bl_cVv (As := [.ref (bl_adr g 1 6)]) X V hl.1 h16 rfl ml_X9_344 mV_X5_putWord (t_X5_putWord l g σ (bl_R σ v0 1) 6 _ h16 h19) rfl rfl ⟨Nat.le_of_ble_eq_true rfl, Nat.le_of_ble_eq_true rfl⟩ rfl rfl (Nat.le_of_ble_eq_true rfl) ⟨Nat.zero_le _, Nat.zero_le _⟩ dX9_report_131 (fun H locs V => ?_)
    refine lv_goto (tgt := 156) X.1 X.2.1 dX9_report_134 (by decide) ?_
    exact w_X9_report_156 X hr k48 hk48 σ18 v0 v1 v2 v3 hv0 hf _ _ _ V (lv_sub hl [0, 1, 2, 3] rfl)
set_option maxHeartbeats 4000000 in
set_option maxRecDepth 100000 in
theorem w_X9_report_48 {p : Program} {l : Launch} {e : Env} {s : State} {m : MethodId} {below : List Frame} {meth : Method} {c : Code} {g : bl_Gp} {as : List Value} {out : Int32 × bl_St} (X : bl_Cx g p s m as.toArray meth c cX9_report 6 RX9) (hr : meth.sig.returnType = (Option.some Jvm.ClassFile.FieldType.int)) (k48 : bl_St → Nat → Int32 → Int32 → Int32 → Option (Int32 × bl_St)) (hk48 : ∀ (σ : bl_St) (v0 : Nat) (v1 : Int32) (v2 : Int32) (v3 : Int32), bl_sh[v0]? = some (9, 13) → k48 σ v0 v1 v2 v3 = some out → ∀ (H : Heap) (locs : List Loc) (ls : Array Slot), bl_V g s σ H locs → lv_has ls 6 [(0, .ref (bl_ad g v0)), (1, .int v1), (2, .int v2), (3, .int v3)] → W p l e (bl_rm 5 111) s m as.toArray below meth c H locs 0 0 (bl_Qi below g s as out) (F0 m 48 ls [])) : ∀ (σ : bl_St) (v0 : Nat) (v1 : Int32) (v2 : Int32) (v3 : Int32), bl_sh[v0]? = some (9, 13) → (b_X9_report_48 k48) σ v0 v1 v2 v3 = some out → ∀ (H : Heap) (locs : List Loc) (ls : Array Slot), bl_V g s σ H locs → lv_has ls 6 [(0, .ref (bl_ad g v0)), (1, .int v1), (2, .int v2), (3, .int v3)] → W p l e (bl_rm 5 111) s m as.toArray below meth c H locs 0 0 (bl_Qi below g s as out) (F0 m 48 ls []) := by
  intro σ v0 v1 v2 v3 hv0 hf H locs ls V hl
  unfold b_X9_report_48 at hf
  refine lv_iload_n X.1 X.2.1 dX9_report_48 rfl (lv_at hl 3 rfl) ?_
  refine lv_aload_n X.1 X.2.1 dX9_report_49 rfl (lv_at hl 0 rfl) ?_
  refine bl_getr X V hv0 fl_X9_26 rfl dX9_report_50 (fun h20 => ?_)
  refine bl_geti X V h20 fl_X9_111 dX9_report_53 ?_
  refine lv_icmp_ge (tgt := 169) X.1 X.2.1 dX9_report_56 (by decide) (fun c21 => ?_) (fun c21 => ?_)
  · have hf := bl_ifp c21 hf
    refine lv_aload_n X.1 X.2.1 dX9_report_169 rfl (lv_at hl 0 rfl) ?_
    refine bl_getr X V hv0 fl_X9_19 rfl dX9_report_170 (fun h22 => ?_)
    refine lv_iload_n X.1 X.2.1 dX9_report_173 rfl (lv_at hl 2 rfl) ?_
    obtain ⟨r23, σ24, h25, hf⟩ := bl_bd_at hf
    refine bl_cVi (As := [.int v2]) X V hl.1 h22 rfl ml_X9_354 mV_X5_signAt (t_X5_signAt l g σ (bl_R σ v0 1) v2 _ h22 h25) rfl rfl ⟨Nat.le_of_ble_eq_true rfl, Nat.le_of_ble_eq_true rfl⟩ rfl rfl (Nat.le_of_ble_eq_true rfl) ⟨Nat.zero_le _, Nat.zero_le _⟩ dX9_report_174 (fun H locs V => ?_)
    exact bl_reti X V hr hf dX9_report_177
  · have hf := bl_ifn c21 hf
    refine lv_aload_n X.1 X.2.1 dX9_report_59 rfl (lv_at hl 0 rfl) ?_
    refine bl_getr X V hv0 fl_X9_55 rfl dX9_report_60 (fun h26 => ?_)
    refine lv_iload_n X.1 X.2.1 dX9_report_63 rfl (lv_at hl 1 rfl) ?_
    refine lv_iload_n X.1 X.2.1 dX9_report_64 rfl (lv_at hl 3 rfl) ?_
    obtain ⟨r27, σ28, h29, hf⟩ := bl_bd_at hf
    refine bl_cVi (As := [.int v1, .int v3]) X V hl.1 h26 rfl ml_X9_263 mV_X4_buys (t_X4_buys l g σ (bl_R σ v0 7) v1 v3 _ h26 h29) rfl rfl ⟨Nat.le_of_ble_eq_true rfl, Nat.le_of_ble_eq_true rfl⟩ rfl rfl (Nat.le_of_ble_eq_true rfl) ⟨Nat.zero_le _, Nat.zero_le _⟩ dX9_report_65 (fun H locs V => ?_)
    refine lv_istore (lv' := [(4, .int r27), (0, .ref (bl_ad g v0)), (1, .int v1), (2, .int v2), (3, .int v3)]) X.1 X.2.1 dX9_report_68 hl (by decide) rfl (fun ls hl => ?_)
    refine lv_aload_n X.1 X.2.1 dX9_report_70 rfl (lv_at hl 1 rfl) ?_
    refine bl_getr X V hv0 fl_X9_55 rfl dX9_report_71 (fun h30 => ?_)
    refine lv_iconst (v := 0) X.1 X.2.1 dX9_report_74 (by decide) ?_
    refine lv_iconst (v := 0) X.1 X.2.1 dX9_report_75 (by decide) ?_
    refine lv_iload X.1 X.2.1 dX9_report_76 (lv_at hl 0 rfl) ?_
    obtain ⟨r31, σ32, h33, hf⟩ := bl_bd_at hf
    refine bl_cVi (As := [.int 0, .int 0, .int r27]) X V hl.1 h30 rfl ml_X9_281 mV_X4_leastTold (t_X4_leastTold l g σ28 (bl_R σ28 v0 7) 0 0 r27 _ h30 h33) rfl rfl ⟨Nat.le_of_ble_eq_true rfl, Nat.le_of_ble_eq_true rfl⟩ rfl rfl (Nat.le_of_ble_eq_true rfl) ⟨Nat.zero_le _, Nat.zero_le _⟩ dX9_report_78 (fun H locs V => ?_)
    refine lv_istore (lv' := [(5, .int r31), (4, .int r27), (0, .ref (bl_ad g v0)), (1, .int v1), (2, .int v2), (3, .int v3)]) X.1 X.2.1 dX9_report_81 hl (by decide) rfl (fun ls hl => ?_)
    refine lv_aload_n X.1 X.2.1 dX9_report_83 rfl (lv_at hl 2 rfl) ?_
    refine bl_getr X V hv0 fl_X9_19 rfl dX9_report_84 (fun h34 => ?_)
    refine lv_iconst (v := 0) X.1 X.2.1 dX9_report_87 (by decide) ?_
    obtain ⟨r35, σ36, h37, hf⟩ := bl_bd_at hf
    refine bl_cSr (kd := 1) (As := [.int 0]) X V hl.1 ml_X9_340 mS_X9_wordOf (t_X9_wordOf l g σ32 0 _  h37) rfl rfl ⟨Nat.le_of_ble_eq_true rfl, Nat.le_of_ble_eq_true rfl⟩ rfl rfl (Nat.le_of_ble_eq_true rfl) ⟨Nat.zero_le _, Nat.zero_le _⟩ dX9_report_88 (fun H locs V => ?_)
    obtain ⟨r38, σ39, h40, hf⟩ := bl_bd_at hf
    refine bl_cVv (As := [.ref (bl_adr g 1 r35)]) X V hl.1 h34 rfl ml_X9_344 mV_X5_putWord (t_X5_putWord l g σ36 (bl_R σ32 v0 1) r35 _ h34 h40) rfl rfl ⟨Nat.le_of_ble_eq_true rfl, Nat.le_of_ble_eq_true rfl⟩ rfl rfl (Nat.le_of_ble_eq_true rfl) ⟨Nat.zero_le _, Nat.zero_le _⟩ dX9_report_91 (fun H locs V => ?_)
    refine lv_aload_n X.1 X.2.1 dX9_report_94 rfl (lv_at hl 2 rfl) ?_
    refine bl_getr X V hv0 fl_X9_19 rfl dX9_report_95 (fun h41 => ?_)
    refine lv_iload_n X.1 X.2.1 dX9_report_98 rfl (lv_at hl 5 rfl) ?_
    obtain ⟨r42, σ43, h44, hf⟩ := bl_bd_at hf
    refine bl_cVv (As := [.int v3]) X V hl.1 h41 rfl ml_X9_348 mV_X5_putNumber (t_X5_putNumber l g σ39 (bl_R σ39 v0 1) v3 _ h41 h44) rfl rfl ⟨Nat.le_of_ble_eq_true rfl, Nat.le_of_ble_eq_true rfl⟩ rfl rfl (Nat.le_of_ble_eq_true rfl) ⟨Nat.zero_le _, Nat.zero_le _⟩ dX9_report_99 (fun H locs V => ?_)
    refine lv_iload X.1 X.2.1 dX9_report_102 (lv_at hl 1 rfl) ?_
    refine lv_if_eq (tgt := 117) X.1 X.2.1 dX9_report_104 (by decide) (fun c45 => ?_) (fun c45 => ?_)
    · have hf := bl_ifp c45 hf
      exact w_X9_report_117 X hr k48 hk48 σ43 v0 v1 v2 v3 r31 hv0 hf _ _ _ V (lv_sub hl [2, 3, 4, 5, 0] rfl)
    · have hf := bl_ifn c45 hf
      refine lv_aload_n X.1 X.2.1 dX9_report_107 rfl (lv_at hl 2 rfl) ?_
      refine bl_getr X V hv0 fl_X9_19 rfl dX9_report_108 (fun h46 => ?_)
      refine bl_ldcs X (j := 5) rfl dX9_report_111 ?_
      obtain ⟨r47, σ48, h49, hf⟩ := bl_bd_at hf
      refine bl_cVv (As := [.ref (bl_adr g 1 5)]) X V hl.1 h46 rfl ml_X9_344 mV_X5_putWord (t_X5_putWord l g σ43 (bl_R σ43 v0 1) 5 _ h46 h49) rfl rfl ⟨Nat.le_of_ble_eq_true rfl, Nat.le_of_ble_eq_true rfl⟩ rfl rfl (Nat.le_of_ble_eq_true rfl) ⟨Nat.zero_le _, Nat.zero_le _⟩ dX9_report_114 (fun H locs V => ?_)
      exact w_X9_report_117 X hr k48 hk48 σ48 v0 v1 v2 v3 r31 hv0 hf _ _ _ V (lv_sub hl [2, 3, 4, 5, 0] rfl)
theorem l_X9_report_48 {p : Program} {l : Launch} {e : Env} {s : State} {m : MethodId} {below : List Frame} {meth : Method} {c : Code} {g : bl_Gp} {as : List Value} {out : Int32 × bl_St} (X : bl_Cx g p s m as.toArray meth c cX9_report 6 RX9) (hr : meth.sig.returnType = (Option.some Jvm.ClassFile.FieldType.int)) (n : Nat) : ∀ (σ : bl_St) (v0 : Nat) (v1 : Int32) (v2 : Int32) (v3 : Int32), bl_sh[v0]? = some (9, 13) → (bl_fx (fun _ _ _ _ _ => none) (b_X9_report_48 ) n) σ v0 v1 v2 v3 = some out → ∀ (H : Heap) (locs : List Loc) (ls : Array Slot), bl_V g s σ H locs → lv_has ls 6 [(0, .ref (bl_ad g v0)), (1, .int v1), (2, .int v2), (3, .int v3)] → W p l e (bl_rm 5 111) s m as.toArray below meth c H locs 0 0 (bl_Qi below g s as out) (F0 m 48 ls []) := by
  induction n with
  | zero =>
    intro σ v0 v1 v2 v3 hv0 hf H locs ls V hl
    cases hf
  | succ n ih => exact w_X9_report_48 X hr  _ ih
set_option maxHeartbeats 4000000 in
set_option maxRecDepth 100000 in
theorem t_X9_report (l : Launch) (g : bl_Gp) (σ : bl_St) (a0 : Nat) (a1 : Int32) (a2 : Int32) (o : Int32 × bl_St) (ha0 : bl_sh[a0]? = some (9, 13)) (hf : f_X9_report σ a0 a1 a2 = some o) : bl_Ci l g yX9_report cX9_report 6 (Option.some Jvm.ClassFile.FieldType.int) (bl_rm 5 111) [.ref (bl_ad g a0), .int a1, .int a2] σ o := by
  refine bl_met (by decide) (Nat.le_of_ble_eq_true rfl) (fun p e s m below meth c ls X hr V hl => ?_)
  have hl : lv_has ls 6 [(0, .ref (bl_ad g a0)), (1, .int a1), (2, .int a2)] := hl
  unfold f_X9_report at hf
  refine lv_iload_n X.1 X.2.1 dX9_report_0 rfl (lv_at hl 1 rfl) ?_
  refine lv_iconst (v := 1) X.1 X.2.1 dX9_report_1 (by decide) ?_
  refine lv_icmp_lt (tgt := 26) X.1 X.2.1 dX9_report_2 (by decide) (fun c50 => ?_) (fun c50 => ?_)
  · have hf := bl_ifp c50 hf
    refine lv_iconst (v := (-1)) X.1 X.2.1 dX9_report_26 (by decide) ?_
    exact bl_reti X V hr hf dX9_report_27
  · have hf := bl_ifn c50 hf
    refine lv_iload_n X.1 X.2.1 dX9_report_5 rfl (lv_at hl 1 rfl) ?_
    refine lv_bipush (v := 20) X.1 X.2.1 dX9_report_6 (by decide) ?_
    refine lv_icmp_gt (tgt := 26) X.1 X.2.1 dX9_report_8 (by decide) (fun c51 => ?_) (fun c51 => ?_)
    · have hf := bl_ifp c51 hf
      refine lv_iconst (v := (-1)) X.1 X.2.1 dX9_report_26 (by decide) ?_
      exact bl_reti X V hr hf dX9_report_27
    · have hf := bl_ifn c51 hf
      refine lv_iload_n X.1 X.2.1 dX9_report_11 rfl (lv_at hl 2 rfl) ?_
      refine lv_iconst (v := (-1)) X.1 X.2.1 dX9_report_12 (by decide) ?_
      refine lv_icmp_lt (tgt := 26) X.1 X.2.1 dX9_report_13 (by decide) (fun c52 => ?_) (fun c52 => ?_)
      · have hf := bl_ifp c52 hf
        refine lv_iconst (v := (-1)) X.1 X.2.1 dX9_report_26 (by decide) ?_
        exact bl_reti X V hr hf dX9_report_27
      · have hf := bl_ifn c52 hf
        refine lv_aload_n X.1 X.2.1 dX9_report_16 rfl (lv_at hl 0 rfl) ?_
        refine bl_getr X V ha0 fl_X9_26 rfl dX9_report_17 (fun h53 => ?_)
        refine bl_geti X V h53 fl_X9_111 dX9_report_20 ?_
        refine lv_if_ne (tgt := 28) X.1 X.2.1 dX9_report_23 (by decide) (fun c54 => ?_) (fun c54 => ?_)
        · have hf := bl_ifn c54 hf
          refine lv_aload_n X.1 X.2.1 dX9_report_28 rfl (lv_at hl 0 rfl) ?_
          refine bl_getr X V ha0 fl_X9_19 rfl dX9_report_29 (fun h55 => ?_)
          refine lv_iconst (v := 0) X.1 X.2.1 dX9_report_32 (by decide) ?_
          refine bl_puti X V h55 fp_X9_339 rfl rfl dX9_report_33 (fun σ56 H locs e57 V => ?_)
          have hf := bl_let_at e57 hf
          refine lv_aload_n X.1 X.2.1 dX9_report_36 rfl (lv_at hl 0 rfl) ?_
          refine bl_getr X V ha0 fl_X9_55 rfl dX9_report_37 (fun h58 => ?_)
          refine lv_iload_n X.1 X.2.1 dX9_report_40 rfl (lv_at hl 1 rfl) ?_
          refine lv_iconst (v := 1) X.1 X.2.1 dX9_report_41 (by decide) ?_
          refine lv_isub X.1 X.2.1 dX9_report_42 ?_
          obtain ⟨r59, σ60, h61, hf⟩ := bl_bd_at hf
          refine bl_cVv (As := [.int (a1 - 1)]) X V hl.1 h58 rfl ml_X9_260 mV_X4_learn (t_X4_learn l g σ56 (bl_R σ56 a0 7) (a1 - 1) _ h58 h61) rfl rfl ⟨Nat.le_of_ble_eq_true rfl, Nat.le_of_ble_eq_true rfl⟩ rfl rfl (Nat.le_of_ble_eq_true rfl) ⟨Nat.zero_le _, Nat.zero_le _⟩ dX9_report_43 (fun H locs V => ?_)
          refine lv_iconst (v := 0) X.1 X.2.1 dX9_report_46 (by decide) ?_
          refine lv_istore_n (lv' := [(3, .int 0), (0, .ref (bl_ad g a0)), (1, .int a1), (2, .int a2)]) X.1 X.2.1 dX9_report_47 rfl hl (by decide) rfl (fun ls hl => ?_)
          exact l_X9_report_48 X hr  bl_fu σ60 a0 a1 a2 0 ha0 hf _ _ _ V (lv_sub hl [1, 2, 3, 0] rfl)
        · have hf := bl_ifp c54 hf
          refine lv_iconst (v := (-1)) X.1 X.2.1 dX9_report_26 (by decide) ?_
          exact bl_reti X V hr hf dX9_report_27
set_option maxHeartbeats 4000000 in
set_option maxRecDepth 100000 in
theorem t_X9_count (l : Launch) (g : bl_Gp) (σ : bl_St) (a0 : Nat) (a1 : Int32) (o : Int32 × bl_St) (ha0 : bl_sh[a0]? = some (9, 13)) (hf : f_X9_count σ a0 a1 = some o) : bl_Ci l g yX9_count cX9_count 2 (Option.some Jvm.ClassFile.FieldType.int) (bl_rm 2 44) [.ref (bl_ad g a0), .int a1] σ o := by
  refine bl_met (by decide) (Nat.le_of_ble_eq_true rfl) (fun p e s m below meth c ls X hr V hl => ?_)
  have hl : lv_has ls 2 [(0, .ref (bl_ad g a0)), (1, .int a1)] := hl
  unfold f_X9_count at hf
  refine lv_iload_n X.1 X.2.1 dX9_count_0 rfl (lv_at hl 1 rfl) ?_
  by_cases c1 : a1 = 0
  · have hf := bl_ifp c1 hf
    refine bl_swI (v := 0) (tgt := 56) X dX9_count_1 (by rw [c1]; decide) (by decide) rfl (by decide) ?_
    refine lv_aload_n X.1 X.2.1 dX9_count_56 rfl (lv_at hl 0 rfl) ?_
    refine bl_getr X V ha0 fl_X9_26 rfl dX9_count_57 (fun h2 => ?_)
    refine bl_geti X V h2 fl_X9_111 dX9_count_60 ?_
    exact bl_reti X V hr hf dX9_count_63
  have hf := bl_ifn c1 hf
  by_cases c3 : a1 = 1
  · have hf := bl_ifp c3 hf
    refine bl_swI (v := 1) (tgt := 64) X dX9_count_1 (by rw [c3]; decide) (by decide) rfl (by decide) ?_
    refine lv_aload_n X.1 X.2.1 dX9_count_64 rfl (lv_at hl 0 rfl) ?_
    refine bl_getr X V ha0 fl_X9_26 rfl dX9_count_65 (fun h4 => ?_)
    refine bl_geti X V h4 fl_X9_177 dX9_count_68 ?_
    exact bl_reti X V hr hf dX9_count_71
  have hf := bl_ifn c3 hf
  by_cases c5 : a1 = 2
  · have hf := bl_ifp c5 hf
    refine bl_swI (v := 2) (tgt := 72) X dX9_count_1 (by rw [c5]; decide) (by decide) rfl (by decide) ?_
    refine lv_aload_n X.1 X.2.1 dX9_count_72 rfl (lv_at hl 0 rfl) ?_
    refine bl_getr X V ha0 fl_X9_26 rfl dX9_count_73 (fun h6 => ?_)
    obtain ⟨r7, σ8, h9, hf⟩ := bl_bd_at hf
    refine bl_cVi (As := []) X V hl.1 h6 rfl ml_X9_278 mV_X8_chances (t_X8_chances l g σ (bl_R σ a0 2) _ h6 h9) rfl rfl ⟨Nat.le_of_ble_eq_true rfl, Nat.le_of_ble_eq_true rfl⟩ rfl rfl (Nat.le_of_ble_eq_true rfl) ⟨Nat.zero_le _, Nat.zero_le _⟩ dX9_count_76 (fun H locs V => ?_)
    exact bl_reti X V hr hf dX9_count_79
  have hf := bl_ifn c5 hf
  by_cases c10 : a1 = 3
  · have hf := bl_ifp c10 hf
    refine bl_swI (v := 3) (tgt := 80) X dX9_count_1 (by rw [c10]; decide) (by decide) rfl (by decide) ?_
    refine lv_aload_n X.1 X.2.1 dX9_count_80 rfl (lv_at hl 0 rfl) ?_
    refine bl_getr X V ha0 fl_X9_26 rfl dX9_count_81 (fun h11 => ?_)
    obtain ⟨r12, σ13, h14, hf⟩ := bl_bd_at hf
    refine bl_cVi (As := []) X V hl.1 h11 rfl ml_X9_200 mV_X8_odds (t_X8_odds l g σ (bl_R σ a0 2) _ h11 h14) rfl rfl ⟨Nat.le_of_ble_eq_true rfl, Nat.le_of_ble_eq_true rfl⟩ rfl rfl (Nat.le_of_ble_eq_true rfl) ⟨Nat.zero_le _, Nat.zero_le _⟩ dX9_count_84 (fun H locs V => ?_)
    exact bl_reti X V hr hf dX9_count_87
  have hf := bl_ifn c10 hf
  by_cases c15 : a1 = 4
  · have hf := bl_ifp c15 hf
    refine bl_swI (v := 4) (tgt := 88) X dX9_count_1 (by rw [c15]; decide) (by decide) rfl (by decide) ?_
    refine lv_aload_n X.1 X.2.1 dX9_count_88 rfl (lv_at hl 0 rfl) ?_
    refine bl_getr X V ha0 fl_X9_26 rfl dX9_count_89 (fun h16 => ?_)
    obtain ⟨r17, σ18, h19, hf⟩ := bl_bd_at hf
    refine bl_cVi (As := []) X V hl.1 h16 rfl ml_X9_363 mV_X8_own (t_X8_own l g σ (bl_R σ a0 2) _ h16 h19) rfl rfl ⟨Nat.le_of_ble_eq_true rfl, Nat.le_of_ble_eq_true rfl⟩ rfl rfl (Nat.le_of_ble_eq_true rfl) ⟨Nat.zero_le _, Nat.zero_le _⟩ dX9_count_92 (fun H locs V => ?_)
    exact bl_reti X V hr hf dX9_count_95
  have hf := bl_ifn c15 hf
  by_cases c20 : a1 = 5
  · have hf := bl_ifp c20 hf
    refine bl_swI (v := 5) (tgt := 96) X dX9_count_1 (by rw [c20]; decide) (by decide) rfl (by decide) ?_
    refine lv_aload_n X.1 X.2.1 dX9_count_96 rfl (lv_at hl 0 rfl) ?_
    refine bl_getr X V ha0 fl_X9_46 rfl dX9_count_97 (fun h21 => ?_)
    refine bl_geti X V h21 fl_X9_197 dX9_count_100 ?_
    exact bl_reti X V hr hf dX9_count_103
  have hf := bl_ifn c20 hf
  by_cases c22 : a1 = 6
  · have hf := bl_ifp c22 hf
    refine bl_swI (v := 6) (tgt := 104) X dX9_count_1 (by rw [c22]; decide) (by decide) rfl (by decide) ?_
    refine lv_aload_n X.1 X.2.1 dX9_count_104 rfl (lv_at hl 0 rfl) ?_
    refine bl_getr X V ha0 fl_X9_10 rfl dX9_count_105 (fun h23 => ?_)
    refine bl_geti X V h23 fl_X9_83 dX9_count_108 ?_
    exact bl_reti X V hr hf dX9_count_111
  have hf := bl_ifn c22 hf
  by_cases c24 : a1 = 7
  · have hf := bl_ifp c24 hf
    refine bl_swI (v := 7) (tgt := 112) X dX9_count_1 (by rw [c24]; decide) (by decide) rfl (by decide) ?_
    refine lv_aload_n X.1 X.2.1 dX9_count_112 rfl (lv_at hl 0 rfl) ?_
    refine bl_getr X V ha0 fl_X9_26 rfl dX9_count_113 (fun h25 => ?_)
    obtain ⟨r26, σ27, h28, hf⟩ := bl_bd_at hf
    refine bl_cVi (As := []) X V hl.1 h25 rfl ml_X9_366 mV_X8_allWeights (t_X8_allWeights l g σ (bl_R σ a0 2) _ h25 h28) rfl rfl ⟨Nat.le_of_ble_eq_true rfl, Nat.le_of_ble_eq_true rfl⟩ rfl rfl (Nat.le_of_ble_eq_true rfl) ⟨Nat.zero_le _, Nat.zero_le _⟩ dX9_count_116 (fun H locs V => ?_)
    exact bl_reti X V hr hf dX9_count_119
  have hf := bl_ifn c24 hf
  by_cases c29 : a1 = 8
  · have hf := bl_ifp c29 hf
    refine bl_swI (v := 8) (tgt := 120) X dX9_count_1 (by rw [c29]; decide) (by decide) rfl (by decide) ?_
    refine lv_bipush (v := 16) X.1 X.2.1 dX9_count_120 (by decide) ?_
    refine lv_aload_n X.1 X.2.1 dX9_count_122 rfl (lv_at hl 0 rfl) ?_
    refine bl_getr X V ha0 fl_X9_36 rfl dX9_count_123 (fun h30 => ?_)
    refine bl_geti X V h30 fl_X9_224 dX9_count_126 ?_
    refine lv_aload_n X.1 X.2.1 dX9_count_129 rfl (lv_at hl 0 rfl) ?_
    refine bl_getr X V ha0 fl_X9_36 rfl dX9_count_130 (fun h31 => ?_)
    refine bl_geti X V h31 fl_X9_227 dX9_count_133 ?_
    refine lv_iadd X.1 X.2.1 dX9_count_136 ?_
    refine bl_mini X hl.1 mm_X9_243 ⟨Nat.le_of_ble_eq_true rfl, Nat.le_of_ble_eq_true rfl⟩ ⟨Nat.zero_le _, Nat.zero_le _⟩ dX9_count_137 ?_
    exact bl_reti X V hr hf dX9_count_140
  have hf := bl_ifn c29 hf
  by_cases c32 : a1 = 9
  · have hf := bl_ifp c32 hf
    refine bl_swI (v := 9) (tgt := 141) X dX9_count_1 (by rw [c32]; decide) (by decide) rfl (by decide) ?_
    refine lv_bipush (v := 16) X.1 X.2.1 dX9_count_141 (by decide) ?_
    refine lv_aload_n X.1 X.2.1 dX9_count_143 rfl (lv_at hl 0 rfl) ?_
    refine bl_getr X V ha0 fl_X9_36 rfl dX9_count_144 (fun h33 => ?_)
    refine bl_geti X V h33 fl_X9_190 dX9_count_147 ?_
    refine bl_mini X hl.1 mm_X9_243 ⟨Nat.le_of_ble_eq_true rfl, Nat.le_of_ble_eq_true rfl⟩ ⟨Nat.zero_le _, Nat.zero_le _⟩ dX9_count_150 ?_
    exact bl_reti X V hr hf dX9_count_153
  have hf := bl_ifn c32 hf
  have c1 := lv_neT (a := 0) c1 (by decide)
  have c3 := lv_neT (a := 1) c3 (by decide)
  have c5 := lv_neT (a := 2) c5 (by decide)
  have c10 := lv_neT (a := 3) c10 (by decide)
  have c15 := lv_neT (a := 4) c15 (by decide)
  have c20 := lv_neT (a := 5) c20 (by decide)
  have c22 := lv_neT (a := 6) c22 (by decide)
  have c24 := lv_neT (a := 7) c24 (by decide)
  have c29 := lv_neT (a := 8) c29 (by decide)
  have c32 := lv_neT (a := 9) c32 (by decide)
  refine bl_swO (tgt := 154) X dX9_count_1 (by omega) (by decide) ?_
  refine lv_iconst (v := (-1)) X.1 X.2.1 dX9_count_154 (by decide) ?_
  exact bl_reti X V hr hf dX9_count_155
