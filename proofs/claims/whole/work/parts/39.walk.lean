set_option maxHeartbeats 4000000 in
set_option maxRecDepth 100000 in
theorem w_X10_wordFrom_20 {p : Program} {l : Launch} {e : Env} {s : State} {m : MethodId} {below : List Frame} {meth : Method} {c : Code} {g : bl_Gp} {as : List Value} {out : Int32 × bl_St} (X : bl_Cx g p s m as.toArray meth c cX10_wordFrom 4 RX10) (hr : meth.sig.returnType = (Option.some Jvm.ClassFile.FieldType.int)) (k4 : bl_St → Nat → Int32 → Int32 → Option (Int32 × bl_St)) (hk4 : ∀ (σ : bl_St) (v0 : Nat) (v2 : Int32) (v3 : Int32), bl_sh[v0]? = some (10, 28) → k4 σ v0 v2 v3 = some out → ∀ (H : Heap) (locs : List Loc) (ls : Array Slot), bl_V g s σ H locs → lv_has ls 4 [(0, .ref (bl_ad g v0)), (2, .int v2), (3, .int v3)] → W p l e (bl_rm 0 0) s m as.toArray below meth c H locs 0 0 (bl_Qi below g s as out) (F0 m 4 ls [])) : ∀ (σ : bl_St) (v0 : Nat) (v2 : Int32) (v3 : Int32), bl_sh[v0]? = some (10, 28) → (b_X10_wordFrom_20 k4) σ v0 v2 v3 = some out → ∀ (H : Heap) (locs : List Loc) (ls : Array Slot), bl_V g s σ H locs → lv_has ls 4 [(0, .ref (bl_ad g v0)), (2, .int v2), (3, .int v3)] → W p l e (bl_rm 0 0) s m as.toArray below meth c H locs 0 0 (bl_Qi below g s as out) (F0 m 20 ls []) := by
  intro σ v0 v2 v3 hv0 hf H locs ls V hl
  unfold b_X10_wordFrom_20 at hf
  obtain ⟨x1, e2⟩ : ∃ z : Int32, z = v2 + 1 := ⟨_, rfl⟩
  have hf := bl_let_at e2 hf
  refine lv_iinc (v := x1) (lv' := [(2, .int x1), (0, .ref (bl_ad g v0)), (3, .int v3)]) X.1 X.2.1 dX10_wordFrom_20 hl (k := 1) rfl (by rw [e2]; rfl) (by decide) rfl (fun ls hl => ?_)
  refine lv_goto (tgt := 4) X.1 X.2.1 dX10_wordFrom_23 (by decide) ?_
  exact hk4 σ v0 x1 v3 hv0 hf _ _ _ V (lv_sub hl [1, 0, 2] rfl)
set_option maxHeartbeats 4000000 in
set_option maxRecDepth 100000 in
theorem w_X10_wordFrom_4 {p : Program} {l : Launch} {e : Env} {s : State} {m : MethodId} {below : List Frame} {meth : Method} {c : Code} {g : bl_Gp} {as : List Value} {out : Int32 × bl_St} (X : bl_Cx g p s m as.toArray meth c cX10_wordFrom 4 RX10) (hr : meth.sig.returnType = (Option.some Jvm.ClassFile.FieldType.int)) (k4 : bl_St → Nat → Int32 → Int32 → Option (Int32 × bl_St)) (hk4 : ∀ (σ : bl_St) (v0 : Nat) (v2 : Int32) (v3 : Int32), bl_sh[v0]? = some (10, 28) → k4 σ v0 v2 v3 = some out → ∀ (H : Heap) (locs : List Loc) (ls : Array Slot), bl_V g s σ H locs → lv_has ls 4 [(0, .ref (bl_ad g v0)), (2, .int v2), (3, .int v3)] → W p l e (bl_rm 0 0) s m as.toArray below meth c H locs 0 0 (bl_Qi below g s as out) (F0 m 4 ls [])) : ∀ (σ : bl_St) (v0 : Nat) (v2 : Int32) (v3 : Int32), bl_sh[v0]? = some (10, 28) → (b_X10_wordFrom_4 k4) σ v0 v2 v3 = some out → ∀ (H : Heap) (locs : List Loc) (ls : Array Slot), bl_V g s σ H locs → lv_has ls 4 [(0, .ref (bl_ad g v0)), (2, .int v2), (3, .int v3)] → W p l e (bl_rm 0 0) s m as.toArray below meth c H locs 0 0 (bl_Qi below g s as out) (F0 m 4 ls []) := by
  intro σ v0 v2 v3 hv0 hf H locs ls V hl
  unfold b_X10_wordFrom_4 at hf
  refine lv_iload_n X.1 X.2.1 dX10_wordFrom_4 rfl (lv_at hl 2 rfl) ?_
  refine lv_if_le (tgt := 26) X.1 X.2.1 dX10_wordFrom_5 (by decide) (fun c3 => ?_) (fun c3 => ?_)
  · have hf := bl_ifp c3 hf
    refine lv_iload_n X.1 X.2.1 dX10_wordFrom_26 rfl (lv_at hl 1 rfl) ?_
    exact bl_reti X V hr hf dX10_wordFrom_27
  · have hf := bl_ifn c3 hf
    refine lv_aload_n X.1 X.2.1 dX10_wordFrom_8 rfl (lv_at hl 0 rfl) ?_
    refine bl_getr X V hv0 fl_X10_55 rfl dX10_wordFrom_9 (fun h4 => ?_)
    refine lv_iload_n X.1 X.2.1 dX10_wordFrom_12 rfl (lv_at hl 1 rfl) ?_
    obtain ⟨h5, hf⟩ := bl_gd_at hf
    refine bl_bald (k := (Int32.toNatClampNeg v2)) X V h4 h5 rfl dX10_wordFrom_13 ?_
    refine lv_if_ne (tgt := 20) X.1 X.2.1 dX10_wordFrom_14 (by decide) (fun c6 => ?_) (fun c6 => ?_)
    · have hf := bl_ifn c6 hf
      exact w_X10_wordFrom_20 X hr k4 hk4 σ v0 v2 v3 hv0 hf _ _ _ V (lv_sub hl [0, 1, 2] rfl)
    · have hf := bl_ifp c6 hf
      obtain ⟨x7, e8⟩ : ∃ z : Int32, z = v3 + (-1) := ⟨_, rfl⟩
      have hf := bl_let_at e8 hf
      refine lv_iinc (v := x7) (lv' := [(3, .int x7), (0, .ref (bl_ad g v0)), (2, .int v2)]) X.1 X.2.1 dX10_wordFrom_17 hl (k := 2) rfl (by rw [e8]; rfl) (by decide) rfl (fun ls hl => ?_)
      exact w_X10_wordFrom_20 X hr k4 hk4 σ v0 v2 x7 hv0 hf _ _ _ V (lv_sub hl [1, 2, 0] rfl)
theorem l_X10_wordFrom_4 {p : Program} {l : Launch} {e : Env} {s : State} {m : MethodId} {below : List Frame} {meth : Method} {c : Code} {g : bl_Gp} {as : List Value} {out : Int32 × bl_St} (X : bl_Cx g p s m as.toArray meth c cX10_wordFrom 4 RX10) (hr : meth.sig.returnType = (Option.some Jvm.ClassFile.FieldType.int)) (n : Nat) : ∀ (σ : bl_St) (v0 : Nat) (v2 : Int32) (v3 : Int32), bl_sh[v0]? = some (10, 28) → (bl_fx (fun _ _ _ _ => none) (b_X10_wordFrom_4 ) n) σ v0 v2 v3 = some out → ∀ (H : Heap) (locs : List Loc) (ls : Array Slot), bl_V g s σ H locs → lv_has ls 4 [(0, .ref (bl_ad g v0)), (2, .int v2), (3, .int v3)] → W p l e (bl_rm 0 0) s m as.toArray below meth c H locs 0 0 (bl_Qi below g s as out) (F0 m 4 ls []) := by
  induction n with
  | zero =>
    intro σ v0 v2 v3 hv0 hf H locs ls V hl
    cases hf
  | succ n ih => exact w_X10_wordFrom_4 X hr  _ ih
set_option maxHeartbeats 4000000 in
set_option maxRecDepth 100000 in
theorem t_X10_wordFrom (l : Launch) (g : bl_Gp) (σ : bl_St) (a0 : Nat) (a1 : Int32) (o : Int32 × bl_St) (ha0 : bl_sh[a0]? = some (10, 28)) (hf : f_X10_wordFrom σ a0 a1 = some o) : bl_Ci l g yX10_wordFrom cX10_wordFrom 4 (Option.some Jvm.ClassFile.FieldType.int) (bl_rm 0 0) [.ref (bl_ad g a0), .int a1] σ o := by
  refine bl_met (by decide) (Nat.le_of_ble_eq_true rfl) (fun p e s m below meth c ls X hr V hl => ?_)
  have hl : lv_has ls 4 [(0, .ref (bl_ad g a0)), (1, .int a1)] := hl
  unfold f_X10_wordFrom at hf
  refine lv_iconst (v := 0) X.1 X.2.1 dX10_wordFrom_0 (by decide) ?_
  refine lv_istore_n (lv' := [(2, .int 0), (0, .ref (bl_ad g a0)), (1, .int a1)]) X.1 X.2.1 dX10_wordFrom_1 rfl hl (by decide) rfl (fun ls hl => ?_)
  refine lv_iload_n X.1 X.2.1 dX10_wordFrom_2 rfl (lv_at hl 2 rfl) ?_
  refine lv_istore_n (lv' := [(3, .int a1), (2, .int 0), (0, .ref (bl_ad g a0)), (1, .int a1)]) X.1 X.2.1 dX10_wordFrom_3 rfl hl (by decide) rfl (fun ls hl => ?_)
  exact l_X10_wordFrom_4 X hr  bl_fu σ a0 0 a1 ha0 hf _ _ _ V (lv_sub hl [2, 1, 0] rfl)
set_option maxHeartbeats 4000000 in
set_option maxRecDepth 100000 in
theorem w_X10_writesWord_6 {p : Program} {l : Launch} {e : Env} {s : State} {m : MethodId} {below : List Frame} {meth : Method} {c : Code} {g : bl_Gp} {as : List Value} {out : Unit × bl_St} (X : bl_Cx g p s m as.toArray meth c cX10_writesWord 3 RX10) (hr : meth.sig.returnType = (Option.none : Option Jvm.ClassFile.FieldType)) (k6 : bl_St → Nat → Int32 → Option (Unit × bl_St)) (hk6 : ∀ (σ : bl_St) (v0 : Nat) (v2 : Int32), bl_sh[v0]? = some (10, 28) → k6 σ v0 v2 = some out → ∀ (H : Heap) (locs : List Loc) (ls : Array Slot), bl_V g s σ H locs → lv_has ls 3 [(0, .ref (bl_ad g v0)), (2, .int v2)] → W p l e (bl_rm 1 23) s m as.toArray below meth c H locs 0 0 (bl_Qv below g s as out) (F0 m 6 ls [])) : ∀ (σ : bl_St) (v0 : Nat) (v2 : Int32), bl_sh[v0]? = some (10, 28) → (b_X10_writesWord_6 k6) σ v0 v2 = some out → ∀ (H : Heap) (locs : List Loc) (ls : Array Slot), bl_V g s σ H locs → lv_has ls 3 [(0, .ref (bl_ad g v0)), (2, .int v2)] → W p l e (bl_rm 1 23) s m as.toArray below meth c H locs 0 0 (bl_Qv below g s as out) (F0 m 6 ls []) := by
  intro σ v0 v2 hv0 hf H locs ls V hl
  unfold b_X10_writesWord_6 at hf
  refine lv_aload_n X.1 X.2.1 dX10_writesWord_6 rfl (lv_at hl 0 rfl) ?_
  refine bl_getr X V hv0 fl_X10_55 rfl dX10_writesWord_7 (fun h1 => ?_)
  refine lv_iload_n X.1 X.2.1 dX10_writesWord_10 rfl (lv_at hl 1 rfl) ?_
  obtain ⟨h2, hf⟩ := bl_gd_at hf
  refine bl_bald (k := (Int32.toNatClampNeg v2)) X V h1 h2 rfl dX10_writesWord_11 ?_
  refine lv_if_eq (tgt := 31) X.1 X.2.1 dX10_writesWord_12 (by decide) (fun c3 => ?_) (fun c3 => ?_)
  · have hf := bl_ifp c3 hf
    exact bl_retv X V hr hf dX10_writesWord_31
  · have hf := bl_ifn c3 hf
    refine lv_aload_n X.1 X.2.1 dX10_writesWord_15 rfl (lv_at hl 0 rfl) ?_
    refine lv_aload_n X.1 X.2.1 dX10_writesWord_16 rfl (lv_at hl 0 rfl) ?_
    refine bl_getr X V hv0 fl_X10_55 rfl dX10_writesWord_17 (fun h4 => ?_)
    refine lv_iload_n X.1 X.2.1 dX10_writesWord_20 rfl (lv_at hl 1 rfl) ?_
    obtain ⟨h5, hf⟩ := bl_gd_at hf
    refine bl_bald (k := (Int32.toNatClampNeg v2)) X V h4 h5 rfl dX10_writesWord_21 ?_
    obtain ⟨r6, σ7, h8, hf⟩ := bl_bd_at hf
    refine bl_cVv (As := [.int (bl_I σ (bl_R σ v0 22) (Int32.toNatClampNeg v2))]) X V hl.1 hv0 rfl ml_X10_297 mV_X10_writesSign (t_X10_writesSign l g σ v0 (bl_I σ (bl_R σ v0 22) (Int32.toNatClampNeg v2)) _ hv0 h8) rfl rfl ⟨Nat.le_of_ble_eq_true rfl, Nat.le_of_ble_eq_true rfl⟩ rfl rfl (Nat.le_of_ble_eq_true rfl) ⟨Nat.zero_le _, Nat.zero_le _⟩ dX10_writesWord_22 (fun H locs V => ?_)
    obtain ⟨x9, e10⟩ : ∃ z : Int32, z = v2 + 1 := ⟨_, rfl⟩
    have hf := bl_let_at e10 hf
    refine lv_iinc (v := x9) (lv' := [(2, .int x9), (0, .ref (bl_ad g v0))]) X.1 X.2.1 dX10_writesWord_25 hl (k := 1) rfl (by rw [e10]; rfl) (by decide) rfl (fun ls hl => ?_)
    refine lv_goto (tgt := 6) X.1 X.2.1 dX10_writesWord_28 (by decide) ?_
    exact hk6 σ7 v0 x9 hv0 hf _ _ _ V (lv_sub hl [1, 0] rfl)
theorem l_X10_writesWord_6 {p : Program} {l : Launch} {e : Env} {s : State} {m : MethodId} {below : List Frame} {meth : Method} {c : Code} {g : bl_Gp} {as : List Value} {out : Unit × bl_St} (X : bl_Cx g p s m as.toArray meth c cX10_writesWord 3 RX10) (hr : meth.sig.returnType = (Option.none : Option Jvm.ClassFile.FieldType)) (n : Nat) : ∀ (σ : bl_St) (v0 : Nat) (v2 : Int32), bl_sh[v0]? = some (10, 28) → (bl_fx (fun _ _ _ => none) (b_X10_writesWord_6 ) n) σ v0 v2 = some out → ∀ (H : Heap) (locs : List Loc) (ls : Array Slot), bl_V g s σ H locs → lv_has ls 3 [(0, .ref (bl_ad g v0)), (2, .int v2)] → W p l e (bl_rm 1 23) s m as.toArray below meth c H locs 0 0 (bl_Qv below g s as out) (F0 m 6 ls []) := by
  induction n with
  | zero =>
    intro σ v0 v2 hv0 hf H locs ls V hl
    cases hf
  | succ n ih => exact w_X10_writesWord_6 X hr  _ ih
set_option maxHeartbeats 4000000 in
set_option maxRecDepth 100000 in
theorem t_X10_writesWord (l : Launch) (g : bl_Gp) (σ : bl_St) (a0 : Nat) (a1 : Int32) (o : Unit × bl_St) (ha0 : bl_sh[a0]? = some (10, 28)) (hf : f_X10_writesWord σ a0 a1 = some o) : bl_Cv l g yX10_writesWord cX10_writesWord 3 (Option.none : Option Jvm.ClassFile.FieldType) (bl_rm 1 23) [.ref (bl_ad g a0), .int a1] σ o := by
  refine bl_met (by decide) (Nat.le_of_ble_eq_true rfl) (fun p e s m below meth c ls X hr V hl => ?_)
  have hl : lv_has ls 3 [(0, .ref (bl_ad g a0)), (1, .int a1)] := hl
  unfold f_X10_writesWord at hf
  refine lv_aload_n X.1 X.2.1 dX10_writesWord_0 rfl (lv_at hl 0 rfl) ?_
  refine lv_iload_n X.1 X.2.1 dX10_writesWord_1 rfl (lv_at hl 1 rfl) ?_
  obtain ⟨r11, σ12, h13, hf⟩ := bl_bd_at hf
  refine bl_cVi (As := [.int a1]) X V hl.1 ha0 rfl ml_X10_294 mV_X10_wordFrom (t_X10_wordFrom l g σ a0 a1 _ ha0 h13) rfl rfl ⟨Nat.le_of_ble_eq_true rfl, Nat.le_of_ble_eq_true rfl⟩ rfl rfl (Nat.le_of_ble_eq_true rfl) ⟨Nat.zero_le _, Nat.zero_le _⟩ dX10_writesWord_2 (fun H locs V => ?_)
  refine lv_istore_n (lv' := [(2, .int r11), (0, .ref (bl_ad g a0)), (1, .int a1)]) X.1 X.2.1 dX10_writesWord_5 rfl hl (by decide) rfl (fun ls hl => ?_)
  exact l_X10_writesWord_6 X hr  bl_fu σ12 a0 r11 ha0 hf _ _ _ V (lv_sub hl [1, 0] rfl)
set_option maxHeartbeats 4000000 in
set_option maxRecDepth 100000 in
theorem w_X10_writesNumber_24 {p : Program} {l : Launch} {e : Env} {s : State} {m : MethodId} {below : List Frame} {meth : Method} {c : Code} {g : bl_Gp} {as : List Value} {out : Unit × bl_St} (X : bl_Cx g p s m as.toArray meth c cX10_writesNumber 3 RX10) (hr : meth.sig.returnType = (Option.none : Option Jvm.ClassFile.FieldType)) (k24 : bl_St → Nat → Int32 → Int32 → Option (Unit × bl_St)) (hk24 : ∀ (σ : bl_St) (v0 : Nat) (v1 : Int32) (v2 : Int32), bl_sh[v0]? = some (10, 28) → k24 σ v0 v1 v2 = some out → ∀ (H : Heap) (locs : List Loc) (ls : Array Slot), bl_V g s σ H locs → lv_has ls 3 [(0, .ref (bl_ad g v0)), (1, .int v1), (2, .int v2)] → W p l e (bl_rm 1 21) s m as.toArray below meth c H locs 0 0 (bl_Qv below g s as out) (F0 m 24 ls [])) : ∀ (σ : bl_St) (v0 : Nat) (v1 : Int32) (v2 : Int32), bl_sh[v0]? = some (10, 28) → (b_X10_writesNumber_24 k24) σ v0 v1 v2 = some out → ∀ (H : Heap) (locs : List Loc) (ls : Array Slot), bl_V g s σ H locs → lv_has ls 3 [(0, .ref (bl_ad g v0)), (1, .int v1), (2, .int v2)] → W p l e (bl_rm 1 21) s m as.toArray below meth c H locs 0 0 (bl_Qv below g s as out) (F0 m 24 ls []) := by
  intro σ v0 v1 v2 hv0 hf H locs ls V hl
  unfold b_X10_writesNumber_24 at hf
  refine lv_iload_n X.1 X.2.1 dX10_writesNumber_24 rfl (lv_at hl 2 rfl) ?_
  refine lv_if_le (tgt := 49) X.1 X.2.1 dX10_writesNumber_25 (by decide) (fun c1 => ?_) (fun c1 => ?_)
  · have hf := bl_ifp c1 hf
    exact bl_retv X V hr hf dX10_writesNumber_49
  · have hf := bl_ifn c1 hf
    refine lv_aload_n X.1 X.2.1 dX10_writesNumber_28 rfl (lv_at hl 0 rfl) ?_
    refine lv_bipush (v := 48) X.1 X.2.1 dX10_writesNumber_29 (by decide) ?_
    refine lv_iload_n X.1 X.2.1 dX10_writesNumber_31 rfl (lv_at hl 1 rfl) ?_
    refine lv_iload_n X.1 X.2.1 dX10_writesNumber_32 rfl (lv_at hl 2 rfl) ?_
    obtain ⟨h2, hf⟩ := bl_gd_at hf
    refine lv_idiv X.1 X.2.1 dX10_writesNumber_33 (by simpa using h2) ?_
    refine lv_bipush (v := 10) X.1 X.2.1 dX10_writesNumber_34 (by decide) ?_
    refine lv_irem X.1 X.2.1 dX10_writesNumber_36 (by decide) ?_
    refine lv_iadd X.1 X.2.1 dX10_writesNumber_37 ?_
    obtain ⟨r3, σ4, h5, hf⟩ := bl_bd_at hf
    refine bl_cVv (As := [.int (48 + ((v1 / v2) - (v1 / v2) / 10 * 10))]) X V hl.1 hv0 rfl ml_X10_297 mV_X10_writesSign (t_X10_writesSign l g σ v0 (48 + ((v1 / v2) - (v1 / v2) / 10 * 10)) _ hv0 h5) rfl rfl ⟨Nat.le_of_ble_eq_true rfl, Nat.le_of_ble_eq_true rfl⟩ rfl rfl (Nat.le_of_ble_eq_true rfl) ⟨Nat.zero_le _, Nat.zero_le _⟩ dX10_writesNumber_38 (fun H locs V => ?_)
    refine lv_iload_n X.1 X.2.1 dX10_writesNumber_41 rfl (lv_at hl 2 rfl) ?_
    refine lv_bipush (v := 10) X.1 X.2.1 dX10_writesNumber_42 (by decide) ?_
    refine lv_idiv X.1 X.2.1 dX10_writesNumber_44 (by decide) ?_
    refine lv_topi (fun x6 e7 => ?_)
    have hf := bl_let_at e7 hf
    refine lv_istore_n (lv' := [(2, .int x6), (0, .ref (bl_ad g v0)), (1, .int v1)]) X.1 X.2.1 dX10_writesNumber_45 rfl hl (by decide) rfl (fun ls hl => ?_)
    refine lv_goto (tgt := 24) X.1 X.2.1 dX10_writesNumber_46 (by decide) ?_
    exact hk24 σ4 v0 v1 x6 hv0 hf _ _ _ V (lv_sub hl [1, 2, 0] rfl)
theorem l_X10_writesNumber_24 {p : Program} {l : Launch} {e : Env} {s : State} {m : MethodId} {below : List Frame} {meth : Method} {c : Code} {g : bl_Gp} {as : List Value} {out : Unit × bl_St} (X : bl_Cx g p s m as.toArray meth c cX10_writesNumber 3 RX10) (hr : meth.sig.returnType = (Option.none : Option Jvm.ClassFile.FieldType)) (n : Nat) : ∀ (σ : bl_St) (v0 : Nat) (v1 : Int32) (v2 : Int32), bl_sh[v0]? = some (10, 28) → (bl_fx (fun _ _ _ _ => none) (b_X10_writesNumber_24 ) n) σ v0 v1 v2 = some out → ∀ (H : Heap) (locs : List Loc) (ls : Array Slot), bl_V g s σ H locs → lv_has ls 3 [(0, .ref (bl_ad g v0)), (1, .int v1), (2, .int v2)] → W p l e (bl_rm 1 21) s m as.toArray below meth c H locs 0 0 (bl_Qv below g s as out) (F0 m 24 ls []) := by
  induction n with
  | zero =>
    intro σ v0 v1 v2 hv0 hf H locs ls V hl
    cases hf
  | succ n ih => exact w_X10_writesNumber_24 X hr  _ ih
set_option maxHeartbeats 4000000 in
set_option maxRecDepth 100000 in
theorem w_X10_writesNumber_8 {p : Program} {l : Launch} {e : Env} {s : State} {m : MethodId} {below : List Frame} {meth : Method} {c : Code} {g : bl_Gp} {as : List Value} {out : Unit × bl_St} (X : bl_Cx g p s m as.toArray meth c cX10_writesNumber 3 RX10) (hr : meth.sig.returnType = (Option.none : Option Jvm.ClassFile.FieldType)) (k8 : bl_St → Nat → Int32 → Int32 → Option (Unit × bl_St)) (hk8 : ∀ (σ : bl_St) (v0 : Nat) (v1 : Int32) (v2 : Int32), bl_sh[v0]? = some (10, 28) → k8 σ v0 v1 v2 = some out → ∀ (H : Heap) (locs : List Loc) (ls : Array Slot), bl_V g s σ H locs → lv_has ls 3 [(0, .ref (bl_ad g v0)), (1, .int v1), (2, .int v2)] → W p l e (bl_rm 1 21) s m as.toArray below meth c H locs 0 0 (bl_Qv below g s as out) (F0 m 8 ls [])) : ∀ (σ : bl_St) (v0 : Nat) (v1 : Int32) (v2 : Int32), bl_sh[v0]? = some (10, 28) → (b_X10_writesNumber_8 k8) σ v0 v1 v2 = some out → ∀ (H : Heap) (locs : List Loc) (ls : Array Slot), bl_V g s σ H locs → lv_has ls 3 [(0, .ref (bl_ad g v0)), (1, .int v1), (2, .int v2)] → W p l e (bl_rm 1 21) s m as.toArray below meth c H locs 0 0 (bl_Qv below g s as out) (F0 m 8 ls []) := by
  intro σ v0 v1 v2 hv0 hf H locs ls V hl
  unfold b_X10_writesNumber_8 at hf
  refine lv_iload_n X.1 X.2.1 dX10_writesNumber_8 rfl (lv_at hl 1 rfl) ?_
  refine lv_iload_n X.1 X.2.1 dX10_writesNumber_9 rfl (lv_at hl 2 rfl) ?_
  obtain ⟨h8, hf⟩ := bl_gd_at hf
  refine lv_idiv X.1 X.2.1 dX10_writesNumber_10 (by simpa using h8) ?_
  refine lv_bipush (v := 9) X.1 X.2.1 dX10_writesNumber_11 (by decide) ?_
  refine lv_icmp_le (tgt := 24) X.1 X.2.1 dX10_writesNumber_13 (by decide) (fun c9 => ?_) (fun c9 => ?_)
  · have hf := bl_ifp c9 hf
    exact l_X10_writesNumber_24 X hr  bl_fu σ v0 v1 v2 hv0 hf _ _ _ V (lv_sub hl [0, 1, 2] rfl)
  · have hf := bl_ifn c9 hf
    refine lv_iload_n X.1 X.2.1 dX10_writesNumber_16 rfl (lv_at hl 2 rfl) ?_
    refine lv_bipush (v := 10) X.1 X.2.1 dX10_writesNumber_17 (by decide) ?_
    refine lv_imul X.1 X.2.1 dX10_writesNumber_19 ?_
    refine lv_topi (fun x10 e11 => ?_)
    have hf := bl_let_at e11 hf
    refine lv_istore_n (lv' := [(2, .int x10), (0, .ref (bl_ad g v0)), (1, .int v1)]) X.1 X.2.1 dX10_writesNumber_20 rfl hl (by decide) rfl (fun ls hl => ?_)
    refine lv_goto (tgt := 8) X.1 X.2.1 dX10_writesNumber_21 (by decide) ?_
    exact hk8 σ v0 v1 x10 hv0 hf _ _ _ V (lv_sub hl [1, 2, 0] rfl)
theorem l_X10_writesNumber_8 {p : Program} {l : Launch} {e : Env} {s : State} {m : MethodId} {below : List Frame} {meth : Method} {c : Code} {g : bl_Gp} {as : List Value} {out : Unit × bl_St} (X : bl_Cx g p s m as.toArray meth c cX10_writesNumber 3 RX10) (hr : meth.sig.returnType = (Option.none : Option Jvm.ClassFile.FieldType)) (n : Nat) : ∀ (σ : bl_St) (v0 : Nat) (v1 : Int32) (v2 : Int32), bl_sh[v0]? = some (10, 28) → (bl_fx (fun _ _ _ _ => none) (b_X10_writesNumber_8 ) n) σ v0 v1 v2 = some out → ∀ (H : Heap) (locs : List Loc) (ls : Array Slot), bl_V g s σ H locs → lv_has ls 3 [(0, .ref (bl_ad g v0)), (1, .int v1), (2, .int v2)] → W p l e (bl_rm 1 21) s m as.toArray below meth c H locs 0 0 (bl_Qv below g s as out) (F0 m 8 ls []) := by
  induction n with
  | zero =>
    intro σ v0 v1 v2 hv0 hf H locs ls V hl
    cases hf
  | succ n ih => exact w_X10_writesNumber_8 X hr  _ ih
set_option maxHeartbeats 4000000 in
set_option maxRecDepth 100000 in
theorem t_X10_writesNumber (l : Launch) (g : bl_Gp) (σ : bl_St) (a0 : Nat) (a1 : Int32) (o : Unit × bl_St) (ha0 : bl_sh[a0]? = some (10, 28)) (hf : f_X10_writesNumber σ a0 a1 = some o) : bl_Cv l g yX10_writesNumber cX10_writesNumber 3 (Option.none : Option Jvm.ClassFile.FieldType) (bl_rm 1 21) [.ref (bl_ad g a0), .int a1] σ o := by
  refine bl_met (by decide) (Nat.le_of_ble_eq_true rfl) (fun p e s m below meth c ls X hr V hl => ?_)
  have hl : lv_has ls 3 [(0, .ref (bl_ad g a0)), (1, .int a1)] := hl
  unfold f_X10_writesNumber at hf
  refine lv_aload_n X.1 X.2.1 dX10_writesNumber_0 rfl (lv_at hl 0 rfl) ?_
  refine lv_bipush (v := 32) X.1 X.2.1 dX10_writesNumber_1 (by decide) ?_
  obtain ⟨r12, σ13, h14, hf⟩ := bl_bd_at hf
  refine bl_cVv (As := [.int 32]) X V hl.1 ha0 rfl ml_X10_297 mV_X10_writesSign (t_X10_writesSign l g σ a0 32 _ ha0 h14) rfl rfl ⟨Nat.le_of_ble_eq_true rfl, Nat.le_of_ble_eq_true rfl⟩ rfl rfl (Nat.le_of_ble_eq_true rfl) ⟨Nat.zero_le _, Nat.zero_le _⟩ dX10_writesNumber_3 (fun H locs V => ?_)
  refine lv_iconst (v := 1) X.1 X.2.1 dX10_writesNumber_6 (by decide) ?_
  refine lv_istore_n (lv' := [(2, .int 1), (0, .ref (bl_ad g a0)), (1, .int a1)]) X.1 X.2.1 dX10_writesNumber_7 rfl hl (by decide) rfl (fun ls hl => ?_)
  exact l_X10_writesNumber_8 X hr  bl_fu σ13 a0 a1 1 ha0 hf _ _ _ V (lv_sub hl [1, 2, 0] rfl)
set_option maxHeartbeats 4000000 in
set_option maxRecDepth 100000 in
theorem t_X10_toldText (l : Launch) (g : bl_Gp) (σ : bl_St) (a0 : Nat) (a1 : Int32) (o : Int32 × bl_St) (ha0 : bl_sh[a0]? = some (10, 28)) (hf : f_X10_toldText σ a0 a1 = some o) : bl_Ci l g yX10_toldText cX10_toldText 2 (Option.some Jvm.ClassFile.FieldType.int) (bl_rm 0 0) [.ref (bl_ad g a0), .int a1] σ o := by
  refine bl_met (by decide) (Nat.le_of_ble_eq_true rfl) (fun p e s m below meth c ls X hr V hl => ?_)
  have hl : lv_has ls 2 [(0, .ref (bl_ad g a0)), (1, .int a1)] := hl
  unfold f_X10_toldText at hf
  refine lv_iload_n X.1 X.2.1 dX10_toldText_0 rfl (lv_at hl 1 rfl) ?_
  refine lv_iconst (v := (-1)) X.1 X.2.1 dX10_toldText_1 (by decide) ?_
  refine lv_icmp_ne (tgt := 12) X.1 X.2.1 dX10_toldText_2 (by decide) (fun c1 => ?_) (fun c1 => ?_)
  · have hf := bl_ifn c1 hf
    refine lv_iload_n X.1 X.2.1 dX10_toldText_12 rfl (lv_at hl 1 rfl) ?_
    refine lv_aload_n X.1 X.2.1 dX10_toldText_13 rfl (lv_at hl 0 rfl) ?_
    refine bl_geti X V ha0 fl_X10_291 dX10_toldText_14 ?_
    refine lv_icmp_ge (tgt := 29) X.1 X.2.1 dX10_toldText_17 (by decide) (fun c2 => ?_) (fun c2 => ?_)
    · have hf := bl_ifp c2 hf
      refine lv_bipush (v := (-2)) X.1 X.2.1 dX10_toldText_29 (by decide) ?_
      exact bl_reti X V hr hf dX10_toldText_31
    · have hf := bl_ifn c2 hf
      refine lv_aload_n X.1 X.2.1 dX10_toldText_20 rfl (lv_at hl 0 rfl) ?_
      refine bl_getr X V ha0 fl_X10_49 rfl dX10_toldText_21 (fun h3 => ?_)
      refine lv_iload_n X.1 X.2.1 dX10_toldText_24 rfl (lv_at hl 1 rfl) ?_
      obtain ⟨h4, hf⟩ := bl_gd_at hf
      refine bl_iald (k := (Int32.toNatClampNeg a1)) X V h3 h4 rfl dX10_toldText_25 ?_
      refine lv_goto (tgt := 31) X.1 X.2.1 dX10_toldText_26 (by decide) ?_
      exact bl_reti X V hr hf dX10_toldText_31
  · have hf := bl_ifp c1 hf
    refine lv_aload_n X.1 X.2.1 dX10_toldText_5 rfl (lv_at hl 0 rfl) ?_
    refine bl_geti X V ha0 fl_X10_291 dX10_toldText_6 ?_
    refine lv_goto (tgt := 31) X.1 X.2.1 dX10_toldText_9 (by decide) ?_
    exact bl_reti X V hr hf dX10_toldText_31
set_option maxHeartbeats 4000000 in
set_option maxRecDepth 100000 in
theorem w_X10_writesRow_8 {p : Program} {l : Launch} {e : Env} {s : State} {m : MethodId} {below : List Frame} {meth : Method} {c : Code} {g : bl_Gp} {as : List Value} {out : Unit × bl_St} (X : bl_Cx g p s m as.toArray meth c cX10_writesRow 5 RX10) (hr : meth.sig.returnType = (Option.none : Option Jvm.ClassFile.FieldType)) (k8 : bl_St → Nat → Int32 → Int32 → Int32 → Option (Unit × bl_St)) (hk8 : ∀ (σ : bl_St) (v0 : Nat) (v2 : Int32) (v3 : Int32) (v4 : Int32), bl_sh[v0]? = some (10, 28) → k8 σ v0 v2 v3 v4 = some out → ∀ (H : Heap) (locs : List Loc) (ls : Array Slot), bl_V g s σ H locs → lv_has ls 5 [(0, .ref (bl_ad g v0)), (2, .int v2), (3, .int v3), (4, .int v4)] → W p l e (bl_rm 2 45) s m as.toArray below meth c H locs 0 0 (bl_Qv below g s as out) (F0 m 8 ls [])) : ∀ (σ : bl_St) (v0 : Nat) (v2 : Int32) (v3 : Int32) (v4 : Int32), bl_sh[v0]? = some (10, 28) → (b_X10_writesRow_8 k8) σ v0 v2 v3 v4 = some out → ∀ (H : Heap) (locs : List Loc) (ls : Array Slot), bl_V g s σ H locs → lv_has ls 5 [(0, .ref (bl_ad g v0)), (2, .int v2), (3, .int v3), (4, .int v4)] → W p l e (bl_rm 2 45) s m as.toArray below meth c H locs 0 0 (bl_Qv below g s as out) (F0 m 8 ls []) := by
  intro σ v0 v2 v3 v4 hv0 hf H locs ls V hl
  unfold b_X10_writesRow_8 at hf
  refine lv_iload X.1 X.2.1 dX10_writesRow_8 (lv_at hl 3 rfl) ?_
  refine lv_iload_n X.1 X.2.1 dX10_writesRow_10 rfl (lv_at hl 2 rfl) ?_
  refine lv_icmp_ge (tgt := 33) X.1 X.2.1 dX10_writesRow_11 (by decide) (fun c1 => ?_) (fun c1 => ?_)
  · have hf := bl_ifp c1 hf
    refine lv_aload_n X.1 X.2.1 dX10_writesRow_33 rfl (lv_at hl 0 rfl) ?_
    refine lv_bipush (v := 59) X.1 X.2.1 dX10_writesRow_34 (by decide) ?_
    obtain ⟨r2, σ3, h4, hf⟩ := bl_bd_at hf
    refine bl_cVv (As := [.int 59]) X V hl.1 hv0 rfl ml_X10_297 mV_X10_writesSign (t_X10_writesSign l g σ v0 59 _ hv0 h4) rfl rfl ⟨Nat.le_of_ble_eq_true rfl, Nat.le_of_ble_eq_true rfl⟩ rfl rfl (Nat.le_of_ble_eq_true rfl) ⟨Nat.zero_le _, Nat.zero_le _⟩ dX10_writesRow_36 (fun H locs V => ?_)
    exact bl_retv X V hr hf dX10_writesRow_39
  · have hf := bl_ifn c1 hf
    refine lv_aload_n X.1 X.2.1 dX10_writesRow_14 rfl (lv_at hl 0 rfl) ?_
    refine lv_aload_n X.1 X.2.1 dX10_writesRow_15 rfl (lv_at hl 0 rfl) ?_
    refine bl_getr X V hv0 fl_X10_13 rfl dX10_writesRow_16 (fun h5 => ?_)
    refine lv_iload_n X.1 X.2.1 dX10_writesRow_19 rfl (lv_at hl 1 rfl) ?_
    refine lv_iload X.1 X.2.1 dX10_writesRow_20 (lv_at hl 3 rfl) ?_
    refine lv_iadd X.1 X.2.1 dX10_writesRow_22 ?_
    obtain ⟨h6, hf⟩ := bl_gd_at hf
    refine bl_iald (k := (Int32.toNatClampNeg (v2 + v4))) X V h5 h6 rfl dX10_writesRow_23 ?_
    obtain ⟨r7, σ8, h9, hf⟩ := bl_bd_at hf
    refine bl_cVv (As := [.int (bl_I σ (bl_R σ v0 1) (Int32.toNatClampNeg (v2 + v4)))]) X V hl.1 hv0 rfl ml_X10_303 mV_X10_writesNumber (t_X10_writesNumber l g σ v0 (bl_I σ (bl_R σ v0 1) (Int32.toNatClampNeg (v2 + v4))) _ hv0 h9) rfl rfl ⟨Nat.le_of_ble_eq_true rfl, Nat.le_of_ble_eq_true rfl⟩ rfl rfl (Nat.le_of_ble_eq_true rfl) ⟨Nat.zero_le _, Nat.zero_le _⟩ dX10_writesRow_24 (fun H locs V => ?_)
    obtain ⟨x10, e11⟩ : ∃ z : Int32, z = v4 + 1 := ⟨_, rfl⟩
    have hf := bl_let_at e11 hf
    refine lv_iinc (v := x10) (lv' := [(4, .int x10), (0, .ref (bl_ad g v0)), (2, .int v2), (3, .int v3)]) X.1 X.2.1 dX10_writesRow_27 hl (k := 3) rfl (by rw [e11]; rfl) (by decide) rfl (fun ls hl => ?_)
    refine lv_goto (tgt := 8) X.1 X.2.1 dX10_writesRow_30 (by decide) ?_
    exact hk8 σ8 v0 v2 v3 x10 hv0 hf _ _ _ V (lv_sub hl [1, 2, 3, 0] rfl)
theorem l_X10_writesRow_8 {p : Program} {l : Launch} {e : Env} {s : State} {m : MethodId} {below : List Frame} {meth : Method} {c : Code} {g : bl_Gp} {as : List Value} {out : Unit × bl_St} (X : bl_Cx g p s m as.toArray meth c cX10_writesRow 5 RX10) (hr : meth.sig.returnType = (Option.none : Option Jvm.ClassFile.FieldType)) (n : Nat) : ∀ (σ : bl_St) (v0 : Nat) (v2 : Int32) (v3 : Int32) (v4 : Int32), bl_sh[v0]? = some (10, 28) → (bl_fx (fun _ _ _ _ _ => none) (b_X10_writesRow_8 ) n) σ v0 v2 v3 v4 = some out → ∀ (H : Heap) (locs : List Loc) (ls : Array Slot), bl_V g s σ H locs → lv_has ls 5 [(0, .ref (bl_ad g v0)), (2, .int v2), (3, .int v3), (4, .int v4)] → W p l e (bl_rm 2 45) s m as.toArray below meth c H locs 0 0 (bl_Qv below g s as out) (F0 m 8 ls []) := by
  induction n with
  | zero =>
    intro σ v0 v2 v3 v4 hv0 hf H locs ls V hl
    cases hf
  | succ n ih => exact w_X10_writesRow_8 X hr  _ ih
set_option maxHeartbeats 4000000 in
set_option maxRecDepth 100000 in
theorem t_X10_writesRow (l : Launch) (g : bl_Gp) (σ : bl_St) (a0 : Nat) (a1 : Int32) (a2 : Int32) (a3 : Int32) (o : Unit × bl_St) (ha0 : bl_sh[a0]? = some (10, 28)) (hf : f_X10_writesRow σ a0 a1 a2 a3 = some o) : bl_Cv l g yX10_writesRow cX10_writesRow 5 (Option.none : Option Jvm.ClassFile.FieldType) (bl_rm 2 45) [.ref (bl_ad g a0), .int a1, .int a2, .int a3] σ o := by
  refine bl_met (by decide) (Nat.le_of_ble_eq_true rfl) (fun p e s m below meth c ls X hr V hl => ?_)
  have hl : lv_has ls 5 [(0, .ref (bl_ad g a0)), (1, .int a1), (2, .int a2), (3, .int a3)] := hl
  unfold f_X10_writesRow at hf
  refine lv_aload_n X.1 X.2.1 dX10_writesRow_0 rfl (lv_at hl 0 rfl) ?_
  refine lv_iload_n X.1 X.2.1 dX10_writesRow_1 rfl (lv_at hl 1 rfl) ?_
  obtain ⟨r12, σ13, h14, hf⟩ := bl_bd_at hf
  refine bl_cVv (As := [.int a1]) X V hl.1 ha0 rfl ml_X10_300 mV_X10_writesWord (t_X10_writesWord l g σ a0 a1 _ ha0 h14) rfl rfl ⟨Nat.le_of_ble_eq_true rfl, Nat.le_of_ble_eq_true rfl⟩ rfl rfl (Nat.le_of_ble_eq_true rfl) ⟨Nat.zero_le _, Nat.zero_le _⟩ dX10_writesRow_2 (fun H locs V => ?_)
  refine lv_iconst (v := 0) X.1 X.2.1 dX10_writesRow_5 (by decide) ?_
  refine lv_istore (lv' := [(4, .int 0), (0, .ref (bl_ad g a0)), (1, .int a1), (2, .int a2), (3, .int a3)]) X.1 X.2.1 dX10_writesRow_6 hl (by decide) rfl (fun ls hl => ?_)
  exact l_X10_writesRow_8 X hr  bl_fu σ13 a0 a2 a3 0 ha0 hf _ _ _ V (lv_sub hl [1, 3, 4, 0] rfl)
set_option maxHeartbeats 4000000 in
set_option maxRecDepth 100000 in
theorem w_X10_spell_43 {p : Program} {l : Launch} {e : Env} {s : State} {m : MethodId} {below : List Frame} {meth : Method} {c : Code} {g : bl_Gp} {as : List Value} {out : Int32 × bl_St} (X : bl_Cx g p s m as.toArray meth c cX10_spell 3 RX10) (hr : meth.sig.returnType = (Option.some Jvm.ClassFile.FieldType.int)) (k43 : bl_St → Nat → Int32 → Int32 → Option (Int32 × bl_St)) (hk43 : ∀ (σ : bl_St) (v0 : Nat) (v1 : Int32) (v2 : Int32), bl_sh[v0]? = some (10, 28) → k43 σ v0 v1 v2 = some out → ∀ (H : Heap) (locs : List Loc) (ls : Array Slot), bl_V g s σ H locs → lv_has ls 3 [(0, .ref (bl_ad g v0)), (1, .int v1), (2, .int v2)] → W p l e (bl_rm 3 69) s m as.toArray below meth c H locs 0 0 (bl_Qi below g s as out) (F0 m 43 ls [])) : ∀ (σ : bl_St) (v0 : Nat) (v1 : Int32) (v2 : Int32), bl_sh[v0]? = some (10, 28) → (b_X10_spell_43 k43) σ v0 v1 v2 = some out → ∀ (H : Heap) (locs : List Loc) (ls : Array Slot), bl_V g s σ H locs → lv_has ls 3 [(0, .ref (bl_ad g v0)), (1, .int v1), (2, .int v2)] → W p l e (bl_rm 3 69) s m as.toArray below meth c H locs 0 0 (bl_Qi below g s as out) (F0 m 43 ls []) := by
  intro σ v0 v1 v2 hv0 hf H locs ls V hl
  unfold b_X10_spell_43 at hf
  refine lv_iload_n X.1 X.2.1 dX10_spell_43 rfl (lv_at hl 2 rfl) ?_
  refine lv_aload_n X.1 X.2.1 dX10_spell_44 rfl (lv_at hl 0 rfl) ?_
  refine bl_getr X V hv0 fl_X10_13 rfl dX10_spell_45 (fun h1 => ?_)
  refine lv_iconst (v := 1) X.1 X.2.1 dX10_spell_48 (by decide) ?_
  refine bl_iald (k := 1) X V h1 (by decide) (by decide) dX10_spell_49 ?_
  refine lv_icmp_ge (tgt := 71) X.1 X.2.1 dX10_spell_50 (by decide) (fun c2 => ?_) (fun c2 => ?_)
  · have hf := bl_ifp c2 hf
    refine lv_aload_n X.1 X.2.1 dX10_spell_71 rfl (lv_at hl 0 rfl) ?_
    refine lv_iconst (v := 2) X.1 X.2.1 dX10_spell_72 (by decide) ?_
    refine lv_iconst (v := 2) X.1 X.2.1 dX10_spell_73 (by decide) ?_
    refine lv_iconst (v := 1) X.1 X.2.1 dX10_spell_74 (by decide) ?_
    obtain ⟨r3, σ4, h5, hf⟩ := bl_bd_at hf
    refine bl_cVv (As := [.int 2, .int 2, .int 1]) X V hl.1 hv0 rfl ml_X10_306 mV_X10_writesRow (t_X10_writesRow l g σ v0 2 2 1 _ hv0 h5) rfl rfl ⟨Nat.le_of_ble_eq_true rfl, Nat.le_of_ble_eq_true rfl⟩ rfl rfl (Nat.le_of_ble_eq_true rfl) ⟨Nat.zero_le _, Nat.zero_le _⟩ dX10_spell_75 (fun H locs V => ?_)
    refine lv_aload_n X.1 X.2.1 dX10_spell_78 rfl (lv_at hl 0 rfl) ?_
    refine lv_iconst (v := 3) X.1 X.2.1 dX10_spell_79 (by decide) ?_
    refine lv_iconst (v := 3) X.1 X.2.1 dX10_spell_80 (by decide) ?_
    refine lv_iconst (v := 1) X.1 X.2.1 dX10_spell_81 (by decide) ?_
    obtain ⟨r6, σ7, h8, hf⟩ := bl_bd_at hf
    refine bl_cVv (As := [.int 3, .int 3, .int 1]) X V hl.1 hv0 rfl ml_X10_306 mV_X10_writesRow (t_X10_writesRow l g σ4 v0 3 3 1 _ hv0 h8) rfl rfl ⟨Nat.le_of_ble_eq_true rfl, Nat.le_of_ble_eq_true rfl⟩ rfl rfl (Nat.le_of_ble_eq_true rfl) ⟨Nat.zero_le _, Nat.zero_le _⟩ dX10_spell_82 (fun H locs V => ?_)
    refine lv_aload_n X.1 X.2.1 dX10_spell_85 rfl (lv_at hl 0 rfl) ?_
    refine lv_iconst (v := 4) X.1 X.2.1 dX10_spell_86 (by decide) ?_
    refine lv_iconst (v := 4) X.1 X.2.1 dX10_spell_87 (by decide) ?_
    refine lv_iconst (v := 1) X.1 X.2.1 dX10_spell_88 (by decide) ?_
    obtain ⟨r9, σ10, h11, hf⟩ := bl_bd_at hf
    refine bl_cVv (As := [.int 4, .int 4, .int 1]) X V hl.1 hv0 rfl ml_X10_306 mV_X10_writesRow (t_X10_writesRow l g σ7 v0 4 4 1 _ hv0 h11) rfl rfl ⟨Nat.le_of_ble_eq_true rfl, Nat.le_of_ble_eq_true rfl⟩ rfl rfl (Nat.le_of_ble_eq_true rfl) ⟨Nat.zero_le _, Nat.zero_le _⟩ dX10_spell_89 (fun H locs V => ?_)
    refine lv_aload_n X.1 X.2.1 dX10_spell_92 rfl (lv_at hl 0 rfl) ?_
    refine lv_iload_n X.1 X.2.1 dX10_spell_93 rfl (lv_at hl 1 rfl) ?_
    obtain ⟨r12, σ13, h14, hf⟩ := bl_bd_at hf
    refine bl_cVi (As := [.int v1]) X V hl.1 hv0 rfl ml_X10_310 mV_X10_toldText (t_X10_toldText l g σ10 v0 v1 _ hv0 h14) rfl rfl ⟨Nat.le_of_ble_eq_true rfl, Nat.le_of_ble_eq_true rfl⟩ rfl rfl (Nat.le_of_ble_eq_true rfl) ⟨Nat.zero_le _, Nat.zero_le _⟩ dX10_spell_94 (fun H locs V => ?_)
    exact bl_reti X V hr hf dX10_spell_97
  · have hf := bl_ifn c2 hf
    refine lv_aload_n X.1 X.2.1 dX10_spell_53 rfl (lv_at hl 0 rfl) ?_
    refine lv_iconst (v := 1) X.1 X.2.1 dX10_spell_54 (by decide) ?_
    refine lv_bipush (v := 45) X.1 X.2.1 dX10_spell_55 (by decide) ?_
    refine lv_iconst (v := 2) X.1 X.2.1 dX10_spell_57 (by decide) ?_
    refine lv_iload_n X.1 X.2.1 dX10_spell_58 rfl (lv_at hl 2 rfl) ?_
    refine lv_imul X.1 X.2.1 dX10_spell_59 ?_
    refine lv_iadd X.1 X.2.1 dX10_spell_60 ?_
    refine lv_iconst (v := 2) X.1 X.2.1 dX10_spell_61 (by decide) ?_
    obtain ⟨r15, σ16, h17, hf⟩ := bl_bd_at hf
    refine bl_cVv (As := [.int 1, .int (45 + (2 * v2)), .int 2]) X V hl.1 hv0 rfl ml_X10_306 mV_X10_writesRow (t_X10_writesRow l g σ v0 1 (45 + (2 * v2)) 2 _ hv0 h17) rfl rfl ⟨Nat.le_of_ble_eq_true rfl, Nat.le_of_ble_eq_true rfl⟩ rfl rfl (Nat.le_of_ble_eq_true rfl) ⟨Nat.zero_le _, Nat.zero_le _⟩ dX10_spell_62 (fun H locs V => ?_)
    obtain ⟨x18, e19⟩ : ∃ z : Int32, z = v2 + 1 := ⟨_, rfl⟩
    have hf := bl_let_at e19 hf
    refine lv_iinc (v := x18) (lv' := [(2, .int x18), (0, .ref (bl_ad g v0)), (1, .int v1)]) X.1 X.2.1 dX10_spell_65 hl (k := 2) rfl (by rw [e19]; rfl) (by decide) rfl (fun ls hl => ?_)
    refine lv_goto (tgt := 43) X.1 X.2.1 dX10_spell_68 (by decide) ?_
    exact hk43 σ16 v0 v1 x18 hv0 hf _ _ _ V (lv_sub hl [1, 2, 0] rfl)
theorem l_X10_spell_43 {p : Program} {l : Launch} {e : Env} {s : State} {m : MethodId} {below : List Frame} {meth : Method} {c : Code} {g : bl_Gp} {as : List Value} {out : Int32 × bl_St} (X : bl_Cx g p s m as.toArray meth c cX10_spell 3 RX10) (hr : meth.sig.returnType = (Option.some Jvm.ClassFile.FieldType.int)) (n : Nat) : ∀ (σ : bl_St) (v0 : Nat) (v1 : Int32) (v2 : Int32), bl_sh[v0]? = some (10, 28) → (bl_fx (fun _ _ _ _ => none) (b_X10_spell_43 ) n) σ v0 v1 v2 = some out → ∀ (H : Heap) (locs : List Loc) (ls : Array Slot), bl_V g s σ H locs → lv_has ls 3 [(0, .ref (bl_ad g v0)), (1, .int v1), (2, .int v2)] → W p l e (bl_rm 3 69) s m as.toArray below meth c H locs 0 0 (bl_Qi below g s as out) (F0 m 43 ls []) := by
  induction n with
  | zero =>
    intro σ v0 v1 v2 hv0 hf H locs ls V hl
    cases hf
  | succ n ih => exact w_X10_spell_43 X hr  _ ih
set_option maxHeartbeats 4000000 in
set_option maxRecDepth 100000 in
theorem w_X10_spell_14 {p : Program} {l : Launch} {e : Env} {s : State} {m : MethodId} {below : List Frame} {meth : Method} {c : Code} {g : bl_Gp} {as : List Value} {out : Int32 × bl_St} (X : bl_Cx g p s m as.toArray meth c cX10_spell 3 RX10) (hr : meth.sig.returnType = (Option.some Jvm.ClassFile.FieldType.int)) (k14 : bl_St → Nat → Int32 → Int32 → Option (Int32 × bl_St)) (hk14 : ∀ (σ : bl_St) (v0 : Nat) (v1 : Int32) (v2 : Int32), bl_sh[v0]? = some (10, 28) → k14 σ v0 v1 v2 = some out → ∀ (H : Heap) (locs : List Loc) (ls : Array Slot), bl_V g s σ H locs → lv_has ls 3 [(0, .ref (bl_ad g v0)), (1, .int v1), (2, .int v2)] → W p l e (bl_rm 3 69) s m as.toArray below meth c H locs 0 0 (bl_Qi below g s as out) (F0 m 14 ls [])) : ∀ (σ : bl_St) (v0 : Nat) (v1 : Int32) (v2 : Int32), bl_sh[v0]? = some (10, 28) → (b_X10_spell_14 k14) σ v0 v1 v2 = some out → ∀ (H : Heap) (locs : List Loc) (ls : Array Slot), bl_V g s σ H locs → lv_has ls 3 [(0, .ref (bl_ad g v0)), (1, .int v1), (2, .int v2)] → W p l e (bl_rm 3 69) s m as.toArray below meth c H locs 0 0 (bl_Qi below g s as out) (F0 m 14 ls []) := by
  intro σ v0 v1 v2 hv0 hf H locs ls V hl
  unfold b_X10_spell_14 at hf
  refine lv_iload_n X.1 X.2.1 dX10_spell_14 rfl (lv_at hl 2 rfl) ?_
  refine lv_aload_n X.1 X.2.1 dX10_spell_15 rfl (lv_at hl 0 rfl) ?_
  refine bl_getr X V hv0 fl_X10_13 rfl dX10_spell_16 (fun h20 => ?_)
  refine lv_iconst (v := 0) X.1 X.2.1 dX10_spell_19 (by decide) ?_
  refine bl_iald (k := 0) X V h20 (by decide) (by decide) dX10_spell_20 ?_
  refine lv_icmp_ge (tgt := 41) X.1 X.2.1 dX10_spell_21 (by decide) (fun c21 => ?_) (fun c21 => ?_)
  · have hf := bl_ifp c21 hf
    refine lv_iconst (v := 0) X.1 X.2.1 dX10_spell_41 (by decide) ?_
    refine lv_istore_n (lv' := [(2, .int 0), (0, .ref (bl_ad g v0)), (1, .int v1)]) X.1 X.2.1 dX10_spell_42 rfl hl (by decide) rfl (fun ls hl => ?_)
    exact l_X10_spell_43 X hr  bl_fu σ v0 v1 0 hv0 hf _ _ _ V (lv_sub hl [1, 2, 0] rfl)
  · have hf := bl_ifn c21 hf
    refine lv_aload_n X.1 X.2.1 dX10_spell_24 rfl (lv_at hl 0 rfl) ?_
    refine lv_iconst (v := 0) X.1 X.2.1 dX10_spell_25 (by decide) ?_
    refine lv_iconst (v := 5) X.1 X.2.1 dX10_spell_26 (by decide) ?_
    refine lv_iconst (v := 5) X.1 X.2.1 dX10_spell_27 (by decide) ?_
    refine lv_iload_n X.1 X.2.1 dX10_spell_28 rfl (lv_at hl 2 rfl) ?_
    refine lv_imul X.1 X.2.1 dX10_spell_29 ?_
    refine lv_iadd X.1 X.2.1 dX10_spell_30 ?_
    refine lv_iconst (v := 5) X.1 X.2.1 dX10_spell_31 (by decide) ?_
    obtain ⟨r22, σ23, h24, hf⟩ := bl_bd_at hf
    refine bl_cVv (As := [.int 0, .int (5 + (5 * v2)), .int 5]) X V hl.1 hv0 rfl ml_X10_306 mV_X10_writesRow (t_X10_writesRow l g σ v0 0 (5 + (5 * v2)) 5 _ hv0 h24) rfl rfl ⟨Nat.le_of_ble_eq_true rfl, Nat.le_of_ble_eq_true rfl⟩ rfl rfl (Nat.le_of_ble_eq_true rfl) ⟨Nat.zero_le _, Nat.zero_le _⟩ dX10_spell_32 (fun H locs V => ?_)
    obtain ⟨x25, e26⟩ : ∃ z : Int32, z = v2 + 1 := ⟨_, rfl⟩
    have hf := bl_let_at e26 hf
    refine lv_iinc (v := x25) (lv' := [(2, .int x25), (0, .ref (bl_ad g v0)), (1, .int v1)]) X.1 X.2.1 dX10_spell_35 hl (k := 2) rfl (by rw [e26]; rfl) (by decide) rfl (fun ls hl => ?_)
    refine lv_goto (tgt := 14) X.1 X.2.1 dX10_spell_38 (by decide) ?_
    exact hk14 σ23 v0 v1 x25 hv0 hf _ _ _ V (lv_sub hl [1, 2, 0] rfl)
theorem l_X10_spell_14 {p : Program} {l : Launch} {e : Env} {s : State} {m : MethodId} {below : List Frame} {meth : Method} {c : Code} {g : bl_Gp} {as : List Value} {out : Int32 × bl_St} (X : bl_Cx g p s m as.toArray meth c cX10_spell 3 RX10) (hr : meth.sig.returnType = (Option.some Jvm.ClassFile.FieldType.int)) (n : Nat) : ∀ (σ : bl_St) (v0 : Nat) (v1 : Int32) (v2 : Int32), bl_sh[v0]? = some (10, 28) → (bl_fx (fun _ _ _ _ => none) (b_X10_spell_14 ) n) σ v0 v1 v2 = some out → ∀ (H : Heap) (locs : List Loc) (ls : Array Slot), bl_V g s σ H locs → lv_has ls 3 [(0, .ref (bl_ad g v0)), (1, .int v1), (2, .int v2)] → W p l e (bl_rm 3 69) s m as.toArray below meth c H locs 0 0 (bl_Qi below g s as out) (F0 m 14 ls []) := by
  induction n with
  | zero =>
    intro σ v0 v1 v2 hv0 hf H locs ls V hl
    cases hf
  | succ n ih => exact w_X10_spell_14 X hr  _ ih
set_option maxHeartbeats 4000000 in
set_option maxRecDepth 100000 in
theorem t_X10_spell (l : Launch) (g : bl_Gp) (σ : bl_St) (a0 : Nat) (a1 : Int32) (o : Int32 × bl_St) (ha0 : bl_sh[a0]? = some (10, 28)) (hf : f_X10_spell σ a0 a1 = some o) : bl_Ci l g yX10_spell cX10_spell 3 (Option.some Jvm.ClassFile.FieldType.int) (bl_rm 3 69) [.ref (bl_ad g a0), .int a1] σ o := by
  refine bl_met (by decide) (Nat.le_of_ble_eq_true rfl) (fun p e s m below meth c ls X hr V hl => ?_)
  have hl : lv_has ls 3 [(0, .ref (bl_ad g a0)), (1, .int a1)] := hl
  unfold f_X10_spell at hf
  refine lv_iload_n X.1 X.2.1 dX10_spell_0 rfl (lv_at hl 1 rfl) ?_
  refine lv_iconst (v := (-1)) X.1 X.2.1 dX10_spell_1 (by decide) ?_
  refine lv_icmp_ge (tgt := 7) X.1 X.2.1 dX10_spell_2 (by decide) (fun c27 => ?_) (fun c27 => ?_)
  · have hf := bl_ifp c27 hf
    refine lv_aload_n X.1 X.2.1 dX10_spell_7 rfl (lv_at hl 0 rfl) ?_
    refine lv_iconst (v := 0) X.1 X.2.1 dX10_spell_8 (by decide) ?_
    refine bl_puti X V ha0 fp_X10_291 rfl rfl dX10_spell_9 (fun σ28 H locs e29 V => ?_)
    have hf := bl_let_at e29 hf
    refine lv_iconst (v := 0) X.1 X.2.1 dX10_spell_12 (by decide) ?_
    refine lv_istore_n (lv' := [(2, .int 0), (0, .ref (bl_ad g a0)), (1, .int a1)]) X.1 X.2.1 dX10_spell_13 rfl hl (by decide) rfl (fun ls hl => ?_)
    exact l_X10_spell_14 X hr  bl_fu σ28 a0 a1 0 ha0 hf _ _ _ V (lv_sub hl [1, 2, 0] rfl)
  · have hf := bl_ifn c27 hf
    refine lv_iconst (v := (-1)) X.1 X.2.1 dX10_spell_5 (by decide) ?_
    exact bl_reti X V hr hf dX10_spell_6
set_option maxHeartbeats 4000000 in
set_option maxRecDepth 100000 in
theorem w_X10_writesAdvice_76 {p : Program} {l : Launch} {e : Env} {s : State} {m : MethodId} {below : List Frame} {meth : Method} {c : Code} {g : bl_Gp} {as : List Value} {out : Unit × bl_St} (X : bl_Cx g p s m as.toArray meth c cX10_writesAdvice 5 RX10) (hr : meth.sig.returnType = (Option.none : Option Jvm.ClassFile.FieldType)) : ∀ (σ : bl_St) (v0 : Nat) (v4 : Int32) (s0 : Int32) (s1 : Nat), bl_sh[v0]? = some (10, 28) → bl_sh[s1]? = some (10, 28) → (b_X10_writesAdvice_76 ) σ v0 v4 s0 s1 = some out → ∀ (H : Heap) (locs : List Loc) (ls : Array Slot), bl_V g s σ H locs → lv_has ls 5 [(0, .ref (bl_ad g v0)), (4, .int v4)] → W p l e (bl_rm 6 150) s m as.toArray below meth c H locs 0 0 (bl_Qv below g s as out) (F0 m 76 ls [.int s0, .ref (bl_ad g s1)]) := by
  intro σ v0 v4 s0 s1 hv0 hs1 hf H locs ls V hl
  unfold b_X10_writesAdvice_76 at hf
  obtain ⟨r1, σ2, h3, hf⟩ := bl_bd_at hf
  refine bl_cVv (As := [.int s0]) X V hl.1 hs1 rfl ml_X10_300 mV_X10_writesWord (t_X10_writesWord l g σ s1 s0 _ hs1 h3) rfl rfl ⟨Nat.le_of_ble_eq_true rfl, Nat.le_of_ble_eq_true rfl⟩ rfl rfl (Nat.le_of_ble_eq_true rfl) ⟨Nat.zero_le _, Nat.zero_le _⟩ dX10_writesAdvice_76 (fun H locs V => ?_)
  refine lv_iload X.1 X.2.1 dX10_writesAdvice_79 (lv_at hl 1 rfl) ?_
  refine lv_bipush (v := (-2)) X.1 X.2.1 dX10_writesAdvice_81 (by decide) ?_
  refine lv_icmp_eq (tgt := 92) X.1 X.2.1 dX10_writesAdvice_83 (by decide) (fun c4 => ?_) (fun c4 => ?_)
  · have hf := bl_ifp c4 hf
    refine lv_aload_n X.1 X.2.1 dX10_writesAdvice_92 rfl (lv_at hl 0 rfl) ?_
    refine lv_bipush (v := 59) X.1 X.2.1 dX10_writesAdvice_93 (by decide) ?_
    obtain ⟨r5, σ6, h7, hf⟩ := bl_bd_at hf
    refine bl_cVv (As := [.int 59]) X V hl.1 hv0 rfl ml_X10_297 mV_X10_writesSign (t_X10_writesSign l g σ2 v0 59 _ hv0 h7) rfl rfl ⟨Nat.le_of_ble_eq_true rfl, Nat.le_of_ble_eq_true rfl⟩ rfl rfl (Nat.le_of_ble_eq_true rfl) ⟨Nat.zero_le _, Nat.zero_le _⟩ dX10_writesAdvice_95 (fun H locs V => ?_)
    exact bl_retv X V hr hf dX10_writesAdvice_98
  · have hf := bl_ifn c4 hf
    refine lv_aload_n X.1 X.2.1 dX10_writesAdvice_86 rfl (lv_at hl 0 rfl) ?_
    refine lv_iload X.1 X.2.1 dX10_writesAdvice_87 (lv_at hl 1 rfl) ?_
    obtain ⟨r8, σ9, h10, hf⟩ := bl_bd_at hf
    refine bl_cVv (As := [.int v4]) X V hl.1 hv0 rfl ml_X10_303 mV_X10_writesNumber (t_X10_writesNumber l g σ2 v0 v4 _ hv0 h10) rfl rfl ⟨Nat.le_of_ble_eq_true rfl, Nat.le_of_ble_eq_true rfl⟩ rfl rfl (Nat.le_of_ble_eq_true rfl) ⟨Nat.zero_le _, Nat.zero_le _⟩ dX10_writesAdvice_89 (fun H locs V => ?_)
    refine lv_aload_n X.1 X.2.1 dX10_writesAdvice_92 rfl (lv_at hl 0 rfl) ?_
    refine lv_bipush (v := 59) X.1 X.2.1 dX10_writesAdvice_93 (by decide) ?_
    obtain ⟨r11, σ12, h13, hf⟩ := bl_bd_at hf
    refine bl_cVv (As := [.int 59]) X V hl.1 hv0 rfl ml_X10_297 mV_X10_writesSign (t_X10_writesSign l g σ9 v0 59 _ hv0 h13) rfl rfl ⟨Nat.le_of_ble_eq_true rfl, Nat.le_of_ble_eq_true rfl⟩ rfl rfl (Nat.le_of_ble_eq_true rfl) ⟨Nat.zero_le _, Nat.zero_le _⟩ dX10_writesAdvice_95 (fun H locs V => ?_)
    exact bl_retv X V hr hf dX10_writesAdvice_98
set_option maxHeartbeats 4000000 in
set_option maxRecDepth 100000 in
theorem w_X10_writesAdvice_50 {p : Program} {l : Launch} {e : Env} {s : State} {m : MethodId} {below : List Frame} {meth : Method} {c : Code} {g : bl_Gp} {as : List Value} {out : Unit × bl_St} (X : bl_Cx g p s m as.toArray meth c cX10_writesAdvice 5 RX10) (hr : meth.sig.returnType = (Option.none : Option Jvm.ClassFile.FieldType)) : ∀ (σ : bl_St) (v0 : Nat) (s0 : Int32) (s1 : Int32) (s2 : Int32) (s3 : Nat), bl_sh[v0]? = some (10, 28) → bl_sh[s3]? = some (10, 28) → (b_X10_writesAdvice_50 ) σ v0 s0 s1 s2 s3 = some out → ∀ (H : Heap) (locs : List Loc) (ls : Array Slot), bl_V g s σ H locs → lv_has ls 5 [(0, .ref (bl_ad g v0))] → W p l e (bl_rm 6 150) s m as.toArray below meth c H locs 0 0 (bl_Qv below g s as out) (F0 m 50 ls [.int s0, .int s1, .int s2, .ref (bl_ad g s3)]) := by
  intro σ v0 s0 s1 s2 s3 hv0 hs3 hf H locs ls V hl
  unfold b_X10_writesAdvice_50 at hf
  obtain ⟨r14, σ15, h16, hf⟩ := bl_bd_at hf
  refine bl_cVi (As := [.int s2, .int s1, .int s0]) X V hl.1 hs3 rfl ml_X10_241 mV_X10_leastSize (t_X10_leastSize l g σ s3 s2 s1 s0 _ hs3 h16) rfl rfl ⟨Nat.le_of_ble_eq_true rfl, Nat.le_of_ble_eq_true rfl⟩ rfl rfl (Nat.le_of_ble_eq_true rfl) ⟨Nat.zero_le _, Nat.zero_le _⟩ dX10_writesAdvice_50 (fun H locs V => ?_)
  refine lv_istore (lv' := [(4, .int r14), (0, .ref (bl_ad g v0))]) X.1 X.2.1 dX10_writesAdvice_53 hl (by decide) rfl (fun ls hl => ?_)
  refine lv_aload_n X.1 X.2.1 dX10_writesAdvice_55 rfl (lv_at hl 1 rfl) ?_
  refine lv_bipush (v := 32) X.1 X.2.1 dX10_writesAdvice_56 (by decide) ?_
  obtain ⟨r17, σ18, h19, hf⟩ := bl_bd_at hf
  refine bl_cVv (As := [.int 32]) X V hl.1 hv0 rfl ml_X10_297 mV_X10_writesSign (t_X10_writesSign l g σ15 v0 32 _ hv0 h19) rfl rfl ⟨Nat.le_of_ble_eq_true rfl, Nat.le_of_ble_eq_true rfl⟩ rfl rfl (Nat.le_of_ble_eq_true rfl) ⟨Nat.zero_le _, Nat.zero_le _⟩ dX10_writesAdvice_58 (fun H locs V => ?_)
  refine lv_aload_n X.1 X.2.1 dX10_writesAdvice_61 rfl (lv_at hl 1 rfl) ?_
  refine lv_iload X.1 X.2.1 dX10_writesAdvice_62 (lv_at hl 0 rfl) ?_
  refine lv_bipush (v := (-2)) X.1 X.2.1 dX10_writesAdvice_64 (by decide) ?_
  refine lv_icmp_ne (tgt := 74) X.1 X.2.1 dX10_writesAdvice_66 (by decide) (fun c20 => ?_) (fun c20 => ?_)
  · have hf := bl_ifn c20 hf
    refine lv_bipush (v := 6) X.1 X.2.1 dX10_writesAdvice_74 (by decide) ?_
    exact w_X10_writesAdvice_76 X hr  σ18 v0 r14 6 v0 hv0 hv0 hf _ _ _ V (lv_sub hl [1, 0] rfl)
  · have hf := bl_ifp c20 hf
    refine lv_bipush (v := 7) X.1 X.2.1 dX10_writesAdvice_69 (by decide) ?_
    refine lv_goto (tgt := 76) X.1 X.2.1 dX10_writesAdvice_71 (by decide) ?_
    exact w_X10_writesAdvice_76 X hr  σ18 v0 r14 7 v0 hv0 hv0 hf _ _ _ V (lv_sub hl [1, 0] rfl)
set_option maxHeartbeats 4000000 in
set_option maxRecDepth 100000 in
theorem w_X10_writesAdvice_32 {p : Program} {l : Launch} {e : Env} {s : State} {m : MethodId} {below : List Frame} {meth : Method} {c : Code} {g : bl_Gp} {as : List Value} {out : Unit × bl_St} (X : bl_Cx g p s m as.toArray meth c cX10_writesAdvice 5 RX10) (hr : meth.sig.returnType = (Option.none : Option Jvm.ClassFile.FieldType)) : ∀ (σ : bl_St) (v0 : Nat) (v1 : Int32) (v2 : Int32) (v3 : Int32), bl_sh[v0]? = some (10, 28) → (b_X10_writesAdvice_32 ) σ v0 v1 v2 v3 = some out → ∀ (H : Heap) (locs : List Loc) (ls : Array Slot), bl_V g s σ H locs → lv_has ls 5 [(0, .ref (bl_ad g v0)), (1, .int v1), (2, .int v2), (3, .int v3)] → W p l e (bl_rm 6 150) s m as.toArray below meth c H locs 0 0 (bl_Qv below g s as out) (F0 m 32 ls []) := by
  intro σ v0 v1 v2 v3 hv0 hf H locs ls V hl
  unfold b_X10_writesAdvice_32 at hf
  refine lv_aload_n X.1 X.2.1 dX10_writesAdvice_32 rfl (lv_at hl 0 rfl) ?_
  refine lv_iload_n X.1 X.2.1 dX10_writesAdvice_33 rfl (lv_at hl 1 rfl) ?_
  refine lv_iload_n X.1 X.2.1 dX10_writesAdvice_34 rfl (lv_at hl 2 rfl) ?_
  obtain ⟨r21, σ22, h23, hf⟩ := bl_bd_at hf
  refine bl_cVv (As := [.int v1, .int v2]) X V hl.1 hv0 rfl ml_X10_152 mV_X10_laysChances (t_X10_laysChances l g σ v0 v1 v2 _ hv0 h23) rfl rfl ⟨Nat.le_of_ble_eq_true rfl, Nat.le_of_ble_eq_true rfl⟩ rfl rfl (Nat.le_of_ble_eq_true rfl) ⟨Nat.zero_le _, Nat.zero_le _⟩ dX10_writesAdvice_35 (fun H locs V => ?_)
  refine lv_aload_n X.1 X.2.1 dX10_writesAdvice_38 rfl (lv_at hl 0 rfl) ?_
  refine lv_iconst (v := 0) X.1 X.2.1 dX10_writesAdvice_39 (by decide) ?_
  refine lv_iconst (v := 0) X.1 X.2.1 dX10_writesAdvice_40 (by decide) ?_
  refine lv_iload_n X.1 X.2.1 dX10_writesAdvice_41 rfl (lv_at hl 3 rfl) ?_
  refine lv_if_eq (tgt := 49) X.1 X.2.1 dX10_writesAdvice_42 (by decide) (fun c24 => ?_) (fun c24 => ?_)
  · have hf := bl_ifp c24 hf
    refine lv_iconst (v := 0) X.1 X.2.1 dX10_writesAdvice_49 (by decide) ?_
    exact w_X10_writesAdvice_50 X hr  σ22 v0 0 0 0 v0 hv0 hv0 hf _ _ _ V (lv_sub hl [0] rfl)
  · have hf := bl_ifn c24 hf
    refine lv_iconst (v := 1) X.1 X.2.1 dX10_writesAdvice_45 (by decide) ?_
    refine lv_goto (tgt := 50) X.1 X.2.1 dX10_writesAdvice_46 (by decide) ?_
    exact w_X10_writesAdvice_50 X hr  σ22 v0 1 0 0 v0 hv0 hv0 hf _ _ _ V (lv_sub hl [0] rfl)
set_option maxHeartbeats 4000000 in
set_option maxRecDepth 100000 in
theorem t_X10_writesAdvice (l : Launch) (g : bl_Gp) (σ : bl_St) (a0 : Nat) (a1 : Int32) (a2 : Int32) (o : Unit × bl_St) (ha0 : bl_sh[a0]? = some (10, 28)) (hf : f_X10_writesAdvice σ a0 a1 a2 = some o) : bl_Cv l g yX10_writesAdvice cX10_writesAdvice 5 (Option.none : Option Jvm.ClassFile.FieldType) (bl_rm 6 150) [.ref (bl_ad g a0), .int a1, .int a2] σ o := by
  refine bl_met (by decide) (Nat.le_of_ble_eq_true rfl) (fun p e s m below meth c ls X hr V hl => ?_)
  have hl : lv_has ls 5 [(0, .ref (bl_ad g a0)), (1, .int a1), (2, .int a2)] := hl
  unfold f_X10_writesAdvice at hf
  refine lv_aload_n X.1 X.2.1 dX10_writesAdvice_0 rfl (lv_at hl 0 rfl) ?_
  refine lv_iconst (v := 0) X.1 X.2.1 dX10_writesAdvice_1 (by decide) ?_
  obtain ⟨r25, σ26, h27, hf⟩ := bl_bd_at hf
  refine bl_cVv (As := [.int 0]) X V hl.1 ha0 rfl ml_X10_300 mV_X10_writesWord (t_X10_writesWord l g σ a0 0 _ ha0 h27) rfl rfl ⟨Nat.le_of_ble_eq_true rfl, Nat.le_of_ble_eq_true rfl⟩ rfl rfl (Nat.le_of_ble_eq_true rfl) ⟨Nat.zero_le _, Nat.zero_le _⟩ dX10_writesAdvice_2 (fun H locs V => ?_)
  refine lv_aload_n X.1 X.2.1 dX10_writesAdvice_5 rfl (lv_at hl 0 rfl) ?_
  refine lv_iload_n X.1 X.2.1 dX10_writesAdvice_6 rfl (lv_at hl 2 rfl) ?_
  obtain ⟨r28, σ29, h30, hf⟩ := bl_bd_at hf
  refine bl_cVv (As := [.int a2]) X V hl.1 ha0 rfl ml_X10_303 mV_X10_writesNumber (t_X10_writesNumber l g σ26 a0 a2 _ ha0 h30) rfl rfl ⟨Nat.le_of_ble_eq_true rfl, Nat.le_of_ble_eq_true rfl⟩ rfl rfl (Nat.le_of_ble_eq_true rfl) ⟨Nat.zero_le _, Nat.zero_le _⟩ dX10_writesAdvice_7 (fun H locs V => ?_)
  refine lv_aload_n X.1 X.2.1 dX10_writesAdvice_10 rfl (lv_at hl 0 rfl) ?_
  refine lv_iload_n X.1 X.2.1 dX10_writesAdvice_11 rfl (lv_at hl 1 rfl) ?_
  refine lv_iload_n X.1 X.2.1 dX10_writesAdvice_12 rfl (lv_at hl 2 rfl) ?_
  obtain ⟨r31, σ32, h33, hf⟩ := bl_bd_at hf
  refine bl_cVi (As := [.int a1, .int a2]) X V hl.1 ha0 rfl ml_X10_146 mV_X10_isGuarded (t_X10_isGuarded l g σ29 a0 a1 a2 _ ha0 h33) rfl rfl ⟨Nat.le_of_ble_eq_true rfl, Nat.le_of_ble_eq_true rfl⟩ rfl rfl (Nat.le_of_ble_eq_true rfl) ⟨Nat.zero_le _, Nat.zero_le _⟩ dX10_writesAdvice_13 (fun H locs V => ?_)
  refine lv_istore_n (lv' := [(3, .int r31), (0, .ref (bl_ad g a0)), (1, .int a1), (2, .int a2)]) X.1 X.2.1 dX10_writesAdvice_16 rfl hl (by decide) rfl (fun ls hl => ?_)
  refine lv_iload_n X.1 X.2.1 dX10_writesAdvice_17 rfl (lv_at hl 0 rfl) ?_
  refine lv_if_eq (tgt := 32) X.1 X.2.1 dX10_writesAdvice_18 (by decide) (fun c34 => ?_) (fun c34 => ?_)
  · have hf := bl_ifp c34 hf
    exact w_X10_writesAdvice_32 X hr  σ32 a0 a1 a2 r31 ha0 hf _ _ _ V (lv_sub hl [1, 2, 3, 0] rfl)
  · have hf := bl_ifn c34 hf
    refine lv_aload_n X.1 X.2.1 dX10_writesAdvice_21 rfl (lv_at hl 1 rfl) ?_
    refine lv_bipush (v := 32) X.1 X.2.1 dX10_writesAdvice_22 (by decide) ?_
    obtain ⟨r35, σ36, h37, hf⟩ := bl_bd_at hf
    refine bl_cVv (As := [.int 32]) X V hl.1 ha0 rfl ml_X10_297 mV_X10_writesSign (t_X10_writesSign l g σ32 a0 32 _ ha0 h37) rfl rfl ⟨Nat.le_of_ble_eq_true rfl, Nat.le_of_ble_eq_true rfl⟩ rfl rfl (Nat.le_of_ble_eq_true rfl) ⟨Nat.zero_le _, Nat.zero_le _⟩ dX10_writesAdvice_24 (fun H locs V => ?_)
    refine lv_aload_n X.1 X.2.1 dX10_writesAdvice_27 rfl (lv_at hl 1 rfl) ?_
    refine lv_iconst (v := 5) X.1 X.2.1 dX10_writesAdvice_28 (by decide) ?_
    obtain ⟨r38, σ39, h40, hf⟩ := bl_bd_at hf
    refine bl_cVv (As := [.int 5]) X V hl.1 ha0 rfl ml_X10_300 mV_X10_writesWord (t_X10_writesWord l g σ36 a0 5 _ ha0 h40) rfl rfl ⟨Nat.le_of_ble_eq_true rfl, Nat.le_of_ble_eq_true rfl⟩ rfl rfl (Nat.le_of_ble_eq_true rfl) ⟨Nat.zero_le _, Nat.zero_le _⟩ dX10_writesAdvice_29 (fun H locs V => ?_)
    exact w_X10_writesAdvice_32 X hr  σ39 a0 a1 a2 r31 ha0 hf _ _ _ V (lv_sub hl [1, 2, 3, 0] rfl)
set_option maxHeartbeats 4000000 in
set_option maxRecDepth 100000 in
theorem w_X10_report_43 {p : Program} {l : Launch} {e : Env} {s : State} {m : MethodId} {below : List Frame} {meth : Method} {c : Code} {g : bl_Gp} {as : List Value} {out : Int32 × bl_St} (X : bl_Cx g p s m as.toArray meth c cX10_report 4 RX10) (hr : meth.sig.returnType = (Option.some Jvm.ClassFile.FieldType.int)) (k43 : bl_St → Nat → Int32 → Int32 → Int32 → Option (Int32 × bl_St)) (hk43 : ∀ (σ : bl_St) (v0 : Nat) (v1 : Int32) (v2 : Int32) (v3 : Int32), bl_sh[v0]? = some (10, 28) → k43 σ v0 v1 v2 v3 = some out → ∀ (H : Heap) (locs : List Loc) (ls : Array Slot), bl_V g s σ H locs → lv_has ls 4 [(0, .ref (bl_ad g v0)), (1, .int v1), (2, .int v2), (3, .int v3)] → W p l e (bl_rm 8 208) s m as.toArray below meth c H locs 0 0 (bl_Qi below g s as out) (F0 m 43 ls [])) : ∀ (σ : bl_St) (v0 : Nat) (v1 : Int32) (v2 : Int32) (v3 : Int32), bl_sh[v0]? = some (10, 28) → (b_X10_report_43 k43) σ v0 v1 v2 v3 = some out → ∀ (H : Heap) (locs : List Loc) (ls : Array Slot), bl_V g s σ H locs → lv_has ls 4 [(0, .ref (bl_ad g v0)), (1, .int v1), (2, .int v2), (3, .int v3)] → W p l e (bl_rm 8 208) s m as.toArray below meth c H locs 0 0 (bl_Qi below g s as out) (F0 m 43 ls []) := by
  intro σ v0 v1 v2 v3 hv0 hf H locs ls V hl
  unfold b_X10_report_43 at hf
  refine lv_iload_n X.1 X.2.1 dX10_report_43 rfl (lv_at hl 3 rfl) ?_
  refine lv_aload_n X.1 X.2.1 dX10_report_44 rfl (lv_at hl 0 rfl) ?_
  refine bl_getr X V hv0 fl_X10_13 rfl dX10_report_45 (fun h1 => ?_)
  refine lv_iconst (v := 0) X.1 X.2.1 dX10_report_48 (by decide) ?_
  refine bl_iald (k := 0) X V h1 (by decide) (by decide) dX10_report_49 ?_
  refine lv_icmp_ge (tgt := 65) X.1 X.2.1 dX10_report_50 (by decide) (fun c2 => ?_) (fun c2 => ?_)
  · have hf := bl_ifp c2 hf
    refine lv_aload_n X.1 X.2.1 dX10_report_65 rfl (lv_at hl 0 rfl) ?_
    refine lv_iload_n X.1 X.2.1 dX10_report_66 rfl (lv_at hl 2 rfl) ?_
    obtain ⟨r3, σ4, h5, hf⟩ := bl_bd_at hf
    refine bl_cVi (As := [.int v2]) X V hl.1 hv0 rfl ml_X10_310 mV_X10_toldText (t_X10_toldText l g σ v0 v2 _ hv0 h5) rfl rfl ⟨Nat.le_of_ble_eq_true rfl, Nat.le_of_ble_eq_true rfl⟩ rfl rfl (Nat.le_of_ble_eq_true rfl) ⟨Nat.zero_le _, Nat.zero_le _⟩ dX10_report_67 (fun H locs V => ?_)
    exact bl_reti X V hr hf dX10_report_70
  · have hf := bl_ifn c2 hf
    refine lv_aload_n X.1 X.2.1 dX10_report_53 rfl (lv_at hl 0 rfl) ?_
    refine lv_iload_n X.1 X.2.1 dX10_report_54 rfl (lv_at hl 1 rfl) ?_
    refine lv_iload_n X.1 X.2.1 dX10_report_55 rfl (lv_at hl 3 rfl) ?_
    obtain ⟨r6, σ7, h8, hf⟩ := bl_bd_at hf
    refine bl_cVv (As := [.int v1, .int v3]) X V hl.1 hv0 rfl ml_X10_313 mV_X10_writesAdvice (t_X10_writesAdvice l g σ v0 v1 v3 _ hv0 h8) rfl rfl ⟨Nat.le_of_ble_eq_true rfl, Nat.le_of_ble_eq_true rfl⟩ rfl rfl (Nat.le_of_ble_eq_true rfl) ⟨Nat.zero_le _, Nat.zero_le _⟩ dX10_report_56 (fun H locs V => ?_)
    obtain ⟨x9, e10⟩ : ∃ z : Int32, z = v3 + 1 := ⟨_, rfl⟩
    have hf := bl_let_at e10 hf
    refine lv_iinc (v := x9) (lv' := [(3, .int x9), (0, .ref (bl_ad g v0)), (1, .int v1), (2, .int v2)]) X.1 X.2.1 dX10_report_59 hl (k := 3) rfl (by rw [e10]; rfl) (by decide) rfl (fun ls hl => ?_)
    refine lv_goto (tgt := 43) X.1 X.2.1 dX10_report_62 (by decide) ?_
    exact hk43 σ7 v0 v1 v2 x9 hv0 hf _ _ _ V (lv_sub hl [1, 2, 3, 0] rfl)
theorem l_X10_report_43 {p : Program} {l : Launch} {e : Env} {s : State} {m : MethodId} {below : List Frame} {meth : Method} {c : Code} {g : bl_Gp} {as : List Value} {out : Int32 × bl_St} (X : bl_Cx g p s m as.toArray meth c cX10_report 4 RX10) (hr : meth.sig.returnType = (Option.some Jvm.ClassFile.FieldType.int)) (n : Nat) : ∀ (σ : bl_St) (v0 : Nat) (v1 : Int32) (v2 : Int32) (v3 : Int32), bl_sh[v0]? = some (10, 28) → (bl_fx (fun _ _ _ _ _ => none) (b_X10_report_43 ) n) σ v0 v1 v2 v3 = some out → ∀ (H : Heap) (locs : List Loc) (ls : Array Slot), bl_V g s σ H locs → lv_has ls 4 [(0, .ref (bl_ad g v0)), (1, .int v1), (2, .int v2), (3, .int v3)] → W p l e (bl_rm 8 208) s m as.toArray below meth c H locs 0 0 (bl_Qi below g s as out) (F0 m 43 ls []) := by
  induction n with
  | zero =>
    intro σ v0 v1 v2 v3 hv0 hf H locs ls V hl
    cases hf
  | succ n ih => exact w_X10_report_43 X hr  _ ih
set_option maxHeartbeats 4000000 in
set_option maxRecDepth 100000 in
theorem t_X10_report (l : Launch) (g : bl_Gp) (σ : bl_St) (a0 : Nat) (a1 : Int32) (a2 : Int32) (o : Int32 × bl_St) (ha0 : bl_sh[a0]? = some (10, 28)) (hf : f_X10_report σ a0 a1 a2 = some o) : bl_Ci l g yX10_report cX10_report 4 (Option.some Jvm.ClassFile.FieldType.int) (bl_rm 8 208) [.ref (bl_ad g a0), .int a1, .int a2] σ o := by
  refine bl_met (by decide) (Nat.le_of_ble_eq_true rfl) (fun p e s m below meth c ls X hr V hl => ?_)
  have hl : lv_has ls 4 [(0, .ref (bl_ad g a0)), (1, .int a1), (2, .int a2)] := hl
  unfold f_X10_report at hf
  refine lv_iload_n X.1 X.2.1 dX10_report_0 rfl (lv_at hl 1 rfl) ?_
  refine lv_i2l X.1 X.2.1 dX10_report_1 rfl ?_
  refine lv_lconst (v := 1) X.1 X.2.1 dX10_report_2 (by decide) ?_
  refine lv_ldc2 (v := 20) X.1 X.2.1 X.2.2.2.1 (X.2.2.2.2.1 _ kl_X10_163) dX10_report_3 ?_
  obtain ⟨r11, σ12, h13, hf⟩ := bl_bd_at hf
  refine bl_cSi (As := [.long (Int32.toInt64 a1), .long 1, .long 20]) X V hl.1 ml_X10_66 mS_X10_in (t_X10_in l g σ (Int32.toInt64 a1) 1 20 _  h13) rfl rfl ⟨Nat.le_of_ble_eq_true rfl, Nat.le_of_ble_eq_true rfl⟩ rfl rfl (Nat.le_of_ble_eq_true rfl) ⟨Nat.zero_le _, Nat.zero_le _⟩ dX10_report_6 (fun H locs V => ?_)
  refine lv_if_eq (tgt := 26) X.1 X.2.1 dX10_report_9 (by decide) (fun c14 => ?_) (fun c14 => ?_)
  · have hf := bl_ifp c14 hf
    refine lv_iconst (v := (-1)) X.1 X.2.1 dX10_report_26 (by decide) ?_
    exact bl_reti X V hr hf dX10_report_27
  · have hf := bl_ifn c14 hf
    refine lv_iload_n X.1 X.2.1 dX10_report_12 rfl (lv_at hl 2 rfl) ?_
    refine lv_iconst (v := (-1)) X.1 X.2.1 dX10_report_13 (by decide) ?_
    refine lv_icmp_lt (tgt := 26) X.1 X.2.1 dX10_report_14 (by decide) (fun c15 => ?_) (fun c15 => ?_)
    · have hf := bl_ifp c15 hf
      refine lv_iconst (v := (-1)) X.1 X.2.1 dX10_report_26 (by decide) ?_
      exact bl_reti X V hr hf dX10_report_27
    · have hf := bl_ifn c15 hf
      refine lv_aload_n X.1 X.2.1 dX10_report_17 rfl (lv_at hl 0 rfl) ?_
      refine bl_getr X V ha0 fl_X10_13 rfl dX10_report_18 (fun h16 => ?_)
      refine lv_iconst (v := 0) X.1 X.2.1 dX10_report_21 (by decide) ?_
      refine bl_iald (k := 0) X V h16 (by decide) (by decide) dX10_report_22 ?_
      refine lv_if_ne (tgt := 28) X.1 X.2.1 dX10_report_23 (by decide) (fun c17 => ?_) (fun c17 => ?_)
      · have hf := bl_ifn c17 hf
        refine lv_aload_n X.1 X.2.1 dX10_report_28 rfl (lv_at hl 0 rfl) ?_
        refine lv_iconst (v := 0) X.1 X.2.1 dX10_report_29 (by decide) ?_
        refine bl_puti X V ha0 fp_X10_291 rfl rfl dX10_report_30 (fun σ18 H locs e19 V => ?_)
        have hf := bl_let_at e19 hf
        refine lv_aload_n X.1 X.2.1 dX10_report_33 rfl (lv_at hl 0 rfl) ?_
        refine lv_iload_n X.1 X.2.1 dX10_report_34 rfl (lv_at hl 1 rfl) ?_
        refine lv_iconst (v := 1) X.1 X.2.1 dX10_report_35 (by decide) ?_
        refine lv_iconst (v := 0) X.1 X.2.1 dX10_report_36 (by decide) ?_
        refine lv_iconst (v := 0) X.1 X.2.1 dX10_report_37 (by decide) ?_
        obtain ⟨r20, σ21, h22, hf⟩ := bl_bd_at hf
        refine bl_cVv (As := [.int a1, .int 1, .int 0, .int 0]) X V hl.1 ha0 rfl ml_X10_142 mV_X10_lays (t_X10_lays l g σ18 a0 a1 1 0 0 _ ha0 h22) rfl rfl ⟨Nat.le_of_ble_eq_true rfl, Nat.le_of_ble_eq_true rfl⟩ rfl rfl (Nat.le_of_ble_eq_true rfl) ⟨Nat.zero_le _, Nat.zero_le _⟩ dX10_report_38 (fun H locs V => ?_)
        refine lv_iconst (v := 0) X.1 X.2.1 dX10_report_41 (by decide) ?_
        refine lv_istore_n (lv' := [(3, .int 0), (0, .ref (bl_ad g a0)), (1, .int a1), (2, .int a2)]) X.1 X.2.1 dX10_report_42 rfl hl (by decide) rfl (fun ls hl => ?_)
        exact l_X10_report_43 X hr  bl_fu σ21 a0 a1 a2 0 ha0 hf _ _ _ V (lv_sub hl [1, 2, 3, 0] rfl)
      · have hf := bl_ifp c17 hf
        refine lv_iconst (v := (-1)) X.1 X.2.1 dX10_report_26 (by decide) ?_
        exact bl_reti X V hr hf dX10_report_27
set_option maxHeartbeats 4000000 in
set_option maxRecDepth 100000 in
theorem t_X10_count (l : Launch) (g : bl_Gp) (σ : bl_St) (a0 : Nat) (a1 : Int32) (o : Int32 × bl_St) (ha0 : bl_sh[a0]? = some (10, 28)) (hf : f_X10_count σ a0 a1 = some o) : bl_Ci l g yX10_count cX10_count 2 (Option.some Jvm.ClassFile.FieldType.int) (bl_rm 2 43) [.ref (bl_ad g a0), .int a1] σ o := by
  refine bl_met (by decide) (Nat.le_of_ble_eq_true rfl) (fun p e s m below meth c ls X hr V hl => ?_)
  have hl : lv_has ls 2 [(0, .ref (bl_ad g a0)), (1, .int a1)] := hl
  unfold f_X10_count at hf
  refine lv_iload_n X.1 X.2.1 dX10_count_0 rfl (lv_at hl 1 rfl) ?_
  by_cases c1 : a1 = 0
  · have hf := bl_ifp c1 hf
    refine bl_swI (v := 0) (tgt := 56) X dX10_count_1 (by rw [c1]; decide) (by decide) rfl (by decide) ?_
    refine lv_aload_n X.1 X.2.1 dX10_count_56 rfl (lv_at hl 0 rfl) ?_
    refine bl_getr X V ha0 fl_X10_13 rfl dX10_count_57 (fun h2 => ?_)
    refine lv_iconst (v := 0) X.1 X.2.1 dX10_count_60 (by decide) ?_
    refine bl_iald (k := 0) X V h2 (by decide) (by decide) dX10_count_61 ?_
    exact bl_reti X V hr hf dX10_count_62
  have hf := bl_ifn c1 hf
  by_cases c3 : a1 = 1
  · have hf := bl_ifp c3 hf
    refine bl_swI (v := 1) (tgt := 63) X dX10_count_1 (by rw [c3]; decide) (by decide) rfl (by decide) ?_
    refine lv_aload_n X.1 X.2.1 dX10_count_63 rfl (lv_at hl 0 rfl) ?_
    refine bl_getr X V ha0 fl_X10_13 rfl dX10_count_64 (fun h4 => ?_)
    refine lv_iconst (v := 1) X.1 X.2.1 dX10_count_67 (by decide) ?_
    refine bl_iald (k := 1) X V h4 (by decide) (by decide) dX10_count_68 ?_
    exact bl_reti X V hr hf dX10_count_69
  have hf := bl_ifn c3 hf
  by_cases c5 : a1 = 2
  · have hf := bl_ifp c5 hf
    refine bl_swI (v := 2) (tgt := 70) X dX10_count_1 (by rw [c5]; decide) (by decide) rfl (by decide) ?_
    refine lv_aload_n X.1 X.2.1 dX10_count_70 rfl (lv_at hl 0 rfl) ?_
    refine bl_getr X V ha0 fl_X10_13 rfl dX10_count_71 (fun h6 => ?_)
    refine lv_iconst (v := 2) X.1 X.2.1 dX10_count_74 (by decide) ?_
    refine bl_iald (k := 2) X V h6 (by decide) (by decide) dX10_count_75 ?_
    exact bl_reti X V hr hf dX10_count_76
  have hf := bl_ifn c5 hf
  by_cases c7 : a1 = 3
  · have hf := bl_ifp c7 hf
    refine bl_swI (v := 3) (tgt := 77) X dX10_count_1 (by rw [c7]; decide) (by decide) rfl (by decide) ?_
    refine lv_aload_n X.1 X.2.1 dX10_count_77 rfl (lv_at hl 0 rfl) ?_
    refine bl_getr X V ha0 fl_X10_13 rfl dX10_count_78 (fun h8 => ?_)
    refine lv_iconst (v := 3) X.1 X.2.1 dX10_count_81 (by decide) ?_
    refine bl_iald (k := 3) X V h8 (by decide) (by decide) dX10_count_82 ?_
    exact bl_reti X V hr hf dX10_count_83
  have hf := bl_ifn c7 hf
  by_cases c9 : a1 = 4
  · have hf := bl_ifp c9 hf
    refine bl_swI (v := 4) (tgt := 84) X dX10_count_1 (by rw [c9]; decide) (by decide) rfl (by decide) ?_
    refine lv_aload_n X.1 X.2.1 dX10_count_84 rfl (lv_at hl 0 rfl) ?_
    refine bl_getr X V ha0 fl_X10_13 rfl dX10_count_85 (fun h10 => ?_)
    refine lv_iconst (v := 4) X.1 X.2.1 dX10_count_88 (by decide) ?_
    refine bl_iald (k := 4) X V h10 (by decide) (by decide) dX10_count_89 ?_
    exact bl_reti X V hr hf dX10_count_90
  have hf := bl_ifn c9 hf
  by_cases c11 : a1 = 5
  · have hf := bl_ifp c11 hf
    refine bl_swI (v := 5) (tgt := 91) X dX10_count_1 (by rw [c11]; decide) (by decide) rfl (by decide) ?_
    refine lv_aload_n X.1 X.2.1 dX10_count_91 rfl (lv_at hl 0 rfl) ?_
    refine bl_geti X V ha0 fl_X10_63 dX10_count_92 ?_
    exact bl_reti X V hr hf dX10_count_95
  have hf := bl_ifn c11 hf
  by_cases c12 : a1 = 6
  · have hf := bl_ifp c12 hf
    refine bl_swI (v := 6) (tgt := 96) X dX10_count_1 (by rw [c12]; decide) (by decide) rfl (by decide) ?_
    refine lv_aload_n X.1 X.2.1 dX10_count_96 rfl (lv_at hl 0 rfl) ?_
    refine bl_geti X V ha0 fl_X10_316 dX10_count_97 ?_
    exact bl_reti X V hr hf dX10_count_100
  have hf := bl_ifn c12 hf
  by_cases c13 : a1 = 7
  · have hf := bl_ifp c13 hf
    refine bl_swI (v := 7) (tgt := 101) X dX10_count_1 (by rw [c13]; decide) (by decide) rfl (by decide) ?_
    refine lv_aload_n X.1 X.2.1 dX10_count_101 rfl (lv_at hl 0 rfl) ?_
    obtain ⟨r14, σ15, h16, hf⟩ := bl_bd_at hf
    refine bl_cVi (As := []) X V hl.1 ha0 rfl ml_X10_135 mV_X10_weights (t_X10_weights l g σ a0 _ ha0 h16) rfl rfl ⟨Nat.le_of_ble_eq_true rfl, Nat.le_of_ble_eq_true rfl⟩ rfl rfl (Nat.le_of_ble_eq_true rfl) ⟨Nat.zero_le _, Nat.zero_le _⟩ dX10_count_102 (fun H locs V => ?_)
    exact bl_reti X V hr hf dX10_count_105
  have hf := bl_ifn c13 hf
  by_cases c17 : a1 = 8
  · have hf := bl_ifp c17 hf
    refine bl_swI (v := 8) (tgt := 106) X dX10_count_1 (by rw [c17]; decide) (by decide) rfl (by decide) ?_
    refine lv_aload_n X.1 X.2.1 dX10_count_106 rfl (lv_at hl 0 rfl) ?_
    refine bl_getr X V ha0 fl_X10_13 rfl dX10_count_107 (fun h18 => ?_)
    refine lv_bipush (v := 69) X.1 X.2.1 dX10_count_110 (by decide) ?_
    refine bl_iald (k := 69) X V h18 (by decide) (by decide) dX10_count_112 ?_
    exact bl_reti X V hr hf dX10_count_113
  have hf := bl_ifn c17 hf
  by_cases c19 : a1 = 9
  · have hf := bl_ifp c19 hf
    refine bl_swI (v := 9) (tgt := 114) X dX10_count_1 (by rw [c19]; decide) (by decide) rfl (by decide) ?_
    refine lv_aload_n X.1 X.2.1 dX10_count_114 rfl (lv_at hl 0 rfl) ?_
    refine bl_getr X V ha0 fl_X10_13 rfl dX10_count_115 (fun h20 => ?_)
    refine lv_bipush (v := 118) X.1 X.2.1 dX10_count_118 (by decide) ?_
    refine bl_iald (k := 118) X V h20 (by decide) (by decide) dX10_count_120 ?_
    exact bl_reti X V hr hf dX10_count_121
  have hf := bl_ifn c19 hf
  have c1 := lv_neT (a := 0) c1 (by decide)
  have c3 := lv_neT (a := 1) c3 (by decide)
  have c5 := lv_neT (a := 2) c5 (by decide)
  have c7 := lv_neT (a := 3) c7 (by decide)
  have c9 := lv_neT (a := 4) c9 (by decide)
  have c11 := lv_neT (a := 5) c11 (by decide)
  have c12 := lv_neT (a := 6) c12 (by decide)
  have c13 := lv_neT (a := 7) c13 (by decide)
  have c17 := lv_neT (a := 8) c17 (by decide)
  have c19 := lv_neT (a := 9) c19 (by decide)
  refine bl_swO (tgt := 122) X dX10_count_1 (by omega) (by decide) ?_
  refine lv_iconst (v := (-1)) X.1 X.2.1 dX10_count_122 (by decide) ?_
  exact bl_reti X V hr hf dX10_count_123
set_option maxHeartbeats 4000000 in
set_option maxRecDepth 100000 in
theorem w_X10_feed_71 {p : Program} {l : Launch} {e : Env} {s : State} {m : MethodId} {below : List Frame} {meth : Method} {c : Code} {g : bl_Gp} {as : List Value} {out : Int32 × bl_St} (X : bl_Cx g p s m as.toArray meth c cX10_feed 8 RX10) (hr : meth.sig.returnType = (Option.some Jvm.ClassFile.FieldType.int)) (k18 : bl_St → Nat → Int32 → Int32 → Int32 → Int32 → Int32 → Int32 → Option (Int32 × bl_St)) (hk18 : ∀ (σ : bl_St) (v0 : Nat) (v1 : Int32) (v2 : Int32) (v3 : Int32) (v4 : Int32) (v5 : Int32) (v6 : Int32), bl_sh[v0]? = some (10, 28) → k18 σ v0 v1 v2 v3 v4 v5 v6 = some out → ∀ (H : Heap) (locs : List Loc) (ls : Array Slot), bl_V g s σ H locs → lv_has ls 8 [(0, .ref (bl_ad g v0)), (1, .int v1), (2, .int v2), (3, .int v3), (4, .int v4), (5, .int v5), (6, .int v6)] → W p l e (bl_rm 0 0) s m as.toArray below meth c H locs 0 0 (bl_Qi below g s as out) (F0 m 18 ls [])) : ∀ (σ : bl_St) (v0 : Nat) (v1 : Int32) (v2 : Int32) (v3 : Int32) (v4 : Int32) (v5 : Int32) (v6 : Int32) (s0 : Int32), bl_sh[v0]? = some (10, 28) → (b_X10_feed_71 k18) σ v0 v1 v2 v3 v4 v5 v6 s0 = some out → ∀ (H : Heap) (locs : List Loc) (ls : Array Slot), bl_V g s σ H locs → lv_has ls 8 [(0, .ref (bl_ad g v0)), (1, .int v1), (2, .int v2), (3, .int v3), (4, .int v4), (5, .int v5), (6, .int v6)] → W p l e (bl_rm 0 0) s m as.toArray below meth c H locs 0 0 (bl_Qi below g s as out) (F0 m 71 ls [.int s0]) := by
  intro σ v0 v1 v2 v3 v4 v5 v6 s0 hv0 hf H locs ls V hl
  unfold b_X10_feed_71 at hf
  refine lv_istore (lv' := [(7, .int s0), (0, .ref (bl_ad g v0)), (1, .int v1), (2, .int v2), (3, .int v3), (4, .int v4), (5, .int v5), (6, .int v6)]) X.1 X.2.1 dX10_feed_71 hl (by decide) rfl (fun ls hl => ?_)
  refine lv_aload_n X.1 X.2.1 dX10_feed_73 rfl (lv_at hl 1 rfl) ?_
  refine bl_getr X V hv0 fl_X10_52 rfl dX10_feed_74 (fun h1 => ?_)
  refine lv_aload_n X.1 X.2.1 dX10_feed_77 rfl (lv_at hl 1 rfl) ?_
  refine bl_geti X V hv0 fl_X10_316 dX10_feed_78 ?_
  refine lv_iload X.1 X.2.1 dX10_feed_81 (lv_at hl 0 rfl) ?_
  refine lv_bipush (v := 24) X.1 X.2.1 dX10_feed_83 (by decide) ?_
  refine lv_bipush (v := 8) X.1 X.2.1 dX10_feed_85 (by decide) ?_
  refine lv_iload X.1 X.2.1 dX10_feed_87 (lv_at hl 7 rfl) ?_
  refine lv_iconst (v := 4) X.1 X.2.1 dX10_feed_89 (by decide) ?_
  refine lv_irem X.1 X.2.1 dX10_feed_90 (by decide) ?_
  refine lv_imul X.1 X.2.1 dX10_feed_91 ?_
  refine lv_isub X.1 X.2.1 dX10_feed_92 ?_
  refine lv_ishr X.1 X.2.1 dX10_feed_93 ?_
  refine lv_sipush (v := 255) X.1 X.2.1 dX10_feed_94 (by decide) ?_
  refine lv_iand X.1 X.2.1 dX10_feed_97 ?_
  obtain ⟨h2, hf⟩ := bl_gd_at hf
  refine bl_iast (k := (Int32.toNatClampNeg (bl_I σ v0 21))) X V h1 h2 rfl dX10_feed_98 (fun σ3 H locs e4 V => ?_)
  have hf := bl_let_at e4 hf
  refine lv_aload_n X.1 X.2.1 dX10_feed_99 rfl (lv_at hl 1 rfl) ?_
  refine lv_dup X.1 X.2.1 dX10_feed_100 rfl ?_
  refine bl_geti X V hv0 fl_X10_316 dX10_feed_101 ?_
  refine lv_iconst (v := 1) X.1 X.2.1 dX10_feed_104 (by decide) ?_
  refine lv_iadd X.1 X.2.1 dX10_feed_105 ?_
  refine bl_puti X V hv0 fp_X10_316 rfl rfl dX10_feed_106 (fun σ5 H locs e6 V => ?_)
  have hf := bl_let_at e6 hf
  obtain ⟨x7, e8⟩ : ∃ z : Int32, z = v6 + 1 := ⟨_, rfl⟩
  have hf := bl_let_at e8 hf
  refine lv_iinc (v := x7) (lv' := [(6, .int x7), (7, .int s0), (0, .ref (bl_ad g v0)), (1, .int v1), (2, .int v2), (3, .int v3), (4, .int v4), (5, .int v5)]) X.1 X.2.1 dX10_feed_109 hl (k := 7) rfl (by rw [e8]; rfl) (by decide) rfl (fun ls hl => ?_)
  refine lv_goto (tgt := 18) X.1 X.2.1 dX10_feed_112 (by decide) ?_
  exact hk18 σ5 v0 v1 v2 v3 v4 v5 x7 hv0 hf _ _ _ V (lv_sub hl [2, 3, 4, 5, 6, 7, 0] rfl)
set_option maxHeartbeats 4000000 in
set_option maxRecDepth 100000 in
theorem w_X10_feed_18 {p : Program} {l : Launch} {e : Env} {s : State} {m : MethodId} {below : List Frame} {meth : Method} {c : Code} {g : bl_Gp} {as : List Value} {out : Int32 × bl_St} (X : bl_Cx g p s m as.toArray meth c cX10_feed 8 RX10) (hr : meth.sig.returnType = (Option.some Jvm.ClassFile.FieldType.int)) (k18 : bl_St → Nat → Int32 → Int32 → Int32 → Int32 → Int32 → Int32 → Option (Int32 × bl_St)) (hk18 : ∀ (σ : bl_St) (v0 : Nat) (v1 : Int32) (v2 : Int32) (v3 : Int32) (v4 : Int32) (v5 : Int32) (v6 : Int32), bl_sh[v0]? = some (10, 28) → k18 σ v0 v1 v2 v3 v4 v5 v6 = some out → ∀ (H : Heap) (locs : List Loc) (ls : Array Slot), bl_V g s σ H locs → lv_has ls 8 [(0, .ref (bl_ad g v0)), (1, .int v1), (2, .int v2), (3, .int v3), (4, .int v4), (5, .int v5), (6, .int v6)] → W p l e (bl_rm 0 0) s m as.toArray below meth c H locs 0 0 (bl_Qi below g s as out) (F0 m 18 ls [])) : ∀ (σ : bl_St) (v0 : Nat) (v1 : Int32) (v2 : Int32) (v3 : Int32) (v4 : Int32) (v5 : Int32) (v6 : Int32), bl_sh[v0]? = some (10, 28) → (b_X10_feed_18 k18) σ v0 v1 v2 v3 v4 v5 v6 = some out → ∀ (H : Heap) (locs : List Loc) (ls : Array Slot), bl_V g s σ H locs → lv_has ls 8 [(0, .ref (bl_ad g v0)), (1, .int v1), (2, .int v2), (3, .int v3), (4, .int v4), (5, .int v5), (6, .int v6)] → W p l e (bl_rm 0 0) s m as.toArray below meth c H locs 0 0 (bl_Qi below g s as out) (F0 m 18 ls []) := by
  intro σ v0 v1 v2 v3 v4 v5 v6 hv0 hf H locs ls V hl
  unfold b_X10_feed_18 at hf
  refine lv_iload X.1 X.2.1 dX10_feed_18 (lv_at hl 6 rfl) ?_
  refine lv_bipush (v := 20) X.1 X.2.1 dX10_feed_20 (by decide) ?_
  refine lv_icmp_ge (tgt := 115) X.1 X.2.1 dX10_feed_22 (by decide) (fun c9 => ?_) (fun c9 => ?_)
  · have hf := bl_ifp c9 hf
    refine lv_aload_n X.1 X.2.1 dX10_feed_115 rfl (lv_at hl 0 rfl) ?_
    refine bl_geti X V hv0 fl_X10_316 dX10_feed_116 ?_
    exact bl_reti X V hr hf dX10_feed_119
  · have hf := bl_ifn c9 hf
    refine lv_iload X.1 X.2.1 dX10_feed_25 (lv_at hl 6 rfl) ?_
    refine lv_iconst (v := 4) X.1 X.2.1 dX10_feed_27 (by decide) ?_
    refine lv_icmp_ge (tgt := 35) X.1 X.2.1 dX10_feed_28 (by decide) (fun c10 => ?_) (fun c10 => ?_)
    · have hf := bl_ifp c10 hf
      refine lv_iload X.1 X.2.1 dX10_feed_35 (lv_at hl 6 rfl) ?_
      refine lv_bipush (v := 8) X.1 X.2.1 dX10_feed_37 (by decide) ?_
      refine lv_icmp_ge (tgt := 46) X.1 X.2.1 dX10_feed_39 (by decide) (fun c11 => ?_) (fun c11 => ?_)
      · have hf := bl_ifp c11 hf
        refine lv_iload X.1 X.2.1 dX10_feed_46 (lv_at hl 6 rfl) ?_
        refine lv_bipush (v := 12) X.1 X.2.1 dX10_feed_48 (by decide) ?_
        refine lv_icmp_ge (tgt := 57) X.1 X.2.1 dX10_feed_50 (by decide) (fun c12 => ?_) (fun c12 => ?_)
        · have hf := bl_ifp c12 hf
          refine lv_iload X.1 X.2.1 dX10_feed_57 (lv_at hl 6 rfl) ?_
          refine lv_bipush (v := 16) X.1 X.2.1 dX10_feed_59 (by decide) ?_
          refine lv_icmp_ge (tgt := 69) X.1 X.2.1 dX10_feed_61 (by decide) (fun c13 => ?_) (fun c13 => ?_)
          · have hf := bl_ifp c13 hf
            refine lv_iload X.1 X.2.1 dX10_feed_69 (lv_at hl 5 rfl) ?_
            exact w_X10_feed_71 X hr k18 hk18 σ v0 v1 v2 v3 v4 v5 v6 v5 hv0 hf _ _ _ V (lv_sub hl [0, 1, 2, 3, 4, 5, 6] rfl)
          · have hf := bl_ifn c13 hf
            refine lv_iload X.1 X.2.1 dX10_feed_64 (lv_at hl 4 rfl) ?_
            refine lv_goto (tgt := 71) X.1 X.2.1 dX10_feed_66 (by decide) ?_
            exact w_X10_feed_71 X hr k18 hk18 σ v0 v1 v2 v3 v4 v5 v6 v4 hv0 hf _ _ _ V (lv_sub hl [0, 1, 2, 3, 4, 5, 6] rfl)
        · have hf := bl_ifn c12 hf
          refine lv_iload_n X.1 X.2.1 dX10_feed_53 rfl (lv_at hl 3 rfl) ?_
          refine lv_goto (tgt := 71) X.1 X.2.1 dX10_feed_54 (by decide) ?_
          exact w_X10_feed_71 X hr k18 hk18 σ v0 v1 v2 v3 v4 v5 v6 v3 hv0 hf _ _ _ V (lv_sub hl [0, 1, 2, 3, 4, 5, 6] rfl)
      · have hf := bl_ifn c11 hf
        refine lv_iload_n X.1 X.2.1 dX10_feed_42 rfl (lv_at hl 2 rfl) ?_
        refine lv_goto (tgt := 71) X.1 X.2.1 dX10_feed_43 (by decide) ?_
        exact w_X10_feed_71 X hr k18 hk18 σ v0 v1 v2 v3 v4 v5 v6 v2 hv0 hf _ _ _ V (lv_sub hl [0, 1, 2, 3, 4, 5, 6] rfl)
    · have hf := bl_ifn c10 hf
      refine lv_iload_n X.1 X.2.1 dX10_feed_31 rfl (lv_at hl 1 rfl) ?_
      refine lv_goto (tgt := 71) X.1 X.2.1 dX10_feed_32 (by decide) ?_
      exact w_X10_feed_71 X hr k18 hk18 σ v0 v1 v2 v3 v4 v5 v6 v1 hv0 hf _ _ _ V (lv_sub hl [0, 1, 2, 3, 4, 5, 6] rfl)
theorem l_X10_feed_18 {p : Program} {l : Launch} {e : Env} {s : State} {m : MethodId} {below : List Frame} {meth : Method} {c : Code} {g : bl_Gp} {as : List Value} {out : Int32 × bl_St} (X : bl_Cx g p s m as.toArray meth c cX10_feed 8 RX10) (hr : meth.sig.returnType = (Option.some Jvm.ClassFile.FieldType.int)) (n : Nat) : ∀ (σ : bl_St) (v0 : Nat) (v1 : Int32) (v2 : Int32) (v3 : Int32) (v4 : Int32) (v5 : Int32) (v6 : Int32), bl_sh[v0]? = some (10, 28) → (bl_fx (fun _ _ _ _ _ _ _ _ => none) (b_X10_feed_18 ) n) σ v0 v1 v2 v3 v4 v5 v6 = some out → ∀ (H : Heap) (locs : List Loc) (ls : Array Slot), bl_V g s σ H locs → lv_has ls 8 [(0, .ref (bl_ad g v0)), (1, .int v1), (2, .int v2), (3, .int v3), (4, .int v4), (5, .int v5), (6, .int v6)] → W p l e (bl_rm 0 0) s m as.toArray below meth c H locs 0 0 (bl_Qi below g s as out) (F0 m 18 ls []) := by
  induction n with
  | zero =>
    intro σ v0 v1 v2 v3 v4 v5 v6 hv0 hf H locs ls V hl
    cases hf
  | succ n ih => exact w_X10_feed_18 X hr  _ ih
set_option maxHeartbeats 4000000 in
set_option maxRecDepth 100000 in
theorem t_X10_feed (l : Launch) (g : bl_Gp) (σ : bl_St) (a0 : Nat) (a1 : Int32) (a2 : Int32) (a3 : Int32) (a4 : Int32) (a5 : Int32) (o : Int32 × bl_St) (ha0 : bl_sh[a0]? = some (10, 28)) (hf : f_X10_feed σ a0 a1 a2 a3 a4 a5 = some o) : bl_Ci l g yX10_feed cX10_feed 8 (Option.some Jvm.ClassFile.FieldType.int) (bl_rm 0 0) [.ref (bl_ad g a0), .int a1, .int a2, .int a3, .int a4, .int a5] σ o := by
  refine bl_met (by decide) (Nat.le_of_ble_eq_true rfl) (fun p e s m below meth c ls X hr V hl => ?_)
  have hl : lv_has ls 8 [(0, .ref (bl_ad g a0)), (1, .int a1), (2, .int a2), (3, .int a3), (4, .int a4), (5, .int a5)] := hl
  unfold f_X10_feed at hf
  refine lv_aload_n X.1 X.2.1 dX10_feed_0 rfl (lv_at hl 0 rfl) ?_
  refine bl_geti X V ha0 fl_X10_316 dX10_feed_1 ?_
  refine lv_bipush (v := 20) X.1 X.2.1 dX10_feed_4 (by decide) ?_
  refine lv_iadd X.1 X.2.1 dX10_feed_6 ?_
  refine lv_sipush (v := 400) X.1 X.2.1 dX10_feed_7 (by decide) ?_
  refine lv_icmp_le (tgt := 15) X.1 X.2.1 dX10_feed_10 (by decide) (fun c14 => ?_) (fun c14 => ?_)
  · have hf := bl_ifp c14 hf
    refine lv_iconst (v := 0) X.1 X.2.1 dX10_feed_15 (by decide) ?_
    refine lv_istore (lv' := [(6, .int 0), (0, .ref (bl_ad g a0)), (1, .int a1), (2, .int a2), (3, .int a3), (4, .int a4), (5, .int a5)]) X.1 X.2.1 dX10_feed_16 hl (by decide) rfl (fun ls hl => ?_)
    exact l_X10_feed_18 X hr  bl_fu σ a0 a1 a2 a3 a4 a5 0 ha0 hf _ _ _ V (lv_sub hl [1, 2, 3, 4, 5, 6, 0] rfl)
  · have hf := bl_ifn c14 hf
    refine lv_iconst (v := (-1)) X.1 X.2.1 dX10_feed_13 (by decide) ?_
    exact bl_reti X V hr hf dX10_feed_14
set_option maxHeartbeats 4000000 in
set_option maxRecDepth 100000 in
theorem t_X10_back (l : Launch) (g : bl_Gp) (σ : bl_St) (a0 : Nat) (a1 : Int32) (o : Int32 × bl_St) (ha0 : bl_sh[a0]? = some (10, 28)) (hf : f_X10_back σ a0 a1 = some o) : bl_Ci l g yX10_back cX10_back 2 (Option.some Jvm.ClassFile.FieldType.int) (bl_rm 1 25) [.ref (bl_ad g a0), .int a1] σ o := by
  refine bl_met (by decide) (Nat.le_of_ble_eq_true rfl) (fun p e s m below meth c ls X hr V hl => ?_)
  have hl : lv_has ls 2 [(0, .ref (bl_ad g a0)), (1, .int a1)] := hl
  unfold f_X10_back at hf
  refine lv_iload_n X.1 X.2.1 dX10_back_0 rfl (lv_at hl 1 rfl) ?_
  refine lv_i2l X.1 X.2.1 dX10_back_1 rfl ?_
  refine lv_lconst (v := 0) X.1 X.2.1 dX10_back_2 (by decide) ?_
  refine lv_aload_n X.1 X.2.1 dX10_back_3 rfl (lv_at hl 0 rfl) ?_
  refine bl_geti X V ha0 fl_X10_316 dX10_back_4 ?_
  refine lv_i2l X.1 X.2.1 dX10_back_7 rfl ?_
  obtain ⟨r1, σ2, h3, hf⟩ := bl_bd_at hf
  refine bl_cSi (As := [.long (Int32.toInt64 a1), .long 0, .long (Int32.toInt64 (bl_I σ a0 21))]) X V hl.1 ml_X10_66 mS_X10_in (t_X10_in l g σ (Int32.toInt64 a1) 0 (Int32.toInt64 (bl_I σ a0 21)) _  h3) rfl rfl ⟨Nat.le_of_ble_eq_true rfl, Nat.le_of_ble_eq_true rfl⟩ rfl rfl (Nat.le_of_ble_eq_true rfl) ⟨Nat.zero_le _, Nat.zero_le _⟩ dX10_back_8 (fun H locs V => ?_)
  refine lv_if_ne (tgt := 16) X.1 X.2.1 dX10_back_11 (by decide) (fun c4 => ?_) (fun c4 => ?_)
  · have hf := bl_ifn c4 hf
    refine lv_aload_n X.1 X.2.1 dX10_back_16 rfl (lv_at hl 0 rfl) ?_
    refine lv_dup X.1 X.2.1 dX10_back_17 rfl ?_
    refine bl_geti X V ha0 fl_X10_316 dX10_back_18 ?_
    refine lv_iload_n X.1 X.2.1 dX10_back_21 rfl (lv_at hl 1 rfl) ?_
    refine lv_isub X.1 X.2.1 dX10_back_22 ?_
    refine bl_puti X V ha0 fp_X10_316 rfl rfl dX10_back_23 (fun σ5 H locs e6 V => ?_)
    have hf := bl_let_at e6 hf
    refine lv_aload_n X.1 X.2.1 dX10_back_26 rfl (lv_at hl 0 rfl) ?_
    refine bl_geti X V ha0 fl_X10_316 dX10_back_27 ?_
    exact bl_reti X V hr hf dX10_back_30
  · have hf := bl_ifp c4 hf
    refine lv_iconst (v := (-1)) X.1 X.2.1 dX10_back_14 (by decide) ?_
    exact bl_reti X V hr hf dX10_back_15
set_option maxHeartbeats 4000000 in
set_option maxRecDepth 100000 in
theorem t_X10_here (l : Launch) (g : bl_Gp) (σ : bl_St) (a0 : Nat) (o : Int32 × bl_St) (ha0 : bl_sh[a0]? = some (10, 28)) (hf : f_X10_here σ a0 = some o) : bl_Ci l g yX10_here cX10_here 1 (Option.some Jvm.ClassFile.FieldType.int) (bl_rm 0 0) [.ref (bl_ad g a0)] σ o := by
  refine bl_met (by decide) (Nat.le_of_ble_eq_true rfl) (fun p e s m below meth c ls X hr V hl => ?_)
  have hl : lv_has ls 1 [(0, .ref (bl_ad g a0))] := hl
  unfold f_X10_here at hf
  refine lv_aload_n X.1 X.2.1 dX10_here_0 rfl (lv_at hl 0 rfl) ?_
  refine bl_geti X V ha0 fl_X10_319 dX10_here_1 ?_
  refine lv_aload_n X.1 X.2.1 dX10_here_4 rfl (lv_at hl 0 rfl) ?_
  refine bl_geti X V ha0 fl_X10_316 dX10_here_5 ?_
  refine lv_icmp_ge (tgt := 23) X.1 X.2.1 dX10_here_8 (by decide) (fun c1 => ?_) (fun c1 => ?_)
  · have hf := bl_ifp c1 hf
    refine lv_iconst (v := (-1)) X.1 X.2.1 dX10_here_23 (by decide) ?_
    exact bl_reti X V hr hf dX10_here_24
  · have hf := bl_ifn c1 hf
    refine lv_aload_n X.1 X.2.1 dX10_here_11 rfl (lv_at hl 0 rfl) ?_
    refine bl_getr X V ha0 fl_X10_52 rfl dX10_here_12 (fun h2 => ?_)
    refine lv_aload_n X.1 X.2.1 dX10_here_15 rfl (lv_at hl 0 rfl) ?_
    refine bl_geti X V ha0 fl_X10_319 dX10_here_16 ?_
    obtain ⟨h3, hf⟩ := bl_gd_at hf
    refine bl_iald (k := (Int32.toNatClampNeg (bl_I σ a0 23))) X V h2 h3 rfl dX10_here_19 ?_
    refine lv_goto (tgt := 24) X.1 X.2.1 dX10_here_20 (by decide) ?_
    exact bl_reti X V hr hf dX10_here_24
set_option maxHeartbeats 4000000 in
set_option maxRecDepth 100000 in
theorem w_X10_goesOn_223 {p : Program} {l : Launch} {e : Env} {s : State} {m : MethodId} {below : List Frame} {meth : Method} {c : Code} {g : bl_Gp} {as : List Value} {out : Unit × bl_St} (X : bl_Cx g p s m as.toArray meth c cX10_goesOn 5 RX10) (hr : meth.sig.returnType = (Option.none : Option Jvm.ClassFile.FieldType)) (k174 : bl_St → Nat → Int32 → Option (Unit × bl_St)) (hk174 : ∀ (σ : bl_St) (v0 : Nat) (v3 : Int32), bl_sh[v0]? = some (10, 28) → k174 σ v0 v3 = some out → ∀ (H : Heap) (locs : List Loc) (ls : Array Slot), bl_V g s σ H locs → lv_has ls 5 [(0, .ref (bl_ad g v0)), (3, .int v3)] → W p l e (bl_rm 1 25) s m as.toArray below meth c H locs 0 0 (bl_Qv below g s as out) (F0 m 174 ls [])) : ∀ (σ : bl_St) (v0 : Nat) (v3 : Int32), bl_sh[v0]? = some (10, 28) → (b_X10_goesOn_223 k174) σ v0 v3 = some out → ∀ (H : Heap) (locs : List Loc) (ls : Array Slot), bl_V g s σ H locs → lv_has ls 5 [(0, .ref (bl_ad g v0)), (3, .int v3)] → W p l e (bl_rm 1 25) s m as.toArray below meth c H locs 0 0 (bl_Qv below g s as out) (F0 m 223 ls []) := by
  intro σ v0 v3 hv0 hf H locs ls V hl
  unfold b_X10_goesOn_223 at hf
  refine lv_aload_n X.1 X.2.1 dX10_goesOn_223 rfl (lv_at hl 0 rfl) ?_
  refine lv_dup X.1 X.2.1 dX10_goesOn_224 rfl ?_
  refine bl_geti X V hv0 fl_X10_319 dX10_goesOn_225 ?_
  refine lv_iconst (v := 1) X.1 X.2.1 dX10_goesOn_228 (by decide) ?_
  refine lv_iadd X.1 X.2.1 dX10_goesOn_229 ?_
  refine bl_puti X V hv0 fp_X10_319 rfl rfl dX10_goesOn_230 (fun σ1 H locs e2 V => ?_)
  have hf := bl_let_at e2 hf
  refine lv_goto (tgt := 174) X.1 X.2.1 dX10_goesOn_233 (by decide) ?_
  exact hk174 σ1 v0 v3 hv0 hf _ _ _ V (lv_sub hl [0, 1] rfl)
set_option maxHeartbeats 4000000 in
set_option maxRecDepth 100000 in
theorem w_X10_goesOn_174 {p : Program} {l : Launch} {e : Env} {s : State} {m : MethodId} {below : List Frame} {meth : Method} {c : Code} {g : bl_Gp} {as : List Value} {out : Unit × bl_St} (X : bl_Cx g p s m as.toArray meth c cX10_goesOn 5 RX10) (hr : meth.sig.returnType = (Option.none : Option Jvm.ClassFile.FieldType)) (k174 : bl_St → Nat → Int32 → Option (Unit × bl_St)) (hk174 : ∀ (σ : bl_St) (v0 : Nat) (v3 : Int32), bl_sh[v0]? = some (10, 28) → k174 σ v0 v3 = some out → ∀ (H : Heap) (locs : List Loc) (ls : Array Slot), bl_V g s σ H locs → lv_has ls 5 [(0, .ref (bl_ad g v0)), (3, .int v3)] → W p l e (bl_rm 1 25) s m as.toArray below meth c H locs 0 0 (bl_Qv below g s as out) (F0 m 174 ls [])) : ∀ (σ : bl_St) (v0 : Nat) (v3 : Int32), bl_sh[v0]? = some (10, 28) → (b_X10_goesOn_174 k174) σ v0 v3 = some out → ∀ (H : Heap) (locs : List Loc) (ls : Array Slot), bl_V g s σ H locs → lv_has ls 5 [(0, .ref (bl_ad g v0)), (3, .int v3)] → W p l e (bl_rm 1 25) s m as.toArray below meth c H locs 0 0 (bl_Qv below g s as out) (F0 m 174 ls []) := by
  intro σ v0 v3 hv0 hf H locs ls V hl
  unfold b_X10_goesOn_174 at hf
  refine lv_aload_n X.1 X.2.1 dX10_goesOn_174 rfl (lv_at hl 0 rfl) ?_
  obtain ⟨r3, σ4, h5, hf⟩ := bl_bd_at hf
  refine bl_cVi (As := []) X V hl.1 hv0 rfl ml_X10_325 mV_X10_here (t_X10_here l g σ v0 _ hv0 h5) rfl rfl ⟨Nat.le_of_ble_eq_true rfl, Nat.le_of_ble_eq_true rfl⟩ rfl rfl (Nat.le_of_ble_eq_true rfl) ⟨Nat.zero_le _, Nat.zero_le _⟩ dX10_goesOn_175 (fun H locs V => ?_)
  refine lv_i2l X.1 X.2.1 dX10_goesOn_178 rfl ?_
  refine lv_ldc2 (v := 48) X.1 X.2.1 X.2.2.2.1 (X.2.2.2.2.1 _ kl_X10_335) dX10_goesOn_179 ?_
  refine lv_ldc2 (v := 57) X.1 X.2.1 X.2.2.2.1 (X.2.2.2.2.1 _ kl_X10_337) dX10_goesOn_182 ?_
  obtain ⟨r6, σ7, h8, hf⟩ := bl_bd_at hf
  refine bl_cSi (As := [.long (Int32.toInt64 r3), .long 48, .long 57]) X V hl.1 ml_X10_66 mS_X10_in (t_X10_in l g σ4 (Int32.toInt64 r3) 48 57 _  h8) rfl rfl ⟨Nat.le_of_ble_eq_true rfl, Nat.le_of_ble_eq_true rfl⟩ rfl rfl (Nat.le_of_ble_eq_true rfl) ⟨Nat.zero_le _, Nat.zero_le _⟩ dX10_goesOn_185 (fun H locs V => ?_)
  refine lv_if_eq (tgt := 236) X.1 X.2.1 dX10_goesOn_188 (by decide) (fun c9 => ?_) (fun c9 => ?_)
  · have hf := bl_ifp c9 hf
    refine lv_aload_n X.1 X.2.1 dX10_goesOn_236 rfl (lv_at hl 0 rfl) ?_
    refine lv_iload_n X.1 X.2.1 dX10_goesOn_237 rfl (lv_at hl 1 rfl) ?_
    refine lv_if_ne (tgt := 254) X.1 X.2.1 dX10_goesOn_238 (by decide) (fun c10 => ?_) (fun c10 => ?_)
    · have hf := bl_ifn c10 hf
      refine lv_iconst (v := 4) X.1 X.2.1 dX10_goesOn_254 (by decide) ?_
      refine lv_goto (tgt := 259) X.1 X.2.1 dX10_goesOn_255 (by decide) ?_
      refine bl_puti X V hv0 fp_X10_322 rfl rfl dX10_goesOn_259 (fun σ11 H locs e12 V => ?_)
      have hf := bl_let_at e12 hf
      refine lv_goto (tgt := 291) X.1 X.2.1 dX10_goesOn_262 (by decide) ?_
      exact bl_retv X V hr hf dX10_goesOn_291
    · have hf := bl_ifp c10 hf
      refine lv_aload_n X.1 X.2.1 dX10_goesOn_241 rfl (lv_at hl 0 rfl) ?_
      refine bl_geti X V hv0 fl_X10_319 dX10_goesOn_242 ?_
      refine lv_aload_n X.1 X.2.1 dX10_goesOn_245 rfl (lv_at hl 0 rfl) ?_
      refine bl_geti X V hv0 fl_X10_328 dX10_goesOn_246 ?_
      refine lv_isub X.1 X.2.1 dX10_goesOn_249 ?_
      refine lv_iconst (v := 3) X.1 X.2.1 dX10_goesOn_250 (by decide) ?_
      refine lv_icmp_le (tgt := 258) X.1 X.2.1 dX10_goesOn_251 (by decide) (fun c13 => ?_) (fun c13 => ?_)
      · have hf := bl_ifp c13 hf
        refine lv_iconst (v := 2) X.1 X.2.1 dX10_goesOn_258 (by decide) ?_
        refine bl_puti X V hv0 fp_X10_322 rfl rfl dX10_goesOn_259 (fun σ14 H locs e15 V => ?_)
        have hf := bl_let_at e15 hf
        refine lv_goto (tgt := 291) X.1 X.2.1 dX10_goesOn_262 (by decide) ?_
        exact bl_retv X V hr hf dX10_goesOn_291
      · have hf := bl_ifn c13 hf
        refine lv_iconst (v := 4) X.1 X.2.1 dX10_goesOn_254 (by decide) ?_
        refine lv_goto (tgt := 259) X.1 X.2.1 dX10_goesOn_255 (by decide) ?_
        refine bl_puti X V hv0 fp_X10_322 rfl rfl dX10_goesOn_259 (fun σ16 H locs e17 V => ?_)
        have hf := bl_let_at e17 hf
        refine lv_goto (tgt := 291) X.1 X.2.1 dX10_goesOn_262 (by decide) ?_
        exact bl_retv X V hr hf dX10_goesOn_291
  · have hf := bl_ifn c9 hf
    refine lv_aload_n X.1 X.2.1 dX10_goesOn_191 rfl (lv_at hl 0 rfl) ?_
    refine bl_geti X V hv0 fl_X10_319 dX10_goesOn_192 ?_
    refine lv_aload_n X.1 X.2.1 dX10_goesOn_195 rfl (lv_at hl 0 rfl) ?_
    refine bl_geti X V hv0 fl_X10_328 dX10_goesOn_196 ?_
    refine lv_isub X.1 X.2.1 dX10_goesOn_199 ?_
    refine lv_iconst (v := 3) X.1 X.2.1 dX10_goesOn_200 (by decide) ?_
    refine lv_icmp_ge (tgt := 223) X.1 X.2.1 dX10_goesOn_201 (by decide) (fun c18 => ?_) (fun c18 => ?_)
    · have hf := bl_ifp c18 hf
      exact w_X10_goesOn_223 X hr k174 hk174 σ7 v0 v3 hv0 hf _ _ _ V (lv_sub hl [0, 1] rfl)
    · have hf := bl_ifn c18 hf
      refine lv_aload_n X.1 X.2.1 dX10_goesOn_204 rfl (lv_at hl 0 rfl) ?_
      refine lv_bipush (v := 10) X.1 X.2.1 dX10_goesOn_205 (by decide) ?_
      refine lv_aload_n X.1 X.2.1 dX10_goesOn_207 rfl (lv_at hl 0 rfl) ?_
      refine bl_geti X V hv0 fl_X10_339 dX10_goesOn_208 ?_
      refine lv_imul X.1 X.2.1 dX10_goesOn_211 ?_
      refine lv_aload_n X.1 X.2.1 dX10_goesOn_212 rfl (lv_at hl 0 rfl) ?_
      obtain ⟨r19, σ20, h21, hf⟩ := bl_bd_at hf
      refine bl_cVi (As := []) X V hl.1 hv0 rfl ml_X10_325 mV_X10_here (t_X10_here l g σ7 v0 _ hv0 h21) rfl rfl ⟨Nat.le_of_ble_eq_true rfl, Nat.le_of_ble_eq_true rfl⟩ rfl rfl (Nat.le_of_ble_eq_true rfl) ⟨Nat.zero_le _, Nat.zero_le _⟩ dX10_goesOn_213 (fun H locs V => ?_)
      refine lv_iadd X.1 X.2.1 dX10_goesOn_216 ?_
      refine lv_bipush (v := 48) X.1 X.2.1 dX10_goesOn_217 (by decide) ?_
      refine lv_isub X.1 X.2.1 dX10_goesOn_219 ?_
      refine bl_puti X V hv0 fp_X10_339 rfl rfl dX10_goesOn_220 (fun σ22 H locs e23 V => ?_)
      have hf := bl_let_at e23 hf
      exact w_X10_goesOn_223 X hr k174 hk174 σ22 v0 v3 hv0 hf _ _ _ V (lv_sub hl [0, 1] rfl)
theorem l_X10_goesOn_174 {p : Program} {l : Launch} {e : Env} {s : State} {m : MethodId} {below : List Frame} {meth : Method} {c : Code} {g : bl_Gp} {as : List Value} {out : Unit × bl_St} (X : bl_Cx g p s m as.toArray meth c cX10_goesOn 5 RX10) (hr : meth.sig.returnType = (Option.none : Option Jvm.ClassFile.FieldType)) (n : Nat) : ∀ (σ : bl_St) (v0 : Nat) (v3 : Int32), bl_sh[v0]? = some (10, 28) → (bl_fx (fun _ _ _ => none) (b_X10_goesOn_174 ) n) σ v0 v3 = some out → ∀ (H : Heap) (locs : List Loc) (ls : Array Slot), bl_V g s σ H locs → lv_has ls 5 [(0, .ref (bl_ad g v0)), (3, .int v3)] → W p l e (bl_rm 1 25) s m as.toArray below meth c H locs 0 0 (bl_Qv below g s as out) (F0 m 174 ls []) := by
  induction n with
  | zero =>
    intro σ v0 v3 hv0 hf H locs ls V hl
    cases hf
  | succ n ih => exact w_X10_goesOn_174 X hr  _ ih
set_option maxHeartbeats 4000000 in
set_option maxRecDepth 100000 in
theorem w_X10_goesOn_108 {p : Program} {l : Launch} {e : Env} {s : State} {m : MethodId} {below : List Frame} {meth : Method} {c : Code} {g : bl_Gp} {as : List Value} {out : Unit × bl_St} (X : bl_Cx g p s m as.toArray meth c cX10_goesOn 5 RX10) (hr : meth.sig.returnType = (Option.none : Option Jvm.ClassFile.FieldType)) (k108 : bl_St → Nat → Int32 → Option (Unit × bl_St)) (hk108 : ∀ (σ : bl_St) (v0 : Nat) (v3 : Int32), bl_sh[v0]? = some (10, 28) → k108 σ v0 v3 = some out → ∀ (H : Heap) (locs : List Loc) (ls : Array Slot), bl_V g s σ H locs → lv_has ls 5 [(0, .ref (bl_ad g v0)), (3, .int v3)] → W p l e (bl_rm 1 25) s m as.toArray below meth c H locs 0 0 (bl_Qv below g s as out) (F0 m 108 ls [])) : ∀ (σ : bl_St) (v0 : Nat) (v3 : Int32), bl_sh[v0]? = some (10, 28) → (b_X10_goesOn_108 k108) σ v0 v3 = some out → ∀ (H : Heap) (locs : List Loc) (ls : Array Slot), bl_V g s σ H locs → lv_has ls 5 [(0, .ref (bl_ad g v0)), (3, .int v3)] → W p l e (bl_rm 1 25) s m as.toArray below meth c H locs 0 0 (bl_Qv below g s as out) (F0 m 108 ls []) := by
  intro σ v0 v3 hv0 hf H locs ls V hl
  unfold b_X10_goesOn_108 at hf
  refine lv_aload_n X.1 X.2.1 dX10_goesOn_108 rfl (lv_at hl 0 rfl) ?_
  obtain ⟨r24, σ25, h26, hf⟩ := bl_bd_at hf
  refine bl_cVi (As := []) X V hl.1 hv0 rfl ml_X10_325 mV_X10_here (t_X10_here l g σ v0 _ hv0 h26) rfl rfl ⟨Nat.le_of_ble_eq_true rfl, Nat.le_of_ble_eq_true rfl⟩ rfl rfl (Nat.le_of_ble_eq_true rfl) ⟨Nat.zero_le _, Nat.zero_le _⟩ dX10_goesOn_109 (fun H locs V => ?_)
  refine lv_i2l X.1 X.2.1 dX10_goesOn_112 rfl ?_
  refine lv_ldc2 (v := 97) X.1 X.2.1 X.2.2.2.1 (X.2.2.2.2.1 _ kl_X10_331) dX10_goesOn_113 ?_
  refine lv_ldc2 (v := 122) X.1 X.2.1 X.2.2.2.1 (X.2.2.2.2.1 _ kl_X10_333) dX10_goesOn_116 ?_
  obtain ⟨r27, σ28, h29, hf⟩ := bl_bd_at hf
  refine bl_cSi (As := [.long (Int32.toInt64 r24), .long 97, .long 122]) X V hl.1 ml_X10_66 mS_X10_in (t_X10_in l g σ25 (Int32.toInt64 r24) 97 122 _  h29) rfl rfl ⟨Nat.le_of_ble_eq_true rfl, Nat.le_of_ble_eq_true rfl⟩ rfl rfl (Nat.le_of_ble_eq_true rfl) ⟨Nat.zero_le _, Nat.zero_le _⟩ dX10_goesOn_119 (fun H locs V => ?_)
  refine lv_if_eq (tgt := 138) X.1 X.2.1 dX10_goesOn_122 (by decide) (fun c30 => ?_) (fun c30 => ?_)
  · have hf := bl_ifp c30 hf
    refine lv_aload_n X.1 X.2.1 dX10_goesOn_138 rfl (lv_at hl 0 rfl) ?_
    refine lv_iload_n X.1 X.2.1 dX10_goesOn_139 rfl (lv_at hl 1 rfl) ?_
    refine lv_if_eq (tgt := 147) X.1 X.2.1 dX10_goesOn_140 (by decide) (fun c31 => ?_) (fun c31 => ?_)
    · have hf := bl_ifp c31 hf
      refine lv_iconst (v := 1) X.1 X.2.1 dX10_goesOn_147 (by decide) ?_
      refine bl_puti X V hv0 fp_X10_322 rfl rfl dX10_goesOn_148 (fun σ32 H locs e33 V => ?_)
      have hf := bl_let_at e33 hf
      refine lv_goto (tgt := 291) X.1 X.2.1 dX10_goesOn_151 (by decide) ?_
      exact bl_retv X V hr hf dX10_goesOn_291
    · have hf := bl_ifn c31 hf
      refine lv_iconst (v := 4) X.1 X.2.1 dX10_goesOn_143 (by decide) ?_
      refine lv_goto (tgt := 148) X.1 X.2.1 dX10_goesOn_144 (by decide) ?_
      refine bl_puti X V hv0 fp_X10_322 rfl rfl dX10_goesOn_148 (fun σ34 H locs e35 V => ?_)
      have hf := bl_let_at e35 hf
      refine lv_goto (tgt := 291) X.1 X.2.1 dX10_goesOn_151 (by decide) ?_
      exact bl_retv X V hr hf dX10_goesOn_291
  · have hf := bl_ifn c30 hf
    refine lv_aload_n X.1 X.2.1 dX10_goesOn_125 rfl (lv_at hl 0 rfl) ?_
    refine lv_dup X.1 X.2.1 dX10_goesOn_126 rfl ?_
    refine bl_geti X V hv0 fl_X10_319 dX10_goesOn_127 ?_
    refine lv_iconst (v := 1) X.1 X.2.1 dX10_goesOn_130 (by decide) ?_
    refine lv_iadd X.1 X.2.1 dX10_goesOn_131 ?_
    refine bl_puti X V hv0 fp_X10_319 rfl rfl dX10_goesOn_132 (fun σ36 H locs e37 V => ?_)
    have hf := bl_let_at e37 hf
    refine lv_goto (tgt := 108) X.1 X.2.1 dX10_goesOn_135 (by decide) ?_
    exact hk108 σ36 v0 v3 hv0 hf _ _ _ V (lv_sub hl [0, 1] rfl)
theorem l_X10_goesOn_108 {p : Program} {l : Launch} {e : Env} {s : State} {m : MethodId} {below : List Frame} {meth : Method} {c : Code} {g : bl_Gp} {as : List Value} {out : Unit × bl_St} (X : bl_Cx g p s m as.toArray meth c cX10_goesOn 5 RX10) (hr : meth.sig.returnType = (Option.none : Option Jvm.ClassFile.FieldType)) (n : Nat) : ∀ (σ : bl_St) (v0 : Nat) (v3 : Int32), bl_sh[v0]? = some (10, 28) → (bl_fx (fun _ _ _ => none) (b_X10_goesOn_108 ) n) σ v0 v3 = some out → ∀ (H : Heap) (locs : List Loc) (ls : Array Slot), bl_V g s σ H locs → lv_has ls 5 [(0, .ref (bl_ad g v0)), (3, .int v3)] → W p l e (bl_rm 1 25) s m as.toArray below meth c H locs 0 0 (bl_Qv below g s as out) (F0 m 108 ls []) := by
  induction n with
  | zero =>
    intro σ v0 v3 hv0 hf H locs ls V hl
    cases hf
  | succ n ih => exact w_X10_goesOn_108 X hr  _ ih
set_option maxHeartbeats 4000000 in
set_option maxRecDepth 100000 in
theorem w_X10_goesOn_72 {p : Program} {l : Launch} {e : Env} {s : State} {m : MethodId} {below : List Frame} {meth : Method} {c : Code} {g : bl_Gp} {as : List Value} {out : Unit × bl_St} (X : bl_Cx g p s m as.toArray meth c cX10_goesOn 5 RX10) (hr : meth.sig.returnType = (Option.none : Option Jvm.ClassFile.FieldType)) : ∀ (σ : bl_St) (v0 : Nat) (s0 : Int32), bl_sh[v0]? = some (10, 28) → (b_X10_goesOn_72 ) σ v0 s0 = some out → ∀ (H : Heap) (locs : List Loc) (ls : Array Slot), bl_V g s σ H locs → lv_has ls 5 [(0, .ref (bl_ad g v0))] → W p l e (bl_rm 1 25) s m as.toArray below meth c H locs 0 0 (bl_Qv below g s as out) (F0 m 72 ls [.int s0]) := by
  intro σ v0 s0 hv0 hf H locs ls V hl
  unfold b_X10_goesOn_72 at hf
  refine lv_istore_n (lv' := [(3, .int s0), (0, .ref (bl_ad g v0))]) X.1 X.2.1 dX10_goesOn_72 rfl hl (by decide) rfl (fun ls hl => ?_)
  refine lv_aload_n X.1 X.2.1 dX10_goesOn_73 rfl (lv_at hl 1 rfl) ?_
  obtain ⟨r38, σ39, h40, hf⟩ := bl_bd_at hf
  refine bl_cVi (As := []) X V hl.1 hv0 rfl ml_X10_325 mV_X10_here (t_X10_here l g σ v0 _ hv0 h40) rfl rfl ⟨Nat.le_of_ble_eq_true rfl, Nat.le_of_ble_eq_true rfl⟩ rfl rfl (Nat.le_of_ble_eq_true rfl) ⟨Nat.zero_le _, Nat.zero_le _⟩ dX10_goesOn_74 (fun H locs V => ?_)
  refine lv_istore (lv' := [(4, .int r38), (3, .int s0), (0, .ref (bl_ad g v0))]) X.1 X.2.1 dX10_goesOn_77 hl (by decide) rfl (fun ls hl => ?_)
  refine lv_iload X.1 X.2.1 dX10_goesOn_79 (lv_at hl 0 rfl) ?_
  refine lv_iconst (v := (-1)) X.1 X.2.1 dX10_goesOn_81 (by decide) ?_
  refine lv_icmp_ne (tgt := 93) X.1 X.2.1 dX10_goesOn_82 (by decide) (fun c41 => ?_) (fun c41 => ?_)
  · have hf := bl_ifn c41 hf
    refine lv_iload X.1 X.2.1 dX10_goesOn_93 (lv_at hl 0 rfl) ?_
    refine lv_i2l X.1 X.2.1 dX10_goesOn_95 rfl ?_
    refine lv_ldc2 (v := 97) X.1 X.2.1 X.2.2.2.1 (X.2.2.2.2.1 _ kl_X10_331) dX10_goesOn_96 ?_
    refine lv_ldc2 (v := 122) X.1 X.2.1 X.2.2.2.1 (X.2.2.2.2.1 _ kl_X10_333) dX10_goesOn_99 ?_
    obtain ⟨r42, σ43, h44, hf⟩ := bl_bd_at hf
    refine bl_cSi (As := [.long (Int32.toInt64 r38), .long 97, .long 122]) X V hl.1 ml_X10_66 mS_X10_in (t_X10_in l g σ39 (Int32.toInt64 r38) 97 122 _  h44) rfl rfl ⟨Nat.le_of_ble_eq_true rfl, Nat.le_of_ble_eq_true rfl⟩ rfl rfl (Nat.le_of_ble_eq_true rfl) ⟨Nat.zero_le _, Nat.zero_le _⟩ dX10_goesOn_102 (fun H locs V => ?_)
    refine lv_if_eq (tgt := 154) X.1 X.2.1 dX10_goesOn_105 (by decide) (fun c45 => ?_) (fun c45 => ?_)
    · have hf := bl_ifp c45 hf
      refine lv_iload X.1 X.2.1 dX10_goesOn_154 (lv_at hl 0 rfl) ?_
      refine lv_i2l X.1 X.2.1 dX10_goesOn_156 rfl ?_
      refine lv_ldc2 (v := 48) X.1 X.2.1 X.2.2.2.1 (X.2.2.2.2.1 _ kl_X10_335) dX10_goesOn_157 ?_
      refine lv_ldc2 (v := 57) X.1 X.2.1 X.2.2.2.1 (X.2.2.2.2.1 _ kl_X10_337) dX10_goesOn_160 ?_
      obtain ⟨r46, σ47, h48, hf⟩ := bl_bd_at hf
      refine bl_cSi (As := [.long (Int32.toInt64 r38), .long 48, .long 57]) X V hl.1 ml_X10_66 mS_X10_in (t_X10_in l g σ43 (Int32.toInt64 r38) 48 57 _  h48) rfl rfl ⟨Nat.le_of_ble_eq_true rfl, Nat.le_of_ble_eq_true rfl⟩ rfl rfl (Nat.le_of_ble_eq_true rfl) ⟨Nat.zero_le _, Nat.zero_le _⟩ dX10_goesOn_163 (fun H locs V => ?_)
      refine lv_if_eq (tgt := 265) X.1 X.2.1 dX10_goesOn_166 (by decide) (fun c49 => ?_) (fun c49 => ?_)
      · have hf := bl_ifp c49 hf
        refine lv_aload_n X.1 X.2.1 dX10_goesOn_265 rfl (lv_at hl 2 rfl) ?_
        refine lv_dup X.1 X.2.1 dX10_goesOn_266 rfl ?_
        refine bl_geti X V hv0 fl_X10_319 dX10_goesOn_267 ?_
        refine lv_iconst (v := 1) X.1 X.2.1 dX10_goesOn_270 (by decide) ?_
        refine lv_iadd X.1 X.2.1 dX10_goesOn_271 ?_
        refine bl_puti X V hv0 fp_X10_319 rfl rfl dX10_goesOn_272 (fun σ50 H locs e51 V => ?_)
        have hf := bl_let_at e51 hf
        refine lv_aload_n X.1 X.2.1 dX10_goesOn_275 rfl (lv_at hl 2 rfl) ?_
        refine lv_iload X.1 X.2.1 dX10_goesOn_276 (lv_at hl 0 rfl) ?_
        refine lv_bipush (v := 59) X.1 X.2.1 dX10_goesOn_278 (by decide) ?_
        refine lv_icmp_ne (tgt := 287) X.1 X.2.1 dX10_goesOn_280 (by decide) (fun c52 => ?_) (fun c52 => ?_)
        · have hf := bl_ifn c52 hf
          refine lv_iconst (v := 4) X.1 X.2.1 dX10_goesOn_287 (by decide) ?_
          refine bl_puti X V hv0 fp_X10_322 rfl rfl dX10_goesOn_288 (fun σ53 H locs e54 V => ?_)
          have hf := bl_let_at e54 hf
          exact bl_retv X V hr hf dX10_goesOn_291
        · have hf := bl_ifp c52 hf
          refine lv_iconst (v := 3) X.1 X.2.1 dX10_goesOn_283 (by decide) ?_
          refine lv_goto (tgt := 288) X.1 X.2.1 dX10_goesOn_284 (by decide) ?_
          refine bl_puti X V hv0 fp_X10_322 rfl rfl dX10_goesOn_288 (fun σ55 H locs e56 V => ?_)
          have hf := bl_let_at e56 hf
          exact bl_retv X V hr hf dX10_goesOn_291
      · have hf := bl_ifn c49 hf
        refine lv_aload_n X.1 X.2.1 dX10_goesOn_169 rfl (lv_at hl 2 rfl) ?_
        refine lv_iconst (v := 0) X.1 X.2.1 dX10_goesOn_170 (by decide) ?_
        refine bl_puti X V hv0 fp_X10_339 rfl rfl dX10_goesOn_171 (fun σ57 H locs e58 V => ?_)
        have hf := bl_let_at e58 hf
        exact l_X10_goesOn_174 X hr  bl_fu σ57 v0 s0 hv0 hf _ _ _ V (lv_sub hl [2, 1] rfl)
    · have hf := bl_ifn c45 hf
      exact l_X10_goesOn_108 X hr  bl_fu σ43 v0 s0 hv0 hf _ _ _ V (lv_sub hl [2, 1] rfl)
  · have hf := bl_ifp c41 hf
    refine lv_aload_n X.1 X.2.1 dX10_goesOn_85 rfl (lv_at hl 2 rfl) ?_
    refine lv_iconst (v := 0) X.1 X.2.1 dX10_goesOn_86 (by decide) ?_
    refine bl_puti X V hv0 fp_X10_322 rfl rfl dX10_goesOn_87 (fun σ59 H locs e60 V => ?_)
    have hf := bl_let_at e60 hf
    refine lv_goto (tgt := 291) X.1 X.2.1 dX10_goesOn_90 (by decide) ?_
    exact bl_retv X V hr hf dX10_goesOn_291
set_option maxHeartbeats 4000000 in
set_option maxRecDepth 100000 in
theorem w_X10_goesOn_71 {p : Program} {l : Launch} {e : Env} {s : State} {m : MethodId} {below : List Frame} {meth : Method} {c : Code} {g : bl_Gp} {as : List Value} {out : Unit × bl_St} (X : bl_Cx g p s m as.toArray meth c cX10_goesOn 5 RX10) (hr : meth.sig.returnType = (Option.none : Option Jvm.ClassFile.FieldType)) : ∀ (σ : bl_St) (v0 : Nat), bl_sh[v0]? = some (10, 28) → (b_X10_goesOn_71 ) σ v0 = some out → ∀ (H : Heap) (locs : List Loc) (ls : Array Slot), bl_V g s σ H locs → lv_has ls 5 [(0, .ref (bl_ad g v0))] → W p l e (bl_rm 1 25) s m as.toArray below meth c H locs 0 0 (bl_Qv below g s as out) (F0 m 71 ls []) := by
  intro σ v0 hv0 hf H locs ls V hl
  unfold b_X10_goesOn_71 at hf
  refine lv_iconst (v := 0) X.1 X.2.1 dX10_goesOn_71 (by decide) ?_
  exact w_X10_goesOn_72 X hr  σ v0 0 hv0 hf _ _ _ V (lv_sub hl [0] rfl)
set_option maxHeartbeats 4000000 in
set_option maxRecDepth 100000 in
theorem w_X10_goesOn_67 {p : Program} {l : Launch} {e : Env} {s : State} {m : MethodId} {below : List Frame} {meth : Method} {c : Code} {g : bl_Gp} {as : List Value} {out : Unit × bl_St} (X : bl_Cx g p s m as.toArray meth c cX10_goesOn 5 RX10) (hr : meth.sig.returnType = (Option.none : Option Jvm.ClassFile.FieldType)) : ∀ (σ : bl_St) (v0 : Nat), bl_sh[v0]? = some (10, 28) → (b_X10_goesOn_67 ) σ v0 = some out → ∀ (H : Heap) (locs : List Loc) (ls : Array Slot), bl_V g s σ H locs → lv_has ls 5 [(0, .ref (bl_ad g v0))] → W p l e (bl_rm 1 25) s m as.toArray below meth c H locs 0 0 (bl_Qv below g s as out) (F0 m 67 ls []) := by
  intro σ v0 hv0 hf H locs ls V hl
  unfold b_X10_goesOn_67 at hf
  refine lv_iconst (v := 1) X.1 X.2.1 dX10_goesOn_67 (by decide) ?_
  refine lv_goto (tgt := 72) X.1 X.2.1 dX10_goesOn_68 (by decide) ?_
  exact w_X10_goesOn_72 X hr  σ v0 1 hv0 hf _ _ _ V (lv_sub hl [0] rfl)
set_option maxHeartbeats 4000000 in
set_option maxRecDepth 100000 in
theorem w_X10_goesOn_28 {p : Program} {l : Launch} {e : Env} {s : State} {m : MethodId} {below : List Frame} {meth : Method} {c : Code} {g : bl_Gp} {as : List Value} {out : Unit × bl_St} (X : bl_Cx g p s m as.toArray meth c cX10_goesOn 5 RX10) (hr : meth.sig.returnType = (Option.none : Option Jvm.ClassFile.FieldType)) (k10 : bl_St → Nat → Int32 → Int32 → Option (Unit × bl_St)) (hk10 : ∀ (σ : bl_St) (v0 : Nat) (v1 : Int32) (v2 : Int32), bl_sh[v0]? = some (10, 28) → k10 σ v0 v1 v2 = some out → ∀ (H : Heap) (locs : List Loc) (ls : Array Slot), bl_V g s σ H locs → lv_has ls 5 [(0, .ref (bl_ad g v0)), (1, .int v1), (2, .int v2)] → W p l e (bl_rm 1 25) s m as.toArray below meth c H locs 0 0 (bl_Qv below g s as out) (F0 m 10 ls [])) : ∀ (σ : bl_St) (v0 : Nat) (v1 : Int32) (v2 : Int32), bl_sh[v0]? = some (10, 28) → (b_X10_goesOn_28 k10) σ v0 v1 v2 = some out → ∀ (H : Heap) (locs : List Loc) (ls : Array Slot), bl_V g s σ H locs → lv_has ls 5 [(0, .ref (bl_ad g v0)), (1, .int v1), (2, .int v2)] → W p l e (bl_rm 1 25) s m as.toArray below meth c H locs 0 0 (bl_Qv below g s as out) (F0 m 28 ls []) := by
  intro σ v0 v1 v2 hv0 hf H locs ls V hl
  unfold b_X10_goesOn_28 at hf
  refine lv_aload_n X.1 X.2.1 dX10_goesOn_28 rfl (lv_at hl 0 rfl) ?_
  refine lv_dup X.1 X.2.1 dX10_goesOn_29 rfl ?_
  refine bl_geti X V hv0 fl_X10_319 dX10_goesOn_30 ?_
  refine lv_iconst (v := 1) X.1 X.2.1 dX10_goesOn_33 (by decide) ?_
  refine lv_iadd X.1 X.2.1 dX10_goesOn_34 ?_
  refine bl_puti X V hv0 fp_X10_319 rfl rfl dX10_goesOn_35 (fun σ61 H locs e62 V => ?_)
  have hf := bl_let_at e62 hf
  refine lv_goto (tgt := 10) X.1 X.2.1 dX10_goesOn_38 (by decide) ?_
  exact hk10 σ61 v0 v1 v2 hv0 hf _ _ _ V (lv_sub hl [0, 1, 2] rfl)
set_option maxHeartbeats 4000000 in
set_option maxRecDepth 100000 in
theorem w_X10_goesOn_10 {p : Program} {l : Launch} {e : Env} {s : State} {m : MethodId} {below : List Frame} {meth : Method} {c : Code} {g : bl_Gp} {as : List Value} {out : Unit × bl_St} (X : bl_Cx g p s m as.toArray meth c cX10_goesOn 5 RX10) (hr : meth.sig.returnType = (Option.none : Option Jvm.ClassFile.FieldType)) (k10 : bl_St → Nat → Int32 → Int32 → Option (Unit × bl_St)) (hk10 : ∀ (σ : bl_St) (v0 : Nat) (v1 : Int32) (v2 : Int32), bl_sh[v0]? = some (10, 28) → k10 σ v0 v1 v2 = some out → ∀ (H : Heap) (locs : List Loc) (ls : Array Slot), bl_V g s σ H locs → lv_has ls 5 [(0, .ref (bl_ad g v0)), (1, .int v1), (2, .int v2)] → W p l e (bl_rm 1 25) s m as.toArray below meth c H locs 0 0 (bl_Qv below g s as out) (F0 m 10 ls [])) : ∀ (σ : bl_St) (v0 : Nat) (v1 : Int32) (v2 : Int32), bl_sh[v0]? = some (10, 28) → (b_X10_goesOn_10 k10) σ v0 v1 v2 = some out → ∀ (H : Heap) (locs : List Loc) (ls : Array Slot), bl_V g s σ H locs → lv_has ls 5 [(0, .ref (bl_ad g v0)), (1, .int v1), (2, .int v2)] → W p l e (bl_rm 1 25) s m as.toArray below meth c H locs 0 0 (bl_Qv below g s as out) (F0 m 10 ls []) := by
  intro σ v0 v1 v2 hv0 hf H locs ls V hl
  unfold b_X10_goesOn_10 at hf
  refine lv_aload_n X.1 X.2.1 dX10_goesOn_10 rfl (lv_at hl 0 rfl) ?_
  obtain ⟨r63, σ64, h65, hf⟩ := bl_bd_at hf
  refine bl_cVi (As := []) X V hl.1 hv0 rfl ml_X10_325 mV_X10_here (t_X10_here l g σ v0 _ hv0 h65) rfl rfl ⟨Nat.le_of_ble_eq_true rfl, Nat.le_of_ble_eq_true rfl⟩ rfl rfl (Nat.le_of_ble_eq_true rfl) ⟨Nat.zero_le _, Nat.zero_le _⟩ dX10_goesOn_11 (fun H locs V => ?_)
  refine lv_bipush (v := 32) X.1 X.2.1 dX10_goesOn_14 (by decide) ?_
  refine lv_icmp_eq (tgt := 28) X.1 X.2.1 dX10_goesOn_16 (by decide) (fun c66 => ?_) (fun c66 => ?_)
  · have hf := bl_ifp c66 hf
    exact w_X10_goesOn_28 X hr k10 hk10 σ64 v0 v1 v2 hv0 hf _ _ _ V (lv_sub hl [0, 1, 2] rfl)
  · have hf := bl_ifn c66 hf
    refine lv_aload_n X.1 X.2.1 dX10_goesOn_19 rfl (lv_at hl 0 rfl) ?_
    obtain ⟨r67, σ68, h69, hf⟩ := bl_bd_at hf
    refine bl_cVi (As := []) X V hl.1 hv0 rfl ml_X10_325 mV_X10_here (t_X10_here l g σ64 v0 _ hv0 h69) rfl rfl ⟨Nat.le_of_ble_eq_true rfl, Nat.le_of_ble_eq_true rfl⟩ rfl rfl (Nat.le_of_ble_eq_true rfl) ⟨Nat.zero_le _, Nat.zero_le _⟩ dX10_goesOn_20 (fun H locs V => ?_)
    refine lv_bipush (v := 10) X.1 X.2.1 dX10_goesOn_23 (by decide) ?_
    refine lv_icmp_ne (tgt := 41) X.1 X.2.1 dX10_goesOn_25 (by decide) (fun c70 => ?_) (fun c70 => ?_)
    · have hf := bl_ifn c70 hf
      refine lv_aload_n X.1 X.2.1 dX10_goesOn_41 rfl (lv_at hl 0 rfl) ?_
      refine lv_aload_n X.1 X.2.1 dX10_goesOn_42 rfl (lv_at hl 0 rfl) ?_
      refine bl_geti X V hv0 fl_X10_319 dX10_goesOn_43 ?_
      refine bl_puti X V hv0 fp_X10_328 rfl rfl dX10_goesOn_46 (fun σ71 H locs e72 V => ?_)
      have hf := bl_let_at e72 hf
      refine lv_aload_n X.1 X.2.1 dX10_goesOn_49 rfl (lv_at hl 0 rfl) ?_
      refine bl_geti X V hv0 fl_X10_328 dX10_goesOn_50 ?_
      refine lv_iload_n X.1 X.2.1 dX10_goesOn_53 rfl (lv_at hl 2 rfl) ?_
      refine lv_icmp_ne (tgt := 71) X.1 X.2.1 dX10_goesOn_54 (by decide) (fun c73 => ?_) (fun c73 => ?_)
      · have hf := bl_ifn c73 hf
        exact w_X10_goesOn_71 X hr  σ71 v0 hv0 hf _ _ _ V (lv_sub hl [0] rfl)
      · have hf := bl_ifp c73 hf
        refine lv_iload_n X.1 X.2.1 dX10_goesOn_57 rfl (lv_at hl 1 rfl) ?_
        refine lv_iconst (v := 1) X.1 X.2.1 dX10_goesOn_58 (by decide) ?_
        refine lv_icmp_eq (tgt := 67) X.1 X.2.1 dX10_goesOn_59 (by decide) (fun c74 => ?_) (fun c74 => ?_)
        · have hf := bl_ifp c74 hf
          exact w_X10_goesOn_67 X hr  σ71 v0 hv0 hf _ _ _ V (lv_sub hl [0] rfl)
        · have hf := bl_ifn c74 hf
          refine lv_iload_n X.1 X.2.1 dX10_goesOn_62 rfl (lv_at hl 1 rfl) ?_
          refine lv_iconst (v := 2) X.1 X.2.1 dX10_goesOn_63 (by decide) ?_
          refine lv_icmp_ne (tgt := 71) X.1 X.2.1 dX10_goesOn_64 (by decide) (fun c75 => ?_) (fun c75 => ?_)
          · have hf := bl_ifn c75 hf
            exact w_X10_goesOn_71 X hr  σ71 v0 hv0 hf _ _ _ V (lv_sub hl [0] rfl)
          · have hf := bl_ifp c75 hf
            exact w_X10_goesOn_67 X hr  σ71 v0 hv0 hf _ _ _ V (lv_sub hl [0] rfl)
    · have hf := bl_ifp c70 hf
      exact w_X10_goesOn_28 X hr k10 hk10 σ68 v0 v1 v2 hv0 hf _ _ _ V (lv_sub hl [0, 1, 2] rfl)
theorem l_X10_goesOn_10 {p : Program} {l : Launch} {e : Env} {s : State} {m : MethodId} {below : List Frame} {meth : Method} {c : Code} {g : bl_Gp} {as : List Value} {out : Unit × bl_St} (X : bl_Cx g p s m as.toArray meth c cX10_goesOn 5 RX10) (hr : meth.sig.returnType = (Option.none : Option Jvm.ClassFile.FieldType)) (n : Nat) : ∀ (σ : bl_St) (v0 : Nat) (v1 : Int32) (v2 : Int32), bl_sh[v0]? = some (10, 28) → (bl_fx (fun _ _ _ _ => none) (b_X10_goesOn_10 ) n) σ v0 v1 v2 = some out → ∀ (H : Heap) (locs : List Loc) (ls : Array Slot), bl_V g s σ H locs → lv_has ls 5 [(0, .ref (bl_ad g v0)), (1, .int v1), (2, .int v2)] → W p l e (bl_rm 1 25) s m as.toArray below meth c H locs 0 0 (bl_Qv below g s as out) (F0 m 10 ls []) := by
  induction n with
  | zero =>
    intro σ v0 v1 v2 hv0 hf H locs ls V hl
    cases hf
  | succ n ih => exact w_X10_goesOn_10 X hr  _ ih
set_option maxHeartbeats 4000000 in
set_option maxRecDepth 100000 in
theorem t_X10_goesOn (l : Launch) (g : bl_Gp) (σ : bl_St) (a0 : Nat) (o : Unit × bl_St) (ha0 : bl_sh[a0]? = some (10, 28)) (hf : f_X10_goesOn σ a0 = some o) : bl_Cv l g yX10_goesOn cX10_goesOn 5 (Option.none : Option Jvm.ClassFile.FieldType) (bl_rm 1 25) [.ref (bl_ad g a0)] σ o := by
  refine bl_met (by decide) (Nat.le_of_ble_eq_true rfl) (fun p e s m below meth c ls X hr V hl => ?_)
  have hl : lv_has ls 5 [(0, .ref (bl_ad g a0))] := hl
  unfold f_X10_goesOn at hf
  refine lv_aload_n X.1 X.2.1 dX10_goesOn_0 rfl (lv_at hl 0 rfl) ?_
  refine bl_geti X V ha0 fl_X10_322 dX10_goesOn_1 ?_
  refine lv_topi (fun x76 e77 => ?_)
  have hf := bl_let_at e77 hf
  refine lv_istore_n (lv' := [(1, .int x76), (0, .ref (bl_ad g a0))]) X.1 X.2.1 dX10_goesOn_4 rfl hl (by decide) rfl (fun ls hl => ?_)
  refine lv_aload_n X.1 X.2.1 dX10_goesOn_5 rfl (lv_at hl 1 rfl) ?_
  refine bl_geti X V ha0 fl_X10_319 dX10_goesOn_6 ?_
  refine lv_topi (fun x78 e79 => ?_)
  have hf := bl_let_at e79 hf
  refine lv_istore_n (lv' := [(2, .int x78), (1, .int x76), (0, .ref (bl_ad g a0))]) X.1 X.2.1 dX10_goesOn_9 rfl hl (by decide) rfl (fun ls hl => ?_)
  exact l_X10_goesOn_10 X hr  bl_fu σ a0 x76 x78 ha0 hf _ _ _ V (lv_sub hl [2, 1, 0] rfl)
set_option maxHeartbeats 4000000 in
set_option maxRecDepth 100000 in
theorem w_X10_takesWord_66 {p : Program} {l : Launch} {e : Env} {s : State} {m : MethodId} {below : List Frame} {meth : Method} {c : Code} {g : bl_Gp} {as : List Value} {out : Int32 × bl_St} (X : bl_Cx g p s m as.toArray meth c cX10_takesWord 4 RX10) (hr : meth.sig.returnType = (Option.some Jvm.ClassFile.FieldType.boolean)) : ∀ (σ : bl_St) (v0 : Nat) (v2 : Int32) (v3 : Int32), bl_sh[v0]? = some (10, 28) → (b_X10_takesWord_66 ) σ v0 v2 v3 = some out → ∀ (H : Heap) (locs : List Loc) (ls : Array Slot), bl_V g s σ H locs → lv_has ls 4 [(0, .ref (bl_ad g v0)), (2, .int v2), (3, .int v3)] → W p l e (bl_rm 2 49) s m as.toArray below meth c H locs 0 0 (bl_Qi below g s as out) (F0 m 66 ls []) := by
  intro σ v0 v2 v3 hv0 hf H locs ls V hl
  unfold b_X10_takesWord_66 at hf
  refine lv_aload_n X.1 X.2.1 dX10_takesWord_66 rfl (lv_at hl 0 rfl) ?_
  refine bl_geti X V hv0 fl_X10_328 dX10_takesWord_67 ?_
  refine lv_iload_n X.1 X.2.1 dX10_takesWord_70 rfl (lv_at hl 2 rfl) ?_
  refine lv_iadd X.1 X.2.1 dX10_takesWord_71 ?_
  refine lv_aload_n X.1 X.2.1 dX10_takesWord_72 rfl (lv_at hl 0 rfl) ?_
  refine bl_geti X V hv0 fl_X10_319 dX10_takesWord_73 ?_
  refine lv_icmp_ne (tgt := 90) X.1 X.2.1 dX10_takesWord_76 (by decide) (fun c1 => ?_) (fun c1 => ?_)
  · have hf := bl_ifn c1 hf
    refine lv_iconst (v := 0) X.1 X.2.1 dX10_takesWord_90 (by decide) ?_
    exact bl_retz X V hr (by decide) hf dX10_takesWord_91
  · have hf := bl_ifp c1 hf
    refine lv_aload_n X.1 X.2.1 dX10_takesWord_79 rfl (lv_at hl 0 rfl) ?_
    refine bl_getr X V hv0 fl_X10_55 rfl dX10_takesWord_80 (fun h2 => ?_)
    refine lv_iload_n X.1 X.2.1 dX10_takesWord_83 rfl (lv_at hl 1 rfl) ?_
    refine lv_iload_n X.1 X.2.1 dX10_takesWord_84 rfl (lv_at hl 2 rfl) ?_
    refine lv_iadd X.1 X.2.1 dX10_takesWord_85 ?_
    obtain ⟨h3, hf⟩ := bl_gd_at hf
    refine bl_bald (k := (Int32.toNatClampNeg (v2 + v3))) X V h2 h3 rfl dX10_takesWord_86 ?_
    refine lv_if_eq (tgt := 92) X.1 X.2.1 dX10_takesWord_87 (by decide) (fun c4 => ?_) (fun c4 => ?_)
    · have hf := bl_ifp c4 hf
      refine lv_aload_n X.1 X.2.1 dX10_takesWord_92 rfl (lv_at hl 0 rfl) ?_
      obtain ⟨r5, σ6, h7, hf⟩ := bl_bd_at hf
      refine bl_cVv (As := []) X V hl.1 hv0 rfl ml_X10_345 mV_X10_goesOn (t_X10_goesOn l g σ v0 _ hv0 h7) rfl rfl ⟨Nat.le_of_ble_eq_true rfl, Nat.le_of_ble_eq_true rfl⟩ rfl rfl (Nat.le_of_ble_eq_true rfl) ⟨Nat.zero_le _, Nat.zero_le _⟩ dX10_takesWord_93 (fun H locs V => ?_)
      refine lv_iconst (v := 1) X.1 X.2.1 dX10_takesWord_96 (by decide) ?_
      exact bl_retz X V hr (by decide) hf dX10_takesWord_97
    · have hf := bl_ifn c4 hf
      refine lv_iconst (v := 0) X.1 X.2.1 dX10_takesWord_90 (by decide) ?_
      exact bl_retz X V hr (by decide) hf dX10_takesWord_91
set_option maxHeartbeats 4000000 in
set_option maxRecDepth 100000 in
theorem w_X10_takesWord_25 {p : Program} {l : Launch} {e : Env} {s : State} {m : MethodId} {below : List Frame} {meth : Method} {c : Code} {g : bl_Gp} {as : List Value} {out : Int32 × bl_St} (X : bl_Cx g p s m as.toArray meth c cX10_takesWord 4 RX10) (hr : meth.sig.returnType = (Option.some Jvm.ClassFile.FieldType.boolean)) (k25 : bl_St → Nat → Int32 → Int32 → Option (Int32 × bl_St)) (hk25 : ∀ (σ : bl_St) (v0 : Nat) (v2 : Int32) (v3 : Int32), bl_sh[v0]? = some (10, 28) → k25 σ v0 v2 v3 = some out → ∀ (H : Heap) (locs : List Loc) (ls : Array Slot), bl_V g s σ H locs → lv_has ls 4 [(0, .ref (bl_ad g v0)), (2, .int v2), (3, .int v3)] → W p l e (bl_rm 2 49) s m as.toArray below meth c H locs 0 0 (bl_Qi below g s as out) (F0 m 25 ls [])) : ∀ (σ : bl_St) (v0 : Nat) (v2 : Int32) (v3 : Int32), bl_sh[v0]? = some (10, 28) → (b_X10_takesWord_25 k25) σ v0 v2 v3 = some out → ∀ (H : Heap) (locs : List Loc) (ls : Array Slot), bl_V g s σ H locs → lv_has ls 4 [(0, .ref (bl_ad g v0)), (2, .int v2), (3, .int v3)] → W p l e (bl_rm 2 49) s m as.toArray below meth c H locs 0 0 (bl_Qi below g s as out) (F0 m 25 ls []) := by
  intro σ v0 v2 v3 hv0 hf H locs ls V hl
  unfold b_X10_takesWord_25 at hf
  refine lv_aload_n X.1 X.2.1 dX10_takesWord_25 rfl (lv_at hl 0 rfl) ?_
  refine bl_geti X V hv0 fl_X10_328 dX10_takesWord_26 ?_
  refine lv_iload_n X.1 X.2.1 dX10_takesWord_29 rfl (lv_at hl 2 rfl) ?_
  refine lv_iadd X.1 X.2.1 dX10_takesWord_30 ?_
  refine lv_aload_n X.1 X.2.1 dX10_takesWord_31 rfl (lv_at hl 0 rfl) ?_
  refine bl_geti X V hv0 fl_X10_319 dX10_takesWord_32 ?_
  refine lv_icmp_ge (tgt := 66) X.1 X.2.1 dX10_takesWord_35 (by decide) (fun c8 => ?_) (fun c8 => ?_)
  · have hf := bl_ifp c8 hf
    exact w_X10_takesWord_66 X hr  σ v0 v2 v3 hv0 hf _ _ _ V (lv_sub hl [0, 1, 2] rfl)
  · have hf := bl_ifn c8 hf
    refine lv_aload_n X.1 X.2.1 dX10_takesWord_38 rfl (lv_at hl 0 rfl) ?_
    refine bl_getr X V hv0 fl_X10_55 rfl dX10_takesWord_39 (fun h9 => ?_)
    refine lv_iload_n X.1 X.2.1 dX10_takesWord_42 rfl (lv_at hl 1 rfl) ?_
    refine lv_iload_n X.1 X.2.1 dX10_takesWord_43 rfl (lv_at hl 2 rfl) ?_
    refine lv_iadd X.1 X.2.1 dX10_takesWord_44 ?_
    obtain ⟨h10, hf⟩ := bl_gd_at hf
    refine bl_bald (k := (Int32.toNatClampNeg (v2 + v3))) X V h9 h10 rfl dX10_takesWord_45 ?_
    refine lv_aload_n X.1 X.2.1 dX10_takesWord_46 rfl (lv_at hl 0 rfl) ?_
    refine bl_getr X V hv0 fl_X10_52 rfl dX10_takesWord_47 (fun h11 => ?_)
    refine lv_aload_n X.1 X.2.1 dX10_takesWord_50 rfl (lv_at hl 0 rfl) ?_
    refine bl_geti X V hv0 fl_X10_328 dX10_takesWord_51 ?_
    refine lv_iload_n X.1 X.2.1 dX10_takesWord_54 rfl (lv_at hl 2 rfl) ?_
    refine lv_iadd X.1 X.2.1 dX10_takesWord_55 ?_
    obtain ⟨h12, hf⟩ := bl_gd_at hf
    refine bl_iald (k := (Int32.toNatClampNeg ((bl_I σ v0 25) + v3))) X V h11 h12 rfl dX10_takesWord_56 ?_
    refine lv_icmp_ne (tgt := 66) X.1 X.2.1 dX10_takesWord_57 (by decide) (fun c13 => ?_) (fun c13 => ?_)
    · have hf := bl_ifn c13 hf
      exact w_X10_takesWord_66 X hr  σ v0 v2 v3 hv0 hf _ _ _ V (lv_sub hl [0, 1, 2] rfl)
    · have hf := bl_ifp c13 hf
      obtain ⟨x14, e15⟩ : ∃ z : Int32, z = v3 + 1 := ⟨_, rfl⟩
      have hf := bl_let_at e15 hf
      refine lv_iinc (v := x14) (lv' := [(3, .int x14), (0, .ref (bl_ad g v0)), (2, .int v2)]) X.1 X.2.1 dX10_takesWord_60 hl (k := 2) rfl (by rw [e15]; rfl) (by decide) rfl (fun ls hl => ?_)
      refine lv_goto (tgt := 25) X.1 X.2.1 dX10_takesWord_63 (by decide) ?_
      exact hk25 σ v0 v2 x14 hv0 hf _ _ _ V (lv_sub hl [1, 2, 0] rfl)
theorem l_X10_takesWord_25 {p : Program} {l : Launch} {e : Env} {s : State} {m : MethodId} {below : List Frame} {meth : Method} {c : Code} {g : bl_Gp} {as : List Value} {out : Int32 × bl_St} (X : bl_Cx g p s m as.toArray meth c cX10_takesWord 4 RX10) (hr : meth.sig.returnType = (Option.some Jvm.ClassFile.FieldType.boolean)) (n : Nat) : ∀ (σ : bl_St) (v0 : Nat) (v2 : Int32) (v3 : Int32), bl_sh[v0]? = some (10, 28) → (bl_fx (fun _ _ _ _ => none) (b_X10_takesWord_25 ) n) σ v0 v2 v3 = some out → ∀ (H : Heap) (locs : List Loc) (ls : Array Slot), bl_V g s σ H locs → lv_has ls 4 [(0, .ref (bl_ad g v0)), (2, .int v2), (3, .int v3)] → W p l e (bl_rm 2 49) s m as.toArray below meth c H locs 0 0 (bl_Qi below g s as out) (F0 m 25 ls []) := by
  induction n with
  | zero =>
    intro σ v0 v2 v3 hv0 hf H locs ls V hl
    cases hf
  | succ n ih => exact w_X10_takesWord_25 X hr  _ ih
set_option maxHeartbeats 4000000 in
set_option maxRecDepth 100000 in
theorem t_X10_takesWord (l : Launch) (g : bl_Gp) (σ : bl_St) (a0 : Nat) (a1 : Int32) (o : Int32 × bl_St) (ha0 : bl_sh[a0]? = some (10, 28)) (hf : f_X10_takesWord σ a0 a1 = some o) : bl_Ci l g yX10_takesWord cX10_takesWord 4 (Option.some Jvm.ClassFile.FieldType.boolean) (bl_rm 2 49) [.ref (bl_ad g a0), .int a1] σ o := by
  refine bl_met (by decide) (Nat.le_of_ble_eq_true rfl) (fun p e s m below meth c ls X hr V hl => ?_)
  have hl : lv_has ls 4 [(0, .ref (bl_ad g a0)), (1, .int a1)] := hl
  unfold f_X10_takesWord at hf
  refine lv_aload_n X.1 X.2.1 dX10_takesWord_0 rfl (lv_at hl 0 rfl) ?_
  refine bl_geti X V ha0 fl_X10_342 dX10_takesWord_1 ?_
  refine lv_if_ne (tgt := 15) X.1 X.2.1 dX10_takesWord_4 (by decide) (fun c16 => ?_) (fun c16 => ?_)
  · have hf := bl_ifn c16 hf
    refine lv_iconst (v := 0) X.1 X.2.1 dX10_takesWord_15 (by decide) ?_
    exact bl_retz X V hr (by decide) hf dX10_takesWord_16
  · have hf := bl_ifp c16 hf
    refine lv_aload_n X.1 X.2.1 dX10_takesWord_7 rfl (lv_at hl 0 rfl) ?_
    refine bl_geti X V ha0 fl_X10_322 dX10_takesWord_8 ?_
    refine lv_iconst (v := 1) X.1 X.2.1 dX10_takesWord_11 (by decide) ?_
    refine lv_icmp_eq (tgt := 17) X.1 X.2.1 dX10_takesWord_12 (by decide) (fun c17 => ?_) (fun c17 => ?_)
    · have hf := bl_ifp c17 hf
      refine lv_aload_n X.1 X.2.1 dX10_takesWord_17 rfl (lv_at hl 0 rfl) ?_
      refine lv_iload_n X.1 X.2.1 dX10_takesWord_18 rfl (lv_at hl 1 rfl) ?_
      obtain ⟨r18, σ19, h20, hf⟩ := bl_bd_at hf
      refine bl_cVi (As := [.int a1]) X V hl.1 ha0 rfl ml_X10_294 mV_X10_wordFrom (t_X10_wordFrom l g σ a0 a1 _ ha0 h20) rfl rfl ⟨Nat.le_of_ble_eq_true rfl, Nat.le_of_ble_eq_true rfl⟩ rfl rfl (Nat.le_of_ble_eq_true rfl) ⟨Nat.zero_le _, Nat.zero_le _⟩ dX10_takesWord_19 (fun H locs V => ?_)
      refine lv_istore_n (lv' := [(2, .int r18), (0, .ref (bl_ad g a0)), (1, .int a1)]) X.1 X.2.1 dX10_takesWord_22 rfl hl (by decide) rfl (fun ls hl => ?_)
      refine lv_iconst (v := 0) X.1 X.2.1 dX10_takesWord_23 (by decide) ?_
      refine lv_istore_n (lv' := [(3, .int 0), (2, .int r18), (0, .ref (bl_ad g a0)), (1, .int a1)]) X.1 X.2.1 dX10_takesWord_24 rfl hl (by decide) rfl (fun ls hl => ?_)
      exact l_X10_takesWord_25 X hr  bl_fu σ19 a0 r18 0 ha0 hf _ _ _ V (lv_sub hl [2, 1, 0] rfl)
    · have hf := bl_ifn c17 hf
      refine lv_iconst (v := 0) X.1 X.2.1 dX10_takesWord_15 (by decide) ?_
      exact bl_retz X V hr (by decide) hf dX10_takesWord_16
set_option maxHeartbeats 4000000 in
set_option maxRecDepth 100000 in
theorem t_X10_needsNumber (l : Launch) (g : bl_Gp) (σ : bl_St) (a0 : Nat) (a1 : Int32) (a2 : Int32) (o : Int32 × bl_St) (ha0 : bl_sh[a0]? = some (10, 28)) (hf : f_X10_needsNumber σ a0 a1 a2 = some o) : bl_Ci l g yX10_needsNumber cX10_needsNumber 4 (Option.some Jvm.ClassFile.FieldType.int) (bl_rm 2 49) [.ref (bl_ad g a0), .int a1, .int a2] σ o := by
  refine bl_met (by decide) (Nat.le_of_ble_eq_true rfl) (fun p e s m below meth c ls X hr V hl => ?_)
  have hl : lv_has ls 4 [(0, .ref (bl_ad g a0)), (1, .int a1), (2, .int a2)] := hl
  unfold f_X10_needsNumber at hf
  refine lv_aload_n X.1 X.2.1 dX10_needsNumber_0 rfl (lv_at hl 0 rfl) ?_
  refine bl_geti X V ha0 fl_X10_342 dX10_needsNumber_1 ?_
  refine lv_if_ne (tgt := 30) X.1 X.2.1 dX10_needsNumber_4 (by decide) (fun c1 => ?_) (fun c1 => ?_)
  · have hf := bl_ifn c1 hf
    refine lv_aload_n X.1 X.2.1 dX10_needsNumber_30 rfl (lv_at hl 0 rfl) ?_
    refine lv_iconst (v := 1) X.1 X.2.1 dX10_needsNumber_31 (by decide) ?_
    refine bl_puti X V ha0 fp_X10_342 rfl rfl dX10_needsNumber_32 (fun σ2 H locs e3 V => ?_)
    have hf := bl_let_at e3 hf
    refine lv_iload_n X.1 X.2.1 dX10_needsNumber_35 rfl (lv_at hl 1 rfl) ?_
    exact bl_reti X V hr hf dX10_needsNumber_36
  · have hf := bl_ifp c1 hf
    refine lv_aload_n X.1 X.2.1 dX10_needsNumber_7 rfl (lv_at hl 0 rfl) ?_
    refine bl_geti X V ha0 fl_X10_322 dX10_needsNumber_8 ?_
    refine lv_iconst (v := 2) X.1 X.2.1 dX10_needsNumber_11 (by decide) ?_
    refine lv_icmp_ne (tgt := 30) X.1 X.2.1 dX10_needsNumber_12 (by decide) (fun c4 => ?_) (fun c4 => ?_)
    · have hf := bl_ifn c4 hf
      refine lv_aload_n X.1 X.2.1 dX10_needsNumber_30 rfl (lv_at hl 0 rfl) ?_
      refine lv_iconst (v := 1) X.1 X.2.1 dX10_needsNumber_31 (by decide) ?_
      refine bl_puti X V ha0 fp_X10_342 rfl rfl dX10_needsNumber_32 (fun σ5 H locs e6 V => ?_)
      have hf := bl_let_at e6 hf
      refine lv_iload_n X.1 X.2.1 dX10_needsNumber_35 rfl (lv_at hl 1 rfl) ?_
      exact bl_reti X V hr hf dX10_needsNumber_36
    · have hf := bl_ifp c4 hf
      refine lv_aload_n X.1 X.2.1 dX10_needsNumber_15 rfl (lv_at hl 0 rfl) ?_
      refine bl_geti X V ha0 fl_X10_339 dX10_needsNumber_16 ?_
      refine lv_i2l X.1 X.2.1 dX10_needsNumber_19 rfl ?_
      refine lv_iload_n X.1 X.2.1 dX10_needsNumber_20 rfl (lv_at hl 1 rfl) ?_
      refine lv_i2l X.1 X.2.1 dX10_needsNumber_21 rfl ?_
      refine lv_iload_n X.1 X.2.1 dX10_needsNumber_22 rfl (lv_at hl 2 rfl) ?_
      refine lv_i2l X.1 X.2.1 dX10_needsNumber_23 rfl ?_
      obtain ⟨r7, σ8, h9, hf⟩ := bl_bd_at hf
      refine bl_cSi (As := [.long (Int32.toInt64 (bl_I σ a0 26)), .long (Int32.toInt64 a1), .long (Int32.toInt64 a2)]) X V hl.1 ml_X10_66 mS_X10_in (t_X10_in l g σ (Int32.toInt64 (bl_I σ a0 26)) (Int32.toInt64 a1) (Int32.toInt64 a2) _  h9) rfl rfl ⟨Nat.le_of_ble_eq_true rfl, Nat.le_of_ble_eq_true rfl⟩ rfl rfl (Nat.le_of_ble_eq_true rfl) ⟨Nat.zero_le _, Nat.zero_le _⟩ dX10_needsNumber_24 (fun H locs V => ?_)
      refine lv_if_ne (tgt := 37) X.1 X.2.1 dX10_needsNumber_27 (by decide) (fun c10 => ?_) (fun c10 => ?_)
      · have hf := bl_ifn c10 hf
        refine lv_aload_n X.1 X.2.1 dX10_needsNumber_37 rfl (lv_at hl 0 rfl) ?_
        refine bl_geti X V ha0 fl_X10_339 dX10_needsNumber_38 ?_
        refine lv_topi (fun x11 e12 => ?_)
        have hf := bl_let_at e12 hf
        refine lv_istore_n (lv' := [(3, .int x11), (0, .ref (bl_ad g a0)), (1, .int a1), (2, .int a2)]) X.1 X.2.1 dX10_needsNumber_41 rfl hl (by decide) rfl (fun ls hl => ?_)
        refine lv_aload_n X.1 X.2.1 dX10_needsNumber_42 rfl (lv_at hl 1 rfl) ?_
        obtain ⟨r13, σ14, h15, hf⟩ := bl_bd_at hf
        refine bl_cVv (As := []) X V hl.1 ha0 rfl ml_X10_345 mV_X10_goesOn (t_X10_goesOn l g σ8 a0 _ ha0 h15) rfl rfl ⟨Nat.le_of_ble_eq_true rfl, Nat.le_of_ble_eq_true rfl⟩ rfl rfl (Nat.le_of_ble_eq_true rfl) ⟨Nat.zero_le _, Nat.zero_le _⟩ dX10_needsNumber_43 (fun H locs V => ?_)
        refine lv_iload_n X.1 X.2.1 dX10_needsNumber_46 rfl (lv_at hl 0 rfl) ?_
        exact bl_reti X V hr hf dX10_needsNumber_47
      · have hf := bl_ifp c10 hf
        refine lv_aload_n X.1 X.2.1 dX10_needsNumber_30 rfl (lv_at hl 0 rfl) ?_
        refine lv_iconst (v := 1) X.1 X.2.1 dX10_needsNumber_31 (by decide) ?_
        refine bl_puti X V ha0 fp_X10_342 rfl rfl dX10_needsNumber_32 (fun σ16 H locs e17 V => ?_)
        have hf := bl_let_at e17 hf
        refine lv_iload_n X.1 X.2.1 dX10_needsNumber_35 rfl (lv_at hl 1 rfl) ?_
        exact bl_reti X V hr hf dX10_needsNumber_36
set_option maxHeartbeats 4000000 in
set_option maxRecDepth 100000 in
theorem t_X10_isRoom (l : Launch) (g : bl_Gp) (σ : bl_St) (a0 : Nat) (a1 : Int32) (a2 : Int32) (a3 : Int32) (o : Int32 × bl_St) (ha0 : bl_sh[a0]? = some (10, 28)) (hf : f_X10_isRoom σ a0 a1 a2 a3 = some o) : bl_Ci l g yX10_isRoom cX10_isRoom 4 (Option.some Jvm.ClassFile.FieldType.boolean) (bl_rm 0 0) [.ref (bl_ad g a0), .int a1, .int a2, .int a3] σ o := by
  refine bl_met (by decide) (Nat.le_of_ble_eq_true rfl) (fun p e s m below meth c ls X hr V hl => ?_)
  have hl : lv_has ls 4 [(0, .ref (bl_ad g a0)), (1, .int a1), (2, .int a2), (3, .int a3)] := hl
  unfold f_X10_isRoom at hf
  refine lv_aload_n X.1 X.2.1 dX10_isRoom_0 rfl (lv_at hl 0 rfl) ?_
  refine bl_getr X V ha0 fl_X10_17 rfl dX10_isRoom_1 (fun h1 => ?_)
  refine lv_iload_n X.1 X.2.1 dX10_isRoom_4 rfl (lv_at hl 1 rfl) ?_
  obtain ⟨h2, hf⟩ := bl_gd_at hf
  refine bl_iald (k := (Int32.toNatClampNeg a1)) X V h1 h2 rfl dX10_isRoom_5 ?_
  refine lv_iload_n X.1 X.2.1 dX10_isRoom_6 rfl (lv_at hl 2 rfl) ?_
  refine lv_icmp_ge (tgt := 12) X.1 X.2.1 dX10_isRoom_7 (by decide) (fun c3 => ?_) (fun c3 => ?_)
  · have hf := bl_ifp c3 hf
    refine lv_aload_n X.1 X.2.1 dX10_isRoom_12 rfl (lv_at hl 0 rfl) ?_
    refine lv_iload_n X.1 X.2.1 dX10_isRoom_13 rfl (lv_at hl 3 rfl) ?_
    refine bl_puti X V ha0 fp_X10_328 rfl rfl dX10_isRoom_14 (fun σ4 H locs e5 V => ?_)
    have hf := bl_let_at e5 hf
    refine lv_aload_n X.1 X.2.1 dX10_isRoom_17 rfl (lv_at hl 0 rfl) ?_
    refine lv_iconst (v := 1) X.1 X.2.1 dX10_isRoom_18 (by decide) ?_
    refine bl_puti X V ha0 fp_X10_342 rfl rfl dX10_isRoom_19 (fun σ6 H locs e7 V => ?_)
    have hf := bl_let_at e7 hf
    refine lv_iconst (v := 0) X.1 X.2.1 dX10_isRoom_22 (by decide) ?_
    exact bl_retz X V hr (by decide) hf dX10_isRoom_23
  · have hf := bl_ifn c3 hf
    refine lv_iconst (v := 1) X.1 X.2.1 dX10_isRoom_10 (by decide) ?_
    exact bl_retz X V hr (by decide) hf dX10_isRoom_11
set_option maxHeartbeats 4000000 in
set_option maxRecDepth 100000 in
theorem w_X10_readsClass_59 {p : Program} {l : Launch} {e : Env} {s : State} {m : MethodId} {below : List Frame} {meth : Method} {c : Code} {g : bl_Gp} {as : List Value} {out : Unit × bl_St} (X : bl_Cx g p s m as.toArray meth c cX10_readsClass 3 RX10) (hr : meth.sig.returnType = (Option.none : Option Jvm.ClassFile.FieldType)) (k14 : bl_St → Nat → Int32 → Option (Unit × bl_St)) (hk14 : ∀ (σ : bl_St) (v0 : Nat) (v2 : Int32), bl_sh[v0]? = some (10, 28) → k14 σ v0 v2 = some out → ∀ (H : Heap) (locs : List Loc) (ls : Array Slot), bl_V g s σ H locs → lv_has ls 3 [(0, .ref (bl_ad g v0)), (2, .int v2)] → W p l e (bl_rm 3 72) s m as.toArray below meth c H locs 0 0 (bl_Qv below g s as out) (F0 m 14 ls [])) : ∀ (σ : bl_St) (v0 : Nat) (v2 : Int32) (s0 : Int32) (s1 : Int32) (s2 : Nat) (s3 : Int32) (s4 : Nat), bl_sh[v0]? = some (10, 28) → bl_sh[s2]? = some (10, 28) → bl_sh[s4]? = some (20, 167) → (b_X10_readsClass_59 k14) σ v0 v2 s0 s1 s2 s3 s4 = some out → ∀ (H : Heap) (locs : List Loc) (ls : Array Slot), bl_V g s σ H locs → lv_has ls 3 [(0, .ref (bl_ad g v0)), (2, .int v2)] → W p l e (bl_rm 3 72) s m as.toArray below meth c H locs 0 0 (bl_Qv below g s as out) (F0 m 59 ls [.int s0, .int s1, .ref (bl_ad g s2), .int s3, .ref (bl_ad g s4)]) := by
  intro σ v0 v2 s0 s1 s2 s3 s4 hv0 hs2 hs4 hf H locs ls V hl
  unfold b_X10_readsClass_59 at hf
  obtain ⟨r1, σ2, h3, hf⟩ := bl_bd_at hf
  refine bl_cVi (As := [.int s1, .int s0]) X V hl.1 hs2 rfl ml_X10_351 mV_X10_needsNumber (t_X10_needsNumber l g σ s2 s1 s0 _ hs2 h3) rfl rfl ⟨Nat.le_of_ble_eq_true rfl, Nat.le_of_ble_eq_true rfl⟩ rfl rfl (Nat.le_of_ble_eq_true rfl) ⟨Nat.zero_le _, Nat.zero_le _⟩ dX10_readsClass_59 (fun H locs V => ?_)
  obtain ⟨h4, hf⟩ := bl_gd_at hf
  refine bl_iast (k := (Int32.toNatClampNeg s3)) X V hs4 h4 rfl dX10_readsClass_62 (fun σ5 H locs e6 V => ?_)
  have hf := bl_let_at e6 hf
  obtain ⟨x7, e8⟩ : ∃ z : Int32, z = v2 + 1 := ⟨_, rfl⟩
  have hf := bl_let_at e8 hf
  refine lv_iinc (v := x7) (lv' := [(2, .int x7), (0, .ref (bl_ad g v0))]) X.1 X.2.1 dX10_readsClass_63 hl (k := 1) rfl (by rw [e8]; rfl) (by decide) rfl (fun ls hl => ?_)
  refine lv_goto (tgt := 14) X.1 X.2.1 dX10_readsClass_66 (by decide) ?_
  exact hk14 σ5 v0 x7 hv0 hf _ _ _ V (lv_sub hl [1, 0] rfl)
set_option maxHeartbeats 4000000 in
set_option maxRecDepth 100000 in
theorem w_X10_readsClass_14 {p : Program} {l : Launch} {e : Env} {s : State} {m : MethodId} {below : List Frame} {meth : Method} {c : Code} {g : bl_Gp} {as : List Value} {out : Unit × bl_St} (X : bl_Cx g p s m as.toArray meth c cX10_readsClass 3 RX10) (hr : meth.sig.returnType = (Option.none : Option Jvm.ClassFile.FieldType)) (k14 : bl_St → Nat → Int32 → Option (Unit × bl_St)) (hk14 : ∀ (σ : bl_St) (v0 : Nat) (v2 : Int32), bl_sh[v0]? = some (10, 28) → k14 σ v0 v2 = some out → ∀ (H : Heap) (locs : List Loc) (ls : Array Slot), bl_V g s σ H locs → lv_has ls 3 [(0, .ref (bl_ad g v0)), (2, .int v2)] → W p l e (bl_rm 3 72) s m as.toArray below meth c H locs 0 0 (bl_Qv below g s as out) (F0 m 14 ls [])) : ∀ (σ : bl_St) (v0 : Nat) (v2 : Int32), bl_sh[v0]? = some (10, 28) → (b_X10_readsClass_14 k14) σ v0 v2 = some out → ∀ (H : Heap) (locs : List Loc) (ls : Array Slot), bl_V g s σ H locs → lv_has ls 3 [(0, .ref (bl_ad g v0)), (2, .int v2)] → W p l e (bl_rm 3 72) s m as.toArray below meth c H locs 0 0 (bl_Qv below g s as out) (F0 m 14 ls []) := by
  intro σ v0 v2 hv0 hf H locs ls V hl
  unfold b_X10_readsClass_14 at hf
  refine lv_iload_n X.1 X.2.1 dX10_readsClass_14 rfl (lv_at hl 1 rfl) ?_
  refine lv_iconst (v := 4) X.1 X.2.1 dX10_readsClass_15 (by decide) ?_
  refine lv_icmp_gt (tgt := 69) X.1 X.2.1 dX10_readsClass_16 (by decide) (fun c9 => ?_) (fun c9 => ?_)
  · have hf := bl_ifp c9 hf
    refine lv_aload_n X.1 X.2.1 dX10_readsClass_69 rfl (lv_at hl 0 rfl) ?_
    refine bl_getr X V hv0 fl_X10_17 rfl dX10_readsClass_70 (fun h10 => ?_)
    refine lv_iconst (v := 0) X.1 X.2.1 dX10_readsClass_73 (by decide) ?_
    refine lv_dup2_11 X.1 X.2.1 dX10_readsClass_74 rfl rfl ?_
    refine bl_iald (k := 0) X V h10 (by decide) (by decide) dX10_readsClass_75 ?_
    refine lv_iconst (v := 1) X.1 X.2.1 dX10_readsClass_76 (by decide) ?_
    refine lv_iadd X.1 X.2.1 dX10_readsClass_77 ?_
    refine bl_iast (k := 0) X V h10 (by decide) (by decide) dX10_readsClass_78 (fun σ11 H locs e12 V => ?_)
    have hf := bl_let_at e12 hf
    exact bl_retv X V hr hf dX10_readsClass_79
  · have hf := bl_ifn c9 hf
    refine lv_aload_n X.1 X.2.1 dX10_readsClass_19 rfl (lv_at hl 0 rfl) ?_
    refine bl_getr X V hv0 fl_X10_17 rfl dX10_readsClass_20 (fun h13 => ?_)
    refine lv_iconst (v := 5) X.1 X.2.1 dX10_readsClass_23 (by decide) ?_
    refine lv_iconst (v := 5) X.1 X.2.1 dX10_readsClass_24 (by decide) ?_
    refine lv_aload_n X.1 X.2.1 dX10_readsClass_25 rfl (lv_at hl 0 rfl) ?_
    refine bl_getr X V hv0 fl_X10_17 rfl dX10_readsClass_26 (fun h14 => ?_)
    refine lv_iconst (v := 0) X.1 X.2.1 dX10_readsClass_29 (by decide) ?_
    refine bl_iald (k := 0) X V h14 (by decide) (by decide) dX10_readsClass_30 ?_
    refine lv_imul X.1 X.2.1 dX10_readsClass_31 ?_
    refine lv_iadd X.1 X.2.1 dX10_readsClass_32 ?_
    refine lv_iload_n X.1 X.2.1 dX10_readsClass_33 rfl (lv_at hl 1 rfl) ?_
    refine lv_iadd X.1 X.2.1 dX10_readsClass_34 ?_
    refine lv_aload_n X.1 X.2.1 dX10_readsClass_35 rfl (lv_at hl 0 rfl) ?_
    refine lv_iconst (v := 0) X.1 X.2.1 dX10_readsClass_36 (by decide) ?_
    refine lv_iload_n X.1 X.2.1 dX10_readsClass_37 rfl (lv_at hl 1 rfl) ?_
    refine lv_if_ne (tgt := 47) X.1 X.2.1 dX10_readsClass_38 (by decide) (fun c15 => ?_) (fun c15 => ?_)
    · have hf := bl_ifn c15 hf
      refine lv_iload_n X.1 X.2.1 dX10_readsClass_47 rfl (lv_at hl 1 rfl) ?_
      refine lv_iconst (v := 4) X.1 X.2.1 dX10_readsClass_48 (by decide) ?_
      refine lv_icmp_ne (tgt := 57) X.1 X.2.1 dX10_readsClass_49 (by decide) (fun c16 => ?_) (fun c16 => ?_)
      · have hf := bl_ifn c16 hf
        refine lv_bipush (v := 7) X.1 X.2.1 dX10_readsClass_57 (by decide) ?_
        exact w_X10_readsClass_59 X hr k14 hk14 σ v0 v2 7 0 v0 ((5 + (5 * (bl_I σ (bl_R σ v0 2) 0))) + v2) (bl_R σ v0 2) hv0 hv0 h13 hf _ _ _ V (lv_sub hl [0, 1] rfl)
      · have hf := bl_ifp c16 hf
        refine lv_bipush (v := 99) X.1 X.2.1 dX10_readsClass_52 (by decide) ?_
        refine lv_goto (tgt := 59) X.1 X.2.1 dX10_readsClass_54 (by decide) ?_
        exact w_X10_readsClass_59 X hr k14 hk14 σ v0 v2 99 0 v0 ((5 + (5 * (bl_I σ (bl_R σ v0 2) 0))) + v2) (bl_R σ v0 2) hv0 hv0 h13 hf _ _ _ V (lv_sub hl [0, 1] rfl)
    · have hf := bl_ifp c15 hf
      refine lv_sipush (v := 999) X.1 X.2.1 dX10_readsClass_41 (by decide) ?_
      refine lv_goto (tgt := 59) X.1 X.2.1 dX10_readsClass_44 (by decide) ?_
      exact w_X10_readsClass_59 X hr k14 hk14 σ v0 v2 999 0 v0 ((5 + (5 * (bl_I σ (bl_R σ v0 2) 0))) + v2) (bl_R σ v0 2) hv0 hv0 h13 hf _ _ _ V (lv_sub hl [0, 1] rfl)
theorem l_X10_readsClass_14 {p : Program} {l : Launch} {e : Env} {s : State} {m : MethodId} {below : List Frame} {meth : Method} {c : Code} {g : bl_Gp} {as : List Value} {out : Unit × bl_St} (X : bl_Cx g p s m as.toArray meth c cX10_readsClass 3 RX10) (hr : meth.sig.returnType = (Option.none : Option Jvm.ClassFile.FieldType)) (n : Nat) : ∀ (σ : bl_St) (v0 : Nat) (v2 : Int32), bl_sh[v0]? = some (10, 28) → (bl_fx (fun _ _ _ => none) (b_X10_readsClass_14 ) n) σ v0 v2 = some out → ∀ (H : Heap) (locs : List Loc) (ls : Array Slot), bl_V g s σ H locs → lv_has ls 3 [(0, .ref (bl_ad g v0)), (2, .int v2)] → W p l e (bl_rm 3 72) s m as.toArray below meth c H locs 0 0 (bl_Qv below g s as out) (F0 m 14 ls []) := by
  induction n with
  | zero =>
    intro σ v0 v2 hv0 hf H locs ls V hl
    cases hf
  | succ n ih => exact w_X10_readsClass_14 X hr  _ ih
set_option maxHeartbeats 4000000 in
set_option maxRecDepth 100000 in
theorem t_X10_readsClass (l : Launch) (g : bl_Gp) (σ : bl_St) (a0 : Nat) (a1 : Int32) (o : Unit × bl_St) (ha0 : bl_sh[a0]? = some (10, 28)) (hf : f_X10_readsClass σ a0 a1 = some o) : bl_Cv l g yX10_readsClass cX10_readsClass 3 (Option.none : Option Jvm.ClassFile.FieldType) (bl_rm 3 72) [.ref (bl_ad g a0), .int a1] σ o := by
  refine bl_met (by decide) (Nat.le_of_ble_eq_true rfl) (fun p e s m below meth c ls X hr V hl => ?_)
  have hl : lv_has ls 3 [(0, .ref (bl_ad g a0)), (1, .int a1)] := hl
  unfold f_X10_readsClass at hf
  refine lv_aload_n X.1 X.2.1 dX10_readsClass_0 rfl (lv_at hl 0 rfl) ?_
  refine lv_iconst (v := 0) X.1 X.2.1 dX10_readsClass_1 (by decide) ?_
  refine lv_bipush (v := 8) X.1 X.2.1 dX10_readsClass_2 (by decide) ?_
  refine lv_iload_n X.1 X.2.1 dX10_readsClass_4 rfl (lv_at hl 1 rfl) ?_
  obtain ⟨r17, σ18, h19, hf⟩ := bl_bd_at hf
  refine bl_cVi (As := [.int 0, .int 8, .int a1]) X V hl.1 ha0 rfl ml_X10_348 mV_X10_isRoom (t_X10_isRoom l g σ a0 0 8 a1 _ ha0 h19) rfl rfl ⟨Nat.le_of_ble_eq_true rfl, Nat.le_of_ble_eq_true rfl⟩ rfl rfl (Nat.le_of_ble_eq_true rfl) ⟨Nat.zero_le _, Nat.zero_le _⟩ dX10_readsClass_5 (fun H locs V => ?_)
  refine lv_if_ne (tgt := 12) X.1 X.2.1 dX10_readsClass_8 (by decide) (fun c20 => ?_) (fun c20 => ?_)
  · have hf := bl_ifn c20 hf
    refine lv_iconst (v := 0) X.1 X.2.1 dX10_readsClass_12 (by decide) ?_
    refine lv_istore_n (lv' := [(2, .int 0), (0, .ref (bl_ad g a0)), (1, .int a1)]) X.1 X.2.1 dX10_readsClass_13 rfl hl (by decide) rfl (fun ls hl => ?_)
    exact l_X10_readsClass_14 X hr  bl_fu σ18 a0 0 ha0 hf _ _ _ V (lv_sub hl [1, 0] rfl)
  · have hf := bl_ifp c20 hf
    exact bl_retv X V hr hf dX10_readsClass_11
set_option maxHeartbeats 4000000 in
set_option maxRecDepth 100000 in
theorem w_X10_readsLoss_49 {p : Program} {l : Launch} {e : Env} {s : State} {m : MethodId} {below : List Frame} {meth : Method} {c : Code} {g : bl_Gp} {as : List Value} {out : Unit × bl_St} (X : bl_Cx g p s m as.toArray meth c cX10_readsLoss 3 RX10) (hr : meth.sig.returnType = (Option.none : Option Jvm.ClassFile.FieldType)) (k13 : bl_St → Nat → Int32 → Option (Unit × bl_St)) (hk13 : ∀ (σ : bl_St) (v0 : Nat) (v2 : Int32), bl_sh[v0]? = some (10, 28) → k13 σ v0 v2 = some out → ∀ (H : Heap) (locs : List Loc) (ls : Array Slot), bl_V g s σ H locs → lv_has ls 3 [(0, .ref (bl_ad g v0)), (2, .int v2)] → W p l e (bl_rm 3 72) s m as.toArray below meth c H locs 0 0 (bl_Qv below g s as out) (F0 m 13 ls [])) : ∀ (σ : bl_St) (v0 : Nat) (v2 : Int32) (s0 : Int32) (s1 : Int32) (s2 : Nat) (s3 : Int32) (s4 : Nat), bl_sh[v0]? = some (10, 28) → bl_sh[s2]? = some (10, 28) → bl_sh[s4]? = some (20, 167) → (b_X10_readsLoss_49 k13) σ v0 v2 s0 s1 s2 s3 s4 = some out → ∀ (H : Heap) (locs : List Loc) (ls : Array Slot), bl_V g s σ H locs → lv_has ls 3 [(0, .ref (bl_ad g v0)), (2, .int v2)] → W p l e (bl_rm 3 72) s m as.toArray below meth c H locs 0 0 (bl_Qv below g s as out) (F0 m 49 ls [.int s0, .int s1, .ref (bl_ad g s2), .int s3, .ref (bl_ad g s4)]) := by
  intro σ v0 v2 s0 s1 s2 s3 s4 hv0 hs2 hs4 hf H locs ls V hl
  unfold b_X10_readsLoss_49 at hf
  obtain ⟨r1, σ2, h3, hf⟩ := bl_bd_at hf
  refine bl_cVi (As := [.int s1, .int s0]) X V hl.1 hs2 rfl ml_X10_351 mV_X10_needsNumber (t_X10_needsNumber l g σ s2 s1 s0 _ hs2 h3) rfl rfl ⟨Nat.le_of_ble_eq_true rfl, Nat.le_of_ble_eq_true rfl⟩ rfl rfl (Nat.le_of_ble_eq_true rfl) ⟨Nat.zero_le _, Nat.zero_le _⟩ dX10_readsLoss_49 (fun H locs V => ?_)
  obtain ⟨h4, hf⟩ := bl_gd_at hf
  refine bl_iast (k := (Int32.toNatClampNeg s3)) X V hs4 h4 rfl dX10_readsLoss_52 (fun σ5 H locs e6 V => ?_)
  have hf := bl_let_at e6 hf
  obtain ⟨x7, e8⟩ : ∃ z : Int32, z = v2 + 1 := ⟨_, rfl⟩
  have hf := bl_let_at e8 hf
  refine lv_iinc (v := x7) (lv' := [(2, .int x7), (0, .ref (bl_ad g v0))]) X.1 X.2.1 dX10_readsLoss_53 hl (k := 1) rfl (by rw [e8]; rfl) (by decide) rfl (fun ls hl => ?_)
  refine lv_goto (tgt := 13) X.1 X.2.1 dX10_readsLoss_56 (by decide) ?_
  exact hk13 σ5 v0 x7 hv0 hf _ _ _ V (lv_sub hl [1, 0] rfl)
set_option maxHeartbeats 4000000 in
set_option maxRecDepth 100000 in
theorem w_X10_readsLoss_13 {p : Program} {l : Launch} {e : Env} {s : State} {m : MethodId} {below : List Frame} {meth : Method} {c : Code} {g : bl_Gp} {as : List Value} {out : Unit × bl_St} (X : bl_Cx g p s m as.toArray meth c cX10_readsLoss 3 RX10) (hr : meth.sig.returnType = (Option.none : Option Jvm.ClassFile.FieldType)) (k13 : bl_St → Nat → Int32 → Option (Unit × bl_St)) (hk13 : ∀ (σ : bl_St) (v0 : Nat) (v2 : Int32), bl_sh[v0]? = some (10, 28) → k13 σ v0 v2 = some out → ∀ (H : Heap) (locs : List Loc) (ls : Array Slot), bl_V g s σ H locs → lv_has ls 3 [(0, .ref (bl_ad g v0)), (2, .int v2)] → W p l e (bl_rm 3 72) s m as.toArray below meth c H locs 0 0 (bl_Qv below g s as out) (F0 m 13 ls [])) : ∀ (σ : bl_St) (v0 : Nat) (v2 : Int32), bl_sh[v0]? = some (10, 28) → (b_X10_readsLoss_13 k13) σ v0 v2 = some out → ∀ (H : Heap) (locs : List Loc) (ls : Array Slot), bl_V g s σ H locs → lv_has ls 3 [(0, .ref (bl_ad g v0)), (2, .int v2)] → W p l e (bl_rm 3 72) s m as.toArray below meth c H locs 0 0 (bl_Qv below g s as out) (F0 m 13 ls []) := by
  intro σ v0 v2 hv0 hf H locs ls V hl
  unfold b_X10_readsLoss_13 at hf
  refine lv_iload_n X.1 X.2.1 dX10_readsLoss_13 rfl (lv_at hl 1 rfl) ?_
  refine lv_iconst (v := 2) X.1 X.2.1 dX10_readsLoss_14 (by decide) ?_
  refine lv_icmp_ge (tgt := 59) X.1 X.2.1 dX10_readsLoss_15 (by decide) (fun c9 => ?_) (fun c9 => ?_)
  · have hf := bl_ifp c9 hf
    refine lv_aload_n X.1 X.2.1 dX10_readsLoss_59 rfl (lv_at hl 0 rfl) ?_
    refine bl_getr X V hv0 fl_X10_17 rfl dX10_readsLoss_60 (fun h10 => ?_)
    refine lv_iconst (v := 1) X.1 X.2.1 dX10_readsLoss_63 (by decide) ?_
    refine lv_dup2_11 X.1 X.2.1 dX10_readsLoss_64 rfl rfl ?_
    refine bl_iald (k := 1) X V h10 (by decide) (by decide) dX10_readsLoss_65 ?_
    refine lv_iconst (v := 1) X.1 X.2.1 dX10_readsLoss_66 (by decide) ?_
    refine lv_iadd X.1 X.2.1 dX10_readsLoss_67 ?_
    refine bl_iast (k := 1) X V h10 (by decide) (by decide) dX10_readsLoss_68 (fun σ11 H locs e12 V => ?_)
    have hf := bl_let_at e12 hf
    exact bl_retv X V hr hf dX10_readsLoss_69
  · have hf := bl_ifn c9 hf
    refine lv_aload_n X.1 X.2.1 dX10_readsLoss_18 rfl (lv_at hl 0 rfl) ?_
    refine bl_getr X V hv0 fl_X10_17 rfl dX10_readsLoss_19 (fun h13 => ?_)
    refine lv_bipush (v := 45) X.1 X.2.1 dX10_readsLoss_22 (by decide) ?_
    refine lv_iconst (v := 2) X.1 X.2.1 dX10_readsLoss_24 (by decide) ?_
    refine lv_aload_n X.1 X.2.1 dX10_readsLoss_25 rfl (lv_at hl 0 rfl) ?_
    refine bl_getr X V hv0 fl_X10_17 rfl dX10_readsLoss_26 (fun h14 => ?_)
    refine lv_iconst (v := 1) X.1 X.2.1 dX10_readsLoss_29 (by decide) ?_
    refine bl_iald (k := 1) X V h14 (by decide) (by decide) dX10_readsLoss_30 ?_
    refine lv_imul X.1 X.2.1 dX10_readsLoss_31 ?_
    refine lv_iadd X.1 X.2.1 dX10_readsLoss_32 ?_
    refine lv_iload_n X.1 X.2.1 dX10_readsLoss_33 rfl (lv_at hl 1 rfl) ?_
    refine lv_iadd X.1 X.2.1 dX10_readsLoss_34 ?_
    refine lv_aload_n X.1 X.2.1 dX10_readsLoss_35 rfl (lv_at hl 0 rfl) ?_
    refine lv_iconst (v := 1) X.1 X.2.1 dX10_readsLoss_36 (by decide) ?_
    refine lv_iload_n X.1 X.2.1 dX10_readsLoss_37 rfl (lv_at hl 1 rfl) ?_
    refine lv_if_ne (tgt := 47) X.1 X.2.1 dX10_readsLoss_38 (by decide) (fun c15 => ?_) (fun c15 => ?_)
    · have hf := bl_ifn c15 hf
      refine lv_bipush (v := 9) X.1 X.2.1 dX10_readsLoss_47 (by decide) ?_
      exact w_X10_readsLoss_49 X hr k13 hk13 σ v0 v2 9 1 v0 ((45 + (2 * (bl_I σ (bl_R σ v0 2) 1))) + v2) (bl_R σ v0 2) hv0 hv0 h13 hf _ _ _ V (lv_sub hl [0, 1] rfl)
    · have hf := bl_ifp c15 hf
      refine lv_sipush (v := 999) X.1 X.2.1 dX10_readsLoss_41 (by decide) ?_
      refine lv_goto (tgt := 49) X.1 X.2.1 dX10_readsLoss_44 (by decide) ?_
      exact w_X10_readsLoss_49 X hr k13 hk13 σ v0 v2 999 1 v0 ((45 + (2 * (bl_I σ (bl_R σ v0 2) 1))) + v2) (bl_R σ v0 2) hv0 hv0 h13 hf _ _ _ V (lv_sub hl [0, 1] rfl)
theorem l_X10_readsLoss_13 {p : Program} {l : Launch} {e : Env} {s : State} {m : MethodId} {below : List Frame} {meth : Method} {c : Code} {g : bl_Gp} {as : List Value} {out : Unit × bl_St} (X : bl_Cx g p s m as.toArray meth c cX10_readsLoss 3 RX10) (hr : meth.sig.returnType = (Option.none : Option Jvm.ClassFile.FieldType)) (n : Nat) : ∀ (σ : bl_St) (v0 : Nat) (v2 : Int32), bl_sh[v0]? = some (10, 28) → (bl_fx (fun _ _ _ => none) (b_X10_readsLoss_13 ) n) σ v0 v2 = some out → ∀ (H : Heap) (locs : List Loc) (ls : Array Slot), bl_V g s σ H locs → lv_has ls 3 [(0, .ref (bl_ad g v0)), (2, .int v2)] → W p l e (bl_rm 3 72) s m as.toArray below meth c H locs 0 0 (bl_Qv below g s as out) (F0 m 13 ls []) := by
  induction n with
  | zero =>
    intro σ v0 v2 hv0 hf H locs ls V hl
    cases hf
  | succ n ih => exact w_X10_readsLoss_13 X hr  _ ih
set_option maxHeartbeats 4000000 in
set_option maxRecDepth 100000 in
theorem t_X10_readsLoss (l : Launch) (g : bl_Gp) (σ : bl_St) (a0 : Nat) (a1 : Int32) (o : Unit × bl_St) (ha0 : bl_sh[a0]? = some (10, 28)) (hf : f_X10_readsLoss σ a0 a1 = some o) : bl_Cv l g yX10_readsLoss cX10_readsLoss 3 (Option.none : Option Jvm.ClassFile.FieldType) (bl_rm 3 72) [.ref (bl_ad g a0), .int a1] σ o := by
  refine bl_met (by decide) (Nat.le_of_ble_eq_true rfl) (fun p e s m below meth c ls X hr V hl => ?_)
  have hl : lv_has ls 3 [(0, .ref (bl_ad g a0)), (1, .int a1)] := hl
  unfold f_X10_readsLoss at hf
  refine lv_aload_n X.1 X.2.1 dX10_readsLoss_0 rfl (lv_at hl 0 rfl) ?_
  refine lv_iconst (v := 1) X.1 X.2.1 dX10_readsLoss_1 (by decide) ?_
  refine lv_iconst (v := 5) X.1 X.2.1 dX10_readsLoss_2 (by decide) ?_
  refine lv_iload_n X.1 X.2.1 dX10_readsLoss_3 rfl (lv_at hl 1 rfl) ?_
  obtain ⟨r16, σ17, h18, hf⟩ := bl_bd_at hf
  refine bl_cVi (As := [.int 1, .int 5, .int a1]) X V hl.1 ha0 rfl ml_X10_348 mV_X10_isRoom (t_X10_isRoom l g σ a0 1 5 a1 _ ha0 h18) rfl rfl ⟨Nat.le_of_ble_eq_true rfl, Nat.le_of_ble_eq_true rfl⟩ rfl rfl (Nat.le_of_ble_eq_true rfl) ⟨Nat.zero_le _, Nat.zero_le _⟩ dX10_readsLoss_4 (fun H locs V => ?_)
  refine lv_if_ne (tgt := 11) X.1 X.2.1 dX10_readsLoss_7 (by decide) (fun c19 => ?_) (fun c19 => ?_)
  · have hf := bl_ifn c19 hf
    refine lv_iconst (v := 0) X.1 X.2.1 dX10_readsLoss_11 (by decide) ?_
    refine lv_istore_n (lv' := [(2, .int 0), (0, .ref (bl_ad g a0)), (1, .int a1)]) X.1 X.2.1 dX10_readsLoss_12 rfl hl (by decide) rfl (fun ls hl => ?_)
    exact l_X10_readsLoss_13 X hr  bl_fu σ17 a0 0 ha0 hf _ _ _ V (lv_sub hl [1, 0] rfl)
  · have hf := bl_ifp c19 hf
    exact bl_retv X V hr hf dX10_readsLoss_10
set_option maxHeartbeats 4000000 in
set_option maxRecDepth 100000 in
theorem w_X10_readsOne_113 {p : Program} {l : Launch} {e : Env} {s : State} {m : MethodId} {below : List Frame} {meth : Method} {c : Code} {g : bl_Gp} {as : List Value} {out : Unit × bl_St} (X : bl_Cx g p s m as.toArray meth c cX10_readsOne 2 RX10) (hr : meth.sig.returnType = (Option.none : Option Jvm.ClassFile.FieldType)) : ∀ (σ : bl_St) (v0 : Nat), bl_sh[v0]? = some (10, 28) → (b_X10_readsOne_113 ) σ v0 = some out → ∀ (H : Heap) (locs : List Loc) (ls : Array Slot), bl_V g s σ H locs → lv_has ls 2 [(0, .ref (bl_ad g v0))] → W p l e (bl_rm 4 94) s m as.toArray below meth c H locs 0 0 (bl_Qv below g s as out) (F0 m 113 ls []) := by
  intro σ v0 hv0 hf H locs ls V hl
  unfold b_X10_readsOne_113 at hf
  refine lv_aload_n X.1 X.2.1 dX10_readsOne_113 rfl (lv_at hl 0 rfl) ?_
  refine bl_geti X V hv0 fl_X10_342 dX10_readsOne_114 ?_
  refine lv_if_eq (tgt := 121) X.1 X.2.1 dX10_readsOne_117 (by decide) (fun c1 => ?_) (fun c1 => ?_)
  · have hf := bl_ifp c1 hf
    refine lv_aload_n X.1 X.2.1 dX10_readsOne_121 rfl (lv_at hl 0 rfl) ?_
    refine bl_geti X V hv0 fl_X10_322 dX10_readsOne_122 ?_
    refine lv_iconst (v := 3) X.1 X.2.1 dX10_readsOne_125 (by decide) ?_
    refine lv_icmp_ne (tgt := 136) X.1 X.2.1 dX10_readsOne_126 (by decide) (fun c2 => ?_) (fun c2 => ?_)
    · have hf := bl_ifn c2 hf
      refine lv_aload_n X.1 X.2.1 dX10_readsOne_136 rfl (lv_at hl 0 rfl) ?_
      refine lv_iconst (v := 1) X.1 X.2.1 dX10_readsOne_137 (by decide) ?_
      refine bl_puti X V hv0 fp_X10_342 rfl rfl dX10_readsOne_138 (fun σ3 H locs e4 V => ?_)
      have hf := bl_let_at e4 hf
      exact bl_retv X V hr hf dX10_readsOne_141
    · have hf := bl_ifp c2 hf
      refine lv_aload_n X.1 X.2.1 dX10_readsOne_129 rfl (lv_at hl 0 rfl) ?_
      obtain ⟨r5, σ6, h7, hf⟩ := bl_bd_at hf
      refine bl_cVv (As := []) X V hl.1 hv0 rfl ml_X10_345 mV_X10_goesOn (t_X10_goesOn l g σ v0 _ hv0 h7) rfl rfl ⟨Nat.le_of_ble_eq_true rfl, Nat.le_of_ble_eq_true rfl⟩ rfl rfl (Nat.le_of_ble_eq_true rfl) ⟨Nat.zero_le _, Nat.zero_le _⟩ dX10_readsOne_130 (fun H locs V => ?_)
      refine lv_goto (tgt := 141) X.1 X.2.1 dX10_readsOne_133 (by decide) ?_
      exact bl_retv X V hr hf dX10_readsOne_141
  · have hf := bl_ifn c1 hf
    exact bl_retv X V hr hf dX10_readsOne_120
set_option maxHeartbeats 4000000 in
set_option maxRecDepth 100000 in
theorem t_X10_readsOne (l : Launch) (g : bl_Gp) (σ : bl_St) (a0 : Nat) (o : Unit × bl_St) (ha0 : bl_sh[a0]? = some (10, 28)) (hf : f_X10_readsOne σ a0 = some o) : bl_Cv l g yX10_readsOne cX10_readsOne 2 (Option.none : Option Jvm.ClassFile.FieldType) (bl_rm 4 94) [.ref (bl_ad g a0)] σ o := by
  refine bl_met (by decide) (Nat.le_of_ble_eq_true rfl) (fun p e s m below meth c ls X hr V hl => ?_)
  have hl : lv_has ls 2 [(0, .ref (bl_ad g a0))] := hl
  unfold f_X10_readsOne at hf
  refine lv_aload_n X.1 X.2.1 dX10_readsOne_0 rfl (lv_at hl 0 rfl) ?_
  refine bl_geti X V ha0 fl_X10_328 dX10_readsOne_1 ?_
  refine lv_topi (fun x8 e9 => ?_)
  have hf := bl_let_at e9 hf
  refine lv_istore_n (lv' := [(1, .int x8), (0, .ref (bl_ad g a0))]) X.1 X.2.1 dX10_readsOne_4 rfl hl (by decide) rfl (fun ls hl => ?_)
  refine lv_aload_n X.1 X.2.1 dX10_readsOne_5 rfl (lv_at hl 1 rfl) ?_
  refine lv_iconst (v := 0) X.1 X.2.1 dX10_readsOne_6 (by decide) ?_
  obtain ⟨r10, σ11, h12, hf⟩ := bl_bd_at hf
  refine bl_cVi (As := [.int 0]) X V hl.1 ha0 rfl ml_X10_354 mV_X10_takesWord (t_X10_takesWord l g σ a0 0 _ ha0 h12) rfl rfl ⟨Nat.le_of_ble_eq_true rfl, Nat.le_of_ble_eq_true rfl⟩ rfl rfl (Nat.le_of_ble_eq_true rfl) ⟨Nat.zero_le _, Nat.zero_le _⟩ dX10_readsOne_7 (fun H locs V => ?_)
  refine lv_if_eq (tgt := 21) X.1 X.2.1 dX10_readsOne_10 (by decide) (fun c13 => ?_) (fun c13 => ?_)
  · have hf := bl_ifp c13 hf
    refine lv_aload_n X.1 X.2.1 dX10_readsOne_21 rfl (lv_at hl 1 rfl) ?_
    refine lv_iconst (v := 1) X.1 X.2.1 dX10_readsOne_22 (by decide) ?_
    obtain ⟨r14, σ15, h16, hf⟩ := bl_bd_at hf
    refine bl_cVi (As := [.int 1]) X V hl.1 ha0 rfl ml_X10_354 mV_X10_takesWord (t_X10_takesWord l g σ11 a0 1 _ ha0 h16) rfl rfl ⟨Nat.le_of_ble_eq_true rfl, Nat.le_of_ble_eq_true rfl⟩ rfl rfl (Nat.le_of_ble_eq_true rfl) ⟨Nat.zero_le _, Nat.zero_le _⟩ dX10_readsOne_23 (fun H locs V => ?_)
    refine lv_if_eq (tgt := 37) X.1 X.2.1 dX10_readsOne_26 (by decide) (fun c17 => ?_) (fun c17 => ?_)
    · have hf := bl_ifp c17 hf
      refine lv_aload_n X.1 X.2.1 dX10_readsOne_37 rfl (lv_at hl 1 rfl) ?_
      refine lv_iconst (v := 2) X.1 X.2.1 dX10_readsOne_38 (by decide) ?_
      obtain ⟨r18, σ19, h20, hf⟩ := bl_bd_at hf
      refine bl_cVi (As := [.int 2]) X V hl.1 ha0 rfl ml_X10_354 mV_X10_takesWord (t_X10_takesWord l g σ15 a0 2 _ ha0 h20) rfl rfl ⟨Nat.le_of_ble_eq_true rfl, Nat.le_of_ble_eq_true rfl⟩ rfl rfl (Nat.le_of_ble_eq_true rfl) ⟨Nat.zero_le _, Nat.zero_le _⟩ dX10_readsOne_39 (fun H locs V => ?_)
      refine lv_if_eq (tgt := 60) X.1 X.2.1 dX10_readsOne_42 (by decide) (fun c21 => ?_) (fun c21 => ?_)
      · have hf := bl_ifp c21 hf
        refine lv_aload_n X.1 X.2.1 dX10_readsOne_60 rfl (lv_at hl 1 rfl) ?_
        refine lv_iconst (v := 3) X.1 X.2.1 dX10_readsOne_61 (by decide) ?_
        obtain ⟨r22, σ23, h24, hf⟩ := bl_bd_at hf
        refine bl_cVi (As := [.int 3]) X V hl.1 ha0 rfl ml_X10_354 mV_X10_takesWord (t_X10_takesWord l g σ19 a0 3 _ ha0 h24) rfl rfl ⟨Nat.le_of_ble_eq_true rfl, Nat.le_of_ble_eq_true rfl⟩ rfl rfl (Nat.le_of_ble_eq_true rfl) ⟨Nat.zero_le _, Nat.zero_le _⟩ dX10_readsOne_62 (fun H locs V => ?_)
        refine lv_if_eq (tgt := 84) X.1 X.2.1 dX10_readsOne_65 (by decide) (fun c25 => ?_) (fun c25 => ?_)
        · have hf := bl_ifp c25 hf
          refine lv_aload_n X.1 X.2.1 dX10_readsOne_84 rfl (lv_at hl 1 rfl) ?_
          refine lv_iconst (v := 4) X.1 X.2.1 dX10_readsOne_85 (by decide) ?_
          obtain ⟨r26, σ27, h28, hf⟩ := bl_bd_at hf
          refine bl_cVi (As := [.int 4]) X V hl.1 ha0 rfl ml_X10_354 mV_X10_takesWord (t_X10_takesWord l g σ23 a0 4 _ ha0 h28) rfl rfl ⟨Nat.le_of_ble_eq_true rfl, Nat.le_of_ble_eq_true rfl⟩ rfl rfl (Nat.le_of_ble_eq_true rfl) ⟨Nat.zero_le _, Nat.zero_le _⟩ dX10_readsOne_86 (fun H locs V => ?_)
          refine lv_if_eq (tgt := 108) X.1 X.2.1 dX10_readsOne_89 (by decide) (fun c29 => ?_) (fun c29 => ?_)
          · have hf := bl_ifp c29 hf
            refine lv_aload_n X.1 X.2.1 dX10_readsOne_108 rfl (lv_at hl 1 rfl) ?_
            refine lv_iconst (v := 1) X.1 X.2.1 dX10_readsOne_109 (by decide) ?_
            refine bl_puti X V ha0 fp_X10_342 rfl rfl dX10_readsOne_110 (fun σ30 H locs e31 V => ?_)
            have hf := bl_let_at e31 hf
            exact w_X10_readsOne_113 X hr  σ30 a0 ha0 hf _ _ _ V (lv_sub hl [1] rfl)
          · have hf := bl_ifn c29 hf
            refine lv_aload_n X.1 X.2.1 dX10_readsOne_92 rfl (lv_at hl 1 rfl) ?_
            refine bl_getr X V ha0 fl_X10_17 rfl dX10_readsOne_93 (fun h32 => ?_)
            refine lv_iconst (v := 4) X.1 X.2.1 dX10_readsOne_96 (by decide) ?_
            refine lv_aload_n X.1 X.2.1 dX10_readsOne_97 rfl (lv_at hl 1 rfl) ?_
            refine lv_iconst (v := 0) X.1 X.2.1 dX10_readsOne_98 (by decide) ?_
            refine lv_bipush (v := 99) X.1 X.2.1 dX10_readsOne_99 (by decide) ?_
            obtain ⟨r33, σ34, h35, hf⟩ := bl_bd_at hf
            refine bl_cVi (As := [.int 0, .int 99]) X V hl.1 ha0 rfl ml_X10_351 mV_X10_needsNumber (t_X10_needsNumber l g σ27 a0 0 99 _ ha0 h35) rfl rfl ⟨Nat.le_of_ble_eq_true rfl, Nat.le_of_ble_eq_true rfl⟩ rfl rfl (Nat.le_of_ble_eq_true rfl) ⟨Nat.zero_le _, Nat.zero_le _⟩ dX10_readsOne_101 (fun H locs V => ?_)
            refine bl_iast (k := 4) X V h32 (by decide) (by decide) dX10_readsOne_104 (fun σ36 H locs e37 V => ?_)
            have hf := bl_let_at e37 hf
            refine lv_goto (tgt := 113) X.1 X.2.1 dX10_readsOne_105 (by decide) ?_
            exact w_X10_readsOne_113 X hr  σ36 a0 ha0 hf _ _ _ V (lv_sub hl [1] rfl)
        · have hf := bl_ifn c25 hf
          refine lv_aload_n X.1 X.2.1 dX10_readsOne_68 rfl (lv_at hl 1 rfl) ?_
          refine bl_getr X V ha0 fl_X10_17 rfl dX10_readsOne_69 (fun h38 => ?_)
          refine lv_iconst (v := 3) X.1 X.2.1 dX10_readsOne_72 (by decide) ?_
          refine lv_aload_n X.1 X.2.1 dX10_readsOne_73 rfl (lv_at hl 1 rfl) ?_
          refine lv_iconst (v := 0) X.1 X.2.1 dX10_readsOne_74 (by decide) ?_
          refine lv_bipush (v := 12) X.1 X.2.1 dX10_readsOne_75 (by decide) ?_
          obtain ⟨r39, σ40, h41, hf⟩ := bl_bd_at hf
          refine bl_cVi (As := [.int 0, .int 12]) X V hl.1 ha0 rfl ml_X10_351 mV_X10_needsNumber (t_X10_needsNumber l g σ23 a0 0 12 _ ha0 h41) rfl rfl ⟨Nat.le_of_ble_eq_true rfl, Nat.le_of_ble_eq_true rfl⟩ rfl rfl (Nat.le_of_ble_eq_true rfl) ⟨Nat.zero_le _, Nat.zero_le _⟩ dX10_readsOne_77 (fun H locs V => ?_)
          refine bl_iast (k := 3) X V h38 (by decide) (by decide) dX10_readsOne_80 (fun σ42 H locs e43 V => ?_)
          have hf := bl_let_at e43 hf
          refine lv_goto (tgt := 113) X.1 X.2.1 dX10_readsOne_81 (by decide) ?_
          exact w_X10_readsOne_113 X hr  σ42 a0 ha0 hf _ _ _ V (lv_sub hl [1] rfl)
      · have hf := bl_ifn c21 hf
        refine lv_aload_n X.1 X.2.1 dX10_readsOne_45 rfl (lv_at hl 1 rfl) ?_
        refine bl_getr X V ha0 fl_X10_17 rfl dX10_readsOne_46 (fun h44 => ?_)
        refine lv_iconst (v := 2) X.1 X.2.1 dX10_readsOne_49 (by decide) ?_
        refine lv_aload_n X.1 X.2.1 dX10_readsOne_50 rfl (lv_at hl 1 rfl) ?_
        refine lv_iconst (v := 1) X.1 X.2.1 dX10_readsOne_51 (by decide) ?_
        refine lv_iconst (v := 3) X.1 X.2.1 dX10_readsOne_52 (by decide) ?_
        obtain ⟨r45, σ46, h47, hf⟩ := bl_bd_at hf
        refine bl_cVi (As := [.int 1, .int 3]) X V hl.1 ha0 rfl ml_X10_351 mV_X10_needsNumber (t_X10_needsNumber l g σ19 a0 1 3 _ ha0 h47) rfl rfl ⟨Nat.le_of_ble_eq_true rfl, Nat.le_of_ble_eq_true rfl⟩ rfl rfl (Nat.le_of_ble_eq_true rfl) ⟨Nat.zero_le _, Nat.zero_le _⟩ dX10_readsOne_53 (fun H locs V => ?_)
        refine bl_iast (k := 2) X V h44 (by decide) (by decide) dX10_readsOne_56 (fun σ48 H locs e49 V => ?_)
        have hf := bl_let_at e49 hf
        refine lv_goto (tgt := 113) X.1 X.2.1 dX10_readsOne_57 (by decide) ?_
        exact w_X10_readsOne_113 X hr  σ48 a0 ha0 hf _ _ _ V (lv_sub hl [1] rfl)
    · have hf := bl_ifn c17 hf
      refine lv_aload_n X.1 X.2.1 dX10_readsOne_29 rfl (lv_at hl 1 rfl) ?_
      refine lv_iload_n X.1 X.2.1 dX10_readsOne_30 rfl (lv_at hl 0 rfl) ?_
      obtain ⟨r50, σ51, h52, hf⟩ := bl_bd_at hf
      refine bl_cVv (As := [.int x8]) X V hl.1 ha0 rfl ml_X10_360 mV_X10_readsLoss (t_X10_readsLoss l g σ15 a0 x8 _ ha0 h52) rfl rfl ⟨Nat.le_of_ble_eq_true rfl, Nat.le_of_ble_eq_true rfl⟩ rfl rfl (Nat.le_of_ble_eq_true rfl) ⟨Nat.zero_le _, Nat.zero_le _⟩ dX10_readsOne_31 (fun H locs V => ?_)
      refine lv_goto (tgt := 113) X.1 X.2.1 dX10_readsOne_34 (by decide) ?_
      exact w_X10_readsOne_113 X hr  σ51 a0 ha0 hf _ _ _ V (lv_sub hl [1] rfl)
  · have hf := bl_ifn c13 hf
    refine lv_aload_n X.1 X.2.1 dX10_readsOne_13 rfl (lv_at hl 1 rfl) ?_
    refine lv_iload_n X.1 X.2.1 dX10_readsOne_14 rfl (lv_at hl 0 rfl) ?_
    obtain ⟨r53, σ54, h55, hf⟩ := bl_bd_at hf
    refine bl_cVv (As := [.int x8]) X V hl.1 ha0 rfl ml_X10_357 mV_X10_readsClass (t_X10_readsClass l g σ11 a0 x8 _ ha0 h55) rfl rfl ⟨Nat.le_of_ble_eq_true rfl, Nat.le_of_ble_eq_true rfl⟩ rfl rfl (Nat.le_of_ble_eq_true rfl) ⟨Nat.zero_le _, Nat.zero_le _⟩ dX10_readsOne_15 (fun H locs V => ?_)
    refine lv_goto (tgt := 113) X.1 X.2.1 dX10_readsOne_18 (by decide) ?_
    exact w_X10_readsOne_113 X hr  σ54 a0 ha0 hf _ _ _ V (lv_sub hl [1] rfl)
set_option maxHeartbeats 4000000 in
set_option maxRecDepth 100000 in
theorem w_X10_looksOver_80 {p : Program} {l : Launch} {e : Env} {s : State} {m : MethodId} {below : List Frame} {meth : Method} {c : Code} {g : bl_Gp} {as : List Value} {out : Unit × bl_St} (X : bl_Cx g p s m as.toArray meth c cX10_looksOver 3 RX10) (hr : meth.sig.returnType = (Option.none : Option Jvm.ClassFile.FieldType)) (k41 : bl_St → Nat → Int32 → Int32 → Option (Unit × bl_St)) (hk41 : ∀ (σ : bl_St) (v0 : Nat) (v1 : Int32) (v2 : Int32), bl_sh[v0]? = some (10, 28) → k41 σ v0 v1 v2 = some out → ∀ (H : Heap) (locs : List Loc) (ls : Array Slot), bl_V g s σ H locs → lv_has ls 3 [(0, .ref (bl_ad g v0)), (1, .int v1), (2, .int v2)] → W p l e (bl_rm 0 0) s m as.toArray below meth c H locs 0 0 (bl_Qv below g s as out) (F0 m 41 ls [])) : ∀ (σ : bl_St) (v0 : Nat) (v1 : Int32) (v2 : Int32) (s0 : Int32) (s1 : Nat), bl_sh[v0]? = some (10, 28) → bl_sh[s1]? = some (10, 28) → (b_X10_looksOver_80 k41) σ v0 v1 v2 s0 s1 = some out → ∀ (H : Heap) (locs : List Loc) (ls : Array Slot), bl_V g s σ H locs → lv_has ls 3 [(0, .ref (bl_ad g v0)), (1, .int v1), (2, .int v2)] → W p l e (bl_rm 0 0) s m as.toArray below meth c H locs 0 0 (bl_Qv below g s as out) (F0 m 80 ls [.int s0, .ref (bl_ad g s1)]) := by
  intro σ v0 v1 v2 s0 s1 hv0 hs1 hf H locs ls V hl
  unfold b_X10_looksOver_80 at hf
  obtain ⟨h1, hf⟩ := bl_gd_at hf
  refine bl_puti X V hs1 fp_X10_342 (bl_nbo h1).1 (bl_nbo h1).2 dX10_looksOver_80 (fun σ2 H locs e3 V => ?_)
  have hf := bl_let_at e3 hf
  obtain ⟨x4, e5⟩ : ∃ z : Int32, z = v2 + 1 := ⟨_, rfl⟩
  have hf := bl_let_at e5 hf
  refine lv_iinc (v := x4) (lv' := [(2, .int x4), (0, .ref (bl_ad g v0)), (1, .int v1)]) X.1 X.2.1 dX10_looksOver_83 hl (k := 2) rfl (by rw [e5]; rfl) (by decide) rfl (fun ls hl => ?_)
  refine lv_goto (tgt := 41) X.1 X.2.1 dX10_looksOver_86 (by decide) ?_
  exact hk41 σ2 v0 v1 x4 hv0 hf _ _ _ V (lv_sub hl [1, 2, 0] rfl)
set_option maxHeartbeats 4000000 in
set_option maxRecDepth 100000 in
theorem w_X10_looksOver_75 {p : Program} {l : Launch} {e : Env} {s : State} {m : MethodId} {below : List Frame} {meth : Method} {c : Code} {g : bl_Gp} {as : List Value} {out : Unit × bl_St} (X : bl_Cx g p s m as.toArray meth c cX10_looksOver 3 RX10) (hr : meth.sig.returnType = (Option.none : Option Jvm.ClassFile.FieldType)) (k41 : bl_St → Nat → Int32 → Int32 → Option (Unit × bl_St)) (hk41 : ∀ (σ : bl_St) (v0 : Nat) (v1 : Int32) (v2 : Int32), bl_sh[v0]? = some (10, 28) → k41 σ v0 v1 v2 = some out → ∀ (H : Heap) (locs : List Loc) (ls : Array Slot), bl_V g s σ H locs → lv_has ls 3 [(0, .ref (bl_ad g v0)), (1, .int v1), (2, .int v2)] → W p l e (bl_rm 0 0) s m as.toArray below meth c H locs 0 0 (bl_Qv below g s as out) (F0 m 41 ls [])) : ∀ (σ : bl_St) (v0 : Nat) (v1 : Int32) (v2 : Int32) (s0 : Nat), bl_sh[v0]? = some (10, 28) → bl_sh[s0]? = some (10, 28) → (b_X10_looksOver_75 k41) σ v0 v1 v2 s0 = some out → ∀ (H : Heap) (locs : List Loc) (ls : Array Slot), bl_V g s σ H locs → lv_has ls 3 [(0, .ref (bl_ad g v0)), (1, .int v1), (2, .int v2)] → W p l e (bl_rm 0 0) s m as.toArray below meth c H locs 0 0 (bl_Qv below g s as out) (F0 m 75 ls [.ref (bl_ad g s0)]) := by
  intro σ v0 v1 v2 s0 hv0 hs0 hf H locs ls V hl
  unfold b_X10_looksOver_75 at hf
  refine lv_iconst (v := 1) X.1 X.2.1 dX10_looksOver_75 (by decide) ?_
  refine lv_goto (tgt := 80) X.1 X.2.1 dX10_looksOver_76 (by decide) ?_
  exact w_X10_looksOver_80 X hr k41 hk41 σ v0 v1 v2 1 s0 hv0 hs0 hf _ _ _ V (lv_sub hl [0, 1, 2] rfl)
set_option maxHeartbeats 4000000 in
set_option maxRecDepth 100000 in
theorem w_X10_looksOver_41 {p : Program} {l : Launch} {e : Env} {s : State} {m : MethodId} {below : List Frame} {meth : Method} {c : Code} {g : bl_Gp} {as : List Value} {out : Unit × bl_St} (X : bl_Cx g p s m as.toArray meth c cX10_looksOver 3 RX10) (hr : meth.sig.returnType = (Option.none : Option Jvm.ClassFile.FieldType)) (k29 : bl_St → Nat → Int32 → Option (Unit × bl_St)) (hk29 : ∀ (σ : bl_St) (v0 : Nat) (v1 : Int32), bl_sh[v0]? = some (10, 28) → k29 σ v0 v1 = some out → ∀ (H : Heap) (locs : List Loc) (ls : Array Slot), bl_V g s σ H locs → lv_has ls 3 [(0, .ref (bl_ad g v0)), (1, .int v1)] → W p l e (bl_rm 0 0) s m as.toArray below meth c H locs 0 0 (bl_Qv below g s as out) (F0 m 29 ls [])) (k41 : bl_St → Nat → Int32 → Int32 → Option (Unit × bl_St)) (hk41 : ∀ (σ : bl_St) (v0 : Nat) (v1 : Int32) (v2 : Int32), bl_sh[v0]? = some (10, 28) → k41 σ v0 v1 v2 = some out → ∀ (H : Heap) (locs : List Loc) (ls : Array Slot), bl_V g s σ H locs → lv_has ls 3 [(0, .ref (bl_ad g v0)), (1, .int v1), (2, .int v2)] → W p l e (bl_rm 0 0) s m as.toArray below meth c H locs 0 0 (bl_Qv below g s as out) (F0 m 41 ls [])) : ∀ (σ : bl_St) (v0 : Nat) (v1 : Int32) (v2 : Int32), bl_sh[v0]? = some (10, 28) → (b_X10_looksOver_41 k29 k41) σ v0 v1 v2 = some out → ∀ (H : Heap) (locs : List Loc) (ls : Array Slot), bl_V g s σ H locs → lv_has ls 3 [(0, .ref (bl_ad g v0)), (1, .int v1), (2, .int v2)] → W p l e (bl_rm 0 0) s m as.toArray below meth c H locs 0 0 (bl_Qv below g s as out) (F0 m 41 ls []) := by
  intro σ v0 v1 v2 hv0 hf H locs ls V hl
  unfold b_X10_looksOver_41 at hf
  refine lv_iload_n X.1 X.2.1 dX10_looksOver_41 rfl (lv_at hl 2 rfl) ?_
  refine lv_iconst (v := 4) X.1 X.2.1 dX10_looksOver_42 (by decide) ?_
  refine lv_icmp_ge (tgt := 89) X.1 X.2.1 dX10_looksOver_43 (by decide) (fun c6 => ?_) (fun c6 => ?_)
  · have hf := bl_ifp c6 hf
    obtain ⟨x7, e8⟩ : ∃ z : Int32, z = v1 + 1 := ⟨_, rfl⟩
    have hf := bl_let_at e8 hf
    refine lv_iinc (v := x7) (lv' := [(1, .int x7), (0, .ref (bl_ad g v0)), (2, .int v2)]) X.1 X.2.1 dX10_looksOver_89 hl (k := 1) rfl (by rw [e8]; rfl) (by decide) rfl (fun ls hl => ?_)
    refine lv_goto (tgt := 29) X.1 X.2.1 dX10_looksOver_92 (by decide) ?_
    exact hk29 σ v0 x7 hv0 hf _ _ _ V (lv_sub hl [1, 0] rfl)
  · have hf := bl_ifn c6 hf
    refine lv_aload_n X.1 X.2.1 dX10_looksOver_46 rfl (lv_at hl 0 rfl) ?_
    refine lv_aload_n X.1 X.2.1 dX10_looksOver_47 rfl (lv_at hl 0 rfl) ?_
    refine bl_geti X V hv0 fl_X10_342 dX10_looksOver_48 ?_
    refine lv_if_ne (tgt := 75) X.1 X.2.1 dX10_looksOver_51 (by decide) (fun c9 => ?_) (fun c9 => ?_)
    · have hf := bl_ifn c9 hf
      exact w_X10_looksOver_75 X hr k41 hk41 σ v0 v1 v2 v0 hv0 hv0 hf _ _ _ V (lv_sub hl [0, 1, 2] rfl)
    · have hf := bl_ifp c9 hf
      refine lv_aload_n X.1 X.2.1 dX10_looksOver_54 rfl (lv_at hl 0 rfl) ?_
      refine bl_getr X V hv0 fl_X10_17 rfl dX10_looksOver_55 (fun h10 => ?_)
      refine lv_iconst (v := 5) X.1 X.2.1 dX10_looksOver_58 (by decide) ?_
      refine lv_iconst (v := 5) X.1 X.2.1 dX10_looksOver_59 (by decide) ?_
      refine lv_iload_n X.1 X.2.1 dX10_looksOver_60 rfl (lv_at hl 1 rfl) ?_
      refine lv_imul X.1 X.2.1 dX10_looksOver_61 ?_
      refine lv_iadd X.1 X.2.1 dX10_looksOver_62 ?_
      refine lv_iload_n X.1 X.2.1 dX10_looksOver_63 rfl (lv_at hl 2 rfl) ?_
      refine lv_iadd X.1 X.2.1 dX10_looksOver_64 ?_
      obtain ⟨h11, hf⟩ := bl_gd_at hf
      refine bl_iald (k := (Int32.toNatClampNeg ((5 + (5 * v1)) + v2))) X V h10 h11 rfl dX10_looksOver_65 ?_
      refine lv_aload_n X.1 X.2.1 dX10_looksOver_66 rfl (lv_at hl 0 rfl) ?_
      refine bl_getr X V hv0 fl_X10_17 rfl dX10_looksOver_67 (fun h12 => ?_)
      refine lv_iconst (v := 0) X.1 X.2.1 dX10_looksOver_70 (by decide) ?_
      refine bl_iald (k := 0) X V h12 (by decide) (by decide) dX10_looksOver_71 ?_
      refine lv_icmp_lt (tgt := 79) X.1 X.2.1 dX10_looksOver_72 (by decide) (fun c13 => ?_) (fun c13 => ?_)
      · have hf := bl_ifp c13 hf
        refine lv_iconst (v := 0) X.1 X.2.1 dX10_looksOver_79 (by decide) ?_
        exact w_X10_looksOver_80 X hr k41 hk41 σ v0 v1 v2 0 v0 hv0 hv0 hf _ _ _ V (lv_sub hl [0, 1, 2] rfl)
      · have hf := bl_ifn c13 hf
        exact w_X10_looksOver_75 X hr k41 hk41 σ v0 v1 v2 v0 hv0 hv0 hf _ _ _ V (lv_sub hl [0, 1, 2] rfl)
theorem l_X10_looksOver_41 {p : Program} {l : Launch} {e : Env} {s : State} {m : MethodId} {below : List Frame} {meth : Method} {c : Code} {g : bl_Gp} {as : List Value} {out : Unit × bl_St} (X : bl_Cx g p s m as.toArray meth c cX10_looksOver 3 RX10) (hr : meth.sig.returnType = (Option.none : Option Jvm.ClassFile.FieldType)) (k29 : bl_St → Nat → Int32 → Option (Unit × bl_St)) (hk29 : ∀ (σ : bl_St) (v0 : Nat) (v1 : Int32), bl_sh[v0]? = some (10, 28) → k29 σ v0 v1 = some out → ∀ (H : Heap) (locs : List Loc) (ls : Array Slot), bl_V g s σ H locs → lv_has ls 3 [(0, .ref (bl_ad g v0)), (1, .int v1)] → W p l e (bl_rm 0 0) s m as.toArray below meth c H locs 0 0 (bl_Qv below g s as out) (F0 m 29 ls [])) (n : Nat) : ∀ (σ : bl_St) (v0 : Nat) (v1 : Int32) (v2 : Int32), bl_sh[v0]? = some (10, 28) → (bl_fx (fun _ _ _ _ => none) (b_X10_looksOver_41 k29) n) σ v0 v1 v2 = some out → ∀ (H : Heap) (locs : List Loc) (ls : Array Slot), bl_V g s σ H locs → lv_has ls 3 [(0, .ref (bl_ad g v0)), (1, .int v1), (2, .int v2)] → W p l e (bl_rm 0 0) s m as.toArray below meth c H locs 0 0 (bl_Qv below g s as out) (F0 m 41 ls []) := by
  induction n with
  | zero =>
    intro σ v0 v1 v2 hv0 hf H locs ls V hl
    cases hf
  | succ n ih => exact w_X10_looksOver_41 X hr k29 hk29 _ ih
set_option maxHeartbeats 4000000 in
set_option maxRecDepth 100000 in
theorem w_X10_looksOver_29 {p : Program} {l : Launch} {e : Env} {s : State} {m : MethodId} {below : List Frame} {meth : Method} {c : Code} {g : bl_Gp} {as : List Value} {out : Unit × bl_St} (X : bl_Cx g p s m as.toArray meth c cX10_looksOver 3 RX10) (hr : meth.sig.returnType = (Option.none : Option Jvm.ClassFile.FieldType)) (k29 : bl_St → Nat → Int32 → Option (Unit × bl_St)) (hk29 : ∀ (σ : bl_St) (v0 : Nat) (v1 : Int32), bl_sh[v0]? = some (10, 28) → k29 σ v0 v1 = some out → ∀ (H : Heap) (locs : List Loc) (ls : Array Slot), bl_V g s σ H locs → lv_has ls 3 [(0, .ref (bl_ad g v0)), (1, .int v1)] → W p l e (bl_rm 0 0) s m as.toArray below meth c H locs 0 0 (bl_Qv below g s as out) (F0 m 29 ls [])) : ∀ (σ : bl_St) (v0 : Nat) (v1 : Int32), bl_sh[v0]? = some (10, 28) → (b_X10_looksOver_29 k29) σ v0 v1 = some out → ∀ (H : Heap) (locs : List Loc) (ls : Array Slot), bl_V g s σ H locs → lv_has ls 3 [(0, .ref (bl_ad g v0)), (1, .int v1)] → W p l e (bl_rm 0 0) s m as.toArray below meth c H locs 0 0 (bl_Qv below g s as out) (F0 m 29 ls []) := by
  intro σ v0 v1 hv0 hf H locs ls V hl
  unfold b_X10_looksOver_29 at hf
  refine lv_iload_n X.1 X.2.1 dX10_looksOver_29 rfl (lv_at hl 1 rfl) ?_
  refine lv_aload_n X.1 X.2.1 dX10_looksOver_30 rfl (lv_at hl 0 rfl) ?_
  refine bl_getr X V hv0 fl_X10_17 rfl dX10_looksOver_31 (fun h14 => ?_)
  refine lv_iconst (v := 0) X.1 X.2.1 dX10_looksOver_34 (by decide) ?_
  refine bl_iald (k := 0) X V h14 (by decide) (by decide) dX10_looksOver_35 ?_
  refine lv_icmp_ge (tgt := 95) X.1 X.2.1 dX10_looksOver_36 (by decide) (fun c15 => ?_) (fun c15 => ?_)
  · have hf := bl_ifp c15 hf
    exact bl_retv X V hr hf dX10_looksOver_95
  · have hf := bl_ifn c15 hf
    refine lv_iconst (v := 1) X.1 X.2.1 dX10_looksOver_39 (by decide) ?_
    refine lv_istore_n (lv' := [(2, .int 1), (0, .ref (bl_ad g v0)), (1, .int v1)]) X.1 X.2.1 dX10_looksOver_40 rfl hl (by decide) rfl (fun ls hl => ?_)
    exact l_X10_looksOver_41 X hr k29 hk29 bl_fu σ v0 v1 1 hv0 hf _ _ _ V (lv_sub hl [1, 2, 0] rfl)
theorem l_X10_looksOver_29 {p : Program} {l : Launch} {e : Env} {s : State} {m : MethodId} {below : List Frame} {meth : Method} {c : Code} {g : bl_Gp} {as : List Value} {out : Unit × bl_St} (X : bl_Cx g p s m as.toArray meth c cX10_looksOver 3 RX10) (hr : meth.sig.returnType = (Option.none : Option Jvm.ClassFile.FieldType)) (n : Nat) : ∀ (σ : bl_St) (v0 : Nat) (v1 : Int32), bl_sh[v0]? = some (10, 28) → (bl_fx (fun _ _ _ => none) (b_X10_looksOver_29 ) n) σ v0 v1 = some out → ∀ (H : Heap) (locs : List Loc) (ls : Array Slot), bl_V g s σ H locs → lv_has ls 3 [(0, .ref (bl_ad g v0)), (1, .int v1)] → W p l e (bl_rm 0 0) s m as.toArray below meth c H locs 0 0 (bl_Qv below g s as out) (F0 m 29 ls []) := by
  induction n with
  | zero =>
    intro σ v0 v1 hv0 hf H locs ls V hl
    cases hf
  | succ n ih => exact w_X10_looksOver_29 X hr  _ ih
set_option maxHeartbeats 4000000 in
set_option maxRecDepth 100000 in
theorem w_X10_looksOver_24 {p : Program} {l : Launch} {e : Env} {s : State} {m : MethodId} {below : List Frame} {meth : Method} {c : Code} {g : bl_Gp} {as : List Value} {out : Unit × bl_St} (X : bl_Cx g p s m as.toArray meth c cX10_looksOver 3 RX10) (hr : meth.sig.returnType = (Option.none : Option Jvm.ClassFile.FieldType)) : ∀ (σ : bl_St) (v0 : Nat) (s0 : Int32) (s1 : Nat), bl_sh[v0]? = some (10, 28) → bl_sh[s1]? = some (10, 28) → (b_X10_looksOver_24 ) σ v0 s0 s1 = some out → ∀ (H : Heap) (locs : List Loc) (ls : Array Slot), bl_V g s σ H locs → lv_has ls 3 [(0, .ref (bl_ad g v0))] → W p l e (bl_rm 0 0) s m as.toArray below meth c H locs 0 0 (bl_Qv below g s as out) (F0 m 24 ls [.int s0, .ref (bl_ad g s1)]) := by
  intro σ v0 s0 s1 hv0 hs1 hf H locs ls V hl
  unfold b_X10_looksOver_24 at hf
  obtain ⟨h16, hf⟩ := bl_gd_at hf
  refine bl_puti X V hs1 fp_X10_342 (bl_nbo h16).1 (bl_nbo h16).2 dX10_looksOver_24 (fun σ17 H locs e18 V => ?_)
  have hf := bl_let_at e18 hf
  refine lv_iconst (v := 0) X.1 X.2.1 dX10_looksOver_27 (by decide) ?_
  refine lv_istore_n (lv' := [(1, .int 0), (0, .ref (bl_ad g v0))]) X.1 X.2.1 dX10_looksOver_28 rfl hl (by decide) rfl (fun ls hl => ?_)
  exact l_X10_looksOver_29 X hr  bl_fu σ17 v0 0 hv0 hf _ _ _ V (lv_sub hl [1, 0] rfl)
set_option maxHeartbeats 4000000 in
set_option maxRecDepth 100000 in
theorem w_X10_looksOver_19 {p : Program} {l : Launch} {e : Env} {s : State} {m : MethodId} {below : List Frame} {meth : Method} {c : Code} {g : bl_Gp} {as : List Value} {out : Unit × bl_St} (X : bl_Cx g p s m as.toArray meth c cX10_looksOver 3 RX10) (hr : meth.sig.returnType = (Option.none : Option Jvm.ClassFile.FieldType)) : ∀ (σ : bl_St) (v0 : Nat) (s0 : Nat), bl_sh[v0]? = some (10, 28) → bl_sh[s0]? = some (10, 28) → (b_X10_looksOver_19 ) σ v0 s0 = some out → ∀ (H : Heap) (locs : List Loc) (ls : Array Slot), bl_V g s σ H locs → lv_has ls 3 [(0, .ref (bl_ad g v0))] → W p l e (bl_rm 0 0) s m as.toArray below meth c H locs 0 0 (bl_Qv below g s as out) (F0 m 19 ls [.ref (bl_ad g s0)]) := by
  intro σ v0 s0 hv0 hs0 hf H locs ls V hl
  unfold b_X10_looksOver_19 at hf
  refine lv_iconst (v := 1) X.1 X.2.1 dX10_looksOver_19 (by decide) ?_
  refine lv_goto (tgt := 24) X.1 X.2.1 dX10_looksOver_20 (by decide) ?_
  exact w_X10_looksOver_24 X hr  σ v0 1 s0 hv0 hs0 hf _ _ _ V (lv_sub hl [0] rfl)
set_option maxHeartbeats 4000000 in
set_option maxRecDepth 100000 in
theorem t_X10_looksOver (l : Launch) (g : bl_Gp) (σ : bl_St) (a0 : Nat) (o : Unit × bl_St) (ha0 : bl_sh[a0]? = some (10, 28)) (hf : f_X10_looksOver σ a0 = some o) : bl_Cv l g yX10_looksOver cX10_looksOver 3 (Option.none : Option Jvm.ClassFile.FieldType) (bl_rm 0 0) [.ref (bl_ad g a0)] σ o := by
  refine bl_met (by decide) (Nat.le_of_ble_eq_true rfl) (fun p e s m below meth c ls X hr V hl => ?_)
  have hl : lv_has ls 3 [(0, .ref (bl_ad g a0))] := hl
  unfold f_X10_looksOver at hf
  refine lv_aload_n X.1 X.2.1 dX10_looksOver_0 rfl (lv_at hl 0 rfl) ?_
  refine lv_aload_n X.1 X.2.1 dX10_looksOver_1 rfl (lv_at hl 0 rfl) ?_
  refine bl_getr X V ha0 fl_X10_17 rfl dX10_looksOver_2 (fun h19 => ?_)
  refine lv_iconst (v := 0) X.1 X.2.1 dX10_looksOver_5 (by decide) ?_
  refine bl_iald (k := 0) X V h19 (by decide) (by decide) dX10_looksOver_6 ?_
  refine lv_if_eq (tgt := 19) X.1 X.2.1 dX10_looksOver_7 (by decide) (fun c20 => ?_) (fun c20 => ?_)
  · have hf := bl_ifp c20 hf
    exact w_X10_looksOver_19 X hr  σ a0 a0 ha0 ha0 hf _ _ _ V (lv_sub hl [0] rfl)
  · have hf := bl_ifn c20 hf
    refine lv_aload_n X.1 X.2.1 dX10_looksOver_10 rfl (lv_at hl 0 rfl) ?_
    refine bl_getr X V ha0 fl_X10_17 rfl dX10_looksOver_11 (fun h21 => ?_)
    refine lv_iconst (v := 1) X.1 X.2.1 dX10_looksOver_14 (by decide) ?_
    refine bl_iald (k := 1) X V h21 (by decide) (by decide) dX10_looksOver_15 ?_
    refine lv_if_ne (tgt := 23) X.1 X.2.1 dX10_looksOver_16 (by decide) (fun c22 => ?_) (fun c22 => ?_)
    · have hf := bl_ifn c22 hf
      refine lv_iconst (v := 0) X.1 X.2.1 dX10_looksOver_23 (by decide) ?_
      exact w_X10_looksOver_24 X hr  σ a0 0 a0 ha0 ha0 hf _ _ _ V (lv_sub hl [0] rfl)
    · have hf := bl_ifp c22 hf
      exact w_X10_looksOver_19 X hr  σ a0 a0 ha0 ha0 hf _ _ _ V (lv_sub hl [0] rfl)
set_option maxHeartbeats 4000000 in
set_option maxRecDepth 100000 in
theorem w_X10_text_58 {p : Program} {l : Launch} {e : Env} {s : State} {m : MethodId} {below : List Frame} {meth : Method} {c : Code} {g : bl_Gp} {as : List Value} {out : Int32 × bl_St} (X : bl_Cx g p s m as.toArray meth c cX10_text 1 RX10) (hr : meth.sig.returnType = (Option.some Jvm.ClassFile.FieldType.int)) : ∀ (σ : bl_St) (v0 : Nat), bl_sh[v0]? = some (10, 28) → (b_X10_text_58 ) σ v0 = some out → ∀ (H : Heap) (locs : List Loc) (ls : Array Slot), bl_V g s σ H locs → lv_has ls 1 [(0, .ref (bl_ad g v0))] → W p l e (bl_rm 5 115) s m as.toArray below meth c H locs 0 0 (bl_Qi below g s as out) (F0 m 58 ls []) := by
  intro σ v0 hv0 hf H locs ls V hl
  unfold b_X10_text_58 at hf
  refine lv_aload_n X.1 X.2.1 dX10_text_58 rfl (lv_at hl 0 rfl) ?_
  refine lv_iconst (v := 0) X.1 X.2.1 dX10_text_59 (by decide) ?_
  refine bl_puti X V hv0 fp_X10_316 rfl rfl dX10_text_60 (fun σ1 H locs e2 V => ?_)
  have hf := bl_let_at e2 hf
  refine lv_aload_n X.1 X.2.1 dX10_text_63 rfl (lv_at hl 0 rfl) ?_
  refine bl_geti X V hv0 fl_X10_342 dX10_text_64 ?_
  refine lv_if_eq (tgt := 78) X.1 X.2.1 dX10_text_67 (by decide) (fun c3 => ?_) (fun c3 => ?_)
  · have hf := bl_ifp c3 hf
    refine lv_aload_n X.1 X.2.1 dX10_text_78 rfl (lv_at hl 0 rfl) ?_
    refine bl_getr X V hv0 fl_X10_17 rfl dX10_text_79 (fun h4 => ?_)
    refine lv_aload_n X.1 X.2.1 dX10_text_82 rfl (lv_at hl 0 rfl) ?_
    refine bl_getr X V hv0 fl_X10_13 rfl dX10_text_83 (fun h5 => ?_)
    obtain ⟨r6, σ7, h8, hf⟩ := bl_bd_at hf
    refine bl_cSv (As := [.ref (bl_ad g (bl_R σ1 v0 2)), .ref (bl_ad g (bl_R σ1 v0 1))]) X V hl.1 ml_X10_278 mS_X10_copies (t_X10_copies l g σ1 (bl_R σ1 v0 2) (bl_R σ1 v0 1) _ h4 h5 h8) rfl rfl ⟨Nat.le_of_ble_eq_true rfl, Nat.le_of_ble_eq_true rfl⟩ rfl rfl (Nat.le_of_ble_eq_true rfl) ⟨Nat.zero_le _, Nat.zero_le _⟩ dX10_text_86 (fun H locs V => ?_)
    refine lv_aload_n X.1 X.2.1 dX10_text_89 rfl (lv_at hl 0 rfl) ?_
    refine lv_iconst (v := 0) X.1 X.2.1 dX10_text_90 (by decide) ?_
    refine bl_puti X V hv0 fp_X10_63 rfl rfl dX10_text_91 (fun σ9 H locs e10 V => ?_)
    have hf := bl_let_at e10 hf
    refine lv_aload_n X.1 X.2.1 dX10_text_94 rfl (lv_at hl 0 rfl) ?_
    refine bl_getr X V hv0 fl_X10_13 rfl dX10_text_95 (fun h11 => ?_)
    refine lv_iconst (v := 0) X.1 X.2.1 dX10_text_98 (by decide) ?_
    refine bl_iald (k := 0) X V h11 (by decide) (by decide) dX10_text_99 ?_
    exact bl_reti X V hr hf dX10_text_100
  · have hf := bl_ifn c3 hf
    refine lv_bipush (v := (-4)) X.1 X.2.1 dX10_text_70 (by decide) ?_
    refine lv_aload_n X.1 X.2.1 dX10_text_72 rfl (lv_at hl 0 rfl) ?_
    refine bl_geti X V hv0 fl_X10_328 dX10_text_73 ?_
    refine lv_isub X.1 X.2.1 dX10_text_76 ?_
    exact bl_reti X V hr hf dX10_text_77
set_option maxHeartbeats 4000000 in
set_option maxRecDepth 100000 in
theorem w_X10_text_47 {p : Program} {l : Launch} {e : Env} {s : State} {m : MethodId} {below : List Frame} {meth : Method} {c : Code} {g : bl_Gp} {as : List Value} {out : Int32 × bl_St} (X : bl_Cx g p s m as.toArray meth c cX10_text 1 RX10) (hr : meth.sig.returnType = (Option.some Jvm.ClassFile.FieldType.int)) : ∀ (σ : bl_St) (v0 : Nat), bl_sh[v0]? = some (10, 28) → (b_X10_text_47 ) σ v0 = some out → ∀ (H : Heap) (locs : List Loc) (ls : Array Slot), bl_V g s σ H locs → lv_has ls 1 [(0, .ref (bl_ad g v0))] → W p l e (bl_rm 5 115) s m as.toArray below meth c H locs 0 0 (bl_Qi below g s as out) (F0 m 47 ls []) := by
  intro σ v0 hv0 hf H locs ls V hl
  unfold b_X10_text_47 at hf
  refine lv_aload_n X.1 X.2.1 dX10_text_47 rfl (lv_at hl 0 rfl) ?_
  refine bl_geti X V hv0 fl_X10_342 dX10_text_48 ?_
  refine lv_if_ne (tgt := 58) X.1 X.2.1 dX10_text_51 (by decide) (fun c12 => ?_) (fun c12 => ?_)
  · have hf := bl_ifn c12 hf
    exact w_X10_text_58 X hr  σ v0 hv0 hf _ _ _ V (lv_sub hl [0] rfl)
  · have hf := bl_ifp c12 hf
    refine lv_aload_n X.1 X.2.1 dX10_text_54 rfl (lv_at hl 0 rfl) ?_
    obtain ⟨r13, σ14, h15, hf⟩ := bl_bd_at hf
    refine bl_cVv (As := []) X V hl.1 hv0 rfl ml_X10_366 mV_X10_looksOver (t_X10_looksOver l g σ v0 _ hv0 h15) rfl rfl ⟨Nat.le_of_ble_eq_true rfl, Nat.le_of_ble_eq_true rfl⟩ rfl rfl (Nat.le_of_ble_eq_true rfl) ⟨Nat.zero_le _, Nat.zero_le _⟩ dX10_text_55 (fun H locs V => ?_)
    exact w_X10_text_58 X hr  σ14 v0 hv0 hf _ _ _ V (lv_sub hl [0] rfl)
set_option maxHeartbeats 4000000 in
set_option maxRecDepth 100000 in
theorem w_X10_text_26 {p : Program} {l : Launch} {e : Env} {s : State} {m : MethodId} {below : List Frame} {meth : Method} {c : Code} {g : bl_Gp} {as : List Value} {out : Int32 × bl_St} (X : bl_Cx g p s m as.toArray meth c cX10_text 1 RX10) (hr : meth.sig.returnType = (Option.some Jvm.ClassFile.FieldType.int)) (k26 : bl_St → Nat → Option (Int32 × bl_St)) (hk26 : ∀ (σ : bl_St) (v0 : Nat), bl_sh[v0]? = some (10, 28) → k26 σ v0 = some out → ∀ (H : Heap) (locs : List Loc) (ls : Array Slot), bl_V g s σ H locs → lv_has ls 1 [(0, .ref (bl_ad g v0))] → W p l e (bl_rm 5 115) s m as.toArray below meth c H locs 0 0 (bl_Qi below g s as out) (F0 m 26 ls [])) : ∀ (σ : bl_St) (v0 : Nat), bl_sh[v0]? = some (10, 28) → (b_X10_text_26 k26) σ v0 = some out → ∀ (H : Heap) (locs : List Loc) (ls : Array Slot), bl_V g s σ H locs → lv_has ls 1 [(0, .ref (bl_ad g v0))] → W p l e (bl_rm 5 115) s m as.toArray below meth c H locs 0 0 (bl_Qi below g s as out) (F0 m 26 ls []) := by
  intro σ v0 hv0 hf H locs ls V hl
  unfold b_X10_text_26 at hf
  refine lv_aload_n X.1 X.2.1 dX10_text_26 rfl (lv_at hl 0 rfl) ?_
  refine bl_geti X V hv0 fl_X10_342 dX10_text_27 ?_
  refine lv_if_ne (tgt := 47) X.1 X.2.1 dX10_text_30 (by decide) (fun c16 => ?_) (fun c16 => ?_)
  · have hf := bl_ifn c16 hf
    exact w_X10_text_47 X hr  σ v0 hv0 hf _ _ _ V (lv_sub hl [0] rfl)
  · have hf := bl_ifp c16 hf
    refine lv_aload_n X.1 X.2.1 dX10_text_33 rfl (lv_at hl 0 rfl) ?_
    refine bl_geti X V hv0 fl_X10_322 dX10_text_34 ?_
    refine lv_if_eq (tgt := 47) X.1 X.2.1 dX10_text_37 (by decide) (fun c17 => ?_) (fun c17 => ?_)
    · have hf := bl_ifp c17 hf
      exact w_X10_text_47 X hr  σ v0 hv0 hf _ _ _ V (lv_sub hl [0] rfl)
    · have hf := bl_ifn c17 hf
      refine lv_aload_n X.1 X.2.1 dX10_text_40 rfl (lv_at hl 0 rfl) ?_
      obtain ⟨r18, σ19, h20, hf⟩ := bl_bd_at hf
      refine bl_cVv (As := []) X V hl.1 hv0 rfl ml_X10_363 mV_X10_readsOne (t_X10_readsOne l g σ v0 _ hv0 h20) rfl rfl ⟨Nat.le_of_ble_eq_true rfl, Nat.le_of_ble_eq_true rfl⟩ rfl rfl (Nat.le_of_ble_eq_true rfl) ⟨Nat.zero_le _, Nat.zero_le _⟩ dX10_text_41 (fun H locs V => ?_)
      refine lv_goto (tgt := 26) X.1 X.2.1 dX10_text_44 (by decide) ?_
      exact hk26 σ19 v0 hv0 hf _ _ _ V (lv_sub hl [0] rfl)
theorem l_X10_text_26 {p : Program} {l : Launch} {e : Env} {s : State} {m : MethodId} {below : List Frame} {meth : Method} {c : Code} {g : bl_Gp} {as : List Value} {out : Int32 × bl_St} (X : bl_Cx g p s m as.toArray meth c cX10_text 1 RX10) (hr : meth.sig.returnType = (Option.some Jvm.ClassFile.FieldType.int)) (n : Nat) : ∀ (σ : bl_St) (v0 : Nat), bl_sh[v0]? = some (10, 28) → (bl_fx (fun _ _ => none) (b_X10_text_26 ) n) σ v0 = some out → ∀ (H : Heap) (locs : List Loc) (ls : Array Slot), bl_V g s σ H locs → lv_has ls 1 [(0, .ref (bl_ad g v0))] → W p l e (bl_rm 5 115) s m as.toArray below meth c H locs 0 0 (bl_Qi below g s as out) (F0 m 26 ls []) := by
  induction n with
  | zero =>
    intro σ v0 hv0 hf H locs ls V hl
    cases hf
  | succ n ih => exact w_X10_text_26 X hr  _ ih
set_option maxHeartbeats 4000000 in
set_option maxRecDepth 100000 in
theorem t_X10_text (l : Launch) (g : bl_Gp) (σ : bl_St) (a0 : Nat) (o : Int32 × bl_St) (ha0 : bl_sh[a0]? = some (10, 28)) (hf : f_X10_text σ a0 = some o) : bl_Ci l g yX10_text cX10_text 1 (Option.some Jvm.ClassFile.FieldType.int) (bl_rm 5 115) [.ref (bl_ad g a0)] σ o := by
  refine bl_met (by decide) (Nat.le_of_ble_eq_true rfl) (fun p e s m below meth c ls X hr V hl => ?_)
  have hl : lv_has ls 1 [(0, .ref (bl_ad g a0))] := hl
  unfold f_X10_text at hf
  refine lv_aload_n X.1 X.2.1 dX10_text_0 rfl (lv_at hl 0 rfl) ?_
  refine bl_getr X V ha0 fl_X10_17 rfl dX10_text_1 (fun h21 => ?_)
  obtain ⟨r22, σ23, h24, hf⟩ := bl_bd_at hf
  refine bl_cSv (As := [.ref (bl_ad g (bl_R σ a0 2))]) X V hl.1 ml_X10_59 mS_X10_starts (t_X10_starts l g σ (bl_R σ a0 2) _ h21 h24) rfl rfl ⟨Nat.le_of_ble_eq_true rfl, Nat.le_of_ble_eq_true rfl⟩ rfl rfl (Nat.le_of_ble_eq_true rfl) ⟨Nat.zero_le _, Nat.zero_le _⟩ dX10_text_4 (fun H locs V => ?_)
  refine lv_aload_n X.1 X.2.1 dX10_text_7 rfl (lv_at hl 0 rfl) ?_
  refine lv_iconst (v := 0) X.1 X.2.1 dX10_text_8 (by decide) ?_
  refine bl_puti X V ha0 fp_X10_319 rfl rfl dX10_text_9 (fun σ25 H locs e26 V => ?_)
  have hf := bl_let_at e26 hf
  refine lv_aload_n X.1 X.2.1 dX10_text_12 rfl (lv_at hl 0 rfl) ?_
  refine lv_iconst (v := 3) X.1 X.2.1 dX10_text_13 (by decide) ?_
  refine bl_puti X V ha0 fp_X10_322 rfl rfl dX10_text_14 (fun σ27 H locs e28 V => ?_)
  have hf := bl_let_at e28 hf
  refine lv_aload_n X.1 X.2.1 dX10_text_17 rfl (lv_at hl 0 rfl) ?_
  refine lv_iconst (v := 0) X.1 X.2.1 dX10_text_18 (by decide) ?_
  refine bl_puti X V ha0 fp_X10_342 rfl rfl dX10_text_19 (fun σ29 H locs e30 V => ?_)
  have hf := bl_let_at e30 hf
  refine lv_aload_n X.1 X.2.1 dX10_text_22 rfl (lv_at hl 0 rfl) ?_
  obtain ⟨r31, σ32, h33, hf⟩ := bl_bd_at hf
  refine bl_cVv (As := []) X V hl.1 ha0 rfl ml_X10_345 mV_X10_goesOn (t_X10_goesOn l g σ29 a0 _ ha0 h33) rfl rfl ⟨Nat.le_of_ble_eq_true rfl, Nat.le_of_ble_eq_true rfl⟩ rfl rfl (Nat.le_of_ble_eq_true rfl) ⟨Nat.zero_le _, Nat.zero_le _⟩ dX10_text_23 (fun H locs V => ?_)
  exact l_X10_text_26 X hr  bl_fu σ32 a0 ha0 hf _ _ _ V (lv_sub hl [0] rfl)
