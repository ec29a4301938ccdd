set_option maxHeartbeats 4000000 in
set_option maxRecDepth 100000 in
theorem t_X10_least (l : Launch) (g : bl_Gp) (σ : bl_St) (a0 : Nat) (a1 : Int32) (a2 : Int32) (a3 : Int32) (a4 : Int32) (a5 : Int32) (o : Int32 × bl_St) (ha0 : bl_sh[a0]? = some (10, 28)) (hf : f_X10_least σ a0 a1 a2 a3 a4 a5 = some o) : bl_Ci l g yX10_least cX10_least 6 (Option.some Jvm.ClassFile.FieldType.int) (bl_rm 9 233) [.ref (bl_ad g a0), .int a1, .int a2, .int a3, .int a4, .int a5] σ o := by
  refine bl_met (by decide) (Nat.le_of_ble_eq_true rfl) (fun p e s m below meth c ls X hr V hl => ?_)
  have hl : lv_has ls 6 [(0, .ref (bl_ad g a0)), (1, .int a1), (2, .int a2), (3, .int a3), (4, .int a4), (5, .int a5)] := hl
  unfold f_X10_least at hf
  refine lv_aload_n X.1 X.2.1 dX10_least_0 rfl (lv_at hl 0 rfl) ?_
  refine lv_iload_n X.1 X.2.1 dX10_least_1 rfl (lv_at hl 1 rfl) ?_
  refine lv_iload_n X.1 X.2.1 dX10_least_2 rfl (lv_at hl 2 rfl) ?_
  refine lv_iload_n X.1 X.2.1 dX10_least_3 rfl (lv_at hl 3 rfl) ?_
  refine lv_iload X.1 X.2.1 dX10_least_4 (lv_at hl 4 rfl) ?_
  refine lv_aload_n X.1 X.2.1 dX10_least_6 rfl (lv_at hl 0 rfl) ?_
  refine bl_getr X V ha0 fl_X10_13 rfl dX10_least_7 (fun h1 => ?_)
  refine lv_iconst (v := 2) X.1 X.2.1 dX10_least_10 (by decide) ?_
  refine bl_iald (k := 2) X V h1 (by decide) (by decide) dX10_least_11 ?_
  refine lv_iconst (v := 1) X.1 X.2.1 dX10_least_12 (by decide) ?_
  refine lv_isub X.1 X.2.1 dX10_least_13 ?_
  obtain ⟨r2, σ3, h4, hf⟩ := bl_bd_at hf
  refine bl_cVi (As := [.int a1, .int a2, .int a3, .int a4, .int ((bl_I σ (bl_R σ a0 1) 2) - 1)]) X V hl.1 ha0 rfl ml_X10_237 mV_X10_isChance (t_X10_isChance l g σ a0 a1 a2 a3 a4 ((bl_I σ (bl_R σ a0 1) 2) - 1) _ ha0 h4) rfl rfl ⟨Nat.le_of_ble_eq_true rfl, Nat.le_of_ble_eq_true rfl⟩ rfl rfl (Nat.le_of_ble_eq_true rfl) ⟨Nat.zero_le _, Nat.zero_le _⟩ dX10_least_14 (fun H locs V => ?_)
  refine lv_if_eq (tgt := 40) X.1 X.2.1 dX10_least_17 (by decide) (fun c5 => ?_) (fun c5 => ?_)
  · have hf := bl_ifp c5 hf
    refine lv_iconst (v := (-1)) X.1 X.2.1 dX10_least_40 (by decide) ?_
    exact bl_reti X V hr hf dX10_least_41
  · have hf := bl_ifn c5 hf
    refine lv_aload_n X.1 X.2.1 dX10_least_20 rfl (lv_at hl 0 rfl) ?_
    refine lv_iload_n X.1 X.2.1 dX10_least_21 rfl (lv_at hl 3 rfl) ?_
    refine lv_iload X.1 X.2.1 dX10_least_22 (lv_at hl 4 rfl) ?_
    refine lv_iload X.1 X.2.1 dX10_least_24 (lv_at hl 5 rfl) ?_
    refine lv_if_eq (tgt := 33) X.1 X.2.1 dX10_least_26 (by decide) (fun c6 => ?_) (fun c6 => ?_)
    · have hf := bl_ifp c6 hf
      refine lv_iconst (v := 0) X.1 X.2.1 dX10_least_33 (by decide) ?_
      obtain ⟨r7, σ8, h9, hf⟩ := bl_bd_at hf
      refine bl_cVi (As := [.int a3, .int a4, .int 0]) X V hl.1 ha0 rfl ml_X10_241 mV_X10_leastSize (t_X10_leastSize l g σ3 a0 a3 a4 0 _ ha0 h9) rfl rfl ⟨Nat.le_of_ble_eq_true rfl, Nat.le_of_ble_eq_true rfl⟩ rfl rfl (Nat.le_of_ble_eq_true rfl) ⟨Nat.zero_le _, Nat.zero_le _⟩ dX10_least_34 (fun H locs V => ?_)
      refine lv_goto (tgt := 41) X.1 X.2.1 dX10_least_37 (by decide) ?_
      exact bl_reti X V hr hf dX10_least_41
    · have hf := bl_ifn c6 hf
      refine lv_iconst (v := 1) X.1 X.2.1 dX10_least_29 (by decide) ?_
      refine lv_goto (tgt := 34) X.1 X.2.1 dX10_least_30 (by decide) ?_
      obtain ⟨r10, σ11, h12, hf⟩ := bl_bd_at hf
      refine bl_cVi (As := [.int a3, .int a4, .int 1]) X V hl.1 ha0 rfl ml_X10_241 mV_X10_leastSize (t_X10_leastSize l g σ3 a0 a3 a4 1 _ ha0 h12) rfl rfl ⟨Nat.le_of_ble_eq_true rfl, Nat.le_of_ble_eq_true rfl⟩ rfl rfl (Nat.le_of_ble_eq_true rfl) ⟨Nat.zero_le _, Nat.zero_le _⟩ dX10_least_34 (fun H locs V => ?_)
      refine lv_goto (tgt := 41) X.1 X.2.1 dX10_least_37 (by decide) ?_
      exact bl_reti X V hr hf dX10_least_41
set_option maxHeartbeats 4000000 in
set_option maxRecDepth 100000 in
theorem w_X10_tells_72 {p : Program} {l : Launch} {e : Env} {s : State} {m : MethodId} {below : List Frame} {meth : Method} {c : Code} {g : bl_Gp} {as : List Value} {out : Int32 × bl_St} (X : bl_Cx g p s m as.toArray meth c cX10_tells 8 RX10) (hr : meth.sig.returnType = (Option.some Jvm.ClassFile.FieldType.int)) (k28 : bl_St → Nat → Int32 → Int32 → Int32 → Int32 → Int32 → Option (Int32 × bl_St)) (hk28 : ∀ (σ : bl_St) (v0 : Nat) (v3 : Int32) (v4 : Int32) (v5 : Int32) (v6 : Int32) (v7 : Int32), bl_sh[v0]? = some (10, 28) → k28 σ v0 v3 v4 v5 v6 v7 = some out → ∀ (H : Heap) (locs : List Loc) (ls : Array Slot), bl_V g s σ H locs → lv_has ls 8 [(0, .ref (bl_ad g v0)), (3, .int v3), (4, .int v4), (5, .int v5), (6, .int v6), (7, .int v7)] → W p l e (bl_rm 9 233) s m as.toArray below meth c H locs 0 0 (bl_Qi below g s as out) (F0 m 28 ls [])) : ∀ (σ : bl_St) (v0 : Nat) (v3 : Int32) (v4 : Int32) (v5 : Int32) (v6 : Int32) (v7 : Int32), bl_sh[v0]? = some (10, 28) → (b_X10_tells_72 k28) σ v0 v3 v4 v5 v6 v7 = some out → ∀ (H : Heap) (locs : List Loc) (ls : Array Slot), bl_V g s σ H locs → lv_has ls 8 [(0, .ref (bl_ad g v0)), (3, .int v3), (4, .int v4), (5, .int v5), (6, .int v6), (7, .int v7)] → W p l e (bl_rm 9 233) s m as.toArray below meth c H locs 0 0 (bl_Qi below g s as out) (F0 m 72 ls []) := by
  intro σ v0 v3 v4 v5 v6 v7 hv0 hf H locs ls V hl
  unfold b_X10_tells_72 at hf
  obtain ⟨x1, e2⟩ : ∃ z : Int32, z = v7 + 1 := ⟨_, rfl⟩
  have hf := bl_let_at e2 hf
  refine lv_iinc (v := x1) (lv' := [(7, .int x1), (0, .ref (bl_ad g v0)), (3, .int v3), (4, .int v4), (5, .int v5), (6, .int v6)]) X.1 X.2.1 dX10_tells_72 hl (k := 5) rfl (by rw [e2]; rfl) (by decide) rfl (fun ls hl => ?_)
  refine lv_goto (tgt := 28) X.1 X.2.1 dX10_tells_75 (by decide) ?_
  exact hk28 σ v0 v3 v4 v5 v6 x1 hv0 hf _ _ _ V (lv_sub hl [1, 2, 3, 4, 5, 0] rfl)
set_option maxHeartbeats 4000000 in
set_option maxRecDepth 100000 in
theorem w_X10_tells_55 {p : Program} {l : Launch} {e : Env} {s : State} {m : MethodId} {below : List Frame} {meth : Method} {c : Code} {g : bl_Gp} {as : List Value} {out : Int32 × bl_St} (X : bl_Cx g p s m as.toArray meth c cX10_tells 8 RX10) (hr : meth.sig.returnType = (Option.some Jvm.ClassFile.FieldType.int)) (k28 : bl_St → Nat → Int32 → Int32 → Int32 → Int32 → Int32 → Option (Int32 × bl_St)) (hk28 : ∀ (σ : bl_St) (v0 : Nat) (v3 : Int32) (v4 : Int32) (v5 : Int32) (v6 : Int32) (v7 : Int32), bl_sh[v0]? = some (10, 28) → k28 σ v0 v3 v4 v5 v6 v7 = some out → ∀ (H : Heap) (locs : List Loc) (ls : Array Slot), bl_V g s σ H locs → lv_has ls 8 [(0, .ref (bl_ad g v0)), (3, .int v3), (4, .int v4), (5, .int v5), (6, .int v6), (7, .int v7)] → W p l e (bl_rm 9 233) s m as.toArray below meth c H locs 0 0 (bl_Qi below g s as out) (F0 m 28 ls [])) : ∀ (σ : bl_St) (v0 : Nat) (v3 : Int32) (v4 : Int32) (v5 : Int32) (v6 : Int32) (v7 : Int32) (s0 : Int32) (s1 : Int32) (s2 : Int32) (s3 : Int32) (s4 : Nat), bl_sh[v0]? = some (10, 28) → bl_sh[s4]? = some (10, 28) → (b_X10_tells_55 k28) σ v0 v3 v4 v5 v6 v7 s0 s1 s2 s3 s4 = some out → ∀ (H : Heap) (locs : List Loc) (ls : Array Slot), bl_V g s σ H locs → lv_has ls 8 [(0, .ref (bl_ad g v0)), (3, .int v3), (4, .int v4), (5, .int v5), (6, .int v6), (7, .int v7)] → W p l e (bl_rm 9 233) s m as.toArray below meth c H locs 0 0 (bl_Qi below g s as out) (F0 m 55 ls [.int s0, .int s1, .int s2, .int s3, .ref (bl_ad g s4)]) := by
  intro σ v0 v3 v4 v5 v6 v7 s0 s1 s2 s3 s4 hv0 hs4 hf H locs ls V hl
  unfold b_X10_tells_55 at hf
  obtain ⟨r3, σ4, h5, hf⟩ := bl_bd_at hf
  refine bl_cVl (As := [.int s3, .int s2, .int s1, .int s0]) X V hl.1 hs4 rfl ml_X10_159 mV_X10_gainOf (t_X10_gainOf l g σ s4 s3 s2 s1 s0 _ hs4 h5) rfl rfl ⟨Nat.le_of_ble_eq_true rfl, Nat.le_of_ble_eq_true rfl⟩ rfl rfl (Nat.le_of_ble_eq_true rfl) ⟨Nat.zero_le _, Nat.zero_le _⟩ dX10_tells_55 (fun H locs V => ?_)
  refine lv_lconst (v := 0) X.1 X.2.1 dX10_tells_58 (by decide) ?_
  refine bl_lc_le (tgt := 72) X dX10_tells_59 dX10_tells_60 (by decide) (fun c6 => ?_) (fun c6 => ?_)
  · have hf := bl_ifp c6 hf
    exact w_X10_tells_72 X hr k28 hk28 σ4 v0 v3 v4 v5 v6 v7 hv0 hf _ _ _ V (lv_sub hl [0, 1, 2, 3, 4, 5] rfl)
  · have hf := bl_ifn c6 hf
    refine lv_iload X.1 X.2.1 dX10_tells_63 (lv_at hl 4 rfl) ?_
    refine lv_iconst (v := 1) X.1 X.2.1 dX10_tells_65 (by decide) ?_
    refine lv_iload X.1 X.2.1 dX10_tells_66 (lv_at hl 5 rfl) ?_
    refine lv_ishl X.1 X.2.1 dX10_tells_68 ?_
    refine lv_ior X.1 X.2.1 dX10_tells_69 ?_
    refine lv_topi (fun x7 e8 => ?_)
    have hf := bl_let_at e8 hf
    refine lv_istore (lv' := [(6, .int x7), (0, .ref (bl_ad g v0)), (3, .int v3), (4, .int v4), (5, .int v5), (7, .int v7)]) X.1 X.2.1 dX10_tells_70 hl (by decide) rfl (fun ls hl => ?_)
    exact w_X10_tells_72 X hr k28 hk28 σ4 v0 v3 v4 v5 x7 v7 hv0 hf _ _ _ V (lv_sub hl [1, 2, 3, 4, 0, 5] rfl)
set_option maxHeartbeats 4000000 in
set_option maxRecDepth 100000 in
theorem w_X10_tells_28 {p : Program} {l : Launch} {e : Env} {s : State} {m : MethodId} {below : List Frame} {meth : Method} {c : Code} {g : bl_Gp} {as : List Value} {out : Int32 × bl_St} (X : bl_Cx g p s m as.toArray meth c cX10_tells 8 RX10) (hr : meth.sig.returnType = (Option.some Jvm.ClassFile.FieldType.int)) (k28 : bl_St → Nat → Int32 → Int32 → Int32 → Int32 → Int32 → Option (Int32 × bl_St)) (hk28 : ∀ (σ : bl_St) (v0 : Nat) (v3 : Int32) (v4 : Int32) (v5 : Int32) (v6 : Int32) (v7 : Int32), bl_sh[v0]? = some (10, 28) → k28 σ v0 v3 v4 v5 v6 v7 = some out → ∀ (H : Heap) (locs : List Loc) (ls : Array Slot), bl_V g s σ H locs → lv_has ls 8 [(0, .ref (bl_ad g v0)), (3, .int v3), (4, .int v4), (5, .int v5), (6, .int v6), (7, .int v7)] → W p l e (bl_rm 9 233) s m as.toArray below meth c H locs 0 0 (bl_Qi below g s as out) (F0 m 28 ls [])) : ∀ (σ : bl_St) (v0 : Nat) (v3 : Int32) (v4 : Int32) (v5 : Int32) (v6 : Int32) (v7 : Int32), bl_sh[v0]? = some (10, 28) → (b_X10_tells_28 k28) σ v0 v3 v4 v5 v6 v7 = some out → ∀ (H : Heap) (locs : List Loc) (ls : Array Slot), bl_V g s σ H locs → lv_has ls 8 [(0, .ref (bl_ad g v0)), (3, .int v3), (4, .int v4), (5, .int v5), (6, .int v6), (7, .int v7)] → W p l e (bl_rm 9 233) s m as.toArray below meth c H locs 0 0 (bl_Qi below g s as out) (F0 m 28 ls []) := by
  intro σ v0 v3 v4 v5 v6 v7 hv0 hf H locs ls V hl
  unfold b_X10_tells_28 at hf
  refine lv_iload X.1 X.2.1 dX10_tells_28 (lv_at hl 5 rfl) ?_
  refine lv_aload_n X.1 X.2.1 dX10_tells_30 rfl (lv_at hl 0 rfl) ?_
  refine bl_getr X V hv0 fl_X10_13 rfl dX10_tells_31 (fun h9 => ?_)
  refine lv_iconst (v := 1) X.1 X.2.1 dX10_tells_34 (by decide) ?_
  refine bl_iald (k := 1) X V h9 (by decide) (by decide) dX10_tells_35 ?_
  refine lv_icmp_ge (tgt := 78) X.1 X.2.1 dX10_tells_36 (by decide) (fun c10 => ?_) (fun c10 => ?_)
  · have hf := bl_ifp c10 hf
    refine lv_iload X.1 X.2.1 dX10_tells_78 (lv_at hl 4 rfl) ?_
    exact bl_reti X V hr hf dX10_tells_80
  · have hf := bl_ifn c10 hf
    refine lv_aload_n X.1 X.2.1 dX10_tells_39 rfl (lv_at hl 0 rfl) ?_
    refine lv_iload X.1 X.2.1 dX10_tells_40 (lv_at hl 5 rfl) ?_
    refine lv_iload_n X.1 X.2.1 dX10_tells_42 rfl (lv_at hl 1 rfl) ?_
    refine lv_iload X.1 X.2.1 dX10_tells_43 (lv_at hl 2 rfl) ?_
    refine lv_iload X.1 X.2.1 dX10_tells_45 (lv_at hl 3 rfl) ?_
    refine lv_if_eq (tgt := 54) X.1 X.2.1 dX10_tells_47 (by decide) (fun c11 => ?_) (fun c11 => ?_)
    · have hf := bl_ifp c11 hf
      refine lv_iconst (v := 0) X.1 X.2.1 dX10_tells_54 (by decide) ?_
      exact w_X10_tells_55 X hr k28 hk28 σ v0 v3 v4 v5 v6 v7 0 v4 v3 v7 v0 hv0 hv0 hf _ _ _ V (lv_sub hl [0, 1, 2, 3, 4, 5] rfl)
    · have hf := bl_ifn c11 hf
      refine lv_iconst (v := 1) X.1 X.2.1 dX10_tells_50 (by decide) ?_
      refine lv_goto (tgt := 55) X.1 X.2.1 dX10_tells_51 (by decide) ?_
      exact w_X10_tells_55 X hr k28 hk28 σ v0 v3 v4 v5 v6 v7 1 v4 v3 v7 v0 hv0 hv0 hf _ _ _ V (lv_sub hl [0, 1, 2, 3, 4, 5] rfl)
theorem l_X10_tells_28 {p : Program} {l : Launch} {e : Env} {s : State} {m : MethodId} {below : List Frame} {meth : Method} {c : Code} {g : bl_Gp} {as : List Value} {out : Int32 × bl_St} (X : bl_Cx g p s m as.toArray meth c cX10_tells 8 RX10) (hr : meth.sig.returnType = (Option.some Jvm.ClassFile.FieldType.int)) (n : Nat) : ∀ (σ : bl_St) (v0 : Nat) (v3 : Int32) (v4 : Int32) (v5 : Int32) (v6 : Int32) (v7 : Int32), bl_sh[v0]? = some (10, 28) → (bl_fx (fun _ _ _ _ _ _ _ => none) (b_X10_tells_28 ) n) σ v0 v3 v4 v5 v6 v7 = some out → ∀ (H : Heap) (locs : List Loc) (ls : Array Slot), bl_V g s σ H locs → lv_has ls 8 [(0, .ref (bl_ad g v0)), (3, .int v3), (4, .int v4), (5, .int v5), (6, .int v6), (7, .int v7)] → W p l e (bl_rm 9 233) s m as.toArray below meth c H locs 0 0 (bl_Qi below g s as out) (F0 m 28 ls []) := by
  induction n with
  | zero =>
    intro σ v0 v3 v4 v5 v6 v7 hv0 hf H locs ls V hl
    cases hf
  | succ n ih => exact w_X10_tells_28 X hr  _ ih
set_option maxHeartbeats 4000000 in
set_option maxRecDepth 100000 in
theorem t_X10_tells (l : Launch) (g : bl_Gp) (σ : bl_St) (a0 : Nat) (a1 : Int32) (a2 : Int32) (a3 : Int32) (a4 : Int32) (a5 : Int32) (o : Int32 × bl_St) (ha0 : bl_sh[a0]? = some (10, 28)) (hf : f_X10_tells σ a0 a1 a2 a3 a4 a5 = some o) : bl_Ci l g yX10_tells cX10_tells 8 (Option.some Jvm.ClassFile.FieldType.int) (bl_rm 9 233) [.ref (bl_ad g a0), .int a1, .int a2, .int a3, .int a4, .int a5] σ o := by
  refine bl_met (by decide) (Nat.le_of_ble_eq_true rfl) (fun p e s m below meth c ls X hr V hl => ?_)
  have hl : lv_has ls 8 [(0, .ref (bl_ad g a0)), (1, .int a1), (2, .int a2), (3, .int a3), (4, .int a4), (5, .int a5)] := hl
  unfold f_X10_tells at hf
  refine lv_aload_n X.1 X.2.1 dX10_tells_0 rfl (lv_at hl 0 rfl) ?_
  refine lv_iload_n X.1 X.2.1 dX10_tells_1 rfl (lv_at hl 1 rfl) ?_
  refine lv_iload_n X.1 X.2.1 dX10_tells_2 rfl (lv_at hl 2 rfl) ?_
  refine lv_iload_n X.1 X.2.1 dX10_tells_3 rfl (lv_at hl 3 rfl) ?_
  refine lv_iload X.1 X.2.1 dX10_tells_4 (lv_at hl 4 rfl) ?_
  refine lv_aload_n X.1 X.2.1 dX10_tells_6 rfl (lv_at hl 0 rfl) ?_
  refine bl_getr X V ha0 fl_X10_13 rfl dX10_tells_7 (fun h12 => ?_)
  refine lv_iconst (v := 2) X.1 X.2.1 dX10_tells_10 (by decide) ?_
  refine bl_iald (k := 2) X V h12 (by decide) (by decide) dX10_tells_11 ?_
  refine lv_iconst (v := 1) X.1 X.2.1 dX10_tells_12 (by decide) ?_
  refine lv_isub X.1 X.2.1 dX10_tells_13 ?_
  obtain ⟨r13, σ14, h15, hf⟩ := bl_bd_at hf
  refine bl_cVi (As := [.int a1, .int a2, .int a3, .int a4, .int ((bl_I σ (bl_R σ a0 1) 2) - 1)]) X V hl.1 ha0 rfl ml_X10_237 mV_X10_isChance (t_X10_isChance l g σ a0 a1 a2 a3 a4 ((bl_I σ (bl_R σ a0 1) 2) - 1) _ ha0 h15) rfl rfl ⟨Nat.le_of_ble_eq_true rfl, Nat.le_of_ble_eq_true rfl⟩ rfl rfl (Nat.le_of_ble_eq_true rfl) ⟨Nat.zero_le _, Nat.zero_le _⟩ dX10_tells_14 (fun H locs V => ?_)
  refine lv_if_ne (tgt := 22) X.1 X.2.1 dX10_tells_17 (by decide) (fun c16 => ?_) (fun c16 => ?_)
  · have hf := bl_ifn c16 hf
    refine lv_iconst (v := 0) X.1 X.2.1 dX10_tells_22 (by decide) ?_
    refine lv_istore (lv' := [(6, .int 0), (0, .ref (bl_ad g a0)), (1, .int a1), (2, .int a2), (3, .int a3), (4, .int a4), (5, .int a5)]) X.1 X.2.1 dX10_tells_23 hl (by decide) rfl (fun ls hl => ?_)
    refine lv_iconst (v := 0) X.1 X.2.1 dX10_tells_25 (by decide) ?_
    refine lv_istore (lv' := [(7, .int 0), (6, .int 0), (0, .ref (bl_ad g a0)), (1, .int a1), (2, .int a2), (3, .int a3), (4, .int a4), (5, .int a5)]) X.1 X.2.1 dX10_tells_26 hl (by decide) rfl (fun ls hl => ?_)
    exact l_X10_tells_28 X hr  bl_fu σ14 a0 a3 a4 a5 0 0 ha0 hf _ _ _ V (lv_sub hl [2, 5, 6, 7, 1, 0] rfl)
  · have hf := bl_ifp c16 hf
    refine lv_iconst (v := (-1)) X.1 X.2.1 dX10_tells_20 (by decide) ?_
    exact bl_reti X V hr hf dX10_tells_21
set_option maxHeartbeats 4000000 in
set_option maxRecDepth 100000 in
theorem t_X10_gain (l : Launch) (g : bl_Gp) (σ : bl_St) (a0 : Nat) (a1 : Int32) (a2 : Int32) (a3 : Int32) (a4 : Int32) (a5 : Int32) (a6 : Int32) (o : Int64 × bl_St) (ha0 : bl_sh[a0]? = some (10, 28)) (hf : f_X10_gain σ a0 a1 a2 a3 a4 a5 a6 = some o) : bl_Cl l g yX10_gain cX10_gain 7 (Option.some Jvm.ClassFile.FieldType.long) (bl_rm 9 233) [.ref (bl_ad g a0), .int a1, .int a2, .int a3, .int a4, .int a5, .int a6] σ o := by
  refine bl_met (by decide) (Nat.le_of_ble_eq_true rfl) (fun p e s m below meth c ls X hr V hl => ?_)
  have hl : lv_has ls 7 [(0, .ref (bl_ad g a0)), (1, .int a1), (2, .int a2), (3, .int a3), (4, .int a4), (5, .int a5), (6, .int a6)] := hl
  unfold f_X10_gain at hf
  refine lv_aload_n X.1 X.2.1 dX10_gain_0 rfl (lv_at hl 0 rfl) ?_
  refine lv_iload X.1 X.2.1 dX10_gain_1 (lv_at hl 6 rfl) ?_
  obtain ⟨r1, σ2, h3, hf⟩ := bl_bd_at hf
  refine bl_cVi (As := [.int a6]) X V hl.1 ha0 rfl ml_X10_93 mV_X10_isSort (t_X10_isSort l g σ a0 a6 _ ha0 h3) rfl rfl ⟨Nat.le_of_ble_eq_true rfl, Nat.le_of_ble_eq_true rfl⟩ rfl rfl (Nat.le_of_ble_eq_true rfl) ⟨Nat.zero_le _, Nat.zero_le _⟩ dX10_gain_3 (fun H locs V => ?_)
  refine lv_if_eq (tgt := 51) X.1 X.2.1 dX10_gain_6 (by decide) (fun c4 => ?_) (fun c4 => ?_)
  · have hf := bl_ifp c4 hf
    refine lv_ldc2 (v := (-9223372036854775808)) X.1 X.2.1 X.2.2.2.1 (X.2.2.2.2.1 _ kl_X10_201) dX10_gain_51 ?_
    exact bl_retl X V hr hf dX10_gain_54
  · have hf := bl_ifn c4 hf
    refine lv_aload_n X.1 X.2.1 dX10_gain_9 rfl (lv_at hl 0 rfl) ?_
    refine lv_iload_n X.1 X.2.1 dX10_gain_10 rfl (lv_at hl 1 rfl) ?_
    refine lv_iload_n X.1 X.2.1 dX10_gain_11 rfl (lv_at hl 2 rfl) ?_
    refine lv_iload_n X.1 X.2.1 dX10_gain_12 rfl (lv_at hl 3 rfl) ?_
    refine lv_iload X.1 X.2.1 dX10_gain_13 (lv_at hl 4 rfl) ?_
    refine lv_aload_n X.1 X.2.1 dX10_gain_15 rfl (lv_at hl 0 rfl) ?_
    refine bl_getr X V ha0 fl_X10_13 rfl dX10_gain_16 (fun h5 => ?_)
    refine lv_iconst (v := 2) X.1 X.2.1 dX10_gain_19 (by decide) ?_
    refine bl_iald (k := 2) X V h5 (by decide) (by decide) dX10_gain_20 ?_
    refine lv_iconst (v := 1) X.1 X.2.1 dX10_gain_21 (by decide) ?_
    refine lv_isub X.1 X.2.1 dX10_gain_22 ?_
    obtain ⟨r6, σ7, h8, hf⟩ := bl_bd_at hf
    refine bl_cVi (As := [.int a1, .int a2, .int a3, .int a4, .int ((bl_I σ2 (bl_R σ2 a0 1) 2) - 1)]) X V hl.1 ha0 rfl ml_X10_237 mV_X10_isChance (t_X10_isChance l g σ2 a0 a1 a2 a3 a4 ((bl_I σ2 (bl_R σ2 a0 1) 2) - 1) _ ha0 h8) rfl rfl ⟨Nat.le_of_ble_eq_true rfl, Nat.le_of_ble_eq_true rfl⟩ rfl rfl (Nat.le_of_ble_eq_true rfl) ⟨Nat.zero_le _, Nat.zero_le _⟩ dX10_gain_23 (fun H locs V => ?_)
    refine lv_if_eq (tgt := 51) X.1 X.2.1 dX10_gain_26 (by decide) (fun c9 => ?_) (fun c9 => ?_)
    · have hf := bl_ifp c9 hf
      refine lv_ldc2 (v := (-9223372036854775808)) X.1 X.2.1 X.2.2.2.1 (X.2.2.2.2.1 _ kl_X10_201) dX10_gain_51 ?_
      exact bl_retl X V hr hf dX10_gain_54
    · have hf := bl_ifn c9 hf
      refine lv_aload_n X.1 X.2.1 dX10_gain_29 rfl (lv_at hl 0 rfl) ?_
      refine lv_iload X.1 X.2.1 dX10_gain_30 (lv_at hl 6 rfl) ?_
      refine lv_iload_n X.1 X.2.1 dX10_gain_32 rfl (lv_at hl 3 rfl) ?_
      refine lv_iload X.1 X.2.1 dX10_gain_33 (lv_at hl 4 rfl) ?_
      refine lv_iload X.1 X.2.1 dX10_gain_35 (lv_at hl 5 rfl) ?_
      refine lv_if_eq (tgt := 44) X.1 X.2.1 dX10_gain_37 (by decide) (fun c10 => ?_) (fun c10 => ?_)
      · have hf := bl_ifp c10 hf
        refine lv_iconst (v := 0) X.1 X.2.1 dX10_gain_44 (by decide) ?_
        obtain ⟨r11, σ12, h13, hf⟩ := bl_bd_at hf
        refine bl_cVl (As := [.int a6, .int a3, .int a4, .int 0]) X V hl.1 ha0 rfl ml_X10_159 mV_X10_gainOf (t_X10_gainOf l g σ7 a0 a6 a3 a4 0 _ ha0 h13) rfl rfl ⟨Nat.le_of_ble_eq_true rfl, Nat.le_of_ble_eq_true rfl⟩ rfl rfl (Nat.le_of_ble_eq_true rfl) ⟨Nat.zero_le _, Nat.zero_le _⟩ dX10_gain_45 (fun H locs V => ?_)
        refine lv_goto (tgt := 54) X.1 X.2.1 dX10_gain_48 (by decide) ?_
        exact bl_retl X V hr hf dX10_gain_54
      · have hf := bl_ifn c10 hf
        refine lv_iconst (v := 1) X.1 X.2.1 dX10_gain_40 (by decide) ?_
        refine lv_goto (tgt := 45) X.1 X.2.1 dX10_gain_41 (by decide) ?_
        obtain ⟨r14, σ15, h16, hf⟩ := bl_bd_at hf
        refine bl_cVl (As := [.int a6, .int a3, .int a4, .int 1]) X V hl.1 ha0 rfl ml_X10_159 mV_X10_gainOf (t_X10_gainOf l g σ7 a0 a6 a3 a4 1 _ ha0 h16) rfl rfl ⟨Nat.le_of_ble_eq_true rfl, Nat.le_of_ble_eq_true rfl⟩ rfl rfl (Nat.le_of_ble_eq_true rfl) ⟨Nat.zero_le _, Nat.zero_le _⟩ dX10_gain_45 (fun H locs V => ?_)
        refine lv_goto (tgt := 54) X.1 X.2.1 dX10_gain_48 (by decide) ?_
        exact bl_retl X V hr hf dX10_gain_54
set_option maxHeartbeats 4000000 in
set_option maxRecDepth 100000 in
theorem w_X10_patience_29 {p : Program} {l : Launch} {e : Env} {s : State} {m : MethodId} {below : List Frame} {meth : Method} {c : Code} {g : bl_Gp} {as : List Value} {out : Int32 × bl_St} (X : bl_Cx g p s m as.toArray meth c cX10_patience 4 RX10) (hr : meth.sig.returnType = (Option.some Jvm.ClassFile.FieldType.int)) (k29 : bl_St → Nat → Int32 → Int32 → Int32 → Option (Int32 × bl_St)) (hk29 : ∀ (σ : bl_St) (v0 : Nat) (v1 : Int32) (v2 : Int32) (v3 : Int32), bl_sh[v0]? = some (10, 28) → k29 σ v0 v1 v2 v3 = some out → ∀ (H : Heap) (locs : List Loc) (ls : Array Slot), bl_V g s σ H locs → lv_has ls 4 [(0, .ref (bl_ad g v0)), (1, .int v1), (2, .int v2), (3, .int v3)] → W p l e (bl_rm 8 208) s m as.toArray below meth c H locs 0 0 (bl_Qi below g s as out) (F0 m 29 ls [])) : ∀ (σ : bl_St) (v0 : Nat) (v1 : Int32) (v2 : Int32) (v3 : Int32), bl_sh[v0]? = some (10, 28) → (b_X10_patience_29 k29) σ v0 v1 v2 v3 = some out → ∀ (H : Heap) (locs : List Loc) (ls : Array Slot), bl_V g s σ H locs → lv_has ls 4 [(0, .ref (bl_ad g v0)), (1, .int v1), (2, .int v2), (3, .int v3)] → W p l e (bl_rm 8 208) s m as.toArray below meth c H locs 0 0 (bl_Qi below g s as out) (F0 m 29 ls []) := by
  intro σ v0 v1 v2 v3 hv0 hf H locs ls V hl
  unfold b_X10_patience_29 at hf
  refine lv_iload_n X.1 X.2.1 dX10_patience_29 rfl (lv_at hl 3 rfl) ?_
  refine lv_bipush (v := 20) X.1 X.2.1 dX10_patience_30 (by decide) ?_
  refine lv_icmp_gt (tgt := 62) X.1 X.2.1 dX10_patience_32 (by decide) (fun c1 => ?_) (fun c1 => ?_)
  · have hf := bl_ifp c1 hf
    refine lv_bipush (v := (-2)) X.1 X.2.1 dX10_patience_62 (by decide) ?_
    exact bl_reti X V hr hf dX10_patience_64
  · have hf := bl_ifn c1 hf
    refine lv_aload_n X.1 X.2.1 dX10_patience_35 rfl (lv_at hl 0 rfl) ?_
    refine lv_iload_n X.1 X.2.1 dX10_patience_36 rfl (lv_at hl 3 rfl) ?_
    refine lv_iload_n X.1 X.2.1 dX10_patience_37 rfl (lv_at hl 1 rfl) ?_
    obtain ⟨r2, σ3, h4, hf⟩ := bl_bd_at hf
    refine bl_cVv (As := [.int v3, .int v1]) X V hl.1 hv0 rfl ml_X10_152 mV_X10_laysChances (t_X10_laysChances l g σ v0 v3 v1 _ hv0 h4) rfl rfl ⟨Nat.le_of_ble_eq_true rfl, Nat.le_of_ble_eq_true rfl⟩ rfl rfl (Nat.le_of_ble_eq_true rfl) ⟨Nat.zero_le _, Nat.zero_le _⟩ dX10_patience_38 (fun H locs V => ?_)
    refine lv_aload_n X.1 X.2.1 dX10_patience_41 rfl (lv_at hl 0 rfl) ?_
    refine lv_iload_n X.1 X.2.1 dX10_patience_42 rfl (lv_at hl 2 rfl) ?_
    refine lv_iconst (v := 0) X.1 X.2.1 dX10_patience_43 (by decide) ?_
    refine lv_iconst (v := 0) X.1 X.2.1 dX10_patience_44 (by decide) ?_
    refine lv_iconst (v := 0) X.1 X.2.1 dX10_patience_45 (by decide) ?_
    obtain ⟨r5, σ6, h7, hf⟩ := bl_bd_at hf
    refine bl_cVl (As := [.int v2, .int 0, .int 0, .int 0]) X V hl.1 hv0 rfl ml_X10_159 mV_X10_gainOf (t_X10_gainOf l g σ3 v0 v2 0 0 0 _ hv0 h7) rfl rfl ⟨Nat.le_of_ble_eq_true rfl, Nat.le_of_ble_eq_true rfl⟩ rfl rfl (Nat.le_of_ble_eq_true rfl) ⟨Nat.zero_le _, Nat.zero_le _⟩ dX10_patience_46 (fun H locs V => ?_)
    refine lv_lconst (v := 0) X.1 X.2.1 dX10_patience_49 (by decide) ?_
    refine bl_lc_gt (tgt := 56) X dX10_patience_50 dX10_patience_51 (by decide) (fun c8 => ?_) (fun c8 => ?_)
    · have hf := bl_ifp c8 hf
      obtain ⟨x9, e10⟩ : ∃ z : Int32, z = v3 + 1 := ⟨_, rfl⟩
      have hf := bl_let_at e10 hf
      refine lv_iinc (v := x9) (lv' := [(3, .int x9), (0, .ref (bl_ad g v0)), (1, .int v1), (2, .int v2)]) X.1 X.2.1 dX10_patience_56 hl (k := 3) rfl (by rw [e10]; rfl) (by decide) rfl (fun ls hl => ?_)
      refine lv_goto (tgt := 29) X.1 X.2.1 dX10_patience_59 (by decide) ?_
      exact hk29 σ6 v0 v1 v2 x9 hv0 hf _ _ _ V (lv_sub hl [1, 2, 3, 0] rfl)
    · have hf := bl_ifn c8 hf
      refine lv_iload_n X.1 X.2.1 dX10_patience_54 rfl (lv_at hl 3 rfl) ?_
      exact bl_reti X V hr hf dX10_patience_55
theorem l_X10_patience_29 {p : Program} {l : Launch} {e : Env} {s : State} {m : MethodId} {below : List Frame} {meth : Method} {c : Code} {g : bl_Gp} {as : List Value} {out : Int32 × bl_St} (X : bl_Cx g p s m as.toArray meth c cX10_patience 4 RX10) (hr : meth.sig.returnType = (Option.some Jvm.ClassFile.FieldType.int)) (n : Nat) : ∀ (σ : bl_St) (v0 : Nat) (v1 : Int32) (v2 : Int32) (v3 : Int32), bl_sh[v0]? = some (10, 28) → (bl_fx (fun _ _ _ _ _ => none) (b_X10_patience_29 ) n) σ v0 v1 v2 v3 = some out → ∀ (H : Heap) (locs : List Loc) (ls : Array Slot), bl_V g s σ H locs → lv_has ls 4 [(0, .ref (bl_ad g v0)), (1, .int v1), (2, .int v2), (3, .int v3)] → W p l e (bl_rm 8 208) s m as.toArray below meth c H locs 0 0 (bl_Qi below g s as out) (F0 m 29 ls []) := by
  induction n with
  | zero =>
    intro σ v0 v1 v2 v3 hv0 hf H locs ls V hl
    cases hf
  | succ n ih => exact w_X10_patience_29 X hr  _ ih
set_option maxHeartbeats 4000000 in
set_option maxRecDepth 100000 in
theorem t_X10_patience (l : Launch) (g : bl_Gp) (σ : bl_St) (a0 : Nat) (a1 : Int32) (a2 : Int32) (o : Int32 × bl_St) (ha0 : bl_sh[a0]? = some (10, 28)) (hf : f_X10_patience σ a0 a1 a2 = some o) : bl_Ci l g yX10_patience cX10_patience 4 (Option.some Jvm.ClassFile.FieldType.int) (bl_rm 8 208) [.ref (bl_ad g a0), .int a1, .int a2] σ o := by
  refine bl_met (by decide) (Nat.le_of_ble_eq_true rfl) (fun p e s m below meth c ls X hr V hl => ?_)
  have hl : lv_has ls 4 [(0, .ref (bl_ad g a0)), (1, .int a1), (2, .int a2)] := hl
  unfold f_X10_patience at hf
  refine lv_aload_n X.1 X.2.1 dX10_patience_0 rfl (lv_at hl 0 rfl) ?_
  refine lv_iload_n X.1 X.2.1 dX10_patience_1 rfl (lv_at hl 1 rfl) ?_
  obtain ⟨r11, σ12, h13, hf⟩ := bl_bd_at hf
  refine bl_cVi (As := [.int a1]) X V hl.1 ha0 rfl ml_X10_84 mV_X10_isClass (t_X10_isClass l g σ a0 a1 _ ha0 h13) rfl rfl ⟨Nat.le_of_ble_eq_true rfl, Nat.le_of_ble_eq_true rfl⟩ rfl rfl (Nat.le_of_ble_eq_true rfl) ⟨Nat.zero_le _, Nat.zero_le _⟩ dX10_patience_2 (fun H locs V => ?_)
  refine lv_if_eq (tgt := 16) X.1 X.2.1 dX10_patience_5 (by decide) (fun c14 => ?_) (fun c14 => ?_)
  · have hf := bl_ifp c14 hf
    refine lv_iconst (v := (-1)) X.1 X.2.1 dX10_patience_16 (by decide) ?_
    exact bl_reti X V hr hf dX10_patience_17
  · have hf := bl_ifn c14 hf
    refine lv_aload_n X.1 X.2.1 dX10_patience_8 rfl (lv_at hl 0 rfl) ?_
    refine lv_iload_n X.1 X.2.1 dX10_patience_9 rfl (lv_at hl 2 rfl) ?_
    obtain ⟨r15, σ16, h17, hf⟩ := bl_bd_at hf
    refine bl_cVi (As := [.int a2]) X V hl.1 ha0 rfl ml_X10_93 mV_X10_isSort (t_X10_isSort l g σ12 a0 a2 _ ha0 h17) rfl rfl ⟨Nat.le_of_ble_eq_true rfl, Nat.le_of_ble_eq_true rfl⟩ rfl rfl (Nat.le_of_ble_eq_true rfl) ⟨Nat.zero_le _, Nat.zero_le _⟩ dX10_patience_10 (fun H locs V => ?_)
    refine lv_if_ne (tgt := 18) X.1 X.2.1 dX10_patience_13 (by decide) (fun c18 => ?_) (fun c18 => ?_)
    · have hf := bl_ifn c18 hf
      refine lv_aload_n X.1 X.2.1 dX10_patience_18 rfl (lv_at hl 0 rfl) ?_
      refine lv_bipush (v := 20) X.1 X.2.1 dX10_patience_19 (by decide) ?_
      refine lv_iconst (v := 1) X.1 X.2.1 dX10_patience_21 (by decide) ?_
      refine lv_iconst (v := 0) X.1 X.2.1 dX10_patience_22 (by decide) ?_
      refine lv_iconst (v := 0) X.1 X.2.1 dX10_patience_23 (by decide) ?_
      obtain ⟨r19, σ20, h21, hf⟩ := bl_bd_at hf
      refine bl_cVv (As := [.int 20, .int 1, .int 0, .int 0]) X V hl.1 ha0 rfl ml_X10_142 mV_X10_lays (t_X10_lays l g σ16 a0 20 1 0 0 _ ha0 h21) rfl rfl ⟨Nat.le_of_ble_eq_true rfl, Nat.le_of_ble_eq_true rfl⟩ rfl rfl (Nat.le_of_ble_eq_true rfl) ⟨Nat.zero_le _, Nat.zero_le _⟩ dX10_patience_24 (fun H locs V => ?_)
      refine lv_iconst (v := 1) X.1 X.2.1 dX10_patience_27 (by decide) ?_
      refine lv_istore_n (lv' := [(3, .int 1), (0, .ref (bl_ad g a0)), (1, .int a1), (2, .int a2)]) X.1 X.2.1 dX10_patience_28 rfl hl (by decide) rfl (fun ls hl => ?_)
      exact l_X10_patience_29 X hr  bl_fu σ20 a0 a1 a2 1 ha0 hf _ _ _ V (lv_sub hl [1, 2, 3, 0] rfl)
    · have hf := bl_ifp c18 hf
      refine lv_iconst (v := (-1)) X.1 X.2.1 dX10_patience_16 (by decide) ?_
      exact bl_reti X V hr hf dX10_patience_17
set_option maxHeartbeats 4000000 in
set_option maxRecDepth 100000 in
theorem t_X10_worst (l : Launch) (g : bl_Gp) (σ : bl_St) (a0 : Nat) (a1 : Int32) (a2 : Int32) (o : Int64 × bl_St) (ha0 : bl_sh[a0]? = some (10, 28)) (hf : f_X10_worst σ a0 a1 a2 = some o) : bl_Cl l g yX10_worst cX10_worst 3 (Option.some Jvm.ClassFile.FieldType.long) (bl_rm 7 184) [.ref (bl_ad g a0), .int a1, .int a2] σ o := by
  refine bl_met (by decide) (Nat.le_of_ble_eq_true rfl) (fun p e s m below meth c ls X hr V hl => ?_)
  have hl : lv_has ls 3 [(0, .ref (bl_ad g a0)), (1, .int a1), (2, .int a2)] := hl
  unfold f_X10_worst at hf
  refine lv_iload_n X.1 X.2.1 dX10_worst_0 rfl (lv_at hl 1 rfl) ?_
  obtain ⟨r1, σ2, h3, hf⟩ := bl_bd_at hf
  refine bl_cSi (As := [.int a1]) X V hl.1 ml_X10_227 mS_X10_areYears (t_X10_areYears l g σ a1 _  h3) rfl rfl ⟨Nat.le_of_ble_eq_true rfl, Nat.le_of_ble_eq_true rfl⟩ rfl rfl (Nat.le_of_ble_eq_true rfl) ⟨Nat.zero_le _, Nat.zero_le _⟩ dX10_worst_1 (fun H locs V => ?_)
  refine lv_if_eq (tgt := 15) X.1 X.2.1 dX10_worst_4 (by decide) (fun c4 => ?_) (fun c4 => ?_)
  · have hf := bl_ifp c4 hf
    refine lv_ldc2 (v := (-1)) X.1 X.2.1 X.2.2.2.1 (X.2.2.2.2.1 _ kl_X10_233) dX10_worst_15 ?_
    exact bl_retl X V hr hf dX10_worst_18
  · have hf := bl_ifn c4 hf
    refine lv_aload_n X.1 X.2.1 dX10_worst_7 rfl (lv_at hl 0 rfl) ?_
    refine lv_iload_n X.1 X.2.1 dX10_worst_8 rfl (lv_at hl 2 rfl) ?_
    obtain ⟨r5, σ6, h7, hf⟩ := bl_bd_at hf
    refine bl_cVi (As := [.int a2]) X V hl.1 ha0 rfl ml_X10_84 mV_X10_isClass (t_X10_isClass l g σ2 a0 a2 _ ha0 h7) rfl rfl ⟨Nat.le_of_ble_eq_true rfl, Nat.le_of_ble_eq_true rfl⟩ rfl rfl (Nat.le_of_ble_eq_true rfl) ⟨Nat.zero_le _, Nat.zero_le _⟩ dX10_worst_9 (fun H locs V => ?_)
    refine lv_if_ne (tgt := 19) X.1 X.2.1 dX10_worst_12 (by decide) (fun c8 => ?_) (fun c8 => ?_)
    · have hf := bl_ifn c8 hf
      refine lv_aload_n X.1 X.2.1 dX10_worst_19 rfl (lv_at hl 0 rfl) ?_
      refine lv_iconst (v := 0) X.1 X.2.1 dX10_worst_20 (by decide) ?_
      refine bl_puti X V ha0 fp_X10_191 rfl rfl dX10_worst_21 (fun σ9 H locs e10 V => ?_)
      have hf := bl_let_at e10 hf
      refine lv_aload_n X.1 X.2.1 dX10_worst_24 rfl (lv_at hl 0 rfl) ?_
      refine lv_iconst (v := 1) X.1 X.2.1 dX10_worst_25 (by decide) ?_
      refine bl_puti X V ha0 fp_X10_197 rfl rfl dX10_worst_26 (fun σ11 H locs e12 V => ?_)
      have hf := bl_let_at e12 hf
      refine lv_aload_n X.1 X.2.1 dX10_worst_29 rfl (lv_at hl 0 rfl) ?_
      refine lv_iload_n X.1 X.2.1 dX10_worst_30 rfl (lv_at hl 1 rfl) ?_
      refine lv_iconst (v := 0) X.1 X.2.1 dX10_worst_31 (by decide) ?_
      refine lv_aload_n X.1 X.2.1 dX10_worst_32 rfl (lv_at hl 0 rfl) ?_
      refine bl_getr X V ha0 fl_X10_13 rfl dX10_worst_33 (fun h13 => ?_)
      refine lv_iconst (v := 2) X.1 X.2.1 dX10_worst_36 (by decide) ?_
      refine bl_iald (k := 2) X V h13 (by decide) (by decide) dX10_worst_37 ?_
      refine lv_iconst (v := 1) X.1 X.2.1 dX10_worst_38 (by decide) ?_
      refine lv_iconst (v := 0) X.1 X.2.1 dX10_worst_39 (by decide) ?_
      obtain ⟨r14, σ15, h16, hf⟩ := bl_bd_at hf
      refine bl_cVv (As := [.int a1, .int 0, .int (bl_I σ11 (bl_R σ11 a0 1) 2), .int 1, .int 0]) X V hl.1 ha0 rfl ml_X10_223 mV_X10_laysYears (t_X10_laysYears l g σ11 a0 a1 0 (bl_I σ11 (bl_R σ11 a0 1) 2) 1 0 _ ha0 h16) rfl rfl ⟨Nat.le_of_ble_eq_true rfl, Nat.le_of_ble_eq_true rfl⟩ rfl rfl (Nat.le_of_ble_eq_true rfl) ⟨Nat.zero_le _, Nat.zero_le _⟩ dX10_worst_40 (fun H locs V => ?_)
      refine lv_aload_n X.1 X.2.1 dX10_worst_43 rfl (lv_at hl 0 rfl) ?_
      refine lv_iconst (v := 0) X.1 X.2.1 dX10_worst_44 (by decide) ?_
      refine bl_puti X V ha0 fp_X10_197 rfl rfl dX10_worst_45 (fun σ17 H locs e18 V => ?_)
      have hf := bl_let_at e18 hf
      refine lv_aload_n X.1 X.2.1 dX10_worst_48 rfl (lv_at hl 0 rfl) ?_
      refine lv_iload_n X.1 X.2.1 dX10_worst_49 rfl (lv_at hl 1 rfl) ?_
      refine lv_iload_n X.1 X.2.1 dX10_worst_50 rfl (lv_at hl 2 rfl) ?_
      obtain ⟨r19, σ20, h21, hf⟩ := bl_bd_at hf
      refine bl_cVl (As := [.int a1, .int a2]) X V hl.1 ha0 rfl ml_X10_210 mV_X10_costAt (t_X10_costAt l g σ17 a0 a1 a2 _ ha0 h21) rfl rfl ⟨Nat.le_of_ble_eq_true rfl, Nat.le_of_ble_eq_true rfl⟩ rfl rfl (Nat.le_of_ble_eq_true rfl) ⟨Nat.zero_le _, Nat.zero_le _⟩ dX10_worst_51 (fun H locs V => ?_)
      exact bl_retl X V hr hf dX10_worst_54
    · have hf := bl_ifp c8 hf
      refine lv_ldc2 (v := (-1)) X.1 X.2.1 X.2.2.2.1 (X.2.2.2.2.1 _ kl_X10_233) dX10_worst_15 ?_
      exact bl_retl X V hr hf dX10_worst_18
set_option maxHeartbeats 4000000 in
set_option maxRecDepth 100000 in
theorem t_X10_bare (l : Launch) (g : bl_Gp) (σ : bl_St) (a0 : Nat) (a1 : Int32) (a2 : Int32) (o : Int64 × bl_St) (ha0 : bl_sh[a0]? = some (10, 28)) (hf : f_X10_bare σ a0 a1 a2 = some o) : bl_Cl l g yX10_bare cX10_bare 3 (Option.some Jvm.ClassFile.FieldType.long) (bl_rm 9 230) [.ref (bl_ad g a0), .int a1, .int a2] σ o := by
  refine bl_met (by decide) (Nat.le_of_ble_eq_true rfl) (fun p e s m below meth c ls X hr V hl => ?_)
  have hl : lv_has ls 3 [(0, .ref (bl_ad g a0)), (1, .int a1), (2, .int a2)] := hl
  unfold f_X10_bare at hf
  refine lv_iload_n X.1 X.2.1 dX10_bare_0 rfl (lv_at hl 1 rfl) ?_
  obtain ⟨r1, σ2, h3, hf⟩ := bl_bd_at hf
  refine bl_cSi (As := [.int a1]) X V hl.1 ml_X10_227 mS_X10_areYears (t_X10_areYears l g σ a1 _  h3) rfl rfl ⟨Nat.le_of_ble_eq_true rfl, Nat.le_of_ble_eq_true rfl⟩ rfl rfl (Nat.le_of_ble_eq_true rfl) ⟨Nat.zero_le _, Nat.zero_le _⟩ dX10_bare_1 (fun H locs V => ?_)
  refine lv_if_eq (tgt := 24) X.1 X.2.1 dX10_bare_4 (by decide) (fun c4 => ?_) (fun c4 => ?_)
  · have hf := bl_ifp c4 hf
    refine lv_ldc2 (v := (-1)) X.1 X.2.1 X.2.2.2.1 (X.2.2.2.2.1 _ kl_X10_233) dX10_bare_24 ?_
    exact bl_retl X V hr hf dX10_bare_27
  · have hf := bl_ifn c4 hf
    refine lv_aload_n X.1 X.2.1 dX10_bare_7 rfl (lv_at hl 0 rfl) ?_
    refine lv_iload_n X.1 X.2.1 dX10_bare_8 rfl (lv_at hl 2 rfl) ?_
    obtain ⟨r5, σ6, h7, hf⟩ := bl_bd_at hf
    refine bl_cVi (As := [.int a2]) X V hl.1 ha0 rfl ml_X10_84 mV_X10_isClass (t_X10_isClass l g σ2 a0 a2 _ ha0 h7) rfl rfl ⟨Nat.le_of_ble_eq_true rfl, Nat.le_of_ble_eq_true rfl⟩ rfl rfl (Nat.le_of_ble_eq_true rfl) ⟨Nat.zero_le _, Nat.zero_le _⟩ dX10_bare_9 (fun H locs V => ?_)
    refine lv_if_eq (tgt := 24) X.1 X.2.1 dX10_bare_12 (by decide) (fun c8 => ?_) (fun c8 => ?_)
    · have hf := bl_ifp c8 hf
      refine lv_ldc2 (v := (-1)) X.1 X.2.1 X.2.2.2.1 (X.2.2.2.2.1 _ kl_X10_233) dX10_bare_24 ?_
      exact bl_retl X V hr hf dX10_bare_27
    · have hf := bl_ifn c8 hf
      refine lv_aload_n X.1 X.2.1 dX10_bare_15 rfl (lv_at hl 0 rfl) ?_
      refine lv_iload_n X.1 X.2.1 dX10_bare_16 rfl (lv_at hl 1 rfl) ?_
      refine lv_iload_n X.1 X.2.1 dX10_bare_17 rfl (lv_at hl 2 rfl) ?_
      obtain ⟨r9, σ10, h11, hf⟩ := bl_bd_at hf
      refine bl_cVl (As := [.int a1, .int a2]) X V hl.1 ha0 rfl ml_X10_244 mV_X10_bareCost (t_X10_bareCost l g σ6 a0 a1 a2 _ ha0 h11) rfl rfl ⟨Nat.le_of_ble_eq_true rfl, Nat.le_of_ble_eq_true rfl⟩ rfl rfl (Nat.le_of_ble_eq_true rfl) ⟨Nat.zero_le _, Nat.zero_le _⟩ dX10_bare_18 (fun H locs V => ?_)
      refine lv_goto (tgt := 27) X.1 X.2.1 dX10_bare_21 (by decide) ?_
      exact bl_retl X V hr hf dX10_bare_27
set_option maxHeartbeats 4000000 in
set_option maxRecDepth 100000 in
theorem w_X10_by_27 {p : Program} {l : Launch} {e : Env} {s : State} {m : MethodId} {below : List Frame} {meth : Method} {c : Code} {g : bl_Gp} {as : List Value} {out : Int64 × bl_St} (X : bl_Cx g p s m as.toArray meth c cX10_by 5 RX10) (hr : meth.sig.returnType = (Option.some Jvm.ClassFile.FieldType.long)) : ∀ (σ : bl_St) (v0 : Nat) (v1 : Int32) (v2 : Int32) (v3 : Int32) (v4 : Int32) (s0 : Int64) (s1 : Int64) (s2 : Int64), bl_sh[v0]? = some (10, 28) → (b_X10_by_27 ) σ v0 v1 v2 v3 v4 s0 s1 s2 = some out → ∀ (H : Heap) (locs : List Loc) (ls : Array Slot), bl_V g s σ H locs → lv_has ls 5 [(0, .ref (bl_ad g v0)), (1, .int v1), (2, .int v2), (3, .int v3), (4, .int v4)] → W p l e (bl_rm 8 208) s m as.toArray below meth c H locs 0 0 (bl_Ql below g s as out) (F0 m 27 ls [.long s0, .long s1, .long s2]) := by
  intro σ v0 v1 v2 v3 v4 s0 s1 s2 hv0 hf H locs ls V hl
  unfold b_X10_by_27 at hf
  obtain ⟨r1, σ2, h3, hf⟩ := bl_bd_at hf
  refine bl_cSi (As := [.long s2, .long s1, .long s0]) X V hl.1 ml_X10_66 mS_X10_in (t_X10_in l g σ s2 s1 s0 _  h3) rfl rfl ⟨Nat.le_of_ble_eq_true rfl, Nat.le_of_ble_eq_true rfl⟩ rfl rfl (Nat.le_of_ble_eq_true rfl) ⟨Nat.zero_le _, Nat.zero_le _⟩ dX10_by_27 (fun H locs V => ?_)
  refine lv_if_eq (tgt := 49) X.1 X.2.1 dX10_by_30 (by decide) (fun c4 => ?_) (fun c4 => ?_)
  · have hf := bl_ifp c4 hf
    refine lv_ldc2 (v := (-1)) X.1 X.2.1 X.2.2.2.1 (X.2.2.2.2.1 _ kl_X10_233) dX10_by_49 ?_
    exact bl_retl X V hr hf dX10_by_52
  · have hf := bl_ifn c4 hf
    refine lv_iload_n X.1 X.2.1 dX10_by_33 rfl (lv_at hl 3 rfl) ?_
    obtain ⟨r5, σ6, h7, hf⟩ := bl_bd_at hf
    refine bl_cSi (As := [.int v3]) X V hl.1 ml_X10_227 mS_X10_areYears (t_X10_areYears l g σ2 v3 _  h7) rfl rfl ⟨Nat.le_of_ble_eq_true rfl, Nat.le_of_ble_eq_true rfl⟩ rfl rfl (Nat.le_of_ble_eq_true rfl) ⟨Nat.zero_le _, Nat.zero_le _⟩ dX10_by_34 (fun H locs V => ?_)
    refine lv_if_eq (tgt := 49) X.1 X.2.1 dX10_by_37 (by decide) (fun c8 => ?_) (fun c8 => ?_)
    · have hf := bl_ifp c8 hf
      refine lv_ldc2 (v := (-1)) X.1 X.2.1 X.2.2.2.1 (X.2.2.2.2.1 _ kl_X10_233) dX10_by_49 ?_
      exact bl_retl X V hr hf dX10_by_52
    · have hf := bl_ifn c8 hf
      refine lv_aload_n X.1 X.2.1 dX10_by_40 rfl (lv_at hl 0 rfl) ?_
      refine lv_iload X.1 X.2.1 dX10_by_41 (lv_at hl 4 rfl) ?_
      obtain ⟨r9, σ10, h11, hf⟩ := bl_bd_at hf
      refine bl_cVi (As := [.int v4]) X V hl.1 hv0 rfl ml_X10_84 mV_X10_isClass (t_X10_isClass l g σ6 v0 v4 _ hv0 h11) rfl rfl ⟨Nat.le_of_ble_eq_true rfl, Nat.le_of_ble_eq_true rfl⟩ rfl rfl (Nat.le_of_ble_eq_true rfl) ⟨Nat.zero_le _, Nat.zero_le _⟩ dX10_by_43 (fun H locs V => ?_)
      refine lv_if_ne (tgt := 53) X.1 X.2.1 dX10_by_46 (by decide) (fun c12 => ?_) (fun c12 => ?_)
      · have hf := bl_ifn c12 hf
        refine lv_aload_n X.1 X.2.1 dX10_by_53 rfl (lv_at hl 0 rfl) ?_
        refine lv_iload_n X.1 X.2.1 dX10_by_54 rfl (lv_at hl 3 rfl) ?_
        refine lv_iconst (v := 0) X.1 X.2.1 dX10_by_55 (by decide) ?_
        refine lv_iload_n X.1 X.2.1 dX10_by_56 rfl (lv_at hl 1 rfl) ?_
        refine lv_iload_n X.1 X.2.1 dX10_by_57 rfl (lv_at hl 2 rfl) ?_
        obtain ⟨r13, σ14, h15, hf⟩ := bl_bd_at hf
        refine bl_cVv (As := [.int v3, .int 0, .int v1, .int v2]) X V hl.1 hv0 rfl ml_X10_142 mV_X10_lays (t_X10_lays l g σ10 v0 v3 0 v1 v2 _ hv0 h15) rfl rfl ⟨Nat.le_of_ble_eq_true rfl, Nat.le_of_ble_eq_true rfl⟩ rfl rfl (Nat.le_of_ble_eq_true rfl) ⟨Nat.zero_le _, Nat.zero_le _⟩ dX10_by_58 (fun H locs V => ?_)
        refine lv_aload_n X.1 X.2.1 dX10_by_61 rfl (lv_at hl 0 rfl) ?_
        refine lv_iload_n X.1 X.2.1 dX10_by_62 rfl (lv_at hl 3 rfl) ?_
        refine lv_iload X.1 X.2.1 dX10_by_63 (lv_at hl 4 rfl) ?_
        obtain ⟨r16, σ17, h18, hf⟩ := bl_bd_at hf
        refine bl_cVl (As := [.int v3, .int v4]) X V hl.1 hv0 rfl ml_X10_210 mV_X10_costAt (t_X10_costAt l g σ14 v0 v3 v4 _ hv0 h18) rfl rfl ⟨Nat.le_of_ble_eq_true rfl, Nat.le_of_ble_eq_true rfl⟩ rfl rfl (Nat.le_of_ble_eq_true rfl) ⟨Nat.zero_le _, Nat.zero_le _⟩ dX10_by_65 (fun H locs V => ?_)
        exact bl_retl X V hr hf dX10_by_68
      · have hf := bl_ifp c12 hf
        refine lv_ldc2 (v := (-1)) X.1 X.2.1 X.2.2.2.1 (X.2.2.2.2.1 _ kl_X10_233) dX10_by_49 ?_
        exact bl_retl X V hr hf dX10_by_52
set_option maxHeartbeats 4000000 in
set_option maxRecDepth 100000 in
theorem t_X10_by (l : Launch) (g : bl_Gp) (σ : bl_St) (a0 : Nat) (a1 : Int32) (a2 : Int32) (a3 : Int32) (a4 : Int32) (o : Int64 × bl_St) (ha0 : bl_sh[a0]? = some (10, 28)) (hf : f_X10_by σ a0 a1 a2 a3 a4 = some o) : bl_Cl l g yX10_by cX10_by 5 (Option.some Jvm.ClassFile.FieldType.long) (bl_rm 8 208) [.ref (bl_ad g a0), .int a1, .int a2, .int a3, .int a4] σ o := by
  refine bl_met (by decide) (Nat.le_of_ble_eq_true rfl) (fun p e s m below meth c ls X hr V hl => ?_)
  have hl : lv_has ls 5 [(0, .ref (bl_ad g a0)), (1, .int a1), (2, .int a2), (3, .int a3), (4, .int a4)] := hl
  unfold f_X10_by at hf
  refine lv_iload_n X.1 X.2.1 dX10_by_0 rfl (lv_at hl 1 rfl) ?_
  refine lv_i2l X.1 X.2.1 dX10_by_1 rfl ?_
  refine lv_lconst (v := 0) X.1 X.2.1 dX10_by_2 (by decide) ?_
  refine lv_ldc2 (v := 3) X.1 X.2.1 X.2.2.2.1 (X.2.2.2.2.1 _ kl_X10_100) dX10_by_3 ?_
  obtain ⟨r19, σ20, h21, hf⟩ := bl_bd_at hf
  refine bl_cSi (As := [.long (Int32.toInt64 a1), .long 0, .long 3]) X V hl.1 ml_X10_66 mS_X10_in (t_X10_in l g σ (Int32.toInt64 a1) 0 3 _  h21) rfl rfl ⟨Nat.le_of_ble_eq_true rfl, Nat.le_of_ble_eq_true rfl⟩ rfl rfl (Nat.le_of_ble_eq_true rfl) ⟨Nat.zero_le _, Nat.zero_le _⟩ dX10_by_6 (fun H locs V => ?_)
  refine lv_if_eq (tgt := 49) X.1 X.2.1 dX10_by_9 (by decide) (fun c22 => ?_) (fun c22 => ?_)
  · have hf := bl_ifp c22 hf
    refine lv_ldc2 (v := (-1)) X.1 X.2.1 X.2.2.2.1 (X.2.2.2.2.1 _ kl_X10_233) dX10_by_49 ?_
    exact bl_retl X V hr hf dX10_by_52
  · have hf := bl_ifn c22 hf
    refine lv_iload_n X.1 X.2.1 dX10_by_12 rfl (lv_at hl 2 rfl) ?_
    refine lv_i2l X.1 X.2.1 dX10_by_13 rfl ?_
    refine lv_lconst (v := 0) X.1 X.2.1 dX10_by_14 (by decide) ?_
    refine lv_iload_n X.1 X.2.1 dX10_by_15 rfl (lv_at hl 1 rfl) ?_
    refine lv_iconst (v := 3) X.1 X.2.1 dX10_by_16 (by decide) ?_
    refine lv_icmp_ne (tgt := 26) X.1 X.2.1 dX10_by_17 (by decide) (fun c23 => ?_) (fun c23 => ?_)
    · have hf := bl_ifn c23 hf
      refine lv_lconst (v := 0) X.1 X.2.1 dX10_by_26 (by decide) ?_
      exact w_X10_by_27 X hr  σ20 a0 a1 a2 a3 a4 0 0 (Int32.toInt64 a2) ha0 hf _ _ _ V (lv_sub hl [0, 1, 2, 3, 4] rfl)
    · have hf := bl_ifp c23 hf
      refine lv_ldc2 (v := 999) X.1 X.2.1 X.2.2.2.1 (X.2.2.2.2.1 _ kl_X10_96) dX10_by_20 ?_
      refine lv_goto (tgt := 27) X.1 X.2.1 dX10_by_23 (by decide) ?_
      exact w_X10_by_27 X hr  σ20 a0 a1 a2 a3 a4 999 0 (Int32.toInt64 a2) ha0 hf _ _ _ V (lv_sub hl [0, 1, 2, 3, 4] rfl)
set_option maxHeartbeats 4000000 in
set_option maxRecDepth 100000 in
theorem w_X10_bestLimit_136 {p : Program} {l : Launch} {e : Env} {s : State} {m : MethodId} {below : List Frame} {meth : Method} {c : Code} {g : bl_Gp} {as : List Value} {out : Int32 × bl_St} (X : bl_Cx g p s m as.toArray meth c cX10_bestLimit 9 RX10) (hr : meth.sig.returnType = (Option.some Jvm.ClassFile.FieldType.int)) (k25 : bl_St → Nat → Int32 → Int32 → Int32 → Int64 → Int32 → Option (Int32 × bl_St)) (hk25 : ∀ (σ : bl_St) (v0 : Nat) (v1 : Int32) (v2 : Int32) (v3 : Int32) (v4 : Int64) (v6 : Int32), bl_sh[v0]? = some (10, 28) → k25 σ v0 v1 v2 v3 v4 v6 = some out → ∀ (H : Heap) (locs : List Loc) (ls : Array Slot), bl_V g s σ H locs → lv_has ls 9 [(0, .ref (bl_ad g v0)), (1, .int v1), (2, .int v2), (3, .int v3), (4, .long v4), (6, .int v6)] → W p l e (bl_rm 8 208) s m as.toArray below meth c H locs 0 0 (bl_Qi below g s as out) (F0 m 25 ls [])) : ∀ (σ : bl_St) (v0 : Nat) (v1 : Int32) (v2 : Int32) (v3 : Int32) (v4 : Int64) (v6 : Int32), bl_sh[v0]? = some (10, 28) → (b_X10_bestLimit_136 k25) σ v0 v1 v2 v3 v4 v6 = some out → ∀ (H : Heap) (locs : List Loc) (ls : Array Slot), bl_V g s σ H locs → lv_has ls 9 [(0, .ref (bl_ad g v0)), (1, .int v1), (2, .int v2), (3, .int v3), (4, .long v4), (6, .int v6)] → W p l e (bl_rm 8 208) s m as.toArray below meth c H locs 0 0 (bl_Qi below g s as out) (F0 m 136 ls []) := by
  intro σ v0 v1 v2 v3 v4 v6 hv0 hf H locs ls V hl
  unfold b_X10_bestLimit_136 at hf
  obtain ⟨x1, e2⟩ : ∃ z : Int32, z = v6 + 1 := ⟨_, rfl⟩
  have hf := bl_let_at e2 hf
  refine lv_iinc (v := x1) (lv' := [(6, .int x1), (0, .ref (bl_ad g v0)), (1, .int v1), (2, .int v2), (3, .int v3), (4, .long v4)]) X.1 X.2.1 dX10_bestLimit_136 hl (k := 5) rfl (by rw [e2]; rfl) (by decide) rfl (fun ls hl => ?_)
  refine lv_goto (tgt := 25) X.1 X.2.1 dX10_bestLimit_139 (by decide) ?_
  exact hk25 σ v0 v1 v2 v3 v4 x1 hv0 hf _ _ _ V (lv_sub hl [1, 2, 3, 4, 5, 0] rfl)
set_option maxHeartbeats 4000000 in
set_option maxRecDepth 100000 in
theorem w_X10_bestLimit_125 {p : Program} {l : Launch} {e : Env} {s : State} {m : MethodId} {below : List Frame} {meth : Method} {c : Code} {g : bl_Gp} {as : List Value} {out : Int32 × bl_St} (X : bl_Cx g p s m as.toArray meth c cX10_bestLimit 9 RX10) (hr : meth.sig.returnType = (Option.some Jvm.ClassFile.FieldType.int)) (k25 : bl_St → Nat → Int32 → Int32 → Int32 → Int64 → Int32 → Option (Int32 × bl_St)) (hk25 : ∀ (σ : bl_St) (v0 : Nat) (v1 : Int32) (v2 : Int32) (v3 : Int32) (v4 : Int64) (v6 : Int32), bl_sh[v0]? = some (10, 28) → k25 σ v0 v1 v2 v3 v4 v6 = some out → ∀ (H : Heap) (locs : List Loc) (ls : Array Slot), bl_V g s σ H locs → lv_has ls 9 [(0, .ref (bl_ad g v0)), (1, .int v1), (2, .int v2), (3, .int v3), (4, .long v4), (6, .int v6)] → W p l e (bl_rm 8 208) s m as.toArray below meth c H locs 0 0 (bl_Qi below g s as out) (F0 m 25 ls [])) : ∀ (σ : bl_St) (v0 : Nat) (v1 : Int32) (v2 : Int32) (v6 : Int32), bl_sh[v0]? = some (10, 28) → (b_X10_bestLimit_125 k25) σ v0 v1 v2 v6 = some out → ∀ (H : Heap) (locs : List Loc) (ls : Array Slot), bl_V g s σ H locs → lv_has ls 9 [(0, .ref (bl_ad g v0)), (1, .int v1), (2, .int v2), (6, .int v6)] → W p l e (bl_rm 8 208) s m as.toArray below meth c H locs 0 0 (bl_Qi below g s as out) (F0 m 125 ls []) := by
  intro σ v0 v1 v2 v6 hv0 hf H locs ls V hl
  unfold b_X10_bestLimit_125 at hf
  refine lv_iload X.1 X.2.1 dX10_bestLimit_125 (lv_at hl 3 rfl) ?_
  refine lv_istore_n (lv' := [(3, .int v6), (0, .ref (bl_ad g v0)), (1, .int v1), (2, .int v2), (6, .int v6)]) X.1 X.2.1 dX10_bestLimit_127 rfl hl (by decide) rfl (fun ls hl => ?_)
  refine lv_aload_n X.1 X.2.1 dX10_bestLimit_128 rfl (lv_at hl 1 rfl) ?_
  refine lv_iload_n X.1 X.2.1 dX10_bestLimit_129 rfl (lv_at hl 2 rfl) ?_
  refine lv_iload_n X.1 X.2.1 dX10_bestLimit_130 rfl (lv_at hl 3 rfl) ?_
  obtain ⟨r3, σ4, h5, hf⟩ := bl_bd_at hf
  refine bl_cVl (As := [.int v1, .int v2]) X V hl.1 hv0 rfl ml_X10_210 mV_X10_costAt (t_X10_costAt l g σ v0 v1 v2 _ hv0 h5) rfl rfl ⟨Nat.le_of_ble_eq_true rfl, Nat.le_of_ble_eq_true rfl⟩ rfl rfl (Nat.le_of_ble_eq_true rfl) ⟨Nat.zero_le _, Nat.zero_le _⟩ dX10_bestLimit_131 (fun H locs V => ?_)
  refine lv_lstore (lv' := [(4, .long r3), (3, .int v6), (0, .ref (bl_ad g v0)), (1, .int v1), (2, .int v2), (6, .int v6)]) X.1 X.2.1 dX10_bestLimit_134 hl (by decide) rfl (fun ls hl => ?_)
  exact w_X10_bestLimit_136 X hr k25 hk25 σ4 v0 v1 v2 v6 r3 v6 hv0 hf _ _ _ V (lv_sub hl [2, 3, 4, 1, 0, 5] rfl)
set_option maxHeartbeats 4000000 in
set_option maxRecDepth 100000 in
theorem w_X10_bestLimit_80 {p : Program} {l : Launch} {e : Env} {s : State} {m : MethodId} {below : List Frame} {meth : Method} {c : Code} {g : bl_Gp} {as : List Value} {out : Int32 × bl_St} (X : bl_Cx g p s m as.toArray meth c cX10_bestLimit 9 RX10) (hr : meth.sig.returnType = (Option.some Jvm.ClassFile.FieldType.int)) (k48 : bl_St → Nat → Int32 → Int32 → Int32 → Int64 → Int32 → Int32 → Int32 → Option (Int32 × bl_St)) (hk48 : ∀ (σ : bl_St) (v0 : Nat) (v1 : Int32) (v2 : Int32) (v3 : Int32) (v4 : Int64) (v6 : Int32) (v7 : Int32) (v8 : Int32), bl_sh[v0]? = some (10, 28) → k48 σ v0 v1 v2 v3 v4 v6 v7 v8 = some out → ∀ (H : Heap) (locs : List Loc) (ls : Array Slot), bl_V g s σ H locs → lv_has ls 9 [(0, .ref (bl_ad g v0)), (1, .int v1), (2, .int v2), (3, .int v3), (4, .long v4), (6, .int v6), (7, .int v7), (8, .int v8)] → W p l e (bl_rm 8 208) s m as.toArray below meth c H locs 0 0 (bl_Qi below g s as out) (F0 m 48 ls [])) : ∀ (σ : bl_St) (v0 : Nat) (v1 : Int32) (v2 : Int32) (v3 : Int32) (v4 : Int64) (v6 : Int32) (v8 : Int32) (s0 : Int32), bl_sh[v0]? = some (10, 28) → (b_X10_bestLimit_80 k48) σ v0 v1 v2 v3 v4 v6 v8 s0 = some out → ∀ (H : Heap) (locs : List Loc) (ls : Array Slot), bl_V g s σ H locs → lv_has ls 9 [(0, .ref (bl_ad g v0)), (1, .int v1), (2, .int v2), (3, .int v3), (4, .long v4), (6, .int v6), (8, .int v8)] → W p l e (bl_rm 8 208) s m as.toArray below meth c H locs 0 0 (bl_Qi below g s as out) (F0 m 80 ls [.int s0]) := by
  intro σ v0 v1 v2 v3 v4 v6 v8 s0 hv0 hf H locs ls V hl
  unfold b_X10_bestLimit_80 at hf
  refine lv_istore (lv' := [(7, .int s0), (0, .ref (bl_ad g v0)), (1, .int v1), (2, .int v2), (3, .int v3), (4, .long v4), (6, .int v6), (8, .int v8)]) X.1 X.2.1 dX10_bestLimit_80 hl (by decide) rfl (fun ls hl => ?_)
  obtain ⟨x6, e7⟩ : ∃ z : Int32, z = v8 + 1 := ⟨_, rfl⟩
  have hf := bl_let_at e7 hf
  refine lv_iinc (v := x6) (lv' := [(8, .int x6), (7, .int s0), (0, .ref (bl_ad g v0)), (1, .int v1), (2, .int v2), (3, .int v3), (4, .long v4), (6, .int v6)]) X.1 X.2.1 dX10_bestLimit_82 hl (k := 7) rfl (by rw [e7]; rfl) (by decide) rfl (fun ls hl => ?_)
  refine lv_goto (tgt := 48) X.1 X.2.1 dX10_bestLimit_85 (by decide) ?_
  exact hk48 σ v0 v1 v2 v3 v4 v6 s0 x6 hv0 hf _ _ _ V (lv_sub hl [2, 3, 4, 5, 6, 7, 1, 0] rfl)
set_option maxHeartbeats 4000000 in
set_option maxRecDepth 100000 in
theorem w_X10_bestLimit_75 {p : Program} {l : Launch} {e : Env} {s : State} {m : MethodId} {below : List Frame} {meth : Method} {c : Code} {g : bl_Gp} {as : List Value} {out : Int32 × bl_St} (X : bl_Cx g p s m as.toArray meth c cX10_bestLimit 9 RX10) (hr : meth.sig.returnType = (Option.some Jvm.ClassFile.FieldType.int)) (k48 : bl_St → Nat → Int32 → Int32 → Int32 → Int64 → Int32 → Int32 → Int32 → Option (Int32 × bl_St)) (hk48 : ∀ (σ : bl_St) (v0 : Nat) (v1 : Int32) (v2 : Int32) (v3 : Int32) (v4 : Int64) (v6 : Int32) (v7 : Int32) (v8 : Int32), bl_sh[v0]? = some (10, 28) → k48 σ v0 v1 v2 v3 v4 v6 v7 v8 = some out → ∀ (H : Heap) (locs : List Loc) (ls : Array Slot), bl_V g s σ H locs → lv_has ls 9 [(0, .ref (bl_ad g v0)), (1, .int v1), (2, .int v2), (3, .int v3), (4, .long v4), (6, .int v6), (7, .int v7), (8, .int v8)] → W p l e (bl_rm 8 208) s m as.toArray below meth c H locs 0 0 (bl_Qi below g s as out) (F0 m 48 ls [])) : ∀ (σ : bl_St) (v0 : Nat) (v1 : Int32) (v2 : Int32) (v3 : Int32) (v4 : Int64) (v6 : Int32) (v8 : Int32), bl_sh[v0]? = some (10, 28) → (b_X10_bestLimit_75 k48) σ v0 v1 v2 v3 v4 v6 v8 = some out → ∀ (H : Heap) (locs : List Loc) (ls : Array Slot), bl_V g s σ H locs → lv_has ls 9 [(0, .ref (bl_ad g v0)), (1, .int v1), (2, .int v2), (3, .int v3), (4, .long v4), (6, .int v6), (8, .int v8)] → W p l e (bl_rm 8 208) s m as.toArray below meth c H locs 0 0 (bl_Qi below g s as out) (F0 m 75 ls []) := by
  intro σ v0 v1 v2 v3 v4 v6 v8 hv0 hf H locs ls V hl
  unfold b_X10_bestLimit_75 at hf
  refine lv_iconst (v := 1) X.1 X.2.1 dX10_bestLimit_75 (by decide) ?_
  refine lv_goto (tgt := 80) X.1 X.2.1 dX10_bestLimit_76 (by decide) ?_
  exact w_X10_bestLimit_80 X hr k48 hk48 σ v0 v1 v2 v3 v4 v6 v8 1 hv0 hf _ _ _ V (lv_sub hl [0, 1, 2, 3, 4, 5, 6] rfl)
set_option maxHeartbeats 4000000 in
set_option maxRecDepth 100000 in
theorem w_X10_bestLimit_48 {p : Program} {l : Launch} {e : Env} {s : State} {m : MethodId} {below : List Frame} {meth : Method} {c : Code} {g : bl_Gp} {as : List Value} {out : Int32 × bl_St} (X : bl_Cx g p s m as.toArray meth c cX10_bestLimit 9 RX10) (hr : meth.sig.returnType = (Option.some Jvm.ClassFile.FieldType.int)) (k25 : bl_St → Nat → Int32 → Int32 → Int32 → Int64 → Int32 → Option (Int32 × bl_St)) (hk25 : ∀ (σ : bl_St) (v0 : Nat) (v1 : Int32) (v2 : Int32) (v3 : Int32) (v4 : Int64) (v6 : Int32), bl_sh[v0]? = some (10, 28) → k25 σ v0 v1 v2 v3 v4 v6 = some out → ∀ (H : Heap) (locs : List Loc) (ls : Array Slot), bl_V g s σ H locs → lv_has ls 9 [(0, .ref (bl_ad g v0)), (1, .int v1), (2, .int v2), (3, .int v3), (4, .long v4), (6, .int v6)] → W p l e (bl_rm 8 208) s m as.toArray below meth c H locs 0 0 (bl_Qi below g s as out) (F0 m 25 ls [])) (k48 : bl_St → Nat → Int32 → Int32 → Int32 → Int64 → Int32 → Int32 → Int32 → Option (Int32 × bl_St)) (hk48 : ∀ (σ : bl_St) (v0 : Nat) (v1 : Int32) (v2 : Int32) (v3 : Int32) (v4 : Int64) (v6 : Int32) (v7 : Int32) (v8 : Int32), bl_sh[v0]? = some (10, 28) → k48 σ v0 v1 v2 v3 v4 v6 v7 v8 = some out → ∀ (H : Heap) (locs : List Loc) (ls : Array Slot), bl_V g s σ H locs → lv_has ls 9 [(0, .ref (bl_ad g v0)), (1, .int v1), (2, .int v2), (3, .int v3), (4, .long v4), (6, .int v6), (7, .int v7), (8, .int v8)] → W p l e (bl_rm 8 208) s m as.toArray below meth c H locs 0 0 (bl_Qi below g s as out) (F0 m 48 ls [])) : ∀ (σ : bl_St) (v0 : Nat) (v1 : Int32) (v2 : Int32) (v3 : Int32) (v4 : Int64) (v6 : Int32) (v7 : Int32) (v8 : Int32), bl_sh[v0]? = some (10, 28) → (b_X10_bestLimit_48 k25 k48) σ v0 v1 v2 v3 v4 v6 v7 v8 = some out → ∀ (H : Heap) (locs : List Loc) (ls : Array Slot), bl_V g s σ H locs → lv_has ls 9 [(0, .ref (bl_ad g v0)), (1, .int v1), (2, .int v2), (3, .int v3), (4, .long v4), (6, .int v6), (7, .int v7), (8, .int v8)] → W p l e (bl_rm 8 208) s m as.toArray below meth c H locs 0 0 (bl_Qi below g s as out) (F0 m 48 ls []) := by
  intro σ v0 v1 v2 v3 v4 v6 v7 v8 hv0 hf H locs ls V hl
  unfold b_X10_bestLimit_48 at hf
  refine lv_iload X.1 X.2.1 dX10_bestLimit_48 (lv_at hl 7 rfl) ?_
  refine lv_aload_n X.1 X.2.1 dX10_bestLimit_50 rfl (lv_at hl 0 rfl) ?_
  refine bl_getr X V hv0 fl_X10_13 rfl dX10_bestLimit_51 (fun h8 => ?_)
  refine lv_iconst (v := 1) X.1 X.2.1 dX10_bestLimit_54 (by decide) ?_
  refine bl_iald (k := 1) X V h8 (by decide) (by decide) dX10_bestLimit_55 ?_
  refine lv_icmp_ge (tgt := 88) X.1 X.2.1 dX10_bestLimit_56 (by decide) (fun c9 => ?_) (fun c9 => ?_)
  · have hf := bl_ifp c9 hf
    refine lv_iload X.1 X.2.1 dX10_bestLimit_88 (lv_at hl 6 rfl) ?_
    refine lv_if_ne (tgt := 96) X.1 X.2.1 dX10_bestLimit_90 (by decide) (fun c10 => ?_) (fun c10 => ?_)
    · have hf := bl_ifn c10 hf
      refine lv_aload_n X.1 X.2.1 dX10_bestLimit_96 rfl (lv_at hl 0 rfl) ?_
      refine lv_iload_n X.1 X.2.1 dX10_bestLimit_97 rfl (lv_at hl 1 rfl) ?_
      refine lv_iconst (v := 0) X.1 X.2.1 dX10_bestLimit_98 (by decide) ?_
      refine lv_iconst (v := 3) X.1 X.2.1 dX10_bestLimit_99 (by decide) ?_
      refine lv_iload X.1 X.2.1 dX10_bestLimit_100 (lv_at hl 5 rfl) ?_
      obtain ⟨r11, σ12, h13, hf⟩ := bl_bd_at hf
      refine bl_cVv (As := [.int v1, .int 0, .int 3, .int v6]) X V hl.1 hv0 rfl ml_X10_142 mV_X10_lays (t_X10_lays l g σ v0 v1 0 3 v6 _ hv0 h13) rfl rfl ⟨Nat.le_of_ble_eq_true rfl, Nat.le_of_ble_eq_true rfl⟩ rfl rfl (Nat.le_of_ble_eq_true rfl) ⟨Nat.zero_le _, Nat.zero_le _⟩ dX10_bestLimit_102 (fun H locs V => ?_)
      refine lv_iload_n X.1 X.2.1 dX10_bestLimit_105 rfl (lv_at hl 3 rfl) ?_
      refine lv_iconst (v := (-1)) X.1 X.2.1 dX10_bestLimit_106 (by decide) ?_
      refine lv_icmp_eq (tgt := 125) X.1 X.2.1 dX10_bestLimit_107 (by decide) (fun c14 => ?_) (fun c14 => ?_)
      · have hf := bl_ifp c14 hf
        exact w_X10_bestLimit_125 X hr k25 hk25 σ12 v0 v1 v2 v6 hv0 hf _ _ _ V (lv_sub hl [0, 1, 2, 5] rfl)
      · have hf := bl_ifn c14 hf
        refine lv_aload_n X.1 X.2.1 dX10_bestLimit_110 rfl (lv_at hl 0 rfl) ?_
        refine lv_iload_n X.1 X.2.1 dX10_bestLimit_111 rfl (lv_at hl 1 rfl) ?_
        refine lv_iload_n X.1 X.2.1 dX10_bestLimit_112 rfl (lv_at hl 2 rfl) ?_
        obtain ⟨r15, σ16, h17, hf⟩ := bl_bd_at hf
        refine bl_cVl (As := [.int v1, .int v2]) X V hl.1 hv0 rfl ml_X10_210 mV_X10_costAt (t_X10_costAt l g σ12 v0 v1 v2 _ hv0 h17) rfl rfl ⟨Nat.le_of_ble_eq_true rfl, Nat.le_of_ble_eq_true rfl⟩ rfl rfl (Nat.le_of_ble_eq_true rfl) ⟨Nat.zero_le _, Nat.zero_le _⟩ dX10_bestLimit_113 (fun H locs V => ?_)
        refine lv_lload X.1 X.2.1 dX10_bestLimit_116 (lv_at hl 4 rfl) ?_
        refine bl_lc_lt (tgt := 125) X dX10_bestLimit_118 dX10_bestLimit_119 (by decide) (fun c18 => ?_) (fun c18 => ?_)
        · have hf := bl_ifp c18 hf
          exact w_X10_bestLimit_125 X hr k25 hk25 σ16 v0 v1 v2 v6 hv0 hf _ _ _ V (lv_sub hl [0, 1, 2, 5] rfl)
        · have hf := bl_ifn c18 hf
          refine lv_goto (tgt := 136) X.1 X.2.1 dX10_bestLimit_122 (by decide) ?_
          exact w_X10_bestLimit_136 X hr k25 hk25 σ16 v0 v1 v2 v3 v4 v6 hv0 hf _ _ _ V (lv_sub hl [0, 1, 2, 3, 4, 5] rfl)
    · have hf := bl_ifp c10 hf
      refine lv_goto (tgt := 136) X.1 X.2.1 dX10_bestLimit_93 (by decide) ?_
      exact w_X10_bestLimit_136 X hr k25 hk25 σ v0 v1 v2 v3 v4 v6 hv0 hf _ _ _ V (lv_sub hl [0, 1, 2, 3, 4, 5] rfl)
  · have hf := bl_ifn c9 hf
    refine lv_iload X.1 X.2.1 dX10_bestLimit_59 (lv_at hl 6 rfl) ?_
    refine lv_if_ne (tgt := 75) X.1 X.2.1 dX10_bestLimit_61 (by decide) (fun c19 => ?_) (fun c19 => ?_)
    · have hf := bl_ifn c19 hf
      exact w_X10_bestLimit_75 X hr k48 hk48 σ v0 v1 v2 v3 v4 v6 v8 hv0 hf _ _ _ V (lv_sub hl [0, 1, 2, 3, 4, 5, 7] rfl)
    · have hf := bl_ifp c19 hf
      refine lv_aload_n X.1 X.2.1 dX10_bestLimit_64 rfl (lv_at hl 0 rfl) ?_
      refine lv_iload X.1 X.2.1 dX10_bestLimit_65 (lv_at hl 7 rfl) ?_
      obtain ⟨r20, σ21, h22, hf⟩ := bl_bd_at hf
      refine bl_cVi (As := [.int v8]) X V hl.1 hv0 rfl ml_X10_78 mV_X10_size (t_X10_size l g σ v0 v8 _ hv0 h22) rfl rfl ⟨Nat.le_of_ble_eq_true rfl, Nat.le_of_ble_eq_true rfl⟩ rfl rfl (Nat.le_of_ble_eq_true rfl) ⟨Nat.zero_le _, Nat.zero_le _⟩ dX10_bestLimit_67 (fun H locs V => ?_)
      refine lv_iload X.1 X.2.1 dX10_bestLimit_70 (lv_at hl 5 rfl) ?_
      refine lv_icmp_ne (tgt := 79) X.1 X.2.1 dX10_bestLimit_72 (by decide) (fun c23 => ?_) (fun c23 => ?_)
      · have hf := bl_ifn c23 hf
        refine lv_iconst (v := 0) X.1 X.2.1 dX10_bestLimit_79 (by decide) ?_
        exact w_X10_bestLimit_80 X hr k48 hk48 σ21 v0 v1 v2 v3 v4 v6 v8 0 hv0 hf _ _ _ V (lv_sub hl [0, 1, 2, 3, 4, 5, 7] rfl)
      · have hf := bl_ifp c23 hf
        exact w_X10_bestLimit_75 X hr k48 hk48 σ21 v0 v1 v2 v3 v4 v6 v8 hv0 hf _ _ _ V (lv_sub hl [0, 1, 2, 3, 4, 5, 7] rfl)
theorem l_X10_bestLimit_48 {p : Program} {l : Launch} {e : Env} {s : State} {m : MethodId} {below : List Frame} {meth : Method} {c : Code} {g : bl_Gp} {as : List Value} {out : Int32 × bl_St} (X : bl_Cx g p s m as.toArray meth c cX10_bestLimit 9 RX10) (hr : meth.sig.returnType = (Option.some Jvm.ClassFile.FieldType.int)) (k25 : bl_St → Nat → Int32 → Int32 → Int32 → Int64 → Int32 → Option (Int32 × bl_St)) (hk25 : ∀ (σ : bl_St) (v0 : Nat) (v1 : Int32) (v2 : Int32) (v3 : Int32) (v4 : Int64) (v6 : Int32), bl_sh[v0]? = some (10, 28) → k25 σ v0 v1 v2 v3 v4 v6 = some out → ∀ (H : Heap) (locs : List Loc) (ls : Array Slot), bl_V g s σ H locs → lv_has ls 9 [(0, .ref (bl_ad g v0)), (1, .int v1), (2, .int v2), (3, .int v3), (4, .long v4), (6, .int v6)] → W p l e (bl_rm 8 208) s m as.toArray below meth c H locs 0 0 (bl_Qi below g s as out) (F0 m 25 ls [])) (n : Nat) : ∀ (σ : bl_St) (v0 : Nat) (v1 : Int32) (v2 : Int32) (v3 : Int32) (v4 : Int64) (v6 : Int32) (v7 : Int32) (v8 : Int32), bl_sh[v0]? = some (10, 28) → (bl_fx (fun _ _ _ _ _ _ _ _ _ => none) (b_X10_bestLimit_48 k25) n) σ v0 v1 v2 v3 v4 v6 v7 v8 = some out → ∀ (H : Heap) (locs : List Loc) (ls : Array Slot), bl_V g s σ H locs → lv_has ls 9 [(0, .ref (bl_ad g v0)), (1, .int v1), (2, .int v2), (3, .int v3), (4, .long v4), (6, .int v6), (7, .int v7), (8, .int v8)] → W p l e (bl_rm 8 208) s m as.toArray below meth c H locs 0 0 (bl_Qi below g s as out) (F0 m 48 ls []) := by
  induction n with
  | zero =>
    intro σ v0 v1 v2 v3 v4 v6 v7 v8 hv0 hf H locs ls V hl
    cases hf
  | succ n ih => exact w_X10_bestLimit_48 X hr k25 hk25 _ ih
set_option maxHeartbeats 4000000 in
set_option maxRecDepth 100000 in
theorem w_X10_bestLimit_43 {p : Program} {l : Launch} {e : Env} {s : State} {m : MethodId} {below : List Frame} {meth : Method} {c : Code} {g : bl_Gp} {as : List Value} {out : Int32 × bl_St} (X : bl_Cx g p s m as.toArray meth c cX10_bestLimit 9 RX10) (hr : meth.sig.returnType = (Option.some Jvm.ClassFile.FieldType.int)) (k25 : bl_St → Nat → Int32 → Int32 → Int32 → Int64 → Int32 → Option (Int32 × bl_St)) (hk25 : ∀ (σ : bl_St) (v0 : Nat) (v1 : Int32) (v2 : Int32) (v3 : Int32) (v4 : Int64) (v6 : Int32), bl_sh[v0]? = some (10, 28) → k25 σ v0 v1 v2 v3 v4 v6 = some out → ∀ (H : Heap) (locs : List Loc) (ls : Array Slot), bl_V g s σ H locs → lv_has ls 9 [(0, .ref (bl_ad g v0)), (1, .int v1), (2, .int v2), (3, .int v3), (4, .long v4), (6, .int v6)] → W p l e (bl_rm 8 208) s m as.toArray below meth c H locs 0 0 (bl_Qi below g s as out) (F0 m 25 ls [])) : ∀ (σ : bl_St) (v0 : Nat) (v1 : Int32) (v2 : Int32) (v3 : Int32) (v4 : Int64) (v6 : Int32) (s0 : Int32), bl_sh[v0]? = some (10, 28) → (b_X10_bestLimit_43 k25) σ v0 v1 v2 v3 v4 v6 s0 = some out → ∀ (H : Heap) (locs : List Loc) (ls : Array Slot), bl_V g s σ H locs → lv_has ls 9 [(0, .ref (bl_ad g v0)), (1, .int v1), (2, .int v2), (3, .int v3), (4, .long v4), (6, .int v6)] → W p l e (bl_rm 8 208) s m as.toArray below meth c H locs 0 0 (bl_Qi below g s as out) (F0 m 43 ls [.int s0]) := by
  intro σ v0 v1 v2 v3 v4 v6 s0 hv0 hf H locs ls V hl
  unfold b_X10_bestLimit_43 at hf
  refine lv_istore (lv' := [(7, .int s0), (0, .ref (bl_ad g v0)), (1, .int v1), (2, .int v2), (3, .int v3), (4, .long v4), (6, .int v6)]) X.1 X.2.1 dX10_bestLimit_43 hl (by decide) rfl (fun ls hl => ?_)
  refine lv_iconst (v := 0) X.1 X.2.1 dX10_bestLimit_45 (by decide) ?_
  refine lv_istore (lv' := [(8, .int 0), (7, .int s0), (0, .ref (bl_ad g v0)), (1, .int v1), (2, .int v2), (3, .int v3), (4, .long v4), (6, .int v6)]) X.1 X.2.1 dX10_bestLimit_46 hl (by decide) rfl (fun ls hl => ?_)
  exact l_X10_bestLimit_48 X hr k25 hk25 bl_fu σ v0 v1 v2 v3 v4 v6 s0 0 hv0 hf _ _ _ V (lv_sub hl [2, 3, 4, 5, 6, 7, 1, 0] rfl)
set_option maxHeartbeats 4000000 in
set_option maxRecDepth 100000 in
theorem w_X10_bestLimit_25 {p : Program} {l : Launch} {e : Env} {s : State} {m : MethodId} {below : List Frame} {meth : Method} {c : Code} {g : bl_Gp} {as : List Value} {out : Int32 × bl_St} (X : bl_Cx g p s m as.toArray meth c cX10_bestLimit 9 RX10) (hr : meth.sig.returnType = (Option.some Jvm.ClassFile.FieldType.int)) (k25 : bl_St → Nat → Int32 → Int32 → Int32 → Int64 → Int32 → Option (Int32 × bl_St)) (hk25 : ∀ (σ : bl_St) (v0 : Nat) (v1 : Int32) (v2 : Int32) (v3 : Int32) (v4 : Int64) (v6 : Int32), bl_sh[v0]? = some (10, 28) → k25 σ v0 v1 v2 v3 v4 v6 = some out → ∀ (H : Heap) (locs : List Loc) (ls : Array Slot), bl_V g s σ H locs → lv_has ls 9 [(0, .ref (bl_ad g v0)), (1, .int v1), (2, .int v2), (3, .int v3), (4, .long v4), (6, .int v6)] → W p l e (bl_rm 8 208) s m as.toArray below meth c H locs 0 0 (bl_Qi below g s as out) (F0 m 25 ls [])) : ∀ (σ : bl_St) (v0 : Nat) (v1 : Int32) (v2 : Int32) (v3 : Int32) (v4 : Int64) (v6 : Int32), bl_sh[v0]? = some (10, 28) → (b_X10_bestLimit_25 k25) σ v0 v1 v2 v3 v4 v6 = some out → ∀ (H : Heap) (locs : List Loc) (ls : Array Slot), bl_V g s σ H locs → lv_has ls 9 [(0, .ref (bl_ad g v0)), (1, .int v1), (2, .int v2), (3, .int v3), (4, .long v4), (6, .int v6)] → W p l e (bl_rm 8 208) s m as.toArray below meth c H locs 0 0 (bl_Qi below g s as out) (F0 m 25 ls []) := by
  intro σ v0 v1 v2 v3 v4 v6 hv0 hf H locs ls V hl
  unfold b_X10_bestLimit_25 at hf
  refine lv_iload X.1 X.2.1 dX10_bestLimit_25 (lv_at hl 5 rfl) ?_
  refine lv_sipush (v := 1000) X.1 X.2.1 dX10_bestLimit_27 (by decide) ?_
  refine lv_icmp_ge (tgt := 142) X.1 X.2.1 dX10_bestLimit_30 (by decide) (fun c24 => ?_) (fun c24 => ?_)
  · have hf := bl_ifp c24 hf
    refine lv_iload_n X.1 X.2.1 dX10_bestLimit_142 rfl (lv_at hl 3 rfl) ?_
    exact bl_reti X V hr hf dX10_bestLimit_143
  · have hf := bl_ifn c24 hf
    refine lv_iload X.1 X.2.1 dX10_bestLimit_33 (lv_at hl 5 rfl) ?_
    refine lv_if_ne (tgt := 42) X.1 X.2.1 dX10_bestLimit_35 (by decide) (fun c25 => ?_) (fun c25 => ?_)
    · have hf := bl_ifn c25 hf
      refine lv_iconst (v := 0) X.1 X.2.1 dX10_bestLimit_42 (by decide) ?_
      exact w_X10_bestLimit_43 X hr k25 hk25 σ v0 v1 v2 v3 v4 v6 0 hv0 hf _ _ _ V (lv_sub hl [0, 1, 2, 3, 4, 5] rfl)
    · have hf := bl_ifp c25 hf
      refine lv_iconst (v := 1) X.1 X.2.1 dX10_bestLimit_38 (by decide) ?_
      refine lv_goto (tgt := 43) X.1 X.2.1 dX10_bestLimit_39 (by decide) ?_
      exact w_X10_bestLimit_43 X hr k25 hk25 σ v0 v1 v2 v3 v4 v6 1 hv0 hf _ _ _ V (lv_sub hl [0, 1, 2, 3, 4, 5] rfl)
theorem l_X10_bestLimit_25 {p : Program} {l : Launch} {e : Env} {s : State} {m : MethodId} {below : List Frame} {meth : Method} {c : Code} {g : bl_Gp} {as : List Value} {out : Int32 × bl_St} (X : bl_Cx g p s m as.toArray meth c cX10_bestLimit 9 RX10) (hr : meth.sig.returnType = (Option.some Jvm.ClassFile.FieldType.int)) (n : Nat) : ∀ (σ : bl_St) (v0 : Nat) (v1 : Int32) (v2 : Int32) (v3 : Int32) (v4 : Int64) (v6 : Int32), bl_sh[v0]? = some (10, 28) → (bl_fx (fun _ _ _ _ _ _ _ => none) (b_X10_bestLimit_25 ) n) σ v0 v1 v2 v3 v4 v6 = some out → ∀ (H : Heap) (locs : List Loc) (ls : Array Slot), bl_V g s σ H locs → lv_has ls 9 [(0, .ref (bl_ad g v0)), (1, .int v1), (2, .int v2), (3, .int v3), (4, .long v4), (6, .int v6)] → W p l e (bl_rm 8 208) s m as.toArray below meth c H locs 0 0 (bl_Qi below g s as out) (F0 m 25 ls []) := by
  induction n with
  | zero =>
    intro σ v0 v1 v2 v3 v4 v6 hv0 hf H locs ls V hl
    cases hf
  | succ n ih => exact w_X10_bestLimit_25 X hr  _ ih
set_option maxHeartbeats 4000000 in
set_option maxRecDepth 100000 in
theorem t_X10_bestLimit (l : Launch) (g : bl_Gp) (σ : bl_St) (a0 : Nat) (a1 : Int32) (a2 : Int32) (o : Int32 × bl_St) (ha0 : bl_sh[a0]? = some (10, 28)) (hf : f_X10_bestLimit σ a0 a1 a2 = some o) : bl_Ci l g yX10_bestLimit cX10_bestLimit 9 (Option.some Jvm.ClassFile.FieldType.int) (bl_rm 8 208) [.ref (bl_ad g a0), .int a1, .int a2] σ o := by
  refine bl_met (by decide) (Nat.le_of_ble_eq_true rfl) (fun p e s m below meth c ls X hr V hl => ?_)
  have hl : lv_has ls 9 [(0, .ref (bl_ad g a0)), (1, .int a1), (2, .int a2)] := hl
  unfold f_X10_bestLimit at hf
  refine lv_iload_n X.1 X.2.1 dX10_bestLimit_0 rfl (lv_at hl 1 rfl) ?_
  obtain ⟨r26, σ27, h28, hf⟩ := bl_bd_at hf
  refine bl_cSi (As := [.int a1]) X V hl.1 ml_X10_227 mS_X10_areYears (t_X10_areYears l g σ a1 _  h28) rfl rfl ⟨Nat.le_of_ble_eq_true rfl, Nat.le_of_ble_eq_true rfl⟩ rfl rfl (Nat.le_of_ble_eq_true rfl) ⟨Nat.zero_le _, Nat.zero_le _⟩ dX10_bestLimit_1 (fun H locs V => ?_)
  refine lv_if_eq (tgt := 15) X.1 X.2.1 dX10_bestLimit_4 (by decide) (fun c29 => ?_) (fun c29 => ?_)
  · have hf := bl_ifp c29 hf
    refine lv_iconst (v := (-1)) X.1 X.2.1 dX10_bestLimit_15 (by decide) ?_
    exact bl_reti X V hr hf dX10_bestLimit_16
  · have hf := bl_ifn c29 hf
    refine lv_aload_n X.1 X.2.1 dX10_bestLimit_7 rfl (lv_at hl 0 rfl) ?_
    refine lv_iload_n X.1 X.2.1 dX10_bestLimit_8 rfl (lv_at hl 2 rfl) ?_
    obtain ⟨r30, σ31, h32, hf⟩ := bl_bd_at hf
    refine bl_cVi (As := [.int a2]) X V hl.1 ha0 rfl ml_X10_84 mV_X10_isClass (t_X10_isClass l g σ27 a0 a2 _ ha0 h32) rfl rfl ⟨Nat.le_of_ble_eq_true rfl, Nat.le_of_ble_eq_true rfl⟩ rfl rfl (Nat.le_of_ble_eq_true rfl) ⟨Nat.zero_le _, Nat.zero_le _⟩ dX10_bestLimit_9 (fun H locs V => ?_)
    refine lv_if_ne (tgt := 17) X.1 X.2.1 dX10_bestLimit_12 (by decide) (fun c33 => ?_) (fun c33 => ?_)
    · have hf := bl_ifn c33 hf
      refine lv_iconst (v := (-1)) X.1 X.2.1 dX10_bestLimit_17 (by decide) ?_
      refine lv_istore_n (lv' := [(3, .int (-1)), (0, .ref (bl_ad g a0)), (1, .int a1), (2, .int a2)]) X.1 X.2.1 dX10_bestLimit_18 rfl hl (by decide) rfl (fun ls hl => ?_)
      refine lv_lconst (v := 0) X.1 X.2.1 dX10_bestLimit_19 (by decide) ?_
      refine lv_lstore (lv' := [(4, .long 0), (3, .int (-1)), (0, .ref (bl_ad g a0)), (1, .int a1), (2, .int a2)]) X.1 X.2.1 dX10_bestLimit_20 hl (by decide) rfl (fun ls hl => ?_)
      refine lv_iconst (v := 0) X.1 X.2.1 dX10_bestLimit_22 (by decide) ?_
      refine lv_istore (lv' := [(6, .int 0), (4, .long 0), (3, .int (-1)), (0, .ref (bl_ad g a0)), (1, .int a1), (2, .int a2)]) X.1 X.2.1 dX10_bestLimit_23 hl (by decide) rfl (fun ls hl => ?_)
      exact l_X10_bestLimit_25 X hr  bl_fu σ31 a0 a1 a2 (-1) 0 0 ha0 hf _ _ _ V (lv_sub hl [3, 4, 5, 2, 1, 0] rfl)
    · have hf := bl_ifp c33 hf
      refine lv_iconst (v := (-1)) X.1 X.2.1 dX10_bestLimit_15 (by decide) ?_
      exact bl_reti X V hr hf dX10_bestLimit_16
set_option maxHeartbeats 4000000 in
set_option maxRecDepth 100000 in
theorem t_X10_worth (l : Launch) (g : bl_Gp) (σ : bl_St) (a0 : Nat) (a1 : Int32) (a2 : Int32) (a3 : Int32) (o : Int64 × bl_St) (ha0 : bl_sh[a0]? = some (10, 28)) (hf : f_X10_worth σ a0 a1 a2 a3 = some o) : bl_Cl l g yX10_worth cX10_worth 4 (Option.some Jvm.ClassFile.FieldType.long) (bl_rm 8 208) [.ref (bl_ad g a0), .int a1, .int a2, .int a3] σ o := by
  refine bl_met (by decide) (Nat.le_of_ble_eq_true rfl) (fun p e s m below meth c ls X hr V hl => ?_)
  have hl : lv_has ls 4 [(0, .ref (bl_ad g a0)), (1, .int a1), (2, .int a2), (3, .int a3)] := hl
  unfold f_X10_worth at hf
  refine lv_iload_n X.1 X.2.1 dX10_worth_0 rfl (lv_at hl 1 rfl) ?_
  obtain ⟨r1, σ2, h3, hf⟩ := bl_bd_at hf
  refine bl_cSi (As := [.int a1]) X V hl.1 ml_X10_227 mS_X10_areYears (t_X10_areYears l g σ a1 _  h3) rfl rfl ⟨Nat.le_of_ble_eq_true rfl, Nat.le_of_ble_eq_true rfl⟩ rfl rfl (Nat.le_of_ble_eq_true rfl) ⟨Nat.zero_le _, Nat.zero_le _⟩ dX10_worth_1 (fun H locs V => ?_)
  refine lv_if_eq (tgt := 23) X.1 X.2.1 dX10_worth_4 (by decide) (fun c4 => ?_) (fun c4 => ?_)
  · have hf := bl_ifp c4 hf
    refine lv_ldc2 (v := (-9223372036854775808)) X.1 X.2.1 X.2.2.2.1 (X.2.2.2.2.1 _ kl_X10_201) dX10_worth_23 ?_
    exact bl_retl X V hr hf dX10_worth_26
  · have hf := bl_ifn c4 hf
    refine lv_aload_n X.1 X.2.1 dX10_worth_7 rfl (lv_at hl 0 rfl) ?_
    refine lv_iload_n X.1 X.2.1 dX10_worth_8 rfl (lv_at hl 2 rfl) ?_
    obtain ⟨r5, σ6, h7, hf⟩ := bl_bd_at hf
    refine bl_cVi (As := [.int a2]) X V hl.1 ha0 rfl ml_X10_84 mV_X10_isClass (t_X10_isClass l g σ2 a0 a2 _ ha0 h7) rfl rfl ⟨Nat.le_of_ble_eq_true rfl, Nat.le_of_ble_eq_true rfl⟩ rfl rfl (Nat.le_of_ble_eq_true rfl) ⟨Nat.zero_le _, Nat.zero_le _⟩ dX10_worth_9 (fun H locs V => ?_)
    refine lv_if_eq (tgt := 23) X.1 X.2.1 dX10_worth_12 (by decide) (fun c8 => ?_) (fun c8 => ?_)
    · have hf := bl_ifp c8 hf
      refine lv_ldc2 (v := (-9223372036854775808)) X.1 X.2.1 X.2.2.2.1 (X.2.2.2.2.1 _ kl_X10_201) dX10_worth_23 ?_
      exact bl_retl X V hr hf dX10_worth_26
    · have hf := bl_ifn c8 hf
      refine lv_aload_n X.1 X.2.1 dX10_worth_15 rfl (lv_at hl 0 rfl) ?_
      refine lv_iload_n X.1 X.2.1 dX10_worth_16 rfl (lv_at hl 3 rfl) ?_
      obtain ⟨r9, σ10, h11, hf⟩ := bl_bd_at hf
      refine bl_cVi (As := [.int a3]) X V hl.1 ha0 rfl ml_X10_84 mV_X10_isClass (t_X10_isClass l g σ6 a0 a3 _ ha0 h11) rfl rfl ⟨Nat.le_of_ble_eq_true rfl, Nat.le_of_ble_eq_true rfl⟩ rfl rfl (Nat.le_of_ble_eq_true rfl) ⟨Nat.zero_le _, Nat.zero_le _⟩ dX10_worth_17 (fun H locs V => ?_)
      refine lv_if_ne (tgt := 27) X.1 X.2.1 dX10_worth_20 (by decide) (fun c12 => ?_) (fun c12 => ?_)
      · have hf := bl_ifn c12 hf
        refine lv_aload_n X.1 X.2.1 dX10_worth_27 rfl (lv_at hl 0 rfl) ?_
        refine lv_iload_n X.1 X.2.1 dX10_worth_28 rfl (lv_at hl 1 rfl) ?_
        refine lv_iconst (v := 1) X.1 X.2.1 dX10_worth_29 (by decide) ?_
        refine lv_iconst (v := 0) X.1 X.2.1 dX10_worth_30 (by decide) ?_
        refine lv_iconst (v := 0) X.1 X.2.1 dX10_worth_31 (by decide) ?_
        obtain ⟨r13, σ14, h15, hf⟩ := bl_bd_at hf
        refine bl_cVv (As := [.int a1, .int 1, .int 0, .int 0]) X V hl.1 ha0 rfl ml_X10_142 mV_X10_lays (t_X10_lays l g σ10 a0 a1 1 0 0 _ ha0 h15) rfl rfl ⟨Nat.le_of_ble_eq_true rfl, Nat.le_of_ble_eq_true rfl⟩ rfl rfl (Nat.le_of_ble_eq_true rfl) ⟨Nat.zero_le _, Nat.zero_le _⟩ dX10_worth_32 (fun H locs V => ?_)
        refine lv_aload_n X.1 X.2.1 dX10_worth_35 rfl (lv_at hl 0 rfl) ?_
        refine lv_iload_n X.1 X.2.1 dX10_worth_36 rfl (lv_at hl 1 rfl) ?_
        refine lv_iload_n X.1 X.2.1 dX10_worth_37 rfl (lv_at hl 3 rfl) ?_
        obtain ⟨r16, σ17, h18, hf⟩ := bl_bd_at hf
        refine bl_cVl (As := [.int a1, .int a3]) X V hl.1 ha0 rfl ml_X10_210 mV_X10_costAt (t_X10_costAt l g σ14 a0 a1 a3 _ ha0 h18) rfl rfl ⟨Nat.le_of_ble_eq_true rfl, Nat.le_of_ble_eq_true rfl⟩ rfl rfl (Nat.le_of_ble_eq_true rfl) ⟨Nat.zero_le _, Nat.zero_le _⟩ dX10_worth_38 (fun H locs V => ?_)
        refine lv_aload_n X.1 X.2.1 dX10_worth_41 rfl (lv_at hl 0 rfl) ?_
        refine lv_iload_n X.1 X.2.1 dX10_worth_42 rfl (lv_at hl 1 rfl) ?_
        refine lv_iload_n X.1 X.2.1 dX10_worth_43 rfl (lv_at hl 2 rfl) ?_
        obtain ⟨r19, σ20, h21, hf⟩ := bl_bd_at hf
        refine bl_cVl (As := [.int a1, .int a2]) X V hl.1 ha0 rfl ml_X10_210 mV_X10_costAt (t_X10_costAt l g σ17 a0 a1 a2 _ ha0 h21) rfl rfl ⟨Nat.le_of_ble_eq_true rfl, Nat.le_of_ble_eq_true rfl⟩ rfl rfl (Nat.le_of_ble_eq_true rfl) ⟨Nat.zero_le _, Nat.zero_le _⟩ dX10_worth_44 (fun H locs V => ?_)
        refine lv_lsub X.1 X.2.1 dX10_worth_47 ?_
        exact bl_retl X V hr hf dX10_worth_48
      · have hf := bl_ifp c12 hf
        refine lv_ldc2 (v := (-9223372036854775808)) X.1 X.2.1 X.2.2.2.1 (X.2.2.2.2.1 _ kl_X10_201) dX10_worth_23 ?_
        exact bl_retl X V hr hf dX10_worth_26
set_option maxHeartbeats 4000000 in
set_option maxRecDepth 100000 in
theorem w_X10_cheapest_58 {p : Program} {l : Launch} {e : Env} {s : State} {m : MethodId} {below : List Frame} {meth : Method} {c : Code} {g : bl_Gp} {as : List Value} {out : Int32 × bl_St} (X : bl_Cx g p s m as.toArray meth c cX10_cheapest 4 RX10) (hr : meth.sig.returnType = (Option.some Jvm.ClassFile.FieldType.int)) (k30 : bl_St → Nat → Int32 → Int32 → Int32 → Option (Int32 × bl_St)) (hk30 : ∀ (σ : bl_St) (v0 : Nat) (v1 : Int32) (v2 : Int32) (v3 : Int32), bl_sh[v0]? = some (10, 28) → k30 σ v0 v1 v2 v3 = some out → ∀ (H : Heap) (locs : List Loc) (ls : Array Slot), bl_V g s σ H locs → lv_has ls 4 [(0, .ref (bl_ad g v0)), (1, .int v1), (2, .int v2), (3, .int v3)] → W p l e (bl_rm 8 208) s m as.toArray below meth c H locs 0 0 (bl_Qi below g s as out) (F0 m 30 ls [])) : ∀ (σ : bl_St) (v0 : Nat) (v1 : Int32) (v2 : Int32) (v3 : Int32), bl_sh[v0]? = some (10, 28) → (b_X10_cheapest_58 k30) σ v0 v1 v2 v3 = some out → ∀ (H : Heap) (locs : List Loc) (ls : Array Slot), bl_V g s σ H locs → lv_has ls 4 [(0, .ref (bl_ad g v0)), (1, .int v1), (2, .int v2), (3, .int v3)] → W p l e (bl_rm 8 208) s m as.toArray below meth c H locs 0 0 (bl_Qi below g s as out) (F0 m 58 ls []) := by
  intro σ v0 v1 v2 v3 hv0 hf H locs ls V hl
  unfold b_X10_cheapest_58 at hf
  obtain ⟨x1, e2⟩ : ∃ z : Int32, z = v3 + 1 := ⟨_, rfl⟩
  have hf := bl_let_at e2 hf
  refine lv_iinc (v := x1) (lv' := [(3, .int x1), (0, .ref (bl_ad g v0)), (1, .int v1), (2, .int v2)]) X.1 X.2.1 dX10_cheapest_58 hl (k := 3) rfl (by rw [e2]; rfl) (by decide) rfl (fun ls hl => ?_)
  refine lv_goto (tgt := 30) X.1 X.2.1 dX10_cheapest_61 (by decide) ?_
  exact hk30 σ v0 v1 v2 x1 hv0 hf _ _ _ V (lv_sub hl [1, 2, 3, 0] rfl)
set_option maxHeartbeats 4000000 in
set_option maxRecDepth 100000 in
theorem w_X10_cheapest_30 {p : Program} {l : Launch} {e : Env} {s : State} {m : MethodId} {below : List Frame} {meth : Method} {c : Code} {g : bl_Gp} {as : List Value} {out : Int32 × bl_St} (X : bl_Cx g p s m as.toArray meth c cX10_cheapest 4 RX10) (hr : meth.sig.returnType = (Option.some Jvm.ClassFile.FieldType.int)) (k30 : bl_St → Nat → Int32 → Int32 → Int32 → Option (Int32 × bl_St)) (hk30 : ∀ (σ : bl_St) (v0 : Nat) (v1 : Int32) (v2 : Int32) (v3 : Int32), bl_sh[v0]? = some (10, 28) → k30 σ v0 v1 v2 v3 = some out → ∀ (H : Heap) (locs : List Loc) (ls : Array Slot), bl_V g s σ H locs → lv_has ls 4 [(0, .ref (bl_ad g v0)), (1, .int v1), (2, .int v2), (3, .int v3)] → W p l e (bl_rm 8 208) s m as.toArray below meth c H locs 0 0 (bl_Qi below g s as out) (F0 m 30 ls [])) : ∀ (σ : bl_St) (v0 : Nat) (v1 : Int32) (v2 : Int32) (v3 : Int32), bl_sh[v0]? = some (10, 28) → (b_X10_cheapest_30 k30) σ v0 v1 v2 v3 = some out → ∀ (H : Heap) (locs : List Loc) (ls : Array Slot), bl_V g s σ H locs → lv_has ls 4 [(0, .ref (bl_ad g v0)), (1, .int v1), (2, .int v2), (3, .int v3)] → W p l e (bl_rm 8 208) s m as.toArray below meth c H locs 0 0 (bl_Qi below g s as out) (F0 m 30 ls []) := by
  intro σ v0 v1 v2 v3 hv0 hf H locs ls V hl
  unfold b_X10_cheapest_30 at hf
  refine lv_iload_n X.1 X.2.1 dX10_cheapest_30 rfl (lv_at hl 3 rfl) ?_
  refine lv_aload_n X.1 X.2.1 dX10_cheapest_31 rfl (lv_at hl 0 rfl) ?_
  refine bl_getr X V hv0 fl_X10_13 rfl dX10_cheapest_32 (fun h3 => ?_)
  refine lv_iconst (v := 0) X.1 X.2.1 dX10_cheapest_35 (by decide) ?_
  refine bl_iald (k := 0) X V h3 (by decide) (by decide) dX10_cheapest_36 ?_
  refine lv_icmp_ge (tgt := 64) X.1 X.2.1 dX10_cheapest_37 (by decide) (fun c4 => ?_) (fun c4 => ?_)
  · have hf := bl_ifp c4 hf
    refine lv_iload_n X.1 X.2.1 dX10_cheapest_64 rfl (lv_at hl 2 rfl) ?_
    exact bl_reti X V hr hf dX10_cheapest_65
  · have hf := bl_ifn c4 hf
    refine lv_aload_n X.1 X.2.1 dX10_cheapest_40 rfl (lv_at hl 0 rfl) ?_
    refine lv_iload_n X.1 X.2.1 dX10_cheapest_41 rfl (lv_at hl 1 rfl) ?_
    refine lv_iload_n X.1 X.2.1 dX10_cheapest_42 rfl (lv_at hl 3 rfl) ?_
    obtain ⟨r5, σ6, h7, hf⟩ := bl_bd_at hf
    refine bl_cVl (As := [.int v1, .int v3]) X V hl.1 hv0 rfl ml_X10_210 mV_X10_costAt (t_X10_costAt l g σ v0 v1 v3 _ hv0 h7) rfl rfl ⟨Nat.le_of_ble_eq_true rfl, Nat.le_of_ble_eq_true rfl⟩ rfl rfl (Nat.le_of_ble_eq_true rfl) ⟨Nat.zero_le _, Nat.zero_le _⟩ dX10_cheapest_43 (fun H locs V => ?_)
    refine lv_aload_n X.1 X.2.1 dX10_cheapest_46 rfl (lv_at hl 0 rfl) ?_
    refine lv_iload_n X.1 X.2.1 dX10_cheapest_47 rfl (lv_at hl 1 rfl) ?_
    refine lv_iload_n X.1 X.2.1 dX10_cheapest_48 rfl (lv_at hl 2 rfl) ?_
    obtain ⟨r8, σ9, h10, hf⟩ := bl_bd_at hf
    refine bl_cVl (As := [.int v1, .int v2]) X V hl.1 hv0 rfl ml_X10_210 mV_X10_costAt (t_X10_costAt l g σ6 v0 v1 v2 _ hv0 h10) rfl rfl ⟨Nat.le_of_ble_eq_true rfl, Nat.le_of_ble_eq_true rfl⟩ rfl rfl (Nat.le_of_ble_eq_true rfl) ⟨Nat.zero_le _, Nat.zero_le _⟩ dX10_cheapest_49 (fun H locs V => ?_)
    refine bl_lc_ge (tgt := 58) X dX10_cheapest_52 dX10_cheapest_53 (by decide) (fun c11 => ?_) (fun c11 => ?_)
    · have hf := bl_ifp c11 hf
      exact w_X10_cheapest_58 X hr k30 hk30 σ9 v0 v1 v2 v3 hv0 hf _ _ _ V (lv_sub hl [0, 1, 2, 3] rfl)
    · have hf := bl_ifn c11 hf
      refine lv_iload_n X.1 X.2.1 dX10_cheapest_56 rfl (lv_at hl 3 rfl) ?_
      refine lv_istore_n (lv' := [(2, .int v3), (0, .ref (bl_ad g v0)), (1, .int v1), (3, .int v3)]) X.1 X.2.1 dX10_cheapest_57 rfl hl (by decide) rfl (fun ls hl => ?_)
      exact w_X10_cheapest_58 X hr k30 hk30 σ9 v0 v1 v3 v3 hv0 hf _ _ _ V (lv_sub hl [1, 2, 0, 3] rfl)
theorem l_X10_cheapest_30 {p : Program} {l : Launch} {e : Env} {s : State} {m : MethodId} {below : List Frame} {meth : Method} {c : Code} {g : bl_Gp} {as : List Value} {out : Int32 × bl_St} (X : bl_Cx g p s m as.toArray meth c cX10_cheapest 4 RX10) (hr : meth.sig.returnType = (Option.some Jvm.ClassFile.FieldType.int)) (n : Nat) : ∀ (σ : bl_St) (v0 : Nat) (v1 : Int32) (v2 : Int32) (v3 : Int32), bl_sh[v0]? = some (10, 28) → (bl_fx (fun _ _ _ _ _ => none) (b_X10_cheapest_30 ) n) σ v0 v1 v2 v3 = some out → ∀ (H : Heap) (locs : List Loc) (ls : Array Slot), bl_V g s σ H locs → lv_has ls 4 [(0, .ref (bl_ad g v0)), (1, .int v1), (2, .int v2), (3, .int v3)] → W p l e (bl_rm 8 208) s m as.toArray below meth c H locs 0 0 (bl_Qi below g s as out) (F0 m 30 ls []) := by
  induction n with
  | zero =>
    intro σ v0 v1 v2 v3 hv0 hf H locs ls V hl
    cases hf
  | succ n ih => exact w_X10_cheapest_30 X hr  _ ih
set_option maxHeartbeats 4000000 in
set_option maxRecDepth 100000 in
theorem t_X10_cheapest (l : Launch) (g : bl_Gp) (σ : bl_St) (a0 : Nat) (a1 : Int32) (o : Int32 × bl_St) (ha0 : bl_sh[a0]? = some (10, 28)) (hf : f_X10_cheapest σ a0 a1 = some o) : bl_Ci l g yX10_cheapest cX10_cheapest 4 (Option.some Jvm.ClassFile.FieldType.int) (bl_rm 8 208) [.ref (bl_ad g a0), .int a1] σ o := by
  refine bl_met (by decide) (Nat.le_of_ble_eq_true rfl) (fun p e s m below meth c ls X hr V hl => ?_)
  have hl : lv_has ls 4 [(0, .ref (bl_ad g a0)), (1, .int a1)] := hl
  unfold f_X10_cheapest at hf
  refine lv_iload_n X.1 X.2.1 dX10_cheapest_0 rfl (lv_at hl 1 rfl) ?_
  obtain ⟨r12, σ13, h14, hf⟩ := bl_bd_at hf
  refine bl_cSi (As := [.int a1]) X V hl.1 ml_X10_227 mS_X10_areYears (t_X10_areYears l g σ a1 _  h14) rfl rfl ⟨Nat.le_of_ble_eq_true rfl, Nat.le_of_ble_eq_true rfl⟩ rfl rfl (Nat.le_of_ble_eq_true rfl) ⟨Nat.zero_le _, Nat.zero_le _⟩ dX10_cheapest_1 (fun H locs V => ?_)
  refine lv_if_eq (tgt := 16) X.1 X.2.1 dX10_cheapest_4 (by decide) (fun c15 => ?_) (fun c15 => ?_)
  · have hf := bl_ifp c15 hf
    refine lv_iconst (v := (-1)) X.1 X.2.1 dX10_cheapest_16 (by decide) ?_
    exact bl_reti X V hr hf dX10_cheapest_17
  · have hf := bl_ifn c15 hf
    refine lv_aload_n X.1 X.2.1 dX10_cheapest_7 rfl (lv_at hl 0 rfl) ?_
    refine bl_getr X V ha0 fl_X10_13 rfl dX10_cheapest_8 (fun h16 => ?_)
    refine lv_iconst (v := 0) X.1 X.2.1 dX10_cheapest_11 (by decide) ?_
    refine bl_iald (k := 0) X V h16 (by decide) (by decide) dX10_cheapest_12 ?_
    refine lv_if_ne (tgt := 18) X.1 X.2.1 dX10_cheapest_13 (by decide) (fun c17 => ?_) (fun c17 => ?_)
    · have hf := bl_ifn c17 hf
      refine lv_aload_n X.1 X.2.1 dX10_cheapest_18 rfl (lv_at hl 0 rfl) ?_
      refine lv_iload_n X.1 X.2.1 dX10_cheapest_19 rfl (lv_at hl 1 rfl) ?_
      refine lv_iconst (v := 1) X.1 X.2.1 dX10_cheapest_20 (by decide) ?_
      refine lv_iconst (v := 0) X.1 X.2.1 dX10_cheapest_21 (by decide) ?_
      refine lv_iconst (v := 0) X.1 X.2.1 dX10_cheapest_22 (by decide) ?_
      obtain ⟨r18, σ19, h20, hf⟩ := bl_bd_at hf
      refine bl_cVv (As := [.int a1, .int 1, .int 0, .int 0]) X V hl.1 ha0 rfl ml_X10_142 mV_X10_lays (t_X10_lays l g σ13 a0 a1 1 0 0 _ ha0 h20) rfl rfl ⟨Nat.le_of_ble_eq_true rfl, Nat.le_of_ble_eq_true rfl⟩ rfl rfl (Nat.le_of_ble_eq_true rfl) ⟨Nat.zero_le _, Nat.zero_le _⟩ dX10_cheapest_23 (fun H locs V => ?_)
      refine lv_iconst (v := 0) X.1 X.2.1 dX10_cheapest_26 (by decide) ?_
      refine lv_istore_n (lv' := [(2, .int 0), (0, .ref (bl_ad g a0)), (1, .int a1)]) X.1 X.2.1 dX10_cheapest_27 rfl hl (by decide) rfl (fun ls hl => ?_)
      refine lv_iconst (v := 1) X.1 X.2.1 dX10_cheapest_28 (by decide) ?_
      refine lv_istore_n (lv' := [(3, .int 1), (2, .int 0), (0, .ref (bl_ad g a0)), (1, .int a1)]) X.1 X.2.1 dX10_cheapest_29 rfl hl (by decide) rfl (fun ls hl => ?_)
      exact l_X10_cheapest_30 X hr  bl_fu σ19 a0 a1 0 1 ha0 hf _ _ _ V (lv_sub hl [2, 3, 1, 0] rfl)
    · have hf := bl_ifp c17 hf
      refine lv_iconst (v := (-1)) X.1 X.2.1 dX10_cheapest_16 (by decide) ?_
      exact bl_reti X V hr hf dX10_cheapest_17
set_option maxHeartbeats 4000000 in
set_option maxRecDepth 100000 in
theorem w_X10_reach_76 {p : Program} {l : Launch} {e : Env} {s : State} {m : MethodId} {below : List Frame} {meth : Method} {c : Code} {g : bl_Gp} {as : List Value} {out : Int32 × bl_St} (X : bl_Cx g p s m as.toArray meth c cX10_reach 6 RX10) (hr : meth.sig.returnType = (Option.some Jvm.ClassFile.FieldType.int)) (k25 : bl_St → Nat → Int32 → Int32 → Int32 → Option (Int32 × bl_St)) (hk25 : ∀ (σ : bl_St) (v0 : Nat) (v2 : Int32) (v3 : Int32) (v4 : Int32), bl_sh[v0]? = some (10, 28) → k25 σ v0 v2 v3 v4 = some out → ∀ (H : Heap) (locs : List Loc) (ls : Array Slot), bl_V g s σ H locs → lv_has ls 6 [(0, .ref (bl_ad g v0)), (2, .int v2), (3, .int v3), (4, .int v4)] → W p l e (bl_rm 2 46) s m as.toArray below meth c H locs 0 0 (bl_Qi below g s as out) (F0 m 25 ls [])) : ∀ (σ : bl_St) (v0 : Nat) (v2 : Int32) (v3 : Int32) (v4 : Int32), bl_sh[v0]? = some (10, 28) → (b_X10_reach_76 k25) σ v0 v2 v3 v4 = some out → ∀ (H : Heap) (locs : List Loc) (ls : Array Slot), bl_V g s σ H locs → lv_has ls 6 [(0, .ref (bl_ad g v0)), (2, .int v2), (3, .int v3), (4, .int v4)] → W p l e (bl_rm 2 46) s m as.toArray below meth c H locs 0 0 (bl_Qi below g s as out) (F0 m 76 ls []) := by
  intro σ v0 v2 v3 v4 hv0 hf H locs ls V hl
  unfold b_X10_reach_76 at hf
  obtain ⟨x1, e2⟩ : ∃ z : Int32, z = v4 + 1 := ⟨_, rfl⟩
  have hf := bl_let_at e2 hf
  refine lv_iinc (v := x1) (lv' := [(4, .int x1), (0, .ref (bl_ad g v0)), (2, .int v2), (3, .int v3)]) X.1 X.2.1 dX10_reach_76 hl (k := 3) rfl (by rw [e2]; rfl) (by decide) rfl (fun ls hl => ?_)
  refine lv_goto (tgt := 25) X.1 X.2.1 dX10_reach_79 (by decide) ?_
  exact hk25 σ v0 v2 v3 x1 hv0 hf _ _ _ V (lv_sub hl [1, 2, 3, 0] rfl)
set_option maxHeartbeats 4000000 in
set_option maxRecDepth 100000 in
theorem w_X10_reach_51 {p : Program} {l : Launch} {e : Env} {s : State} {m : MethodId} {below : List Frame} {meth : Method} {c : Code} {g : bl_Gp} {as : List Value} {out : Int32 × bl_St} (X : bl_Cx g p s m as.toArray meth c cX10_reach 6 RX10) (hr : meth.sig.returnType = (Option.some Jvm.ClassFile.FieldType.int)) (k25 : bl_St → Nat → Int32 → Int32 → Int32 → Option (Int32 × bl_St)) (hk25 : ∀ (σ : bl_St) (v0 : Nat) (v2 : Int32) (v3 : Int32) (v4 : Int32), bl_sh[v0]? = some (10, 28) → k25 σ v0 v2 v3 v4 = some out → ∀ (H : Heap) (locs : List Loc) (ls : Array Slot), bl_V g s σ H locs → lv_has ls 6 [(0, .ref (bl_ad g v0)), (2, .int v2), (3, .int v3), (4, .int v4)] → W p l e (bl_rm 2 46) s m as.toArray below meth c H locs 0 0 (bl_Qi below g s as out) (F0 m 25 ls [])) (k51 : bl_St → Nat → Int32 → Int32 → Int32 → Int32 → Option (Int32 × bl_St)) (hk51 : ∀ (σ : bl_St) (v0 : Nat) (v2 : Int32) (v3 : Int32) (v4 : Int32) (v5 : Int32), bl_sh[v0]? = some (10, 28) → k51 σ v0 v2 v3 v4 v5 = some out → ∀ (H : Heap) (locs : List Loc) (ls : Array Slot), bl_V g s σ H locs → lv_has ls 6 [(0, .ref (bl_ad g v0)), (2, .int v2), (3, .int v3), (4, .int v4), (5, .int v5)] → W p l e (bl_rm 2 46) s m as.toArray below meth c H locs 0 0 (bl_Qi below g s as out) (F0 m 51 ls [])) : ∀ (σ : bl_St) (v0 : Nat) (v2 : Int32) (v3 : Int32) (v4 : Int32) (v5 : Int32), bl_sh[v0]? = some (10, 28) → (b_X10_reach_51 k25 k51) σ v0 v2 v3 v4 v5 = some out → ∀ (H : Heap) (locs : List Loc) (ls : Array Slot), bl_V g s σ H locs → lv_has ls 6 [(0, .ref (bl_ad g v0)), (2, .int v2), (3, .int v3), (4, .int v4), (5, .int v5)] → W p l e (bl_rm 2 46) s m as.toArray below meth c H locs 0 0 (bl_Qi below g s as out) (F0 m 51 ls []) := by
  intro σ v0 v2 v3 v4 v5 hv0 hf H locs ls V hl
  unfold b_X10_reach_51 at hf
  refine lv_iload X.1 X.2.1 dX10_reach_51 (lv_at hl 4 rfl) ?_
  refine lv_iconst (v := 3) X.1 X.2.1 dX10_reach_53 (by decide) ?_
  refine lv_icmp_ge (tgt := 76) X.1 X.2.1 dX10_reach_54 (by decide) (fun c3 => ?_) (fun c3 => ?_)
  · have hf := bl_ifp c3 hf
    exact w_X10_reach_76 X hr k25 hk25 σ v0 v2 v3 v4 hv0 hf _ _ _ V (lv_sub hl [0, 1, 2, 3] rfl)
  · have hf := bl_ifn c3 hf
    refine lv_iload_n X.1 X.2.1 dX10_reach_57 rfl (lv_at hl 1 rfl) ?_
    refine lv_iconst (v := 1) X.1 X.2.1 dX10_reach_58 (by decide) ?_
    refine lv_aload_n X.1 X.2.1 dX10_reach_59 rfl (lv_at hl 0 rfl) ?_
    refine lv_iload X.1 X.2.1 dX10_reach_60 (lv_at hl 3 rfl) ?_
    refine lv_iload X.1 X.2.1 dX10_reach_62 (lv_at hl 4 rfl) ?_
    obtain ⟨r4, σ5, h6, hf⟩ := bl_bd_at hf
    refine bl_cVi (As := [.int v4, .int v5]) X V hl.1 hv0 rfl ml_X10_118 mV_X10_behind (t_X10_behind l g σ v0 v4 v5 _ hv0 h6) rfl rfl ⟨Nat.le_of_ble_eq_true rfl, Nat.le_of_ble_eq_true rfl⟩ rfl rfl (Nat.le_of_ble_eq_true rfl) ⟨Nat.zero_le _, Nat.zero_le _⟩ dX10_reach_64 (fun H locs V => ?_)
    refine lv_ishl X.1 X.2.1 dX10_reach_67 ?_
    refine lv_ior X.1 X.2.1 dX10_reach_68 ?_
    refine lv_topi (fun x7 e8 => ?_)
    have hf := bl_let_at e8 hf
    refine lv_istore_n (lv' := [(2, .int x7), (0, .ref (bl_ad g v0)), (3, .int v3), (4, .int v4), (5, .int v5)]) X.1 X.2.1 dX10_reach_69 rfl hl (by decide) rfl (fun ls hl => ?_)
    obtain ⟨x9, e10⟩ : ∃ z : Int32, z = v5 + 1 := ⟨_, rfl⟩
    have hf := bl_let_at e10 hf
    refine lv_iinc (v := x9) (lv' := [(5, .int x9), (2, .int x7), (0, .ref (bl_ad g v0)), (3, .int v3), (4, .int v4)]) X.1 X.2.1 dX10_reach_70 hl (k := 4) rfl (by rw [e10]; rfl) (by decide) rfl (fun ls hl => ?_)
    refine lv_goto (tgt := 51) X.1 X.2.1 dX10_reach_73 (by decide) ?_
    exact hk51 σ5 v0 x7 v3 v4 x9 hv0 hf _ _ _ V (lv_sub hl [2, 1, 3, 4, 0] rfl)
theorem l_X10_reach_51 {p : Program} {l : Launch} {e : Env} {s : State} {m : MethodId} {below : List Frame} {meth : Method} {c : Code} {g : bl_Gp} {as : List Value} {out : Int32 × bl_St} (X : bl_Cx g p s m as.toArray meth c cX10_reach 6 RX10) (hr : meth.sig.returnType = (Option.some Jvm.ClassFile.FieldType.int)) (k25 : bl_St → Nat → Int32 → Int32 → Int32 → Option (Int32 × bl_St)) (hk25 : ∀ (σ : bl_St) (v0 : Nat) (v2 : Int32) (v3 : Int32) (v4 : Int32), bl_sh[v0]? = some (10, 28) → k25 σ v0 v2 v3 v4 = some out → ∀ (H : Heap) (locs : List Loc) (ls : Array Slot), bl_V g s σ H locs → lv_has ls 6 [(0, .ref (bl_ad g v0)), (2, .int v2), (3, .int v3), (4, .int v4)] → W p l e (bl_rm 2 46) s m as.toArray below meth c H locs 0 0 (bl_Qi below g s as out) (F0 m 25 ls [])) (n : Nat) : ∀ (σ : bl_St) (v0 : Nat) (v2 : Int32) (v3 : Int32) (v4 : Int32) (v5 : Int32), bl_sh[v0]? = some (10, 28) → (bl_fx (fun _ _ _ _ _ _ => none) (b_X10_reach_51 k25) n) σ v0 v2 v3 v4 v5 = some out → ∀ (H : Heap) (locs : List Loc) (ls : Array Slot), bl_V g s σ H locs → lv_has ls 6 [(0, .ref (bl_ad g v0)), (2, .int v2), (3, .int v3), (4, .int v4), (5, .int v5)] → W p l e (bl_rm 2 46) s m as.toArray below meth c H locs 0 0 (bl_Qi below g s as out) (F0 m 51 ls []) := by
  induction n with
  | zero =>
    intro σ v0 v2 v3 v4 v5 hv0 hf H locs ls V hl
    cases hf
  | succ n ih => exact w_X10_reach_51 X hr k25 hk25 _ ih
set_option maxHeartbeats 4000000 in
set_option maxRecDepth 100000 in
theorem w_X10_reach_25 {p : Program} {l : Launch} {e : Env} {s : State} {m : MethodId} {below : List Frame} {meth : Method} {c : Code} {g : bl_Gp} {as : List Value} {out : Int32 × bl_St} (X : bl_Cx g p s m as.toArray meth c cX10_reach 6 RX10) (hr : meth.sig.returnType = (Option.some Jvm.ClassFile.FieldType.int)) (k16 : bl_St → Nat → Int32 → Int32 → Option (Int32 × bl_St)) (hk16 : ∀ (σ : bl_St) (v0 : Nat) (v2 : Int32) (v3 : Int32), bl_sh[v0]? = some (10, 28) → k16 σ v0 v2 v3 = some out → ∀ (H : Heap) (locs : List Loc) (ls : Array Slot), bl_V g s σ H locs → lv_has ls 6 [(0, .ref (bl_ad g v0)), (2, .int v2), (3, .int v3)] → W p l e (bl_rm 2 46) s m as.toArray below meth c H locs 0 0 (bl_Qi below g s as out) (F0 m 16 ls [])) (k25 : bl_St → Nat → Int32 → Int32 → Int32 → Option (Int32 × bl_St)) (hk25 : ∀ (σ : bl_St) (v0 : Nat) (v2 : Int32) (v3 : Int32) (v4 : Int32), bl_sh[v0]? = some (10, 28) → k25 σ v0 v2 v3 v4 = some out → ∀ (H : Heap) (locs : List Loc) (ls : Array Slot), bl_V g s σ H locs → lv_has ls 6 [(0, .ref (bl_ad g v0)), (2, .int v2), (3, .int v3), (4, .int v4)] → W p l e (bl_rm 2 46) s m as.toArray below meth c H locs 0 0 (bl_Qi below g s as out) (F0 m 25 ls [])) : ∀ (σ : bl_St) (v0 : Nat) (v2 : Int32) (v3 : Int32) (v4 : Int32), bl_sh[v0]? = some (10, 28) → (b_X10_reach_25 k16 k25) σ v0 v2 v3 v4 = some out → ∀ (H : Heap) (locs : List Loc) (ls : Array Slot), bl_V g s σ H locs → lv_has ls 6 [(0, .ref (bl_ad g v0)), (2, .int v2), (3, .int v3), (4, .int v4)] → W p l e (bl_rm 2 46) s m as.toArray below meth c H locs 0 0 (bl_Qi below g s as out) (F0 m 25 ls []) := by
  intro σ v0 v2 v3 v4 hv0 hf H locs ls V hl
  unfold b_X10_reach_25 at hf
  refine lv_iload X.1 X.2.1 dX10_reach_25 (lv_at hl 3 rfl) ?_
  refine lv_aload_n X.1 X.2.1 dX10_reach_27 rfl (lv_at hl 0 rfl) ?_
  refine bl_getr X V hv0 fl_X10_13 rfl dX10_reach_28 (fun h11 => ?_)
  refine lv_iconst (v := 0) X.1 X.2.1 dX10_reach_31 (by decide) ?_
  refine bl_iald (k := 0) X V h11 (by decide) (by decide) dX10_reach_32 ?_
  refine lv_icmp_ge (tgt := 82) X.1 X.2.1 dX10_reach_33 (by decide) (fun c12 => ?_) (fun c12 => ?_)
  · have hf := bl_ifp c12 hf
    obtain ⟨x13, e14⟩ : ∃ z : Int32, z = v3 + 1 := ⟨_, rfl⟩
    have hf := bl_let_at e14 hf
    refine lv_iinc (v := x13) (lv' := [(3, .int x13), (0, .ref (bl_ad g v0)), (2, .int v2), (4, .int v4)]) X.1 X.2.1 dX10_reach_82 hl (k := 2) rfl (by rw [e14]; rfl) (by decide) rfl (fun ls hl => ?_)
    refine lv_goto (tgt := 16) X.1 X.2.1 dX10_reach_85 (by decide) ?_
    exact hk16 σ v0 v2 x13 hv0 hf _ _ _ V (lv_sub hl [1, 2, 0] rfl)
  · have hf := bl_ifn c12 hf
    refine lv_iload_n X.1 X.2.1 dX10_reach_36 rfl (lv_at hl 1 rfl) ?_
    refine lv_iload X.1 X.2.1 dX10_reach_37 (lv_at hl 3 rfl) ?_
    refine lv_ishr X.1 X.2.1 dX10_reach_39 ?_
    refine lv_iconst (v := 1) X.1 X.2.1 dX10_reach_40 (by decide) ?_
    refine lv_iand X.1 X.2.1 dX10_reach_41 ?_
    refine lv_if_ne (tgt := 48) X.1 X.2.1 dX10_reach_42 (by decide) (fun c15 => ?_) (fun c15 => ?_)
    · have hf := bl_ifn c15 hf
      refine lv_iconst (v := 0) X.1 X.2.1 dX10_reach_48 (by decide) ?_
      refine lv_istore (lv' := [(5, .int 0), (0, .ref (bl_ad g v0)), (2, .int v2), (3, .int v3), (4, .int v4)]) X.1 X.2.1 dX10_reach_49 hl (by decide) rfl (fun ls hl => ?_)
      exact l_X10_reach_51 X hr k25 hk25 bl_fu σ v0 v2 v3 v4 0 hv0 hf _ _ _ V (lv_sub hl [1, 2, 3, 4, 0] rfl)
    · have hf := bl_ifp c15 hf
      refine lv_goto (tgt := 76) X.1 X.2.1 dX10_reach_45 (by decide) ?_
      exact w_X10_reach_76 X hr k25 hk25 σ v0 v2 v3 v4 hv0 hf _ _ _ V (lv_sub hl [0, 1, 2, 3] rfl)
theorem l_X10_reach_25 {p : Program} {l : Launch} {e : Env} {s : State} {m : MethodId} {below : List Frame} {meth : Method} {c : Code} {g : bl_Gp} {as : List Value} {out : Int32 × bl_St} (X : bl_Cx g p s m as.toArray meth c cX10_reach 6 RX10) (hr : meth.sig.returnType = (Option.some Jvm.ClassFile.FieldType.int)) (k16 : bl_St → Nat → Int32 → Int32 → Option (Int32 × bl_St)) (hk16 : ∀ (σ : bl_St) (v0 : Nat) (v2 : Int32) (v3 : Int32), bl_sh[v0]? = some (10, 28) → k16 σ v0 v2 v3 = some out → ∀ (H : Heap) (locs : List Loc) (ls : Array Slot), bl_V g s σ H locs → lv_has ls 6 [(0, .ref (bl_ad g v0)), (2, .int v2), (3, .int v3)] → W p l e (bl_rm 2 46) s m as.toArray below meth c H locs 0 0 (bl_Qi below g s as out) (F0 m 16 ls [])) (n : Nat) : ∀ (σ : bl_St) (v0 : Nat) (v2 : Int32) (v3 : Int32) (v4 : Int32), bl_sh[v0]? = some (10, 28) → (bl_fx (fun _ _ _ _ _ => none) (b_X10_reach_25 k16) n) σ v0 v2 v3 v4 = some out → ∀ (H : Heap) (locs : List Loc) (ls : Array Slot), bl_V g s σ H locs → lv_has ls 6 [(0, .ref (bl_ad g v0)), (2, .int v2), (3, .int v3), (4, .int v4)] → W p l e (bl_rm 2 46) s m as.toArray below meth c H locs 0 0 (bl_Qi below g s as out) (F0 m 25 ls []) := by
  induction n with
  | zero =>
    intro σ v0 v2 v3 v4 hv0 hf H locs ls V hl
    cases hf
  | succ n ih => exact w_X10_reach_25 X hr k16 hk16 _ ih
set_option maxHeartbeats 4000000 in
set_option maxRecDepth 100000 in
theorem w_X10_reach_16 {p : Program} {l : Launch} {e : Env} {s : State} {m : MethodId} {below : List Frame} {meth : Method} {c : Code} {g : bl_Gp} {as : List Value} {out : Int32 × bl_St} (X : bl_Cx g p s m as.toArray meth c cX10_reach 6 RX10) (hr : meth.sig.returnType = (Option.some Jvm.ClassFile.FieldType.int)) (k16 : bl_St → Nat → Int32 → Int32 → Option (Int32 × bl_St)) (hk16 : ∀ (σ : bl_St) (v0 : Nat) (v2 : Int32) (v3 : Int32), bl_sh[v0]? = some (10, 28) → k16 σ v0 v2 v3 = some out → ∀ (H : Heap) (locs : List Loc) (ls : Array Slot), bl_V g s σ H locs → lv_has ls 6 [(0, .ref (bl_ad g v0)), (2, .int v2), (3, .int v3)] → W p l e (bl_rm 2 46) s m as.toArray below meth c H locs 0 0 (bl_Qi below g s as out) (F0 m 16 ls [])) : ∀ (σ : bl_St) (v0 : Nat) (v2 : Int32) (v3 : Int32), bl_sh[v0]? = some (10, 28) → (b_X10_reach_16 k16) σ v0 v2 v3 = some out → ∀ (H : Heap) (locs : List Loc) (ls : Array Slot), bl_V g s σ H locs → lv_has ls 6 [(0, .ref (bl_ad g v0)), (2, .int v2), (3, .int v3)] → W p l e (bl_rm 2 46) s m as.toArray below meth c H locs 0 0 (bl_Qi below g s as out) (F0 m 16 ls []) := by
  intro σ v0 v2 v3 hv0 hf H locs ls V hl
  unfold b_X10_reach_16 at hf
  refine lv_iload_n X.1 X.2.1 dX10_reach_16 rfl (lv_at hl 2 rfl) ?_
  refine lv_bipush (v := 8) X.1 X.2.1 dX10_reach_17 (by decide) ?_
  refine lv_icmp_ge (tgt := 88) X.1 X.2.1 dX10_reach_19 (by decide) (fun c16 => ?_) (fun c16 => ?_)
  · have hf := bl_ifp c16 hf
    refine lv_iload_n X.1 X.2.1 dX10_reach_88 rfl (lv_at hl 1 rfl) ?_
    exact bl_reti X V hr hf dX10_reach_89
  · have hf := bl_ifn c16 hf
    refine lv_iconst (v := 0) X.1 X.2.1 dX10_reach_22 (by decide) ?_
    refine lv_istore (lv' := [(4, .int 0), (0, .ref (bl_ad g v0)), (2, .int v2), (3, .int v3)]) X.1 X.2.1 dX10_reach_23 hl (by decide) rfl (fun ls hl => ?_)
    exact l_X10_reach_25 X hr k16 hk16 bl_fu σ v0 v2 v3 0 hv0 hf _ _ _ V (lv_sub hl [1, 2, 3, 0] rfl)
theorem l_X10_reach_16 {p : Program} {l : Launch} {e : Env} {s : State} {m : MethodId} {below : List Frame} {meth : Method} {c : Code} {g : bl_Gp} {as : List Value} {out : Int32 × bl_St} (X : bl_Cx g p s m as.toArray meth c cX10_reach 6 RX10) (hr : meth.sig.returnType = (Option.some Jvm.ClassFile.FieldType.int)) (n : Nat) : ∀ (σ : bl_St) (v0 : Nat) (v2 : Int32) (v3 : Int32), bl_sh[v0]? = some (10, 28) → (bl_fx (fun _ _ _ _ => none) (b_X10_reach_16 ) n) σ v0 v2 v3 = some out → ∀ (H : Heap) (locs : List Loc) (ls : Array Slot), bl_V g s σ H locs → lv_has ls 6 [(0, .ref (bl_ad g v0)), (2, .int v2), (3, .int v3)] → W p l e (bl_rm 2 46) s m as.toArray below meth c H locs 0 0 (bl_Qi below g s as out) (F0 m 16 ls []) := by
  induction n with
  | zero =>
    intro σ v0 v2 v3 hv0 hf H locs ls V hl
    cases hf
  | succ n ih => exact w_X10_reach_16 X hr  _ ih
set_option maxHeartbeats 4000000 in
set_option maxRecDepth 100000 in
theorem t_X10_reach (l : Launch) (g : bl_Gp) (σ : bl_St) (a0 : Nat) (a1 : Int32) (o : Int32 × bl_St) (ha0 : bl_sh[a0]? = some (10, 28)) (hf : f_X10_reach σ a0 a1 = some o) : bl_Ci l g yX10_reach cX10_reach 6 (Option.some Jvm.ClassFile.FieldType.int) (bl_rm 2 46) [.ref (bl_ad g a0), .int a1] σ o := by
  refine bl_met (by decide) (Nat.le_of_ble_eq_true rfl) (fun p e s m below meth c ls X hr V hl => ?_)
  have hl : lv_has ls 6 [(0, .ref (bl_ad g a0)), (1, .int a1)] := hl
  unfold f_X10_reach at hf
  refine lv_aload_n X.1 X.2.1 dX10_reach_0 rfl (lv_at hl 0 rfl) ?_
  refine lv_iload_n X.1 X.2.1 dX10_reach_1 rfl (lv_at hl 1 rfl) ?_
  obtain ⟨r17, σ18, h19, hf⟩ := bl_bd_at hf
  refine bl_cVi (As := [.int a1]) X V hl.1 ha0 rfl ml_X10_84 mV_X10_isClass (t_X10_isClass l g σ a0 a1 _ ha0 h19) rfl rfl ⟨Nat.le_of_ble_eq_true rfl, Nat.le_of_ble_eq_true rfl⟩ rfl rfl (Nat.le_of_ble_eq_true rfl) ⟨Nat.zero_le _, Nat.zero_le _⟩ dX10_reach_2 (fun H locs V => ?_)
  refine lv_if_ne (tgt := 10) X.1 X.2.1 dX10_reach_5 (by decide) (fun c20 => ?_) (fun c20 => ?_)
  · have hf := bl_ifn c20 hf
    refine lv_iconst (v := 1) X.1 X.2.1 dX10_reach_10 (by decide) ?_
    refine lv_iload_n X.1 X.2.1 dX10_reach_11 rfl (lv_at hl 1 rfl) ?_
    refine lv_ishl X.1 X.2.1 dX10_reach_12 ?_
    refine lv_topi (fun x21 e22 => ?_)
    have hf := bl_let_at e22 hf
    refine lv_istore_n (lv' := [(2, .int x21), (0, .ref (bl_ad g a0)), (1, .int a1)]) X.1 X.2.1 dX10_reach_13 rfl hl (by decide) rfl (fun ls hl => ?_)
    refine lv_iconst (v := 0) X.1 X.2.1 dX10_reach_14 (by decide) ?_
    refine lv_istore_n (lv' := [(3, .int 0), (2, .int x21), (0, .ref (bl_ad g a0)), (1, .int a1)]) X.1 X.2.1 dX10_reach_15 rfl hl (by decide) rfl (fun ls hl => ?_)
    exact l_X10_reach_16 X hr  bl_fu σ18 a0 x21 0 ha0 hf _ _ _ V (lv_sub hl [2, 1, 0] rfl)
  · have hf := bl_ifp c20 hf
    refine lv_iconst (v := (-1)) X.1 X.2.1 dX10_reach_8 (by decide) ?_
    exact bl_reti X V hr hf dX10_reach_9
set_option maxHeartbeats 4000000 in
set_option maxRecDepth 100000 in
theorem w_X10_years_23 {p : Program} {l : Launch} {e : Env} {s : State} {m : MethodId} {below : List Frame} {meth : Method} {c : Code} {g : bl_Gp} {as : List Value} {out : Int32 × bl_St} (X : bl_Cx g p s m as.toArray meth c cX10_years 5 RX10) (hr : meth.sig.returnType = (Option.some Jvm.ClassFile.FieldType.int)) (k23 : bl_St → Nat → Int32 → Int32 → Int32 → Option (Int32 × bl_St)) (hk23 : ∀ (σ : bl_St) (v0 : Nat) (v2 : Int32) (v3 : Int32) (v4 : Int32), bl_sh[v0]? = some (10, 28) → k23 σ v0 v2 v3 v4 = some out → ∀ (H : Heap) (locs : List Loc) (ls : Array Slot), bl_V g s σ H locs → lv_has ls 5 [(0, .ref (bl_ad g v0)), (2, .int v2), (3, .int v3), (4, .int v4)] → W p l e (bl_rm 2 46) s m as.toArray below meth c H locs 0 0 (bl_Qi below g s as out) (F0 m 23 ls [])) : ∀ (σ : bl_St) (v0 : Nat) (v2 : Int32) (v3 : Int32) (v4 : Int32), bl_sh[v0]? = some (10, 28) → (b_X10_years_23 k23) σ v0 v2 v3 v4 = some out → ∀ (H : Heap) (locs : List Loc) (ls : Array Slot), bl_V g s σ H locs → lv_has ls 5 [(0, .ref (bl_ad g v0)), (2, .int v2), (3, .int v3), (4, .int v4)] → W p l e (bl_rm 2 46) s m as.toArray below meth c H locs 0 0 (bl_Qi below g s as out) (F0 m 23 ls []) := by
  intro σ v0 v2 v3 v4 hv0 hf H locs ls V hl
  unfold b_X10_years_23 at hf
  refine lv_iload X.1 X.2.1 dX10_years_23 (lv_at hl 3 rfl) ?_
  refine lv_bipush (v := 8) X.1 X.2.1 dX10_years_25 (by decide) ?_
  refine lv_icmp_ge (tgt := 51) X.1 X.2.1 dX10_years_27 (by decide) (fun c1 => ?_) (fun c1 => ?_)
  · have hf := bl_ifp c1 hf
    refine lv_bipush (v := (-2)) X.1 X.2.1 dX10_years_51 (by decide) ?_
    exact bl_reti X V hr hf dX10_years_53
  · have hf := bl_ifn c1 hf
    refine lv_iload_n X.1 X.2.1 dX10_years_30 rfl (lv_at hl 2 rfl) ?_
    refine lv_iload_n X.1 X.2.1 dX10_years_31 rfl (lv_at hl 1 rfl) ?_
    refine lv_icmp_ne (tgt := 38) X.1 X.2.1 dX10_years_32 (by decide) (fun c2 => ?_) (fun c2 => ?_)
    · have hf := bl_ifn c2 hf
      refine lv_aload_n X.1 X.2.1 dX10_years_38 rfl (lv_at hl 0 rfl) ?_
      refine lv_iload_n X.1 X.2.1 dX10_years_39 rfl (lv_at hl 2 rfl) ?_
      refine lv_iconst (v := 0) X.1 X.2.1 dX10_years_40 (by decide) ?_
      obtain ⟨r3, σ4, h5, hf⟩ := bl_bd_at hf
      refine bl_cVi (As := [.int v3, .int 0]) X V hl.1 hv0 rfl ml_X10_118 mV_X10_behind (t_X10_behind l g σ v0 v3 0 _ hv0 h5) rfl rfl ⟨Nat.le_of_ble_eq_true rfl, Nat.le_of_ble_eq_true rfl⟩ rfl rfl (Nat.le_of_ble_eq_true rfl) ⟨Nat.zero_le _, Nat.zero_le _⟩ dX10_years_41 (fun H locs V => ?_)
      refine lv_istore_n (lv' := [(3, .int r3), (0, .ref (bl_ad g v0)), (2, .int v2), (4, .int v4)]) X.1 X.2.1 dX10_years_44 rfl hl (by decide) rfl (fun ls hl => ?_)
      obtain ⟨x6, e7⟩ : ∃ z : Int32, z = v4 + 1 := ⟨_, rfl⟩
      have hf := bl_let_at e7 hf
      refine lv_iinc (v := x6) (lv' := [(4, .int x6), (3, .int r3), (0, .ref (bl_ad g v0)), (2, .int v2)]) X.1 X.2.1 dX10_years_45 hl (k := 3) rfl (by rw [e7]; rfl) (by decide) rfl (fun ls hl => ?_)
      refine lv_goto (tgt := 23) X.1 X.2.1 dX10_years_48 (by decide) ?_
      exact hk23 σ4 v0 v2 r3 x6 hv0 hf _ _ _ V (lv_sub hl [2, 3, 1, 0] rfl)
    · have hf := bl_ifp c2 hf
      refine lv_iload X.1 X.2.1 dX10_years_35 (lv_at hl 3 rfl) ?_
      exact bl_reti X V hr hf dX10_years_37
theorem l_X10_years_23 {p : Program} {l : Launch} {e : Env} {s : State} {m : MethodId} {below : List Frame} {meth : Method} {c : Code} {g : bl_Gp} {as : List Value} {out : Int32 × bl_St} (X : bl_Cx g p s m as.toArray meth c cX10_years 5 RX10) (hr : meth.sig.returnType = (Option.some Jvm.ClassFile.FieldType.int)) (n : Nat) : ∀ (σ : bl_St) (v0 : Nat) (v2 : Int32) (v3 : Int32) (v4 : Int32), bl_sh[v0]? = some (10, 28) → (bl_fx (fun _ _ _ _ _ => none) (b_X10_years_23 ) n) σ v0 v2 v3 v4 = some out → ∀ (H : Heap) (locs : List Loc) (ls : Array Slot), bl_V g s σ H locs → lv_has ls 5 [(0, .ref (bl_ad g v0)), (2, .int v2), (3, .int v3), (4, .int v4)] → W p l e (bl_rm 2 46) s m as.toArray below meth c H locs 0 0 (bl_Qi below g s as out) (F0 m 23 ls []) := by
  induction n with
  | zero =>
    intro σ v0 v2 v3 v4 hv0 hf H locs ls V hl
    cases hf
  | succ n ih => exact w_X10_years_23 X hr  _ ih
set_option maxHeartbeats 4000000 in
set_option maxRecDepth 100000 in
theorem t_X10_years (l : Launch) (g : bl_Gp) (σ : bl_St) (a0 : Nat) (a1 : Int32) (a2 : Int32) (o : Int32 × bl_St) (ha0 : bl_sh[a0]? = some (10, 28)) (hf : f_X10_years σ a0 a1 a2 = some o) : bl_Ci l g yX10_years cX10_years 5 (Option.some Jvm.ClassFile.FieldType.int) (bl_rm 2 46) [.ref (bl_ad g a0), .int a1, .int a2] σ o := by
  refine bl_met (by decide) (Nat.le_of_ble_eq_true rfl) (fun p e s m below meth c ls X hr V hl => ?_)
  have hl : lv_has ls 5 [(0, .ref (bl_ad g a0)), (1, .int a1), (2, .int a2)] := hl
  unfold f_X10_years at hf
  refine lv_aload_n X.1 X.2.1 dX10_years_0 rfl (lv_at hl 0 rfl) ?_
  refine lv_iload_n X.1 X.2.1 dX10_years_1 rfl (lv_at hl 1 rfl) ?_
  obtain ⟨r8, σ9, h10, hf⟩ := bl_bd_at hf
  refine bl_cVi (As := [.int a1]) X V hl.1 ha0 rfl ml_X10_84 mV_X10_isClass (t_X10_isClass l g σ a0 a1 _ ha0 h10) rfl rfl ⟨Nat.le_of_ble_eq_true rfl, Nat.le_of_ble_eq_true rfl⟩ rfl rfl (Nat.le_of_ble_eq_true rfl) ⟨Nat.zero_le _, Nat.zero_le _⟩ dX10_years_2 (fun H locs V => ?_)
  refine lv_if_eq (tgt := 16) X.1 X.2.1 dX10_years_5 (by decide) (fun c11 => ?_) (fun c11 => ?_)
  · have hf := bl_ifp c11 hf
    refine lv_iconst (v := (-1)) X.1 X.2.1 dX10_years_16 (by decide) ?_
    exact bl_reti X V hr hf dX10_years_17
  · have hf := bl_ifn c11 hf
    refine lv_aload_n X.1 X.2.1 dX10_years_8 rfl (lv_at hl 0 rfl) ?_
    refine lv_iload_n X.1 X.2.1 dX10_years_9 rfl (lv_at hl 2 rfl) ?_
    obtain ⟨r12, σ13, h14, hf⟩ := bl_bd_at hf
    refine bl_cVi (As := [.int a2]) X V hl.1 ha0 rfl ml_X10_84 mV_X10_isClass (t_X10_isClass l g σ9 a0 a2 _ ha0 h14) rfl rfl ⟨Nat.le_of_ble_eq_true rfl, Nat.le_of_ble_eq_true rfl⟩ rfl rfl (Nat.le_of_ble_eq_true rfl) ⟨Nat.zero_le _, Nat.zero_le _⟩ dX10_years_10 (fun H locs V => ?_)
    refine lv_if_ne (tgt := 18) X.1 X.2.1 dX10_years_13 (by decide) (fun c15 => ?_) (fun c15 => ?_)
    · have hf := bl_ifn c15 hf
      refine lv_iload_n X.1 X.2.1 dX10_years_18 rfl (lv_at hl 1 rfl) ?_
      refine lv_istore_n (lv' := [(3, .int a1), (0, .ref (bl_ad g a0)), (1, .int a1), (2, .int a2)]) X.1 X.2.1 dX10_years_19 rfl hl (by decide) rfl (fun ls hl => ?_)
      refine lv_iconst (v := 0) X.1 X.2.1 dX10_years_20 (by decide) ?_
      refine lv_istore (lv' := [(4, .int 0), (3, .int a1), (0, .ref (bl_ad g a0)), (1, .int a1), (2, .int a2)]) X.1 X.2.1 dX10_years_21 hl (by decide) rfl (fun ls hl => ?_)
      exact l_X10_years_23 X hr  bl_fu σ13 a0 a2 a1 0 ha0 hf _ _ _ V (lv_sub hl [2, 4, 1, 0] rfl)
    · have hf := bl_ifp c15 hf
      refine lv_iconst (v := (-1)) X.1 X.2.1 dX10_years_16 (by decide) ?_
      exact bl_reti X V hr hf dX10_years_17
set_option maxHeartbeats 4000000 in
set_option maxRecDepth 100000 in
theorem w_X10_power_5 {p : Program} {l : Launch} {e : Env} {s : State} {m : MethodId} {below : List Frame} {meth : Method} {c : Code} {g : bl_Gp} {as : List Value} {out : Int64 × bl_St} (X : bl_Cx g p s m as.toArray meth c cX10_power 6 RX10) (hr : meth.sig.returnType = (Option.some Jvm.ClassFile.FieldType.long)) (k5 : bl_St → Int64 → Int32 → Int64 → Int32 → Option (Int64 × bl_St)) (hk5 : ∀ (σ : bl_St) (v0 : Int64) (v2 : Int32) (v3 : Int64) (v5 : Int32), k5 σ v0 v2 v3 v5 = some out → ∀ (H : Heap) (locs : List Loc) (ls : Array Slot), bl_V g s σ H locs → lv_has ls 6 [(0, .long v0), (2, .int v2), (3, .long v3), (5, .int v5)] → W p l e (bl_rm 0 0) s m as.toArray below meth c H locs 0 0 (bl_Ql below g s as out) (F0 m 5 ls [])) : ∀ (σ : bl_St) (v0 : Int64) (v2 : Int32) (v3 : Int64) (v5 : Int32), (b_X10_power_5 k5) σ v0 v2 v3 v5 = some out → ∀ (H : Heap) (locs : List Loc) (ls : Array Slot), bl_V g s σ H locs → lv_has ls 6 [(0, .long v0), (2, .int v2), (3, .long v3), (5, .int v5)] → W p l e (bl_rm 0 0) s m as.toArray below meth c H locs 0 0 (bl_Ql below g s as out) (F0 m 5 ls []) := by
  intro σ v0 v2 v3 v5  hf H locs ls V hl
  unfold b_X10_power_5 at hf
  refine lv_iload X.1 X.2.1 dX10_power_5 (lv_at hl 3 rfl) ?_
  refine lv_iload_n X.1 X.2.1 dX10_power_7 rfl (lv_at hl 1 rfl) ?_
  refine lv_icmp_ge (tgt := 21) X.1 X.2.1 dX10_power_8 (by decide) (fun c1 => ?_) (fun c1 => ?_)
  · have hf := bl_ifp c1 hf
    refine lv_lload_n X.1 X.2.1 dX10_power_21 rfl (lv_at hl 2 rfl) ?_
    exact bl_retl X V hr hf dX10_power_22
  · have hf := bl_ifn c1 hf
    refine lv_lload_n X.1 X.2.1 dX10_power_11 rfl (lv_at hl 2 rfl) ?_
    refine lv_lload_n X.1 X.2.1 dX10_power_12 rfl (lv_at hl 0 rfl) ?_
    refine lv_lmul X.1 X.2.1 dX10_power_13 ?_
    refine lv_topl (fun x2 e3 => ?_)
    have hf := bl_let_at e3 hf
    refine lv_lstore_n (lv' := [(3, .long x2), (0, .long v0), (2, .int v2), (5, .int v5)]) X.1 X.2.1 dX10_power_14 rfl hl (by decide) rfl (fun ls hl => ?_)
    obtain ⟨x4, e5⟩ : ∃ z : Int32, z = v5 + 1 := ⟨_, rfl⟩
    have hf := bl_let_at e5 hf
    refine lv_iinc (v := x4) (lv' := [(5, .int x4), (3, .long x2), (0, .long v0), (2, .int v2)]) X.1 X.2.1 dX10_power_15 hl (k := 3) rfl (by rw [e5]; rfl) (by decide) rfl (fun ls hl => ?_)
    refine lv_goto (tgt := 5) X.1 X.2.1 dX10_power_18 (by decide) ?_
    exact hk5 σ v0 v2 x2 x4  hf _ _ _ V (lv_sub hl [2, 3, 1, 0] rfl)
theorem l_X10_power_5 {p : Program} {l : Launch} {e : Env} {s : State} {m : MethodId} {below : List Frame} {meth : Method} {c : Code} {g : bl_Gp} {as : List Value} {out : Int64 × bl_St} (X : bl_Cx g p s m as.toArray meth c cX10_power 6 RX10) (hr : meth.sig.returnType = (Option.some Jvm.ClassFile.FieldType.long)) (n : Nat) : ∀ (σ : bl_St) (v0 : Int64) (v2 : Int32) (v3 : Int64) (v5 : Int32), (bl_fx (fun _ _ _ _ _ => none) (b_X10_power_5 ) n) σ v0 v2 v3 v5 = some out → ∀ (H : Heap) (locs : List Loc) (ls : Array Slot), bl_V g s σ H locs → lv_has ls 6 [(0, .long v0), (2, .int v2), (3, .long v3), (5, .int v5)] → W p l e (bl_rm 0 0) s m as.toArray below meth c H locs 0 0 (bl_Ql below g s as out) (F0 m 5 ls []) := by
  induction n with
  | zero =>
    intro σ v0 v2 v3 v5  hf H locs ls V hl
    cases hf
  | succ n ih => exact w_X10_power_5 X hr  _ ih
set_option maxHeartbeats 4000000 in
set_option maxRecDepth 100000 in
theorem t_X10_power (l : Launch) (g : bl_Gp) (σ : bl_St) (a0 : Int64) (a2 : Int32) (o : Int64 × bl_St) (hf : f_X10_power σ a0 a2 = some o) : bl_Cl l g yX10_power cX10_power 6 (Option.some Jvm.ClassFile.FieldType.long) (bl_rm 0 0) [.long a0, .int a2] σ o := by
  refine bl_met (by decide) (Nat.le_of_ble_eq_true rfl) (fun p e s m below meth c ls X hr V hl => ?_)
  have hl : lv_has ls 6 [(0, .long a0), (2, .int a2)] := hl
  unfold f_X10_power at hf
  refine lv_lconst (v := 1) X.1 X.2.1 dX10_power_0 (by decide) ?_
  refine lv_lstore_n (lv' := [(3, .long 1), (0, .long a0), (2, .int a2)]) X.1 X.2.1 dX10_power_1 rfl hl (by decide) rfl (fun ls hl => ?_)
  refine lv_iconst (v := 0) X.1 X.2.1 dX10_power_2 (by decide) ?_
  refine lv_istore (lv' := [(5, .int 0), (3, .long 1), (0, .long a0), (2, .int a2)]) X.1 X.2.1 dX10_power_3 hl (by decide) rfl (fun ls hl => ?_)
  exact l_X10_power_5 X hr  bl_fu σ a0 a2 1 0  hf _ _ _ V (lv_sub hl [2, 3, 1, 0] rfl)
set_option maxHeartbeats 4000000 in
set_option maxRecDepth 100000 in
theorem w_X10_waysOf_29 {p : Program} {l : Launch} {e : Env} {s : State} {m : MethodId} {below : List Frame} {meth : Method} {c : Code} {g : bl_Gp} {as : List Value} {out : Int64 × bl_St} (X : bl_Cx g p s m as.toArray meth c cX10_waysOf 5 RX10) (hr : meth.sig.returnType = (Option.some Jvm.ClassFile.FieldType.long)) : ∀ (σ : bl_St) (v0 : Nat) (v1 : Int32) (v2 : Int32) (s0 : Int64), bl_sh[v0]? = some (10, 28) → (b_X10_waysOf_29 ) σ v0 v1 v2 s0 = some out → ∀ (H : Heap) (locs : List Loc) (ls : Array Slot), bl_V g s σ H locs → lv_has ls 5 [(0, .ref (bl_ad g v0)), (1, .int v1), (2, .int v2)] → W p l e (bl_rm 1 25) s m as.toArray below meth c H locs 0 0 (bl_Ql below g s as out) (F0 m 29 ls [.long s0]) := by
  intro σ v0 v1 v2 s0 hv0 hf H locs ls V hl
  unfold b_X10_waysOf_29 at hf
  refine lv_lstore_n (lv' := [(3, .long s0), (0, .ref (bl_ad g v0)), (1, .int v1), (2, .int v2)]) X.1 X.2.1 dX10_waysOf_29 rfl hl (by decide) rfl (fun ls hl => ?_)
  refine lv_lload_n X.1 X.2.1 dX10_waysOf_30 rfl (lv_at hl 0 rfl) ?_
  refine lv_aload_n X.1 X.2.1 dX10_waysOf_31 rfl (lv_at hl 1 rfl) ?_
  refine bl_getr X V hv0 fl_X10_13 rfl dX10_waysOf_32 (fun h1 => ?_)
  refine lv_iconst (v := 3) X.1 X.2.1 dX10_waysOf_35 (by decide) ?_
  refine bl_iald (k := 3) X V h1 (by decide) (by decide) dX10_waysOf_36 ?_
  refine lv_i2l X.1 X.2.1 dX10_waysOf_37 rfl ?_
  refine lv_iload_n X.1 X.2.1 dX10_waysOf_38 rfl (lv_at hl 2 rfl) ?_
  obtain ⟨r2, σ3, h4, hf⟩ := bl_bd_at hf
  refine bl_cSl (As := [.long (Int32.toInt64 (bl_I σ (bl_R σ v0 1) 3)), .int v1]) X V hl.1 ml_X10_247 mS_X10_power (t_X10_power l g σ (Int32.toInt64 (bl_I σ (bl_R σ v0 1) 3)) v1 _  h4) rfl rfl ⟨Nat.le_of_ble_eq_true rfl, Nat.le_of_ble_eq_true rfl⟩ rfl rfl (Nat.le_of_ble_eq_true rfl) ⟨Nat.zero_le _, Nat.zero_le _⟩ dX10_waysOf_39 (fun H locs V => ?_)
  refine lv_lmul X.1 X.2.1 dX10_waysOf_42 ?_
  refine lv_bipush (v := 12) X.1 X.2.1 dX10_waysOf_43 (by decide) ?_
  refine lv_aload_n X.1 X.2.1 dX10_waysOf_45 rfl (lv_at hl 1 rfl) ?_
  refine bl_getr X V hv0 fl_X10_13 rfl dX10_waysOf_46 (fun h5 => ?_)
  refine lv_iconst (v := 3) X.1 X.2.1 dX10_waysOf_49 (by decide) ?_
  refine bl_iald (k := 3) X V h5 (by decide) (by decide) dX10_waysOf_50 ?_
  refine lv_isub X.1 X.2.1 dX10_waysOf_51 ?_
  refine lv_i2l X.1 X.2.1 dX10_waysOf_52 rfl ?_
  refine lv_iload_n X.1 X.2.1 dX10_waysOf_53 rfl (lv_at hl 3 rfl) ?_
  refine lv_iload_n X.1 X.2.1 dX10_waysOf_54 rfl (lv_at hl 2 rfl) ?_
  refine lv_isub X.1 X.2.1 dX10_waysOf_55 ?_
  obtain ⟨r6, σ7, h8, hf⟩ := bl_bd_at hf
  refine bl_cSl (As := [.long (Int32.toInt64 (12 - (bl_I σ3 (bl_R σ3 v0 1) 3))), .int (v2 - v1)]) X V hl.1 ml_X10_247 mS_X10_power (t_X10_power l g σ3 (Int32.toInt64 (12 - (bl_I σ3 (bl_R σ3 v0 1) 3))) (v2 - v1) _  h8) rfl rfl ⟨Nat.le_of_ble_eq_true rfl, Nat.le_of_ble_eq_true rfl⟩ rfl rfl (Nat.le_of_ble_eq_true rfl) ⟨Nat.zero_le _, Nat.zero_le _⟩ dX10_waysOf_56 (fun H locs V => ?_)
  refine lv_lmul X.1 X.2.1 dX10_waysOf_59 ?_
  exact bl_retl X V hr hf dX10_waysOf_60
set_option maxHeartbeats 4000000 in
set_option maxRecDepth 100000 in
theorem w_X10_waysOf_23 {p : Program} {l : Launch} {e : Env} {s : State} {m : MethodId} {below : List Frame} {meth : Method} {c : Code} {g : bl_Gp} {as : List Value} {out : Int64 × bl_St} (X : bl_Cx g p s m as.toArray meth c cX10_waysOf 5 RX10) (hr : meth.sig.returnType = (Option.some Jvm.ClassFile.FieldType.long)) : ∀ (σ : bl_St) (v0 : Nat) (v1 : Int32) (v2 : Int32), bl_sh[v0]? = some (10, 28) → (b_X10_waysOf_23 ) σ v0 v1 v2 = some out → ∀ (H : Heap) (locs : List Loc) (ls : Array Slot), bl_V g s σ H locs → lv_has ls 5 [(0, .ref (bl_ad g v0)), (1, .int v1), (2, .int v2)] → W p l e (bl_rm 1 25) s m as.toArray below meth c H locs 0 0 (bl_Ql below g s as out) (F0 m 23 ls []) := by
  intro σ v0 v1 v2 hv0 hf H locs ls V hl
  unfold b_X10_waysOf_23 at hf
  refine lv_lconst (v := 1) X.1 X.2.1 dX10_waysOf_23 (by decide) ?_
  refine lv_goto (tgt := 29) X.1 X.2.1 dX10_waysOf_24 (by decide) ?_
  exact w_X10_waysOf_29 X hr  σ v0 v1 v2 1 hv0 hf _ _ _ V (lv_sub hl [0, 1, 2] rfl)
set_option maxHeartbeats 4000000 in
set_option maxRecDepth 100000 in
theorem t_X10_waysOf (l : Launch) (g : bl_Gp) (σ : bl_St) (a0 : Nat) (a1 : Int32) (o : Int64 × bl_St) (ha0 : bl_sh[a0]? = some (10, 28)) (hf : f_X10_waysOf σ a0 a1 = some o) : bl_Cl l g yX10_waysOf cX10_waysOf 5 (Option.some Jvm.ClassFile.FieldType.long) (bl_rm 1 25) [.ref (bl_ad g a0), .int a1] σ o := by
  refine bl_met (by decide) (Nat.le_of_ble_eq_true rfl) (fun p e s m below meth c ls X hr V hl => ?_)
  have hl : lv_has ls 5 [(0, .ref (bl_ad g a0)), (1, .int a1)] := hl
  unfold f_X10_waysOf at hf
  refine lv_aload_n X.1 X.2.1 dX10_waysOf_0 rfl (lv_at hl 0 rfl) ?_
  refine bl_getr X V ha0 fl_X10_13 rfl dX10_waysOf_1 (fun h9 => ?_)
  refine lv_iconst (v := 2) X.1 X.2.1 dX10_waysOf_4 (by decide) ?_
  refine bl_iald (k := 2) X V h9 (by decide) (by decide) dX10_waysOf_5 ?_
  refine lv_topi (fun x10 e11 => ?_)
  have hf := bl_let_at e11 hf
  refine lv_istore_n (lv' := [(2, .int x10), (0, .ref (bl_ad g a0)), (1, .int a1)]) X.1 X.2.1 dX10_waysOf_6 rfl hl (by decide) rfl (fun ls hl => ?_)
  refine lv_iload_n X.1 X.2.1 dX10_waysOf_7 rfl (lv_at hl 2 rfl) ?_
  refine lv_iload_n X.1 X.2.1 dX10_waysOf_8 rfl (lv_at hl 0 rfl) ?_
  refine lv_icmp_le (tgt := 14) X.1 X.2.1 dX10_waysOf_9 (by decide) (fun c12 => ?_) (fun c12 => ?_)
  · have hf := bl_ifp c12 hf
    refine lv_iload_n X.1 X.2.1 dX10_waysOf_14 rfl (lv_at hl 2 rfl) ?_
    refine lv_if_eq (tgt := 23) X.1 X.2.1 dX10_waysOf_15 (by decide) (fun c13 => ?_) (fun c13 => ?_)
    · have hf := bl_ifp c13 hf
      exact w_X10_waysOf_23 X hr  σ a0 a1 x10 ha0 hf _ _ _ V (lv_sub hl [1, 2, 0] rfl)
    · have hf := bl_ifn c13 hf
      refine lv_iload_n X.1 X.2.1 dX10_waysOf_18 rfl (lv_at hl 2 rfl) ?_
      refine lv_iload_n X.1 X.2.1 dX10_waysOf_19 rfl (lv_at hl 0 rfl) ?_
      refine lv_icmp_ne (tgt := 27) X.1 X.2.1 dX10_waysOf_20 (by decide) (fun c14 => ?_) (fun c14 => ?_)
      · have hf := bl_ifn c14 hf
        refine lv_iload_n X.1 X.2.1 dX10_waysOf_27 rfl (lv_at hl 0 rfl) ?_
        refine lv_i2l X.1 X.2.1 dX10_waysOf_28 rfl ?_
        exact w_X10_waysOf_29 X hr  σ a0 a1 x10 (Int32.toInt64 x10) ha0 hf _ _ _ V (lv_sub hl [1, 2, 0] rfl)
      · have hf := bl_ifp c14 hf
        exact w_X10_waysOf_23 X hr  σ a0 a1 x10 ha0 hf _ _ _ V (lv_sub hl [1, 2, 0] rfl)
  · have hf := bl_ifn c12 hf
    refine lv_lconst (v := 0) X.1 X.2.1 dX10_waysOf_12 (by decide) ?_
    exact bl_retl X V hr hf dX10_waysOf_13
set_option maxHeartbeats 4000000 in
set_option maxRecDepth 100000 in
theorem t_X10_ways (l : Launch) (g : bl_Gp) (σ : bl_St) (a0 : Nat) (a1 : Int32) (o : Int32 × bl_St) (ha0 : bl_sh[a0]? = some (10, 28)) (hf : f_X10_ways σ a0 a1 = some o) : bl_Ci l g yX10_ways cX10_ways 2 (Option.some Jvm.ClassFile.FieldType.int) (bl_rm 2 49) [.ref (bl_ad g a0), .int a1] σ o := by
  refine bl_met (by decide) (Nat.le_of_ble_eq_true rfl) (fun p e s m below meth c ls X hr V hl => ?_)
  have hl : lv_has ls 2 [(0, .ref (bl_ad g a0)), (1, .int a1)] := hl
  unfold f_X10_ways at hf
  refine lv_aload_n X.1 X.2.1 dX10_ways_0 rfl (lv_at hl 0 rfl) ?_
  refine bl_getr X V ha0 fl_X10_13 rfl dX10_ways_1 (fun h1 => ?_)
  refine lv_iconst (v := 0) X.1 X.2.1 dX10_ways_4 (by decide) ?_
  refine bl_iald (k := 0) X V h1 (by decide) (by decide) dX10_ways_5 ?_
  refine lv_if_le (tgt := 30) X.1 X.2.1 dX10_ways_6 (by decide) (fun c2 => ?_) (fun c2 => ?_)
  · have hf := bl_ifp c2 hf
    refine lv_iconst (v := (-1)) X.1 X.2.1 dX10_ways_30 (by decide) ?_
    exact bl_reti X V hr hf dX10_ways_31
  · have hf := bl_ifn c2 hf
    refine lv_iload_n X.1 X.2.1 dX10_ways_9 rfl (lv_at hl 1 rfl) ?_
    refine lv_i2l X.1 X.2.1 dX10_ways_10 rfl ?_
    refine lv_lconst (v := 0) X.1 X.2.1 dX10_ways_11 (by decide) ?_
    refine lv_ldc2 (v := 3) X.1 X.2.1 X.2.2.2.1 (X.2.2.2.2.1 _ kl_X10_100) dX10_ways_12 ?_
    obtain ⟨r3, σ4, h5, hf⟩ := bl_bd_at hf
    refine bl_cSi (As := [.long (Int32.toInt64 a1), .long 0, .long 3]) X V hl.1 ml_X10_66 mS_X10_in (t_X10_in l g σ (Int32.toInt64 a1) 0 3 _  h5) rfl rfl ⟨Nat.le_of_ble_eq_true rfl, Nat.le_of_ble_eq_true rfl⟩ rfl rfl (Nat.le_of_ble_eq_true rfl) ⟨Nat.zero_le _, Nat.zero_le _⟩ dX10_ways_15 (fun H locs V => ?_)
    refine lv_if_eq (tgt := 30) X.1 X.2.1 dX10_ways_18 (by decide) (fun c6 => ?_) (fun c6 => ?_)
    · have hf := bl_ifp c6 hf
      refine lv_iconst (v := (-1)) X.1 X.2.1 dX10_ways_30 (by decide) ?_
      exact bl_reti X V hr hf dX10_ways_31
    · have hf := bl_ifn c6 hf
      refine lv_aload_n X.1 X.2.1 dX10_ways_21 rfl (lv_at hl 0 rfl) ?_
      refine lv_iload_n X.1 X.2.1 dX10_ways_22 rfl (lv_at hl 1 rfl) ?_
      obtain ⟨r7, σ8, h9, hf⟩ := bl_bd_at hf
      refine bl_cVl (As := [.int a1]) X V hl.1 ha0 rfl ml_X10_251 mV_X10_waysOf (t_X10_waysOf l g σ4 a0 a1 _ ha0 h9) rfl rfl ⟨Nat.le_of_ble_eq_true rfl, Nat.le_of_ble_eq_true rfl⟩ rfl rfl (Nat.le_of_ble_eq_true rfl) ⟨Nat.zero_le _, Nat.zero_le _⟩ dX10_ways_23 (fun H locs V => ?_)
      refine lv_l2i X.1 X.2.1 dX10_ways_26 rfl ?_
      refine lv_goto (tgt := 31) X.1 X.2.1 dX10_ways_27 (by decide) ?_
      exact bl_reti X V hr hf dX10_ways_31
set_option maxHeartbeats 4000000 in
set_option maxRecDepth 100000 in
theorem w_X10_movesOf_31 {p : Program} {l : Launch} {e : Env} {s : State} {m : MethodId} {below : List Frame} {meth : Method} {c : Code} {g : bl_Gp} {as : List Value} {out : Int64 × bl_St} (X : bl_Cx g p s m as.toArray meth c cX10_movesOf 6 RX10) (hr : meth.sig.returnType = (Option.some Jvm.ClassFile.FieldType.long)) (k5 : bl_St → Nat → Int32 → Int32 → Int64 → Int32 → Option (Int64 × bl_St)) (hk5 : ∀ (σ : bl_St) (v0 : Nat) (v1 : Int32) (v2 : Int32) (v3 : Int64) (v5 : Int32), bl_sh[v0]? = some (10, 28) → k5 σ v0 v1 v2 v3 v5 = some out → ∀ (H : Heap) (locs : List Loc) (ls : Array Slot), bl_V g s σ H locs → lv_has ls 6 [(0, .ref (bl_ad g v0)), (1, .int v1), (2, .int v2), (3, .long v3), (5, .int v5)] → W p l e (bl_rm 2 49) s m as.toArray below meth c H locs 0 0 (bl_Ql below g s as out) (F0 m 5 ls [])) : ∀ (σ : bl_St) (v0 : Nat) (v1 : Int32) (v2 : Int32) (v3 : Int64) (v5 : Int32), bl_sh[v0]? = some (10, 28) → (b_X10_movesOf_31 k5) σ v0 v1 v2 v3 v5 = some out → ∀ (H : Heap) (locs : List Loc) (ls : Array Slot), bl_V g s σ H locs → lv_has ls 6 [(0, .ref (bl_ad g v0)), (1, .int v1), (2, .int v2), (3, .long v3), (5, .int v5)] → W p l e (bl_rm 2 49) s m as.toArray below meth c H locs 0 0 (bl_Ql below g s as out) (F0 m 31 ls []) := by
  intro σ v0 v1 v2 v3 v5 hv0 hf H locs ls V hl
  unfold b_X10_movesOf_31 at hf
  obtain ⟨x1, e2⟩ : ∃ z : Int32, z = v5 + 1 := ⟨_, rfl⟩
  have hf := bl_let_at e2 hf
  refine lv_iinc (v := x1) (lv' := [(5, .int x1), (0, .ref (bl_ad g v0)), (1, .int v1), (2, .int v2), (3, .long v3)]) X.1 X.2.1 dX10_movesOf_31 hl (k := 4) rfl (by rw [e2]; rfl) (by decide) rfl (fun ls hl => ?_)
  refine lv_goto (tgt := 5) X.1 X.2.1 dX10_movesOf_34 (by decide) ?_
  exact hk5 σ v0 v1 v2 v3 x1 hv0 hf _ _ _ V (lv_sub hl [1, 2, 3, 4, 0] rfl)
set_option maxHeartbeats 4000000 in
set_option maxRecDepth 100000 in
theorem w_X10_movesOf_5 {p : Program} {l : Launch} {e : Env} {s : State} {m : MethodId} {below : List Frame} {meth : Method} {c : Code} {g : bl_Gp} {as : List Value} {out : Int64 × bl_St} (X : bl_Cx g p s m as.toArray meth c cX10_movesOf 6 RX10) (hr : meth.sig.returnType = (Option.some Jvm.ClassFile.FieldType.long)) (k5 : bl_St → Nat → Int32 → Int32 → Int64 → Int32 → Option (Int64 × bl_St)) (hk5 : ∀ (σ : bl_St) (v0 : Nat) (v1 : Int32) (v2 : Int32) (v3 : Int64) (v5 : Int32), bl_sh[v0]? = some (10, 28) → k5 σ v0 v1 v2 v3 v5 = some out → ∀ (H : Heap) (locs : List Loc) (ls : Array Slot), bl_V g s σ H locs → lv_has ls 6 [(0, .ref (bl_ad g v0)), (1, .int v1), (2, .int v2), (3, .long v3), (5, .int v5)] → W p l e (bl_rm 2 49) s m as.toArray below meth c H locs 0 0 (bl_Ql below g s as out) (F0 m 5 ls [])) : ∀ (σ : bl_St) (v0 : Nat) (v1 : Int32) (v2 : Int32) (v3 : Int64) (v5 : Int32), bl_sh[v0]? = some (10, 28) → (b_X10_movesOf_5 k5) σ v0 v1 v2 v3 v5 = some out → ∀ (H : Heap) (locs : List Loc) (ls : Array Slot), bl_V g s σ H locs → lv_has ls 6 [(0, .ref (bl_ad g v0)), (1, .int v1), (2, .int v2), (3, .long v3), (5, .int v5)] → W p l e (bl_rm 2 49) s m as.toArray below meth c H locs 0 0 (bl_Ql below g s as out) (F0 m 5 ls []) := by
  intro σ v0 v1 v2 v3 v5 hv0 hf H locs ls V hl
  unfold b_X10_movesOf_5 at hf
  refine lv_iload X.1 X.2.1 dX10_movesOf_5 (lv_at hl 4 rfl) ?_
  refine lv_iconst (v := 4) X.1 X.2.1 dX10_movesOf_7 (by decide) ?_
  refine lv_icmp_ge (tgt := 37) X.1 X.2.1 dX10_movesOf_8 (by decide) (fun c3 => ?_) (fun c3 => ?_)
  · have hf := bl_ifp c3 hf
    refine lv_lload_n X.1 X.2.1 dX10_movesOf_37 rfl (lv_at hl 3 rfl) ?_
    exact bl_retl X V hr hf dX10_movesOf_38
  · have hf := bl_ifn c3 hf
    refine lv_aload_n X.1 X.2.1 dX10_movesOf_11 rfl (lv_at hl 0 rfl) ?_
    refine lv_iload_n X.1 X.2.1 dX10_movesOf_12 rfl (lv_at hl 1 rfl) ?_
    refine lv_iload X.1 X.2.1 dX10_movesOf_13 (lv_at hl 4 rfl) ?_
    obtain ⟨r4, σ5, h6, hf⟩ := bl_bd_at hf
    refine bl_cVi (As := [.int v1, .int v5]) X V hl.1 hv0 rfl ml_X10_118 mV_X10_behind (t_X10_behind l g σ v0 v1 v5 _ hv0 h6) rfl rfl ⟨Nat.le_of_ble_eq_true rfl, Nat.le_of_ble_eq_true rfl⟩ rfl rfl (Nat.le_of_ble_eq_true rfl) ⟨Nat.zero_le _, Nat.zero_le _⟩ dX10_movesOf_15 (fun H locs V => ?_)
    refine lv_iload_n X.1 X.2.1 dX10_movesOf_18 rfl (lv_at hl 2 rfl) ?_
    refine lv_icmp_ne (tgt := 31) X.1 X.2.1 dX10_movesOf_19 (by decide) (fun c7 => ?_) (fun c7 => ?_)
    · have hf := bl_ifn c7 hf
      exact w_X10_movesOf_31 X hr k5 hk5 σ5 v0 v1 v2 v3 v5 hv0 hf _ _ _ V (lv_sub hl [0, 1, 2, 3, 4] rfl)
    · have hf := bl_ifp c7 hf
      refine lv_lload_n X.1 X.2.1 dX10_movesOf_22 rfl (lv_at hl 3 rfl) ?_
      refine lv_aload_n X.1 X.2.1 dX10_movesOf_23 rfl (lv_at hl 0 rfl) ?_
      refine lv_iload X.1 X.2.1 dX10_movesOf_24 (lv_at hl 4 rfl) ?_
      obtain ⟨r8, σ9, h10, hf⟩ := bl_bd_at hf
      refine bl_cVl (As := [.int v5]) X V hl.1 hv0 rfl ml_X10_251 mV_X10_waysOf (t_X10_waysOf l g σ5 v0 v5 _ hv0 h10) rfl rfl ⟨Nat.le_of_ble_eq_true rfl, Nat.le_of_ble_eq_true rfl⟩ rfl rfl (Nat.le_of_ble_eq_true rfl) ⟨Nat.zero_le _, Nat.zero_le _⟩ dX10_movesOf_26 (fun H locs V => ?_)
      refine lv_ladd X.1 X.2.1 dX10_movesOf_29 ?_
      refine lv_topl (fun x11 e12 => ?_)
      have hf := bl_let_at e12 hf
      refine lv_lstore_n (lv' := [(3, .long x11), (0, .ref (bl_ad g v0)), (1, .int v1), (2, .int v2), (5, .int v5)]) X.1 X.2.1 dX10_movesOf_30 rfl hl (by decide) rfl (fun ls hl => ?_)
      exact w_X10_movesOf_31 X hr k5 hk5 σ9 v0 v1 v2 x11 v5 hv0 hf _ _ _ V (lv_sub hl [1, 2, 3, 0, 4] rfl)
theorem l_X10_movesOf_5 {p : Program} {l : Launch} {e : Env} {s : State} {m : MethodId} {below : List Frame} {meth : Method} {c : Code} {g : bl_Gp} {as : List Value} {out : Int64 × bl_St} (X : bl_Cx g p s m as.toArray meth c cX10_movesOf 6 RX10) (hr : meth.sig.returnType = (Option.some Jvm.ClassFile.FieldType.long)) (n : Nat) : ∀ (σ : bl_St) (v0 : Nat) (v1 : Int32) (v2 : Int32) (v3 : Int64) (v5 : Int32), bl_sh[v0]? = some (10, 28) → (bl_fx (fun _ _ _ _ _ _ => none) (b_X10_movesOf_5 ) n) σ v0 v1 v2 v3 v5 = some out → ∀ (H : Heap) (locs : List Loc) (ls : Array Slot), bl_V g s σ H locs → lv_has ls 6 [(0, .ref (bl_ad g v0)), (1, .int v1), (2, .int v2), (3, .long v3), (5, .int v5)] → W p l e (bl_rm 2 49) s m as.toArray below meth c H locs 0 0 (bl_Ql below g s as out) (F0 m 5 ls []) := by
  induction n with
  | zero =>
    intro σ v0 v1 v2 v3 v5 hv0 hf H locs ls V hl
    cases hf
  | succ n ih => exact w_X10_movesOf_5 X hr  _ ih
set_option maxHeartbeats 4000000 in
set_option maxRecDepth 100000 in
theorem t_X10_movesOf (l : Launch) (g : bl_Gp) (σ : bl_St) (a0 : Nat) (a1 : Int32) (a2 : Int32) (o : Int64 × bl_St) (ha0 : bl_sh[a0]? = some (10, 28)) (hf : f_X10_movesOf σ a0 a1 a2 = some o) : bl_Cl l g yX10_movesOf cX10_movesOf 6 (Option.some Jvm.ClassFile.FieldType.long) (bl_rm 2 49) [.ref (bl_ad g a0), .int a1, .int a2] σ o := by
  refine bl_met (by decide) (Nat.le_of_ble_eq_true rfl) (fun p e s m below meth c ls X hr V hl => ?_)
  have hl : lv_has ls 6 [(0, .ref (bl_ad g a0)), (1, .int a1), (2, .int a2)] := hl
  unfold f_X10_movesOf at hf
  refine lv_lconst (v := 0) X.1 X.2.1 dX10_movesOf_0 (by decide) ?_
  refine lv_lstore_n (lv' := [(3, .long 0), (0, .ref (bl_ad g a0)), (1, .int a1), (2, .int a2)]) X.1 X.2.1 dX10_movesOf_1 rfl hl (by decide) rfl (fun ls hl => ?_)
  refine lv_iconst (v := 0) X.1 X.2.1 dX10_movesOf_2 (by decide) ?_
  refine lv_istore (lv' := [(5, .int 0), (3, .long 0), (0, .ref (bl_ad g a0)), (1, .int a1), (2, .int a2)]) X.1 X.2.1 dX10_movesOf_3 hl (by decide) rfl (fun ls hl => ?_)
  exact l_X10_movesOf_5 X hr  bl_fu σ a0 a1 a2 0 0 ha0 hf _ _ _ V (lv_sub hl [2, 3, 4, 1, 0] rfl)
set_option maxHeartbeats 4000000 in
set_option maxRecDepth 100000 in
theorem t_X10_moves (l : Launch) (g : bl_Gp) (σ : bl_St) (a0 : Nat) (a1 : Int32) (a2 : Int32) (o : Int32 × bl_St) (ha0 : bl_sh[a0]? = some (10, 28)) (hf : f_X10_moves σ a0 a1 a2 = some o) : bl_Ci l g yX10_moves cX10_moves 3 (Option.some Jvm.ClassFile.FieldType.int) (bl_rm 3 74) [.ref (bl_ad g a0), .int a1, .int a2] σ o := by
  refine bl_met (by decide) (Nat.le_of_ble_eq_true rfl) (fun p e s m below meth c ls X hr V hl => ?_)
  have hl : lv_has ls 3 [(0, .ref (bl_ad g a0)), (1, .int a1), (2, .int a2)] := hl
  unfold f_X10_moves at hf
  refine lv_aload_n X.1 X.2.1 dX10_moves_0 rfl (lv_at hl 0 rfl) ?_
  refine lv_iload_n X.1 X.2.1 dX10_moves_1 rfl (lv_at hl 1 rfl) ?_
  obtain ⟨r1, σ2, h3, hf⟩ := bl_bd_at hf
  refine bl_cVi (As := [.int a1]) X V hl.1 ha0 rfl ml_X10_84 mV_X10_isClass (t_X10_isClass l g σ a0 a1 _ ha0 h3) rfl rfl ⟨Nat.le_of_ble_eq_true rfl, Nat.le_of_ble_eq_true rfl⟩ rfl rfl (Nat.le_of_ble_eq_true rfl) ⟨Nat.zero_le _, Nat.zero_le _⟩ dX10_moves_2 (fun H locs V => ?_)
  refine lv_if_eq (tgt := 26) X.1 X.2.1 dX10_moves_5 (by decide) (fun c4 => ?_) (fun c4 => ?_)
  · have hf := bl_ifp c4 hf
    refine lv_iconst (v := (-1)) X.1 X.2.1 dX10_moves_26 (by decide) ?_
    exact bl_reti X V hr hf dX10_moves_27
  · have hf := bl_ifn c4 hf
    refine lv_aload_n X.1 X.2.1 dX10_moves_8 rfl (lv_at hl 0 rfl) ?_
    refine lv_iload_n X.1 X.2.1 dX10_moves_9 rfl (lv_at hl 2 rfl) ?_
    obtain ⟨r5, σ6, h7, hf⟩ := bl_bd_at hf
    refine bl_cVi (As := [.int a2]) X V hl.1 ha0 rfl ml_X10_84 mV_X10_isClass (t_X10_isClass l g σ2 a0 a2 _ ha0 h7) rfl rfl ⟨Nat.le_of_ble_eq_true rfl, Nat.le_of_ble_eq_true rfl⟩ rfl rfl (Nat.le_of_ble_eq_true rfl) ⟨Nat.zero_le _, Nat.zero_le _⟩ dX10_moves_10 (fun H locs V => ?_)
    refine lv_if_eq (tgt := 26) X.1 X.2.1 dX10_moves_13 (by decide) (fun c8 => ?_) (fun c8 => ?_)
    · have hf := bl_ifp c8 hf
      refine lv_iconst (v := (-1)) X.1 X.2.1 dX10_moves_26 (by decide) ?_
      exact bl_reti X V hr hf dX10_moves_27
    · have hf := bl_ifn c8 hf
      refine lv_aload_n X.1 X.2.1 dX10_moves_16 rfl (lv_at hl 0 rfl) ?_
      refine lv_iload_n X.1 X.2.1 dX10_moves_17 rfl (lv_at hl 1 rfl) ?_
      refine lv_iload_n X.1 X.2.1 dX10_moves_18 rfl (lv_at hl 2 rfl) ?_
      obtain ⟨r9, σ10, h11, hf⟩ := bl_bd_at hf
      refine bl_cVl (As := [.int a1, .int a2]) X V hl.1 ha0 rfl ml_X10_255 mV_X10_movesOf (t_X10_movesOf l g σ6 a0 a1 a2 _ ha0 h11) rfl rfl ⟨Nat.le_of_ble_eq_true rfl, Nat.le_of_ble_eq_true rfl⟩ rfl rfl (Nat.le_of_ble_eq_true rfl) ⟨Nat.zero_le _, Nat.zero_le _⟩ dX10_moves_19 (fun H locs V => ?_)
      refine lv_l2i X.1 X.2.1 dX10_moves_22 rfl ?_
      refine lv_goto (tgt := 27) X.1 X.2.1 dX10_moves_23 (by decide) ?_
      exact bl_reti X V hr hf dX10_moves_27
set_option maxHeartbeats 4000000 in
set_option maxRecDepth 100000 in
theorem w_X10_spread_175 {p : Program} {l : Launch} {e : Env} {s : State} {m : MethodId} {below : List Frame} {meth : Method} {c : Code} {g : bl_Gp} {as : List Value} {out : Int64 × bl_St} (X : bl_Cx g p s m as.toArray meth c cX10_spread 7 RX10) (hr : meth.sig.returnType = (Option.some Jvm.ClassFile.FieldType.long)) (k76 : bl_St → Nat → Int32 → Int32 → Int32 → Option (Int64 × bl_St)) (hk76 : ∀ (σ : bl_St) (v0 : Nat) (v1 : Int32) (v3 : Int32) (v4 : Int32), bl_sh[v0]? = some (10, 28) → k76 σ v0 v1 v3 v4 = some out → ∀ (H : Heap) (locs : List Loc) (ls : Array Slot), bl_V g s σ H locs → lv_has ls 7 [(0, .ref (bl_ad g v0)), (1, .int v1), (3, .int v3), (4, .int v4)] → W p l e (bl_rm 3 74) s m as.toArray below meth c H locs 0 0 (bl_Ql below g s as out) (F0 m 76 ls [])) (k175 : bl_St → Nat → Int32 → Int32 → Int32 → Int32 → Option (Int64 × bl_St)) (hk175 : ∀ (σ : bl_St) (v0 : Nat) (v1 : Int32) (v3 : Int32) (v4 : Int32) (v5 : Int32), bl_sh[v0]? = some (10, 28) → k175 σ v0 v1 v3 v4 v5 = some out → ∀ (H : Heap) (locs : List Loc) (ls : Array Slot), bl_V g s σ H locs → lv_has ls 7 [(0, .ref (bl_ad g v0)), (1, .int v1), (3, .int v3), (4, .int v4), (5, .int v5)] → W p l e (bl_rm 3 74) s m as.toArray below meth c H locs 0 0 (bl_Ql below g s as out) (F0 m 175 ls [])) : ∀ (σ : bl_St) (v0 : Nat) (v1 : Int32) (v3 : Int32) (v4 : Int32) (v5 : Int32), bl_sh[v0]? = some (10, 28) → (b_X10_spread_175 k76 k175) σ v0 v1 v3 v4 v5 = some out → ∀ (H : Heap) (locs : List Loc) (ls : Array Slot), bl_V g s σ H locs → lv_has ls 7 [(0, .ref (bl_ad g v0)), (1, .int v1), (3, .int v3), (4, .int v4), (5, .int v5)] → W p l e (bl_rm 3 74) s m as.toArray below meth c H locs 0 0 (bl_Ql below g s as out) (F0 m 175 ls []) := by
  intro σ v0 v1 v3 v4 v5 hv0 hf H locs ls V hl
  unfold b_X10_spread_175 at hf
  refine lv_iload X.1 X.2.1 dX10_spread_175 (lv_at hl 4 rfl) ?_
  refine lv_bipush (v := 8) X.1 X.2.1 dX10_spread_177 (by decide) ?_
  refine lv_icmp_ge (tgt := 202) X.1 X.2.1 dX10_spread_179 (by decide) (fun c1 => ?_) (fun c1 => ?_)
  · have hf := bl_ifp c1 hf
    obtain ⟨x2, e3⟩ : ∃ z : Int32, z = v4 + 1 := ⟨_, rfl⟩
    have hf := bl_let_at e3 hf
    refine lv_iinc (v := x2) (lv' := [(4, .int x2), (0, .ref (bl_ad g v0)), (1, .int v1), (3, .int v3), (5, .int v5)]) X.1 X.2.1 dX10_spread_202 hl (k := 3) rfl (by rw [e3]; rfl) (by decide) rfl (fun ls hl => ?_)
    refine lv_goto (tgt := 76) X.1 X.2.1 dX10_spread_205 (by decide) ?_
    exact hk76 σ v0 v1 v3 x2 hv0 hf _ _ _ V (lv_sub hl [1, 2, 3, 0] rfl)
  · have hf := bl_ifn c1 hf
    refine lv_aload_n X.1 X.2.1 dX10_spread_182 rfl (lv_at hl 0 rfl) ?_
    refine bl_getr X V hv0 fl_X10_37 rfl dX10_spread_183 (fun h4 => ?_)
    refine lv_iload X.1 X.2.1 dX10_spread_186 (lv_at hl 4 rfl) ?_
    refine lv_aload_n X.1 X.2.1 dX10_spread_188 rfl (lv_at hl 0 rfl) ?_
    refine bl_getr X V hv0 fl_X10_40 rfl dX10_spread_189 (fun h5 => ?_)
    refine lv_iload X.1 X.2.1 dX10_spread_192 (lv_at hl 4 rfl) ?_
    obtain ⟨h6, hf⟩ := bl_gd_at hf
    refine bl_lald (k := (Int32.toNatClampNeg v5)) X V h5 h6 rfl dX10_spread_194 ?_
    obtain ⟨h7, hf⟩ := bl_gd_at hf
    refine bl_last (k := (Int32.toNatClampNeg v5)) X V h4 h7 rfl dX10_spread_195 (fun σ8 H locs e9 V => ?_)
    have hf := bl_let_at e9 hf
    obtain ⟨x10, e11⟩ : ∃ z : Int32, z = v5 + 1 := ⟨_, rfl⟩
    have hf := bl_let_at e11 hf
    refine lv_iinc (v := x10) (lv' := [(5, .int x10), (0, .ref (bl_ad g v0)), (1, .int v1), (3, .int v3), (4, .int v4)]) X.1 X.2.1 dX10_spread_196 hl (k := 4) rfl (by rw [e11]; rfl) (by decide) rfl (fun ls hl => ?_)
    refine lv_goto (tgt := 175) X.1 X.2.1 dX10_spread_199 (by decide) ?_
    exact hk175 σ8 v0 v1 v3 v4 x10 hv0 hf _ _ _ V (lv_sub hl [1, 2, 3, 4, 0] rfl)
theorem l_X10_spread_175 {p : Program} {l : Launch} {e : Env} {s : State} {m : MethodId} {below : List Frame} {meth : Method} {c : Code} {g : bl_Gp} {as : List Value} {out : Int64 × bl_St} (X : bl_Cx g p s m as.toArray meth c cX10_spread 7 RX10) (hr : meth.sig.returnType = (Option.some Jvm.ClassFile.FieldType.long)) (k76 : bl_St → Nat → Int32 → Int32 → Int32 → Option (Int64 × bl_St)) (hk76 : ∀ (σ : bl_St) (v0 : Nat) (v1 : Int32) (v3 : Int32) (v4 : Int32), bl_sh[v0]? = some (10, 28) → k76 σ v0 v1 v3 v4 = some out → ∀ (H : Heap) (locs : List Loc) (ls : Array Slot), bl_V g s σ H locs → lv_has ls 7 [(0, .ref (bl_ad g v0)), (1, .int v1), (3, .int v3), (4, .int v4)] → W p l e (bl_rm 3 74) s m as.toArray below meth c H locs 0 0 (bl_Ql below g s as out) (F0 m 76 ls [])) (n : Nat) : ∀ (σ : bl_St) (v0 : Nat) (v1 : Int32) (v3 : Int32) (v4 : Int32) (v5 : Int32), bl_sh[v0]? = some (10, 28) → (bl_fx (fun _ _ _ _ _ _ => none) (b_X10_spread_175 k76) n) σ v0 v1 v3 v4 v5 = some out → ∀ (H : Heap) (locs : List Loc) (ls : Array Slot), bl_V g s σ H locs → lv_has ls 7 [(0, .ref (bl_ad g v0)), (1, .int v1), (3, .int v3), (4, .int v4), (5, .int v5)] → W p l e (bl_rm 3 74) s m as.toArray below meth c H locs 0 0 (bl_Ql below g s as out) (F0 m 175 ls []) := by
  induction n with
  | zero =>
    intro σ v0 v1 v3 v4 v5 hv0 hf H locs ls V hl
    cases hf
  | succ n ih => exact w_X10_spread_175 X hr k76 hk76 _ ih
set_option maxHeartbeats 4000000 in
set_option maxRecDepth 100000 in
theorem w_X10_spread_123 {p : Program} {l : Launch} {e : Env} {s : State} {m : MethodId} {below : List Frame} {meth : Method} {c : Code} {g : bl_Gp} {as : List Value} {out : Int64 × bl_St} (X : bl_Cx g p s m as.toArray meth c cX10_spread 7 RX10) (hr : meth.sig.returnType = (Option.some Jvm.ClassFile.FieldType.long)) (k109 : bl_St → Nat → Int32 → Int32 → Int32 → Int32 → Option (Int64 × bl_St)) (hk109 : ∀ (σ : bl_St) (v0 : Nat) (v1 : Int32) (v3 : Int32) (v4 : Int32) (v5 : Int32), bl_sh[v0]? = some (10, 28) → k109 σ v0 v1 v3 v4 v5 = some out → ∀ (H : Heap) (locs : List Loc) (ls : Array Slot), bl_V g s σ H locs → lv_has ls 7 [(0, .ref (bl_ad g v0)), (1, .int v1), (3, .int v3), (4, .int v4), (5, .int v5)] → W p l e (bl_rm 3 74) s m as.toArray below meth c H locs 0 0 (bl_Ql below g s as out) (F0 m 109 ls [])) (k123 : bl_St → Nat → Int32 → Int32 → Int32 → Int32 → Int32 → Option (Int64 × bl_St)) (hk123 : ∀ (σ : bl_St) (v0 : Nat) (v1 : Int32) (v3 : Int32) (v4 : Int32) (v5 : Int32) (v6 : Int32), bl_sh[v0]? = some (10, 28) → k123 σ v0 v1 v3 v4 v5 v6 = some out → ∀ (H : Heap) (locs : List Loc) (ls : Array Slot), bl_V g s σ H locs → lv_has ls 7 [(0, .ref (bl_ad g v0)), (1, .int v1), (3, .int v3), (4, .int v4), (5, .int v5), (6, .int v6)] → W p l e (bl_rm 3 74) s m as.toArray below meth c H locs 0 0 (bl_Ql below g s as out) (F0 m 123 ls [])) : ∀ (σ : bl_St) (v0 : Nat) (v1 : Int32) (v3 : Int32) (v4 : Int32) (v5 : Int32) (v6 : Int32), bl_sh[v0]? = some (10, 28) → (b_X10_spread_123 k109 k123) σ v0 v1 v3 v4 v5 v6 = some out → ∀ (H : Heap) (locs : List Loc) (ls : Array Slot), bl_V g s σ H locs → lv_has ls 7 [(0, .ref (bl_ad g v0)), (1, .int v1), (3, .int v3), (4, .int v4), (5, .int v5), (6, .int v6)] → W p l e (bl_rm 3 74) s m as.toArray below meth c H locs 0 0 (bl_Ql below g s as out) (F0 m 123 ls []) := by
  intro σ v0 v1 v3 v4 v5 v6 hv0 hf H locs ls V hl
  unfold b_X10_spread_123 at hf
  refine lv_iload X.1 X.2.1 dX10_spread_123 (lv_at hl 5 rfl) ?_
  refine lv_aload_n X.1 X.2.1 dX10_spread_125 rfl (lv_at hl 0 rfl) ?_
  refine bl_getr X V hv0 fl_X10_13 rfl dX10_spread_126 (fun h12 => ?_)
  refine lv_iconst (v := 0) X.1 X.2.1 dX10_spread_129 (by decide) ?_
  refine bl_iald (k := 0) X V h12 (by decide) (by decide) dX10_spread_130 ?_
  refine lv_icmp_ge (tgt := 166) X.1 X.2.1 dX10_spread_131 (by decide) (fun c13 => ?_) (fun c13 => ?_)
  · have hf := bl_ifp c13 hf
    obtain ⟨x14, e15⟩ : ∃ z : Int32, z = v5 + 1 := ⟨_, rfl⟩
    have hf := bl_let_at e15 hf
    refine lv_iinc (v := x14) (lv' := [(5, .int x14), (0, .ref (bl_ad g v0)), (1, .int v1), (3, .int v3), (4, .int v4), (6, .int v6)]) X.1 X.2.1 dX10_spread_166 hl (k := 4) rfl (by rw [e15]; rfl) (by decide) rfl (fun ls hl => ?_)
    refine lv_goto (tgt := 109) X.1 X.2.1 dX10_spread_169 (by decide) ?_
    exact hk109 σ v0 v1 v3 v4 x14 hv0 hf _ _ _ V (lv_sub hl [1, 2, 3, 4, 0] rfl)
  · have hf := bl_ifn c13 hf
    refine lv_aload_n X.1 X.2.1 dX10_spread_134 rfl (lv_at hl 0 rfl) ?_
    refine bl_getr X V hv0 fl_X10_40 rfl dX10_spread_135 (fun h16 => ?_)
    refine lv_iload X.1 X.2.1 dX10_spread_138 (lv_at hl 5 rfl) ?_
    refine lv_dup2_11 X.1 X.2.1 dX10_spread_140 rfl rfl ?_
    obtain ⟨h17, hf⟩ := bl_gd_at hf
    refine bl_lald (k := (Int32.toNatClampNeg v6)) X V h16 h17 rfl dX10_spread_141 ?_
    refine lv_aload_n X.1 X.2.1 dX10_spread_142 rfl (lv_at hl 0 rfl) ?_
    refine bl_getr X V hv0 fl_X10_37 rfl dX10_spread_143 (fun h18 => ?_)
    refine lv_iload X.1 X.2.1 dX10_spread_146 (lv_at hl 4 rfl) ?_
    obtain ⟨h19, hf⟩ := bl_gd_at hf
    refine bl_lald (k := (Int32.toNatClampNeg v5)) X V h18 h19 rfl dX10_spread_148 ?_
    refine lv_aload_n X.1 X.2.1 dX10_spread_149 rfl (lv_at hl 0 rfl) ?_
    refine lv_iload X.1 X.2.1 dX10_spread_150 (lv_at hl 4 rfl) ?_
    refine lv_iload X.1 X.2.1 dX10_spread_152 (lv_at hl 5 rfl) ?_
    obtain ⟨r20, σ21, h22, hf⟩ := bl_bd_at hf
    refine bl_cVl (As := [.int v5, .int v6]) X V hl.1 hv0 rfl ml_X10_255 mV_X10_movesOf (t_X10_movesOf l g σ v0 v5 v6 _ hv0 h22) rfl rfl ⟨Nat.le_of_ble_eq_true rfl, Nat.le_of_ble_eq_true rfl⟩ rfl rfl (Nat.le_of_ble_eq_true rfl) ⟨Nat.zero_le _, Nat.zero_le _⟩ dX10_spread_154 (fun H locs V => ?_)
    refine lv_lmul X.1 X.2.1 dX10_spread_157 ?_
    refine lv_ladd X.1 X.2.1 dX10_spread_158 ?_
    obtain ⟨h23, hf⟩ := bl_gd_at hf
    refine bl_last (k := (Int32.toNatClampNeg v6)) X V h16 h23 rfl dX10_spread_159 (fun σ24 H locs e25 V => ?_)
    have hf := bl_let_at e25 hf
    obtain ⟨x26, e27⟩ : ∃ z : Int32, z = v6 + 1 := ⟨_, rfl⟩
    have hf := bl_let_at e27 hf
    refine lv_iinc (v := x26) (lv' := [(6, .int x26), (0, .ref (bl_ad g v0)), (1, .int v1), (3, .int v3), (4, .int v4), (5, .int v5)]) X.1 X.2.1 dX10_spread_160 hl (k := 5) rfl (by rw [e27]; rfl) (by decide) rfl (fun ls hl => ?_)
    refine lv_goto (tgt := 123) X.1 X.2.1 dX10_spread_163 (by decide) ?_
    exact hk123 σ24 v0 v1 v3 v4 v5 x26 hv0 hf _ _ _ V (lv_sub hl [1, 2, 3, 4, 5, 0] rfl)
theorem l_X10_spread_123 {p : Program} {l : Launch} {e : Env} {s : State} {m : MethodId} {below : List Frame} {meth : Method} {c : Code} {g : bl_Gp} {as : List Value} {out : Int64 × bl_St} (X : bl_Cx g p s m as.toArray meth c cX10_spread 7 RX10) (hr : meth.sig.returnType = (Option.some Jvm.ClassFile.FieldType.long)) (k109 : bl_St → Nat → Int32 → Int32 → Int32 → Int32 → Option (Int64 × bl_St)) (hk109 : ∀ (σ : bl_St) (v0 : Nat) (v1 : Int32) (v3 : Int32) (v4 : Int32) (v5 : Int32), bl_sh[v0]? = some (10, 28) → k109 σ v0 v1 v3 v4 v5 = some out → ∀ (H : Heap) (locs : List Loc) (ls : Array Slot), bl_V g s σ H locs → lv_has ls 7 [(0, .ref (bl_ad g v0)), (1, .int v1), (3, .int v3), (4, .int v4), (5, .int v5)] → W p l e (bl_rm 3 74) s m as.toArray below meth c H locs 0 0 (bl_Ql below g s as out) (F0 m 109 ls [])) (n : Nat) : ∀ (σ : bl_St) (v0 : Nat) (v1 : Int32) (v3 : Int32) (v4 : Int32) (v5 : Int32) (v6 : Int32), bl_sh[v0]? = some (10, 28) → (bl_fx (fun _ _ _ _ _ _ _ => none) (b_X10_spread_123 k109) n) σ v0 v1 v3 v4 v5 v6 = some out → ∀ (H : Heap) (locs : List Loc) (ls : Array Slot), bl_V g s σ H locs → lv_has ls 7 [(0, .ref (bl_ad g v0)), (1, .int v1), (3, .int v3), (4, .int v4), (5, .int v5), (6, .int v6)] → W p l e (bl_rm 3 74) s m as.toArray below meth c H locs 0 0 (bl_Ql below g s as out) (F0 m 123 ls []) := by
  induction n with
  | zero =>
    intro σ v0 v1 v3 v4 v5 v6 hv0 hf H locs ls V hl
    cases hf
  | succ n ih => exact w_X10_spread_123 X hr k109 hk109 _ ih
set_option maxHeartbeats 4000000 in
set_option maxRecDepth 100000 in
theorem w_X10_spread_109 {p : Program} {l : Launch} {e : Env} {s : State} {m : MethodId} {below : List Frame} {meth : Method} {c : Code} {g : bl_Gp} {as : List Value} {out : Int64 × bl_St} (X : bl_Cx g p s m as.toArray meth c cX10_spread 7 RX10) (hr : meth.sig.returnType = (Option.some Jvm.ClassFile.FieldType.long)) (k76 : bl_St → Nat → Int32 → Int32 → Int32 → Option (Int64 × bl_St)) (hk76 : ∀ (σ : bl_St) (v0 : Nat) (v1 : Int32) (v3 : Int32) (v4 : Int32), bl_sh[v0]? = some (10, 28) → k76 σ v0 v1 v3 v4 = some out → ∀ (H : Heap) (locs : List Loc) (ls : Array Slot), bl_V g s σ H locs → lv_has ls 7 [(0, .ref (bl_ad g v0)), (1, .int v1), (3, .int v3), (4, .int v4)] → W p l e (bl_rm 3 74) s m as.toArray below meth c H locs 0 0 (bl_Ql below g s as out) (F0 m 76 ls [])) (k109 : bl_St → Nat → Int32 → Int32 → Int32 → Int32 → Option (Int64 × bl_St)) (hk109 : ∀ (σ : bl_St) (v0 : Nat) (v1 : Int32) (v3 : Int32) (v4 : Int32) (v5 : Int32), bl_sh[v0]? = some (10, 28) → k109 σ v0 v1 v3 v4 v5 = some out → ∀ (H : Heap) (locs : List Loc) (ls : Array Slot), bl_V g s σ H locs → lv_has ls 7 [(0, .ref (bl_ad g v0)), (1, .int v1), (3, .int v3), (4, .int v4), (5, .int v5)] → W p l e (bl_rm 3 74) s m as.toArray below meth c H locs 0 0 (bl_Ql below g s as out) (F0 m 109 ls [])) : ∀ (σ : bl_St) (v0 : Nat) (v1 : Int32) (v3 : Int32) (v4 : Int32) (v5 : Int32), bl_sh[v0]? = some (10, 28) → (b_X10_spread_109 k76 k109) σ v0 v1 v3 v4 v5 = some out → ∀ (H : Heap) (locs : List Loc) (ls : Array Slot), bl_V g s σ H locs → lv_has ls 7 [(0, .ref (bl_ad g v0)), (1, .int v1), (3, .int v3), (4, .int v4), (5, .int v5)] → W p l e (bl_rm 3 74) s m as.toArray below meth c H locs 0 0 (bl_Ql below g s as out) (F0 m 109 ls []) := by
  intro σ v0 v1 v3 v4 v5 hv0 hf H locs ls V hl
  unfold b_X10_spread_109 at hf
  refine lv_iload X.1 X.2.1 dX10_spread_109 (lv_at hl 4 rfl) ?_
  refine lv_aload_n X.1 X.2.1 dX10_spread_111 rfl (lv_at hl 0 rfl) ?_
  refine bl_getr X V hv0 fl_X10_13 rfl dX10_spread_112 (fun h28 => ?_)
  refine lv_iconst (v := 0) X.1 X.2.1 dX10_spread_115 (by decide) ?_
  refine bl_iald (k := 0) X V h28 (by decide) (by decide) dX10_spread_116 ?_
  refine lv_icmp_ge (tgt := 172) X.1 X.2.1 dX10_spread_117 (by decide) (fun c29 => ?_) (fun c29 => ?_)
  · have hf := bl_ifp c29 hf
    refine lv_iconst (v := 0) X.1 X.2.1 dX10_spread_172 (by decide) ?_
    refine lv_istore (lv' := [(5, .int 0), (0, .ref (bl_ad g v0)), (1, .int v1), (3, .int v3), (4, .int v4)]) X.1 X.2.1 dX10_spread_173 hl (by decide) rfl (fun ls hl => ?_)
    exact l_X10_spread_175 X hr k76 hk76 bl_fu σ v0 v1 v3 v4 0 hv0 hf _ _ _ V (lv_sub hl [1, 2, 3, 4, 0] rfl)
  · have hf := bl_ifn c29 hf
    refine lv_iconst (v := 0) X.1 X.2.1 dX10_spread_120 (by decide) ?_
    refine lv_istore (lv' := [(6, .int 0), (0, .ref (bl_ad g v0)), (1, .int v1), (3, .int v3), (4, .int v4), (5, .int v5)]) X.1 X.2.1 dX10_spread_121 hl (by decide) rfl (fun ls hl => ?_)
    exact l_X10_spread_123 X hr k109 hk109 bl_fu σ v0 v1 v3 v4 v5 0 hv0 hf _ _ _ V (lv_sub hl [1, 2, 3, 4, 5, 0] rfl)
theorem l_X10_spread_109 {p : Program} {l : Launch} {e : Env} {s : State} {m : MethodId} {below : List Frame} {meth : Method} {c : Code} {g : bl_Gp} {as : List Value} {out : Int64 × bl_St} (X : bl_Cx g p s m as.toArray meth c cX10_spread 7 RX10) (hr : meth.sig.returnType = (Option.some Jvm.ClassFile.FieldType.long)) (k76 : bl_St → Nat → Int32 → Int32 → Int32 → Option (Int64 × bl_St)) (hk76 : ∀ (σ : bl_St) (v0 : Nat) (v1 : Int32) (v3 : Int32) (v4 : Int32), bl_sh[v0]? = some (10, 28) → k76 σ v0 v1 v3 v4 = some out → ∀ (H : Heap) (locs : List Loc) (ls : Array Slot), bl_V g s σ H locs → lv_has ls 7 [(0, .ref (bl_ad g v0)), (1, .int v1), (3, .int v3), (4, .int v4)] → W p l e (bl_rm 3 74) s m as.toArray below meth c H locs 0 0 (bl_Ql below g s as out) (F0 m 76 ls [])) (n : Nat) : ∀ (σ : bl_St) (v0 : Nat) (v1 : Int32) (v3 : Int32) (v4 : Int32) (v5 : Int32), bl_sh[v0]? = some (10, 28) → (bl_fx (fun _ _ _ _ _ _ => none) (b_X10_spread_109 k76) n) σ v0 v1 v3 v4 v5 = some out → ∀ (H : Heap) (locs : List Loc) (ls : Array Slot), bl_V g s σ H locs → lv_has ls 7 [(0, .ref (bl_ad g v0)), (1, .int v1), (3, .int v3), (4, .int v4), (5, .int v5)] → W p l e (bl_rm 3 74) s m as.toArray below meth c H locs 0 0 (bl_Ql below g s as out) (F0 m 109 ls []) := by
  induction n with
  | zero =>
    intro σ v0 v1 v3 v4 v5 hv0 hf H locs ls V hl
    cases hf
  | succ n ih => exact w_X10_spread_109 X hr k76 hk76 _ ih
set_option maxHeartbeats 4000000 in
set_option maxRecDepth 100000 in
theorem w_X10_spread_85 {p : Program} {l : Launch} {e : Env} {s : State} {m : MethodId} {below : List Frame} {meth : Method} {c : Code} {g : bl_Gp} {as : List Value} {out : Int64 × bl_St} (X : bl_Cx g p s m as.toArray meth c cX10_spread 7 RX10) (hr : meth.sig.returnType = (Option.some Jvm.ClassFile.FieldType.long)) (k76 : bl_St → Nat → Int32 → Int32 → Int32 → Option (Int64 × bl_St)) (hk76 : ∀ (σ : bl_St) (v0 : Nat) (v1 : Int32) (v3 : Int32) (v4 : Int32), bl_sh[v0]? = some (10, 28) → k76 σ v0 v1 v3 v4 = some out → ∀ (H : Heap) (locs : List Loc) (ls : Array Slot), bl_V g s σ H locs → lv_has ls 7 [(0, .ref (bl_ad g v0)), (1, .int v1), (3, .int v3), (4, .int v4)] → W p l e (bl_rm 3 74) s m as.toArray below meth c H locs 0 0 (bl_Ql below g s as out) (F0 m 76 ls [])) (k85 : bl_St → Nat → Int32 → Int32 → Int32 → Int32 → Option (Int64 × bl_St)) (hk85 : ∀ (σ : bl_St) (v0 : Nat) (v1 : Int32) (v3 : Int32) (v4 : Int32) (v5 : Int32), bl_sh[v0]? = some (10, 28) → k85 σ v0 v1 v3 v4 v5 = some out → ∀ (H : Heap) (locs : List Loc) (ls : Array Slot), bl_V g s σ H locs → lv_has ls 7 [(0, .ref (bl_ad g v0)), (1, .int v1), (3, .int v3), (4, .int v4), (5, .int v5)] → W p l e (bl_rm 3 74) s m as.toArray below meth c H locs 0 0 (bl_Ql below g s as out) (F0 m 85 ls [])) : ∀ (σ : bl_St) (v0 : Nat) (v1 : Int32) (v3 : Int32) (v4 : Int32) (v5 : Int32), bl_sh[v0]? = some (10, 28) → (b_X10_spread_85 k76 k85) σ v0 v1 v3 v4 v5 = some out → ∀ (H : Heap) (locs : List Loc) (ls : Array Slot), bl_V g s σ H locs → lv_has ls 7 [(0, .ref (bl_ad g v0)), (1, .int v1), (3, .int v3), (4, .int v4), (5, .int v5)] → W p l e (bl_rm 3 74) s m as.toArray below meth c H locs 0 0 (bl_Ql below g s as out) (F0 m 85 ls []) := by
  intro σ v0 v1 v3 v4 v5 hv0 hf H locs ls V hl
  unfold b_X10_spread_85 at hf
  refine lv_iload X.1 X.2.1 dX10_spread_85 (lv_at hl 4 rfl) ?_
  refine lv_bipush (v := 8) X.1 X.2.1 dX10_spread_87 (by decide) ?_
  refine lv_icmp_ge (tgt := 106) X.1 X.2.1 dX10_spread_89 (by decide) (fun c30 => ?_) (fun c30 => ?_)
  · have hf := bl_ifp c30 hf
    refine lv_iconst (v := 0) X.1 X.2.1 dX10_spread_106 (by decide) ?_
    refine lv_istore (lv' := [(5, .int 0), (0, .ref (bl_ad g v0)), (1, .int v1), (3, .int v3), (4, .int v4)]) X.1 X.2.1 dX10_spread_107 hl (by decide) rfl (fun ls hl => ?_)
    exact l_X10_spread_109 X hr k76 hk76 bl_fu σ v0 v1 v3 v4 0 hv0 hf _ _ _ V (lv_sub hl [1, 2, 3, 4, 0] rfl)
  · have hf := bl_ifn c30 hf
    refine lv_aload_n X.1 X.2.1 dX10_spread_92 rfl (lv_at hl 0 rfl) ?_
    refine bl_getr X V hv0 fl_X10_40 rfl dX10_spread_93 (fun h31 => ?_)
    refine lv_iload X.1 X.2.1 dX10_spread_96 (lv_at hl 4 rfl) ?_
    refine lv_lconst (v := 0) X.1 X.2.1 dX10_spread_98 (by decide) ?_
    obtain ⟨h32, hf⟩ := bl_gd_at hf
    refine bl_last (k := (Int32.toNatClampNeg v5)) X V h31 h32 rfl dX10_spread_99 (fun σ33 H locs e34 V => ?_)
    have hf := bl_let_at e34 hf
    obtain ⟨x35, e36⟩ : ∃ z : Int32, z = v5 + 1 := ⟨_, rfl⟩
    have hf := bl_let_at e36 hf
    refine lv_iinc (v := x35) (lv' := [(5, .int x35), (0, .ref (bl_ad g v0)), (1, .int v1), (3, .int v3), (4, .int v4)]) X.1 X.2.1 dX10_spread_100 hl (k := 4) rfl (by rw [e36]; rfl) (by decide) rfl (fun ls hl => ?_)
    refine lv_goto (tgt := 85) X.1 X.2.1 dX10_spread_103 (by decide) ?_
    exact hk85 σ33 v0 v1 v3 v4 x35 hv0 hf _ _ _ V (lv_sub hl [1, 2, 3, 4, 0] rfl)
theorem l_X10_spread_85 {p : Program} {l : Launch} {e : Env} {s : State} {m : MethodId} {below : List Frame} {meth : Method} {c : Code} {g : bl_Gp} {as : List Value} {out : Int64 × bl_St} (X : bl_Cx g p s m as.toArray meth c cX10_spread 7 RX10) (hr : meth.sig.returnType = (Option.some Jvm.ClassFile.FieldType.long)) (k76 : bl_St → Nat → Int32 → Int32 → Int32 → Option (Int64 × bl_St)) (hk76 : ∀ (σ : bl_St) (v0 : Nat) (v1 : Int32) (v3 : Int32) (v4 : Int32), bl_sh[v0]? = some (10, 28) → k76 σ v0 v1 v3 v4 = some out → ∀ (H : Heap) (locs : List Loc) (ls : Array Slot), bl_V g s σ H locs → lv_has ls 7 [(0, .ref (bl_ad g v0)), (1, .int v1), (3, .int v3), (4, .int v4)] → W p l e (bl_rm 3 74) s m as.toArray below meth c H locs 0 0 (bl_Ql below g s as out) (F0 m 76 ls [])) (n : Nat) : ∀ (σ : bl_St) (v0 : Nat) (v1 : Int32) (v3 : Int32) (v4 : Int32) (v5 : Int32), bl_sh[v0]? = some (10, 28) → (bl_fx (fun _ _ _ _ _ _ => none) (b_X10_spread_85 k76) n) σ v0 v1 v3 v4 v5 = some out → ∀ (H : Heap) (locs : List Loc) (ls : Array Slot), bl_V g s σ H locs → lv_has ls 7 [(0, .ref (bl_ad g v0)), (1, .int v1), (3, .int v3), (4, .int v4), (5, .int v5)] → W p l e (bl_rm 3 74) s m as.toArray below meth c H locs 0 0 (bl_Ql below g s as out) (F0 m 85 ls []) := by
  induction n with
  | zero =>
    intro σ v0 v1 v3 v4 v5 hv0 hf H locs ls V hl
    cases hf
  | succ n ih => exact w_X10_spread_85 X hr k76 hk76 _ ih
set_option maxHeartbeats 4000000 in
set_option maxRecDepth 100000 in
theorem w_X10_spread_76 {p : Program} {l : Launch} {e : Env} {s : State} {m : MethodId} {below : List Frame} {meth : Method} {c : Code} {g : bl_Gp} {as : List Value} {out : Int64 × bl_St} (X : bl_Cx g p s m as.toArray meth c cX10_spread 7 RX10) (hr : meth.sig.returnType = (Option.some Jvm.ClassFile.FieldType.long)) (k76 : bl_St → Nat → Int32 → Int32 → Int32 → Option (Int64 × bl_St)) (hk76 : ∀ (σ : bl_St) (v0 : Nat) (v1 : Int32) (v3 : Int32) (v4 : Int32), bl_sh[v0]? = some (10, 28) → k76 σ v0 v1 v3 v4 = some out → ∀ (H : Heap) (locs : List Loc) (ls : Array Slot), bl_V g s σ H locs → lv_has ls 7 [(0, .ref (bl_ad g v0)), (1, .int v1), (3, .int v3), (4, .int v4)] → W p l e (bl_rm 3 74) s m as.toArray below meth c H locs 0 0 (bl_Ql below g s as out) (F0 m 76 ls [])) : ∀ (σ : bl_St) (v0 : Nat) (v1 : Int32) (v3 : Int32) (v4 : Int32), bl_sh[v0]? = some (10, 28) → (b_X10_spread_76 k76) σ v0 v1 v3 v4 = some out → ∀ (H : Heap) (locs : List Loc) (ls : Array Slot), bl_V g s σ H locs → lv_has ls 7 [(0, .ref (bl_ad g v0)), (1, .int v1), (3, .int v3), (4, .int v4)] → W p l e (bl_rm 3 74) s m as.toArray below meth c H locs 0 0 (bl_Ql below g s as out) (F0 m 76 ls []) := by
  intro σ v0 v1 v3 v4 hv0 hf H locs ls V hl
  unfold b_X10_spread_76 at hf
  refine lv_iload X.1 X.2.1 dX10_spread_76 (lv_at hl 3 rfl) ?_
  refine lv_iload_n X.1 X.2.1 dX10_spread_78 rfl (lv_at hl 1 rfl) ?_
  refine lv_icmp_ge (tgt := 208) X.1 X.2.1 dX10_spread_79 (by decide) (fun c37 => ?_) (fun c37 => ?_)
  · have hf := bl_ifp c37 hf
    refine lv_aload_n X.1 X.2.1 dX10_spread_208 rfl (lv_at hl 0 rfl) ?_
    refine bl_getr X V hv0 fl_X10_37 rfl dX10_spread_209 (fun h38 => ?_)
    refine lv_iload_n X.1 X.2.1 dX10_spread_212 rfl (lv_at hl 2 rfl) ?_
    obtain ⟨h39, hf⟩ := bl_gd_at hf
    refine bl_lald (k := (Int32.toNatClampNeg v3)) X V h38 h39 rfl dX10_spread_213 ?_
    exact bl_retl X V hr hf dX10_spread_214
  · have hf := bl_ifn c37 hf
    refine lv_iconst (v := 0) X.1 X.2.1 dX10_spread_82 (by decide) ?_
    refine lv_istore (lv' := [(5, .int 0), (0, .ref (bl_ad g v0)), (1, .int v1), (3, .int v3), (4, .int v4)]) X.1 X.2.1 dX10_spread_83 hl (by decide) rfl (fun ls hl => ?_)
    exact l_X10_spread_85 X hr k76 hk76 bl_fu σ v0 v1 v3 v4 0 hv0 hf _ _ _ V (lv_sub hl [1, 2, 3, 4, 0] rfl)
theorem l_X10_spread_76 {p : Program} {l : Launch} {e : Env} {s : State} {m : MethodId} {below : List Frame} {meth : Method} {c : Code} {g : bl_Gp} {as : List Value} {out : Int64 × bl_St} (X : bl_Cx g p s m as.toArray meth c cX10_spread 7 RX10) (hr : meth.sig.returnType = (Option.some Jvm.ClassFile.FieldType.long)) (n : Nat) : ∀ (σ : bl_St) (v0 : Nat) (v1 : Int32) (v3 : Int32) (v4 : Int32), bl_sh[v0]? = some (10, 28) → (bl_fx (fun _ _ _ _ _ => none) (b_X10_spread_76 ) n) σ v0 v1 v3 v4 = some out → ∀ (H : Heap) (locs : List Loc) (ls : Array Slot), bl_V g s σ H locs → lv_has ls 7 [(0, .ref (bl_ad g v0)), (1, .int v1), (3, .int v3), (4, .int v4)] → W p l e (bl_rm 3 74) s m as.toArray below meth c H locs 0 0 (bl_Ql below g s as out) (F0 m 76 ls []) := by
  induction n with
  | zero =>
    intro σ v0 v1 v3 v4 hv0 hf H locs ls V hl
    cases hf
  | succ n ih => exact w_X10_spread_76 X hr  _ ih
set_option maxHeartbeats 4000000 in
set_option maxRecDepth 100000 in
theorem w_X10_spread_66 {p : Program} {l : Launch} {e : Env} {s : State} {m : MethodId} {below : List Frame} {meth : Method} {c : Code} {g : bl_Gp} {as : List Value} {out : Int64 × bl_St} (X : bl_Cx g p s m as.toArray meth c cX10_spread 7 RX10) (hr : meth.sig.returnType = (Option.some Jvm.ClassFile.FieldType.long)) (k42 : bl_St → Nat → Int32 → Int32 → Int32 → Int32 → Option (Int64 × bl_St)) (hk42 : ∀ (σ : bl_St) (v0 : Nat) (v1 : Int32) (v2 : Int32) (v3 : Int32) (v4 : Int32), bl_sh[v0]? = some (10, 28) → k42 σ v0 v1 v2 v3 v4 = some out → ∀ (H : Heap) (locs : List Loc) (ls : Array Slot), bl_V g s σ H locs → lv_has ls 7 [(0, .ref (bl_ad g v0)), (1, .int v1), (2, .int v2), (3, .int v3), (4, .int v4)] → W p l e (bl_rm 3 74) s m as.toArray below meth c H locs 0 0 (bl_Ql below g s as out) (F0 m 42 ls [])) : ∀ (σ : bl_St) (v0 : Nat) (v1 : Int32) (v2 : Int32) (v3 : Int32) (v4 : Int32) (s0 : Int64) (s1 : Int32) (s2 : Nat), bl_sh[v0]? = some (10, 28) → bl_sh[s2]? = some (21, 8) → (b_X10_spread_66 k42) σ v0 v1 v2 v3 v4 s0 s1 s2 = some out → ∀ (H : Heap) (locs : List Loc) (ls : Array Slot), bl_V g s σ H locs → lv_has ls 7 [(0, .ref (bl_ad g v0)), (1, .int v1), (2, .int v2), (3, .int v3), (4, .int v4)] → W p l e (bl_rm 3 74) s m as.toArray below meth c H locs 0 0 (bl_Ql below g s as out) (F0 m 66 ls [.long s0, .int s1, .ref (bl_ad g s2)]) := by
  intro σ v0 v1 v2 v3 v4 s0 s1 s2 hv0 hs2 hf H locs ls V hl
  unfold b_X10_spread_66 at hf
  obtain ⟨h40, hf⟩ := bl_gd_at hf
  refine bl_last (k := (Int32.toNatClampNeg s1)) X V hs2 h40 rfl dX10_spread_66 (fun σ41 H locs e42 V => ?_)
  have hf := bl_let_at e42 hf
  obtain ⟨x43, e44⟩ : ∃ z : Int32, z = v4 + 1 := ⟨_, rfl⟩
  have hf := bl_let_at e44 hf
  refine lv_iinc (v := x43) (lv' := [(4, .int x43), (0, .ref (bl_ad g v0)), (1, .int v1), (2, .int v2), (3, .int v3)]) X.1 X.2.1 dX10_spread_67 hl (k := 4) rfl (by rw [e44]; rfl) (by decide) rfl (fun ls hl => ?_)
  refine lv_goto (tgt := 42) X.1 X.2.1 dX10_spread_70 (by decide) ?_
  exact hk42 σ41 v0 v1 v2 v3 x43 hv0 hf _ _ _ V (lv_sub hl [1, 2, 3, 4, 0] rfl)
set_option maxHeartbeats 4000000 in
set_option maxRecDepth 100000 in
theorem w_X10_spread_42 {p : Program} {l : Launch} {e : Env} {s : State} {m : MethodId} {below : List Frame} {meth : Method} {c : Code} {g : bl_Gp} {as : List Value} {out : Int64 × bl_St} (X : bl_Cx g p s m as.toArray meth c cX10_spread 7 RX10) (hr : meth.sig.returnType = (Option.some Jvm.ClassFile.FieldType.long)) (k42 : bl_St → Nat → Int32 → Int32 → Int32 → Int32 → Option (Int64 × bl_St)) (hk42 : ∀ (σ : bl_St) (v0 : Nat) (v1 : Int32) (v2 : Int32) (v3 : Int32) (v4 : Int32), bl_sh[v0]? = some (10, 28) → k42 σ v0 v1 v2 v3 v4 = some out → ∀ (H : Heap) (locs : List Loc) (ls : Array Slot), bl_V g s σ H locs → lv_has ls 7 [(0, .ref (bl_ad g v0)), (1, .int v1), (2, .int v2), (3, .int v3), (4, .int v4)] → W p l e (bl_rm 3 74) s m as.toArray below meth c H locs 0 0 (bl_Ql below g s as out) (F0 m 42 ls [])) : ∀ (σ : bl_St) (v0 : Nat) (v1 : Int32) (v2 : Int32) (v3 : Int32) (v4 : Int32), bl_sh[v0]? = some (10, 28) → (b_X10_spread_42 k42) σ v0 v1 v2 v3 v4 = some out → ∀ (H : Heap) (locs : List Loc) (ls : Array Slot), bl_V g s σ H locs → lv_has ls 7 [(0, .ref (bl_ad g v0)), (1, .int v1), (2, .int v2), (3, .int v3), (4, .int v4)] → W p l e (bl_rm 3 74) s m as.toArray below meth c H locs 0 0 (bl_Ql below g s as out) (F0 m 42 ls []) := by
  intro σ v0 v1 v2 v3 v4 hv0 hf H locs ls V hl
  unfold b_X10_spread_42 at hf
  refine lv_iload X.1 X.2.1 dX10_spread_42 (lv_at hl 4 rfl) ?_
  refine lv_bipush (v := 8) X.1 X.2.1 dX10_spread_44 (by decide) ?_
  refine lv_icmp_ge (tgt := 73) X.1 X.2.1 dX10_spread_46 (by decide) (fun c45 => ?_) (fun c45 => ?_)
  · have hf := bl_ifp c45 hf
    refine lv_iconst (v := 0) X.1 X.2.1 dX10_spread_73 (by decide) ?_
    refine lv_istore (lv' := [(4, .int 0), (0, .ref (bl_ad g v0)), (1, .int v1), (2, .int v2), (3, .int v3)]) X.1 X.2.1 dX10_spread_74 hl (by decide) rfl (fun ls hl => ?_)
    exact l_X10_spread_76 X hr  bl_fu σ v0 v1 v3 0 hv0 hf _ _ _ V (lv_sub hl [1, 2, 4, 0] rfl)
  · have hf := bl_ifn c45 hf
    refine lv_aload_n X.1 X.2.1 dX10_spread_49 rfl (lv_at hl 0 rfl) ?_
    refine bl_getr X V hv0 fl_X10_37 rfl dX10_spread_50 (fun h46 => ?_)
    refine lv_iload X.1 X.2.1 dX10_spread_53 (lv_at hl 4 rfl) ?_
    refine lv_iload X.1 X.2.1 dX10_spread_55 (lv_at hl 4 rfl) ?_
    refine lv_iload_n X.1 X.2.1 dX10_spread_57 rfl (lv_at hl 2 rfl) ?_
    refine lv_icmp_ne (tgt := 65) X.1 X.2.1 dX10_spread_58 (by decide) (fun c47 => ?_) (fun c47 => ?_)
    · have hf := bl_ifn c47 hf
      refine lv_lconst (v := 0) X.1 X.2.1 dX10_spread_65 (by decide) ?_
      exact w_X10_spread_66 X hr k42 hk42 σ v0 v1 v2 v3 v4 0 v4 (bl_R σ v0 14) hv0 h46 hf _ _ _ V (lv_sub hl [0, 1, 2, 3, 4] rfl)
    · have hf := bl_ifp c47 hf
      refine lv_lconst (v := 1) X.1 X.2.1 dX10_spread_61 (by decide) ?_
      refine lv_goto (tgt := 66) X.1 X.2.1 dX10_spread_62 (by decide) ?_
      exact w_X10_spread_66 X hr k42 hk42 σ v0 v1 v2 v3 v4 1 v4 (bl_R σ v0 14) hv0 h46 hf _ _ _ V (lv_sub hl [0, 1, 2, 3, 4] rfl)
theorem l_X10_spread_42 {p : Program} {l : Launch} {e : Env} {s : State} {m : MethodId} {below : List Frame} {meth : Method} {c : Code} {g : bl_Gp} {as : List Value} {out : Int64 × bl_St} (X : bl_Cx g p s m as.toArray meth c cX10_spread 7 RX10) (hr : meth.sig.returnType = (Option.some Jvm.ClassFile.FieldType.long)) (n : Nat) : ∀ (σ : bl_St) (v0 : Nat) (v1 : Int32) (v2 : Int32) (v3 : Int32) (v4 : Int32), bl_sh[v0]? = some (10, 28) → (bl_fx (fun _ _ _ _ _ _ => none) (b_X10_spread_42 ) n) σ v0 v1 v2 v3 v4 = some out → ∀ (H : Heap) (locs : List Loc) (ls : Array Slot), bl_V g s σ H locs → lv_has ls 7 [(0, .ref (bl_ad g v0)), (1, .int v1), (2, .int v2), (3, .int v3), (4, .int v4)] → W p l e (bl_rm 3 74) s m as.toArray below meth c H locs 0 0 (bl_Ql below g s as out) (F0 m 42 ls []) := by
  induction n with
  | zero =>
    intro σ v0 v1 v2 v3 v4 hv0 hf H locs ls V hl
    cases hf
  | succ n ih => exact w_X10_spread_42 X hr  _ ih
set_option maxHeartbeats 4000000 in
set_option maxRecDepth 100000 in
theorem t_X10_spread (l : Launch) (g : bl_Gp) (σ : bl_St) (a0 : Nat) (a1 : Int32) (a2 : Int32) (a3 : Int32) (o : Int64 × bl_St) (ha0 : bl_sh[a0]? = some (10, 28)) (hf : f_X10_spread σ a0 a1 a2 a3 = some o) : bl_Cl l g yX10_spread cX10_spread 7 (Option.some Jvm.ClassFile.FieldType.long) (bl_rm 3 74) [.ref (bl_ad g a0), .int a1, .int a2, .int a3] σ o := by
  refine bl_met (by decide) (Nat.le_of_ble_eq_true rfl) (fun p e s m below meth c ls X hr V hl => ?_)
  have hl : lv_has ls 7 [(0, .ref (bl_ad g a0)), (1, .int a1), (2, .int a2), (3, .int a3)] := hl
  unfold f_X10_spread at hf
  refine lv_aload_n X.1 X.2.1 dX10_spread_0 rfl (lv_at hl 0 rfl) ?_
  refine lv_iload_n X.1 X.2.1 dX10_spread_1 rfl (lv_at hl 2 rfl) ?_
  obtain ⟨r48, σ49, h50, hf⟩ := bl_bd_at hf
  refine bl_cVi (As := [.int a2]) X V hl.1 ha0 rfl ml_X10_84 mV_X10_isClass (t_X10_isClass l g σ a0 a2 _ ha0 h50) rfl rfl ⟨Nat.le_of_ble_eq_true rfl, Nat.le_of_ble_eq_true rfl⟩ rfl rfl (Nat.le_of_ble_eq_true rfl) ⟨Nat.zero_le _, Nat.zero_le _⟩ dX10_spread_2 (fun H locs V => ?_)
  refine lv_if_eq (tgt := 35) X.1 X.2.1 dX10_spread_5 (by decide) (fun c51 => ?_) (fun c51 => ?_)
  · have hf := bl_ifp c51 hf
    refine lv_ldc2 (v := (-1)) X.1 X.2.1 X.2.2.2.1 (X.2.2.2.2.1 _ kl_X10_233) dX10_spread_35 ?_
    exact bl_retl X V hr hf dX10_spread_38
  · have hf := bl_ifn c51 hf
    refine lv_aload_n X.1 X.2.1 dX10_spread_8 rfl (lv_at hl 0 rfl) ?_
    refine lv_iload_n X.1 X.2.1 dX10_spread_9 rfl (lv_at hl 3 rfl) ?_
    obtain ⟨r52, σ53, h54, hf⟩ := bl_bd_at hf
    refine bl_cVi (As := [.int a3]) X V hl.1 ha0 rfl ml_X10_84 mV_X10_isClass (t_X10_isClass l g σ49 a0 a3 _ ha0 h54) rfl rfl ⟨Nat.le_of_ble_eq_true rfl, Nat.le_of_ble_eq_true rfl⟩ rfl rfl (Nat.le_of_ble_eq_true rfl) ⟨Nat.zero_le _, Nat.zero_le _⟩ dX10_spread_10 (fun H locs V => ?_)
    refine lv_if_eq (tgt := 35) X.1 X.2.1 dX10_spread_13 (by decide) (fun c55 => ?_) (fun c55 => ?_)
    · have hf := bl_ifp c55 hf
      refine lv_ldc2 (v := (-1)) X.1 X.2.1 X.2.2.2.1 (X.2.2.2.2.1 _ kl_X10_233) dX10_spread_35 ?_
      exact bl_retl X V hr hf dX10_spread_38
    · have hf := bl_ifn c55 hf
      refine lv_iload_n X.1 X.2.1 dX10_spread_16 rfl (lv_at hl 1 rfl) ?_
      refine lv_i2l X.1 X.2.1 dX10_spread_17 rfl ?_
      refine lv_lconst (v := 0) X.1 X.2.1 dX10_spread_18 (by decide) ?_
      refine lv_bipush (v := 16) X.1 X.2.1 dX10_spread_19 (by decide) ?_
      refine lv_aload_n X.1 X.2.1 dX10_spread_21 rfl (lv_at hl 0 rfl) ?_
      refine bl_getr X V ha0 fl_X10_13 rfl dX10_spread_22 (fun h56 => ?_)
      refine lv_iconst (v := 2) X.1 X.2.1 dX10_spread_25 (by decide) ?_
      refine bl_iald (k := 2) X V h56 (by decide) (by decide) dX10_spread_26 ?_
      obtain ⟨h57, hf⟩ := bl_gd_at hf
      refine lv_idiv X.1 X.2.1 dX10_spread_27 (by simpa using h57) ?_
      refine lv_i2l X.1 X.2.1 dX10_spread_28 rfl ?_
      obtain ⟨r58, σ59, h60, hf⟩ := bl_bd_at hf
      refine bl_cSi (As := [.long (Int32.toInt64 a1), .long 0, .long (Int32.toInt64 (16 / (bl_I σ53 (bl_R σ53 a0 1) 2)))]) X V hl.1 ml_X10_66 mS_X10_in (t_X10_in l g σ53 (Int32.toInt64 a1) 0 (Int32.toInt64 (16 / (bl_I σ53 (bl_R σ53 a0 1) 2))) _  h60) rfl rfl ⟨Nat.le_of_ble_eq_true rfl, Nat.le_of_ble_eq_true rfl⟩ rfl rfl (Nat.le_of_ble_eq_true rfl) ⟨Nat.zero_le _, Nat.zero_le _⟩ dX10_spread_29 (fun H locs V => ?_)
      refine lv_if_ne (tgt := 39) X.1 X.2.1 dX10_spread_32 (by decide) (fun c61 => ?_) (fun c61 => ?_)
      · have hf := bl_ifn c61 hf
        refine lv_iconst (v := 0) X.1 X.2.1 dX10_spread_39 (by decide) ?_
        refine lv_istore (lv' := [(4, .int 0), (0, .ref (bl_ad g a0)), (1, .int a1), (2, .int a2), (3, .int a3)]) X.1 X.2.1 dX10_spread_40 hl (by decide) rfl (fun ls hl => ?_)
        exact l_X10_spread_42 X hr  bl_fu σ59 a0 a1 a2 a3 0 ha0 hf _ _ _ V (lv_sub hl [1, 2, 3, 4, 0] rfl)
      · have hf := bl_ifp c61 hf
        refine lv_ldc2 (v := (-1)) X.1 X.2.1 X.2.2.2.1 (X.2.2.2.2.1 _ kl_X10_233) dX10_spread_35 ?_
        exact bl_retl X V hr hf dX10_spread_38
set_option maxHeartbeats 4000000 in
set_option maxRecDepth 100000 in
theorem t_X10_slotOf (l : Launch) (g : bl_Gp) (σ : bl_St) (a0 : Int32) (a1 : Int32) (a2 : Int32) (o : Int32 × bl_St) (hf : f_X10_slotOf σ a0 a1 a2 = some o) : bl_Ci l g yX10_slotOf cX10_slotOf 3 (Option.some Jvm.ClassFile.FieldType.int) (bl_rm 0 0) [.int a0, .int a1, .int a2] σ o := by
  refine bl_met (by decide) (Nat.le_of_ble_eq_true rfl) (fun p e s m below meth c ls X hr V hl => ?_)
  have hl : lv_has ls 3 [(0, .int a0), (1, .int a1), (2, .int a2)] := hl
  unfold f_X10_slotOf at hf
  refine lv_bipush (v := 9) X.1 X.2.1 dX10_slotOf_0 (by decide) ?_
  refine lv_iload_n X.1 X.2.1 dX10_slotOf_2 rfl (lv_at hl 0 rfl) ?_
  refine lv_imul X.1 X.2.1 dX10_slotOf_3 ?_
  refine lv_iconst (v := 3) X.1 X.2.1 dX10_slotOf_4 (by decide) ?_
  refine lv_iload_n X.1 X.2.1 dX10_slotOf_5 rfl (lv_at hl 1 rfl) ?_
  refine lv_imul X.1 X.2.1 dX10_slotOf_6 ?_
  refine lv_iadd X.1 X.2.1 dX10_slotOf_7 ?_
  refine lv_iload_n X.1 X.2.1 dX10_slotOf_8 rfl (lv_at hl 2 rfl) ?_
  refine lv_iadd X.1 X.2.1 dX10_slotOf_9 ?_
  exact bl_reti X V hr hf dX10_slotOf_10
set_option maxHeartbeats 4000000 in
set_option maxRecDepth 100000 in
theorem t_X10_more (l : Launch) (g : bl_Gp) (σ : bl_St) (a0 : Int32) (o : Int32 × bl_St) (hf : f_X10_more σ a0 = some o) : bl_Ci l g yX10_more cX10_more 1 (Option.some Jvm.ClassFile.FieldType.int) (bl_rm 0 0) [.int a0] σ o := by
  refine bl_met (by decide) (Nat.le_of_ble_eq_true rfl) (fun p e s m below meth c ls X hr V hl => ?_)
  have hl : lv_has ls 1 [(0, .int a0)] := hl
  unfold f_X10_more at hf
  refine lv_iload_n X.1 X.2.1 dX10_more_0 rfl (lv_at hl 0 rfl) ?_
  refine lv_iconst (v := 2) X.1 X.2.1 dX10_more_1 (by decide) ?_
  refine lv_icmp_ge (tgt := 11) X.1 X.2.1 dX10_more_2 (by decide) (fun c1 => ?_) (fun c1 => ?_)
  · have hf := bl_ifp c1 hf
    refine lv_iconst (v := 2) X.1 X.2.1 dX10_more_11 (by decide) ?_
    exact bl_reti X V hr hf dX10_more_12
  · have hf := bl_ifn c1 hf
    refine lv_iload_n X.1 X.2.1 dX10_more_5 rfl (lv_at hl 0 rfl) ?_
    refine lv_iconst (v := 1) X.1 X.2.1 dX10_more_6 (by decide) ?_
    refine lv_iadd X.1 X.2.1 dX10_more_7 ?_
    refine lv_goto (tgt := 12) X.1 X.2.1 dX10_more_8 (by decide) ?_
    exact bl_reti X V hr hf dX10_more_12
set_option maxHeartbeats 4000000 in
set_option maxRecDepth 100000 in
theorem w_X10_bothChance_42 {p : Program} {l : Launch} {e : Env} {s : State} {m : MethodId} {below : List Frame} {meth : Method} {c : Code} {g : bl_Gp} {as : List Value} {out : Int64 × bl_St} (X : bl_Cx g p s m as.toArray meth c cX10_bothChance 14 RX10) (hr : meth.sig.returnType = (Option.some Jvm.ClassFile.FieldType.long)) (k42 : bl_St → Nat → Int32 → Int32 → Int32 → Int32 → Int64 → Int64 → Int32 → Option (Int64 × bl_St)) (hk42 : ∀ (σ : bl_St) (v0 : Nat) (v1 : Int32) (v2 : Int32) (v3 : Int32) (v4 : Int32) (v5 : Int64) (v7 : Int64) (v9 : Int32), bl_sh[v0]? = some (10, 28) → k42 σ v0 v1 v2 v3 v4 v5 v7 v9 = some out → ∀ (H : Heap) (locs : List Loc) (ls : Array Slot), bl_V g s σ H locs → lv_has ls 14 [(0, .ref (bl_ad g v0)), (1, .int v1), (2, .int v2), (3, .int v3), (4, .int v4), (5, .long v5), (7, .long v7), (9, .int v9)] → W p l e (bl_rm 2 43) s m as.toArray below meth c H locs 0 0 (bl_Ql below g s as out) (F0 m 42 ls [])) : ∀ (σ : bl_St) (v0 : Nat) (v1 : Int32) (v2 : Int32) (v3 : Int32) (v4 : Int32) (v5 : Int64) (v7 : Int64) (v9 : Int32), bl_sh[v0]? = some (10, 28) → (b_X10_bothChance_42 k42) σ v0 v1 v2 v3 v4 v5 v7 v9 = some out → ∀ (H : Heap) (locs : List Loc) (ls : Array Slot), bl_V g s σ H locs → lv_has ls 14 [(0, .ref (bl_ad g v0)), (1, .int v1), (2, .int v2), (3, .int v3), (4, .int v4), (5, .long v5), (7, .long v7), (9, .int v9)] → W p l e (bl_rm 2 43) s m as.toArray below meth c H locs 0 0 (bl_Ql below g s as out) (F0 m 42 ls []) := by
  intro σ v0 v1 v2 v3 v4 v5 v7 v9 hv0 hf H locs ls V hl
  unfold b_X10_bothChance_42 at hf
  refine lv_iload X.1 X.2.1 dX10_bothChance_42 (lv_at hl 7 rfl) ?_
  refine lv_aload_n X.1 X.2.1 dX10_bothChance_44 rfl (lv_at hl 0 rfl) ?_
  refine bl_getr X V hv0 fl_X10_13 rfl dX10_bothChance_45 (fun h1 => ?_)
  refine lv_iconst (v := 1) X.1 X.2.1 dX10_bothChance_48 (by decide) ?_
  refine bl_iald (k := 1) X V h1 (by decide) (by decide) dX10_bothChance_49 ?_
  refine lv_icmp_ge (tgt := 154) X.1 X.2.1 dX10_bothChance_50 (by decide) (fun c2 => ?_) (fun c2 => ?_)
  · have hf := bl_ifp c2 hf
    refine lv_lload X.1 X.2.1 dX10_bothChance_154 (lv_at hl 6 rfl) ?_
    refine lv_bipush (v := 12) X.1 X.2.1 dX10_bothChance_156 (by decide) ?_
    refine lv_iload X.1 X.2.1 dX10_bothChance_158 (lv_at hl 4 rfl) ?_
    refine lv_imul X.1 X.2.1 dX10_bothChance_160 ?_
    refine lv_i2l X.1 X.2.1 dX10_bothChance_161 rfl ?_
    obtain ⟨h3, hf⟩ := bl_gd_at hf
    refine lv_ldiv X.1 X.2.1 dX10_bothChance_162 (by simpa using h3) ?_
    exact bl_retl X V hr hf dX10_bothChance_163
  · have hf := bl_ifn c2 hf
    refine lv_aload_n X.1 X.2.1 dX10_bothChance_53 rfl (lv_at hl 0 rfl) ?_
    refine lv_iload X.1 X.2.1 dX10_bothChance_54 (lv_at hl 7 rfl) ?_
    obtain ⟨r4, σ5, h6, hf⟩ := bl_bd_at hf
    refine bl_cVi (As := [.int v9]) X V hl.1 hv0 rfl ml_X10_124 mV_X10_toldPays (t_X10_toldPays l g σ v0 v9 _ hv0 h6) rfl rfl ⟨Nat.le_of_ble_eq_true rfl, Nat.le_of_ble_eq_true rfl⟩ rfl rfl (Nat.le_of_ble_eq_true rfl) ⟨Nat.zero_le _, Nat.zero_le _⟩ dX10_bothChance_56 (fun H locs V => ?_)
    refine lv_i2l X.1 X.2.1 dX10_bothChance_59 rfl ?_
    refine lv_ldc2 (v := 1000) X.1 X.2.1 X.2.2.2.1 (X.2.2.2.2.1 _ kl_X10_179) dX10_bothChance_60 ?_
    refine lv_lmul X.1 X.2.1 dX10_bothChance_63 ?_
    refine lv_topl (fun x7 e8 => ?_)
    have hf := bl_let_at e8 hf
    refine lv_lstore (lv' := [(10, .long x7), (0, .ref (bl_ad g v0)), (1, .int v1), (2, .int v2), (3, .int v3), (4, .int v4), (5, .long v5), (7, .long v7), (9, .int v9)]) X.1 X.2.1 dX10_bothChance_64 hl (by decide) rfl (fun ls hl => ?_)
    refine lv_lload X.1 X.2.1 dX10_bothChance_66 (lv_at hl 0 rfl) ?_
    refine lv_aload_n X.1 X.2.1 dX10_bothChance_68 rfl (lv_at hl 1 rfl) ?_
    refine bl_getr X V hv0 fl_X10_46 rfl dX10_bothChance_69 (fun h9 => ?_)
    refine lv_iload_n X.1 X.2.1 dX10_bothChance_72 rfl (lv_at hl 2 rfl) ?_
    refine lv_iconst (v := 1) X.1 X.2.1 dX10_bothChance_73 (by decide) ?_
    refine lv_iadd X.1 X.2.1 dX10_bothChance_74 ?_
    refine lv_iload_n X.1 X.2.1 dX10_bothChance_75 rfl (lv_at hl 3 rfl) ?_
    obtain ⟨r10, σ11, h12, hf⟩ := bl_bd_at hf
    refine bl_cSi (As := [.int v2]) X V hl.1 ml_X10_261 mS_X10_more (t_X10_more l g σ5 v2 _  h12) rfl rfl ⟨Nat.le_of_ble_eq_true rfl, Nat.le_of_ble_eq_true rfl⟩ rfl rfl (Nat.le_of_ble_eq_true rfl) ⟨Nat.zero_le _, Nat.zero_le _⟩ dX10_bothChance_76 (fun H locs V => ?_)
    refine lv_iload_n X.1 X.2.1 dX10_bothChance_79 rfl (lv_at hl 4 rfl) ?_
    obtain ⟨r13, σ14, h15, hf⟩ := bl_bd_at hf
    refine bl_cSi (As := [.int (v1 + 1), .int r10, .int v3]) X V hl.1 ml_X10_258 mS_X10_slotOf (t_X10_slotOf l g σ11 (v1 + 1) r10 v3 _  h15) rfl rfl ⟨Nat.le_of_ble_eq_true rfl, Nat.le_of_ble_eq_true rfl⟩ rfl rfl (Nat.le_of_ble_eq_true rfl) ⟨Nat.zero_le _, Nat.zero_le _⟩ dX10_bothChance_80 (fun H locs V => ?_)
    obtain ⟨h16, hf⟩ := bl_gd_at hf
    refine bl_lald (k := (Int32.toNatClampNeg r13)) X V h9 h16 rfl dX10_bothChance_83 ?_
    refine lv_ladd X.1 X.2.1 dX10_bothChance_84 ?_
    refine lv_lload X.1 X.2.1 dX10_bothChance_85 (lv_at hl 0 rfl) ?_
    refine lv_aload_n X.1 X.2.1 dX10_bothChance_87 rfl (lv_at hl 1 rfl) ?_
    refine bl_getr X V hv0 fl_X10_46 rfl dX10_bothChance_88 (fun h17 => ?_)
    refine lv_iload_n X.1 X.2.1 dX10_bothChance_91 rfl (lv_at hl 2 rfl) ?_
    refine lv_iconst (v := 1) X.1 X.2.1 dX10_bothChance_92 (by decide) ?_
    refine lv_iadd X.1 X.2.1 dX10_bothChance_93 ?_
    refine lv_iload_n X.1 X.2.1 dX10_bothChance_94 rfl (lv_at hl 3 rfl) ?_
    refine lv_iload_n X.1 X.2.1 dX10_bothChance_95 rfl (lv_at hl 4 rfl) ?_
    obtain ⟨r18, σ19, h20, hf⟩ := bl_bd_at hf
    refine bl_cSi (As := [.int v3]) X V hl.1 ml_X10_261 mS_X10_more (t_X10_more l g σ14 v3 _  h20) rfl rfl ⟨Nat.le_of_ble_eq_true rfl, Nat.le_of_ble_eq_true rfl⟩ rfl rfl (Nat.le_of_ble_eq_true rfl) ⟨Nat.zero_le _, Nat.zero_le _⟩ dX10_bothChance_96 (fun H locs V => ?_)
    obtain ⟨r21, σ22, h23, hf⟩ := bl_bd_at hf
    refine bl_cSi (As := [.int (v1 + 1), .int v2, .int r18]) X V hl.1 ml_X10_258 mS_X10_slotOf (t_X10_slotOf l g σ19 (v1 + 1) v2 r18 _  h23) rfl rfl ⟨Nat.le_of_ble_eq_true rfl, Nat.le_of_ble_eq_true rfl⟩ rfl rfl (Nat.le_of_ble_eq_true rfl) ⟨Nat.zero_le _, Nat.zero_le _⟩ dX10_bothChance_99 (fun H locs V => ?_)
    obtain ⟨h24, hf⟩ := bl_gd_at hf
    refine bl_lald (k := (Int32.toNatClampNeg r21)) X V h17 h24 rfl dX10_bothChance_102 ?_
    refine lv_ladd X.1 X.2.1 dX10_bothChance_103 ?_
    obtain ⟨r25, σ26, h27, hf⟩ := bl_bd_at hf
    refine bl_cSl (As := [.long (x7 + (bl_J σ14 (bl_R σ5 v0 17) (Int32.toNatClampNeg r13))), .long (x7 + (bl_J σ22 (bl_R σ14 v0 17) (Int32.toNatClampNeg r21)))]) X V hl.1 ml_X10_264 mS_X10_lesser (t_X10_lesser l g σ22 (x7 + (bl_J σ14 (bl_R σ5 v0 17) (Int32.toNatClampNeg r13))) (x7 + (bl_J σ22 (bl_R σ14 v0 17) (Int32.toNatClampNeg r21))) _  h27) rfl rfl ⟨Nat.le_of_ble_eq_true rfl, Nat.le_of_ble_eq_true rfl⟩ rfl rfl (Nat.le_of_ble_eq_true rfl) ⟨Nat.zero_le _, Nat.zero_le _⟩ dX10_bothChance_104 (fun H locs V => ?_)
    refine lv_lstore (lv' := [(12, .long r25), (10, .long x7), (0, .ref (bl_ad g v0)), (1, .int v1), (2, .int v2), (3, .int v3), (4, .int v4), (5, .long v5), (7, .long v7), (9, .int v9)]) X.1 X.2.1 dX10_bothChance_107 hl (by decide) rfl (fun ls hl => ?_)
    refine lv_lload X.1 X.2.1 dX10_bothChance_109 (lv_at hl 8 rfl) ?_
    refine lv_aload_n X.1 X.2.1 dX10_bothChance_111 rfl (lv_at hl 2 rfl) ?_
    refine bl_getr X V hv0 fl_X10_13 rfl dX10_bothChance_112 (fun h28 => ?_)
    refine lv_iconst (v := 3) X.1 X.2.1 dX10_bothChance_115 (by decide) ?_
    refine bl_iald (k := 3) X V h28 (by decide) (by decide) dX10_bothChance_116 ?_
    refine lv_aload_n X.1 X.2.1 dX10_bothChance_117 rfl (lv_at hl 2 rfl) ?_
    refine lv_iload X.1 X.2.1 dX10_bothChance_118 (lv_at hl 9 rfl) ?_
    obtain ⟨r29, σ30, h31, hf⟩ := bl_bd_at hf
    refine bl_cVi (As := [.int v9]) X V hl.1 hv0 rfl ml_X10_70 mV_X10_weight (t_X10_weight l g σ26 v0 v9 _ hv0 h31) rfl rfl ⟨Nat.le_of_ble_eq_true rfl, Nat.le_of_ble_eq_true rfl⟩ rfl rfl (Nat.le_of_ble_eq_true rfl) ⟨Nat.zero_le _, Nat.zero_le _⟩ dX10_bothChance_120 (fun H locs V => ?_)
    refine lv_imul X.1 X.2.1 dX10_bothChance_123 ?_
    refine lv_i2l X.1 X.2.1 dX10_bothChance_124 rfl ?_
    refine lv_lload X.1 X.2.1 dX10_bothChance_125 (lv_at hl 0 rfl) ?_
    refine lv_aload_n X.1 X.2.1 dX10_bothChance_127 rfl (lv_at hl 2 rfl) ?_
    refine lv_iload X.1 X.2.1 dX10_bothChance_128 (lv_at hl 9 rfl) ?_
    obtain ⟨r32, σ33, h34, hf⟩ := bl_bd_at hf
    refine bl_cVi (As := [.int v9]) X V hl.1 hv0 rfl ml_X10_78 mV_X10_size (t_X10_size l g σ30 v0 v9 _ hv0 h34) rfl rfl ⟨Nat.le_of_ble_eq_true rfl, Nat.le_of_ble_eq_true rfl⟩ rfl rfl (Nat.le_of_ble_eq_true rfl) ⟨Nat.zero_le _, Nat.zero_le _⟩ dX10_bothChance_130 (fun H locs V => ?_)
    refine lv_i2l X.1 X.2.1 dX10_bothChance_133 rfl ?_
    refine lv_ldc2 (v := 1000) X.1 X.2.1 X.2.2.2.1 (X.2.2.2.2.1 _ kl_X10_179) dX10_bothChance_134 ?_
    refine lv_lmul X.1 X.2.1 dX10_bothChance_137 ?_
    refine lv_lload X.1 X.2.1 dX10_bothChance_138 (lv_at hl 7 rfl) ?_
    refine lv_ladd X.1 X.2.1 dX10_bothChance_140 ?_
    obtain ⟨r35, σ36, h37, hf⟩ := bl_bd_at hf
    refine bl_cSl (As := [.long r25, .long (((Int32.toInt64 r32) * 1000) + v5)]) X V hl.1 ml_X10_264 mS_X10_lesser (t_X10_lesser l g σ33 r25 (((Int32.toInt64 r32) * 1000) + v5) _  h37) rfl rfl ⟨Nat.le_of_ble_eq_true rfl, Nat.le_of_ble_eq_true rfl⟩ rfl rfl (Nat.le_of_ble_eq_true rfl) ⟨Nat.zero_le _, Nat.zero_le _⟩ dX10_bothChance_141 (fun H locs V => ?_)
    refine lv_lmul X.1 X.2.1 dX10_bothChance_144 ?_
    refine lv_ladd X.1 X.2.1 dX10_bothChance_145 ?_
    refine lv_topl (fun x38 e39 => ?_)
    have hf := bl_let_at e39 hf
    refine lv_lstore (lv' := [(7, .long x38), (12, .long r25), (10, .long x7), (0, .ref (bl_ad g v0)), (1, .int v1), (2, .int v2), (3, .int v3), (4, .int v4), (5, .long v5), (9, .int v9)]) X.1 X.2.1 dX10_bothChance_146 hl (by decide) rfl (fun ls hl => ?_)
    obtain ⟨x40, e41⟩ : ∃ z : Int32, z = v9 + 1 := ⟨_, rfl⟩
    have hf := bl_let_at e41 hf
    refine lv_iinc (v := x40) (lv' := [(9, .int x40), (7, .long x38), (12, .long r25), (10, .long x7), (0, .ref (bl_ad g v0)), (1, .int v1), (2, .int v2), (3, .int v3), (4, .int v4), (5, .long v5)]) X.1 X.2.1 dX10_bothChance_148 hl (k := 9) rfl (by rw [e41]; rfl) (by decide) rfl (fun ls hl => ?_)
    refine lv_goto (tgt := 42) X.1 X.2.1 dX10_bothChance_151 (by decide) ?_
    exact hk42 σ36 v0 v1 v2 v3 v4 v5 x38 x40 hv0 hf _ _ _ V (lv_sub hl [4, 5, 6, 7, 8, 9, 1, 0] rfl)
theorem l_X10_bothChance_42 {p : Program} {l : Launch} {e : Env} {s : State} {m : MethodId} {below : List Frame} {meth : Method} {c : Code} {g : bl_Gp} {as : List Value} {out : Int64 × bl_St} (X : bl_Cx g p s m as.toArray meth c cX10_bothChance 14 RX10) (hr : meth.sig.returnType = (Option.some Jvm.ClassFile.FieldType.long)) (n : Nat) : ∀ (σ : bl_St) (v0 : Nat) (v1 : Int32) (v2 : Int32) (v3 : Int32) (v4 : Int32) (v5 : Int64) (v7 : Int64) (v9 : Int32), bl_sh[v0]? = some (10, 28) → (bl_fx (fun _ _ _ _ _ _ _ _ _ => none) (b_X10_bothChance_42 ) n) σ v0 v1 v2 v3 v4 v5 v7 v9 = some out → ∀ (H : Heap) (locs : List Loc) (ls : Array Slot), bl_V g s σ H locs → lv_has ls 14 [(0, .ref (bl_ad g v0)), (1, .int v1), (2, .int v2), (3, .int v3), (4, .int v4), (5, .long v5), (7, .long v7), (9, .int v9)] → W p l e (bl_rm 2 43) s m as.toArray below meth c H locs 0 0 (bl_Ql below g s as out) (F0 m 42 ls []) := by
  induction n with
  | zero =>
    intro σ v0 v1 v2 v3 v4 v5 v7 v9 hv0 hf H locs ls V hl
    cases hf
  | succ n ih => exact w_X10_bothChance_42 X hr  _ ih
set_option maxHeartbeats 4000000 in
set_option maxRecDepth 100000 in
theorem t_X10_bothChance (l : Launch) (g : bl_Gp) (σ : bl_St) (a0 : Nat) (a1 : Int32) (a2 : Int32) (a3 : Int32) (o : Int64 × bl_St) (ha0 : bl_sh[a0]? = some (10, 28)) (hf : f_X10_bothChance σ a0 a1 a2 a3 = some o) : bl_Cl l g yX10_bothChance cX10_bothChance 14 (Option.some Jvm.ClassFile.FieldType.long) (bl_rm 2 43) [.ref (bl_ad g a0), .int a1, .int a2, .int a3] σ o := by
  refine bl_met (by decide) (Nat.le_of_ble_eq_true rfl) (fun p e s m below meth c ls X hr V hl => ?_)
  have hl : lv_has ls 14 [(0, .ref (bl_ad g a0)), (1, .int a1), (2, .int a2), (3, .int a3)] := hl
  unfold f_X10_bothChance at hf
  refine lv_aload_n X.1 X.2.1 dX10_bothChance_0 rfl (lv_at hl 0 rfl) ?_
  obtain ⟨r42, σ43, h44, hf⟩ := bl_bd_at hf
  refine bl_cVi (As := []) X V hl.1 ha0 rfl ml_X10_135 mV_X10_weights (t_X10_weights l g σ a0 _ ha0 h44) rfl rfl ⟨Nat.le_of_ble_eq_true rfl, Nat.le_of_ble_eq_true rfl⟩ rfl rfl (Nat.le_of_ble_eq_true rfl) ⟨Nat.zero_le _, Nat.zero_le _⟩ dX10_bothChance_1 (fun H locs V => ?_)
  refine lv_istore (lv' := [(4, .int r42), (0, .ref (bl_ad g a0)), (1, .int a1), (2, .int a2), (3, .int a3)]) X.1 X.2.1 dX10_bothChance_4 hl (by decide) rfl (fun ls hl => ?_)
  refine lv_aload_n X.1 X.2.1 dX10_bothChance_6 rfl (lv_at hl 1 rfl) ?_
  refine bl_getr X V ha0 fl_X10_46 rfl dX10_bothChance_7 (fun h45 => ?_)
  refine lv_iload_n X.1 X.2.1 dX10_bothChance_10 rfl (lv_at hl 2 rfl) ?_
  refine lv_iconst (v := 1) X.1 X.2.1 dX10_bothChance_11 (by decide) ?_
  refine lv_iadd X.1 X.2.1 dX10_bothChance_12 ?_
  refine lv_iload_n X.1 X.2.1 dX10_bothChance_13 rfl (lv_at hl 3 rfl) ?_
  refine lv_iload_n X.1 X.2.1 dX10_bothChance_14 rfl (lv_at hl 4 rfl) ?_
  obtain ⟨r46, σ47, h48, hf⟩ := bl_bd_at hf
  refine bl_cSi (As := [.int (a1 + 1), .int a2, .int a3]) X V hl.1 ml_X10_258 mS_X10_slotOf (t_X10_slotOf l g σ43 (a1 + 1) a2 a3 _  h48) rfl rfl ⟨Nat.le_of_ble_eq_true rfl, Nat.le_of_ble_eq_true rfl⟩ rfl rfl (Nat.le_of_ble_eq_true rfl) ⟨Nat.zero_le _, Nat.zero_le _⟩ dX10_bothChance_15 (fun H locs V => ?_)
  obtain ⟨h49, hf⟩ := bl_gd_at hf
  refine bl_lald (k := (Int32.toNatClampNeg r46)) X V h45 h49 rfl dX10_bothChance_18 ?_
  refine lv_topl (fun x50 e51 => ?_)
  have hf := bl_let_at e51 hf
  refine lv_lstore (lv' := [(5, .long x50), (4, .int r42), (0, .ref (bl_ad g a0)), (1, .int a1), (2, .int a2), (3, .int a3)]) X.1 X.2.1 dX10_bothChance_19 hl (by decide) rfl (fun ls hl => ?_)
  refine lv_bipush (v := 12) X.1 X.2.1 dX10_bothChance_21 (by decide) ?_
  refine lv_aload_n X.1 X.2.1 dX10_bothChance_23 rfl (lv_at hl 2 rfl) ?_
  refine bl_getr X V ha0 fl_X10_13 rfl dX10_bothChance_24 (fun h52 => ?_)
  refine lv_iconst (v := 3) X.1 X.2.1 dX10_bothChance_27 (by decide) ?_
  refine bl_iald (k := 3) X V h52 (by decide) (by decide) dX10_bothChance_28 ?_
  refine lv_isub X.1 X.2.1 dX10_bothChance_29 ?_
  refine lv_iload X.1 X.2.1 dX10_bothChance_30 (lv_at hl 1 rfl) ?_
  refine lv_imul X.1 X.2.1 dX10_bothChance_32 ?_
  refine lv_i2l X.1 X.2.1 dX10_bothChance_33 rfl ?_
  refine lv_lload X.1 X.2.1 dX10_bothChance_34 (lv_at hl 0 rfl) ?_
  refine lv_lmul X.1 X.2.1 dX10_bothChance_36 ?_
  refine lv_topl (fun x53 e54 => ?_)
  have hf := bl_let_at e54 hf
  refine lv_lstore (lv' := [(7, .long x53), (5, .long x50), (4, .int r42), (0, .ref (bl_ad g a0)), (1, .int a1), (2, .int a2), (3, .int a3)]) X.1 X.2.1 dX10_bothChance_37 hl (by decide) rfl (fun ls hl => ?_)
  refine lv_iconst (v := 0) X.1 X.2.1 dX10_bothChance_39 (by decide) ?_
  refine lv_istore (lv' := [(9, .int 0), (7, .long x53), (5, .long x50), (4, .int r42), (0, .ref (bl_ad g a0)), (1, .int a1), (2, .int a2), (3, .int a3)]) X.1 X.2.1 dX10_bothChance_40 hl (by decide) rfl (fun ls hl => ?_)
  exact l_X10_bothChance_42 X hr  bl_fu σ47 a0 a1 a2 a3 r42 x50 x53 0 ha0 hf _ _ _ V (lv_sub hl [4, 5, 6, 7, 3, 2, 1, 0] rfl)
set_option maxHeartbeats 4000000 in
set_option maxRecDepth 100000 in
theorem w_X10_bothYear_107 {p : Program} {l : Launch} {e : Env} {s : State} {m : MethodId} {below : List Frame} {meth : Method} {c : Code} {g : bl_Gp} {as : List Value} {out : Int64 × bl_St} (X : bl_Cx g p s m as.toArray meth c cX10_bothYear 8 RX10) (hr : meth.sig.returnType = (Option.some Jvm.ClassFile.FieldType.long)) (k98 : bl_St → Nat → Int32 → Int32 → Int32 → Int32 → Option (Int64 × bl_St)) (hk98 : ∀ (σ : bl_St) (v0 : Nat) (v2 : Int32) (v3 : Int32) (v5 : Int32) (v6 : Int32), bl_sh[v0]? = some (10, 28) → k98 σ v0 v2 v3 v5 v6 = some out → ∀ (H : Heap) (locs : List Loc) (ls : Array Slot), bl_V g s σ H locs → lv_has ls 8 [(0, .ref (bl_ad g v0)), (2, .int v2), (3, .int v3), (5, .int v5), (6, .int v6)] → W p l e (bl_rm 3 76) s m as.toArray below meth c H locs 0 0 (bl_Ql below g s as out) (F0 m 98 ls [])) (k107 : bl_St → Nat → Int32 → Int32 → Int32 → Int32 → Int32 → Option (Int64 × bl_St)) (hk107 : ∀ (σ : bl_St) (v0 : Nat) (v2 : Int32) (v3 : Int32) (v5 : Int32) (v6 : Int32) (v7 : Int32), bl_sh[v0]? = some (10, 28) → k107 σ v0 v2 v3 v5 v6 v7 = some out → ∀ (H : Heap) (locs : List Loc) (ls : Array Slot), bl_V g s σ H locs → lv_has ls 8 [(0, .ref (bl_ad g v0)), (2, .int v2), (3, .int v3), (5, .int v5), (6, .int v6), (7, .int v7)] → W p l e (bl_rm 3 76) s m as.toArray below meth c H locs 0 0 (bl_Ql below g s as out) (F0 m 107 ls [])) : ∀ (σ : bl_St) (v0 : Nat) (v2 : Int32) (v3 : Int32) (v5 : Int32) (v6 : Int32) (v7 : Int32), bl_sh[v0]? = some (10, 28) → (b_X10_bothYear_107 k98 k107) σ v0 v2 v3 v5 v6 v7 = some out → ∀ (H : Heap) (locs : List Loc) (ls : Array Slot), bl_V g s σ H locs → lv_has ls 8 [(0, .ref (bl_ad g v0)), (2, .int v2), (3, .int v3), (5, .int v5), (6, .int v6), (7, .int v7)] → W p l e (bl_rm 3 76) s m as.toArray below meth c H locs 0 0 (bl_Ql below g s as out) (F0 m 107 ls []) := by
  intro σ v0 v2 v3 v5 v6 v7 hv0 hf H locs ls V hl
  unfold b_X10_bothYear_107 at hf
  refine lv_iload X.1 X.2.1 dX10_bothYear_107 (lv_at hl 5 rfl) ?_
  refine lv_iconst (v := 3) X.1 X.2.1 dX10_bothYear_109 (by decide) ?_
  refine lv_icmp_ge (tgt := 143) X.1 X.2.1 dX10_bothYear_110 (by decide) (fun c1 => ?_) (fun c1 => ?_)
  · have hf := bl_ifp c1 hf
    obtain ⟨x2, e3⟩ : ∃ z : Int32, z = v6 + 1 := ⟨_, rfl⟩
    have hf := bl_let_at e3 hf
    refine lv_iinc (v := x2) (lv' := [(6, .int x2), (0, .ref (bl_ad g v0)), (2, .int v2), (3, .int v3), (5, .int v5), (7, .int v7)]) X.1 X.2.1 dX10_bothYear_143 hl (k := 4) rfl (by rw [e3]; rfl) (by decide) rfl (fun ls hl => ?_)
    refine lv_goto (tgt := 98) X.1 X.2.1 dX10_bothYear_146 (by decide) ?_
    exact hk98 σ v0 v2 v3 v5 x2 hv0 hf _ _ _ V (lv_sub hl [1, 2, 3, 4, 0] rfl)
  · have hf := bl_ifn c1 hf
    refine lv_aload_n X.1 X.2.1 dX10_bothYear_113 rfl (lv_at hl 0 rfl) ?_
    refine bl_getr X V hv0 fl_X10_46 rfl dX10_bothYear_114 (fun h4 => ?_)
    refine lv_iload X.1 X.2.1 dX10_bothYear_117 (lv_at hl 3 rfl) ?_
    refine lv_iload X.1 X.2.1 dX10_bothYear_119 (lv_at hl 4 rfl) ?_
    refine lv_iload X.1 X.2.1 dX10_bothYear_121 (lv_at hl 5 rfl) ?_
    obtain ⟨r5, σ6, h7, hf⟩ := bl_bd_at hf
    refine bl_cSi (As := [.int v5, .int v6, .int v7]) X V hl.1 ml_X10_258 mS_X10_slotOf (t_X10_slotOf l g σ v5 v6 v7 _  h7) rfl rfl ⟨Nat.le_of_ble_eq_true rfl, Nat.le_of_ble_eq_true rfl⟩ rfl rfl (Nat.le_of_ble_eq_true rfl) ⟨Nat.zero_le _, Nat.zero_le _⟩ dX10_bothYear_123 (fun H locs V => ?_)
    refine lv_aload_n X.1 X.2.1 dX10_bothYear_126 rfl (lv_at hl 0 rfl) ?_
    refine lv_iload X.1 X.2.1 dX10_bothYear_127 (lv_at hl 3 rfl) ?_
    refine lv_iload X.1 X.2.1 dX10_bothYear_129 (lv_at hl 4 rfl) ?_
    refine lv_iload X.1 X.2.1 dX10_bothYear_131 (lv_at hl 5 rfl) ?_
    obtain ⟨r8, σ9, h10, hf⟩ := bl_bd_at hf
    refine bl_cVl (As := [.int v5, .int v6, .int v7]) X V hl.1 hv0 rfl ml_X10_267 mV_X10_bothChance (t_X10_bothChance l g σ6 v0 v5 v6 v7 _ hv0 h10) rfl rfl ⟨Nat.le_of_ble_eq_true rfl, Nat.le_of_ble_eq_true rfl⟩ rfl rfl (Nat.le_of_ble_eq_true rfl) ⟨Nat.zero_le _, Nat.zero_le _⟩ dX10_bothYear_133 (fun H locs V => ?_)
    obtain ⟨h11, hf⟩ := bl_gd_at hf
    refine bl_last (k := (Int32.toNatClampNeg r5)) X V h4 h11 rfl dX10_bothYear_136 (fun σ12 H locs e13 V => ?_)
    have hf := bl_let_at e13 hf
    obtain ⟨x14, e15⟩ : ∃ z : Int32, z = v7 + 1 := ⟨_, rfl⟩
    have hf := bl_let_at e15 hf
    refine lv_iinc (v := x14) (lv' := [(7, .int x14), (0, .ref (bl_ad g v0)), (2, .int v2), (3, .int v3), (5, .int v5), (6, .int v6)]) X.1 X.2.1 dX10_bothYear_137 hl (k := 5) rfl (by rw [e15]; rfl) (by decide) rfl (fun ls hl => ?_)
    refine lv_goto (tgt := 107) X.1 X.2.1 dX10_bothYear_140 (by decide) ?_
    exact hk107 σ12 v0 v2 v3 v5 v6 x14 hv0 hf _ _ _ V (lv_sub hl [1, 2, 3, 4, 5, 0] rfl)
theorem l_X10_bothYear_107 {p : Program} {l : Launch} {e : Env} {s : State} {m : MethodId} {below : List Frame} {meth : Method} {c : Code} {g : bl_Gp} {as : List Value} {out : Int64 × bl_St} (X : bl_Cx g p s m as.toArray meth c cX10_bothYear 8 RX10) (hr : meth.sig.returnType = (Option.some Jvm.ClassFile.FieldType.long)) (k98 : bl_St → Nat → Int32 → Int32 → Int32 → Int32 → Option (Int64 × bl_St)) (hk98 : ∀ (σ : bl_St) (v0 : Nat) (v2 : Int32) (v3 : Int32) (v5 : Int32) (v6 : Int32), bl_sh[v0]? = some (10, 28) → k98 σ v0 v2 v3 v5 v6 = some out → ∀ (H : Heap) (locs : List Loc) (ls : Array Slot), bl_V g s σ H locs → lv_has ls 8 [(0, .ref (bl_ad g v0)), (2, .int v2), (3, .int v3), (5, .int v5), (6, .int v6)] → W p l e (bl_rm 3 76) s m as.toArray below meth c H locs 0 0 (bl_Ql below g s as out) (F0 m 98 ls [])) (n : Nat) : ∀ (σ : bl_St) (v0 : Nat) (v2 : Int32) (v3 : Int32) (v5 : Int32) (v6 : Int32) (v7 : Int32), bl_sh[v0]? = some (10, 28) → (bl_fx (fun _ _ _ _ _ _ _ => none) (b_X10_bothYear_107 k98) n) σ v0 v2 v3 v5 v6 v7 = some out → ∀ (H : Heap) (locs : List Loc) (ls : Array Slot), bl_V g s σ H locs → lv_has ls 8 [(0, .ref (bl_ad g v0)), (2, .int v2), (3, .int v3), (5, .int v5), (6, .int v6), (7, .int v7)] → W p l e (bl_rm 3 76) s m as.toArray below meth c H locs 0 0 (bl_Ql below g s as out) (F0 m 107 ls []) := by
  induction n with
  | zero =>
    intro σ v0 v2 v3 v5 v6 v7 hv0 hf H locs ls V hl
    cases hf
  | succ n ih => exact w_X10_bothYear_107 X hr k98 hk98 _ ih
set_option maxHeartbeats 4000000 in
set_option maxRecDepth 100000 in
theorem w_X10_bothYear_98 {p : Program} {l : Launch} {e : Env} {s : State} {m : MethodId} {below : List Frame} {meth : Method} {c : Code} {g : bl_Gp} {as : List Value} {out : Int64 × bl_St} (X : bl_Cx g p s m as.toArray meth c cX10_bothYear 8 RX10) (hr : meth.sig.returnType = (Option.some Jvm.ClassFile.FieldType.long)) (k90 : bl_St → Nat → Int32 → Int32 → Int32 → Option (Int64 × bl_St)) (hk90 : ∀ (σ : bl_St) (v0 : Nat) (v2 : Int32) (v3 : Int32) (v5 : Int32), bl_sh[v0]? = some (10, 28) → k90 σ v0 v2 v3 v5 = some out → ∀ (H : Heap) (locs : List Loc) (ls : Array Slot), bl_V g s σ H locs → lv_has ls 8 [(0, .ref (bl_ad g v0)), (2, .int v2), (3, .int v3), (5, .int v5)] → W p l e (bl_rm 3 76) s m as.toArray below meth c H locs 0 0 (bl_Ql below g s as out) (F0 m 90 ls [])) (k98 : bl_St → Nat → Int32 → Int32 → Int32 → Int32 → Option (Int64 × bl_St)) (hk98 : ∀ (σ : bl_St) (v0 : Nat) (v2 : Int32) (v3 : Int32) (v5 : Int32) (v6 : Int32), bl_sh[v0]? = some (10, 28) → k98 σ v0 v2 v3 v5 v6 = some out → ∀ (H : Heap) (locs : List Loc) (ls : Array Slot), bl_V g s σ H locs → lv_has ls 8 [(0, .ref (bl_ad g v0)), (2, .int v2), (3, .int v3), (5, .int v5), (6, .int v6)] → W p l e (bl_rm 3 76) s m as.toArray below meth c H locs 0 0 (bl_Ql below g s as out) (F0 m 98 ls [])) : ∀ (σ : bl_St) (v0 : Nat) (v2 : Int32) (v3 : Int32) (v5 : Int32) (v6 : Int32), bl_sh[v0]? = some (10, 28) → (b_X10_bothYear_98 k90 k98) σ v0 v2 v3 v5 v6 = some out → ∀ (H : Heap) (locs : List Loc) (ls : Array Slot), bl_V g s σ H locs → lv_has ls 8 [(0, .ref (bl_ad g v0)), (2, .int v2), (3, .int v3), (5, .int v5), (6, .int v6)] → W p l e (bl_rm 3 76) s m as.toArray below meth c H locs 0 0 (bl_Ql below g s as out) (F0 m 98 ls []) := by
  intro σ v0 v2 v3 v5 v6 hv0 hf H locs ls V hl
  unfold b_X10_bothYear_98 at hf
  refine lv_iload X.1 X.2.1 dX10_bothYear_98 (lv_at hl 4 rfl) ?_
  refine lv_iconst (v := 3) X.1 X.2.1 dX10_bothYear_100 (by decide) ?_
  refine lv_icmp_ge (tgt := 149) X.1 X.2.1 dX10_bothYear_101 (by decide) (fun c16 => ?_) (fun c16 => ?_)
  · have hf := bl_ifp c16 hf
    obtain ⟨x17, e18⟩ : ∃ z : Int32, z = v5 + (-1) := ⟨_, rfl⟩
    have hf := bl_let_at e18 hf
    refine lv_iinc (v := x17) (lv' := [(5, .int x17), (0, .ref (bl_ad g v0)), (2, .int v2), (3, .int v3), (6, .int v6)]) X.1 X.2.1 dX10_bothYear_149 hl (k := 3) rfl (by rw [e18]; rfl) (by decide) rfl (fun ls hl => ?_)
    refine lv_goto (tgt := 90) X.1 X.2.1 dX10_bothYear_152 (by decide) ?_
    exact hk90 σ v0 v2 v3 x17 hv0 hf _ _ _ V (lv_sub hl [1, 2, 3, 0] rfl)
  · have hf := bl_ifn c16 hf
    refine lv_iconst (v := 0) X.1 X.2.1 dX10_bothYear_104 (by decide) ?_
    refine lv_istore (lv' := [(7, .int 0), (0, .ref (bl_ad g v0)), (2, .int v2), (3, .int v3), (5, .int v5), (6, .int v6)]) X.1 X.2.1 dX10_bothYear_105 hl (by decide) rfl (fun ls hl => ?_)
    exact l_X10_bothYear_107 X hr k98 hk98 bl_fu σ v0 v2 v3 v5 v6 0 hv0 hf _ _ _ V (lv_sub hl [1, 2, 3, 4, 5, 0] rfl)
theorem l_X10_bothYear_98 {p : Program} {l : Launch} {e : Env} {s : State} {m : MethodId} {below : List Frame} {meth : Method} {c : Code} {g : bl_Gp} {as : List Value} {out : Int64 × bl_St} (X : bl_Cx g p s m as.toArray meth c cX10_bothYear 8 RX10) (hr : meth.sig.returnType = (Option.some Jvm.ClassFile.FieldType.long)) (k90 : bl_St → Nat → Int32 → Int32 → Int32 → Option (Int64 × bl_St)) (hk90 : ∀ (σ : bl_St) (v0 : Nat) (v2 : Int32) (v3 : Int32) (v5 : Int32), bl_sh[v0]? = some (10, 28) → k90 σ v0 v2 v3 v5 = some out → ∀ (H : Heap) (locs : List Loc) (ls : Array Slot), bl_V g s σ H locs → lv_has ls 8 [(0, .ref (bl_ad g v0)), (2, .int v2), (3, .int v3), (5, .int v5)] → W p l e (bl_rm 3 76) s m as.toArray below meth c H locs 0 0 (bl_Ql below g s as out) (F0 m 90 ls [])) (n : Nat) : ∀ (σ : bl_St) (v0 : Nat) (v2 : Int32) (v3 : Int32) (v5 : Int32) (v6 : Int32), bl_sh[v0]? = some (10, 28) → (bl_fx (fun _ _ _ _ _ _ => none) (b_X10_bothYear_98 k90) n) σ v0 v2 v3 v5 v6 = some out → ∀ (H : Heap) (locs : List Loc) (ls : Array Slot), bl_V g s σ H locs → lv_has ls 8 [(0, .ref (bl_ad g v0)), (2, .int v2), (3, .int v3), (5, .int v5), (6, .int v6)] → W p l e (bl_rm 3 76) s m as.toArray below meth c H locs 0 0 (bl_Ql below g s as out) (F0 m 98 ls []) := by
  induction n with
  | zero =>
    intro σ v0 v2 v3 v5 v6 hv0 hf H locs ls V hl
    cases hf
  | succ n ih => exact w_X10_bothYear_98 X hr k90 hk90 _ ih
set_option maxHeartbeats 4000000 in
set_option maxRecDepth 100000 in
theorem w_X10_bothYear_90 {p : Program} {l : Launch} {e : Env} {s : State} {m : MethodId} {below : List Frame} {meth : Method} {c : Code} {g : bl_Gp} {as : List Value} {out : Int64 × bl_St} (X : bl_Cx g p s m as.toArray meth c cX10_bothYear 8 RX10) (hr : meth.sig.returnType = (Option.some Jvm.ClassFile.FieldType.long)) (k90 : bl_St → Nat → Int32 → Int32 → Int32 → Option (Int64 × bl_St)) (hk90 : ∀ (σ : bl_St) (v0 : Nat) (v2 : Int32) (v3 : Int32) (v5 : Int32), bl_sh[v0]? = some (10, 28) → k90 σ v0 v2 v3 v5 = some out → ∀ (H : Heap) (locs : List Loc) (ls : Array Slot), bl_V g s σ H locs → lv_has ls 8 [(0, .ref (bl_ad g v0)), (2, .int v2), (3, .int v3), (5, .int v5)] → W p l e (bl_rm 3 76) s m as.toArray below meth c H locs 0 0 (bl_Ql below g s as out) (F0 m 90 ls [])) : ∀ (σ : bl_St) (v0 : Nat) (v2 : Int32) (v3 : Int32) (v5 : Int32), bl_sh[v0]? = some (10, 28) → (b_X10_bothYear_90 k90) σ v0 v2 v3 v5 = some out → ∀ (H : Heap) (locs : List Loc) (ls : Array Slot), bl_V g s σ H locs → lv_has ls 8 [(0, .ref (bl_ad g v0)), (2, .int v2), (3, .int v3), (5, .int v5)] → W p l e (bl_rm 3 76) s m as.toArray below meth c H locs 0 0 (bl_Ql below g s as out) (F0 m 90 ls []) := by
  intro σ v0 v2 v3 v5 hv0 hf H locs ls V hl
  unfold b_X10_bothYear_90 at hf
  refine lv_iload X.1 X.2.1 dX10_bothYear_90 (lv_at hl 3 rfl) ?_
  refine lv_if_lt (tgt := 155) X.1 X.2.1 dX10_bothYear_92 (by decide) (fun c19 => ?_) (fun c19 => ?_)
  · have hf := bl_ifp c19 hf
    refine lv_aload_n X.1 X.2.1 dX10_bothYear_155 rfl (lv_at hl 0 rfl) ?_
    refine lv_iload_n X.1 X.2.1 dX10_bothYear_156 rfl (lv_at hl 1 rfl) ?_
    refine lv_iconst (v := 0) X.1 X.2.1 dX10_bothYear_157 (by decide) ?_
    obtain ⟨r20, σ21, h22, hf⟩ := bl_bd_at hf
    refine bl_cVi (As := [.int v2, .int 0]) X V hl.1 hv0 rfl ml_X10_74 mV_X10_ofClass (t_X10_ofClass l g σ v0 v2 0 _ hv0 h22) rfl rfl ⟨Nat.le_of_ble_eq_true rfl, Nat.le_of_ble_eq_true rfl⟩ rfl rfl (Nat.le_of_ble_eq_true rfl) ⟨Nat.zero_le _, Nat.zero_le _⟩ dX10_bothYear_158 (fun H locs V => ?_)
    refine lv_aload_n X.1 X.2.1 dX10_bothYear_161 rfl (lv_at hl 0 rfl) ?_
    refine lv_iload_n X.1 X.2.1 dX10_bothYear_162 rfl (lv_at hl 2 rfl) ?_
    refine lv_iconst (v := 0) X.1 X.2.1 dX10_bothYear_163 (by decide) ?_
    obtain ⟨r23, σ24, h25, hf⟩ := bl_bd_at hf
    refine bl_cVi (As := [.int v3, .int 0]) X V hl.1 hv0 rfl ml_X10_74 mV_X10_ofClass (t_X10_ofClass l g σ21 v0 v3 0 _ hv0 h25) rfl rfl ⟨Nat.le_of_ble_eq_true rfl, Nat.le_of_ble_eq_true rfl⟩ rfl rfl (Nat.le_of_ble_eq_true rfl) ⟨Nat.zero_le _, Nat.zero_le _⟩ dX10_bothYear_164 (fun H locs V => ?_)
    refine lv_iadd X.1 X.2.1 dX10_bothYear_167 ?_
    refine lv_i2l X.1 X.2.1 dX10_bothYear_168 rfl ?_
    refine lv_ldc2 (v := 1000) X.1 X.2.1 X.2.2.2.1 (X.2.2.2.2.1 _ kl_X10_179) dX10_bothYear_169 ?_
    refine lv_lmul X.1 X.2.1 dX10_bothYear_172 ?_
    refine lv_aload_n X.1 X.2.1 dX10_bothYear_173 rfl (lv_at hl 0 rfl) ?_
    refine bl_getr X V hv0 fl_X10_46 rfl dX10_bothYear_174 (fun h26 => ?_)
    refine lv_iconst (v := 0) X.1 X.2.1 dX10_bothYear_177 (by decide) ?_
    refine bl_lald (k := 0) X V h26 (by decide) (by decide) dX10_bothYear_178 ?_
    refine lv_ladd X.1 X.2.1 dX10_bothYear_179 ?_
    exact bl_retl X V hr hf dX10_bothYear_180
  · have hf := bl_ifn c19 hf
    refine lv_iconst (v := 0) X.1 X.2.1 dX10_bothYear_95 (by decide) ?_
    refine lv_istore (lv' := [(6, .int 0), (0, .ref (bl_ad g v0)), (2, .int v2), (3, .int v3), (5, .int v5)]) X.1 X.2.1 dX10_bothYear_96 hl (by decide) rfl (fun ls hl => ?_)
    exact l_X10_bothYear_98 X hr k90 hk90 bl_fu σ v0 v2 v3 v5 0 hv0 hf _ _ _ V (lv_sub hl [1, 2, 3, 4, 0] rfl)
theorem l_X10_bothYear_90 {p : Program} {l : Launch} {e : Env} {s : State} {m : MethodId} {below : List Frame} {meth : Method} {c : Code} {g : bl_Gp} {as : List Value} {out : Int64 × bl_St} (X : bl_Cx g p s m as.toArray meth c cX10_bothYear 8 RX10) (hr : meth.sig.returnType = (Option.some Jvm.ClassFile.FieldType.long)) (n : Nat) : ∀ (σ : bl_St) (v0 : Nat) (v2 : Int32) (v3 : Int32) (v5 : Int32), bl_sh[v0]? = some (10, 28) → (bl_fx (fun _ _ _ _ _ => none) (b_X10_bothYear_90 ) n) σ v0 v2 v3 v5 = some out → ∀ (H : Heap) (locs : List Loc) (ls : Array Slot), bl_V g s σ H locs → lv_has ls 8 [(0, .ref (bl_ad g v0)), (2, .int v2), (3, .int v3), (5, .int v5)] → W p l e (bl_rm 3 76) s m as.toArray below meth c H locs 0 0 (bl_Ql below g s as out) (F0 m 90 ls []) := by
  induction n with
  | zero =>
    intro σ v0 v2 v3 v5 hv0 hf H locs ls V hl
    cases hf
  | succ n ih => exact w_X10_bothYear_90 X hr  _ ih
set_option maxHeartbeats 4000000 in
set_option maxRecDepth 100000 in
theorem w_X10_bothYear_22 {p : Program} {l : Launch} {e : Env} {s : State} {m : MethodId} {below : List Frame} {meth : Method} {c : Code} {g : bl_Gp} {as : List Value} {out : Int64 × bl_St} (X : bl_Cx g p s m as.toArray meth c cX10_bothYear 8 RX10) (hr : meth.sig.returnType = (Option.some Jvm.ClassFile.FieldType.long)) (k13 : bl_St → Nat → Int32 → Int32 → Int32 → Int32 → Int32 → Option (Int64 × bl_St)) (hk13 : ∀ (σ : bl_St) (v0 : Nat) (v1 : Int32) (v2 : Int32) (v3 : Int32) (v4 : Int32) (v5 : Int32), bl_sh[v0]? = some (10, 28) → k13 σ v0 v1 v2 v3 v4 v5 = some out → ∀ (H : Heap) (locs : List Loc) (ls : Array Slot), bl_V g s σ H locs → lv_has ls 8 [(0, .ref (bl_ad g v0)), (1, .int v1), (2, .int v2), (3, .int v3), (4, .int v4), (5, .int v5)] → W p l e (bl_rm 3 76) s m as.toArray below meth c H locs 0 0 (bl_Ql below g s as out) (F0 m 13 ls [])) (k22 : bl_St → Nat → Int32 → Int32 → Int32 → Int32 → Int32 → Int32 → Option (Int64 × bl_St)) (hk22 : ∀ (σ : bl_St) (v0 : Nat) (v1 : Int32) (v2 : Int32) (v3 : Int32) (v4 : Int32) (v5 : Int32) (v6 : Int32), bl_sh[v0]? = some (10, 28) → k22 σ v0 v1 v2 v3 v4 v5 v6 = some out → ∀ (H : Heap) (locs : List Loc) (ls : Array Slot), bl_V g s σ H locs → lv_has ls 8 [(0, .ref (bl_ad g v0)), (1, .int v1), (2, .int v2), (3, .int v3), (4, .int v4), (5, .int v5), (6, .int v6)] → W p l e (bl_rm 3 76) s m as.toArray below meth c H locs 0 0 (bl_Ql below g s as out) (F0 m 22 ls [])) : ∀ (σ : bl_St) (v0 : Nat) (v1 : Int32) (v2 : Int32) (v3 : Int32) (v4 : Int32) (v5 : Int32) (v6 : Int32), bl_sh[v0]? = some (10, 28) → (b_X10_bothYear_22 k13 k22) σ v0 v1 v2 v3 v4 v5 v6 = some out → ∀ (H : Heap) (locs : List Loc) (ls : Array Slot), bl_V g s σ H locs → lv_has ls 8 [(0, .ref (bl_ad g v0)), (1, .int v1), (2, .int v2), (3, .int v3), (4, .int v4), (5, .int v5), (6, .int v6)] → W p l e (bl_rm 3 76) s m as.toArray below meth c H locs 0 0 (bl_Ql below g s as out) (F0 m 22 ls []) := by
  intro σ v0 v1 v2 v3 v4 v5 v6 hv0 hf H locs ls V hl
  unfold b_X10_bothYear_22 at hf
  refine lv_iload X.1 X.2.1 dX10_bothYear_22 (lv_at hl 6 rfl) ?_
  refine lv_iconst (v := 3) X.1 X.2.1 dX10_bothYear_24 (by decide) ?_
  refine lv_icmp_ge (tgt := 78) X.1 X.2.1 dX10_bothYear_25 (by decide) (fun c27 => ?_) (fun c27 => ?_)
  · have hf := bl_ifp c27 hf
    obtain ⟨x28, e29⟩ : ∃ z : Int32, z = v5 + 1 := ⟨_, rfl⟩
    have hf := bl_let_at e29 hf
    refine lv_iinc (v := x28) (lv' := [(5, .int x28), (0, .ref (bl_ad g v0)), (1, .int v1), (2, .int v2), (3, .int v3), (4, .int v4), (6, .int v6)]) X.1 X.2.1 dX10_bothYear_78 hl (k := 5) rfl (by rw [e29]; rfl) (by decide) rfl (fun ls hl => ?_)
    refine lv_goto (tgt := 13) X.1 X.2.1 dX10_bothYear_81 (by decide) ?_
    exact hk13 σ v0 v1 v2 v3 v4 x28 hv0 hf _ _ _ V (lv_sub hl [1, 2, 3, 4, 5, 0] rfl)
  · have hf := bl_ifn c27 hf
    refine lv_aload_n X.1 X.2.1 dX10_bothYear_28 rfl (lv_at hl 0 rfl) ?_
    refine bl_getr X V hv0 fl_X10_46 rfl dX10_bothYear_29 (fun h30 => ?_)
    refine lv_iload X.1 X.2.1 dX10_bothYear_32 (lv_at hl 4 rfl) ?_
    refine lv_iload X.1 X.2.1 dX10_bothYear_34 (lv_at hl 5 rfl) ?_
    refine lv_iload X.1 X.2.1 dX10_bothYear_36 (lv_at hl 6 rfl) ?_
    obtain ⟨r31, σ32, h33, hf⟩ := bl_bd_at hf
    refine bl_cSi (As := [.int v4, .int v5, .int v6]) X V hl.1 ml_X10_258 mS_X10_slotOf (t_X10_slotOf l g σ v4 v5 v6 _  h33) rfl rfl ⟨Nat.le_of_ble_eq_true rfl, Nat.le_of_ble_eq_true rfl⟩ rfl rfl (Nat.le_of_ble_eq_true rfl) ⟨Nat.zero_le _, Nat.zero_le _⟩ dX10_bothYear_38 (fun H locs V => ?_)
    refine lv_aload_n X.1 X.2.1 dX10_bothYear_41 rfl (lv_at hl 0 rfl) ?_
    refine bl_getr X V hv0 fl_X10_43 rfl dX10_bothYear_42 (fun h34 => ?_)
    refine lv_bipush (v := 64) X.1 X.2.1 dX10_bothYear_45 (by decide) ?_
    refine lv_iload_n X.1 X.2.1 dX10_bothYear_47 rfl (lv_at hl 1 rfl) ?_
    refine lv_iconst (v := 1) X.1 X.2.1 dX10_bothYear_48 (by decide) ?_
    refine lv_isub X.1 X.2.1 dX10_bothYear_49 ?_
    refine lv_imul X.1 X.2.1 dX10_bothYear_50 ?_
    refine lv_bipush (v := 8) X.1 X.2.1 dX10_bothYear_51 (by decide) ?_
    refine lv_aload_n X.1 X.2.1 dX10_bothYear_53 rfl (lv_at hl 0 rfl) ?_
    refine lv_iload_n X.1 X.2.1 dX10_bothYear_54 rfl (lv_at hl 2 rfl) ?_
    refine lv_iload X.1 X.2.1 dX10_bothYear_55 (lv_at hl 5 rfl) ?_
    obtain ⟨r35, σ36, h37, hf⟩ := bl_bd_at hf
    refine bl_cVi (As := [.int v2, .int v5]) X V hl.1 hv0 rfl ml_X10_118 mV_X10_behind (t_X10_behind l g σ32 v0 v2 v5 _ hv0 h37) rfl rfl ⟨Nat.le_of_ble_eq_true rfl, Nat.le_of_ble_eq_true rfl⟩ rfl rfl (Nat.le_of_ble_eq_true rfl) ⟨Nat.zero_le _, Nat.zero_le _⟩ dX10_bothYear_57 (fun H locs V => ?_)
    refine lv_imul X.1 X.2.1 dX10_bothYear_60 ?_
    refine lv_iadd X.1 X.2.1 dX10_bothYear_61 ?_
    refine lv_aload_n X.1 X.2.1 dX10_bothYear_62 rfl (lv_at hl 0 rfl) ?_
    refine lv_iload_n X.1 X.2.1 dX10_bothYear_63 rfl (lv_at hl 3 rfl) ?_
    refine lv_iload X.1 X.2.1 dX10_bothYear_64 (lv_at hl 6 rfl) ?_
    obtain ⟨r38, σ39, h40, hf⟩ := bl_bd_at hf
    refine bl_cVi (As := [.int v3, .int v6]) X V hl.1 hv0 rfl ml_X10_118 mV_X10_behind (t_X10_behind l g σ36 v0 v3 v6 _ hv0 h40) rfl rfl ⟨Nat.le_of_ble_eq_true rfl, Nat.le_of_ble_eq_true rfl⟩ rfl rfl (Nat.le_of_ble_eq_true rfl) ⟨Nat.zero_le _, Nat.zero_le _⟩ dX10_bothYear_66 (fun H locs V => ?_)
    refine lv_iadd X.1 X.2.1 dX10_bothYear_69 ?_
    obtain ⟨h41, hf⟩ := bl_gd_at hf
    refine bl_lald (k := (Int32.toNatClampNeg (((64 * (v1 - 1)) + (8 * r35)) + r38))) X V h34 h41 rfl dX10_bothYear_70 ?_
    obtain ⟨h42, hf⟩ := bl_gd_at hf
    refine bl_last (k := (Int32.toNatClampNeg r31)) X V h30 h42 rfl dX10_bothYear_71 (fun σ43 H locs e44 V => ?_)
    have hf := bl_let_at e44 hf
    obtain ⟨x45, e46⟩ : ∃ z : Int32, z = v6 + 1 := ⟨_, rfl⟩
    have hf := bl_let_at e46 hf
    refine lv_iinc (v := x45) (lv' := [(6, .int x45), (0, .ref (bl_ad g v0)), (1, .int v1), (2, .int v2), (3, .int v3), (4, .int v4), (5, .int v5)]) X.1 X.2.1 dX10_bothYear_72 hl (k := 6) rfl (by rw [e46]; rfl) (by decide) rfl (fun ls hl => ?_)
    refine lv_goto (tgt := 22) X.1 X.2.1 dX10_bothYear_75 (by decide) ?_
    exact hk22 σ43 v0 v1 v2 v3 v4 v5 x45 hv0 hf _ _ _ V (lv_sub hl [1, 2, 3, 4, 5, 6, 0] rfl)
theorem l_X10_bothYear_22 {p : Program} {l : Launch} {e : Env} {s : State} {m : MethodId} {below : List Frame} {meth : Method} {c : Code} {g : bl_Gp} {as : List Value} {out : Int64 × bl_St} (X : bl_Cx g p s m as.toArray meth c cX10_bothYear 8 RX10) (hr : meth.sig.returnType = (Option.some Jvm.ClassFile.FieldType.long)) (k13 : bl_St → Nat → Int32 → Int32 → Int32 → Int32 → Int32 → Option (Int64 × bl_St)) (hk13 : ∀ (σ : bl_St) (v0 : Nat) (v1 : Int32) (v2 : Int32) (v3 : Int32) (v4 : Int32) (v5 : Int32), bl_sh[v0]? = some (10, 28) → k13 σ v0 v1 v2 v3 v4 v5 = some out → ∀ (H : Heap) (locs : List Loc) (ls : Array Slot), bl_V g s σ H locs → lv_has ls 8 [(0, .ref (bl_ad g v0)), (1, .int v1), (2, .int v2), (3, .int v3), (4, .int v4), (5, .int v5)] → W p l e (bl_rm 3 76) s m as.toArray below meth c H locs 0 0 (bl_Ql below g s as out) (F0 m 13 ls [])) (n : Nat) : ∀ (σ : bl_St) (v0 : Nat) (v1 : Int32) (v2 : Int32) (v3 : Int32) (v4 : Int32) (v5 : Int32) (v6 : Int32), bl_sh[v0]? = some (10, 28) → (bl_fx (fun _ _ _ _ _ _ _ _ => none) (b_X10_bothYear_22 k13) n) σ v0 v1 v2 v3 v4 v5 v6 = some out → ∀ (H : Heap) (locs : List Loc) (ls : Array Slot), bl_V g s σ H locs → lv_has ls 8 [(0, .ref (bl_ad g v0)), (1, .int v1), (2, .int v2), (3, .int v3), (4, .int v4), (5, .int v5), (6, .int v6)] → W p l e (bl_rm 3 76) s m as.toArray below meth c H locs 0 0 (bl_Ql below g s as out) (F0 m 22 ls []) := by
  induction n with
  | zero =>
    intro σ v0 v1 v2 v3 v4 v5 v6 hv0 hf H locs ls V hl
    cases hf
  | succ n ih => exact w_X10_bothYear_22 X hr k13 hk13 _ ih
set_option maxHeartbeats 4000000 in
set_option maxRecDepth 100000 in
theorem w_X10_bothYear_13 {p : Program} {l : Launch} {e : Env} {s : State} {m : MethodId} {below : List Frame} {meth : Method} {c : Code} {g : bl_Gp} {as : List Value} {out : Int64 × bl_St} (X : bl_Cx g p s m as.toArray meth c cX10_bothYear 8 RX10) (hr : meth.sig.returnType = (Option.some Jvm.ClassFile.FieldType.long)) (k13 : bl_St → Nat → Int32 → Int32 → Int32 → Int32 → Int32 → Option (Int64 × bl_St)) (hk13 : ∀ (σ : bl_St) (v0 : Nat) (v1 : Int32) (v2 : Int32) (v3 : Int32) (v4 : Int32) (v5 : Int32), bl_sh[v0]? = some (10, 28) → k13 σ v0 v1 v2 v3 v4 v5 = some out → ∀ (H : Heap) (locs : List Loc) (ls : Array Slot), bl_V g s σ H locs → lv_has ls 8 [(0, .ref (bl_ad g v0)), (1, .int v1), (2, .int v2), (3, .int v3), (4, .int v4), (5, .int v5)] → W p l e (bl_rm 3 76) s m as.toArray below meth c H locs 0 0 (bl_Ql below g s as out) (F0 m 13 ls [])) : ∀ (σ : bl_St) (v0 : Nat) (v1 : Int32) (v2 : Int32) (v3 : Int32) (v4 : Int32) (v5 : Int32), bl_sh[v0]? = some (10, 28) → (b_X10_bothYear_13 k13) σ v0 v1 v2 v3 v4 v5 = some out → ∀ (H : Heap) (locs : List Loc) (ls : Array Slot), bl_V g s σ H locs → lv_has ls 8 [(0, .ref (bl_ad g v0)), (1, .int v1), (2, .int v2), (3, .int v3), (4, .int v4), (5, .int v5)] → W p l e (bl_rm 3 76) s m as.toArray below meth c H locs 0 0 (bl_Ql below g s as out) (F0 m 13 ls []) := by
  intro σ v0 v1 v2 v3 v4 v5 hv0 hf H locs ls V hl
  unfold b_X10_bothYear_13 at hf
  refine lv_iload X.1 X.2.1 dX10_bothYear_13 (lv_at hl 5 rfl) ?_
  refine lv_iconst (v := 3) X.1 X.2.1 dX10_bothYear_15 (by decide) ?_
  refine lv_icmp_ge (tgt := 84) X.1 X.2.1 dX10_bothYear_16 (by decide) (fun c47 => ?_) (fun c47 => ?_)
  · have hf := bl_ifp c47 hf
    refine lv_iload X.1 X.2.1 dX10_bothYear_84 (lv_at hl 4 rfl) ?_
    refine lv_iconst (v := 1) X.1 X.2.1 dX10_bothYear_86 (by decide) ?_
    refine lv_isub X.1 X.2.1 dX10_bothYear_87 ?_
    refine lv_topi (fun x48 e49 => ?_)
    have hf := bl_let_at e49 hf
    refine lv_istore (lv' := [(5, .int x48), (0, .ref (bl_ad g v0)), (1, .int v1), (2, .int v2), (3, .int v3), (4, .int v4)]) X.1 X.2.1 dX10_bothYear_88 hl (by decide) rfl (fun ls hl => ?_)
    exact l_X10_bothYear_90 X hr  bl_fu σ v0 v2 v3 x48 hv0 hf _ _ _ V (lv_sub hl [1, 3, 4, 0] rfl)
  · have hf := bl_ifn c47 hf
    refine lv_iconst (v := 0) X.1 X.2.1 dX10_bothYear_19 (by decide) ?_
    refine lv_istore (lv' := [(6, .int 0), (0, .ref (bl_ad g v0)), (1, .int v1), (2, .int v2), (3, .int v3), (4, .int v4), (5, .int v5)]) X.1 X.2.1 dX10_bothYear_20 hl (by decide) rfl (fun ls hl => ?_)
    exact l_X10_bothYear_22 X hr k13 hk13 bl_fu σ v0 v1 v2 v3 v4 v5 0 hv0 hf _ _ _ V (lv_sub hl [1, 2, 3, 4, 5, 6, 0] rfl)
theorem l_X10_bothYear_13 {p : Program} {l : Launch} {e : Env} {s : State} {m : MethodId} {below : List Frame} {meth : Method} {c : Code} {g : bl_Gp} {as : List Value} {out : Int64 × bl_St} (X : bl_Cx g p s m as.toArray meth c cX10_bothYear 8 RX10) (hr : meth.sig.returnType = (Option.some Jvm.ClassFile.FieldType.long)) (n : Nat) : ∀ (σ : bl_St) (v0 : Nat) (v1 : Int32) (v2 : Int32) (v3 : Int32) (v4 : Int32) (v5 : Int32), bl_sh[v0]? = some (10, 28) → (bl_fx (fun _ _ _ _ _ _ _ => none) (b_X10_bothYear_13 ) n) σ v0 v1 v2 v3 v4 v5 = some out → ∀ (H : Heap) (locs : List Loc) (ls : Array Slot), bl_V g s σ H locs → lv_has ls 8 [(0, .ref (bl_ad g v0)), (1, .int v1), (2, .int v2), (3, .int v3), (4, .int v4), (5, .int v5)] → W p l e (bl_rm 3 76) s m as.toArray below meth c H locs 0 0 (bl_Ql below g s as out) (F0 m 13 ls []) := by
  induction n with
  | zero =>
    intro σ v0 v1 v2 v3 v4 v5 hv0 hf H locs ls V hl
    cases hf
  | succ n ih => exact w_X10_bothYear_13 X hr  _ ih
set_option maxHeartbeats 4000000 in
set_option maxRecDepth 100000 in
theorem t_X10_bothYear (l : Launch) (g : bl_Gp) (σ : bl_St) (a0 : Nat) (a1 : Int32) (a2 : Int32) (a3 : Int32) (o : Int64 × bl_St) (ha0 : bl_sh[a0]? = some (10, 28)) (hf : f_X10_bothYear σ a0 a1 a2 a3 = some o) : bl_Cl l g yX10_bothYear cX10_bothYear 8 (Option.some Jvm.ClassFile.FieldType.long) (bl_rm 3 76) [.ref (bl_ad g a0), .int a1, .int a2, .int a3] σ o := by
  refine bl_met (by decide) (Nat.le_of_ble_eq_true rfl) (fun p e s m below meth c ls X hr V hl => ?_)
  have hl : lv_has ls 8 [(0, .ref (bl_ad g a0)), (1, .int a1), (2, .int a2), (3, .int a3)] := hl
  unfold f_X10_bothYear at hf
  refine lv_iconst (v := 2) X.1 X.2.1 dX10_bothYear_0 (by decide) ?_
  refine lv_aload_n X.1 X.2.1 dX10_bothYear_1 rfl (lv_at hl 0 rfl) ?_
  refine bl_getr X V ha0 fl_X10_13 rfl dX10_bothYear_2 (fun h50 => ?_)
  refine lv_iconst (v := 2) X.1 X.2.1 dX10_bothYear_5 (by decide) ?_
  refine bl_iald (k := 2) X V h50 (by decide) (by decide) dX10_bothYear_6 ?_
  refine lv_imul X.1 X.2.1 dX10_bothYear_7 ?_
  refine lv_topi (fun x51 e52 => ?_)
  have hf := bl_let_at e52 hf
  refine lv_istore (lv' := [(4, .int x51), (0, .ref (bl_ad g a0)), (1, .int a1), (2, .int a2), (3, .int a3)]) X.1 X.2.1 dX10_bothYear_8 hl (by decide) rfl (fun ls hl => ?_)
  refine lv_iconst (v := 0) X.1 X.2.1 dX10_bothYear_10 (by decide) ?_
  refine lv_istore (lv' := [(5, .int 0), (4, .int x51), (0, .ref (bl_ad g a0)), (1, .int a1), (2, .int a2), (3, .int a3)]) X.1 X.2.1 dX10_bothYear_11 hl (by decide) rfl (fun ls hl => ?_)
  exact l_X10_bothYear_13 X hr  bl_fu σ a0 a1 a2 a3 x51 0 ha0 hf _ _ _ V (lv_sub hl [2, 3, 4, 5, 1, 0] rfl)
