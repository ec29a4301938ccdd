set_option maxHeartbeats 4000000 in
set_option maxRecDepth 100000 in
theorem t_J9_floorMod_7cf53 (l : Launch) (g : bl_Gp) (σ : bl_St) (a0 : Int32) (a1 : Int32) (o : Int32 × bl_St) (hf : f_J9_floorMod_7cf53 σ a0 a1 = some o) : bl_Ci l g yJ9_floorMod_7cf53 cJ9_floorMod_7cf53 3 (Option.some Jvm.ClassFile.FieldType.int) (bl_rm 0 0) [.int a0, .int a1] σ o := by
  refine bl_metF (by decide +kernel) (Nat.le_of_ble_eq_true rfl) (fun p e s m below meth c ls X hr V hl => ?_)
  have hl : lv_has ls 3 [(0, .int a0), (1, .int a1)] := hl
  unfold f_J9_floorMod_7cf53 at hf
  refine lv_iload_n X.1 X.2.1 dJ9_floorMod_7cf53_0 rfl (lv_at hl 0 rfl) ?_
  refine lv_iload_n X.1 X.2.1 dJ9_floorMod_7cf53_1 rfl (lv_at hl 1 rfl) ?_
  obtain ⟨h1, hf⟩ := bl_gd_at hf
  refine lv_irem X.1 X.2.1 dJ9_floorMod_7cf53_2 (by simpa using h1) ?_
  refine lv_topi (fun x2 e3 => ?_)
  have hf := bl_let_at e3 hf
  refine lv_istore_n (lv' := [(2, .int x2), (0, .int a0), (1, .int a1)]) X.1 X.2.1 dJ9_floorMod_7cf53_3 rfl hl (by decide) rfl (fun ls hl => ?_)
  refine lv_iload_n X.1 X.2.1 dJ9_floorMod_7cf53_4 rfl (lv_at hl 1 rfl) ?_
  refine lv_iload_n X.1 X.2.1 dJ9_floorMod_7cf53_5 rfl (lv_at hl 2 rfl) ?_
  refine lv_ixor X.1 X.2.1 dJ9_floorMod_7cf53_6 ?_
  refine lv_if_ge (tgt := 18) X.1 X.2.1 dJ9_floorMod_7cf53_7 (by decide) (fun c4 => ?_) (fun c4 => ?_)
  · have hf := bl_ifp c4 hf
    refine lv_iload_n X.1 X.2.1 dJ9_floorMod_7cf53_18 rfl (lv_at hl 0 rfl) ?_
    exact bl_reti X V hr hf dJ9_floorMod_7cf53_19
  · have hf := bl_ifn c4 hf
    refine lv_iload_n X.1 X.2.1 dJ9_floorMod_7cf53_10 rfl (lv_at hl 0 rfl) ?_
    refine lv_if_eq (tgt := 18) X.1 X.2.1 dJ9_floorMod_7cf53_11 (by decide) (fun c5 => ?_) (fun c5 => ?_)
    · have hf := bl_ifp c5 hf
      refine lv_iload_n X.1 X.2.1 dJ9_floorMod_7cf53_18 rfl (lv_at hl 0 rfl) ?_
      exact bl_reti X V hr hf dJ9_floorMod_7cf53_19
    · have hf := bl_ifn c5 hf
      refine lv_iload_n X.1 X.2.1 dJ9_floorMod_7cf53_14 rfl (lv_at hl 0 rfl) ?_
      refine lv_iload_n X.1 X.2.1 dJ9_floorMod_7cf53_15 rfl (lv_at hl 2 rfl) ?_
      refine lv_iadd X.1 X.2.1 dJ9_floorMod_7cf53_16 ?_
      exact bl_reti X V hr hf dJ9_floorMod_7cf53_17
set_option maxHeartbeats 4000000 in
set_option maxRecDepth 100000 in
theorem t_X0_next (l : Launch) (g : bl_Gp) (σ : bl_St) (a0 : Nat) (a1 : Int32) (o : Int32 × bl_St) (ha0 : bl_sh[a0]? = some (0, 1)) (hf : f_X0_next σ a0 a1 = some o) : bl_Ci l g yX0_next cX0_next 2 (Option.some Jvm.ClassFile.FieldType.int) (bl_rm 0 0) [.ref (bl_ad g a0), .int a1] σ o := by
  refine bl_met (by decide) (Nat.le_of_ble_eq_true rfl) (fun p e s m below meth c ls X hr V hl => ?_)
  have hl : lv_has ls 2 [(0, .ref (bl_ad g a0)), (1, .int a1)] := hl
  unfold f_X0_next at hf
  refine lv_aload_n X.1 X.2.1 dX0_next_0 rfl (lv_at hl 0 rfl) ?_
  refine lv_aload_n X.1 X.2.1 dX0_next_1 rfl (lv_at hl 0 rfl) ?_
  refine bl_geti X V ha0 fl_X0_9 dX0_next_2 ?_
  refine lv_ldc (v := 1103515245) X.1 X.2.1 X.2.2.2.1 (X.2.2.2.2.1 _ ki_X0_15) dX0_next_5 ?_
  refine lv_imul X.1 X.2.1 dX0_next_7 ?_
  refine lv_sipush (v := 12345) X.1 X.2.1 dX0_next_8 (by decide) ?_
  refine lv_iadd X.1 X.2.1 dX0_next_11 ?_
  refine bl_puti X V ha0 fp_X0_9 rfl rfl dX0_next_12 (fun σ1 H locs e2 V => ?_)
  have hf := bl_let_at e2 hf
  refine lv_iload_n X.1 X.2.1 dX0_next_15 rfl (lv_at hl 1 rfl) ?_
  refine lv_if_le (tgt := 31) X.1 X.2.1 dX0_next_16 (by decide) (fun c3 => ?_) (fun c3 => ?_)
  · have hf := bl_ifp c3 hf
    refine lv_iconst (v := 0) X.1 X.2.1 dX0_next_31 (by decide) ?_
    exact bl_reti X V hr hf dX0_next_32
  · have hf := bl_ifn c3 hf
    refine lv_aload_n X.1 X.2.1 dX0_next_19 rfl (lv_at hl 0 rfl) ?_
    refine bl_geti X V ha0 fl_X0_9 dX0_next_20 ?_
    refine lv_bipush (v := 8) X.1 X.2.1 dX0_next_23 (by decide) ?_
    refine lv_iushr X.1 X.2.1 dX0_next_25 rfl ?_
    refine lv_iload_n X.1 X.2.1 dX0_next_26 rfl (lv_at hl 1 rfl) ?_
    obtain ⟨h4, hf⟩ := bl_gd_at hf
    refine lv_irem X.1 X.2.1 dX0_next_27 (by simpa using h4) ?_
    refine lv_goto (tgt := 32) X.1 X.2.1 dX0_next_28 (by decide) ?_
    exact bl_reti X V hr hf dX0_next_32
set_option maxHeartbeats 4000000 in
set_option maxRecDepth 100000 in
theorem t_X8_sortPart (l : Launch) (g : bl_Gp) (σ : bl_St) (a0 : Nat) (a1 : Int32) (a2 : Int32) (o : Int32 × bl_St) (ha0 : bl_sh[a0]? = some (8, 5)) (hf : f_X8_sortPart σ a0 a1 a2 = some o) : bl_Ci l g yX8_sortPart cX8_sortPart 3 (Option.some Jvm.ClassFile.FieldType.int) (bl_rm 0 0) [.ref (bl_ad g a0), .int a1, .int a2] σ o := by
  refine bl_met (by decide) (Nat.le_of_ble_eq_true rfl) (fun p e s m below meth c ls X hr V hl => ?_)
  have hl : lv_has ls 3 [(0, .ref (bl_ad g a0)), (1, .int a1), (2, .int a2)] := hl
  unfold f_X8_sortPart at hf
  refine lv_aload_n X.1 X.2.1 dX8_sortPart_0 rfl (lv_at hl 0 rfl) ?_
  refine bl_getr X V ha0 fl_X8_15 rfl dX8_sortPart_1 (fun h1 => ?_)
  refine lv_iload_n X.1 X.2.1 dX8_sortPart_4 rfl (lv_at hl 1 rfl) ?_
  refine lv_iconst (v := 2) X.1 X.2.1 dX8_sortPart_5 (by decide) ?_
  refine lv_imul X.1 X.2.1 dX8_sortPart_6 ?_
  refine lv_iload_n X.1 X.2.1 dX8_sortPart_7 rfl (lv_at hl 2 rfl) ?_
  refine lv_iadd X.1 X.2.1 dX8_sortPart_8 ?_
  obtain ⟨h2, hf⟩ := bl_gd_at hf
  refine bl_iald (k := (Int32.toNatClampNeg ((a1 * 2) + a2))) X V h1 h2 rfl dX8_sortPart_9 ?_
  exact bl_reti X V hr hf dX8_sortPart_10
set_option maxHeartbeats 4000000 in
set_option maxRecDepth 100000 in
theorem w_X8_allWeights_4 {p : Program} {l : Launch} {e : Env} {s : State} {m : MethodId} {below : List Frame} {meth : Method} {c : Code} {g : bl_Gp} {as : List Value} {out : Int32 × bl_St} (X : bl_Cx g p s m as.toArray meth c cX8_allWeights 3 RX8) (hr : meth.sig.returnType = (Option.some Jvm.ClassFile.FieldType.int)) (k4 : bl_St → Nat → Int32 → Int32 → Option (Int32 × bl_St)) (hk4 : ∀ (σ : bl_St) (v0 : Nat) (v1 : Int32) (v2 : Int32), bl_sh[v0]? = some (8, 5) → k4 σ v0 v1 v2 = some out → ∀ (H : Heap) (locs : List Loc) (ls : Array Slot), bl_V g s σ H locs → lv_has ls 3 [(0, .ref (bl_ad g v0)), (1, .int v1), (2, .int v2)] → W p l e (bl_rm 1 22) s m as.toArray below meth c H locs 0 0 (bl_Qi below g s as out) (F0 m 4 ls [])) : ∀ (σ : bl_St) (v0 : Nat) (v1 : Int32) (v2 : Int32), bl_sh[v0]? = some (8, 5) → (b_X8_allWeights_4 k4) σ v0 v1 v2 = some out → ∀ (H : Heap) (locs : List Loc) (ls : Array Slot), bl_V g s σ H locs → lv_has ls 3 [(0, .ref (bl_ad g v0)), (1, .int v1), (2, .int v2)] → W p l e (bl_rm 1 22) s m as.toArray below meth c H locs 0 0 (bl_Qi below g s as out) (F0 m 4 ls []) := by
  intro σ v0 v1 v2 hv0 hf H locs ls V hl
  unfold b_X8_allWeights_4 at hf
  refine lv_iload_n X.1 X.2.1 dX8_allWeights_4 rfl (lv_at hl 2 rfl) ?_
  refine lv_aload_n X.1 X.2.1 dX8_allWeights_5 rfl (lv_at hl 0 rfl) ?_
  refine bl_geti X V hv0 fl_X8_34 dX8_allWeights_6 ?_
  refine lv_icmp_ge (tgt := 27) X.1 X.2.1 dX8_allWeights_9 (by decide) (fun c1 => ?_) (fun c1 => ?_)
  · have hf := bl_ifp c1 hf
    refine lv_iload_n X.1 X.2.1 dX8_allWeights_27 rfl (lv_at hl 1 rfl) ?_
    exact bl_reti X V hr hf dX8_allWeights_28
  · have hf := bl_ifn c1 hf
    refine lv_iload_n X.1 X.2.1 dX8_allWeights_12 rfl (lv_at hl 1 rfl) ?_
    refine lv_aload_n X.1 X.2.1 dX8_allWeights_13 rfl (lv_at hl 0 rfl) ?_
    refine lv_iload_n X.1 X.2.1 dX8_allWeights_14 rfl (lv_at hl 2 rfl) ?_
    refine lv_iconst (v := 1) X.1 X.2.1 dX8_allWeights_15 (by decide) ?_
    obtain ⟨r2, σ3, h4, hf⟩ := bl_bd_at hf
    refine bl_cVi (As := [.int v2, .int 1]) X V hl.1 hv0 rfl ml_X8_47 mV_X8_sortPart (t_X8_sortPart l g σ v0 v2 1 _ hv0 h4) rfl rfl ⟨Nat.le_of_ble_eq_true rfl, Nat.le_of_ble_eq_true rfl⟩ rfl rfl (Nat.le_of_ble_eq_true rfl) ⟨Nat.zero_le _, Nat.zero_le _⟩ dX8_allWeights_16 (fun H locs V => ?_)
    refine lv_iadd X.1 X.2.1 dX8_allWeights_19 ?_
    refine lv_topi (fun x5 e6 => ?_)
    have hf := bl_let_at e6 hf
    refine lv_istore_n (lv' := [(1, .int x5), (0, .ref (bl_ad g v0)), (2, .int v2)]) X.1 X.2.1 dX8_allWeights_20 rfl hl (by decide) rfl (fun ls hl => ?_)
    obtain ⟨x7, e8⟩ : ∃ z : Int32, z = v2 + 1 := ⟨_, rfl⟩
    have hf := bl_let_at e8 hf
    refine lv_iinc (v := x7) (lv' := [(2, .int x7), (1, .int x5), (0, .ref (bl_ad g v0))]) X.1 X.2.1 dX8_allWeights_21 hl (k := 2) rfl (by rw [e8]; rfl) (by decide) rfl (fun ls hl => ?_)
    refine lv_goto (tgt := 4) X.1 X.2.1 dX8_allWeights_24 (by decide) ?_
    exact hk4 σ3 v0 x5 x7 hv0 hf _ _ _ V (lv_sub hl [2, 1, 0] rfl)
theorem l_X8_allWeights_4 {p : Program} {l : Launch} {e : Env} {s : State} {m : MethodId} {below : List Frame} {meth : Method} {c : Code} {g : bl_Gp} {as : List Value} {out : Int32 × bl_St} (X : bl_Cx g p s m as.toArray meth c cX8_allWeights 3 RX8) (hr : meth.sig.returnType = (Option.some Jvm.ClassFile.FieldType.int)) (n : Nat) : ∀ (σ : bl_St) (v0 : Nat) (v1 : Int32) (v2 : Int32), bl_sh[v0]? = some (8, 5) → (bl_fx (fun _ _ _ _ => none) (b_X8_allWeights_4 ) n) σ v0 v1 v2 = some out → ∀ (H : Heap) (locs : List Loc) (ls : Array Slot), bl_V g s σ H locs → lv_has ls 3 [(0, .ref (bl_ad g v0)), (1, .int v1), (2, .int v2)] → W p l e (bl_rm 1 22) s m as.toArray below meth c H locs 0 0 (bl_Qi below g s as out) (F0 m 4 ls []) := by
  induction n with
  | zero =>
    intro σ v0 v1 v2 hv0 hf H locs ls V hl
    cases hf
  | succ n ih => exact w_X8_allWeights_4 X hr  _ ih
set_option maxHeartbeats 4000000 in
set_option maxRecDepth 100000 in
theorem t_X8_allWeights (l : Launch) (g : bl_Gp) (σ : bl_St) (a0 : Nat) (o : Int32 × bl_St) (ha0 : bl_sh[a0]? = some (8, 5)) (hf : f_X8_allWeights σ a0 = some o) : bl_Ci l g yX8_allWeights cX8_allWeights 3 (Option.some Jvm.ClassFile.FieldType.int) (bl_rm 1 22) [.ref (bl_ad g a0)] σ o := by
  refine bl_met (by decide) (Nat.le_of_ble_eq_true rfl) (fun p e s m below meth c ls X hr V hl => ?_)
  have hl : lv_has ls 3 [(0, .ref (bl_ad g a0))] := hl
  unfold f_X8_allWeights at hf
  refine lv_iconst (v := 0) X.1 X.2.1 dX8_allWeights_0 (by decide) ?_
  refine lv_istore_n (lv' := [(1, .int 0), (0, .ref (bl_ad g a0))]) X.1 X.2.1 dX8_allWeights_1 rfl hl (by decide) rfl (fun ls hl => ?_)
  refine lv_iconst (v := 0) X.1 X.2.1 dX8_allWeights_2 (by decide) ?_
  refine lv_istore_n (lv' := [(2, .int 0), (1, .int 0), (0, .ref (bl_ad g a0))]) X.1 X.2.1 dX8_allWeights_3 rfl hl (by decide) rfl (fun ls hl => ?_)
  exact l_X8_allWeights_4 X hr  bl_fu σ a0 0 0 ha0 hf _ _ _ V (lv_sub hl [2, 1, 0] rfl)
set_option maxHeartbeats 4000000 in
set_option maxRecDepth 100000 in
theorem w_X0_nextSort_19 {p : Program} {l : Launch} {e : Env} {s : State} {m : MethodId} {below : List Frame} {meth : Method} {c : Code} {g : bl_Gp} {as : List Value} {out : Int32 × bl_St} (X : bl_Cx g p s m as.toArray meth c cX0_nextSort 5 RX0) (hr : meth.sig.returnType = (Option.some Jvm.ClassFile.FieldType.int)) (k19 : bl_St → Nat → Int32 → Int32 → Int32 → Option (Int32 × bl_St)) (hk19 : ∀ (σ : bl_St) (v1 : Nat) (v2 : Int32) (v3 : Int32) (v4 : Int32), bl_sh[v1]? = some (8, 5) → k19 σ v1 v2 v3 v4 = some out → ∀ (H : Heap) (locs : List Loc) (ls : Array Slot), bl_V g s σ H locs → lv_has ls 5 [(1, .ref (bl_ad g v1)), (2, .int v2), (3, .int v3), (4, .int v4)] → W p l e (bl_rm 2 44) s m as.toArray below meth c H locs 0 0 (bl_Qi below g s as out) (F0 m 19 ls [])) : ∀ (σ : bl_St) (v1 : Nat) (v2 : Int32) (v3 : Int32) (v4 : Int32), bl_sh[v1]? = some (8, 5) → (b_X0_nextSort_19 k19) σ v1 v2 v3 v4 = some out → ∀ (H : Heap) (locs : List Loc) (ls : Array Slot), bl_V g s σ H locs → lv_has ls 5 [(1, .ref (bl_ad g v1)), (2, .int v2), (3, .int v3), (4, .int v4)] → W p l e (bl_rm 2 44) s m as.toArray below meth c H locs 0 0 (bl_Qi below g s as out) (F0 m 19 ls []) := by
  intro σ v1 v2 v3 v4 hv1 hf H locs ls V hl
  unfold b_X0_nextSort_19 at hf
  refine lv_iload X.1 X.2.1 dX0_nextSort_19 (lv_at hl 3 rfl) ?_
  refine lv_iload_n X.1 X.2.1 dX0_nextSort_21 rfl (lv_at hl 2 rfl) ?_
  refine lv_icmp_ge (tgt := 48) X.1 X.2.1 dX0_nextSort_22 (by decide) (fun c1 => ?_) (fun c1 => ?_)
  · have hf := bl_ifp c1 hf
    refine lv_iload_n X.1 X.2.1 dX0_nextSort_48 rfl (lv_at hl 2 rfl) ?_
    exact bl_reti X V hr hf dX0_nextSort_49
  · have hf := bl_ifn c1 hf
    refine lv_iload_n X.1 X.2.1 dX0_nextSort_25 rfl (lv_at hl 1 rfl) ?_
    refine lv_aload_n X.1 X.2.1 dX0_nextSort_26 rfl (lv_at hl 0 rfl) ?_
    refine lv_iload X.1 X.2.1 dX0_nextSort_27 (lv_at hl 3 rfl) ?_
    refine lv_iconst (v := 1) X.1 X.2.1 dX0_nextSort_29 (by decide) ?_
    obtain ⟨r2, σ3, h4, hf⟩ := bl_bd_at hf
    refine bl_cVi (As := [.int v4, .int 1]) X V hl.1 hv1 rfl ml_X0_29 mV_X8_sortPart (t_X8_sortPart l g σ v1 v4 1 _ hv1 h4) rfl rfl ⟨Nat.le_of_ble_eq_true rfl, Nat.le_of_ble_eq_true rfl⟩ rfl rfl (Nat.le_of_ble_eq_true rfl) ⟨Nat.zero_le _, Nat.zero_le _⟩ dX0_nextSort_30 (fun H locs V => ?_)
    refine lv_isub X.1 X.2.1 dX0_nextSort_33 ?_
    refine lv_topi (fun x5 e6 => ?_)
    have hf := bl_let_at e6 hf
    refine lv_istore_n (lv' := [(2, .int x5), (1, .ref (bl_ad g v1)), (3, .int v3), (4, .int v4)]) X.1 X.2.1 dX0_nextSort_34 rfl hl (by decide) rfl (fun ls hl => ?_)
    refine lv_iload_n X.1 X.2.1 dX0_nextSort_35 rfl (lv_at hl 0 rfl) ?_
    refine lv_if_ge (tgt := 42) X.1 X.2.1 dX0_nextSort_36 (by decide) (fun c7 => ?_) (fun c7 => ?_)
    · have hf := bl_ifp c7 hf
      obtain ⟨x8, e9⟩ : ∃ z : Int32, z = v4 + 1 := ⟨_, rfl⟩
      have hf := bl_let_at e9 hf
      refine lv_iinc (v := x8) (lv' := [(4, .int x8), (2, .int x5), (1, .ref (bl_ad g v1)), (3, .int v3)]) X.1 X.2.1 dX0_nextSort_42 hl (k := 3) rfl (by rw [e9]; rfl) (by decide) rfl (fun ls hl => ?_)
      refine lv_goto (tgt := 19) X.1 X.2.1 dX0_nextSort_45 (by decide) ?_
      exact hk19 σ3 v1 x5 v3 x8 hv1 hf _ _ _ V (lv_sub hl [2, 1, 3, 0] rfl)
    · have hf := bl_ifn c7 hf
      refine lv_iload X.1 X.2.1 dX0_nextSort_39 (lv_at hl 3 rfl) ?_
      exact bl_reti X V hr hf dX0_nextSort_41
theorem l_X0_nextSort_19 {p : Program} {l : Launch} {e : Env} {s : State} {m : MethodId} {below : List Frame} {meth : Method} {c : Code} {g : bl_Gp} {as : List Value} {out : Int32 × bl_St} (X : bl_Cx g p s m as.toArray meth c cX0_nextSort 5 RX0) (hr : meth.sig.returnType = (Option.some Jvm.ClassFile.FieldType.int)) (n : Nat) : ∀ (σ : bl_St) (v1 : Nat) (v2 : Int32) (v3 : Int32) (v4 : Int32), bl_sh[v1]? = some (8, 5) → (bl_fx (fun _ _ _ _ _ => none) (b_X0_nextSort_19 ) n) σ v1 v2 v3 v4 = some out → ∀ (H : Heap) (locs : List Loc) (ls : Array Slot), bl_V g s σ H locs → lv_has ls 5 [(1, .ref (bl_ad g v1)), (2, .int v2), (3, .int v3), (4, .int v4)] → W p l e (bl_rm 2 44) s m as.toArray below meth c H locs 0 0 (bl_Qi below g s as out) (F0 m 19 ls []) := by
  induction n with
  | zero =>
    intro σ v1 v2 v3 v4 hv1 hf H locs ls V hl
    cases hf
  | succ n ih => exact w_X0_nextSort_19 X hr  _ ih
set_option maxHeartbeats 4000000 in
set_option maxRecDepth 100000 in
theorem t_X0_nextSort (l : Launch) (g : bl_Gp) (σ : bl_St) (a0 : Nat) (a1 : Nat) (o : Int32 × bl_St) (ha0 : bl_sh[a0]? = some (0, 1)) (ha1 : bl_sh[a1]? = some (8, 5)) (hf : f_X0_nextSort σ a0 a1 = some o) : bl_Ci l g yX0_nextSort cX0_nextSort 5 (Option.some Jvm.ClassFile.FieldType.int) (bl_rm 2 44) [.ref (bl_ad g a0), .ref (bl_ad g a1)] σ o := by
  refine bl_met (by decide) (Nat.le_of_ble_eq_true rfl) (fun p e s m below meth c ls X hr V hl => ?_)
  have hl : lv_has ls 5 [(0, .ref (bl_ad g a0)), (1, .ref (bl_ad g a1))] := hl
  unfold f_X0_nextSort at hf
  refine lv_aload_n X.1 X.2.1 dX0_nextSort_0 rfl (lv_at hl 0 rfl) ?_
  refine lv_aload_n X.1 X.2.1 dX0_nextSort_1 rfl (lv_at hl 1 rfl) ?_
  obtain ⟨r10, σ11, h12, hf⟩ := bl_bd_at hf
  refine bl_cVi (As := []) X V hl.1 ha1 rfl ml_X0_16 mV_X8_allWeights (t_X8_allWeights l g σ a1 _ ha1 h12) rfl rfl ⟨Nat.le_of_ble_eq_true rfl, Nat.le_of_ble_eq_true rfl⟩ rfl rfl (Nat.le_of_ble_eq_true rfl) ⟨Nat.zero_le _, Nat.zero_le _⟩ dX0_nextSort_2 (fun H locs V => ?_)
  obtain ⟨r13, σ14, h15, hf⟩ := bl_bd_at hf
  refine bl_cVi (As := [.int r10]) X V hl.1 ha0 rfl ml_X0_22 mV_X0_next (t_X0_next l g σ11 a0 r10 _ ha0 h15) rfl rfl ⟨Nat.le_of_ble_eq_true rfl, Nat.le_of_ble_eq_true rfl⟩ rfl rfl (Nat.le_of_ble_eq_true rfl) ⟨Nat.zero_le _, Nat.zero_le _⟩ dX0_nextSort_5 (fun H locs V => ?_)
  refine lv_istore_n (lv' := [(2, .int r13), (0, .ref (bl_ad g a0)), (1, .ref (bl_ad g a1))]) X.1 X.2.1 dX0_nextSort_8 rfl hl (by decide) rfl (fun ls hl => ?_)
  refine lv_aload_n X.1 X.2.1 dX0_nextSort_9 rfl (lv_at hl 2 rfl) ?_
  refine bl_geti X V ha1 fl_X0_26 dX0_nextSort_10 ?_
  refine lv_iconst (v := 1) X.1 X.2.1 dX0_nextSort_13 (by decide) ?_
  refine lv_isub X.1 X.2.1 dX0_nextSort_14 ?_
  refine lv_topi (fun x16 e17 => ?_)
  have hf := bl_let_at e17 hf
  refine lv_istore_n (lv' := [(3, .int x16), (2, .int r13), (0, .ref (bl_ad g a0)), (1, .ref (bl_ad g a1))]) X.1 X.2.1 dX0_nextSort_15 rfl hl (by decide) rfl (fun ls hl => ?_)
  refine lv_iconst (v := 0) X.1 X.2.1 dX0_nextSort_16 (by decide) ?_
  refine lv_istore (lv' := [(4, .int 0), (3, .int x16), (2, .int r13), (0, .ref (bl_ad g a0)), (1, .ref (bl_ad g a1))]) X.1 X.2.1 dX0_nextSort_17 hl (by decide) rfl (fun ls hl => ?_)
  exact l_X0_nextSort_19 X hr  bl_fu σ14 a1 r13 x16 0 ha1 hf _ _ _ V (lv_sub hl [4, 2, 1, 0] rfl)
set_option maxHeartbeats 4000000 in
set_option maxRecDepth 100000 in
theorem t_X1_index (l : Launch) (g : bl_Gp) (σ : bl_St) (a0 : Int32) (a1 : Int32) (a2 : Int32) (o : Int32 × bl_St) (hf : f_X1_index σ a0 a1 a2 = some o) : bl_Ci l g yX1_index cX1_index 3 (Option.some Jvm.ClassFile.FieldType.int) (bl_rm 0 0) [.int a0, .int a1, .int a2] σ o := by
  refine bl_met (by decide) (Nat.le_of_ble_eq_true rfl) (fun p e s m below meth c ls X hr V hl => ?_)
  have hl : lv_has ls 3 [(0, .int a0), (1, .int a1), (2, .int a2)] := hl
  unfold f_X1_index at hf
  refine lv_iload_n X.1 X.2.1 dX1_index_0 rfl (lv_at hl 0 rfl) ?_
  refine lv_iconst (v := 3) X.1 X.2.1 dX1_index_1 (by decide) ?_
  refine lv_imul X.1 X.2.1 dX1_index_2 ?_
  refine lv_iload_n X.1 X.2.1 dX1_index_3 rfl (lv_at hl 1 rfl) ?_
  refine lv_iadd X.1 X.2.1 dX1_index_4 ?_
  refine lv_iconst (v := 3) X.1 X.2.1 dX1_index_5 (by decide) ?_
  refine lv_imul X.1 X.2.1 dX1_index_6 ?_
  refine lv_iload_n X.1 X.2.1 dX1_index_7 rfl (lv_at hl 2 rfl) ?_
  refine lv_iadd X.1 X.2.1 dX1_index_8 ?_
  exact bl_reti X V hr hf dX1_index_9
set_option maxHeartbeats 4000000 in
set_option maxRecDepth 100000 in
theorem t_X1_toldCost (l : Launch) (g : bl_Gp) (σ : bl_St) (a0 : Nat) (a1 : Int32) (a2 : Int32) (a3 : Int32) (o : Int64 × bl_St) (ha0 : bl_sh[a0]? = some (1, 4)) (hf : f_X1_toldCost σ a0 a1 a2 a3 = some o) : bl_Cl l g yX1_toldCost cX1_toldCost 8 (Option.some Jvm.ClassFile.FieldType.long) (bl_rm 1 22) [.ref (bl_ad g a0), .int a1, .int a2, .int a3] σ o := by
  refine bl_met (by decide) (Nat.le_of_ble_eq_true rfl) (fun p e s m below meth c ls X hr V hl => ?_)
  have hl : lv_has ls 8 [(0, .ref (bl_ad g a0)), (1, .int a1), (2, .int a2), (3, .int a3)] := hl
  unfold f_X1_toldCost at hf
  refine lv_aload_n X.1 X.2.1 dX1_toldCost_0 rfl (lv_at hl 0 rfl) ?_
  refine bl_getr X V ha0 fl_X1_18 rfl dX1_toldCost_1 (fun h1 => ?_)
  refine lv_iload_n X.1 X.2.1 dX1_toldCost_4 rfl (lv_at hl 1 rfl) ?_
  refine lv_iconst (v := 1) X.1 X.2.1 dX1_toldCost_5 (by decide) ?_
  refine lv_iadd X.1 X.2.1 dX1_toldCost_6 ?_
  refine lv_iconst (v := 2) X.1 X.2.1 dX1_toldCost_7 (by decide) ?_
  refine lv_iload_n X.1 X.2.1 dX1_toldCost_8 rfl (lv_at hl 2 rfl) ?_
  refine lv_iconst (v := 1) X.1 X.2.1 dX1_toldCost_9 (by decide) ?_
  refine lv_iadd X.1 X.2.1 dX1_toldCost_10 ?_
  refine bl_mini X hl.1 mm_X1_63 ⟨Nat.le_of_ble_eq_true rfl, Nat.le_of_ble_eq_true rfl⟩ ⟨Nat.zero_le _, Nat.zero_le _⟩ dX1_toldCost_11 ?_
  refine lv_iload_n X.1 X.2.1 dX1_toldCost_14 rfl (lv_at hl 3 rfl) ?_
  obtain ⟨r2, σ3, h4, hf⟩ := bl_bd_at hf
  refine bl_cSi (As := [.int (a1 + 1), .int (if (a2 + 1) < 2 then (a2 + 1) else 2), .int a3]) X V hl.1 ml_X1_56 mS_X1_index (t_X1_index l g σ (a1 + 1) (if (a2 + 1) < 2 then (a2 + 1) else 2) a3 _  h4) rfl rfl ⟨Nat.le_of_ble_eq_true rfl, Nat.le_of_ble_eq_true rfl⟩ rfl rfl (Nat.le_of_ble_eq_true rfl) ⟨Nat.zero_le _, Nat.zero_le _⟩ dX1_toldCost_15 (fun H locs V => ?_)
  obtain ⟨h5, hf⟩ := bl_gd_at hf
  refine bl_lald (k := (Int32.toNatClampNeg r2)) X V h1 h5 rfl dX1_toldCost_18 ?_
  refine lv_topl (fun x6 e7 => ?_)
  have hf := bl_let_at e7 hf
  refine lv_lstore (lv' := [(4, .long x6), (0, .ref (bl_ad g a0)), (1, .int a1), (2, .int a2), (3, .int a3)]) X.1 X.2.1 dX1_toldCost_19 hl (by decide) rfl (fun ls hl => ?_)
  refine lv_aload_n X.1 X.2.1 dX1_toldCost_21 rfl (lv_at hl 1 rfl) ?_
  refine bl_getr X V ha0 fl_X1_18 rfl dX1_toldCost_22 (fun h8 => ?_)
  refine lv_iload_n X.1 X.2.1 dX1_toldCost_25 rfl (lv_at hl 2 rfl) ?_
  refine lv_iconst (v := 1) X.1 X.2.1 dX1_toldCost_26 (by decide) ?_
  refine lv_iadd X.1 X.2.1 dX1_toldCost_27 ?_
  refine lv_iload_n X.1 X.2.1 dX1_toldCost_28 rfl (lv_at hl 3 rfl) ?_
  refine lv_iconst (v := 2) X.1 X.2.1 dX1_toldCost_29 (by decide) ?_
  refine lv_iload_n X.1 X.2.1 dX1_toldCost_30 rfl (lv_at hl 4 rfl) ?_
  refine lv_iconst (v := 1) X.1 X.2.1 dX1_toldCost_31 (by decide) ?_
  refine lv_iadd X.1 X.2.1 dX1_toldCost_32 ?_
  refine bl_mini X hl.1 mm_X1_63 ⟨Nat.le_of_ble_eq_true rfl, Nat.le_of_ble_eq_true rfl⟩ ⟨Nat.zero_le _, Nat.zero_le _⟩ dX1_toldCost_33 ?_
  obtain ⟨r9, σ10, h11, hf⟩ := bl_bd_at hf
  refine bl_cSi (As := [.int (a1 + 1), .int a2, .int (if (a3 + 1) < 2 then (a3 + 1) else 2)]) X V hl.1 ml_X1_56 mS_X1_index (t_X1_index l g σ3 (a1 + 1) a2 (if (a3 + 1) < 2 then (a3 + 1) else 2) _  h11) rfl rfl ⟨Nat.le_of_ble_eq_true rfl, Nat.le_of_ble_eq_true rfl⟩ rfl rfl (Nat.le_of_ble_eq_true rfl) ⟨Nat.zero_le _, Nat.zero_le _⟩ dX1_toldCost_36 (fun H locs V => ?_)
  obtain ⟨h12, hf⟩ := bl_gd_at hf
  refine bl_lald (k := (Int32.toNatClampNeg r9)) X V h8 h12 rfl dX1_toldCost_39 ?_
  refine lv_topl (fun x13 e14 => ?_)
  have hf := bl_let_at e14 hf
  refine lv_lstore (lv' := [(6, .long x13), (4, .long x6), (0, .ref (bl_ad g a0)), (1, .int a1), (2, .int a2), (3, .int a3)]) X.1 X.2.1 dX1_toldCost_40 hl (by decide) rfl (fun ls hl => ?_)
  refine lv_lload X.1 X.2.1 dX1_toldCost_42 (lv_at hl 1 rfl) ?_
  refine lv_lload X.1 X.2.1 dX1_toldCost_44 (lv_at hl 0 rfl) ?_
  refine bl_minl X hl.1 mm_X1_76 ⟨Nat.le_of_ble_eq_true rfl, Nat.le_of_ble_eq_true rfl⟩ ⟨Nat.zero_le _, Nat.zero_le _⟩ dX1_toldCost_46 ?_
  exact bl_retl X V hr hf dX1_toldCost_49
set_option maxHeartbeats 4000000 in
set_option maxRecDepth 100000 in
theorem t_X3_lossCost (l : Launch) (g : bl_Gp) (σ : bl_St) (a0 : Nat) (a1 : Int32) (a2 : Int64) (a4 : Int64) (o : Int64 × bl_St) (ha0 : bl_sh[a0]? = some (3, 8)) (hf : f_X3_lossCost σ a0 a1 a2 a4 = some o) : bl_Cl l g yX3_lossCost cX3_lossCost 10 (Option.some Jvm.ClassFile.FieldType.long) (bl_rm 0 0) [.ref (bl_ad g a0), .int a1, .long a2, .long a4] σ o := by
  refine bl_met (by decide) (Nat.le_of_ble_eq_true rfl) (fun p e s m below meth c ls X hr V hl => ?_)
  have hl : lv_has ls 10 [(0, .ref (bl_ad g a0)), (1, .int a1), (2, .long a2), (4, .long a4)] := hl
  unfold f_X3_lossCost at hf
  refine lv_aload_n X.1 X.2.1 dX3_lossCost_0 rfl (lv_at hl 0 rfl) ?_
  refine bl_getr X V ha0 fl_X3_15 rfl dX3_lossCost_1 (fun h1 => ?_)
  refine lv_iload_n X.1 X.2.1 dX3_lossCost_4 rfl (lv_at hl 1 rfl) ?_
  obtain ⟨h2, hf⟩ := bl_gd_at hf
  refine bl_lald (k := (Int32.toNatClampNeg a1)) X V h1 h2 rfl dX3_lossCost_5 ?_
  refine lv_lload X.1 X.2.1 dX3_lossCost_6 (lv_at hl 3 rfl) ?_
  refine lv_ladd X.1 X.2.1 dX3_lossCost_8 ?_
  refine lv_topl (fun x3 e4 => ?_)
  have hf := bl_let_at e4 hf
  refine lv_lstore (lv' := [(6, .long x3), (0, .ref (bl_ad g a0)), (1, .int a1), (2, .long a2), (4, .long a4)]) X.1 X.2.1 dX3_lossCost_9 hl (by decide) rfl (fun ls hl => ?_)
  refine lv_aload_n X.1 X.2.1 dX3_lossCost_11 rfl (lv_at hl 1 rfl) ?_
  refine bl_getr X V ha0 fl_X3_9 rfl dX3_lossCost_12 (fun h5 => ?_)
  refine lv_iload_n X.1 X.2.1 dX3_lossCost_15 rfl (lv_at hl 2 rfl) ?_
  obtain ⟨h6, hf⟩ := bl_gd_at hf
  refine bl_lald (k := (Int32.toNatClampNeg a1)) X V h5 h6 rfl dX3_lossCost_16 ?_
  refine lv_lload_n X.1 X.2.1 dX3_lossCost_17 rfl (lv_at hl 3 rfl) ?_
  refine lv_ladd X.1 X.2.1 dX3_lossCost_18 ?_
  refine lv_topl (fun x7 e8 => ?_)
  have hf := bl_let_at e8 hf
  refine lv_lstore (lv' := [(8, .long x7), (6, .long x3), (0, .ref (bl_ad g a0)), (1, .int a1), (2, .long a2), (4, .long a4)]) X.1 X.2.1 dX3_lossCost_19 hl (by decide) rfl (fun ls hl => ?_)
  refine lv_aload_n X.1 X.2.1 dX3_lossCost_21 rfl (lv_at hl 2 rfl) ?_
  refine bl_getr X V ha0 fl_X3_21 rfl dX3_lossCost_22 (fun h9 => ?_)
  refine lv_iload_n X.1 X.2.1 dX3_lossCost_25 rfl (lv_at hl 3 rfl) ?_
  obtain ⟨h10, hf⟩ := bl_gd_at hf
  refine bl_iald (k := (Int32.toNatClampNeg a1)) X V h9 h10 rfl dX3_lossCost_26 ?_
  refine lv_if_ne (tgt := 46) X.1 X.2.1 dX3_lossCost_27 (by decide) (fun c11 => ?_) (fun c11 => ?_)
  · have hf := bl_ifn c11 hf
    refine lv_aload_n X.1 X.2.1 dX3_lossCost_46 rfl (lv_at hl 2 rfl) ?_
    refine bl_getr X V ha0 fl_X3_21 rfl dX3_lossCost_47 (fun h12 => ?_)
    refine lv_iload_n X.1 X.2.1 dX3_lossCost_50 rfl (lv_at hl 3 rfl) ?_
    obtain ⟨h13, hf⟩ := bl_gd_at hf
    refine bl_iald (k := (Int32.toNatClampNeg a1)) X V h12 h13 rfl dX3_lossCost_51 ?_
    refine lv_iconst (v := 1) X.1 X.2.1 dX3_lossCost_52 (by decide) ?_
    refine lv_icmp_ne (tgt := 61) X.1 X.2.1 dX3_lossCost_53 (by decide) (fun c14 => ?_) (fun c14 => ?_)
    · have hf := bl_ifn c14 hf
      refine lv_lload X.1 X.2.1 dX3_lossCost_61 (lv_at hl 0 rfl) ?_
      exact bl_retl X V hr hf dX3_lossCost_63
    · have hf := bl_ifp c14 hf
      refine lv_lload X.1 X.2.1 dX3_lossCost_56 (lv_at hl 1 rfl) ?_
      refine lv_goto (tgt := 63) X.1 X.2.1 dX3_lossCost_58 (by decide) ?_
      exact bl_retl X V hr hf dX3_lossCost_63
  · have hf := bl_ifp c11 hf
    refine lv_lload X.1 X.2.1 dX3_lossCost_30 (lv_at hl 1 rfl) ?_
    refine lv_lload X.1 X.2.1 dX3_lossCost_32 (lv_at hl 0 rfl) ?_
    refine bl_lc_ge (tgt := 43) X dX3_lossCost_34 dX3_lossCost_35 (by decide) (fun c15 => ?_) (fun c15 => ?_)
    · have hf := bl_ifp c15 hf
      refine lv_lload X.1 X.2.1 dX3_lossCost_43 (lv_at hl 0 rfl) ?_
      exact bl_retl X V hr hf dX3_lossCost_45
    · have hf := bl_ifn c15 hf
      refine lv_lload X.1 X.2.1 dX3_lossCost_38 (lv_at hl 1 rfl) ?_
      refine lv_goto (tgt := 45) X.1 X.2.1 dX3_lossCost_40 (by decide) ?_
      exact bl_retl X V hr hf dX3_lossCost_45
set_option maxHeartbeats 4000000 in
set_option maxRecDepth 100000 in
theorem w_X3_chanceCost_24 {p : Program} {l : Launch} {e : Env} {s : State} {m : MethodId} {below : List Frame} {meth : Method} {c : Code} {g : bl_Gp} {as : List Value} {out : Int64 × bl_St} (X : bl_Cx g p s m as.toArray meth c cX3_chanceCost 12 RX3) (hr : meth.sig.returnType = (Option.some Jvm.ClassFile.FieldType.long)) (k24 : bl_St → Nat → Int64 → Int64 → Int64 → Int64 → Int32 → Option (Int64 × bl_St)) (hk24 : ∀ (σ : bl_St) (v0 : Nat) (v1 : Int64) (v3 : Int64) (v5 : Int64) (v7 : Int64) (v9 : Int32), bl_sh[v0]? = some (3, 8) → k24 σ v0 v1 v3 v5 v7 v9 = some out → ∀ (H : Heap) (locs : List Loc) (ls : Array Slot), bl_V g s σ H locs → lv_has ls 12 [(0, .ref (bl_ad g v0)), (1, .long v1), (3, .long v3), (5, .long v5), (7, .long v7), (9, .int v9)] → W p l e (bl_rm 1 29) s m as.toArray below meth c H locs 0 0 (bl_Ql below g s as out) (F0 m 24 ls [])) : ∀ (σ : bl_St) (v0 : Nat) (v1 : Int64) (v3 : Int64) (v5 : Int64) (v7 : Int64) (v9 : Int32), bl_sh[v0]? = some (3, 8) → (b_X3_chanceCost_24 k24) σ v0 v1 v3 v5 v7 v9 = some out → ∀ (H : Heap) (locs : List Loc) (ls : Array Slot), bl_V g s σ H locs → lv_has ls 12 [(0, .ref (bl_ad g v0)), (1, .long v1), (3, .long v3), (5, .long v5), (7, .long v7), (9, .int v9)] → W p l e (bl_rm 1 29) s m as.toArray below meth c H locs 0 0 (bl_Ql below g s as out) (F0 m 24 ls []) := by
  intro σ v0 v1 v3 v5 v7 v9 hv0 hf H locs ls V hl
  unfold b_X3_chanceCost_24 at hf
  refine lv_iload X.1 X.2.1 dX3_chanceCost_24 (lv_at hl 5 rfl) ?_
  refine lv_aload_n X.1 X.2.1 dX3_chanceCost_26 rfl (lv_at hl 0 rfl) ?_
  refine bl_geti X V hv0 fl_X3_31 dX3_chanceCost_27 ?_
  refine lv_icmp_ge (tgt := 73) X.1 X.2.1 dX3_chanceCost_30 (by decide) (fun c1 => ?_) (fun c1 => ?_)
  · have hf := bl_ifp c1 hf
    refine lv_ldc2 (v := 12) X.1 X.2.1 X.2.2.2.1 (X.2.2.2.2.1 _ kl_X3_58) dX3_chanceCost_73 ?_
    refine lv_aload_n X.1 X.2.1 dX3_chanceCost_76 rfl (lv_at hl 0 rfl) ?_
    refine bl_getl X V hv0 fl_X3_42 dX3_chanceCost_77 ?_
    refine lv_lmul X.1 X.2.1 dX3_chanceCost_80 ?_
    refine lv_topl (fun x2 e3 => ?_)
    have hf := bl_let_at e3 hf
    refine lv_lstore (lv' := [(9, .long x2), (0, .ref (bl_ad g v0)), (1, .long v1), (3, .long v3), (5, .long v5), (7, .long v7)]) X.1 X.2.1 dX3_chanceCost_81 hl (by decide) rfl (fun ls hl => ?_)
    refine lv_aload_n X.1 X.2.1 dX3_chanceCost_83 rfl (lv_at hl 1 rfl) ?_
    refine bl_getl X V hv0 fl_X3_36 dX3_chanceCost_84 ?_
    refine lv_lconst (v := 0) X.1 X.2.1 dX3_chanceCost_87 (by decide) ?_
    refine bl_lc_eq (tgt := 99) X dX3_chanceCost_88 dX3_chanceCost_89 (by decide) (fun c4 => ?_) (fun c4 => ?_)
    · have hf := bl_ifp c4 hf
      refine lv_lload_n X.1 X.2.1 dX3_chanceCost_99 rfl (lv_at hl 2 rfl) ?_
      exact bl_retl X V hr hf dX3_chanceCost_100
    · have hf := bl_ifn c4 hf
      refine lv_lload X.1 X.2.1 dX3_chanceCost_92 (lv_at hl 0 rfl) ?_
      refine lv_lconst (v := 0) X.1 X.2.1 dX3_chanceCost_94 (by decide) ?_
      refine bl_lc_gt (tgt := 101) X dX3_chanceCost_95 dX3_chanceCost_96 (by decide) (fun c5 => ?_) (fun c5 => ?_)
      · have hf := bl_ifp c5 hf
        refine lv_aload_n X.1 X.2.1 dX3_chanceCost_101 rfl (lv_at hl 1 rfl) ?_
        refine bl_geti X V hv0 fl_X3_44 dX3_chanceCost_102 ?_
        refine lv_if_eq (tgt := 113) X.1 X.2.1 dX3_chanceCost_105 (by decide) (fun c6 => ?_) (fun c6 => ?_)
        · have hf := bl_ifp c6 hf
          refine lv_ldc2 (v := 12) X.1 X.2.1 X.2.2.2.1 (X.2.2.2.2.1 _ kl_X3_58) dX3_chanceCost_113 ?_
          refine lv_aload_n X.1 X.2.1 dX3_chanceCost_116 rfl (lv_at hl 1 rfl) ?_
          refine bl_getl X V hv0 fl_X3_36 dX3_chanceCost_117 ?_
          refine lv_lsub X.1 X.2.1 dX3_chanceCost_120 ?_
          refine lv_aload_n X.1 X.2.1 dX3_chanceCost_121 rfl (lv_at hl 1 rfl) ?_
          refine bl_getl X V hv0 fl_X3_42 dX3_chanceCost_122 ?_
          refine lv_lmul X.1 X.2.1 dX3_chanceCost_125 ?_
          refine lv_lload_n X.1 X.2.1 dX3_chanceCost_126 rfl (lv_at hl 2 rfl) ?_
          refine lv_lmul X.1 X.2.1 dX3_chanceCost_127 ?_
          refine lv_aload_n X.1 X.2.1 dX3_chanceCost_128 rfl (lv_at hl 1 rfl) ?_
          refine bl_getl X V hv0 fl_X3_36 dX3_chanceCost_129 ?_
          refine lv_lload X.1 X.2.1 dX3_chanceCost_132 (lv_at hl 4 rfl) ?_
          refine lv_lmul X.1 X.2.1 dX3_chanceCost_134 ?_
          refine lv_ladd X.1 X.2.1 dX3_chanceCost_135 ?_
          refine lv_lload X.1 X.2.1 dX3_chanceCost_136 (lv_at hl 0 rfl) ?_
          obtain ⟨h7, hf⟩ := bl_gd_at hf
          refine lv_ldiv X.1 X.2.1 dX3_chanceCost_138 (by simpa using h7) ?_
          exact bl_retl X V hr hf dX3_chanceCost_139
        · have hf := bl_ifn c6 hf
          refine lv_lload X.1 X.2.1 dX3_chanceCost_108 (lv_at hl 5 rfl) ?_
          refine lv_goto (tgt := 139) X.1 X.2.1 dX3_chanceCost_110 (by decide) ?_
          exact bl_retl X V hr hf dX3_chanceCost_139
      · have hf := bl_ifn c5 hf
        refine lv_lload_n X.1 X.2.1 dX3_chanceCost_99 rfl (lv_at hl 2 rfl) ?_
        exact bl_retl X V hr hf dX3_chanceCost_100
  · have hf := bl_ifn c1 hf
    refine lv_aload_n X.1 X.2.1 dX3_chanceCost_33 rfl (lv_at hl 0 rfl) ?_
    refine lv_iload X.1 X.2.1 dX3_chanceCost_34 (lv_at hl 5 rfl) ?_
    refine lv_lload_n X.1 X.2.1 dX3_chanceCost_36 rfl (lv_at hl 1 rfl) ?_
    refine lv_lload_n X.1 X.2.1 dX3_chanceCost_37 rfl (lv_at hl 2 rfl) ?_
    obtain ⟨r8, σ9, h10, hf⟩ := bl_bd_at hf
    refine bl_cVl (As := [.int v9, .long v1, .long v3]) X V hl.1 hv0 rfl ml_X3_60 mV_X3_lossCost (t_X3_lossCost l g σ v0 v9 v1 v3 _ hv0 h10) rfl rfl ⟨Nat.le_of_ble_eq_true rfl, Nat.le_of_ble_eq_true rfl⟩ rfl rfl (Nat.le_of_ble_eq_true rfl) ⟨Nat.zero_le _, Nat.zero_le _⟩ dX3_chanceCost_38 (fun H locs V => ?_)
    refine lv_lstore (lv' := [(10, .long r8), (0, .ref (bl_ad g v0)), (1, .long v1), (3, .long v3), (5, .long v5), (7, .long v7), (9, .int v9)]) X.1 X.2.1 dX3_chanceCost_41 hl (by decide) rfl (fun ls hl => ?_)
    refine lv_lload X.1 X.2.1 dX3_chanceCost_43 (lv_at hl 4 rfl) ?_
    refine lv_aload_n X.1 X.2.1 dX3_chanceCost_45 rfl (lv_at hl 1 rfl) ?_
    refine bl_getr X V hv0 fl_X3_18 rfl dX3_chanceCost_46 (fun h11 => ?_)
    refine lv_iload X.1 X.2.1 dX3_chanceCost_49 (lv_at hl 6 rfl) ?_
    obtain ⟨h12, hf⟩ := bl_gd_at hf
    refine bl_lald (k := (Int32.toNatClampNeg v9)) X V h11 h12 rfl dX3_chanceCost_51 ?_
    refine lv_lload X.1 X.2.1 dX3_chanceCost_52 (lv_at hl 0 rfl) ?_
    refine lv_lmul X.1 X.2.1 dX3_chanceCost_54 ?_
    refine lv_ladd X.1 X.2.1 dX3_chanceCost_55 ?_
    refine lv_topl (fun x13 e14 => ?_)
    have hf := bl_let_at e14 hf
    refine lv_lstore (lv' := [(5, .long x13), (10, .long r8), (0, .ref (bl_ad g v0)), (1, .long v1), (3, .long v3), (7, .long v7), (9, .int v9)]) X.1 X.2.1 dX3_chanceCost_56 hl (by decide) rfl (fun ls hl => ?_)
    refine lv_lload X.1 X.2.1 dX3_chanceCost_58 (lv_at hl 5 rfl) ?_
    refine lv_lload X.1 X.2.1 dX3_chanceCost_60 (lv_at hl 1 rfl) ?_
    refine bl_maxl X hl.1 mm_X3_64 ⟨Nat.le_of_ble_eq_true rfl, Nat.le_of_ble_eq_true rfl⟩ ⟨Nat.zero_le _, Nat.zero_le _⟩ dX3_chanceCost_62 ?_
    refine lv_topl (fun x15 e16 => ?_)
    have hf := bl_let_at e16 hf
    refine lv_lstore (lv' := [(7, .long x15), (5, .long x13), (10, .long r8), (0, .ref (bl_ad g v0)), (1, .long v1), (3, .long v3), (9, .int v9)]) X.1 X.2.1 dX3_chanceCost_65 hl (by decide) rfl (fun ls hl => ?_)
    obtain ⟨x17, e18⟩ : ∃ z : Int32, z = v9 + 1 := ⟨_, rfl⟩
    have hf := bl_let_at e18 hf
    refine lv_iinc (v := x17) (lv' := [(9, .int x17), (7, .long x15), (5, .long x13), (10, .long r8), (0, .ref (bl_ad g v0)), (1, .long v1), (3, .long v3)]) X.1 X.2.1 dX3_chanceCost_67 hl (k := 6) rfl (by rw [e18]; rfl) (by decide) rfl (fun ls hl => ?_)
    refine lv_goto (tgt := 24) X.1 X.2.1 dX3_chanceCost_70 (by decide) ?_
    exact hk24 σ9 v0 v1 v3 x13 x15 x17 hv0 hf _ _ _ V (lv_sub hl [4, 5, 6, 2, 1, 0] rfl)
theorem l_X3_chanceCost_24 {p : Program} {l : Launch} {e : Env} {s : State} {m : MethodId} {below : List Frame} {meth : Method} {c : Code} {g : bl_Gp} {as : List Value} {out : Int64 × bl_St} (X : bl_Cx g p s m as.toArray meth c cX3_chanceCost 12 RX3) (hr : meth.sig.returnType = (Option.some Jvm.ClassFile.FieldType.long)) (n : Nat) : ∀ (σ : bl_St) (v0 : Nat) (v1 : Int64) (v3 : Int64) (v5 : Int64) (v7 : Int64) (v9 : Int32), bl_sh[v0]? = some (3, 8) → (bl_fx (fun _ _ _ _ _ _ _ => none) (b_X3_chanceCost_24 ) n) σ v0 v1 v3 v5 v7 v9 = some out → ∀ (H : Heap) (locs : List Loc) (ls : Array Slot), bl_V g s σ H locs → lv_has ls 12 [(0, .ref (bl_ad g v0)), (1, .long v1), (3, .long v3), (5, .long v5), (7, .long v7), (9, .int v9)] → W p l e (bl_rm 1 29) s m as.toArray below meth c H locs 0 0 (bl_Ql below g s as out) (F0 m 24 ls []) := by
  induction n with
  | zero =>
    intro σ v0 v1 v3 v5 v7 v9 hv0 hf H locs ls V hl
    cases hf
  | succ n ih => exact w_X3_chanceCost_24 X hr  _ ih
set_option maxHeartbeats 4000000 in
set_option maxRecDepth 100000 in
theorem w_X3_chanceCost_19 {p : Program} {l : Launch} {e : Env} {s : State} {m : MethodId} {below : List Frame} {meth : Method} {c : Code} {g : bl_Gp} {as : List Value} {out : Int64 × bl_St} (X : bl_Cx g p s m as.toArray meth c cX3_chanceCost 12 RX3) (hr : meth.sig.returnType = (Option.some Jvm.ClassFile.FieldType.long)) : ∀ (σ : bl_St) (v0 : Nat) (v1 : Int64) (v3 : Int64) (v5 : Int64) (s0 : Int64), bl_sh[v0]? = some (3, 8) → (b_X3_chanceCost_19 ) σ v0 v1 v3 v5 s0 = some out → ∀ (H : Heap) (locs : List Loc) (ls : Array Slot), bl_V g s σ H locs → lv_has ls 12 [(0, .ref (bl_ad g v0)), (1, .long v1), (3, .long v3), (5, .long v5)] → W p l e (bl_rm 1 29) s m as.toArray below meth c H locs 0 0 (bl_Ql below g s as out) (F0 m 19 ls [.long s0]) := by
  intro σ v0 v1 v3 v5 s0 hv0 hf H locs ls V hl
  unfold b_X3_chanceCost_19 at hf
  refine lv_lstore (lv' := [(7, .long s0), (0, .ref (bl_ad g v0)), (1, .long v1), (3, .long v3), (5, .long v5)]) X.1 X.2.1 dX3_chanceCost_19 hl (by decide) rfl (fun ls hl => ?_)
  refine lv_iconst (v := 0) X.1 X.2.1 dX3_chanceCost_21 (by decide) ?_
  refine lv_istore (lv' := [(9, .int 0), (7, .long s0), (0, .ref (bl_ad g v0)), (1, .long v1), (3, .long v3), (5, .long v5)]) X.1 X.2.1 dX3_chanceCost_22 hl (by decide) rfl (fun ls hl => ?_)
  exact l_X3_chanceCost_24 X hr  bl_fu σ v0 v1 v3 v5 s0 0 hv0 hf _ _ _ V (lv_sub hl [2, 3, 4, 5, 1, 0] rfl)
set_option maxHeartbeats 4000000 in
set_option maxRecDepth 100000 in
theorem t_X3_chanceCost (l : Launch) (g : bl_Gp) (σ : bl_St) (a0 : Nat) (a1 : Int64) (a3 : Int64) (o : Int64 × bl_St) (ha0 : bl_sh[a0]? = some (3, 8)) (hf : f_X3_chanceCost σ a0 a1 a3 = some o) : bl_Cl l g yX3_chanceCost cX3_chanceCost 12 (Option.some Jvm.ClassFile.FieldType.long) (bl_rm 1 29) [.ref (bl_ad g a0), .long a1, .long a3] σ o := by
  refine bl_met (by decide) (Nat.le_of_ble_eq_true rfl) (fun p e s m below meth c ls X hr V hl => ?_)
  have hl : lv_has ls 12 [(0, .ref (bl_ad g a0)), (1, .long a1), (3, .long a3)] := hl
  unfold f_X3_chanceCost at hf
  refine lv_lconst (v := 0) X.1 X.2.1 dX3_chanceCost_0 (by decide) ?_
  refine lv_lstore (lv' := [(5, .long 0), (0, .ref (bl_ad g a0)), (1, .long a1), (3, .long a3)]) X.1 X.2.1 dX3_chanceCost_1 hl (by decide) rfl (fun ls hl => ?_)
  refine lv_aload_n X.1 X.2.1 dX3_chanceCost_3 rfl (lv_at hl 1 rfl) ?_
  refine bl_getl X V ha0 fl_X3_36 dX3_chanceCost_4 ?_
  refine lv_ldc2 (v := 12) X.1 X.2.1 X.2.2.2.1 (X.2.2.2.2.1 _ kl_X3_58) dX3_chanceCost_7 ?_
  refine bl_lc_ge (tgt := 18) X dX3_chanceCost_10 dX3_chanceCost_11 (by decide) (fun c19 => ?_) (fun c19 => ?_)
  · have hf := bl_ifp c19 hf
    refine lv_lconst (v := 0) X.1 X.2.1 dX3_chanceCost_18 (by decide) ?_
    exact w_X3_chanceCost_19 X hr  σ a0 a1 a3 0 0 ha0 hf _ _ _ V (lv_sub hl [1, 2, 3, 0] rfl)
  · have hf := bl_ifn c19 hf
    refine lv_lload_n X.1 X.2.1 dX3_chanceCost_14 rfl (lv_at hl 2 rfl) ?_
    refine lv_goto (tgt := 19) X.1 X.2.1 dX3_chanceCost_15 (by decide) ?_
    exact w_X3_chanceCost_19 X hr  σ a0 a1 a3 0 a1 ha0 hf _ _ _ V (lv_sub hl [1, 2, 3, 0] rfl)
set_option maxHeartbeats 4000000 in
set_option maxRecDepth 100000 in
theorem t_X8_chances (l : Launch) (g : bl_Gp) (σ : bl_St) (a0 : Nat) (o : Int32 × bl_St) (ha0 : bl_sh[a0]? = some (8, 5)) (hf : f_X8_chances σ a0 = some o) : bl_Ci l g yX8_chances cX8_chances 1 (Option.some Jvm.ClassFile.FieldType.int) (bl_rm 0 0) [.ref (bl_ad g a0)] σ o := by
  refine bl_met (by decide) (Nat.le_of_ble_eq_true rfl) (fun p e s m below meth c ls X hr V hl => ?_)
  have hl : lv_has ls 1 [(0, .ref (bl_ad g a0))] := hl
  unfold f_X8_chances at hf
  refine lv_aload_n X.1 X.2.1 dX8_chances_0 rfl (lv_at hl 0 rfl) ?_
  refine bl_getr X V ha0 fl_X8_18 rfl dX8_chances_1 (fun h1 => ?_)
  refine lv_iconst (v := 0) X.1 X.2.1 dX8_chances_4 (by decide) ?_
  refine bl_iald (k := 0) X V h1 (by decide) (by decide) dX8_chances_5 ?_
  exact bl_reti X V hr hf dX8_chances_6
set_option maxHeartbeats 4000000 in
set_option maxRecDepth 100000 in
theorem t_X8_next (l : Launch) (g : bl_Gp) (σ : bl_St) (a0 : Nat) (a1 : Int32) (a2 : Int32) (o : Int32 × bl_St) (ha0 : bl_sh[a0]? = some (8, 5)) (hf : f_X8_next σ a0 a1 a2 = some o) : bl_Ci l g yX8_next cX8_next 3 (Option.some Jvm.ClassFile.FieldType.int) (bl_rm 1 17) [.ref (bl_ad g a0), .int a1, .int a2] σ o := by
  refine bl_met (by decide) (Nat.le_of_ble_eq_true rfl) (fun p e s m below meth c ls X hr V hl => ?_)
  have hl : lv_has ls 3 [(0, .ref (bl_ad g a0)), (1, .int a1), (2, .int a2)] := hl
  unfold f_X8_next at hf
  refine lv_aload_n X.1 X.2.1 dX8_next_0 rfl (lv_at hl 0 rfl) ?_
  refine bl_getr X V ha0 fl_X8_9 rfl dX8_next_1 (fun h1 => ?_)
  refine lv_iload_n X.1 X.2.1 dX8_next_4 rfl (lv_at hl 1 rfl) ?_
  refine lv_iconst (v := 5) X.1 X.2.1 dX8_next_5 (by decide) ?_
  refine lv_imul X.1 X.2.1 dX8_next_6 ?_
  refine lv_iconst (v := 1) X.1 X.2.1 dX8_next_7 (by decide) ?_
  refine lv_iadd X.1 X.2.1 dX8_next_8 ?_
  refine lv_iconst (v := 2) X.1 X.2.1 dX8_next_9 (by decide) ?_
  refine lv_iload_n X.1 X.2.1 dX8_next_10 rfl (lv_at hl 2 rfl) ?_
  refine bl_mini X hl.1 mm_X8_37 ⟨Nat.le_of_ble_eq_true rfl, Nat.le_of_ble_eq_true rfl⟩ ⟨Nat.zero_le _, Nat.zero_le _⟩ dX8_next_11 ?_
  refine lv_iadd X.1 X.2.1 dX8_next_14 ?_
  obtain ⟨h2, hf⟩ := bl_gd_at hf
  refine bl_iald (k := (Int32.toNatClampNeg (((a1 * 5) + 1) + (if a2 < 2 then a2 else 2)))) X V h1 h2 rfl dX8_next_15 ?_
  exact bl_reti X V hr hf dX8_next_16
set_option maxHeartbeats 4000000 in
set_option maxRecDepth 100000 in
theorem w_X1_costBehindPremiums_103 {p : Program} {l : Launch} {e : Env} {s : State} {m : MethodId} {below : List Frame} {meth : Method} {c : Code} {g : bl_Gp} {as : List Value} {out : Int64 × bl_St} (X : bl_Cx g p s m as.toArray meth c cX1_costBehindPremiums 8 RX1) (hr : meth.sig.returnType = (Option.some Jvm.ClassFile.FieldType.long)) (k89 : bl_St → Nat → Int32 → Int32 → Option (Int64 × bl_St)) (hk89 : ∀ (σ : bl_St) (v0 : Nat) (v5 : Int32) (v6 : Int32), bl_sh[v0]? = some (1, 4) → k89 σ v0 v5 v6 = some out → ∀ (H : Heap) (locs : List Loc) (ls : Array Slot), bl_V g s σ H locs → lv_has ls 8 [(0, .ref (bl_ad g v0)), (5, .int v5), (6, .int v6)] → W p l e (bl_rm 2 60) s m as.toArray below meth c H locs 0 0 (bl_Ql below g s as out) (F0 m 89 ls [])) (k103 : bl_St → Nat → Int32 → Int32 → Int32 → Option (Int64 × bl_St)) (hk103 : ∀ (σ : bl_St) (v0 : Nat) (v5 : Int32) (v6 : Int32) (v7 : Int32), bl_sh[v0]? = some (1, 4) → k103 σ v0 v5 v6 v7 = some out → ∀ (H : Heap) (locs : List Loc) (ls : Array Slot), bl_V g s σ H locs → lv_has ls 8 [(0, .ref (bl_ad g v0)), (5, .int v5), (6, .int v6), (7, .int v7)] → W p l e (bl_rm 2 60) s m as.toArray below meth c H locs 0 0 (bl_Ql below g s as out) (F0 m 103 ls [])) : ∀ (σ : bl_St) (v0 : Nat) (v5 : Int32) (v6 : Int32) (v7 : Int32), bl_sh[v0]? = some (1, 4) → (b_X1_costBehindPremiums_103 k89 k103) σ v0 v5 v6 v7 = some out → ∀ (H : Heap) (locs : List Loc) (ls : Array Slot), bl_V g s σ H locs → lv_has ls 8 [(0, .ref (bl_ad g v0)), (5, .int v5), (6, .int v6), (7, .int v7)] → W p l e (bl_rm 2 60) s m as.toArray below meth c H locs 0 0 (bl_Ql below g s as out) (F0 m 103 ls []) := by
  intro σ v0 v5 v6 v7 hv0 hf H locs ls V hl
  unfold b_X1_costBehindPremiums_103 at hf
  refine lv_iload X.1 X.2.1 dX1_costBehindPremiums_103 (lv_at hl 3 rfl) ?_
  refine lv_iconst (v := 2) X.1 X.2.1 dX1_costBehindPremiums_105 (by decide) ?_
  refine lv_iload X.1 X.2.1 dX1_costBehindPremiums_106 (lv_at hl 1 rfl) ?_
  refine lv_iload X.1 X.2.1 dX1_costBehindPremiums_108 (lv_at hl 2 rfl) ?_
  refine lv_isub X.1 X.2.1 dX1_costBehindPremiums_110 ?_
  refine bl_mini X hl.1 mm_X1_63 ⟨Nat.le_of_ble_eq_true rfl, Nat.le_of_ble_eq_true rfl⟩ ⟨Nat.zero_le _, Nat.zero_le _⟩ dX1_costBehindPremiums_111 ?_
  refine lv_icmp_gt (tgt := 170) X.1 X.2.1 dX1_costBehindPremiums_114 (by decide) (fun c1 => ?_) (fun c1 => ?_)
  · have hf := bl_ifp c1 hf
    obtain ⟨x2, e3⟩ : ∃ z : Int32, z = v6 + 1 := ⟨_, rfl⟩
    have hf := bl_let_at e3 hf
    refine lv_iinc (v := x2) (lv' := [(6, .int x2), (0, .ref (bl_ad g v0)), (5, .int v5), (7, .int v7)]) X.1 X.2.1 dX1_costBehindPremiums_170 hl (k := 2) rfl (by rw [e3]; rfl) (by decide) rfl (fun ls hl => ?_)
    refine lv_goto (tgt := 89) X.1 X.2.1 dX1_costBehindPremiums_173 (by decide) ?_
    exact hk89 σ v0 v5 x2 hv0 hf _ _ _ V (lv_sub hl [1, 2, 0] rfl)
  · have hf := bl_ifn c1 hf
    refine lv_aload_n X.1 X.2.1 dX1_costBehindPremiums_117 rfl (lv_at hl 0 rfl) ?_
    refine bl_getr X V hv0 fl_X1_18 rfl dX1_costBehindPremiums_118 (fun h4 => ?_)
    refine lv_iload X.1 X.2.1 dX1_costBehindPremiums_121 (lv_at hl 1 rfl) ?_
    refine lv_iload X.1 X.2.1 dX1_costBehindPremiums_123 (lv_at hl 2 rfl) ?_
    refine lv_iload X.1 X.2.1 dX1_costBehindPremiums_125 (lv_at hl 3 rfl) ?_
    obtain ⟨r5, σ6, h7, hf⟩ := bl_bd_at hf
    refine bl_cSi (As := [.int v5, .int v6, .int v7]) X V hl.1 ml_X1_56 mS_X1_index (t_X1_index l g σ v5 v6 v7 _  h7) rfl rfl ⟨Nat.le_of_ble_eq_true rfl, Nat.le_of_ble_eq_true rfl⟩ rfl rfl (Nat.le_of_ble_eq_true rfl) ⟨Nat.zero_le _, Nat.zero_le _⟩ dX1_costBehindPremiums_127 (fun H locs V => ?_)
    refine lv_aload_n X.1 X.2.1 dX1_costBehindPremiums_130 rfl (lv_at hl 0 rfl) ?_
    refine bl_getr X V hv0 fl_X1_24 rfl dX1_costBehindPremiums_131 (fun h8 => ?_)
    refine lv_aload_n X.1 X.2.1 dX1_costBehindPremiums_134 rfl (lv_at hl 0 rfl) ?_
    refine bl_getr X V hv0 fl_X1_18 rfl dX1_costBehindPremiums_135 (fun h9 => ?_)
    refine lv_iload X.1 X.2.1 dX1_costBehindPremiums_138 (lv_at hl 1 rfl) ?_
    refine lv_iconst (v := 1) X.1 X.2.1 dX1_costBehindPremiums_140 (by decide) ?_
    refine lv_iadd X.1 X.2.1 dX1_costBehindPremiums_141 ?_
    refine lv_iload X.1 X.2.1 dX1_costBehindPremiums_142 (lv_at hl 2 rfl) ?_
    refine lv_iload X.1 X.2.1 dX1_costBehindPremiums_144 (lv_at hl 3 rfl) ?_
    obtain ⟨r10, σ11, h12, hf⟩ := bl_bd_at hf
    refine bl_cSi (As := [.int (v5 + 1), .int v6, .int v7]) X V hl.1 ml_X1_56 mS_X1_index (t_X1_index l g σ6 (v5 + 1) v6 v7 _  h12) rfl rfl ⟨Nat.le_of_ble_eq_true rfl, Nat.le_of_ble_eq_true rfl⟩ rfl rfl (Nat.le_of_ble_eq_true rfl) ⟨Nat.zero_le _, Nat.zero_le _⟩ dX1_costBehindPremiums_146 (fun H locs V => ?_)
    obtain ⟨h13, hf⟩ := bl_gd_at hf
    refine bl_lald (k := (Int32.toNatClampNeg r10)) X V h9 h13 rfl dX1_costBehindPremiums_149 ?_
    refine lv_aload_n X.1 X.2.1 dX1_costBehindPremiums_150 rfl (lv_at hl 0 rfl) ?_
    refine lv_iload X.1 X.2.1 dX1_costBehindPremiums_151 (lv_at hl 1 rfl) ?_
    refine lv_iload X.1 X.2.1 dX1_costBehindPremiums_153 (lv_at hl 2 rfl) ?_
    refine lv_iload X.1 X.2.1 dX1_costBehindPremiums_155 (lv_at hl 3 rfl) ?_
    obtain ⟨r14, σ15, h16, hf⟩ := bl_bd_at hf
    refine bl_cVl (As := [.int v5, .int v6, .int v7]) X V hl.1 hv0 rfl ml_X1_68 mV_X1_toldCost (t_X1_toldCost l g σ11 v0 v5 v6 v7 _ hv0 h16) rfl rfl ⟨Nat.le_of_ble_eq_true rfl, Nat.le_of_ble_eq_true rfl⟩ rfl rfl (Nat.le_of_ble_eq_true rfl) ⟨Nat.zero_le _, Nat.zero_le _⟩ dX1_costBehindPremiums_157 (fun H locs V => ?_)
    obtain ⟨r17, σ18, h19, hf⟩ := bl_bd_at hf
    refine bl_cVl (As := [.long (bl_J σ11 (bl_R σ6 v0 2) (Int32.toNatClampNeg r10)), .long r14]) X V hl.1 h8 rfl ml_X1_72 mV_X3_chanceCost (t_X3_chanceCost l g σ15 (bl_R σ6 v0 3) (bl_J σ11 (bl_R σ6 v0 2) (Int32.toNatClampNeg r10)) r14 _ h8 h19) rfl rfl ⟨Nat.le_of_ble_eq_true rfl, Nat.le_of_ble_eq_true rfl⟩ rfl rfl (Nat.le_of_ble_eq_true rfl) ⟨Nat.zero_le _, Nat.zero_le _⟩ dX1_costBehindPremiums_160 (fun H locs V => ?_)
    obtain ⟨h20, hf⟩ := bl_gd_at hf
    refine bl_last (k := (Int32.toNatClampNeg r5)) X V h4 h20 rfl dX1_costBehindPremiums_163 (fun σ21 H locs e22 V => ?_)
    have hf := bl_let_at e22 hf
    obtain ⟨x23, e24⟩ : ∃ z : Int32, z = v7 + 1 := ⟨_, rfl⟩
    have hf := bl_let_at e24 hf
    refine lv_iinc (v := x23) (lv' := [(7, .int x23), (0, .ref (bl_ad g v0)), (5, .int v5), (6, .int v6)]) X.1 X.2.1 dX1_costBehindPremiums_164 hl (k := 3) rfl (by rw [e24]; rfl) (by decide) rfl (fun ls hl => ?_)
    refine lv_goto (tgt := 103) X.1 X.2.1 dX1_costBehindPremiums_167 (by decide) ?_
    exact hk103 σ21 v0 v5 v6 x23 hv0 hf _ _ _ V (lv_sub hl [1, 2, 3, 0] rfl)
theorem l_X1_costBehindPremiums_103 {p : Program} {l : Launch} {e : Env} {s : State} {m : MethodId} {below : List Frame} {meth : Method} {c : Code} {g : bl_Gp} {as : List Value} {out : Int64 × bl_St} (X : bl_Cx g p s m as.toArray meth c cX1_costBehindPremiums 8 RX1) (hr : meth.sig.returnType = (Option.some Jvm.ClassFile.FieldType.long)) (k89 : bl_St → Nat → Int32 → Int32 → Option (Int64 × bl_St)) (hk89 : ∀ (σ : bl_St) (v0 : Nat) (v5 : Int32) (v6 : Int32), bl_sh[v0]? = some (1, 4) → k89 σ v0 v5 v6 = some out → ∀ (H : Heap) (locs : List Loc) (ls : Array Slot), bl_V g s σ H locs → lv_has ls 8 [(0, .ref (bl_ad g v0)), (5, .int v5), (6, .int v6)] → W p l e (bl_rm 2 60) s m as.toArray below meth c H locs 0 0 (bl_Ql below g s as out) (F0 m 89 ls [])) (n : Nat) : ∀ (σ : bl_St) (v0 : Nat) (v5 : Int32) (v6 : Int32) (v7 : Int32), bl_sh[v0]? = some (1, 4) → (bl_fx (fun _ _ _ _ _ => none) (b_X1_costBehindPremiums_103 k89) n) σ v0 v5 v6 v7 = some out → ∀ (H : Heap) (locs : List Loc) (ls : Array Slot), bl_V g s σ H locs → lv_has ls 8 [(0, .ref (bl_ad g v0)), (5, .int v5), (6, .int v6), (7, .int v7)] → W p l e (bl_rm 2 60) s m as.toArray below meth c H locs 0 0 (bl_Ql below g s as out) (F0 m 103 ls []) := by
  induction n with
  | zero =>
    intro σ v0 v5 v6 v7 hv0 hf H locs ls V hl
    cases hf
  | succ n ih => exact w_X1_costBehindPremiums_103 X hr k89 hk89 _ ih
set_option maxHeartbeats 4000000 in
set_option maxRecDepth 100000 in
theorem w_X1_costBehindPremiums_89 {p : Program} {l : Launch} {e : Env} {s : State} {m : MethodId} {below : List Frame} {meth : Method} {c : Code} {g : bl_Gp} {as : List Value} {out : Int64 × bl_St} (X : bl_Cx g p s m as.toArray meth c cX1_costBehindPremiums 8 RX1) (hr : meth.sig.returnType = (Option.some Jvm.ClassFile.FieldType.long)) (k81 : bl_St → Nat → Int32 → Option (Int64 × bl_St)) (hk81 : ∀ (σ : bl_St) (v0 : Nat) (v5 : Int32), bl_sh[v0]? = some (1, 4) → k81 σ v0 v5 = some out → ∀ (H : Heap) (locs : List Loc) (ls : Array Slot), bl_V g s σ H locs → lv_has ls 8 [(0, .ref (bl_ad g v0)), (5, .int v5)] → W p l e (bl_rm 2 60) s m as.toArray below meth c H locs 0 0 (bl_Ql below g s as out) (F0 m 81 ls [])) (k89 : bl_St → Nat → Int32 → Int32 → Option (Int64 × bl_St)) (hk89 : ∀ (σ : bl_St) (v0 : Nat) (v5 : Int32) (v6 : Int32), bl_sh[v0]? = some (1, 4) → k89 σ v0 v5 v6 = some out → ∀ (H : Heap) (locs : List Loc) (ls : Array Slot), bl_V g s σ H locs → lv_has ls 8 [(0, .ref (bl_ad g v0)), (5, .int v5), (6, .int v6)] → W p l e (bl_rm 2 60) s m as.toArray below meth c H locs 0 0 (bl_Ql below g s as out) (F0 m 89 ls [])) : ∀ (σ : bl_St) (v0 : Nat) (v5 : Int32) (v6 : Int32), bl_sh[v0]? = some (1, 4) → (b_X1_costBehindPremiums_89 k81 k89) σ v0 v5 v6 = some out → ∀ (H : Heap) (locs : List Loc) (ls : Array Slot), bl_V g s σ H locs → lv_has ls 8 [(0, .ref (bl_ad g v0)), (5, .int v5), (6, .int v6)] → W p l e (bl_rm 2 60) s m as.toArray below meth c H locs 0 0 (bl_Ql below g s as out) (F0 m 89 ls []) := by
  intro σ v0 v5 v6 hv0 hf H locs ls V hl
  unfold b_X1_costBehindPremiums_89 at hf
  refine lv_iload X.1 X.2.1 dX1_costBehindPremiums_89 (lv_at hl 2 rfl) ?_
  refine lv_iconst (v := 2) X.1 X.2.1 dX1_costBehindPremiums_91 (by decide) ?_
  refine lv_iload X.1 X.2.1 dX1_costBehindPremiums_92 (lv_at hl 1 rfl) ?_
  refine bl_mini X hl.1 mm_X1_63 ⟨Nat.le_of_ble_eq_true rfl, Nat.le_of_ble_eq_true rfl⟩ ⟨Nat.zero_le _, Nat.zero_le _⟩ dX1_costBehindPremiums_94 ?_
  refine lv_icmp_gt (tgt := 176) X.1 X.2.1 dX1_costBehindPremiums_97 (by decide) (fun c25 => ?_) (fun c25 => ?_)
  · have hf := bl_ifp c25 hf
    obtain ⟨x26, e27⟩ : ∃ z : Int32, z = v5 + (-1) := ⟨_, rfl⟩
    have hf := bl_let_at e27 hf
    refine lv_iinc (v := x26) (lv' := [(5, .int x26), (0, .ref (bl_ad g v0)), (6, .int v6)]) X.1 X.2.1 dX1_costBehindPremiums_176 hl (k := 1) rfl (by rw [e27]; rfl) (by decide) rfl (fun ls hl => ?_)
    refine lv_goto (tgt := 81) X.1 X.2.1 dX1_costBehindPremiums_179 (by decide) ?_
    exact hk81 σ v0 x26 hv0 hf _ _ _ V (lv_sub hl [1, 0] rfl)
  · have hf := bl_ifn c25 hf
    refine lv_iconst (v := 0) X.1 X.2.1 dX1_costBehindPremiums_100 (by decide) ?_
    refine lv_istore (lv' := [(7, .int 0), (0, .ref (bl_ad g v0)), (5, .int v5), (6, .int v6)]) X.1 X.2.1 dX1_costBehindPremiums_101 hl (by decide) rfl (fun ls hl => ?_)
    exact l_X1_costBehindPremiums_103 X hr k89 hk89 bl_fu σ v0 v5 v6 0 hv0 hf _ _ _ V (lv_sub hl [1, 2, 3, 0] rfl)
theorem l_X1_costBehindPremiums_89 {p : Program} {l : Launch} {e : Env} {s : State} {m : MethodId} {below : List Frame} {meth : Method} {c : Code} {g : bl_Gp} {as : List Value} {out : Int64 × bl_St} (X : bl_Cx g p s m as.toArray meth c cX1_costBehindPremiums 8 RX1) (hr : meth.sig.returnType = (Option.some Jvm.ClassFile.FieldType.long)) (k81 : bl_St → Nat → Int32 → Option (Int64 × bl_St)) (hk81 : ∀ (σ : bl_St) (v0 : Nat) (v5 : Int32), bl_sh[v0]? = some (1, 4) → k81 σ v0 v5 = some out → ∀ (H : Heap) (locs : List Loc) (ls : Array Slot), bl_V g s σ H locs → lv_has ls 8 [(0, .ref (bl_ad g v0)), (5, .int v5)] → W p l e (bl_rm 2 60) s m as.toArray below meth c H locs 0 0 (bl_Ql below g s as out) (F0 m 81 ls [])) (n : Nat) : ∀ (σ : bl_St) (v0 : Nat) (v5 : Int32) (v6 : Int32), bl_sh[v0]? = some (1, 4) → (bl_fx (fun _ _ _ _ => none) (b_X1_costBehindPremiums_89 k81) n) σ v0 v5 v6 = some out → ∀ (H : Heap) (locs : List Loc) (ls : Array Slot), bl_V g s σ H locs → lv_has ls 8 [(0, .ref (bl_ad g v0)), (5, .int v5), (6, .int v6)] → W p l e (bl_rm 2 60) s m as.toArray below meth c H locs 0 0 (bl_Ql below g s as out) (F0 m 89 ls []) := by
  induction n with
  | zero =>
    intro σ v0 v5 v6 hv0 hf H locs ls V hl
    cases hf
  | succ n ih => exact w_X1_costBehindPremiums_89 X hr k81 hk81 _ ih
set_option maxHeartbeats 4000000 in
set_option maxRecDepth 100000 in
theorem w_X1_costBehindPremiums_81 {p : Program} {l : Launch} {e : Env} {s : State} {m : MethodId} {below : List Frame} {meth : Method} {c : Code} {g : bl_Gp} {as : List Value} {out : Int64 × bl_St} (X : bl_Cx g p s m as.toArray meth c cX1_costBehindPremiums 8 RX1) (hr : meth.sig.returnType = (Option.some Jvm.ClassFile.FieldType.long)) (k81 : bl_St → Nat → Int32 → Option (Int64 × bl_St)) (hk81 : ∀ (σ : bl_St) (v0 : Nat) (v5 : Int32), bl_sh[v0]? = some (1, 4) → k81 σ v0 v5 = some out → ∀ (H : Heap) (locs : List Loc) (ls : Array Slot), bl_V g s σ H locs → lv_has ls 8 [(0, .ref (bl_ad g v0)), (5, .int v5)] → W p l e (bl_rm 2 60) s m as.toArray below meth c H locs 0 0 (bl_Ql below g s as out) (F0 m 81 ls [])) : ∀ (σ : bl_St) (v0 : Nat) (v5 : Int32), bl_sh[v0]? = some (1, 4) → (b_X1_costBehindPremiums_81 k81) σ v0 v5 = some out → ∀ (H : Heap) (locs : List Loc) (ls : Array Slot), bl_V g s σ H locs → lv_has ls 8 [(0, .ref (bl_ad g v0)), (5, .int v5)] → W p l e (bl_rm 2 60) s m as.toArray below meth c H locs 0 0 (bl_Ql below g s as out) (F0 m 81 ls []) := by
  intro σ v0 v5 hv0 hf H locs ls V hl
  unfold b_X1_costBehindPremiums_81 at hf
  refine lv_iload X.1 X.2.1 dX1_costBehindPremiums_81 (lv_at hl 1 rfl) ?_
  refine lv_if_lt (tgt := 182) X.1 X.2.1 dX1_costBehindPremiums_83 (by decide) (fun c28 => ?_) (fun c28 => ?_)
  · have hf := bl_ifp c28 hf
    refine lv_aload_n X.1 X.2.1 dX1_costBehindPremiums_182 rfl (lv_at hl 0 rfl) ?_
    refine bl_getr X V hv0 fl_X1_18 rfl dX1_costBehindPremiums_183 (fun h29 => ?_)
    refine lv_iconst (v := 0) X.1 X.2.1 dX1_costBehindPremiums_186 (by decide) ?_
    refine lv_iconst (v := 0) X.1 X.2.1 dX1_costBehindPremiums_187 (by decide) ?_
    refine lv_iconst (v := 0) X.1 X.2.1 dX1_costBehindPremiums_188 (by decide) ?_
    obtain ⟨r30, σ31, h32, hf⟩ := bl_bd_at hf
    refine bl_cSi (As := [.int 0, .int 0, .int 0]) X V hl.1 ml_X1_56 mS_X1_index (t_X1_index l g σ 0 0 0 _  h32) rfl rfl ⟨Nat.le_of_ble_eq_true rfl, Nat.le_of_ble_eq_true rfl⟩ rfl rfl (Nat.le_of_ble_eq_true rfl) ⟨Nat.zero_le _, Nat.zero_le _⟩ dX1_costBehindPremiums_189 (fun H locs V => ?_)
    obtain ⟨h33, hf⟩ := bl_gd_at hf
    refine bl_lald (k := (Int32.toNatClampNeg r30)) X V h29 h33 rfl dX1_costBehindPremiums_192 ?_
    exact bl_retl X V hr hf dX1_costBehindPremiums_193
  · have hf := bl_ifn c28 hf
    refine lv_iconst (v := 0) X.1 X.2.1 dX1_costBehindPremiums_86 (by decide) ?_
    refine lv_istore (lv' := [(6, .int 0), (0, .ref (bl_ad g v0)), (5, .int v5)]) X.1 X.2.1 dX1_costBehindPremiums_87 hl (by decide) rfl (fun ls hl => ?_)
    exact l_X1_costBehindPremiums_89 X hr k81 hk81 bl_fu σ v0 v5 0 hv0 hf _ _ _ V (lv_sub hl [1, 2, 0] rfl)
theorem l_X1_costBehindPremiums_81 {p : Program} {l : Launch} {e : Env} {s : State} {m : MethodId} {below : List Frame} {meth : Method} {c : Code} {g : bl_Gp} {as : List Value} {out : Int64 × bl_St} (X : bl_Cx g p s m as.toArray meth c cX1_costBehindPremiums 8 RX1) (hr : meth.sig.returnType = (Option.some Jvm.ClassFile.FieldType.long)) (n : Nat) : ∀ (σ : bl_St) (v0 : Nat) (v5 : Int32), bl_sh[v0]? = some (1, 4) → (bl_fx (fun _ _ _ => none) (b_X1_costBehindPremiums_81 ) n) σ v0 v5 = some out → ∀ (H : Heap) (locs : List Loc) (ls : Array Slot), bl_V g s σ H locs → lv_has ls 8 [(0, .ref (bl_ad g v0)), (5, .int v5)] → W p l e (bl_rm 2 60) s m as.toArray below meth c H locs 0 0 (bl_Ql below g s as out) (F0 m 81 ls []) := by
  induction n with
  | zero =>
    intro σ v0 v5 hv0 hf H locs ls V hl
    cases hf
  | succ n ih => exact w_X1_costBehindPremiums_81 X hr  _ ih
set_option maxHeartbeats 4000000 in
set_option maxRecDepth 100000 in
theorem w_X1_costBehindPremiums_20 {p : Program} {l : Launch} {e : Env} {s : State} {m : MethodId} {below : List Frame} {meth : Method} {c : Code} {g : bl_Gp} {as : List Value} {out : Int64 × bl_St} (X : bl_Cx g p s m as.toArray meth c cX1_costBehindPremiums 8 RX1) (hr : meth.sig.returnType = (Option.some Jvm.ClassFile.FieldType.long)) (k11 : bl_St → Nat → Nat → Int32 → Int32 → Int32 → Int32 → Option (Int64 × bl_St)) (hk11 : ∀ (σ : bl_St) (v0 : Nat) (v1 : Nat) (v2 : Int32) (v3 : Int32) (v4 : Int32) (v5 : Int32), bl_sh[v0]? = some (1, 4) → bl_sh[v1]? = some (8, 5) → k11 σ v0 v1 v2 v3 v4 v5 = some out → ∀ (H : Heap) (locs : List Loc) (ls : Array Slot), bl_V g s σ H locs → lv_has ls 8 [(0, .ref (bl_ad g v0)), (1, .ref (bl_ad g v1)), (2, .int v2), (3, .int v3), (4, .int v4), (5, .int v5)] → W p l e (bl_rm 2 60) s m as.toArray below meth c H locs 0 0 (bl_Ql below g s as out) (F0 m 11 ls [])) (k20 : bl_St → Nat → Nat → Int32 → Int32 → Int32 → Int32 → Int32 → Option (Int64 × bl_St)) (hk20 : ∀ (σ : bl_St) (v0 : Nat) (v1 : Nat) (v2 : Int32) (v3 : Int32) (v4 : Int32) (v5 : Int32) (v6 : Int32), bl_sh[v0]? = some (1, 4) → bl_sh[v1]? = some (8, 5) → k20 σ v0 v1 v2 v3 v4 v5 v6 = some out → ∀ (H : Heap) (locs : List Loc) (ls : Array Slot), bl_V g s σ H locs → lv_has ls 8 [(0, .ref (bl_ad g v0)), (1, .ref (bl_ad g v1)), (2, .int v2), (3, .int v3), (4, .int v4), (5, .int v5), (6, .int v6)] → W p l e (bl_rm 2 60) s m as.toArray below meth c H locs 0 0 (bl_Ql below g s as out) (F0 m 20 ls [])) : ∀ (σ : bl_St) (v0 : Nat) (v1 : Nat) (v2 : Int32) (v3 : Int32) (v4 : Int32) (v5 : Int32) (v6 : Int32), bl_sh[v0]? = some (1, 4) → bl_sh[v1]? = some (8, 5) → (b_X1_costBehindPremiums_20 k11 k20) σ v0 v1 v2 v3 v4 v5 v6 = some out → ∀ (H : Heap) (locs : List Loc) (ls : Array Slot), bl_V g s σ H locs → lv_has ls 8 [(0, .ref (bl_ad g v0)), (1, .ref (bl_ad g v1)), (2, .int v2), (3, .int v3), (4, .int v4), (5, .int v5), (6, .int v6)] → W p l e (bl_rm 2 60) s m as.toArray below meth c H locs 0 0 (bl_Ql below g s as out) (F0 m 20 ls []) := by
  intro σ v0 v1 v2 v3 v4 v5 v6 hv0 hv1 hf H locs ls V hl
  unfold b_X1_costBehindPremiums_20 at hf
  refine lv_iload X.1 X.2.1 dX1_costBehindPremiums_20 (lv_at hl 6 rfl) ?_
  refine lv_iconst (v := 3) X.1 X.2.1 dX1_costBehindPremiums_22 (by decide) ?_
  refine lv_icmp_ge (tgt := 69) X.1 X.2.1 dX1_costBehindPremiums_23 (by decide) (fun c34 => ?_) (fun c34 => ?_)
  · have hf := bl_ifp c34 hf
    obtain ⟨x35, e36⟩ : ∃ z : Int32, z = v5 + 1 := ⟨_, rfl⟩
    have hf := bl_let_at e36 hf
    refine lv_iinc (v := x35) (lv' := [(5, .int x35), (0, .ref (bl_ad g v0)), (1, .ref (bl_ad g v1)), (2, .int v2), (3, .int v3), (4, .int v4), (6, .int v6)]) X.1 X.2.1 dX1_costBehindPremiums_69 hl (k := 5) rfl (by rw [e36]; rfl) (by decide) rfl (fun ls hl => ?_)
    refine lv_goto (tgt := 11) X.1 X.2.1 dX1_costBehindPremiums_72 (by decide) ?_
    exact hk11 σ v0 v1 v2 v3 v4 x35 hv0 hv1 hf _ _ _ V (lv_sub hl [1, 2, 3, 4, 5, 0] rfl)
  · have hf := bl_ifn c34 hf
    refine lv_aload_n X.1 X.2.1 dX1_costBehindPremiums_26 rfl (lv_at hl 0 rfl) ?_
    refine bl_getr X V hv0 fl_X1_18 rfl dX1_costBehindPremiums_27 (fun h37 => ?_)
    refine lv_iload X.1 X.2.1 dX1_costBehindPremiums_30 (lv_at hl 4 rfl) ?_
    refine lv_iload X.1 X.2.1 dX1_costBehindPremiums_32 (lv_at hl 5 rfl) ?_
    refine lv_iload X.1 X.2.1 dX1_costBehindPremiums_34 (lv_at hl 6 rfl) ?_
    obtain ⟨r38, σ39, h40, hf⟩ := bl_bd_at hf
    refine bl_cSi (As := [.int v4, .int v5, .int v6]) X V hl.1 ml_X1_56 mS_X1_index (t_X1_index l g σ v4 v5 v6 _  h40) rfl rfl ⟨Nat.le_of_ble_eq_true rfl, Nat.le_of_ble_eq_true rfl⟩ rfl rfl (Nat.le_of_ble_eq_true rfl) ⟨Nat.zero_le _, Nat.zero_le _⟩ dX1_costBehindPremiums_36 (fun H locs V => ?_)
    refine lv_aload_n X.1 X.2.1 dX1_costBehindPremiums_39 rfl (lv_at hl 0 rfl) ?_
    refine bl_getr X V hv0 fl_X1_15 rfl dX1_costBehindPremiums_40 (fun h41 => ?_)
    refine lv_aload_n X.1 X.2.1 dX1_costBehindPremiums_43 rfl (lv_at hl 1 rfl) ?_
    refine lv_iload_n X.1 X.2.1 dX1_costBehindPremiums_44 rfl (lv_at hl 2 rfl) ?_
    refine lv_iload X.1 X.2.1 dX1_costBehindPremiums_45 (lv_at hl 5 rfl) ?_
    obtain ⟨r42, σ43, h44, hf⟩ := bl_bd_at hf
    refine bl_cVi (As := [.int v2, .int v5]) X V hl.1 hv1 rfl ml_X1_60 mV_X8_next (t_X8_next l g σ39 v1 v2 v5 _ hv1 h44) rfl rfl ⟨Nat.le_of_ble_eq_true rfl, Nat.le_of_ble_eq_true rfl⟩ rfl rfl (Nat.le_of_ble_eq_true rfl) ⟨Nat.zero_le _, Nat.zero_le _⟩ dX1_costBehindPremiums_47 (fun H locs V => ?_)
    refine lv_bipush (v := 8) X.1 X.2.1 dX1_costBehindPremiums_50 (by decide) ?_
    refine lv_imul X.1 X.2.1 dX1_costBehindPremiums_52 ?_
    refine lv_aload_n X.1 X.2.1 dX1_costBehindPremiums_53 rfl (lv_at hl 1 rfl) ?_
    refine lv_iload_n X.1 X.2.1 dX1_costBehindPremiums_54 rfl (lv_at hl 3 rfl) ?_
    refine lv_iload X.1 X.2.1 dX1_costBehindPremiums_55 (lv_at hl 6 rfl) ?_
    obtain ⟨r45, σ46, h47, hf⟩ := bl_bd_at hf
    refine bl_cVi (As := [.int v3, .int v6]) X V hl.1 hv1 rfl ml_X1_60 mV_X8_next (t_X8_next l g σ43 v1 v3 v6 _ hv1 h47) rfl rfl ⟨Nat.le_of_ble_eq_true rfl, Nat.le_of_ble_eq_true rfl⟩ rfl rfl (Nat.le_of_ble_eq_true rfl) ⟨Nat.zero_le _, Nat.zero_le _⟩ dX1_costBehindPremiums_57 (fun H locs V => ?_)
    refine lv_iadd X.1 X.2.1 dX1_costBehindPremiums_60 ?_
    obtain ⟨h48, hf⟩ := bl_gd_at hf
    refine bl_lald (k := (Int32.toNatClampNeg ((r42 * 8) + r45))) X V h41 h48 rfl dX1_costBehindPremiums_61 ?_
    obtain ⟨h49, hf⟩ := bl_gd_at hf
    refine bl_last (k := (Int32.toNatClampNeg r38)) X V h37 h49 rfl dX1_costBehindPremiums_62 (fun σ50 H locs e51 V => ?_)
    have hf := bl_let_at e51 hf
    obtain ⟨x52, e53⟩ : ∃ z : Int32, z = v6 + 1 := ⟨_, rfl⟩
    have hf := bl_let_at e53 hf
    refine lv_iinc (v := x52) (lv' := [(6, .int x52), (0, .ref (bl_ad g v0)), (1, .ref (bl_ad g v1)), (2, .int v2), (3, .int v3), (4, .int v4), (5, .int v5)]) X.1 X.2.1 dX1_costBehindPremiums_63 hl (k := 6) rfl (by rw [e53]; rfl) (by decide) rfl (fun ls hl => ?_)
    refine lv_goto (tgt := 20) X.1 X.2.1 dX1_costBehindPremiums_66 (by decide) ?_
    exact hk20 σ50 v0 v1 v2 v3 v4 v5 x52 hv0 hv1 hf _ _ _ V (lv_sub hl [1, 2, 3, 4, 5, 6, 0] rfl)
theorem l_X1_costBehindPremiums_20 {p : Program} {l : Launch} {e : Env} {s : State} {m : MethodId} {below : List Frame} {meth : Method} {c : Code} {g : bl_Gp} {as : List Value} {out : Int64 × bl_St} (X : bl_Cx g p s m as.toArray meth c cX1_costBehindPremiums 8 RX1) (hr : meth.sig.returnType = (Option.some Jvm.ClassFile.FieldType.long)) (k11 : bl_St → Nat → Nat → Int32 → Int32 → Int32 → Int32 → Option (Int64 × bl_St)) (hk11 : ∀ (σ : bl_St) (v0 : Nat) (v1 : Nat) (v2 : Int32) (v3 : Int32) (v4 : Int32) (v5 : Int32), bl_sh[v0]? = some (1, 4) → bl_sh[v1]? = some (8, 5) → k11 σ v0 v1 v2 v3 v4 v5 = some out → ∀ (H : Heap) (locs : List Loc) (ls : Array Slot), bl_V g s σ H locs → lv_has ls 8 [(0, .ref (bl_ad g v0)), (1, .ref (bl_ad g v1)), (2, .int v2), (3, .int v3), (4, .int v4), (5, .int v5)] → W p l e (bl_rm 2 60) s m as.toArray below meth c H locs 0 0 (bl_Ql below g s as out) (F0 m 11 ls [])) (n : Nat) : ∀ (σ : bl_St) (v0 : Nat) (v1 : Nat) (v2 : Int32) (v3 : Int32) (v4 : Int32) (v5 : Int32) (v6 : Int32), bl_sh[v0]? = some (1, 4) → bl_sh[v1]? = some (8, 5) → (bl_fx (fun _ _ _ _ _ _ _ _ => none) (b_X1_costBehindPremiums_20 k11) n) σ v0 v1 v2 v3 v4 v5 v6 = some out → ∀ (H : Heap) (locs : List Loc) (ls : Array Slot), bl_V g s σ H locs → lv_has ls 8 [(0, .ref (bl_ad g v0)), (1, .ref (bl_ad g v1)), (2, .int v2), (3, .int v3), (4, .int v4), (5, .int v5), (6, .int v6)] → W p l e (bl_rm 2 60) s m as.toArray below meth c H locs 0 0 (bl_Ql below g s as out) (F0 m 20 ls []) := by
  induction n with
  | zero =>
    intro σ v0 v1 v2 v3 v4 v5 v6 hv0 hv1 hf H locs ls V hl
    cases hf
  | succ n ih => exact w_X1_costBehindPremiums_20 X hr k11 hk11 _ ih
set_option maxHeartbeats 4000000 in
set_option maxRecDepth 100000 in
theorem w_X1_costBehindPremiums_11 {p : Program} {l : Launch} {e : Env} {s : State} {m : MethodId} {below : List Frame} {meth : Method} {c : Code} {g : bl_Gp} {as : List Value} {out : Int64 × bl_St} (X : bl_Cx g p s m as.toArray meth c cX1_costBehindPremiums 8 RX1) (hr : meth.sig.returnType = (Option.some Jvm.ClassFile.FieldType.long)) (k11 : bl_St → Nat → Nat → Int32 → Int32 → Int32 → Int32 → Option (Int64 × bl_St)) (hk11 : ∀ (σ : bl_St) (v0 : Nat) (v1 : Nat) (v2 : Int32) (v3 : Int32) (v4 : Int32) (v5 : Int32), bl_sh[v0]? = some (1, 4) → bl_sh[v1]? = some (8, 5) → k11 σ v0 v1 v2 v3 v4 v5 = some out → ∀ (H : Heap) (locs : List Loc) (ls : Array Slot), bl_V g s σ H locs → lv_has ls 8 [(0, .ref (bl_ad g v0)), (1, .ref (bl_ad g v1)), (2, .int v2), (3, .int v3), (4, .int v4), (5, .int v5)] → W p l e (bl_rm 2 60) s m as.toArray below meth c H locs 0 0 (bl_Ql below g s as out) (F0 m 11 ls [])) : ∀ (σ : bl_St) (v0 : Nat) (v1 : Nat) (v2 : Int32) (v3 : Int32) (v4 : Int32) (v5 : Int32), bl_sh[v0]? = some (1, 4) → bl_sh[v1]? = some (8, 5) → (b_X1_costBehindPremiums_11 k11) σ v0 v1 v2 v3 v4 v5 = some out → ∀ (H : Heap) (locs : List Loc) (ls : Array Slot), bl_V g s σ H locs → lv_has ls 8 [(0, .ref (bl_ad g v0)), (1, .ref (bl_ad g v1)), (2, .int v2), (3, .int v3), (4, .int v4), (5, .int v5)] → W p l e (bl_rm 2 60) s m as.toArray below meth c H locs 0 0 (bl_Ql below g s as out) (F0 m 11 ls []) := by
  intro σ v0 v1 v2 v3 v4 v5 hv0 hv1 hf H locs ls V hl
  unfold b_X1_costBehindPremiums_11 at hf
  refine lv_iload X.1 X.2.1 dX1_costBehindPremiums_11 (lv_at hl 5 rfl) ?_
  refine lv_iconst (v := 3) X.1 X.2.1 dX1_costBehindPremiums_13 (by decide) ?_
  refine lv_icmp_ge (tgt := 75) X.1 X.2.1 dX1_costBehindPremiums_14 (by decide) (fun c54 => ?_) (fun c54 => ?_)
  · have hf := bl_ifp c54 hf
    refine lv_iload X.1 X.2.1 dX1_costBehindPremiums_75 (lv_at hl 4 rfl) ?_
    refine lv_iconst (v := 1) X.1 X.2.1 dX1_costBehindPremiums_77 (by decide) ?_
    refine lv_isub X.1 X.2.1 dX1_costBehindPremiums_78 ?_
    refine lv_topi (fun x55 e56 => ?_)
    have hf := bl_let_at e56 hf
    refine lv_istore (lv' := [(5, .int x55), (0, .ref (bl_ad g v0)), (1, .ref (bl_ad g v1)), (2, .int v2), (3, .int v3), (4, .int v4)]) X.1 X.2.1 dX1_costBehindPremiums_79 hl (by decide) rfl (fun ls hl => ?_)
    exact l_X1_costBehindPremiums_81 X hr  bl_fu σ v0 x55 hv0 hf _ _ _ V (lv_sub hl [1, 0] rfl)
  · have hf := bl_ifn c54 hf
    refine lv_iconst (v := 0) X.1 X.2.1 dX1_costBehindPremiums_17 (by decide) ?_
    refine lv_istore (lv' := [(6, .int 0), (0, .ref (bl_ad g v0)), (1, .ref (bl_ad g v1)), (2, .int v2), (3, .int v3), (4, .int v4), (5, .int v5)]) X.1 X.2.1 dX1_costBehindPremiums_18 hl (by decide) rfl (fun ls hl => ?_)
    exact l_X1_costBehindPremiums_20 X hr k11 hk11 bl_fu σ v0 v1 v2 v3 v4 v5 0 hv0 hv1 hf _ _ _ V (lv_sub hl [1, 2, 3, 4, 5, 6, 0] rfl)
theorem l_X1_costBehindPremiums_11 {p : Program} {l : Launch} {e : Env} {s : State} {m : MethodId} {below : List Frame} {meth : Method} {c : Code} {g : bl_Gp} {as : List Value} {out : Int64 × bl_St} (X : bl_Cx g p s m as.toArray meth c cX1_costBehindPremiums 8 RX1) (hr : meth.sig.returnType = (Option.some Jvm.ClassFile.FieldType.long)) (n : Nat) : ∀ (σ : bl_St) (v0 : Nat) (v1 : Nat) (v2 : Int32) (v3 : Int32) (v4 : Int32) (v5 : Int32), bl_sh[v0]? = some (1, 4) → bl_sh[v1]? = some (8, 5) → (bl_fx (fun _ _ _ _ _ _ _ => none) (b_X1_costBehindPremiums_11 ) n) σ v0 v1 v2 v3 v4 v5 = some out → ∀ (H : Heap) (locs : List Loc) (ls : Array Slot), bl_V g s σ H locs → lv_has ls 8 [(0, .ref (bl_ad g v0)), (1, .ref (bl_ad g v1)), (2, .int v2), (3, .int v3), (4, .int v4), (5, .int v5)] → W p l e (bl_rm 2 60) s m as.toArray below meth c H locs 0 0 (bl_Ql below g s as out) (F0 m 11 ls []) := by
  induction n with
  | zero =>
    intro σ v0 v1 v2 v3 v4 v5 hv0 hv1 hf H locs ls V hl
    cases hf
  | succ n ih => exact w_X1_costBehindPremiums_11 X hr  _ ih
set_option maxHeartbeats 4000000 in
set_option maxRecDepth 100000 in
theorem t_X1_costBehindPremiums (l : Launch) (g : bl_Gp) (σ : bl_St) (a0 : Nat) (a1 : Nat) (a2 : Int32) (a3 : Int32) (o : Int64 × bl_St) (ha0 : bl_sh[a0]? = some (1, 4)) (ha1 : bl_sh[a1]? = some (8, 5)) (hf : f_X1_costBehindPremiums σ a0 a1 a2 a3 = some o) : bl_Cl l g yX1_costBehindPremiums cX1_costBehindPremiums 8 (Option.some Jvm.ClassFile.FieldType.long) (bl_rm 2 60) [.ref (bl_ad g a0), .ref (bl_ad g a1), .int a2, .int a3] σ o := by
  refine bl_met (by decide) (Nat.le_of_ble_eq_true rfl) (fun p e s m below meth c ls X hr V hl => ?_)
  have hl : lv_has ls 8 [(0, .ref (bl_ad g a0)), (1, .ref (bl_ad g a1)), (2, .int a2), (3, .int a3)] := hl
  unfold f_X1_costBehindPremiums at hf
  refine lv_iconst (v := 2) X.1 X.2.1 dX1_costBehindPremiums_0 (by decide) ?_
  refine lv_aload_n X.1 X.2.1 dX1_costBehindPremiums_1 rfl (lv_at hl 1 rfl) ?_
  obtain ⟨r57, σ58, h59, hf⟩ := bl_bd_at hf
  refine bl_cVi (As := []) X V hl.1 ha1 rfl ml_X1_52 mV_X8_chances (t_X8_chances l g σ a1 _ ha1 h59) rfl rfl ⟨Nat.le_of_ble_eq_true rfl, Nat.le_of_ble_eq_true rfl⟩ rfl rfl (Nat.le_of_ble_eq_true rfl) ⟨Nat.zero_le _, Nat.zero_le _⟩ dX1_costBehindPremiums_2 (fun H locs V => ?_)
  refine lv_imul X.1 X.2.1 dX1_costBehindPremiums_5 ?_
  refine lv_topi (fun x60 e61 => ?_)
  have hf := bl_let_at e61 hf
  refine lv_istore (lv' := [(4, .int x60), (0, .ref (bl_ad g a0)), (1, .ref (bl_ad g a1)), (2, .int a2), (3, .int a3)]) X.1 X.2.1 dX1_costBehindPremiums_6 hl (by decide) rfl (fun ls hl => ?_)
  refine lv_iconst (v := 0) X.1 X.2.1 dX1_costBehindPremiums_8 (by decide) ?_
  refine lv_istore (lv' := [(5, .int 0), (4, .int x60), (0, .ref (bl_ad g a0)), (1, .ref (bl_ad g a1)), (2, .int a2), (3, .int a3)]) X.1 X.2.1 dX1_costBehindPremiums_9 hl (by decide) rfl (fun ls hl => ?_)
  exact l_X1_costBehindPremiums_11 X hr  bl_fu σ58 a0 a1 a2 a3 x60 0 ha0 ha1 hf _ _ _ V (lv_sub hl [2, 3, 4, 5, 1, 0] rfl)
set_option maxHeartbeats 4000000 in
set_option maxRecDepth 100000 in
theorem t_X8_part (l : Launch) (g : bl_Gp) (σ : bl_St) (a0 : Nat) (a1 : Int32) (a2 : Int32) (o : Int32 × bl_St) (ha0 : bl_sh[a0]? = some (8, 5)) (hf : f_X8_part σ a0 a1 a2 = some o) : bl_Ci l g yX8_part cX8_part 3 (Option.some Jvm.ClassFile.FieldType.int) (bl_rm 0 0) [.ref (bl_ad g a0), .int a1, .int a2] σ o := by
  refine bl_met (by decide) (Nat.le_of_ble_eq_true rfl) (fun p e s m below meth c ls X hr V hl => ?_)
  have hl : lv_has ls 3 [(0, .ref (bl_ad g a0)), (1, .int a1), (2, .int a2)] := hl
  unfold f_X8_part at hf
  refine lv_aload_n X.1 X.2.1 dX8_part_0 rfl (lv_at hl 0 rfl) ?_
  refine bl_getr X V ha0 fl_X8_9 rfl dX8_part_1 (fun h1 => ?_)
  refine lv_iload_n X.1 X.2.1 dX8_part_4 rfl (lv_at hl 1 rfl) ?_
  refine lv_iconst (v := 5) X.1 X.2.1 dX8_part_5 (by decide) ?_
  refine lv_imul X.1 X.2.1 dX8_part_6 ?_
  refine lv_iload_n X.1 X.2.1 dX8_part_7 rfl (lv_at hl 2 rfl) ?_
  refine lv_iadd X.1 X.2.1 dX8_part_8 ?_
  obtain ⟨h2, hf⟩ := bl_gd_at hf
  refine bl_iald (k := (Int32.toNatClampNeg ((a1 * 5) + a2))) X V h1 h2 rfl dX8_part_9 ?_
  exact bl_reti X V hr hf dX8_part_10
set_option maxHeartbeats 4000000 in
set_option maxRecDepth 100000 in
theorem w_X1_fillPairs_12 {p : Program} {l : Launch} {e : Env} {s : State} {m : MethodId} {below : List Frame} {meth : Method} {c : Code} {g : bl_Gp} {as : List Value} {out : Unit × bl_St} (X : bl_Cx g p s m as.toArray meth c cX1_fillPairs 7 RX1) (hr : meth.sig.returnType = (Option.none : Option Jvm.ClassFile.FieldType)) (k2 : bl_St → Nat → Nat → Int32 → Option (Unit × bl_St)) (hk2 : ∀ (σ : bl_St) (v0 : Nat) (v1 : Nat) (v2 : Int32), bl_sh[v0]? = some (1, 4) → bl_sh[v1]? = some (8, 5) → k2 σ v0 v1 v2 = some out → ∀ (H : Heap) (locs : List Loc) (ls : Array Slot), bl_V g s σ H locs → lv_has ls 7 [(0, .ref (bl_ad g v0)), (1, .ref (bl_ad g v1)), (2, .int v2)] → W p l e (bl_rm 3 87) s m as.toArray below meth c H locs 0 0 (bl_Qv below g s as out) (F0 m 2 ls [])) (k12 : bl_St → Nat → Nat → Int32 → Int32 → Option (Unit × bl_St)) (hk12 : ∀ (σ : bl_St) (v0 : Nat) (v1 : Nat) (v2 : Int32) (v3 : Int32), bl_sh[v0]? = some (1, 4) → bl_sh[v1]? = some (8, 5) → k12 σ v0 v1 v2 v3 = some out → ∀ (H : Heap) (locs : List Loc) (ls : Array Slot), bl_V g s σ H locs → lv_has ls 7 [(0, .ref (bl_ad g v0)), (1, .ref (bl_ad g v1)), (2, .int v2), (3, .int v3)] → W p l e (bl_rm 3 87) s m as.toArray below meth c H locs 0 0 (bl_Qv below g s as out) (F0 m 12 ls [])) : ∀ (σ : bl_St) (v0 : Nat) (v1 : Nat) (v2 : Int32) (v3 : Int32), bl_sh[v0]? = some (1, 4) → bl_sh[v1]? = some (8, 5) → (b_X1_fillPairs_12 k2 k12) σ v0 v1 v2 v3 = some out → ∀ (H : Heap) (locs : List Loc) (ls : Array Slot), bl_V g s σ H locs → lv_has ls 7 [(0, .ref (bl_ad g v0)), (1, .ref (bl_ad g v1)), (2, .int v2), (3, .int v3)] → W p l e (bl_rm 3 87) s m as.toArray below meth c H locs 0 0 (bl_Qv below g s as out) (F0 m 12 ls []) := by
  intro σ v0 v1 v2 v3 hv0 hv1 hf H locs ls V hl
  unfold b_X1_fillPairs_12 at hf
  refine lv_iload_n X.1 X.2.1 dX1_fillPairs_12 rfl (lv_at hl 3 rfl) ?_
  refine lv_aload_n X.1 X.2.1 dX1_fillPairs_13 rfl (lv_at hl 1 rfl) ?_
  refine bl_geti X V hv1 fl_X1_36 dX1_fillPairs_14 ?_
  refine lv_icmp_ge (tgt := 84) X.1 X.2.1 dX1_fillPairs_17 (by decide) (fun c1 => ?_) (fun c1 => ?_)
  · have hf := bl_ifp c1 hf
    obtain ⟨x2, e3⟩ : ∃ z : Int32, z = v2 + 1 := ⟨_, rfl⟩
    have hf := bl_let_at e3 hf
    refine lv_iinc (v := x2) (lv' := [(2, .int x2), (0, .ref (bl_ad g v0)), (1, .ref (bl_ad g v1)), (3, .int v3)]) X.1 X.2.1 dX1_fillPairs_84 hl (k := 2) rfl (by rw [e3]; rfl) (by decide) rfl (fun ls hl => ?_)
    refine lv_goto (tgt := 2) X.1 X.2.1 dX1_fillPairs_87 (by decide) ?_
    exact hk2 σ v0 v1 x2 hv0 hv1 hf _ _ _ V (lv_sub hl [1, 2, 0] rfl)
  · have hf := bl_ifn c1 hf
    refine lv_aload_n X.1 X.2.1 dX1_fillPairs_20 rfl (lv_at hl 1 rfl) ?_
    refine lv_iload_n X.1 X.2.1 dX1_fillPairs_21 rfl (lv_at hl 2 rfl) ?_
    refine lv_iconst (v := 0) X.1 X.2.1 dX1_fillPairs_22 (by decide) ?_
    obtain ⟨r4, σ5, h6, hf⟩ := bl_bd_at hf
    refine bl_cVi (As := [.int v2, .int 0]) X V hl.1 hv1 rfl ml_X1_42 mV_X8_part (t_X8_part l g σ v1 v2 0 _ hv1 h6) rfl rfl ⟨Nat.le_of_ble_eq_true rfl, Nat.le_of_ble_eq_true rfl⟩ rfl rfl (Nat.le_of_ble_eq_true rfl) ⟨Nat.zero_le _, Nat.zero_le _⟩ dX1_fillPairs_23 (fun H locs V => ?_)
    refine lv_aload_n X.1 X.2.1 dX1_fillPairs_26 rfl (lv_at hl 1 rfl) ?_
    refine lv_iload_n X.1 X.2.1 dX1_fillPairs_27 rfl (lv_at hl 3 rfl) ?_
    refine lv_iconst (v := 0) X.1 X.2.1 dX1_fillPairs_28 (by decide) ?_
    obtain ⟨r7, σ8, h9, hf⟩ := bl_bd_at hf
    refine bl_cVi (As := [.int v3, .int 0]) X V hl.1 hv1 rfl ml_X1_42 mV_X8_part (t_X8_part l g σ5 v1 v3 0 _ hv1 h9) rfl rfl ⟨Nat.le_of_ble_eq_true rfl, Nat.le_of_ble_eq_true rfl⟩ rfl rfl (Nat.le_of_ble_eq_true rfl) ⟨Nat.zero_le _, Nat.zero_le _⟩ dX1_fillPairs_29 (fun H locs V => ?_)
    refine lv_iadd X.1 X.2.1 dX1_fillPairs_32 ?_
    refine lv_topi (fun x10 e11 => ?_)
    have hf := bl_let_at e11 hf
    refine lv_istore (lv' := [(4, .int x10), (0, .ref (bl_ad g v0)), (1, .ref (bl_ad g v1)), (2, .int v2), (3, .int v3)]) X.1 X.2.1 dX1_fillPairs_33 hl (by decide) rfl (fun ls hl => ?_)
    refine lv_ldc2 (v := 1000) X.1 X.2.1 X.2.2.2.1 (X.2.2.2.2.1 _ kl_X1_46) dX1_fillPairs_35 ?_
    refine lv_iload X.1 X.2.1 dX1_fillPairs_38 (lv_at hl 0 rfl) ?_
    refine lv_i2l X.1 X.2.1 dX1_fillPairs_40 rfl ?_
    refine lv_lmul X.1 X.2.1 dX1_fillPairs_41 ?_
    refine lv_aload_n X.1 X.2.1 dX1_fillPairs_42 rfl (lv_at hl 1 rfl) ?_
    refine lv_aload_n X.1 X.2.1 dX1_fillPairs_43 rfl (lv_at hl 2 rfl) ?_
    refine lv_iload_n X.1 X.2.1 dX1_fillPairs_44 rfl (lv_at hl 3 rfl) ?_
    refine lv_iload_n X.1 X.2.1 dX1_fillPairs_45 rfl (lv_at hl 4 rfl) ?_
    obtain ⟨r12, σ13, h14, hf⟩ := bl_bd_at hf
    refine bl_cVl (As := [.ref (bl_ad g v1), .int v2, .int v3]) X V hl.1 hv0 rfl ml_X1_48 mV_X1_costBehindPremiums (t_X1_costBehindPremiums l g σ8 v0 v1 v2 v3 _ hv0 hv1 h14) rfl rfl ⟨Nat.le_of_ble_eq_true rfl, Nat.le_of_ble_eq_true rfl⟩ rfl rfl (Nat.le_of_ble_eq_true rfl) ⟨Nat.zero_le _, Nat.zero_le _⟩ dX1_fillPairs_46 (fun H locs V => ?_)
    refine lv_ladd X.1 X.2.1 dX1_fillPairs_49 ?_
    refine lv_topl (fun x15 e16 => ?_)
    have hf := bl_let_at e16 hf
    refine lv_lstore (lv' := [(5, .long x15), (4, .int x10), (0, .ref (bl_ad g v0)), (1, .ref (bl_ad g v1)), (2, .int v2), (3, .int v3)]) X.1 X.2.1 dX1_fillPairs_50 hl (by decide) rfl (fun ls hl => ?_)
    refine lv_aload_n X.1 X.2.1 dX1_fillPairs_52 rfl (lv_at hl 2 rfl) ?_
    refine bl_getr X V hv0 fl_X1_9 rfl dX1_fillPairs_53 (fun h17 => ?_)
    refine lv_iload_n X.1 X.2.1 dX1_fillPairs_56 rfl (lv_at hl 4 rfl) ?_
    refine lv_bipush (v := 8) X.1 X.2.1 dX1_fillPairs_57 (by decide) ?_
    refine lv_imul X.1 X.2.1 dX1_fillPairs_59 ?_
    refine lv_iload_n X.1 X.2.1 dX1_fillPairs_60 rfl (lv_at hl 5 rfl) ?_
    refine lv_iadd X.1 X.2.1 dX1_fillPairs_61 ?_
    refine lv_lload X.1 X.2.1 dX1_fillPairs_62 (lv_at hl 0 rfl) ?_
    obtain ⟨h18, hf⟩ := bl_gd_at hf
    refine bl_last (k := (Int32.toNatClampNeg ((v2 * 8) + v3))) X V h17 h18 rfl dX1_fillPairs_64 (fun σ19 H locs e20 V => ?_)
    have hf := bl_let_at e20 hf
    refine lv_aload_n X.1 X.2.1 dX1_fillPairs_65 rfl (lv_at hl 2 rfl) ?_
    refine bl_getr X V hv0 fl_X1_9 rfl dX1_fillPairs_66 (fun h21 => ?_)
    refine lv_iload_n X.1 X.2.1 dX1_fillPairs_69 rfl (lv_at hl 5 rfl) ?_
    refine lv_bipush (v := 8) X.1 X.2.1 dX1_fillPairs_70 (by decide) ?_
    refine lv_imul X.1 X.2.1 dX1_fillPairs_72 ?_
    refine lv_iload_n X.1 X.2.1 dX1_fillPairs_73 rfl (lv_at hl 4 rfl) ?_
    refine lv_iadd X.1 X.2.1 dX1_fillPairs_74 ?_
    refine lv_lload X.1 X.2.1 dX1_fillPairs_75 (lv_at hl 0 rfl) ?_
    obtain ⟨h22, hf⟩ := bl_gd_at hf
    refine bl_last (k := (Int32.toNatClampNeg ((v3 * 8) + v2))) X V h21 h22 rfl dX1_fillPairs_77 (fun σ23 H locs e24 V => ?_)
    have hf := bl_let_at e24 hf
    obtain ⟨x25, e26⟩ : ∃ z : Int32, z = v3 + 1 := ⟨_, rfl⟩
    have hf := bl_let_at e26 hf
    refine lv_iinc (v := x25) (lv' := [(3, .int x25), (5, .long x15), (4, .int x10), (0, .ref (bl_ad g v0)), (1, .ref (bl_ad g v1)), (2, .int v2)]) X.1 X.2.1 dX1_fillPairs_78 hl (k := 5) rfl (by rw [e26]; rfl) (by decide) rfl (fun ls hl => ?_)
    refine lv_goto (tgt := 12) X.1 X.2.1 dX1_fillPairs_81 (by decide) ?_
    exact hk12 σ23 v0 v1 v2 x25 hv0 hv1 hf _ _ _ V (lv_sub hl [3, 4, 5, 0] rfl)
theorem l_X1_fillPairs_12 {p : Program} {l : Launch} {e : Env} {s : State} {m : MethodId} {below : List Frame} {meth : Method} {c : Code} {g : bl_Gp} {as : List Value} {out : Unit × bl_St} (X : bl_Cx g p s m as.toArray meth c cX1_fillPairs 7 RX1) (hr : meth.sig.returnType = (Option.none : Option Jvm.ClassFile.FieldType)) (k2 : bl_St → Nat → Nat → Int32 → Option (Unit × bl_St)) (hk2 : ∀ (σ : bl_St) (v0 : Nat) (v1 : Nat) (v2 : Int32), bl_sh[v0]? = some (1, 4) → bl_sh[v1]? = some (8, 5) → k2 σ v0 v1 v2 = some out → ∀ (H : Heap) (locs : List Loc) (ls : Array Slot), bl_V g s σ H locs → lv_has ls 7 [(0, .ref (bl_ad g v0)), (1, .ref (bl_ad g v1)), (2, .int v2)] → W p l e (bl_rm 3 87) s m as.toArray below meth c H locs 0 0 (bl_Qv below g s as out) (F0 m 2 ls [])) (n : Nat) : ∀ (σ : bl_St) (v0 : Nat) (v1 : Nat) (v2 : Int32) (v3 : Int32), bl_sh[v0]? = some (1, 4) → bl_sh[v1]? = some (8, 5) → (bl_fx (fun _ _ _ _ _ => none) (b_X1_fillPairs_12 k2) n) σ v0 v1 v2 v3 = some out → ∀ (H : Heap) (locs : List Loc) (ls : Array Slot), bl_V g s σ H locs → lv_has ls 7 [(0, .ref (bl_ad g v0)), (1, .ref (bl_ad g v1)), (2, .int v2), (3, .int v3)] → W p l e (bl_rm 3 87) s m as.toArray below meth c H locs 0 0 (bl_Qv below g s as out) (F0 m 12 ls []) := by
  induction n with
  | zero =>
    intro σ v0 v1 v2 v3 hv0 hv1 hf H locs ls V hl
    cases hf
  | succ n ih => exact w_X1_fillPairs_12 X hr k2 hk2 _ ih
set_option maxHeartbeats 4000000 in
set_option maxRecDepth 100000 in
theorem w_X1_fillPairs_2 {p : Program} {l : Launch} {e : Env} {s : State} {m : MethodId} {below : List Frame} {meth : Method} {c : Code} {g : bl_Gp} {as : List Value} {out : Unit × bl_St} (X : bl_Cx g p s m as.toArray meth c cX1_fillPairs 7 RX1) (hr : meth.sig.returnType = (Option.none : Option Jvm.ClassFile.FieldType)) (k2 : bl_St → Nat → Nat → Int32 → Option (Unit × bl_St)) (hk2 : ∀ (σ : bl_St) (v0 : Nat) (v1 : Nat) (v2 : Int32), bl_sh[v0]? = some (1, 4) → bl_sh[v1]? = some (8, 5) → k2 σ v0 v1 v2 = some out → ∀ (H : Heap) (locs : List Loc) (ls : Array Slot), bl_V g s σ H locs → lv_has ls 7 [(0, .ref (bl_ad g v0)), (1, .ref (bl_ad g v1)), (2, .int v2)] → W p l e (bl_rm 3 87) s m as.toArray below meth c H locs 0 0 (bl_Qv below g s as out) (F0 m 2 ls [])) : ∀ (σ : bl_St) (v0 : Nat) (v1 : Nat) (v2 : Int32), bl_sh[v0]? = some (1, 4) → bl_sh[v1]? = some (8, 5) → (b_X1_fillPairs_2 k2) σ v0 v1 v2 = some out → ∀ (H : Heap) (locs : List Loc) (ls : Array Slot), bl_V g s σ H locs → lv_has ls 7 [(0, .ref (bl_ad g v0)), (1, .ref (bl_ad g v1)), (2, .int v2)] → W p l e (bl_rm 3 87) s m as.toArray below meth c H locs 0 0 (bl_Qv below g s as out) (F0 m 2 ls []) := by
  intro σ v0 v1 v2 hv0 hv1 hf H locs ls V hl
  unfold b_X1_fillPairs_2 at hf
  refine lv_iload_n X.1 X.2.1 dX1_fillPairs_2 rfl (lv_at hl 2 rfl) ?_
  refine lv_aload_n X.1 X.2.1 dX1_fillPairs_3 rfl (lv_at hl 1 rfl) ?_
  refine bl_geti X V hv1 fl_X1_36 dX1_fillPairs_4 ?_
  refine lv_icmp_ge (tgt := 90) X.1 X.2.1 dX1_fillPairs_7 (by decide) (fun c27 => ?_) (fun c27 => ?_)
  · have hf := bl_ifp c27 hf
    exact bl_retv X V hr hf dX1_fillPairs_90
  · have hf := bl_ifn c27 hf
    refine lv_iload_n X.1 X.2.1 dX1_fillPairs_10 rfl (lv_at hl 2 rfl) ?_
    refine lv_istore_n (lv' := [(3, .int v2), (0, .ref (bl_ad g v0)), (1, .ref (bl_ad g v1)), (2, .int v2)]) X.1 X.2.1 dX1_fillPairs_11 rfl hl (by decide) rfl (fun ls hl => ?_)
    exact l_X1_fillPairs_12 X hr k2 hk2 bl_fu σ v0 v1 v2 v2 hv0 hv1 hf _ _ _ V (lv_sub hl [1, 2, 3, 0] rfl)
theorem l_X1_fillPairs_2 {p : Program} {l : Launch} {e : Env} {s : State} {m : MethodId} {below : List Frame} {meth : Method} {c : Code} {g : bl_Gp} {as : List Value} {out : Unit × bl_St} (X : bl_Cx g p s m as.toArray meth c cX1_fillPairs 7 RX1) (hr : meth.sig.returnType = (Option.none : Option Jvm.ClassFile.FieldType)) (n : Nat) : ∀ (σ : bl_St) (v0 : Nat) (v1 : Nat) (v2 : Int32), bl_sh[v0]? = some (1, 4) → bl_sh[v1]? = some (8, 5) → (bl_fx (fun _ _ _ _ => none) (b_X1_fillPairs_2 ) n) σ v0 v1 v2 = some out → ∀ (H : Heap) (locs : List Loc) (ls : Array Slot), bl_V g s σ H locs → lv_has ls 7 [(0, .ref (bl_ad g v0)), (1, .ref (bl_ad g v1)), (2, .int v2)] → W p l e (bl_rm 3 87) s m as.toArray below meth c H locs 0 0 (bl_Qv below g s as out) (F0 m 2 ls []) := by
  induction n with
  | zero =>
    intro σ v0 v1 v2 hv0 hv1 hf H locs ls V hl
    cases hf
  | succ n ih => exact w_X1_fillPairs_2 X hr  _ ih
set_option maxHeartbeats 4000000 in
set_option maxRecDepth 100000 in
theorem t_X1_fillPairs (l : Launch) (g : bl_Gp) (σ : bl_St) (a0 : Nat) (a1 : Nat) (o : Unit × bl_St) (ha0 : bl_sh[a0]? = some (1, 4)) (ha1 : bl_sh[a1]? = some (8, 5)) (hf : f_X1_fillPairs σ a0 a1 = some o) : bl_Cv l g yX1_fillPairs cX1_fillPairs 7 (Option.none : Option Jvm.ClassFile.FieldType) (bl_rm 3 87) [.ref (bl_ad g a0), .ref (bl_ad g a1)] σ o := by
  refine bl_met (by decide) (Nat.le_of_ble_eq_true rfl) (fun p e s m below meth c ls X hr V hl => ?_)
  have hl : lv_has ls 7 [(0, .ref (bl_ad g a0)), (1, .ref (bl_ad g a1))] := hl
  unfold f_X1_fillPairs at hf
  refine lv_iconst (v := 0) X.1 X.2.1 dX1_fillPairs_0 (by decide) ?_
  refine lv_istore_n (lv' := [(2, .int 0), (0, .ref (bl_ad g a0)), (1, .ref (bl_ad g a1))]) X.1 X.2.1 dX1_fillPairs_1 rfl hl (by decide) rfl (fun ls hl => ?_)
  exact l_X1_fillPairs_2 X hr  bl_fu σ a0 a1 0 ha0 ha1 hf _ _ _ V (lv_sub hl [1, 2, 0] rfl)
set_option maxHeartbeats 4000000 in
set_option maxRecDepth 100000 in
theorem t_X8_odds (l : Launch) (g : bl_Gp) (σ : bl_St) (a0 : Nat) (o : Int32 × bl_St) (ha0 : bl_sh[a0]? = some (8, 5)) (hf : f_X8_odds σ a0 = some o) : bl_Ci l g yX8_odds cX8_odds 1 (Option.some Jvm.ClassFile.FieldType.int) (bl_rm 0 0) [.ref (bl_ad g a0)] σ o := by
  refine bl_met (by decide) (Nat.le_of_ble_eq_true rfl) (fun p e s m below meth c ls X hr V hl => ?_)
  have hl : lv_has ls 1 [(0, .ref (bl_ad g a0))] := hl
  unfold f_X8_odds at hf
  refine lv_aload_n X.1 X.2.1 dX8_odds_0 rfl (lv_at hl 0 rfl) ?_
  refine bl_getr X V ha0 fl_X8_18 rfl dX8_odds_1 (fun h1 => ?_)
  refine lv_iconst (v := 1) X.1 X.2.1 dX8_odds_4 (by decide) ?_
  refine bl_iald (k := 1) X V h1 (by decide) (by decide) dX8_odds_5 ?_
  exact bl_reti X V hr hf dX8_odds_6
set_option maxHeartbeats 4000000 in
set_option maxRecDepth 100000 in
theorem t_X8_own (l : Launch) (g : bl_Gp) (σ : bl_St) (a0 : Nat) (o : Int32 × bl_St) (ha0 : bl_sh[a0]? = some (8, 5)) (hf : f_X8_own σ a0 = some o) : bl_Ci l g yX8_own cX8_own 1 (Option.some Jvm.ClassFile.FieldType.int) (bl_rm 0 0) [.ref (bl_ad g a0)] σ o := by
  refine bl_met (by decide) (Nat.le_of_ble_eq_true rfl) (fun p e s m below meth c ls X hr V hl => ?_)
  have hl : lv_has ls 1 [(0, .ref (bl_ad g a0))] := hl
  unfold f_X8_own at hf
  refine lv_aload_n X.1 X.2.1 dX8_own_0 rfl (lv_at hl 0 rfl) ?_
  refine bl_getr X V ha0 fl_X8_18 rfl dX8_own_1 (fun h1 => ?_)
  refine lv_iconst (v := 2) X.1 X.2.1 dX8_own_4 (by decide) ?_
  refine bl_iald (k := 2) X V h1 (by decide) (by decide) dX8_own_5 ?_
  exact bl_reti X V hr hf dX8_own_6
set_option maxHeartbeats 4000000 in
set_option maxRecDepth 100000 in
theorem t_X8_ownOf (l : Launch) (g : bl_Gp) (σ : bl_St) (a0 : Nat) (a1 : Int32) (o : Int32 × bl_St) (ha0 : bl_sh[a0]? = some (8, 5)) (hf : f_X8_ownOf σ a0 a1 = some o) : bl_Ci l g yX8_ownOf cX8_ownOf 2 (Option.some Jvm.ClassFile.FieldType.int) (bl_rm 1 22) [.ref (bl_ad g a0), .int a1] σ o := by
  refine bl_met (by decide) (Nat.le_of_ble_eq_true rfl) (fun p e s m below meth c ls X hr V hl => ?_)
  have hl : lv_has ls 2 [(0, .ref (bl_ad g a0)), (1, .int a1)] := hl
  unfold f_X8_ownOf at hf
  refine lv_aload_n X.1 X.2.1 dX8_ownOf_0 rfl (lv_at hl 0 rfl) ?_
  obtain ⟨r1, σ2, h3, hf⟩ := bl_bd_at hf
  refine bl_cVi (As := []) X V hl.1 ha0 rfl ml_X8_50 mV_X8_own (t_X8_own l g σ a0 _ ha0 h3) rfl rfl ⟨Nat.le_of_ble_eq_true rfl, Nat.le_of_ble_eq_true rfl⟩ rfl rfl (Nat.le_of_ble_eq_true rfl) ⟨Nat.zero_le _, Nat.zero_le _⟩ dX8_ownOf_1 (fun H locs V => ?_)
  refine lv_aload_n X.1 X.2.1 dX8_ownOf_4 rfl (lv_at hl 0 rfl) ?_
  refine lv_iload_n X.1 X.2.1 dX8_ownOf_5 rfl (lv_at hl 1 rfl) ?_
  refine lv_iconst (v := 0) X.1 X.2.1 dX8_ownOf_6 (by decide) ?_
  obtain ⟨r4, σ5, h6, hf⟩ := bl_bd_at hf
  refine bl_cVi (As := [.int a1, .int 0]) X V hl.1 ha0 rfl ml_X8_47 mV_X8_sortPart (t_X8_sortPart l g σ2 a0 a1 0 _ ha0 h6) rfl rfl ⟨Nat.le_of_ble_eq_true rfl, Nat.le_of_ble_eq_true rfl⟩ rfl rfl (Nat.le_of_ble_eq_true rfl) ⟨Nat.zero_le _, Nat.zero_le _⟩ dX8_ownOf_7 (fun H locs V => ?_)
  refine bl_mini X hl.1 mm_X8_37 ⟨Nat.le_of_ble_eq_true rfl, Nat.le_of_ble_eq_true rfl⟩ ⟨Nat.zero_le _, Nat.zero_le _⟩ dX8_ownOf_10 ?_
  exact bl_reti X V hr hf dX8_ownOf_13
set_option maxHeartbeats 4000000 in
set_option maxRecDepth 100000 in
theorem w_X3_take_131 {p : Program} {l : Launch} {e : Env} {s : State} {m : MethodId} {below : List Frame} {meth : Method} {c : Code} {g : bl_Gp} {as : List Value} {out : Unit × bl_St} (X : bl_Cx g p s m as.toArray meth c cX3_take 7 RX3) (hr : meth.sig.returnType = (Option.none : Option Jvm.ClassFile.FieldType)) (k35 : bl_St → Nat → Nat → Int32 → Int32 → Int32 → Option (Unit × bl_St)) (hk35 : ∀ (σ : bl_St) (v0 : Nat) (v1 : Nat) (v2 : Int32) (v3 : Int32) (v5 : Int32), bl_sh[v0]? = some (3, 8) → bl_sh[v1]? = some (8, 5) → k35 σ v0 v1 v2 v3 v5 = some out → ∀ (H : Heap) (locs : List Loc) (ls : Array Slot), bl_V g s σ H locs → lv_has ls 7 [(0, .ref (bl_ad g v0)), (1, .ref (bl_ad g v1)), (2, .int v2), (3, .int v3), (5, .int v5)] → W p l e (bl_rm 2 44) s m as.toArray below meth c H locs 0 0 (bl_Qv below g s as out) (F0 m 35 ls [])) : ∀ (σ : bl_St) (v0 : Nat) (v1 : Nat) (v2 : Int32) (v3 : Int32) (v5 : Int32), bl_sh[v0]? = some (3, 8) → bl_sh[v1]? = some (8, 5) → (b_X3_take_131 k35) σ v0 v1 v2 v3 v5 = some out → ∀ (H : Heap) (locs : List Loc) (ls : Array Slot), bl_V g s σ H locs → lv_has ls 7 [(0, .ref (bl_ad g v0)), (1, .ref (bl_ad g v1)), (2, .int v2), (3, .int v3), (5, .int v5)] → W p l e (bl_rm 2 44) s m as.toArray below meth c H locs 0 0 (bl_Qv below g s as out) (F0 m 131 ls []) := by
  intro σ v0 v1 v2 v3 v5 hv0 hv1 hf H locs ls V hl
  unfold b_X3_take_131 at hf
  obtain ⟨x1, e2⟩ : ∃ z : Int32, z = v5 + 1 := ⟨_, rfl⟩
  have hf := bl_let_at e2 hf
  refine lv_iinc (v := x1) (lv' := [(5, .int x1), (0, .ref (bl_ad g v0)), (1, .ref (bl_ad g v1)), (2, .int v2), (3, .int v3)]) X.1 X.2.1 dX3_take_131 hl (k := 4) rfl (by rw [e2]; rfl) (by decide) rfl (fun ls hl => ?_)
  refine lv_goto (tgt := 35) X.1 X.2.1 dX3_take_134 (by decide) ?_
  exact hk35 σ v0 v1 v2 v3 x1 hv0 hv1 hf _ _ _ V (lv_sub hl [1, 2, 3, 4, 0] rfl)
set_option maxHeartbeats 4000000 in
set_option maxRecDepth 100000 in
theorem w_X3_take_130 {p : Program} {l : Launch} {e : Env} {s : State} {m : MethodId} {below : List Frame} {meth : Method} {c : Code} {g : bl_Gp} {as : List Value} {out : Unit × bl_St} (X : bl_Cx g p s m as.toArray meth c cX3_take 7 RX3) (hr : meth.sig.returnType = (Option.none : Option Jvm.ClassFile.FieldType)) (k35 : bl_St → Nat → Nat → Int32 → Int32 → Int32 → Option (Unit × bl_St)) (hk35 : ∀ (σ : bl_St) (v0 : Nat) (v1 : Nat) (v2 : Int32) (v3 : Int32) (v5 : Int32), bl_sh[v0]? = some (3, 8) → bl_sh[v1]? = some (8, 5) → k35 σ v0 v1 v2 v3 v5 = some out → ∀ (H : Heap) (locs : List Loc) (ls : Array Slot), bl_V g s σ H locs → lv_has ls 7 [(0, .ref (bl_ad g v0)), (1, .ref (bl_ad g v1)), (2, .int v2), (3, .int v3), (5, .int v5)] → W p l e (bl_rm 2 44) s m as.toArray below meth c H locs 0 0 (bl_Qv below g s as out) (F0 m 35 ls [])) : ∀ (σ : bl_St) (v0 : Nat) (v1 : Nat) (v2 : Int32) (v3 : Int32) (v5 : Int32) (s0 : Int32) (s1 : Int32) (s2 : Nat), bl_sh[v0]? = some (3, 8) → bl_sh[v1]? = some (8, 5) → bl_sh[s2]? = some (20, 5) → (b_X3_take_130 k35) σ v0 v1 v2 v3 v5 s0 s1 s2 = some out → ∀ (H : Heap) (locs : List Loc) (ls : Array Slot), bl_V g s σ H locs → lv_has ls 7 [(0, .ref (bl_ad g v0)), (1, .ref (bl_ad g v1)), (2, .int v2), (3, .int v3), (5, .int v5)] → W p l e (bl_rm 2 44) s m as.toArray below meth c H locs 0 0 (bl_Qv below g s as out) (F0 m 130 ls [.int s0, .int s1, .ref (bl_ad g s2)]) := by
  intro σ v0 v1 v2 v3 v5 s0 s1 s2 hv0 hv1 hs2 hf H locs ls V hl
  unfold b_X3_take_130 at hf
  obtain ⟨h3, hf⟩ := bl_gd_at hf
  refine bl_iast (k := (Int32.toNatClampNeg s1)) X V hs2 h3 rfl dX3_take_130 (fun σ4 H locs e5 V => ?_)
  have hf := bl_let_at e5 hf
  exact w_X3_take_131 X hr k35 hk35 σ4 v0 v1 v2 v3 v5 hv0 hv1 hf _ _ _ V (lv_sub hl [0, 1, 2, 3, 4] rfl)
set_option maxHeartbeats 4000000 in
set_option maxRecDepth 100000 in
theorem w_X3_take_35 {p : Program} {l : Launch} {e : Env} {s : State} {m : MethodId} {below : List Frame} {meth : Method} {c : Code} {g : bl_Gp} {as : List Value} {out : Unit × bl_St} (X : bl_Cx g p s m as.toArray meth c cX3_take 7 RX3) (hr : meth.sig.returnType = (Option.none : Option Jvm.ClassFile.FieldType)) (k35 : bl_St → Nat → Nat → Int32 → Int32 → Int32 → Option (Unit × bl_St)) (hk35 : ∀ (σ : bl_St) (v0 : Nat) (v1 : Nat) (v2 : Int32) (v3 : Int32) (v5 : Int32), bl_sh[v0]? = some (3, 8) → bl_sh[v1]? = some (8, 5) → k35 σ v0 v1 v2 v3 v5 = some out → ∀ (H : Heap) (locs : List Loc) (ls : Array Slot), bl_V g s σ H locs → lv_has ls 7 [(0, .ref (bl_ad g v0)), (1, .ref (bl_ad g v1)), (2, .int v2), (3, .int v3), (5, .int v5)] → W p l e (bl_rm 2 44) s m as.toArray below meth c H locs 0 0 (bl_Qv below g s as out) (F0 m 35 ls [])) : ∀ (σ : bl_St) (v0 : Nat) (v1 : Nat) (v2 : Int32) (v3 : Int32) (v5 : Int32), bl_sh[v0]? = some (3, 8) → bl_sh[v1]? = some (8, 5) → (b_X3_take_35 k35) σ v0 v1 v2 v3 v5 = some out → ∀ (H : Heap) (locs : List Loc) (ls : Array Slot), bl_V g s σ H locs → lv_has ls 7 [(0, .ref (bl_ad g v0)), (1, .ref (bl_ad g v1)), (2, .int v2), (3, .int v3), (5, .int v5)] → W p l e (bl_rm 2 44) s m as.toArray below meth c H locs 0 0 (bl_Qv below g s as out) (F0 m 35 ls []) := by
  intro σ v0 v1 v2 v3 v5 hv0 hv1 hf H locs ls V hl
  unfold b_X3_take_35 at hf
  refine lv_iload X.1 X.2.1 dX3_take_35 (lv_at hl 4 rfl) ?_
  refine lv_aload_n X.1 X.2.1 dX3_take_37 rfl (lv_at hl 0 rfl) ?_
  refine bl_geti X V hv0 fl_X3_31 dX3_take_38 ?_
  refine lv_icmp_ge (tgt := 137) X.1 X.2.1 dX3_take_41 (by decide) (fun c6 => ?_) (fun c6 => ?_)
  · have hf := bl_ifp c6 hf
    exact bl_retv X V hr hf dX3_take_137
  · have hf := bl_ifn c6 hf
    refine lv_aload_n X.1 X.2.1 dX3_take_44 rfl (lv_at hl 1 rfl) ?_
    refine lv_iload X.1 X.2.1 dX3_take_45 (lv_at hl 4 rfl) ?_
    refine lv_iconst (v := 0) X.1 X.2.1 dX3_take_47 (by decide) ?_
    obtain ⟨r7, σ8, h9, hf⟩ := bl_bd_at hf
    refine bl_cVi (As := [.int v5, .int 0]) X V hl.1 hv1 rfl ml_X3_48 mV_X8_sortPart (t_X8_sortPart l g σ v1 v5 0 _ hv1 h9) rfl rfl ⟨Nat.le_of_ble_eq_true rfl, Nat.le_of_ble_eq_true rfl⟩ rfl rfl (Nat.le_of_ble_eq_true rfl) ⟨Nat.zero_le _, Nat.zero_le _⟩ dX3_take_48 (fun H locs V => ?_)
    refine lv_istore (lv' := [(6, .int r7), (0, .ref (bl_ad g v0)), (1, .ref (bl_ad g v1)), (2, .int v2), (3, .int v3), (5, .int v5)]) X.1 X.2.1 dX3_take_51 hl (by decide) rfl (fun ls hl => ?_)
    refine lv_aload_n X.1 X.2.1 dX3_take_53 rfl (lv_at hl 1 rfl) ?_
    refine bl_getr X V hv0 fl_X3_9 rfl dX3_take_54 (fun h10 => ?_)
    refine lv_iload X.1 X.2.1 dX3_take_57 (lv_at hl 5 rfl) ?_
    refine lv_ldc2 (v := 1000) X.1 X.2.1 X.2.2.2.1 (X.2.2.2.2.1 _ kl_X3_52) dX3_take_59 ?_
    refine lv_iload X.1 X.2.1 dX3_take_62 (lv_at hl 0 rfl) ?_
    refine lv_i2l X.1 X.2.1 dX3_take_64 rfl ?_
    refine lv_lmul X.1 X.2.1 dX3_take_65 ?_
    obtain ⟨h11, hf⟩ := bl_gd_at hf
    refine bl_last (k := (Int32.toNatClampNeg v5)) X V h10 h11 rfl dX3_take_66 (fun σ12 H locs e13 V => ?_)
    have hf := bl_let_at e13 hf
    refine lv_aload_n X.1 X.2.1 dX3_take_67 rfl (lv_at hl 1 rfl) ?_
    refine bl_getr X V hv0 fl_X3_15 rfl dX3_take_68 (fun h14 => ?_)
    refine lv_iload X.1 X.2.1 dX3_take_71 (lv_at hl 5 rfl) ?_
    refine lv_ldc2 (v := 1000) X.1 X.2.1 X.2.2.2.1 (X.2.2.2.2.1 _ kl_X3_52) dX3_take_73 ?_
    refine lv_aload_n X.1 X.2.1 dX3_take_76 rfl (lv_at hl 2 rfl) ?_
    refine lv_iload X.1 X.2.1 dX3_take_77 (lv_at hl 5 rfl) ?_
    obtain ⟨r15, σ16, h17, hf⟩ := bl_bd_at hf
    refine bl_cVi (As := [.int v5]) X V hl.1 hv1 rfl ml_X3_54 mV_X8_ownOf (t_X8_ownOf l g σ12 v1 v5 _ hv1 h17) rfl rfl ⟨Nat.le_of_ble_eq_true rfl, Nat.le_of_ble_eq_true rfl⟩ rfl rfl (Nat.le_of_ble_eq_true rfl) ⟨Nat.zero_le _, Nat.zero_le _⟩ dX3_take_79 (fun H locs V => ?_)
    refine lv_i2l X.1 X.2.1 dX3_take_82 rfl ?_
    refine lv_lmul X.1 X.2.1 dX3_take_83 ?_
    obtain ⟨h18, hf⟩ := bl_gd_at hf
    refine bl_last (k := (Int32.toNatClampNeg v5)) X V h14 h18 rfl dX3_take_84 (fun σ19 H locs e20 V => ?_)
    have hf := bl_let_at e20 hf
    refine lv_aload_n X.1 X.2.1 dX3_take_85 rfl (lv_at hl 1 rfl) ?_
    refine bl_getr X V hv0 fl_X3_18 rfl dX3_take_86 (fun h21 => ?_)
    refine lv_iload X.1 X.2.1 dX3_take_89 (lv_at hl 5 rfl) ?_
    refine lv_aload_n X.1 X.2.1 dX3_take_91 rfl (lv_at hl 2 rfl) ?_
    refine lv_iload X.1 X.2.1 dX3_take_92 (lv_at hl 5 rfl) ?_
    refine lv_iconst (v := 1) X.1 X.2.1 dX3_take_94 (by decide) ?_
    obtain ⟨r22, σ23, h24, hf⟩ := bl_bd_at hf
    refine bl_cVi (As := [.int v5, .int 1]) X V hl.1 hv1 rfl ml_X3_48 mV_X8_sortPart (t_X8_sortPart l g σ19 v1 v5 1 _ hv1 h24) rfl rfl ⟨Nat.le_of_ble_eq_true rfl, Nat.le_of_ble_eq_true rfl⟩ rfl rfl (Nat.le_of_ble_eq_true rfl) ⟨Nat.zero_le _, Nat.zero_le _⟩ dX3_take_95 (fun H locs V => ?_)
    refine lv_i2l X.1 X.2.1 dX3_take_98 rfl ?_
    obtain ⟨h25, hf⟩ := bl_gd_at hf
    refine bl_last (k := (Int32.toNatClampNeg v5)) X V h21 h25 rfl dX3_take_99 (fun σ26 H locs e27 V => ?_)
    have hf := bl_let_at e27 hf
    refine lv_aload_n X.1 X.2.1 dX3_take_100 rfl (lv_at hl 1 rfl) ?_
    refine bl_getr X V hv0 fl_X3_21 rfl dX3_take_101 (fun h28 => ?_)
    refine lv_iload X.1 X.2.1 dX3_take_104 (lv_at hl 5 rfl) ?_
    refine lv_iload_n X.1 X.2.1 dX3_take_106 rfl (lv_at hl 3 rfl) ?_
    obtain ⟨h29, hf⟩ := bl_gd_at hf
    refine bl_iast (k := (Int32.toNatClampNeg v5)) X V h28 h29 rfl dX3_take_107 (fun σ30 H locs e31 V => ?_)
    have hf := bl_let_at e31 hf
    refine lv_iload_n X.1 X.2.1 dX3_take_108 rfl (lv_at hl 3 rfl) ?_
    refine lv_iconst (v := 3) X.1 X.2.1 dX3_take_109 (by decide) ?_
    refine lv_icmp_ne (tgt := 131) X.1 X.2.1 dX3_take_110 (by decide) (fun c32 => ?_) (fun c32 => ?_)
    · have hf := bl_ifn c32 hf
      exact w_X3_take_131 X hr k35 hk35 σ30 v0 v1 v2 v3 v5 hv0 hv1 hf _ _ _ V (lv_sub hl [1, 2, 3, 4, 5] rfl)
    · have hf := bl_ifp c32 hf
      refine lv_aload_n X.1 X.2.1 dX3_take_113 rfl (lv_at hl 1 rfl) ?_
      refine bl_getr X V hv0 fl_X3_21 rfl dX3_take_114 (fun h33 => ?_)
      refine lv_iload X.1 X.2.1 dX3_take_117 (lv_at hl 5 rfl) ?_
      refine lv_iload X.1 X.2.1 dX3_take_119 (lv_at hl 0 rfl) ?_
      refine lv_iload_n X.1 X.2.1 dX3_take_121 rfl (lv_at hl 4 rfl) ?_
      refine lv_icmp_le (tgt := 129) X.1 X.2.1 dX3_take_122 (by decide) (fun c34 => ?_) (fun c34 => ?_)
      · have hf := bl_ifp c34 hf
        refine lv_iconst (v := 2) X.1 X.2.1 dX3_take_129 (by decide) ?_
        exact w_X3_take_130 X hr k35 hk35 σ30 v0 v1 v2 v3 v5 2 v5 (bl_R σ30 v0 7) hv0 hv1 h33 hf _ _ _ V (lv_sub hl [1, 2, 3, 4, 5] rfl)
      · have hf := bl_ifn c34 hf
        refine lv_iconst (v := 1) X.1 X.2.1 dX3_take_125 (by decide) ?_
        refine lv_goto (tgt := 130) X.1 X.2.1 dX3_take_126 (by decide) ?_
        exact w_X3_take_130 X hr k35 hk35 σ30 v0 v1 v2 v3 v5 1 v5 (bl_R σ30 v0 7) hv0 hv1 h33 hf _ _ _ V (lv_sub hl [1, 2, 3, 4, 5] rfl)
theorem l_X3_take_35 {p : Program} {l : Launch} {e : Env} {s : State} {m : MethodId} {below : List Frame} {meth : Method} {c : Code} {g : bl_Gp} {as : List Value} {out : Unit × bl_St} (X : bl_Cx g p s m as.toArray meth c cX3_take 7 RX3) (hr : meth.sig.returnType = (Option.none : Option Jvm.ClassFile.FieldType)) (n : Nat) : ∀ (σ : bl_St) (v0 : Nat) (v1 : Nat) (v2 : Int32) (v3 : Int32) (v5 : Int32), bl_sh[v0]? = some (3, 8) → bl_sh[v1]? = some (8, 5) → (bl_fx (fun _ _ _ _ _ _ => none) (b_X3_take_35 ) n) σ v0 v1 v2 v3 v5 = some out → ∀ (H : Heap) (locs : List Loc) (ls : Array Slot), bl_V g s σ H locs → lv_has ls 7 [(0, .ref (bl_ad g v0)), (1, .ref (bl_ad g v1)), (2, .int v2), (3, .int v3), (5, .int v5)] → W p l e (bl_rm 2 44) s m as.toArray below meth c H locs 0 0 (bl_Qv below g s as out) (F0 m 35 ls []) := by
  induction n with
  | zero =>
    intro σ v0 v1 v2 v3 v5 hv0 hv1 hf H locs ls V hl
    cases hf
  | succ n ih => exact w_X3_take_35 X hr  _ ih
set_option maxHeartbeats 4000000 in
set_option maxRecDepth 100000 in
theorem t_X3_take (l : Launch) (g : bl_Gp) (σ : bl_St) (a0 : Nat) (a1 : Nat) (a2 : Int32) (a3 : Int32) (a4 : Int32) (o : Unit × bl_St) (ha0 : bl_sh[a0]? = some (3, 8)) (ha1 : bl_sh[a1]? = some (8, 5)) (hf : f_X3_take σ a0 a1 a2 a3 a4 = some o) : bl_Cv l g yX3_take cX3_take 7 (Option.none : Option Jvm.ClassFile.FieldType) (bl_rm 2 44) [.ref (bl_ad g a0), .ref (bl_ad g a1), .int a2, .int a3, .int a4] σ o := by
  refine bl_met (by decide) (Nat.le_of_ble_eq_true rfl) (fun p e s m below meth c ls X hr V hl => ?_)
  have hl : lv_has ls 7 [(0, .ref (bl_ad g a0)), (1, .ref (bl_ad g a1)), (2, .int a2), (3, .int a3), (4, .int a4)] := hl
  unfold f_X3_take at hf
  refine lv_aload_n X.1 X.2.1 dX3_take_0 rfl (lv_at hl 0 rfl) ?_
  refine lv_aload_n X.1 X.2.1 dX3_take_1 rfl (lv_at hl 1 rfl) ?_
  refine bl_geti X V ha1 fl_X3_25 dX3_take_2 ?_
  refine bl_puti X V ha0 fp_X3_31 rfl rfl dX3_take_5 (fun σ35 H locs e36 V => ?_)
  have hf := bl_let_at e36 hf
  refine lv_aload_n X.1 X.2.1 dX3_take_8 rfl (lv_at hl 0 rfl) ?_
  refine lv_aload_n X.1 X.2.1 dX3_take_9 rfl (lv_at hl 1 rfl) ?_
  obtain ⟨r37, σ38, h39, hf⟩ := bl_bd_at hf
  refine bl_cVi (As := []) X V hl.1 ha1 rfl ml_X3_32 mV_X8_odds (t_X8_odds l g σ35 a1 _ ha1 h39) rfl rfl ⟨Nat.le_of_ble_eq_true rfl, Nat.le_of_ble_eq_true rfl⟩ rfl rfl (Nat.le_of_ble_eq_true rfl) ⟨Nat.zero_le _, Nat.zero_le _⟩ dX3_take_10 (fun H locs V => ?_)
  refine lv_i2l X.1 X.2.1 dX3_take_13 rfl ?_
  refine bl_putl X V ha0 fp_X3_36 dX3_take_14 (fun σ40 H locs e41 V => ?_)
  have hf := bl_let_at e41 hf
  refine lv_aload_n X.1 X.2.1 dX3_take_17 rfl (lv_at hl 0 rfl) ?_
  refine lv_aload_n X.1 X.2.1 dX3_take_18 rfl (lv_at hl 1 rfl) ?_
  obtain ⟨r42, σ43, h44, hf⟩ := bl_bd_at hf
  refine bl_cVi (As := []) X V hl.1 ha1 rfl ml_X3_39 mV_X8_allWeights (t_X8_allWeights l g σ40 a1 _ ha1 h44) rfl rfl ⟨Nat.le_of_ble_eq_true rfl, Nat.le_of_ble_eq_true rfl⟩ rfl rfl (Nat.le_of_ble_eq_true rfl) ⟨Nat.zero_le _, Nat.zero_le _⟩ dX3_take_19 (fun H locs V => ?_)
  refine lv_i2l X.1 X.2.1 dX3_take_22 rfl ?_
  refine bl_putl X V ha0 fp_X3_42 dX3_take_23 (fun σ45 H locs e46 V => ?_)
  have hf := bl_let_at e46 hf
  refine lv_aload_n X.1 X.2.1 dX3_take_26 rfl (lv_at hl 0 rfl) ?_
  refine lv_iload X.1 X.2.1 dX3_take_27 (lv_at hl 4 rfl) ?_
  obtain ⟨h47, hf⟩ := bl_gd_at hf
  refine bl_puti X V ha0 fp_X3_44 (bl_nbo h47).1 (bl_nbo h47).2 dX3_take_29 (fun σ48 H locs e49 V => ?_)
  have hf := bl_let_at e49 hf
  refine lv_iconst (v := 0) X.1 X.2.1 dX3_take_32 (by decide) ?_
  refine lv_istore (lv' := [(5, .int 0), (0, .ref (bl_ad g a0)), (1, .ref (bl_ad g a1)), (2, .int a2), (3, .int a3), (4, .int a4)]) X.1 X.2.1 dX3_take_33 hl (by decide) rfl (fun ls hl => ?_)
  exact l_X3_take_35 X hr  bl_fu σ48 a0 a1 a2 a3 0 ha0 ha1 hf _ _ _ V (lv_sub hl [1, 2, 3, 4, 0] rfl)
set_option maxHeartbeats 4000000 in
set_option maxRecDepth 100000 in
theorem w_X1_costOf_38 {p : Program} {l : Launch} {e : Env} {s : State} {m : MethodId} {below : List Frame} {meth : Method} {c : Code} {g : bl_Gp} {as : List Value} {out : Int64 × bl_St} (X : bl_Cx g p s m as.toArray meth c cX1_costOf 7 RX1) (hr : meth.sig.returnType = (Option.some Jvm.ClassFile.FieldType.long)) (k38 : bl_St → Nat → Nat → Int32 → Int32 → Int32 → Int32 → Option (Int64 × bl_St)) (hk38 : ∀ (σ : bl_St) (v0 : Nat) (v1 : Nat) (v2 : Int32) (v3 : Int32) (v4 : Int32) (v5 : Int32), bl_sh[v0]? = some (1, 4) → bl_sh[v1]? = some (8, 5) → k38 σ v0 v1 v2 v3 v4 v5 = some out → ∀ (H : Heap) (locs : List Loc) (ls : Array Slot), bl_V g s σ H locs → lv_has ls 7 [(0, .ref (bl_ad g v0)), (1, .ref (bl_ad g v1)), (2, .int v2), (3, .int v3), (4, .int v4), (5, .int v5)] → W p l e (bl_rm 4 113) s m as.toArray below meth c H locs 0 0 (bl_Ql below g s as out) (F0 m 38 ls [])) : ∀ (σ : bl_St) (v0 : Nat) (v1 : Nat) (v2 : Int32) (v3 : Int32) (v4 : Int32) (v5 : Int32), bl_sh[v0]? = some (1, 4) → bl_sh[v1]? = some (8, 5) → (b_X1_costOf_38 k38) σ v0 v1 v2 v3 v4 v5 = some out → ∀ (H : Heap) (locs : List Loc) (ls : Array Slot), bl_V g s σ H locs → lv_has ls 7 [(0, .ref (bl_ad g v0)), (1, .ref (bl_ad g v1)), (2, .int v2), (3, .int v3), (4, .int v4), (5, .int v5)] → W p l e (bl_rm 4 113) s m as.toArray below meth c H locs 0 0 (bl_Ql below g s as out) (F0 m 38 ls []) := by
  intro σ v0 v1 v2 v3 v4 v5 hv0 hv1 hf H locs ls V hl
  unfold b_X1_costOf_38 at hf
  refine lv_iload X.1 X.2.1 dX1_costOf_38 (lv_at hl 5 rfl) ?_
  refine lv_iload_n X.1 X.2.1 dX1_costOf_40 rfl (lv_at hl 2 rfl) ?_
  refine lv_icmp_gt (tgt := 75) X.1 X.2.1 dX1_costOf_41 (by decide) (fun c1 => ?_) (fun c1 => ?_)
  · have hf := bl_ifp c1 hf
    refine lv_aload_n X.1 X.2.1 dX1_costOf_75 rfl (lv_at hl 0 rfl) ?_
    refine bl_getr X V hv0 fl_X1_9 rfl dX1_costOf_76 (fun h2 => ?_)
    refine lv_iload_n X.1 X.2.1 dX1_costOf_79 rfl (lv_at hl 3 rfl) ?_
    refine lv_bipush (v := 8) X.1 X.2.1 dX1_costOf_80 (by decide) ?_
    refine lv_imul X.1 X.2.1 dX1_costOf_82 ?_
    refine lv_iload X.1 X.2.1 dX1_costOf_83 (lv_at hl 4 rfl) ?_
    refine lv_iadd X.1 X.2.1 dX1_costOf_85 ?_
    obtain ⟨h3, hf⟩ := bl_gd_at hf
    refine bl_lald (k := (Int32.toNatClampNeg ((v3 * 8) + v4))) X V h2 h3 rfl dX1_costOf_86 ?_
    exact bl_retl X V hr hf dX1_costOf_87
  · have hf := bl_ifn c1 hf
    refine lv_aload_n X.1 X.2.1 dX1_costOf_44 rfl (lv_at hl 0 rfl) ?_
    refine bl_getr X V hv0 fl_X1_9 rfl dX1_costOf_45 (fun h4 => ?_)
    refine lv_astore (lv' := [(6, .ref (bl_ad g (bl_R σ v0 0))), (0, .ref (bl_ad g v0)), (1, .ref (bl_ad g v1)), (2, .int v2), (3, .int v3), (4, .int v4), (5, .int v5)]) X.1 X.2.1 dX1_costOf_48 hl (by decide) rfl (fun ls hl => ?_)
    refine lv_aload_n X.1 X.2.1 dX1_costOf_50 rfl (lv_at hl 1 rfl) ?_
    refine lv_aload_n X.1 X.2.1 dX1_costOf_51 rfl (lv_at hl 1 rfl) ?_
    refine bl_getr X V hv0 fl_X1_15 rfl dX1_costOf_52 (fun h5 => ?_)
    refine bl_putr X V hv0 fp_X1_9 rfl h5 (bl_ne0 h5 (by decide)) (fun _ => rfl) (fun _ => rfl) dX1_costOf_55 (fun σ6 H locs e7 V => ?_)
    have hf := bl_let_at e7 hf
    refine lv_aload_n X.1 X.2.1 dX1_costOf_58 rfl (lv_at hl 1 rfl) ?_
    refine lv_aload X.1 X.2.1 dX1_costOf_59 (lv_at hl 0 rfl) ?_
    refine bl_putr X V hv0 fp_X1_15 rfl h4 (bl_ne0 h4 (by decide)) (fun _ => rfl) (fun _ => rfl) dX1_costOf_61 (fun σ8 H locs e9 V => ?_)
    have hf := bl_let_at e9 hf
    refine lv_aload_n X.1 X.2.1 dX1_costOf_64 rfl (lv_at hl 1 rfl) ?_
    refine lv_aload_n X.1 X.2.1 dX1_costOf_65 rfl (lv_at hl 2 rfl) ?_
    obtain ⟨r10, σ11, h12, hf⟩ := bl_bd_at hf
    refine bl_cVv (As := [.ref (bl_ad g v1)]) X V hl.1 hv0 rfl ml_X1_32 mV_X1_fillPairs (t_X1_fillPairs l g σ8 v0 v1 _ hv0 hv1 h12) rfl rfl ⟨Nat.le_of_ble_eq_true rfl, Nat.le_of_ble_eq_true rfl⟩ rfl rfl (Nat.le_of_ble_eq_true rfl) ⟨Nat.zero_le _, Nat.zero_le _⟩ dX1_costOf_66 (fun H locs V => ?_)
    obtain ⟨x13, e14⟩ : ∃ z : Int32, z = v5 + 1 := ⟨_, rfl⟩
    have hf := bl_let_at e14 hf
    refine lv_iinc (v := x13) (lv' := [(5, .int x13), (6, .ref (bl_ad g (bl_R σ v0 0))), (0, .ref (bl_ad g v0)), (1, .ref (bl_ad g v1)), (2, .int v2), (3, .int v3), (4, .int v4)]) X.1 X.2.1 dX1_costOf_69 hl (k := 6) rfl (by rw [e14]; rfl) (by decide) rfl (fun ls hl => ?_)
    refine lv_goto (tgt := 38) X.1 X.2.1 dX1_costOf_72 (by decide) ?_
    exact hk38 σ11 v0 v1 v2 v3 v4 x13 hv0 hv1 hf _ _ _ V (lv_sub hl [2, 3, 4, 5, 6, 0] rfl)
theorem l_X1_costOf_38 {p : Program} {l : Launch} {e : Env} {s : State} {m : MethodId} {below : List Frame} {meth : Method} {c : Code} {g : bl_Gp} {as : List Value} {out : Int64 × bl_St} (X : bl_Cx g p s m as.toArray meth c cX1_costOf 7 RX1) (hr : meth.sig.returnType = (Option.some Jvm.ClassFile.FieldType.long)) (n : Nat) : ∀ (σ : bl_St) (v0 : Nat) (v1 : Nat) (v2 : Int32) (v3 : Int32) (v4 : Int32) (v5 : Int32), bl_sh[v0]? = some (1, 4) → bl_sh[v1]? = some (8, 5) → (bl_fx (fun _ _ _ _ _ _ _ => none) (b_X1_costOf_38 ) n) σ v0 v1 v2 v3 v4 v5 = some out → ∀ (H : Heap) (locs : List Loc) (ls : Array Slot), bl_V g s σ H locs → lv_has ls 7 [(0, .ref (bl_ad g v0)), (1, .ref (bl_ad g v1)), (2, .int v2), (3, .int v3), (4, .int v4), (5, .int v5)] → W p l e (bl_rm 4 113) s m as.toArray below meth c H locs 0 0 (bl_Ql below g s as out) (F0 m 38 ls []) := by
  induction n with
  | zero =>
    intro σ v0 v1 v2 v3 v4 v5 hv0 hv1 hf H locs ls V hl
    cases hf
  | succ n ih => exact w_X1_costOf_38 X hr  _ ih
set_option maxHeartbeats 4000000 in
set_option maxRecDepth 100000 in
theorem w_X1_costOf_14 {p : Program} {l : Launch} {e : Env} {s : State} {m : MethodId} {below : List Frame} {meth : Method} {c : Code} {g : bl_Gp} {as : List Value} {out : Int64 × bl_St} (X : bl_Cx g p s m as.toArray meth c cX1_costOf 7 RX1) (hr : meth.sig.returnType = (Option.some Jvm.ClassFile.FieldType.long)) (k14 : bl_St → Nat → Nat → Int32 → Int32 → Int32 → Int32 → Option (Int64 × bl_St)) (hk14 : ∀ (σ : bl_St) (v0 : Nat) (v1 : Nat) (v2 : Int32) (v3 : Int32) (v4 : Int32) (v5 : Int32), bl_sh[v0]? = some (1, 4) → bl_sh[v1]? = some (8, 5) → k14 σ v0 v1 v2 v3 v4 v5 = some out → ∀ (H : Heap) (locs : List Loc) (ls : Array Slot), bl_V g s σ H locs → lv_has ls 7 [(0, .ref (bl_ad g v0)), (1, .ref (bl_ad g v1)), (2, .int v2), (3, .int v3), (4, .int v4), (5, .int v5)] → W p l e (bl_rm 4 113) s m as.toArray below meth c H locs 0 0 (bl_Ql below g s as out) (F0 m 14 ls [])) : ∀ (σ : bl_St) (v0 : Nat) (v1 : Nat) (v2 : Int32) (v3 : Int32) (v4 : Int32) (v5 : Int32), bl_sh[v0]? = some (1, 4) → bl_sh[v1]? = some (8, 5) → (b_X1_costOf_14 k14) σ v0 v1 v2 v3 v4 v5 = some out → ∀ (H : Heap) (locs : List Loc) (ls : Array Slot), bl_V g s σ H locs → lv_has ls 7 [(0, .ref (bl_ad g v0)), (1, .ref (bl_ad g v1)), (2, .int v2), (3, .int v3), (4, .int v4), (5, .int v5)] → W p l e (bl_rm 4 113) s m as.toArray below meth c H locs 0 0 (bl_Ql below g s as out) (F0 m 14 ls []) := by
  intro σ v0 v1 v2 v3 v4 v5 hv0 hv1 hf H locs ls V hl
  unfold b_X1_costOf_14 at hf
  refine lv_iload X.1 X.2.1 dX1_costOf_14 (lv_at hl 5 rfl) ?_
  refine lv_bipush (v := 64) X.1 X.2.1 dX1_costOf_16 (by decide) ?_
  refine lv_icmp_ge (tgt := 35) X.1 X.2.1 dX1_costOf_18 (by decide) (fun c15 => ?_) (fun c15 => ?_)
  · have hf := bl_ifp c15 hf
    refine lv_iconst (v := 1) X.1 X.2.1 dX1_costOf_35 (by decide) ?_
    refine lv_istore (lv' := [(5, .int 1), (0, .ref (bl_ad g v0)), (1, .ref (bl_ad g v1)), (2, .int v2), (3, .int v3), (4, .int v4)]) X.1 X.2.1 dX1_costOf_36 hl (by decide) rfl (fun ls hl => ?_)
    exact l_X1_costOf_38 X hr  bl_fu σ v0 v1 v2 v3 v4 1 hv0 hv1 hf _ _ _ V (lv_sub hl [1, 2, 3, 4, 5, 0] rfl)
  · have hf := bl_ifn c15 hf
    refine lv_aload_n X.1 X.2.1 dX1_costOf_21 rfl (lv_at hl 0 rfl) ?_
    refine bl_getr X V hv0 fl_X1_9 rfl dX1_costOf_22 (fun h16 => ?_)
    refine lv_iload X.1 X.2.1 dX1_costOf_25 (lv_at hl 5 rfl) ?_
    refine lv_lconst (v := 0) X.1 X.2.1 dX1_costOf_27 (by decide) ?_
    obtain ⟨h17, hf⟩ := bl_gd_at hf
    refine bl_last (k := (Int32.toNatClampNeg v5)) X V h16 h17 rfl dX1_costOf_28 (fun σ18 H locs e19 V => ?_)
    have hf := bl_let_at e19 hf
    obtain ⟨x20, e21⟩ : ∃ z : Int32, z = v5 + 1 := ⟨_, rfl⟩
    have hf := bl_let_at e21 hf
    refine lv_iinc (v := x20) (lv' := [(5, .int x20), (0, .ref (bl_ad g v0)), (1, .ref (bl_ad g v1)), (2, .int v2), (3, .int v3), (4, .int v4)]) X.1 X.2.1 dX1_costOf_29 hl (k := 5) rfl (by rw [e21]; rfl) (by decide) rfl (fun ls hl => ?_)
    refine lv_goto (tgt := 14) X.1 X.2.1 dX1_costOf_32 (by decide) ?_
    exact hk14 σ18 v0 v1 v2 v3 v4 x20 hv0 hv1 hf _ _ _ V (lv_sub hl [1, 2, 3, 4, 5, 0] rfl)
theorem l_X1_costOf_14 {p : Program} {l : Launch} {e : Env} {s : State} {m : MethodId} {below : List Frame} {meth : Method} {c : Code} {g : bl_Gp} {as : List Value} {out : Int64 × bl_St} (X : bl_Cx g p s m as.toArray meth c cX1_costOf 7 RX1) (hr : meth.sig.returnType = (Option.some Jvm.ClassFile.FieldType.long)) (n : Nat) : ∀ (σ : bl_St) (v0 : Nat) (v1 : Nat) (v2 : Int32) (v3 : Int32) (v4 : Int32) (v5 : Int32), bl_sh[v0]? = some (1, 4) → bl_sh[v1]? = some (8, 5) → (bl_fx (fun _ _ _ _ _ _ _ => none) (b_X1_costOf_14 ) n) σ v0 v1 v2 v3 v4 v5 = some out → ∀ (H : Heap) (locs : List Loc) (ls : Array Slot), bl_V g s σ H locs → lv_has ls 7 [(0, .ref (bl_ad g v0)), (1, .ref (bl_ad g v1)), (2, .int v2), (3, .int v3), (4, .int v4), (5, .int v5)] → W p l e (bl_rm 4 113) s m as.toArray below meth c H locs 0 0 (bl_Ql below g s as out) (F0 m 14 ls []) := by
  induction n with
  | zero =>
    intro σ v0 v1 v2 v3 v4 v5 hv0 hv1 hf H locs ls V hl
    cases hf
  | succ n ih => exact w_X1_costOf_14 X hr  _ ih
set_option maxHeartbeats 4000000 in
set_option maxRecDepth 100000 in
theorem t_X1_costOf (l : Launch) (g : bl_Gp) (σ : bl_St) (a0 : Nat) (a1 : Nat) (a2 : Int32) (a3 : Int32) (a4 : Int32) (o : Int64 × bl_St) (ha0 : bl_sh[a0]? = some (1, 4)) (ha1 : bl_sh[a1]? = some (8, 5)) (hf : f_X1_costOf σ a0 a1 a2 a3 a4 = some o) : bl_Cl l g yX1_costOf cX1_costOf 7 (Option.some Jvm.ClassFile.FieldType.long) (bl_rm 4 113) [.ref (bl_ad g a0), .ref (bl_ad g a1), .int a2, .int a3, .int a4] σ o := by
  refine bl_met (by decide) (Nat.le_of_ble_eq_true rfl) (fun p e s m below meth c ls X hr V hl => ?_)
  have hl : lv_has ls 7 [(0, .ref (bl_ad g a0)), (1, .ref (bl_ad g a1)), (2, .int a2), (3, .int a3), (4, .int a4)] := hl
  unfold f_X1_costOf at hf
  refine lv_aload_n X.1 X.2.1 dX1_costOf_0 rfl (lv_at hl 0 rfl) ?_
  refine bl_getr X V ha0 fl_X1_24 rfl dX1_costOf_1 (fun h22 => ?_)
  refine lv_aload_n X.1 X.2.1 dX1_costOf_4 rfl (lv_at hl 1 rfl) ?_
  refine lv_iconst (v := 0) X.1 X.2.1 dX1_costOf_5 (by decide) ?_
  refine lv_iconst (v := 0) X.1 X.2.1 dX1_costOf_6 (by decide) ?_
  refine lv_iconst (v := 0) X.1 X.2.1 dX1_costOf_7 (by decide) ?_
  obtain ⟨r23, σ24, h25, hf⟩ := bl_bd_at hf
  refine bl_cVv (As := [.ref (bl_ad g a1), .int 0, .int 0, .int 0]) X V hl.1 h22 rfl ml_X1_28 mV_X3_take (t_X3_take l g σ (bl_R σ a0 3) a1 0 0 0 _ h22 ha1 h25) rfl rfl ⟨Nat.le_of_ble_eq_true rfl, Nat.le_of_ble_eq_true rfl⟩ rfl rfl (Nat.le_of_ble_eq_true rfl) ⟨Nat.zero_le _, Nat.zero_le _⟩ dX1_costOf_8 (fun H locs V => ?_)
  refine lv_iconst (v := 0) X.1 X.2.1 dX1_costOf_11 (by decide) ?_
  refine lv_istore (lv' := [(5, .int 0), (0, .ref (bl_ad g a0)), (1, .ref (bl_ad g a1)), (2, .int a2), (3, .int a3), (4, .int a4)]) X.1 X.2.1 dX1_costOf_12 hl (by decide) rfl (fun ls hl => ?_)
  exact l_X1_costOf_14 X hr  bl_fu σ24 a0 a1 a2 a3 a4 0 ha0 ha1 hf _ _ _ V (lv_sub hl [1, 2, 3, 4, 5, 0] rfl)
set_option maxHeartbeats 4000000 in
set_option maxRecDepth 100000 in
theorem t_X2_leaveYear (l : Launch) (g : bl_Gp) (σ : bl_St) (a0 : Nat) (o : Unit × bl_St) (ha0 : bl_sh[a0]? = some (2, 15)) (hf : f_X2_leaveYear σ a0 = some o) : bl_Cv l g yX2_leaveYear cX2_leaveYear 1 (Option.none : Option Jvm.ClassFile.FieldType) (bl_rm 0 0) [.ref (bl_ad g a0)] σ o := by
  refine bl_met (by decide) (Nat.le_of_ble_eq_true rfl) (fun p e s m below meth c ls X hr V hl => ?_)
  have hl : lv_has ls 1 [(0, .ref (bl_ad g a0))] := hl
  unfold f_X2_leaveYear at hf
  refine lv_aload_n X.1 X.2.1 dX2_leaveYear_0 rfl (lv_at hl 0 rfl) ?_
  refine lv_iconst (v := 0) X.1 X.2.1 dX2_leaveYear_1 (by decide) ?_
  refine bl_puti X V ha0 fp_X2_46 rfl rfl dX2_leaveYear_2 (fun σ1 H locs e2 V => ?_)
  have hf := bl_let_at e2 hf
  refine lv_aload_n X.1 X.2.1 dX2_leaveYear_5 rfl (lv_at hl 0 rfl) ?_
  refine lv_iconst (v := 0) X.1 X.2.1 dX2_leaveYear_6 (by decide) ?_
  refine bl_puti X V ha0 fp_X2_50 rfl rfl dX2_leaveYear_7 (fun σ3 H locs e4 V => ?_)
  have hf := bl_let_at e4 hf
  refine lv_aload_n X.1 X.2.1 dX2_leaveYear_10 rfl (lv_at hl 0 rfl) ?_
  refine lv_iconst (v := 0) X.1 X.2.1 dX2_leaveYear_11 (by decide) ?_
  refine bl_puti X V ha0 fp_X2_53 rfl rfl dX2_leaveYear_12 (fun σ5 H locs e6 V => ?_)
  have hf := bl_let_at e6 hf
  refine lv_aload_n X.1 X.2.1 dX2_leaveYear_15 rfl (lv_at hl 0 rfl) ?_
  refine lv_iconst (v := 0) X.1 X.2.1 dX2_leaveYear_16 (by decide) ?_
  refine bl_puti X V ha0 fp_X2_56 rfl rfl dX2_leaveYear_17 (fun σ7 H locs e8 V => ?_)
  have hf := bl_let_at e8 hf
  refine lv_aload_n X.1 X.2.1 dX2_leaveYear_20 rfl (lv_at hl 0 rfl) ?_
  refine lv_iconst (v := 0) X.1 X.2.1 dX2_leaveYear_21 (by decide) ?_
  refine bl_puti X V ha0 fp_X2_59 rfl rfl dX2_leaveYear_22 (fun σ9 H locs e10 V => ?_)
  have hf := bl_let_at e10 hf
  exact bl_retv X V hr hf dX2_leaveYear_25
set_option maxHeartbeats 4000000 in
set_option maxRecDepth 100000 in
theorem t_X2_clear (l : Launch) (g : bl_Gp) (σ : bl_St) (a0 : Nat) (o : Unit × bl_St) (ha0 : bl_sh[a0]? = some (2, 15)) (hf : f_X2_clear σ a0 = some o) : bl_Cv l g yX2_clear cX2_clear 1 (Option.none : Option Jvm.ClassFile.FieldType) (bl_rm 1 20) [.ref (bl_ad g a0)] σ o := by
  refine bl_met (by decide) (Nat.le_of_ble_eq_true rfl) (fun p e s m below meth c ls X hr V hl => ?_)
  have hl : lv_has ls 1 [(0, .ref (bl_ad g a0))] := hl
  unfold f_X2_clear at hf
  refine lv_aload_n X.1 X.2.1 dX2_clear_0 rfl (lv_at hl 0 rfl) ?_
  refine lv_iconst (v := 0) X.1 X.2.1 dX2_clear_1 (by decide) ?_
  refine bl_puti X V ha0 fp_X2_18 rfl rfl dX2_clear_2 (fun σ1 H locs e2 V => ?_)
  have hf := bl_let_at e2 hf
  refine lv_aload_n X.1 X.2.1 dX2_clear_5 rfl (lv_at hl 0 rfl) ?_
  refine lv_iconst (v := 0) X.1 X.2.1 dX2_clear_6 (by decide) ?_
  refine bl_puti X V ha0 fp_X2_22 rfl rfl dX2_clear_7 (fun σ3 H locs e4 V => ?_)
  have hf := bl_let_at e4 hf
  refine lv_aload_n X.1 X.2.1 dX2_clear_10 rfl (lv_at hl 0 rfl) ?_
  refine lv_iconst (v := 0) X.1 X.2.1 dX2_clear_11 (by decide) ?_
  refine bl_puti X V ha0 fp_X2_25 rfl rfl dX2_clear_12 (fun σ5 H locs e6 V => ?_)
  have hf := bl_let_at e6 hf
  refine lv_aload_n X.1 X.2.1 dX2_clear_15 rfl (lv_at hl 0 rfl) ?_
  refine lv_iconst (v := 0) X.1 X.2.1 dX2_clear_16 (by decide) ?_
  refine bl_puti X V ha0 fp_X2_28 rfl rfl dX2_clear_17 (fun σ7 H locs e8 V => ?_)
  have hf := bl_let_at e8 hf
  refine lv_aload_n X.1 X.2.1 dX2_clear_20 rfl (lv_at hl 0 rfl) ?_
  refine lv_iconst (v := 0) X.1 X.2.1 dX2_clear_21 (by decide) ?_
  refine bl_puti X V ha0 fp_X2_31 rfl rfl dX2_clear_22 (fun σ9 H locs e10 V => ?_)
  have hf := bl_let_at e10 hf
  refine lv_aload_n X.1 X.2.1 dX2_clear_25 rfl (lv_at hl 0 rfl) ?_
  refine lv_iconst (v := 0) X.1 X.2.1 dX2_clear_26 (by decide) ?_
  refine bl_puti X V ha0 fp_X2_34 rfl rfl dX2_clear_27 (fun σ11 H locs e12 V => ?_)
  have hf := bl_let_at e12 hf
  refine lv_aload_n X.1 X.2.1 dX2_clear_30 rfl (lv_at hl 0 rfl) ?_
  refine lv_iconst (v := 0) X.1 X.2.1 dX2_clear_31 (by decide) ?_
  refine bl_puti X V ha0 fp_X2_37 rfl rfl dX2_clear_32 (fun σ13 H locs e14 V => ?_)
  have hf := bl_let_at e14 hf
  refine lv_aload_n X.1 X.2.1 dX2_clear_35 rfl (lv_at hl 0 rfl) ?_
  refine lv_iconst (v := 0) X.1 X.2.1 dX2_clear_36 (by decide) ?_
  refine bl_puti X V ha0 fp_X2_40 rfl rfl dX2_clear_37 (fun σ15 H locs e16 V => ?_)
  have hf := bl_let_at e16 hf
  refine lv_aload_n X.1 X.2.1 dX2_clear_40 rfl (lv_at hl 0 rfl) ?_
  obtain ⟨r17, σ18, h19, hf⟩ := bl_bd_at hf
  refine bl_cVv (As := []) X V hl.1 ha0 rfl ml_X2_43 mV_X2_leaveYear (t_X2_leaveYear l g σ15 a0 _ ha0 h19) rfl rfl ⟨Nat.le_of_ble_eq_true rfl, Nat.le_of_ble_eq_true rfl⟩ rfl rfl (Nat.le_of_ble_eq_true rfl) ⟨Nat.zero_le _, Nat.zero_le _⟩ dX2_clear_41 (fun H locs V => ?_)
  exact bl_retv X V hr hf dX2_clear_44
set_option maxHeartbeats 4000000 in
set_option maxRecDepth 100000 in
theorem t_X2_copy (l : Launch) (g : bl_Gp) (σ : bl_St) (a0 : Nat) (a1 : Nat) (o : Unit × bl_St) (ha0 : bl_sh[a0]? = some (2, 15)) (ha1 : bl_sh[a1]? = some (2, 15)) (hf : f_X2_copy σ a0 a1 = some o) : bl_Cv l g yX2_copy cX2_copy 2 (Option.none : Option Jvm.ClassFile.FieldType) (bl_rm 1 18) [.ref (bl_ad g a0), .ref (bl_ad g a1)] σ o := by
  refine bl_met (by decide) (Nat.le_of_ble_eq_true rfl) (fun p e s m below meth c ls X hr V hl => ?_)
  have hl : lv_has ls 2 [(0, .ref (bl_ad g a0)), (1, .ref (bl_ad g a1))] := hl
  unfold f_X2_copy at hf
  refine lv_aload_n X.1 X.2.1 dX2_copy_0 rfl (lv_at hl 0 rfl) ?_
  refine lv_aload_n X.1 X.2.1 dX2_copy_1 rfl (lv_at hl 1 rfl) ?_
  refine bl_geti X V ha1 fl_X2_18 dX2_copy_2 ?_
  refine bl_puti X V ha0 fp_X2_18 rfl rfl dX2_copy_5 (fun σ1 H locs e2 V => ?_)
  have hf := bl_let_at e2 hf
  refine lv_aload_n X.1 X.2.1 dX2_copy_8 rfl (lv_at hl 0 rfl) ?_
  refine lv_aload_n X.1 X.2.1 dX2_copy_9 rfl (lv_at hl 1 rfl) ?_
  refine bl_geti X V ha1 fl_X2_46 dX2_copy_10 ?_
  obtain ⟨h3, hf⟩ := bl_gd_at hf
  refine bl_puti X V ha0 fp_X2_46 (bl_nbo h3).1 (bl_nbo h3).2 dX2_copy_13 (fun σ4 H locs e5 V => ?_)
  have hf := bl_let_at e5 hf
  refine lv_aload_n X.1 X.2.1 dX2_copy_16 rfl (lv_at hl 0 rfl) ?_
  refine lv_aload_n X.1 X.2.1 dX2_copy_17 rfl (lv_at hl 1 rfl) ?_
  refine bl_geti X V ha1 fl_X2_50 dX2_copy_18 ?_
  refine bl_puti X V ha0 fp_X2_50 rfl rfl dX2_copy_21 (fun σ6 H locs e7 V => ?_)
  have hf := bl_let_at e7 hf
  refine lv_aload_n X.1 X.2.1 dX2_copy_24 rfl (lv_at hl 0 rfl) ?_
  refine lv_aload_n X.1 X.2.1 dX2_copy_25 rfl (lv_at hl 1 rfl) ?_
  refine bl_geti X V ha1 fl_X2_53 dX2_copy_26 ?_
  refine bl_puti X V ha0 fp_X2_53 rfl rfl dX2_copy_29 (fun σ8 H locs e9 V => ?_)
  have hf := bl_let_at e9 hf
  refine lv_aload_n X.1 X.2.1 dX2_copy_32 rfl (lv_at hl 0 rfl) ?_
  refine lv_aload_n X.1 X.2.1 dX2_copy_33 rfl (lv_at hl 1 rfl) ?_
  refine bl_geti X V ha1 fl_X2_56 dX2_copy_34 ?_
  obtain ⟨h10, hf⟩ := bl_gd_at hf
  refine bl_puti X V ha0 fp_X2_56 (bl_nbo h10).1 (bl_nbo h10).2 dX2_copy_37 (fun σ11 H locs e12 V => ?_)
  have hf := bl_let_at e12 hf
  refine lv_aload_n X.1 X.2.1 dX2_copy_40 rfl (lv_at hl 0 rfl) ?_
  refine lv_aload_n X.1 X.2.1 dX2_copy_41 rfl (lv_at hl 1 rfl) ?_
  refine bl_geti X V ha1 fl_X2_59 dX2_copy_42 ?_
  refine bl_puti X V ha0 fp_X2_59 rfl rfl dX2_copy_45 (fun σ13 H locs e14 V => ?_)
  have hf := bl_let_at e14 hf
  refine lv_aload_n X.1 X.2.1 dX2_copy_48 rfl (lv_at hl 0 rfl) ?_
  refine lv_aload_n X.1 X.2.1 dX2_copy_49 rfl (lv_at hl 1 rfl) ?_
  refine bl_geti X V ha1 fl_X2_22 dX2_copy_50 ?_
  refine bl_puti X V ha0 fp_X2_22 rfl rfl dX2_copy_53 (fun σ15 H locs e16 V => ?_)
  have hf := bl_let_at e16 hf
  refine lv_aload_n X.1 X.2.1 dX2_copy_56 rfl (lv_at hl 0 rfl) ?_
  refine lv_aload_n X.1 X.2.1 dX2_copy_57 rfl (lv_at hl 1 rfl) ?_
  refine bl_geti X V ha1 fl_X2_25 dX2_copy_58 ?_
  refine bl_puti X V ha0 fp_X2_25 rfl rfl dX2_copy_61 (fun σ17 H locs e18 V => ?_)
  have hf := bl_let_at e18 hf
  refine lv_aload_n X.1 X.2.1 dX2_copy_64 rfl (lv_at hl 0 rfl) ?_
  refine lv_aload_n X.1 X.2.1 dX2_copy_65 rfl (lv_at hl 1 rfl) ?_
  refine bl_geti X V ha1 fl_X2_28 dX2_copy_66 ?_
  refine bl_puti X V ha0 fp_X2_28 rfl rfl dX2_copy_69 (fun σ19 H locs e20 V => ?_)
  have hf := bl_let_at e20 hf
  refine lv_aload_n X.1 X.2.1 dX2_copy_72 rfl (lv_at hl 0 rfl) ?_
  refine lv_aload_n X.1 X.2.1 dX2_copy_73 rfl (lv_at hl 1 rfl) ?_
  refine bl_geti X V ha1 fl_X2_31 dX2_copy_74 ?_
  refine bl_puti X V ha0 fp_X2_31 rfl rfl dX2_copy_77 (fun σ21 H locs e22 V => ?_)
  have hf := bl_let_at e22 hf
  refine lv_aload_n X.1 X.2.1 dX2_copy_80 rfl (lv_at hl 0 rfl) ?_
  refine lv_aload_n X.1 X.2.1 dX2_copy_81 rfl (lv_at hl 1 rfl) ?_
  refine bl_geti X V ha1 fl_X2_34 dX2_copy_82 ?_
  refine bl_puti X V ha0 fp_X2_34 rfl rfl dX2_copy_85 (fun σ23 H locs e24 V => ?_)
  have hf := bl_let_at e24 hf
  refine lv_aload_n X.1 X.2.1 dX2_copy_88 rfl (lv_at hl 0 rfl) ?_
  refine lv_aload_n X.1 X.2.1 dX2_copy_89 rfl (lv_at hl 1 rfl) ?_
  refine bl_geti X V ha1 fl_X2_37 dX2_copy_90 ?_
  refine bl_puti X V ha0 fp_X2_37 rfl rfl dX2_copy_93 (fun σ25 H locs e26 V => ?_)
  have hf := bl_let_at e26 hf
  refine lv_aload_n X.1 X.2.1 dX2_copy_96 rfl (lv_at hl 0 rfl) ?_
  refine lv_aload_n X.1 X.2.1 dX2_copy_97 rfl (lv_at hl 1 rfl) ?_
  refine bl_geti X V ha1 fl_X2_40 dX2_copy_98 ?_
  refine bl_puti X V ha0 fp_X2_40 rfl rfl dX2_copy_101 (fun σ27 H locs e28 V => ?_)
  have hf := bl_let_at e28 hf
  refine lv_aload_n X.1 X.2.1 dX2_copy_104 rfl (lv_at hl 1 rfl) ?_
  refine bl_getr X V ha1 fl_X2_9 rfl dX2_copy_105 (fun h29 => ?_)
  refine lv_iconst (v := 0) X.1 X.2.1 dX2_copy_108 (by decide) ?_
  refine lv_aload_n X.1 X.2.1 dX2_copy_109 rfl (lv_at hl 0 rfl) ?_
  refine bl_getr X V ha0 fl_X2_9 rfl dX2_copy_110 (fun h30 => ?_)
  refine lv_iconst (v := 0) X.1 X.2.1 dX2_copy_113 (by decide) ?_
  refine lv_bipush (v := 48) X.1 X.2.1 dX2_copy_114 (by decide) ?_
  refine bl_copyi X V hl.1 ac_X2_62 h29 h30 (by decide) (Nat.le_of_ble_eq_true rfl) (Nat.le_of_ble_eq_true rfl) dX2_copy_116 (fun σ31 H locs e32 V => ?_)
  have hf := bl_let_at e32 hf
  refine lv_aload_n X.1 X.2.1 dX2_copy_119 rfl (lv_at hl 1 rfl) ?_
  refine bl_getr X V ha1 fl_X2_15 rfl dX2_copy_120 (fun h33 => ?_)
  refine lv_iconst (v := 0) X.1 X.2.1 dX2_copy_123 (by decide) ?_
  refine lv_aload_n X.1 X.2.1 dX2_copy_124 rfl (lv_at hl 0 rfl) ?_
  refine bl_getr X V ha0 fl_X2_15 rfl dX2_copy_125 (fun h34 => ?_)
  refine lv_iconst (v := 0) X.1 X.2.1 dX2_copy_128 (by decide) ?_
  refine lv_bipush (v := 48) X.1 X.2.1 dX2_copy_129 (by decide) ?_
  refine bl_copyi X V hl.1 ac_X2_62 h33 h34 (by decide) (Nat.le_of_ble_eq_true rfl) (Nat.le_of_ble_eq_true rfl) dX2_copy_131 (fun σ35 H locs e36 V => ?_)
  have hf := bl_let_at e36 hf
  exact bl_retv X V hr hf dX2_copy_134
set_option maxHeartbeats 4000000 in
set_option maxRecDepth 100000 in
theorem t_X2_allPaid (l : Launch) (g : bl_Gp) (σ : bl_St) (a0 : Nat) (o : Int32 × bl_St) (ha0 : bl_sh[a0]? = some (2, 15)) (hf : f_X2_allPaid σ a0 = some o) : bl_Ci l g yX2_allPaid cX2_allPaid 1 (Option.some Jvm.ClassFile.FieldType.int) (bl_rm 0 0) [.ref (bl_ad g a0)] σ o := by
  refine bl_met (by decide) (Nat.le_of_ble_eq_true rfl) (fun p e s m below meth c ls X hr V hl => ?_)
  have hl : lv_has ls 1 [(0, .ref (bl_ad g a0))] := hl
  unfold f_X2_allPaid at hf
  refine lv_aload_n X.1 X.2.1 dX2_allPaid_0 rfl (lv_at hl 0 rfl) ?_
  refine bl_geti X V ha0 fl_X2_25 dX2_allPaid_1 ?_
  refine lv_aload_n X.1 X.2.1 dX2_allPaid_4 rfl (lv_at hl 0 rfl) ?_
  refine bl_geti X V ha0 fl_X2_28 dX2_allPaid_5 ?_
  refine lv_iadd X.1 X.2.1 dX2_allPaid_8 ?_
  refine lv_aload_n X.1 X.2.1 dX2_allPaid_9 rfl (lv_at hl 0 rfl) ?_
  refine bl_geti X V ha0 fl_X2_31 dX2_allPaid_10 ?_
  refine lv_iadd X.1 X.2.1 dX2_allPaid_13 ?_
  refine lv_aload_n X.1 X.2.1 dX2_allPaid_14 rfl (lv_at hl 0 rfl) ?_
  refine bl_geti X V ha0 fl_X2_34 dX2_allPaid_15 ?_
  refine lv_iadd X.1 X.2.1 dX2_allPaid_18 ?_
  exact bl_reti X V hr hf dX2_allPaid_19
set_option maxHeartbeats 4000000 in
set_option maxRecDepth 100000 in
theorem w_X2_startYear_27 {p : Program} {l : Launch} {e : Env} {s : State} {m : MethodId} {below : List Frame} {meth : Method} {c : Code} {g : bl_Gp} {as : List Value} {out : Int32 × bl_St} (X : bl_Cx g p s m as.toArray meth c cX2_startYear 5 RX2) (hr : meth.sig.returnType = (Option.some Jvm.ClassFile.FieldType.int)) : ∀ (σ : bl_St) (v0 : Nat) (v2 : Int32) (v3 : Int32) (s0 : Int32), bl_sh[v0]? = some (2, 15) → (b_X2_startYear_27 ) σ v0 v2 v3 s0 = some out → ∀ (H : Heap) (locs : List Loc) (ls : Array Slot), bl_V g s σ H locs → lv_has ls 5 [(0, .ref (bl_ad g v0)), (2, .int v2), (3, .int v3)] → W p l e (bl_rm 1 22) s m as.toArray below meth c H locs 0 0 (bl_Qi below g s as out) (F0 m 27 ls [.int s0]) := by
  intro σ v0 v2 v3 s0 hv0 hf H locs ls V hl
  unfold b_X2_startYear_27 at hf
  refine lv_istore (lv' := [(4, .int s0), (0, .ref (bl_ad g v0)), (2, .int v2), (3, .int v3)]) X.1 X.2.1 dX2_startYear_27 hl (by decide) rfl (fun ls hl => ?_)
  refine lv_aload_n X.1 X.2.1 dX2_startYear_29 rfl (lv_at hl 1 rfl) ?_
  refine lv_dup X.1 X.2.1 dX2_startYear_30 rfl ?_
  refine bl_geti X V hv0 fl_X2_25 dX2_startYear_31 ?_
  refine lv_iload_n X.1 X.2.1 dX2_startYear_34 rfl (lv_at hl 3 rfl) ?_
  refine lv_iadd X.1 X.2.1 dX2_startYear_35 ?_
  refine bl_puti X V hv0 fp_X2_25 rfl rfl dX2_startYear_36 (fun σ1 H locs e2 V => ?_)
  have hf := bl_let_at e2 hf
  refine lv_aload_n X.1 X.2.1 dX2_startYear_39 rfl (lv_at hl 1 rfl) ?_
  refine lv_dup X.1 X.2.1 dX2_startYear_40 rfl ?_
  refine bl_geti X V hv0 fl_X2_28 dX2_startYear_41 ?_
  refine lv_iload X.1 X.2.1 dX2_startYear_44 (lv_at hl 0 rfl) ?_
  refine lv_iadd X.1 X.2.1 dX2_startYear_46 ?_
  refine bl_puti X V hv0 fp_X2_28 rfl rfl dX2_startYear_47 (fun σ3 H locs e4 V => ?_)
  have hf := bl_let_at e4 hf
  refine lv_aload_n X.1 X.2.1 dX2_startYear_50 rfl (lv_at hl 1 rfl) ?_
  refine lv_iconst (v := 1) X.1 X.2.1 dX2_startYear_51 (by decide) ?_
  refine bl_puti X V hv0 fp_X2_46 rfl rfl dX2_startYear_52 (fun σ5 H locs e6 V => ?_)
  have hf := bl_let_at e6 hf
  refine lv_aload_n X.1 X.2.1 dX2_startYear_55 rfl (lv_at hl 1 rfl) ?_
  refine lv_iload_n X.1 X.2.1 dX2_startYear_56 rfl (lv_at hl 2 rfl) ?_
  obtain ⟨h7, hf⟩ := bl_gd_at hf
  refine bl_puti X V hv0 fp_X2_56 (bl_nbo h7).1 (bl_nbo h7).2 dX2_startYear_57 (fun σ8 H locs e9 V => ?_)
  have hf := bl_let_at e9 hf
  refine lv_aload_n X.1 X.2.1 dX2_startYear_60 rfl (lv_at hl 1 rfl) ?_
  refine lv_iload_n X.1 X.2.1 dX2_startYear_61 rfl (lv_at hl 3 rfl) ?_
  refine lv_iload X.1 X.2.1 dX2_startYear_62 (lv_at hl 0 rfl) ?_
  refine lv_iadd X.1 X.2.1 dX2_startYear_64 ?_
  refine bl_puti X V hv0 fp_X2_59 rfl rfl dX2_startYear_65 (fun σ10 H locs e11 V => ?_)
  have hf := bl_let_at e11 hf
  refine lv_aload_n X.1 X.2.1 dX2_startYear_68 rfl (lv_at hl 1 rfl) ?_
  refine bl_geti X V hv0 fl_X2_59 dX2_startYear_69 ?_
  exact bl_reti X V hr hf dX2_startYear_72
set_option maxHeartbeats 4000000 in
set_option maxRecDepth 100000 in
theorem t_X2_startYear (l : Launch) (g : bl_Gp) (σ : bl_St) (a0 : Nat) (a1 : Nat) (a2 : Int32) (o : Int32 × bl_St) (ha0 : bl_sh[a0]? = some (2, 15)) (ha1 : bl_sh[a1]? = some (8, 5)) (hf : f_X2_startYear σ a0 a1 a2 = some o) : bl_Ci l g yX2_startYear cX2_startYear 5 (Option.some Jvm.ClassFile.FieldType.int) (bl_rm 1 22) [.ref (bl_ad g a0), .ref (bl_ad g a1), .int a2] σ o := by
  refine bl_met (by decide) (Nat.le_of_ble_eq_true rfl) (fun p e s m below meth c ls X hr V hl => ?_)
  have hl : lv_has ls 5 [(0, .ref (bl_ad g a0)), (1, .ref (bl_ad g a1)), (2, .int a2)] := hl
  unfold f_X2_startYear at hf
  refine lv_aload_n X.1 X.2.1 dX2_startYear_0 rfl (lv_at hl 1 rfl) ?_
  refine lv_aload_n X.1 X.2.1 dX2_startYear_1 rfl (lv_at hl 0 rfl) ?_
  refine bl_geti X V ha0 fl_X2_18 dX2_startYear_2 ?_
  refine lv_iconst (v := 0) X.1 X.2.1 dX2_startYear_5 (by decide) ?_
  obtain ⟨r12, σ13, h14, hf⟩ := bl_bd_at hf
  refine bl_cVi (As := [.int (bl_I σ a0 0), .int 0]) X V hl.1 ha1 rfl ml_X2_68 mV_X8_part (t_X8_part l g σ a1 (bl_I σ a0 0) 0 _ ha1 h14) rfl rfl ⟨Nat.le_of_ble_eq_true rfl, Nat.le_of_ble_eq_true rfl⟩ rfl rfl (Nat.le_of_ble_eq_true rfl) ⟨Nat.zero_le _, Nat.zero_le _⟩ dX2_startYear_6 (fun H locs V => ?_)
  refine lv_istore_n (lv' := [(3, .int r12), (0, .ref (bl_ad g a0)), (1, .ref (bl_ad g a1)), (2, .int a2)]) X.1 X.2.1 dX2_startYear_9 rfl hl (by decide) rfl (fun ls hl => ?_)
  refine lv_iload_n X.1 X.2.1 dX2_startYear_10 rfl (lv_at hl 3 rfl) ?_
  refine lv_if_eq (tgt := 26) X.1 X.2.1 dX2_startYear_11 (by decide) (fun c15 => ?_) (fun c15 => ?_)
  · have hf := bl_ifp c15 hf
    refine lv_iconst (v := 0) X.1 X.2.1 dX2_startYear_26 (by decide) ?_
    exact w_X2_startYear_27 X hr  σ13 a0 a2 r12 0 ha0 hf _ _ _ V (lv_sub hl [1, 3, 0] rfl)
  · have hf := bl_ifn c15 hf
    refine lv_aload_n X.1 X.2.1 dX2_startYear_14 rfl (lv_at hl 2 rfl) ?_
    refine lv_aload_n X.1 X.2.1 dX2_startYear_15 rfl (lv_at hl 1 rfl) ?_
    refine bl_geti X V ha0 fl_X2_18 dX2_startYear_16 ?_
    refine lv_iconst (v := 4) X.1 X.2.1 dX2_startYear_19 (by decide) ?_
    obtain ⟨r16, σ17, h18, hf⟩ := bl_bd_at hf
    refine bl_cVi (As := [.int (bl_I σ13 a0 0), .int 4]) X V hl.1 ha1 rfl ml_X2_68 mV_X8_part (t_X8_part l g σ13 a1 (bl_I σ13 a0 0) 4 _ ha1 h18) rfl rfl ⟨Nat.le_of_ble_eq_true rfl, Nat.le_of_ble_eq_true rfl⟩ rfl rfl (Nat.le_of_ble_eq_true rfl) ⟨Nat.zero_le _, Nat.zero_le _⟩ dX2_startYear_20 (fun H locs V => ?_)
    refine lv_goto (tgt := 27) X.1 X.2.1 dX2_startYear_23 (by decide) ?_
    exact w_X2_startYear_27 X hr  σ17 a0 a2 r12 r16 ha0 hf _ _ _ V (lv_sub hl [1, 3, 0] rfl)
set_option maxHeartbeats 4000000 in
set_option maxRecDepth 100000 in
theorem t_X2_putEntry (l : Launch) (g : bl_Gp) (σ : bl_St) (a0 : Nat) (a1 : Int32) (a2 : Int32) (a3 : Int32) (a4 : Int32) (o : Unit × bl_St) (ha0 : bl_sh[a0]? = some (20, 48)) (hf : f_X2_putEntry σ a0 a1 a2 a3 a4 = some o) : bl_Cv l g yX2_putEntry cX2_putEntry 6 (Option.none : Option Jvm.ClassFile.FieldType) (bl_rm 1 22) [.ref (bl_ad g a0), .int a1, .int a2, .int a3, .int a4] σ o := by
  refine bl_met (by decide) (Nat.le_of_ble_eq_true rfl) (fun p e s m below meth c ls X hr V hl => ?_)
  have hl : lv_has ls 6 [(0, .ref (bl_ad g a0)), (1, .int a1), (2, .int a2), (3, .int a3), (4, .int a4)] := hl
  unfold f_X2_putEntry at hf
  refine lv_iload_n X.1 X.2.1 dX2_putEntry_0 rfl (lv_at hl 1 rfl) ?_
  refine lv_bipush (v := 16) X.1 X.2.1 dX2_putEntry_1 (by decide) ?_
  obtain ⟨r1, σ2, h3, hf⟩ := bl_bd_at hf
  refine bl_cSi (As := [.int a1, .int 16]) X V hl.1 ml_X2_99 mS_J9_floorMod_7cf53 (t_J9_floorMod_7cf53 l g σ a1 16 _  h3) rfl rfl ⟨Nat.le_of_ble_eq_true rfl, Nat.le_of_ble_eq_true rfl⟩ rfl rfl (Nat.le_of_ble_eq_true rfl) ⟨Nat.zero_le _, Nat.zero_le _⟩ dX2_putEntry_3 (fun H locs V => ?_)
  refine lv_iconst (v := 3) X.1 X.2.1 dX2_putEntry_6 (by decide) ?_
  refine lv_imul X.1 X.2.1 dX2_putEntry_7 ?_
  refine lv_topi (fun x4 e5 => ?_)
  have hf := bl_let_at e5 hf
  refine lv_istore (lv' := [(5, .int x4), (0, .ref (bl_ad g a0)), (1, .int a1), (2, .int a2), (3, .int a3), (4, .int a4)]) X.1 X.2.1 dX2_putEntry_8 hl (by decide) rfl (fun ls hl => ?_)
  refine lv_aload_n X.1 X.2.1 dX2_putEntry_10 rfl (lv_at hl 1 rfl) ?_
  refine lv_iload X.1 X.2.1 dX2_putEntry_11 (lv_at hl 0 rfl) ?_
  refine lv_iload_n X.1 X.2.1 dX2_putEntry_13 rfl (lv_at hl 3 rfl) ?_
  obtain ⟨h6, hf⟩ := bl_gd_at hf
  refine bl_iast (k := (Int32.toNatClampNeg x4)) X V ha0 h6 rfl dX2_putEntry_14 (fun σ7 H locs e8 V => ?_)
  have hf := bl_let_at e8 hf
  refine lv_aload_n X.1 X.2.1 dX2_putEntry_15 rfl (lv_at hl 1 rfl) ?_
  refine lv_iload X.1 X.2.1 dX2_putEntry_16 (lv_at hl 0 rfl) ?_
  refine lv_iconst (v := 1) X.1 X.2.1 dX2_putEntry_18 (by decide) ?_
  refine lv_iadd X.1 X.2.1 dX2_putEntry_19 ?_
  refine lv_iload_n X.1 X.2.1 dX2_putEntry_20 rfl (lv_at hl 4 rfl) ?_
  obtain ⟨h9, hf⟩ := bl_gd_at hf
  refine bl_iast (k := (Int32.toNatClampNeg (x4 + 1))) X V ha0 h9 rfl dX2_putEntry_21 (fun σ10 H locs e11 V => ?_)
  have hf := bl_let_at e11 hf
  refine lv_aload_n X.1 X.2.1 dX2_putEntry_22 rfl (lv_at hl 1 rfl) ?_
  refine lv_iload X.1 X.2.1 dX2_putEntry_23 (lv_at hl 0 rfl) ?_
  refine lv_iconst (v := 2) X.1 X.2.1 dX2_putEntry_25 (by decide) ?_
  refine lv_iadd X.1 X.2.1 dX2_putEntry_26 ?_
  refine lv_iload X.1 X.2.1 dX2_putEntry_27 (lv_at hl 5 rfl) ?_
  obtain ⟨h12, hf⟩ := bl_gd_at hf
  refine bl_iast (k := (Int32.toNatClampNeg (x4 + 2))) X V ha0 h12 rfl dX2_putEntry_29 (fun σ13 H locs e14 V => ?_)
  have hf := bl_let_at e14 hf
  exact bl_retv X V hr hf dX2_putEntry_30
set_option maxHeartbeats 4000000 in
set_option maxRecDepth 100000 in
theorem t_X2_endYear (l : Launch) (g : bl_Gp) (σ : bl_St) (a0 : Nat) (a1 : Nat) (o : Unit × bl_St) (ha0 : bl_sh[a0]? = some (2, 15)) (ha1 : bl_sh[a1]? = some (8, 5)) (hf : f_X2_endYear σ a0 a1 = some o) : bl_Cv l g yX2_endYear cX2_endYear 2 (Option.none : Option Jvm.ClassFile.FieldType) (bl_rm 2 47) [.ref (bl_ad g a0), .ref (bl_ad g a1)] σ o := by
  refine bl_met (by decide) (Nat.le_of_ble_eq_true rfl) (fun p e s m below meth c ls X hr V hl => ?_)
  have hl : lv_has ls 2 [(0, .ref (bl_ad g a0)), (1, .ref (bl_ad g a1))] := hl
  unfold f_X2_endYear at hf
  refine lv_aload_n X.1 X.2.1 dX2_endYear_0 rfl (lv_at hl 0 rfl) ?_
  refine bl_getr X V ha0 fl_X2_15 rfl dX2_endYear_1 (fun h1 => ?_)
  refine lv_aload_n X.1 X.2.1 dX2_endYear_4 rfl (lv_at hl 0 rfl) ?_
  refine bl_geti X V ha0 fl_X2_22 dX2_endYear_5 ?_
  refine lv_aload_n X.1 X.2.1 dX2_endYear_8 rfl (lv_at hl 0 rfl) ?_
  refine bl_geti X V ha0 fl_X2_18 dX2_endYear_9 ?_
  refine lv_aload_n X.1 X.2.1 dX2_endYear_12 rfl (lv_at hl 0 rfl) ?_
  refine bl_geti X V ha0 fl_X2_59 dX2_endYear_13 ?_
  refine lv_aload_n X.1 X.2.1 dX2_endYear_16 rfl (lv_at hl 0 rfl) ?_
  refine bl_geti X V ha0 fl_X2_53 dX2_endYear_17 ?_
  obtain ⟨r2, σ3, h4, hf⟩ := bl_bd_at hf
  refine bl_cSv (As := [.ref (bl_ad g (bl_R σ a0 14)), .int (bl_I σ a0 6), .int (bl_I σ a0 0), .int (bl_I σ a0 5), .int (bl_I σ a0 3)]) X V hl.1 ml_X2_82 mS_X2_putEntry (t_X2_putEntry l g σ (bl_R σ a0 14) (bl_I σ a0 6) (bl_I σ a0 0) (bl_I σ a0 5) (bl_I σ a0 3) _ h1 h4) rfl rfl ⟨Nat.le_of_ble_eq_true rfl, Nat.le_of_ble_eq_true rfl⟩ rfl rfl (Nat.le_of_ble_eq_true rfl) ⟨Nat.zero_le _, Nat.zero_le _⟩ dX2_endYear_20 (fun H locs V => ?_)
  refine lv_aload_n X.1 X.2.1 dX2_endYear_23 rfl (lv_at hl 0 rfl) ?_
  refine lv_dup X.1 X.2.1 dX2_endYear_24 rfl ?_
  refine bl_geti X V ha0 fl_X2_22 dX2_endYear_25 ?_
  refine lv_iconst (v := 1) X.1 X.2.1 dX2_endYear_28 (by decide) ?_
  refine lv_iadd X.1 X.2.1 dX2_endYear_29 ?_
  refine bl_puti X V ha0 fp_X2_22 rfl rfl dX2_endYear_30 (fun σ5 H locs e6 V => ?_)
  have hf := bl_let_at e6 hf
  refine lv_aload_n X.1 X.2.1 dX2_endYear_33 rfl (lv_at hl 0 rfl) ?_
  refine lv_aload_n X.1 X.2.1 dX2_endYear_34 rfl (lv_at hl 1 rfl) ?_
  refine lv_aload_n X.1 X.2.1 dX2_endYear_35 rfl (lv_at hl 0 rfl) ?_
  refine bl_geti X V ha0 fl_X2_18 dX2_endYear_36 ?_
  refine lv_aload_n X.1 X.2.1 dX2_endYear_39 rfl (lv_at hl 0 rfl) ?_
  refine bl_geti X V ha0 fl_X2_53 dX2_endYear_40 ?_
  obtain ⟨r7, σ8, h9, hf⟩ := bl_bd_at hf
  refine bl_cVi (As := [.int (bl_I σ5 a0 0), .int (bl_I σ5 a0 3)]) X V hl.1 ha1 rfl ml_X2_96 mV_X8_next (t_X8_next l g σ5 a1 (bl_I σ5 a0 0) (bl_I σ5 a0 3) _ ha1 h9) rfl rfl ⟨Nat.le_of_ble_eq_true rfl, Nat.le_of_ble_eq_true rfl⟩ rfl rfl (Nat.le_of_ble_eq_true rfl) ⟨Nat.zero_le _, Nat.zero_le _⟩ dX2_endYear_43 (fun H locs V => ?_)
  refine bl_puti X V ha0 fp_X2_18 rfl rfl dX2_endYear_46 (fun σ10 H locs e11 V => ?_)
  have hf := bl_let_at e11 hf
  refine lv_aload_n X.1 X.2.1 dX2_endYear_49 rfl (lv_at hl 0 rfl) ?_
  obtain ⟨r12, σ13, h14, hf⟩ := bl_bd_at hf
  refine bl_cVv (As := []) X V hl.1 ha0 rfl ml_X2_43 mV_X2_leaveYear (t_X2_leaveYear l g σ10 a0 _ ha0 h14) rfl rfl ⟨Nat.le_of_ble_eq_true rfl, Nat.le_of_ble_eq_true rfl⟩ rfl rfl (Nat.le_of_ble_eq_true rfl) ⟨Nat.zero_le _, Nat.zero_le _⟩ dX2_endYear_50 (fun H locs V => ?_)
  exact bl_retv X V hr hf dX2_endYear_53
set_option maxHeartbeats 4000000 in
set_option maxRecDepth 100000 in
theorem t_X2_passChance (l : Launch) (g : bl_Gp) (σ : bl_St) (a0 : Nat) (a1 : Nat) (o : Int32 × bl_St) (ha0 : bl_sh[a0]? = some (2, 15)) (ha1 : bl_sh[a1]? = some (8, 5)) (hf : f_X2_passChance σ a0 a1 = some o) : bl_Ci l g yX2_passChance cX2_passChance 3 (Option.some Jvm.ClassFile.FieldType.int) (bl_rm 3 68) [.ref (bl_ad g a0), .ref (bl_ad g a1)] σ o := by
  refine bl_met (by decide) (Nat.le_of_ble_eq_true rfl) (fun p e s m below meth c ls X hr V hl => ?_)
  have hl : lv_has ls 3 [(0, .ref (bl_ad g a0)), (1, .ref (bl_ad g a1))] := hl
  unfold f_X2_passChance at hf
  refine lv_aload_n X.1 X.2.1 dX2_passChance_0 rfl (lv_at hl 0 rfl) ?_
  refine lv_dup X.1 X.2.1 dX2_passChance_1 rfl ?_
  refine bl_geti X V ha0 fl_X2_50 dX2_passChance_2 ?_
  refine lv_iconst (v := 1) X.1 X.2.1 dX2_passChance_5 (by decide) ?_
  refine lv_iadd X.1 X.2.1 dX2_passChance_6 ?_
  refine bl_puti X V ha0 fp_X2_50 rfl rfl dX2_passChance_7 (fun σ1 H locs e2 V => ?_)
  have hf := bl_let_at e2 hf
  refine lv_aload_n X.1 X.2.1 dX2_passChance_10 rfl (lv_at hl 1 rfl) ?_
  obtain ⟨r3, σ4, h5, hf⟩ := bl_bd_at hf
  refine bl_cVi (As := []) X V hl.1 ha1 rfl ml_X2_74 mV_X8_chances (t_X8_chances l g σ1 a1 _ ha1 h5) rfl rfl ⟨Nat.le_of_ble_eq_true rfl, Nat.le_of_ble_eq_true rfl⟩ rfl rfl (Nat.le_of_ble_eq_true rfl) ⟨Nat.zero_le _, Nat.zero_le _⟩ dX2_passChance_11 (fun H locs V => ?_)
  refine lv_aload_n X.1 X.2.1 dX2_passChance_14 rfl (lv_at hl 0 rfl) ?_
  refine bl_geti X V ha0 fl_X2_50 dX2_passChance_15 ?_
  refine lv_isub X.1 X.2.1 dX2_passChance_18 ?_
  refine lv_topi (fun x6 e7 => ?_)
  have hf := bl_let_at e7 hf
  refine lv_istore_n (lv' := [(2, .int x6), (0, .ref (bl_ad g a0)), (1, .ref (bl_ad g a1))]) X.1 X.2.1 dX2_passChance_19 rfl hl (by decide) rfl (fun ls hl => ?_)
  refine lv_iload_n X.1 X.2.1 dX2_passChance_20 rfl (lv_at hl 0 rfl) ?_
  refine lv_if_gt (tgt := 29) X.1 X.2.1 dX2_passChance_21 (by decide) (fun c8 => ?_) (fun c8 => ?_)
  · have hf := bl_ifp c8 hf
    refine lv_iload_n X.1 X.2.1 dX2_passChance_29 rfl (lv_at hl 0 rfl) ?_
    exact bl_reti X V hr hf dX2_passChance_30
  · have hf := bl_ifn c8 hf
    refine lv_aload_n X.1 X.2.1 dX2_passChance_24 rfl (lv_at hl 1 rfl) ?_
    refine lv_aload_n X.1 X.2.1 dX2_passChance_25 rfl (lv_at hl 2 rfl) ?_
    obtain ⟨r9, σ10, h11, hf⟩ := bl_bd_at hf
    refine bl_cVv (As := [.ref (bl_ad g a1)]) X V hl.1 ha0 rfl ml_X2_78 mV_X2_endYear (t_X2_endYear l g σ4 a0 a1 _ ha0 ha1 h11) rfl rfl ⟨Nat.le_of_ble_eq_true rfl, Nat.le_of_ble_eq_true rfl⟩ rfl rfl (Nat.le_of_ble_eq_true rfl) ⟨Nat.zero_le _, Nat.zero_le _⟩ dX2_passChance_26 (fun H locs V => ?_)
    refine lv_iload_n X.1 X.2.1 dX2_passChance_29 rfl (lv_at hl 0 rfl) ?_
    exact bl_reti X V hr hf dX2_passChance_30
set_option maxHeartbeats 4000000 in
set_option maxRecDepth 100000 in
theorem t_X2_countTold (l : Launch) (g : bl_Gp) (σ : bl_St) (a0 : Nat) (o : Unit × bl_St) (ha0 : bl_sh[a0]? = some (2, 15)) (hf : f_X2_countTold σ a0 = some o) : bl_Cv l g yX2_countTold cX2_countTold 1 (Option.none : Option Jvm.ClassFile.FieldType) (bl_rm 0 0) [.ref (bl_ad g a0)] σ o := by
  refine bl_met (by decide) (Nat.le_of_ble_eq_true rfl) (fun p e s m below meth c ls X hr V hl => ?_)
  have hl : lv_has ls 1 [(0, .ref (bl_ad g a0))] := hl
  unfold f_X2_countTold at hf
  refine lv_aload_n X.1 X.2.1 dX2_countTold_0 rfl (lv_at hl 0 rfl) ?_
  refine bl_geti X V ha0 fl_X2_56 dX2_countTold_1 ?_
  refine lv_if_eq (tgt := 15) X.1 X.2.1 dX2_countTold_4 (by decide) (fun c1 => ?_) (fun c1 => ?_)
  · have hf := bl_ifp c1 hf
    refine lv_aload_n X.1 X.2.1 dX2_countTold_15 rfl (lv_at hl 0 rfl) ?_
    refine lv_dup X.1 X.2.1 dX2_countTold_16 rfl ?_
    refine bl_geti X V ha0 fl_X2_53 dX2_countTold_17 ?_
    refine lv_iconst (v := 1) X.1 X.2.1 dX2_countTold_20 (by decide) ?_
    refine lv_iadd X.1 X.2.1 dX2_countTold_21 ?_
    refine bl_puti X V ha0 fp_X2_53 rfl rfl dX2_countTold_22 (fun σ2 H locs e3 V => ?_)
    have hf := bl_let_at e3 hf
    exact bl_retv X V hr hf dX2_countTold_25
  · have hf := bl_ifn c1 hf
    refine lv_aload_n X.1 X.2.1 dX2_countTold_7 rfl (lv_at hl 0 rfl) ?_
    refine lv_iconst (v := 0) X.1 X.2.1 dX2_countTold_8 (by decide) ?_
    refine bl_puti X V ha0 fp_X2_56 rfl rfl dX2_countTold_9 (fun σ4 H locs e5 V => ?_)
    have hf := bl_let_at e5 hf
    refine lv_goto (tgt := 25) X.1 X.2.1 dX2_countTold_12 (by decide) ?_
    exact bl_retv X V hr hf dX2_countTold_25
set_option maxHeartbeats 4000000 in
set_option maxRecDepth 100000 in
theorem w_X2_takeLoss_48 {p : Program} {l : Launch} {e : Env} {s : State} {m : MethodId} {below : List Frame} {meth : Method} {c : Code} {g : bl_Gp} {as : List Value} {out : Int32 × bl_St} (X : bl_Cx g p s m as.toArray meth c cX2_takeLoss 5 RX2) (hr : meth.sig.returnType = (Option.some Jvm.ClassFile.FieldType.int)) : ∀ (σ : bl_St) (v0 : Nat) (v3 : Int32) (s0 : Int32), bl_sh[v0]? = some (2, 15) → (b_X2_takeLoss_48 ) σ v0 v3 s0 = some out → ∀ (H : Heap) (locs : List Loc) (ls : Array Slot), bl_V g s σ H locs → lv_has ls 5 [(0, .ref (bl_ad g v0)), (3, .int v3)] → W p l e (bl_rm 2 47) s m as.toArray below meth c H locs 0 0 (bl_Qi below g s as out) (F0 m 48 ls [.int s0]) := by
  intro σ v0 v3 s0 hv0 hf H locs ls V hl
  unfold b_X2_takeLoss_48 at hf
  refine lv_istore (lv' := [(4, .int s0), (0, .ref (bl_ad g v0)), (3, .int v3)]) X.1 X.2.1 dX2_takeLoss_48 hl (by decide) rfl (fun ls hl => ?_)
  refine lv_aload_n X.1 X.2.1 dX2_takeLoss_50 rfl (lv_at hl 1 rfl) ?_
  refine lv_dup X.1 X.2.1 dX2_takeLoss_51 rfl ?_
  refine bl_geti X V hv0 fl_X2_59 dX2_takeLoss_52 ?_
  refine lv_iload X.1 X.2.1 dX2_takeLoss_55 (lv_at hl 0 rfl) ?_
  refine lv_iadd X.1 X.2.1 dX2_takeLoss_57 ?_
  refine bl_puti X V hv0 fp_X2_59 rfl rfl dX2_takeLoss_58 (fun σ1 H locs e2 V => ?_)
  have hf := bl_let_at e2 hf
  refine lv_iload_n X.1 X.2.1 dX2_takeLoss_61 rfl (lv_at hl 2 rfl) ?_
  refine lv_if_eq (tgt := 93) X.1 X.2.1 dX2_takeLoss_62 (by decide) (fun c3 => ?_) (fun c3 => ?_)
  · have hf := bl_ifp c3 hf
    refine lv_aload_n X.1 X.2.1 dX2_takeLoss_93 rfl (lv_at hl 1 rfl) ?_
    refine lv_dup X.1 X.2.1 dX2_takeLoss_94 rfl ?_
    refine bl_geti X V hv0 fl_X2_40 dX2_takeLoss_95 ?_
    refine lv_iconst (v := 1) X.1 X.2.1 dX2_takeLoss_98 (by decide) ?_
    refine lv_iadd X.1 X.2.1 dX2_takeLoss_99 ?_
    refine bl_puti X V hv0 fp_X2_40 rfl rfl dX2_takeLoss_100 (fun σ4 H locs e5 V => ?_)
    have hf := bl_let_at e5 hf
    refine lv_aload_n X.1 X.2.1 dX2_takeLoss_103 rfl (lv_at hl 1 rfl) ?_
    refine lv_dup X.1 X.2.1 dX2_takeLoss_104 rfl ?_
    refine bl_geti X V hv0 fl_X2_34 dX2_takeLoss_105 ?_
    refine lv_iload X.1 X.2.1 dX2_takeLoss_108 (lv_at hl 0 rfl) ?_
    refine lv_iadd X.1 X.2.1 dX2_takeLoss_110 ?_
    refine bl_puti X V hv0 fp_X2_34 rfl rfl dX2_takeLoss_111 (fun σ6 H locs e7 V => ?_)
    have hf := bl_let_at e7 hf
    refine lv_iload X.1 X.2.1 dX2_takeLoss_114 (lv_at hl 0 rfl) ?_
    exact bl_reti X V hr hf dX2_takeLoss_116
  · have hf := bl_ifn c3 hf
    refine lv_aload_n X.1 X.2.1 dX2_takeLoss_65 rfl (lv_at hl 1 rfl) ?_
    refine lv_dup X.1 X.2.1 dX2_takeLoss_66 rfl ?_
    refine bl_geti X V hv0 fl_X2_37 dX2_takeLoss_67 ?_
    refine lv_iconst (v := 1) X.1 X.2.1 dX2_takeLoss_70 (by decide) ?_
    refine lv_iadd X.1 X.2.1 dX2_takeLoss_71 ?_
    refine bl_puti X V hv0 fp_X2_37 rfl rfl dX2_takeLoss_72 (fun σ8 H locs e9 V => ?_)
    have hf := bl_let_at e9 hf
    refine lv_aload_n X.1 X.2.1 dX2_takeLoss_75 rfl (lv_at hl 1 rfl) ?_
    refine lv_dup X.1 X.2.1 dX2_takeLoss_76 rfl ?_
    refine bl_geti X V hv0 fl_X2_31 dX2_takeLoss_77 ?_
    refine lv_iload X.1 X.2.1 dX2_takeLoss_80 (lv_at hl 0 rfl) ?_
    refine lv_iadd X.1 X.2.1 dX2_takeLoss_82 ?_
    refine bl_puti X V hv0 fp_X2_31 rfl rfl dX2_takeLoss_83 (fun σ10 H locs e11 V => ?_)
    have hf := bl_let_at e11 hf
    refine lv_aload_n X.1 X.2.1 dX2_takeLoss_86 rfl (lv_at hl 1 rfl) ?_
    obtain ⟨r12, σ13, h14, hf⟩ := bl_bd_at hf
    refine bl_cVv (As := []) X V hl.1 hv0 rfl ml_X2_93 mV_X2_countTold (t_X2_countTold l g σ10 v0 _ hv0 h14) rfl rfl ⟨Nat.le_of_ble_eq_true rfl, Nat.le_of_ble_eq_true rfl⟩ rfl rfl (Nat.le_of_ble_eq_true rfl) ⟨Nat.zero_le _, Nat.zero_le _⟩ dX2_takeLoss_87 (fun H locs V => ?_)
    refine lv_goto (tgt := 114) X.1 X.2.1 dX2_takeLoss_90 (by decide) ?_
    refine lv_iload X.1 X.2.1 dX2_takeLoss_114 (lv_at hl 0 rfl) ?_
    exact bl_reti X V hr hf dX2_takeLoss_116
set_option maxHeartbeats 4000000 in
set_option maxRecDepth 100000 in
theorem w_X2_takeLoss_27 {p : Program} {l : Launch} {e : Env} {s : State} {m : MethodId} {below : List Frame} {meth : Method} {c : Code} {g : bl_Gp} {as : List Value} {out : Int32 × bl_St} (X : bl_Cx g p s m as.toArray meth c cX2_takeLoss 5 RX2) (hr : meth.sig.returnType = (Option.some Jvm.ClassFile.FieldType.int)) : ∀ (σ : bl_St) (v0 : Nat) (v1 : Nat) (v2 : Int32) (v3 : Int32) (s0 : Int32) (s1 : Int32) (s2 : Int32) (s3 : Int32) (s4 : Nat), bl_sh[v0]? = some (2, 15) → bl_sh[v1]? = some (8, 5) → bl_sh[s4]? = some (20, 48) → (b_X2_takeLoss_27 ) σ v0 v1 v2 v3 s0 s1 s2 s3 s4 = some out → ∀ (H : Heap) (locs : List Loc) (ls : Array Slot), bl_V g s σ H locs → lv_has ls 5 [(0, .ref (bl_ad g v0)), (1, .ref (bl_ad g v1)), (2, .int v2), (3, .int v3)] → W p l e (bl_rm 2 47) s m as.toArray below meth c H locs 0 0 (bl_Qi below g s as out) (F0 m 27 ls [.int s0, .int s1, .int s2, .int s3, .ref (bl_ad g s4)]) := by
  intro σ v0 v1 v2 v3 s0 s1 s2 s3 s4 hv0 hv1 hs4 hf H locs ls V hl
  unfold b_X2_takeLoss_27 at hf
  obtain ⟨r15, σ16, h17, hf⟩ := bl_bd_at hf
  refine bl_cSv (As := [.ref (bl_ad g s4), .int s3, .int s2, .int s1, .int s0]) X V hl.1 ml_X2_82 mS_X2_putEntry (t_X2_putEntry l g σ s4 s3 s2 s1 s0 _ hs4 h17) rfl rfl ⟨Nat.le_of_ble_eq_true rfl, Nat.le_of_ble_eq_true rfl⟩ rfl rfl (Nat.le_of_ble_eq_true rfl) ⟨Nat.zero_le _, Nat.zero_le _⟩ dX2_takeLoss_27 (fun H locs V => ?_)
  refine lv_iload_n X.1 X.2.1 dX2_takeLoss_30 rfl (lv_at hl 3 rfl) ?_
  refine lv_if_eq (tgt := 42) X.1 X.2.1 dX2_takeLoss_31 (by decide) (fun c18 => ?_) (fun c18 => ?_)
  · have hf := bl_ifp c18 hf
    refine lv_aload_n X.1 X.2.1 dX2_takeLoss_42 rfl (lv_at hl 1 rfl) ?_
    refine lv_iload_n X.1 X.2.1 dX2_takeLoss_43 rfl (lv_at hl 2 rfl) ?_
    refine lv_iconst (v := 0) X.1 X.2.1 dX2_takeLoss_44 (by decide) ?_
    obtain ⟨r19, σ20, h21, hf⟩ := bl_bd_at hf
    refine bl_cVi (As := [.int v2, .int 0]) X V hl.1 hv1 rfl ml_X2_90 mV_X8_sortPart (t_X8_sortPart l g σ16 v1 v2 0 _ hv1 h21) rfl rfl ⟨Nat.le_of_ble_eq_true rfl, Nat.le_of_ble_eq_true rfl⟩ rfl rfl (Nat.le_of_ble_eq_true rfl) ⟨Nat.zero_le _, Nat.zero_le _⟩ dX2_takeLoss_45 (fun H locs V => ?_)
    exact w_X2_takeLoss_48 X hr  σ20 v0 v3 r19 hv0 hf _ _ _ V (lv_sub hl [0, 3] rfl)
  · have hf := bl_ifn c18 hf
    refine lv_aload_n X.1 X.2.1 dX2_takeLoss_34 rfl (lv_at hl 1 rfl) ?_
    refine lv_iload_n X.1 X.2.1 dX2_takeLoss_35 rfl (lv_at hl 2 rfl) ?_
    obtain ⟨r22, σ23, h24, hf⟩ := bl_bd_at hf
    refine bl_cVi (As := [.int v2]) X V hl.1 hv1 rfl ml_X2_86 mV_X8_ownOf (t_X8_ownOf l g σ16 v1 v2 _ hv1 h24) rfl rfl ⟨Nat.le_of_ble_eq_true rfl, Nat.le_of_ble_eq_true rfl⟩ rfl rfl (Nat.le_of_ble_eq_true rfl) ⟨Nat.zero_le _, Nat.zero_le _⟩ dX2_takeLoss_36 (fun H locs V => ?_)
    refine lv_goto (tgt := 48) X.1 X.2.1 dX2_takeLoss_39 (by decide) ?_
    exact w_X2_takeLoss_48 X hr  σ23 v0 v3 r22 hv0 hf _ _ _ V (lv_sub hl [0, 3] rfl)
set_option maxHeartbeats 4000000 in
set_option maxRecDepth 100000 in
theorem t_X2_takeLoss (l : Launch) (g : bl_Gp) (σ : bl_St) (a0 : Nat) (a1 : Nat) (a2 : Int32) (a3 : Int32) (o : Int32 × bl_St) (ha0 : bl_sh[a0]? = some (2, 15)) (ha1 : bl_sh[a1]? = some (8, 5)) (hf : f_X2_takeLoss σ a0 a1 a2 a3 = some o) : bl_Ci l g yX2_takeLoss cX2_takeLoss 5 (Option.some Jvm.ClassFile.FieldType.int) (bl_rm 2 47) [.ref (bl_ad g a0), .ref (bl_ad g a1), .int a2, .int a3] σ o := by
  refine bl_met (by decide) (Nat.le_of_ble_eq_true rfl) (fun p e s m below meth c ls X hr V hl => ?_)
  have hl : lv_has ls 5 [(0, .ref (bl_ad g a0)), (1, .ref (bl_ad g a1)), (2, .int a2), (3, .int a3)] := hl
  unfold f_X2_takeLoss at hf
  refine lv_aload_n X.1 X.2.1 dX2_takeLoss_0 rfl (lv_at hl 0 rfl) ?_
  refine bl_getr X V ha0 fl_X2_9 rfl dX2_takeLoss_1 (fun h25 => ?_)
  refine lv_aload_n X.1 X.2.1 dX2_takeLoss_4 rfl (lv_at hl 0 rfl) ?_
  refine bl_geti X V ha0 fl_X2_37 dX2_takeLoss_5 ?_
  refine lv_aload_n X.1 X.2.1 dX2_takeLoss_8 rfl (lv_at hl 0 rfl) ?_
  refine bl_geti X V ha0 fl_X2_40 dX2_takeLoss_9 ?_
  refine lv_iadd X.1 X.2.1 dX2_takeLoss_12 ?_
  refine lv_aload_n X.1 X.2.1 dX2_takeLoss_13 rfl (lv_at hl 0 rfl) ?_
  refine bl_geti X V ha0 fl_X2_22 dX2_takeLoss_14 ?_
  refine lv_iload_n X.1 X.2.1 dX2_takeLoss_17 rfl (lv_at hl 2 rfl) ?_
  refine lv_iload_n X.1 X.2.1 dX2_takeLoss_18 rfl (lv_at hl 3 rfl) ?_
  refine lv_if_eq (tgt := 26) X.1 X.2.1 dX2_takeLoss_19 (by decide) (fun c26 => ?_) (fun c26 => ?_)
  · have hf := bl_ifp c26 hf
    refine lv_iconst (v := 0) X.1 X.2.1 dX2_takeLoss_26 (by decide) ?_
    exact w_X2_takeLoss_27 X hr  σ a0 a1 a2 a3 0 a2 (bl_I σ a0 6) ((bl_I σ a0 11) + (bl_I σ a0 12)) (bl_R σ a0 13) ha0 ha1 h25 hf _ _ _ V (lv_sub hl [0, 1, 2, 3] rfl)
  · have hf := bl_ifn c26 hf
    refine lv_iconst (v := 1) X.1 X.2.1 dX2_takeLoss_22 (by decide) ?_
    refine lv_goto (tgt := 27) X.1 X.2.1 dX2_takeLoss_23 (by decide) ?_
    exact w_X2_takeLoss_27 X hr  σ a0 a1 a2 a3 1 a2 (bl_I σ a0 6) ((bl_I σ a0 11) + (bl_I σ a0 12)) (bl_R σ a0 13) ha0 ha1 h25 hf _ _ _ V (lv_sub hl [0, 1, 2, 3] rfl)
set_option maxHeartbeats 4000000 in
set_option maxRecDepth 100000 in
theorem t_X3_savedIfTold (l : Launch) (g : bl_Gp) (σ : bl_St) (a0 : Nat) (a1 : Int32) (o : Int64 × bl_St) (ha0 : bl_sh[a0]? = some (3, 8)) (hf : f_X3_savedIfTold σ a0 a1 = some o) : bl_Cl l g yX3_savedIfTold cX3_savedIfTold 2 (Option.some Jvm.ClassFile.FieldType.long) (bl_rm 0 0) [.ref (bl_ad g a0), .int a1] σ o := by
  refine bl_met (by decide) (Nat.le_of_ble_eq_true rfl) (fun p e s m below meth c ls X hr V hl => ?_)
  have hl : lv_has ls 2 [(0, .ref (bl_ad g a0)), (1, .int a1)] := hl
  unfold f_X3_savedIfTold at hf
  refine lv_aload_n X.1 X.2.1 dX3_savedIfTold_0 rfl (lv_at hl 0 rfl) ?_
  refine bl_getr X V ha0 fl_X3_9 rfl dX3_savedIfTold_1 (fun h1 => ?_)
  refine lv_iload_n X.1 X.2.1 dX3_savedIfTold_4 rfl (lv_at hl 1 rfl) ?_
  obtain ⟨h2, hf⟩ := bl_gd_at hf
  refine bl_lald (k := (Int32.toNatClampNeg a1)) X V h1 h2 rfl dX3_savedIfTold_5 ?_
  refine lv_aload_n X.1 X.2.1 dX3_savedIfTold_6 rfl (lv_at hl 0 rfl) ?_
  refine bl_getr X V ha0 fl_X3_15 rfl dX3_savedIfTold_7 (fun h3 => ?_)
  refine lv_iload_n X.1 X.2.1 dX3_savedIfTold_10 rfl (lv_at hl 1 rfl) ?_
  obtain ⟨h4, hf⟩ := bl_gd_at hf
  refine bl_lald (k := (Int32.toNatClampNeg a1)) X V h3 h4 rfl dX3_savedIfTold_11 ?_
  refine lv_lsub X.1 X.2.1 dX3_savedIfTold_12 ?_
  exact bl_retl X V hr hf dX3_savedIfTold_13
set_option maxHeartbeats 4000000 in
set_option maxRecDepth 100000 in
theorem t_X4_look (l : Launch) (g : bl_Gp) (σ : bl_St) (a0 : Nat) (a1 : Nat) (a2 : Int32) (o : Unit × bl_St) (ha0 : bl_sh[a0]? = some (4, 12)) (ha1 : bl_sh[a1]? = some (8, 5)) (hf : f_X4_look σ a0 a1 a2 = some o) : bl_Cv l g yX4_look cX4_look 3 (Option.none : Option Jvm.ClassFile.FieldType) (bl_rm 0 0) [.ref (bl_ad g a0), .ref (bl_ad g a1), .int a2] σ o := by
  refine bl_met (by decide) (Nat.le_of_ble_eq_true rfl) (fun p e s m below meth c ls X hr V hl => ?_)
  have hl : lv_has ls 3 [(0, .ref (bl_ad g a0)), (1, .ref (bl_ad g a1)), (2, .int a2)] := hl
  unfold f_X4_look at hf
  refine lv_aload_n X.1 X.2.1 dX4_look_0 rfl (lv_at hl 0 rfl) ?_
  refine lv_aload_n X.1 X.2.1 dX4_look_1 rfl (lv_at hl 1 rfl) ?_
  refine bl_putr X V ha0 fp_X4_25 rfl ha1 (bl_ne0 ha1 (by decide)) (fun _ => rfl) (fun _ => rfl) dX4_look_2 (fun σ1 H locs e2 V => ?_)
  have hf := bl_let_at e2 hf
  refine lv_aload_n X.1 X.2.1 dX4_look_5 rfl (lv_at hl 0 rfl) ?_
  refine lv_iload_n X.1 X.2.1 dX4_look_6 rfl (lv_at hl 2 rfl) ?_
  obtain ⟨h3, hf⟩ := bl_gd_at hf
  refine bl_puti X V ha0 fp_X4_29 (bl_nbo h3).1 (bl_nbo h3).2 dX4_look_7 (fun σ4 H locs e5 V => ?_)
  have hf := bl_let_at e5 hf
  refine lv_aload_n X.1 X.2.1 dX4_look_10 rfl (lv_at hl 0 rfl) ?_
  refine lv_iconst (v := 0) X.1 X.2.1 dX4_look_11 (by decide) ?_
  refine bl_puti X V ha0 fp_X4_37 rfl rfl dX4_look_12 (fun σ6 H locs e7 V => ?_)
  have hf := bl_let_at e7 hf
  refine lv_aload_n X.1 X.2.1 dX4_look_15 rfl (lv_at hl 0 rfl) ?_
  refine lv_iconst (v := 0) X.1 X.2.1 dX4_look_16 (by decide) ?_
  refine bl_puti X V ha0 fp_X4_40 rfl rfl dX4_look_17 (fun σ8 H locs e9 V => ?_)
  have hf := bl_let_at e9 hf
  refine lv_aload_n X.1 X.2.1 dX4_look_20 rfl (lv_at hl 0 rfl) ?_
  refine lv_iconst (v := 0) X.1 X.2.1 dX4_look_21 (by decide) ?_
  refine bl_puti X V ha0 fp_X4_43 rfl rfl dX4_look_22 (fun σ10 H locs e11 V => ?_)
  have hf := bl_let_at e11 hf
  refine lv_aload_n X.1 X.2.1 dX4_look_25 rfl (lv_at hl 0 rfl) ?_
  refine lv_iconst (v := 1) X.1 X.2.1 dX4_look_26 (by decide) ?_
  refine bl_puti X V ha0 fp_X4_33 rfl rfl dX4_look_27 (fun σ12 H locs e13 V => ?_)
  have hf := bl_let_at e13 hf
  refine lv_aload_n X.1 X.2.1 dX4_look_30 rfl (lv_at hl 0 rfl) ?_
  refine lv_iconst (v := 0) X.1 X.2.1 dX4_look_31 (by decide) ?_
  refine bl_puti X V ha0 fp_X4_46 rfl rfl dX4_look_32 (fun σ14 H locs e15 V => ?_)
  have hf := bl_let_at e15 hf
  refine lv_aload_n X.1 X.2.1 dX4_look_35 rfl (lv_at hl 0 rfl) ?_
  refine lv_iconst (v := 0) X.1 X.2.1 dX4_look_36 (by decide) ?_
  refine bl_puti X V ha0 fp_X4_49 rfl rfl dX4_look_37 (fun σ16 H locs e17 V => ?_)
  have hf := bl_let_at e17 hf
  exact bl_retv X V hr hf dX4_look_40
