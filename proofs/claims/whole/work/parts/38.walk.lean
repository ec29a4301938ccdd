set_option maxHeartbeats 4000000 in
set_option maxRecDepth 100000 in
theorem w_X10_shared_77 {p : Program} {l : Launch} {e : Env} {s : State} {m : MethodId} {below : List Frame} {meth : Method} {c : Code} {g : bl_Gp} {as : List Value} {out : Int64 × bl_St} (X : bl_Cx g p s m as.toArray meth c cX10_shared 7 RX10) (hr : meth.sig.returnType = (Option.some Jvm.ClassFile.FieldType.long)) (k63 : bl_St → Nat → Int32 → Int32 → Int32 → Int32 → Int32 → Option (Int64 × bl_St)) (hk63 : ∀ (σ : bl_St) (v0 : Nat) (v1 : Int32) (v2 : Int32) (v3 : Int32) (v4 : Int32) (v5 : Int32), bl_sh[v0]? = some (10, 28) → k63 σ v0 v1 v2 v3 v4 v5 = some out → ∀ (H : Heap) (locs : List Loc) (ls : Array Slot), bl_V g s σ H locs → lv_has ls 7 [(0, .ref (bl_ad g v0)), (1, .int v1), (2, .int v2), (3, .int v3), (4, .int v4), (5, .int v5)] → W p l e (bl_rm 4 103) s m as.toArray below meth c H locs 0 0 (bl_Ql below g s as out) (F0 m 63 ls [])) (k77 : bl_St → Nat → Int32 → Int32 → Int32 → Int32 → Int32 → Int32 → Option (Int64 × bl_St)) (hk77 : ∀ (σ : bl_St) (v0 : Nat) (v1 : Int32) (v2 : Int32) (v3 : Int32) (v4 : Int32) (v5 : Int32) (v6 : Int32), bl_sh[v0]? = some (10, 28) → k77 σ v0 v1 v2 v3 v4 v5 v6 = some out → ∀ (H : Heap) (locs : List Loc) (ls : Array Slot), bl_V g s σ H locs → lv_has ls 7 [(0, .ref (bl_ad g v0)), (1, .int v1), (2, .int v2), (3, .int v3), (4, .int v4), (5, .int v5), (6, .int v6)] → W p l e (bl_rm 4 103) s m as.toArray below meth c H locs 0 0 (bl_Ql below g s as out) (F0 m 77 ls [])) : ∀ (σ : bl_St) (v0 : Nat) (v1 : Int32) (v2 : Int32) (v3 : Int32) (v4 : Int32) (v5 : Int32) (v6 : Int32), bl_sh[v0]? = some (10, 28) → (b_X10_shared_77 k63 k77) σ v0 v1 v2 v3 v4 v5 v6 = some out → ∀ (H : Heap) (locs : List Loc) (ls : Array Slot), bl_V g s σ H locs → lv_has ls 7 [(0, .ref (bl_ad g v0)), (1, .int v1), (2, .int v2), (3, .int v3), (4, .int v4), (5, .int v5), (6, .int v6)] → W p l e (bl_rm 4 103) s m as.toArray below meth c H locs 0 0 (bl_Ql below g s as out) (F0 m 77 ls []) := by
  intro σ v0 v1 v2 v3 v4 v5 v6 hv0 hf H locs ls V hl
  unfold b_X10_shared_77 at hf
  refine lv_iload X.1 X.2.1 dX10_shared_77 (lv_at hl 6 rfl) ?_
  refine lv_aload_n X.1 X.2.1 dX10_shared_79 rfl (lv_at hl 0 rfl) ?_
  refine bl_getr X V hv0 fl_X10_13 rfl dX10_shared_80 (fun h1 => ?_)
  refine lv_iconst (v := 0) X.1 X.2.1 dX10_shared_83 (by decide) ?_
  refine bl_iald (k := 0) X V h1 (by decide) (by decide) dX10_shared_84 ?_
  refine lv_icmp_ge (tgt := 123) X.1 X.2.1 dX10_shared_85 (by decide) (fun c2 => ?_) (fun c2 => ?_)
  · have hf := bl_ifp c2 hf
    obtain ⟨x3, e4⟩ : ∃ z : Int32, z = v5 + 1 := ⟨_, rfl⟩
    have hf := bl_let_at e4 hf
    refine lv_iinc (v := x3) (lv' := [(5, .int x3), (0, .ref (bl_ad g v0)), (1, .int v1), (2, .int v2), (3, .int v3), (4, .int v4), (6, .int v6)]) X.1 X.2.1 dX10_shared_123 hl (k := 5) rfl (by rw [e4]; rfl) (by decide) rfl (fun ls hl => ?_)
    refine lv_goto (tgt := 63) X.1 X.2.1 dX10_shared_126 (by decide) ?_
    exact hk63 σ v0 v1 v2 v3 v4 x3 hv0 hf _ _ _ V (lv_sub hl [1, 2, 3, 4, 5, 0] rfl)
  · have hf := bl_ifn c2 hf
    refine lv_aload_n X.1 X.2.1 dX10_shared_88 rfl (lv_at hl 0 rfl) ?_
    refine bl_getr X V hv0 fl_X10_43 rfl dX10_shared_89 (fun h5 => ?_)
    refine lv_bipush (v := 64) X.1 X.2.1 dX10_shared_92 (by decide) ?_
    refine lv_iload X.1 X.2.1 dX10_shared_94 (lv_at hl 4 rfl) ?_
    refine lv_imul X.1 X.2.1 dX10_shared_96 ?_
    refine lv_bipush (v := 8) X.1 X.2.1 dX10_shared_97 (by decide) ?_
    refine lv_iload X.1 X.2.1 dX10_shared_99 (lv_at hl 5 rfl) ?_
    refine lv_imul X.1 X.2.1 dX10_shared_101 ?_
    refine lv_iadd X.1 X.2.1 dX10_shared_102 ?_
    refine lv_iload X.1 X.2.1 dX10_shared_103 (lv_at hl 6 rfl) ?_
    refine lv_iadd X.1 X.2.1 dX10_shared_105 ?_
    refine lv_aload_n X.1 X.2.1 dX10_shared_106 rfl (lv_at hl 0 rfl) ?_
    refine lv_iload X.1 X.2.1 dX10_shared_107 (lv_at hl 4 rfl) ?_
    refine lv_iload X.1 X.2.1 dX10_shared_109 (lv_at hl 5 rfl) ?_
    refine lv_iload X.1 X.2.1 dX10_shared_111 (lv_at hl 6 rfl) ?_
    obtain ⟨r6, σ7, h8, hf⟩ := bl_bd_at hf
    refine bl_cVl (As := [.int v4, .int v5, .int v6]) X V hl.1 hv0 rfl ml_X10_270 mV_X10_bothYear (t_X10_bothYear l g σ v0 v4 v5 v6 _ hv0 h8) rfl rfl ⟨Nat.le_of_ble_eq_true rfl, Nat.le_of_ble_eq_true rfl⟩ rfl rfl (Nat.le_of_ble_eq_true rfl) ⟨Nat.zero_le _, Nat.zero_le _⟩ dX10_shared_113 (fun H locs V => ?_)
    obtain ⟨h9, hf⟩ := bl_gd_at hf
    refine bl_last (k := (Int32.toNatClampNeg (((64 * v4) + (8 * v5)) + v6))) X V h5 h9 rfl dX10_shared_116 (fun σ10 H locs e11 V => ?_)
    have hf := bl_let_at e11 hf
    obtain ⟨x12, e13⟩ : ∃ z : Int32, z = v6 + 1 := ⟨_, rfl⟩
    have hf := bl_let_at e13 hf
    refine lv_iinc (v := x12) (lv' := [(6, .int x12), (0, .ref (bl_ad g v0)), (1, .int v1), (2, .int v2), (3, .int v3), (4, .int v4), (5, .int v5)]) X.1 X.2.1 dX10_shared_117 hl (k := 6) rfl (by rw [e13]; rfl) (by decide) rfl (fun ls hl => ?_)
    refine lv_goto (tgt := 77) X.1 X.2.1 dX10_shared_120 (by decide) ?_
    exact hk77 σ10 v0 v1 v2 v3 v4 v5 x12 hv0 hf _ _ _ V (lv_sub hl [1, 2, 3, 4, 5, 6, 0] rfl)
theorem l_X10_shared_77 {p : Program} {l : Launch} {e : Env} {s : State} {m : MethodId} {below : List Frame} {meth : Method} {c : Code} {g : bl_Gp} {as : List Value} {out : Int64 × bl_St} (X : bl_Cx g p s m as.toArray meth c cX10_shared 7 RX10) (hr : meth.sig.returnType = (Option.some Jvm.ClassFile.FieldType.long)) (k63 : bl_St → Nat → Int32 → Int32 → Int32 → Int32 → Int32 → Option (Int64 × bl_St)) (hk63 : ∀ (σ : bl_St) (v0 : Nat) (v1 : Int32) (v2 : Int32) (v3 : Int32) (v4 : Int32) (v5 : Int32), bl_sh[v0]? = some (10, 28) → k63 σ v0 v1 v2 v3 v4 v5 = some out → ∀ (H : Heap) (locs : List Loc) (ls : Array Slot), bl_V g s σ H locs → lv_has ls 7 [(0, .ref (bl_ad g v0)), (1, .int v1), (2, .int v2), (3, .int v3), (4, .int v4), (5, .int v5)] → W p l e (bl_rm 4 103) s m as.toArray below meth c H locs 0 0 (bl_Ql below g s as out) (F0 m 63 ls [])) (n : Nat) : ∀ (σ : bl_St) (v0 : Nat) (v1 : Int32) (v2 : Int32) (v3 : Int32) (v4 : Int32) (v5 : Int32) (v6 : Int32), bl_sh[v0]? = some (10, 28) → (bl_fx (fun _ _ _ _ _ _ _ _ => none) (b_X10_shared_77 k63) n) σ v0 v1 v2 v3 v4 v5 v6 = some out → ∀ (H : Heap) (locs : List Loc) (ls : Array Slot), bl_V g s σ H locs → lv_has ls 7 [(0, .ref (bl_ad g v0)), (1, .int v1), (2, .int v2), (3, .int v3), (4, .int v4), (5, .int v5), (6, .int v6)] → W p l e (bl_rm 4 103) s m as.toArray below meth c H locs 0 0 (bl_Ql below g s as out) (F0 m 77 ls []) := by
  induction n with
  | zero =>
    intro σ v0 v1 v2 v3 v4 v5 v6 hv0 hf H locs ls V hl
    cases hf
  | succ n ih => exact w_X10_shared_77 X hr k63 hk63 _ ih
set_option maxHeartbeats 4000000 in
set_option maxRecDepth 100000 in
theorem w_X10_shared_63 {p : Program} {l : Launch} {e : Env} {s : State} {m : MethodId} {below : List Frame} {meth : Method} {c : Code} {g : bl_Gp} {as : List Value} {out : Int64 × bl_St} (X : bl_Cx g p s m as.toArray meth c cX10_shared 7 RX10) (hr : meth.sig.returnType = (Option.some Jvm.ClassFile.FieldType.long)) (k54 : bl_St → Nat → Int32 → Int32 → Int32 → Int32 → Option (Int64 × bl_St)) (hk54 : ∀ (σ : bl_St) (v0 : Nat) (v1 : Int32) (v2 : Int32) (v3 : Int32) (v4 : Int32), bl_sh[v0]? = some (10, 28) → k54 σ v0 v1 v2 v3 v4 = some out → ∀ (H : Heap) (locs : List Loc) (ls : Array Slot), bl_V g s σ H locs → lv_has ls 7 [(0, .ref (bl_ad g v0)), (1, .int v1), (2, .int v2), (3, .int v3), (4, .int v4)] → W p l e (bl_rm 4 103) s m as.toArray below meth c H locs 0 0 (bl_Ql below g s as out) (F0 m 54 ls [])) (k63 : bl_St → Nat → Int32 → Int32 → Int32 → Int32 → Int32 → Option (Int64 × bl_St)) (hk63 : ∀ (σ : bl_St) (v0 : Nat) (v1 : Int32) (v2 : Int32) (v3 : Int32) (v4 : Int32) (v5 : Int32), bl_sh[v0]? = some (10, 28) → k63 σ v0 v1 v2 v3 v4 v5 = some out → ∀ (H : Heap) (locs : List Loc) (ls : Array Slot), bl_V g s σ H locs → lv_has ls 7 [(0, .ref (bl_ad g v0)), (1, .int v1), (2, .int v2), (3, .int v3), (4, .int v4), (5, .int v5)] → W p l e (bl_rm 4 103) s m as.toArray below meth c H locs 0 0 (bl_Ql below g s as out) (F0 m 63 ls [])) : ∀ (σ : bl_St) (v0 : Nat) (v1 : Int32) (v2 : Int32) (v3 : Int32) (v4 : Int32) (v5 : Int32), bl_sh[v0]? = some (10, 28) → (b_X10_shared_63 k54 k63) σ v0 v1 v2 v3 v4 v5 = some out → ∀ (H : Heap) (locs : List Loc) (ls : Array Slot), bl_V g s σ H locs → lv_has ls 7 [(0, .ref (bl_ad g v0)), (1, .int v1), (2, .int v2), (3, .int v3), (4, .int v4), (5, .int v5)] → W p l e (bl_rm 4 103) s m as.toArray below meth c H locs 0 0 (bl_Ql below g s as out) (F0 m 63 ls []) := by
  intro σ v0 v1 v2 v3 v4 v5 hv0 hf H locs ls V hl
  unfold b_X10_shared_63 at hf
  refine lv_iload X.1 X.2.1 dX10_shared_63 (lv_at hl 5 rfl) ?_
  refine lv_aload_n X.1 X.2.1 dX10_shared_65 rfl (lv_at hl 0 rfl) ?_
  refine bl_getr X V hv0 fl_X10_13 rfl dX10_shared_66 (fun h14 => ?_)
  refine lv_iconst (v := 0) X.1 X.2.1 dX10_shared_69 (by decide) ?_
  refine bl_iald (k := 0) X V h14 (by decide) (by decide) dX10_shared_70 ?_
  refine lv_icmp_ge (tgt := 129) X.1 X.2.1 dX10_shared_71 (by decide) (fun c15 => ?_) (fun c15 => ?_)
  · have hf := bl_ifp c15 hf
    obtain ⟨x16, e17⟩ : ∃ z : Int32, z = v4 + 1 := ⟨_, rfl⟩
    have hf := bl_let_at e17 hf
    refine lv_iinc (v := x16) (lv' := [(4, .int x16), (0, .ref (bl_ad g v0)), (1, .int v1), (2, .int v2), (3, .int v3), (5, .int v5)]) X.1 X.2.1 dX10_shared_129 hl (k := 4) rfl (by rw [e17]; rfl) (by decide) rfl (fun ls hl => ?_)
    refine lv_goto (tgt := 54) X.1 X.2.1 dX10_shared_132 (by decide) ?_
    exact hk54 σ v0 v1 v2 v3 x16 hv0 hf _ _ _ V (lv_sub hl [1, 2, 3, 4, 0] rfl)
  · have hf := bl_ifn c15 hf
    refine lv_iconst (v := 0) X.1 X.2.1 dX10_shared_74 (by decide) ?_
    refine lv_istore (lv' := [(6, .int 0), (0, .ref (bl_ad g v0)), (1, .int v1), (2, .int v2), (3, .int v3), (4, .int v4), (5, .int v5)]) X.1 X.2.1 dX10_shared_75 hl (by decide) rfl (fun ls hl => ?_)
    exact l_X10_shared_77 X hr k63 hk63 bl_fu σ v0 v1 v2 v3 v4 v5 0 hv0 hf _ _ _ V (lv_sub hl [1, 2, 3, 4, 5, 6, 0] rfl)
theorem l_X10_shared_63 {p : Program} {l : Launch} {e : Env} {s : State} {m : MethodId} {below : List Frame} {meth : Method} {c : Code} {g : bl_Gp} {as : List Value} {out : Int64 × bl_St} (X : bl_Cx g p s m as.toArray meth c cX10_shared 7 RX10) (hr : meth.sig.returnType = (Option.some Jvm.ClassFile.FieldType.long)) (k54 : bl_St → Nat → Int32 → Int32 → Int32 → Int32 → Option (Int64 × bl_St)) (hk54 : ∀ (σ : bl_St) (v0 : Nat) (v1 : Int32) (v2 : Int32) (v3 : Int32) (v4 : Int32), bl_sh[v0]? = some (10, 28) → k54 σ v0 v1 v2 v3 v4 = some out → ∀ (H : Heap) (locs : List Loc) (ls : Array Slot), bl_V g s σ H locs → lv_has ls 7 [(0, .ref (bl_ad g v0)), (1, .int v1), (2, .int v2), (3, .int v3), (4, .int v4)] → W p l e (bl_rm 4 103) s m as.toArray below meth c H locs 0 0 (bl_Ql below g s as out) (F0 m 54 ls [])) (n : Nat) : ∀ (σ : bl_St) (v0 : Nat) (v1 : Int32) (v2 : Int32) (v3 : Int32) (v4 : Int32) (v5 : Int32), bl_sh[v0]? = some (10, 28) → (bl_fx (fun _ _ _ _ _ _ _ => none) (b_X10_shared_63 k54) n) σ v0 v1 v2 v3 v4 v5 = some out → ∀ (H : Heap) (locs : List Loc) (ls : Array Slot), bl_V g s σ H locs → lv_has ls 7 [(0, .ref (bl_ad g v0)), (1, .int v1), (2, .int v2), (3, .int v3), (4, .int v4), (5, .int v5)] → W p l e (bl_rm 4 103) s m as.toArray below meth c H locs 0 0 (bl_Ql below g s as out) (F0 m 63 ls []) := by
  induction n with
  | zero =>
    intro σ v0 v1 v2 v3 v4 v5 hv0 hf H locs ls V hl
    cases hf
  | succ n ih => exact w_X10_shared_63 X hr k54 hk54 _ ih
set_option maxHeartbeats 4000000 in
set_option maxRecDepth 100000 in
theorem w_X10_shared_54 {p : Program} {l : Launch} {e : Env} {s : State} {m : MethodId} {below : List Frame} {meth : Method} {c : Code} {g : bl_Gp} {as : List Value} {out : Int64 × bl_St} (X : bl_Cx g p s m as.toArray meth c cX10_shared 7 RX10) (hr : meth.sig.returnType = (Option.some Jvm.ClassFile.FieldType.long)) (k54 : bl_St → Nat → Int32 → Int32 → Int32 → Int32 → Option (Int64 × bl_St)) (hk54 : ∀ (σ : bl_St) (v0 : Nat) (v1 : Int32) (v2 : Int32) (v3 : Int32) (v4 : Int32), bl_sh[v0]? = some (10, 28) → k54 σ v0 v1 v2 v3 v4 = some out → ∀ (H : Heap) (locs : List Loc) (ls : Array Slot), bl_V g s σ H locs → lv_has ls 7 [(0, .ref (bl_ad g v0)), (1, .int v1), (2, .int v2), (3, .int v3), (4, .int v4)] → W p l e (bl_rm 4 103) s m as.toArray below meth c H locs 0 0 (bl_Ql below g s as out) (F0 m 54 ls [])) : ∀ (σ : bl_St) (v0 : Nat) (v1 : Int32) (v2 : Int32) (v3 : Int32) (v4 : Int32), bl_sh[v0]? = some (10, 28) → (b_X10_shared_54 k54) σ v0 v1 v2 v3 v4 = some out → ∀ (H : Heap) (locs : List Loc) (ls : Array Slot), bl_V g s σ H locs → lv_has ls 7 [(0, .ref (bl_ad g v0)), (1, .int v1), (2, .int v2), (3, .int v3), (4, .int v4)] → W p l e (bl_rm 4 103) s m as.toArray below meth c H locs 0 0 (bl_Ql below g s as out) (F0 m 54 ls []) := by
  intro σ v0 v1 v2 v3 v4 hv0 hf H locs ls V hl
  unfold b_X10_shared_54 at hf
  refine lv_iload X.1 X.2.1 dX10_shared_54 (lv_at hl 4 rfl) ?_
  refine lv_iload_n X.1 X.2.1 dX10_shared_56 rfl (lv_at hl 1 rfl) ?_
  refine lv_icmp_gt (tgt := 135) X.1 X.2.1 dX10_shared_57 (by decide) (fun c18 => ?_) (fun c18 => ?_)
  · have hf := bl_ifp c18 hf
    refine lv_aload_n X.1 X.2.1 dX10_shared_135 rfl (lv_at hl 0 rfl) ?_
    refine bl_getr X V hv0 fl_X10_43 rfl dX10_shared_136 (fun h19 => ?_)
    refine lv_bipush (v := 64) X.1 X.2.1 dX10_shared_139 (by decide) ?_
    refine lv_iload_n X.1 X.2.1 dX10_shared_141 rfl (lv_at hl 1 rfl) ?_
    refine lv_imul X.1 X.2.1 dX10_shared_142 ?_
    refine lv_bipush (v := 8) X.1 X.2.1 dX10_shared_143 (by decide) ?_
    refine lv_iload_n X.1 X.2.1 dX10_shared_145 rfl (lv_at hl 2 rfl) ?_
    refine lv_imul X.1 X.2.1 dX10_shared_146 ?_
    refine lv_iadd X.1 X.2.1 dX10_shared_147 ?_
    refine lv_iload_n X.1 X.2.1 dX10_shared_148 rfl (lv_at hl 3 rfl) ?_
    refine lv_iadd X.1 X.2.1 dX10_shared_149 ?_
    obtain ⟨h20, hf⟩ := bl_gd_at hf
    refine bl_lald (k := (Int32.toNatClampNeg (((64 * v1) + (8 * v2)) + v3))) X V h19 h20 rfl dX10_shared_150 ?_
    exact bl_retl X V hr hf dX10_shared_151
  · have hf := bl_ifn c18 hf
    refine lv_iconst (v := 0) X.1 X.2.1 dX10_shared_60 (by decide) ?_
    refine lv_istore (lv' := [(5, .int 0), (0, .ref (bl_ad g v0)), (1, .int v1), (2, .int v2), (3, .int v3), (4, .int v4)]) X.1 X.2.1 dX10_shared_61 hl (by decide) rfl (fun ls hl => ?_)
    exact l_X10_shared_63 X hr k54 hk54 bl_fu σ v0 v1 v2 v3 v4 0 hv0 hf _ _ _ V (lv_sub hl [1, 2, 3, 4, 5, 0] rfl)
theorem l_X10_shared_54 {p : Program} {l : Launch} {e : Env} {s : State} {m : MethodId} {below : List Frame} {meth : Method} {c : Code} {g : bl_Gp} {as : List Value} {out : Int64 × bl_St} (X : bl_Cx g p s m as.toArray meth c cX10_shared 7 RX10) (hr : meth.sig.returnType = (Option.some Jvm.ClassFile.FieldType.long)) (n : Nat) : ∀ (σ : bl_St) (v0 : Nat) (v1 : Int32) (v2 : Int32) (v3 : Int32) (v4 : Int32), bl_sh[v0]? = some (10, 28) → (bl_fx (fun _ _ _ _ _ _ => none) (b_X10_shared_54 ) n) σ v0 v1 v2 v3 v4 = some out → ∀ (H : Heap) (locs : List Loc) (ls : Array Slot), bl_V g s σ H locs → lv_has ls 7 [(0, .ref (bl_ad g v0)), (1, .int v1), (2, .int v2), (3, .int v3), (4, .int v4)] → W p l e (bl_rm 4 103) s m as.toArray below meth c H locs 0 0 (bl_Ql below g s as out) (F0 m 54 ls []) := by
  induction n with
  | zero =>
    intro σ v0 v1 v2 v3 v4 hv0 hf H locs ls V hl
    cases hf
  | succ n ih => exact w_X10_shared_54 X hr  _ ih
set_option maxHeartbeats 4000000 in
set_option maxRecDepth 100000 in
theorem w_X10_shared_30 {p : Program} {l : Launch} {e : Env} {s : State} {m : MethodId} {below : List Frame} {meth : Method} {c : Code} {g : bl_Gp} {as : List Value} {out : Int64 × bl_St} (X : bl_Cx g p s m as.toArray meth c cX10_shared 7 RX10) (hr : meth.sig.returnType = (Option.some Jvm.ClassFile.FieldType.long)) (k30 : bl_St → Nat → Int32 → Int32 → Int32 → Int32 → Option (Int64 × bl_St)) (hk30 : ∀ (σ : bl_St) (v0 : Nat) (v1 : Int32) (v2 : Int32) (v3 : Int32) (v4 : Int32), bl_sh[v0]? = some (10, 28) → k30 σ v0 v1 v2 v3 v4 = some out → ∀ (H : Heap) (locs : List Loc) (ls : Array Slot), bl_V g s σ H locs → lv_has ls 7 [(0, .ref (bl_ad g v0)), (1, .int v1), (2, .int v2), (3, .int v3), (4, .int v4)] → W p l e (bl_rm 4 103) s m as.toArray below meth c H locs 0 0 (bl_Ql below g s as out) (F0 m 30 ls [])) : ∀ (σ : bl_St) (v0 : Nat) (v1 : Int32) (v2 : Int32) (v3 : Int32) (v4 : Int32), bl_sh[v0]? = some (10, 28) → (b_X10_shared_30 k30) σ v0 v1 v2 v3 v4 = some out → ∀ (H : Heap) (locs : List Loc) (ls : Array Slot), bl_V g s σ H locs → lv_has ls 7 [(0, .ref (bl_ad g v0)), (1, .int v1), (2, .int v2), (3, .int v3), (4, .int v4)] → W p l e (bl_rm 4 103) s m as.toArray below meth c H locs 0 0 (bl_Ql below g s as out) (F0 m 30 ls []) := by
  intro σ v0 v1 v2 v3 v4 hv0 hf H locs ls V hl
  unfold b_X10_shared_30 at hf
  refine lv_iload X.1 X.2.1 dX10_shared_30 (lv_at hl 4 rfl) ?_
  refine lv_bipush (v := 64) X.1 X.2.1 dX10_shared_32 (by decide) ?_
  refine lv_icmp_ge (tgt := 51) X.1 X.2.1 dX10_shared_34 (by decide) (fun c21 => ?_) (fun c21 => ?_)
  · have hf := bl_ifp c21 hf
    refine lv_iconst (v := 1) X.1 X.2.1 dX10_shared_51 (by decide) ?_
    refine lv_istore (lv' := [(4, .int 1), (0, .ref (bl_ad g v0)), (1, .int v1), (2, .int v2), (3, .int v3)]) X.1 X.2.1 dX10_shared_52 hl (by decide) rfl (fun ls hl => ?_)
    exact l_X10_shared_54 X hr  bl_fu σ v0 v1 v2 v3 1 hv0 hf _ _ _ V (lv_sub hl [1, 2, 3, 4, 0] rfl)
  · have hf := bl_ifn c21 hf
    refine lv_aload_n X.1 X.2.1 dX10_shared_37 rfl (lv_at hl 0 rfl) ?_
    refine bl_getr X V hv0 fl_X10_43 rfl dX10_shared_38 (fun h22 => ?_)
    refine lv_iload X.1 X.2.1 dX10_shared_41 (lv_at hl 4 rfl) ?_
    refine lv_lconst (v := 0) X.1 X.2.1 dX10_shared_43 (by decide) ?_
    obtain ⟨h23, hf⟩ := bl_gd_at hf
    refine bl_last (k := (Int32.toNatClampNeg v4)) X V h22 h23 rfl dX10_shared_44 (fun σ24 H locs e25 V => ?_)
    have hf := bl_let_at e25 hf
    obtain ⟨x26, e27⟩ : ∃ z : Int32, z = v4 + 1 := ⟨_, rfl⟩
    have hf := bl_let_at e27 hf
    refine lv_iinc (v := x26) (lv' := [(4, .int x26), (0, .ref (bl_ad g v0)), (1, .int v1), (2, .int v2), (3, .int v3)]) X.1 X.2.1 dX10_shared_45 hl (k := 4) rfl (by rw [e27]; rfl) (by decide) rfl (fun ls hl => ?_)
    refine lv_goto (tgt := 30) X.1 X.2.1 dX10_shared_48 (by decide) ?_
    exact hk30 σ24 v0 v1 v2 v3 x26 hv0 hf _ _ _ V (lv_sub hl [1, 2, 3, 4, 0] rfl)
theorem l_X10_shared_30 {p : Program} {l : Launch} {e : Env} {s : State} {m : MethodId} {below : List Frame} {meth : Method} {c : Code} {g : bl_Gp} {as : List Value} {out : Int64 × bl_St} (X : bl_Cx g p s m as.toArray meth c cX10_shared 7 RX10) (hr : meth.sig.returnType = (Option.some Jvm.ClassFile.FieldType.long)) (n : Nat) : ∀ (σ : bl_St) (v0 : Nat) (v1 : Int32) (v2 : Int32) (v3 : Int32) (v4 : Int32), bl_sh[v0]? = some (10, 28) → (bl_fx (fun _ _ _ _ _ _ => none) (b_X10_shared_30 ) n) σ v0 v1 v2 v3 v4 = some out → ∀ (H : Heap) (locs : List Loc) (ls : Array Slot), bl_V g s σ H locs → lv_has ls 7 [(0, .ref (bl_ad g v0)), (1, .int v1), (2, .int v2), (3, .int v3), (4, .int v4)] → W p l e (bl_rm 4 103) s m as.toArray below meth c H locs 0 0 (bl_Ql below g s as out) (F0 m 30 ls []) := by
  induction n with
  | zero =>
    intro σ v0 v1 v2 v3 v4 hv0 hf H locs ls V hl
    cases hf
  | succ n ih => exact w_X10_shared_30 X hr  _ ih
set_option maxHeartbeats 4000000 in
set_option maxRecDepth 100000 in
theorem t_X10_shared (l : Launch) (g : bl_Gp) (σ : bl_St) (a0 : Nat) (a1 : Int32) (a2 : Int32) (a3 : Int32) (o : Int64 × bl_St) (ha0 : bl_sh[a0]? = some (10, 28)) (hf : f_X10_shared σ a0 a1 a2 a3 = some o) : bl_Cl l g yX10_shared cX10_shared 7 (Option.some Jvm.ClassFile.FieldType.long) (bl_rm 4 103) [.ref (bl_ad g a0), .int a1, .int a2, .int a3] σ o := by
  refine bl_met (by decide) (Nat.le_of_ble_eq_true rfl) (fun p e s m below meth c ls X hr V hl => ?_)
  have hl : lv_has ls 7 [(0, .ref (bl_ad g a0)), (1, .int a1), (2, .int a2), (3, .int a3)] := hl
  unfold f_X10_shared at hf
  refine lv_iload_n X.1 X.2.1 dX10_shared_0 rfl (lv_at hl 1 rfl) ?_
  obtain ⟨r28, σ29, h30, hf⟩ := bl_bd_at hf
  refine bl_cSi (As := [.int a1]) X V hl.1 ml_X10_227 mS_X10_areYears (t_X10_areYears l g σ a1 _  h30) rfl rfl ⟨Nat.le_of_ble_eq_true rfl, Nat.le_of_ble_eq_true rfl⟩ rfl rfl (Nat.le_of_ble_eq_true rfl) ⟨Nat.zero_le _, Nat.zero_le _⟩ dX10_shared_1 (fun H locs V => ?_)
  refine lv_if_eq (tgt := 23) X.1 X.2.1 dX10_shared_4 (by decide) (fun c31 => ?_) (fun c31 => ?_)
  · have hf := bl_ifp c31 hf
    refine lv_ldc2 (v := (-1)) X.1 X.2.1 X.2.2.2.1 (X.2.2.2.2.1 _ kl_X10_233) dX10_shared_23 ?_
    exact bl_retl X V hr hf dX10_shared_26
  · have hf := bl_ifn c31 hf
    refine lv_aload_n X.1 X.2.1 dX10_shared_7 rfl (lv_at hl 0 rfl) ?_
    refine lv_iload_n X.1 X.2.1 dX10_shared_8 rfl (lv_at hl 2 rfl) ?_
    obtain ⟨r32, σ33, h34, hf⟩ := bl_bd_at hf
    refine bl_cVi (As := [.int a2]) X V hl.1 ha0 rfl ml_X10_84 mV_X10_isClass (t_X10_isClass l g σ29 a0 a2 _ ha0 h34) rfl rfl ⟨Nat.le_of_ble_eq_true rfl, Nat.le_of_ble_eq_true rfl⟩ rfl rfl (Nat.le_of_ble_eq_true rfl) ⟨Nat.zero_le _, Nat.zero_le _⟩ dX10_shared_9 (fun H locs V => ?_)
    refine lv_if_eq (tgt := 23) X.1 X.2.1 dX10_shared_12 (by decide) (fun c35 => ?_) (fun c35 => ?_)
    · have hf := bl_ifp c35 hf
      refine lv_ldc2 (v := (-1)) X.1 X.2.1 X.2.2.2.1 (X.2.2.2.2.1 _ kl_X10_233) dX10_shared_23 ?_
      exact bl_retl X V hr hf dX10_shared_26
    · have hf := bl_ifn c35 hf
      refine lv_aload_n X.1 X.2.1 dX10_shared_15 rfl (lv_at hl 0 rfl) ?_
      refine lv_iload_n X.1 X.2.1 dX10_shared_16 rfl (lv_at hl 3 rfl) ?_
      obtain ⟨r36, σ37, h38, hf⟩ := bl_bd_at hf
      refine bl_cVi (As := [.int a3]) X V hl.1 ha0 rfl ml_X10_84 mV_X10_isClass (t_X10_isClass l g σ33 a0 a3 _ ha0 h38) rfl rfl ⟨Nat.le_of_ble_eq_true rfl, Nat.le_of_ble_eq_true rfl⟩ rfl rfl (Nat.le_of_ble_eq_true rfl) ⟨Nat.zero_le _, Nat.zero_le _⟩ dX10_shared_17 (fun H locs V => ?_)
      refine lv_if_ne (tgt := 27) X.1 X.2.1 dX10_shared_20 (by decide) (fun c39 => ?_) (fun c39 => ?_)
      · have hf := bl_ifn c39 hf
        refine lv_iconst (v := 0) X.1 X.2.1 dX10_shared_27 (by decide) ?_
        refine lv_istore (lv' := [(4, .int 0), (0, .ref (bl_ad g a0)), (1, .int a1), (2, .int a2), (3, .int a3)]) X.1 X.2.1 dX10_shared_28 hl (by decide) rfl (fun ls hl => ?_)
        exact l_X10_shared_30 X hr  bl_fu σ37 a0 a1 a2 a3 0 ha0 hf _ _ _ V (lv_sub hl [1, 2, 3, 4, 0] rfl)
      · have hf := bl_ifp c39 hf
        refine lv_ldc2 (v := (-1)) X.1 X.2.1 X.2.2.2.1 (X.2.2.2.2.1 _ kl_X10_233) dX10_shared_23 ?_
        exact bl_retl X V hr hf dX10_shared_26
set_option maxHeartbeats 4000000 in
set_option maxRecDepth 100000 in
theorem t_X10_joinedCost (l : Launch) (g : bl_Gp) (σ : bl_St) (a0 : Nat) (a1 : Int32) (a2 : Int32) (a3 : Int32) (a4 : Int32) (o : Int64 × bl_St) (ha0 : bl_sh[a0]? = some (10, 28)) (hf : f_X10_joinedCost σ a0 a1 a2 a3 a4 = some o) : bl_Cl l g yX10_joinedCost cX10_joinedCost 5 (Option.some Jvm.ClassFile.FieldType.long) (bl_rm 7 184) [.ref (bl_ad g a0), .int a1, .int a2, .int a3, .int a4] σ o := by
  refine bl_met (by decide) (Nat.le_of_ble_eq_true rfl) (fun p e s m below meth c ls X hr V hl => ?_)
  have hl : lv_has ls 5 [(0, .ref (bl_ad g a0)), (1, .int a1), (2, .int a2), (3, .int a3), (4, .int a4)] := hl
  unfold f_X10_joinedCost at hf
  refine lv_aload_n X.1 X.2.1 dX10_joinedCost_0 rfl (lv_at hl 0 rfl) ?_
  refine lv_iconst (v := 0) X.1 X.2.1 dX10_joinedCost_1 (by decide) ?_
  refine bl_puti X V ha0 fp_X10_191 rfl rfl dX10_joinedCost_2 (fun σ1 H locs e2 V => ?_)
  have hf := bl_let_at e2 hf
  refine lv_aload_n X.1 X.2.1 dX10_joinedCost_5 rfl (lv_at hl 0 rfl) ?_
  refine lv_iconst (v := 0) X.1 X.2.1 dX10_joinedCost_6 (by decide) ?_
  refine bl_puti X V ha0 fp_X10_197 rfl rfl dX10_joinedCost_7 (fun σ3 H locs e4 V => ?_)
  have hf := bl_let_at e4 hf
  refine lv_aload_n X.1 X.2.1 dX10_joinedCost_10 rfl (lv_at hl 0 rfl) ?_
  refine lv_iload_n X.1 X.2.1 dX10_joinedCost_11 rfl (lv_at hl 1 rfl) ?_
  refine lv_iconst (v := 0) X.1 X.2.1 dX10_joinedCost_12 (by decide) ?_
  refine lv_iconst (v := 2) X.1 X.2.1 dX10_joinedCost_13 (by decide) ?_
  refine lv_aload_n X.1 X.2.1 dX10_joinedCost_14 rfl (lv_at hl 0 rfl) ?_
  refine bl_getr X V ha0 fl_X10_13 rfl dX10_joinedCost_15 (fun h5 => ?_)
  refine lv_iconst (v := 2) X.1 X.2.1 dX10_joinedCost_18 (by decide) ?_
  refine bl_iald (k := 2) X V h5 (by decide) (by decide) dX10_joinedCost_19 ?_
  refine lv_imul X.1 X.2.1 dX10_joinedCost_20 ?_
  refine lv_iconst (v := 2) X.1 X.2.1 dX10_joinedCost_21 (by decide) ?_
  refine lv_iload X.1 X.2.1 dX10_joinedCost_22 (lv_at hl 4 rfl) ?_
  obtain ⟨r6, σ7, h8, hf⟩ := bl_bd_at hf
  refine bl_cVv (As := [.int a1, .int 0, .int (2 * (bl_I σ3 (bl_R σ3 a0 1) 2)), .int 2, .int a4]) X V hl.1 ha0 rfl ml_X10_223 mV_X10_laysYears (t_X10_laysYears l g σ3 a0 a1 0 (2 * (bl_I σ3 (bl_R σ3 a0 1) 2)) 2 a4 _ ha0 h8) rfl rfl ⟨Nat.le_of_ble_eq_true rfl, Nat.le_of_ble_eq_true rfl⟩ rfl rfl (Nat.le_of_ble_eq_true rfl) ⟨Nat.zero_le _, Nat.zero_le _⟩ dX10_joinedCost_24 (fun H locs V => ?_)
  refine lv_aload_n X.1 X.2.1 dX10_joinedCost_27 rfl (lv_at hl 0 rfl) ?_
  refine lv_iload_n X.1 X.2.1 dX10_joinedCost_28 rfl (lv_at hl 1 rfl) ?_
  refine lv_aload_n X.1 X.2.1 dX10_joinedCost_29 rfl (lv_at hl 0 rfl) ?_
  refine lv_iload_n X.1 X.2.1 dX10_joinedCost_30 rfl (lv_at hl 3 rfl) ?_
  refine lv_iconst (v := 0) X.1 X.2.1 dX10_joinedCost_31 (by decide) ?_
  obtain ⟨r9, σ10, h11, hf⟩ := bl_bd_at hf
  refine bl_cVi (As := [.int a3, .int 0]) X V hl.1 ha0 rfl ml_X10_74 mV_X10_ofClass (t_X10_ofClass l g σ7 a0 a3 0 _ ha0 h11) rfl rfl ⟨Nat.le_of_ble_eq_true rfl, Nat.le_of_ble_eq_true rfl⟩ rfl rfl (Nat.le_of_ble_eq_true rfl) ⟨Nat.zero_le _, Nat.zero_le _⟩ dX10_joinedCost_32 (fun H locs V => ?_)
  refine lv_aload_n X.1 X.2.1 dX10_joinedCost_35 rfl (lv_at hl 0 rfl) ?_
  refine lv_iload_n X.1 X.2.1 dX10_joinedCost_36 rfl (lv_at hl 2 rfl) ?_
  refine lv_iconst (v := 0) X.1 X.2.1 dX10_joinedCost_37 (by decide) ?_
  obtain ⟨r12, σ13, h14, hf⟩ := bl_bd_at hf
  refine bl_cVi (As := [.int a2, .int 0]) X V hl.1 ha0 rfl ml_X10_74 mV_X10_ofClass (t_X10_ofClass l g σ10 a0 a2 0 _ ha0 h14) rfl rfl ⟨Nat.le_of_ble_eq_true rfl, Nat.le_of_ble_eq_true rfl⟩ rfl rfl (Nat.le_of_ble_eq_true rfl) ⟨Nat.zero_le _, Nat.zero_le _⟩ dX10_joinedCost_38 (fun H locs V => ?_)
  refine lv_icmp_le (tgt := 48) X.1 X.2.1 dX10_joinedCost_41 (by decide) (fun c15 => ?_) (fun c15 => ?_)
  · have hf := bl_ifp c15 hf
    refine lv_iload_n X.1 X.2.1 dX10_joinedCost_48 rfl (lv_at hl 2 rfl) ?_
    obtain ⟨r16, σ17, h18, hf⟩ := bl_bd_at hf
    refine bl_cVl (As := [.int a1, .int a2]) X V hl.1 ha0 rfl ml_X10_210 mV_X10_costAt (t_X10_costAt l g σ13 a0 a1 a2 _ ha0 h18) rfl rfl ⟨Nat.le_of_ble_eq_true rfl, Nat.le_of_ble_eq_true rfl⟩ rfl rfl (Nat.le_of_ble_eq_true rfl) ⟨Nat.zero_le _, Nat.zero_le _⟩ dX10_joinedCost_49 (fun H locs V => ?_)
    exact bl_retl X V hr hf dX10_joinedCost_52
  · have hf := bl_ifn c15 hf
    refine lv_iload_n X.1 X.2.1 dX10_joinedCost_44 rfl (lv_at hl 3 rfl) ?_
    refine lv_goto (tgt := 49) X.1 X.2.1 dX10_joinedCost_45 (by decide) ?_
    obtain ⟨r19, σ20, h21, hf⟩ := bl_bd_at hf
    refine bl_cVl (As := [.int a1, .int a3]) X V hl.1 ha0 rfl ml_X10_210 mV_X10_costAt (t_X10_costAt l g σ13 a0 a1 a3 _ ha0 h21) rfl rfl ⟨Nat.le_of_ble_eq_true rfl, Nat.le_of_ble_eq_true rfl⟩ rfl rfl (Nat.le_of_ble_eq_true rfl) ⟨Nat.zero_le _, Nat.zero_le _⟩ dX10_joinedCost_49 (fun H locs V => ?_)
    exact bl_retl X V hr hf dX10_joinedCost_52
set_option maxHeartbeats 4000000 in
set_option maxRecDepth 100000 in
theorem t_X10_joined (l : Launch) (g : bl_Gp) (σ : bl_St) (a0 : Nat) (a1 : Int32) (a2 : Int32) (a3 : Int32) (a4 : Int32) (o : Int64 × bl_St) (ha0 : bl_sh[a0]? = some (10, 28)) (hf : f_X10_joined σ a0 a1 a2 a3 a4 = some o) : bl_Cl l g yX10_joined cX10_joined 5 (Option.some Jvm.ClassFile.FieldType.long) (bl_rm 8 208) [.ref (bl_ad g a0), .int a1, .int a2, .int a3, .int a4] σ o := by
  refine bl_met (by decide) (Nat.le_of_ble_eq_true rfl) (fun p e s m below meth c ls X hr V hl => ?_)
  have hl : lv_has ls 5 [(0, .ref (bl_ad g a0)), (1, .int a1), (2, .int a2), (3, .int a3), (4, .int a4)] := hl
  unfold f_X10_joined at hf
  refine lv_iload_n X.1 X.2.1 dX10_joined_0 rfl (lv_at hl 1 rfl) ?_
  obtain ⟨r1, σ2, h3, hf⟩ := bl_bd_at hf
  refine bl_cSi (As := [.int a1]) X V hl.1 ml_X10_227 mS_X10_areYears (t_X10_areYears l g σ a1 _  h3) rfl rfl ⟨Nat.le_of_ble_eq_true rfl, Nat.le_of_ble_eq_true rfl⟩ rfl rfl (Nat.le_of_ble_eq_true rfl) ⟨Nat.zero_le _, Nat.zero_le _⟩ dX10_joined_1 (fun H locs V => ?_)
  refine lv_if_eq (tgt := 48) X.1 X.2.1 dX10_joined_4 (by decide) (fun c4 => ?_) (fun c4 => ?_)
  · have hf := bl_ifp c4 hf
    refine lv_ldc2 (v := (-1)) X.1 X.2.1 X.2.2.2.1 (X.2.2.2.2.1 _ kl_X10_233) dX10_joined_48 ?_
    exact bl_retl X V hr hf dX10_joined_51
  · have hf := bl_ifn c4 hf
    refine lv_aload_n X.1 X.2.1 dX10_joined_7 rfl (lv_at hl 0 rfl) ?_
    refine lv_iload_n X.1 X.2.1 dX10_joined_8 rfl (lv_at hl 2 rfl) ?_
    obtain ⟨r5, σ6, h7, hf⟩ := bl_bd_at hf
    refine bl_cVi (As := [.int a2]) X V hl.1 ha0 rfl ml_X10_84 mV_X10_isClass (t_X10_isClass l g σ2 a0 a2 _ ha0 h7) rfl rfl ⟨Nat.le_of_ble_eq_true rfl, Nat.le_of_ble_eq_true rfl⟩ rfl rfl (Nat.le_of_ble_eq_true rfl) ⟨Nat.zero_le _, Nat.zero_le _⟩ dX10_joined_9 (fun H locs V => ?_)
    refine lv_if_eq (tgt := 48) X.1 X.2.1 dX10_joined_12 (by decide) (fun c8 => ?_) (fun c8 => ?_)
    · have hf := bl_ifp c8 hf
      refine lv_ldc2 (v := (-1)) X.1 X.2.1 X.2.2.2.1 (X.2.2.2.2.1 _ kl_X10_233) dX10_joined_48 ?_
      exact bl_retl X V hr hf dX10_joined_51
    · have hf := bl_ifn c8 hf
      refine lv_aload_n X.1 X.2.1 dX10_joined_15 rfl (lv_at hl 0 rfl) ?_
      refine lv_iload_n X.1 X.2.1 dX10_joined_16 rfl (lv_at hl 3 rfl) ?_
      obtain ⟨r9, σ10, h11, hf⟩ := bl_bd_at hf
      refine bl_cVi (As := [.int a3]) X V hl.1 ha0 rfl ml_X10_84 mV_X10_isClass (t_X10_isClass l g σ6 a0 a3 _ ha0 h11) rfl rfl ⟨Nat.le_of_ble_eq_true rfl, Nat.le_of_ble_eq_true rfl⟩ rfl rfl (Nat.le_of_ble_eq_true rfl) ⟨Nat.zero_le _, Nat.zero_le _⟩ dX10_joined_17 (fun H locs V => ?_)
      refine lv_if_eq (tgt := 48) X.1 X.2.1 dX10_joined_20 (by decide) (fun c12 => ?_) (fun c12 => ?_)
      · have hf := bl_ifp c12 hf
        refine lv_ldc2 (v := (-1)) X.1 X.2.1 X.2.2.2.1 (X.2.2.2.2.1 _ kl_X10_233) dX10_joined_48 ?_
        exact bl_retl X V hr hf dX10_joined_51
      · have hf := bl_ifn c12 hf
        refine lv_iload X.1 X.2.1 dX10_joined_23 (lv_at hl 4 rfl) ?_
        refine lv_i2l X.1 X.2.1 dX10_joined_25 rfl ?_
        refine lv_lconst (v := 0) X.1 X.2.1 dX10_joined_26 (by decide) ?_
        refine lv_ldc2 (v := 50) X.1 X.2.1 X.2.2.2.1 (X.2.2.2.2.1 _ kl_X10_273) dX10_joined_27 ?_
        obtain ⟨r13, σ14, h15, hf⟩ := bl_bd_at hf
        refine bl_cSi (As := [.long (Int32.toInt64 a4), .long 0, .long 50]) X V hl.1 ml_X10_66 mS_X10_in (t_X10_in l g σ10 (Int32.toInt64 a4) 0 50 _  h15) rfl rfl ⟨Nat.le_of_ble_eq_true rfl, Nat.le_of_ble_eq_true rfl⟩ rfl rfl (Nat.le_of_ble_eq_true rfl) ⟨Nat.zero_le _, Nat.zero_le _⟩ dX10_joined_30 (fun H locs V => ?_)
        refine lv_if_eq (tgt := 48) X.1 X.2.1 dX10_joined_33 (by decide) (fun c16 => ?_) (fun c16 => ?_)
        · have hf := bl_ifp c16 hf
          refine lv_ldc2 (v := (-1)) X.1 X.2.1 X.2.2.2.1 (X.2.2.2.2.1 _ kl_X10_233) dX10_joined_48 ?_
          exact bl_retl X V hr hf dX10_joined_51
        · have hf := bl_ifn c16 hf
          refine lv_aload_n X.1 X.2.1 dX10_joined_36 rfl (lv_at hl 0 rfl) ?_
          refine lv_iload_n X.1 X.2.1 dX10_joined_37 rfl (lv_at hl 1 rfl) ?_
          refine lv_iload_n X.1 X.2.1 dX10_joined_38 rfl (lv_at hl 2 rfl) ?_
          refine lv_iload_n X.1 X.2.1 dX10_joined_39 rfl (lv_at hl 3 rfl) ?_
          refine lv_iload X.1 X.2.1 dX10_joined_40 (lv_at hl 4 rfl) ?_
          obtain ⟨r17, σ18, h19, hf⟩ := bl_bd_at hf
          refine bl_cVl (As := [.int a1, .int a2, .int a3, .int a4]) X V hl.1 ha0 rfl ml_X10_275 mV_X10_joinedCost (t_X10_joinedCost l g σ14 a0 a1 a2 a3 a4 _ ha0 h19) rfl rfl ⟨Nat.le_of_ble_eq_true rfl, Nat.le_of_ble_eq_true rfl⟩ rfl rfl (Nat.le_of_ble_eq_true rfl) ⟨Nat.zero_le _, Nat.zero_le _⟩ dX10_joined_42 (fun H locs V => ?_)
          refine lv_goto (tgt := 51) X.1 X.2.1 dX10_joined_45 (by decide) ?_
          exact bl_retl X V hr hf dX10_joined_51
set_option maxHeartbeats 4000000 in
set_option maxRecDepth 100000 in
theorem w_X10_rebate_43 {p : Program} {l : Launch} {e : Env} {s : State} {m : MethodId} {below : List Frame} {meth : Method} {c : Code} {g : bl_Gp} {as : List Value} {out : Int32 × bl_St} (X : bl_Cx g p s m as.toArray meth c cX10_rebate 7 RX10) (hr : meth.sig.returnType = (Option.some Jvm.ClassFile.FieldType.int)) (k43 : bl_St → Nat → Int32 → Int32 → Int32 → Int64 → Int32 → Option (Int32 × bl_St)) (hk43 : ∀ (σ : bl_St) (v0 : Nat) (v1 : Int32) (v2 : Int32) (v3 : Int32) (v4 : Int64) (v6 : Int32), bl_sh[v0]? = some (10, 28) → k43 σ v0 v1 v2 v3 v4 v6 = some out → ∀ (H : Heap) (locs : List Loc) (ls : Array Slot), bl_V g s σ H locs → lv_has ls 7 [(0, .ref (bl_ad g v0)), (1, .int v1), (2, .int v2), (3, .int v3), (4, .long v4), (6, .int v6)] → W p l e (bl_rm 9 230) s m as.toArray below meth c H locs 0 0 (bl_Qi below g s as out) (F0 m 43 ls [])) : ∀ (σ : bl_St) (v0 : Nat) (v1 : Int32) (v2 : Int32) (v3 : Int32) (v4 : Int64) (v6 : Int32), bl_sh[v0]? = some (10, 28) → (b_X10_rebate_43 k43) σ v0 v1 v2 v3 v4 v6 = some out → ∀ (H : Heap) (locs : List Loc) (ls : Array Slot), bl_V g s σ H locs → lv_has ls 7 [(0, .ref (bl_ad g v0)), (1, .int v1), (2, .int v2), (3, .int v3), (4, .long v4), (6, .int v6)] → W p l e (bl_rm 9 230) s m as.toArray below meth c H locs 0 0 (bl_Qi below g s as out) (F0 m 43 ls []) := by
  intro σ v0 v1 v2 v3 v4 v6 hv0 hf H locs ls V hl
  unfold b_X10_rebate_43 at hf
  refine lv_iload X.1 X.2.1 dX10_rebate_43 (lv_at hl 5 rfl) ?_
  refine lv_bipush (v := 50) X.1 X.2.1 dX10_rebate_45 (by decide) ?_
  refine lv_icmp_gt (tgt := 74) X.1 X.2.1 dX10_rebate_47 (by decide) (fun c1 => ?_) (fun c1 => ?_)
  · have hf := bl_ifp c1 hf
    refine lv_bipush (v := (-2)) X.1 X.2.1 dX10_rebate_74 (by decide) ?_
    exact bl_reti X V hr hf dX10_rebate_76
  · have hf := bl_ifn c1 hf
    refine lv_aload_n X.1 X.2.1 dX10_rebate_50 rfl (lv_at hl 0 rfl) ?_
    refine lv_iload_n X.1 X.2.1 dX10_rebate_51 rfl (lv_at hl 1 rfl) ?_
    refine lv_iload_n X.1 X.2.1 dX10_rebate_52 rfl (lv_at hl 2 rfl) ?_
    refine lv_iload_n X.1 X.2.1 dX10_rebate_53 rfl (lv_at hl 3 rfl) ?_
    refine lv_iload X.1 X.2.1 dX10_rebate_54 (lv_at hl 5 rfl) ?_
    obtain ⟨r2, σ3, h4, hf⟩ := bl_bd_at hf
    refine bl_cVl (As := [.int v1, .int v2, .int v3, .int v6]) X V hl.1 hv0 rfl ml_X10_275 mV_X10_joinedCost (t_X10_joinedCost l g σ v0 v1 v2 v3 v6 _ hv0 h4) rfl rfl ⟨Nat.le_of_ble_eq_true rfl, Nat.le_of_ble_eq_true rfl⟩ rfl rfl (Nat.le_of_ble_eq_true rfl) ⟨Nat.zero_le _, Nat.zero_le _⟩ dX10_rebate_56 (fun H locs V => ?_)
    refine lv_lload X.1 X.2.1 dX10_rebate_59 (lv_at hl 4 rfl) ?_
    refine bl_lc_ge (tgt := 68) X dX10_rebate_61 dX10_rebate_62 (by decide) (fun c5 => ?_) (fun c5 => ?_)
    · have hf := bl_ifp c5 hf
      obtain ⟨x6, e7⟩ : ∃ z : Int32, z = v6 + 1 := ⟨_, rfl⟩
      have hf := bl_let_at e7 hf
      refine lv_iinc (v := x6) (lv' := [(6, .int x6), (0, .ref (bl_ad g v0)), (1, .int v1), (2, .int v2), (3, .int v3), (4, .long v4)]) X.1 X.2.1 dX10_rebate_68 hl (k := 5) rfl (by rw [e7]; rfl) (by decide) rfl (fun ls hl => ?_)
      refine lv_goto (tgt := 43) X.1 X.2.1 dX10_rebate_71 (by decide) ?_
      exact hk43 σ3 v0 v1 v2 v3 v4 x6 hv0 hf _ _ _ V (lv_sub hl [1, 2, 3, 4, 5, 0] rfl)
    · have hf := bl_ifn c5 hf
      refine lv_iload X.1 X.2.1 dX10_rebate_65 (lv_at hl 5 rfl) ?_
      exact bl_reti X V hr hf dX10_rebate_67
theorem l_X10_rebate_43 {p : Program} {l : Launch} {e : Env} {s : State} {m : MethodId} {below : List Frame} {meth : Method} {c : Code} {g : bl_Gp} {as : List Value} {out : Int32 × bl_St} (X : bl_Cx g p s m as.toArray meth c cX10_rebate 7 RX10) (hr : meth.sig.returnType = (Option.some Jvm.ClassFile.FieldType.int)) (n : Nat) : ∀ (σ : bl_St) (v0 : Nat) (v1 : Int32) (v2 : Int32) (v3 : Int32) (v4 : Int64) (v6 : Int32), bl_sh[v0]? = some (10, 28) → (bl_fx (fun _ _ _ _ _ _ _ => none) (b_X10_rebate_43 ) n) σ v0 v1 v2 v3 v4 v6 = some out → ∀ (H : Heap) (locs : List Loc) (ls : Array Slot), bl_V g s σ H locs → lv_has ls 7 [(0, .ref (bl_ad g v0)), (1, .int v1), (2, .int v2), (3, .int v3), (4, .long v4), (6, .int v6)] → W p l e (bl_rm 9 230) s m as.toArray below meth c H locs 0 0 (bl_Qi below g s as out) (F0 m 43 ls []) := by
  induction n with
  | zero =>
    intro σ v0 v1 v2 v3 v4 v6 hv0 hf H locs ls V hl
    cases hf
  | succ n ih => exact w_X10_rebate_43 X hr  _ ih
set_option maxHeartbeats 4000000 in
set_option maxRecDepth 100000 in
theorem t_X10_rebate (l : Launch) (g : bl_Gp) (σ : bl_St) (a0 : Nat) (a1 : Int32) (a2 : Int32) (a3 : Int32) (o : Int32 × bl_St) (ha0 : bl_sh[a0]? = some (10, 28)) (hf : f_X10_rebate σ a0 a1 a2 a3 = some o) : bl_Ci l g yX10_rebate cX10_rebate 7 (Option.some Jvm.ClassFile.FieldType.int) (bl_rm 9 230) [.ref (bl_ad g a0), .int a1, .int a2, .int a3] σ o := by
  refine bl_met (by decide) (Nat.le_of_ble_eq_true rfl) (fun p e s m below meth c ls X hr V hl => ?_)
  have hl : lv_has ls 7 [(0, .ref (bl_ad g a0)), (1, .int a1), (2, .int a2), (3, .int a3)] := hl
  unfold f_X10_rebate at hf
  refine lv_iload_n X.1 X.2.1 dX10_rebate_0 rfl (lv_at hl 1 rfl) ?_
  obtain ⟨r8, σ9, h10, hf⟩ := bl_bd_at hf
  refine bl_cSi (As := [.int a1]) X V hl.1 ml_X10_227 mS_X10_areYears (t_X10_areYears l g σ a1 _  h10) rfl rfl ⟨Nat.le_of_ble_eq_true rfl, Nat.le_of_ble_eq_true rfl⟩ rfl rfl (Nat.le_of_ble_eq_true rfl) ⟨Nat.zero_le _, Nat.zero_le _⟩ dX10_rebate_1 (fun H locs V => ?_)
  refine lv_if_eq (tgt := 23) X.1 X.2.1 dX10_rebate_4 (by decide) (fun c11 => ?_) (fun c11 => ?_)
  · have hf := bl_ifp c11 hf
    refine lv_iconst (v := (-1)) X.1 X.2.1 dX10_rebate_23 (by decide) ?_
    exact bl_reti X V hr hf dX10_rebate_24
  · have hf := bl_ifn c11 hf
    refine lv_aload_n X.1 X.2.1 dX10_rebate_7 rfl (lv_at hl 0 rfl) ?_
    refine lv_iload_n X.1 X.2.1 dX10_rebate_8 rfl (lv_at hl 2 rfl) ?_
    obtain ⟨r12, σ13, h14, hf⟩ := bl_bd_at hf
    refine bl_cVi (As := [.int a2]) X V hl.1 ha0 rfl ml_X10_84 mV_X10_isClass (t_X10_isClass l g σ9 a0 a2 _ ha0 h14) rfl rfl ⟨Nat.le_of_ble_eq_true rfl, Nat.le_of_ble_eq_true rfl⟩ rfl rfl (Nat.le_of_ble_eq_true rfl) ⟨Nat.zero_le _, Nat.zero_le _⟩ dX10_rebate_9 (fun H locs V => ?_)
    refine lv_if_eq (tgt := 23) X.1 X.2.1 dX10_rebate_12 (by decide) (fun c15 => ?_) (fun c15 => ?_)
    · have hf := bl_ifp c15 hf
      refine lv_iconst (v := (-1)) X.1 X.2.1 dX10_rebate_23 (by decide) ?_
      exact bl_reti X V hr hf dX10_rebate_24
    · have hf := bl_ifn c15 hf
      refine lv_aload_n X.1 X.2.1 dX10_rebate_15 rfl (lv_at hl 0 rfl) ?_
      refine lv_iload_n X.1 X.2.1 dX10_rebate_16 rfl (lv_at hl 3 rfl) ?_
      obtain ⟨r16, σ17, h18, hf⟩ := bl_bd_at hf
      refine bl_cVi (As := [.int a3]) X V hl.1 ha0 rfl ml_X10_84 mV_X10_isClass (t_X10_isClass l g σ13 a0 a3 _ ha0 h18) rfl rfl ⟨Nat.le_of_ble_eq_true rfl, Nat.le_of_ble_eq_true rfl⟩ rfl rfl (Nat.le_of_ble_eq_true rfl) ⟨Nat.zero_le _, Nat.zero_le _⟩ dX10_rebate_17 (fun H locs V => ?_)
      refine lv_if_ne (tgt := 25) X.1 X.2.1 dX10_rebate_20 (by decide) (fun c19 => ?_) (fun c19 => ?_)
      · have hf := bl_ifn c19 hf
        refine lv_aload_n X.1 X.2.1 dX10_rebate_25 rfl (lv_at hl 0 rfl) ?_
        refine lv_iload_n X.1 X.2.1 dX10_rebate_26 rfl (lv_at hl 1 rfl) ?_
        refine lv_iload_n X.1 X.2.1 dX10_rebate_27 rfl (lv_at hl 2 rfl) ?_
        obtain ⟨r20, σ21, h22, hf⟩ := bl_bd_at hf
        refine bl_cVl (As := [.int a1, .int a2]) X V hl.1 ha0 rfl ml_X10_244 mV_X10_bareCost (t_X10_bareCost l g σ17 a0 a1 a2 _ ha0 h22) rfl rfl ⟨Nat.le_of_ble_eq_true rfl, Nat.le_of_ble_eq_true rfl⟩ rfl rfl (Nat.le_of_ble_eq_true rfl) ⟨Nat.zero_le _, Nat.zero_le _⟩ dX10_rebate_28 (fun H locs V => ?_)
        refine lv_aload_n X.1 X.2.1 dX10_rebate_31 rfl (lv_at hl 0 rfl) ?_
        refine lv_iload_n X.1 X.2.1 dX10_rebate_32 rfl (lv_at hl 1 rfl) ?_
        refine lv_iload_n X.1 X.2.1 dX10_rebate_33 rfl (lv_at hl 3 rfl) ?_
        obtain ⟨r23, σ24, h25, hf⟩ := bl_bd_at hf
        refine bl_cVl (As := [.int a1, .int a3]) X V hl.1 ha0 rfl ml_X10_244 mV_X10_bareCost (t_X10_bareCost l g σ21 a0 a1 a3 _ ha0 h25) rfl rfl ⟨Nat.le_of_ble_eq_true rfl, Nat.le_of_ble_eq_true rfl⟩ rfl rfl (Nat.le_of_ble_eq_true rfl) ⟨Nat.zero_le _, Nat.zero_le _⟩ dX10_rebate_34 (fun H locs V => ?_)
        refine lv_ladd X.1 X.2.1 dX10_rebate_37 ?_
        refine lv_topl (fun x26 e27 => ?_)
        have hf := bl_let_at e27 hf
        refine lv_lstore (lv' := [(4, .long x26), (0, .ref (bl_ad g a0)), (1, .int a1), (2, .int a2), (3, .int a3)]) X.1 X.2.1 dX10_rebate_38 hl (by decide) rfl (fun ls hl => ?_)
        refine lv_iconst (v := 0) X.1 X.2.1 dX10_rebate_40 (by decide) ?_
        refine lv_istore (lv' := [(6, .int 0), (4, .long x26), (0, .ref (bl_ad g a0)), (1, .int a1), (2, .int a2), (3, .int a3)]) X.1 X.2.1 dX10_rebate_41 hl (by decide) rfl (fun ls hl => ?_)
        exact l_X10_rebate_43 X hr  bl_fu σ24 a0 a1 a2 a3 x26 0 ha0 hf _ _ _ V (lv_sub hl [2, 3, 4, 5, 1, 0] rfl)
      · have hf := bl_ifp c19 hf
        refine lv_iconst (v := (-1)) X.1 X.2.1 dX10_rebate_23 (by decide) ?_
        exact bl_reti X V hr hf dX10_rebate_24
set_option maxHeartbeats 4000000 in
set_option maxRecDepth 100000 in
theorem t_X10_advice (l : Launch) (g : bl_Gp) (σ : bl_St) (a0 : Nat) (a1 : Int32) (a2 : Int32) (o : Int32 × bl_St) (ha0 : bl_sh[a0]? = some (10, 28)) (hf : f_X10_advice σ a0 a1 a2 = some o) : bl_Ci l g yX10_advice cX10_advice 3 (Option.some Jvm.ClassFile.FieldType.int) (bl_rm 8 208) [.ref (bl_ad g a0), .int a1, .int a2] σ o := by
  refine bl_met (by decide) (Nat.le_of_ble_eq_true rfl) (fun p e s m below meth c ls X hr V hl => ?_)
  have hl : lv_has ls 3 [(0, .ref (bl_ad g a0)), (1, .int a1), (2, .int a2)] := hl
  unfold f_X10_advice at hf
  refine lv_aload_n X.1 X.2.1 dX10_advice_0 rfl (lv_at hl 0 rfl) ?_
  refine bl_getr X V ha0 fl_X10_13 rfl dX10_advice_1 (fun h1 => ?_)
  refine lv_bipush (v := 56) X.1 X.2.1 dX10_advice_4 (by decide) ?_
  refine bl_iald (k := 56) X V h1 (by decide) (by decide) dX10_advice_6 ?_
  refine lv_if_eq (tgt := 30) X.1 X.2.1 dX10_advice_7 (by decide) (fun c2 => ?_) (fun c2 => ?_)
  · have hf := bl_ifp c2 hf
    refine lv_iconst (v := (-1)) X.1 X.2.1 dX10_advice_30 (by decide) ?_
    exact bl_reti X V hr hf dX10_advice_31
  · have hf := bl_ifn c2 hf
    refine lv_iload_n X.1 X.2.1 dX10_advice_10 rfl (lv_at hl 1 rfl) ?_
    refine lv_i2l X.1 X.2.1 dX10_advice_11 rfl ?_
    refine lv_lconst (v := 1) X.1 X.2.1 dX10_advice_12 (by decide) ?_
    refine lv_ldc2 (v := 20) X.1 X.2.1 X.2.2.2.1 (X.2.2.2.2.1 _ kl_X10_163) dX10_advice_13 ?_
    obtain ⟨r3, σ4, h5, hf⟩ := bl_bd_at hf
    refine bl_cSi (As := [.long (Int32.toInt64 a1), .long 1, .long 20]) X V hl.1 ml_X10_66 mS_X10_in (t_X10_in l g σ (Int32.toInt64 a1) 1 20 _  h5) rfl rfl ⟨Nat.le_of_ble_eq_true rfl, Nat.le_of_ble_eq_true rfl⟩ rfl rfl (Nat.le_of_ble_eq_true rfl) ⟨Nat.zero_le _, Nat.zero_le _⟩ dX10_advice_16 (fun H locs V => ?_)
    refine lv_if_eq (tgt := 30) X.1 X.2.1 dX10_advice_19 (by decide) (fun c6 => ?_) (fun c6 => ?_)
    · have hf := bl_ifp c6 hf
      refine lv_iconst (v := (-1)) X.1 X.2.1 dX10_advice_30 (by decide) ?_
      exact bl_reti X V hr hf dX10_advice_31
    · have hf := bl_ifn c6 hf
      refine lv_aload_n X.1 X.2.1 dX10_advice_22 rfl (lv_at hl 0 rfl) ?_
      refine lv_iload_n X.1 X.2.1 dX10_advice_23 rfl (lv_at hl 2 rfl) ?_
      obtain ⟨r7, σ8, h9, hf⟩ := bl_bd_at hf
      refine bl_cVi (As := [.int a2]) X V hl.1 ha0 rfl ml_X10_93 mV_X10_isSort (t_X10_isSort l g σ4 a0 a2 _ ha0 h9) rfl rfl ⟨Nat.le_of_ble_eq_true rfl, Nat.le_of_ble_eq_true rfl⟩ rfl rfl (Nat.le_of_ble_eq_true rfl) ⟨Nat.zero_le _, Nat.zero_le _⟩ dX10_advice_24 (fun H locs V => ?_)
      refine lv_if_ne (tgt := 32) X.1 X.2.1 dX10_advice_27 (by decide) (fun c10 => ?_) (fun c10 => ?_)
      · have hf := bl_ifn c10 hf
        refine lv_aload_n X.1 X.2.1 dX10_advice_32 rfl (lv_at hl 0 rfl) ?_
        refine lv_iload_n X.1 X.2.1 dX10_advice_33 rfl (lv_at hl 1 rfl) ?_
        refine lv_iconst (v := 1) X.1 X.2.1 dX10_advice_34 (by decide) ?_
        refine lv_iconst (v := 0) X.1 X.2.1 dX10_advice_35 (by decide) ?_
        refine lv_iconst (v := 0) X.1 X.2.1 dX10_advice_36 (by decide) ?_
        obtain ⟨r11, σ12, h13, hf⟩ := bl_bd_at hf
        refine bl_cVv (As := [.int a1, .int 1, .int 0, .int 0]) X V hl.1 ha0 rfl ml_X10_142 mV_X10_lays (t_X10_lays l g σ8 a0 a1 1 0 0 _ ha0 h13) rfl rfl ⟨Nat.le_of_ble_eq_true rfl, Nat.le_of_ble_eq_true rfl⟩ rfl rfl (Nat.le_of_ble_eq_true rfl) ⟨Nat.zero_le _, Nat.zero_le _⟩ dX10_advice_37 (fun H locs V => ?_)
        refine lv_aload_n X.1 X.2.1 dX10_advice_40 rfl (lv_at hl 0 rfl) ?_
        refine lv_iload_n X.1 X.2.1 dX10_advice_41 rfl (lv_at hl 1 rfl) ?_
        refine lv_aload_n X.1 X.2.1 dX10_advice_42 rfl (lv_at hl 0 rfl) ?_
        refine bl_getr X V ha0 fl_X10_13 rfl dX10_advice_43 (fun h14 => ?_)
        refine lv_bipush (v := 55) X.1 X.2.1 dX10_advice_46 (by decide) ?_
        refine bl_iald (k := 55) X V h14 (by decide) (by decide) dX10_advice_48 ?_
        obtain ⟨r15, σ16, h17, hf⟩ := bl_bd_at hf
        refine bl_cVv (As := [.int a1, .int (bl_I σ12 (bl_R σ12 a0 1) 55)]) X V hl.1 ha0 rfl ml_X10_152 mV_X10_laysChances (t_X10_laysChances l g σ12 a0 a1 (bl_I σ12 (bl_R σ12 a0 1) 55) _ ha0 h17) rfl rfl ⟨Nat.le_of_ble_eq_true rfl, Nat.le_of_ble_eq_true rfl⟩ rfl rfl (Nat.le_of_ble_eq_true rfl) ⟨Nat.zero_le _, Nat.zero_le _⟩ dX10_advice_49 (fun H locs V => ?_)
        refine lv_aload_n X.1 X.2.1 dX10_advice_52 rfl (lv_at hl 0 rfl) ?_
        refine lv_iload_n X.1 X.2.1 dX10_advice_53 rfl (lv_at hl 2 rfl) ?_
        refine lv_aload_n X.1 X.2.1 dX10_advice_54 rfl (lv_at hl 0 rfl) ?_
        refine bl_getr X V ha0 fl_X10_13 rfl dX10_advice_55 (fun h18 => ?_)
        refine lv_bipush (v := 57) X.1 X.2.1 dX10_advice_58 (by decide) ?_
        refine bl_iald (k := 57) X V h18 (by decide) (by decide) dX10_advice_60 ?_
        refine lv_aload_n X.1 X.2.1 dX10_advice_61 rfl (lv_at hl 0 rfl) ?_
        obtain ⟨r19, σ20, h21, hf⟩ := bl_bd_at hf
        refine bl_cVi (As := []) X V hl.1 ha0 rfl ml_X10_156 mV_X10_countedNow (t_X10_countedNow l g σ16 a0 _ ha0 h21) rfl rfl ⟨Nat.le_of_ble_eq_true rfl, Nat.le_of_ble_eq_true rfl⟩ rfl rfl (Nat.le_of_ble_eq_true rfl) ⟨Nat.zero_le _, Nat.zero_le _⟩ dX10_advice_62 (fun H locs V => ?_)
        refine lv_aload_n X.1 X.2.1 dX10_advice_65 rfl (lv_at hl 0 rfl) ?_
        refine bl_getr X V ha0 fl_X10_13 rfl dX10_advice_66 (fun h22 => ?_)
        refine lv_bipush (v := 59) X.1 X.2.1 dX10_advice_69 (by decide) ?_
        refine bl_iald (k := 59) X V h22 (by decide) (by decide) dX10_advice_71 ?_
        obtain ⟨r23, σ24, h25, hf⟩ := bl_bd_at hf
        refine bl_cVl (As := [.int a2, .int (bl_I σ16 (bl_R σ16 a0 1) 57), .int r19, .int (bl_I σ20 (bl_R σ20 a0 1) 59)]) X V hl.1 ha0 rfl ml_X10_159 mV_X10_gainOf (t_X10_gainOf l g σ20 a0 a2 (bl_I σ16 (bl_R σ16 a0 1) 57) r19 (bl_I σ20 (bl_R σ20 a0 1) 59) _ ha0 h25) rfl rfl ⟨Nat.le_of_ble_eq_true rfl, Nat.le_of_ble_eq_true rfl⟩ rfl rfl (Nat.le_of_ble_eq_true rfl) ⟨Nat.zero_le _, Nat.zero_le _⟩ dX10_advice_72 (fun H locs V => ?_)
        refine lv_lconst (v := 0) X.1 X.2.1 dX10_advice_75 (by decide) ?_
        refine bl_lc_le (tgt := 84) X dX10_advice_76 dX10_advice_77 (by decide) (fun c26 => ?_) (fun c26 => ?_)
        · have hf := bl_ifp c26 hf
          refine lv_iconst (v := 0) X.1 X.2.1 dX10_advice_84 (by decide) ?_
          exact bl_reti X V hr hf dX10_advice_85
        · have hf := bl_ifn c26 hf
          refine lv_iconst (v := 1) X.1 X.2.1 dX10_advice_80 (by decide) ?_
          refine lv_goto (tgt := 85) X.1 X.2.1 dX10_advice_81 (by decide) ?_
          exact bl_reti X V hr hf dX10_advice_85
      · have hf := bl_ifp c10 hf
        refine lv_iconst (v := (-1)) X.1 X.2.1 dX10_advice_30 (by decide) ?_
        exact bl_reti X V hr hf dX10_advice_31
set_option maxHeartbeats 4000000 in
set_option maxRecDepth 100000 in
theorem w_X10_rest_14 {p : Program} {l : Launch} {e : Env} {s : State} {m : MethodId} {below : List Frame} {meth : Method} {c : Code} {g : bl_Gp} {as : List Value} {out : Int32 × bl_St} (X : bl_Cx g p s m as.toArray meth c cX10_rest 4 RX10) (hr : meth.sig.returnType = (Option.some Jvm.ClassFile.FieldType.int)) (k14 : bl_St → Nat → Int32 → Int32 → Option (Int32 × bl_St)) (hk14 : ∀ (σ : bl_St) (v0 : Nat) (v2 : Int32) (v3 : Int32), bl_sh[v0]? = some (10, 28) → k14 σ v0 v2 v3 = some out → ∀ (H : Heap) (locs : List Loc) (ls : Array Slot), bl_V g s σ H locs → lv_has ls 4 [(0, .ref (bl_ad g v0)), (2, .int v2), (3, .int v3)] → W p l e (bl_rm 2 46) s m as.toArray below meth c H locs 0 0 (bl_Qi below g s as out) (F0 m 14 ls [])) : ∀ (σ : bl_St) (v0 : Nat) (v2 : Int32) (v3 : Int32), bl_sh[v0]? = some (10, 28) → (b_X10_rest_14 k14) σ v0 v2 v3 = some out → ∀ (H : Heap) (locs : List Loc) (ls : Array Slot), bl_V g s σ H locs → lv_has ls 4 [(0, .ref (bl_ad g v0)), (2, .int v2), (3, .int v3)] → W p l e (bl_rm 2 46) s m as.toArray below meth c H locs 0 0 (bl_Qi below g s as out) (F0 m 14 ls []) := by
  intro σ v0 v2 v3 hv0 hf H locs ls V hl
  unfold b_X10_rest_14 at hf
  refine lv_iload_n X.1 X.2.1 dX10_rest_14 rfl (lv_at hl 1 rfl) ?_
  refine lv_iload_n X.1 X.2.1 dX10_rest_15 rfl (lv_at hl 2 rfl) ?_
  refine lv_ishr X.1 X.2.1 dX10_rest_16 ?_
  refine lv_iconst (v := 1) X.1 X.2.1 dX10_rest_17 (by decide) ?_
  refine lv_iand X.1 X.2.1 dX10_rest_18 ?_
  refine lv_if_ne (tgt := 38) X.1 X.2.1 dX10_rest_19 (by decide) (fun c1 => ?_) (fun c1 => ?_)
  · have hf := bl_ifn c1 hf
    refine lv_iload_n X.1 X.2.1 dX10_rest_38 rfl (lv_at hl 2 rfl) ?_
    exact bl_reti X V hr hf dX10_rest_39
  · have hf := bl_ifp c1 hf
    refine lv_iload_n X.1 X.2.1 dX10_rest_22 rfl (lv_at hl 1 rfl) ?_
    refine lv_iconst (v := 1) X.1 X.2.1 dX10_rest_23 (by decide) ?_
    refine lv_iload_n X.1 X.2.1 dX10_rest_24 rfl (lv_at hl 2 rfl) ?_
    refine lv_ishl X.1 X.2.1 dX10_rest_25 ?_
    refine lv_ior X.1 X.2.1 dX10_rest_26 ?_
    refine lv_topi (fun x2 e3 => ?_)
    have hf := bl_let_at e3 hf
    refine lv_istore_n (lv' := [(2, .int x2), (0, .ref (bl_ad g v0)), (3, .int v3)]) X.1 X.2.1 dX10_rest_27 rfl hl (by decide) rfl (fun ls hl => ?_)
    refine lv_aload_n X.1 X.2.1 dX10_rest_28 rfl (lv_at hl 1 rfl) ?_
    refine lv_iload_n X.1 X.2.1 dX10_rest_29 rfl (lv_at hl 2 rfl) ?_
    refine lv_iconst (v := 0) X.1 X.2.1 dX10_rest_30 (by decide) ?_
    obtain ⟨r4, σ5, h6, hf⟩ := bl_bd_at hf
    refine bl_cVi (As := [.int v3, .int 0]) X V hl.1 hv0 rfl ml_X10_118 mV_X10_behind (t_X10_behind l g σ v0 v3 0 _ hv0 h6) rfl rfl ⟨Nat.le_of_ble_eq_true rfl, Nat.le_of_ble_eq_true rfl⟩ rfl rfl (Nat.le_of_ble_eq_true rfl) ⟨Nat.zero_le _, Nat.zero_le _⟩ dX10_rest_31 (fun H locs V => ?_)
    refine lv_istore_n (lv' := [(3, .int r4), (2, .int x2), (0, .ref (bl_ad g v0))]) X.1 X.2.1 dX10_rest_34 rfl hl (by decide) rfl (fun ls hl => ?_)
    refine lv_goto (tgt := 14) X.1 X.2.1 dX10_rest_35 (by decide) ?_
    exact hk14 σ5 v0 x2 r4 hv0 hf _ _ _ V (lv_sub hl [2, 1, 0] rfl)
theorem l_X10_rest_14 {p : Program} {l : Launch} {e : Env} {s : State} {m : MethodId} {below : List Frame} {meth : Method} {c : Code} {g : bl_Gp} {as : List Value} {out : Int32 × bl_St} (X : bl_Cx g p s m as.toArray meth c cX10_rest 4 RX10) (hr : meth.sig.returnType = (Option.some Jvm.ClassFile.FieldType.int)) (n : Nat) : ∀ (σ : bl_St) (v0 : Nat) (v2 : Int32) (v3 : Int32), bl_sh[v0]? = some (10, 28) → (bl_fx (fun _ _ _ _ => none) (b_X10_rest_14 ) n) σ v0 v2 v3 = some out → ∀ (H : Heap) (locs : List Loc) (ls : Array Slot), bl_V g s σ H locs → lv_has ls 4 [(0, .ref (bl_ad g v0)), (2, .int v2), (3, .int v3)] → W p l e (bl_rm 2 46) s m as.toArray below meth c H locs 0 0 (bl_Qi below g s as out) (F0 m 14 ls []) := by
  induction n with
  | zero =>
    intro σ v0 v2 v3 hv0 hf H locs ls V hl
    cases hf
  | succ n ih => exact w_X10_rest_14 X hr  _ ih
set_option maxHeartbeats 4000000 in
set_option maxRecDepth 100000 in
theorem t_X10_rest (l : Launch) (g : bl_Gp) (σ : bl_St) (a0 : Nat) (a1 : Int32) (o : Int32 × bl_St) (ha0 : bl_sh[a0]? = some (10, 28)) (hf : f_X10_rest σ a0 a1 = some o) : bl_Ci l g yX10_rest cX10_rest 4 (Option.some Jvm.ClassFile.FieldType.int) (bl_rm 2 46) [.ref (bl_ad g a0), .int a1] σ o := by
  refine bl_met (by decide) (Nat.le_of_ble_eq_true rfl) (fun p e s m below meth c ls X hr V hl => ?_)
  have hl : lv_has ls 4 [(0, .ref (bl_ad g a0)), (1, .int a1)] := hl
  unfold f_X10_rest at hf
  refine lv_aload_n X.1 X.2.1 dX10_rest_0 rfl (lv_at hl 0 rfl) ?_
  refine lv_iload_n X.1 X.2.1 dX10_rest_1 rfl (lv_at hl 1 rfl) ?_
  obtain ⟨r7, σ8, h9, hf⟩ := bl_bd_at hf
  refine bl_cVi (As := [.int a1]) X V hl.1 ha0 rfl ml_X10_84 mV_X10_isClass (t_X10_isClass l g σ a0 a1 _ ha0 h9) rfl rfl ⟨Nat.le_of_ble_eq_true rfl, Nat.le_of_ble_eq_true rfl⟩ rfl rfl (Nat.le_of_ble_eq_true rfl) ⟨Nat.zero_le _, Nat.zero_le _⟩ dX10_rest_2 (fun H locs V => ?_)
  refine lv_if_ne (tgt := 10) X.1 X.2.1 dX10_rest_5 (by decide) (fun c10 => ?_) (fun c10 => ?_)
  · have hf := bl_ifn c10 hf
    refine lv_iconst (v := 0) X.1 X.2.1 dX10_rest_10 (by decide) ?_
    refine lv_istore_n (lv' := [(2, .int 0), (0, .ref (bl_ad g a0)), (1, .int a1)]) X.1 X.2.1 dX10_rest_11 rfl hl (by decide) rfl (fun ls hl => ?_)
    refine lv_iload_n X.1 X.2.1 dX10_rest_12 rfl (lv_at hl 2 rfl) ?_
    refine lv_istore_n (lv' := [(3, .int a1), (2, .int 0), (0, .ref (bl_ad g a0)), (1, .int a1)]) X.1 X.2.1 dX10_rest_13 rfl hl (by decide) rfl (fun ls hl => ?_)
    exact l_X10_rest_14 X hr  bl_fu σ8 a0 0 a1 ha0 hf _ _ _ V (lv_sub hl [2, 1, 0] rfl)
  · have hf := bl_ifp c10 hf
    refine lv_iconst (v := (-1)) X.1 X.2.1 dX10_rest_8 (by decide) ?_
    exact bl_reti X V hr hf dX10_rest_9
set_option maxHeartbeats 4000000 in
set_option maxRecDepth 100000 in
theorem t_X10_were (l : Launch) (g : bl_Gp) (σ : bl_St) (a0 : Nat) (a1 : Int32) (a2 : Int32) (a3 : Int32) (a4 : Int32) (o : Int64 × bl_St) (ha0 : bl_sh[a0]? = some (10, 28)) (hf : f_X10_were σ a0 a1 a2 a3 a4 = some o) : bl_Cl l g yX10_were cX10_were 8 (Option.some Jvm.ClassFile.FieldType.long) (bl_rm 9 230) [.ref (bl_ad g a0), .int a1, .int a2, .int a3, .int a4] σ o := by
  refine bl_met (by decide) (Nat.le_of_ble_eq_true rfl) (fun p e s m below meth c ls X hr V hl => ?_)
  have hl : lv_has ls 8 [(0, .ref (bl_ad g a0)), (1, .int a1), (2, .int a2), (3, .int a3), (4, .int a4)] := hl
  unfold f_X10_were at hf
  refine lv_iload_n X.1 X.2.1 dX10_were_0 rfl (lv_at hl 1 rfl) ?_
  refine lv_iload_n X.1 X.2.1 dX10_were_1 rfl (lv_at hl 2 rfl) ?_
  obtain ⟨r1, σ2, h3, hf⟩ := bl_bd_at hf
  refine bl_cSi (As := [.int a1, .int a2]) X V hl.1 ml_X10_106 mS_X10_isRule (t_X10_isRule l g σ a1 a2 _  h3) rfl rfl ⟨Nat.le_of_ble_eq_true rfl, Nat.le_of_ble_eq_true rfl⟩ rfl rfl (Nat.le_of_ble_eq_true rfl) ⟨Nat.zero_le _, Nat.zero_le _⟩ dX10_were_2 (fun H locs V => ?_)
  refine lv_if_eq (tgt := 24) X.1 X.2.1 dX10_were_5 (by decide) (fun c4 => ?_) (fun c4 => ?_)
  · have hf := bl_ifp c4 hf
    refine lv_ldc2 (v := (-1)) X.1 X.2.1 X.2.2.2.1 (X.2.2.2.2.1 _ kl_X10_233) dX10_were_24 ?_
    exact bl_retl X V hr hf dX10_were_27
  · have hf := bl_ifn c4 hf
    refine lv_iload_n X.1 X.2.1 dX10_were_8 rfl (lv_at hl 3 rfl) ?_
    obtain ⟨r5, σ6, h7, hf⟩ := bl_bd_at hf
    refine bl_cSi (As := [.int a3]) X V hl.1 ml_X10_227 mS_X10_areYears (t_X10_areYears l g σ2 a3 _  h7) rfl rfl ⟨Nat.le_of_ble_eq_true rfl, Nat.le_of_ble_eq_true rfl⟩ rfl rfl (Nat.le_of_ble_eq_true rfl) ⟨Nat.zero_le _, Nat.zero_le _⟩ dX10_were_9 (fun H locs V => ?_)
    refine lv_if_eq (tgt := 24) X.1 X.2.1 dX10_were_12 (by decide) (fun c8 => ?_) (fun c8 => ?_)
    · have hf := bl_ifp c8 hf
      refine lv_ldc2 (v := (-1)) X.1 X.2.1 X.2.2.2.1 (X.2.2.2.2.1 _ kl_X10_233) dX10_were_24 ?_
      exact bl_retl X V hr hf dX10_were_27
    · have hf := bl_ifn c8 hf
      refine lv_aload_n X.1 X.2.1 dX10_were_15 rfl (lv_at hl 0 rfl) ?_
      refine lv_iload X.1 X.2.1 dX10_were_16 (lv_at hl 4 rfl) ?_
      obtain ⟨r9, σ10, h11, hf⟩ := bl_bd_at hf
      refine bl_cVi (As := [.int a4]) X V hl.1 ha0 rfl ml_X10_84 mV_X10_isClass (t_X10_isClass l g σ6 a0 a4 _ ha0 h11) rfl rfl ⟨Nat.le_of_ble_eq_true rfl, Nat.le_of_ble_eq_true rfl⟩ rfl rfl (Nat.le_of_ble_eq_true rfl) ⟨Nat.zero_le _, Nat.zero_le _⟩ dX10_were_18 (fun H locs V => ?_)
      refine lv_if_ne (tgt := 28) X.1 X.2.1 dX10_were_21 (by decide) (fun c12 => ?_) (fun c12 => ?_)
      · have hf := bl_ifn c12 hf
        refine lv_aload_n X.1 X.2.1 dX10_were_28 rfl (lv_at hl 0 rfl) ?_
        refine bl_getr X V ha0 fl_X10_13 rfl dX10_were_29 (fun h13 => ?_)
        refine lv_iconst (v := 2) X.1 X.2.1 dX10_were_32 (by decide) ?_
        refine lv_iload_n X.1 X.2.1 dX10_were_33 rfl (lv_at hl 1 rfl) ?_
        refine lv_iadd X.1 X.2.1 dX10_were_34 ?_
        obtain ⟨h14, hf⟩ := bl_gd_at hf
        refine bl_iald (k := (Int32.toNatClampNeg (2 + a1))) X V h13 h14 rfl dX10_were_35 ?_
        refine lv_topi (fun x15 e16 => ?_)
        have hf := bl_let_at e16 hf
        refine lv_istore (lv' := [(5, .int x15), (0, .ref (bl_ad g a0)), (1, .int a1), (2, .int a2), (3, .int a3), (4, .int a4)]) X.1 X.2.1 dX10_were_36 hl (by decide) rfl (fun ls hl => ?_)
        refine lv_aload_n X.1 X.2.1 dX10_were_38 rfl (lv_at hl 1 rfl) ?_
        refine bl_getr X V ha0 fl_X10_13 rfl dX10_were_39 (fun h17 => ?_)
        refine lv_iconst (v := 2) X.1 X.2.1 dX10_were_42 (by decide) ?_
        refine lv_iload_n X.1 X.2.1 dX10_were_43 rfl (lv_at hl 2 rfl) ?_
        refine lv_iadd X.1 X.2.1 dX10_were_44 ?_
        refine lv_iload_n X.1 X.2.1 dX10_were_45 rfl (lv_at hl 3 rfl) ?_
        obtain ⟨h18, hf⟩ := bl_gd_at hf
        refine bl_iast (k := (Int32.toNatClampNeg (2 + a1))) X V h17 h18 rfl dX10_were_46 (fun σ19 H locs e20 V => ?_)
        have hf := bl_let_at e20 hf
        refine lv_aload_n X.1 X.2.1 dX10_were_47 rfl (lv_at hl 1 rfl) ?_
        refine lv_iload_n X.1 X.2.1 dX10_were_48 rfl (lv_at hl 4 rfl) ?_
        refine lv_iload X.1 X.2.1 dX10_were_49 (lv_at hl 5 rfl) ?_
        obtain ⟨r21, σ22, h23, hf⟩ := bl_bd_at hf
        refine bl_cVl (As := [.int a3, .int a4]) X V hl.1 ha0 rfl ml_X10_230 mV_X10_bestCost (t_X10_bestCost l g σ19 a0 a3 a4 _ ha0 h23) rfl rfl ⟨Nat.le_of_ble_eq_true rfl, Nat.le_of_ble_eq_true rfl⟩ rfl rfl (Nat.le_of_ble_eq_true rfl) ⟨Nat.zero_le _, Nat.zero_le _⟩ dX10_were_51 (fun H locs V => ?_)
        refine lv_lstore (lv' := [(6, .long r21), (5, .int x15), (0, .ref (bl_ad g a0)), (1, .int a1), (2, .int a2), (3, .int a3), (4, .int a4)]) X.1 X.2.1 dX10_were_54 hl (by decide) rfl (fun ls hl => ?_)
        refine lv_aload_n X.1 X.2.1 dX10_were_56 rfl (lv_at hl 2 rfl) ?_
        refine bl_getr X V ha0 fl_X10_13 rfl dX10_were_57 (fun h24 => ?_)
        refine lv_iconst (v := 2) X.1 X.2.1 dX10_were_60 (by decide) ?_
        refine lv_iload_n X.1 X.2.1 dX10_were_61 rfl (lv_at hl 3 rfl) ?_
        refine lv_iadd X.1 X.2.1 dX10_were_62 ?_
        refine lv_iload X.1 X.2.1 dX10_were_63 (lv_at hl 1 rfl) ?_
        obtain ⟨h25, hf⟩ := bl_gd_at hf
        refine bl_iast (k := (Int32.toNatClampNeg (2 + a1))) X V h24 h25 rfl dX10_were_65 (fun σ26 H locs e27 V => ?_)
        have hf := bl_let_at e27 hf
        refine lv_lload X.1 X.2.1 dX10_were_66 (lv_at hl 0 rfl) ?_
        exact bl_retl X V hr hf dX10_were_68
      · have hf := bl_ifp c12 hf
        refine lv_ldc2 (v := (-1)) X.1 X.2.1 X.2.2.2.1 (X.2.2.2.2.1 _ kl_X10_233) dX10_were_24 ?_
        exact bl_retl X V hr hf dX10_were_27
set_option maxHeartbeats 4000000 in
set_option maxRecDepth 100000 in
theorem t_X10_lacking (l : Launch) (g : bl_Gp) (σ : bl_St) (a0 : Nat) (a1 : Int32) (a2 : Int32) (a3 : Int32) (o : Int64 × bl_St) (ha0 : bl_sh[a0]? = some (10, 28)) (hf : f_X10_lacking σ a0 a1 a2 a3 = some o) : bl_Cl l g yX10_lacking cX10_lacking 6 (Option.some Jvm.ClassFile.FieldType.long) (bl_rm 9 230) [.ref (bl_ad g a0), .int a1, .int a2, .int a3] σ o := by
  refine bl_met (by decide) (Nat.le_of_ble_eq_true rfl) (fun p e s m below meth c ls X hr V hl => ?_)
  have hl : lv_has ls 6 [(0, .ref (bl_ad g a0)), (1, .int a1), (2, .int a2), (3, .int a3)] := hl
  unfold f_X10_lacking at hf
  refine lv_aload_n X.1 X.2.1 dX10_lacking_0 rfl (lv_at hl 0 rfl) ?_
  refine lv_iload_n X.1 X.2.1 dX10_lacking_1 rfl (lv_at hl 1 rfl) ?_
  obtain ⟨r1, σ2, h3, hf⟩ := bl_bd_at hf
  refine bl_cVi (As := [.int a1]) X V hl.1 ha0 rfl ml_X10_93 mV_X10_isSort (t_X10_isSort l g σ a0 a1 _ ha0 h3) rfl rfl ⟨Nat.le_of_ble_eq_true rfl, Nat.le_of_ble_eq_true rfl⟩ rfl rfl (Nat.le_of_ble_eq_true rfl) ⟨Nat.zero_le _, Nat.zero_le _⟩ dX10_lacking_2 (fun H locs V => ?_)
  refine lv_if_eq (tgt := 33) X.1 X.2.1 dX10_lacking_5 (by decide) (fun c4 => ?_) (fun c4 => ?_)
  · have hf := bl_ifp c4 hf
    refine lv_ldc2 (v := (-1)) X.1 X.2.1 X.2.2.2.1 (X.2.2.2.2.1 _ kl_X10_233) dX10_lacking_33 ?_
    exact bl_retl X V hr hf dX10_lacking_36
  · have hf := bl_ifn c4 hf
    refine lv_aload_n X.1 X.2.1 dX10_lacking_8 rfl (lv_at hl 0 rfl) ?_
    refine bl_getr X V ha0 fl_X10_13 rfl dX10_lacking_9 (fun h5 => ?_)
    refine lv_iconst (v := 1) X.1 X.2.1 dX10_lacking_12 (by decide) ?_
    refine bl_iald (k := 1) X V h5 (by decide) (by decide) dX10_lacking_13 ?_
    refine lv_iconst (v := 1) X.1 X.2.1 dX10_lacking_14 (by decide) ?_
    refine lv_icmp_eq (tgt := 33) X.1 X.2.1 dX10_lacking_15 (by decide) (fun c6 => ?_) (fun c6 => ?_)
    · have hf := bl_ifp c6 hf
      refine lv_ldc2 (v := (-1)) X.1 X.2.1 X.2.2.2.1 (X.2.2.2.2.1 _ kl_X10_233) dX10_lacking_33 ?_
      exact bl_retl X V hr hf dX10_lacking_36
    · have hf := bl_ifn c6 hf
      refine lv_iload_n X.1 X.2.1 dX10_lacking_18 rfl (lv_at hl 2 rfl) ?_
      obtain ⟨r7, σ8, h9, hf⟩ := bl_bd_at hf
      refine bl_cSi (As := [.int a2]) X V hl.1 ml_X10_227 mS_X10_areYears (t_X10_areYears l g σ2 a2 _  h9) rfl rfl ⟨Nat.le_of_ble_eq_true rfl, Nat.le_of_ble_eq_true rfl⟩ rfl rfl (Nat.le_of_ble_eq_true rfl) ⟨Nat.zero_le _, Nat.zero_le _⟩ dX10_lacking_19 (fun H locs V => ?_)
      refine lv_if_eq (tgt := 33) X.1 X.2.1 dX10_lacking_22 (by decide) (fun c10 => ?_) (fun c10 => ?_)
      · have hf := bl_ifp c10 hf
        refine lv_ldc2 (v := (-1)) X.1 X.2.1 X.2.2.2.1 (X.2.2.2.2.1 _ kl_X10_233) dX10_lacking_33 ?_
        exact bl_retl X V hr hf dX10_lacking_36
      · have hf := bl_ifn c10 hf
        refine lv_aload_n X.1 X.2.1 dX10_lacking_25 rfl (lv_at hl 0 rfl) ?_
        refine lv_iload_n X.1 X.2.1 dX10_lacking_26 rfl (lv_at hl 3 rfl) ?_
        obtain ⟨r11, σ12, h13, hf⟩ := bl_bd_at hf
        refine bl_cVi (As := [.int a3]) X V hl.1 ha0 rfl ml_X10_84 mV_X10_isClass (t_X10_isClass l g σ8 a0 a3 _ ha0 h13) rfl rfl ⟨Nat.le_of_ble_eq_true rfl, Nat.le_of_ble_eq_true rfl⟩ rfl rfl (Nat.le_of_ble_eq_true rfl) ⟨Nat.zero_le _, Nat.zero_le _⟩ dX10_lacking_27 (fun H locs V => ?_)
        refine lv_if_ne (tgt := 37) X.1 X.2.1 dX10_lacking_30 (by decide) (fun c14 => ?_) (fun c14 => ?_)
        · have hf := bl_ifn c14 hf
          refine lv_aload_n X.1 X.2.1 dX10_lacking_37 rfl (lv_at hl 0 rfl) ?_
          refine bl_getr X V ha0 fl_X10_13 rfl dX10_lacking_38 (fun h15 => ?_)
          refine lv_aload_n X.1 X.2.1 dX10_lacking_41 rfl (lv_at hl 0 rfl) ?_
          refine bl_getr X V ha0 fl_X10_20 rfl dX10_lacking_42 (fun h16 => ?_)
          obtain ⟨r17, σ18, h19, hf⟩ := bl_bd_at hf
          refine bl_cSv (As := [.ref (bl_ad g (bl_R σ12 a0 1)), .ref (bl_ad g (bl_R σ12 a0 3))]) X V hl.1 ml_X10_278 mS_X10_copies (t_X10_copies l g σ12 (bl_R σ12 a0 1) (bl_R σ12 a0 3) _ h15 h16 h19) rfl rfl ⟨Nat.le_of_ble_eq_true rfl, Nat.le_of_ble_eq_true rfl⟩ rfl rfl (Nat.le_of_ble_eq_true rfl) ⟨Nat.zero_le _, Nat.zero_le _⟩ dX10_lacking_45 (fun H locs V => ?_)
          refine lv_aload_n X.1 X.2.1 dX10_lacking_48 rfl (lv_at hl 0 rfl) ?_
          refine lv_iload_n X.1 X.2.1 dX10_lacking_49 rfl (lv_at hl 1 rfl) ?_
          obtain ⟨r20, σ21, h22, hf⟩ := bl_bd_at hf
          refine bl_cVv (As := [.int a1]) X V hl.1 ha0 rfl ml_X10_175 mV_X10_takesOut (t_X10_takesOut l g σ18 a0 a1 _ ha0 h22) rfl rfl ⟨Nat.le_of_ble_eq_true rfl, Nat.le_of_ble_eq_true rfl⟩ rfl rfl (Nat.le_of_ble_eq_true rfl) ⟨Nat.zero_le _, Nat.zero_le _⟩ dX10_lacking_50 (fun H locs V => ?_)
          refine lv_aload_n X.1 X.2.1 dX10_lacking_53 rfl (lv_at hl 0 rfl) ?_
          refine lv_iload_n X.1 X.2.1 dX10_lacking_54 rfl (lv_at hl 2 rfl) ?_
          refine lv_iload_n X.1 X.2.1 dX10_lacking_55 rfl (lv_at hl 3 rfl) ?_
          obtain ⟨r23, σ24, h25, hf⟩ := bl_bd_at hf
          refine bl_cVl (As := [.int a2, .int a3]) X V hl.1 ha0 rfl ml_X10_230 mV_X10_bestCost (t_X10_bestCost l g σ21 a0 a2 a3 _ ha0 h25) rfl rfl ⟨Nat.le_of_ble_eq_true rfl, Nat.le_of_ble_eq_true rfl⟩ rfl rfl (Nat.le_of_ble_eq_true rfl) ⟨Nat.zero_le _, Nat.zero_le _⟩ dX10_lacking_56 (fun H locs V => ?_)
          refine lv_lstore (lv' := [(4, .long r23), (0, .ref (bl_ad g a0)), (1, .int a1), (2, .int a2), (3, .int a3)]) X.1 X.2.1 dX10_lacking_59 hl (by decide) rfl (fun ls hl => ?_)
          refine lv_aload_n X.1 X.2.1 dX10_lacking_61 rfl (lv_at hl 1 rfl) ?_
          refine bl_getr X V ha0 fl_X10_20 rfl dX10_lacking_62 (fun h26 => ?_)
          refine lv_aload_n X.1 X.2.1 dX10_lacking_65 rfl (lv_at hl 1 rfl) ?_
          refine bl_getr X V ha0 fl_X10_13 rfl dX10_lacking_66 (fun h27 => ?_)
          obtain ⟨r28, σ29, h30, hf⟩ := bl_bd_at hf
          refine bl_cSv (As := [.ref (bl_ad g (bl_R σ24 a0 3)), .ref (bl_ad g (bl_R σ24 a0 1))]) X V hl.1 ml_X10_278 mS_X10_copies (t_X10_copies l g σ24 (bl_R σ24 a0 3) (bl_R σ24 a0 1) _ h26 h27 h30) rfl rfl ⟨Nat.le_of_ble_eq_true rfl, Nat.le_of_ble_eq_true rfl⟩ rfl rfl (Nat.le_of_ble_eq_true rfl) ⟨Nat.zero_le _, Nat.zero_le _⟩ dX10_lacking_69 (fun H locs V => ?_)
          refine lv_lload X.1 X.2.1 dX10_lacking_72 (lv_at hl 0 rfl) ?_
          exact bl_retl X V hr hf dX10_lacking_74
        · have hf := bl_ifp c14 hf
          refine lv_ldc2 (v := (-1)) X.1 X.2.1 X.2.2.2.1 (X.2.2.2.2.1 _ kl_X10_233) dX10_lacking_33 ?_
          exact bl_retl X V hr hf dX10_lacking_36
set_option maxHeartbeats 4000000 in
set_option maxRecDepth 100000 in
theorem w_X10_oddsFor_77 {p : Program} {l : Launch} {e : Env} {s : State} {m : MethodId} {below : List Frame} {meth : Method} {c : Code} {g : bl_Gp} {as : List Value} {out : Int32 × bl_St} (X : bl_Cx g p s m as.toArray meth c cX10_oddsFor 8 RX10) (hr : meth.sig.returnType = (Option.some Jvm.ClassFile.FieldType.int)) : ∀ (σ : bl_St) (v0 : Nat) (v5 : Int32) (v6 : Int32), bl_sh[v0]? = some (10, 28) → (b_X10_oddsFor_77 ) σ v0 v5 v6 = some out → ∀ (H : Heap) (locs : List Loc) (ls : Array Slot), bl_V g s σ H locs → lv_has ls 8 [(0, .ref (bl_ad g v0)), (5, .int v5), (6, .int v6)] → W p l e (bl_rm 9 230) s m as.toArray below meth c H locs 0 0 (bl_Qi below g s as out) (F0 m 77 ls []) := by
  intro σ v0 v5 v6 hv0 hf H locs ls V hl
  unfold b_X10_oddsFor_77 at hf
  refine lv_aload_n X.1 X.2.1 dX10_oddsFor_77 rfl (lv_at hl 0 rfl) ?_
  refine bl_getr X V hv0 fl_X10_13 rfl dX10_oddsFor_78 (fun h1 => ?_)
  refine lv_iconst (v := 3) X.1 X.2.1 dX10_oddsFor_81 (by decide) ?_
  refine lv_iload X.1 X.2.1 dX10_oddsFor_82 (lv_at hl 1 rfl) ?_
  refine bl_iast (k := 3) X V h1 (by decide) (by decide) dX10_oddsFor_84 (fun σ2 H locs e3 V => ?_)
  have hf := bl_let_at e3 hf
  refine lv_iload X.1 X.2.1 dX10_oddsFor_85 (lv_at hl 2 rfl) ?_
  exact bl_reti X V hr hf dX10_oddsFor_87
set_option maxHeartbeats 4000000 in
set_option maxRecDepth 100000 in
theorem w_X10_oddsFor_71 {p : Program} {l : Launch} {e : Env} {s : State} {m : MethodId} {below : List Frame} {meth : Method} {c : Code} {g : bl_Gp} {as : List Value} {out : Int32 × bl_St} (X : bl_Cx g p s m as.toArray meth c cX10_oddsFor 8 RX10) (hr : meth.sig.returnType = (Option.some Jvm.ClassFile.FieldType.int)) (k33 : bl_St → Nat → Int64 → Int32 → Int32 → Int32 → Int32 → Int32 → Option (Int32 × bl_St)) (hk33 : ∀ (σ : bl_St) (v0 : Nat) (v1 : Int64) (v3 : Int32) (v4 : Int32) (v5 : Int32) (v6 : Int32) (v7 : Int32), bl_sh[v0]? = some (10, 28) → k33 σ v0 v1 v3 v4 v5 v6 v7 = some out → ∀ (H : Heap) (locs : List Loc) (ls : Array Slot), bl_V g s σ H locs → lv_has ls 8 [(0, .ref (bl_ad g v0)), (1, .long v1), (3, .int v3), (4, .int v4), (5, .int v5), (6, .int v6), (7, .int v7)] → W p l e (bl_rm 9 230) s m as.toArray below meth c H locs 0 0 (bl_Qi below g s as out) (F0 m 33 ls [])) : ∀ (σ : bl_St) (v0 : Nat) (v1 : Int64) (v3 : Int32) (v4 : Int32) (v5 : Int32) (v6 : Int32) (v7 : Int32), bl_sh[v0]? = some (10, 28) → (b_X10_oddsFor_71 k33) σ v0 v1 v3 v4 v5 v6 v7 = some out → ∀ (H : Heap) (locs : List Loc) (ls : Array Slot), bl_V g s σ H locs → lv_has ls 8 [(0, .ref (bl_ad g v0)), (1, .long v1), (3, .int v3), (4, .int v4), (5, .int v5), (6, .int v6), (7, .int v7)] → W p l e (bl_rm 9 230) s m as.toArray below meth c H locs 0 0 (bl_Qi below g s as out) (F0 m 71 ls []) := by
  intro σ v0 v1 v3 v4 v5 v6 v7 hv0 hf H locs ls V hl
  unfold b_X10_oddsFor_71 at hf
  obtain ⟨x4, e5⟩ : ∃ z : Int32, z = v7 + 1 := ⟨_, rfl⟩
  have hf := bl_let_at e5 hf
  refine lv_iinc (v := x4) (lv' := [(7, .int x4), (0, .ref (bl_ad g v0)), (1, .long v1), (3, .int v3), (4, .int v4), (5, .int v5), (6, .int v6)]) X.1 X.2.1 dX10_oddsFor_71 hl (k := 6) rfl (by rw [e5]; rfl) (by decide) rfl (fun ls hl => ?_)
  refine lv_goto (tgt := 33) X.1 X.2.1 dX10_oddsFor_74 (by decide) ?_
  exact hk33 σ v0 v1 v3 v4 v5 v6 x4 hv0 hf _ _ _ V (lv_sub hl [1, 2, 3, 4, 5, 6, 0] rfl)
set_option maxHeartbeats 4000000 in
set_option maxRecDepth 100000 in
theorem w_X10_oddsFor_33 {p : Program} {l : Launch} {e : Env} {s : State} {m : MethodId} {below : List Frame} {meth : Method} {c : Code} {g : bl_Gp} {as : List Value} {out : Int32 × bl_St} (X : bl_Cx g p s m as.toArray meth c cX10_oddsFor 8 RX10) (hr : meth.sig.returnType = (Option.some Jvm.ClassFile.FieldType.int)) (k33 : bl_St → Nat → Int64 → Int32 → Int32 → Int32 → Int32 → Int32 → Option (Int32 × bl_St)) (hk33 : ∀ (σ : bl_St) (v0 : Nat) (v1 : Int64) (v3 : Int32) (v4 : Int32) (v5 : Int32) (v6 : Int32) (v7 : Int32), bl_sh[v0]? = some (10, 28) → k33 σ v0 v1 v3 v4 v5 v6 v7 = some out → ∀ (H : Heap) (locs : List Loc) (ls : Array Slot), bl_V g s σ H locs → lv_has ls 8 [(0, .ref (bl_ad g v0)), (1, .long v1), (3, .int v3), (4, .int v4), (5, .int v5), (6, .int v6), (7, .int v7)] → W p l e (bl_rm 9 230) s m as.toArray below meth c H locs 0 0 (bl_Qi below g s as out) (F0 m 33 ls [])) : ∀ (σ : bl_St) (v0 : Nat) (v1 : Int64) (v3 : Int32) (v4 : Int32) (v5 : Int32) (v6 : Int32) (v7 : Int32), bl_sh[v0]? = some (10, 28) → (b_X10_oddsFor_33 k33) σ v0 v1 v3 v4 v5 v6 v7 = some out → ∀ (H : Heap) (locs : List Loc) (ls : Array Slot), bl_V g s σ H locs → lv_has ls 8 [(0, .ref (bl_ad g v0)), (1, .long v1), (3, .int v3), (4, .int v4), (5, .int v5), (6, .int v6), (7, .int v7)] → W p l e (bl_rm 9 230) s m as.toArray below meth c H locs 0 0 (bl_Qi below g s as out) (F0 m 33 ls []) := by
  intro σ v0 v1 v3 v4 v5 v6 v7 hv0 hf H locs ls V hl
  unfold b_X10_oddsFor_33 at hf
  refine lv_iload X.1 X.2.1 dX10_oddsFor_33 (lv_at hl 6 rfl) ?_
  refine lv_bipush (v := 12) X.1 X.2.1 dX10_oddsFor_35 (by decide) ?_
  refine lv_icmp_gt (tgt := 77) X.1 X.2.1 dX10_oddsFor_37 (by decide) (fun c6 => ?_) (fun c6 => ?_)
  · have hf := bl_ifp c6 hf
    exact w_X10_oddsFor_77 X hr  σ v0 v5 v6 hv0 hf _ _ _ V (lv_sub hl [0, 4, 5] rfl)
  · have hf := bl_ifn c6 hf
    refine lv_iload X.1 X.2.1 dX10_oddsFor_40 (lv_at hl 5 rfl) ?_
    refine lv_bipush (v := (-2)) X.1 X.2.1 dX10_oddsFor_42 (by decide) ?_
    refine lv_icmp_ne (tgt := 77) X.1 X.2.1 dX10_oddsFor_44 (by decide) (fun c7 => ?_) (fun c7 => ?_)
    · have hf := bl_ifn c7 hf
      exact w_X10_oddsFor_77 X hr  σ v0 v5 v6 hv0 hf _ _ _ V (lv_sub hl [0, 4, 5] rfl)
    · have hf := bl_ifp c7 hf
      refine lv_aload_n X.1 X.2.1 dX10_oddsFor_47 rfl (lv_at hl 0 rfl) ?_
      refine bl_getr X V hv0 fl_X10_13 rfl dX10_oddsFor_48 (fun h8 => ?_)
      refine lv_iconst (v := 3) X.1 X.2.1 dX10_oddsFor_51 (by decide) ?_
      refine lv_iload X.1 X.2.1 dX10_oddsFor_52 (lv_at hl 6 rfl) ?_
      refine bl_iast (k := 3) X V h8 (by decide) (by decide) dX10_oddsFor_54 (fun σ9 H locs e10 V => ?_)
      have hf := bl_let_at e10 hf
      refine lv_aload_n X.1 X.2.1 dX10_oddsFor_55 rfl (lv_at hl 0 rfl) ?_
      refine lv_iload_n X.1 X.2.1 dX10_oddsFor_56 rfl (lv_at hl 2 rfl) ?_
      refine lv_iload X.1 X.2.1 dX10_oddsFor_57 (lv_at hl 3 rfl) ?_
      obtain ⟨r11, σ12, h13, hf⟩ := bl_bd_at hf
      refine bl_cVl (As := [.int v3, .int v4]) X V hl.1 hv0 rfl ml_X10_230 mV_X10_bestCost (t_X10_bestCost l g σ9 v0 v3 v4 _ hv0 h13) rfl rfl ⟨Nat.le_of_ble_eq_true rfl, Nat.le_of_ble_eq_true rfl⟩ rfl rfl (Nat.le_of_ble_eq_true rfl) ⟨Nat.zero_le _, Nat.zero_le _⟩ dX10_oddsFor_59 (fun H locs V => ?_)
      refine lv_lload_n X.1 X.2.1 dX10_oddsFor_62 rfl (lv_at hl 1 rfl) ?_
      refine bl_lc_lt (tgt := 71) X dX10_oddsFor_63 dX10_oddsFor_64 (by decide) (fun c14 => ?_) (fun c14 => ?_)
      · have hf := bl_ifp c14 hf
        exact w_X10_oddsFor_71 X hr k33 hk33 σ12 v0 v1 v3 v4 v5 v6 v7 hv0 hf _ _ _ V (lv_sub hl [0, 1, 2, 3, 4, 5, 6] rfl)
      · have hf := bl_ifn c14 hf
        refine lv_iload X.1 X.2.1 dX10_oddsFor_67 (lv_at hl 6 rfl) ?_
        refine lv_istore (lv' := [(6, .int v7), (0, .ref (bl_ad g v0)), (1, .long v1), (3, .int v3), (4, .int v4), (5, .int v5), (7, .int v7)]) X.1 X.2.1 dX10_oddsFor_69 hl (by decide) rfl (fun ls hl => ?_)
        exact w_X10_oddsFor_71 X hr k33 hk33 σ12 v0 v1 v3 v4 v5 v7 v7 hv0 hf _ _ _ V (lv_sub hl [1, 2, 3, 4, 5, 0, 6] rfl)
theorem l_X10_oddsFor_33 {p : Program} {l : Launch} {e : Env} {s : State} {m : MethodId} {below : List Frame} {meth : Method} {c : Code} {g : bl_Gp} {as : List Value} {out : Int32 × bl_St} (X : bl_Cx g p s m as.toArray meth c cX10_oddsFor 8 RX10) (hr : meth.sig.returnType = (Option.some Jvm.ClassFile.FieldType.int)) (n : Nat) : ∀ (σ : bl_St) (v0 : Nat) (v1 : Int64) (v3 : Int32) (v4 : Int32) (v5 : Int32) (v6 : Int32) (v7 : Int32), bl_sh[v0]? = some (10, 28) → (bl_fx (fun _ _ _ _ _ _ _ _ => none) (b_X10_oddsFor_33 ) n) σ v0 v1 v3 v4 v5 v6 v7 = some out → ∀ (H : Heap) (locs : List Loc) (ls : Array Slot), bl_V g s σ H locs → lv_has ls 8 [(0, .ref (bl_ad g v0)), (1, .long v1), (3, .int v3), (4, .int v4), (5, .int v5), (6, .int v6), (7, .int v7)] → W p l e (bl_rm 9 230) s m as.toArray below meth c H locs 0 0 (bl_Qi below g s as out) (F0 m 33 ls []) := by
  induction n with
  | zero =>
    intro σ v0 v1 v3 v4 v5 v6 v7 hv0 hf H locs ls V hl
    cases hf
  | succ n ih => exact w_X10_oddsFor_33 X hr  _ ih
set_option maxHeartbeats 4000000 in
set_option maxRecDepth 100000 in
theorem t_X10_oddsFor (l : Launch) (g : bl_Gp) (σ : bl_St) (a0 : Nat) (a1 : Int64) (a3 : Int32) (a4 : Int32) (o : Int32 × bl_St) (ha0 : bl_sh[a0]? = some (10, 28)) (hf : f_X10_oddsFor σ a0 a1 a3 a4 = some o) : bl_Ci l g yX10_oddsFor cX10_oddsFor 8 (Option.some Jvm.ClassFile.FieldType.int) (bl_rm 9 230) [.ref (bl_ad g a0), .long a1, .int a3, .int a4] σ o := by
  refine bl_met (by decide) (Nat.le_of_ble_eq_true rfl) (fun p e s m below meth c ls X hr V hl => ?_)
  have hl : lv_has ls 8 [(0, .ref (bl_ad g a0)), (1, .long a1), (3, .int a3), (4, .int a4)] := hl
  unfold f_X10_oddsFor at hf
  refine lv_iload_n X.1 X.2.1 dX10_oddsFor_0 rfl (lv_at hl 2 rfl) ?_
  obtain ⟨r15, σ16, h17, hf⟩ := bl_bd_at hf
  refine bl_cSi (As := [.int a3]) X V hl.1 ml_X10_227 mS_X10_areYears (t_X10_areYears l g σ a3 _  h17) rfl rfl ⟨Nat.le_of_ble_eq_true rfl, Nat.le_of_ble_eq_true rfl⟩ rfl rfl (Nat.le_of_ble_eq_true rfl) ⟨Nat.zero_le _, Nat.zero_le _⟩ dX10_oddsFor_1 (fun H locs V => ?_)
  refine lv_if_eq (tgt := 16) X.1 X.2.1 dX10_oddsFor_4 (by decide) (fun c18 => ?_) (fun c18 => ?_)
  · have hf := bl_ifp c18 hf
    refine lv_iconst (v := (-1)) X.1 X.2.1 dX10_oddsFor_16 (by decide) ?_
    exact bl_reti X V hr hf dX10_oddsFor_17
  · have hf := bl_ifn c18 hf
    refine lv_aload_n X.1 X.2.1 dX10_oddsFor_7 rfl (lv_at hl 0 rfl) ?_
    refine lv_iload X.1 X.2.1 dX10_oddsFor_8 (lv_at hl 3 rfl) ?_
    obtain ⟨r19, σ20, h21, hf⟩ := bl_bd_at hf
    refine bl_cVi (As := [.int a4]) X V hl.1 ha0 rfl ml_X10_84 mV_X10_isClass (t_X10_isClass l g σ16 a0 a4 _ ha0 h21) rfl rfl ⟨Nat.le_of_ble_eq_true rfl, Nat.le_of_ble_eq_true rfl⟩ rfl rfl (Nat.le_of_ble_eq_true rfl) ⟨Nat.zero_le _, Nat.zero_le _⟩ dX10_oddsFor_10 (fun H locs V => ?_)
    refine lv_if_ne (tgt := 18) X.1 X.2.1 dX10_oddsFor_13 (by decide) (fun c22 => ?_) (fun c22 => ?_)
    · have hf := bl_ifn c22 hf
      refine lv_aload_n X.1 X.2.1 dX10_oddsFor_18 rfl (lv_at hl 0 rfl) ?_
      refine bl_getr X V ha0 fl_X10_13 rfl dX10_oddsFor_19 (fun h23 => ?_)
      refine lv_iconst (v := 3) X.1 X.2.1 dX10_oddsFor_22 (by decide) ?_
      refine bl_iald (k := 3) X V h23 (by decide) (by decide) dX10_oddsFor_23 ?_
      refine lv_topi (fun x24 e25 => ?_)
      have hf := bl_let_at e25 hf
      refine lv_istore (lv' := [(5, .int x24), (0, .ref (bl_ad g a0)), (1, .long a1), (3, .int a3), (4, .int a4)]) X.1 X.2.1 dX10_oddsFor_24 hl (by decide) rfl (fun ls hl => ?_)
      refine lv_bipush (v := (-2)) X.1 X.2.1 dX10_oddsFor_26 (by decide) ?_
      refine lv_istore (lv' := [(6, .int (-2)), (5, .int x24), (0, .ref (bl_ad g a0)), (1, .long a1), (3, .int a3), (4, .int a4)]) X.1 X.2.1 dX10_oddsFor_28 hl (by decide) rfl (fun ls hl => ?_)
      refine lv_iconst (v := 0) X.1 X.2.1 dX10_oddsFor_30 (by decide) ?_
      refine lv_istore (lv' := [(7, .int 0), (6, .int (-2)), (5, .int x24), (0, .ref (bl_ad g a0)), (1, .long a1), (3, .int a3), (4, .int a4)]) X.1 X.2.1 dX10_oddsFor_31 hl (by decide) rfl (fun ls hl => ?_)
      exact l_X10_oddsFor_33 X hr  bl_fu σ20 a0 a1 a3 a4 x24 (-2) 0 ha0 hf _ _ _ V (lv_sub hl [3, 4, 5, 6, 2, 1, 0] rfl)
    · have hf := bl_ifp c22 hf
      refine lv_iconst (v := (-1)) X.1 X.2.1 dX10_oddsFor_16 (by decide) ?_
      exact bl_reti X V hr hf dX10_oddsFor_17
set_option maxHeartbeats 4000000 in
set_option maxRecDepth 100000 in
theorem w_X10_bestOwn_104 {p : Program} {l : Launch} {e : Env} {s : State} {m : MethodId} {below : List Frame} {meth : Method} {c : Code} {g : bl_Gp} {as : List Value} {out : Int32 × bl_St} (X : bl_Cx g p s m as.toArray meth c cX10_bestOwn 11 RX10) (hr : meth.sig.returnType = (Option.some Jvm.ClassFile.FieldType.int)) (k46 : bl_St → Nat → Int32 → Int32 → Int32 → Int32 → Int32 → Int64 → Int32 → Option (Int32 × bl_St)) (hk46 : ∀ (σ : bl_St) (v0 : Nat) (v1 : Int32) (v2 : Int32) (v3 : Int32) (v4 : Int32) (v5 : Int32) (v6 : Int64) (v8 : Int32), bl_sh[v0]? = some (10, 28) → k46 σ v0 v1 v2 v3 v4 v5 v6 v8 = some out → ∀ (H : Heap) (locs : List Loc) (ls : Array Slot), bl_V g s σ H locs → lv_has ls 11 [(0, .ref (bl_ad g v0)), (1, .int v1), (2, .int v2), (3, .int v3), (4, .int v4), (5, .int v5), (6, .long v6), (8, .int v8)] → W p l e (bl_rm 9 230) s m as.toArray below meth c H locs 0 0 (bl_Qi below g s as out) (F0 m 46 ls [])) : ∀ (σ : bl_St) (v0 : Nat) (v1 : Int32) (v2 : Int32) (v3 : Int32) (v4 : Int32) (v5 : Int32) (v6 : Int64) (v8 : Int32), bl_sh[v0]? = some (10, 28) → (b_X10_bestOwn_104 k46) σ v0 v1 v2 v3 v4 v5 v6 v8 = some out → ∀ (H : Heap) (locs : List Loc) (ls : Array Slot), bl_V g s σ H locs → lv_has ls 11 [(0, .ref (bl_ad g v0)), (1, .int v1), (2, .int v2), (3, .int v3), (4, .int v4), (5, .int v5), (6, .long v6), (8, .int v8)] → W p l e (bl_rm 9 230) s m as.toArray below meth c H locs 0 0 (bl_Qi below g s as out) (F0 m 104 ls []) := by
  intro σ v0 v1 v2 v3 v4 v5 v6 v8 hv0 hf H locs ls V hl
  unfold b_X10_bestOwn_104 at hf
  obtain ⟨x1, e2⟩ : ∃ z : Int32, z = v8 + 1 := ⟨_, rfl⟩
  have hf := bl_let_at e2 hf
  refine lv_iinc (v := x1) (lv' := [(8, .int x1), (0, .ref (bl_ad g v0)), (1, .int v1), (2, .int v2), (3, .int v3), (4, .int v4), (5, .int v5), (6, .long v6)]) X.1 X.2.1 dX10_bestOwn_104 hl (k := 7) rfl (by rw [e2]; rfl) (by decide) rfl (fun ls hl => ?_)
  refine lv_goto (tgt := 46) X.1 X.2.1 dX10_bestOwn_107 (by decide) ?_
  exact hk46 σ v0 v1 v2 v3 v4 v5 v6 x1 hv0 hf _ _ _ V (lv_sub hl [1, 2, 3, 4, 5, 6, 7, 0] rfl)
set_option maxHeartbeats 4000000 in
set_option maxRecDepth 100000 in
theorem w_X10_bestOwn_96 {p : Program} {l : Launch} {e : Env} {s : State} {m : MethodId} {below : List Frame} {meth : Method} {c : Code} {g : bl_Gp} {as : List Value} {out : Int32 × bl_St} (X : bl_Cx g p s m as.toArray meth c cX10_bestOwn 11 RX10) (hr : meth.sig.returnType = (Option.some Jvm.ClassFile.FieldType.int)) (k46 : bl_St → Nat → Int32 → Int32 → Int32 → Int32 → Int32 → Int64 → Int32 → Option (Int32 × bl_St)) (hk46 : ∀ (σ : bl_St) (v0 : Nat) (v1 : Int32) (v2 : Int32) (v3 : Int32) (v4 : Int32) (v5 : Int32) (v6 : Int64) (v8 : Int32), bl_sh[v0]? = some (10, 28) → k46 σ v0 v1 v2 v3 v4 v5 v6 v8 = some out → ∀ (H : Heap) (locs : List Loc) (ls : Array Slot), bl_V g s σ H locs → lv_has ls 11 [(0, .ref (bl_ad g v0)), (1, .int v1), (2, .int v2), (3, .int v3), (4, .int v4), (5, .int v5), (6, .long v6), (8, .int v8)] → W p l e (bl_rm 9 230) s m as.toArray below meth c H locs 0 0 (bl_Qi below g s as out) (F0 m 46 ls [])) : ∀ (σ : bl_St) (v0 : Nat) (v1 : Int32) (v2 : Int32) (v3 : Int32) (v4 : Int32) (v8 : Int32) (v9 : Int64), bl_sh[v0]? = some (10, 28) → (b_X10_bestOwn_96 k46) σ v0 v1 v2 v3 v4 v8 v9 = some out → ∀ (H : Heap) (locs : List Loc) (ls : Array Slot), bl_V g s σ H locs → lv_has ls 11 [(0, .ref (bl_ad g v0)), (1, .int v1), (2, .int v2), (3, .int v3), (4, .int v4), (8, .int v8), (9, .long v9)] → W p l e (bl_rm 9 230) s m as.toArray below meth c H locs 0 0 (bl_Qi below g s as out) (F0 m 96 ls []) := by
  intro σ v0 v1 v2 v3 v4 v8 v9 hv0 hf H locs ls V hl
  unfold b_X10_bestOwn_96 at hf
  refine lv_iload X.1 X.2.1 dX10_bestOwn_96 (lv_at hl 5 rfl) ?_
  refine lv_istore (lv' := [(5, .int v8), (0, .ref (bl_ad g v0)), (1, .int v1), (2, .int v2), (3, .int v3), (4, .int v4), (8, .int v8), (9, .long v9)]) X.1 X.2.1 dX10_bestOwn_98 hl (by decide) rfl (fun ls hl => ?_)
  refine lv_lload X.1 X.2.1 dX10_bestOwn_100 (lv_at hl 7 rfl) ?_
  refine lv_lstore (lv' := [(6, .long v9), (5, .int v8), (0, .ref (bl_ad g v0)), (1, .int v1), (2, .int v2), (3, .int v3), (4, .int v4), (8, .int v8), (9, .long v9)]) X.1 X.2.1 dX10_bestOwn_102 hl (by decide) rfl (fun ls hl => ?_)
  exact w_X10_bestOwn_104 X hr k46 hk46 σ v0 v1 v2 v3 v4 v8 v9 v8 hv0 hf _ _ _ V (lv_sub hl [2, 3, 4, 5, 6, 1, 0, 7] rfl)
set_option maxHeartbeats 4000000 in
set_option maxRecDepth 100000 in
theorem w_X10_bestOwn_46 {p : Program} {l : Launch} {e : Env} {s : State} {m : MethodId} {below : List Frame} {meth : Method} {c : Code} {g : bl_Gp} {as : List Value} {out : Int32 × bl_St} (X : bl_Cx g p s m as.toArray meth c cX10_bestOwn 11 RX10) (hr : meth.sig.returnType = (Option.some Jvm.ClassFile.FieldType.int)) (k46 : bl_St → Nat → Int32 → Int32 → Int32 → Int32 → Int32 → Int64 → Int32 → Option (Int32 × bl_St)) (hk46 : ∀ (σ : bl_St) (v0 : Nat) (v1 : Int32) (v2 : Int32) (v3 : Int32) (v4 : Int32) (v5 : Int32) (v6 : Int64) (v8 : Int32), bl_sh[v0]? = some (10, 28) → k46 σ v0 v1 v2 v3 v4 v5 v6 v8 = some out → ∀ (H : Heap) (locs : List Loc) (ls : Array Slot), bl_V g s σ H locs → lv_has ls 11 [(0, .ref (bl_ad g v0)), (1, .int v1), (2, .int v2), (3, .int v3), (4, .int v4), (5, .int v5), (6, .long v6), (8, .int v8)] → W p l e (bl_rm 9 230) s m as.toArray below meth c H locs 0 0 (bl_Qi below g s as out) (F0 m 46 ls [])) : ∀ (σ : bl_St) (v0 : Nat) (v1 : Int32) (v2 : Int32) (v3 : Int32) (v4 : Int32) (v5 : Int32) (v6 : Int64) (v8 : Int32), bl_sh[v0]? = some (10, 28) → (b_X10_bestOwn_46 k46) σ v0 v1 v2 v3 v4 v5 v6 v8 = some out → ∀ (H : Heap) (locs : List Loc) (ls : Array Slot), bl_V g s σ H locs → lv_has ls 11 [(0, .ref (bl_ad g v0)), (1, .int v1), (2, .int v2), (3, .int v3), (4, .int v4), (5, .int v5), (6, .long v6), (8, .int v8)] → W p l e (bl_rm 9 230) s m as.toArray below meth c H locs 0 0 (bl_Qi below g s as out) (F0 m 46 ls []) := by
  intro σ v0 v1 v2 v3 v4 v5 v6 v8 hv0 hf H locs ls V hl
  unfold b_X10_bestOwn_46 at hf
  refine lv_iload X.1 X.2.1 dX10_bestOwn_46 (lv_at hl 7 rfl) ?_
  refine lv_bipush (v := 100) X.1 X.2.1 dX10_bestOwn_48 (by decide) ?_
  refine lv_icmp_ge (tgt := 110) X.1 X.2.1 dX10_bestOwn_50 (by decide) (fun c3 => ?_) (fun c3 => ?_)
  · have hf := bl_ifp c3 hf
    refine lv_aload_n X.1 X.2.1 dX10_bestOwn_110 rfl (lv_at hl 0 rfl) ?_
    refine bl_getr X V hv0 fl_X10_13 rfl dX10_bestOwn_111 (fun h4 => ?_)
    refine lv_iconst (v := 4) X.1 X.2.1 dX10_bestOwn_114 (by decide) ?_
    refine lv_iload X.1 X.2.1 dX10_bestOwn_115 (lv_at hl 4 rfl) ?_
    refine bl_iast (k := 4) X V h4 (by decide) (by decide) dX10_bestOwn_117 (fun σ5 H locs e6 V => ?_)
    have hf := bl_let_at e6 hf
    refine lv_iload X.1 X.2.1 dX10_bestOwn_118 (lv_at hl 5 rfl) ?_
    exact bl_reti X V hr hf dX10_bestOwn_120
  · have hf := bl_ifn c3 hf
    refine lv_aload_n X.1 X.2.1 dX10_bestOwn_53 rfl (lv_at hl 0 rfl) ?_
    refine bl_getr X V hv0 fl_X10_13 rfl dX10_bestOwn_54 (fun h7 => ?_)
    refine lv_iconst (v := 4) X.1 X.2.1 dX10_bestOwn_57 (by decide) ?_
    refine lv_iload X.1 X.2.1 dX10_bestOwn_58 (lv_at hl 7 rfl) ?_
    refine bl_iast (k := 4) X V h7 (by decide) (by decide) dX10_bestOwn_60 (fun σ8 H locs e9 V => ?_)
    have hf := bl_let_at e9 hf
    refine lv_aload_n X.1 X.2.1 dX10_bestOwn_61 rfl (lv_at hl 0 rfl) ?_
    refine lv_iload_n X.1 X.2.1 dX10_bestOwn_62 rfl (lv_at hl 2 rfl) ?_
    refine lv_iload_n X.1 X.2.1 dX10_bestOwn_63 rfl (lv_at hl 3 rfl) ?_
    obtain ⟨r10, σ11, h12, hf⟩ := bl_bd_at hf
    refine bl_cVl (As := [.int v2, .int v3]) X V hl.1 hv0 rfl ml_X10_230 mV_X10_bestCost (t_X10_bestCost l g σ8 v0 v2 v3 _ hv0 h12) rfl rfl ⟨Nat.le_of_ble_eq_true rfl, Nat.le_of_ble_eq_true rfl⟩ rfl rfl (Nat.le_of_ble_eq_true rfl) ⟨Nat.zero_le _, Nat.zero_le _⟩ dX10_bestOwn_64 (fun H locs V => ?_)
    refine lv_iload_n X.1 X.2.1 dX10_bestOwn_67 rfl (lv_at hl 1 rfl) ?_
    refine lv_i2l X.1 X.2.1 dX10_bestOwn_68 rfl ?_
    refine lv_iload X.1 X.2.1 dX10_bestOwn_69 (lv_at hl 7 rfl) ?_
    refine lv_i2l X.1 X.2.1 dX10_bestOwn_71 rfl ?_
    refine lv_lmul X.1 X.2.1 dX10_bestOwn_72 ?_
    refine lv_iload_n X.1 X.2.1 dX10_bestOwn_73 rfl (lv_at hl 2 rfl) ?_
    refine lv_i2l X.1 X.2.1 dX10_bestOwn_74 rfl ?_
    refine lv_lmul X.1 X.2.1 dX10_bestOwn_75 ?_
    refine lv_lsub X.1 X.2.1 dX10_bestOwn_76 ?_
    refine lv_topl (fun x13 e14 => ?_)
    have hf := bl_let_at e14 hf
    refine lv_lstore (lv' := [(9, .long x13), (0, .ref (bl_ad g v0)), (1, .int v1), (2, .int v2), (3, .int v3), (4, .int v4), (5, .int v5), (6, .long v6), (8, .int v8)]) X.1 X.2.1 dX10_bestOwn_77 hl (by decide) rfl (fun ls hl => ?_)
    refine lv_iload X.1 X.2.1 dX10_bestOwn_79 (lv_at hl 6 rfl) ?_
    refine lv_iconst (v := (-1)) X.1 X.2.1 dX10_bestOwn_81 (by decide) ?_
    refine lv_icmp_eq (tgt := 96) X.1 X.2.1 dX10_bestOwn_82 (by decide) (fun c15 => ?_) (fun c15 => ?_)
    · have hf := bl_ifp c15 hf
      exact w_X10_bestOwn_96 X hr k46 hk46 σ11 v0 v1 v2 v3 v4 v8 x13 hv0 hf _ _ _ V (lv_sub hl [1, 2, 3, 4, 5, 8, 0] rfl)
    · have hf := bl_ifn c15 hf
      refine lv_lload X.1 X.2.1 dX10_bestOwn_85 (lv_at hl 0 rfl) ?_
      refine lv_lload X.1 X.2.1 dX10_bestOwn_87 (lv_at hl 7 rfl) ?_
      refine bl_lc_lt (tgt := 96) X dX10_bestOwn_89 dX10_bestOwn_90 (by decide) (fun c16 => ?_) (fun c16 => ?_)
      · have hf := bl_ifp c16 hf
        exact w_X10_bestOwn_96 X hr k46 hk46 σ11 v0 v1 v2 v3 v4 v8 x13 hv0 hf _ _ _ V (lv_sub hl [1, 2, 3, 4, 5, 8, 0] rfl)
      · have hf := bl_ifn c16 hf
        refine lv_goto (tgt := 104) X.1 X.2.1 dX10_bestOwn_93 (by decide) ?_
        exact w_X10_bestOwn_104 X hr k46 hk46 σ11 v0 v1 v2 v3 v4 v5 v6 v8 hv0 hf _ _ _ V (lv_sub hl [1, 2, 3, 4, 5, 6, 7, 8] rfl)
theorem l_X10_bestOwn_46 {p : Program} {l : Launch} {e : Env} {s : State} {m : MethodId} {below : List Frame} {meth : Method} {c : Code} {g : bl_Gp} {as : List Value} {out : Int32 × bl_St} (X : bl_Cx g p s m as.toArray meth c cX10_bestOwn 11 RX10) (hr : meth.sig.returnType = (Option.some Jvm.ClassFile.FieldType.int)) (n : Nat) : ∀ (σ : bl_St) (v0 : Nat) (v1 : Int32) (v2 : Int32) (v3 : Int32) (v4 : Int32) (v5 : Int32) (v6 : Int64) (v8 : Int32), bl_sh[v0]? = some (10, 28) → (bl_fx (fun _ _ _ _ _ _ _ _ _ => none) (b_X10_bestOwn_46 ) n) σ v0 v1 v2 v3 v4 v5 v6 v8 = some out → ∀ (H : Heap) (locs : List Loc) (ls : Array Slot), bl_V g s σ H locs → lv_has ls 11 [(0, .ref (bl_ad g v0)), (1, .int v1), (2, .int v2), (3, .int v3), (4, .int v4), (5, .int v5), (6, .long v6), (8, .int v8)] → W p l e (bl_rm 9 230) s m as.toArray below meth c H locs 0 0 (bl_Qi below g s as out) (F0 m 46 ls []) := by
  induction n with
  | zero =>
    intro σ v0 v1 v2 v3 v4 v5 v6 v8 hv0 hf H locs ls V hl
    cases hf
  | succ n ih => exact w_X10_bestOwn_46 X hr  _ ih
set_option maxHeartbeats 4000000 in
set_option maxRecDepth 100000 in
theorem t_X10_bestOwn (l : Launch) (g : bl_Gp) (σ : bl_St) (a0 : Nat) (a1 : Int32) (a2 : Int32) (a3 : Int32) (o : Int32 × bl_St) (ha0 : bl_sh[a0]? = some (10, 28)) (hf : f_X10_bestOwn σ a0 a1 a2 a3 = some o) : bl_Ci l g yX10_bestOwn cX10_bestOwn 11 (Option.some Jvm.ClassFile.FieldType.int) (bl_rm 9 230) [.ref (bl_ad g a0), .int a1, .int a2, .int a3] σ o := by
  refine bl_met (by decide) (Nat.le_of_ble_eq_true rfl) (fun p e s m below meth c ls X hr V hl => ?_)
  have hl : lv_has ls 11 [(0, .ref (bl_ad g a0)), (1, .int a1), (2, .int a2), (3, .int a3)] := hl
  unfold f_X10_bestOwn at hf
  refine lv_iload_n X.1 X.2.1 dX10_bestOwn_0 rfl (lv_at hl 1 rfl) ?_
  refine lv_i2l X.1 X.2.1 dX10_bestOwn_1 rfl ?_
  refine lv_lconst (v := 0) X.1 X.2.1 dX10_bestOwn_2 (by decide) ?_
  refine lv_ldc2 (v := 9999) X.1 X.2.1 X.2.2.2.1 (X.2.2.2.2.1 _ kl_X10_282) dX10_bestOwn_3 ?_
  obtain ⟨r17, σ18, h19, hf⟩ := bl_bd_at hf
  refine bl_cSi (As := [.long (Int32.toInt64 a1), .long 0, .long 9999]) X V hl.1 ml_X10_66 mS_X10_in (t_X10_in l g σ (Int32.toInt64 a1) 0 9999 _  h19) rfl rfl ⟨Nat.le_of_ble_eq_true rfl, Nat.le_of_ble_eq_true rfl⟩ rfl rfl (Nat.le_of_ble_eq_true rfl) ⟨Nat.zero_le _, Nat.zero_le _⟩ dX10_bestOwn_6 (fun H locs V => ?_)
  refine lv_if_eq (tgt := 27) X.1 X.2.1 dX10_bestOwn_9 (by decide) (fun c20 => ?_) (fun c20 => ?_)
  · have hf := bl_ifp c20 hf
    refine lv_iconst (v := (-1)) X.1 X.2.1 dX10_bestOwn_27 (by decide) ?_
    exact bl_reti X V hr hf dX10_bestOwn_28
  · have hf := bl_ifn c20 hf
    refine lv_iload_n X.1 X.2.1 dX10_bestOwn_12 rfl (lv_at hl 2 rfl) ?_
    obtain ⟨r21, σ22, h23, hf⟩ := bl_bd_at hf
    refine bl_cSi (As := [.int a2]) X V hl.1 ml_X10_227 mS_X10_areYears (t_X10_areYears l g σ18 a2 _  h23) rfl rfl ⟨Nat.le_of_ble_eq_true rfl, Nat.le_of_ble_eq_true rfl⟩ rfl rfl (Nat.le_of_ble_eq_true rfl) ⟨Nat.zero_le _, Nat.zero_le _⟩ dX10_bestOwn_13 (fun H locs V => ?_)
    refine lv_if_eq (tgt := 27) X.1 X.2.1 dX10_bestOwn_16 (by decide) (fun c24 => ?_) (fun c24 => ?_)
    · have hf := bl_ifp c24 hf
      refine lv_iconst (v := (-1)) X.1 X.2.1 dX10_bestOwn_27 (by decide) ?_
      exact bl_reti X V hr hf dX10_bestOwn_28
    · have hf := bl_ifn c24 hf
      refine lv_aload_n X.1 X.2.1 dX10_bestOwn_19 rfl (lv_at hl 0 rfl) ?_
      refine lv_iload_n X.1 X.2.1 dX10_bestOwn_20 rfl (lv_at hl 3 rfl) ?_
      obtain ⟨r25, σ26, h27, hf⟩ := bl_bd_at hf
      refine bl_cVi (As := [.int a3]) X V hl.1 ha0 rfl ml_X10_84 mV_X10_isClass (t_X10_isClass l g σ22 a0 a3 _ ha0 h27) rfl rfl ⟨Nat.le_of_ble_eq_true rfl, Nat.le_of_ble_eq_true rfl⟩ rfl rfl (Nat.le_of_ble_eq_true rfl) ⟨Nat.zero_le _, Nat.zero_le _⟩ dX10_bestOwn_21 (fun H locs V => ?_)
      refine lv_if_ne (tgt := 29) X.1 X.2.1 dX10_bestOwn_24 (by decide) (fun c28 => ?_) (fun c28 => ?_)
      · have hf := bl_ifn c28 hf
        refine lv_aload_n X.1 X.2.1 dX10_bestOwn_29 rfl (lv_at hl 0 rfl) ?_
        refine bl_getr X V ha0 fl_X10_13 rfl dX10_bestOwn_30 (fun h29 => ?_)
        refine lv_iconst (v := 4) X.1 X.2.1 dX10_bestOwn_33 (by decide) ?_
        refine bl_iald (k := 4) X V h29 (by decide) (by decide) dX10_bestOwn_34 ?_
        refine lv_topi (fun x30 e31 => ?_)
        have hf := bl_let_at e31 hf
        refine lv_istore (lv' := [(4, .int x30), (0, .ref (bl_ad g a0)), (1, .int a1), (2, .int a2), (3, .int a3)]) X.1 X.2.1 dX10_bestOwn_35 hl (by decide) rfl (fun ls hl => ?_)
        refine lv_iconst (v := (-1)) X.1 X.2.1 dX10_bestOwn_37 (by decide) ?_
        refine lv_istore (lv' := [(5, .int (-1)), (4, .int x30), (0, .ref (bl_ad g a0)), (1, .int a1), (2, .int a2), (3, .int a3)]) X.1 X.2.1 dX10_bestOwn_38 hl (by decide) rfl (fun ls hl => ?_)
        refine lv_lconst (v := 0) X.1 X.2.1 dX10_bestOwn_40 (by decide) ?_
        refine lv_lstore (lv' := [(6, .long 0), (5, .int (-1)), (4, .int x30), (0, .ref (bl_ad g a0)), (1, .int a1), (2, .int a2), (3, .int a3)]) X.1 X.2.1 dX10_bestOwn_41 hl (by decide) rfl (fun ls hl => ?_)
        refine lv_iconst (v := 0) X.1 X.2.1 dX10_bestOwn_43 (by decide) ?_
        refine lv_istore (lv' := [(8, .int 0), (6, .long 0), (5, .int (-1)), (4, .int x30), (0, .ref (bl_ad g a0)), (1, .int a1), (2, .int a2), (3, .int a3)]) X.1 X.2.1 dX10_bestOwn_44 hl (by decide) rfl (fun ls hl => ?_)
        exact l_X10_bestOwn_46 X hr  bl_fu σ26 a0 a1 a2 a3 x30 (-1) 0 0 ha0 hf _ _ _ V (lv_sub hl [4, 5, 6, 7, 3, 2, 1, 0] rfl)
      · have hf := bl_ifp c28 hf
        refine lv_iconst (v := (-1)) X.1 X.2.1 dX10_bestOwn_27 (by decide) ?_
        exact bl_reti X V hr hf dX10_bestOwn_28
set_option maxHeartbeats 4000000 in
set_option maxRecDepth 100000 in
theorem w_X10_tries_112 {p : Program} {l : Launch} {e : Env} {s : State} {m : MethodId} {below : List Frame} {meth : Method} {c : Code} {g : bl_Gp} {as : List Value} {out : Int32 × bl_St} (X : bl_Cx g p s m as.toArray meth c cX10_tries 10 RX10) (hr : meth.sig.returnType = (Option.some Jvm.ClassFile.FieldType.int)) : ∀ (σ : bl_St) (v0 : Nat) (s0 : Int32), bl_sh[v0]? = some (10, 28) → (b_X10_tries_112 ) σ v0 s0 = some out → ∀ (H : Heap) (locs : List Loc) (ls : Array Slot), bl_V g s σ H locs → lv_has ls 10 [(0, .ref (bl_ad g v0))] → W p l e (bl_rm 9 238) s m as.toArray below meth c H locs 0 0 (bl_Qi below g s as out) (F0 m 112 ls [.int s0]) := by
  intro σ v0 s0 hv0 hf H locs ls V hl
  unfold b_X10_tries_112 at hf
  refine lv_istore (lv' := [(9, .int s0), (0, .ref (bl_ad g v0))]) X.1 X.2.1 dX10_tries_112 hl (by decide) rfl (fun ls hl => ?_)
  refine lv_aload_n X.1 X.2.1 dX10_tries_114 rfl (lv_at hl 1 rfl) ?_
  refine bl_getr X V hv0 fl_X10_20 rfl dX10_tries_115 (fun h1 => ?_)
  refine lv_aload_n X.1 X.2.1 dX10_tries_118 rfl (lv_at hl 1 rfl) ?_
  refine bl_getr X V hv0 fl_X10_13 rfl dX10_tries_119 (fun h2 => ?_)
  obtain ⟨r3, σ4, h5, hf⟩ := bl_bd_at hf
  refine bl_cSv (As := [.ref (bl_ad g (bl_R σ v0 3)), .ref (bl_ad g (bl_R σ v0 1))]) X V hl.1 ml_X10_278 mS_X10_copies (t_X10_copies l g σ (bl_R σ v0 3) (bl_R σ v0 1) _ h1 h2 h5) rfl rfl ⟨Nat.le_of_ble_eq_true rfl, Nat.le_of_ble_eq_true rfl⟩ rfl rfl (Nat.le_of_ble_eq_true rfl) ⟨Nat.zero_le _, Nat.zero_le _⟩ dX10_tries_122 (fun H locs V => ?_)
  refine lv_iload X.1 X.2.1 dX10_tries_125 (lv_at hl 0 rfl) ?_
  exact bl_reti X V hr hf dX10_tries_127
set_option maxHeartbeats 4000000 in
set_option maxRecDepth 100000 in
theorem t_X10_tries (l : Launch) (g : bl_Gp) (σ : bl_St) (a0 : Nat) (a1 : Int32) (a2 : Int32) (a3 : Int32) (a4 : Int32) (a5 : Int32) (o : Int32 × bl_St) (ha0 : bl_sh[a0]? = some (10, 28)) (hf : f_X10_tries σ a0 a1 a2 a3 a4 a5 = some o) : bl_Ci l g yX10_tries cX10_tries 10 (Option.some Jvm.ClassFile.FieldType.int) (bl_rm 9 238) [.ref (bl_ad g a0), .int a1, .int a2, .int a3, .int a4, .int a5] σ o := by
  refine bl_met (by decide) (Nat.le_of_ble_eq_true rfl) (fun p e s m below meth c ls X hr V hl => ?_)
  have hl : lv_has ls 10 [(0, .ref (bl_ad g a0)), (1, .int a1), (2, .int a2), (3, .int a3), (4, .int a4), (5, .int a5)] := hl
  unfold f_X10_tries at hf
  refine lv_aload_n X.1 X.2.1 dX10_tries_0 rfl (lv_at hl 0 rfl) ?_
  refine bl_getr X V ha0 fl_X10_13 rfl dX10_tries_1 (fun h6 => ?_)
  refine lv_aload_n X.1 X.2.1 dX10_tries_4 rfl (lv_at hl 0 rfl) ?_
  refine bl_getr X V ha0 fl_X10_20 rfl dX10_tries_5 (fun h7 => ?_)
  obtain ⟨r8, σ9, h10, hf⟩ := bl_bd_at hf
  refine bl_cSv (As := [.ref (bl_ad g (bl_R σ a0 1)), .ref (bl_ad g (bl_R σ a0 3))]) X V hl.1 ml_X10_278 mS_X10_copies (t_X10_copies l g σ (bl_R σ a0 1) (bl_R σ a0 3) _ h6 h7 h10) rfl rfl ⟨Nat.le_of_ble_eq_true rfl, Nat.le_of_ble_eq_true rfl⟩ rfl rfl (Nat.le_of_ble_eq_true rfl) ⟨Nat.zero_le _, Nat.zero_le _⟩ dX10_tries_8 (fun H locs V => ?_)
  refine lv_aload_n X.1 X.2.1 dX10_tries_11 rfl (lv_at hl 0 rfl) ?_
  refine bl_getr X V ha0 fl_X10_13 rfl dX10_tries_12 (fun h11 => ?_)
  refine lv_bipush (v := 56) X.1 X.2.1 dX10_tries_15 (by decide) ?_
  refine lv_iconst (v := 0) X.1 X.2.1 dX10_tries_17 (by decide) ?_
  refine bl_iast (k := 56) X V h11 (by decide) (by decide) dX10_tries_18 (fun σ12 H locs e13 V => ?_)
  have hf := bl_let_at e13 hf
  refine lv_aload_n X.1 X.2.1 dX10_tries_19 rfl (lv_at hl 0 rfl) ?_
  obtain ⟨r14, σ15, h16, hf⟩ := bl_bd_at hf
  refine bl_cVi (As := []) X V hl.1 ha0 rfl ml_X10_169 mV_X10_allPaid (t_X10_allPaid l g σ12 a0 _ ha0 h16) rfl rfl ⟨Nat.le_of_ble_eq_true rfl, Nat.le_of_ble_eq_true rfl⟩ rfl rfl (Nat.le_of_ble_eq_true rfl) ⟨Nat.zero_le _, Nat.zero_le _⟩ dX10_tries_20 (fun H locs V => ?_)
  refine lv_istore (lv' := [(6, .int r14), (0, .ref (bl_ad g a0)), (1, .int a1), (2, .int a2), (3, .int a3), (4, .int a4), (5, .int a5)]) X.1 X.2.1 dX10_tries_23 hl (by decide) rfl (fun ls hl => ?_)
  refine lv_aload_n X.1 X.2.1 dX10_tries_25 rfl (lv_at hl 1 rfl) ?_
  refine bl_getr X V ha0 fl_X10_13 rfl dX10_tries_26 (fun h17 => ?_)
  refine lv_bipush (v := 65) X.1 X.2.1 dX10_tries_29 (by decide) ?_
  refine bl_iald (k := 65) X V h17 (by decide) (by decide) dX10_tries_31 ?_
  refine lv_topi (fun x18 e19 => ?_)
  have hf := bl_let_at e19 hf
  refine lv_istore (lv' := [(7, .int x18), (6, .int r14), (0, .ref (bl_ad g a0)), (1, .int a1), (2, .int a2), (3, .int a3), (4, .int a4), (5, .int a5)]) X.1 X.2.1 dX10_tries_32 hl (by decide) rfl (fun ls hl => ?_)
  refine lv_aload_n X.1 X.2.1 dX10_tries_34 rfl (lv_at hl 2 rfl) ?_
  refine bl_getr X V ha0 fl_X10_13 rfl dX10_tries_35 (fun h20 => ?_)
  refine lv_bipush (v := 66) X.1 X.2.1 dX10_tries_38 (by decide) ?_
  refine bl_iald (k := 66) X V h20 (by decide) (by decide) dX10_tries_40 ?_
  refine lv_topi (fun x21 e22 => ?_)
  have hf := bl_let_at e22 hf
  refine lv_istore (lv' := [(8, .int x21), (7, .int x18), (6, .int r14), (0, .ref (bl_ad g a0)), (1, .int a1), (2, .int a2), (3, .int a3), (4, .int a4), (5, .int a5)]) X.1 X.2.1 dX10_tries_41 hl (by decide) rfl (fun ls hl => ?_)
  refine lv_aload_n X.1 X.2.1 dX10_tries_43 rfl (lv_at hl 3 rfl) ?_
  refine lv_iload_n X.1 X.2.1 dX10_tries_44 rfl (lv_at hl 4 rfl) ?_
  refine lv_iload_n X.1 X.2.1 dX10_tries_45 rfl (lv_at hl 5 rfl) ?_
  refine lv_iload_n X.1 X.2.1 dX10_tries_46 rfl (lv_at hl 6 rfl) ?_
  refine lv_iload X.1 X.2.1 dX10_tries_47 (lv_at hl 7 rfl) ?_
  obtain ⟨r23, σ24, h25, hf⟩ := bl_bd_at hf
  refine bl_cVv (As := [.int a1, .int a2, .int a3, .int a4]) X V hl.1 ha0 rfl ml_X10_172 mV_X10_lives (t_X10_lives l g σ15 a0 a1 a2 a3 a4 _ ha0 h25) rfl rfl ⟨Nat.le_of_ble_eq_true rfl, Nat.le_of_ble_eq_true rfl⟩ rfl rfl (Nat.le_of_ble_eq_true rfl) ⟨Nat.zero_le _, Nat.zero_le _⟩ dX10_tries_49 (fun H locs V => ?_)
  refine lv_iload X.1 X.2.1 dX10_tries_52 (lv_at hl 8 rfl) ?_
  refine lv_if_ne (tgt := 67) X.1 X.2.1 dX10_tries_54 (by decide) (fun c26 => ?_) (fun c26 => ?_)
  · have hf := bl_ifn c26 hf
    refine lv_iload X.1 X.2.1 dX10_tries_67 (lv_at hl 8 rfl) ?_
    refine lv_iconst (v := 1) X.1 X.2.1 dX10_tries_69 (by decide) ?_
    refine lv_icmp_ne (tgt := 86) X.1 X.2.1 dX10_tries_70 (by decide) (fun c27 => ?_) (fun c27 => ?_)
    · have hf := bl_ifn c27 hf
      refine lv_iload X.1 X.2.1 dX10_tries_86 (lv_at hl 8 rfl) ?_
      refine lv_iconst (v := 2) X.1 X.2.1 dX10_tries_88 (by decide) ?_
      refine lv_icmp_ne (tgt := 105) X.1 X.2.1 dX10_tries_89 (by decide) (fun c28 => ?_) (fun c28 => ?_)
      · have hf := bl_ifn c28 hf
        refine lv_aload_n X.1 X.2.1 dX10_tries_105 rfl (lv_at hl 3 rfl) ?_
        refine bl_getr X V ha0 fl_X10_13 rfl dX10_tries_106 (fun h29 => ?_)
        refine lv_bipush (v := 55) X.1 X.2.1 dX10_tries_109 (by decide) ?_
        refine bl_iald (k := 55) X V h29 (by decide) (by decide) dX10_tries_111 ?_
        exact w_X10_tries_112 X hr  σ24 a0 (bl_I σ24 (bl_R σ24 a0 1) 55) ha0 hf _ _ _ V (lv_sub hl [3] rfl)
      · have hf := bl_ifp c28 hf
        refine lv_aload_n X.1 X.2.1 dX10_tries_92 rfl (lv_at hl 3 rfl) ?_
        refine bl_getr X V ha0 fl_X10_13 rfl dX10_tries_93 (fun h30 => ?_)
        refine lv_bipush (v := 66) X.1 X.2.1 dX10_tries_96 (by decide) ?_
        refine bl_iald (k := 66) X V h30 (by decide) (by decide) dX10_tries_98 ?_
        refine lv_iload X.1 X.2.1 dX10_tries_99 (lv_at hl 0 rfl) ?_
        refine lv_isub X.1 X.2.1 dX10_tries_101 ?_
        refine lv_goto (tgt := 112) X.1 X.2.1 dX10_tries_102 (by decide) ?_
        exact w_X10_tries_112 X hr  σ24 a0 ((bl_I σ24 (bl_R σ24 a0 1) 66) - x21) ha0 hf _ _ _ V (lv_sub hl [3] rfl)
    · have hf := bl_ifp c27 hf
      refine lv_aload_n X.1 X.2.1 dX10_tries_73 rfl (lv_at hl 3 rfl) ?_
      refine bl_getr X V ha0 fl_X10_13 rfl dX10_tries_74 (fun h31 => ?_)
      refine lv_bipush (v := 65) X.1 X.2.1 dX10_tries_77 (by decide) ?_
      refine bl_iald (k := 65) X V h31 (by decide) (by decide) dX10_tries_79 ?_
      refine lv_iload X.1 X.2.1 dX10_tries_80 (lv_at hl 1 rfl) ?_
      refine lv_isub X.1 X.2.1 dX10_tries_82 ?_
      refine lv_goto (tgt := 112) X.1 X.2.1 dX10_tries_83 (by decide) ?_
      exact w_X10_tries_112 X hr  σ24 a0 ((bl_I σ24 (bl_R σ24 a0 1) 65) - x18) ha0 hf _ _ _ V (lv_sub hl [3] rfl)
  · have hf := bl_ifp c26 hf
    refine lv_aload_n X.1 X.2.1 dX10_tries_57 rfl (lv_at hl 3 rfl) ?_
    obtain ⟨r32, σ33, h34, hf⟩ := bl_bd_at hf
    refine bl_cVi (As := []) X V hl.1 ha0 rfl ml_X10_169 mV_X10_allPaid (t_X10_allPaid l g σ24 a0 _ ha0 h34) rfl rfl ⟨Nat.le_of_ble_eq_true rfl, Nat.le_of_ble_eq_true rfl⟩ rfl rfl (Nat.le_of_ble_eq_true rfl) ⟨Nat.zero_le _, Nat.zero_le _⟩ dX10_tries_58 (fun H locs V => ?_)
    refine lv_iload X.1 X.2.1 dX10_tries_61 (lv_at hl 2 rfl) ?_
    refine lv_isub X.1 X.2.1 dX10_tries_63 ?_
    refine lv_goto (tgt := 112) X.1 X.2.1 dX10_tries_64 (by decide) ?_
    exact w_X10_tries_112 X hr  σ33 a0 (r32 - r14) ha0 hf _ _ _ V (lv_sub hl [3] rfl)
set_option maxHeartbeats 4000000 in
set_option maxRecDepth 100000 in
theorem t_X10_would (l : Launch) (g : bl_Gp) (σ : bl_St) (a0 : Nat) (a1 : Int32) (a2 : Int32) (a3 : Int32) (a4 : Int32) (a5 : Int32) (o : Int32 × bl_St) (ha0 : bl_sh[a0]? = some (10, 28)) (hf : f_X10_would σ a0 a1 a2 a3 a4 a5 = some o) : bl_Ci l g yX10_would cX10_would 6 (Option.some Jvm.ClassFile.FieldType.int) (bl_rm 10 267) [.ref (bl_ad g a0), .int a1, .int a2, .int a3, .int a4, .int a5] σ o := by
  refine bl_met (by decide) (Nat.le_of_ble_eq_true rfl) (fun p e s m below meth c ls X hr V hl => ?_)
  have hl : lv_has ls 6 [(0, .ref (bl_ad g a0)), (1, .int a1), (2, .int a2), (3, .int a3), (4, .int a4), (5, .int a5)] := hl
  unfold f_X10_would at hf
  refine lv_aload_n X.1 X.2.1 dX10_would_0 rfl (lv_at hl 0 rfl) ?_
  refine bl_getr X V ha0 fl_X10_13 rfl dX10_would_1 (fun h1 => ?_)
  refine lv_iconst (v := 0) X.1 X.2.1 dX10_would_4 (by decide) ?_
  refine bl_iald (k := 0) X V h1 (by decide) (by decide) dX10_would_5 ?_
  refine lv_if_le (tgt := 45) X.1 X.2.1 dX10_would_6 (by decide) (fun c2 => ?_) (fun c2 => ?_)
  · have hf := bl_ifp c2 hf
    refine lv_iconst (v := (-1)) X.1 X.2.1 dX10_would_45 (by decide) ?_
    exact bl_reti X V hr hf dX10_would_46
  · have hf := bl_ifn c2 hf
    refine lv_iload_n X.1 X.2.1 dX10_would_9 rfl (lv_at hl 1 rfl) ?_
    refine lv_iload_n X.1 X.2.1 dX10_would_10 rfl (lv_at hl 2 rfl) ?_
    refine lv_iload_n X.1 X.2.1 dX10_would_11 rfl (lv_at hl 3 rfl) ?_
    obtain ⟨r3, σ4, h5, hf⟩ := bl_bd_at hf
    refine bl_cSi (As := [.int a1, .int a2, .int a3]) X V hl.1 ml_X10_165 mS_X10_isLived (t_X10_isLived l g σ a1 a2 a3 _  h5) rfl rfl ⟨Nat.le_of_ble_eq_true rfl, Nat.le_of_ble_eq_true rfl⟩ rfl rfl (Nat.le_of_ble_eq_true rfl) ⟨Nat.zero_le _, Nat.zero_le _⟩ dX10_would_12 (fun H locs V => ?_)
    refine lv_if_eq (tgt := 45) X.1 X.2.1 dX10_would_15 (by decide) (fun c6 => ?_) (fun c6 => ?_)
    · have hf := bl_ifp c6 hf
      refine lv_iconst (v := (-1)) X.1 X.2.1 dX10_would_45 (by decide) ?_
      exact bl_reti X V hr hf dX10_would_46
    · have hf := bl_ifn c6 hf
      refine lv_iload X.1 X.2.1 dX10_would_18 (lv_at hl 5 rfl) ?_
      refine lv_i2l X.1 X.2.1 dX10_would_20 rfl ?_
      refine lv_lconst (v := 0) X.1 X.2.1 dX10_would_21 (by decide) ?_
      refine lv_ldc2 (v := 3) X.1 X.2.1 X.2.2.2.1 (X.2.2.2.2.1 _ kl_X10_100) dX10_would_22 ?_
      obtain ⟨r7, σ8, h9, hf⟩ := bl_bd_at hf
      refine bl_cSi (As := [.long (Int32.toInt64 a5), .long 0, .long 3]) X V hl.1 ml_X10_66 mS_X10_in (t_X10_in l g σ4 (Int32.toInt64 a5) 0 3 _  h9) rfl rfl ⟨Nat.le_of_ble_eq_true rfl, Nat.le_of_ble_eq_true rfl⟩ rfl rfl (Nat.le_of_ble_eq_true rfl) ⟨Nat.zero_le _, Nat.zero_le _⟩ dX10_would_25 (fun H locs V => ?_)
      refine lv_if_eq (tgt := 45) X.1 X.2.1 dX10_would_28 (by decide) (fun c10 => ?_) (fun c10 => ?_)
      · have hf := bl_ifp c10 hf
        refine lv_iconst (v := (-1)) X.1 X.2.1 dX10_would_45 (by decide) ?_
        exact bl_reti X V hr hf dX10_would_46
      · have hf := bl_ifn c10 hf
        refine lv_aload_n X.1 X.2.1 dX10_would_31 rfl (lv_at hl 0 rfl) ?_
        refine lv_iload_n X.1 X.2.1 dX10_would_32 rfl (lv_at hl 1 rfl) ?_
        refine lv_iload_n X.1 X.2.1 dX10_would_33 rfl (lv_at hl 2 rfl) ?_
        refine lv_iload_n X.1 X.2.1 dX10_would_34 rfl (lv_at hl 3 rfl) ?_
        refine lv_iload X.1 X.2.1 dX10_would_35 (lv_at hl 4 rfl) ?_
        refine lv_iload X.1 X.2.1 dX10_would_37 (lv_at hl 5 rfl) ?_
        obtain ⟨r11, σ12, h13, hf⟩ := bl_bd_at hf
        refine bl_cVi (As := [.int a1, .int a2, .int a3, .int a4, .int a5]) X V hl.1 ha0 rfl ml_X10_284 mV_X10_tries (t_X10_tries l g σ8 a0 a1 a2 a3 a4 a5 _ ha0 h13) rfl rfl ⟨Nat.le_of_ble_eq_true rfl, Nat.le_of_ble_eq_true rfl⟩ rfl rfl (Nat.le_of_ble_eq_true rfl) ⟨Nat.zero_le _, Nat.zero_le _⟩ dX10_would_39 (fun H locs V => ?_)
        refine lv_goto (tgt := 46) X.1 X.2.1 dX10_would_42 (by decide) ?_
        exact bl_reti X V hr hf dX10_would_46
set_option maxHeartbeats 4000000 in
set_option maxRecDepth 100000 in
theorem w_X10_bestRule_74 {p : Program} {l : Launch} {e : Env} {s : State} {m : MethodId} {below : List Frame} {meth : Method} {c : Code} {g : bl_Gp} {as : List Value} {out : Int32 × bl_St} (X : bl_Cx g p s m as.toArray meth c cX10_bestRule 7 RX10) (hr : meth.sig.returnType = (Option.some Jvm.ClassFile.FieldType.int)) (k39 : bl_St → Nat → Int32 → Int32 → Int32 → Int32 → Int32 → Option (Int32 × bl_St)) (hk39 : ∀ (σ : bl_St) (v0 : Nat) (v1 : Int32) (v2 : Int32) (v3 : Int32) (v4 : Int32) (v5 : Int32), bl_sh[v0]? = some (10, 28) → k39 σ v0 v1 v2 v3 v4 v5 = some out → ∀ (H : Heap) (locs : List Loc) (ls : Array Slot), bl_V g s σ H locs → lv_has ls 7 [(0, .ref (bl_ad g v0)), (1, .int v1), (2, .int v2), (3, .int v3), (4, .int v4), (5, .int v5)] → W p l e (bl_rm 10 267) s m as.toArray below meth c H locs 0 0 (bl_Qi below g s as out) (F0 m 39 ls [])) : ∀ (σ : bl_St) (v0 : Nat) (v1 : Int32) (v2 : Int32) (v3 : Int32) (v4 : Int32) (v5 : Int32), bl_sh[v0]? = some (10, 28) → (b_X10_bestRule_74 k39) σ v0 v1 v2 v3 v4 v5 = some out → ∀ (H : Heap) (locs : List Loc) (ls : Array Slot), bl_V g s σ H locs → lv_has ls 7 [(0, .ref (bl_ad g v0)), (1, .int v1), (2, .int v2), (3, .int v3), (4, .int v4), (5, .int v5)] → W p l e (bl_rm 10 267) s m as.toArray below meth c H locs 0 0 (bl_Qi below g s as out) (F0 m 74 ls []) := by
  intro σ v0 v1 v2 v3 v4 v5 hv0 hf H locs ls V hl
  unfold b_X10_bestRule_74 at hf
  obtain ⟨x1, e2⟩ : ∃ z : Int32, z = v5 + 1 := ⟨_, rfl⟩
  have hf := bl_let_at e2 hf
  refine lv_iinc (v := x1) (lv' := [(5, .int x1), (0, .ref (bl_ad g v0)), (1, .int v1), (2, .int v2), (3, .int v3), (4, .int v4)]) X.1 X.2.1 dX10_bestRule_74 hl (k := 5) rfl (by rw [e2]; rfl) (by decide) rfl (fun ls hl => ?_)
  refine lv_goto (tgt := 39) X.1 X.2.1 dX10_bestRule_77 (by decide) ?_
  exact hk39 σ v0 v1 v2 v3 v4 x1 hv0 hf _ _ _ V (lv_sub hl [1, 2, 3, 4, 5, 0] rfl)
set_option maxHeartbeats 4000000 in
set_option maxRecDepth 100000 in
theorem w_X10_bestRule_39 {p : Program} {l : Launch} {e : Env} {s : State} {m : MethodId} {below : List Frame} {meth : Method} {c : Code} {g : bl_Gp} {as : List Value} {out : Int32 × bl_St} (X : bl_Cx g p s m as.toArray meth c cX10_bestRule 7 RX10) (hr : meth.sig.returnType = (Option.some Jvm.ClassFile.FieldType.int)) (k39 : bl_St → Nat → Int32 → Int32 → Int32 → Int32 → Int32 → Option (Int32 × bl_St)) (hk39 : ∀ (σ : bl_St) (v0 : Nat) (v1 : Int32) (v2 : Int32) (v3 : Int32) (v4 : Int32) (v5 : Int32), bl_sh[v0]? = some (10, 28) → k39 σ v0 v1 v2 v3 v4 v5 = some out → ∀ (H : Heap) (locs : List Loc) (ls : Array Slot), bl_V g s σ H locs → lv_has ls 7 [(0, .ref (bl_ad g v0)), (1, .int v1), (2, .int v2), (3, .int v3), (4, .int v4), (5, .int v5)] → W p l e (bl_rm 10 267) s m as.toArray below meth c H locs 0 0 (bl_Qi below g s as out) (F0 m 39 ls [])) : ∀ (σ : bl_St) (v0 : Nat) (v1 : Int32) (v2 : Int32) (v3 : Int32) (v4 : Int32) (v5 : Int32), bl_sh[v0]? = some (10, 28) → (b_X10_bestRule_39 k39) σ v0 v1 v2 v3 v4 v5 = some out → ∀ (H : Heap) (locs : List Loc) (ls : Array Slot), bl_V g s σ H locs → lv_has ls 7 [(0, .ref (bl_ad g v0)), (1, .int v1), (2, .int v2), (3, .int v3), (4, .int v4), (5, .int v5)] → W p l e (bl_rm 10 267) s m as.toArray below meth c H locs 0 0 (bl_Qi below g s as out) (F0 m 39 ls []) := by
  intro σ v0 v1 v2 v3 v4 v5 hv0 hf H locs ls V hl
  unfold b_X10_bestRule_39 at hf
  refine lv_iload X.1 X.2.1 dX10_bestRule_39 (lv_at hl 5 rfl) ?_
  refine lv_iconst (v := 3) X.1 X.2.1 dX10_bestRule_41 (by decide) ?_
  refine lv_icmp_ge (tgt := 80) X.1 X.2.1 dX10_bestRule_42 (by decide) (fun c3 => ?_) (fun c3 => ?_)
  · have hf := bl_ifp c3 hf
    refine lv_iload_n X.1 X.2.1 dX10_bestRule_80 rfl (lv_at hl 3 rfl) ?_
    exact bl_reti X V hr hf dX10_bestRule_81
  · have hf := bl_ifn c3 hf
    refine lv_aload_n X.1 X.2.1 dX10_bestRule_45 rfl (lv_at hl 0 rfl) ?_
    refine lv_iload_n X.1 X.2.1 dX10_bestRule_46 rfl (lv_at hl 1 rfl) ?_
    refine lv_iload X.1 X.2.1 dX10_bestRule_47 (lv_at hl 5 rfl) ?_
    refine lv_iconst (v := 0) X.1 X.2.1 dX10_bestRule_49 (by decide) ?_
    refine lv_iload_n X.1 X.2.1 dX10_bestRule_50 rfl (lv_at hl 2 rfl) ?_
    refine lv_iconst (v := 0) X.1 X.2.1 dX10_bestRule_51 (by decide) ?_
    obtain ⟨r4, σ5, h6, hf⟩ := bl_bd_at hf
    refine bl_cVi (As := [.int v1, .int v5, .int 0, .int v2, .int 0]) X V hl.1 hv0 rfl ml_X10_284 mV_X10_tries (t_X10_tries l g σ v0 v1 v5 0 v2 0 _ hv0 h6) rfl rfl ⟨Nat.le_of_ble_eq_true rfl, Nat.le_of_ble_eq_true rfl⟩ rfl rfl (Nat.le_of_ble_eq_true rfl) ⟨Nat.zero_le _, Nat.zero_le _⟩ dX10_bestRule_52 (fun H locs V => ?_)
    refine lv_istore (lv' := [(6, .int r4), (0, .ref (bl_ad g v0)), (1, .int v1), (2, .int v2), (3, .int v3), (4, .int v4), (5, .int v5)]) X.1 X.2.1 dX10_bestRule_55 hl (by decide) rfl (fun ls hl => ?_)
    refine lv_iload X.1 X.2.1 dX10_bestRule_57 (lv_at hl 0 rfl) ?_
    refine lv_iload X.1 X.2.1 dX10_bestRule_59 (lv_at hl 5 rfl) ?_
    refine lv_icmp_lt (tgt := 67) X.1 X.2.1 dX10_bestRule_61 (by decide) (fun c7 => ?_) (fun c7 => ?_)
    · have hf := bl_ifp c7 hf
      refine lv_iload X.1 X.2.1 dX10_bestRule_67 (lv_at hl 6 rfl) ?_
      refine lv_istore_n (lv' := [(3, .int v5), (6, .int r4), (0, .ref (bl_ad g v0)), (1, .int v1), (2, .int v2), (4, .int v4), (5, .int v5)]) X.1 X.2.1 dX10_bestRule_69 rfl hl (by decide) rfl (fun ls hl => ?_)
      refine lv_iload X.1 X.2.1 dX10_bestRule_70 (lv_at hl 1 rfl) ?_
      refine lv_istore (lv' := [(4, .int r4), (3, .int v5), (6, .int r4), (0, .ref (bl_ad g v0)), (1, .int v1), (2, .int v2), (5, .int v5)]) X.1 X.2.1 dX10_bestRule_72 hl (by decide) rfl (fun ls hl => ?_)
      exact w_X10_bestRule_74 X hr k39 hk39 σ5 v0 v1 v2 v5 r4 v5 hv0 hf _ _ _ V (lv_sub hl [3, 4, 5, 1, 0, 6] rfl)
    · have hf := bl_ifn c7 hf
      refine lv_goto (tgt := 74) X.1 X.2.1 dX10_bestRule_64 (by decide) ?_
      exact w_X10_bestRule_74 X hr k39 hk39 σ5 v0 v1 v2 v3 v4 v5 hv0 hf _ _ _ V (lv_sub hl [1, 2, 3, 4, 5, 6] rfl)
theorem l_X10_bestRule_39 {p : Program} {l : Launch} {e : Env} {s : State} {m : MethodId} {below : List Frame} {meth : Method} {c : Code} {g : bl_Gp} {as : List Value} {out : Int32 × bl_St} (X : bl_Cx g p s m as.toArray meth c cX10_bestRule 7 RX10) (hr : meth.sig.returnType = (Option.some Jvm.ClassFile.FieldType.int)) (n : Nat) : ∀ (σ : bl_St) (v0 : Nat) (v1 : Int32) (v2 : Int32) (v3 : Int32) (v4 : Int32) (v5 : Int32), bl_sh[v0]? = some (10, 28) → (bl_fx (fun _ _ _ _ _ _ _ => none) (b_X10_bestRule_39 ) n) σ v0 v1 v2 v3 v4 v5 = some out → ∀ (H : Heap) (locs : List Loc) (ls : Array Slot), bl_V g s σ H locs → lv_has ls 7 [(0, .ref (bl_ad g v0)), (1, .int v1), (2, .int v2), (3, .int v3), (4, .int v4), (5, .int v5)] → W p l e (bl_rm 10 267) s m as.toArray below meth c H locs 0 0 (bl_Qi below g s as out) (F0 m 39 ls []) := by
  induction n with
  | zero =>
    intro σ v0 v1 v2 v3 v4 v5 hv0 hf H locs ls V hl
    cases hf
  | succ n ih => exact w_X10_bestRule_39 X hr  _ ih
set_option maxHeartbeats 4000000 in
set_option maxRecDepth 100000 in
theorem t_X10_bestRule (l : Launch) (g : bl_Gp) (σ : bl_St) (a0 : Nat) (a1 : Int32) (a2 : Int32) (o : Int32 × bl_St) (ha0 : bl_sh[a0]? = some (10, 28)) (hf : f_X10_bestRule σ a0 a1 a2 = some o) : bl_Ci l g yX10_bestRule cX10_bestRule 7 (Option.some Jvm.ClassFile.FieldType.int) (bl_rm 10 267) [.ref (bl_ad g a0), .int a1, .int a2] σ o := by
  refine bl_met (by decide) (Nat.le_of_ble_eq_true rfl) (fun p e s m below meth c ls X hr V hl => ?_)
  have hl : lv_has ls 7 [(0, .ref (bl_ad g a0)), (1, .int a1), (2, .int a2)] := hl
  unfold f_X10_bestRule at hf
  refine lv_aload_n X.1 X.2.1 dX10_bestRule_0 rfl (lv_at hl 0 rfl) ?_
  refine bl_getr X V ha0 fl_X10_13 rfl dX10_bestRule_1 (fun h8 => ?_)
  refine lv_iconst (v := 0) X.1 X.2.1 dX10_bestRule_4 (by decide) ?_
  refine bl_iald (k := 0) X V h8 (by decide) (by decide) dX10_bestRule_5 ?_
  refine lv_if_eq (tgt := 21) X.1 X.2.1 dX10_bestRule_6 (by decide) (fun c9 => ?_) (fun c9 => ?_)
  · have hf := bl_ifp c9 hf
    refine lv_iconst (v := (-1)) X.1 X.2.1 dX10_bestRule_21 (by decide) ?_
    exact bl_reti X V hr hf dX10_bestRule_22
  · have hf := bl_ifn c9 hf
    refine lv_iload_n X.1 X.2.1 dX10_bestRule_9 rfl (lv_at hl 1 rfl) ?_
    refine lv_i2l X.1 X.2.1 dX10_bestRule_10 rfl ?_
    refine lv_lconst (v := 1) X.1 X.2.1 dX10_bestRule_11 (by decide) ?_
    refine lv_ldc2 (v := 20) X.1 X.2.1 X.2.2.2.1 (X.2.2.2.2.1 _ kl_X10_163) dX10_bestRule_12 ?_
    obtain ⟨r10, σ11, h12, hf⟩ := bl_bd_at hf
    refine bl_cSi (As := [.long (Int32.toInt64 a1), .long 1, .long 20]) X V hl.1 ml_X10_66 mS_X10_in (t_X10_in l g σ (Int32.toInt64 a1) 1 20 _  h12) rfl rfl ⟨Nat.le_of_ble_eq_true rfl, Nat.le_of_ble_eq_true rfl⟩ rfl rfl (Nat.le_of_ble_eq_true rfl) ⟨Nat.zero_le _, Nat.zero_le _⟩ dX10_bestRule_15 (fun H locs V => ?_)
    refine lv_if_ne (tgt := 23) X.1 X.2.1 dX10_bestRule_18 (by decide) (fun c13 => ?_) (fun c13 => ?_)
    · have hf := bl_ifn c13 hf
      refine lv_iconst (v := 0) X.1 X.2.1 dX10_bestRule_23 (by decide) ?_
      refine lv_istore_n (lv' := [(3, .int 0), (0, .ref (bl_ad g a0)), (1, .int a1), (2, .int a2)]) X.1 X.2.1 dX10_bestRule_24 rfl hl (by decide) rfl (fun ls hl => ?_)
      refine lv_aload_n X.1 X.2.1 dX10_bestRule_25 rfl (lv_at hl 1 rfl) ?_
      refine lv_iload_n X.1 X.2.1 dX10_bestRule_26 rfl (lv_at hl 2 rfl) ?_
      refine lv_iconst (v := 0) X.1 X.2.1 dX10_bestRule_27 (by decide) ?_
      refine lv_iconst (v := 0) X.1 X.2.1 dX10_bestRule_28 (by decide) ?_
      refine lv_iload_n X.1 X.2.1 dX10_bestRule_29 rfl (lv_at hl 3 rfl) ?_
      refine lv_iconst (v := 0) X.1 X.2.1 dX10_bestRule_30 (by decide) ?_
      obtain ⟨r14, σ15, h16, hf⟩ := bl_bd_at hf
      refine bl_cVi (As := [.int a1, .int 0, .int 0, .int a2, .int 0]) X V hl.1 ha0 rfl ml_X10_284 mV_X10_tries (t_X10_tries l g σ11 a0 a1 0 0 a2 0 _ ha0 h16) rfl rfl ⟨Nat.le_of_ble_eq_true rfl, Nat.le_of_ble_eq_true rfl⟩ rfl rfl (Nat.le_of_ble_eq_true rfl) ⟨Nat.zero_le _, Nat.zero_le _⟩ dX10_bestRule_31 (fun H locs V => ?_)
      refine lv_istore (lv' := [(4, .int r14), (3, .int 0), (0, .ref (bl_ad g a0)), (1, .int a1), (2, .int a2)]) X.1 X.2.1 dX10_bestRule_34 hl (by decide) rfl (fun ls hl => ?_)
      refine lv_iconst (v := 1) X.1 X.2.1 dX10_bestRule_36 (by decide) ?_
      refine lv_istore (lv' := [(5, .int 1), (4, .int r14), (3, .int 0), (0, .ref (bl_ad g a0)), (1, .int a1), (2, .int a2)]) X.1 X.2.1 dX10_bestRule_37 hl (by decide) rfl (fun ls hl => ?_)
      exact l_X10_bestRule_39 X hr  bl_fu σ15 a0 a1 a2 0 r14 1 ha0 hf _ _ _ V (lv_sub hl [3, 4, 5, 2, 1, 0] rfl)
    · have hf := bl_ifp c13 hf
      refine lv_iconst (v := (-1)) X.1 X.2.1 dX10_bestRule_21 (by decide) ?_
      exact bl_reti X V hr hf dX10_bestRule_22
set_option maxHeartbeats 4000000 in
set_option maxRecDepth 100000 in
theorem w_X10_dearest_93 {p : Program} {l : Launch} {e : Env} {s : State} {m : MethodId} {below : List Frame} {meth : Method} {c : Code} {g : bl_Gp} {as : List Value} {out : Int32 × bl_St} (X : bl_Cx g p s m as.toArray meth c cX10_dearest 7 RX10) (hr : meth.sig.returnType = (Option.some Jvm.ClassFile.FieldType.int)) : ∀ (σ : bl_St) (v0 : Nat) (v3 : Int32) (v4 : Int32) (v5 : Int32), bl_sh[v0]? = some (10, 28) → (b_X10_dearest_93 ) σ v0 v3 v4 v5 = some out → ∀ (H : Heap) (locs : List Loc) (ls : Array Slot), bl_V g s σ H locs → lv_has ls 7 [(0, .ref (bl_ad g v0)), (3, .int v3), (4, .int v4), (5, .int v5)] → W p l e (bl_rm 8 208) s m as.toArray below meth c H locs 0 0 (bl_Qi below g s as out) (F0 m 93 ls []) := by
  intro σ v0 v3 v4 v5 hv0 hf H locs ls V hl
  unfold b_X10_dearest_93 at hf
  refine lv_aload_n X.1 X.2.1 dX10_dearest_93 rfl (lv_at hl 0 rfl) ?_
  refine bl_getr X V hv0 fl_X10_13 rfl dX10_dearest_94 (fun h1 => ?_)
  refine lv_iload_n X.1 X.2.1 dX10_dearest_97 rfl (lv_at hl 1 rfl) ?_
  refine lv_iload X.1 X.2.1 dX10_dearest_98 (lv_at hl 2 rfl) ?_
  obtain ⟨h2, hf⟩ := bl_gd_at hf
  refine bl_iast (k := (Int32.toNatClampNeg v3)) X V h1 h2 rfl dX10_dearest_100 (fun σ3 H locs e4 V => ?_)
  have hf := bl_let_at e4 hf
  refine lv_iload X.1 X.2.1 dX10_dearest_101 (lv_at hl 3 rfl) ?_
  exact bl_reti X V hr hf dX10_dearest_103
set_option maxHeartbeats 4000000 in
set_option maxRecDepth 100000 in
theorem w_X10_dearest_87 {p : Program} {l : Launch} {e : Env} {s : State} {m : MethodId} {below : List Frame} {meth : Method} {c : Code} {g : bl_Gp} {as : List Value} {out : Int32 × bl_St} (X : bl_Cx g p s m as.toArray meth c cX10_dearest 7 RX10) (hr : meth.sig.returnType = (Option.some Jvm.ClassFile.FieldType.int)) (k46 : bl_St → Nat → Int32 → Int32 → Int32 → Int32 → Int32 → Int32 → Option (Int32 × bl_St)) (hk46 : ∀ (σ : bl_St) (v0 : Nat) (v1 : Int32) (v2 : Int32) (v3 : Int32) (v4 : Int32) (v5 : Int32) (v6 : Int32), bl_sh[v0]? = some (10, 28) → k46 σ v0 v1 v2 v3 v4 v5 v6 = some out → ∀ (H : Heap) (locs : List Loc) (ls : Array Slot), bl_V g s σ H locs → lv_has ls 7 [(0, .ref (bl_ad g v0)), (1, .int v1), (2, .int v2), (3, .int v3), (4, .int v4), (5, .int v5), (6, .int v6)] → W p l e (bl_rm 8 208) s m as.toArray below meth c H locs 0 0 (bl_Qi below g s as out) (F0 m 46 ls [])) : ∀ (σ : bl_St) (v0 : Nat) (v1 : Int32) (v2 : Int32) (v3 : Int32) (v4 : Int32) (v5 : Int32) (v6 : Int32), bl_sh[v0]? = some (10, 28) → (b_X10_dearest_87 k46) σ v0 v1 v2 v3 v4 v5 v6 = some out → ∀ (H : Heap) (locs : List Loc) (ls : Array Slot), bl_V g s σ H locs → lv_has ls 7 [(0, .ref (bl_ad g v0)), (1, .int v1), (2, .int v2), (3, .int v3), (4, .int v4), (5, .int v5), (6, .int v6)] → W p l e (bl_rm 8 208) s m as.toArray below meth c H locs 0 0 (bl_Qi below g s as out) (F0 m 87 ls []) := by
  intro σ v0 v1 v2 v3 v4 v5 v6 hv0 hf H locs ls V hl
  unfold b_X10_dearest_87 at hf
  obtain ⟨x5, e6⟩ : ∃ z : Int32, z = v6 + (-1) := ⟨_, rfl⟩
  have hf := bl_let_at e6 hf
  refine lv_iinc (v := x5) (lv' := [(6, .int x5), (0, .ref (bl_ad g v0)), (1, .int v1), (2, .int v2), (3, .int v3), (4, .int v4), (5, .int v5)]) X.1 X.2.1 dX10_dearest_87 hl (k := 6) rfl (by rw [e6]; rfl) (by decide) rfl (fun ls hl => ?_)
  refine lv_goto (tgt := 46) X.1 X.2.1 dX10_dearest_90 (by decide) ?_
  exact hk46 σ v0 v1 v2 v3 v4 v5 x5 hv0 hf _ _ _ V (lv_sub hl [1, 2, 3, 4, 5, 6, 0] rfl)
set_option maxHeartbeats 4000000 in
set_option maxRecDepth 100000 in
theorem w_X10_dearest_46 {p : Program} {l : Launch} {e : Env} {s : State} {m : MethodId} {below : List Frame} {meth : Method} {c : Code} {g : bl_Gp} {as : List Value} {out : Int32 × bl_St} (X : bl_Cx g p s m as.toArray meth c cX10_dearest 7 RX10) (hr : meth.sig.returnType = (Option.some Jvm.ClassFile.FieldType.int)) (k46 : bl_St → Nat → Int32 → Int32 → Int32 → Int32 → Int32 → Int32 → Option (Int32 × bl_St)) (hk46 : ∀ (σ : bl_St) (v0 : Nat) (v1 : Int32) (v2 : Int32) (v3 : Int32) (v4 : Int32) (v5 : Int32) (v6 : Int32), bl_sh[v0]? = some (10, 28) → k46 σ v0 v1 v2 v3 v4 v5 v6 = some out → ∀ (H : Heap) (locs : List Loc) (ls : Array Slot), bl_V g s σ H locs → lv_has ls 7 [(0, .ref (bl_ad g v0)), (1, .int v1), (2, .int v2), (3, .int v3), (4, .int v4), (5, .int v5), (6, .int v6)] → W p l e (bl_rm 8 208) s m as.toArray below meth c H locs 0 0 (bl_Qi below g s as out) (F0 m 46 ls [])) : ∀ (σ : bl_St) (v0 : Nat) (v1 : Int32) (v2 : Int32) (v3 : Int32) (v4 : Int32) (v5 : Int32) (v6 : Int32), bl_sh[v0]? = some (10, 28) → (b_X10_dearest_46 k46) σ v0 v1 v2 v3 v4 v5 v6 = some out → ∀ (H : Heap) (locs : List Loc) (ls : Array Slot), bl_V g s σ H locs → lv_has ls 7 [(0, .ref (bl_ad g v0)), (1, .int v1), (2, .int v2), (3, .int v3), (4, .int v4), (5, .int v5), (6, .int v6)] → W p l e (bl_rm 8 208) s m as.toArray below meth c H locs 0 0 (bl_Qi below g s as out) (F0 m 46 ls []) := by
  intro σ v0 v1 v2 v3 v4 v5 v6 hv0 hf H locs ls V hl
  unfold b_X10_dearest_46 at hf
  refine lv_iload X.1 X.2.1 dX10_dearest_46 (lv_at hl 6 rfl) ?_
  refine lv_if_lt (tgt := 93) X.1 X.2.1 dX10_dearest_48 (by decide) (fun c7 => ?_) (fun c7 => ?_)
  · have hf := bl_ifp c7 hf
    exact w_X10_dearest_93 X hr  σ v0 v3 v4 v5 hv0 hf _ _ _ V (lv_sub hl [0, 3, 4, 5] rfl)
  · have hf := bl_ifn c7 hf
    refine lv_iload X.1 X.2.1 dX10_dearest_51 (lv_at hl 5 rfl) ?_
    refine lv_bipush (v := (-2)) X.1 X.2.1 dX10_dearest_53 (by decide) ?_
    refine lv_icmp_ne (tgt := 93) X.1 X.2.1 dX10_dearest_55 (by decide) (fun c8 => ?_) (fun c8 => ?_)
    · have hf := bl_ifn c8 hf
      exact w_X10_dearest_93 X hr  σ v0 v3 v4 v5 hv0 hf _ _ _ V (lv_sub hl [0, 3, 4, 5] rfl)
    · have hf := bl_ifp c8 hf
      refine lv_aload_n X.1 X.2.1 dX10_dearest_58 rfl (lv_at hl 0 rfl) ?_
      refine bl_getr X V hv0 fl_X10_13 rfl dX10_dearest_59 (fun h9 => ?_)
      refine lv_iload_n X.1 X.2.1 dX10_dearest_62 rfl (lv_at hl 3 rfl) ?_
      refine lv_iload X.1 X.2.1 dX10_dearest_63 (lv_at hl 6 rfl) ?_
      obtain ⟨h10, hf⟩ := bl_gd_at hf
      refine bl_iast (k := (Int32.toNatClampNeg v3)) X V h9 h10 rfl dX10_dearest_65 (fun σ11 H locs e12 V => ?_)
      have hf := bl_let_at e12 hf
      refine lv_aload_n X.1 X.2.1 dX10_dearest_66 rfl (lv_at hl 0 rfl) ?_
      refine lv_iload_n X.1 X.2.1 dX10_dearest_67 rfl (lv_at hl 1 rfl) ?_
      refine lv_iconst (v := 1) X.1 X.2.1 dX10_dearest_68 (by decide) ?_
      refine lv_iconst (v := 0) X.1 X.2.1 dX10_dearest_69 (by decide) ?_
      refine lv_iconst (v := 0) X.1 X.2.1 dX10_dearest_70 (by decide) ?_
      obtain ⟨r13, σ14, h15, hf⟩ := bl_bd_at hf
      refine bl_cVv (As := [.int v1, .int 1, .int 0, .int 0]) X V hl.1 hv0 rfl ml_X10_142 mV_X10_lays (t_X10_lays l g σ11 v0 v1 1 0 0 _ hv0 h15) rfl rfl ⟨Nat.le_of_ble_eq_true rfl, Nat.le_of_ble_eq_true rfl⟩ rfl rfl (Nat.le_of_ble_eq_true rfl) ⟨Nat.zero_le _, Nat.zero_le _⟩ dX10_dearest_71 (fun H locs V => ?_)
      refine lv_aload_n X.1 X.2.1 dX10_dearest_74 rfl (lv_at hl 0 rfl) ?_
      refine lv_iload_n X.1 X.2.1 dX10_dearest_75 rfl (lv_at hl 1 rfl) ?_
      refine lv_iload_n X.1 X.2.1 dX10_dearest_76 rfl (lv_at hl 2 rfl) ?_
      obtain ⟨r16, σ17, h18, hf⟩ := bl_bd_at hf
      refine bl_cVi (As := [.int v1, .int v2]) X V hl.1 hv0 rfl ml_X10_146 mV_X10_isGuarded (t_X10_isGuarded l g σ14 v0 v1 v2 _ hv0 h18) rfl rfl ⟨Nat.le_of_ble_eq_true rfl, Nat.le_of_ble_eq_true rfl⟩ rfl rfl (Nat.le_of_ble_eq_true rfl) ⟨Nat.zero_le _, Nat.zero_le _⟩ dX10_dearest_77 (fun H locs V => ?_)
      refine lv_if_eq (tgt := 87) X.1 X.2.1 dX10_dearest_80 (by decide) (fun c19 => ?_) (fun c19 => ?_)
      · have hf := bl_ifp c19 hf
        exact w_X10_dearest_87 X hr k46 hk46 σ17 v0 v1 v2 v3 v4 v5 v6 hv0 hf _ _ _ V (lv_sub hl [0, 1, 2, 3, 4, 5, 6] rfl)
      · have hf := bl_ifn c19 hf
        refine lv_iload X.1 X.2.1 dX10_dearest_83 (lv_at hl 6 rfl) ?_
        refine lv_istore (lv' := [(5, .int v6), (0, .ref (bl_ad g v0)), (1, .int v1), (2, .int v2), (3, .int v3), (4, .int v4), (6, .int v6)]) X.1 X.2.1 dX10_dearest_85 hl (by decide) rfl (fun ls hl => ?_)
        exact w_X10_dearest_87 X hr k46 hk46 σ17 v0 v1 v2 v3 v4 v6 v6 hv0 hf _ _ _ V (lv_sub hl [1, 2, 3, 4, 5, 0, 6] rfl)
theorem l_X10_dearest_46 {p : Program} {l : Launch} {e : Env} {s : State} {m : MethodId} {below : List Frame} {meth : Method} {c : Code} {g : bl_Gp} {as : List Value} {out : Int32 × bl_St} (X : bl_Cx g p s m as.toArray meth c cX10_dearest 7 RX10) (hr : meth.sig.returnType = (Option.some Jvm.ClassFile.FieldType.int)) (n : Nat) : ∀ (σ : bl_St) (v0 : Nat) (v1 : Int32) (v2 : Int32) (v3 : Int32) (v4 : Int32) (v5 : Int32) (v6 : Int32), bl_sh[v0]? = some (10, 28) → (bl_fx (fun _ _ _ _ _ _ _ _ => none) (b_X10_dearest_46 ) n) σ v0 v1 v2 v3 v4 v5 v6 = some out → ∀ (H : Heap) (locs : List Loc) (ls : Array Slot), bl_V g s σ H locs → lv_has ls 7 [(0, .ref (bl_ad g v0)), (1, .int v1), (2, .int v2), (3, .int v3), (4, .int v4), (5, .int v5), (6, .int v6)] → W p l e (bl_rm 8 208) s m as.toArray below meth c H locs 0 0 (bl_Qi below g s as out) (F0 m 46 ls []) := by
  induction n with
  | zero =>
    intro σ v0 v1 v2 v3 v4 v5 v6 hv0 hf H locs ls V hl
    cases hf
  | succ n ih => exact w_X10_dearest_46 X hr  _ ih
set_option maxHeartbeats 4000000 in
set_option maxRecDepth 100000 in
theorem t_X10_dearest (l : Launch) (g : bl_Gp) (σ : bl_St) (a0 : Nat) (a1 : Int32) (a2 : Int32) (o : Int32 × bl_St) (ha0 : bl_sh[a0]? = some (10, 28)) (hf : f_X10_dearest σ a0 a1 a2 = some o) : bl_Ci l g yX10_dearest cX10_dearest 7 (Option.some Jvm.ClassFile.FieldType.int) (bl_rm 8 208) [.ref (bl_ad g a0), .int a1, .int a2] σ o := by
  refine bl_met (by decide) (Nat.le_of_ble_eq_true rfl) (fun p e s m below meth c ls X hr V hl => ?_)
  have hl : lv_has ls 7 [(0, .ref (bl_ad g a0)), (1, .int a1), (2, .int a2)] := hl
  unfold f_X10_dearest at hf
  refine lv_iload_n X.1 X.2.1 dX10_dearest_0 rfl (lv_at hl 1 rfl) ?_
  refine lv_i2l X.1 X.2.1 dX10_dearest_1 rfl ?_
  refine lv_lconst (v := 1) X.1 X.2.1 dX10_dearest_2 (by decide) ?_
  refine lv_ldc2 (v := 20) X.1 X.2.1 X.2.2.2.1 (X.2.2.2.2.1 _ kl_X10_163) dX10_dearest_3 ?_
  obtain ⟨r20, σ21, h22, hf⟩ := bl_bd_at hf
  refine bl_cSi (As := [.long (Int32.toInt64 a1), .long 1, .long 20]) X V hl.1 ml_X10_66 mS_X10_in (t_X10_in l g σ (Int32.toInt64 a1) 1 20 _  h22) rfl rfl ⟨Nat.le_of_ble_eq_true rfl, Nat.le_of_ble_eq_true rfl⟩ rfl rfl (Nat.le_of_ble_eq_true rfl) ⟨Nat.zero_le _, Nat.zero_le _⟩ dX10_dearest_6 (fun H locs V => ?_)
  refine lv_if_eq (tgt := 20) X.1 X.2.1 dX10_dearest_9 (by decide) (fun c23 => ?_) (fun c23 => ?_)
  · have hf := bl_ifp c23 hf
    refine lv_iconst (v := (-1)) X.1 X.2.1 dX10_dearest_20 (by decide) ?_
    exact bl_reti X V hr hf dX10_dearest_21
  · have hf := bl_ifn c23 hf
    refine lv_aload_n X.1 X.2.1 dX10_dearest_12 rfl (lv_at hl 0 rfl) ?_
    refine lv_iload_n X.1 X.2.1 dX10_dearest_13 rfl (lv_at hl 2 rfl) ?_
    obtain ⟨r24, σ25, h26, hf⟩ := bl_bd_at hf
    refine bl_cVi (As := [.int a2]) X V hl.1 ha0 rfl ml_X10_84 mV_X10_isClass (t_X10_isClass l g σ21 a0 a2 _ ha0 h26) rfl rfl ⟨Nat.le_of_ble_eq_true rfl, Nat.le_of_ble_eq_true rfl⟩ rfl rfl (Nat.le_of_ble_eq_true rfl) ⟨Nat.zero_le _, Nat.zero_le _⟩ dX10_dearest_14 (fun H locs V => ?_)
    refine lv_if_ne (tgt := 22) X.1 X.2.1 dX10_dearest_17 (by decide) (fun c27 => ?_) (fun c27 => ?_)
    · have hf := bl_ifn c27 hf
      refine lv_iconst (v := 5) X.1 X.2.1 dX10_dearest_22 (by decide) ?_
      refine lv_iconst (v := 5) X.1 X.2.1 dX10_dearest_23 (by decide) ?_
      refine lv_iload_n X.1 X.2.1 dX10_dearest_24 rfl (lv_at hl 2 rfl) ?_
      refine lv_imul X.1 X.2.1 dX10_dearest_25 ?_
      refine lv_iadd X.1 X.2.1 dX10_dearest_26 ?_
      refine lv_iconst (v := 4) X.1 X.2.1 dX10_dearest_27 (by decide) ?_
      refine lv_iadd X.1 X.2.1 dX10_dearest_28 ?_
      refine lv_topi (fun x28 e29 => ?_)
      have hf := bl_let_at e29 hf
      refine lv_istore_n (lv' := [(3, .int x28), (0, .ref (bl_ad g a0)), (1, .int a1), (2, .int a2)]) X.1 X.2.1 dX10_dearest_29 rfl hl (by decide) rfl (fun ls hl => ?_)
      refine lv_aload_n X.1 X.2.1 dX10_dearest_30 rfl (lv_at hl 1 rfl) ?_
      refine bl_getr X V ha0 fl_X10_13 rfl dX10_dearest_31 (fun h30 => ?_)
      refine lv_iload_n X.1 X.2.1 dX10_dearest_34 rfl (lv_at hl 0 rfl) ?_
      obtain ⟨h31, hf⟩ := bl_gd_at hf
      refine bl_iald (k := (Int32.toNatClampNeg x28)) X V h30 h31 rfl dX10_dearest_35 ?_
      refine lv_topi (fun x32 e33 => ?_)
      have hf := bl_let_at e33 hf
      refine lv_istore (lv' := [(4, .int x32), (3, .int x28), (0, .ref (bl_ad g a0)), (1, .int a1), (2, .int a2)]) X.1 X.2.1 dX10_dearest_36 hl (by decide) rfl (fun ls hl => ?_)
      refine lv_bipush (v := (-2)) X.1 X.2.1 dX10_dearest_38 (by decide) ?_
      refine lv_istore (lv' := [(5, .int (-2)), (4, .int x32), (3, .int x28), (0, .ref (bl_ad g a0)), (1, .int a1), (2, .int a2)]) X.1 X.2.1 dX10_dearest_40 hl (by decide) rfl (fun ls hl => ?_)
      refine lv_bipush (v := 99) X.1 X.2.1 dX10_dearest_42 (by decide) ?_
      refine lv_istore (lv' := [(6, .int 99), (5, .int (-2)), (4, .int x32), (3, .int x28), (0, .ref (bl_ad g a0)), (1, .int a1), (2, .int a2)]) X.1 X.2.1 dX10_dearest_44 hl (by decide) rfl (fun ls hl => ?_)
      exact l_X10_dearest_46 X hr  bl_fu σ25 a0 a1 a2 x28 x32 (-2) 99 ha0 hf _ _ _ V (lv_sub hl [4, 5, 6, 3, 2, 1, 0] rfl)
    · have hf := bl_ifp c27 hf
      refine lv_iconst (v := (-1)) X.1 X.2.1 dX10_dearest_20 (by decide) ?_
      exact bl_reti X V hr hf dX10_dearest_21
set_option maxHeartbeats 4000000 in
set_option maxRecDepth 100000 in
theorem t_X10_of (l : Launch) (g : bl_Gp) (σ : bl_St) (a0 : Nat) (a1 : Int32) (a2 : Int32) (o : Int32 × bl_St) (ha0 : bl_sh[a0]? = some (10, 28)) (hf : f_X10_of σ a0 a1 a2 = some o) : bl_Ci l g yX10_of cX10_of 3 (Option.some Jvm.ClassFile.FieldType.int) (bl_rm 2 46) [.ref (bl_ad g a0), .int a1, .int a2] σ o := by
  refine bl_met (by decide) (Nat.le_of_ble_eq_true rfl) (fun p e s m below meth c ls X hr V hl => ?_)
  have hl : lv_has ls 3 [(0, .ref (bl_ad g a0)), (1, .int a1), (2, .int a2)] := hl
  unfold f_X10_of at hf
  refine lv_aload_n X.1 X.2.1 dX10_of_0 rfl (lv_at hl 0 rfl) ?_
  refine lv_iload_n X.1 X.2.1 dX10_of_1 rfl (lv_at hl 1 rfl) ?_
  obtain ⟨r1, σ2, h3, hf⟩ := bl_bd_at hf
  refine bl_cVi (As := [.int a1]) X V hl.1 ha0 rfl ml_X10_84 mV_X10_isClass (t_X10_isClass l g σ a0 a1 _ ha0 h3) rfl rfl ⟨Nat.le_of_ble_eq_true rfl, Nat.le_of_ble_eq_true rfl⟩ rfl rfl (Nat.le_of_ble_eq_true rfl) ⟨Nat.zero_le _, Nat.zero_le _⟩ dX10_of_2 (fun H locs V => ?_)
  refine lv_if_eq (tgt := 29) X.1 X.2.1 dX10_of_5 (by decide) (fun c4 => ?_) (fun c4 => ?_)
  · have hf := bl_ifp c4 hf
    refine lv_iconst (v := (-1)) X.1 X.2.1 dX10_of_29 (by decide) ?_
    exact bl_reti X V hr hf dX10_of_30
  · have hf := bl_ifn c4 hf
    refine lv_iload_n X.1 X.2.1 dX10_of_8 rfl (lv_at hl 2 rfl) ?_
    refine lv_i2l X.1 X.2.1 dX10_of_9 rfl ?_
    refine lv_lconst (v := 0) X.1 X.2.1 dX10_of_10 (by decide) ?_
    refine lv_ldc2 (v := 4) X.1 X.2.1 X.2.2.2.1 (X.2.2.2.2.1 _ kl_X10_88) dX10_of_11 ?_
    obtain ⟨r5, σ6, h7, hf⟩ := bl_bd_at hf
    refine bl_cSi (As := [.long (Int32.toInt64 a2), .long 0, .long 4]) X V hl.1 ml_X10_66 mS_X10_in (t_X10_in l g σ2 (Int32.toInt64 a2) 0 4 _  h7) rfl rfl ⟨Nat.le_of_ble_eq_true rfl, Nat.le_of_ble_eq_true rfl⟩ rfl rfl (Nat.le_of_ble_eq_true rfl) ⟨Nat.zero_le _, Nat.zero_le _⟩ dX10_of_14 (fun H locs V => ?_)
    refine lv_if_eq (tgt := 29) X.1 X.2.1 dX10_of_17 (by decide) (fun c8 => ?_) (fun c8 => ?_)
    · have hf := bl_ifp c8 hf
      refine lv_iconst (v := (-1)) X.1 X.2.1 dX10_of_29 (by decide) ?_
      exact bl_reti X V hr hf dX10_of_30
    · have hf := bl_ifn c8 hf
      refine lv_aload_n X.1 X.2.1 dX10_of_20 rfl (lv_at hl 0 rfl) ?_
      refine lv_iload_n X.1 X.2.1 dX10_of_21 rfl (lv_at hl 1 rfl) ?_
      refine lv_iload_n X.1 X.2.1 dX10_of_22 rfl (lv_at hl 2 rfl) ?_
      obtain ⟨r9, σ10, h11, hf⟩ := bl_bd_at hf
      refine bl_cVi (As := [.int a1, .int a2]) X V hl.1 ha0 rfl ml_X10_74 mV_X10_ofClass (t_X10_ofClass l g σ6 a0 a1 a2 _ ha0 h11) rfl rfl ⟨Nat.le_of_ble_eq_true rfl, Nat.le_of_ble_eq_true rfl⟩ rfl rfl (Nat.le_of_ble_eq_true rfl) ⟨Nat.zero_le _, Nat.zero_le _⟩ dX10_of_23 (fun H locs V => ?_)
      refine lv_goto (tgt := 30) X.1 X.2.1 dX10_of_26 (by decide) ?_
      exact bl_reti X V hr hf dX10_of_30
set_option maxHeartbeats 4000000 in
set_option maxRecDepth 100000 in
theorem t_X10_ofSort (l : Launch) (g : bl_Gp) (σ : bl_St) (a0 : Nat) (a1 : Int32) (a2 : Int32) (o : Int32 × bl_St) (ha0 : bl_sh[a0]? = some (10, 28)) (hf : f_X10_ofSort σ a0 a1 a2 = some o) : bl_Ci l g yX10_ofSort cX10_ofSort 3 (Option.some Jvm.ClassFile.FieldType.int) (bl_rm 2 46) [.ref (bl_ad g a0), .int a1, .int a2] σ o := by
  refine bl_met (by decide) (Nat.le_of_ble_eq_true rfl) (fun p e s m below meth c ls X hr V hl => ?_)
  have hl : lv_has ls 3 [(0, .ref (bl_ad g a0)), (1, .int a1), (2, .int a2)] := hl
  unfold f_X10_ofSort at hf
  refine lv_aload_n X.1 X.2.1 dX10_ofSort_0 rfl (lv_at hl 0 rfl) ?_
  refine lv_iload_n X.1 X.2.1 dX10_ofSort_1 rfl (lv_at hl 1 rfl) ?_
  obtain ⟨r1, σ2, h3, hf⟩ := bl_bd_at hf
  refine bl_cVi (As := [.int a1]) X V hl.1 ha0 rfl ml_X10_93 mV_X10_isSort (t_X10_isSort l g σ a0 a1 _ ha0 h3) rfl rfl ⟨Nat.le_of_ble_eq_true rfl, Nat.le_of_ble_eq_true rfl⟩ rfl rfl (Nat.le_of_ble_eq_true rfl) ⟨Nat.zero_le _, Nat.zero_le _⟩ dX10_ofSort_2 (fun H locs V => ?_)
  refine lv_if_ne (tgt := 10) X.1 X.2.1 dX10_ofSort_5 (by decide) (fun c4 => ?_) (fun c4 => ?_)
  · have hf := bl_ifn c4 hf
    refine lv_iload_n X.1 X.2.1 dX10_ofSort_10 rfl (lv_at hl 2 rfl) ?_
    refine lv_if_ne (tgt := 22) X.1 X.2.1 dX10_ofSort_11 (by decide) (fun c5 => ?_) (fun c5 => ?_)
    · have hf := bl_ifn c5 hf
      refine lv_iload_n X.1 X.2.1 dX10_ofSort_22 rfl (lv_at hl 2 rfl) ?_
      refine lv_iconst (v := 1) X.1 X.2.1 dX10_ofSort_23 (by decide) ?_
      refine lv_icmp_ne (tgt := 35) X.1 X.2.1 dX10_ofSort_24 (by decide) (fun c6 => ?_) (fun c6 => ?_)
      · have hf := bl_ifn c6 hf
        refine lv_iload_n X.1 X.2.1 dX10_ofSort_35 rfl (lv_at hl 2 rfl) ?_
        refine lv_iconst (v := 2) X.1 X.2.1 dX10_ofSort_36 (by decide) ?_
        refine lv_icmp_ne (tgt := 55) X.1 X.2.1 dX10_ofSort_37 (by decide) (fun c7 => ?_) (fun c7 => ?_)
        · have hf := bl_ifn c7 hf
          refine lv_iconst (v := (-1)) X.1 X.2.1 dX10_ofSort_55 (by decide) ?_
          exact bl_reti X V hr hf dX10_ofSort_56
        · have hf := bl_ifp c7 hf
          refine lv_aload_n X.1 X.2.1 dX10_ofSort_40 rfl (lv_at hl 0 rfl) ?_
          refine bl_getr X V ha0 fl_X10_13 rfl dX10_ofSort_41 (fun h8 => ?_)
          refine lv_iconst (v := 3) X.1 X.2.1 dX10_ofSort_44 (by decide) ?_
          refine bl_iald (k := 3) X V h8 (by decide) (by decide) dX10_ofSort_45 ?_
          refine lv_aload_n X.1 X.2.1 dX10_ofSort_46 rfl (lv_at hl 0 rfl) ?_
          refine lv_iload_n X.1 X.2.1 dX10_ofSort_47 rfl (lv_at hl 1 rfl) ?_
          obtain ⟨r9, σ10, h11, hf⟩ := bl_bd_at hf
          refine bl_cVi (As := [.int a1]) X V hl.1 ha0 rfl ml_X10_70 mV_X10_weight (t_X10_weight l g σ2 a0 a1 _ ha0 h11) rfl rfl ⟨Nat.le_of_ble_eq_true rfl, Nat.le_of_ble_eq_true rfl⟩ rfl rfl (Nat.le_of_ble_eq_true rfl) ⟨Nat.zero_le _, Nat.zero_le _⟩ dX10_ofSort_48 (fun H locs V => ?_)
          refine lv_imul X.1 X.2.1 dX10_ofSort_51 ?_
          refine lv_goto (tgt := 56) X.1 X.2.1 dX10_ofSort_52 (by decide) ?_
          exact bl_reti X V hr hf dX10_ofSort_56
      · have hf := bl_ifp c6 hf
        refine lv_aload_n X.1 X.2.1 dX10_ofSort_27 rfl (lv_at hl 0 rfl) ?_
        refine lv_iload_n X.1 X.2.1 dX10_ofSort_28 rfl (lv_at hl 1 rfl) ?_
        obtain ⟨r12, σ13, h14, hf⟩ := bl_bd_at hf
        refine bl_cVi (As := [.int a1]) X V hl.1 ha0 rfl ml_X10_70 mV_X10_weight (t_X10_weight l g σ2 a0 a1 _ ha0 h14) rfl rfl ⟨Nat.le_of_ble_eq_true rfl, Nat.le_of_ble_eq_true rfl⟩ rfl rfl (Nat.le_of_ble_eq_true rfl) ⟨Nat.zero_le _, Nat.zero_le _⟩ dX10_ofSort_29 (fun H locs V => ?_)
        refine lv_goto (tgt := 56) X.1 X.2.1 dX10_ofSort_32 (by decide) ?_
        exact bl_reti X V hr hf dX10_ofSort_56
    · have hf := bl_ifp c5 hf
      refine lv_aload_n X.1 X.2.1 dX10_ofSort_14 rfl (lv_at hl 0 rfl) ?_
      refine lv_iload_n X.1 X.2.1 dX10_ofSort_15 rfl (lv_at hl 1 rfl) ?_
      obtain ⟨r15, σ16, h17, hf⟩ := bl_bd_at hf
      refine bl_cVi (As := [.int a1]) X V hl.1 ha0 rfl ml_X10_78 mV_X10_size (t_X10_size l g σ2 a0 a1 _ ha0 h17) rfl rfl ⟨Nat.le_of_ble_eq_true rfl, Nat.le_of_ble_eq_true rfl⟩ rfl rfl (Nat.le_of_ble_eq_true rfl) ⟨Nat.zero_le _, Nat.zero_le _⟩ dX10_ofSort_16 (fun H locs V => ?_)
      refine lv_goto (tgt := 56) X.1 X.2.1 dX10_ofSort_19 (by decide) ?_
      exact bl_reti X V hr hf dX10_ofSort_56
  · have hf := bl_ifp c4 hf
    refine lv_iconst (v := (-1)) X.1 X.2.1 dX10_ofSort_8 (by decide) ?_
    exact bl_reti X V hr hf dX10_ofSort_9
set_option maxHeartbeats 4000000 in
set_option maxRecDepth 100000 in
theorem t_X10_life (l : Launch) (g : bl_Gp) (σ : bl_St) (a0 : Nat) (a1 : Int32) (o : Int32 × bl_St) (ha0 : bl_sh[a0]? = some (10, 28)) (hf : f_X10_life σ a0 a1 = some o) : bl_Ci l g yX10_life cX10_life 2 (Option.some Jvm.ClassFile.FieldType.int) (bl_rm 1 20) [.ref (bl_ad g a0), .int a1] σ o := by
  refine bl_met (by decide) (Nat.le_of_ble_eq_true rfl) (fun p e s m below meth c ls X hr V hl => ?_)
  have hl : lv_has ls 2 [(0, .ref (bl_ad g a0)), (1, .int a1)] := hl
  unfold f_X10_life at hf
  refine lv_iload_n X.1 X.2.1 dX10_life_0 rfl (lv_at hl 1 rfl) ?_
  by_cases c1 : a1 = 0
  · have hf := bl_ifp c1 hf
    refine bl_swI (v := 0) (tgt := 68) X dX10_life_1 (by rw [c1]; decide) (by decide) rfl (by decide) ?_
    refine lv_aload_n X.1 X.2.1 dX10_life_68 rfl (lv_at hl 0 rfl) ?_
    refine bl_getr X V ha0 fl_X10_13 rfl dX10_life_69 (fun h2 => ?_)
    refine lv_iconst (v := 0) X.1 X.2.1 dX10_life_72 (by decide) ?_
    refine bl_iald (k := 0) X V h2 (by decide) (by decide) dX10_life_73 ?_
    refine lv_if_ne (tgt := 81) X.1 X.2.1 dX10_life_74 (by decide) (fun c3 => ?_) (fun c3 => ?_)
    · have hf := bl_ifn c3 hf
      refine lv_aload_n X.1 X.2.1 dX10_life_81 rfl (lv_at hl 0 rfl) ?_
      refine bl_getr X V ha0 fl_X10_13 rfl dX10_life_82 (fun h4 => ?_)
      refine lv_bipush (v := 55) X.1 X.2.1 dX10_life_85 (by decide) ?_
      refine bl_iald (k := 55) X V h4 (by decide) (by decide) dX10_life_87 ?_
      exact bl_reti X V hr hf dX10_life_88
    · have hf := bl_ifp c3 hf
      refine lv_iconst (v := (-1)) X.1 X.2.1 dX10_life_77 (by decide) ?_
      refine lv_goto (tgt := 88) X.1 X.2.1 dX10_life_78 (by decide) ?_
      exact bl_reti X V hr hf dX10_life_88
  have hf := bl_ifn c1 hf
  by_cases c5 : a1 = 1
  · have hf := bl_ifp c5 hf
    refine bl_swI (v := 1) (tgt := 89) X dX10_life_1 (by rw [c5]; decide) (by decide) rfl (by decide) ?_
    refine lv_aload_n X.1 X.2.1 dX10_life_89 rfl (lv_at hl 0 rfl) ?_
    refine bl_getr X V ha0 fl_X10_13 rfl dX10_life_90 (fun h6 => ?_)
    refine lv_bipush (v := 56) X.1 X.2.1 dX10_life_93 (by decide) ?_
    refine bl_iald (k := 56) X V h6 (by decide) (by decide) dX10_life_95 ?_
    exact bl_reti X V hr hf dX10_life_96
  have hf := bl_ifn c5 hf
  by_cases c7 : a1 = 2
  · have hf := bl_ifp c7 hf
    refine bl_swI (v := 2) (tgt := 97) X dX10_life_1 (by rw [c7]; decide) (by decide) rfl (by decide) ?_
    refine lv_aload_n X.1 X.2.1 dX10_life_97 rfl (lv_at hl 0 rfl) ?_
    refine bl_getr X V ha0 fl_X10_13 rfl dX10_life_98 (fun h8 => ?_)
    refine lv_bipush (v := 57) X.1 X.2.1 dX10_life_101 (by decide) ?_
    refine bl_iald (k := 57) X V h8 (by decide) (by decide) dX10_life_103 ?_
    exact bl_reti X V hr hf dX10_life_104
  have hf := bl_ifn c7 hf
  by_cases c9 : a1 = 3
  · have hf := bl_ifp c9 hf
    refine bl_swI (v := 3) (tgt := 105) X dX10_life_1 (by rw [c9]; decide) (by decide) rfl (by decide) ?_
    refine lv_aload_n X.1 X.2.1 dX10_life_105 rfl (lv_at hl 0 rfl) ?_
    refine bl_getr X V ha0 fl_X10_13 rfl dX10_life_106 (fun h10 => ?_)
    refine lv_bipush (v := 58) X.1 X.2.1 dX10_life_109 (by decide) ?_
    refine bl_iald (k := 58) X V h10 (by decide) (by decide) dX10_life_111 ?_
    exact bl_reti X V hr hf dX10_life_112
  have hf := bl_ifn c9 hf
  by_cases c11 : a1 = 4
  · have hf := bl_ifp c11 hf
    refine bl_swI (v := 4) (tgt := 113) X dX10_life_1 (by rw [c11]; decide) (by decide) rfl (by decide) ?_
    refine lv_aload_n X.1 X.2.1 dX10_life_113 rfl (lv_at hl 0 rfl) ?_
    refine bl_getr X V ha0 fl_X10_13 rfl dX10_life_114 (fun h12 => ?_)
    refine lv_bipush (v := 59) X.1 X.2.1 dX10_life_117 (by decide) ?_
    refine bl_iald (k := 59) X V h12 (by decide) (by decide) dX10_life_119 ?_
    exact bl_reti X V hr hf dX10_life_120
  have hf := bl_ifn c11 hf
  by_cases c13 : a1 = 5
  · have hf := bl_ifp c13 hf
    refine bl_swI (v := 5) (tgt := 121) X dX10_life_1 (by rw [c13]; decide) (by decide) rfl (by decide) ?_
    refine lv_aload_n X.1 X.2.1 dX10_life_121 rfl (lv_at hl 0 rfl) ?_
    refine bl_getr X V ha0 fl_X10_13 rfl dX10_life_122 (fun h14 => ?_)
    refine lv_bipush (v := 60) X.1 X.2.1 dX10_life_125 (by decide) ?_
    refine bl_iald (k := 60) X V h14 (by decide) (by decide) dX10_life_127 ?_
    exact bl_reti X V hr hf dX10_life_128
  have hf := bl_ifn c13 hf
  by_cases c15 : a1 = 6
  · have hf := bl_ifp c15 hf
    refine bl_swI (v := 6) (tgt := 129) X dX10_life_1 (by rw [c15]; decide) (by decide) rfl (by decide) ?_
    refine lv_aload_n X.1 X.2.1 dX10_life_129 rfl (lv_at hl 0 rfl) ?_
    refine bl_getr X V ha0 fl_X10_13 rfl dX10_life_130 (fun h16 => ?_)
    refine lv_bipush (v := 61) X.1 X.2.1 dX10_life_133 (by decide) ?_
    refine bl_iald (k := 61) X V h16 (by decide) (by decide) dX10_life_135 ?_
    exact bl_reti X V hr hf dX10_life_136
  have hf := bl_ifn c15 hf
  by_cases c17 : a1 = 7
  · have hf := bl_ifp c17 hf
    refine bl_swI (v := 7) (tgt := 137) X dX10_life_1 (by rw [c17]; decide) (by decide) rfl (by decide) ?_
    refine lv_aload_n X.1 X.2.1 dX10_life_137 rfl (lv_at hl 0 rfl) ?_
    refine bl_getr X V ha0 fl_X10_13 rfl dX10_life_138 (fun h18 => ?_)
    refine lv_bipush (v := 62) X.1 X.2.1 dX10_life_141 (by decide) ?_
    refine bl_iald (k := 62) X V h18 (by decide) (by decide) dX10_life_143 ?_
    exact bl_reti X V hr hf dX10_life_144
  have hf := bl_ifn c17 hf
  by_cases c19 : a1 = 8
  · have hf := bl_ifp c19 hf
    refine bl_swI (v := 8) (tgt := 145) X dX10_life_1 (by rw [c19]; decide) (by decide) rfl (by decide) ?_
    refine lv_aload_n X.1 X.2.1 dX10_life_145 rfl (lv_at hl 0 rfl) ?_
    refine bl_getr X V ha0 fl_X10_13 rfl dX10_life_146 (fun h20 => ?_)
    refine lv_bipush (v := 63) X.1 X.2.1 dX10_life_149 (by decide) ?_
    refine bl_iald (k := 63) X V h20 (by decide) (by decide) dX10_life_151 ?_
    exact bl_reti X V hr hf dX10_life_152
  have hf := bl_ifn c19 hf
  by_cases c21 : a1 = 9
  · have hf := bl_ifp c21 hf
    refine bl_swI (v := 9) (tgt := 153) X dX10_life_1 (by rw [c21]; decide) (by decide) rfl (by decide) ?_
    refine lv_aload_n X.1 X.2.1 dX10_life_153 rfl (lv_at hl 0 rfl) ?_
    refine bl_getr X V ha0 fl_X10_13 rfl dX10_life_154 (fun h22 => ?_)
    refine lv_bipush (v := 64) X.1 X.2.1 dX10_life_157 (by decide) ?_
    refine bl_iald (k := 64) X V h22 (by decide) (by decide) dX10_life_159 ?_
    exact bl_reti X V hr hf dX10_life_160
  have hf := bl_ifn c21 hf
  by_cases c23 : a1 = 10
  · have hf := bl_ifp c23 hf
    refine bl_swI (v := 10) (tgt := 161) X dX10_life_1 (by rw [c23]; decide) (by decide) rfl (by decide) ?_
    refine lv_aload_n X.1 X.2.1 dX10_life_161 rfl (lv_at hl 0 rfl) ?_
    refine bl_getr X V ha0 fl_X10_13 rfl dX10_life_162 (fun h24 => ?_)
    refine lv_bipush (v := 65) X.1 X.2.1 dX10_life_165 (by decide) ?_
    refine bl_iald (k := 65) X V h24 (by decide) (by decide) dX10_life_167 ?_
    exact bl_reti X V hr hf dX10_life_168
  have hf := bl_ifn c23 hf
  by_cases c25 : a1 = 11
  · have hf := bl_ifp c25 hf
    refine bl_swI (v := 11) (tgt := 169) X dX10_life_1 (by rw [c25]; decide) (by decide) rfl (by decide) ?_
    refine lv_aload_n X.1 X.2.1 dX10_life_169 rfl (lv_at hl 0 rfl) ?_
    refine bl_getr X V ha0 fl_X10_13 rfl dX10_life_170 (fun h26 => ?_)
    refine lv_bipush (v := 66) X.1 X.2.1 dX10_life_173 (by decide) ?_
    refine bl_iald (k := 66) X V h26 (by decide) (by decide) dX10_life_175 ?_
    exact bl_reti X V hr hf dX10_life_176
  have hf := bl_ifn c25 hf
  by_cases c27 : a1 = 12
  · have hf := bl_ifp c27 hf
    refine bl_swI (v := 12) (tgt := 177) X dX10_life_1 (by rw [c27]; decide) (by decide) rfl (by decide) ?_
    refine lv_aload_n X.1 X.2.1 dX10_life_177 rfl (lv_at hl 0 rfl) ?_
    obtain ⟨r28, σ29, h30, hf⟩ := bl_bd_at hf
    refine bl_cVi (As := []) X V hl.1 ha0 rfl ml_X10_169 mV_X10_allPaid (t_X10_allPaid l g σ a0 _ ha0 h30) rfl rfl ⟨Nat.le_of_ble_eq_true rfl, Nat.le_of_ble_eq_true rfl⟩ rfl rfl (Nat.le_of_ble_eq_true rfl) ⟨Nat.zero_le _, Nat.zero_le _⟩ dX10_life_178 (fun H locs V => ?_)
    exact bl_reti X V hr hf dX10_life_181
  have hf := bl_ifn c27 hf
  have c1 := lv_neT (a := 0) c1 (by decide)
  have c5 := lv_neT (a := 1) c5 (by decide)
  have c7 := lv_neT (a := 2) c7 (by decide)
  have c9 := lv_neT (a := 3) c9 (by decide)
  have c11 := lv_neT (a := 4) c11 (by decide)
  have c13 := lv_neT (a := 5) c13 (by decide)
  have c15 := lv_neT (a := 6) c15 (by decide)
  have c17 := lv_neT (a := 7) c17 (by decide)
  have c19 := lv_neT (a := 8) c19 (by decide)
  have c21 := lv_neT (a := 9) c21 (by decide)
  have c23 := lv_neT (a := 10) c23 (by decide)
  have c25 := lv_neT (a := 11) c25 (by decide)
  have c27 := lv_neT (a := 12) c27 (by decide)
  refine bl_swO (tgt := 182) X dX10_life_1 (by omega) (by decide) ?_
  refine lv_iconst (v := (-1)) X.1 X.2.1 dX10_life_182 (by decide) ?_
  exact bl_reti X V hr hf dX10_life_183
set_option maxHeartbeats 4000000 in
set_option maxRecDepth 100000 in
theorem t_X10_entry (l : Launch) (g : bl_Gp) (σ : bl_St) (a0 : Nat) (a1 : Int32) (a2 : Int32) (a3 : Int32) (o : Int32 × bl_St) (ha0 : bl_sh[a0]? = some (10, 28)) (hf : f_X10_entry σ a0 a1 a2 a3 = some o) : bl_Ci l g yX10_entry cX10_entry 4 (Option.some Jvm.ClassFile.FieldType.int) (bl_rm 1 25) [.ref (bl_ad g a0), .int a1, .int a2, .int a3] σ o := by
  refine bl_met (by decide) (Nat.le_of_ble_eq_true rfl) (fun p e s m below meth c ls X hr V hl => ?_)
  have hl : lv_has ls 4 [(0, .ref (bl_ad g a0)), (1, .int a1), (2, .int a2), (3, .int a3)] := hl
  unfold f_X10_entry at hf
  refine lv_iload_n X.1 X.2.1 dX10_entry_0 rfl (lv_at hl 2 rfl) ?_
  refine lv_i2l X.1 X.2.1 dX10_entry_1 rfl ?_
  refine lv_lconst (v := 0) X.1 X.2.1 dX10_entry_2 (by decide) ?_
  refine lv_aload_n X.1 X.2.1 dX10_entry_3 rfl (lv_at hl 0 rfl) ?_
  refine bl_getr X V ha0 fl_X10_13 rfl dX10_entry_4 (fun h1 => ?_)
  refine lv_iload_n X.1 X.2.1 dX10_entry_7 rfl (lv_at hl 1 rfl) ?_
  obtain ⟨h2, hf⟩ := bl_gd_at hf
  refine bl_iald (k := (Int32.toNatClampNeg a1)) X V h1 h2 rfl dX10_entry_8 ?_
  refine lv_iconst (v := 1) X.1 X.2.1 dX10_entry_9 (by decide) ?_
  refine lv_isub X.1 X.2.1 dX10_entry_10 ?_
  refine lv_i2l X.1 X.2.1 dX10_entry_11 rfl ?_
  obtain ⟨r3, σ4, h5, hf⟩ := bl_bd_at hf
  refine bl_cSi (As := [.long (Int32.toInt64 a2), .long 0, .long (Int32.toInt64 ((bl_I σ (bl_R σ a0 1) (Int32.toNatClampNeg a1)) - 1))]) X V hl.1 ml_X10_66 mS_X10_in (t_X10_in l g σ (Int32.toInt64 a2) 0 (Int32.toInt64 ((bl_I σ (bl_R σ a0 1) (Int32.toNatClampNeg a1)) - 1)) _  h5) rfl rfl ⟨Nat.le_of_ble_eq_true rfl, Nat.le_of_ble_eq_true rfl⟩ rfl rfl (Nat.le_of_ble_eq_true rfl) ⟨Nat.zero_le _, Nat.zero_le _⟩ dX10_entry_12 (fun H locs V => ?_)
  refine lv_if_eq (tgt := 56) X.1 X.2.1 dX10_entry_15 (by decide) (fun c6 => ?_) (fun c6 => ?_)
  · have hf := bl_ifp c6 hf
    refine lv_iconst (v := (-1)) X.1 X.2.1 dX10_entry_56 (by decide) ?_
    exact bl_reti X V hr hf dX10_entry_57
  · have hf := bl_ifn c6 hf
    refine lv_iload_n X.1 X.2.1 dX10_entry_18 rfl (lv_at hl 3 rfl) ?_
    refine lv_i2l X.1 X.2.1 dX10_entry_19 rfl ?_
    refine lv_lconst (v := 0) X.1 X.2.1 dX10_entry_20 (by decide) ?_
    refine lv_ldc2 (v := 2) X.1 X.2.1 X.2.2.2.1 (X.2.2.2.2.1 _ kl_X10_235) dX10_entry_21 ?_
    obtain ⟨r7, σ8, h9, hf⟩ := bl_bd_at hf
    refine bl_cSi (As := [.long (Int32.toInt64 a3), .long 0, .long 2]) X V hl.1 ml_X10_66 mS_X10_in (t_X10_in l g σ4 (Int32.toInt64 a3) 0 2 _  h9) rfl rfl ⟨Nat.le_of_ble_eq_true rfl, Nat.le_of_ble_eq_true rfl⟩ rfl rfl (Nat.le_of_ble_eq_true rfl) ⟨Nat.zero_le _, Nat.zero_le _⟩ dX10_entry_24 (fun H locs V => ?_)
    refine lv_if_eq (tgt := 56) X.1 X.2.1 dX10_entry_27 (by decide) (fun c10 => ?_) (fun c10 => ?_)
    · have hf := bl_ifp c10 hf
      refine lv_iconst (v := (-1)) X.1 X.2.1 dX10_entry_56 (by decide) ?_
      exact bl_reti X V hr hf dX10_entry_57
    · have hf := bl_ifn c10 hf
      refine lv_aload_n X.1 X.2.1 dX10_entry_30 rfl (lv_at hl 0 rfl) ?_
      refine bl_getr X V ha0 fl_X10_13 rfl dX10_entry_31 (fun h11 => ?_)
      refine lv_iload_n X.1 X.2.1 dX10_entry_34 rfl (lv_at hl 1 rfl) ?_
      refine lv_iconst (v := 1) X.1 X.2.1 dX10_entry_35 (by decide) ?_
      refine lv_iadd X.1 X.2.1 dX10_entry_36 ?_
      refine lv_iconst (v := 3) X.1 X.2.1 dX10_entry_37 (by decide) ?_
      refine lv_aload_n X.1 X.2.1 dX10_entry_38 rfl (lv_at hl 0 rfl) ?_
      refine bl_getr X V ha0 fl_X10_13 rfl dX10_entry_39 (fun h12 => ?_)
      refine lv_iload_n X.1 X.2.1 dX10_entry_42 rfl (lv_at hl 1 rfl) ?_
      obtain ⟨h13, hf⟩ := bl_gd_at hf
      refine bl_iald (k := (Int32.toNatClampNeg a1)) X V h12 h13 rfl dX10_entry_43 ?_
      refine lv_iconst (v := 1) X.1 X.2.1 dX10_entry_44 (by decide) ?_
      refine lv_isub X.1 X.2.1 dX10_entry_45 ?_
      refine lv_iload_n X.1 X.2.1 dX10_entry_46 rfl (lv_at hl 2 rfl) ?_
      refine lv_isub X.1 X.2.1 dX10_entry_47 ?_
      refine lv_imul X.1 X.2.1 dX10_entry_48 ?_
      refine lv_iadd X.1 X.2.1 dX10_entry_49 ?_
      refine lv_iload_n X.1 X.2.1 dX10_entry_50 rfl (lv_at hl 3 rfl) ?_
      refine lv_iadd X.1 X.2.1 dX10_entry_51 ?_
      obtain ⟨h14, hf⟩ := bl_gd_at hf
      refine bl_iald (k := (Int32.toNatClampNeg (((a1 + 1) + (3 * (((bl_I σ8 (bl_R σ8 a0 1) (Int32.toNatClampNeg a1)) - 1) - a2))) + a3))) X V h11 h14 rfl dX10_entry_52 ?_
      refine lv_goto (tgt := 57) X.1 X.2.1 dX10_entry_53 (by decide) ?_
      exact bl_reti X V hr hf dX10_entry_57
set_option maxHeartbeats 4000000 in
set_option maxRecDepth 100000 in
theorem t_X10_book (l : Launch) (g : bl_Gp) (σ : bl_St) (a0 : Nat) (a1 : Int32) (a2 : Int32) (o : Int32 × bl_St) (ha0 : bl_sh[a0]? = some (10, 28)) (hf : f_X10_book σ a0 a1 a2 = some o) : bl_Ci l g yX10_book cX10_book 3 (Option.some Jvm.ClassFile.FieldType.int) (bl_rm 2 48) [.ref (bl_ad g a0), .int a1, .int a2] σ o := by
  refine bl_met (by decide) (Nat.le_of_ble_eq_true rfl) (fun p e s m below meth c ls X hr V hl => ?_)
  have hl : lv_has ls 3 [(0, .ref (bl_ad g a0)), (1, .int a1), (2, .int a2)] := hl
  unfold f_X10_book at hf
  refine lv_aload_n X.1 X.2.1 dX10_book_0 rfl (lv_at hl 0 rfl) ?_
  refine lv_bipush (v := 69) X.1 X.2.1 dX10_book_1 (by decide) ?_
  refine lv_iload_n X.1 X.2.1 dX10_book_3 rfl (lv_at hl 1 rfl) ?_
  refine lv_iload_n X.1 X.2.1 dX10_book_4 rfl (lv_at hl 2 rfl) ?_
  obtain ⟨r1, σ2, h3, hf⟩ := bl_bd_at hf
  refine bl_cVi (As := [.int 69, .int a1, .int a2]) X V hl.1 ha0 rfl ml_X10_288 mV_X10_entry (t_X10_entry l g σ a0 69 a1 a2 _ ha0 h3) rfl rfl ⟨Nat.le_of_ble_eq_true rfl, Nat.le_of_ble_eq_true rfl⟩ rfl rfl (Nat.le_of_ble_eq_true rfl) ⟨Nat.zero_le _, Nat.zero_le _⟩ dX10_book_5 (fun H locs V => ?_)
  exact bl_reti X V hr hf dX10_book_8
set_option maxHeartbeats 4000000 in
set_option maxRecDepth 100000 in
theorem t_X10_ledger (l : Launch) (g : bl_Gp) (σ : bl_St) (a0 : Nat) (a1 : Int32) (a2 : Int32) (o : Int32 × bl_St) (ha0 : bl_sh[a0]? = some (10, 28)) (hf : f_X10_ledger σ a0 a1 a2 = some o) : bl_Ci l g yX10_ledger cX10_ledger 3 (Option.some Jvm.ClassFile.FieldType.int) (bl_rm 2 48) [.ref (bl_ad g a0), .int a1, .int a2] σ o := by
  refine bl_met (by decide) (Nat.le_of_ble_eq_true rfl) (fun p e s m below meth c ls X hr V hl => ?_)
  have hl : lv_has ls 3 [(0, .ref (bl_ad g a0)), (1, .int a1), (2, .int a2)] := hl
  unfold f_X10_ledger at hf
  refine lv_aload_n X.1 X.2.1 dX10_ledger_0 rfl (lv_at hl 0 rfl) ?_
  refine lv_bipush (v := 118) X.1 X.2.1 dX10_ledger_1 (by decide) ?_
  refine lv_iload_n X.1 X.2.1 dX10_ledger_3 rfl (lv_at hl 1 rfl) ?_
  refine lv_iload_n X.1 X.2.1 dX10_ledger_4 rfl (lv_at hl 2 rfl) ?_
  obtain ⟨r1, σ2, h3, hf⟩ := bl_bd_at hf
  refine bl_cVi (As := [.int 118, .int a1, .int a2]) X V hl.1 ha0 rfl ml_X10_288 mV_X10_entry (t_X10_entry l g σ a0 118 a1 a2 _ ha0 h3) rfl rfl ⟨Nat.le_of_ble_eq_true rfl, Nat.le_of_ble_eq_true rfl⟩ rfl rfl (Nat.le_of_ble_eq_true rfl) ⟨Nat.zero_le _, Nat.zero_le _⟩ dX10_ledger_5 (fun H locs V => ?_)
  exact bl_reti X V hr hf dX10_ledger_8
set_option maxHeartbeats 4000000 in
set_option maxRecDepth 100000 in
theorem w_X10_mean_54 {p : Program} {l : Launch} {e : Env} {s : State} {m : MethodId} {below : List Frame} {meth : Method} {c : Code} {g : bl_Gp} {as : List Value} {out : Int32 × bl_St} (X : bl_Cx g p s m as.toArray meth c cX10_mean 7 RX10) (hr : meth.sig.returnType = (Option.some Jvm.ClassFile.FieldType.int)) (k54 : bl_St → Int32 → Int32 → Int32 → Int32 → Int32 → Option (Int32 × bl_St)) (hk54 : ∀ (σ : bl_St) (v1 : Int32) (v2 : Int32) (v3 : Int32) (v4 : Int32) (v5 : Int32), k54 σ v1 v2 v3 v4 v5 = some out → ∀ (H : Heap) (locs : List Loc) (ls : Array Slot), bl_V g s σ H locs → lv_has ls 7 [(1, .int v1), (2, .int v2), (3, .int v3), (4, .int v4), (5, .int v5)] → W p l e (bl_rm 0 0) s m as.toArray below meth c H locs 0 0 (bl_Qi below g s as out) (F0 m 54 ls [])) : ∀ (σ : bl_St) (v1 : Int32) (v2 : Int32) (v3 : Int32) (v4 : Int32) (v5 : Int32), (b_X10_mean_54 k54) σ v1 v2 v3 v4 v5 = some out → ∀ (H : Heap) (locs : List Loc) (ls : Array Slot), bl_V g s σ H locs → lv_has ls 7 [(1, .int v1), (2, .int v2), (3, .int v3), (4, .int v4), (5, .int v5)] → W p l e (bl_rm 0 0) s m as.toArray below meth c H locs 0 0 (bl_Qi below g s as out) (F0 m 54 ls []) := by
  intro σ v1 v2 v3 v4 v5  hf H locs ls V hl
  unfold b_X10_mean_54 at hf
  refine lv_iload X.1 X.2.1 dX10_mean_54 (lv_at hl 4 rfl) ?_
  refine lv_if_eq (tgt := 77) X.1 X.2.1 dX10_mean_56 (by decide) (fun c1 => ?_) (fun c1 => ?_)
  · have hf := bl_ifp c1 hf
    refine lv_iload_n X.1 X.2.1 dX10_mean_77 rfl (lv_at hl 0 rfl) ?_
    refine lv_if_eq (tgt := 88) X.1 X.2.1 dX10_mean_78 (by decide) (fun c2 => ?_) (fun c2 => ?_)
    · have hf := bl_ifp c2 hf
      refine lv_iload_n X.1 X.2.1 dX10_mean_88 rfl (lv_at hl 2 rfl) ?_
      refine lv_iload X.1 X.2.1 dX10_mean_89 (lv_at hl 3 rfl) ?_
      obtain ⟨h3, hf⟩ := bl_gd_at hf
      refine lv_idiv X.1 X.2.1 dX10_mean_91 (by simpa using h3) ?_
      exact bl_reti X V hr hf dX10_mean_92
    · have hf := bl_ifn c2 hf
      refine lv_iload_n X.1 X.2.1 dX10_mean_81 rfl (lv_at hl 1 rfl) ?_
      refine lv_iload X.1 X.2.1 dX10_mean_82 (lv_at hl 3 rfl) ?_
      obtain ⟨h4, hf⟩ := bl_gd_at hf
      refine lv_idiv X.1 X.2.1 dX10_mean_84 (by simpa using h4) ?_
      refine lv_goto (tgt := 92) X.1 X.2.1 dX10_mean_85 (by decide) ?_
      exact bl_reti X V hr hf dX10_mean_92
  · have hf := bl_ifn c1 hf
    refine lv_iload X.1 X.2.1 dX10_mean_59 (lv_at hl 3 rfl) ?_
    refine lv_iload X.1 X.2.1 dX10_mean_61 (lv_at hl 4 rfl) ?_
    obtain ⟨h5, hf⟩ := bl_gd_at hf
    refine lv_irem X.1 X.2.1 dX10_mean_63 (by simpa using h5) ?_
    refine lv_topi (fun x6 e7 => ?_)
    have hf := bl_let_at e7 hf
    refine lv_istore (lv' := [(6, .int x6), (1, .int v1), (2, .int v2), (3, .int v3), (4, .int v4), (5, .int v5)]) X.1 X.2.1 dX10_mean_64 hl (by decide) rfl (fun ls hl => ?_)
    refine lv_iload X.1 X.2.1 dX10_mean_66 (lv_at hl 5 rfl) ?_
    refine lv_istore (lv' := [(4, .int v5), (6, .int x6), (1, .int v1), (2, .int v2), (3, .int v3), (5, .int v5)]) X.1 X.2.1 dX10_mean_68 hl (by decide) rfl (fun ls hl => ?_)
    refine lv_iload X.1 X.2.1 dX10_mean_70 (lv_at hl 1 rfl) ?_
    refine lv_istore (lv' := [(5, .int x6), (4, .int v5), (6, .int x6), (1, .int v1), (2, .int v2), (3, .int v3)]) X.1 X.2.1 dX10_mean_72 hl (by decide) rfl (fun ls hl => ?_)
    refine lv_goto (tgt := 54) X.1 X.2.1 dX10_mean_74 (by decide) ?_
    exact hk54 σ v1 v2 v3 v5 x6  hf _ _ _ V (lv_sub hl [3, 4, 5, 1, 0] rfl)
theorem l_X10_mean_54 {p : Program} {l : Launch} {e : Env} {s : State} {m : MethodId} {below : List Frame} {meth : Method} {c : Code} {g : bl_Gp} {as : List Value} {out : Int32 × bl_St} (X : bl_Cx g p s m as.toArray meth c cX10_mean 7 RX10) (hr : meth.sig.returnType = (Option.some Jvm.ClassFile.FieldType.int)) (n : Nat) : ∀ (σ : bl_St) (v1 : Int32) (v2 : Int32) (v3 : Int32) (v4 : Int32) (v5 : Int32), (bl_fx (fun _ _ _ _ _ _ => none) (b_X10_mean_54 ) n) σ v1 v2 v3 v4 v5 = some out → ∀ (H : Heap) (locs : List Loc) (ls : Array Slot), bl_V g s σ H locs → lv_has ls 7 [(1, .int v1), (2, .int v2), (3, .int v3), (4, .int v4), (5, .int v5)] → W p l e (bl_rm 0 0) s m as.toArray below meth c H locs 0 0 (bl_Qi below g s as out) (F0 m 54 ls []) := by
  induction n with
  | zero =>
    intro σ v1 v2 v3 v4 v5  hf H locs ls V hl
    cases hf
  | succ n ih => exact w_X10_mean_54 X hr  _ ih
set_option maxHeartbeats 4000000 in
set_option maxRecDepth 100000 in
theorem w_X10_mean_19 {p : Program} {l : Launch} {e : Env} {s : State} {m : MethodId} {below : List Frame} {meth : Method} {c : Code} {g : bl_Gp} {as : List Value} {out : Int32 × bl_St} (X : bl_Cx g p s m as.toArray meth c cX10_mean 7 RX10) (hr : meth.sig.returnType = (Option.some Jvm.ClassFile.FieldType.int)) (k19 : bl_St → Nat → Int32 → Int32 → Int32 → Int32 → Option (Int32 × bl_St)) (hk19 : ∀ (σ : bl_St) (v0 : Nat) (v1 : Int32) (v2 : Int32) (v3 : Int32) (v4 : Int32), bl_sh[v0]? = some (10, 28) → k19 σ v0 v1 v2 v3 v4 = some out → ∀ (H : Heap) (locs : List Loc) (ls : Array Slot), bl_V g s σ H locs → lv_has ls 7 [(0, .ref (bl_ad g v0)), (1, .int v1), (2, .int v2), (3, .int v3), (4, .int v4)] → W p l e (bl_rm 0 0) s m as.toArray below meth c H locs 0 0 (bl_Qi below g s as out) (F0 m 19 ls [])) : ∀ (σ : bl_St) (v0 : Nat) (v1 : Int32) (v2 : Int32) (v3 : Int32) (v4 : Int32), bl_sh[v0]? = some (10, 28) → (b_X10_mean_19 k19) σ v0 v1 v2 v3 v4 = some out → ∀ (H : Heap) (locs : List Loc) (ls : Array Slot), bl_V g s σ H locs → lv_has ls 7 [(0, .ref (bl_ad g v0)), (1, .int v1), (2, .int v2), (3, .int v3), (4, .int v4)] → W p l e (bl_rm 0 0) s m as.toArray below meth c H locs 0 0 (bl_Qi below g s as out) (F0 m 19 ls []) := by
  intro σ v0 v1 v2 v3 v4 hv0 hf H locs ls V hl
  unfold b_X10_mean_19 at hf
  refine lv_iload X.1 X.2.1 dX10_mean_19 (lv_at hl 4 rfl) ?_
  refine lv_iload_n X.1 X.2.1 dX10_mean_21 rfl (lv_at hl 2 rfl) ?_
  refine lv_icmp_ge (tgt := 48) X.1 X.2.1 dX10_mean_22 (by decide) (fun c8 => ?_) (fun c8 => ?_)
  · have hf := bl_ifp c8 hf
    refine lv_iload_n X.1 X.2.1 dX10_mean_48 rfl (lv_at hl 3 rfl) ?_
    refine lv_istore (lv' := [(4, .int v3), (0, .ref (bl_ad g v0)), (1, .int v1), (2, .int v2), (3, .int v3)]) X.1 X.2.1 dX10_mean_49 hl (by decide) rfl (fun ls hl => ?_)
    refine lv_iload_n X.1 X.2.1 dX10_mean_51 rfl (lv_at hl 3 rfl) ?_
    refine lv_istore (lv' := [(5, .int v2), (4, .int v3), (0, .ref (bl_ad g v0)), (1, .int v1), (2, .int v2), (3, .int v3)]) X.1 X.2.1 dX10_mean_52 hl (by decide) rfl (fun ls hl => ?_)
    exact l_X10_mean_54 X hr  bl_fu σ v1 v2 v3 v3 v2  hf _ _ _ V (lv_sub hl [3, 4, 5, 1, 0] rfl)
  · have hf := bl_ifn c8 hf
    refine lv_iload_n X.1 X.2.1 dX10_mean_25 rfl (lv_at hl 3 rfl) ?_
    refine lv_aload_n X.1 X.2.1 dX10_mean_26 rfl (lv_at hl 0 rfl) ?_
    refine bl_getr X V hv0 fl_X10_13 rfl dX10_mean_27 (fun h9 => ?_)
    refine lv_bipush (v := 119) X.1 X.2.1 dX10_mean_30 (by decide) ?_
    refine lv_iconst (v := 3) X.1 X.2.1 dX10_mean_32 (by decide) ?_
    refine lv_iload X.1 X.2.1 dX10_mean_33 (lv_at hl 4 rfl) ?_
    refine lv_imul X.1 X.2.1 dX10_mean_35 ?_
    refine lv_iadd X.1 X.2.1 dX10_mean_36 ?_
    refine lv_iconst (v := 1) X.1 X.2.1 dX10_mean_37 (by decide) ?_
    refine lv_iadd X.1 X.2.1 dX10_mean_38 ?_
    obtain ⟨h10, hf⟩ := bl_gd_at hf
    refine bl_iald (k := (Int32.toNatClampNeg ((119 + (3 * v4)) + 1))) X V h9 h10 rfl dX10_mean_39 ?_
    refine lv_iadd X.1 X.2.1 dX10_mean_40 ?_
    refine lv_topi (fun x11 e12 => ?_)
    have hf := bl_let_at e12 hf
    refine lv_istore_n (lv' := [(3, .int x11), (0, .ref (bl_ad g v0)), (1, .int v1), (2, .int v2), (4, .int v4)]) X.1 X.2.1 dX10_mean_41 rfl hl (by decide) rfl (fun ls hl => ?_)
    obtain ⟨x13, e14⟩ : ∃ z : Int32, z = v4 + 1 := ⟨_, rfl⟩
    have hf := bl_let_at e14 hf
    refine lv_iinc (v := x13) (lv' := [(4, .int x13), (3, .int x11), (0, .ref (bl_ad g v0)), (1, .int v1), (2, .int v2)]) X.1 X.2.1 dX10_mean_42 hl (k := 4) rfl (by rw [e14]; rfl) (by decide) rfl (fun ls hl => ?_)
    refine lv_goto (tgt := 19) X.1 X.2.1 dX10_mean_45 (by decide) ?_
    exact hk19 σ v0 v1 v2 x11 x13 hv0 hf _ _ _ V (lv_sub hl [2, 3, 4, 1, 0] rfl)
theorem l_X10_mean_19 {p : Program} {l : Launch} {e : Env} {s : State} {m : MethodId} {below : List Frame} {meth : Method} {c : Code} {g : bl_Gp} {as : List Value} {out : Int32 × bl_St} (X : bl_Cx g p s m as.toArray meth c cX10_mean 7 RX10) (hr : meth.sig.returnType = (Option.some Jvm.ClassFile.FieldType.int)) (n : Nat) : ∀ (σ : bl_St) (v0 : Nat) (v1 : Int32) (v2 : Int32) (v3 : Int32) (v4 : Int32), bl_sh[v0]? = some (10, 28) → (bl_fx (fun _ _ _ _ _ _ => none) (b_X10_mean_19 ) n) σ v0 v1 v2 v3 v4 = some out → ∀ (H : Heap) (locs : List Loc) (ls : Array Slot), bl_V g s σ H locs → lv_has ls 7 [(0, .ref (bl_ad g v0)), (1, .int v1), (2, .int v2), (3, .int v3), (4, .int v4)] → W p l e (bl_rm 0 0) s m as.toArray below meth c H locs 0 0 (bl_Qi below g s as out) (F0 m 19 ls []) := by
  induction n with
  | zero =>
    intro σ v0 v1 v2 v3 v4 hv0 hf H locs ls V hl
    cases hf
  | succ n ih => exact w_X10_mean_19 X hr  _ ih
set_option maxHeartbeats 4000000 in
set_option maxRecDepth 100000 in
theorem t_X10_mean (l : Launch) (g : bl_Gp) (σ : bl_St) (a0 : Nat) (a1 : Int32) (o : Int32 × bl_St) (ha0 : bl_sh[a0]? = some (10, 28)) (hf : f_X10_mean σ a0 a1 = some o) : bl_Ci l g yX10_mean cX10_mean 7 (Option.some Jvm.ClassFile.FieldType.int) (bl_rm 0 0) [.ref (bl_ad g a0), .int a1] σ o := by
  refine bl_met (by decide) (Nat.le_of_ble_eq_true rfl) (fun p e s m below meth c ls X hr V hl => ?_)
  have hl : lv_has ls 7 [(0, .ref (bl_ad g a0)), (1, .int a1)] := hl
  unfold f_X10_mean at hf
  refine lv_aload_n X.1 X.2.1 dX10_mean_0 rfl (lv_at hl 0 rfl) ?_
  refine bl_getr X V ha0 fl_X10_13 rfl dX10_mean_1 (fun h15 => ?_)
  refine lv_bipush (v := 118) X.1 X.2.1 dX10_mean_4 (by decide) ?_
  refine bl_iald (k := 118) X V h15 (by decide) (by decide) dX10_mean_6 ?_
  refine lv_topi (fun x16 e17 => ?_)
  have hf := bl_let_at e17 hf
  refine lv_istore_n (lv' := [(2, .int x16), (0, .ref (bl_ad g a0)), (1, .int a1)]) X.1 X.2.1 dX10_mean_7 rfl hl (by decide) rfl (fun ls hl => ?_)
  refine lv_iload_n X.1 X.2.1 dX10_mean_8 rfl (lv_at hl 0 rfl) ?_
  refine lv_if_ne (tgt := 14) X.1 X.2.1 dX10_mean_9 (by decide) (fun c18 => ?_) (fun c18 => ?_)
  · have hf := bl_ifn c18 hf
    refine lv_iconst (v := 0) X.1 X.2.1 dX10_mean_14 (by decide) ?_
    refine lv_istore_n (lv' := [(3, .int 0), (2, .int x16), (0, .ref (bl_ad g a0)), (1, .int a1)]) X.1 X.2.1 dX10_mean_15 rfl hl (by decide) rfl (fun ls hl => ?_)
    refine lv_iconst (v := 0) X.1 X.2.1 dX10_mean_16 (by decide) ?_
    refine lv_istore (lv' := [(4, .int 0), (3, .int 0), (2, .int x16), (0, .ref (bl_ad g a0)), (1, .int a1)]) X.1 X.2.1 dX10_mean_17 hl (by decide) rfl (fun ls hl => ?_)
    exact l_X10_mean_19 X hr  bl_fu σ a0 a1 x16 0 0 ha0 hf _ _ _ V (lv_sub hl [3, 4, 2, 1, 0] rfl)
  · have hf := bl_ifp c18 hf
    refine lv_iconst (v := (-1)) X.1 X.2.1 dX10_mean_12 (by decide) ?_
    exact bl_reti X V hr hf dX10_mean_13
set_option maxHeartbeats 4000000 in
set_option maxRecDepth 100000 in
theorem t_X10_writesSign (l : Launch) (g : bl_Gp) (σ : bl_St) (a0 : Nat) (a1 : Int32) (o : Unit × bl_St) (ha0 : bl_sh[a0]? = some (10, 28)) (hf : f_X10_writesSign σ a0 a1 = some o) : bl_Cv l g yX10_writesSign cX10_writesSign 2 (Option.none : Option Jvm.ClassFile.FieldType) (bl_rm 0 0) [.ref (bl_ad g a0), .int a1] σ o := by
  refine bl_met (by decide) (Nat.le_of_ble_eq_true rfl) (fun p e s m below meth c ls X hr V hl => ?_)
  have hl : lv_has ls 2 [(0, .ref (bl_ad g a0)), (1, .int a1)] := hl
  unfold f_X10_writesSign at hf
  refine lv_aload_n X.1 X.2.1 dX10_writesSign_0 rfl (lv_at hl 0 rfl) ?_
  refine bl_getr X V ha0 fl_X10_49 rfl dX10_writesSign_1 (fun h1 => ?_)
  refine lv_aload_n X.1 X.2.1 dX10_writesSign_4 rfl (lv_at hl 0 rfl) ?_
  refine bl_geti X V ha0 fl_X10_291 dX10_writesSign_5 ?_
  refine lv_iload_n X.1 X.2.1 dX10_writesSign_8 rfl (lv_at hl 1 rfl) ?_
  obtain ⟨h2, hf⟩ := bl_gd_at hf
  refine bl_iast (k := (Int32.toNatClampNeg (bl_I σ a0 19))) X V h1 h2 rfl dX10_writesSign_9 (fun σ3 H locs e4 V => ?_)
  have hf := bl_let_at e4 hf
  refine lv_aload_n X.1 X.2.1 dX10_writesSign_10 rfl (lv_at hl 0 rfl) ?_
  refine lv_dup X.1 X.2.1 dX10_writesSign_11 rfl ?_
  refine bl_geti X V ha0 fl_X10_291 dX10_writesSign_12 ?_
  refine lv_iconst (v := 1) X.1 X.2.1 dX10_writesSign_15 (by decide) ?_
  refine lv_iadd X.1 X.2.1 dX10_writesSign_16 ?_
  refine bl_puti X V ha0 fp_X10_291 rfl rfl dX10_writesSign_17 (fun σ5 H locs e6 V => ?_)
  have hf := bl_let_at e6 hf
  exact bl_retv X V hr hf dX10_writesSign_20
