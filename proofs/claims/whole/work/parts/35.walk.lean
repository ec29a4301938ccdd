set_option maxHeartbeats 4000000 in
set_option maxRecDepth 100000 in
theorem t_X10_in (l : Launch) (g : bl_Gp) (σ : bl_St) (a0 : Int64) (a2 : Int64) (a4 : Int64) (o : Int32 × bl_St) (hf : f_X10_in σ a0 a2 a4 = some o) : bl_Ci l g yX10_in cX10_in 6 (Option.some Jvm.ClassFile.FieldType.boolean) (bl_rm 0 0) [.long a0, .long a2, .long a4] σ o := by
  refine bl_met (by decide) (Nat.le_of_ble_eq_true rfl) (fun p e s m below meth c ls X hr V hl => ?_)
  have hl : lv_has ls 6 [(0, .long a0), (2, .long a2), (4, .long a4)] := hl
  unfold f_X10_in at hf
  refine lv_lload_n X.1 X.2.1 dX10_in_0 rfl (lv_at hl 0 rfl) ?_
  refine lv_lload_n X.1 X.2.1 dX10_in_1 rfl (lv_at hl 1 rfl) ?_
  refine bl_lc_lt (tgt := 17) X dX10_in_2 dX10_in_3 (by decide) (fun c1 => ?_) (fun c1 => ?_)
  · have hf := bl_ifp c1 hf
    refine lv_iconst (v := 0) X.1 X.2.1 dX10_in_17 (by decide) ?_
    exact bl_retz X V hr (by decide) hf dX10_in_18
  · have hf := bl_ifn c1 hf
    refine lv_lload_n X.1 X.2.1 dX10_in_6 rfl (lv_at hl 0 rfl) ?_
    refine lv_lload X.1 X.2.1 dX10_in_7 (lv_at hl 2 rfl) ?_
    refine bl_lc_gt (tgt := 17) X dX10_in_9 dX10_in_10 (by decide) (fun c2 => ?_) (fun c2 => ?_)
    · have hf := bl_ifp c2 hf
      refine lv_iconst (v := 0) X.1 X.2.1 dX10_in_17 (by decide) ?_
      exact bl_retz X V hr (by decide) hf dX10_in_18
    · have hf := bl_ifn c2 hf
      refine lv_iconst (v := 1) X.1 X.2.1 dX10_in_13 (by decide) ?_
      refine lv_goto (tgt := 18) X.1 X.2.1 dX10_in_14 (by decide) ?_
      exact bl_retz X V hr (by decide) hf dX10_in_18
set_option maxHeartbeats 4000000 in
set_option maxRecDepth 100000 in
theorem t_X10_lesser (l : Launch) (g : bl_Gp) (σ : bl_St) (a0 : Int64) (a2 : Int64) (o : Int64 × bl_St) (hf : f_X10_lesser σ a0 a2 = some o) : bl_Cl l g yX10_lesser cX10_lesser 4 (Option.some Jvm.ClassFile.FieldType.long) (bl_rm 0 0) [.long a0, .long a2] σ o := by
  refine bl_met (by decide) (Nat.le_of_ble_eq_true rfl) (fun p e s m below meth c ls X hr V hl => ?_)
  have hl : lv_has ls 4 [(0, .long a0), (2, .long a2)] := hl
  unfold f_X10_lesser at hf
  refine lv_lload_n X.1 X.2.1 dX10_lesser_0 rfl (lv_at hl 0 rfl) ?_
  refine lv_lload_n X.1 X.2.1 dX10_lesser_1 rfl (lv_at hl 1 rfl) ?_
  refine bl_lc_ge (tgt := 10) X dX10_lesser_2 dX10_lesser_3 (by decide) (fun c1 => ?_) (fun c1 => ?_)
  · have hf := bl_ifp c1 hf
    refine lv_lload_n X.1 X.2.1 dX10_lesser_10 rfl (lv_at hl 1 rfl) ?_
    exact bl_retl X V hr hf dX10_lesser_11
  · have hf := bl_ifn c1 hf
    refine lv_lload_n X.1 X.2.1 dX10_lesser_6 rfl (lv_at hl 0 rfl) ?_
    refine lv_goto (tgt := 11) X.1 X.2.1 dX10_lesser_7 (by decide) ?_
    exact bl_retl X V hr hf dX10_lesser_11
set_option maxHeartbeats 4000000 in
set_option maxRecDepth 100000 in
theorem t_X10_greater (l : Launch) (g : bl_Gp) (σ : bl_St) (a0 : Int64) (a2 : Int64) (o : Int64 × bl_St) (hf : f_X10_greater σ a0 a2 = some o) : bl_Cl l g yX10_greater cX10_greater 4 (Option.some Jvm.ClassFile.FieldType.long) (bl_rm 0 0) [.long a0, .long a2] σ o := by
  refine bl_met (by decide) (Nat.le_of_ble_eq_true rfl) (fun p e s m below meth c ls X hr V hl => ?_)
  have hl : lv_has ls 4 [(0, .long a0), (2, .long a2)] := hl
  unfold f_X10_greater at hf
  refine lv_lload_n X.1 X.2.1 dX10_greater_0 rfl (lv_at hl 0 rfl) ?_
  refine lv_lload_n X.1 X.2.1 dX10_greater_1 rfl (lv_at hl 1 rfl) ?_
  refine bl_lc_le (tgt := 10) X dX10_greater_2 dX10_greater_3 (by decide) (fun c1 => ?_) (fun c1 => ?_)
  · have hf := bl_ifp c1 hf
    refine lv_lload_n X.1 X.2.1 dX10_greater_10 rfl (lv_at hl 1 rfl) ?_
    exact bl_retl X V hr hf dX10_greater_11
  · have hf := bl_ifn c1 hf
    refine lv_lload_n X.1 X.2.1 dX10_greater_6 rfl (lv_at hl 0 rfl) ?_
    refine lv_goto (tgt := 11) X.1 X.2.1 dX10_greater_7 (by decide) ?_
    exact bl_retl X V hr hf dX10_greater_11
set_option maxHeartbeats 4000000 in
set_option maxRecDepth 100000 in
theorem w_X10_starts_2 {p : Program} {l : Launch} {e : Env} {s : State} {m : MethodId} {below : List Frame} {meth : Method} {c : Code} {g : bl_Gp} {as : List Value} {out : Unit × bl_St} (X : bl_Cx g p s m as.toArray meth c cX10_starts 2 RX10) (hr : meth.sig.returnType = (Option.none : Option Jvm.ClassFile.FieldType)) (k2 : bl_St → Nat → Int32 → Option (Unit × bl_St)) (hk2 : ∀ (σ : bl_St) (v0 : Nat) (v1 : Int32), bl_sh[v0]? = some (20, 167) → k2 σ v0 v1 = some out → ∀ (H : Heap) (locs : List Loc) (ls : Array Slot), bl_V g s σ H locs → lv_has ls 2 [(0, .ref (bl_ad g v0)), (1, .int v1)] → W p l e (bl_rm 0 0) s m as.toArray below meth c H locs 0 0 (bl_Qv below g s as out) (F0 m 2 ls [])) : ∀ (σ : bl_St) (v0 : Nat) (v1 : Int32), bl_sh[v0]? = some (20, 167) → (b_X10_starts_2 k2) σ v0 v1 = some out → ∀ (H : Heap) (locs : List Loc) (ls : Array Slot), bl_V g s σ H locs → lv_has ls 2 [(0, .ref (bl_ad g v0)), (1, .int v1)] → W p l e (bl_rm 0 0) s m as.toArray below meth c H locs 0 0 (bl_Qv below g s as out) (F0 m 2 ls []) := by
  intro σ v0 v1 hv0 hf H locs ls V hl
  unfold b_X10_starts_2 at hf
  refine lv_iload_n X.1 X.2.1 dX10_starts_2 rfl (lv_at hl 1 rfl) ?_
  refine lv_sipush (v := 167) X.1 X.2.1 dX10_starts_3 (by decide) ?_
  refine lv_icmp_ge (tgt := 19) X.1 X.2.1 dX10_starts_6 (by decide) (fun c1 => ?_) (fun c1 => ?_)
  · have hf := bl_ifp c1 hf
    refine lv_aload_n X.1 X.2.1 dX10_starts_19 rfl (lv_at hl 0 rfl) ?_
    refine lv_iconst (v := 2) X.1 X.2.1 dX10_starts_20 (by decide) ?_
    refine lv_iconst (v := 2) X.1 X.2.1 dX10_starts_21 (by decide) ?_
    refine bl_iast (k := 2) X V hv0 (by decide) (by decide) dX10_starts_22 (fun σ2 H locs e3 V => ?_)
    have hf := bl_let_at e3 hf
    refine lv_aload_n X.1 X.2.1 dX10_starts_23 rfl (lv_at hl 0 rfl) ?_
    refine lv_iconst (v := 3) X.1 X.2.1 dX10_starts_24 (by decide) ?_
    refine lv_iconst (v := 3) X.1 X.2.1 dX10_starts_25 (by decide) ?_
    refine bl_iast (k := 3) X V hv0 (by decide) (by decide) dX10_starts_26 (fun σ4 H locs e5 V => ?_)
    have hf := bl_let_at e5 hf
    exact bl_retv X V hr hf dX10_starts_27
  · have hf := bl_ifn c1 hf
    refine lv_aload_n X.1 X.2.1 dX10_starts_9 rfl (lv_at hl 0 rfl) ?_
    refine lv_iload_n X.1 X.2.1 dX10_starts_10 rfl (lv_at hl 1 rfl) ?_
    refine lv_iconst (v := 0) X.1 X.2.1 dX10_starts_11 (by decide) ?_
    obtain ⟨h6, hf⟩ := bl_gd_at hf
    refine bl_iast (k := (Int32.toNatClampNeg v1)) X V hv0 h6 rfl dX10_starts_12 (fun σ7 H locs e8 V => ?_)
    have hf := bl_let_at e8 hf
    obtain ⟨x9, e10⟩ : ∃ z : Int32, z = v1 + 1 := ⟨_, rfl⟩
    have hf := bl_let_at e10 hf
    refine lv_iinc (v := x9) (lv' := [(1, .int x9), (0, .ref (bl_ad g v0))]) X.1 X.2.1 dX10_starts_13 hl (k := 1) rfl (by rw [e10]; rfl) (by decide) rfl (fun ls hl => ?_)
    refine lv_goto (tgt := 2) X.1 X.2.1 dX10_starts_16 (by decide) ?_
    exact hk2 σ7 v0 x9 hv0 hf _ _ _ V (lv_sub hl [1, 0] rfl)
theorem l_X10_starts_2 {p : Program} {l : Launch} {e : Env} {s : State} {m : MethodId} {below : List Frame} {meth : Method} {c : Code} {g : bl_Gp} {as : List Value} {out : Unit × bl_St} (X : bl_Cx g p s m as.toArray meth c cX10_starts 2 RX10) (hr : meth.sig.returnType = (Option.none : Option Jvm.ClassFile.FieldType)) (n : Nat) : ∀ (σ : bl_St) (v0 : Nat) (v1 : Int32), bl_sh[v0]? = some (20, 167) → (bl_fx (fun _ _ _ => none) (b_X10_starts_2 ) n) σ v0 v1 = some out → ∀ (H : Heap) (locs : List Loc) (ls : Array Slot), bl_V g s σ H locs → lv_has ls 2 [(0, .ref (bl_ad g v0)), (1, .int v1)] → W p l e (bl_rm 0 0) s m as.toArray below meth c H locs 0 0 (bl_Qv below g s as out) (F0 m 2 ls []) := by
  induction n with
  | zero =>
    intro σ v0 v1 hv0 hf H locs ls V hl
    cases hf
  | succ n ih => exact w_X10_starts_2 X hr  _ ih
set_option maxHeartbeats 4000000 in
set_option maxRecDepth 100000 in
theorem t_X10_starts (l : Launch) (g : bl_Gp) (σ : bl_St) (a0 : Nat) (o : Unit × bl_St) (ha0 : bl_sh[a0]? = some (20, 167)) (hf : f_X10_starts σ a0 = some o) : bl_Cv l g yX10_starts cX10_starts 2 (Option.none : Option Jvm.ClassFile.FieldType) (bl_rm 0 0) [.ref (bl_ad g a0)] σ o := by
  refine bl_met (by decide) (Nat.le_of_ble_eq_true rfl) (fun p e s m below meth c ls X hr V hl => ?_)
  have hl : lv_has ls 2 [(0, .ref (bl_ad g a0))] := hl
  unfold f_X10_starts at hf
  refine lv_iconst (v := 0) X.1 X.2.1 dX10_starts_0 (by decide) ?_
  refine lv_istore_n (lv' := [(1, .int 0), (0, .ref (bl_ad g a0))]) X.1 X.2.1 dX10_starts_1 rfl hl (by decide) rfl (fun ls hl => ?_)
  exact l_X10_starts_2 X hr  bl_fu σ a0 0 ha0 hf _ _ _ V (lv_sub hl [1, 0] rfl)
set_option maxHeartbeats 4000000 in
set_option maxRecDepth 100000 in
theorem w_X10_copies_2 {p : Program} {l : Launch} {e : Env} {s : State} {m : MethodId} {below : List Frame} {meth : Method} {c : Code} {g : bl_Gp} {as : List Value} {out : Unit × bl_St} (X : bl_Cx g p s m as.toArray meth c cX10_copies 3 RX10) (hr : meth.sig.returnType = (Option.none : Option Jvm.ClassFile.FieldType)) (k2 : bl_St → Nat → Nat → Int32 → Option (Unit × bl_St)) (hk2 : ∀ (σ : bl_St) (v0 : Nat) (v1 : Nat) (v2 : Int32), bl_sh[v0]? = some (20, 167) → bl_sh[v1]? = some (20, 167) → k2 σ v0 v1 v2 = some out → ∀ (H : Heap) (locs : List Loc) (ls : Array Slot), bl_V g s σ H locs → lv_has ls 3 [(0, .ref (bl_ad g v0)), (1, .ref (bl_ad g v1)), (2, .int v2)] → W p l e (bl_rm 0 0) s m as.toArray below meth c H locs 0 0 (bl_Qv below g s as out) (F0 m 2 ls [])) : ∀ (σ : bl_St) (v0 : Nat) (v1 : Nat) (v2 : Int32), bl_sh[v0]? = some (20, 167) → bl_sh[v1]? = some (20, 167) → (b_X10_copies_2 k2) σ v0 v1 v2 = some out → ∀ (H : Heap) (locs : List Loc) (ls : Array Slot), bl_V g s σ H locs → lv_has ls 3 [(0, .ref (bl_ad g v0)), (1, .ref (bl_ad g v1)), (2, .int v2)] → W p l e (bl_rm 0 0) s m as.toArray below meth c H locs 0 0 (bl_Qv below g s as out) (F0 m 2 ls []) := by
  intro σ v0 v1 v2 hv0 hv1 hf H locs ls V hl
  unfold b_X10_copies_2 at hf
  refine lv_iload_n X.1 X.2.1 dX10_copies_2 rfl (lv_at hl 2 rfl) ?_
  refine lv_sipush (v := 167) X.1 X.2.1 dX10_copies_3 (by decide) ?_
  refine lv_icmp_ge (tgt := 21) X.1 X.2.1 dX10_copies_6 (by decide) (fun c1 => ?_) (fun c1 => ?_)
  · have hf := bl_ifp c1 hf
    exact bl_retv X V hr hf dX10_copies_21
  · have hf := bl_ifn c1 hf
    refine lv_aload_n X.1 X.2.1 dX10_copies_9 rfl (lv_at hl 1 rfl) ?_
    refine lv_iload_n X.1 X.2.1 dX10_copies_10 rfl (lv_at hl 2 rfl) ?_
    refine lv_aload_n X.1 X.2.1 dX10_copies_11 rfl (lv_at hl 0 rfl) ?_
    refine lv_iload_n X.1 X.2.1 dX10_copies_12 rfl (lv_at hl 2 rfl) ?_
    obtain ⟨h2, hf⟩ := bl_gd_at hf
    refine bl_iald (k := (Int32.toNatClampNeg v2)) X V hv0 h2 rfl dX10_copies_13 ?_
    obtain ⟨h3, hf⟩ := bl_gd_at hf
    refine bl_iast (k := (Int32.toNatClampNeg v2)) X V hv1 h3 rfl dX10_copies_14 (fun σ4 H locs e5 V => ?_)
    have hf := bl_let_at e5 hf
    obtain ⟨x6, e7⟩ : ∃ z : Int32, z = v2 + 1 := ⟨_, rfl⟩
    have hf := bl_let_at e7 hf
    refine lv_iinc (v := x6) (lv' := [(2, .int x6), (0, .ref (bl_ad g v0)), (1, .ref (bl_ad g v1))]) X.1 X.2.1 dX10_copies_15 hl (k := 2) rfl (by rw [e7]; rfl) (by decide) rfl (fun ls hl => ?_)
    refine lv_goto (tgt := 2) X.1 X.2.1 dX10_copies_18 (by decide) ?_
    exact hk2 σ4 v0 v1 x6 hv0 hv1 hf _ _ _ V (lv_sub hl [1, 2, 0] rfl)
theorem l_X10_copies_2 {p : Program} {l : Launch} {e : Env} {s : State} {m : MethodId} {below : List Frame} {meth : Method} {c : Code} {g : bl_Gp} {as : List Value} {out : Unit × bl_St} (X : bl_Cx g p s m as.toArray meth c cX10_copies 3 RX10) (hr : meth.sig.returnType = (Option.none : Option Jvm.ClassFile.FieldType)) (n : Nat) : ∀ (σ : bl_St) (v0 : Nat) (v1 : Nat) (v2 : Int32), bl_sh[v0]? = some (20, 167) → bl_sh[v1]? = some (20, 167) → (bl_fx (fun _ _ _ _ => none) (b_X10_copies_2 ) n) σ v0 v1 v2 = some out → ∀ (H : Heap) (locs : List Loc) (ls : Array Slot), bl_V g s σ H locs → lv_has ls 3 [(0, .ref (bl_ad g v0)), (1, .ref (bl_ad g v1)), (2, .int v2)] → W p l e (bl_rm 0 0) s m as.toArray below meth c H locs 0 0 (bl_Qv below g s as out) (F0 m 2 ls []) := by
  induction n with
  | zero =>
    intro σ v0 v1 v2 hv0 hv1 hf H locs ls V hl
    cases hf
  | succ n ih => exact w_X10_copies_2 X hr  _ ih
set_option maxHeartbeats 4000000 in
set_option maxRecDepth 100000 in
theorem t_X10_copies (l : Launch) (g : bl_Gp) (σ : bl_St) (a0 : Nat) (a1 : Nat) (o : Unit × bl_St) (ha0 : bl_sh[a0]? = some (20, 167)) (ha1 : bl_sh[a1]? = some (20, 167)) (hf : f_X10_copies σ a0 a1 = some o) : bl_Cv l g yX10_copies cX10_copies 3 (Option.none : Option Jvm.ClassFile.FieldType) (bl_rm 0 0) [.ref (bl_ad g a0), .ref (bl_ad g a1)] σ o := by
  refine bl_met (by decide) (Nat.le_of_ble_eq_true rfl) (fun p e s m below meth c ls X hr V hl => ?_)
  have hl : lv_has ls 3 [(0, .ref (bl_ad g a0)), (1, .ref (bl_ad g a1))] := hl
  unfold f_X10_copies at hf
  refine lv_iconst (v := 0) X.1 X.2.1 dX10_copies_0 (by decide) ?_
  refine lv_istore_n (lv' := [(2, .int 0), (0, .ref (bl_ad g a0)), (1, .ref (bl_ad g a1))]) X.1 X.2.1 dX10_copies_1 rfl hl (by decide) rfl (fun ls hl => ?_)
  exact l_X10_copies_2 X hr  bl_fu σ a0 a1 0 ha0 ha1 hf _ _ _ V (lv_sub hl [1, 2, 0] rfl)
set_option maxHeartbeats 4000000 in
set_option maxRecDepth 100000 in
theorem w_X10_keeps_54 {p : Program} {l : Launch} {e : Env} {s : State} {m : MethodId} {below : List Frame} {meth : Method} {c : Code} {g : bl_Gp} {as : List Value} {out : Unit × bl_St} (X : bl_Cx g p s m as.toArray meth c cX10_keeps 2 RX10) (hr : meth.sig.returnType = (Option.none : Option Jvm.ClassFile.FieldType)) (k54 : bl_St → Nat → Int32 → Option (Unit × bl_St)) (hk54 : ∀ (σ : bl_St) (v0 : Nat) (v1 : Int32), bl_sh[v0]? = some (10, 28) → k54 σ v0 v1 = some out → ∀ (H : Heap) (locs : List Loc) (ls : Array Slot), bl_V g s σ H locs → lv_has ls 2 [(0, .ref (bl_ad g v0)), (1, .int v1)] → W p l e (bl_rm 0 0) s m as.toArray below meth c H locs 0 0 (bl_Qv below g s as out) (F0 m 54 ls [])) : ∀ (σ : bl_St) (v0 : Nat) (v1 : Int32), bl_sh[v0]? = some (10, 28) → (b_X10_keeps_54 k54) σ v0 v1 = some out → ∀ (H : Heap) (locs : List Loc) (ls : Array Slot), bl_V g s σ H locs → lv_has ls 2 [(0, .ref (bl_ad g v0)), (1, .int v1)] → W p l e (bl_rm 0 0) s m as.toArray below meth c H locs 0 0 (bl_Qv below g s as out) (F0 m 54 ls []) := by
  intro σ v0 v1 hv0 hf H locs ls V hl
  unfold b_X10_keeps_54 at hf
  refine lv_iload_n X.1 X.2.1 dX10_keeps_54 rfl (lv_at hl 1 rfl) ?_
  refine lv_sipush (v := 167) X.1 X.2.1 dX10_keeps_55 (by decide) ?_
  refine lv_icmp_ge (tgt := 88) X.1 X.2.1 dX10_keeps_58 (by decide) (fun c1 => ?_) (fun c1 => ?_)
  · have hf := bl_ifp c1 hf
    refine lv_aload_n X.1 X.2.1 dX10_keeps_88 rfl (lv_at hl 0 rfl) ?_
    refine lv_dup X.1 X.2.1 dX10_keeps_89 rfl ?_
    refine bl_geti X V hv0 fl_X10_63 dX10_keeps_90 ?_
    refine lv_iconst (v := 1) X.1 X.2.1 dX10_keeps_93 (by decide) ?_
    refine lv_iadd X.1 X.2.1 dX10_keeps_94 ?_
    refine bl_puti X V hv0 fp_X10_63 rfl rfl dX10_keeps_95 (fun σ2 H locs e3 V => ?_)
    have hf := bl_let_at e3 hf
    exact bl_retv X V hr hf dX10_keeps_98
  · have hf := bl_ifn c1 hf
    refine lv_aload_n X.1 X.2.1 dX10_keeps_61 rfl (lv_at hl 0 rfl) ?_
    refine bl_getr X V hv0 fl_X10_23 rfl dX10_keeps_62 (fun h4 => ?_)
    refine lv_sipush (v := 167) X.1 X.2.1 dX10_keeps_65 (by decide) ?_
    refine lv_aload_n X.1 X.2.1 dX10_keeps_68 rfl (lv_at hl 0 rfl) ?_
    refine bl_geti X V hv0 fl_X10_63 dX10_keeps_69 ?_
    refine lv_imul X.1 X.2.1 dX10_keeps_72 ?_
    refine lv_iload_n X.1 X.2.1 dX10_keeps_73 rfl (lv_at hl 1 rfl) ?_
    refine lv_iadd X.1 X.2.1 dX10_keeps_74 ?_
    refine lv_aload_n X.1 X.2.1 dX10_keeps_75 rfl (lv_at hl 0 rfl) ?_
    refine bl_getr X V hv0 fl_X10_13 rfl dX10_keeps_76 (fun h5 => ?_)
    refine lv_iload_n X.1 X.2.1 dX10_keeps_79 rfl (lv_at hl 1 rfl) ?_
    obtain ⟨h6, hf⟩ := bl_gd_at hf
    refine bl_iald (k := (Int32.toNatClampNeg v1)) X V h5 h6 rfl dX10_keeps_80 ?_
    obtain ⟨h7, hf⟩ := bl_gd_at hf
    refine bl_iast (k := (Int32.toNatClampNeg ((167 * (bl_I σ v0 5)) + v1))) X V h4 h7 rfl dX10_keeps_81 (fun σ8 H locs e9 V => ?_)
    have hf := bl_let_at e9 hf
    obtain ⟨x10, e11⟩ : ∃ z : Int32, z = v1 + 1 := ⟨_, rfl⟩
    have hf := bl_let_at e11 hf
    refine lv_iinc (v := x10) (lv' := [(1, .int x10), (0, .ref (bl_ad g v0))]) X.1 X.2.1 dX10_keeps_82 hl (k := 1) rfl (by rw [e11]; rfl) (by decide) rfl (fun ls hl => ?_)
    refine lv_goto (tgt := 54) X.1 X.2.1 dX10_keeps_85 (by decide) ?_
    exact hk54 σ8 v0 x10 hv0 hf _ _ _ V (lv_sub hl [1, 0] rfl)
theorem l_X10_keeps_54 {p : Program} {l : Launch} {e : Env} {s : State} {m : MethodId} {below : List Frame} {meth : Method} {c : Code} {g : bl_Gp} {as : List Value} {out : Unit × bl_St} (X : bl_Cx g p s m as.toArray meth c cX10_keeps 2 RX10) (hr : meth.sig.returnType = (Option.none : Option Jvm.ClassFile.FieldType)) (n : Nat) : ∀ (σ : bl_St) (v0 : Nat) (v1 : Int32), bl_sh[v0]? = some (10, 28) → (bl_fx (fun _ _ _ => none) (b_X10_keeps_54 ) n) σ v0 v1 = some out → ∀ (H : Heap) (locs : List Loc) (ls : Array Slot), bl_V g s σ H locs → lv_has ls 2 [(0, .ref (bl_ad g v0)), (1, .int v1)] → W p l e (bl_rm 0 0) s m as.toArray below meth c H locs 0 0 (bl_Qv below g s as out) (F0 m 54 ls []) := by
  induction n with
  | zero =>
    intro σ v0 v1 hv0 hf H locs ls V hl
    cases hf
  | succ n ih => exact w_X10_keeps_54 X hr  _ ih
set_option maxHeartbeats 4000000 in
set_option maxRecDepth 100000 in
theorem w_X10_keeps_52 {p : Program} {l : Launch} {e : Env} {s : State} {m : MethodId} {below : List Frame} {meth : Method} {c : Code} {g : bl_Gp} {as : List Value} {out : Unit × bl_St} (X : bl_Cx g p s m as.toArray meth c cX10_keeps 2 RX10) (hr : meth.sig.returnType = (Option.none : Option Jvm.ClassFile.FieldType)) : ∀ (σ : bl_St) (v0 : Nat), bl_sh[v0]? = some (10, 28) → (b_X10_keeps_52 ) σ v0 = some out → ∀ (H : Heap) (locs : List Loc) (ls : Array Slot), bl_V g s σ H locs → lv_has ls 2 [(0, .ref (bl_ad g v0))] → W p l e (bl_rm 0 0) s m as.toArray below meth c H locs 0 0 (bl_Qv below g s as out) (F0 m 52 ls []) := by
  intro σ v0 hv0 hf H locs ls V hl
  unfold b_X10_keeps_52 at hf
  refine lv_iconst (v := 0) X.1 X.2.1 dX10_keeps_52 (by decide) ?_
  refine lv_istore_n (lv' := [(1, .int 0), (0, .ref (bl_ad g v0))]) X.1 X.2.1 dX10_keeps_53 rfl hl (by decide) rfl (fun ls hl => ?_)
  exact l_X10_keeps_54 X hr  bl_fu σ v0 0 hv0 hf _ _ _ V (lv_sub hl [1, 0] rfl)
set_option maxHeartbeats 4000000 in
set_option maxRecDepth 100000 in
theorem w_X10_keeps_13 {p : Program} {l : Launch} {e : Env} {s : State} {m : MethodId} {below : List Frame} {meth : Method} {c : Code} {g : bl_Gp} {as : List Value} {out : Unit × bl_St} (X : bl_Cx g p s m as.toArray meth c cX10_keeps 2 RX10) (hr : meth.sig.returnType = (Option.none : Option Jvm.ClassFile.FieldType)) (k13 : bl_St → Nat → Int32 → Option (Unit × bl_St)) (hk13 : ∀ (σ : bl_St) (v0 : Nat) (v1 : Int32), bl_sh[v0]? = some (10, 28) → k13 σ v0 v1 = some out → ∀ (H : Heap) (locs : List Loc) (ls : Array Slot), bl_V g s σ H locs → lv_has ls 2 [(0, .ref (bl_ad g v0)), (1, .int v1)] → W p l e (bl_rm 0 0) s m as.toArray below meth c H locs 0 0 (bl_Qv below g s as out) (F0 m 13 ls [])) : ∀ (σ : bl_St) (v0 : Nat) (v1 : Int32), bl_sh[v0]? = some (10, 28) → (b_X10_keeps_13 k13) σ v0 v1 = some out → ∀ (H : Heap) (locs : List Loc) (ls : Array Slot), bl_V g s σ H locs → lv_has ls 2 [(0, .ref (bl_ad g v0)), (1, .int v1)] → W p l e (bl_rm 0 0) s m as.toArray below meth c H locs 0 0 (bl_Qv below g s as out) (F0 m 13 ls []) := by
  intro σ v0 v1 hv0 hf H locs ls V hl
  unfold b_X10_keeps_13 at hf
  refine lv_iload_n X.1 X.2.1 dX10_keeps_13 rfl (lv_at hl 1 rfl) ?_
  refine lv_sipush (v := 2004) X.1 X.2.1 dX10_keeps_14 (by decide) ?_
  refine lv_icmp_ge (tgt := 42) X.1 X.2.1 dX10_keeps_17 (by decide) (fun c12 => ?_) (fun c12 => ?_)
  · have hf := bl_ifp c12 hf
    refine lv_aload_n X.1 X.2.1 dX10_keeps_42 rfl (lv_at hl 0 rfl) ?_
    refine lv_dup X.1 X.2.1 dX10_keeps_43 rfl ?_
    refine bl_geti X V hv0 fl_X10_63 dX10_keeps_44 ?_
    refine lv_iconst (v := 1) X.1 X.2.1 dX10_keeps_47 (by decide) ?_
    refine lv_isub X.1 X.2.1 dX10_keeps_48 ?_
    refine bl_puti X V hv0 fp_X10_63 rfl rfl dX10_keeps_49 (fun σ13 H locs e14 V => ?_)
    have hf := bl_let_at e14 hf
    exact w_X10_keeps_52 X hr  σ13 v0 hv0 hf _ _ _ V (lv_sub hl [0] rfl)
  · have hf := bl_ifn c12 hf
    refine lv_aload_n X.1 X.2.1 dX10_keeps_20 rfl (lv_at hl 0 rfl) ?_
    refine bl_getr X V hv0 fl_X10_23 rfl dX10_keeps_21 (fun h15 => ?_)
    refine lv_iload_n X.1 X.2.1 dX10_keeps_24 rfl (lv_at hl 1 rfl) ?_
    refine lv_sipush (v := 167) X.1 X.2.1 dX10_keeps_25 (by decide) ?_
    refine lv_isub X.1 X.2.1 dX10_keeps_28 ?_
    refine lv_aload_n X.1 X.2.1 dX10_keeps_29 rfl (lv_at hl 0 rfl) ?_
    refine bl_getr X V hv0 fl_X10_23 rfl dX10_keeps_30 (fun h16 => ?_)
    refine lv_iload_n X.1 X.2.1 dX10_keeps_33 rfl (lv_at hl 1 rfl) ?_
    obtain ⟨h17, hf⟩ := bl_gd_at hf
    refine bl_iald (k := (Int32.toNatClampNeg v1)) X V h16 h17 rfl dX10_keeps_34 ?_
    obtain ⟨h18, hf⟩ := bl_gd_at hf
    refine bl_iast (k := (Int32.toNatClampNeg (v1 - 167))) X V h15 h18 rfl dX10_keeps_35 (fun σ19 H locs e20 V => ?_)
    have hf := bl_let_at e20 hf
    obtain ⟨x21, e22⟩ : ∃ z : Int32, z = v1 + 1 := ⟨_, rfl⟩
    have hf := bl_let_at e22 hf
    refine lv_iinc (v := x21) (lv' := [(1, .int x21), (0, .ref (bl_ad g v0))]) X.1 X.2.1 dX10_keeps_36 hl (k := 1) rfl (by rw [e22]; rfl) (by decide) rfl (fun ls hl => ?_)
    refine lv_goto (tgt := 13) X.1 X.2.1 dX10_keeps_39 (by decide) ?_
    exact hk13 σ19 v0 x21 hv0 hf _ _ _ V (lv_sub hl [1, 0] rfl)
theorem l_X10_keeps_13 {p : Program} {l : Launch} {e : Env} {s : State} {m : MethodId} {below : List Frame} {meth : Method} {c : Code} {g : bl_Gp} {as : List Value} {out : Unit × bl_St} (X : bl_Cx g p s m as.toArray meth c cX10_keeps 2 RX10) (hr : meth.sig.returnType = (Option.none : Option Jvm.ClassFile.FieldType)) (n : Nat) : ∀ (σ : bl_St) (v0 : Nat) (v1 : Int32), bl_sh[v0]? = some (10, 28) → (bl_fx (fun _ _ _ => none) (b_X10_keeps_13 ) n) σ v0 v1 = some out → ∀ (H : Heap) (locs : List Loc) (ls : Array Slot), bl_V g s σ H locs → lv_has ls 2 [(0, .ref (bl_ad g v0)), (1, .int v1)] → W p l e (bl_rm 0 0) s m as.toArray below meth c H locs 0 0 (bl_Qv below g s as out) (F0 m 13 ls []) := by
  induction n with
  | zero =>
    intro σ v0 v1 hv0 hf H locs ls V hl
    cases hf
  | succ n ih => exact w_X10_keeps_13 X hr  _ ih
set_option maxHeartbeats 4000000 in
set_option maxRecDepth 100000 in
theorem t_X10_keeps (l : Launch) (g : bl_Gp) (σ : bl_St) (a0 : Nat) (o : Unit × bl_St) (ha0 : bl_sh[a0]? = some (10, 28)) (hf : f_X10_keeps σ a0 = some o) : bl_Cv l g yX10_keeps cX10_keeps 2 (Option.none : Option Jvm.ClassFile.FieldType) (bl_rm 0 0) [.ref (bl_ad g a0)] σ o := by
  refine bl_met (by decide) (Nat.le_of_ble_eq_true rfl) (fun p e s m below meth c ls X hr V hl => ?_)
  have hl : lv_has ls 2 [(0, .ref (bl_ad g a0))] := hl
  unfold f_X10_keeps at hf
  refine lv_aload_n X.1 X.2.1 dX10_keeps_0 rfl (lv_at hl 0 rfl) ?_
  refine bl_geti X V ha0 fl_X10_63 dX10_keeps_1 ?_
  refine lv_bipush (v := 12) X.1 X.2.1 dX10_keeps_4 (by decide) ?_
  refine lv_icmp_ne (tgt := 52) X.1 X.2.1 dX10_keeps_6 (by decide) (fun c23 => ?_) (fun c23 => ?_)
  · have hf := bl_ifn c23 hf
    exact w_X10_keeps_52 X hr  σ a0 ha0 hf _ _ _ V (lv_sub hl [0] rfl)
  · have hf := bl_ifp c23 hf
    refine lv_sipush (v := 167) X.1 X.2.1 dX10_keeps_9 (by decide) ?_
    refine lv_istore_n (lv' := [(1, .int 167), (0, .ref (bl_ad g a0))]) X.1 X.2.1 dX10_keeps_12 rfl hl (by decide) rfl (fun ls hl => ?_)
    exact l_X10_keeps_13 X hr  bl_fu σ a0 167 ha0 hf _ _ _ V (lv_sub hl [1, 0] rfl)
set_option maxHeartbeats 4000000 in
set_option maxRecDepth 100000 in
theorem t_X10_isClass (l : Launch) (g : bl_Gp) (σ : bl_St) (a0 : Nat) (a1 : Int32) (o : Int32 × bl_St) (ha0 : bl_sh[a0]? = some (10, 28)) (hf : f_X10_isClass σ a0 a1 = some o) : bl_Ci l g yX10_isClass cX10_isClass 2 (Option.some Jvm.ClassFile.FieldType.boolean) (bl_rm 1 25) [.ref (bl_ad g a0), .int a1] σ o := by
  refine bl_met (by decide) (Nat.le_of_ble_eq_true rfl) (fun p e s m below meth c ls X hr V hl => ?_)
  have hl : lv_has ls 2 [(0, .ref (bl_ad g a0)), (1, .int a1)] := hl
  unfold f_X10_isClass at hf
  refine lv_iload_n X.1 X.2.1 dX10_isClass_0 rfl (lv_at hl 1 rfl) ?_
  refine lv_i2l X.1 X.2.1 dX10_isClass_1 rfl ?_
  refine lv_lconst (v := 0) X.1 X.2.1 dX10_isClass_2 (by decide) ?_
  refine lv_aload_n X.1 X.2.1 dX10_isClass_3 rfl (lv_at hl 0 rfl) ?_
  refine bl_getr X V ha0 fl_X10_13 rfl dX10_isClass_4 (fun h1 => ?_)
  refine lv_iconst (v := 0) X.1 X.2.1 dX10_isClass_7 (by decide) ?_
  refine bl_iald (k := 0) X V h1 (by decide) (by decide) dX10_isClass_8 ?_
  refine lv_iconst (v := 1) X.1 X.2.1 dX10_isClass_9 (by decide) ?_
  refine lv_isub X.1 X.2.1 dX10_isClass_10 ?_
  refine lv_i2l X.1 X.2.1 dX10_isClass_11 rfl ?_
  obtain ⟨r2, σ3, h4, hf⟩ := bl_bd_at hf
  refine bl_cSi (As := [.long (Int32.toInt64 a1), .long 0, .long (Int32.toInt64 ((bl_I σ (bl_R σ a0 1) 0) - 1))]) X V hl.1 ml_X10_66 mS_X10_in (t_X10_in l g σ (Int32.toInt64 a1) 0 (Int32.toInt64 ((bl_I σ (bl_R σ a0 1) 0) - 1)) _  h4) rfl rfl ⟨Nat.le_of_ble_eq_true rfl, Nat.le_of_ble_eq_true rfl⟩ rfl rfl (Nat.le_of_ble_eq_true rfl) ⟨Nat.zero_le _, Nat.zero_le _⟩ dX10_isClass_12 (fun H locs V => ?_)
  obtain ⟨h5, hf⟩ := bl_gd_at hf
  exact bl_retz X V hr h5 hf dX10_isClass_15
set_option maxHeartbeats 4000000 in
set_option maxRecDepth 100000 in
theorem t_X10_isSort (l : Launch) (g : bl_Gp) (σ : bl_St) (a0 : Nat) (a1 : Int32) (o : Int32 × bl_St) (ha0 : bl_sh[a0]? = some (10, 28)) (hf : f_X10_isSort σ a0 a1 = some o) : bl_Ci l g yX10_isSort cX10_isSort 2 (Option.some Jvm.ClassFile.FieldType.boolean) (bl_rm 1 25) [.ref (bl_ad g a0), .int a1] σ o := by
  refine bl_met (by decide) (Nat.le_of_ble_eq_true rfl) (fun p e s m below meth c ls X hr V hl => ?_)
  have hl : lv_has ls 2 [(0, .ref (bl_ad g a0)), (1, .int a1)] := hl
  unfold f_X10_isSort at hf
  refine lv_iload_n X.1 X.2.1 dX10_isSort_0 rfl (lv_at hl 1 rfl) ?_
  refine lv_i2l X.1 X.2.1 dX10_isSort_1 rfl ?_
  refine lv_lconst (v := 0) X.1 X.2.1 dX10_isSort_2 (by decide) ?_
  refine lv_aload_n X.1 X.2.1 dX10_isSort_3 rfl (lv_at hl 0 rfl) ?_
  refine bl_getr X V ha0 fl_X10_13 rfl dX10_isSort_4 (fun h1 => ?_)
  refine lv_iconst (v := 1) X.1 X.2.1 dX10_isSort_7 (by decide) ?_
  refine bl_iald (k := 1) X V h1 (by decide) (by decide) dX10_isSort_8 ?_
  refine lv_iconst (v := 1) X.1 X.2.1 dX10_isSort_9 (by decide) ?_
  refine lv_isub X.1 X.2.1 dX10_isSort_10 ?_
  refine lv_i2l X.1 X.2.1 dX10_isSort_11 rfl ?_
  obtain ⟨r2, σ3, h4, hf⟩ := bl_bd_at hf
  refine bl_cSi (As := [.long (Int32.toInt64 a1), .long 0, .long (Int32.toInt64 ((bl_I σ (bl_R σ a0 1) 1) - 1))]) X V hl.1 ml_X10_66 mS_X10_in (t_X10_in l g σ (Int32.toInt64 a1) 0 (Int32.toInt64 ((bl_I σ (bl_R σ a0 1) 1) - 1)) _  h4) rfl rfl ⟨Nat.le_of_ble_eq_true rfl, Nat.le_of_ble_eq_true rfl⟩ rfl rfl (Nat.le_of_ble_eq_true rfl) ⟨Nat.zero_le _, Nat.zero_le _⟩ dX10_isSort_12 (fun H locs V => ?_)
  obtain ⟨h5, hf⟩ := bl_gd_at hf
  exact bl_retz X V hr h5 hf dX10_isSort_15
set_option maxHeartbeats 4000000 in
set_option maxRecDepth 100000 in
theorem t_X10_ofClass (l : Launch) (g : bl_Gp) (σ : bl_St) (a0 : Nat) (a1 : Int32) (a2 : Int32) (o : Int32 × bl_St) (ha0 : bl_sh[a0]? = some (10, 28)) (hf : f_X10_ofClass σ a0 a1 a2 = some o) : bl_Ci l g yX10_ofClass cX10_ofClass 3 (Option.some Jvm.ClassFile.FieldType.int) (bl_rm 0 0) [.ref (bl_ad g a0), .int a1, .int a2] σ o := by
  refine bl_met (by decide) (Nat.le_of_ble_eq_true rfl) (fun p e s m below meth c ls X hr V hl => ?_)
  have hl : lv_has ls 3 [(0, .ref (bl_ad g a0)), (1, .int a1), (2, .int a2)] := hl
  unfold f_X10_ofClass at hf
  refine lv_aload_n X.1 X.2.1 dX10_ofClass_0 rfl (lv_at hl 0 rfl) ?_
  refine bl_getr X V ha0 fl_X10_13 rfl dX10_ofClass_1 (fun h1 => ?_)
  refine lv_iconst (v := 5) X.1 X.2.1 dX10_ofClass_4 (by decide) ?_
  refine lv_iconst (v := 5) X.1 X.2.1 dX10_ofClass_5 (by decide) ?_
  refine lv_iload_n X.1 X.2.1 dX10_ofClass_6 rfl (lv_at hl 1 rfl) ?_
  refine lv_imul X.1 X.2.1 dX10_ofClass_7 ?_
  refine lv_iadd X.1 X.2.1 dX10_ofClass_8 ?_
  refine lv_iload_n X.1 X.2.1 dX10_ofClass_9 rfl (lv_at hl 2 rfl) ?_
  refine lv_iadd X.1 X.2.1 dX10_ofClass_10 ?_
  obtain ⟨h2, hf⟩ := bl_gd_at hf
  refine bl_iald (k := (Int32.toNatClampNeg ((5 + (5 * a1)) + a2))) X V h1 h2 rfl dX10_ofClass_11 ?_
  exact bl_reti X V hr hf dX10_ofClass_12
set_option maxHeartbeats 4000000 in
set_option maxRecDepth 100000 in
theorem t_X10_size (l : Launch) (g : bl_Gp) (σ : bl_St) (a0 : Nat) (a1 : Int32) (o : Int32 × bl_St) (ha0 : bl_sh[a0]? = some (10, 28)) (hf : f_X10_size σ a0 a1 = some o) : bl_Ci l g yX10_size cX10_size 2 (Option.some Jvm.ClassFile.FieldType.int) (bl_rm 0 0) [.ref (bl_ad g a0), .int a1] σ o := by
  refine bl_met (by decide) (Nat.le_of_ble_eq_true rfl) (fun p e s m below meth c ls X hr V hl => ?_)
  have hl : lv_has ls 2 [(0, .ref (bl_ad g a0)), (1, .int a1)] := hl
  unfold f_X10_size at hf
  refine lv_aload_n X.1 X.2.1 dX10_size_0 rfl (lv_at hl 0 rfl) ?_
  refine bl_getr X V ha0 fl_X10_13 rfl dX10_size_1 (fun h1 => ?_)
  refine lv_bipush (v := 45) X.1 X.2.1 dX10_size_4 (by decide) ?_
  refine lv_iconst (v := 2) X.1 X.2.1 dX10_size_6 (by decide) ?_
  refine lv_iload_n X.1 X.2.1 dX10_size_7 rfl (lv_at hl 1 rfl) ?_
  refine lv_imul X.1 X.2.1 dX10_size_8 ?_
  refine lv_iadd X.1 X.2.1 dX10_size_9 ?_
  obtain ⟨h2, hf⟩ := bl_gd_at hf
  refine bl_iald (k := (Int32.toNatClampNeg (45 + (2 * a1)))) X V h1 h2 rfl dX10_size_10 ?_
  exact bl_reti X V hr hf dX10_size_11
set_option maxHeartbeats 4000000 in
set_option maxRecDepth 100000 in
theorem t_X10_weight (l : Launch) (g : bl_Gp) (σ : bl_St) (a0 : Nat) (a1 : Int32) (o : Int32 × bl_St) (ha0 : bl_sh[a0]? = some (10, 28)) (hf : f_X10_weight σ a0 a1 = some o) : bl_Ci l g yX10_weight cX10_weight 2 (Option.some Jvm.ClassFile.FieldType.int) (bl_rm 0 0) [.ref (bl_ad g a0), .int a1] σ o := by
  refine bl_met (by decide) (Nat.le_of_ble_eq_true rfl) (fun p e s m below meth c ls X hr V hl => ?_)
  have hl : lv_has ls 2 [(0, .ref (bl_ad g a0)), (1, .int a1)] := hl
  unfold f_X10_weight at hf
  refine lv_aload_n X.1 X.2.1 dX10_weight_0 rfl (lv_at hl 0 rfl) ?_
  refine bl_getr X V ha0 fl_X10_13 rfl dX10_weight_1 (fun h1 => ?_)
  refine lv_bipush (v := 45) X.1 X.2.1 dX10_weight_4 (by decide) ?_
  refine lv_iconst (v := 2) X.1 X.2.1 dX10_weight_6 (by decide) ?_
  refine lv_iload_n X.1 X.2.1 dX10_weight_7 rfl (lv_at hl 1 rfl) ?_
  refine lv_imul X.1 X.2.1 dX10_weight_8 ?_
  refine lv_iadd X.1 X.2.1 dX10_weight_9 ?_
  refine lv_iconst (v := 1) X.1 X.2.1 dX10_weight_10 (by decide) ?_
  refine lv_iadd X.1 X.2.1 dX10_weight_11 ?_
  obtain ⟨h2, hf⟩ := bl_gd_at hf
  refine bl_iald (k := (Int32.toNatClampNeg ((45 + (2 * a1)) + 1))) X V h1 h2 rfl dX10_weight_12 ?_
  exact bl_reti X V hr hf dX10_weight_13
set_option maxHeartbeats 4000000 in
set_option maxRecDepth 100000 in
theorem w_X10_weights_4 {p : Program} {l : Launch} {e : Env} {s : State} {m : MethodId} {below : List Frame} {meth : Method} {c : Code} {g : bl_Gp} {as : List Value} {out : Int32 × bl_St} (X : bl_Cx g p s m as.toArray meth c cX10_weights 3 RX10) (hr : meth.sig.returnType = (Option.some Jvm.ClassFile.FieldType.int)) (k4 : bl_St → Nat → Int32 → Int32 → Option (Int32 × bl_St)) (hk4 : ∀ (σ : bl_St) (v0 : Nat) (v1 : Int32) (v2 : Int32), bl_sh[v0]? = some (10, 28) → k4 σ v0 v1 v2 = some out → ∀ (H : Heap) (locs : List Loc) (ls : Array Slot), bl_V g s σ H locs → lv_has ls 3 [(0, .ref (bl_ad g v0)), (1, .int v1), (2, .int v2)] → W p l e (bl_rm 1 21) s m as.toArray below meth c H locs 0 0 (bl_Qi below g s as out) (F0 m 4 ls [])) : ∀ (σ : bl_St) (v0 : Nat) (v1 : Int32) (v2 : Int32), bl_sh[v0]? = some (10, 28) → (b_X10_weights_4 k4) σ v0 v1 v2 = some out → ∀ (H : Heap) (locs : List Loc) (ls : Array Slot), bl_V g s σ H locs → lv_has ls 3 [(0, .ref (bl_ad g v0)), (1, .int v1), (2, .int v2)] → W p l e (bl_rm 1 21) s m as.toArray below meth c H locs 0 0 (bl_Qi below g s as out) (F0 m 4 ls []) := by
  intro σ v0 v1 v2 hv0 hf H locs ls V hl
  unfold b_X10_weights_4 at hf
  refine lv_iload_n X.1 X.2.1 dX10_weights_4 rfl (lv_at hl 2 rfl) ?_
  refine lv_aload_n X.1 X.2.1 dX10_weights_5 rfl (lv_at hl 0 rfl) ?_
  refine bl_getr X V hv0 fl_X10_13 rfl dX10_weights_6 (fun h1 => ?_)
  refine lv_iconst (v := 1) X.1 X.2.1 dX10_weights_9 (by decide) ?_
  refine bl_iald (k := 1) X V h1 (by decide) (by decide) dX10_weights_10 ?_
  refine lv_icmp_ge (tgt := 28) X.1 X.2.1 dX10_weights_11 (by decide) (fun c2 => ?_) (fun c2 => ?_)
  · have hf := bl_ifp c2 hf
    refine lv_iload_n X.1 X.2.1 dX10_weights_28 rfl (lv_at hl 1 rfl) ?_
    exact bl_reti X V hr hf dX10_weights_29
  · have hf := bl_ifn c2 hf
    refine lv_iload_n X.1 X.2.1 dX10_weights_14 rfl (lv_at hl 1 rfl) ?_
    refine lv_aload_n X.1 X.2.1 dX10_weights_15 rfl (lv_at hl 0 rfl) ?_
    refine lv_iload_n X.1 X.2.1 dX10_weights_16 rfl (lv_at hl 2 rfl) ?_
    obtain ⟨r3, σ4, h5, hf⟩ := bl_bd_at hf
    refine bl_cVi (As := [.int v2]) X V hl.1 hv0 rfl ml_X10_70 mV_X10_weight (t_X10_weight l g σ v0 v2 _ hv0 h5) rfl rfl ⟨Nat.le_of_ble_eq_true rfl, Nat.le_of_ble_eq_true rfl⟩ rfl rfl (Nat.le_of_ble_eq_true rfl) ⟨Nat.zero_le _, Nat.zero_le _⟩ dX10_weights_17 (fun H locs V => ?_)
    refine lv_iadd X.1 X.2.1 dX10_weights_20 ?_
    refine lv_topi (fun x6 e7 => ?_)
    have hf := bl_let_at e7 hf
    refine lv_istore_n (lv' := [(1, .int x6), (0, .ref (bl_ad g v0)), (2, .int v2)]) X.1 X.2.1 dX10_weights_21 rfl hl (by decide) rfl (fun ls hl => ?_)
    obtain ⟨x8, e9⟩ : ∃ z : Int32, z = v2 + 1 := ⟨_, rfl⟩
    have hf := bl_let_at e9 hf
    refine lv_iinc (v := x8) (lv' := [(2, .int x8), (1, .int x6), (0, .ref (bl_ad g v0))]) X.1 X.2.1 dX10_weights_22 hl (k := 2) rfl (by rw [e9]; rfl) (by decide) rfl (fun ls hl => ?_)
    refine lv_goto (tgt := 4) X.1 X.2.1 dX10_weights_25 (by decide) ?_
    exact hk4 σ4 v0 x6 x8 hv0 hf _ _ _ V (lv_sub hl [2, 1, 0] rfl)
theorem l_X10_weights_4 {p : Program} {l : Launch} {e : Env} {s : State} {m : MethodId} {below : List Frame} {meth : Method} {c : Code} {g : bl_Gp} {as : List Value} {out : Int32 × bl_St} (X : bl_Cx g p s m as.toArray meth c cX10_weights 3 RX10) (hr : meth.sig.returnType = (Option.some Jvm.ClassFile.FieldType.int)) (n : Nat) : ∀ (σ : bl_St) (v0 : Nat) (v1 : Int32) (v2 : Int32), bl_sh[v0]? = some (10, 28) → (bl_fx (fun _ _ _ _ => none) (b_X10_weights_4 ) n) σ v0 v1 v2 = some out → ∀ (H : Heap) (locs : List Loc) (ls : Array Slot), bl_V g s σ H locs → lv_has ls 3 [(0, .ref (bl_ad g v0)), (1, .int v1), (2, .int v2)] → W p l e (bl_rm 1 21) s m as.toArray below meth c H locs 0 0 (bl_Qi below g s as out) (F0 m 4 ls []) := by
  induction n with
  | zero =>
    intro σ v0 v1 v2 hv0 hf H locs ls V hl
    cases hf
  | succ n ih => exact w_X10_weights_4 X hr  _ ih
set_option maxHeartbeats 4000000 in
set_option maxRecDepth 100000 in
theorem t_X10_weights (l : Launch) (g : bl_Gp) (σ : bl_St) (a0 : Nat) (o : Int32 × bl_St) (ha0 : bl_sh[a0]? = some (10, 28)) (hf : f_X10_weights σ a0 = some o) : bl_Ci l g yX10_weights cX10_weights 3 (Option.some Jvm.ClassFile.FieldType.int) (bl_rm 1 21) [.ref (bl_ad g a0)] σ o := by
  refine bl_met (by decide) (Nat.le_of_ble_eq_true rfl) (fun p e s m below meth c ls X hr V hl => ?_)
  have hl : lv_has ls 3 [(0, .ref (bl_ad g a0))] := hl
  unfold f_X10_weights at hf
  refine lv_iconst (v := 0) X.1 X.2.1 dX10_weights_0 (by decide) ?_
  refine lv_istore_n (lv' := [(1, .int 0), (0, .ref (bl_ad g a0))]) X.1 X.2.1 dX10_weights_1 rfl hl (by decide) rfl (fun ls hl => ?_)
  refine lv_iconst (v := 0) X.1 X.2.1 dX10_weights_2 (by decide) ?_
  refine lv_istore_n (lv' := [(2, .int 0), (1, .int 0), (0, .ref (bl_ad g a0))]) X.1 X.2.1 dX10_weights_3 rfl hl (by decide) rfl (fun ls hl => ?_)
  exact l_X10_weights_4 X hr  bl_fu σ a0 0 0 ha0 hf _ _ _ V (lv_sub hl [2, 1, 0] rfl)
set_option maxHeartbeats 4000000 in
set_option maxRecDepth 100000 in
theorem t_X10_behind (l : Launch) (g : bl_Gp) (σ : bl_St) (a0 : Nat) (a1 : Int32) (a2 : Int32) (o : Int32 × bl_St) (ha0 : bl_sh[a0]? = some (10, 28)) (hf : f_X10_behind σ a0 a1 a2 = some o) : bl_Ci l g yX10_behind cX10_behind 3 (Option.some Jvm.ClassFile.FieldType.int) (bl_rm 1 22) [.ref (bl_ad g a0), .int a1, .int a2] σ o := by
  refine bl_met (by decide) (Nat.le_of_ble_eq_true rfl) (fun p e s m below meth c ls X hr V hl => ?_)
  have hl : lv_has ls 3 [(0, .ref (bl_ad g a0)), (1, .int a1), (2, .int a2)] := hl
  unfold f_X10_behind at hf
  refine lv_aload_n X.1 X.2.1 dX10_behind_0 rfl (lv_at hl 0 rfl) ?_
  refine lv_iload_n X.1 X.2.1 dX10_behind_1 rfl (lv_at hl 1 rfl) ?_
  refine lv_iconst (v := 1) X.1 X.2.1 dX10_behind_2 (by decide) ?_
  refine lv_iload_n X.1 X.2.1 dX10_behind_3 rfl (lv_at hl 2 rfl) ?_
  refine lv_iconst (v := 2) X.1 X.2.1 dX10_behind_4 (by decide) ?_
  refine lv_icmp_le (tgt := 12) X.1 X.2.1 dX10_behind_5 (by decide) (fun c1 => ?_) (fun c1 => ?_)
  · have hf := bl_ifp c1 hf
    refine lv_iload_n X.1 X.2.1 dX10_behind_12 rfl (lv_at hl 2 rfl) ?_
    refine lv_iadd X.1 X.2.1 dX10_behind_13 ?_
    obtain ⟨r2, σ3, h4, hf⟩ := bl_bd_at hf
    refine bl_cVi (As := [.int a1, .int (1 + a2)]) X V hl.1 ha0 rfl ml_X10_74 mV_X10_ofClass (t_X10_ofClass l g σ a0 a1 (1 + a2) _ ha0 h4) rfl rfl ⟨Nat.le_of_ble_eq_true rfl, Nat.le_of_ble_eq_true rfl⟩ rfl rfl (Nat.le_of_ble_eq_true rfl) ⟨Nat.zero_le _, Nat.zero_le _⟩ dX10_behind_14 (fun H locs V => ?_)
    exact bl_reti X V hr hf dX10_behind_17
  · have hf := bl_ifn c1 hf
    refine lv_iconst (v := 2) X.1 X.2.1 dX10_behind_8 (by decide) ?_
    refine lv_goto (tgt := 13) X.1 X.2.1 dX10_behind_9 (by decide) ?_
    refine lv_iadd X.1 X.2.1 dX10_behind_13 ?_
    obtain ⟨r5, σ6, h7, hf⟩ := bl_bd_at hf
    refine bl_cVi (As := [.int a1, .int (1 + 2)]) X V hl.1 ha0 rfl ml_X10_74 mV_X10_ofClass (t_X10_ofClass l g σ a0 a1 (1 + 2) _ ha0 h7) rfl rfl ⟨Nat.le_of_ble_eq_true rfl, Nat.le_of_ble_eq_true rfl⟩ rfl rfl (Nat.le_of_ble_eq_true rfl) ⟨Nat.zero_le _, Nat.zero_le _⟩ dX10_behind_14 (fun H locs V => ?_)
    exact bl_reti X V hr hf dX10_behind_17
set_option maxHeartbeats 4000000 in
set_option maxRecDepth 100000 in
theorem t_X10_toldPays (l : Launch) (g : bl_Gp) (σ : bl_St) (a0 : Nat) (a1 : Int32) (o : Int32 × bl_St) (ha0 : bl_sh[a0]? = some (10, 28)) (hf : f_X10_toldPays σ a0 a1 = some o) : bl_Ci l g yX10_toldPays cX10_toldPays 2 (Option.some Jvm.ClassFile.FieldType.int) (bl_rm 1 21) [.ref (bl_ad g a0), .int a1] σ o := by
  refine bl_met (by decide) (Nat.le_of_ble_eq_true rfl) (fun p e s m below meth c ls X hr V hl => ?_)
  have hl : lv_has ls 2 [(0, .ref (bl_ad g a0)), (1, .int a1)] := hl
  unfold f_X10_toldPays at hf
  refine lv_aload_n X.1 X.2.1 dX10_toldPays_0 rfl (lv_at hl 0 rfl) ?_
  refine bl_getr X V ha0 fl_X10_13 rfl dX10_toldPays_1 (fun h1 => ?_)
  refine lv_iconst (v := 4) X.1 X.2.1 dX10_toldPays_4 (by decide) ?_
  refine bl_iald (k := 4) X V h1 (by decide) (by decide) dX10_toldPays_5 ?_
  refine lv_aload_n X.1 X.2.1 dX10_toldPays_6 rfl (lv_at hl 0 rfl) ?_
  refine lv_iload_n X.1 X.2.1 dX10_toldPays_7 rfl (lv_at hl 1 rfl) ?_
  obtain ⟨r2, σ3, h4, hf⟩ := bl_bd_at hf
  refine bl_cVi (As := [.int a1]) X V hl.1 ha0 rfl ml_X10_78 mV_X10_size (t_X10_size l g σ a0 a1 _ ha0 h4) rfl rfl ⟨Nat.le_of_ble_eq_true rfl, Nat.le_of_ble_eq_true rfl⟩ rfl rfl (Nat.le_of_ble_eq_true rfl) ⟨Nat.zero_le _, Nat.zero_le _⟩ dX10_toldPays_8 (fun H locs V => ?_)
  refine lv_icmp_ge (tgt := 23) X.1 X.2.1 dX10_toldPays_11 (by decide) (fun c5 => ?_) (fun c5 => ?_)
  · have hf := bl_ifp c5 hf
    refine lv_aload_n X.1 X.2.1 dX10_toldPays_23 rfl (lv_at hl 0 rfl) ?_
    refine lv_iload_n X.1 X.2.1 dX10_toldPays_24 rfl (lv_at hl 1 rfl) ?_
    obtain ⟨r6, σ7, h8, hf⟩ := bl_bd_at hf
    refine bl_cVi (As := [.int a1]) X V hl.1 ha0 rfl ml_X10_78 mV_X10_size (t_X10_size l g σ3 a0 a1 _ ha0 h8) rfl rfl ⟨Nat.le_of_ble_eq_true rfl, Nat.le_of_ble_eq_true rfl⟩ rfl rfl (Nat.le_of_ble_eq_true rfl) ⟨Nat.zero_le _, Nat.zero_le _⟩ dX10_toldPays_25 (fun H locs V => ?_)
    exact bl_reti X V hr hf dX10_toldPays_28
  · have hf := bl_ifn c5 hf
    refine lv_aload_n X.1 X.2.1 dX10_toldPays_14 rfl (lv_at hl 0 rfl) ?_
    refine bl_getr X V ha0 fl_X10_13 rfl dX10_toldPays_15 (fun h9 => ?_)
    refine lv_iconst (v := 4) X.1 X.2.1 dX10_toldPays_18 (by decide) ?_
    refine bl_iald (k := 4) X V h9 (by decide) (by decide) dX10_toldPays_19 ?_
    refine lv_goto (tgt := 28) X.1 X.2.1 dX10_toldPays_20 (by decide) ?_
    exact bl_reti X V hr hf dX10_toldPays_28
set_option maxHeartbeats 4000000 in
set_option maxRecDepth 100000 in
theorem t_X10_becomes (l : Launch) (g : bl_Gp) (σ : bl_St) (a0 : Nat) (a1 : Int32) (a2 : Int32) (o : Int32 × bl_St) (ha0 : bl_sh[a0]? = some (10, 28)) (hf : f_X10_becomes σ a0 a1 a2 = some o) : bl_Ci l g yX10_becomes cX10_becomes 4 (Option.some Jvm.ClassFile.FieldType.int) (bl_rm 1 21) [.ref (bl_ad g a0), .int a1, .int a2] σ o := by
  refine bl_met (by decide) (Nat.le_of_ble_eq_true rfl) (fun p e s m below meth c ls X hr V hl => ?_)
  have hl : lv_has ls 4 [(0, .ref (bl_ad g a0)), (1, .int a1), (2, .int a2)] := hl
  unfold f_X10_becomes at hf
  refine lv_aload_n X.1 X.2.1 dX10_becomes_0 rfl (lv_at hl 0 rfl) ?_
  refine bl_getr X V ha0 fl_X10_13 rfl dX10_becomes_1 (fun h1 => ?_)
  refine lv_iload_n X.1 X.2.1 dX10_becomes_4 rfl (lv_at hl 1 rfl) ?_
  obtain ⟨h2, hf⟩ := bl_gd_at hf
  refine bl_iald (k := (Int32.toNatClampNeg a1)) X V h1 h2 rfl dX10_becomes_5 ?_
  refine lv_iload_n X.1 X.2.1 dX10_becomes_6 rfl (lv_at hl 2 rfl) ?_
  refine lv_icmp_ne (tgt := 12) X.1 X.2.1 dX10_becomes_7 (by decide) (fun c3 => ?_) (fun c3 => ?_)
  · have hf := bl_ifn c3 hf
    refine lv_aload_n X.1 X.2.1 dX10_becomes_12 rfl (lv_at hl 0 rfl) ?_
    obtain ⟨r4, σ5, h6, hf⟩ := bl_bd_at hf
    refine bl_cVv (As := []) X V hl.1 ha0 rfl ml_X10_81 mV_X10_keeps (t_X10_keeps l g σ a0 _ ha0 h6) rfl rfl ⟨Nat.le_of_ble_eq_true rfl, Nat.le_of_ble_eq_true rfl⟩ rfl rfl (Nat.le_of_ble_eq_true rfl) ⟨Nat.zero_le _, Nat.zero_le _⟩ dX10_becomes_13 (fun H locs V => ?_)
    refine lv_aload_n X.1 X.2.1 dX10_becomes_16 rfl (lv_at hl 0 rfl) ?_
    refine bl_getr X V ha0 fl_X10_13 rfl dX10_becomes_17 (fun h7 => ?_)
    refine lv_iload_n X.1 X.2.1 dX10_becomes_20 rfl (lv_at hl 1 rfl) ?_
    obtain ⟨h8, hf⟩ := bl_gd_at hf
    refine bl_iald (k := (Int32.toNatClampNeg a1)) X V h7 h8 rfl dX10_becomes_21 ?_
    refine lv_topi (fun x9 e10 => ?_)
    have hf := bl_let_at e10 hf
    refine lv_istore_n (lv' := [(3, .int x9), (0, .ref (bl_ad g a0)), (1, .int a1), (2, .int a2)]) X.1 X.2.1 dX10_becomes_22 rfl hl (by decide) rfl (fun ls hl => ?_)
    refine lv_aload_n X.1 X.2.1 dX10_becomes_23 rfl (lv_at hl 1 rfl) ?_
    refine bl_getr X V ha0 fl_X10_13 rfl dX10_becomes_24 (fun h11 => ?_)
    refine lv_iload_n X.1 X.2.1 dX10_becomes_27 rfl (lv_at hl 2 rfl) ?_
    refine lv_iload_n X.1 X.2.1 dX10_becomes_28 rfl (lv_at hl 3 rfl) ?_
    obtain ⟨h12, hf⟩ := bl_gd_at hf
    refine bl_iast (k := (Int32.toNatClampNeg a1)) X V h11 h12 rfl dX10_becomes_29 (fun σ13 H locs e14 V => ?_)
    have hf := bl_let_at e14 hf
    refine lv_iload_n X.1 X.2.1 dX10_becomes_30 rfl (lv_at hl 0 rfl) ?_
    exact bl_reti X V hr hf dX10_becomes_31
  · have hf := bl_ifp c3 hf
    refine lv_iconst (v := (-1)) X.1 X.2.1 dX10_becomes_10 (by decide) ?_
    exact bl_reti X V hr hf dX10_becomes_11
set_option maxHeartbeats 4000000 in
set_option maxRecDepth 100000 in
theorem w_X10_set_50 {p : Program} {l : Launch} {e : Env} {s : State} {m : MethodId} {below : List Frame} {meth : Method} {c : Code} {g : bl_Gp} {as : List Value} {out : Int32 × bl_St} (X : bl_Cx g p s m as.toArray meth c cX10_set 5 RX10) (hr : meth.sig.returnType = (Option.some Jvm.ClassFile.FieldType.int)) : ∀ (σ : bl_St) (v0 : Nat) (v1 : Int32) (v2 : Int32) (v3 : Int32) (s0 : Int32), bl_sh[v0]? = some (10, 28) → (b_X10_set_50 ) σ v0 v1 v2 v3 s0 = some out → ∀ (H : Heap) (locs : List Loc) (ls : Array Slot), bl_V g s σ H locs → lv_has ls 5 [(0, .ref (bl_ad g v0)), (1, .int v1), (2, .int v2), (3, .int v3)] → W p l e (bl_rm 2 46) s m as.toArray below meth c H locs 0 0 (bl_Qi below g s as out) (F0 m 50 ls [.int s0]) := by
  intro σ v0 v1 v2 v3 s0 hv0 hf H locs ls V hl
  unfold b_X10_set_50 at hf
  refine lv_istore (lv' := [(4, .int s0), (0, .ref (bl_ad g v0)), (1, .int v1), (2, .int v2), (3, .int v3)]) X.1 X.2.1 dX10_set_50 hl (by decide) rfl (fun ls hl => ?_)
  refine lv_iload_n X.1 X.2.1 dX10_set_52 rfl (lv_at hl 4 rfl) ?_
  refine lv_i2l X.1 X.2.1 dX10_set_53 rfl ?_
  refine lv_lconst (v := 0) X.1 X.2.1 dX10_set_54 (by decide) ?_
  refine lv_iload X.1 X.2.1 dX10_set_55 (lv_at hl 0 rfl) ?_
  refine lv_i2l X.1 X.2.1 dX10_set_57 rfl ?_
  obtain ⟨r1, σ2, h3, hf⟩ := bl_bd_at hf
  refine bl_cSi (As := [.long (Int32.toInt64 v3), .long 0, .long (Int32.toInt64 s0)]) X V hl.1 ml_X10_66 mS_X10_in (t_X10_in l g σ (Int32.toInt64 v3) 0 (Int32.toInt64 s0) _  h3) rfl rfl ⟨Nat.le_of_ble_eq_true rfl, Nat.le_of_ble_eq_true rfl⟩ rfl rfl (Nat.le_of_ble_eq_true rfl) ⟨Nat.zero_le _, Nat.zero_le _⟩ dX10_set_58 (fun H locs V => ?_)
  refine lv_if_eq (tgt := 79) X.1 X.2.1 dX10_set_61 (by decide) (fun c4 => ?_) (fun c4 => ?_)
  · have hf := bl_ifp c4 hf
    refine lv_iconst (v := (-1)) X.1 X.2.1 dX10_set_79 (by decide) ?_
    exact bl_reti X V hr hf dX10_set_80
  · have hf := bl_ifn c4 hf
    refine lv_aload_n X.1 X.2.1 dX10_set_64 rfl (lv_at hl 1 rfl) ?_
    refine lv_iconst (v := 5) X.1 X.2.1 dX10_set_65 (by decide) ?_
    refine lv_iconst (v := 5) X.1 X.2.1 dX10_set_66 (by decide) ?_
    refine lv_iload_n X.1 X.2.1 dX10_set_67 rfl (lv_at hl 2 rfl) ?_
    refine lv_imul X.1 X.2.1 dX10_set_68 ?_
    refine lv_iadd X.1 X.2.1 dX10_set_69 ?_
    refine lv_iload_n X.1 X.2.1 dX10_set_70 rfl (lv_at hl 3 rfl) ?_
    refine lv_iadd X.1 X.2.1 dX10_set_71 ?_
    refine lv_iload_n X.1 X.2.1 dX10_set_72 rfl (lv_at hl 4 rfl) ?_
    obtain ⟨r5, σ6, h7, hf⟩ := bl_bd_at hf
    refine bl_cVi (As := [.int ((5 + (5 * v1)) + v2), .int v3]) X V hl.1 hv0 rfl ml_X10_90 mV_X10_becomes (t_X10_becomes l g σ2 v0 ((5 + (5 * v1)) + v2) v3 _ hv0 h7) rfl rfl ⟨Nat.le_of_ble_eq_true rfl, Nat.le_of_ble_eq_true rfl⟩ rfl rfl (Nat.le_of_ble_eq_true rfl) ⟨Nat.zero_le _, Nat.zero_le _⟩ dX10_set_73 (fun H locs V => ?_)
    refine lv_goto (tgt := 80) X.1 X.2.1 dX10_set_76 (by decide) ?_
    exact bl_reti X V hr hf dX10_set_80
set_option maxHeartbeats 4000000 in
set_option maxRecDepth 100000 in
theorem t_X10_set (l : Launch) (g : bl_Gp) (σ : bl_St) (a0 : Nat) (a1 : Int32) (a2 : Int32) (a3 : Int32) (o : Int32 × bl_St) (ha0 : bl_sh[a0]? = some (10, 28)) (hf : f_X10_set σ a0 a1 a2 a3 = some o) : bl_Ci l g yX10_set cX10_set 5 (Option.some Jvm.ClassFile.FieldType.int) (bl_rm 2 46) [.ref (bl_ad g a0), .int a1, .int a2, .int a3] σ o := by
  refine bl_met (by decide) (Nat.le_of_ble_eq_true rfl) (fun p e s m below meth c ls X hr V hl => ?_)
  have hl : lv_has ls 5 [(0, .ref (bl_ad g a0)), (1, .int a1), (2, .int a2), (3, .int a3)] := hl
  unfold f_X10_set at hf
  refine lv_aload_n X.1 X.2.1 dX10_set_0 rfl (lv_at hl 0 rfl) ?_
  refine lv_iload_n X.1 X.2.1 dX10_set_1 rfl (lv_at hl 1 rfl) ?_
  obtain ⟨r8, σ9, h10, hf⟩ := bl_bd_at hf
  refine bl_cVi (As := [.int a1]) X V hl.1 ha0 rfl ml_X10_84 mV_X10_isClass (t_X10_isClass l g σ a0 a1 _ ha0 h10) rfl rfl ⟨Nat.le_of_ble_eq_true rfl, Nat.le_of_ble_eq_true rfl⟩ rfl rfl (Nat.le_of_ble_eq_true rfl) ⟨Nat.zero_le _, Nat.zero_le _⟩ dX10_set_2 (fun H locs V => ?_)
  refine lv_if_eq (tgt := 20) X.1 X.2.1 dX10_set_5 (by decide) (fun c11 => ?_) (fun c11 => ?_)
  · have hf := bl_ifp c11 hf
    refine lv_iconst (v := (-1)) X.1 X.2.1 dX10_set_20 (by decide) ?_
    exact bl_reti X V hr hf dX10_set_21
  · have hf := bl_ifn c11 hf
    refine lv_iload_n X.1 X.2.1 dX10_set_8 rfl (lv_at hl 2 rfl) ?_
    refine lv_i2l X.1 X.2.1 dX10_set_9 rfl ?_
    refine lv_lconst (v := 0) X.1 X.2.1 dX10_set_10 (by decide) ?_
    refine lv_ldc2 (v := 4) X.1 X.2.1 X.2.2.2.1 (X.2.2.2.2.1 _ kl_X10_88) dX10_set_11 ?_
    obtain ⟨r12, σ13, h14, hf⟩ := bl_bd_at hf
    refine bl_cSi (As := [.long (Int32.toInt64 a2), .long 0, .long 4]) X V hl.1 ml_X10_66 mS_X10_in (t_X10_in l g σ9 (Int32.toInt64 a2) 0 4 _  h14) rfl rfl ⟨Nat.le_of_ble_eq_true rfl, Nat.le_of_ble_eq_true rfl⟩ rfl rfl (Nat.le_of_ble_eq_true rfl) ⟨Nat.zero_le _, Nat.zero_le _⟩ dX10_set_14 (fun H locs V => ?_)
    refine lv_if_ne (tgt := 22) X.1 X.2.1 dX10_set_17 (by decide) (fun c15 => ?_) (fun c15 => ?_)
    · have hf := bl_ifn c15 hf
      refine lv_iload_n X.1 X.2.1 dX10_set_22 rfl (lv_at hl 2 rfl) ?_
      refine lv_if_ne (tgt := 32) X.1 X.2.1 dX10_set_23 (by decide) (fun c16 => ?_) (fun c16 => ?_)
      · have hf := bl_ifn c16 hf
        refine lv_iload_n X.1 X.2.1 dX10_set_32 rfl (lv_at hl 2 rfl) ?_
        refine lv_iconst (v := 4) X.1 X.2.1 dX10_set_33 (by decide) ?_
        refine lv_icmp_ne (tgt := 42) X.1 X.2.1 dX10_set_34 (by decide) (fun c17 => ?_) (fun c17 => ?_)
        · have hf := bl_ifn c17 hf
          refine lv_aload_n X.1 X.2.1 dX10_set_42 rfl (lv_at hl 0 rfl) ?_
          refine bl_getr X V ha0 fl_X10_13 rfl dX10_set_43 (fun h18 => ?_)
          refine lv_iconst (v := 0) X.1 X.2.1 dX10_set_46 (by decide) ?_
          refine bl_iald (k := 0) X V h18 (by decide) (by decide) dX10_set_47 ?_
          refine lv_iconst (v := 1) X.1 X.2.1 dX10_set_48 (by decide) ?_
          refine lv_isub X.1 X.2.1 dX10_set_49 ?_
          exact w_X10_set_50 X hr  σ13 a0 a1 a2 a3 ((bl_I σ13 (bl_R σ13 a0 1) 0) - 1) ha0 hf _ _ _ V (lv_sub hl [0, 1, 2, 3] rfl)
        · have hf := bl_ifp c17 hf
          refine lv_bipush (v := 99) X.1 X.2.1 dX10_set_37 (by decide) ?_
          refine lv_goto (tgt := 50) X.1 X.2.1 dX10_set_39 (by decide) ?_
          exact w_X10_set_50 X hr  σ13 a0 a1 a2 a3 99 ha0 hf _ _ _ V (lv_sub hl [0, 1, 2, 3] rfl)
      · have hf := bl_ifp c16 hf
        refine lv_sipush (v := 999) X.1 X.2.1 dX10_set_26 (by decide) ?_
        refine lv_goto (tgt := 50) X.1 X.2.1 dX10_set_29 (by decide) ?_
        exact w_X10_set_50 X hr  σ13 a0 a1 a2 a3 999 ha0 hf _ _ _ V (lv_sub hl [0, 1, 2, 3] rfl)
    · have hf := bl_ifp c15 hf
      refine lv_iconst (v := (-1)) X.1 X.2.1 dX10_set_20 (by decide) ?_
      exact bl_reti X V hr hf dX10_set_21
set_option maxHeartbeats 4000000 in
set_option maxRecDepth 100000 in
theorem w_X10_sort_34 {p : Program} {l : Launch} {e : Env} {s : State} {m : MethodId} {below : List Frame} {meth : Method} {c : Code} {g : bl_Gp} {as : List Value} {out : Int32 × bl_St} (X : bl_Cx g p s m as.toArray meth c cX10_sort 4 RX10) (hr : meth.sig.returnType = (Option.some Jvm.ClassFile.FieldType.int)) : ∀ (σ : bl_St) (v0 : Nat) (v1 : Int32) (v2 : Int32) (v3 : Int32) (s0 : Int64) (s1 : Int64) (s2 : Int64), bl_sh[v0]? = some (10, 28) → (b_X10_sort_34 ) σ v0 v1 v2 v3 s0 s1 s2 = some out → ∀ (H : Heap) (locs : List Loc) (ls : Array Slot), bl_V g s σ H locs → lv_has ls 4 [(0, .ref (bl_ad g v0)), (1, .int v1), (2, .int v2), (3, .int v3)] → W p l e (bl_rm 2 46) s m as.toArray below meth c H locs 0 0 (bl_Qi below g s as out) (F0 m 34 ls [.long s0, .long s1, .long s2]) := by
  intro σ v0 v1 v2 v3 s0 s1 s2 hv0 hf H locs ls V hl
  unfold b_X10_sort_34 at hf
  obtain ⟨r1, σ2, h3, hf⟩ := bl_bd_at hf
  refine bl_cSi (As := [.long s2, .long s1, .long s0]) X V hl.1 ml_X10_66 mS_X10_in (t_X10_in l g σ s2 s1 s0 _  h3) rfl rfl ⟨Nat.le_of_ble_eq_true rfl, Nat.le_of_ble_eq_true rfl⟩ rfl rfl (Nat.le_of_ble_eq_true rfl) ⟨Nat.zero_le _, Nat.zero_le _⟩ dX10_sort_34 (fun H locs V => ?_)
  refine lv_if_ne (tgt := 42) X.1 X.2.1 dX10_sort_37 (by decide) (fun c4 => ?_) (fun c4 => ?_)
  · have hf := bl_ifn c4 hf
    refine lv_aload_n X.1 X.2.1 dX10_sort_42 rfl (lv_at hl 0 rfl) ?_
    refine lv_bipush (v := 45) X.1 X.2.1 dX10_sort_43 (by decide) ?_
    refine lv_iconst (v := 2) X.1 X.2.1 dX10_sort_45 (by decide) ?_
    refine lv_iload_n X.1 X.2.1 dX10_sort_46 rfl (lv_at hl 1 rfl) ?_
    refine lv_imul X.1 X.2.1 dX10_sort_47 ?_
    refine lv_iadd X.1 X.2.1 dX10_sort_48 ?_
    refine lv_iload_n X.1 X.2.1 dX10_sort_49 rfl (lv_at hl 2 rfl) ?_
    refine lv_iadd X.1 X.2.1 dX10_sort_50 ?_
    refine lv_iload_n X.1 X.2.1 dX10_sort_51 rfl (lv_at hl 3 rfl) ?_
    obtain ⟨r5, σ6, h7, hf⟩ := bl_bd_at hf
    refine bl_cVi (As := [.int ((45 + (2 * v1)) + v2), .int v3]) X V hl.1 hv0 rfl ml_X10_90 mV_X10_becomes (t_X10_becomes l g σ2 v0 ((45 + (2 * v1)) + v2) v3 _ hv0 h7) rfl rfl ⟨Nat.le_of_ble_eq_true rfl, Nat.le_of_ble_eq_true rfl⟩ rfl rfl (Nat.le_of_ble_eq_true rfl) ⟨Nat.zero_le _, Nat.zero_le _⟩ dX10_sort_52 (fun H locs V => ?_)
    exact bl_reti X V hr hf dX10_sort_55
  · have hf := bl_ifp c4 hf
    refine lv_iconst (v := (-1)) X.1 X.2.1 dX10_sort_40 (by decide) ?_
    exact bl_reti X V hr hf dX10_sort_41
set_option maxHeartbeats 4000000 in
set_option maxRecDepth 100000 in
theorem t_X10_sort (l : Launch) (g : bl_Gp) (σ : bl_St) (a0 : Nat) (a1 : Int32) (a2 : Int32) (a3 : Int32) (o : Int32 × bl_St) (ha0 : bl_sh[a0]? = some (10, 28)) (hf : f_X10_sort σ a0 a1 a2 a3 = some o) : bl_Ci l g yX10_sort cX10_sort 4 (Option.some Jvm.ClassFile.FieldType.int) (bl_rm 2 46) [.ref (bl_ad g a0), .int a1, .int a2, .int a3] σ o := by
  refine bl_met (by decide) (Nat.le_of_ble_eq_true rfl) (fun p e s m below meth c ls X hr V hl => ?_)
  have hl : lv_has ls 4 [(0, .ref (bl_ad g a0)), (1, .int a1), (2, .int a2), (3, .int a3)] := hl
  unfold f_X10_sort at hf
  refine lv_aload_n X.1 X.2.1 dX10_sort_0 rfl (lv_at hl 0 rfl) ?_
  refine lv_iload_n X.1 X.2.1 dX10_sort_1 rfl (lv_at hl 1 rfl) ?_
  obtain ⟨r8, σ9, h10, hf⟩ := bl_bd_at hf
  refine bl_cVi (As := [.int a1]) X V hl.1 ha0 rfl ml_X10_93 mV_X10_isSort (t_X10_isSort l g σ a0 a1 _ ha0 h10) rfl rfl ⟨Nat.le_of_ble_eq_true rfl, Nat.le_of_ble_eq_true rfl⟩ rfl rfl (Nat.le_of_ble_eq_true rfl) ⟨Nat.zero_le _, Nat.zero_le _⟩ dX10_sort_2 (fun H locs V => ?_)
  refine lv_if_eq (tgt := 40) X.1 X.2.1 dX10_sort_5 (by decide) (fun c11 => ?_) (fun c11 => ?_)
  · have hf := bl_ifp c11 hf
    refine lv_iconst (v := (-1)) X.1 X.2.1 dX10_sort_40 (by decide) ?_
    exact bl_reti X V hr hf dX10_sort_41
  · have hf := bl_ifn c11 hf
    refine lv_iload_n X.1 X.2.1 dX10_sort_8 rfl (lv_at hl 2 rfl) ?_
    refine lv_i2l X.1 X.2.1 dX10_sort_9 rfl ?_
    refine lv_lconst (v := 0) X.1 X.2.1 dX10_sort_10 (by decide) ?_
    refine lv_lconst (v := 1) X.1 X.2.1 dX10_sort_11 (by decide) ?_
    obtain ⟨r12, σ13, h14, hf⟩ := bl_bd_at hf
    refine bl_cSi (As := [.long (Int32.toInt64 a2), .long 0, .long 1]) X V hl.1 ml_X10_66 mS_X10_in (t_X10_in l g σ9 (Int32.toInt64 a2) 0 1 _  h14) rfl rfl ⟨Nat.le_of_ble_eq_true rfl, Nat.le_of_ble_eq_true rfl⟩ rfl rfl (Nat.le_of_ble_eq_true rfl) ⟨Nat.zero_le _, Nat.zero_le _⟩ dX10_sort_12 (fun H locs V => ?_)
    refine lv_if_eq (tgt := 40) X.1 X.2.1 dX10_sort_15 (by decide) (fun c15 => ?_) (fun c15 => ?_)
    · have hf := bl_ifp c15 hf
      refine lv_iconst (v := (-1)) X.1 X.2.1 dX10_sort_40 (by decide) ?_
      exact bl_reti X V hr hf dX10_sort_41
    · have hf := bl_ifn c15 hf
      refine lv_iload_n X.1 X.2.1 dX10_sort_18 rfl (lv_at hl 3 rfl) ?_
      refine lv_i2l X.1 X.2.1 dX10_sort_19 rfl ?_
      refine lv_lconst (v := 1) X.1 X.2.1 dX10_sort_20 (by decide) ?_
      refine lv_iload_n X.1 X.2.1 dX10_sort_21 rfl (lv_at hl 2 rfl) ?_
      refine lv_if_ne (tgt := 31) X.1 X.2.1 dX10_sort_22 (by decide) (fun c16 => ?_) (fun c16 => ?_)
      · have hf := bl_ifn c16 hf
        refine lv_ldc2 (v := 9) X.1 X.2.1 X.2.2.2.1 (X.2.2.2.2.1 _ kl_X10_98) dX10_sort_31 ?_
        exact w_X10_sort_34 X hr  σ13 a0 a1 a2 a3 9 1 (Int32.toInt64 a3) ha0 hf _ _ _ V (lv_sub hl [0, 1, 2, 3] rfl)
      · have hf := bl_ifp c16 hf
        refine lv_ldc2 (v := 999) X.1 X.2.1 X.2.2.2.1 (X.2.2.2.2.1 _ kl_X10_96) dX10_sort_25 ?_
        refine lv_goto (tgt := 34) X.1 X.2.1 dX10_sort_28 (by decide) ?_
        exact w_X10_sort_34 X hr  σ13 a0 a1 a2 a3 999 1 (Int32.toInt64 a3) ha0 hf _ _ _ V (lv_sub hl [0, 1, 2, 3] rfl)
set_option maxHeartbeats 4000000 in
set_option maxRecDepth 100000 in
theorem t_X10_isRule (l : Launch) (g : bl_Gp) (σ : bl_St) (a0 : Int32) (a1 : Int32) (o : Int32 × bl_St) (hf : f_X10_isRule σ a0 a1 = some o) : bl_Ci l g yX10_isRule cX10_isRule 2 (Option.some Jvm.ClassFile.FieldType.boolean) (bl_rm 1 25) [.int a0, .int a1] σ o := by
  refine bl_met (by decide) (Nat.le_of_ble_eq_true rfl) (fun p e s m below meth c ls X hr V hl => ?_)
  have hl : lv_has ls 2 [(0, .int a0), (1, .int a1)] := hl
  unfold f_X10_isRule at hf
  refine lv_iload_n X.1 X.2.1 dX10_isRule_0 rfl (lv_at hl 0 rfl) ?_
  refine lv_if_ne (tgt := 16) X.1 X.2.1 dX10_isRule_1 (by decide) (fun c1 => ?_) (fun c1 => ?_)
  · have hf := bl_ifn c1 hf
    refine lv_iload_n X.1 X.2.1 dX10_isRule_16 rfl (lv_at hl 0 rfl) ?_
    refine lv_iconst (v := 1) X.1 X.2.1 dX10_isRule_17 (by decide) ?_
    refine lv_icmp_ne (tgt := 33) X.1 X.2.1 dX10_isRule_18 (by decide) (fun c2 => ?_) (fun c2 => ?_)
    · have hf := bl_ifn c2 hf
      refine lv_iload_n X.1 X.2.1 dX10_isRule_33 rfl (lv_at hl 0 rfl) ?_
      refine lv_iconst (v := 2) X.1 X.2.1 dX10_isRule_34 (by decide) ?_
      refine lv_icmp_ne (tgt := 54) X.1 X.2.1 dX10_isRule_35 (by decide) (fun c3 => ?_) (fun c3 => ?_)
      · have hf := bl_ifn c3 hf
        refine lv_iconst (v := 0) X.1 X.2.1 dX10_isRule_54 (by decide) ?_
        exact bl_retz X V hr (by decide) hf dX10_isRule_55
      · have hf := bl_ifp c3 hf
        refine lv_iload_n X.1 X.2.1 dX10_isRule_38 rfl (lv_at hl 1 rfl) ?_
        refine lv_i2l X.1 X.2.1 dX10_isRule_39 rfl ?_
        refine lv_lconst (v := 0) X.1 X.2.1 dX10_isRule_40 (by decide) ?_
        refine lv_ldc2 (v := 99) X.1 X.2.1 X.2.2.2.1 (X.2.2.2.2.1 _ kl_X10_104) dX10_isRule_41 ?_
        obtain ⟨r4, σ5, h6, hf⟩ := bl_bd_at hf
        refine bl_cSi (As := [.long (Int32.toInt64 a1), .long 0, .long 99]) X V hl.1 ml_X10_66 mS_X10_in (t_X10_in l g σ (Int32.toInt64 a1) 0 99 _  h6) rfl rfl ⟨Nat.le_of_ble_eq_true rfl, Nat.le_of_ble_eq_true rfl⟩ rfl rfl (Nat.le_of_ble_eq_true rfl) ⟨Nat.zero_le _, Nat.zero_le _⟩ dX10_isRule_44 (fun H locs V => ?_)
        refine lv_if_eq (tgt := 54) X.1 X.2.1 dX10_isRule_47 (by decide) (fun c7 => ?_) (fun c7 => ?_)
        · have hf := bl_ifp c7 hf
          refine lv_iconst (v := 0) X.1 X.2.1 dX10_isRule_54 (by decide) ?_
          exact bl_retz X V hr (by decide) hf dX10_isRule_55
        · have hf := bl_ifn c7 hf
          refine lv_iconst (v := 1) X.1 X.2.1 dX10_isRule_50 (by decide) ?_
          refine lv_goto (tgt := 55) X.1 X.2.1 dX10_isRule_51 (by decide) ?_
          exact bl_retz X V hr (by decide) hf dX10_isRule_55
    · have hf := bl_ifp c2 hf
      refine lv_iload_n X.1 X.2.1 dX10_isRule_21 rfl (lv_at hl 1 rfl) ?_
      refine lv_i2l X.1 X.2.1 dX10_isRule_22 rfl ?_
      refine lv_lconst (v := 0) X.1 X.2.1 dX10_isRule_23 (by decide) ?_
      refine lv_ldc2 (v := 12) X.1 X.2.1 X.2.2.2.1 (X.2.2.2.2.1 _ kl_X10_102) dX10_isRule_24 ?_
      obtain ⟨r8, σ9, h10, hf⟩ := bl_bd_at hf
      refine bl_cSi (As := [.long (Int32.toInt64 a1), .long 0, .long 12]) X V hl.1 ml_X10_66 mS_X10_in (t_X10_in l g σ (Int32.toInt64 a1) 0 12 _  h10) rfl rfl ⟨Nat.le_of_ble_eq_true rfl, Nat.le_of_ble_eq_true rfl⟩ rfl rfl (Nat.le_of_ble_eq_true rfl) ⟨Nat.zero_le _, Nat.zero_le _⟩ dX10_isRule_27 (fun H locs V => ?_)
      refine lv_goto (tgt := 55) X.1 X.2.1 dX10_isRule_30 (by decide) ?_
      obtain ⟨h11, hf⟩ := bl_gd_at hf
      exact bl_retz X V hr h11 hf dX10_isRule_55
  · have hf := bl_ifp c1 hf
    refine lv_iload_n X.1 X.2.1 dX10_isRule_4 rfl (lv_at hl 1 rfl) ?_
    refine lv_i2l X.1 X.2.1 dX10_isRule_5 rfl ?_
    refine lv_lconst (v := 1) X.1 X.2.1 dX10_isRule_6 (by decide) ?_
    refine lv_ldc2 (v := 3) X.1 X.2.1 X.2.2.2.1 (X.2.2.2.2.1 _ kl_X10_100) dX10_isRule_7 ?_
    obtain ⟨r12, σ13, h14, hf⟩ := bl_bd_at hf
    refine bl_cSi (As := [.long (Int32.toInt64 a1), .long 1, .long 3]) X V hl.1 ml_X10_66 mS_X10_in (t_X10_in l g σ (Int32.toInt64 a1) 1 3 _  h14) rfl rfl ⟨Nat.le_of_ble_eq_true rfl, Nat.le_of_ble_eq_true rfl⟩ rfl rfl (Nat.le_of_ble_eq_true rfl) ⟨Nat.zero_le _, Nat.zero_le _⟩ dX10_isRule_10 (fun H locs V => ?_)
    refine lv_goto (tgt := 55) X.1 X.2.1 dX10_isRule_13 (by decide) ?_
    obtain ⟨h15, hf⟩ := bl_gd_at hf
    exact bl_retz X V hr h15 hf dX10_isRule_55
set_option maxHeartbeats 4000000 in
set_option maxRecDepth 100000 in
theorem w_X10_rule_25 {p : Program} {l : Launch} {e : Env} {s : State} {m : MethodId} {below : List Frame} {meth : Method} {c : Code} {g : bl_Gp} {as : List Value} {out : Int32 × bl_St} (X : bl_Cx g p s m as.toArray meth c cX10_rule 3 RX10) (hr : meth.sig.returnType = (Option.some Jvm.ClassFile.FieldType.int)) : ∀ (σ : bl_St) (v0 : Nat) (v1 : Int32) (v2 : Int32), bl_sh[v0]? = some (10, 28) → (b_X10_rule_25 ) σ v0 v1 v2 = some out → ∀ (H : Heap) (locs : List Loc) (ls : Array Slot), bl_V g s σ H locs → lv_has ls 3 [(0, .ref (bl_ad g v0)), (1, .int v1), (2, .int v2)] → W p l e (bl_rm 2 46) s m as.toArray below meth c H locs 0 0 (bl_Qi below g s as out) (F0 m 25 ls []) := by
  intro σ v0 v1 v2 hv0 hf H locs ls V hl
  unfold b_X10_rule_25 at hf
  refine lv_aload_n X.1 X.2.1 dX10_rule_25 rfl (lv_at hl 0 rfl) ?_
  refine lv_iconst (v := 2) X.1 X.2.1 dX10_rule_26 (by decide) ?_
  refine lv_iload_n X.1 X.2.1 dX10_rule_27 rfl (lv_at hl 1 rfl) ?_
  refine lv_iadd X.1 X.2.1 dX10_rule_28 ?_
  refine lv_iload_n X.1 X.2.1 dX10_rule_29 rfl (lv_at hl 2 rfl) ?_
  obtain ⟨r1, σ2, h3, hf⟩ := bl_bd_at hf
  refine bl_cVi (As := [.int (2 + v1), .int v2]) X V hl.1 hv0 rfl ml_X10_90 mV_X10_becomes (t_X10_becomes l g σ v0 (2 + v1) v2 _ hv0 h3) rfl rfl ⟨Nat.le_of_ble_eq_true rfl, Nat.le_of_ble_eq_true rfl⟩ rfl rfl (Nat.le_of_ble_eq_true rfl) ⟨Nat.zero_le _, Nat.zero_le _⟩ dX10_rule_30 (fun H locs V => ?_)
  exact bl_reti X V hr hf dX10_rule_33
set_option maxHeartbeats 4000000 in
set_option maxRecDepth 100000 in
theorem t_X10_rule (l : Launch) (g : bl_Gp) (σ : bl_St) (a0 : Nat) (a1 : Int32) (a2 : Int32) (o : Int32 × bl_St) (ha0 : bl_sh[a0]? = some (10, 28)) (hf : f_X10_rule σ a0 a1 a2 = some o) : bl_Ci l g yX10_rule cX10_rule 3 (Option.some Jvm.ClassFile.FieldType.int) (bl_rm 2 46) [.ref (bl_ad g a0), .int a1, .int a2] σ o := by
  refine bl_met (by decide) (Nat.le_of_ble_eq_true rfl) (fun p e s m below meth c ls X hr V hl => ?_)
  have hl : lv_has ls 3 [(0, .ref (bl_ad g a0)), (1, .int a1), (2, .int a2)] := hl
  unfold f_X10_rule at hf
  refine lv_iload_n X.1 X.2.1 dX10_rule_0 rfl (lv_at hl 1 rfl) ?_
  refine lv_iload_n X.1 X.2.1 dX10_rule_1 rfl (lv_at hl 2 rfl) ?_
  obtain ⟨r4, σ5, h6, hf⟩ := bl_bd_at hf
  refine bl_cSi (As := [.int a1, .int a2]) X V hl.1 ml_X10_106 mS_X10_isRule (t_X10_isRule l g σ a1 a2 _  h6) rfl rfl ⟨Nat.le_of_ble_eq_true rfl, Nat.le_of_ble_eq_true rfl⟩ rfl rfl (Nat.le_of_ble_eq_true rfl) ⟨Nat.zero_le _, Nat.zero_le _⟩ dX10_rule_2 (fun H locs V => ?_)
  refine lv_if_eq (tgt := 23) X.1 X.2.1 dX10_rule_5 (by decide) (fun c7 => ?_) (fun c7 => ?_)
  · have hf := bl_ifp c7 hf
    refine lv_iconst (v := (-1)) X.1 X.2.1 dX10_rule_23 (by decide) ?_
    exact bl_reti X V hr hf dX10_rule_24
  · have hf := bl_ifn c7 hf
    refine lv_iload_n X.1 X.2.1 dX10_rule_8 rfl (lv_at hl 1 rfl) ?_
    refine lv_if_ne (tgt := 25) X.1 X.2.1 dX10_rule_9 (by decide) (fun c8 => ?_) (fun c8 => ?_)
    · have hf := bl_ifn c8 hf
      exact w_X10_rule_25 X hr  σ5 a0 a1 a2 ha0 hf _ _ _ V (lv_sub hl [0, 1, 2] rfl)
    · have hf := bl_ifp c8 hf
      refine lv_aload_n X.1 X.2.1 dX10_rule_12 rfl (lv_at hl 0 rfl) ?_
      refine bl_getr X V ha0 fl_X10_13 rfl dX10_rule_13 (fun h9 => ?_)
      refine lv_bipush (v := 56) X.1 X.2.1 dX10_rule_16 (by decide) ?_
      refine bl_iald (k := 56) X V h9 (by decide) (by decide) dX10_rule_18 ?_
      refine lv_iconst (v := 1) X.1 X.2.1 dX10_rule_19 (by decide) ?_
      refine lv_icmp_ne (tgt := 25) X.1 X.2.1 dX10_rule_20 (by decide) (fun c10 => ?_) (fun c10 => ?_)
      · have hf := bl_ifn c10 hf
        exact w_X10_rule_25 X hr  σ5 a0 a1 a2 ha0 hf _ _ _ V (lv_sub hl [0, 1, 2] rfl)
      · have hf := bl_ifp c10 hf
        refine lv_iconst (v := (-1)) X.1 X.2.1 dX10_rule_23 (by decide) ?_
        exact bl_reti X V hr hf dX10_rule_24
set_option maxHeartbeats 4000000 in
set_option maxRecDepth 100000 in
theorem w_X10_begins_92 {p : Program} {l : Launch} {e : Env} {s : State} {m : MethodId} {below : List Frame} {meth : Method} {c : Code} {g : bl_Gp} {as : List Value} {out : Unit × bl_St} (X : bl_Cx g p s m as.toArray meth c cX10_begins 2 RX10) (hr : meth.sig.returnType = (Option.none : Option Jvm.ClassFile.FieldType)) : ∀ (σ : bl_St) (v0 : Nat) (v1 : Int32) (s0 : Int32) (s1 : Int32) (s2 : Int32) (s3 : Nat), bl_sh[v0]? = some (10, 28) → bl_sh[s3]? = some (20, 167) → (b_X10_begins_92 ) σ v0 v1 s0 s1 s2 s3 = some out → ∀ (H : Heap) (locs : List Loc) (ls : Array Slot), bl_V g s σ H locs → lv_has ls 2 [(0, .ref (bl_ad g v0)), (1, .int v1)] → W p l e (bl_rm 1 22) s m as.toArray below meth c H locs 0 0 (bl_Qv below g s as out) (F0 m 92 ls [.int s0, .int s1, .int s2, .ref (bl_ad g s3)]) := by
  intro σ v0 v1 s0 s1 s2 s3 hv0 hs3 hf H locs ls V hl
  unfold b_X10_begins_92 at hf
  refine lv_iadd X.1 X.2.1 dX10_begins_92 ?_
  obtain ⟨h1, hf⟩ := bl_gd_at hf
  refine bl_iast (k := (Int32.toNatClampNeg s2)) X V hs3 h1 rfl dX10_begins_93 (fun σ2 H locs e3 V => ?_)
  have hf := bl_let_at e3 hf
  refine lv_aload_n X.1 X.2.1 dX10_begins_94 rfl (lv_at hl 0 rfl) ?_
  refine bl_getr X V hv0 fl_X10_13 rfl dX10_begins_95 (fun h4 => ?_)
  refine lv_bipush (v := 61) X.1 X.2.1 dX10_begins_98 (by decide) ?_
  refine lv_dup2_11 X.1 X.2.1 dX10_begins_100 rfl rfl ?_
  refine bl_iald (k := 61) X V h4 (by decide) (by decide) dX10_begins_101 ?_
  refine lv_aload_n X.1 X.2.1 dX10_begins_102 rfl (lv_at hl 0 rfl) ?_
  refine lv_aload_n X.1 X.2.1 dX10_begins_103 rfl (lv_at hl 0 rfl) ?_
  refine bl_getr X V hv0 fl_X10_13 rfl dX10_begins_104 (fun h5 => ?_)
  refine lv_bipush (v := 55) X.1 X.2.1 dX10_begins_107 (by decide) ?_
  refine bl_iald (k := 55) X V h5 (by decide) (by decide) dX10_begins_109 ?_
  refine lv_iconst (v := 0) X.1 X.2.1 dX10_begins_110 (by decide) ?_
  obtain ⟨r6, σ7, h8, hf⟩ := bl_bd_at hf
  refine bl_cVi (As := [.int (bl_I σ2 (bl_R σ2 v0 1) 55), .int 0]) X V hl.1 hv0 rfl ml_X10_74 mV_X10_ofClass (t_X10_ofClass l g σ2 v0 (bl_I σ2 (bl_R σ2 v0 1) 55) 0 _ hv0 h8) rfl rfl ⟨Nat.le_of_ble_eq_true rfl, Nat.le_of_ble_eq_true rfl⟩ rfl rfl (Nat.le_of_ble_eq_true rfl) ⟨Nat.zero_le _, Nat.zero_le _⟩ dX10_begins_111 (fun H locs V => ?_)
  refine lv_iadd X.1 X.2.1 dX10_begins_114 ?_
  refine bl_iast (k := 61) X V h4 (by decide) (by decide) dX10_begins_115 (fun σ9 H locs e10 V => ?_)
  have hf := bl_let_at e10 hf
  refine lv_aload_n X.1 X.2.1 dX10_begins_116 rfl (lv_at hl 0 rfl) ?_
  refine bl_getr X V hv0 fl_X10_13 rfl dX10_begins_117 (fun h11 => ?_)
  refine lv_bipush (v := 62) X.1 X.2.1 dX10_begins_120 (by decide) ?_
  refine lv_dup2_11 X.1 X.2.1 dX10_begins_122 rfl rfl ?_
  refine bl_iald (k := 62) X V h11 (by decide) (by decide) dX10_begins_123 ?_
  refine lv_iload_n X.1 X.2.1 dX10_begins_124 rfl (lv_at hl 1 rfl) ?_
  refine lv_if_eq (tgt := 143) X.1 X.2.1 dX10_begins_125 (by decide) (fun c12 => ?_) (fun c12 => ?_)
  · have hf := bl_ifp c12 hf
    refine lv_iconst (v := 0) X.1 X.2.1 dX10_begins_143 (by decide) ?_
    refine lv_iadd X.1 X.2.1 dX10_begins_144 ?_
    refine bl_iast (k := 62) X V h11 (by decide) (by decide) dX10_begins_145 (fun σ13 H locs e14 V => ?_)
    have hf := bl_let_at e14 hf
    exact bl_retv X V hr hf dX10_begins_146
  · have hf := bl_ifn c12 hf
    refine lv_aload_n X.1 X.2.1 dX10_begins_128 rfl (lv_at hl 0 rfl) ?_
    refine lv_aload_n X.1 X.2.1 dX10_begins_129 rfl (lv_at hl 0 rfl) ?_
    refine bl_getr X V hv0 fl_X10_13 rfl dX10_begins_130 (fun h15 => ?_)
    refine lv_bipush (v := 55) X.1 X.2.1 dX10_begins_133 (by decide) ?_
    refine bl_iald (k := 55) X V h15 (by decide) (by decide) dX10_begins_135 ?_
    refine lv_iconst (v := 4) X.1 X.2.1 dX10_begins_136 (by decide) ?_
    obtain ⟨r16, σ17, h18, hf⟩ := bl_bd_at hf
    refine bl_cVi (As := [.int (bl_I σ9 (bl_R σ9 v0 1) 55), .int 4]) X V hl.1 hv0 rfl ml_X10_74 mV_X10_ofClass (t_X10_ofClass l g σ9 v0 (bl_I σ9 (bl_R σ9 v0 1) 55) 4 _ hv0 h18) rfl rfl ⟨Nat.le_of_ble_eq_true rfl, Nat.le_of_ble_eq_true rfl⟩ rfl rfl (Nat.le_of_ble_eq_true rfl) ⟨Nat.zero_le _, Nat.zero_le _⟩ dX10_begins_137 (fun H locs V => ?_)
    refine lv_goto (tgt := 144) X.1 X.2.1 dX10_begins_140 (by decide) ?_
    refine lv_iadd X.1 X.2.1 dX10_begins_144 ?_
    refine bl_iast (k := 62) X V h11 (by decide) (by decide) dX10_begins_145 (fun σ19 H locs e20 V => ?_)
    have hf := bl_let_at e20 hf
    exact bl_retv X V hr hf dX10_begins_146
set_option maxHeartbeats 4000000 in
set_option maxRecDepth 100000 in
theorem w_X10_begins_39 {p : Program} {l : Launch} {e : Env} {s : State} {m : MethodId} {below : List Frame} {meth : Method} {c : Code} {g : bl_Gp} {as : List Value} {out : Unit × bl_St} (X : bl_Cx g p s m as.toArray meth c cX10_begins 2 RX10) (hr : meth.sig.returnType = (Option.none : Option Jvm.ClassFile.FieldType)) : ∀ (σ : bl_St) (v0 : Nat) (v1 : Int32) (s0 : Int32) (s1 : Int32) (s2 : Nat), bl_sh[v0]? = some (10, 28) → bl_sh[s2]? = some (20, 167) → (b_X10_begins_39 ) σ v0 v1 s0 s1 s2 = some out → ∀ (H : Heap) (locs : List Loc) (ls : Array Slot), bl_V g s σ H locs → lv_has ls 2 [(0, .ref (bl_ad g v0)), (1, .int v1)] → W p l e (bl_rm 1 22) s m as.toArray below meth c H locs 0 0 (bl_Qv below g s as out) (F0 m 39 ls [.int s0, .int s1, .ref (bl_ad g s2)]) := by
  intro σ v0 v1 s0 s1 s2 hv0 hs2 hf H locs ls V hl
  unfold b_X10_begins_39 at hf
  obtain ⟨h21, hf⟩ := bl_gd_at hf
  refine bl_iast (k := (Int32.toNatClampNeg s1)) X V hs2 h21 rfl dX10_begins_39 (fun σ22 H locs e23 V => ?_)
  have hf := bl_let_at e23 hf
  refine lv_aload_n X.1 X.2.1 dX10_begins_40 rfl (lv_at hl 0 rfl) ?_
  refine bl_getr X V hv0 fl_X10_13 rfl dX10_begins_41 (fun h24 => ?_)
  refine lv_bipush (v := 68) X.1 X.2.1 dX10_begins_44 (by decide) ?_
  refine lv_aload_n X.1 X.2.1 dX10_begins_46 rfl (lv_at hl 0 rfl) ?_
  refine bl_getr X V hv0 fl_X10_13 rfl dX10_begins_47 (fun h25 => ?_)
  refine lv_bipush (v := 55) X.1 X.2.1 dX10_begins_50 (by decide) ?_
  refine bl_iald (k := 55) X V h25 (by decide) (by decide) dX10_begins_52 ?_
  refine bl_iast (k := 68) X V h24 (by decide) (by decide) dX10_begins_53 (fun σ26 H locs e27 V => ?_)
  have hf := bl_let_at e27 hf
  refine lv_aload_n X.1 X.2.1 dX10_begins_54 rfl (lv_at hl 0 rfl) ?_
  refine bl_getr X V hv0 fl_X10_13 rfl dX10_begins_55 (fun h28 => ?_)
  refine lv_bipush (v := 67) X.1 X.2.1 dX10_begins_58 (by decide) ?_
  refine lv_aload_n X.1 X.2.1 dX10_begins_60 rfl (lv_at hl 0 rfl) ?_
  refine lv_aload_n X.1 X.2.1 dX10_begins_61 rfl (lv_at hl 0 rfl) ?_
  refine bl_getr X V hv0 fl_X10_13 rfl dX10_begins_62 (fun h29 => ?_)
  refine lv_bipush (v := 55) X.1 X.2.1 dX10_begins_65 (by decide) ?_
  refine bl_iald (k := 55) X V h29 (by decide) (by decide) dX10_begins_67 ?_
  refine lv_iconst (v := 0) X.1 X.2.1 dX10_begins_68 (by decide) ?_
  obtain ⟨r30, σ31, h32, hf⟩ := bl_bd_at hf
  refine bl_cVi (As := [.int (bl_I σ26 (bl_R σ26 v0 1) 55), .int 0]) X V hl.1 hv0 rfl ml_X10_74 mV_X10_ofClass (t_X10_ofClass l g σ26 v0 (bl_I σ26 (bl_R σ26 v0 1) 55) 0 _ hv0 h32) rfl rfl ⟨Nat.le_of_ble_eq_true rfl, Nat.le_of_ble_eq_true rfl⟩ rfl rfl (Nat.le_of_ble_eq_true rfl) ⟨Nat.zero_le _, Nat.zero_le _⟩ dX10_begins_69 (fun H locs V => ?_)
  refine lv_iload_n X.1 X.2.1 dX10_begins_72 rfl (lv_at hl 1 rfl) ?_
  refine lv_if_eq (tgt := 91) X.1 X.2.1 dX10_begins_73 (by decide) (fun c33 => ?_) (fun c33 => ?_)
  · have hf := bl_ifp c33 hf
    refine lv_iconst (v := 0) X.1 X.2.1 dX10_begins_91 (by decide) ?_
    exact w_X10_begins_92 X hr  σ31 v0 v1 0 r30 67 (bl_R σ26 v0 1) hv0 h28 hf _ _ _ V (lv_sub hl [0, 1] rfl)
  · have hf := bl_ifn c33 hf
    refine lv_aload_n X.1 X.2.1 dX10_begins_76 rfl (lv_at hl 0 rfl) ?_
    refine lv_aload_n X.1 X.2.1 dX10_begins_77 rfl (lv_at hl 0 rfl) ?_
    refine bl_getr X V hv0 fl_X10_13 rfl dX10_begins_78 (fun h34 => ?_)
    refine lv_bipush (v := 55) X.1 X.2.1 dX10_begins_81 (by decide) ?_
    refine bl_iald (k := 55) X V h34 (by decide) (by decide) dX10_begins_83 ?_
    refine lv_iconst (v := 4) X.1 X.2.1 dX10_begins_84 (by decide) ?_
    obtain ⟨r35, σ36, h37, hf⟩ := bl_bd_at hf
    refine bl_cVi (As := [.int (bl_I σ31 (bl_R σ31 v0 1) 55), .int 4]) X V hl.1 hv0 rfl ml_X10_74 mV_X10_ofClass (t_X10_ofClass l g σ31 v0 (bl_I σ31 (bl_R σ31 v0 1) 55) 4 _ hv0 h37) rfl rfl ⟨Nat.le_of_ble_eq_true rfl, Nat.le_of_ble_eq_true rfl⟩ rfl rfl (Nat.le_of_ble_eq_true rfl) ⟨Nat.zero_le _, Nat.zero_le _⟩ dX10_begins_85 (fun H locs V => ?_)
    refine lv_goto (tgt := 92) X.1 X.2.1 dX10_begins_88 (by decide) ?_
    exact w_X10_begins_92 X hr  σ36 v0 v1 r35 r30 67 (bl_R σ26 v0 1) hv0 h28 hf _ _ _ V (lv_sub hl [0, 1] rfl)
set_option maxHeartbeats 4000000 in
set_option maxRecDepth 100000 in
theorem t_X10_begins (l : Launch) (g : bl_Gp) (σ : bl_St) (a0 : Nat) (a1 : Int32) (o : Unit × bl_St) (ha0 : bl_sh[a0]? = some (10, 28)) (hf : f_X10_begins σ a0 a1 = some o) : bl_Cv l g yX10_begins cX10_begins 2 (Option.none : Option Jvm.ClassFile.FieldType) (bl_rm 1 22) [.ref (bl_ad g a0), .int a1] σ o := by
  refine bl_met (by decide) (Nat.le_of_ble_eq_true rfl) (fun p e s m below meth c ls X hr V hl => ?_)
  have hl : lv_has ls 2 [(0, .ref (bl_ad g a0)), (1, .int a1)] := hl
  unfold f_X10_begins at hf
  refine lv_aload_n X.1 X.2.1 dX10_begins_0 rfl (lv_at hl 0 rfl) ?_
  refine bl_getr X V ha0 fl_X10_13 rfl dX10_begins_1 (fun h38 => ?_)
  refine lv_bipush (v := 56) X.1 X.2.1 dX10_begins_4 (by decide) ?_
  refine lv_iconst (v := 1) X.1 X.2.1 dX10_begins_6 (by decide) ?_
  refine bl_iast (k := 56) X V h38 (by decide) (by decide) dX10_begins_7 (fun σ39 H locs e40 V => ?_)
  have hf := bl_let_at e40 hf
  refine lv_aload_n X.1 X.2.1 dX10_begins_8 rfl (lv_at hl 0 rfl) ?_
  refine bl_getr X V ha0 fl_X10_13 rfl dX10_begins_9 (fun h41 => ?_)
  refine lv_bipush (v := 57) X.1 X.2.1 dX10_begins_12 (by decide) ?_
  refine lv_iconst (v := 0) X.1 X.2.1 dX10_begins_14 (by decide) ?_
  refine bl_iast (k := 57) X V h41 (by decide) (by decide) dX10_begins_15 (fun σ42 H locs e43 V => ?_)
  have hf := bl_let_at e43 hf
  refine lv_aload_n X.1 X.2.1 dX10_begins_16 rfl (lv_at hl 0 rfl) ?_
  refine bl_getr X V ha0 fl_X10_13 rfl dX10_begins_17 (fun h44 => ?_)
  refine lv_bipush (v := 58) X.1 X.2.1 dX10_begins_20 (by decide) ?_
  refine lv_iconst (v := 0) X.1 X.2.1 dX10_begins_22 (by decide) ?_
  refine bl_iast (k := 58) X V h44 (by decide) (by decide) dX10_begins_23 (fun σ45 H locs e46 V => ?_)
  have hf := bl_let_at e46 hf
  refine lv_aload_n X.1 X.2.1 dX10_begins_24 rfl (lv_at hl 0 rfl) ?_
  refine bl_getr X V ha0 fl_X10_13 rfl dX10_begins_25 (fun h47 => ?_)
  refine lv_bipush (v := 59) X.1 X.2.1 dX10_begins_28 (by decide) ?_
  refine lv_iload_n X.1 X.2.1 dX10_begins_30 rfl (lv_at hl 1 rfl) ?_
  refine lv_if_eq (tgt := 38) X.1 X.2.1 dX10_begins_31 (by decide) (fun c48 => ?_) (fun c48 => ?_)
  · have hf := bl_ifp c48 hf
    refine lv_iconst (v := 0) X.1 X.2.1 dX10_begins_38 (by decide) ?_
    exact w_X10_begins_39 X hr  σ45 a0 a1 0 59 (bl_R σ45 a0 1) ha0 h47 hf _ _ _ V (lv_sub hl [0, 1] rfl)
  · have hf := bl_ifn c48 hf
    refine lv_iconst (v := 1) X.1 X.2.1 dX10_begins_34 (by decide) ?_
    refine lv_goto (tgt := 39) X.1 X.2.1 dX10_begins_35 (by decide) ?_
    exact w_X10_begins_39 X hr  σ45 a0 a1 1 59 (bl_R σ45 a0 1) ha0 h47 hf _ _ _ V (lv_sub hl [0, 1] rfl)
set_option maxHeartbeats 4000000 in
set_option maxRecDepth 100000 in
theorem t_X10_begin (l : Launch) (g : bl_Gp) (σ : bl_St) (a0 : Nat) (a1 : Int32) (o : Int32 × bl_St) (ha0 : bl_sh[a0]? = some (10, 28)) (hf : f_X10_begin σ a0 a1 = some o) : bl_Ci l g yX10_begin cX10_begin 2 (Option.some Jvm.ClassFile.FieldType.int) (bl_rm 2 43) [.ref (bl_ad g a0), .int a1] σ o := by
  refine bl_met (by decide) (Nat.le_of_ble_eq_true rfl) (fun p e s m below meth c ls X hr V hl => ?_)
  have hl : lv_has ls 2 [(0, .ref (bl_ad g a0)), (1, .int a1)] := hl
  unfold f_X10_begin at hf
  refine lv_aload_n X.1 X.2.1 dX10_begin_0 rfl (lv_at hl 0 rfl) ?_
  refine bl_getr X V ha0 fl_X10_13 rfl dX10_begin_1 (fun h1 => ?_)
  refine lv_iconst (v := 0) X.1 X.2.1 dX10_begin_4 (by decide) ?_
  refine bl_iald (k := 0) X V h1 (by decide) (by decide) dX10_begin_5 ?_
  refine lv_if_eq (tgt := 20) X.1 X.2.1 dX10_begin_6 (by decide) (fun c2 => ?_) (fun c2 => ?_)
  · have hf := bl_ifp c2 hf
    refine lv_iconst (v := (-1)) X.1 X.2.1 dX10_begin_20 (by decide) ?_
    exact bl_reti X V hr hf dX10_begin_21
  · have hf := bl_ifn c2 hf
    refine lv_aload_n X.1 X.2.1 dX10_begin_9 rfl (lv_at hl 0 rfl) ?_
    refine bl_getr X V ha0 fl_X10_13 rfl dX10_begin_10 (fun h3 => ?_)
    refine lv_bipush (v := 56) X.1 X.2.1 dX10_begin_13 (by decide) ?_
    refine bl_iald (k := 56) X V h3 (by decide) (by decide) dX10_begin_15 ?_
    refine lv_iconst (v := 1) X.1 X.2.1 dX10_begin_16 (by decide) ?_
    refine lv_icmp_ne (tgt := 22) X.1 X.2.1 dX10_begin_17 (by decide) (fun c4 => ?_) (fun c4 => ?_)
    · have hf := bl_ifn c4 hf
      refine lv_aload_n X.1 X.2.1 dX10_begin_22 rfl (lv_at hl 0 rfl) ?_
      obtain ⟨r5, σ6, h7, hf⟩ := bl_bd_at hf
      refine bl_cVv (As := []) X V hl.1 ha0 rfl ml_X10_81 mV_X10_keeps (t_X10_keeps l g σ a0 _ ha0 h7) rfl rfl ⟨Nat.le_of_ble_eq_true rfl, Nat.le_of_ble_eq_true rfl⟩ rfl rfl (Nat.le_of_ble_eq_true rfl) ⟨Nat.zero_le _, Nat.zero_le _⟩ dX10_begin_23 (fun H locs V => ?_)
      refine lv_aload_n X.1 X.2.1 dX10_begin_26 rfl (lv_at hl 0 rfl) ?_
      refine lv_iload_n X.1 X.2.1 dX10_begin_27 rfl (lv_at hl 1 rfl) ?_
      obtain ⟨r8, σ9, h10, hf⟩ := bl_bd_at hf
      refine bl_cVv (As := [.int a1]) X V hl.1 ha0 rfl ml_X10_110 mV_X10_begins (t_X10_begins l g σ6 a0 a1 _ ha0 h10) rfl rfl ⟨Nat.le_of_ble_eq_true rfl, Nat.le_of_ble_eq_true rfl⟩ rfl rfl (Nat.le_of_ble_eq_true rfl) ⟨Nat.zero_le _, Nat.zero_le _⟩ dX10_begin_28 (fun H locs V => ?_)
      refine lv_aload_n X.1 X.2.1 dX10_begin_31 rfl (lv_at hl 0 rfl) ?_
      refine bl_getr X V ha0 fl_X10_13 rfl dX10_begin_32 (fun h11 => ?_)
      refine lv_bipush (v := 67) X.1 X.2.1 dX10_begin_35 (by decide) ?_
      refine bl_iald (k := 67) X V h11 (by decide) (by decide) dX10_begin_37 ?_
      exact bl_reti X V hr hf dX10_begin_38
    · have hf := bl_ifp c4 hf
      refine lv_iconst (v := (-1)) X.1 X.2.1 dX10_begin_20 (by decide) ?_
      exact bl_reti X V hr hf dX10_begin_21
set_option maxHeartbeats 4000000 in
set_option maxRecDepth 100000 in
theorem w_X10_writes_61 {p : Program} {l : Launch} {e : Env} {s : State} {m : MethodId} {below : List Frame} {meth : Method} {c : Code} {g : bl_Gp} {as : List Value} {out : Unit × bl_St} (X : bl_Cx g p s m as.toArray meth c cX10_writes 6 RX10) (hr : meth.sig.returnType = (Option.none : Option Jvm.ClassFile.FieldType)) : ∀ (σ : bl_St) (v0 : Nat) (v1 : Int32) (v2 : Int32) (v3 : Int32) (v4 : Int32), bl_sh[v0]? = some (10, 28) → (b_X10_writes_61 ) σ v0 v1 v2 v3 v4 = some out → ∀ (H : Heap) (locs : List Loc) (ls : Array Slot), bl_V g s σ H locs → lv_has ls 6 [(0, .ref (bl_ad g v0)), (1, .int v1), (2, .int v2), (3, .int v3), (4, .int v4)] → W p l e (bl_rm 0 0) s m as.toArray below meth c H locs 0 0 (bl_Qv below g s as out) (F0 m 61 ls []) := by
  intro σ v0 v1 v2 v3 v4 hv0 hf H locs ls V hl
  unfold b_X10_writes_61 at hf
  refine lv_iload_n X.1 X.2.1 dX10_writes_61 rfl (lv_at hl 1 rfl) ?_
  refine lv_iconst (v := 1) X.1 X.2.1 dX10_writes_62 (by decide) ?_
  refine lv_iadd X.1 X.2.1 dX10_writes_63 ?_
  refine lv_iconst (v := 3) X.1 X.2.1 dX10_writes_64 (by decide) ?_
  refine lv_aload_n X.1 X.2.1 dX10_writes_65 rfl (lv_at hl 0 rfl) ?_
  refine bl_getr X V hv0 fl_X10_13 rfl dX10_writes_66 (fun h1 => ?_)
  refine lv_iload_n X.1 X.2.1 dX10_writes_69 rfl (lv_at hl 1 rfl) ?_
  obtain ⟨h2, hf⟩ := bl_gd_at hf
  refine bl_iald (k := (Int32.toNatClampNeg v1)) X V h1 h2 rfl dX10_writes_70 ?_
  refine lv_imul X.1 X.2.1 dX10_writes_71 ?_
  refine lv_iadd X.1 X.2.1 dX10_writes_72 ?_
  refine lv_topi (fun x3 e4 => ?_)
  have hf := bl_let_at e4 hf
  refine lv_istore (lv' := [(5, .int x3), (0, .ref (bl_ad g v0)), (1, .int v1), (2, .int v2), (3, .int v3), (4, .int v4)]) X.1 X.2.1 dX10_writes_73 hl (by decide) rfl (fun ls hl => ?_)
  refine lv_aload_n X.1 X.2.1 dX10_writes_75 rfl (lv_at hl 1 rfl) ?_
  refine bl_getr X V hv0 fl_X10_13 rfl dX10_writes_76 (fun h5 => ?_)
  refine lv_iload X.1 X.2.1 dX10_writes_79 (lv_at hl 0 rfl) ?_
  refine lv_iload_n X.1 X.2.1 dX10_writes_81 rfl (lv_at hl 3 rfl) ?_
  obtain ⟨h6, hf⟩ := bl_gd_at hf
  refine bl_iast (k := (Int32.toNatClampNeg x3)) X V h5 h6 rfl dX10_writes_82 (fun σ7 H locs e8 V => ?_)
  have hf := bl_let_at e8 hf
  refine lv_aload_n X.1 X.2.1 dX10_writes_83 rfl (lv_at hl 1 rfl) ?_
  refine bl_getr X V hv0 fl_X10_13 rfl dX10_writes_84 (fun h9 => ?_)
  refine lv_iload X.1 X.2.1 dX10_writes_87 (lv_at hl 0 rfl) ?_
  refine lv_iconst (v := 1) X.1 X.2.1 dX10_writes_89 (by decide) ?_
  refine lv_iadd X.1 X.2.1 dX10_writes_90 ?_
  refine lv_iload_n X.1 X.2.1 dX10_writes_91 rfl (lv_at hl 4 rfl) ?_
  obtain ⟨h10, hf⟩ := bl_gd_at hf
  refine bl_iast (k := (Int32.toNatClampNeg (x3 + 1))) X V h9 h10 rfl dX10_writes_92 (fun σ11 H locs e12 V => ?_)
  have hf := bl_let_at e12 hf
  refine lv_aload_n X.1 X.2.1 dX10_writes_93 rfl (lv_at hl 1 rfl) ?_
  refine bl_getr X V hv0 fl_X10_13 rfl dX10_writes_94 (fun h13 => ?_)
  refine lv_iload X.1 X.2.1 dX10_writes_97 (lv_at hl 0 rfl) ?_
  refine lv_iconst (v := 2) X.1 X.2.1 dX10_writes_99 (by decide) ?_
  refine lv_iadd X.1 X.2.1 dX10_writes_100 ?_
  refine lv_iload X.1 X.2.1 dX10_writes_101 (lv_at hl 5 rfl) ?_
  obtain ⟨h14, hf⟩ := bl_gd_at hf
  refine bl_iast (k := (Int32.toNatClampNeg (x3 + 2))) X V h13 h14 rfl dX10_writes_103 (fun σ15 H locs e16 V => ?_)
  have hf := bl_let_at e16 hf
  refine lv_aload_n X.1 X.2.1 dX10_writes_104 rfl (lv_at hl 1 rfl) ?_
  refine bl_getr X V hv0 fl_X10_13 rfl dX10_writes_105 (fun h17 => ?_)
  refine lv_iload_n X.1 X.2.1 dX10_writes_108 rfl (lv_at hl 2 rfl) ?_
  refine lv_dup2_11 X.1 X.2.1 dX10_writes_109 rfl rfl ?_
  obtain ⟨h18, hf⟩ := bl_gd_at hf
  refine bl_iald (k := (Int32.toNatClampNeg v1)) X V h17 h18 rfl dX10_writes_110 ?_
  refine lv_iconst (v := 1) X.1 X.2.1 dX10_writes_111 (by decide) ?_
  refine lv_iadd X.1 X.2.1 dX10_writes_112 ?_
  obtain ⟨h19, hf⟩ := bl_gd_at hf
  refine bl_iast (k := (Int32.toNatClampNeg v1)) X V h17 h19 rfl dX10_writes_113 (fun σ20 H locs e21 V => ?_)
  have hf := bl_let_at e21 hf
  exact bl_retv X V hr hf dX10_writes_114
set_option maxHeartbeats 4000000 in
set_option maxRecDepth 100000 in
theorem w_X10_writes_14 {p : Program} {l : Launch} {e : Env} {s : State} {m : MethodId} {below : List Frame} {meth : Method} {c : Code} {g : bl_Gp} {as : List Value} {out : Unit × bl_St} (X : bl_Cx g p s m as.toArray meth c cX10_writes 6 RX10) (hr : meth.sig.returnType = (Option.none : Option Jvm.ClassFile.FieldType)) (k14 : bl_St → Nat → Int32 → Int32 → Int32 → Int32 → Int32 → Option (Unit × bl_St)) (hk14 : ∀ (σ : bl_St) (v0 : Nat) (v1 : Int32) (v2 : Int32) (v3 : Int32) (v4 : Int32) (v5 : Int32), bl_sh[v0]? = some (10, 28) → k14 σ v0 v1 v2 v3 v4 v5 = some out → ∀ (H : Heap) (locs : List Loc) (ls : Array Slot), bl_V g s σ H locs → lv_has ls 6 [(0, .ref (bl_ad g v0)), (1, .int v1), (2, .int v2), (3, .int v3), (4, .int v4), (5, .int v5)] → W p l e (bl_rm 0 0) s m as.toArray below meth c H locs 0 0 (bl_Qv below g s as out) (F0 m 14 ls [])) : ∀ (σ : bl_St) (v0 : Nat) (v1 : Int32) (v2 : Int32) (v3 : Int32) (v4 : Int32) (v5 : Int32), bl_sh[v0]? = some (10, 28) → (b_X10_writes_14 k14) σ v0 v1 v2 v3 v4 v5 = some out → ∀ (H : Heap) (locs : List Loc) (ls : Array Slot), bl_V g s σ H locs → lv_has ls 6 [(0, .ref (bl_ad g v0)), (1, .int v1), (2, .int v2), (3, .int v3), (4, .int v4), (5, .int v5)] → W p l e (bl_rm 0 0) s m as.toArray below meth c H locs 0 0 (bl_Qv below g s as out) (F0 m 14 ls []) := by
  intro σ v0 v1 v2 v3 v4 v5 hv0 hf H locs ls V hl
  unfold b_X10_writes_14 at hf
  refine lv_iload X.1 X.2.1 dX10_writes_14 (lv_at hl 5 rfl) ?_
  refine lv_bipush (v := 48) X.1 X.2.1 dX10_writes_16 (by decide) ?_
  refine lv_icmp_ge (tgt := 51) X.1 X.2.1 dX10_writes_18 (by decide) (fun c22 => ?_) (fun c22 => ?_)
  · have hf := bl_ifp c22 hf
    refine lv_aload_n X.1 X.2.1 dX10_writes_51 rfl (lv_at hl 0 rfl) ?_
    refine bl_getr X V hv0 fl_X10_13 rfl dX10_writes_52 (fun h23 => ?_)
    refine lv_iload_n X.1 X.2.1 dX10_writes_55 rfl (lv_at hl 1 rfl) ?_
    refine lv_dup2_11 X.1 X.2.1 dX10_writes_56 rfl rfl ?_
    obtain ⟨h24, hf⟩ := bl_gd_at hf
    refine bl_iald (k := (Int32.toNatClampNeg v1)) X V h23 h24 rfl dX10_writes_57 ?_
    refine lv_iconst (v := 1) X.1 X.2.1 dX10_writes_58 (by decide) ?_
    refine lv_isub X.1 X.2.1 dX10_writes_59 ?_
    obtain ⟨h25, hf⟩ := bl_gd_at hf
    refine bl_iast (k := (Int32.toNatClampNeg v1)) X V h23 h25 rfl dX10_writes_60 (fun σ26 H locs e27 V => ?_)
    have hf := bl_let_at e27 hf
    exact w_X10_writes_61 X hr  σ26 v0 v1 v2 v3 v4 hv0 hf _ _ _ V (lv_sub hl [0, 1, 2, 3, 4] rfl)
  · have hf := bl_ifn c22 hf
    refine lv_aload_n X.1 X.2.1 dX10_writes_21 rfl (lv_at hl 0 rfl) ?_
    refine bl_getr X V hv0 fl_X10_13 rfl dX10_writes_22 (fun h28 => ?_)
    refine lv_iload_n X.1 X.2.1 dX10_writes_25 rfl (lv_at hl 1 rfl) ?_
    refine lv_iconst (v := 1) X.1 X.2.1 dX10_writes_26 (by decide) ?_
    refine lv_iadd X.1 X.2.1 dX10_writes_27 ?_
    refine lv_iload X.1 X.2.1 dX10_writes_28 (lv_at hl 5 rfl) ?_
    refine lv_iadd X.1 X.2.1 dX10_writes_30 ?_
    refine lv_iconst (v := 3) X.1 X.2.1 dX10_writes_31 (by decide) ?_
    refine lv_isub X.1 X.2.1 dX10_writes_32 ?_
    refine lv_aload_n X.1 X.2.1 dX10_writes_33 rfl (lv_at hl 0 rfl) ?_
    refine bl_getr X V hv0 fl_X10_13 rfl dX10_writes_34 (fun h29 => ?_)
    refine lv_iload_n X.1 X.2.1 dX10_writes_37 rfl (lv_at hl 1 rfl) ?_
    refine lv_iconst (v := 1) X.1 X.2.1 dX10_writes_38 (by decide) ?_
    refine lv_iadd X.1 X.2.1 dX10_writes_39 ?_
    refine lv_iload X.1 X.2.1 dX10_writes_40 (lv_at hl 5 rfl) ?_
    refine lv_iadd X.1 X.2.1 dX10_writes_42 ?_
    obtain ⟨h30, hf⟩ := bl_gd_at hf
    refine bl_iald (k := (Int32.toNatClampNeg ((v1 + 1) + v5))) X V h29 h30 rfl dX10_writes_43 ?_
    obtain ⟨h31, hf⟩ := bl_gd_at hf
    refine bl_iast (k := (Int32.toNatClampNeg (((v1 + 1) + v5) - 3))) X V h28 h31 rfl dX10_writes_44 (fun σ32 H locs e33 V => ?_)
    have hf := bl_let_at e33 hf
    obtain ⟨x34, e35⟩ : ∃ z : Int32, z = v5 + 1 := ⟨_, rfl⟩
    have hf := bl_let_at e35 hf
    refine lv_iinc (v := x34) (lv' := [(5, .int x34), (0, .ref (bl_ad g v0)), (1, .int v1), (2, .int v2), (3, .int v3), (4, .int v4)]) X.1 X.2.1 dX10_writes_45 hl (k := 5) rfl (by rw [e35]; rfl) (by decide) rfl (fun ls hl => ?_)
    refine lv_goto (tgt := 14) X.1 X.2.1 dX10_writes_48 (by decide) ?_
    exact hk14 σ32 v0 v1 v2 v3 v4 x34 hv0 hf _ _ _ V (lv_sub hl [1, 2, 3, 4, 5, 0] rfl)
theorem l_X10_writes_14 {p : Program} {l : Launch} {e : Env} {s : State} {m : MethodId} {below : List Frame} {meth : Method} {c : Code} {g : bl_Gp} {as : List Value} {out : Unit × bl_St} (X : bl_Cx g p s m as.toArray meth c cX10_writes 6 RX10) (hr : meth.sig.returnType = (Option.none : Option Jvm.ClassFile.FieldType)) (n : Nat) : ∀ (σ : bl_St) (v0 : Nat) (v1 : Int32) (v2 : Int32) (v3 : Int32) (v4 : Int32) (v5 : Int32), bl_sh[v0]? = some (10, 28) → (bl_fx (fun _ _ _ _ _ _ _ => none) (b_X10_writes_14 ) n) σ v0 v1 v2 v3 v4 v5 = some out → ∀ (H : Heap) (locs : List Loc) (ls : Array Slot), bl_V g s σ H locs → lv_has ls 6 [(0, .ref (bl_ad g v0)), (1, .int v1), (2, .int v2), (3, .int v3), (4, .int v4), (5, .int v5)] → W p l e (bl_rm 0 0) s m as.toArray below meth c H locs 0 0 (bl_Qv below g s as out) (F0 m 14 ls []) := by
  induction n with
  | zero =>
    intro σ v0 v1 v2 v3 v4 v5 hv0 hf H locs ls V hl
    cases hf
  | succ n ih => exact w_X10_writes_14 X hr  _ ih
set_option maxHeartbeats 4000000 in
set_option maxRecDepth 100000 in
theorem t_X10_writes (l : Launch) (g : bl_Gp) (σ : bl_St) (a0 : Nat) (a1 : Int32) (a2 : Int32) (a3 : Int32) (a4 : Int32) (o : Unit × bl_St) (ha0 : bl_sh[a0]? = some (10, 28)) (hf : f_X10_writes σ a0 a1 a2 a3 a4 = some o) : bl_Cv l g yX10_writes cX10_writes 6 (Option.none : Option Jvm.ClassFile.FieldType) (bl_rm 0 0) [.ref (bl_ad g a0), .int a1, .int a2, .int a3, .int a4] σ o := by
  refine bl_met (by decide) (Nat.le_of_ble_eq_true rfl) (fun p e s m below meth c ls X hr V hl => ?_)
  have hl : lv_has ls 6 [(0, .ref (bl_ad g a0)), (1, .int a1), (2, .int a2), (3, .int a3), (4, .int a4)] := hl
  unfold f_X10_writes at hf
  refine lv_aload_n X.1 X.2.1 dX10_writes_0 rfl (lv_at hl 0 rfl) ?_
  refine bl_getr X V ha0 fl_X10_13 rfl dX10_writes_1 (fun h36 => ?_)
  refine lv_iload_n X.1 X.2.1 dX10_writes_4 rfl (lv_at hl 1 rfl) ?_
  obtain ⟨h37, hf⟩ := bl_gd_at hf
  refine bl_iald (k := (Int32.toNatClampNeg a1)) X V h36 h37 rfl dX10_writes_5 ?_
  refine lv_bipush (v := 16) X.1 X.2.1 dX10_writes_6 (by decide) ?_
  refine lv_icmp_ne (tgt := 61) X.1 X.2.1 dX10_writes_8 (by decide) (fun c38 => ?_) (fun c38 => ?_)
  · have hf := bl_ifn c38 hf
    exact w_X10_writes_61 X hr  σ a0 a1 a2 a3 a4 ha0 hf _ _ _ V (lv_sub hl [0, 1, 2, 3, 4] rfl)
  · have hf := bl_ifp c38 hf
    refine lv_iconst (v := 3) X.1 X.2.1 dX10_writes_11 (by decide) ?_
    refine lv_istore (lv' := [(5, .int 3), (0, .ref (bl_ad g a0)), (1, .int a1), (2, .int a2), (3, .int a3), (4, .int a4)]) X.1 X.2.1 dX10_writes_12 hl (by decide) rfl (fun ls hl => ?_)
    exact l_X10_writes_14 X hr  bl_fu σ a0 a1 a2 a3 a4 3 ha0 hf _ _ _ V (lv_sub hl [1, 2, 3, 4, 5, 0] rfl)
set_option maxHeartbeats 4000000 in
set_option maxRecDepth 100000 in
theorem t_X10_goesBy (l : Launch) (g : bl_Gp) (σ : bl_St) (a0 : Nat) (o : Unit × bl_St) (ha0 : bl_sh[a0]? = some (10, 28)) (hf : f_X10_goesBy σ a0 = some o) : bl_Cv l g yX10_goesBy cX10_goesBy 1 (Option.none : Option Jvm.ClassFile.FieldType) (bl_rm 2 44) [.ref (bl_ad g a0)] σ o := by
  refine bl_met (by decide) (Nat.le_of_ble_eq_true rfl) (fun p e s m below meth c ls X hr V hl => ?_)
  have hl : lv_has ls 1 [(0, .ref (bl_ad g a0))] := hl
  unfold f_X10_goesBy at hf
  refine lv_aload_n X.1 X.2.1 dX10_goesBy_0 rfl (lv_at hl 0 rfl) ?_
  refine bl_getr X V ha0 fl_X10_13 rfl dX10_goesBy_1 (fun h1 => ?_)
  refine lv_bipush (v := 57) X.1 X.2.1 dX10_goesBy_4 (by decide) ?_
  refine lv_dup2_11 X.1 X.2.1 dX10_goesBy_6 rfl rfl ?_
  refine bl_iald (k := 57) X V h1 (by decide) (by decide) dX10_goesBy_7 ?_
  refine lv_iconst (v := 1) X.1 X.2.1 dX10_goesBy_8 (by decide) ?_
  refine lv_iadd X.1 X.2.1 dX10_goesBy_9 ?_
  refine bl_iast (k := 57) X V h1 (by decide) (by decide) dX10_goesBy_10 (fun σ2 H locs e3 V => ?_)
  have hf := bl_let_at e3 hf
  refine lv_aload_n X.1 X.2.1 dX10_goesBy_11 rfl (lv_at hl 0 rfl) ?_
  refine bl_getr X V ha0 fl_X10_13 rfl dX10_goesBy_12 (fun h4 => ?_)
  refine lv_bipush (v := 57) X.1 X.2.1 dX10_goesBy_15 (by decide) ?_
  refine bl_iald (k := 57) X V h4 (by decide) (by decide) dX10_goesBy_17 ?_
  refine lv_aload_n X.1 X.2.1 dX10_goesBy_18 rfl (lv_at hl 0 rfl) ?_
  refine bl_getr X V ha0 fl_X10_13 rfl dX10_goesBy_19 (fun h5 => ?_)
  refine lv_iconst (v := 2) X.1 X.2.1 dX10_goesBy_22 (by decide) ?_
  refine bl_iald (k := 2) X V h5 (by decide) (by decide) dX10_goesBy_23 ?_
  refine lv_icmp_ge (tgt := 28) X.1 X.2.1 dX10_goesBy_24 (by decide) (fun c6 => ?_) (fun c6 => ?_)
  · have hf := bl_ifp c6 hf
    refine lv_aload_n X.1 X.2.1 dX10_goesBy_28 rfl (lv_at hl 0 rfl) ?_
    refine lv_bipush (v := 118) X.1 X.2.1 dX10_goesBy_29 (by decide) ?_
    refine lv_aload_n X.1 X.2.1 dX10_goesBy_31 rfl (lv_at hl 0 rfl) ?_
    refine bl_getr X V ha0 fl_X10_13 rfl dX10_goesBy_32 (fun h7 => ?_)
    refine lv_bipush (v := 68) X.1 X.2.1 dX10_goesBy_35 (by decide) ?_
    refine bl_iald (k := 68) X V h7 (by decide) (by decide) dX10_goesBy_37 ?_
    refine lv_aload_n X.1 X.2.1 dX10_goesBy_38 rfl (lv_at hl 0 rfl) ?_
    refine bl_getr X V ha0 fl_X10_13 rfl dX10_goesBy_39 (fun h8 => ?_)
    refine lv_bipush (v := 67) X.1 X.2.1 dX10_goesBy_42 (by decide) ?_
    refine bl_iald (k := 67) X V h8 (by decide) (by decide) dX10_goesBy_44 ?_
    refine lv_aload_n X.1 X.2.1 dX10_goesBy_45 rfl (lv_at hl 0 rfl) ?_
    refine bl_getr X V ha0 fl_X10_13 rfl dX10_goesBy_46 (fun h9 => ?_)
    refine lv_bipush (v := 58) X.1 X.2.1 dX10_goesBy_49 (by decide) ?_
    refine bl_iald (k := 58) X V h9 (by decide) (by decide) dX10_goesBy_51 ?_
    obtain ⟨r10, σ11, h12, hf⟩ := bl_bd_at hf
    refine bl_cVv (As := [.int 118, .int (bl_I σ2 (bl_R σ2 a0 1) 68), .int (bl_I σ2 (bl_R σ2 a0 1) 67), .int (bl_I σ2 (bl_R σ2 a0 1) 58)]) X V hl.1 ha0 rfl ml_X10_114 mV_X10_writes (t_X10_writes l g σ2 a0 118 (bl_I σ2 (bl_R σ2 a0 1) 68) (bl_I σ2 (bl_R σ2 a0 1) 67) (bl_I σ2 (bl_R σ2 a0 1) 58) _ ha0 h12) rfl rfl ⟨Nat.le_of_ble_eq_true rfl, Nat.le_of_ble_eq_true rfl⟩ rfl rfl (Nat.le_of_ble_eq_true rfl) ⟨Nat.zero_le _, Nat.zero_le _⟩ dX10_goesBy_52 (fun H locs V => ?_)
    refine lv_aload_n X.1 X.2.1 dX10_goesBy_55 rfl (lv_at hl 0 rfl) ?_
    refine bl_getr X V ha0 fl_X10_13 rfl dX10_goesBy_56 (fun h13 => ?_)
    refine lv_bipush (v := 55) X.1 X.2.1 dX10_goesBy_59 (by decide) ?_
    refine lv_aload_n X.1 X.2.1 dX10_goesBy_61 rfl (lv_at hl 0 rfl) ?_
    refine lv_aload_n X.1 X.2.1 dX10_goesBy_62 rfl (lv_at hl 0 rfl) ?_
    refine bl_getr X V ha0 fl_X10_13 rfl dX10_goesBy_63 (fun h14 => ?_)
    refine lv_bipush (v := 55) X.1 X.2.1 dX10_goesBy_66 (by decide) ?_
    refine bl_iald (k := 55) X V h14 (by decide) (by decide) dX10_goesBy_68 ?_
    refine lv_aload_n X.1 X.2.1 dX10_goesBy_69 rfl (lv_at hl 0 rfl) ?_
    refine bl_getr X V ha0 fl_X10_13 rfl dX10_goesBy_70 (fun h15 => ?_)
    refine lv_bipush (v := 58) X.1 X.2.1 dX10_goesBy_73 (by decide) ?_
    refine bl_iald (k := 58) X V h15 (by decide) (by decide) dX10_goesBy_75 ?_
    obtain ⟨r16, σ17, h18, hf⟩ := bl_bd_at hf
    refine bl_cVi (As := [.int (bl_I σ11 (bl_R σ11 a0 1) 55), .int (bl_I σ11 (bl_R σ11 a0 1) 58)]) X V hl.1 ha0 rfl ml_X10_118 mV_X10_behind (t_X10_behind l g σ11 a0 (bl_I σ11 (bl_R σ11 a0 1) 55) (bl_I σ11 (bl_R σ11 a0 1) 58) _ ha0 h18) rfl rfl ⟨Nat.le_of_ble_eq_true rfl, Nat.le_of_ble_eq_true rfl⟩ rfl rfl (Nat.le_of_ble_eq_true rfl) ⟨Nat.zero_le _, Nat.zero_le _⟩ dX10_goesBy_76 (fun H locs V => ?_)
    refine bl_iast (k := 55) X V h13 (by decide) (by decide) dX10_goesBy_79 (fun σ19 H locs e20 V => ?_)
    have hf := bl_let_at e20 hf
    refine lv_aload_n X.1 X.2.1 dX10_goesBy_80 rfl (lv_at hl 0 rfl) ?_
    refine bl_getr X V ha0 fl_X10_13 rfl dX10_goesBy_81 (fun h21 => ?_)
    refine lv_bipush (v := 60) X.1 X.2.1 dX10_goesBy_84 (by decide) ?_
    refine lv_dup2_11 X.1 X.2.1 dX10_goesBy_86 rfl rfl ?_
    refine bl_iald (k := 60) X V h21 (by decide) (by decide) dX10_goesBy_87 ?_
    refine lv_iconst (v := 1) X.1 X.2.1 dX10_goesBy_88 (by decide) ?_
    refine lv_iadd X.1 X.2.1 dX10_goesBy_89 ?_
    refine bl_iast (k := 60) X V h21 (by decide) (by decide) dX10_goesBy_90 (fun σ22 H locs e23 V => ?_)
    have hf := bl_let_at e23 hf
    refine lv_aload_n X.1 X.2.1 dX10_goesBy_91 rfl (lv_at hl 0 rfl) ?_
    refine bl_getr X V ha0 fl_X10_13 rfl dX10_goesBy_92 (fun h24 => ?_)
    refine lv_bipush (v := 56) X.1 X.2.1 dX10_goesBy_95 (by decide) ?_
    refine lv_iconst (v := 0) X.1 X.2.1 dX10_goesBy_97 (by decide) ?_
    refine bl_iast (k := 56) X V h24 (by decide) (by decide) dX10_goesBy_98 (fun σ25 H locs e26 V => ?_)
    have hf := bl_let_at e26 hf
    refine lv_aload_n X.1 X.2.1 dX10_goesBy_99 rfl (lv_at hl 0 rfl) ?_
    refine bl_getr X V ha0 fl_X10_13 rfl dX10_goesBy_100 (fun h27 => ?_)
    refine lv_bipush (v := 57) X.1 X.2.1 dX10_goesBy_103 (by decide) ?_
    refine lv_iconst (v := 0) X.1 X.2.1 dX10_goesBy_105 (by decide) ?_
    refine bl_iast (k := 57) X V h27 (by decide) (by decide) dX10_goesBy_106 (fun σ28 H locs e29 V => ?_)
    have hf := bl_let_at e29 hf
    refine lv_aload_n X.1 X.2.1 dX10_goesBy_107 rfl (lv_at hl 0 rfl) ?_
    refine bl_getr X V ha0 fl_X10_13 rfl dX10_goesBy_108 (fun h30 => ?_)
    refine lv_bipush (v := 58) X.1 X.2.1 dX10_goesBy_111 (by decide) ?_
    refine lv_iconst (v := 0) X.1 X.2.1 dX10_goesBy_113 (by decide) ?_
    refine bl_iast (k := 58) X V h30 (by decide) (by decide) dX10_goesBy_114 (fun σ31 H locs e32 V => ?_)
    have hf := bl_let_at e32 hf
    refine lv_aload_n X.1 X.2.1 dX10_goesBy_115 rfl (lv_at hl 0 rfl) ?_
    refine bl_getr X V ha0 fl_X10_13 rfl dX10_goesBy_116 (fun h33 => ?_)
    refine lv_bipush (v := 59) X.1 X.2.1 dX10_goesBy_119 (by decide) ?_
    refine lv_iconst (v := 0) X.1 X.2.1 dX10_goesBy_121 (by decide) ?_
    refine bl_iast (k := 59) X V h33 (by decide) (by decide) dX10_goesBy_122 (fun σ34 H locs e35 V => ?_)
    have hf := bl_let_at e35 hf
    exact bl_retv X V hr hf dX10_goesBy_123
  · have hf := bl_ifn c6 hf
    exact bl_retv X V hr hf dX10_goesBy_27
set_option maxHeartbeats 4000000 in
set_option maxRecDepth 100000 in
theorem t_X10_quiet (l : Launch) (g : bl_Gp) (σ : bl_St) (a0 : Nat) (o : Int32 × bl_St) (ha0 : bl_sh[a0]? = some (10, 28)) (hf : f_X10_quiet σ a0 = some o) : bl_Ci l g yX10_quiet cX10_quiet 2 (Option.some Jvm.ClassFile.FieldType.int) (bl_rm 3 64) [.ref (bl_ad g a0)] σ o := by
  refine bl_met (by decide) (Nat.le_of_ble_eq_true rfl) (fun p e s m below meth c ls X hr V hl => ?_)
  have hl : lv_has ls 2 [(0, .ref (bl_ad g a0))] := hl
  unfold f_X10_quiet at hf
  refine lv_aload_n X.1 X.2.1 dX10_quiet_0 rfl (lv_at hl 0 rfl) ?_
  refine bl_getr X V ha0 fl_X10_13 rfl dX10_quiet_1 (fun h1 => ?_)
  refine lv_bipush (v := 56) X.1 X.2.1 dX10_quiet_4 (by decide) ?_
  refine bl_iald (k := 56) X V h1 (by decide) (by decide) dX10_quiet_6 ?_
  refine lv_if_ne (tgt := 12) X.1 X.2.1 dX10_quiet_7 (by decide) (fun c2 => ?_) (fun c2 => ?_)
  · have hf := bl_ifn c2 hf
    refine lv_aload_n X.1 X.2.1 dX10_quiet_12 rfl (lv_at hl 0 rfl) ?_
    obtain ⟨r3, σ4, h5, hf⟩ := bl_bd_at hf
    refine bl_cVv (As := []) X V hl.1 ha0 rfl ml_X10_81 mV_X10_keeps (t_X10_keeps l g σ a0 _ ha0 h5) rfl rfl ⟨Nat.le_of_ble_eq_true rfl, Nat.le_of_ble_eq_true rfl⟩ rfl rfl (Nat.le_of_ble_eq_true rfl) ⟨Nat.zero_le _, Nat.zero_le _⟩ dX10_quiet_13 (fun H locs V => ?_)
    refine lv_aload_n X.1 X.2.1 dX10_quiet_16 rfl (lv_at hl 0 rfl) ?_
    refine bl_getr X V ha0 fl_X10_13 rfl dX10_quiet_17 (fun h6 => ?_)
    refine lv_iconst (v := 2) X.1 X.2.1 dX10_quiet_20 (by decide) ?_
    refine bl_iald (k := 2) X V h6 (by decide) (by decide) dX10_quiet_21 ?_
    refine lv_aload_n X.1 X.2.1 dX10_quiet_22 rfl (lv_at hl 0 rfl) ?_
    refine bl_getr X V ha0 fl_X10_13 rfl dX10_quiet_23 (fun h7 => ?_)
    refine lv_bipush (v := 57) X.1 X.2.1 dX10_quiet_26 (by decide) ?_
    refine bl_iald (k := 57) X V h7 (by decide) (by decide) dX10_quiet_28 ?_
    refine lv_isub X.1 X.2.1 dX10_quiet_29 ?_
    refine lv_iconst (v := 1) X.1 X.2.1 dX10_quiet_30 (by decide) ?_
    refine lv_isub X.1 X.2.1 dX10_quiet_31 ?_
    refine lv_topi (fun x8 e9 => ?_)
    have hf := bl_let_at e9 hf
    refine lv_istore_n (lv' := [(1, .int x8), (0, .ref (bl_ad g a0))]) X.1 X.2.1 dX10_quiet_32 rfl hl (by decide) rfl (fun ls hl => ?_)
    refine lv_aload_n X.1 X.2.1 dX10_quiet_33 rfl (lv_at hl 1 rfl) ?_
    obtain ⟨r10, σ11, h12, hf⟩ := bl_bd_at hf
    refine bl_cVv (As := []) X V hl.1 ha0 rfl ml_X10_121 mV_X10_goesBy (t_X10_goesBy l g σ4 a0 _ ha0 h12) rfl rfl ⟨Nat.le_of_ble_eq_true rfl, Nat.le_of_ble_eq_true rfl⟩ rfl rfl (Nat.le_of_ble_eq_true rfl) ⟨Nat.zero_le _, Nat.zero_le _⟩ dX10_quiet_34 (fun H locs V => ?_)
    refine lv_iload_n X.1 X.2.1 dX10_quiet_37 rfl (lv_at hl 0 rfl) ?_
    exact bl_reti X V hr hf dX10_quiet_38
  · have hf := bl_ifp c2 hf
    refine lv_iconst (v := (-1)) X.1 X.2.1 dX10_quiet_10 (by decide) ?_
    exact bl_reti X V hr hf dX10_quiet_11
set_option maxHeartbeats 4000000 in
set_option maxRecDepth 100000 in
theorem w_X10_loses_38 {p : Program} {l : Launch} {e : Env} {s : State} {m : MethodId} {below : List Frame} {meth : Method} {c : Code} {g : bl_Gp} {as : List Value} {out : Int32 × bl_St} (X : bl_Cx g p s m as.toArray meth c cX10_loses 4 RX10) (hr : meth.sig.returnType = (Option.some Jvm.ClassFile.FieldType.int)) : ∀ (σ : bl_St) (v0 : Nat) (v2 : Int32) (v3 : Int32) (s0 : Int32) (s1 : Int32) (s2 : Int32) (s3 : Int32) (s4 : Nat), bl_sh[v0]? = some (10, 28) → bl_sh[s4]? = some (10, 28) → (b_X10_loses_38 ) σ v0 v2 v3 s0 s1 s2 s3 s4 = some out → ∀ (H : Heap) (locs : List Loc) (ls : Array Slot), bl_V g s σ H locs → lv_has ls 4 [(0, .ref (bl_ad g v0)), (2, .int v2), (3, .int v3)] → W p l e (bl_rm 3 64) s m as.toArray below meth c H locs 0 0 (bl_Qi below g s as out) (F0 m 38 ls [.int s0, .int s1, .int s2, .int s3, .ref (bl_ad g s4)]) := by
  intro σ v0 v2 v3 s0 s1 s2 s3 s4 hv0 hs4 hf H locs ls V hl
  unfold b_X10_loses_38 at hf
  obtain ⟨r1, σ2, h3, hf⟩ := bl_bd_at hf
  refine bl_cVv (As := [.int s3, .int s2, .int s1, .int s0]) X V hl.1 hs4 rfl ml_X10_114 mV_X10_writes (t_X10_writes l g σ s4 s3 s2 s1 s0 _ hs4 h3) rfl rfl ⟨Nat.le_of_ble_eq_true rfl, Nat.le_of_ble_eq_true rfl⟩ rfl rfl (Nat.le_of_ble_eq_true rfl) ⟨Nat.zero_le _, Nat.zero_le _⟩ dX10_loses_38 (fun H locs V => ?_)
  refine lv_aload_n X.1 X.2.1 dX10_loses_41 rfl (lv_at hl 0 rfl) ?_
  refine bl_getr X V hv0 fl_X10_13 rfl dX10_loses_42 (fun h4 => ?_)
  refine lv_bipush (v := 67) X.1 X.2.1 dX10_loses_45 (by decide) ?_
  refine lv_dup2_11 X.1 X.2.1 dX10_loses_47 rfl rfl ?_
  refine bl_iald (k := 67) X V h4 (by decide) (by decide) dX10_loses_48 ?_
  refine lv_iload_n X.1 X.2.1 dX10_loses_49 rfl (lv_at hl 2 rfl) ?_
  refine lv_iadd X.1 X.2.1 dX10_loses_50 ?_
  refine bl_iast (k := 67) X V h4 (by decide) (by decide) dX10_loses_51 (fun σ5 H locs e6 V => ?_)
  have hf := bl_let_at e6 hf
  refine lv_iload_n X.1 X.2.1 dX10_loses_52 rfl (lv_at hl 1 rfl) ?_
  refine lv_if_eq (tgt := 114) X.1 X.2.1 dX10_loses_53 (by decide) (fun c7 => ?_) (fun c7 => ?_)
  · have hf := bl_ifp c7 hf
    refine lv_aload_n X.1 X.2.1 dX10_loses_114 rfl (lv_at hl 0 rfl) ?_
    refine bl_getr X V hv0 fl_X10_13 rfl dX10_loses_115 (fun h8 => ?_)
    refine lv_bipush (v := 66) X.1 X.2.1 dX10_loses_118 (by decide) ?_
    refine lv_dup2_11 X.1 X.2.1 dX10_loses_120 rfl rfl ?_
    refine bl_iald (k := 66) X V h8 (by decide) (by decide) dX10_loses_121 ?_
    refine lv_iconst (v := 1) X.1 X.2.1 dX10_loses_122 (by decide) ?_
    refine lv_iadd X.1 X.2.1 dX10_loses_123 ?_
    refine bl_iast (k := 66) X V h8 (by decide) (by decide) dX10_loses_124 (fun σ9 H locs e10 V => ?_)
    have hf := bl_let_at e10 hf
    refine lv_aload_n X.1 X.2.1 dX10_loses_125 rfl (lv_at hl 0 rfl) ?_
    refine bl_getr X V hv0 fl_X10_13 rfl dX10_loses_126 (fun h11 => ?_)
    refine lv_bipush (v := 64) X.1 X.2.1 dX10_loses_129 (by decide) ?_
    refine lv_dup2_11 X.1 X.2.1 dX10_loses_131 rfl rfl ?_
    refine bl_iald (k := 64) X V h11 (by decide) (by decide) dX10_loses_132 ?_
    refine lv_iload_n X.1 X.2.1 dX10_loses_133 rfl (lv_at hl 2 rfl) ?_
    refine lv_iadd X.1 X.2.1 dX10_loses_134 ?_
    refine bl_iast (k := 64) X V h11 (by decide) (by decide) dX10_loses_135 (fun σ12 H locs e13 V => ?_)
    have hf := bl_let_at e13 hf
    refine lv_aload_n X.1 X.2.1 dX10_loses_136 rfl (lv_at hl 0 rfl) ?_
    obtain ⟨r14, σ15, h16, hf⟩ := bl_bd_at hf
    refine bl_cVv (As := []) X V hl.1 hv0 rfl ml_X10_121 mV_X10_goesBy (t_X10_goesBy l g σ12 v0 _ hv0 h16) rfl rfl ⟨Nat.le_of_ble_eq_true rfl, Nat.le_of_ble_eq_true rfl⟩ rfl rfl (Nat.le_of_ble_eq_true rfl) ⟨Nat.zero_le _, Nat.zero_le _⟩ dX10_loses_137 (fun H locs V => ?_)
    refine lv_iload_n X.1 X.2.1 dX10_loses_140 rfl (lv_at hl 2 rfl) ?_
    exact bl_reti X V hr hf dX10_loses_141
  · have hf := bl_ifn c7 hf
    refine lv_aload_n X.1 X.2.1 dX10_loses_56 rfl (lv_at hl 0 rfl) ?_
    refine bl_getr X V hv0 fl_X10_13 rfl dX10_loses_57 (fun h17 => ?_)
    refine lv_bipush (v := 65) X.1 X.2.1 dX10_loses_60 (by decide) ?_
    refine lv_dup2_11 X.1 X.2.1 dX10_loses_62 rfl rfl ?_
    refine bl_iald (k := 65) X V h17 (by decide) (by decide) dX10_loses_63 ?_
    refine lv_iconst (v := 1) X.1 X.2.1 dX10_loses_64 (by decide) ?_
    refine lv_iadd X.1 X.2.1 dX10_loses_65 ?_
    refine bl_iast (k := 65) X V h17 (by decide) (by decide) dX10_loses_66 (fun σ18 H locs e19 V => ?_)
    have hf := bl_let_at e19 hf
    refine lv_aload_n X.1 X.2.1 dX10_loses_67 rfl (lv_at hl 0 rfl) ?_
    refine bl_getr X V hv0 fl_X10_13 rfl dX10_loses_68 (fun h20 => ?_)
    refine lv_bipush (v := 63) X.1 X.2.1 dX10_loses_71 (by decide) ?_
    refine lv_dup2_11 X.1 X.2.1 dX10_loses_73 rfl rfl ?_
    refine bl_iald (k := 63) X V h20 (by decide) (by decide) dX10_loses_74 ?_
    refine lv_iload_n X.1 X.2.1 dX10_loses_75 rfl (lv_at hl 2 rfl) ?_
    refine lv_iadd X.1 X.2.1 dX10_loses_76 ?_
    refine bl_iast (k := 63) X V h20 (by decide) (by decide) dX10_loses_77 (fun σ21 H locs e22 V => ?_)
    have hf := bl_let_at e22 hf
    refine lv_aload_n X.1 X.2.1 dX10_loses_78 rfl (lv_at hl 0 rfl) ?_
    refine bl_getr X V hv0 fl_X10_13 rfl dX10_loses_79 (fun h23 => ?_)
    refine lv_bipush (v := 59) X.1 X.2.1 dX10_loses_82 (by decide) ?_
    refine bl_iald (k := 59) X V h23 (by decide) (by decide) dX10_loses_84 ?_
    refine lv_iconst (v := 1) X.1 X.2.1 dX10_loses_85 (by decide) ?_
    refine lv_icmp_ne (tgt := 100) X.1 X.2.1 dX10_loses_86 (by decide) (fun c24 => ?_) (fun c24 => ?_)
    · have hf := bl_ifn c24 hf
      refine lv_aload_n X.1 X.2.1 dX10_loses_100 rfl (lv_at hl 0 rfl) ?_
      refine bl_getr X V hv0 fl_X10_13 rfl dX10_loses_101 (fun h25 => ?_)
      refine lv_bipush (v := 58) X.1 X.2.1 dX10_loses_104 (by decide) ?_
      refine lv_dup2_11 X.1 X.2.1 dX10_loses_106 rfl rfl ?_
      refine bl_iald (k := 58) X V h25 (by decide) (by decide) dX10_loses_107 ?_
      refine lv_iconst (v := 1) X.1 X.2.1 dX10_loses_108 (by decide) ?_
      refine lv_iadd X.1 X.2.1 dX10_loses_109 ?_
      refine bl_iast (k := 58) X V h25 (by decide) (by decide) dX10_loses_110 (fun σ26 H locs e27 V => ?_)
      have hf := bl_let_at e27 hf
      refine lv_goto (tgt := 136) X.1 X.2.1 dX10_loses_111 (by decide) ?_
      refine lv_aload_n X.1 X.2.1 dX10_loses_136 rfl (lv_at hl 0 rfl) ?_
      obtain ⟨r28, σ29, h30, hf⟩ := bl_bd_at hf
      refine bl_cVv (As := []) X V hl.1 hv0 rfl ml_X10_121 mV_X10_goesBy (t_X10_goesBy l g σ26 v0 _ hv0 h30) rfl rfl ⟨Nat.le_of_ble_eq_true rfl, Nat.le_of_ble_eq_true rfl⟩ rfl rfl (Nat.le_of_ble_eq_true rfl) ⟨Nat.zero_le _, Nat.zero_le _⟩ dX10_loses_137 (fun H locs V => ?_)
      refine lv_iload_n X.1 X.2.1 dX10_loses_140 rfl (lv_at hl 2 rfl) ?_
      exact bl_reti X V hr hf dX10_loses_141
    · have hf := bl_ifp c24 hf
      refine lv_aload_n X.1 X.2.1 dX10_loses_89 rfl (lv_at hl 0 rfl) ?_
      refine bl_getr X V hv0 fl_X10_13 rfl dX10_loses_90 (fun h31 => ?_)
      refine lv_bipush (v := 59) X.1 X.2.1 dX10_loses_93 (by decide) ?_
      refine lv_iconst (v := 0) X.1 X.2.1 dX10_loses_95 (by decide) ?_
      refine bl_iast (k := 59) X V h31 (by decide) (by decide) dX10_loses_96 (fun σ32 H locs e33 V => ?_)
      have hf := bl_let_at e33 hf
      refine lv_goto (tgt := 136) X.1 X.2.1 dX10_loses_97 (by decide) ?_
      refine lv_aload_n X.1 X.2.1 dX10_loses_136 rfl (lv_at hl 0 rfl) ?_
      obtain ⟨r34, σ35, h36, hf⟩ := bl_bd_at hf
      refine bl_cVv (As := []) X V hl.1 hv0 rfl ml_X10_121 mV_X10_goesBy (t_X10_goesBy l g σ32 v0 _ hv0 h36) rfl rfl ⟨Nat.le_of_ble_eq_true rfl, Nat.le_of_ble_eq_true rfl⟩ rfl rfl (Nat.le_of_ble_eq_true rfl) ⟨Nat.zero_le _, Nat.zero_le _⟩ dX10_loses_137 (fun H locs V => ?_)
      refine lv_iload_n X.1 X.2.1 dX10_loses_140 rfl (lv_at hl 2 rfl) ?_
      exact bl_reti X V hr hf dX10_loses_141
set_option maxHeartbeats 4000000 in
set_option maxRecDepth 100000 in
theorem w_X10_loses_17 {p : Program} {l : Launch} {e : Env} {s : State} {m : MethodId} {below : List Frame} {meth : Method} {c : Code} {g : bl_Gp} {as : List Value} {out : Int32 × bl_St} (X : bl_Cx g p s m as.toArray meth c cX10_loses 4 RX10) (hr : meth.sig.returnType = (Option.some Jvm.ClassFile.FieldType.int)) : ∀ (σ : bl_St) (v0 : Nat) (v1 : Int32) (v2 : Int32) (s0 : Int32), bl_sh[v0]? = some (10, 28) → (b_X10_loses_17 ) σ v0 v1 v2 s0 = some out → ∀ (H : Heap) (locs : List Loc) (ls : Array Slot), bl_V g s σ H locs → lv_has ls 4 [(0, .ref (bl_ad g v0)), (1, .int v1), (2, .int v2)] → W p l e (bl_rm 3 64) s m as.toArray below meth c H locs 0 0 (bl_Qi below g s as out) (F0 m 17 ls [.int s0]) := by
  intro σ v0 v1 v2 s0 hv0 hf H locs ls V hl
  unfold b_X10_loses_17 at hf
  refine lv_istore_n (lv' := [(3, .int s0), (0, .ref (bl_ad g v0)), (1, .int v1), (2, .int v2)]) X.1 X.2.1 dX10_loses_17 rfl hl (by decide) rfl (fun ls hl => ?_)
  refine lv_aload_n X.1 X.2.1 dX10_loses_18 rfl (lv_at hl 1 rfl) ?_
  refine lv_bipush (v := 69) X.1 X.2.1 dX10_loses_19 (by decide) ?_
  refine lv_aload_n X.1 X.2.1 dX10_loses_21 rfl (lv_at hl 1 rfl) ?_
  refine bl_getr X V hv0 fl_X10_13 rfl dX10_loses_22 (fun h37 => ?_)
  refine lv_bipush (v := 60) X.1 X.2.1 dX10_loses_25 (by decide) ?_
  refine bl_iald (k := 60) X V h37 (by decide) (by decide) dX10_loses_27 ?_
  refine lv_iload_n X.1 X.2.1 dX10_loses_28 rfl (lv_at hl 2 rfl) ?_
  refine lv_iload_n X.1 X.2.1 dX10_loses_29 rfl (lv_at hl 3 rfl) ?_
  refine lv_if_eq (tgt := 37) X.1 X.2.1 dX10_loses_30 (by decide) (fun c38 => ?_) (fun c38 => ?_)
  · have hf := bl_ifp c38 hf
    refine lv_iconst (v := 0) X.1 X.2.1 dX10_loses_37 (by decide) ?_
    exact w_X10_loses_38 X hr  σ v0 v2 s0 0 v1 (bl_I σ (bl_R σ v0 1) 60) 69 v0 hv0 hv0 hf _ _ _ V (lv_sub hl [1, 3, 0] rfl)
  · have hf := bl_ifn c38 hf
    refine lv_iconst (v := 1) X.1 X.2.1 dX10_loses_33 (by decide) ?_
    refine lv_goto (tgt := 38) X.1 X.2.1 dX10_loses_34 (by decide) ?_
    exact w_X10_loses_38 X hr  σ v0 v2 s0 1 v1 (bl_I σ (bl_R σ v0 1) 60) 69 v0 hv0 hv0 hf _ _ _ V (lv_sub hl [1, 3, 0] rfl)
set_option maxHeartbeats 4000000 in
set_option maxRecDepth 100000 in
theorem t_X10_loses (l : Launch) (g : bl_Gp) (σ : bl_St) (a0 : Nat) (a1 : Int32) (a2 : Int32) (o : Int32 × bl_St) (ha0 : bl_sh[a0]? = some (10, 28)) (hf : f_X10_loses σ a0 a1 a2 = some o) : bl_Ci l g yX10_loses cX10_loses 4 (Option.some Jvm.ClassFile.FieldType.int) (bl_rm 3 64) [.ref (bl_ad g a0), .int a1, .int a2] σ o := by
  refine bl_met (by decide) (Nat.le_of_ble_eq_true rfl) (fun p e s m below meth c ls X hr V hl => ?_)
  have hl : lv_has ls 4 [(0, .ref (bl_ad g a0)), (1, .int a1), (2, .int a2)] := hl
  unfold f_X10_loses at hf
  refine lv_iload_n X.1 X.2.1 dX10_loses_0 rfl (lv_at hl 2 rfl) ?_
  refine lv_if_eq (tgt := 12) X.1 X.2.1 dX10_loses_1 (by decide) (fun c39 => ?_) (fun c39 => ?_)
  · have hf := bl_ifp c39 hf
    refine lv_aload_n X.1 X.2.1 dX10_loses_12 rfl (lv_at hl 0 rfl) ?_
    refine lv_iload_n X.1 X.2.1 dX10_loses_13 rfl (lv_at hl 1 rfl) ?_
    obtain ⟨r40, σ41, h42, hf⟩ := bl_bd_at hf
    refine bl_cVi (As := [.int a1]) X V hl.1 ha0 rfl ml_X10_78 mV_X10_size (t_X10_size l g σ a0 a1 _ ha0 h42) rfl rfl ⟨Nat.le_of_ble_eq_true rfl, Nat.le_of_ble_eq_true rfl⟩ rfl rfl (Nat.le_of_ble_eq_true rfl) ⟨Nat.zero_le _, Nat.zero_le _⟩ dX10_loses_14 (fun H locs V => ?_)
    exact w_X10_loses_17 X hr  σ41 a0 a1 a2 r40 ha0 hf _ _ _ V (lv_sub hl [0, 1, 2] rfl)
  · have hf := bl_ifn c39 hf
    refine lv_aload_n X.1 X.2.1 dX10_loses_4 rfl (lv_at hl 0 rfl) ?_
    refine lv_iload_n X.1 X.2.1 dX10_loses_5 rfl (lv_at hl 1 rfl) ?_
    obtain ⟨r43, σ44, h45, hf⟩ := bl_bd_at hf
    refine bl_cVi (As := [.int a1]) X V hl.1 ha0 rfl ml_X10_124 mV_X10_toldPays (t_X10_toldPays l g σ a0 a1 _ ha0 h45) rfl rfl ⟨Nat.le_of_ble_eq_true rfl, Nat.le_of_ble_eq_true rfl⟩ rfl rfl (Nat.le_of_ble_eq_true rfl) ⟨Nat.zero_le _, Nat.zero_le _⟩ dX10_loses_6 (fun H locs V => ?_)
    refine lv_goto (tgt := 17) X.1 X.2.1 dX10_loses_9 (by decide) ?_
    exact w_X10_loses_17 X hr  σ44 a0 a1 a2 r43 ha0 hf _ _ _ V (lv_sub hl [0, 1, 2] rfl)
set_option maxHeartbeats 4000000 in
set_option maxRecDepth 100000 in
theorem t_X10_loss (l : Launch) (g : bl_Gp) (σ : bl_St) (a0 : Nat) (a1 : Int32) (a2 : Int32) (o : Int32 × bl_St) (ha0 : bl_sh[a0]? = some (10, 28)) (hf : f_X10_loss σ a0 a1 a2 = some o) : bl_Ci l g yX10_loss cX10_loss 3 (Option.some Jvm.ClassFile.FieldType.int) (bl_rm 4 87) [.ref (bl_ad g a0), .int a1, .int a2] σ o := by
  refine bl_met (by decide) (Nat.le_of_ble_eq_true rfl) (fun p e s m below meth c ls X hr V hl => ?_)
  have hl : lv_has ls 3 [(0, .ref (bl_ad g a0)), (1, .int a1), (2, .int a2)] := hl
  unfold f_X10_loss at hf
  refine lv_aload_n X.1 X.2.1 dX10_loss_0 rfl (lv_at hl 0 rfl) ?_
  refine bl_getr X V ha0 fl_X10_13 rfl dX10_loss_1 (fun h1 => ?_)
  refine lv_bipush (v := 56) X.1 X.2.1 dX10_loss_4 (by decide) ?_
  refine bl_iald (k := 56) X V h1 (by decide) (by decide) dX10_loss_6 ?_
  refine lv_if_eq (tgt := 18) X.1 X.2.1 dX10_loss_7 (by decide) (fun c2 => ?_) (fun c2 => ?_)
  · have hf := bl_ifp c2 hf
    refine lv_iconst (v := (-1)) X.1 X.2.1 dX10_loss_18 (by decide) ?_
    exact bl_reti X V hr hf dX10_loss_19
  · have hf := bl_ifn c2 hf
    refine lv_aload_n X.1 X.2.1 dX10_loss_10 rfl (lv_at hl 0 rfl) ?_
    refine lv_iload_n X.1 X.2.1 dX10_loss_11 rfl (lv_at hl 1 rfl) ?_
    obtain ⟨r3, σ4, h5, hf⟩ := bl_bd_at hf
    refine bl_cVi (As := [.int a1]) X V hl.1 ha0 rfl ml_X10_93 mV_X10_isSort (t_X10_isSort l g σ a0 a1 _ ha0 h5) rfl rfl ⟨Nat.le_of_ble_eq_true rfl, Nat.le_of_ble_eq_true rfl⟩ rfl rfl (Nat.le_of_ble_eq_true rfl) ⟨Nat.zero_le _, Nat.zero_le _⟩ dX10_loss_12 (fun H locs V => ?_)
    refine lv_if_ne (tgt := 20) X.1 X.2.1 dX10_loss_15 (by decide) (fun c6 => ?_) (fun c6 => ?_)
    · have hf := bl_ifn c6 hf
      refine lv_aload_n X.1 X.2.1 dX10_loss_20 rfl (lv_at hl 0 rfl) ?_
      obtain ⟨r7, σ8, h9, hf⟩ := bl_bd_at hf
      refine bl_cVv (As := []) X V hl.1 ha0 rfl ml_X10_81 mV_X10_keeps (t_X10_keeps l g σ4 a0 _ ha0 h9) rfl rfl ⟨Nat.le_of_ble_eq_true rfl, Nat.le_of_ble_eq_true rfl⟩ rfl rfl (Nat.le_of_ble_eq_true rfl) ⟨Nat.zero_le _, Nat.zero_le _⟩ dX10_loss_21 (fun H locs V => ?_)
      refine lv_aload_n X.1 X.2.1 dX10_loss_24 rfl (lv_at hl 0 rfl) ?_
      refine lv_iload_n X.1 X.2.1 dX10_loss_25 rfl (lv_at hl 1 rfl) ?_
      refine lv_iload_n X.1 X.2.1 dX10_loss_26 rfl (lv_at hl 2 rfl) ?_
      obtain ⟨r10, σ11, h12, hf⟩ := bl_bd_at hf
      refine bl_cVi (As := [.int a1, .int a2]) X V hl.1 ha0 rfl ml_X10_127 mV_X10_loses (t_X10_loses l g σ8 a0 a1 a2 _ ha0 h12) rfl rfl ⟨Nat.le_of_ble_eq_true rfl, Nat.le_of_ble_eq_true rfl⟩ rfl rfl (Nat.le_of_ble_eq_true rfl) ⟨Nat.zero_le _, Nat.zero_le _⟩ dX10_loss_27 (fun H locs V => ?_)
      exact bl_reti X V hr hf dX10_loss_30
    · have hf := bl_ifp c6 hf
      refine lv_iconst (v := (-1)) X.1 X.2.1 dX10_loss_18 (by decide) ?_
      exact bl_reti X V hr hf dX10_loss_19
set_option maxHeartbeats 4000000 in
set_option maxRecDepth 100000 in
theorem t_X10_allPaid (l : Launch) (g : bl_Gp) (σ : bl_St) (a0 : Nat) (o : Int32 × bl_St) (ha0 : bl_sh[a0]? = some (10, 28)) (hf : f_X10_allPaid σ a0 = some o) : bl_Ci l g yX10_allPaid cX10_allPaid 1 (Option.some Jvm.ClassFile.FieldType.int) (bl_rm 0 0) [.ref (bl_ad g a0)] σ o := by
  refine bl_met (by decide) (Nat.le_of_ble_eq_true rfl) (fun p e s m below meth c ls X hr V hl => ?_)
  have hl : lv_has ls 1 [(0, .ref (bl_ad g a0))] := hl
  unfold f_X10_allPaid at hf
  refine lv_aload_n X.1 X.2.1 dX10_allPaid_0 rfl (lv_at hl 0 rfl) ?_
  refine bl_getr X V ha0 fl_X10_13 rfl dX10_allPaid_1 (fun h1 => ?_)
  refine lv_bipush (v := 61) X.1 X.2.1 dX10_allPaid_4 (by decide) ?_
  refine bl_iald (k := 61) X V h1 (by decide) (by decide) dX10_allPaid_6 ?_
  refine lv_aload_n X.1 X.2.1 dX10_allPaid_7 rfl (lv_at hl 0 rfl) ?_
  refine bl_getr X V ha0 fl_X10_13 rfl dX10_allPaid_8 (fun h2 => ?_)
  refine lv_bipush (v := 62) X.1 X.2.1 dX10_allPaid_11 (by decide) ?_
  refine bl_iald (k := 62) X V h2 (by decide) (by decide) dX10_allPaid_13 ?_
  refine lv_iadd X.1 X.2.1 dX10_allPaid_14 ?_
  refine lv_aload_n X.1 X.2.1 dX10_allPaid_15 rfl (lv_at hl 0 rfl) ?_
  refine bl_getr X V ha0 fl_X10_13 rfl dX10_allPaid_16 (fun h3 => ?_)
  refine lv_bipush (v := 63) X.1 X.2.1 dX10_allPaid_19 (by decide) ?_
  refine bl_iald (k := 63) X V h3 (by decide) (by decide) dX10_allPaid_21 ?_
  refine lv_iadd X.1 X.2.1 dX10_allPaid_22 ?_
  refine lv_aload_n X.1 X.2.1 dX10_allPaid_23 rfl (lv_at hl 0 rfl) ?_
  refine bl_getr X V ha0 fl_X10_13 rfl dX10_allPaid_24 (fun h4 => ?_)
  refine lv_bipush (v := 64) X.1 X.2.1 dX10_allPaid_27 (by decide) ?_
  refine bl_iald (k := 64) X V h4 (by decide) (by decide) dX10_allPaid_29 ?_
  refine lv_iadd X.1 X.2.1 dX10_allPaid_30 ?_
  exact bl_reti X V hr hf dX10_allPaid_31
set_option maxHeartbeats 4000000 in
set_option maxRecDepth 100000 in
theorem t_X10_draws (l : Launch) (g : bl_Gp) (σ : bl_St) (a0 : Nat) (a1 : Int32) (o : Int32 × bl_St) (ha0 : bl_sh[a0]? = some (10, 28)) (hf : f_X10_draws σ a0 a1 = some o) : bl_Ci l g yX10_draws cX10_draws 2 (Option.some Jvm.ClassFile.FieldType.int) (bl_rm 0 0) [.ref (bl_ad g a0), .int a1] σ o := by
  refine bl_met (by decide) (Nat.le_of_ble_eq_true rfl) (fun p e s m below meth c ls X hr V hl => ?_)
  have hl : lv_has ls 2 [(0, .ref (bl_ad g a0)), (1, .int a1)] := hl
  unfold f_X10_draws at hf
  refine lv_aload_n X.1 X.2.1 dX10_draws_0 rfl (lv_at hl 0 rfl) ?_
  refine lv_aload_n X.1 X.2.1 dX10_draws_1 rfl (lv_at hl 0 rfl) ?_
  refine bl_geti X V ha0 fl_X10_131 dX10_draws_2 ?_
  refine lv_ldc (v := 1103515245) X.1 X.2.1 X.2.2.2.1 (X.2.2.2.2.1 _ ki_X10_134) dX10_draws_5 ?_
  refine lv_imul X.1 X.2.1 dX10_draws_7 ?_
  refine lv_sipush (v := 12345) X.1 X.2.1 dX10_draws_8 (by decide) ?_
  refine lv_iadd X.1 X.2.1 dX10_draws_11 ?_
  refine bl_puti X V ha0 fp_X10_131 rfl rfl dX10_draws_12 (fun σ1 H locs e2 V => ?_)
  have hf := bl_let_at e2 hf
  refine lv_aload_n X.1 X.2.1 dX10_draws_15 rfl (lv_at hl 0 rfl) ?_
  refine bl_geti X V ha0 fl_X10_131 dX10_draws_16 ?_
  refine lv_bipush (v := 8) X.1 X.2.1 dX10_draws_19 (by decide) ?_
  refine lv_iushr X.1 X.2.1 dX10_draws_21 rfl ?_
  refine lv_iload_n X.1 X.2.1 dX10_draws_22 rfl (lv_at hl 1 rfl) ?_
  obtain ⟨h3, hf⟩ := bl_gd_at hf
  refine lv_irem X.1 X.2.1 dX10_draws_23 (by simpa using h3) ?_
  exact bl_reti X V hr hf dX10_draws_24
set_option maxHeartbeats 4000000 in
set_option maxRecDepth 100000 in
theorem w_X10_sortDrawn_11 {p : Program} {l : Launch} {e : Env} {s : State} {m : MethodId} {below : List Frame} {meth : Method} {c : Code} {g : bl_Gp} {as : List Value} {out : Int32 × bl_St} (X : bl_Cx g p s m as.toArray meth c cX10_sortDrawn 3 RX10) (hr : meth.sig.returnType = (Option.some Jvm.ClassFile.FieldType.int)) (k11 : bl_St → Nat → Int32 → Int32 → Option (Int32 × bl_St)) (hk11 : ∀ (σ : bl_St) (v0 : Nat) (v1 : Int32) (v2 : Int32), bl_sh[v0]? = some (10, 28) → k11 σ v0 v1 v2 = some out → ∀ (H : Heap) (locs : List Loc) (ls : Array Slot), bl_V g s σ H locs → lv_has ls 3 [(0, .ref (bl_ad g v0)), (1, .int v1), (2, .int v2)] → W p l e (bl_rm 2 43) s m as.toArray below meth c H locs 0 0 (bl_Qi below g s as out) (F0 m 11 ls [])) : ∀ (σ : bl_St) (v0 : Nat) (v1 : Int32) (v2 : Int32), bl_sh[v0]? = some (10, 28) → (b_X10_sortDrawn_11 k11) σ v0 v1 v2 = some out → ∀ (H : Heap) (locs : List Loc) (ls : Array Slot), bl_V g s σ H locs → lv_has ls 3 [(0, .ref (bl_ad g v0)), (1, .int v1), (2, .int v2)] → W p l e (bl_rm 2 43) s m as.toArray below meth c H locs 0 0 (bl_Qi below g s as out) (F0 m 11 ls []) := by
  intro σ v0 v1 v2 hv0 hf H locs ls V hl
  unfold b_X10_sortDrawn_11 at hf
  refine lv_iload_n X.1 X.2.1 dX10_sortDrawn_11 rfl (lv_at hl 1 rfl) ?_
  refine lv_aload_n X.1 X.2.1 dX10_sortDrawn_12 rfl (lv_at hl 0 rfl) ?_
  refine lv_iload_n X.1 X.2.1 dX10_sortDrawn_13 rfl (lv_at hl 2 rfl) ?_
  obtain ⟨r1, σ2, h3, hf⟩ := bl_bd_at hf
  refine bl_cVi (As := [.int v2]) X V hl.1 hv0 rfl ml_X10_70 mV_X10_weight (t_X10_weight l g σ v0 v2 _ hv0 h3) rfl rfl ⟨Nat.le_of_ble_eq_true rfl, Nat.le_of_ble_eq_true rfl⟩ rfl rfl (Nat.le_of_ble_eq_true rfl) ⟨Nat.zero_le _, Nat.zero_le _⟩ dX10_sortDrawn_14 (fun H locs V => ?_)
  refine lv_icmp_lt (tgt := 34) X.1 X.2.1 dX10_sortDrawn_17 (by decide) (fun c4 => ?_) (fun c4 => ?_)
  · have hf := bl_ifp c4 hf
    refine lv_iload_n X.1 X.2.1 dX10_sortDrawn_34 rfl (lv_at hl 2 rfl) ?_
    exact bl_reti X V hr hf dX10_sortDrawn_35
  · have hf := bl_ifn c4 hf
    refine lv_iload_n X.1 X.2.1 dX10_sortDrawn_20 rfl (lv_at hl 1 rfl) ?_
    refine lv_aload_n X.1 X.2.1 dX10_sortDrawn_21 rfl (lv_at hl 0 rfl) ?_
    refine lv_iload_n X.1 X.2.1 dX10_sortDrawn_22 rfl (lv_at hl 2 rfl) ?_
    obtain ⟨r5, σ6, h7, hf⟩ := bl_bd_at hf
    refine bl_cVi (As := [.int v2]) X V hl.1 hv0 rfl ml_X10_70 mV_X10_weight (t_X10_weight l g σ2 v0 v2 _ hv0 h7) rfl rfl ⟨Nat.le_of_ble_eq_true rfl, Nat.le_of_ble_eq_true rfl⟩ rfl rfl (Nat.le_of_ble_eq_true rfl) ⟨Nat.zero_le _, Nat.zero_le _⟩ dX10_sortDrawn_23 (fun H locs V => ?_)
    refine lv_isub X.1 X.2.1 dX10_sortDrawn_26 ?_
    refine lv_topi (fun x8 e9 => ?_)
    have hf := bl_let_at e9 hf
    refine lv_istore_n (lv' := [(1, .int x8), (0, .ref (bl_ad g v0)), (2, .int v2)]) X.1 X.2.1 dX10_sortDrawn_27 rfl hl (by decide) rfl (fun ls hl => ?_)
    obtain ⟨x10, e11⟩ : ∃ z : Int32, z = v2 + 1 := ⟨_, rfl⟩
    have hf := bl_let_at e11 hf
    refine lv_iinc (v := x10) (lv' := [(2, .int x10), (1, .int x8), (0, .ref (bl_ad g v0))]) X.1 X.2.1 dX10_sortDrawn_28 hl (k := 2) rfl (by rw [e11]; rfl) (by decide) rfl (fun ls hl => ?_)
    refine lv_goto (tgt := 11) X.1 X.2.1 dX10_sortDrawn_31 (by decide) ?_
    exact hk11 σ6 v0 x8 x10 hv0 hf _ _ _ V (lv_sub hl [2, 1, 0] rfl)
theorem l_X10_sortDrawn_11 {p : Program} {l : Launch} {e : Env} {s : State} {m : MethodId} {below : List Frame} {meth : Method} {c : Code} {g : bl_Gp} {as : List Value} {out : Int32 × bl_St} (X : bl_Cx g p s m as.toArray meth c cX10_sortDrawn 3 RX10) (hr : meth.sig.returnType = (Option.some Jvm.ClassFile.FieldType.int)) (n : Nat) : ∀ (σ : bl_St) (v0 : Nat) (v1 : Int32) (v2 : Int32), bl_sh[v0]? = some (10, 28) → (bl_fx (fun _ _ _ _ => none) (b_X10_sortDrawn_11 ) n) σ v0 v1 v2 = some out → ∀ (H : Heap) (locs : List Loc) (ls : Array Slot), bl_V g s σ H locs → lv_has ls 3 [(0, .ref (bl_ad g v0)), (1, .int v1), (2, .int v2)] → W p l e (bl_rm 2 43) s m as.toArray below meth c H locs 0 0 (bl_Qi below g s as out) (F0 m 11 ls []) := by
  induction n with
  | zero =>
    intro σ v0 v1 v2 hv0 hf H locs ls V hl
    cases hf
  | succ n ih => exact w_X10_sortDrawn_11 X hr  _ ih
set_option maxHeartbeats 4000000 in
set_option maxRecDepth 100000 in
theorem t_X10_sortDrawn (l : Launch) (g : bl_Gp) (σ : bl_St) (a0 : Nat) (o : Int32 × bl_St) (ha0 : bl_sh[a0]? = some (10, 28)) (hf : f_X10_sortDrawn σ a0 = some o) : bl_Ci l g yX10_sortDrawn cX10_sortDrawn 3 (Option.some Jvm.ClassFile.FieldType.int) (bl_rm 2 43) [.ref (bl_ad g a0)] σ o := by
  refine bl_met (by decide) (Nat.le_of_ble_eq_true rfl) (fun p e s m below meth c ls X hr V hl => ?_)
  have hl : lv_has ls 3 [(0, .ref (bl_ad g a0))] := hl
  unfold f_X10_sortDrawn at hf
  refine lv_aload_n X.1 X.2.1 dX10_sortDrawn_0 rfl (lv_at hl 0 rfl) ?_
  refine lv_aload_n X.1 X.2.1 dX10_sortDrawn_1 rfl (lv_at hl 0 rfl) ?_
  obtain ⟨r12, σ13, h14, hf⟩ := bl_bd_at hf
  refine bl_cVi (As := []) X V hl.1 ha0 rfl ml_X10_135 mV_X10_weights (t_X10_weights l g σ a0 _ ha0 h14) rfl rfl ⟨Nat.le_of_ble_eq_true rfl, Nat.le_of_ble_eq_true rfl⟩ rfl rfl (Nat.le_of_ble_eq_true rfl) ⟨Nat.zero_le _, Nat.zero_le _⟩ dX10_sortDrawn_2 (fun H locs V => ?_)
  obtain ⟨r15, σ16, h17, hf⟩ := bl_bd_at hf
  refine bl_cVi (As := [.int r12]) X V hl.1 ha0 rfl ml_X10_139 mV_X10_draws (t_X10_draws l g σ13 a0 r12 _ ha0 h17) rfl rfl ⟨Nat.le_of_ble_eq_true rfl, Nat.le_of_ble_eq_true rfl⟩ rfl rfl (Nat.le_of_ble_eq_true rfl) ⟨Nat.zero_le _, Nat.zero_le _⟩ dX10_sortDrawn_5 (fun H locs V => ?_)
  refine lv_istore_n (lv' := [(1, .int r15), (0, .ref (bl_ad g a0))]) X.1 X.2.1 dX10_sortDrawn_8 rfl hl (by decide) rfl (fun ls hl => ?_)
  refine lv_iconst (v := 0) X.1 X.2.1 dX10_sortDrawn_9 (by decide) ?_
  refine lv_istore_n (lv' := [(2, .int 0), (1, .int r15), (0, .ref (bl_ad g a0))]) X.1 X.2.1 dX10_sortDrawn_10 rfl hl (by decide) rfl (fun ls hl => ?_)
  exact l_X10_sortDrawn_11 X hr  bl_fu σ16 a0 r15 0 ha0 hf _ _ _ V (lv_sub hl [2, 1, 0] rfl)
set_option maxHeartbeats 4000000 in
set_option maxRecDepth 100000 in
theorem t_X10_countedNow (l : Launch) (g : bl_Gp) (σ : bl_St) (a0 : Nat) (o : Int32 × bl_St) (ha0 : bl_sh[a0]? = some (10, 28)) (hf : f_X10_countedNow σ a0 = some o) : bl_Ci l g yX10_countedNow cX10_countedNow 1 (Option.some Jvm.ClassFile.FieldType.int) (bl_rm 0 0) [.ref (bl_ad g a0)] σ o := by
  refine bl_met (by decide) (Nat.le_of_ble_eq_true rfl) (fun p e s m below meth c ls X hr V hl => ?_)
  have hl : lv_has ls 1 [(0, .ref (bl_ad g a0))] := hl
  unfold f_X10_countedNow at hf
  refine lv_aload_n X.1 X.2.1 dX10_countedNow_0 rfl (lv_at hl 0 rfl) ?_
  refine bl_getr X V ha0 fl_X10_13 rfl dX10_countedNow_1 (fun h1 => ?_)
  refine lv_bipush (v := 58) X.1 X.2.1 dX10_countedNow_4 (by decide) ?_
  refine bl_iald (k := 58) X V h1 (by decide) (by decide) dX10_countedNow_6 ?_
  refine lv_iconst (v := 2) X.1 X.2.1 dX10_countedNow_7 (by decide) ?_
  refine lv_icmp_le (tgt := 15) X.1 X.2.1 dX10_countedNow_8 (by decide) (fun c2 => ?_) (fun c2 => ?_)
  · have hf := bl_ifp c2 hf
    refine lv_aload_n X.1 X.2.1 dX10_countedNow_15 rfl (lv_at hl 0 rfl) ?_
    refine bl_getr X V ha0 fl_X10_13 rfl dX10_countedNow_16 (fun h3 => ?_)
    refine lv_bipush (v := 58) X.1 X.2.1 dX10_countedNow_19 (by decide) ?_
    refine bl_iald (k := 58) X V h3 (by decide) (by decide) dX10_countedNow_21 ?_
    exact bl_reti X V hr hf dX10_countedNow_22
  · have hf := bl_ifn c2 hf
    refine lv_iconst (v := 2) X.1 X.2.1 dX10_countedNow_11 (by decide) ?_
    refine lv_goto (tgt := 22) X.1 X.2.1 dX10_countedNow_12 (by decide) ?_
    exact bl_reti X V hr hf dX10_countedNow_22
set_option maxHeartbeats 4000000 in
set_option maxRecDepth 100000 in
theorem t_X10_slot (l : Launch) (g : bl_Gp) (σ : bl_St) (a0 : Int32) (a1 : Int32) (a2 : Int32) (o : Int32 × bl_St) (hf : f_X10_slot σ a0 a1 a2 = some o) : bl_Ci l g yX10_slot cX10_slot 3 (Option.some Jvm.ClassFile.FieldType.int) (bl_rm 0 0) [.int a0, .int a1, .int a2] σ o := by
  refine bl_met (by decide) (Nat.le_of_ble_eq_true rfl) (fun p e s m below meth c ls X hr V hl => ?_)
  have hl : lv_has ls 3 [(0, .int a0), (1, .int a1), (2, .int a2)] := hl
  unfold f_X10_slot at hf
  refine lv_bipush (v := 6) X.1 X.2.1 dX10_slot_0 (by decide) ?_
  refine lv_iload_n X.1 X.2.1 dX10_slot_2 rfl (lv_at hl 0 rfl) ?_
  refine lv_imul X.1 X.2.1 dX10_slot_3 ?_
  refine lv_iconst (v := 2) X.1 X.2.1 dX10_slot_4 (by decide) ?_
  refine lv_iload_n X.1 X.2.1 dX10_slot_5 rfl (lv_at hl 1 rfl) ?_
  refine lv_imul X.1 X.2.1 dX10_slot_6 ?_
  refine lv_iadd X.1 X.2.1 dX10_slot_7 ?_
  refine lv_iload_n X.1 X.2.1 dX10_slot_8 rfl (lv_at hl 2 rfl) ?_
  refine lv_iadd X.1 X.2.1 dX10_slot_9 ?_
  exact bl_reti X V hr hf dX10_slot_10
set_option maxHeartbeats 4000000 in
set_option maxRecDepth 100000 in
theorem t_X10_borneCost (l : Launch) (g : bl_Gp) (σ : bl_St) (a0 : Nat) (a1 : Int32) (a2 : Int32) (a3 : Int32) (a4 : Int32) (o : Int64 × bl_St) (ha0 : bl_sh[a0]? = some (10, 28)) (hf : f_X10_borneCost σ a0 a1 a2 a3 a4 = some o) : bl_Cl l g yX10_borneCost cX10_borneCost 5 (Option.some Jvm.ClassFile.FieldType.long) (bl_rm 1 22) [.ref (bl_ad g a0), .int a1, .int a2, .int a3, .int a4] σ o := by
  refine bl_met (by decide) (Nat.le_of_ble_eq_true rfl) (fun p e s m below meth c ls X hr V hl => ?_)
  have hl : lv_has ls 5 [(0, .ref (bl_ad g a0)), (1, .int a1), (2, .int a2), (3, .int a3), (4, .int a4)] := hl
  unfold f_X10_borneCost at hf
  refine lv_aload_n X.1 X.2.1 dX10_borneCost_0 rfl (lv_at hl 0 rfl) ?_
  refine lv_iload_n X.1 X.2.1 dX10_borneCost_1 rfl (lv_at hl 1 rfl) ?_
  obtain ⟨r1, σ2, h3, hf⟩ := bl_bd_at hf
  refine bl_cVi (As := [.int a1]) X V hl.1 ha0 rfl ml_X10_78 mV_X10_size (t_X10_size l g σ a0 a1 _ ha0 h3) rfl rfl ⟨Nat.le_of_ble_eq_true rfl, Nat.le_of_ble_eq_true rfl⟩ rfl rfl (Nat.le_of_ble_eq_true rfl) ⟨Nat.zero_le _, Nat.zero_le _⟩ dX10_borneCost_2 (fun H locs V => ?_)
  refine lv_i2l X.1 X.2.1 dX10_borneCost_5 rfl ?_
  refine lv_ldc2 (v := 1000) X.1 X.2.1 X.2.2.2.1 (X.2.2.2.2.1 _ kl_X10_179) dX10_borneCost_6 ?_
  refine lv_lmul X.1 X.2.1 dX10_borneCost_9 ?_
  refine lv_aload_n X.1 X.2.1 dX10_borneCost_10 rfl (lv_at hl 0 rfl) ?_
  refine bl_getr X V ha0 fl_X10_34 rfl dX10_borneCost_11 (fun h4 => ?_)
  refine lv_iload_n X.1 X.2.1 dX10_borneCost_14 rfl (lv_at hl 2 rfl) ?_
  refine lv_iconst (v := 1) X.1 X.2.1 dX10_borneCost_15 (by decide) ?_
  refine lv_iadd X.1 X.2.1 dX10_borneCost_16 ?_
  refine lv_iload_n X.1 X.2.1 dX10_borneCost_17 rfl (lv_at hl 3 rfl) ?_
  refine lv_iload X.1 X.2.1 dX10_borneCost_18 (lv_at hl 4 rfl) ?_
  obtain ⟨r5, σ6, h7, hf⟩ := bl_bd_at hf
  refine bl_cSi (As := [.int (a2 + 1), .int a3, .int a4]) X V hl.1 ml_X10_181 mS_X10_slot (t_X10_slot l g σ2 (a2 + 1) a3 a4 _  h7) rfl rfl ⟨Nat.le_of_ble_eq_true rfl, Nat.le_of_ble_eq_true rfl⟩ rfl rfl (Nat.le_of_ble_eq_true rfl) ⟨Nat.zero_le _, Nat.zero_le _⟩ dX10_borneCost_20 (fun H locs V => ?_)
  obtain ⟨h8, hf⟩ := bl_gd_at hf
  refine bl_lald (k := (Int32.toNatClampNeg r5)) X V h4 h8 rfl dX10_borneCost_23 ?_
  refine lv_ladd X.1 X.2.1 dX10_borneCost_24 ?_
  exact bl_retl X V hr hf dX10_borneCost_25
set_option maxHeartbeats 4000000 in
set_option maxRecDepth 100000 in
theorem w_X10_toldCost_22 {p : Program} {l : Launch} {e : Env} {s : State} {m : MethodId} {below : List Frame} {meth : Method} {c : Code} {g : bl_Gp} {as : List Value} {out : Int64 × bl_St} (X : bl_Cx g p s m as.toArray meth c cX10_toldCost 6 RX10) (hr : meth.sig.returnType = (Option.some Jvm.ClassFile.FieldType.long)) : ∀ (σ : bl_St) (v0 : Nat) (v1 : Int32) (v2 : Int32) (s0 : Int32), bl_sh[v0]? = some (10, 28) → (b_X10_toldCost_22 ) σ v0 v1 v2 s0 = some out → ∀ (H : Heap) (locs : List Loc) (ls : Array Slot), bl_V g s σ H locs → lv_has ls 6 [(0, .ref (bl_ad g v0)), (1, .int v1), (2, .int v2)] → W p l e (bl_rm 2 42) s m as.toArray below meth c H locs 0 0 (bl_Ql below g s as out) (F0 m 22 ls [.int s0]) := by
  intro σ v0 v1 v2 s0 hv0 hf H locs ls V hl
  unfold b_X10_toldCost_22 at hf
  refine lv_istore (lv' := [(5, .int s0), (0, .ref (bl_ad g v0)), (1, .int v1), (2, .int v2)]) X.1 X.2.1 dX10_toldCost_22 hl (by decide) rfl (fun ls hl => ?_)
  refine lv_aload_n X.1 X.2.1 dX10_toldCost_24 rfl (lv_at hl 1 rfl) ?_
  refine lv_iload_n X.1 X.2.1 dX10_toldCost_25 rfl (lv_at hl 2 rfl) ?_
  obtain ⟨r1, σ2, h3, hf⟩ := bl_bd_at hf
  refine bl_cVi (As := [.int v1]) X V hl.1 hv0 rfl ml_X10_124 mV_X10_toldPays (t_X10_toldPays l g σ v0 v1 _ hv0 h3) rfl rfl ⟨Nat.le_of_ble_eq_true rfl, Nat.le_of_ble_eq_true rfl⟩ rfl rfl (Nat.le_of_ble_eq_true rfl) ⟨Nat.zero_le _, Nat.zero_le _⟩ dX10_toldCost_26 (fun H locs V => ?_)
  refine lv_i2l X.1 X.2.1 dX10_toldCost_29 rfl ?_
  refine lv_ldc2 (v := 1000) X.1 X.2.1 X.2.2.2.1 (X.2.2.2.2.1 _ kl_X10_179) dX10_toldCost_30 ?_
  refine lv_lmul X.1 X.2.1 dX10_toldCost_33 ?_
  refine lv_aload_n X.1 X.2.1 dX10_toldCost_34 rfl (lv_at hl 1 rfl) ?_
  refine bl_getr X V hv0 fl_X10_34 rfl dX10_toldCost_35 (fun h4 => ?_)
  refine lv_iload_n X.1 X.2.1 dX10_toldCost_38 rfl (lv_at hl 3 rfl) ?_
  refine lv_iconst (v := 1) X.1 X.2.1 dX10_toldCost_39 (by decide) ?_
  refine lv_iadd X.1 X.2.1 dX10_toldCost_40 ?_
  refine lv_iload X.1 X.2.1 dX10_toldCost_41 (lv_at hl 0 rfl) ?_
  refine lv_iconst (v := 0) X.1 X.2.1 dX10_toldCost_43 (by decide) ?_
  obtain ⟨r5, σ6, h7, hf⟩ := bl_bd_at hf
  refine bl_cSi (As := [.int (v2 + 1), .int s0, .int 0]) X V hl.1 ml_X10_181 mS_X10_slot (t_X10_slot l g σ2 (v2 + 1) s0 0 _  h7) rfl rfl ⟨Nat.le_of_ble_eq_true rfl, Nat.le_of_ble_eq_true rfl⟩ rfl rfl (Nat.le_of_ble_eq_true rfl) ⟨Nat.zero_le _, Nat.zero_le _⟩ dX10_toldCost_44 (fun H locs V => ?_)
  obtain ⟨h8, hf⟩ := bl_gd_at hf
  refine bl_lald (k := (Int32.toNatClampNeg r5)) X V h4 h8 rfl dX10_toldCost_47 ?_
  refine lv_ladd X.1 X.2.1 dX10_toldCost_48 ?_
  exact bl_retl X V hr hf dX10_toldCost_49
set_option maxHeartbeats 4000000 in
set_option maxRecDepth 100000 in
theorem t_X10_toldCost (l : Launch) (g : bl_Gp) (σ : bl_St) (a0 : Nat) (a1 : Int32) (a2 : Int32) (a3 : Int32) (a4 : Int32) (o : Int64 × bl_St) (ha0 : bl_sh[a0]? = some (10, 28)) (hf : f_X10_toldCost σ a0 a1 a2 a3 a4 = some o) : bl_Cl l g yX10_toldCost cX10_toldCost 6 (Option.some Jvm.ClassFile.FieldType.long) (bl_rm 2 42) [.ref (bl_ad g a0), .int a1, .int a2, .int a3, .int a4] σ o := by
  refine bl_met (by decide) (Nat.le_of_ble_eq_true rfl) (fun p e s m below meth c ls X hr V hl => ?_)
  have hl : lv_has ls 6 [(0, .ref (bl_ad g a0)), (1, .int a1), (2, .int a2), (3, .int a3), (4, .int a4)] := hl
  unfold f_X10_toldCost at hf
  refine lv_iload X.1 X.2.1 dX10_toldCost_0 (lv_at hl 4 rfl) ?_
  refine lv_iconst (v := 1) X.1 X.2.1 dX10_toldCost_2 (by decide) ?_
  refine lv_icmp_ne (tgt := 10) X.1 X.2.1 dX10_toldCost_3 (by decide) (fun c9 => ?_) (fun c9 => ?_)
  · have hf := bl_ifn c9 hf
    refine lv_iload_n X.1 X.2.1 dX10_toldCost_10 rfl (lv_at hl 3 rfl) ?_
    refine lv_iconst (v := 2) X.1 X.2.1 dX10_toldCost_11 (by decide) ?_
    refine lv_icmp_ge (tgt := 21) X.1 X.2.1 dX10_toldCost_12 (by decide) (fun c10 => ?_) (fun c10 => ?_)
    · have hf := bl_ifp c10 hf
      refine lv_iconst (v := 2) X.1 X.2.1 dX10_toldCost_21 (by decide) ?_
      exact w_X10_toldCost_22 X hr  σ a0 a1 a2 2 ha0 hf _ _ _ V (lv_sub hl [0, 1, 2] rfl)
    · have hf := bl_ifn c10 hf
      refine lv_iload_n X.1 X.2.1 dX10_toldCost_15 rfl (lv_at hl 3 rfl) ?_
      refine lv_iconst (v := 1) X.1 X.2.1 dX10_toldCost_16 (by decide) ?_
      refine lv_iadd X.1 X.2.1 dX10_toldCost_17 ?_
      refine lv_goto (tgt := 22) X.1 X.2.1 dX10_toldCost_18 (by decide) ?_
      exact w_X10_toldCost_22 X hr  σ a0 a1 a2 (a3 + 1) ha0 hf _ _ _ V (lv_sub hl [0, 1, 2] rfl)
  · have hf := bl_ifp c9 hf
    refine lv_iload_n X.1 X.2.1 dX10_toldCost_6 rfl (lv_at hl 3 rfl) ?_
    refine lv_goto (tgt := 22) X.1 X.2.1 dX10_toldCost_7 (by decide) ?_
    exact w_X10_toldCost_22 X hr  σ a0 a1 a2 a3 ha0 hf _ _ _ V (lv_sub hl [0, 1, 2] rfl)
set_option maxHeartbeats 4000000 in
set_option maxRecDepth 100000 in
theorem t_X10_gainOf (l : Launch) (g : bl_Gp) (σ : bl_St) (a0 : Nat) (a1 : Int32) (a2 : Int32) (a3 : Int32) (a4 : Int32) (o : Int64 × bl_St) (ha0 : bl_sh[a0]? = some (10, 28)) (hf : f_X10_gainOf σ a0 a1 a2 a3 a4 = some o) : bl_Cl l g yX10_gainOf cX10_gainOf 5 (Option.some Jvm.ClassFile.FieldType.long) (bl_rm 3 67) [.ref (bl_ad g a0), .int a1, .int a2, .int a3, .int a4] σ o := by
  refine bl_met (by decide) (Nat.le_of_ble_eq_true rfl) (fun p e s m below meth c ls X hr V hl => ?_)
  have hl : lv_has ls 5 [(0, .ref (bl_ad g a0)), (1, .int a1), (2, .int a2), (3, .int a3), (4, .int a4)] := hl
  unfold f_X10_gainOf at hf
  refine lv_aload_n X.1 X.2.1 dX10_gainOf_0 rfl (lv_at hl 0 rfl) ?_
  refine lv_iload_n X.1 X.2.1 dX10_gainOf_1 rfl (lv_at hl 1 rfl) ?_
  refine lv_iload_n X.1 X.2.1 dX10_gainOf_2 rfl (lv_at hl 2 rfl) ?_
  refine lv_iload_n X.1 X.2.1 dX10_gainOf_3 rfl (lv_at hl 3 rfl) ?_
  refine lv_iload X.1 X.2.1 dX10_gainOf_4 (lv_at hl 4 rfl) ?_
  obtain ⟨r1, σ2, h3, hf⟩ := bl_bd_at hf
  refine bl_cVl (As := [.int a1, .int a2, .int a3, .int a4]) X V hl.1 ha0 rfl ml_X10_185 mV_X10_borneCost (t_X10_borneCost l g σ a0 a1 a2 a3 a4 _ ha0 h3) rfl rfl ⟨Nat.le_of_ble_eq_true rfl, Nat.le_of_ble_eq_true rfl⟩ rfl rfl (Nat.le_of_ble_eq_true rfl) ⟨Nat.zero_le _, Nat.zero_le _⟩ dX10_gainOf_6 (fun H locs V => ?_)
  refine lv_aload_n X.1 X.2.1 dX10_gainOf_9 rfl (lv_at hl 0 rfl) ?_
  refine lv_iload_n X.1 X.2.1 dX10_gainOf_10 rfl (lv_at hl 1 rfl) ?_
  refine lv_iload_n X.1 X.2.1 dX10_gainOf_11 rfl (lv_at hl 2 rfl) ?_
  refine lv_iload_n X.1 X.2.1 dX10_gainOf_12 rfl (lv_at hl 3 rfl) ?_
  refine lv_iload X.1 X.2.1 dX10_gainOf_13 (lv_at hl 4 rfl) ?_
  obtain ⟨r4, σ5, h6, hf⟩ := bl_bd_at hf
  refine bl_cVl (As := [.int a1, .int a2, .int a3, .int a4]) X V hl.1 ha0 rfl ml_X10_188 mV_X10_toldCost (t_X10_toldCost l g σ2 a0 a1 a2 a3 a4 _ ha0 h6) rfl rfl ⟨Nat.le_of_ble_eq_true rfl, Nat.le_of_ble_eq_true rfl⟩ rfl rfl (Nat.le_of_ble_eq_true rfl) ⟨Nat.zero_le _, Nat.zero_le _⟩ dX10_gainOf_15 (fun H locs V => ?_)
  refine lv_lsub X.1 X.2.1 dX10_gainOf_18 ?_
  exact bl_retl X V hr hf dX10_gainOf_19
