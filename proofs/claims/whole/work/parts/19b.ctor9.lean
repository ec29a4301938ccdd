/-! Past(): two rows, and twelve times a Terms and a Life -/
def q_X6_it (σ : bl_St) : Nat → bl_St
  | 0 => σ
  | i + 1 => bl_pR (q_X2_init (bl_pR (q_X8_init (q_X6_it σ i) (27 + 7 * i + 1) (27 + 7 * i)) 25 i (27 + 7 * i)) (27 + 7 * i + 1 + 1 + 1 + 1 + 1) (27 + 7 * i + 1 + 1 + 1 + 1)) 26 i (27 + 7 * i + 1 + 1 + 1 + 1)
def q_X6_init (σ : bl_St) : bl_St := q_X6_it (bl_pR (bl_pR σ 24 0 25) 24 1 26) 12
theorem q_R_pR {σ : bl_St} {i k v j : Nat} (h : j ≠ i) : bl_R (bl_pR σ i k v) j = bl_R σ j := bl_u_ne h
theorem q_R_X8 {σ : bl_St} {n t j : Nat} (h : j ≠ t) : bl_R (q_X8_init σ n t) j = bl_R σ j := by
  have e : bl_R (q_X8_init σ n t) = bl_R (bl_pR (bl_pR (bl_pR σ t 2 n) t 3 (n + 1)) t 4 (n + 1 + 1)) := rfl
  rw [e, q_R_pR h, q_R_pR h, q_R_pR h]
theorem q_R_X2 {σ : bl_St} {n t j : Nat} (h : j ≠ t) : bl_R (q_X2_init σ n t) j = bl_R σ j := by
  unfold q_X2_init
  rw [q_R_pR h, q_R_pR h]
theorem q_X6_24 (σ : bl_St) (k : Nat) (i : Nat) : bl_R (q_X6_it σ i) 24 k = bl_R σ 24 k := by
  induction i with
  | zero => rfl
  | succ i ih =>
    rw [← ih]
    have e : q_X6_it σ (i + 1) = bl_pR (q_X2_init (bl_pR (q_X8_init (q_X6_it σ i) (27 + 7 * i + 1) (27 + 7 * i)) 25 i (27 + 7 * i)) (27 + 7 * i + 1 + 1 + 1 + 1 + 1) (27 + 7 * i + 1 + 1 + 1 + 1)) 26 i (27 + 7 * i + 1 + 1 + 1 + 1) := rfl
    rw [e, q_R_pR (by omega), q_R_X2 (by omega), q_R_pR (by omega), q_R_X8 (by omega)]
theorem q_X6_sh : ∀ i, i < 12 → bl_sh[27 + 7 * i]? = some (8, 5) ∧ bl_sh[27 + 7 * i + 1]? = some (20, 40) ∧ bl_sh[27 + 7 * i + 1 + 1]? = some (20, 10) ∧ bl_sh[27 + 7 * i + 1 + 1 + 1]? = some (20, 3) ∧ bl_sh[27 + 7 * i + 1 + 1 + 1 + 1]? = some (2, 15) ∧ bl_sh[27 + 7 * i + 1 + 1 + 1 + 1 + 1]? = some (20, 48) ∧ bl_sh[27 + 7 * i + 1 + 1 + 1 + 1 + 1 + 1]? = some (20, 48) := by decide +kernel
theorem q_X6_lt : ∀ i, i < 12 → ¬ (12 : Int32) ≤ nI i ∧ bl_in (nI i) 12 = true ∧ (nI i).toNatClampNeg = i := by decide +kernel
set_option maxHeartbeats 4000000 in
set_option maxRecDepth 100000 in
theorem l_X6_init {p : Program} {l : Launch} {e : Env} {s : State} {m : MethodId} {below : List Frame} {meth : Method} {c : Code} {g : bl_Gp} {σ : bl_St} (hL : bl_L g) (X : bl_Cx g p s m [Value.ref (bl_ad g 24)].toArray meth c cX6_init 2 RX6) (hr : meth.sig.returnType = none) (h0 : bl_R σ 24 0 = 25) (h1 : bl_R σ 24 1 = 26) : ∀ (r i : Nat), i + r = 12 → ∀ (H : Heap) (locs : List Loc) (ls : Array Slot), bl_N g s (27 + 7 * i) (q_X6_it σ i) H locs → lv_has ls 2 [(0, .ref (bl_ad g 24)), (1, .int (nI i))] →
    W p l e ({ frames := 2, cells := 86, slots := 2052, locals := 38 }) s m [Value.ref (bl_ad g 24)].toArray below meth c H locs (2 + 7 * i) (24 + 169 * i) (MQ below (va_Qv (fun u => u = q_X6_it σ 12) (fun u t => bl_N0 g 111 u t.heap) (bl_A g)) [Value.ref (bl_ad g 24)].toArray s 86 2052 (bl_A g)) (F0 m 24 ls []) := by
  intro r
  induction r with
  | zero =>
    intro i hi H locs ls V hl
    have hi : i = 12 := by omega
    subst hi
    refine lv_iload_n X.1 X.2.1 dX6_init_24 rfl (lv_at hl 1 rfl) ?_
    refine lv_bipush (v := 12) X.1 X.2.1 dX6_init_25 (by decide) ?_
    refine lv_icmp_ge (tgt := 62) X.1 X.2.1 dX6_init_27 (by decide) (fun c1 => ?_) (fun c1 => absurd (by decide +kernel) c1)
    exact bl_nvret X V hr rfl rfl dX6_init_62
  | succ r ih =>
    intro i hi H locs ls V hl
    have hlt : i < 12 := by omega
    obtain ⟨s0, s1, s2, s3, s4, s5, s6⟩ := q_X6_sh i hlt
    obtain ⟨c0, c1, c2⟩ := q_X6_lt i hlt
    refine lv_iload_n X.1 X.2.1 dX6_init_24 rfl (lv_at hl 1 rfl) ?_
    refine lv_bipush (v := 12) X.1 X.2.1 dX6_init_25 (by decide) ?_
    refine lv_icmp_ge (tgt := 62) X.1 X.2.1 dX6_init_27 (by decide) (fun z => absurd z c0) (fun _ => ?_)
    refine lv_aload_n X.1 X.2.1 dX6_init_30 rfl (lv_at hl 0 rfl) ?_
    refine bl_ngetr (r := 25) X V (by omega) (ci := 6) (N := 4) (i := 24) rfl fl_X6_11 (by rw [q_X6_24]; exact h0) (by decide) dX6_init_31 ?_
    refine lv_iload_n X.1 X.2.1 dX6_init_34 rfl (lv_at hl 1 rfl) ?_
    refine bl_nnew hL X V s0 kN_X6_9 (by show 2 + 7 * i + 1 ≤ 86; omega) (by show 24 + 169 * i + 5 ≤ 2052; omega) dX6_init_35 (fun H V => ?_)
    refine lv_dup X.1 X.2.1 dX6_init_38 rfl ?_
    refine bl_ck (As := []) (rest := [.ref (bl_ad g (27 + 7 * i)), .int (nI i), .ref (bl_ad g 25)]) X V hl.1 ml_X6_23 mI_X8_init (t_X8_init l g hL (27 + 7 * i + 1) _ (27 + 7 * i) s0 (by omega) s1 s2 s3) rfl rfl ⟨Nat.le_of_ble_eq_true rfl, Nat.le_of_ble_eq_true rfl⟩ rfl rfl (Nat.le_of_ble_eq_true rfl) ⟨by show 2 + 7 * i + 1 + 3 ≤ 86; omega, by show 24 + 169 * i + 5 + 53 ≤ 2052; omega⟩ dX6_init_39 (fun H locs V => ?_)
    refine bl_nast (t0 := 4) (i := 25) hL X V (by omega) (kd := 24) (len := 12) rfl (by decide) rfl (by omega) s0 (ciV := 8) rfl (by decide) (by omega) c1 c2 dX6_init_42 (fun H locs V => ?_)
    refine lv_aload_n X.1 X.2.1 dX6_init_43 rfl (lv_at hl 0 rfl) ?_
    refine bl_ngetr (r := 26) X V (by omega) (ci := 6) (N := 4) (i := 24) rfl fl_X6_19 (by
      rw [q_R_pR (by omega), q_R_X8 (by omega)]
      exact (q_X6_24 σ 1 i).trans h1) (by decide) dX6_init_44 ?_
    refine lv_iload_n X.1 X.2.1 dX6_init_47 rfl (lv_at hl 1 rfl) ?_
    refine bl_nnew hL X V s4 kN_X6_17 (by show 2 + 7 * i + 1 + 3 + 1 ≤ 86; omega) (by show 24 + 169 * i + 5 + 53 + 15 ≤ 2052; omega) dX6_init_48 (fun H V => ?_)
    refine lv_dup X.1 X.2.1 dX6_init_51 rfl ?_
    refine bl_ckN (As := []) (rest := [.ref (bl_ad g (27 + 7 * i + 1 + 1 + 1 + 1)), .int (nI i), .ref (bl_ad g 26)]) X V hl.1 (by decide +kernel) mI_X2_init (t_X2_init l g hL (27 + 7 * i + 1 + 1 + 1 + 1 + 1) _ (27 + 7 * i + 1 + 1 + 1 + 1) s4 (by omega) s5 s6) rfl rfl ⟨Nat.le_of_ble_eq_true rfl, Nat.le_of_ble_eq_true rfl⟩ rfl rfl (Nat.le_of_ble_eq_true rfl) ⟨by show 2 + 7 * i + 1 + 3 + 1 + 2 ≤ 86; omega, by show 24 + 169 * i + 5 + 53 + 15 + 96 ≤ 2052; omega⟩ dX6_init_52 (fun H locs V => ?_)
    refine bl_nast (t0 := 5) (i := 26) hL X V (by omega) (kd := 25) (len := 12) rfl (by decide) rfl (by omega) s4 (ciV := 2) rfl (by decide) (by omega) c1 c2 dX6_init_55 (fun H locs V => ?_)
    have V : bl_N g s (27 + 7 * (i + 1)) (q_X6_it σ (i + 1)) H locs := by
      rw [show 27 + 7 * (i + 1) = 27 + 7 * i + 1 + 1 + 1 + 1 + 1 + 1 + 1 by omega]
      exact V
    refine lv_iinc (v := nI (i + 1)) (lv' := [(1, .int (nI (i + 1))), (0, .ref (bl_ad g 24))]) X.1 X.2.1 dX6_init_56 hl (k := 1) rfl (nI_1 i) (by decide) rfl (fun ls hl => ?_)
    refine lv_goto (tgt := 24) X.1 X.2.1 dX6_init_59 (by decide) ?_
    have K := ih (i + 1) (by omega) H locs ls V (lv_sub hl [1, 0] rfl)
    rw [show 2 + 7 * (i + 1) = 2 + 7 * i + 1 + 3 + 1 + 2 by omega, show 24 + 169 * (i + 1) = 24 + 169 * i + 5 + 53 + 15 + 96 by omega] at K
    exact K
set_option maxHeartbeats 4000000 in
set_option maxRecDepth 100000 in
theorem t_X6_init (l : Launch) (g : bl_Gp) (hL : bl_L g) (σ : bl_St) : bl_Ck l g yX6_init cX6_init 2 ({ frames := 2, cells := 86, slots := 2052, locals := 38 }) [.ref (bl_ad g 24)] 25 σ 111 (q_X6_init σ) 86 2052 := by
  have hs : bl_sh[24]? = some (6, 4) := rfl
  refine bl_metk (by decide) (Nat.le_of_ble_eq_true rfl) (fun p e s m below meth c ls X hr hin V hl => ?_)
  have hl : lv_has ls 2 [(0, .ref (bl_ad g 24))] := hl
  refine lv_aload_n X.1 X.2.1 dX6_init_0 rfl (lv_at hl 0 rfl) ?_
  refine bl_obj X hl.1 oi_X6_3 ⟨Nat.le_of_ble_eq_true rfl, Nat.le_of_ble_eq_true rfl⟩ dX6_init_1 ?_
  refine lv_aload_n X.1 X.2.1 dX6_init_4 rfl (lv_at hl 0 rfl) ?_
  refine lv_bipush (v := 12) X.1 X.2.1 dX6_init_5 (by decide) ?_
  refine bl_nnewq (t0 := 4) (len := 12) (C := "BonusLadder$Terms") hL X V (kd := 24) rfl (by decide) rfl cl_X6_9 X.2.2.2.2.2.2.1.2.2.2.2.2.2.1 (by decide) (by decide) (by decide) (Nat.le_of_ble_eq_true rfl) (Nat.le_of_ble_eq_true rfl) dX6_init_7 (fun H V => ?_)
  have V : bl_N g s 26 _ _ _ := V
  refine bl_nputF (v := 25) hL X V (by decide) hs fF_X6_11 hin (by decide) (fun _ => rfl) (fun _ => rfl) dX6_init_10 (fun H locs V => ?_)
  refine lv_aload_n X.1 X.2.1 dX6_init_13 rfl (lv_at hl 0 rfl) ?_
  refine lv_bipush (v := 12) X.1 X.2.1 dX6_init_14 (by decide) ?_
  refine bl_nnewq (t0 := 5) (len := 12) (C := "BonusLadder$Life") hL X V (kd := 25) rfl (by decide) rfl cl_X6_17 X.2.2.2.2.2.2.1.2.2.2.2.2.2.2.1 (by decide) (by decide) (by decide) (Nat.le_of_ble_eq_true rfl) (Nat.le_of_ble_eq_true rfl) dX6_init_16 (fun H V => ?_)
  have V : bl_N g s 27 _ _ _ := V
  refine bl_nputF (v := 26) hL X V (by decide) hs fF_X6_19 hin (by decide) (fun _ => rfl) (fun _ => rfl) dX6_init_19 (fun H locs V => ?_)
  refine lv_iconst (v := 0) X.1 X.2.1 dX6_init_22 (by decide) ?_
  refine lv_istore_n (lv' := [(1, .int 0), (0, .ref (bl_ad g 24))]) X.1 X.2.1 dX6_init_23 rfl hl (by decide) rfl (fun ls hl => ?_)
  exact l_X6_init hL X hr (by simp [bl_R, bl_pR, bl_u]) (by simp [bl_R, bl_pR, bl_u]) 12 0 rfl H locs ls V (lv_sub hl [1, 0] rfl)
def q_X9_init (σ : bl_St) : bl_St := (bl_pR (bl_pR (bl_pR (q_X0_init (bl_pR (q_X1_init (bl_pR (q_X4_init (bl_pR (q_X4_init (bl_pR (q_X6_init (bl_pR (q_X2_init (bl_pR (q_X2_init (bl_pR (q_X8_init (bl_pR (q_X8_init (bl_pR (q_X5_init (bl_pR (q_X7_init σ (2) 1) 0 0 1) (9) 8) 0 1 8) (11) 10) 0 2 10) (15) 14) 0 3 14) (19) 18) 0 4 18) (22) 21) 0 5 21)) 0 6 24) (112) 111 10) 0 7 111) (120) 119 10) 0 8 119) (128) 127) 0 9 127) (137) 136) 0 10 136) 0 11 137) 0 12 138)
set_option maxHeartbeats 4000000 in
set_option maxRecDepth 100000 in
theorem t_X9_init (l : Launch) (g : bl_Gp) (hL : bl_L g) (σ : bl_St) : bl_Ck l g yX9_init cX9_init 1 ({ frames := 3, cells := 138, slots := 3861, locals := 59 }) [.ref (bl_ad g 0)] 1 σ 139 (q_X9_init σ) 138 3861 := by
  have hs : bl_sh[0]? = some (9, 13) := rfl
  refine bl_metk (by decide) (Nat.le_of_ble_eq_true rfl) (fun p e s m below meth c ls X hr hin V hl => ?_)
  have hl : lv_has ls 1 [(0, .ref (bl_ad g 0))] := hl
  refine lv_aload_n X.1 X.2.1 dX9_init_0 rfl (lv_at hl 0 rfl) ?_
  refine bl_obj X hl.1 oi_X9_1 ⟨Nat.le_of_ble_eq_true rfl, Nat.le_of_ble_eq_true rfl⟩ dX9_init_1 ?_
  refine lv_aload_n X.1 X.2.1 dX9_init_4 rfl (lv_at hl 0 rfl) ?_
  refine bl_nnew hL X V rfl kN_X9_7 (Nat.le_of_ble_eq_true rfl) (Nat.le_of_ble_eq_true rfl) dX9_init_5 (fun H V => ?_)
  have V : bl_N g s 2 _ _ _ := V
  refine lv_dup X.1 X.2.1 dX9_init_8 rfl ?_
  refine bl_ckN (As := []) X V hl.1 (by decide +kernel) mI_X7_init (t_X7_init l g hL (2) _ 1 rfl (by decide) rfl rfl rfl rfl rfl rfl) rfl rfl ⟨Nat.le_of_ble_eq_true rfl, Nat.le_of_ble_eq_true rfl⟩ rfl rfl (Nat.le_of_ble_eq_true rfl) ⟨Nat.le_of_ble_eq_true rfl, Nat.le_of_ble_eq_true rfl⟩ dX9_init_9 (fun H locs V => ?_)
  have V : bl_N g s 8 _ _ _ := V
  refine bl_nputF (v := 1) hL X V (by decide) hs fF_X9_10 hin (by decide) (fun _ => rfl) (fun _ => rfl) dX9_init_12 (fun H locs V => ?_)
  refine lv_aload_n X.1 X.2.1 dX9_init_15 rfl (lv_at hl 0 rfl) ?_
  refine bl_nnew hL X V rfl kN_X9_16 (Nat.le_of_ble_eq_true rfl) (Nat.le_of_ble_eq_true rfl) dX9_init_16 (fun H V => ?_)
  have V : bl_N g s 9 _ _ _ := V
  refine lv_dup X.1 X.2.1 dX9_init_19 rfl ?_
  refine bl_ckN (As := []) X V hl.1 (by decide +kernel) mI_X5_init (t_X5_init l g hL (9) _ 8 rfl (by decide) rfl) rfl rfl ⟨Nat.le_of_ble_eq_true rfl, Nat.le_of_ble_eq_true rfl⟩ rfl rfl (Nat.le_of_ble_eq_true rfl) ⟨Nat.le_of_ble_eq_true rfl, Nat.le_of_ble_eq_true rfl⟩ dX9_init_20 (fun H locs V => ?_)
  have V : bl_N g s 10 _ _ _ := V
  refine bl_nputF (v := 8) hL X V (by decide) hs fF_X9_19 hin (by decide) (fun _ => rfl) (fun _ => rfl) dX9_init_23 (fun H locs V => ?_)
  refine lv_aload_n X.1 X.2.1 dX9_init_26 rfl (lv_at hl 0 rfl) ?_
  refine bl_nnew hL X V rfl kN_X9_23 (Nat.le_of_ble_eq_true rfl) (Nat.le_of_ble_eq_true rfl) dX9_init_27 (fun H V => ?_)
  have V : bl_N g s 11 _ _ _ := V
  refine lv_dup X.1 X.2.1 dX9_init_30 rfl ?_
  refine bl_ck (As := []) X V hl.1 ml_X9_25 mI_X8_init (t_X8_init l g hL (11) _ 10 rfl (by decide) rfl rfl rfl) rfl rfl ⟨Nat.le_of_ble_eq_true rfl, Nat.le_of_ble_eq_true rfl⟩ rfl rfl (Nat.le_of_ble_eq_true rfl) ⟨Nat.le_of_ble_eq_true rfl, Nat.le_of_ble_eq_true rfl⟩ dX9_init_31 (fun H locs V => ?_)
  have V : bl_N g s 14 _ _ _ := V
  refine bl_nputF (v := 10) hL X V (by decide) hs fF_X9_26 hin (by decide) (fun _ => rfl) (fun _ => rfl) dX9_init_34 (fun H locs V => ?_)
  refine lv_aload_n X.1 X.2.1 dX9_init_37 rfl (lv_at hl 0 rfl) ?_
  refine bl_nnew hL X V rfl kN_X9_23 (Nat.le_of_ble_eq_true rfl) (Nat.le_of_ble_eq_true rfl) dX9_init_38 (fun H V => ?_)
  have V : bl_N g s 15 _ _ _ := V
  refine lv_dup X.1 X.2.1 dX9_init_41 rfl ?_
  refine bl_ck (As := []) X V hl.1 ml_X9_25 mI_X8_init (t_X8_init l g hL (15) _ 14 rfl (by decide) rfl rfl rfl) rfl rfl ⟨Nat.le_of_ble_eq_true rfl, Nat.le_of_ble_eq_true rfl⟩ rfl rfl (Nat.le_of_ble_eq_true rfl) ⟨Nat.le_of_ble_eq_true rfl, Nat.le_of_ble_eq_true rfl⟩ dX9_init_42 (fun H locs V => ?_)
  have V : bl_N g s 18 _ _ _ := V
  refine bl_nputF (v := 14) hL X V (by decide) hs fF_X9_30 hin (by decide) (fun _ => rfl) (fun _ => rfl) dX9_init_45 (fun H locs V => ?_)
  refine lv_aload_n X.1 X.2.1 dX9_init_48 rfl (lv_at hl 0 rfl) ?_
  refine bl_nnew hL X V rfl kN_X9_33 (Nat.le_of_ble_eq_true rfl) (Nat.le_of_ble_eq_true rfl) dX9_init_49 (fun H V => ?_)
  have V : bl_N g s 19 _ _ _ := V
  refine lv_dup X.1 X.2.1 dX9_init_52 rfl ?_
  refine bl_ckN (As := []) X V hl.1 (by decide +kernel) mI_X2_init (t_X2_init l g hL (19) _ 18 rfl (by decide) rfl rfl) rfl rfl ⟨Nat.le_of_ble_eq_true rfl, Nat.le_of_ble_eq_true rfl⟩ rfl rfl (Nat.le_of_ble_eq_true rfl) ⟨Nat.le_of_ble_eq_true rfl, Nat.le_of_ble_eq_true rfl⟩ dX9_init_53 (fun H locs V => ?_)
  have V : bl_N g s 21 _ _ _ := V
  refine bl_nputF (v := 18) hL X V (by decide) hs fF_X9_36 hin (by decide) (fun _ => rfl) (fun _ => rfl) dX9_init_56 (fun H locs V => ?_)
  refine lv_aload_n X.1 X.2.1 dX9_init_59 rfl (lv_at hl 0 rfl) ?_
  refine bl_nnew hL X V rfl kN_X9_33 (Nat.le_of_ble_eq_true rfl) (Nat.le_of_ble_eq_true rfl) dX9_init_60 (fun H V => ?_)
  have V : bl_N g s 22 _ _ _ := V
  refine lv_dup X.1 X.2.1 dX9_init_63 rfl ?_
  refine bl_ckN (As := []) X V hl.1 (by decide +kernel) mI_X2_init (t_X2_init l g hL (22) _ 21 rfl (by decide) rfl rfl) rfl rfl ⟨Nat.le_of_ble_eq_true rfl, Nat.le_of_ble_eq_true rfl⟩ rfl rfl (Nat.le_of_ble_eq_true rfl) ⟨Nat.le_of_ble_eq_true rfl, Nat.le_of_ble_eq_true rfl⟩ dX9_init_64 (fun H locs V => ?_)
  have V : bl_N g s 24 _ _ _ := V
  refine bl_nputF (v := 21) hL X V (by decide) hs fF_X9_40 hin (by decide) (fun _ => rfl) (fun _ => rfl) dX9_init_67 (fun H locs V => ?_)
  refine lv_aload_n X.1 X.2.1 dX9_init_70 rfl (lv_at hl 0 rfl) ?_
  refine bl_nnew hL X V rfl kN_X9_43 (Nat.le_of_ble_eq_true rfl) (Nat.le_of_ble_eq_true rfl) dX9_init_71 (fun H V => ?_)
  have V : bl_N g s 25 _ _ _ := V
  refine lv_dup X.1 X.2.1 dX9_init_74 rfl ?_
  refine bl_ck (As := []) X V hl.1 ml_X9_45 mI_X6_init (t_X6_init l g hL _) rfl rfl ⟨Nat.le_of_ble_eq_true rfl, Nat.le_of_ble_eq_true rfl⟩ rfl rfl (Nat.le_of_ble_eq_true rfl) ⟨Nat.le_of_ble_eq_true rfl, Nat.le_of_ble_eq_true rfl⟩ dX9_init_75 (fun H locs V => ?_)
  have V : bl_N g s 111 _ _ _ := V
  refine bl_nputF (v := 24) hL X V (by decide) hs fF_X9_46 hin (by decide) (fun _ => rfl) (fun _ => rfl) dX9_init_78 (fun H locs V => ?_)
  refine lv_aload_n X.1 X.2.1 dX9_init_81 rfl (lv_at hl 0 rfl) ?_
  refine bl_nnew hL X V rfl kN_X9_50 (Nat.le_of_ble_eq_true rfl) (Nat.le_of_ble_eq_true rfl) dX9_init_82 (fun H V => ?_)
  have V : bl_N g s 112 _ _ _ := V
  refine lv_dup X.1 X.2.1 dX9_init_85 rfl ?_
  refine lv_aload_n X.1 X.2.1 dX9_init_86 rfl (lv_at hl 0 rfl) ?_
  refine bl_ngetr (r := 10) X V (by decide) hs fl_X9_26 (by first | rfl | simp [bl_R, bl_pR, bl_u]) (by decide) dX9_init_87 ?_
  refine bl_ck (As := [.ref (bl_ad g 10)]) X V hl.1 ml_X9_52 mI_X4_init (t_X4_init l g hL (112) _ 111 10 (by decide) rfl (by decide) rfl rfl rfl rfl rfl rfl rfl) rfl rfl ⟨Nat.le_of_ble_eq_true rfl, Nat.le_of_ble_eq_true rfl⟩ rfl rfl (Nat.le_of_ble_eq_true rfl) ⟨Nat.le_of_ble_eq_true rfl, Nat.le_of_ble_eq_true rfl⟩ dX9_init_90 (fun H locs V => ?_)
  have V : bl_N g s 119 _ _ _ := V
  refine bl_nputF (v := 111) hL X V (by decide) hs fF_X9_55 hin (by decide) (fun _ => rfl) (fun _ => rfl) dX9_init_93 (fun H locs V => ?_)
  refine lv_aload_n X.1 X.2.1 dX9_init_96 rfl (lv_at hl 0 rfl) ?_
  refine bl_nnew hL X V rfl kN_X9_50 (Nat.le_of_ble_eq_true rfl) (Nat.le_of_ble_eq_true rfl) dX9_init_97 (fun H V => ?_)
  have V : bl_N g s 120 _ _ _ := V
  refine lv_dup X.1 X.2.1 dX9_init_100 rfl ?_
  refine lv_aload_n X.1 X.2.1 dX9_init_101 rfl (lv_at hl 0 rfl) ?_
  refine bl_ngetr (r := 10) X V (by decide) hs fl_X9_26 (by first | rfl | simp [bl_R, bl_pR, bl_u]) (by decide) dX9_init_102 ?_
  refine bl_ck (As := [.ref (bl_ad g 10)]) X V hl.1 ml_X9_52 mI_X4_init (t_X4_init l g hL (120) _ 119 10 (by decide) rfl (by decide) rfl rfl rfl rfl rfl rfl rfl) rfl rfl ⟨Nat.le_of_ble_eq_true rfl, Nat.le_of_ble_eq_true rfl⟩ rfl rfl (Nat.le_of_ble_eq_true rfl) ⟨Nat.le_of_ble_eq_true rfl, Nat.le_of_ble_eq_true rfl⟩ dX9_init_105 (fun H locs V => ?_)
  have V : bl_N g s 127 _ _ _ := V
  refine bl_nputF (v := 119) hL X V (by decide) hs fF_X9_59 hin (by decide) (fun _ => rfl) (fun _ => rfl) dX9_init_108 (fun H locs V => ?_)
  refine lv_aload_n X.1 X.2.1 dX9_init_111 rfl (lv_at hl 0 rfl) ?_
  refine bl_nnew hL X V rfl kN_X9_62 (Nat.le_of_ble_eq_true rfl) (Nat.le_of_ble_eq_true rfl) dX9_init_112 (fun H V => ?_)
  have V : bl_N g s 128 _ _ _ := V
  refine lv_dup X.1 X.2.1 dX9_init_115 rfl ?_
  refine bl_ckN (As := []) X V hl.1 (by decide +kernel) mI_X1_init (t_X1_init l g hL (128) _ 127 rfl (by decide) rfl rfl rfl rfl rfl rfl rfl rfl) rfl rfl ⟨Nat.le_of_ble_eq_true rfl, Nat.le_of_ble_eq_true rfl⟩ rfl rfl (Nat.le_of_ble_eq_true rfl) ⟨Nat.le_of_ble_eq_true rfl, Nat.le_of_ble_eq_true rfl⟩ dX9_init_116 (fun H locs V => ?_)
  have V : bl_N g s 136 _ _ _ := V
  refine bl_nputF (v := 127) hL X V (by decide) hs fF_X9_65 hin (by decide) (fun _ => rfl) (fun _ => rfl) dX9_init_119 (fun H locs V => ?_)
  refine lv_aload_n X.1 X.2.1 dX9_init_122 rfl (lv_at hl 0 rfl) ?_
  refine bl_nnew hL X V rfl kN_X9_69 (Nat.le_of_ble_eq_true rfl) (Nat.le_of_ble_eq_true rfl) dX9_init_123 (fun H V => ?_)
  have V : bl_N g s 137 _ _ _ := V
  refine lv_dup X.1 X.2.1 dX9_init_126 rfl ?_
  refine bl_ckN (As := []) X V hl.1 (by decide +kernel) mI_X0_init (t_X0_init l g hL (137) _ 136 rfl (by decide) ) rfl rfl ⟨Nat.le_of_ble_eq_true rfl, Nat.le_of_ble_eq_true rfl⟩ rfl rfl (Nat.le_of_ble_eq_true rfl) ⟨Nat.le_of_ble_eq_true rfl, Nat.le_of_ble_eq_true rfl⟩ dX9_init_127 (fun H locs V => ?_)
  have V : bl_N g s 137 _ _ _ := V
  refine bl_nputF (v := 136) hL X V (by decide) hs fF_X9_72 hin (by decide) (fun _ => rfl) (fun _ => rfl) dX9_init_130 (fun H locs V => ?_)
  refine lv_aload_n X.1 X.2.1 dX9_init_133 rfl (lv_at hl 0 rfl) ?_
  refine lv_bipush (v := 8) X.1 X.2.1 dX9_init_134 (by decide) ?_
  refine bl_nnewl (len := 8) hL X V rfl aw_long (by decide) (by decide) (Nat.le_of_ble_eq_true rfl) (Nat.le_of_ble_eq_true rfl) (Nat.le_of_ble_eq_true rfl) dX9_init_136 (fun H V => ?_)
  have V : bl_N g s 138 _ _ _ := V
  refine bl_nputF (v := 137) hL X V (by decide) hs fF_X9_76 hin (by decide) (fun _ => rfl) (fun _ => rfl) dX9_init_138 (fun H locs V => ?_)
  refine lv_aload_n X.1 X.2.1 dX9_init_141 rfl (lv_at hl 0 rfl) ?_
  refine lv_bipush (v := 8) X.1 X.2.1 dX9_init_142 (by decide) ?_
  refine bl_nnewl (len := 8) hL X V rfl aw_long (by decide) (by decide) (Nat.le_of_ble_eq_true rfl) (Nat.le_of_ble_eq_true rfl) (Nat.le_of_ble_eq_true rfl) dX9_init_144 (fun H V => ?_)
  have V : bl_N g s 139 _ _ _ := V
  refine bl_nputF (v := 138) hL X V (by decide) hs fF_X9_80 hin (by decide) (fun _ => rfl) (fun _ => rfl) dX9_init_146 (fun H locs V => ?_)
  exact bl_nvret X V hr rfl rfl dX9_init_149
