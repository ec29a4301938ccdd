theorem bl_sgetNn {p : Program} {l : Launch} {e : Env} {R : Room} {s : State} {m : MethodId} {args : Array Value} {below : List Frame} {meth : Method} {c : Code} {H : Heap} {locs : List Loc} {cells slots : Nat} {Q : State → Prop} {cc : ByteArray} {nL pc n index : Nat} {own : String} {ls : Array Slot} {rest : List Value} {g : bl_Gp} {σ : bl_St} (X : bl_Cx g p s m args meth c cc nL own) (V : bl_N g s n σ H locs) {nm : String} {xs : List Int32} (hx : bl_sa g s nm xs) (K : (own, index, nm) ∈ bl_nF) (hdg : decode cc pc = .ok (.getstatic index, 3))
    (kk : ∀ t : Nat, va_T .int t xs.length (fun j => .int (xs.getD j 0)) (bl_A g) s s.heap → W p l e R s m args below meth c H locs cells slots Q (F0 m (pc + 3) ls (.ref t :: rest))) : W p l e R s m args below meth c H locs cells slots Q (F0 m pc ls rest) := by
  obtain ⟨t, hZ, hT⟩ := hx
  exact va_getsN X.1 X.2.1 hZ V.2 X.2.2.2.1 (va_Nw.use rfl (X.2.2.2.2.2.2.1.2.1 _ K)) (fun _ h => h) hdg (kk t hT)
def q_X0_init (σ : bl_St) (n t : Nat) : bl_St := σ
set_option maxHeartbeats 4000000 in
set_option maxRecDepth 100000 in
theorem t_X0_init (l : Launch) (g : bl_Gp) (hL : bl_L g) (n : Nat) (σ : bl_St) (t : Nat) (hs : bl_sh[t]? = some (0, 1)) (ht : t < n) : bl_Ck l g yX0_init cX0_init 1 ({ frames := 1, cells := 0, slots := 0, locals := 12 }) [.ref (bl_ad g t)] n σ (n) (q_X0_init σ n t) 0 0 := by
  refine bl_metk (by decide) (Nat.le_of_ble_eq_true rfl) (fun p e s m below meth c ls X hr hin V hl => ?_)
  have hl : lv_has ls 1 [(0, .ref (bl_ad g t))] := hl
  refine lv_aload_n X.1 X.2.1 dX0_init_0 rfl (lv_at hl 0 rfl) ?_
  refine bl_obj X hl.1 oi_X0_3 ⟨Nat.le_of_ble_eq_true rfl, Nat.le_of_ble_eq_true rfl⟩ dX0_init_1 ?_
  exact bl_nvret X V hr rfl rfl dX0_init_4
def q_X5_init (σ : bl_St) (n t : Nat) : bl_St := (bl_pR σ t 0 n)
set_option maxHeartbeats 4000000 in
set_option maxRecDepth 100000 in
theorem t_X5_init (l : Launch) (g : bl_Gp) (hL : bl_L g) (n : Nat) (σ : bl_St) (t : Nat) (hs : bl_sh[t]? = some (5, 2)) (ht : t < n) (hn0 : bl_sh[n]? = some (20, 256)) : bl_Ck l g yX5_init cX5_init 1 ({ frames := 1, cells := 1, slots := 256, locals := 12 }) [.ref (bl_ad g t)] n σ (n + 1) (q_X5_init σ n t) 1 256 := by
  refine bl_metk (by decide) (Nat.le_of_ble_eq_true rfl) (fun p e s m below meth c ls X hr hin V hl => ?_)
  have hl : lv_has ls 1 [(0, .ref (bl_ad g t))] := hl
  refine lv_aload_n X.1 X.2.1 dX5_init_0 rfl (lv_at hl 0 rfl) ?_
  refine bl_obj X hl.1 oi_X5_3 ⟨Nat.le_of_ble_eq_true rfl, Nat.le_of_ble_eq_true rfl⟩ dX5_init_1 ?_
  refine lv_aload_n X.1 X.2.1 dX5_init_4 rfl (lv_at hl 0 rfl) ?_
  refine lv_sipush (v := 256) X.1 X.2.1 dX5_init_5 (by decide) ?_
  refine bl_nnewi (len := 256) hL X V hn0 aw_int (by decide) (by decide) (Nat.le_of_ble_eq_true rfl) (Nat.le_of_ble_eq_true rfl) (Nat.le_of_ble_eq_true rfl) dX5_init_8 (fun H V => ?_)
  refine bl_nputF (v := n) hL X V (by omega) hs fF_X5_9 hin (by omega) (fun _ => rfl) (fun _ => rfl) dX5_init_10 (fun H locs V => ?_)
  exact bl_nvret X V hr rfl rfl dX5_init_13
def q_X2_init (σ : bl_St) (n t : Nat) : bl_St := (bl_pR (bl_pR σ t 13 n) t 14 (n + 1))
set_option maxHeartbeats 4000000 in
set_option maxRecDepth 100000 in
theorem t_X2_init (l : Launch) (g : bl_Gp) (hL : bl_L g) (n : Nat) (σ : bl_St) (t : Nat) (hs : bl_sh[t]? = some (2, 15)) (ht : t < n) (hn0 : bl_sh[n]? = some (20, 48)) (hn1 : bl_sh[n + 1]? = some (20, 48)) : bl_Ck l g yX2_init cX2_init 1 ({ frames := 1, cells := 2, slots := 96, locals := 12 }) [.ref (bl_ad g t)] n σ (n + 1 + 1) (q_X2_init σ n t) 2 96 := by
  refine bl_metk (by decide) (Nat.le_of_ble_eq_true rfl) (fun p e s m below meth c ls X hr hin V hl => ?_)
  have hl : lv_has ls 1 [(0, .ref (bl_ad g t))] := hl
  refine lv_aload_n X.1 X.2.1 dX2_init_0 rfl (lv_at hl 0 rfl) ?_
  refine bl_obj X hl.1 oi_X2_3 ⟨Nat.le_of_ble_eq_true rfl, Nat.le_of_ble_eq_true rfl⟩ dX2_init_1 ?_
  refine lv_aload_n X.1 X.2.1 dX2_init_4 rfl (lv_at hl 0 rfl) ?_
  refine lv_bipush (v := 48) X.1 X.2.1 dX2_init_5 (by decide) ?_
  refine bl_nnewi (len := 48) hL X V hn0 aw_int (by decide) (by decide) (Nat.le_of_ble_eq_true rfl) (Nat.le_of_ble_eq_true rfl) (Nat.le_of_ble_eq_true rfl) dX2_init_7 (fun H V => ?_)
  refine bl_nputF (v := n) hL X V (by omega) hs fF_X2_9 hin (by omega) (fun _ => rfl) (fun _ => rfl) dX2_init_9 (fun H locs V => ?_)
  refine lv_aload_n X.1 X.2.1 dX2_init_12 rfl (lv_at hl 0 rfl) ?_
  refine lv_bipush (v := 48) X.1 X.2.1 dX2_init_13 (by decide) ?_
  refine bl_nnewi (len := 48) hL X V hn1 aw_int (by decide) (by decide) (Nat.le_of_ble_eq_true rfl) (Nat.le_of_ble_eq_true rfl) (Nat.le_of_ble_eq_true rfl) dX2_init_15 (fun H V => ?_)
  refine bl_nputF (v := n + 1) hL X V (by omega) hs fF_X2_15 hin (by omega) (fun _ => rfl) (fun _ => rfl) dX2_init_17 (fun H locs V => ?_)
  exact bl_nvret X V hr rfl rfl dX2_init_20
def q_X3_init (σ : bl_St) (n t : Nat) : bl_St := (bl_pR (bl_pR (bl_pR (bl_pR σ t 4 n) t 5 (n + 1)) t 6 (n + 1 + 1)) t 7 (n + 1 + 1 + 1))
set_option maxHeartbeats 4000000 in
set_option maxRecDepth 100000 in
theorem t_X3_init (l : Launch) (g : bl_Gp) (hL : bl_L g) (n : Nat) (σ : bl_St) (t : Nat) (hs : bl_sh[t]? = some (3, 8)) (ht : t < n) (hn0 : bl_sh[n]? = some (21, 5)) (hn1 : bl_sh[n + 1]? = some (21, 5)) (hn2 : bl_sh[n + 1 + 1]? = some (21, 5)) (hn3 : bl_sh[n + 1 + 1 + 1]? = some (20, 5)) : bl_Ck l g yX3_init cX3_init 1 ({ frames := 1, cells := 4, slots := 20, locals := 12 }) [.ref (bl_ad g t)] n σ (n + 1 + 1 + 1 + 1) (q_X3_init σ n t) 4 20 := by
  refine bl_metk (by decide) (Nat.le_of_ble_eq_true rfl) (fun p e s m below meth c ls X hr hin V hl => ?_)
  have hl : lv_has ls 1 [(0, .ref (bl_ad g t))] := hl
  refine lv_aload_n X.1 X.2.1 dX3_init_0 rfl (lv_at hl 0 rfl) ?_
  refine bl_obj X hl.1 oi_X3_3 ⟨Nat.le_of_ble_eq_true rfl, Nat.le_of_ble_eq_true rfl⟩ dX3_init_1 ?_
  refine lv_aload_n X.1 X.2.1 dX3_init_4 rfl (lv_at hl 0 rfl) ?_
  refine lv_iconst (v := 5) X.1 X.2.1 dX3_init_5 (by decide) ?_
  refine bl_nnewl (len := 5) hL X V hn0 aw_long (by decide) (by decide) (Nat.le_of_ble_eq_true rfl) (Nat.le_of_ble_eq_true rfl) (Nat.le_of_ble_eq_true rfl) dX3_init_6 (fun H V => ?_)
  refine bl_nputF (v := n) hL X V (by omega) hs fF_X3_9 hin (by omega) (fun _ => rfl) (fun _ => rfl) dX3_init_8 (fun H locs V => ?_)
  refine lv_aload_n X.1 X.2.1 dX3_init_11 rfl (lv_at hl 0 rfl) ?_
  refine lv_iconst (v := 5) X.1 X.2.1 dX3_init_12 (by decide) ?_
  refine bl_nnewl (len := 5) hL X V hn1 aw_long (by decide) (by decide) (Nat.le_of_ble_eq_true rfl) (Nat.le_of_ble_eq_true rfl) (Nat.le_of_ble_eq_true rfl) dX3_init_13 (fun H V => ?_)
  refine bl_nputF (v := n + 1) hL X V (by omega) hs fF_X3_15 hin (by omega) (fun _ => rfl) (fun _ => rfl) dX3_init_15 (fun H locs V => ?_)
  refine lv_aload_n X.1 X.2.1 dX3_init_18 rfl (lv_at hl 0 rfl) ?_
  refine lv_iconst (v := 5) X.1 X.2.1 dX3_init_19 (by decide) ?_
  refine bl_nnewl (len := 5) hL X V hn2 aw_long (by decide) (by decide) (Nat.le_of_ble_eq_true rfl) (Nat.le_of_ble_eq_true rfl) (Nat.le_of_ble_eq_true rfl) dX3_init_20 (fun H V => ?_)
  refine bl_nputF (v := n + 1 + 1) hL X V (by omega) hs fF_X3_18 hin (by omega) (fun _ => rfl) (fun _ => rfl) dX3_init_22 (fun H locs V => ?_)
  refine lv_aload_n X.1 X.2.1 dX3_init_25 rfl (lv_at hl 0 rfl) ?_
  refine lv_iconst (v := 5) X.1 X.2.1 dX3_init_26 (by decide) ?_
  refine bl_nnewi (len := 5) hL X V hn3 aw_int (by decide) (by decide) (Nat.le_of_ble_eq_true rfl) (Nat.le_of_ble_eq_true rfl) (Nat.le_of_ble_eq_true rfl) dX3_init_27 (fun H V => ?_)
  refine bl_nputF (v := n + 1 + 1 + 1) hL X V (by omega) hs fF_X3_21 hin (by omega) (fun _ => rfl) (fun _ => rfl) dX3_init_29 (fun H locs V => ?_)
  exact bl_nvret X V hr rfl rfl dX3_init_32
def q_X8_init (σ : bl_St) (n t : Nat) : bl_St := (bl_cS (bl_pR (bl_pR (bl_pR σ t 2 n) t 3 (n + 1)) t 4 (n + 1 + 1)) (fun j => bl_RF.getD j 0) (Int32.toNatClampNeg 0) (n + 1 + 1) (Int32.toNatClampNeg 0) (Int32.toNatClampNeg 3))
set_option maxHeartbeats 4000000 in
set_option maxRecDepth 100000 in
theorem t_X8_init (l : Launch) (g : bl_Gp) (hL : bl_L g) (n : Nat) (σ : bl_St) (t : Nat) (hs : bl_sh[t]? = some (8, 5)) (ht : t < n) (hn0 : bl_sh[n]? = some (20, 40)) (hn1 : bl_sh[n + 1]? = some (20, 10)) (hn2 : bl_sh[n + 1 + 1]? = some (20, 3)) : bl_Ck l g yX8_init cX8_init 1 ({ frames := 1, cells := 3, slots := 53, locals := 18 }) [.ref (bl_ad g t)] n σ (n + 1 + 1 + 1) (q_X8_init σ n t) 3 53 := by
  refine bl_metk (by decide) (Nat.le_of_ble_eq_true rfl) (fun p e s m below meth c ls X hr hin V hl => ?_)
  have hl : lv_has ls 1 [(0, .ref (bl_ad g t))] := hl
  refine lv_aload_n X.1 X.2.1 dX8_init_0 rfl (lv_at hl 0 rfl) ?_
  refine bl_obj X hl.1 oi_X8_3 ⟨Nat.le_of_ble_eq_true rfl, Nat.le_of_ble_eq_true rfl⟩ dX8_init_1 ?_
  refine lv_aload_n X.1 X.2.1 dX8_init_4 rfl (lv_at hl 0 rfl) ?_
  refine lv_bipush (v := 40) X.1 X.2.1 dX8_init_5 (by decide) ?_
  refine bl_nnewi (len := 40) hL X V hn0 aw_int (by decide) (by decide) (Nat.le_of_ble_eq_true rfl) (Nat.le_of_ble_eq_true rfl) (Nat.le_of_ble_eq_true rfl) dX8_init_7 (fun H V => ?_)
  refine bl_nputF (v := n) hL X V (by omega) hs fF_X8_9 hin (by omega) (fun _ => rfl) (fun _ => rfl) dX8_init_9 (fun H locs V => ?_)
  refine lv_aload_n X.1 X.2.1 dX8_init_12 rfl (lv_at hl 0 rfl) ?_
  refine lv_bipush (v := 10) X.1 X.2.1 dX8_init_13 (by decide) ?_
  refine bl_nnewi (len := 10) hL X V hn1 aw_int (by decide) (by decide) (Nat.le_of_ble_eq_true rfl) (Nat.le_of_ble_eq_true rfl) (Nat.le_of_ble_eq_true rfl) dX8_init_15 (fun H V => ?_)
  refine bl_nputF (v := n + 1) hL X V (by omega) hs fF_X8_15 hin (by omega) (fun _ => rfl) (fun _ => rfl) dX8_init_17 (fun H locs V => ?_)
  refine lv_aload_n X.1 X.2.1 dX8_init_20 rfl (lv_at hl 0 rfl) ?_
  refine lv_iconst (v := 3) X.1 X.2.1 dX8_init_21 (by decide) ?_
  refine bl_nnewi (len := 3) hL X V hn2 aw_int (by decide) (by decide) (Nat.le_of_ble_eq_true rfl) (Nat.le_of_ble_eq_true rfl) (Nat.le_of_ble_eq_true rfl) dX8_init_22 (fun H V => ?_)
  refine bl_nputF (v := n + 1 + 1) hL X V (by omega) hs fF_X8_18 hin (by omega) (fun _ => rfl) (fun _ => rfl) dX8_init_24 (fun H locs V => ?_)
  refine bl_sgetNn X V X.2.2.2.2.2.2.1.1.2.2.2.2 (by decide +kernel) dX8_init_27 (fun t0 hT => ?_)
  refine lv_iconst (v := 0) X.1 X.2.1 dX8_init_30 (by decide) ?_
  refine lv_aload_n X.1 X.2.1 dX8_init_31 rfl (lv_at hl 0 rfl) ?_
  refine bl_ngetr (r := n + 1 + 1) X V (by omega) hs fl_X8_18 (by first | rfl | simp [bl_R, bl_pR, bl_u]) (by omega) dX8_init_32 ?_
  refine lv_iconst (v := 0) X.1 X.2.1 dX8_init_35 (by decide) ?_
  refine lv_iconst (v := 3) X.1 X.2.1 dX8_init_36 (by decide) ?_
  refine bl_ncopys (xs := bl_RF) hL X V hl.1 ac_X8_24 (i1 := n + 1 + 1) (by omega) hT hn2 (by decide +kernel) (Nat.le_of_ble_eq_true rfl) (Nat.le_of_ble_eq_true rfl) dX8_init_37 (fun H locs V => ?_)
  exact bl_nvret X V hr rfl rfl dX8_init_40
def q_X1_init (σ : bl_St) (n t : Nat) : bl_St := (bl_pR (q_X3_init (bl_pR (bl_pR (bl_pR σ t 0 n) t 1 (n + 1)) t 2 (n + 1 + 1)) (n + 1 + 1 + 1 + 1) (n + 1 + 1 + 1)) t 3 (n + 1 + 1 + 1))
set_option maxHeartbeats 4000000 in
set_option maxRecDepth 100000 in
theorem t_X1_init (l : Launch) (g : bl_Gp) (hL : bl_L g) (n : Nat) (σ : bl_St) (t : Nat) (hs : bl_sh[t]? = some (1, 4)) (ht : t < n) (hn0 : bl_sh[n]? = some (21, 64)) (hn1 : bl_sh[n + 1]? = some (21, 64)) (hn2 : bl_sh[n + 1 + 1]? = some (21, 63)) (hn3 : bl_sh[n + 1 + 1 + 1]? = some (3, 8)) (hn4 : bl_sh[n + 1 + 1 + 1 + 1]? = some (21, 5)) (hn5 : bl_sh[n + 1 + 1 + 1 + 1 + 1]? = some (21, 5)) (hn6 : bl_sh[n + 1 + 1 + 1 + 1 + 1 + 1]? = some (21, 5)) (hn7 : bl_sh[n + 1 + 1 + 1 + 1 + 1 + 1 + 1]? = some (20, 5)) : bl_Ck l g yX1_init cX1_init 1 ({ frames := 2, cells := 8, slots := 219, locals := 32 }) [.ref (bl_ad g t)] n σ (n + 1 + 1 + 1 + 1 + 1 + 1 + 1 + 1) (q_X1_init σ n t) 8 219 := by
  refine bl_metk (by decide) (Nat.le_of_ble_eq_true rfl) (fun p e s m below meth c ls X hr hin V hl => ?_)
  have hl : lv_has ls 1 [(0, .ref (bl_ad g t))] := hl
  refine lv_aload_n X.1 X.2.1 dX1_init_0 rfl (lv_at hl 0 rfl) ?_
  refine bl_obj X hl.1 oi_X1_3 ⟨Nat.le_of_ble_eq_true rfl, Nat.le_of_ble_eq_true rfl⟩ dX1_init_1 ?_
  refine lv_aload_n X.1 X.2.1 dX1_init_4 rfl (lv_at hl 0 rfl) ?_
  refine lv_bipush (v := 64) X.1 X.2.1 dX1_init_5 (by decide) ?_
  refine bl_nnewl (len := 64) hL X V hn0 aw_long (by decide) (by decide) (Nat.le_of_ble_eq_true rfl) (Nat.le_of_ble_eq_true rfl) (Nat.le_of_ble_eq_true rfl) dX1_init_7 (fun H V => ?_)
  refine bl_nputr (v := n) hL X V (by omega) hs fp_X1_9 (by omega) (fun _ => rfl) (fun _ => rfl) dX1_init_9 (fun H locs V => ?_)
  refine lv_aload_n X.1 X.2.1 dX1_init_12 rfl (lv_at hl 0 rfl) ?_
  refine lv_bipush (v := 64) X.1 X.2.1 dX1_init_13 (by decide) ?_
  refine bl_nnewl (len := 64) hL X V hn1 aw_long (by decide) (by decide) (Nat.le_of_ble_eq_true rfl) (Nat.le_of_ble_eq_true rfl) (Nat.le_of_ble_eq_true rfl) dX1_init_15 (fun H V => ?_)
  refine bl_nputr (v := n + 1) hL X V (by omega) hs fp_X1_15 (by omega) (fun _ => rfl) (fun _ => rfl) dX1_init_17 (fun H locs V => ?_)
  refine lv_aload_n X.1 X.2.1 dX1_init_20 rfl (lv_at hl 0 rfl) ?_
  refine lv_bipush (v := 63) X.1 X.2.1 dX1_init_21 (by decide) ?_
  refine bl_nnewl (len := 63) hL X V hn2 aw_long (by decide) (by decide) (Nat.le_of_ble_eq_true rfl) (Nat.le_of_ble_eq_true rfl) (Nat.le_of_ble_eq_true rfl) dX1_init_23 (fun H V => ?_)
  refine bl_nputF (v := n + 1 + 1) hL X V (by omega) hs fF_X1_18 hin (by omega) (fun _ => rfl) (fun _ => rfl) dX1_init_25 (fun H locs V => ?_)
  refine lv_aload_n X.1 X.2.1 dX1_init_28 rfl (lv_at hl 0 rfl) ?_
  refine bl_nnew hL X V hn3 kN_X1_21 (Nat.le_of_ble_eq_true rfl) (Nat.le_of_ble_eq_true rfl) dX1_init_29 (fun H V => ?_)
  refine lv_dup X.1 X.2.1 dX1_init_32 rfl ?_
  refine bl_ckN (As := []) X V hl.1 (by decide +kernel) mI_X3_init (t_X3_init l g hL (n + 1 + 1 + 1 + 1) _ (n + 1 + 1 + 1) hn3 (by omega) hn4 hn5 hn6 hn7) rfl rfl ⟨Nat.le_of_ble_eq_true rfl, Nat.le_of_ble_eq_true rfl⟩ rfl rfl (Nat.le_of_ble_eq_true rfl) ⟨Nat.le_of_ble_eq_true rfl, Nat.le_of_ble_eq_true rfl⟩ dX1_init_33 (fun H locs V => ?_)
  refine bl_nputF (v := n + 1 + 1 + 1) hL X V (by omega) hs fF_X1_24 hin (by omega) (fun _ => rfl) (fun _ => rfl) dX1_init_36 (fun H locs V => ?_)
  exact bl_nvret X V hr rfl rfl dX1_init_39
def q_X4_init (σ : bl_St) (n t : Nat) (a1 : Nat) : bl_St := (bl_pI (bl_pI (bl_pR (bl_pR (bl_pR (bl_pR (q_X3_init σ (n + 1) n) t 9 n) t 10 (n + 1 + 1 + 1 + 1 + 1)) t 11 (n + 1 + 1 + 1 + 1 + 1 + 1)) t 0 a1) t 1 1) t 5 1)
set_option maxHeartbeats 4000000 in
set_option maxRecDepth 100000 in
theorem t_X4_init (l : Launch) (g : bl_Gp) (hL : bl_L g) (n : Nat) (σ : bl_St) (t : Nat) (a1 : Nat) (ha1 : a1 ≠ 0) (hs : bl_sh[t]? = some (4, 12)) (ht : t < n) (hn0 : bl_sh[n]? = some (3, 8)) (hn1 : bl_sh[n + 1]? = some (21, 5)) (hn2 : bl_sh[n + 1 + 1]? = some (21, 5)) (hn3 : bl_sh[n + 1 + 1 + 1]? = some (21, 5)) (hn4 : bl_sh[n + 1 + 1 + 1 + 1]? = some (20, 5)) (hn5 : bl_sh[n + 1 + 1 + 1 + 1 + 1]? = some (21, 168)) (hn6 : bl_sh[n + 1 + 1 + 1 + 1 + 1 + 1]? = some (21, 42)) : bl_Ck l g yX4_init cX4_init 2 ({ frames := 2, cells := 7, slots := 238, locals := 32 }) [.ref (bl_ad g t), .ref (bl_ad g a1)] n σ (n + 1 + 1 + 1 + 1 + 1 + 1 + 1) (q_X4_init σ n t a1) 7 238 := by
  refine bl_metk (by decide) (Nat.le_of_ble_eq_true rfl) (fun p e s m below meth c ls X hr hin V hl => ?_)
  have hl : lv_has ls 2 [(0, .ref (bl_ad g t)), (1, .ref (bl_ad g a1))] := hl
  refine lv_aload_n X.1 X.2.1 dX4_init_0 rfl (lv_at hl 0 rfl) ?_
  refine bl_obj X hl.1 oi_X4_3 ⟨Nat.le_of_ble_eq_true rfl, Nat.le_of_ble_eq_true rfl⟩ dX4_init_1 ?_
  refine lv_aload_n X.1 X.2.1 dX4_init_4 rfl (lv_at hl 0 rfl) ?_
  refine bl_nnew hL X V hn0 kN_X4_9 (Nat.le_of_ble_eq_true rfl) (Nat.le_of_ble_eq_true rfl) dX4_init_5 (fun H V => ?_)
  refine lv_dup X.1 X.2.1 dX4_init_8 rfl ?_
  refine bl_ckN (As := []) X V hl.1 (by decide +kernel) mI_X3_init (t_X3_init l g hL (n + 1) _ n hn0 (by omega) hn1 hn2 hn3 hn4) rfl rfl ⟨Nat.le_of_ble_eq_true rfl, Nat.le_of_ble_eq_true rfl⟩ rfl rfl (Nat.le_of_ble_eq_true rfl) ⟨Nat.le_of_ble_eq_true rfl, Nat.le_of_ble_eq_true rfl⟩ dX4_init_9 (fun H locs V => ?_)
  refine bl_nputF (v := n) hL X V (by omega) hs fF_X4_12 hin (by omega) (fun _ => rfl) (fun _ => rfl) dX4_init_12 (fun H locs V => ?_)
  refine lv_aload_n X.1 X.2.1 dX4_init_15 rfl (lv_at hl 0 rfl) ?_
  refine lv_sipush (v := 168) X.1 X.2.1 dX4_init_16 (by decide) ?_
  refine bl_nnewl (len := 168) hL X V hn5 aw_long (by decide) (by decide) (Nat.le_of_ble_eq_true rfl) (Nat.le_of_ble_eq_true rfl) (Nat.le_of_ble_eq_true rfl) dX4_init_19 (fun H V => ?_)
  refine bl_nputF (v := n + 1 + 1 + 1 + 1 + 1) hL X V (by omega) hs fF_X4_18 hin (by omega) (fun _ => rfl) (fun _ => rfl) dX4_init_21 (fun H locs V => ?_)
  refine lv_aload_n X.1 X.2.1 dX4_init_24 rfl (lv_at hl 0 rfl) ?_
  refine lv_bipush (v := 42) X.1 X.2.1 dX4_init_25 (by decide) ?_
  refine bl_nnewl (len := 42) hL X V hn6 aw_long (by decide) (by decide) (Nat.le_of_ble_eq_true rfl) (Nat.le_of_ble_eq_true rfl) (Nat.le_of_ble_eq_true rfl) dX4_init_27 (fun H V => ?_)
  refine bl_nputF (v := n + 1 + 1 + 1 + 1 + 1 + 1) hL X V (by omega) hs fF_X4_22 hin (by omega) (fun _ => rfl) (fun _ => rfl) dX4_init_29 (fun H locs V => ?_)
  refine lv_aload_n X.1 X.2.1 dX4_init_32 rfl (lv_at hl 0 rfl) ?_
  refine lv_aload_n X.1 X.2.1 dX4_init_33 rfl (lv_at hl 1 rfl) ?_
  refine bl_nputr (v := a1) hL X V (by omega) hs fp_X4_25 ha1 (fun _ => rfl) (fun _ => rfl) dX4_init_34 (fun H locs V => ?_)
  refine lv_aload_n X.1 X.2.1 dX4_init_37 rfl (lv_at hl 0 rfl) ?_
  refine lv_iconst (v := 1) X.1 X.2.1 dX4_init_38 (by decide) ?_
  refine bl_nputi (v := 1) hL X V (by omega) hs fp_X4_29 rfl rfl dX4_init_39 (fun H locs V => ?_)
  refine lv_aload_n X.1 X.2.1 dX4_init_42 rfl (lv_at hl 0 rfl) ?_
  refine lv_iconst (v := 1) X.1 X.2.1 dX4_init_43 (by decide) ?_
  refine bl_nputi (v := 1) hL X V (by omega) hs fp_X4_33 rfl rfl dX4_init_44 (fun H locs V => ?_)
  exact bl_nvret X V hr rfl rfl dX4_init_47
def q_X7_init (σ : bl_St) (n t : Nat) : bl_St := (bl_pR (q_X8_init (bl_pR (bl_pR σ t 0 n) t 1 (n + 1)) (n + 1 + 1 + 1) (n + 1 + 1)) t 2 (n + 1 + 1))
set_option maxHeartbeats 4000000 in
set_option maxRecDepth 100000 in
theorem t_X7_init (l : Launch) (g : bl_Gp) (hL : bl_L g) (n : Nat) (σ : bl_St) (t : Nat) (hs : bl_sh[t]? = some (7, 6)) (ht : t < n) (hn0 : bl_sh[n]? = some (20, 400)) (hn1 : bl_sh[n + 1]? = some (20, 5)) (hn2 : bl_sh[n + 1 + 1]? = some (8, 5)) (hn3 : bl_sh[n + 1 + 1 + 1]? = some (20, 40)) (hn4 : bl_sh[n + 1 + 1 + 1 + 1]? = some (20, 10)) (hn5 : bl_sh[n + 1 + 1 + 1 + 1 + 1]? = some (20, 3)) : bl_Ck l g yX7_init cX7_init 1 ({ frames := 2, cells := 6, slots := 463, locals := 38 }) [.ref (bl_ad g t)] n σ (n + 1 + 1 + 1 + 1 + 1 + 1) (q_X7_init σ n t) 6 463 := by
  refine bl_metk (by decide) (Nat.le_of_ble_eq_true rfl) (fun p e s m below meth c ls X hr hin V hl => ?_)
  have hl : lv_has ls 1 [(0, .ref (bl_ad g t))] := hl
  refine lv_aload_n X.1 X.2.1 dX7_init_0 rfl (lv_at hl 0 rfl) ?_
  refine bl_obj X hl.1 oi_X7_3 ⟨Nat.le_of_ble_eq_true rfl, Nat.le_of_ble_eq_true rfl⟩ dX7_init_1 ?_
  refine lv_aload_n X.1 X.2.1 dX7_init_4 rfl (lv_at hl 0 rfl) ?_
  refine lv_sipush (v := 400) X.1 X.2.1 dX7_init_5 (by decide) ?_
  refine bl_nnewi (len := 400) hL X V hn0 aw_int (by decide) (by decide) (Nat.le_of_ble_eq_true rfl) (Nat.le_of_ble_eq_true rfl) (Nat.le_of_ble_eq_true rfl) dX7_init_8 (fun H V => ?_)
  refine bl_nputF (v := n) hL X V (by omega) hs fF_X7_9 hin (by omega) (fun _ => rfl) (fun _ => rfl) dX7_init_10 (fun H locs V => ?_)
  refine lv_aload_n X.1 X.2.1 dX7_init_13 rfl (lv_at hl 0 rfl) ?_
  refine lv_iconst (v := 5) X.1 X.2.1 dX7_init_14 (by decide) ?_
  refine bl_nnewi (len := 5) hL X V hn1 aw_int (by decide) (by decide) (Nat.le_of_ble_eq_true rfl) (Nat.le_of_ble_eq_true rfl) (Nat.le_of_ble_eq_true rfl) dX7_init_15 (fun H V => ?_)
  refine bl_nputF (v := n + 1) hL X V (by omega) hs fF_X7_15 hin (by omega) (fun _ => rfl) (fun _ => rfl) dX7_init_17 (fun H locs V => ?_)
  refine lv_aload_n X.1 X.2.1 dX7_init_20 rfl (lv_at hl 0 rfl) ?_
  refine bl_nnew hL X V hn2 kN_X7_18 (Nat.le_of_ble_eq_true rfl) (Nat.le_of_ble_eq_true rfl) dX7_init_21 (fun H V => ?_)
  refine lv_dup X.1 X.2.1 dX7_init_24 rfl ?_
  refine bl_ck (As := []) X V hl.1 ml_X7_20 mI_X8_init (t_X8_init l g hL (n + 1 + 1 + 1) _ (n + 1 + 1) hn2 (by omega) hn3 hn4 hn5) rfl rfl ⟨Nat.le_of_ble_eq_true rfl, Nat.le_of_ble_eq_true rfl⟩ rfl rfl (Nat.le_of_ble_eq_true rfl) ⟨Nat.le_of_ble_eq_true rfl, Nat.le_of_ble_eq_true rfl⟩ dX7_init_25 (fun H locs V => ?_)
  refine bl_nputF (v := n + 1 + 1) hL X V (by omega) hs fF_X7_21 hin (by omega) (fun _ => rfl) (fun _ => rfl) dX7_init_28 (fun H locs V => ?_)
  exact bl_nvret X V hr rfl rfl dX7_init_31
