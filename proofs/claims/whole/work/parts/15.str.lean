/-! the JDK's own: coder, isLatin1, checkIndex, charAt, length, of the texts that the class has as constants -/
def f_J0_length_8abf5 (σ : bl_St) (j : Nat) : Option (Int32 × bl_St) := bl_gd (decide (j < 8)) (some (nI (bl_tl.getD j 0), σ))
def f_J0_charAt_5068e (σ : bl_St) (j : Nat) (i : Int32) : Option (Int32 × bl_St) := bl_gd (decide (j < 8) && bl_in i (bl_tl.getD j 0)) (some ((bl_tc.getD j []).getD i.toNatClampNeg 0, σ))
theorem u_J0_length_8abf5 {σ : bl_St} {j : Nat} {o : Int32 × bl_St} (h : f_J0_length_8abf5 σ j = some o) : j < 8 := by
  have := (bl_gd_at h).1
  simpa using this
theorem u_J0_charAt_5068e {σ : bl_St} {j : Nat} {i : Int32} {o : Int32 × bl_St} (h : f_J0_charAt_5068e σ j i = some o) : j < 8 := by
  have := (bl_gd_at h).1
  simp only [Bool.and_eq_true, decide_eq_true_eq] at this
  exact this.1
set_option maxHeartbeats 4000000 in
set_option maxRecDepth 100000 in
theorem t_J0_coder (l : Launch) (g : bl_Gp) (σ : bl_St) (j : Nat) (hj : j < 8) : bl_Ci l g yJ0_coder_7d493 cJ0_coder_7d493 1 (some .byte) (bl_rm 0 0) [.ref (bl_adr g 1 j)] σ (0, σ) := by
  refine bl_met (by decide) (Nat.le_of_ble_eq_true rfl) (fun p e s m below meth c ls X hr V hl => ?_)
  have hl : lv_has ls 1 [(0, .ref (bl_adr g 1 j))] := hl
  have hE := X.2.2.2.2.2.2.1.2.2.2.1
  refine va_gets X.1 X.2.1 X.2.2.2.2.2.2.1.2.2.2.2.2.1.1 V.2 X.2.2.2.1 (X.2.2.2.2.1 _ kf_J0_38) (fun _ h => h) dJ0_coder_7d493_0 ?_
  refine lv_if_eq (tgt := 13) X.1 X.2.1 dJ0_coder_7d493_3 (by decide) (fun c1 => absurd c1 (by decide)) (fun _ => ?_)
  refine lv_aload_n X.1 X.2.1 dJ0_coder_7d493_6 rfl (lv_at hl 0 rfl) ?_
  refine vk_getf X.1 X.2.1 (hE.1 j hj).2.1 V.2 X.2.2.2.1 (X.2.2.2.2.1 _ kf_J0_15) (fun _ h => h) dJ0_coder_7d493_7 ?_
  refine lv_goto (tgt := 14) X.1 X.2.1 dJ0_coder_7d493_10 (by decide) ?_
  exact W.zret X.1 X.2.1 hr rfl (fun t ht hW => ⟨⟨0, σ, rfl, rfl, by show bl_P g σ t.heap; rw [ht]; exact V.1⟩, V.2.F ht⟩) V.2.2.2 dJ0_coder_7d493_14 X.2.2.2.2.2.2.2
set_option maxHeartbeats 4000000 in
set_option maxRecDepth 100000 in
theorem t_J0_isLatin1 (l : Launch) (g : bl_Gp) (σ : bl_St) (j : Nat) (hj : j < 8) : bl_Ci l g yJ0_isLatin1_aae02 cJ0_isLatin1_aae02 1 (some .boolean) (bl_rm 0 0) [.ref (bl_adr g 1 j)] σ (1, σ) := by
  refine bl_met (by decide) (Nat.le_of_ble_eq_true rfl) (fun p e s m below meth c ls X hr V hl => ?_)
  have hl : lv_has ls 1 [(0, .ref (bl_adr g 1 j))] := hl
  have hE := X.2.2.2.2.2.2.1.2.2.2.1
  refine va_gets X.1 X.2.1 X.2.2.2.2.2.2.1.2.2.2.2.2.1.1 V.2 X.2.2.2.1 (X.2.2.2.2.1 _ kf_J0_38) (fun _ h => h) dJ0_isLatin1_aae02_0 ?_
  refine lv_if_eq (tgt := 17) X.1 X.2.1 dJ0_isLatin1_aae02_3 (by decide) (fun c1 => absurd c1 (by decide)) (fun _ => ?_)
  refine lv_aload_n X.1 X.2.1 dJ0_isLatin1_aae02_6 rfl (lv_at hl 0 rfl) ?_
  refine vk_getf X.1 X.2.1 (hE.1 j hj).2.1 V.2 X.2.2.2.1 (X.2.2.2.2.1 _ kf_J0_15) (fun _ h => h) dJ0_isLatin1_aae02_7 ?_
  refine lv_if_ne (tgt := 17) X.1 X.2.1 dJ0_isLatin1_aae02_10 (by decide) (fun c1 => absurd rfl c1) (fun _ => ?_)
  refine lv_iconst (v := 1) X.1 X.2.1 dJ0_isLatin1_aae02_13 (by decide) ?_
  refine lv_goto (tgt := 18) X.1 X.2.1 dJ0_isLatin1_aae02_14 (by decide) ?_
  exact bl_retz X V hr (by decide) rfl dJ0_isLatin1_aae02_18
set_option maxHeartbeats 4000000 in
set_option maxRecDepth 100000 in
theorem t_J3_checkIndex (l : Launch) (g : bl_Gp) (σ : bl_St) (i n : Int32) (v : Value) (hv : v = .null ∨ ∃ a, v = .ref a) (h0 : ¬ i < 0) (h1 : i < n) : bl_Ci l g yJ3_checkIndex_8e157 cJ3_checkIndex_8e157 3 (some .int) (bl_rm 0 0) [.int i, .int n, v] σ (i, σ) := by
  have hc : v.category = 1 := by rcases hv with rfl | ⟨a, rfl⟩ <;> rfl
  have hs : (lg_sl [.int i, .int n, v]).length ≤ 3 := by rcases hv with rfl | ⟨a, rfl⟩ <;> exact Nat.le_of_ble_eq_true rfl
  refine bl_met (by decide) hs (fun p e s m below meth c ls X hr V hl => ?_)
  have hl : lv_has ls 3 [(0, .int i), (1, .int n)] := lv_sub hl [0, 1] rfl
  refine lv_iload_n X.1 X.2.1 dJ3_checkIndex_8e157_0 rfl (lv_at hl 0 rfl) ?_
  refine lv_if_lt (tgt := 9) X.1 X.2.1 dJ3_checkIndex_8e157_1 (by decide) (fun c1 => absurd c1 h0) (fun _ => ?_)
  refine lv_iload_n X.1 X.2.1 dJ3_checkIndex_8e157_4 rfl (lv_at hl 0 rfl) ?_
  refine lv_iload_n X.1 X.2.1 dJ3_checkIndex_8e157_5 rfl (lv_at hl 1 rfl) ?_
  refine lv_icmp_lt (tgt := 16) X.1 X.2.1 dJ3_checkIndex_8e157_6 (by decide) (fun _ => ?_) (fun c1 => absurd h1 c1)
  refine lv_iload_n X.1 X.2.1 dJ3_checkIndex_8e157_16 rfl (lv_at hl 0 rfl) ?_
  exact bl_reti X V hr rfl dJ3_checkIndex_8e157_17
set_option maxHeartbeats 4000000 in
set_option maxRecDepth 100000 in
theorem t_J0_checkIndex (l : Launch) (g : bl_Gp) (σ : bl_St) (i n : Int32) (h0 : ¬ i < 0) (h1 : i < n) : bl_Cv l g yJ0_checkIndex_df160 cJ0_checkIndex_df160 2 none (bl_rm 1 22) [.int i, .int n] σ ((), σ) := by
  refine bl_met (by decide) (Nat.le_of_ble_eq_true rfl) (fun p e s m below meth c ls X hr V hl => ?_)
  have hl : lv_has ls 2 [(0, .int i), (1, .int n)] := hl
  refine lv_iload_n X.1 X.2.1 dJ0_checkIndex_df160_0 rfl (lv_at hl 0 rfl) ?_
  refine lv_iload_n X.1 X.2.1 dJ0_checkIndex_df160_1 rfl (lv_at hl 1 rfl) ?_
  have key : ∀ v : Value, (v = .null ∨ ∃ a, v = .ref a) → W p l e (bl_rm 1 22) s m [Value.int i, Value.int n].toArray below meth c s.heap [] 0 0 (bl_Qv below g s [Value.int i, Value.int n] ((), σ)) (F0 m 5 ls [v, .int n, .int i]) := by
    intro v hv
    refine bl_cSi (As := [.int i, .int n, v]) (rest := []) X V hl.1 ml_J0_1059 mS_J3_checkIndex_8e157 (t_J3_checkIndex l g σ i n v hv h0 h1) rfl rfl ⟨Nat.le_of_ble_eq_true rfl, Nat.le_of_ble_eq_true rfl⟩ rfl rfl (Nat.le_of_ble_eq_true rfl) ⟨Nat.zero_le _, Nat.zero_le _⟩ dJ0_checkIndex_df160_5 (fun H locs V => ?_)
    refine lv_pop X.1 X.2.1 dJ0_checkIndex_df160_8 rfl ?_
    exact bl_retv X V hr rfl dJ0_checkIndex_df160_9
  rcases X.2.2.2.2.2.2.1.2.2.2.2.2.1.2 with hZ | ⟨t, hZ⟩
  · exact va_gets X.1 X.2.1 hZ V.2 X.2.2.2.1 (X.2.2.2.2.1 _ kf_J0_1053) (fun _ h => h) dJ0_checkIndex_df160_2 (key _ (Or.inl rfl))
  · exact va_gets X.1 X.2.1 hZ V.2 X.2.2.2.1 (X.2.2.2.2.1 _ kf_J0_1053) (fun _ h => h) dJ0_checkIndex_df160_2 (key _ (Or.inr ⟨t, rfl⟩))
theorem bl_tl_lt : ∀ j, j < 8 → bl_tl.getD j 0 < 9 := by decide +kernel
theorem bl_in_ofNat {i : Int32} {n : Nat} (hn : n < 2 ^ 31) (h : bl_in i n = true) : ¬ i < 0 ∧ i < Int32.ofNat n := by
  have h1 := bl_in_vp h
  have h2 := bl_in_lt h
  have h0 : ¬ i < 0 := fun z => h1 (Or.inl z)
  refine ⟨h0, ?_⟩
  have hi : i = nI i.toNatClampNeg := by
    apply Int32.toInt_inj.mp
    have a0 : (0 : Int) ≤ i.toInt := by
      have := Int32.not_lt.mp h0
      simpa using Int32.le_iff_toInt_le.mp this
    have a1 : i.toInt = (i.toNatClampNeg : Int) := by
      show i.toInt = ((i.toInt.toNat : Nat) : Int)
      omega
    rw [a1]
    unfold nI
    rw [Int32.toInt_ofNat_of_lt (by omega)]
  rw [hi]
  exact nI_lt h2 hn
set_option maxHeartbeats 4000000 in
set_option maxRecDepth 100000 in
theorem t_J1_charAt (l : Launch) (g : bl_Gp) (σ : bl_St) (j : Nat) (i : Int32) (hj : j < 8) (hi : bl_in i (bl_tl.getD j 0) = true) (r : Int32) (hr0 : ((((bl_tc.getD j []).getD i.toNatClampNeg 0) &&& 255).toUInt32 % 65536).toInt32 = r) (hn : narrow .char (.int r) = .int r) : bl_Ci l g yJ1_charAt_3b067 cJ1_charAt_3b067 2 (some .char) (bl_rm 2 43) [.ref (bl_kV g j), .int i] σ (r, σ) := by
  refine bl_met (by decide) (Nat.le_of_ble_eq_true rfl) (fun p e s m below meth c ls X hr V hl => ?_)
  have hl : lv_has ls 2 [(0, .ref (bl_kV g j)), (1, .int i)] := hl
  have hE := X.2.2.2.2.2.2.1.2.2.2.1
  have hT := (hE.1 j hj).2.2.2
  have h9 := bl_tl_lt j hj
  obtain ⟨h0, h1⟩ := bl_in_ofNat (by omega) hi
  refine lv_iload_n X.1 X.2.1 dJ1_charAt_3b067_0 rfl (lv_at hl 1 rfl) ?_
  refine lv_aload_n X.1 X.2.1 dJ1_charAt_3b067_1 rfl (lv_at hl 0 rfl) ?_
  refine va_tlen X.1 X.2.1 hT V.2 rfl dJ1_charAt_3b067_2 ?_
  refine bl_cSv (As := [.int i, .int (Int32.ofNat (bl_tl.getD j 0))]) (rest := []) X V hl.1 ml_J1_9 mS_J0_checkIndex_df160 (t_J0_checkIndex l g σ i _ h0 h1) rfl rfl ⟨Nat.le_of_ble_eq_true rfl, Nat.le_of_ble_eq_true rfl⟩ rfl rfl (Nat.le_of_ble_eq_true rfl) ⟨Nat.zero_le _, Nat.zero_le _⟩ dJ1_charAt_3b067_3 (fun H locs V => ?_)
  refine lv_aload_n X.1 X.2.1 dJ1_charAt_3b067_6 rfl (lv_at hl 0 rfl) ?_
  refine lv_iload_n X.1 X.2.1 dJ1_charAt_3b067_7 rfl (lv_at hl 1 rfl) ?_
  refine va_tb X.1 X.2.1 hT V.2 (bl_in_vp hi) rfl dJ1_charAt_3b067_8 ?_
  refine lv_sipush (v := 255) X.1 X.2.1 dJ1_charAt_3b067_9 (by decide) ?_
  refine lv_iand X.1 X.2.1 dJ1_charAt_3b067_12 ?_
  refine lv_i2c (v := r) X.1 X.2.1 dJ1_charAt_3b067_13 hr0 ?_
  exact W.zret X.1 X.2.1 hr hn (fun t ht hW => ⟨⟨r, σ, rfl, rfl, by show bl_P g σ t.heap; rw [ht]; exact V.1⟩, V.2.F ht⟩) V.2.2.2 dJ1_charAt_3b067_14 X.2.2.2.2.2.2.2
theorem bl_tc_ok : ∀ j, j < 8 → ∀ k, k < bl_tl.getD j 0 → ((((bl_tc.getD j []).getD k 0) &&& 255).toUInt32 % 65536).toInt32 = (bl_tc.getD j []).getD k 0 ∧ narrow .char (.int ((bl_tc.getD j []).getD k 0)) = .int ((bl_tc.getD j []).getD k 0) := by decide +kernel
set_option maxHeartbeats 4000000 in
set_option maxRecDepth 100000 in
theorem t_J0_charAt_5068e (l : Launch) (g : bl_Gp) (σ : bl_St) (j : Nat) (i : Int32) (o : Int32 × bl_St) (hf : f_J0_charAt_5068e σ j i = some o) : bl_Ci l g yJ0_charAt_5068e cJ0_charAt_5068e 2 (some .char) (bl_rm 3 64) [.ref (bl_adr g 1 j), .int i] σ o := by
  obtain ⟨hgd, hf⟩ := bl_gd_at hf
  simp only [Bool.and_eq_true, decide_eq_true_eq] at hgd
  obtain ⟨hj, hi⟩ := hgd
  cases hf
  obtain ⟨hr0, hn⟩ := bl_tc_ok j hj _ (bl_in_lt hi)
  refine bl_met (by decide) (Nat.le_of_ble_eq_true rfl) (fun p e s m below meth c ls X hr V hl => ?_)
  have hl : lv_has ls 2 [(0, .ref (bl_adr g 1 j)), (1, .int i)] := hl
  have hE := X.2.2.2.2.2.2.1.2.2.2.1
  refine lv_aload_n X.1 X.2.1 dJ0_charAt_5068e_0 rfl (lv_at hl 0 rfl) ?_
  refine bl_cTi (As := []) (rest := []) X V hl.1 hj rfl ml_J0_492 mV_J0_isLatin1_aae02 (t_J0_isLatin1 l g σ j hj) rfl rfl ⟨Nat.le_of_ble_eq_true rfl, Nat.le_of_ble_eq_true rfl⟩ rfl rfl (Nat.le_of_ble_eq_true rfl) ⟨Nat.zero_le _, Nat.zero_le _⟩ dJ0_charAt_5068e_1 (fun H locs V => ?_)
  refine lv_if_eq (tgt := 16) X.1 X.2.1 dJ0_charAt_5068e_4 (by decide) (fun c1 => absurd c1 (by decide)) (fun _ => ?_)
  refine lv_aload_n X.1 X.2.1 dJ0_charAt_5068e_7 rfl (lv_at hl 0 rfl) ?_
  refine vk_getf X.1 X.2.1 (hE.1 j hj).2.2.1 V.2 X.2.2.2.1 (X.2.2.2.2.1 _ kf_J0_9) (fun _ h => h) dJ0_charAt_5068e_8 ?_
  refine lv_iload_n X.1 X.2.1 dJ0_charAt_5068e_11 rfl (lv_at hl 1 rfl) ?_
  refine bl_cSi (As := [.ref (bl_kV g j), .int i]) (rest := []) X V hl.1 ml_J0_495 mS_J1_charAt_3b067 (t_J1_charAt l g σ j i hj hi _ hr0 hn) rfl rfl ⟨Nat.le_of_ble_eq_true rfl, Nat.le_of_ble_eq_true rfl⟩ rfl rfl (Nat.le_of_ble_eq_true rfl) ⟨Nat.zero_le _, Nat.zero_le _⟩ dJ0_charAt_5068e_12 (fun H locs V => ?_)
  exact W.zret X.1 X.2.1 hr hn (fun t ht hW => ⟨⟨_, σ, rfl, rfl, by show bl_P g σ t.heap; rw [ht]; exact V.1⟩, V.2.F ht⟩) V.2.2.2 dJ0_charAt_5068e_15 X.2.2.2.2.2.2.2
theorem bl_tl_sh : ∀ j, j < 8 → Int32.ofNat (bl_tl.getD j 0) >>> ((0 : Int32) &&& 31) = nI (bl_tl.getD j 0) := by decide +kernel
set_option maxHeartbeats 4000000 in
set_option maxRecDepth 100000 in
theorem t_J0_length_8abf5 (l : Launch) (g : bl_Gp) (σ : bl_St) (j : Nat) (o : Int32 × bl_St) (hf : f_J0_length_8abf5 σ j = some o) : bl_Ci l g yJ0_length_8abf5 cJ0_length_8abf5 1 (some .int) (bl_rm 1 20) [.ref (bl_adr g 1 j)] σ o := by
  obtain ⟨hgd, hf⟩ := bl_gd_at hf
  have hj : j < 8 := by simpa using hgd
  rw [← bl_tl_sh j hj] at hf
  refine bl_met (by decide) (Nat.le_of_ble_eq_true rfl) (fun p e s m below meth c ls X hr V hl => ?_)
  have hl : lv_has ls 1 [(0, .ref (bl_adr g 1 j))] := hl
  have hE := X.2.2.2.2.2.2.1.2.2.2.1
  refine lv_aload_n X.1 X.2.1 dJ0_length_8abf5_0 rfl (lv_at hl 0 rfl) ?_
  refine vk_getf X.1 X.2.1 (hE.1 j hj).2.2.1 V.2 X.2.2.2.1 (X.2.2.2.2.1 _ kf_J0_9) (fun _ h => h) dJ0_length_8abf5_1 ?_
  refine va_tlen X.1 X.2.1 (hE.1 j hj).2.2.2 V.2 rfl dJ0_length_8abf5_4 ?_
  refine lv_aload_n X.1 X.2.1 dJ0_length_8abf5_5 rfl (lv_at hl 0 rfl) ?_
  refine bl_cTi (As := []) (rest := [.int (Int32.ofNat (bl_tl.getD j 0))]) X V hl.1 hj rfl ml_J0_335 mV_J0_coder_7d493 (t_J0_coder l g σ j hj) rfl rfl ⟨Nat.le_of_ble_eq_true rfl, Nat.le_of_ble_eq_true rfl⟩ rfl rfl (Nat.le_of_ble_eq_true rfl) ⟨Nat.zero_le _, Nat.zero_le _⟩ dJ0_length_8abf5_6 (fun H locs V => ?_)
  refine lv_ishr X.1 X.2.1 dJ0_length_8abf5_9 ?_
  exact bl_reti X V hr hf dJ0_length_8abf5_10
