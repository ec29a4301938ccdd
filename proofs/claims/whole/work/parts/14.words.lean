theorem bl_t1 {w : Cond} (h : w ∈ tables_1_1) : w ∈ tables_1 := List.mem_append_left _ h
theorem bl_t2 {w : Cond} (h : w ∈ tables_1_2) : w ∈ tables_1 := List.mem_append_right _ (List.mem_append_left _ h)
theorem bl_t3 {w : Cond} (h : w ∈ tables_1_3) : w ∈ tables_1 := List.mem_append_right _ (List.mem_append_right _ (List.mem_append_left _ h))
theorem bl_t4 {w : Cond} (h : w ∈ tables_1_4) : w ∈ tables_1 := List.mem_append_right _ (List.mem_append_right _ (List.mem_append_right _ (List.mem_append_left _ h)))
theorem bl_t5 {w : Cond} (h : w ∈ tables_1_5) : w ∈ tables_1 := List.mem_append_right _ (List.mem_append_right _ (List.mem_append_right _ (List.mem_append_right _ (List.mem_append_left _ h))))
theorem bl_t6 {w : Cond} (h : w ∈ tables_1_6) : w ∈ tables_1 := List.mem_append_right _ (List.mem_append_right _ (List.mem_append_right _ (List.mem_append_right _ (List.mem_append_right _ (List.mem_append_left _ h)))))
theorem bl_t7 {w : Cond} (h : w ∈ tables_1_7) : w ∈ tables_1 := List.mem_append_right _ (List.mem_append_right _ (List.mem_append_right _ (List.mem_append_right _ (List.mem_append_right _ (List.mem_append_right _ (h))))))
set_option maxRecDepth 100000 in
theorem in_X0 : ∀ w ∈ u_ws RX0 TX0 1, w ∈ bl_tb := by
  have h : ∀ w ∈ u_ws RX0 TX0 1, w ∈ tables_1 ∧ goodWord w = true := by decide +kernel
  exact fun w hw => bl_in_tb (h w hw).1 (h w hw).2
set_option maxRecDepth 100000 in
theorem in_X1 : ∀ w ∈ u_ws RX1 TX1 4, w ∈ bl_tb := by
  have h : ∀ w ∈ u_ws RX1 TX1 4, w ∈ tables_1 ∧ goodWord w = true := by decide +kernel
  exact fun w hw => bl_in_tb (h w hw).1 (h w hw).2
set_option maxRecDepth 100000 in
theorem in_X2 : ∀ w ∈ u_ws RX2 TX2 15, w ∈ bl_tb := by
  have h : ∀ w ∈ u_ws RX2 TX2 15, w ∈ tables_1 ∧ goodWord w = true := by decide +kernel
  exact fun w hw => bl_in_tb (h w hw).1 (h w hw).2
set_option maxRecDepth 100000 in
theorem in_X3 : ∀ w ∈ u_ws RX3 TX3 8, w ∈ bl_tb := by
  have h : ∀ w ∈ u_ws RX3 TX3 8, w ∈ tables_1 ∧ goodWord w = true := by decide +kernel
  exact fun w hw => bl_in_tb (h w hw).1 (h w hw).2
set_option maxRecDepth 100000 in
theorem in_X4 : ∀ w ∈ u_ws RX4 TX4 12, w ∈ bl_tb := by
  have h : ∀ w ∈ u_ws RX4 TX4 12, w ∈ tables_1 ∧ goodWord w = true := by decide +kernel
  exact fun w hw => bl_in_tb (h w hw).1 (h w hw).2
set_option maxRecDepth 100000 in
theorem in_X5 : ∀ w ∈ u_ws RX5 TX5 2, w ∈ bl_tb := by
  have h : ∀ w ∈ u_ws RX5 TX5 2, w ∈ tables_1 ∧ goodWord w = true := by decide +kernel
  exact fun w hw => bl_in_tb (h w hw).1 (h w hw).2
set_option maxRecDepth 100000 in
theorem in_X6 : ∀ w ∈ u_ws RX6 TX6 4, w ∈ bl_tb := by
  have h : ∀ w ∈ u_ws RX6 TX6 4, w ∈ tables_1 ∧ goodWord w = true := by decide +kernel
  exact fun w hw => bl_in_tb (h w hw).1 (h w hw).2
set_option maxRecDepth 100000 in
theorem in_X7 : ∀ w ∈ u_ws RX7 TX7 6, w ∈ bl_tb := by
  have h : ∀ w ∈ u_ws RX7 TX7 6, w ∈ tables_1 ∧ goodWord w = true := by decide +kernel
  exact fun w hw => bl_in_tb (h w hw).1 (h w hw).2
set_option maxRecDepth 100000 in
theorem in_X8 : ∀ w ∈ u_ws RX8 TX8 5, w ∈ bl_tb := by
  have h : ∀ w ∈ u_ws RX8 TX8 5, w ∈ tables_1 ∧ goodWord w = true := by decide +kernel
  exact fun w hw => bl_in_tb (h w hw).1 (h w hw).2
set_option maxRecDepth 100000 in
theorem in_X9 : ∀ w ∈ u_ws RX9 TX9 13, w ∈ bl_tb := by
  have h : ∀ w ∈ u_ws RX9 TX9 13, w ∈ tables_1 ∧ goodWord w = true := by decide +kernel
  exact fun w hw => bl_in_tb (h w hw).1 (h w hw).2
set_option maxRecDepth 100000 in
theorem in_X10 : ∀ w ∈ u_ws RX10 TX10 28, w ∈ bl_tb := by
  have h : ∀ w ∈ u_ws RX10 TX10 28, w ∈ tables_1 ∧ goodWord w = true := by decide +kernel
  exact fun w hw => bl_in_tb (h w hw).1 (h w hw).2
set_option maxRecDepth 20000 in
theorem fl_X8_30 : bl_fl RX8 30 8 0 0 := ⟨RX8, TX8, 5, rfl, Nat.le_of_ble_eq_true rfl, in_X8, bl_in_tb (bl_t1 (List.mem_of_getElem? (i := 43) rfl)) rfl, rfl⟩
set_option maxRecDepth 20000 in
theorem fp_X8_30 : bl_fp RX8 30 8 0 0 .int := ⟨RX8, TX8, 5, tyX8, rfl, Nat.le_of_ble_eq_true rfl, in_X8, bl_in_tb (bl_t1 (List.mem_of_getElem? (i := 43) rfl)) rfl, rfl, tyX8_ok, nmX8, rfl, rfl⟩
set_option maxRecDepth 20000 in
theorem fl_X1_36 : bl_fl RX1 36 8 0 0 := ⟨RX8, TX8, 5, rfl, Nat.le_of_ble_eq_true rfl, in_X8, bl_in_tb (bl_t1 (List.mem_of_getElem? (i := 44) rfl)) rfl, rfl⟩
set_option maxRecDepth 20000 in
theorem fl_X4_64 : bl_fl RX4 64 8 0 0 := ⟨RX8, TX8, 5, rfl, Nat.le_of_ble_eq_true rfl, in_X8, bl_in_tb (bl_t1 (List.mem_of_getElem? (i := 45) rfl)) rfl, rfl⟩
set_option maxRecDepth 20000 in
theorem fl_X9_111 : bl_fl RX9 111 8 0 0 := ⟨RX8, TX8, 5, rfl, Nat.le_of_ble_eq_true rfl, in_X8, bl_in_tb (bl_t1 (List.mem_of_getElem? (i := 46) rfl)) rfl, rfl⟩
set_option maxRecDepth 20000 in
theorem fl_X7_91 : bl_fl RX7 91 8 0 0 := ⟨RX8, TX8, 5, rfl, Nat.le_of_ble_eq_true rfl, in_X8, bl_in_tb (bl_t1 (List.mem_of_getElem? (i := 47) rfl)) rfl, rfl⟩
set_option maxRecDepth 20000 in
theorem fp_X7_91 : bl_fp RX7 91 8 0 0 .int := ⟨RX8, TX8, 5, tyX8, rfl, Nat.le_of_ble_eq_true rfl, in_X8, bl_in_tb (bl_t1 (List.mem_of_getElem? (i := 47) rfl)) rfl, rfl, tyX8_ok, nmX8, rfl, rfl⟩
set_option maxRecDepth 20000 in
theorem fl_X3_25 : bl_fl RX3 25 8 1 0 := ⟨RX8, TX8, 5, rfl, Nat.le_of_ble_eq_true rfl, in_X8, bl_in_tb (bl_t1 (List.mem_of_getElem? (i := 48) rfl)) rfl, rfl⟩
set_option maxRecDepth 20000 in
theorem fl_X8_34 : bl_fl RX8 34 8 1 0 := ⟨RX8, TX8, 5, rfl, Nat.le_of_ble_eq_true rfl, in_X8, bl_in_tb (bl_t1 (List.mem_of_getElem? (i := 49) rfl)) rfl, rfl⟩
set_option maxRecDepth 20000 in
theorem fp_X8_34 : bl_fp RX8 34 8 1 0 .int := ⟨RX8, TX8, 5, tyX8, rfl, Nat.le_of_ble_eq_true rfl, in_X8, bl_in_tb (bl_t1 (List.mem_of_getElem? (i := 49) rfl)) rfl, rfl, tyX8_ok, nmX8, rfl, rfl⟩
set_option maxRecDepth 20000 in
theorem fl_X0_26 : bl_fl RX0 26 8 1 0 := ⟨RX8, TX8, 5, rfl, Nat.le_of_ble_eq_true rfl, in_X8, bl_in_tb (bl_t1 (List.mem_of_getElem? (i := 50) rfl)) rfl, rfl⟩
set_option maxRecDepth 20000 in
theorem fl_X7_107 : bl_fl RX7 107 8 1 0 := ⟨RX8, TX8, 5, rfl, Nat.le_of_ble_eq_true rfl, in_X8, bl_in_tb (bl_t1 (List.mem_of_getElem? (i := 51) rfl)) rfl, rfl⟩
set_option maxRecDepth 20000 in
theorem fl_X9_177 : bl_fl RX9 177 8 1 0 := ⟨RX8, TX8, 5, rfl, Nat.le_of_ble_eq_true rfl, in_X8, bl_in_tb (bl_t1 (List.mem_of_getElem? (i := 52) rfl)) rfl, rfl⟩
set_option maxRecDepth 20000 in
theorem fl_X8_9 : bl_fl RX8 9 8 2 2 := ⟨RX8, TX8, 5, rfl, Nat.le_of_ble_eq_true rfl, in_X8, bl_in_tb (bl_t1 (List.mem_of_getElem? (i := 53) rfl)) rfl, rfl⟩
set_option maxRecDepth 20000 in
theorem fl_X7_88 : bl_fl RX7 88 8 2 2 := ⟨RX8, TX8, 5, rfl, Nat.le_of_ble_eq_true rfl, in_X8, bl_in_tb (bl_t1 (List.mem_of_getElem? (i := 54) rfl)) rfl, rfl⟩
set_option maxRecDepth 20000 in
theorem fl_X8_15 : bl_fl RX8 15 8 3 2 := ⟨RX8, TX8, 5, rfl, Nat.le_of_ble_eq_true rfl, in_X8, bl_in_tb (bl_t1 (List.mem_of_getElem? (i := 55) rfl)) rfl, rfl⟩
set_option maxRecDepth 20000 in
theorem fl_X8_18 : bl_fl RX8 18 8 4 2 := ⟨RX8, TX8, 5, rfl, Nat.le_of_ble_eq_true rfl, in_X8, bl_in_tb (bl_t1 (List.mem_of_getElem? (i := 56) rfl)) rfl, rfl⟩
set_option maxRecDepth 20000 in
theorem fl_X9_154 : bl_fl RX9 154 8 4 2 := ⟨RX8, TX8, 5, rfl, Nat.le_of_ble_eq_true rfl, in_X8, bl_in_tb (bl_t1 (List.mem_of_getElem? (i := 57) rfl)) rfl, rfl⟩
set_option maxRecDepth 20000 in
theorem fl_X7_104 : bl_fl RX7 104 8 4 2 := ⟨RX8, TX8, 5, rfl, Nat.le_of_ble_eq_true rfl, in_X8, bl_in_tb (bl_t1 (List.mem_of_getElem? (i := 58) rfl)) rfl, rfl⟩
set_option maxRecDepth 20000 in
theorem fl_X7_9 : bl_fl RX7 9 7 0 2 := ⟨RX7, TX7, 6, rfl, Nat.le_of_ble_eq_true rfl, in_X7, bl_in_tb (bl_t1 (List.mem_of_getElem? (i := 71) rfl)) rfl, rfl⟩
set_option maxRecDepth 20000 in
theorem fl_X7_15 : bl_fl RX7 15 7 1 2 := ⟨RX7, TX7, 6, rfl, Nat.le_of_ble_eq_true rfl, in_X7, bl_in_tb (bl_t1 (List.mem_of_getElem? (i := 72) rfl)) rfl, rfl⟩
set_option maxRecDepth 20000 in
theorem fl_X7_21 : bl_fl RX7 21 7 2 2 := ⟨RX7, TX7, 6, rfl, Nat.le_of_ble_eq_true rfl, in_X7, bl_in_tb (bl_t1 (List.mem_of_getElem? (i := 73) rfl)) rfl, rfl⟩
set_option maxRecDepth 20000 in
theorem fl_X9_95 : bl_fl RX9 95 7 2 2 := ⟨RX7, TX7, 6, rfl, Nat.le_of_ble_eq_true rfl, in_X7, bl_in_tb (bl_t1 (List.mem_of_getElem? (i := 74) rfl)) rfl, rfl⟩
set_option maxRecDepth 20000 in
theorem fl_X9_83 : bl_fl RX9 83 7 3 0 := ⟨RX7, TX7, 6, rfl, Nat.le_of_ble_eq_true rfl, in_X7, bl_in_tb (bl_t1 (List.mem_of_getElem? (i := 75) rfl)) rfl, rfl⟩
set_option maxRecDepth 20000 in
theorem fp_X9_83 : bl_fp RX9 83 7 3 0 .int := ⟨RX7, TX7, 6, tyX7, rfl, Nat.le_of_ble_eq_true rfl, in_X7, bl_in_tb (bl_t1 (List.mem_of_getElem? (i := 75) rfl)) rfl, rfl, tyX7_ok, nmX7, rfl, rfl⟩
set_option maxRecDepth 20000 in
theorem fl_X7_25 : bl_fl RX7 25 7 3 0 := ⟨RX7, TX7, 6, rfl, Nat.le_of_ble_eq_true rfl, in_X7, bl_in_tb (bl_t1 (List.mem_of_getElem? (i := 76) rfl)) rfl, rfl⟩
set_option maxRecDepth 20000 in
theorem fp_X7_25 : bl_fp RX7 25 7 3 0 .int := ⟨RX7, TX7, 6, tyX7, rfl, Nat.le_of_ble_eq_true rfl, in_X7, bl_in_tb (bl_t1 (List.mem_of_getElem? (i := 76) rfl)) rfl, rfl, tyX7_ok, nmX7, rfl, rfl⟩
set_option maxRecDepth 20000 in
theorem fl_X7_32 : bl_fl RX7 32 7 4 0 := ⟨RX7, TX7, 6, rfl, Nat.le_of_ble_eq_true rfl, in_X7, bl_in_tb (bl_t1 (List.mem_of_getElem? (i := 77) rfl)) rfl, rfl⟩
set_option maxRecDepth 20000 in
theorem fp_X7_32 : bl_fp RX7 32 7 4 0 .int := ⟨RX7, TX7, 6, tyX7, rfl, Nat.le_of_ble_eq_true rfl, in_X7, bl_in_tb (bl_t1 (List.mem_of_getElem? (i := 77) rfl)) rfl, rfl, tyX7_ok, nmX7, rfl, rfl⟩
set_option maxRecDepth 20000 in
theorem fl_X7_35 : bl_fl RX7 35 7 5 0 := ⟨RX7, TX7, 6, rfl, Nat.le_of_ble_eq_true rfl, in_X7, bl_in_tb (bl_t1 (List.mem_of_getElem? (i := 78) rfl)) rfl, rfl⟩
set_option maxRecDepth 20000 in
theorem fp_X7_35 : bl_fp RX7 35 7 5 0 .int := ⟨RX7, TX7, 6, tyX7, rfl, Nat.le_of_ble_eq_true rfl, in_X7, bl_in_tb (bl_t1 (List.mem_of_getElem? (i := 78) rfl)) rfl, rfl, tyX7_ok, nmX7, rfl, rfl⟩
set_option maxRecDepth 20000 in
theorem fl_X5_9 : bl_fl RX5 9 5 0 2 := ⟨RX5, TX5, 2, rfl, Nat.le_of_ble_eq_true rfl, in_X5, bl_in_tb (bl_t1 (List.mem_of_getElem? (i := 98) rfl)) rfl, rfl⟩
set_option maxRecDepth 20000 in
theorem fl_X5_32 : bl_fl RX5 32 5 1 0 := ⟨RX5, TX5, 2, rfl, Nat.le_of_ble_eq_true rfl, in_X5, bl_in_tb (bl_t1 (List.mem_of_getElem? (i := 99) rfl)) rfl, rfl⟩
set_option maxRecDepth 20000 in
theorem fp_X5_32 : bl_fp RX5 32 5 1 0 .int := ⟨RX5, TX5, 2, tyX5, rfl, Nat.le_of_ble_eq_true rfl, in_X5, bl_in_tb (bl_t1 (List.mem_of_getElem? (i := 99) rfl)) rfl, rfl, tyX5_ok, nmX5, rfl, rfl⟩
set_option maxRecDepth 20000 in
theorem fl_X9_339 : bl_fl RX9 339 5 1 0 := ⟨RX5, TX5, 2, rfl, Nat.le_of_ble_eq_true rfl, in_X5, bl_in_tb (bl_t1 (List.mem_of_getElem? (i := 100) rfl)) rfl, rfl⟩
set_option maxRecDepth 20000 in
theorem fp_X9_339 : bl_fp RX9 339 5 1 0 .int := ⟨RX5, TX5, 2, tyX5, rfl, Nat.le_of_ble_eq_true rfl, in_X5, bl_in_tb (bl_t1 (List.mem_of_getElem? (i := 100) rfl)) rfl, rfl, tyX5_ok, nmX5, rfl, rfl⟩
set_option maxRecDepth 20000 in
theorem fl_X2_18 : bl_fl RX2 18 2 0 0 := ⟨RX2, TX2, 15, rfl, Nat.le_of_ble_eq_true rfl, in_X2, bl_in_tb (bl_t1 (List.mem_of_getElem? (i := 114) rfl)) rfl, rfl⟩
set_option maxRecDepth 20000 in
theorem fp_X2_18 : bl_fp RX2 18 2 0 0 .int := ⟨RX2, TX2, 15, tyX2, rfl, Nat.le_of_ble_eq_true rfl, in_X2, bl_in_tb (bl_t1 (List.mem_of_getElem? (i := 114) rfl)) rfl, rfl, tyX2_ok, nmX2, rfl, rfl⟩
set_option maxRecDepth 20000 in
theorem fl_X9_187 : bl_fl RX9 187 2 0 0 := ⟨RX2, TX2, 15, rfl, Nat.le_of_ble_eq_true rfl, in_X2, bl_in_tb (bl_t1 (List.mem_of_getElem? (i := 115) rfl)) rfl, rfl⟩
set_option maxRecDepth 20000 in
theorem fp_X9_187 : bl_fp RX9 187 2 0 0 .int := ⟨RX2, TX2, 15, tyX2, rfl, Nat.le_of_ble_eq_true rfl, in_X2, bl_in_tb (bl_t1 (List.mem_of_getElem? (i := 115) rfl)) rfl, rfl, tyX2_ok, nmX2, rfl, rfl⟩
set_option maxRecDepth 20000 in
theorem fl_X2_46 : bl_fl RX2 46 2 1 0 := ⟨RX2, TX2, 15, rfl, Nat.le_of_ble_eq_true rfl, in_X2, bl_in_tb (bl_t1 (List.mem_of_getElem? (i := 116) rfl)) rfl, rfl⟩
set_option maxRecDepth 20000 in
theorem fp_X2_46 : bl_fp RX2 46 2 1 0 .boolean := ⟨RX2, TX2, 15, tyX2, rfl, Nat.le_of_ble_eq_true rfl, in_X2, bl_in_tb (bl_t1 (List.mem_of_getElem? (i := 116) rfl)) rfl, rfl, tyX2_ok, nmX2, rfl, rfl⟩
set_option maxRecDepth 20000 in
theorem fl_X9_150 : bl_fl RX9 150 2 1 0 := ⟨RX2, TX2, 15, rfl, Nat.le_of_ble_eq_true rfl, in_X2, bl_in_tb (bl_t1 (List.mem_of_getElem? (i := 117) rfl)) rfl, rfl⟩
set_option maxRecDepth 20000 in
theorem fl_X2_50 : bl_fl RX2 50 2 2 0 := ⟨RX2, TX2, 15, rfl, Nat.le_of_ble_eq_true rfl, in_X2, bl_in_tb (bl_t1 (List.mem_of_getElem? (i := 118) rfl)) rfl, rfl⟩
set_option maxRecDepth 20000 in
theorem fp_X2_50 : bl_fp RX2 50 2 2 0 .int := ⟨RX2, TX2, 15, tyX2, rfl, Nat.le_of_ble_eq_true rfl, in_X2, bl_in_tb (bl_t1 (List.mem_of_getElem? (i := 118) rfl)) rfl, rfl, tyX2_ok, nmX2, rfl, rfl⟩
set_option maxRecDepth 20000 in
theorem fl_X9_203 : bl_fl RX9 203 2 2 0 := ⟨RX2, TX2, 15, rfl, Nat.le_of_ble_eq_true rfl, in_X2, bl_in_tb (bl_t1 (List.mem_of_getElem? (i := 119) rfl)) rfl, rfl⟩
set_option maxRecDepth 20000 in
theorem fl_X2_53 : bl_fl RX2 53 2 3 0 := ⟨RX2, TX2, 15, rfl, Nat.le_of_ble_eq_true rfl, in_X2, bl_in_tb (bl_t1 (List.mem_of_getElem? (i := 120) rfl)) rfl, rfl⟩
set_option maxRecDepth 20000 in
theorem fp_X2_53 : bl_fp RX2 53 2 3 0 .int := ⟨RX2, TX2, 15, tyX2, rfl, Nat.le_of_ble_eq_true rfl, in_X2, bl_in_tb (bl_t1 (List.mem_of_getElem? (i := 120) rfl)) rfl, rfl, tyX2_ok, nmX2, rfl, rfl⟩
set_option maxRecDepth 20000 in
theorem fl_X9_206 : bl_fl RX9 206 2 3 0 := ⟨RX2, TX2, 15, rfl, Nat.le_of_ble_eq_true rfl, in_X2, bl_in_tb (bl_t1 (List.mem_of_getElem? (i := 121) rfl)) rfl, rfl⟩
set_option maxRecDepth 20000 in
theorem fl_X2_56 : bl_fl RX2 56 2 4 0 := ⟨RX2, TX2, 15, rfl, Nat.le_of_ble_eq_true rfl, in_X2, bl_in_tb (bl_t1 (List.mem_of_getElem? (i := 122) rfl)) rfl, rfl⟩
set_option maxRecDepth 20000 in
theorem fp_X2_56 : bl_fp RX2 56 2 4 0 .boolean := ⟨RX2, TX2, 15, tyX2, rfl, Nat.le_of_ble_eq_true rfl, in_X2, bl_in_tb (bl_t1 (List.mem_of_getElem? (i := 122) rfl)) rfl, rfl, tyX2_ok, nmX2, rfl, rfl⟩
set_option maxRecDepth 20000 in
theorem fl_X9_209 : bl_fl RX9 209 2 4 0 := ⟨RX2, TX2, 15, rfl, Nat.le_of_ble_eq_true rfl, in_X2, bl_in_tb (bl_t1 (List.mem_of_getElem? (i := 123) rfl)) rfl, rfl⟩
set_option maxRecDepth 20000 in
theorem fl_X2_59 : bl_fl RX2 59 2 5 0 := ⟨RX2, TX2, 15, rfl, Nat.le_of_ble_eq_true rfl, in_X2, bl_in_tb (bl_t1 (List.mem_of_getElem? (i := 124) rfl)) rfl, rfl⟩
set_option maxRecDepth 20000 in
theorem fp_X2_59 : bl_fp RX2 59 2 5 0 .int := ⟨RX2, TX2, 15, tyX2, rfl, Nat.le_of_ble_eq_true rfl, in_X2, bl_in_tb (bl_t1 (List.mem_of_getElem? (i := 124) rfl)) rfl, rfl, tyX2_ok, nmX2, rfl, rfl⟩
set_option maxRecDepth 20000 in
theorem fl_X2_22 : bl_fl RX2 22 2 6 0 := ⟨RX2, TX2, 15, rfl, Nat.le_of_ble_eq_true rfl, in_X2, bl_in_tb (bl_t1 (List.mem_of_getElem? (i := 125) rfl)) rfl, rfl⟩
set_option maxRecDepth 20000 in
theorem fp_X2_22 : bl_fp RX2 22 2 6 0 .int := ⟨RX2, TX2, 15, tyX2, rfl, Nat.le_of_ble_eq_true rfl, in_X2, bl_in_tb (bl_t1 (List.mem_of_getElem? (i := 125) rfl)) rfl, rfl, tyX2_ok, nmX2, rfl, rfl⟩
set_option maxRecDepth 20000 in
theorem fl_X9_190 : bl_fl RX9 190 2 6 0 := ⟨RX2, TX2, 15, rfl, Nat.le_of_ble_eq_true rfl, in_X2, bl_in_tb (bl_t1 (List.mem_of_getElem? (i := 126) rfl)) rfl, rfl⟩
set_option maxRecDepth 20000 in
theorem fl_X2_25 : bl_fl RX2 25 2 7 0 := ⟨RX2, TX2, 15, rfl, Nat.le_of_ble_eq_true rfl, in_X2, bl_in_tb (bl_t1 (List.mem_of_getElem? (i := 127) rfl)) rfl, rfl⟩
set_option maxRecDepth 20000 in
theorem fp_X2_25 : bl_fp RX2 25 2 7 0 .int := ⟨RX2, TX2, 15, tyX2, rfl, Nat.le_of_ble_eq_true rfl, in_X2, bl_in_tb (bl_t1 (List.mem_of_getElem? (i := 127) rfl)) rfl, rfl, tyX2_ok, nmX2, rfl, rfl⟩
set_option maxRecDepth 20000 in
theorem fl_X9_212 : bl_fl RX9 212 2 7 0 := ⟨RX2, TX2, 15, rfl, Nat.le_of_ble_eq_true rfl, in_X2, bl_in_tb (bl_t1 (List.mem_of_getElem? (i := 128) rfl)) rfl, rfl⟩
set_option maxRecDepth 20000 in
theorem fl_X2_28 : bl_fl RX2 28 2 8 0 := ⟨RX2, TX2, 15, rfl, Nat.le_of_ble_eq_true rfl, in_X2, bl_in_tb (bl_t1 (List.mem_of_getElem? (i := 129) rfl)) rfl, rfl⟩
set_option maxRecDepth 20000 in
theorem fp_X2_28 : bl_fp RX2 28 2 8 0 .int := ⟨RX2, TX2, 15, tyX2, rfl, Nat.le_of_ble_eq_true rfl, in_X2, bl_in_tb (bl_t1 (List.mem_of_getElem? (i := 129) rfl)) rfl, rfl, tyX2_ok, nmX2, rfl, rfl⟩
set_option maxRecDepth 20000 in
theorem fl_X9_215 : bl_fl RX9 215 2 8 0 := ⟨RX2, TX2, 15, rfl, Nat.le_of_ble_eq_true rfl, in_X2, bl_in_tb (bl_t1 (List.mem_of_getElem? (i := 130) rfl)) rfl, rfl⟩
set_option maxRecDepth 20000 in
theorem fl_X2_31 : bl_fl RX2 31 2 9 0 := ⟨RX2, TX2, 15, rfl, Nat.le_of_ble_eq_true rfl, in_X2, bl_in_tb (bl_t1 (List.mem_of_getElem? (i := 131) rfl)) rfl, rfl⟩
set_option maxRecDepth 20000 in
theorem fp_X2_31 : bl_fp RX2 31 2 9 0 .int := ⟨RX2, TX2, 15, tyX2, rfl, Nat.le_of_ble_eq_true rfl, in_X2, bl_in_tb (bl_t1 (List.mem_of_getElem? (i := 131) rfl)) rfl, rfl, tyX2_ok, nmX2, rfl, rfl⟩
set_option maxRecDepth 20000 in
theorem fl_X9_218 : bl_fl RX9 218 2 9 0 := ⟨RX2, TX2, 15, rfl, Nat.le_of_ble_eq_true rfl, in_X2, bl_in_tb (bl_t1 (List.mem_of_getElem? (i := 132) rfl)) rfl, rfl⟩
set_option maxRecDepth 20000 in
theorem fl_X2_34 : bl_fl RX2 34 2 10 0 := ⟨RX2, TX2, 15, rfl, Nat.le_of_ble_eq_true rfl, in_X2, bl_in_tb (bl_t1 (List.mem_of_getElem? (i := 133) rfl)) rfl, rfl⟩
set_option maxRecDepth 20000 in
theorem fp_X2_34 : bl_fp RX2 34 2 10 0 .int := ⟨RX2, TX2, 15, tyX2, rfl, Nat.le_of_ble_eq_true rfl, in_X2, bl_in_tb (bl_t1 (List.mem_of_getElem? (i := 133) rfl)) rfl, rfl, tyX2_ok, nmX2, rfl, rfl⟩
set_option maxRecDepth 20000 in
theorem fl_X9_221 : bl_fl RX9 221 2 10 0 := ⟨RX2, TX2, 15, rfl, Nat.le_of_ble_eq_true rfl, in_X2, bl_in_tb (bl_t1 (List.mem_of_getElem? (i := 134) rfl)) rfl, rfl⟩
set_option maxRecDepth 20000 in
theorem fl_X2_37 : bl_fl RX2 37 2 11 0 := ⟨RX2, TX2, 15, rfl, Nat.le_of_ble_eq_true rfl, in_X2, bl_in_tb (bl_t1 (List.mem_of_getElem? (i := 135) rfl)) rfl, rfl⟩
set_option maxRecDepth 20000 in
theorem fp_X2_37 : bl_fp RX2 37 2 11 0 .int := ⟨RX2, TX2, 15, tyX2, rfl, Nat.le_of_ble_eq_true rfl, in_X2, bl_in_tb (bl_t1 (List.mem_of_getElem? (i := 135) rfl)) rfl, rfl, tyX2_ok, nmX2, rfl, rfl⟩
set_option maxRecDepth 20000 in
theorem fl_X9_224 : bl_fl RX9 224 2 11 0 := ⟨RX2, TX2, 15, rfl, Nat.le_of_ble_eq_true rfl, in_X2, bl_in_tb (bl_t1 (List.mem_of_getElem? (i := 136) rfl)) rfl, rfl⟩
set_option maxRecDepth 20000 in
theorem fl_X2_40 : bl_fl RX2 40 2 12 0 := ⟨RX2, TX2, 15, rfl, Nat.le_of_ble_eq_true rfl, in_X2, bl_in_tb (bl_t1 (List.mem_of_getElem? (i := 137) rfl)) rfl, rfl⟩
set_option maxRecDepth 20000 in
theorem fp_X2_40 : bl_fp RX2 40 2 12 0 .int := ⟨RX2, TX2, 15, tyX2, rfl, Nat.le_of_ble_eq_true rfl, in_X2, bl_in_tb (bl_t1 (List.mem_of_getElem? (i := 137) rfl)) rfl, rfl, tyX2_ok, nmX2, rfl, rfl⟩
set_option maxRecDepth 20000 in
theorem fl_X9_227 : bl_fl RX9 227 2 12 0 := ⟨RX2, TX2, 15, rfl, Nat.le_of_ble_eq_true rfl, in_X2, bl_in_tb (bl_t1 (List.mem_of_getElem? (i := 138) rfl)) rfl, rfl⟩
set_option maxRecDepth 20000 in
theorem fl_X2_9 : bl_fl RX2 9 2 13 2 := ⟨RX2, TX2, 15, rfl, Nat.le_of_ble_eq_true rfl, in_X2, bl_in_tb (bl_t1 (List.mem_of_getElem? (i := 139) rfl)) rfl, rfl⟩
set_option maxRecDepth 20000 in
theorem fl_X9_233 : bl_fl RX9 233 2 13 2 := ⟨RX2, TX2, 15, rfl, Nat.le_of_ble_eq_true rfl, in_X2, bl_in_tb (bl_t1 (List.mem_of_getElem? (i := 140) rfl)) rfl, rfl⟩
set_option maxRecDepth 20000 in
theorem fl_X2_15 : bl_fl RX2 15 2 14 2 := ⟨RX2, TX2, 15, rfl, Nat.le_of_ble_eq_true rfl, in_X2, bl_in_tb (bl_t1 (List.mem_of_getElem? (i := 141) rfl)) rfl, rfl⟩
set_option maxRecDepth 20000 in
theorem fl_X9_240 : bl_fl RX9 240 2 14 2 := ⟨RX2, TX2, 15, rfl, Nat.le_of_ble_eq_true rfl, in_X2, bl_in_tb (bl_t1 (List.mem_of_getElem? (i := 142) rfl)) rfl, rfl⟩
set_option maxRecDepth 20000 in
theorem fl_X6_11 : bl_fl RX6 11 6 0 2 := ⟨RX6, TX6, 4, rfl, Nat.le_of_ble_eq_true rfl, in_X6, bl_in_tb (bl_t1 (List.mem_of_getElem? (i := 186) rfl)) rfl, rfl⟩
set_option maxRecDepth 20000 in
theorem fl_X6_19 : bl_fl RX6 19 6 1 2 := ⟨RX6, TX6, 4, rfl, Nat.le_of_ble_eq_true rfl, in_X6, bl_in_tb (bl_t1 (List.mem_of_getElem? (i := 187) rfl)) rfl, rfl⟩
set_option maxRecDepth 20000 in
theorem fl_X6_25 : bl_fl RX6 25 6 2 0 := ⟨RX6, TX6, 4, rfl, Nat.le_of_ble_eq_true rfl, in_X6, bl_in_tb (bl_t1 (List.mem_of_getElem? (i := 188) rfl)) rfl, rfl⟩
set_option maxRecDepth 20000 in
theorem fp_X6_25 : bl_fp RX6 25 6 2 0 .int := ⟨RX6, TX6, 4, tyX6, rfl, Nat.le_of_ble_eq_true rfl, in_X6, bl_in_tb (bl_t1 (List.mem_of_getElem? (i := 188) rfl)) rfl, rfl, tyX6_ok, nmX6, rfl, rfl⟩
set_option maxRecDepth 20000 in
theorem fl_X6_36 : bl_fl RX6 36 6 3 0 := ⟨RX6, TX6, 4, rfl, Nat.le_of_ble_eq_true rfl, in_X6, bl_in_tb (bl_t1 (List.mem_of_getElem? (i := 189) rfl)) rfl, rfl⟩
set_option maxRecDepth 20000 in
theorem fp_X6_36 : bl_fp RX6 36 6 3 0 .int := ⟨RX6, TX6, 4, tyX6, rfl, Nat.le_of_ble_eq_true rfl, in_X6, bl_in_tb (bl_t1 (List.mem_of_getElem? (i := 189) rfl)) rfl, rfl, tyX6_ok, nmX6, rfl, rfl⟩
set_option maxRecDepth 20000 in
theorem fl_X9_197 : bl_fl RX9 197 6 3 0 := ⟨RX6, TX6, 4, rfl, Nat.le_of_ble_eq_true rfl, in_X6, bl_in_tb (bl_t1 (List.mem_of_getElem? (i := 190) rfl)) rfl, rfl⟩
set_option maxRecDepth 20000 in
theorem fl_X3_31 : bl_fl RX3 31 3 0 0 := ⟨RX3, TX3, 8, rfl, Nat.le_of_ble_eq_true rfl, in_X3, bl_in_tb (bl_t1 (List.mem_of_getElem? (i := 212) rfl)) rfl, rfl⟩
set_option maxRecDepth 20000 in
theorem fp_X3_31 : bl_fp RX3 31 3 0 0 .int := ⟨RX3, TX3, 8, tyX3, rfl, Nat.le_of_ble_eq_true rfl, in_X3, bl_in_tb (bl_t1 (List.mem_of_getElem? (i := 212) rfl)) rfl, rfl, tyX3_ok, nmX3, rfl, rfl⟩
set_option maxRecDepth 20000 in
theorem fl_X3_36 : bl_fl RX3 36 3 1 1 := ⟨RX3, TX3, 8, rfl, Nat.le_of_ble_eq_true rfl, in_X3, bl_in_tb (bl_t1 (List.mem_of_getElem? (i := 213) rfl)) rfl, rfl⟩
set_option maxRecDepth 20000 in
theorem fp_X3_36 : bl_fp RX3 36 3 1 1 .long := ⟨RX3, TX3, 8, tyX3, rfl, Nat.le_of_ble_eq_true rfl, in_X3, bl_in_tb (bl_t1 (List.mem_of_getElem? (i := 213) rfl)) rfl, rfl, tyX3_ok, nmX3, rfl, rfl⟩
set_option maxRecDepth 20000 in
theorem fl_X3_42 : bl_fl RX3 42 3 2 1 := ⟨RX3, TX3, 8, rfl, Nat.le_of_ble_eq_true rfl, in_X3, bl_in_tb (bl_t1 (List.mem_of_getElem? (i := 214) rfl)) rfl, rfl⟩
set_option maxRecDepth 20000 in
theorem fp_X3_42 : bl_fp RX3 42 3 2 1 .long := ⟨RX3, TX3, 8, tyX3, rfl, Nat.le_of_ble_eq_true rfl, in_X3, bl_in_tb (bl_t1 (List.mem_of_getElem? (i := 214) rfl)) rfl, rfl, tyX3_ok, nmX3, rfl, rfl⟩
set_option maxRecDepth 20000 in
theorem fl_X3_44 : bl_fl RX3 44 3 3 0 := ⟨RX3, TX3, 8, rfl, Nat.le_of_ble_eq_true rfl, in_X3, bl_in_tb (bl_t1 (List.mem_of_getElem? (i := 215) rfl)) rfl, rfl⟩
set_option maxRecDepth 20000 in
theorem fp_X3_44 : bl_fp RX3 44 3 3 0 .boolean := ⟨RX3, TX3, 8, tyX3, rfl, Nat.le_of_ble_eq_true rfl, in_X3, bl_in_tb (bl_t1 (List.mem_of_getElem? (i := 215) rfl)) rfl, rfl, tyX3_ok, nmX3, rfl, rfl⟩
set_option maxRecDepth 20000 in
theorem fl_X3_9 : bl_fl RX3 9 3 4 2 := ⟨RX3, TX3, 8, rfl, Nat.le_of_ble_eq_true rfl, in_X3, bl_in_tb (bl_t1 (List.mem_of_getElem? (i := 216) rfl)) rfl, rfl⟩
set_option maxRecDepth 20000 in
theorem fl_X3_15 : bl_fl RX3 15 3 5 2 := ⟨RX3, TX3, 8, rfl, Nat.le_of_ble_eq_true rfl, in_X3, bl_in_tb (bl_t1 (List.mem_of_getElem? (i := 217) rfl)) rfl, rfl⟩
set_option maxRecDepth 20000 in
theorem fl_X3_18 : bl_fl RX3 18 3 6 2 := ⟨RX3, TX3, 8, rfl, Nat.le_of_ble_eq_true rfl, in_X3, bl_in_tb (bl_t1 (List.mem_of_getElem? (i := 218) rfl)) rfl, rfl⟩
set_option maxRecDepth 20000 in
theorem fl_X3_21 : bl_fl RX3 21 3 7 2 := ⟨RX3, TX3, 8, rfl, Nat.le_of_ble_eq_true rfl, in_X3, bl_in_tb (bl_t1 (List.mem_of_getElem? (i := 219) rfl)) rfl, rfl⟩
set_option maxRecDepth 20000 in
theorem fl_X4_25 : bl_fl RX4 25 4 0 2 := ⟨RX4, TX4, 12, rfl, Nat.le_of_ble_eq_true rfl, in_X4, bl_in_tb (bl_t1 (List.mem_of_getElem? (i := 238) rfl)) rfl, rfl⟩
set_option maxRecDepth 20000 in
theorem fp_X4_25 : bl_fp RX4 25 4 0 2 (.object "BonusLadder$Terms") := ⟨RX4, TX4, 12, tyX4, rfl, Nat.le_of_ble_eq_true rfl, in_X4, bl_in_tb (bl_t1 (List.mem_of_getElem? (i := 238) rfl)) rfl, rfl, tyX4_ok, nmX4, rfl, rfl⟩
set_option maxRecDepth 20000 in
theorem fl_X4_29 : bl_fl RX4 29 4 1 0 := ⟨RX4, TX4, 12, rfl, Nat.le_of_ble_eq_true rfl, in_X4, bl_in_tb (bl_t1 (List.mem_of_getElem? (i := 239) rfl)) rfl, rfl⟩
set_option maxRecDepth 20000 in
theorem fp_X4_29 : bl_fp RX4 29 4 1 0 .boolean := ⟨RX4, TX4, 12, tyX4, rfl, Nat.le_of_ble_eq_true rfl, in_X4, bl_in_tb (bl_t1 (List.mem_of_getElem? (i := 239) rfl)) rfl, rfl, tyX4_ok, nmX4, rfl, rfl⟩
set_option maxRecDepth 20000 in
theorem fl_X4_37 : bl_fl RX4 37 4 2 0 := ⟨RX4, TX4, 12, rfl, Nat.le_of_ble_eq_true rfl, in_X4, bl_in_tb (bl_t2 (List.mem_of_getElem? (i := 0) rfl)) rfl, rfl⟩
set_option maxRecDepth 20000 in
theorem fp_X4_37 : bl_fp RX4 37 4 2 0 .int := ⟨RX4, TX4, 12, tyX4, rfl, Nat.le_of_ble_eq_true rfl, in_X4, bl_in_tb (bl_t2 (List.mem_of_getElem? (i := 0) rfl)) rfl, rfl, tyX4_ok, nmX4, rfl, rfl⟩
set_option maxRecDepth 20000 in
theorem fl_X9_379 : bl_fl RX9 379 4 2 0 := ⟨RX4, TX4, 12, rfl, Nat.le_of_ble_eq_true rfl, in_X4, bl_in_tb (bl_t2 (List.mem_of_getElem? (i := 1) rfl)) rfl, rfl⟩
set_option maxRecDepth 20000 in
theorem fp_X9_379 : bl_fp RX9 379 4 2 0 .int := ⟨RX4, TX4, 12, tyX4, rfl, Nat.le_of_ble_eq_true rfl, in_X4, bl_in_tb (bl_t2 (List.mem_of_getElem? (i := 1) rfl)) rfl, rfl, tyX4_ok, nmX4, rfl, rfl⟩
set_option maxRecDepth 20000 in
theorem fl_X4_40 : bl_fl RX4 40 4 3 0 := ⟨RX4, TX4, 12, rfl, Nat.le_of_ble_eq_true rfl, in_X4, bl_in_tb (bl_t2 (List.mem_of_getElem? (i := 2) rfl)) rfl, rfl⟩
set_option maxRecDepth 20000 in
theorem fp_X4_40 : bl_fp RX4 40 4 3 0 .int := ⟨RX4, TX4, 12, tyX4, rfl, Nat.le_of_ble_eq_true rfl, in_X4, bl_in_tb (bl_t2 (List.mem_of_getElem? (i := 2) rfl)) rfl, rfl, tyX4_ok, nmX4, rfl, rfl⟩
set_option maxRecDepth 20000 in
theorem fl_X9_382 : bl_fl RX9 382 4 3 0 := ⟨RX4, TX4, 12, rfl, Nat.le_of_ble_eq_true rfl, in_X4, bl_in_tb (bl_t2 (List.mem_of_getElem? (i := 3) rfl)) rfl, rfl⟩
set_option maxRecDepth 20000 in
theorem fp_X9_382 : bl_fp RX9 382 4 3 0 .int := ⟨RX4, TX4, 12, tyX4, rfl, Nat.le_of_ble_eq_true rfl, in_X4, bl_in_tb (bl_t2 (List.mem_of_getElem? (i := 3) rfl)) rfl, rfl, tyX4_ok, nmX4, rfl, rfl⟩
set_option maxRecDepth 20000 in
theorem fl_X4_43 : bl_fl RX4 43 4 4 0 := ⟨RX4, TX4, 12, rfl, Nat.le_of_ble_eq_true rfl, in_X4, bl_in_tb (bl_t2 (List.mem_of_getElem? (i := 4) rfl)) rfl, rfl⟩
set_option maxRecDepth 20000 in
theorem fp_X4_43 : bl_fp RX4 43 4 4 0 .boolean := ⟨RX4, TX4, 12, tyX4, rfl, Nat.le_of_ble_eq_true rfl, in_X4, bl_in_tb (bl_t2 (List.mem_of_getElem? (i := 4) rfl)) rfl, rfl, tyX4_ok, nmX4, rfl, rfl⟩
set_option maxRecDepth 20000 in
theorem fl_X9_291 : bl_fl RX9 291 4 4 0 := ⟨RX4, TX4, 12, rfl, Nat.le_of_ble_eq_true rfl, in_X4, bl_in_tb (bl_t2 (List.mem_of_getElem? (i := 5) rfl)) rfl, rfl⟩
set_option maxRecDepth 20000 in
theorem fp_X9_291 : bl_fp RX9 291 4 4 0 .boolean := ⟨RX4, TX4, 12, tyX4, rfl, Nat.le_of_ble_eq_true rfl, in_X4, bl_in_tb (bl_t2 (List.mem_of_getElem? (i := 5) rfl)) rfl, rfl, tyX4_ok, nmX4, rfl, rfl⟩
set_option maxRecDepth 20000 in
theorem fl_X4_33 : bl_fl RX4 33 4 5 0 := ⟨RX4, TX4, 12, rfl, Nat.le_of_ble_eq_true rfl, in_X4, bl_in_tb (bl_t2 (List.mem_of_getElem? (i := 6) rfl)) rfl, rfl⟩
set_option maxRecDepth 20000 in
theorem fp_X4_33 : bl_fp RX4 33 4 5 0 .int := ⟨RX4, TX4, 12, tyX4, rfl, Nat.le_of_ble_eq_true rfl, in_X4, bl_in_tb (bl_t2 (List.mem_of_getElem? (i := 6) rfl)) rfl, rfl, tyX4_ok, nmX4, rfl, rfl⟩
set_option maxRecDepth 20000 in
theorem fl_X9_385 : bl_fl RX9 385 4 5 0 := ⟨RX4, TX4, 12, rfl, Nat.le_of_ble_eq_true rfl, in_X4, bl_in_tb (bl_t2 (List.mem_of_getElem? (i := 7) rfl)) rfl, rfl⟩
set_option maxRecDepth 20000 in
theorem fp_X9_385 : bl_fp RX9 385 4 5 0 .int := ⟨RX4, TX4, 12, tyX4, rfl, Nat.le_of_ble_eq_true rfl, in_X4, bl_in_tb (bl_t2 (List.mem_of_getElem? (i := 7) rfl)) rfl, rfl, tyX4_ok, nmX4, rfl, rfl⟩
set_option maxRecDepth 20000 in
theorem fl_X4_46 : bl_fl RX4 46 4 6 0 := ⟨RX4, TX4, 12, rfl, Nat.le_of_ble_eq_true rfl, in_X4, bl_in_tb (bl_t2 (List.mem_of_getElem? (i := 8) rfl)) rfl, rfl⟩
set_option maxRecDepth 20000 in
theorem fp_X4_46 : bl_fp RX4 46 4 6 0 .int := ⟨RX4, TX4, 12, tyX4, rfl, Nat.le_of_ble_eq_true rfl, in_X4, bl_in_tb (bl_t2 (List.mem_of_getElem? (i := 8) rfl)) rfl, rfl, tyX4_ok, nmX4, rfl, rfl⟩
set_option maxRecDepth 20000 in
theorem fl_X9_388 : bl_fl RX9 388 4 6 0 := ⟨RX4, TX4, 12, rfl, Nat.le_of_ble_eq_true rfl, in_X4, bl_in_tb (bl_t2 (List.mem_of_getElem? (i := 9) rfl)) rfl, rfl⟩
set_option maxRecDepth 20000 in
theorem fp_X9_388 : bl_fp RX9 388 4 6 0 .int := ⟨RX4, TX4, 12, tyX4, rfl, Nat.le_of_ble_eq_true rfl, in_X4, bl_in_tb (bl_t2 (List.mem_of_getElem? (i := 9) rfl)) rfl, rfl, tyX4_ok, nmX4, rfl, rfl⟩
set_option maxRecDepth 20000 in
theorem fl_X4_49 : bl_fl RX4 49 4 7 0 := ⟨RX4, TX4, 12, rfl, Nat.le_of_ble_eq_true rfl, in_X4, bl_in_tb (bl_t2 (List.mem_of_getElem? (i := 10) rfl)) rfl, rfl⟩
set_option maxRecDepth 20000 in
theorem fp_X4_49 : bl_fp RX4 49 4 7 0 .int := ⟨RX4, TX4, 12, tyX4, rfl, Nat.le_of_ble_eq_true rfl, in_X4, bl_in_tb (bl_t2 (List.mem_of_getElem? (i := 10) rfl)) rfl, rfl, tyX4_ok, nmX4, rfl, rfl⟩
set_option maxRecDepth 20000 in
theorem fl_X4_58 : bl_fl RX4 58 4 8 0 := ⟨RX4, TX4, 12, rfl, Nat.le_of_ble_eq_true rfl, in_X4, bl_in_tb (bl_t2 (List.mem_of_getElem? (i := 11) rfl)) rfl, rfl⟩
set_option maxRecDepth 20000 in
theorem fp_X4_58 : bl_fp RX4 58 4 8 0 .int := ⟨RX4, TX4, 12, tyX4, rfl, Nat.le_of_ble_eq_true rfl, in_X4, bl_in_tb (bl_t2 (List.mem_of_getElem? (i := 11) rfl)) rfl, rfl, tyX4_ok, nmX4, rfl, rfl⟩
set_option maxRecDepth 20000 in
theorem fl_X4_12 : bl_fl RX4 12 4 9 2 := ⟨RX4, TX4, 12, rfl, Nat.le_of_ble_eq_true rfl, in_X4, bl_in_tb (bl_t2 (List.mem_of_getElem? (i := 12) rfl)) rfl, rfl⟩
set_option maxRecDepth 20000 in
theorem fl_X4_18 : bl_fl RX4 18 4 10 2 := ⟨RX4, TX4, 12, rfl, Nat.le_of_ble_eq_true rfl, in_X4, bl_in_tb (bl_t2 (List.mem_of_getElem? (i := 13) rfl)) rfl, rfl⟩
set_option maxRecDepth 20000 in
theorem fl_X4_22 : bl_fl RX4 22 4 11 2 := ⟨RX4, TX4, 12, rfl, Nat.le_of_ble_eq_true rfl, in_X4, bl_in_tb (bl_t2 (List.mem_of_getElem? (i := 14) rfl)) rfl, rfl⟩
set_option maxRecDepth 20000 in
theorem fl_X1_9 : bl_fl RX1 9 1 0 2 := ⟨RX1, TX1, 4, rfl, Nat.le_of_ble_eq_true rfl, in_X1, bl_in_tb (bl_t2 (List.mem_of_getElem? (i := 48) rfl)) rfl, rfl⟩
set_option maxRecDepth 20000 in
theorem fp_X1_9 : bl_fp RX1 9 1 0 2 (.array .long) := ⟨RX1, TX1, 4, tyX1, rfl, Nat.le_of_ble_eq_true rfl, in_X1, bl_in_tb (bl_t2 (List.mem_of_getElem? (i := 48) rfl)) rfl, rfl, tyX1_ok, nmX1, rfl, rfl⟩
set_option maxRecDepth 20000 in
theorem fl_X1_15 : bl_fl RX1 15 1 1 2 := ⟨RX1, TX1, 4, rfl, Nat.le_of_ble_eq_true rfl, in_X1, bl_in_tb (bl_t2 (List.mem_of_getElem? (i := 49) rfl)) rfl, rfl⟩
set_option maxRecDepth 20000 in
theorem fp_X1_15 : bl_fp RX1 15 1 1 2 (.array .long) := ⟨RX1, TX1, 4, tyX1, rfl, Nat.le_of_ble_eq_true rfl, in_X1, bl_in_tb (bl_t2 (List.mem_of_getElem? (i := 49) rfl)) rfl, rfl, tyX1_ok, nmX1, rfl, rfl⟩
set_option maxRecDepth 20000 in
theorem fl_X1_18 : bl_fl RX1 18 1 2 2 := ⟨RX1, TX1, 4, rfl, Nat.le_of_ble_eq_true rfl, in_X1, bl_in_tb (bl_t2 (List.mem_of_getElem? (i := 50) rfl)) rfl, rfl⟩
set_option maxRecDepth 20000 in
theorem fl_X1_24 : bl_fl RX1 24 1 3 2 := ⟨RX1, TX1, 4, rfl, Nat.le_of_ble_eq_true rfl, in_X1, bl_in_tb (bl_t2 (List.mem_of_getElem? (i := 51) rfl)) rfl, rfl⟩
set_option maxRecDepth 20000 in
theorem fl_X0_9 : bl_fl RX0 9 0 0 0 := ⟨RX0, TX0, 1, rfl, Nat.le_of_ble_eq_true rfl, in_X0, bl_in_tb (bl_t2 (List.mem_of_getElem? (i := 67) rfl)) rfl, rfl⟩
set_option maxRecDepth 20000 in
theorem fp_X0_9 : bl_fp RX0 9 0 0 0 .int := ⟨RX0, TX0, 1, tyX0, rfl, Nat.le_of_ble_eq_true rfl, in_X0, bl_in_tb (bl_t2 (List.mem_of_getElem? (i := 67) rfl)) rfl, rfl, tyX0_ok, nmX0, rfl, rfl⟩
set_option maxRecDepth 20000 in
theorem fl_X9_397 : bl_fl RX9 397 0 0 0 := ⟨RX0, TX0, 1, rfl, Nat.le_of_ble_eq_true rfl, in_X0, bl_in_tb (bl_t2 (List.mem_of_getElem? (i := 68) rfl)) rfl, rfl⟩
set_option maxRecDepth 20000 in
theorem fp_X9_397 : bl_fp RX9 397 0 0 0 .int := ⟨RX0, TX0, 1, tyX0, rfl, Nat.le_of_ble_eq_true rfl, in_X0, bl_in_tb (bl_t2 (List.mem_of_getElem? (i := 68) rfl)) rfl, rfl, tyX0_ok, nmX0, rfl, rfl⟩
set_option maxRecDepth 20000 in
theorem fl_X9_10 : bl_fl RX9 10 9 0 2 := ⟨RX9, TX9, 13, rfl, Nat.le_of_ble_eq_true rfl, in_X9, bl_in_tb (bl_t2 (List.mem_of_getElem? (i := 72) rfl)) rfl, rfl⟩
set_option maxRecDepth 20000 in
theorem fl_X9_19 : bl_fl RX9 19 9 1 2 := ⟨RX9, TX9, 13, rfl, Nat.le_of_ble_eq_true rfl, in_X9, bl_in_tb (bl_t2 (List.mem_of_getElem? (i := 73) rfl)) rfl, rfl⟩
set_option maxRecDepth 20000 in
theorem fl_X9_26 : bl_fl RX9 26 9 2 2 := ⟨RX9, TX9, 13, rfl, Nat.le_of_ble_eq_true rfl, in_X9, bl_in_tb (bl_t2 (List.mem_of_getElem? (i := 74) rfl)) rfl, rfl⟩
set_option maxRecDepth 20000 in
theorem fl_X9_30 : bl_fl RX9 30 9 3 2 := ⟨RX9, TX9, 13, rfl, Nat.le_of_ble_eq_true rfl, in_X9, bl_in_tb (bl_t2 (List.mem_of_getElem? (i := 75) rfl)) rfl, rfl⟩
set_option maxRecDepth 20000 in
theorem fl_X9_36 : bl_fl RX9 36 9 4 2 := ⟨RX9, TX9, 13, rfl, Nat.le_of_ble_eq_true rfl, in_X9, bl_in_tb (bl_t2 (List.mem_of_getElem? (i := 76) rfl)) rfl, rfl⟩
set_option maxRecDepth 20000 in
theorem fl_X9_40 : bl_fl RX9 40 9 5 2 := ⟨RX9, TX9, 13, rfl, Nat.le_of_ble_eq_true rfl, in_X9, bl_in_tb (bl_t2 (List.mem_of_getElem? (i := 77) rfl)) rfl, rfl⟩
set_option maxRecDepth 20000 in
theorem fl_X9_46 : bl_fl RX9 46 9 6 2 := ⟨RX9, TX9, 13, rfl, Nat.le_of_ble_eq_true rfl, in_X9, bl_in_tb (bl_t2 (List.mem_of_getElem? (i := 78) rfl)) rfl, rfl⟩
set_option maxRecDepth 20000 in
theorem fl_X9_55 : bl_fl RX9 55 9 7 2 := ⟨RX9, TX9, 13, rfl, Nat.le_of_ble_eq_true rfl, in_X9, bl_in_tb (bl_t2 (List.mem_of_getElem? (i := 79) rfl)) rfl, rfl⟩
set_option maxRecDepth 20000 in
theorem fl_X9_59 : bl_fl RX9 59 9 8 2 := ⟨RX9, TX9, 13, rfl, Nat.le_of_ble_eq_true rfl, in_X9, bl_in_tb (bl_t2 (List.mem_of_getElem? (i := 80) rfl)) rfl, rfl⟩
set_option maxRecDepth 20000 in
theorem fl_X9_65 : bl_fl RX9 65 9 9 2 := ⟨RX9, TX9, 13, rfl, Nat.le_of_ble_eq_true rfl, in_X9, bl_in_tb (bl_t2 (List.mem_of_getElem? (i := 81) rfl)) rfl, rfl⟩
set_option maxRecDepth 20000 in
theorem fl_X9_72 : bl_fl RX9 72 9 10 2 := ⟨RX9, TX9, 13, rfl, Nat.le_of_ble_eq_true rfl, in_X9, bl_in_tb (bl_t2 (List.mem_of_getElem? (i := 82) rfl)) rfl, rfl⟩
set_option maxRecDepth 20000 in
theorem fl_X9_76 : bl_fl RX9 76 9 11 2 := ⟨RX9, TX9, 13, rfl, Nat.le_of_ble_eq_true rfl, in_X9, bl_in_tb (bl_t2 (List.mem_of_getElem? (i := 83) rfl)) rfl, rfl⟩
set_option maxRecDepth 20000 in
theorem fl_X9_80 : bl_fl RX9 80 9 12 2 := ⟨RX9, TX9, 13, rfl, Nat.le_of_ble_eq_true rfl, in_X9, bl_in_tb (bl_t2 (List.mem_of_getElem? (i := 84) rfl)) rfl, rfl⟩
set_option maxRecDepth 20000 in
theorem kf_J0_38 : Cond.fieldLink RJ0 38 "java/lang/String" "COMPACT_STRINGS" "Z" ∈ bl_tb := bl_in_tb (bl_t2 (List.mem_of_getElem? (i := 171) rfl)) rfl
set_option maxRecDepth 20000 in
theorem kf_J0_1053 : Cond.fieldLink RJ0 1053 "jdk/internal/util/Preconditions" "SIOOBE_FORMATTER" "Ljava/util/function/BiFunction;" ∈ bl_tb := bl_in_tb (bl_t2 (List.mem_of_getElem? (i := 187) rfl)) rfl
set_option maxRecDepth 20000 in
theorem kf_J2_44 : Cond.fieldLink RJ2 44 "java/lang/StringUTF16" "$assertionsDisabled" "Z" ∈ bl_tb := bl_in_tb (bl_t2 (List.mem_of_getElem? (i := 205) rfl)) rfl
set_option maxRecDepth 20000 in
theorem kf_J2_59 : Cond.fieldLink RJ2 59 "java/lang/StringUTF16" "HI_BYTE_SHIFT" "I" ∈ bl_tb := bl_in_tb (bl_t2 (List.mem_of_getElem? (i := 207) rfl)) rfl
set_option maxRecDepth 20000 in
theorem kf_J2_63 : Cond.fieldLink RJ2 63 "java/lang/StringUTF16" "LO_BYTE_SHIFT" "I" ∈ bl_tb := bl_in_tb (bl_t2 (List.mem_of_getElem? (i := 209) rfl)) rfl
set_option maxRecDepth 20000 in
theorem gs_X9_336 : bl_gs RX9 336 "CLASS_HIGH" := bl_in_tb (bl_t3 (List.mem_of_getElem? (i := 62) rfl)) rfl
set_option maxRecDepth 20000 in
theorem gs_X9_136 : bl_gs RX9 136 "SORT_HIGH" := bl_in_tb (bl_t3 (List.mem_of_getElem? (i := 94) rfl)) rfl
set_option maxRecDepth 20000 in
theorem gs_X9_373 : bl_gs RX9 373 "RULE_LOW" := bl_in_tb (bl_t3 (List.mem_of_getElem? (i := 107) rfl)) rfl
set_option maxRecDepth 20000 in
theorem gs_X9_329 : bl_gs RX9 329 "RULE_HIGH" := bl_in_tb (bl_t3 (List.mem_of_getElem? (i := 108) rfl)) rfl
set_option maxRecDepth 20000 in
theorem fl_X10_13 : bl_fl RX10 13 10 1 2 := ⟨RX10, TX10, 28, rfl, Nat.le_of_ble_eq_true rfl, in_X10, bl_in_tb (bl_t5 (List.mem_of_getElem? (i := 128) rfl)) rfl, rfl⟩
set_option maxRecDepth 20000 in
theorem fl_X10_17 : bl_fl RX10 17 10 2 2 := ⟨RX10, TX10, 28, rfl, Nat.le_of_ble_eq_true rfl, in_X10, bl_in_tb (bl_t5 (List.mem_of_getElem? (i := 129) rfl)) rfl, rfl⟩
set_option maxRecDepth 20000 in
theorem fl_X10_20 : bl_fl RX10 20 10 3 2 := ⟨RX10, TX10, 28, rfl, Nat.le_of_ble_eq_true rfl, in_X10, bl_in_tb (bl_t5 (List.mem_of_getElem? (i := 130) rfl)) rfl, rfl⟩
set_option maxRecDepth 20000 in
theorem fl_X10_23 : bl_fl RX10 23 10 4 2 := ⟨RX10, TX10, 28, rfl, Nat.le_of_ble_eq_true rfl, in_X10, bl_in_tb (bl_t5 (List.mem_of_getElem? (i := 131) rfl)) rfl, rfl⟩
set_option maxRecDepth 20000 in
theorem fl_X10_63 : bl_fl RX10 63 10 5 0 := ⟨RX10, TX10, 28, rfl, Nat.le_of_ble_eq_true rfl, in_X10, bl_in_tb (bl_t5 (List.mem_of_getElem? (i := 132) rfl)) rfl, rfl⟩
set_option maxRecDepth 20000 in
theorem fp_X10_63 : bl_fp RX10 63 10 5 0 .int := ⟨RX10, TX10, 28, tyX10, rfl, Nat.le_of_ble_eq_true rfl, in_X10, bl_in_tb (bl_t5 (List.mem_of_getElem? (i := 132) rfl)) rfl, rfl, tyX10_ok, nmX10, rfl, rfl⟩
set_option maxRecDepth 20000 in
theorem fl_X10_131 : bl_fl RX10 131 10 6 0 := ⟨RX10, TX10, 28, rfl, Nat.le_of_ble_eq_true rfl, in_X10, bl_in_tb (bl_t5 (List.mem_of_getElem? (i := 133) rfl)) rfl, rfl⟩
set_option maxRecDepth 20000 in
theorem fp_X10_131 : bl_fp RX10 131 10 6 0 .int := ⟨RX10, TX10, 28, tyX10, rfl, Nat.le_of_ble_eq_true rfl, in_X10, bl_in_tb (bl_t5 (List.mem_of_getElem? (i := 133) rfl)) rfl, rfl, tyX10_ok, nmX10, rfl, rfl⟩
set_option maxRecDepth 20000 in
theorem fl_X10_26 : bl_fl RX10 26 10 7 2 := ⟨RX10, TX10, 28, rfl, Nat.le_of_ble_eq_true rfl, in_X10, bl_in_tb (bl_t5 (List.mem_of_getElem? (i := 134) rfl)) rfl, rfl⟩
set_option maxRecDepth 20000 in
theorem fl_X10_30 : bl_fl RX10 30 10 8 2 := ⟨RX10, TX10, 28, rfl, Nat.le_of_ble_eq_true rfl, in_X10, bl_in_tb (bl_t5 (List.mem_of_getElem? (i := 135) rfl)) rfl, rfl⟩
set_option maxRecDepth 20000 in
theorem fl_X10_34 : bl_fl RX10 34 10 9 2 := ⟨RX10, TX10, 28, rfl, Nat.le_of_ble_eq_true rfl, in_X10, bl_in_tb (bl_t5 (List.mem_of_getElem? (i := 136) rfl)) rfl, rfl⟩
set_option maxRecDepth 20000 in
theorem fl_X10_214 : bl_fl RX10 214 10 10 0 := ⟨RX10, TX10, 28, rfl, Nat.le_of_ble_eq_true rfl, in_X10, bl_in_tb (bl_t5 (List.mem_of_getElem? (i := 137) rfl)) rfl, rfl⟩
set_option maxRecDepth 20000 in
theorem fp_X10_214 : bl_fp RX10 214 10 10 0 .int := ⟨RX10, TX10, 28, tyX10, rfl, Nat.le_of_ble_eq_true rfl, in_X10, bl_in_tb (bl_t5 (List.mem_of_getElem? (i := 137) rfl)) rfl, rfl, tyX10_ok, nmX10, rfl, rfl⟩
set_option maxRecDepth 20000 in
theorem fl_X10_191 : bl_fl RX10 191 10 11 0 := ⟨RX10, TX10, 28, rfl, Nat.le_of_ble_eq_true rfl, in_X10, bl_in_tb (bl_t5 (List.mem_of_getElem? (i := 138) rfl)) rfl, rfl⟩
set_option maxRecDepth 20000 in
theorem fp_X10_191 : bl_fp RX10 191 10 11 0 .int := ⟨RX10, TX10, 28, tyX10, rfl, Nat.le_of_ble_eq_true rfl, in_X10, bl_in_tb (bl_t5 (List.mem_of_getElem? (i := 138) rfl)) rfl, rfl, tyX10_ok, nmX10, rfl, rfl⟩
set_option maxRecDepth 20000 in
theorem fl_X10_194 : bl_fl RX10 194 10 12 0 := ⟨RX10, TX10, 28, rfl, Nat.le_of_ble_eq_true rfl, in_X10, bl_in_tb (bl_t5 (List.mem_of_getElem? (i := 139) rfl)) rfl, rfl⟩
set_option maxRecDepth 20000 in
theorem fp_X10_194 : bl_fp RX10 194 10 12 0 .int := ⟨RX10, TX10, 28, tyX10, rfl, Nat.le_of_ble_eq_true rfl, in_X10, bl_in_tb (bl_t5 (List.mem_of_getElem? (i := 139) rfl)) rfl, rfl, tyX10_ok, nmX10, rfl, rfl⟩
set_option maxRecDepth 20000 in
theorem fl_X10_197 : bl_fl RX10 197 10 13 0 := ⟨RX10, TX10, 28, rfl, Nat.le_of_ble_eq_true rfl, in_X10, bl_in_tb (bl_t5 (List.mem_of_getElem? (i := 140) rfl)) rfl, rfl⟩
set_option maxRecDepth 20000 in
theorem fp_X10_197 : bl_fp RX10 197 10 13 0 .boolean := ⟨RX10, TX10, 28, tyX10, rfl, Nat.le_of_ble_eq_true rfl, in_X10, bl_in_tb (bl_t5 (List.mem_of_getElem? (i := 140) rfl)) rfl, rfl, tyX10_ok, nmX10, rfl, rfl⟩
set_option maxRecDepth 20000 in
theorem fl_X10_37 : bl_fl RX10 37 10 14 2 := ⟨RX10, TX10, 28, rfl, Nat.le_of_ble_eq_true rfl, in_X10, bl_in_tb (bl_t5 (List.mem_of_getElem? (i := 141) rfl)) rfl, rfl⟩
set_option maxRecDepth 20000 in
theorem fl_X10_40 : bl_fl RX10 40 10 15 2 := ⟨RX10, TX10, 28, rfl, Nat.le_of_ble_eq_true rfl, in_X10, bl_in_tb (bl_t5 (List.mem_of_getElem? (i := 142) rfl)) rfl, rfl⟩
set_option maxRecDepth 20000 in
theorem fl_X10_43 : bl_fl RX10 43 10 16 2 := ⟨RX10, TX10, 28, rfl, Nat.le_of_ble_eq_true rfl, in_X10, bl_in_tb (bl_t5 (List.mem_of_getElem? (i := 143) rfl)) rfl, rfl⟩
set_option maxRecDepth 20000 in
theorem fl_X10_46 : bl_fl RX10 46 10 17 2 := ⟨RX10, TX10, 28, rfl, Nat.le_of_ble_eq_true rfl, in_X10, bl_in_tb (bl_t5 (List.mem_of_getElem? (i := 144) rfl)) rfl, rfl⟩
set_option maxRecDepth 20000 in
theorem fl_X10_49 : bl_fl RX10 49 10 18 2 := ⟨RX10, TX10, 28, rfl, Nat.le_of_ble_eq_true rfl, in_X10, bl_in_tb (bl_t5 (List.mem_of_getElem? (i := 145) rfl)) rfl, rfl⟩
set_option maxRecDepth 20000 in
theorem fl_X10_291 : bl_fl RX10 291 10 19 0 := ⟨RX10, TX10, 28, rfl, Nat.le_of_ble_eq_true rfl, in_X10, bl_in_tb (bl_t5 (List.mem_of_getElem? (i := 146) rfl)) rfl, rfl⟩
set_option maxRecDepth 20000 in
theorem fp_X10_291 : bl_fp RX10 291 10 19 0 .int := ⟨RX10, TX10, 28, tyX10, rfl, Nat.le_of_ble_eq_true rfl, in_X10, bl_in_tb (bl_t5 (List.mem_of_getElem? (i := 146) rfl)) rfl, rfl, tyX10_ok, nmX10, rfl, rfl⟩
set_option maxRecDepth 20000 in
theorem fl_X10_52 : bl_fl RX10 52 10 20 2 := ⟨RX10, TX10, 28, rfl, Nat.le_of_ble_eq_true rfl, in_X10, bl_in_tb (bl_t5 (List.mem_of_getElem? (i := 147) rfl)) rfl, rfl⟩
set_option maxRecDepth 20000 in
theorem fl_X10_316 : bl_fl RX10 316 10 21 0 := ⟨RX10, TX10, 28, rfl, Nat.le_of_ble_eq_true rfl, in_X10, bl_in_tb (bl_t5 (List.mem_of_getElem? (i := 148) rfl)) rfl, rfl⟩
set_option maxRecDepth 20000 in
theorem fp_X10_316 : bl_fp RX10 316 10 21 0 .int := ⟨RX10, TX10, 28, tyX10, rfl, Nat.le_of_ble_eq_true rfl, in_X10, bl_in_tb (bl_t5 (List.mem_of_getElem? (i := 148) rfl)) rfl, rfl, tyX10_ok, nmX10, rfl, rfl⟩
set_option maxRecDepth 20000 in
theorem fl_X10_55 : bl_fl RX10 55 10 22 2 := ⟨RX10, TX10, 28, rfl, Nat.le_of_ble_eq_true rfl, in_X10, bl_in_tb (bl_t5 (List.mem_of_getElem? (i := 149) rfl)) rfl, rfl⟩
set_option maxRecDepth 20000 in
theorem fl_X10_319 : bl_fl RX10 319 10 23 0 := ⟨RX10, TX10, 28, rfl, Nat.le_of_ble_eq_true rfl, in_X10, bl_in_tb (bl_t5 (List.mem_of_getElem? (i := 150) rfl)) rfl, rfl⟩
set_option maxRecDepth 20000 in
theorem fp_X10_319 : bl_fp RX10 319 10 23 0 .int := ⟨RX10, TX10, 28, tyX10, rfl, Nat.le_of_ble_eq_true rfl, in_X10, bl_in_tb (bl_t5 (List.mem_of_getElem? (i := 150) rfl)) rfl, rfl, tyX10_ok, nmX10, rfl, rfl⟩
set_option maxRecDepth 20000 in
theorem fl_X10_322 : bl_fl RX10 322 10 24 0 := ⟨RX10, TX10, 28, rfl, Nat.le_of_ble_eq_true rfl, in_X10, bl_in_tb (bl_t5 (List.mem_of_getElem? (i := 151) rfl)) rfl, rfl⟩
set_option maxRecDepth 20000 in
theorem fp_X10_322 : bl_fp RX10 322 10 24 0 .int := ⟨RX10, TX10, 28, tyX10, rfl, Nat.le_of_ble_eq_true rfl, in_X10, bl_in_tb (bl_t5 (List.mem_of_getElem? (i := 151) rfl)) rfl, rfl, tyX10_ok, nmX10, rfl, rfl⟩
set_option maxRecDepth 20000 in
theorem fl_X10_328 : bl_fl RX10 328 10 25 0 := ⟨RX10, TX10, 28, rfl, Nat.le_of_ble_eq_true rfl, in_X10, bl_in_tb (bl_t5 (List.mem_of_getElem? (i := 152) rfl)) rfl, rfl⟩
set_option maxRecDepth 20000 in
theorem fp_X10_328 : bl_fp RX10 328 10 25 0 .int := ⟨RX10, TX10, 28, tyX10, rfl, Nat.le_of_ble_eq_true rfl, in_X10, bl_in_tb (bl_t5 (List.mem_of_getElem? (i := 152) rfl)) rfl, rfl, tyX10_ok, nmX10, rfl, rfl⟩
set_option maxRecDepth 20000 in
theorem fl_X10_339 : bl_fl RX10 339 10 26 0 := ⟨RX10, TX10, 28, rfl, Nat.le_of_ble_eq_true rfl, in_X10, bl_in_tb (bl_t5 (List.mem_of_getElem? (i := 153) rfl)) rfl, rfl⟩
set_option maxRecDepth 20000 in
theorem fp_X10_339 : bl_fp RX10 339 10 26 0 .int := ⟨RX10, TX10, 28, tyX10, rfl, Nat.le_of_ble_eq_true rfl, in_X10, bl_in_tb (bl_t5 (List.mem_of_getElem? (i := 153) rfl)) rfl, rfl, tyX10_ok, nmX10, rfl, rfl⟩
set_option maxRecDepth 20000 in
theorem fl_X10_342 : bl_fl RX10 342 10 27 0 := ⟨RX10, TX10, 28, rfl, Nat.le_of_ble_eq_true rfl, in_X10, bl_in_tb (bl_t5 (List.mem_of_getElem? (i := 154) rfl)) rfl, rfl⟩
set_option maxRecDepth 20000 in
theorem fp_X10_342 : bl_fp RX10 342 10 27 0 .boolean := ⟨RX10, TX10, 28, tyX10, rfl, Nat.le_of_ble_eq_true rfl, in_X10, bl_in_tb (bl_t5 (List.mem_of_getElem? (i := 154) rfl)) rfl, rfl, tyX10_ok, nmX10, rfl, rfl⟩
set_option maxRecDepth 20000 in
theorem kf_J0_9 : Cond.fieldLink RJ0 9 "java/lang/String" "value" "[B" ∈ bl_tb := bl_in_tb (bl_t7 (List.mem_of_getElem? (i := 230) rfl)) rfl
set_option maxRecDepth 20000 in
theorem kf_J0_15 : Cond.fieldLink RJ0 15 "java/lang/String" "coder" "B" ∈ bl_tb := bl_in_tb (bl_t7 (List.mem_of_getElem? (i := 231) rfl)) rfl
set_option maxRecDepth 20000 in
theorem mV_X9_feed : bl_mV yX9_feed cX9_feed 6 (Option.some Jvm.ClassFile.FieldType.int) 5 := ⟨bl_in_tb (bl_t2 (List.mem_of_getElem? (i := 113) rfl)) rfl, bl_in_tb (bl_t2 (List.mem_of_getElem? (i := 114) rfl)) rfl, bl_in_tb (bl_t1 (List.mem_of_getElem? (i := 1) rfl)) rfl, bl_in_tb (bl_t2 (List.mem_of_getElem? (i := 115) rfl)) rfl, ⟨by decide +kernel, by decide +kernel, by decide +kernel⟩⟩
set_option maxRecDepth 20000 in
theorem mV_X7_append : bl_mV yX7_append cX7_append 3 (Option.none : Option Jvm.ClassFile.FieldType) 1 := ⟨bl_in_tb (bl_t2 (List.mem_of_getElem? (i := 117) rfl)) rfl, bl_in_tb (bl_t2 (List.mem_of_getElem? (i := 118) rfl)) rfl, bl_in_tb (bl_t1 (List.mem_of_getElem? (i := 2) rfl)) rfl, bl_in_tb (bl_t2 (List.mem_of_getElem? (i := 119) rfl)) rfl, ⟨by decide +kernel, by decide +kernel, by decide +kernel⟩⟩
set_option maxRecDepth 20000 in
theorem mV_X9_back : bl_mV yX9_back cX9_back 2 (Option.some Jvm.ClassFile.FieldType.int) 1 := ⟨bl_in_tb (bl_t2 (List.mem_of_getElem? (i := 121) rfl)) rfl, bl_in_tb (bl_t2 (List.mem_of_getElem? (i := 122) rfl)) rfl, bl_in_tb (bl_t1 (List.mem_of_getElem? (i := 1) rfl)) rfl, bl_in_tb (bl_t2 (List.mem_of_getElem? (i := 123) rfl)) rfl, ⟨by decide +kernel, by decide +kernel, by decide +kernel⟩⟩
set_option maxRecDepth 20000 in
theorem mV_X9_text : bl_mV yX9_text cX9_text 2 (Option.some Jvm.ClassFile.FieldType.int) 0 := ⟨bl_in_tb (bl_t2 (List.mem_of_getElem? (i := 125) rfl)) rfl, bl_in_tb (bl_t2 (List.mem_of_getElem? (i := 126) rfl)) rfl, bl_in_tb (bl_t1 (List.mem_of_getElem? (i := 1) rfl)) rfl, bl_in_tb (bl_t2 (List.mem_of_getElem? (i := 127) rfl)) rfl, ⟨by decide +kernel, by decide +kernel, by decide +kernel⟩⟩
set_option maxRecDepth 20000 in
theorem mV_X7_parse : bl_mV yX7_parse cX7_parse 2 (Option.some Jvm.ClassFile.FieldType.int) 0 := ⟨bl_in_tb (bl_t2 (List.mem_of_getElem? (i := 129) rfl)) rfl, bl_in_tb (bl_t2 (List.mem_of_getElem? (i := 130) rfl)) rfl, bl_in_tb (bl_t1 (List.mem_of_getElem? (i := 2) rfl)) rfl, bl_in_tb (bl_t2 (List.mem_of_getElem? (i := 131) rfl)) rfl, ⟨by decide +kernel, by decide +kernel, by decide +kernel⟩⟩
set_option maxRecDepth 20000 in
theorem mV_X8_clear : bl_mV yX8_clear cX8_clear 1 (Option.none : Option Jvm.ClassFile.FieldType) 0 := ⟨bl_in_tb (bl_t2 (List.mem_of_getElem? (i := 133) rfl)) rfl, bl_in_tb (bl_t2 (List.mem_of_getElem? (i := 134) rfl)) rfl, bl_in_tb (bl_t1 (List.mem_of_getElem? (i := 3) rfl)) rfl, bl_in_tb (bl_t2 (List.mem_of_getElem? (i := 135) rfl)) rfl, ⟨by decide +kernel, by decide +kernel, by decide +kernel⟩⟩
set_option maxRecDepth 20000 in
theorem mV_X7_skipBlanks : bl_mV yX7_skipBlanks cX7_skipBlanks 1 (Option.none : Option Jvm.ClassFile.FieldType) 0 := ⟨bl_in_tb (bl_t2 (List.mem_of_getElem? (i := 138) rfl)) rfl, bl_in_sel (List.mem_of_getElem? (i := 0) rfl) rfl, bl_in_tb (bl_t1 (List.mem_of_getElem? (i := 2) rfl)) rfl, bl_in_tb (bl_t2 (List.mem_of_getElem? (i := 139) rfl)) rfl, ⟨by decide +kernel, by decide +kernel, by decide +kernel⟩⟩
set_option maxRecDepth 20000 in
theorem mV_X7_readPhrase : bl_mV yX7_readPhrase cX7_readPhrase 5 (Option.none : Option Jvm.ClassFile.FieldType) 0 := ⟨bl_in_tb (bl_t2 (List.mem_of_getElem? (i := 142) rfl)) rfl, bl_in_sel (List.mem_of_getElem? (i := 1) rfl) rfl, bl_in_tb (bl_t1 (List.mem_of_getElem? (i := 2) rfl)) rfl, bl_in_tb (bl_t2 (List.mem_of_getElem? (i := 143) rfl)) rfl, ⟨by decide +kernel, by decide +kernel, by decide +kernel⟩⟩
set_option maxRecDepth 20000 in
theorem mS_X7_isLetter : bl_mS yX7_isLetter cX7_isLetter 1 (Option.some Jvm.ClassFile.FieldType.boolean) 1 := ⟨bl_in_tb (bl_t2 (List.mem_of_getElem? (i := 145) rfl)) rfl, bl_in_tb (bl_t1 (List.mem_of_getElem? (i := 2) rfl)) rfl, bl_in_tb (bl_t2 (List.mem_of_getElem? (i := 146) rfl)) rfl, ⟨by decide +kernel, by decide +kernel, by decide +kernel⟩⟩
set_option maxRecDepth 20000 in
theorem mV_X7_kindOf : bl_mV yX7_kindOf cX7_kindOf 4 (Option.some Jvm.ClassFile.FieldType.int) 2 := ⟨bl_in_tb (bl_t2 (List.mem_of_getElem? (i := 149) rfl)) rfl, bl_in_sel (List.mem_of_getElem? (i := 2) rfl) rfl, bl_in_tb (bl_t1 (List.mem_of_getElem? (i := 2) rfl)) rfl, bl_in_tb (bl_t2 (List.mem_of_getElem? (i := 150) rfl)) rfl, ⟨by decide +kernel, by decide +kernel, by decide +kernel⟩⟩
set_option maxRecDepth 20000 in
theorem mS_X9_wordOf : bl_mS yX9_wordOf cX9_wordOf 1 (Option.some (Jvm.ClassFile.FieldType.object "java/lang/String")) 1 := ⟨bl_in_tb (bl_t2 (List.mem_of_getElem? (i := 152) rfl)) rfl, bl_in_tb (bl_t1 (List.mem_of_getElem? (i := 1) rfl)) rfl, bl_in_tb (bl_t2 (List.mem_of_getElem? (i := 153) rfl)) rfl, ⟨by decide +kernel, by decide +kernel, by decide +kernel⟩⟩
set_option maxRecDepth 20000 in
theorem mV_X7_isWord : bl_mV yX7_isWord cX7_isWord 5 (Option.some Jvm.ClassFile.FieldType.boolean) 3 := ⟨bl_in_tb (bl_t2 (List.mem_of_getElem? (i := 161) rfl)) rfl, bl_in_sel (List.mem_of_getElem? (i := 3) rfl) rfl, bl_in_tb (bl_t1 (List.mem_of_getElem? (i := 2) rfl)) rfl, bl_in_tb (bl_t2 (List.mem_of_getElem? (i := 162) rfl)) rfl, ⟨by decide +kernel, by decide +kernel, by decide +kernel⟩⟩
set_option maxRecDepth 20000 in
theorem mV_J0_length_8abf5 : bl_mV yJ0_length_8abf5 cJ0_length_8abf5 1 (Option.some Jvm.ClassFile.FieldType.int) 0 := ⟨bl_in_tb (bl_t2 (List.mem_of_getElem? (i := 164) rfl)) rfl, bl_in_tb (bl_t2 (List.mem_of_getElem? (i := 165) rfl)) rfl, bl_in_tb (bl_t1 (List.mem_of_getElem? (i := 13) rfl)) rfl, bl_in_tb (bl_t2 (List.mem_of_getElem? (i := 166) rfl)) rfl, ⟨by decide +kernel, by decide +kernel, by decide +kernel⟩⟩
set_option maxRecDepth 20000 in
theorem mV_J0_coder_7d493 : bl_mV yJ0_coder_7d493 cJ0_coder_7d493 1 (Option.some Jvm.ClassFile.FieldType.byte) 0 := ⟨bl_in_tb (bl_t2 (List.mem_of_getElem? (i := 168) rfl)) rfl, bl_in_tb (bl_t2 (List.mem_of_getElem? (i := 169) rfl)) rfl, bl_in_tb (bl_t1 (List.mem_of_getElem? (i := 13) rfl)) rfl, bl_in_tb (bl_t2 (List.mem_of_getElem? (i := 170) rfl)) rfl, ⟨by decide +kernel, by decide +kernel, by decide +kernel⟩⟩
set_option maxRecDepth 20000 in
theorem mV_J0_charAt_5068e : bl_mV yJ0_charAt_5068e cJ0_charAt_5068e 2 (Option.some Jvm.ClassFile.FieldType.char) 1 := ⟨bl_in_tb (bl_t2 (List.mem_of_getElem? (i := 174) rfl)) rfl, bl_in_tb (bl_t2 (List.mem_of_getElem? (i := 175) rfl)) rfl, bl_in_tb (bl_t1 (List.mem_of_getElem? (i := 13) rfl)) rfl, bl_in_tb (bl_t2 (List.mem_of_getElem? (i := 176) rfl)) rfl, ⟨by decide +kernel, by decide +kernel, by decide +kernel⟩⟩
set_option maxRecDepth 20000 in
theorem mV_J0_isLatin1_aae02 : bl_mV yJ0_isLatin1_aae02 cJ0_isLatin1_aae02 1 (Option.some Jvm.ClassFile.FieldType.boolean) 0 := ⟨bl_in_tb (bl_t2 (List.mem_of_getElem? (i := 178) rfl)) rfl, bl_in_tb (bl_t2 (List.mem_of_getElem? (i := 179) rfl)) rfl, bl_in_tb (bl_t1 (List.mem_of_getElem? (i := 13) rfl)) rfl, bl_in_tb (bl_t2 (List.mem_of_getElem? (i := 180) rfl)) rfl, ⟨by decide +kernel, by decide +kernel, by decide +kernel⟩⟩
set_option maxRecDepth 20000 in
theorem mS_J1_charAt_3b067 : bl_mS yJ1_charAt_3b067 cJ1_charAt_3b067 2 (Option.some Jvm.ClassFile.FieldType.char) 2 := ⟨bl_in_tb (bl_t2 (List.mem_of_getElem? (i := 182) rfl)) rfl, bl_in_tb (bl_t1 (List.mem_of_getElem? (i := 14) rfl)) rfl, bl_in_tb (bl_t2 (List.mem_of_getElem? (i := 183) rfl)) rfl, ⟨by decide +kernel, by decide +kernel, by decide +kernel⟩⟩
set_option maxRecDepth 20000 in
theorem mS_J0_checkIndex_df160 : bl_mS yJ0_checkIndex_df160 cJ0_checkIndex_df160 2 (Option.none : Option Jvm.ClassFile.FieldType) 2 := ⟨bl_in_tb (bl_t2 (List.mem_of_getElem? (i := 185) rfl)) rfl, bl_in_tb (bl_t1 (List.mem_of_getElem? (i := 13) rfl)) rfl, bl_in_tb (bl_t2 (List.mem_of_getElem? (i := 186) rfl)) rfl, ⟨by decide +kernel, by decide +kernel, by decide +kernel⟩⟩
set_option maxRecDepth 20000 in
theorem mS_J3_checkIndex_8e157 : bl_mS yJ3_checkIndex_8e157 cJ3_checkIndex_8e157 3 (Option.some Jvm.ClassFile.FieldType.int) 3 := ⟨bl_in_tb (bl_t2 (List.mem_of_getElem? (i := 190) rfl)) rfl, bl_in_tb (bl_t1 (List.mem_of_getElem? (i := 15) rfl)) rfl, bl_in_tb (bl_t2 (List.mem_of_getElem? (i := 191) rfl)) rfl, ⟨by decide +kernel, by decide +kernel, by decide +kernel⟩⟩
set_option maxRecDepth 20000 in
theorem mS_J2_charAt_3b067 : bl_mS yJ2_charAt_3b067 cJ2_charAt_3b067 2 (Option.some Jvm.ClassFile.FieldType.char) 2 := ⟨bl_in_tb (bl_t2 (List.mem_of_getElem? (i := 193) rfl)) rfl, bl_in_tb (bl_t1 (List.mem_of_getElem? (i := 16) rfl)) rfl, bl_in_tb (bl_t2 (List.mem_of_getElem? (i := 194) rfl)) rfl, ⟨by decide +kernel, by decide +kernel, by decide +kernel⟩⟩
set_option maxRecDepth 20000 in
theorem mS_J2_checkIndex_2214a : bl_mS yJ2_checkIndex_2214a cJ2_checkIndex_2214a 2 (Option.none : Option Jvm.ClassFile.FieldType) 2 := ⟨bl_in_tb (bl_t2 (List.mem_of_getElem? (i := 196) rfl)) rfl, bl_in_tb (bl_t1 (List.mem_of_getElem? (i := 16) rfl)) rfl, bl_in_tb (bl_t2 (List.mem_of_getElem? (i := 197) rfl)) rfl, ⟨by decide +kernel, by decide +kernel, by decide +kernel⟩⟩
set_option maxRecDepth 20000 in
theorem mS_J2_length_9d52b : bl_mS yJ2_length_9d52b cJ2_length_9d52b 1 (Option.some Jvm.ClassFile.FieldType.int) 1 := ⟨bl_in_tb (bl_t2 (List.mem_of_getElem? (i := 199) rfl)) rfl, bl_in_tb (bl_t1 (List.mem_of_getElem? (i := 16) rfl)) rfl, bl_in_tb (bl_t2 (List.mem_of_getElem? (i := 200) rfl)) rfl, ⟨by decide +kernel, by decide +kernel, by decide +kernel⟩⟩
set_option maxRecDepth 20000 in
theorem mS_J2_getChar_3b067 : bl_mS yJ2_getChar_3b067 cJ2_getChar_3b067 2 (Option.some Jvm.ClassFile.FieldType.char) 2 := ⟨bl_in_tb (bl_t2 (List.mem_of_getElem? (i := 203) rfl)) rfl, bl_in_tb (bl_t1 (List.mem_of_getElem? (i := 16) rfl)) rfl, bl_in_tb (bl_t2 (List.mem_of_getElem? (i := 204) rfl)) rfl, ⟨by decide +kernel, by decide +kernel, by decide +kernel⟩⟩
set_option maxRecDepth 20000 in
theorem mV_X7_isFull : bl_mV yX7_isFull cX7_isFull 2 (Option.some Jvm.ClassFile.FieldType.boolean) 1 := ⟨bl_in_tb (bl_t2 (List.mem_of_getElem? (i := 213) rfl)) rfl, bl_in_sel (List.mem_of_getElem? (i := 4) rfl) rfl, bl_in_tb (bl_t1 (List.mem_of_getElem? (i := 2) rfl)) rfl, bl_in_tb (bl_t2 (List.mem_of_getElem? (i := 214) rfl)) rfl, ⟨by decide +kernel, by decide +kernel, by decide +kernel⟩⟩
set_option maxRecDepth 20000 in
theorem mS_X7_amountOf : bl_mS yX7_amountOf cX7_amountOf 1 (Option.some Jvm.ClassFile.FieldType.int) 1 := ⟨bl_in_tb (bl_t2 (List.mem_of_getElem? (i := 216) rfl)) rfl, bl_in_tb (bl_t1 (List.mem_of_getElem? (i := 2) rfl)) rfl, bl_in_tb (bl_t2 (List.mem_of_getElem? (i := 217) rfl)) rfl, ⟨by decide +kernel, by decide +kernel, by decide +kernel⟩⟩
set_option maxRecDepth 20000 in
theorem mS_X7_lowest : bl_mS yX7_lowest cX7_lowest 1 (Option.some Jvm.ClassFile.FieldType.int) 1 := ⟨bl_in_tb (bl_t2 (List.mem_of_getElem? (i := 219) rfl)) rfl, bl_in_tb (bl_t1 (List.mem_of_getElem? (i := 2) rfl)) rfl, bl_in_tb (bl_t2 (List.mem_of_getElem? (i := 220) rfl)) rfl, ⟨by decide +kernel, by decide +kernel, by decide +kernel⟩⟩
set_option maxRecDepth 20000 in
theorem mS_X7_highest : bl_mS yX7_highest cX7_highest 2 (Option.some Jvm.ClassFile.FieldType.int) 2 := ⟨bl_in_tb (bl_t2 (List.mem_of_getElem? (i := 224) rfl)) rfl, bl_in_tb (bl_t1 (List.mem_of_getElem? (i := 2) rfl)) rfl, bl_in_tb (bl_t2 (List.mem_of_getElem? (i := 225) rfl)) rfl, ⟨by decide +kernel, by decide +kernel, by decide +kernel⟩⟩
set_option maxRecDepth 20000 in
theorem mV_X7_readNumber : bl_mV yX7_readNumber cX7_readNumber 7 (Option.none : Option Jvm.ClassFile.FieldType) 3 := ⟨bl_in_tb (bl_t2 (List.mem_of_getElem? (i := 234) rfl)) rfl, bl_in_sel (List.mem_of_getElem? (i := 5) rfl) rfl, bl_in_tb (bl_t1 (List.mem_of_getElem? (i := 2) rfl)) rfl, bl_in_tb (bl_t2 (List.mem_of_getElem? (i := 235) rfl)) rfl, ⟨by decide +kernel, by decide +kernel, by decide +kernel⟩⟩
set_option maxRecDepth 20000 in
theorem mS_X7_isDigit : bl_mS yX7_isDigit cX7_isDigit 1 (Option.some Jvm.ClassFile.FieldType.boolean) 1 := ⟨bl_in_tb (bl_t2 (List.mem_of_getElem? (i := 237) rfl)) rfl, bl_in_tb (bl_t1 (List.mem_of_getElem? (i := 2) rfl)) rfl, bl_in_tb (bl_t2 (List.mem_of_getElem? (i := 238) rfl)) rfl, ⟨by decide +kernel, by decide +kernel, by decide +kernel⟩⟩
set_option maxRecDepth 20000 in
theorem mS_J9_min_7cf53 : bl_mS yJ9_min_7cf53 cJ9_min_7cf53 2 (Option.some Jvm.ClassFile.FieldType.int) 2 := ⟨bl_in_tb (bl_t3 (List.mem_of_getElem? (i := 0) rfl)) rfl, bl_in_tb (bl_t1 (List.mem_of_getElem? (i := 17) rfl)) rfl, bl_in_tb (bl_t3 (List.mem_of_getElem? (i := 1) rfl)) rfl, ⟨by decide +kernel, by decide +kernel, by decide +kernel⟩⟩
set_option maxRecDepth 20000 in
theorem mV_X7_readEnd : bl_mV yX7_readEnd cX7_readEnd 1 (Option.none : Option Jvm.ClassFile.FieldType) 0 := ⟨bl_in_tb (bl_t3 (List.mem_of_getElem? (i := 4) rfl)) rfl, bl_in_sel (List.mem_of_getElem? (i := 6) rfl) rfl, bl_in_tb (bl_t1 (List.mem_of_getElem? (i := 2) rfl)) rfl, bl_in_tb (bl_t3 (List.mem_of_getElem? (i := 5) rfl)) rfl, ⟨by decide +kernel, by decide +kernel, by decide +kernel⟩⟩
set_option maxRecDepth 20000 in
theorem mV_X7_take : bl_mV yX7_take cX7_take 2 (Option.none : Option Jvm.ClassFile.FieldType) 1 := ⟨bl_in_tb (bl_t3 (List.mem_of_getElem? (i := 8) rfl)) rfl, bl_in_sel (List.mem_of_getElem? (i := 7) rfl) rfl, bl_in_tb (bl_t1 (List.mem_of_getElem? (i := 2) rfl)) rfl, bl_in_tb (bl_t3 (List.mem_of_getElem? (i := 9) rfl)) rfl, ⟨by decide +kernel, by decide +kernel, by decide +kernel⟩⟩
set_option maxRecDepth 20000 in
theorem mV_X8_addSort : bl_mV yX8_addSort cX8_addSort 3 (Option.none : Option Jvm.ClassFile.FieldType) 2 := ⟨bl_in_tb (bl_t3 (List.mem_of_getElem? (i := 12) rfl)) rfl, bl_in_tb (bl_t3 (List.mem_of_getElem? (i := 13) rfl)) rfl, bl_in_tb (bl_t1 (List.mem_of_getElem? (i := 3) rfl)) rfl, bl_in_tb (bl_t3 (List.mem_of_getElem? (i := 14) rfl)) rfl, ⟨by decide +kernel, by decide +kernel, by decide +kernel⟩⟩
set_option maxRecDepth 20000 in
theorem mV_X8_setSortPart : bl_mV yX8_setSortPart cX8_setSortPart 4 (Option.none : Option Jvm.ClassFile.FieldType) 3 := ⟨bl_in_tb (bl_t3 (List.mem_of_getElem? (i := 16) rfl)) rfl, bl_in_tb (bl_t3 (List.mem_of_getElem? (i := 17) rfl)) rfl, bl_in_tb (bl_t1 (List.mem_of_getElem? (i := 3) rfl)) rfl, bl_in_tb (bl_t3 (List.mem_of_getElem? (i := 18) rfl)) rfl, ⟨by decide +kernel, by decide +kernel, by decide +kernel⟩⟩
set_option maxRecDepth 20000 in
theorem mV_X7_isWhole : bl_mV yX7_isWhole cX7_isWhole 3 (Option.some Jvm.ClassFile.FieldType.boolean) 0 := ⟨bl_in_tb (bl_t3 (List.mem_of_getElem? (i := 21) rfl)) rfl, bl_in_sel (List.mem_of_getElem? (i := 8) rfl) rfl, bl_in_tb (bl_t1 (List.mem_of_getElem? (i := 2) rfl)) rfl, bl_in_tb (bl_t3 (List.mem_of_getElem? (i := 22) rfl)) rfl, ⟨by decide +kernel, by decide +kernel, by decide +kernel⟩⟩
set_option maxRecDepth 20000 in
theorem mV_X8_next : bl_mV yX8_next cX8_next 3 (Option.some Jvm.ClassFile.FieldType.int) 2 := ⟨bl_in_tb (bl_t3 (List.mem_of_getElem? (i := 24) rfl)) rfl, bl_in_tb (bl_t3 (List.mem_of_getElem? (i := 25) rfl)) rfl, bl_in_tb (bl_t1 (List.mem_of_getElem? (i := 3) rfl)) rfl, bl_in_tb (bl_t3 (List.mem_of_getElem? (i := 26) rfl)) rfl, ⟨by decide +kernel, by decide +kernel, by decide +kernel⟩⟩
set_option maxRecDepth 20000 in
theorem mV_X8_hasClass : bl_mV yX8_hasClass cX8_hasClass 2 (Option.some Jvm.ClassFile.FieldType.boolean) 1 := ⟨bl_in_tb (bl_t3 (List.mem_of_getElem? (i := 29) rfl)) rfl, bl_in_tb (bl_t3 (List.mem_of_getElem? (i := 30) rfl)) rfl, bl_in_tb (bl_t1 (List.mem_of_getElem? (i := 3) rfl)) rfl, bl_in_tb (bl_t3 (List.mem_of_getElem? (i := 31) rfl)) rfl, ⟨by decide +kernel, by decide +kernel, by decide +kernel⟩⟩
set_option maxRecDepth 20000 in
theorem mV_X8_copy : bl_mV yX8_copy cX8_copy 2 (Option.none : Option Jvm.ClassFile.FieldType) 1 := ⟨bl_in_tb (bl_t3 (List.mem_of_getElem? (i := 33) rfl)) rfl, bl_in_tb (bl_t3 (List.mem_of_getElem? (i := 34) rfl)) rfl, bl_in_tb (bl_t1 (List.mem_of_getElem? (i := 3) rfl)) rfl, bl_in_tb (bl_t3 (List.mem_of_getElem? (i := 35) rfl)) rfl, ⟨by decide +kernel, by decide +kernel, by decide +kernel⟩⟩
set_option maxRecDepth 20000 in
theorem mV_X2_clear : bl_mV yX2_clear cX2_clear 1 (Option.none : Option Jvm.ClassFile.FieldType) 0 := ⟨bl_in_tb (bl_t3 (List.mem_of_getElem? (i := 37) rfl)) rfl, bl_in_tb (bl_t3 (List.mem_of_getElem? (i := 38) rfl)) rfl, bl_in_tb (bl_t1 (List.mem_of_getElem? (i := 6) rfl)) rfl, bl_in_tb (bl_t3 (List.mem_of_getElem? (i := 39) rfl)) rfl, ⟨by decide +kernel, by decide +kernel, by decide +kernel⟩⟩
set_option maxRecDepth 20000 in
theorem mV_X2_leaveYear : bl_mV yX2_leaveYear cX2_leaveYear 1 (Option.none : Option Jvm.ClassFile.FieldType) 0 := ⟨bl_in_tb (bl_t3 (List.mem_of_getElem? (i := 42) rfl)) rfl, bl_in_sel (List.mem_of_getElem? (i := 9) rfl) rfl, bl_in_tb (bl_t1 (List.mem_of_getElem? (i := 6) rfl)) rfl, bl_in_tb (bl_t3 (List.mem_of_getElem? (i := 43) rfl)) rfl, ⟨by decide +kernel, by decide +kernel, by decide +kernel⟩⟩
set_option maxRecDepth 20000 in
theorem mV_X6_forget : bl_mV yX6_forget cX6_forget 1 (Option.none : Option Jvm.ClassFile.FieldType) 0 := ⟨bl_in_tb (bl_t3 (List.mem_of_getElem? (i := 45) rfl)) rfl, bl_in_tb (bl_t3 (List.mem_of_getElem? (i := 46) rfl)) rfl, bl_in_tb (bl_t1 (List.mem_of_getElem? (i := 7) rfl)) rfl, bl_in_tb (bl_t3 (List.mem_of_getElem? (i := 47) rfl)) rfl, ⟨by decide +kernel, by decide +kernel, by decide +kernel⟩⟩
set_option maxRecDepth 20000 in
theorem mV_X4_look : bl_mV yX4_look cX4_look 3 (Option.none : Option Jvm.ClassFile.FieldType) 2 := ⟨bl_in_tb (bl_t3 (List.mem_of_getElem? (i := 49) rfl)) rfl, bl_in_tb (bl_t3 (List.mem_of_getElem? (i := 50) rfl)) rfl, bl_in_tb (bl_t1 (List.mem_of_getElem? (i := 8) rfl)) rfl, bl_in_tb (bl_t3 (List.mem_of_getElem? (i := 51) rfl)) rfl, ⟨by decide +kernel, by decide +kernel, by decide +kernel⟩⟩
set_option maxRecDepth 20000 in
theorem mV_X9_set : bl_mV yX9_set cX9_set 5 (Option.some Jvm.ClassFile.FieldType.int) 3 := ⟨bl_in_tb (bl_t3 (List.mem_of_getElem? (i := 54) rfl)) rfl, bl_in_tb (bl_t3 (List.mem_of_getElem? (i := 55) rfl)) rfl, bl_in_tb (bl_t1 (List.mem_of_getElem? (i := 1) rfl)) rfl, bl_in_tb (bl_t3 (List.mem_of_getElem? (i := 56) rfl)) rfl, ⟨by decide +kernel, by decide +kernel, by decide +kernel⟩⟩
set_option maxRecDepth 20000 in
theorem mV_X9_highestPart : bl_mV yX9_highestPart cX9_highestPart 2 (Option.some Jvm.ClassFile.FieldType.int) 1 := ⟨bl_in_tb (bl_t3 (List.mem_of_getElem? (i := 60) rfl)) rfl, bl_in_sel (List.mem_of_getElem? (i := 10) rfl) rfl, bl_in_tb (bl_t1 (List.mem_of_getElem? (i := 1) rfl)) rfl, bl_in_tb (bl_t3 (List.mem_of_getElem? (i := 61) rfl)) rfl, ⟨by decide +kernel, by decide +kernel, by decide +kernel⟩⟩
set_option maxRecDepth 20000 in
theorem mV_X8_part : bl_mV yX8_part cX8_part 3 (Option.some Jvm.ClassFile.FieldType.int) 2 := ⟨bl_in_tb (bl_t3 (List.mem_of_getElem? (i := 64) rfl)) rfl, bl_in_tb (bl_t3 (List.mem_of_getElem? (i := 65) rfl)) rfl, bl_in_tb (bl_t1 (List.mem_of_getElem? (i := 3) rfl)) rfl, bl_in_tb (bl_t3 (List.mem_of_getElem? (i := 66) rfl)) rfl, ⟨by decide +kernel, by decide +kernel, by decide +kernel⟩⟩
set_option maxRecDepth 20000 in
theorem mV_X9_keepForUndo : bl_mV yX9_keepForUndo cX9_keepForUndo 1 (Option.none : Option Jvm.ClassFile.FieldType) 0 := ⟨bl_in_tb (bl_t3 (List.mem_of_getElem? (i := 69) rfl)) rfl, bl_in_sel (List.mem_of_getElem? (i := 11) rfl) rfl, bl_in_tb (bl_t1 (List.mem_of_getElem? (i := 1) rfl)) rfl, bl_in_tb (bl_t3 (List.mem_of_getElem? (i := 70) rfl)) rfl, ⟨by decide +kernel, by decide +kernel, by decide +kernel⟩⟩
set_option maxRecDepth 20000 in
theorem mV_X6_keep : bl_mV yX6_keep cX6_keep 3 (Option.none : Option Jvm.ClassFile.FieldType) 2 := ⟨bl_in_tb (bl_t3 (List.mem_of_getElem? (i := 72) rfl)) rfl, bl_in_tb (bl_t3 (List.mem_of_getElem? (i := 73) rfl)) rfl, bl_in_tb (bl_t1 (List.mem_of_getElem? (i := 7) rfl)) rfl, bl_in_tb (bl_t3 (List.mem_of_getElem? (i := 74) rfl)) rfl, ⟨by decide +kernel, by decide +kernel, by decide +kernel⟩⟩
set_option maxRecDepth 20000 in
theorem mV_X2_copy : bl_mV yX2_copy cX2_copy 2 (Option.none : Option Jvm.ClassFile.FieldType) 1 := ⟨bl_in_tb (bl_t3 (List.mem_of_getElem? (i := 77) rfl)) rfl, bl_in_tb (bl_t3 (List.mem_of_getElem? (i := 78) rfl)) rfl, bl_in_tb (bl_t1 (List.mem_of_getElem? (i := 6) rfl)) rfl, bl_in_tb (bl_t3 (List.mem_of_getElem? (i := 79) rfl)) rfl, ⟨by decide +kernel, by decide +kernel, by decide +kernel⟩⟩
set_option maxRecDepth 20000 in
theorem mV_X8_setPart : bl_mV yX8_setPart cX8_setPart 4 (Option.none : Option Jvm.ClassFile.FieldType) 3 := ⟨bl_in_tb (bl_t3 (List.mem_of_getElem? (i := 83) rfl)) rfl, bl_in_tb (bl_t3 (List.mem_of_getElem? (i := 84) rfl)) rfl, bl_in_tb (bl_t1 (List.mem_of_getElem? (i := 3) rfl)) rfl, bl_in_tb (bl_t3 (List.mem_of_getElem? (i := 85) rfl)) rfl, ⟨by decide +kernel, by decide +kernel, by decide +kernel⟩⟩
set_option maxRecDepth 20000 in
theorem mV_X9_sort : bl_mV yX9_sort cX9_sort 5 (Option.some Jvm.ClassFile.FieldType.int) 3 := ⟨bl_in_tb (bl_t3 (List.mem_of_getElem? (i := 87) rfl)) rfl, bl_in_tb (bl_t3 (List.mem_of_getElem? (i := 88) rfl)) rfl, bl_in_tb (bl_t1 (List.mem_of_getElem? (i := 1) rfl)) rfl, bl_in_tb (bl_t3 (List.mem_of_getElem? (i := 89) rfl)) rfl, ⟨by decide +kernel, by decide +kernel, by decide +kernel⟩⟩
set_option maxRecDepth 20000 in
theorem mV_X8_hasSort : bl_mV yX8_hasSort cX8_hasSort 2 (Option.some Jvm.ClassFile.FieldType.boolean) 1 := ⟨bl_in_tb (bl_t3 (List.mem_of_getElem? (i := 91) rfl)) rfl, bl_in_tb (bl_t3 (List.mem_of_getElem? (i := 92) rfl)) rfl, bl_in_tb (bl_t1 (List.mem_of_getElem? (i := 3) rfl)) rfl, bl_in_tb (bl_t3 (List.mem_of_getElem? (i := 93) rfl)) rfl, ⟨by decide +kernel, by decide +kernel, by decide +kernel⟩⟩
set_option maxRecDepth 20000 in
theorem mV_X8_sortPart : bl_mV yX8_sortPart cX8_sortPart 3 (Option.some Jvm.ClassFile.FieldType.int) 2 := ⟨bl_in_tb (bl_t3 (List.mem_of_getElem? (i := 96) rfl)) rfl, bl_in_tb (bl_t3 (List.mem_of_getElem? (i := 97) rfl)) rfl, bl_in_tb (bl_t1 (List.mem_of_getElem? (i := 3) rfl)) rfl, bl_in_tb (bl_t3 (List.mem_of_getElem? (i := 98) rfl)) rfl, ⟨by decide +kernel, by decide +kernel, by decide +kernel⟩⟩
set_option maxRecDepth 20000 in
theorem mV_X9_rule : bl_mV yX9_rule cX9_rule 4 (Option.some Jvm.ClassFile.FieldType.int) 2 := ⟨bl_in_tb (bl_t3 (List.mem_of_getElem? (i := 101) rfl)) rfl, bl_in_tb (bl_t3 (List.mem_of_getElem? (i := 102) rfl)) rfl, bl_in_tb (bl_t1 (List.mem_of_getElem? (i := 1) rfl)) rfl, bl_in_tb (bl_t3 (List.mem_of_getElem? (i := 103) rfl)) rfl, ⟨by decide +kernel, by decide +kernel, by decide +kernel⟩⟩
set_option maxRecDepth 20000 in
theorem mS_X9_isRule : bl_mS yX9_isRule cX9_isRule 2 (Option.some Jvm.ClassFile.FieldType.boolean) 2 := ⟨bl_in_tb (bl_t3 (List.mem_of_getElem? (i := 105) rfl)) rfl, bl_in_tb (bl_t1 (List.mem_of_getElem? (i := 1) rfl)) rfl, bl_in_tb (bl_t3 (List.mem_of_getElem? (i := 106) rfl)) rfl, ⟨by decide +kernel, by decide +kernel, by decide +kernel⟩⟩
set_option maxRecDepth 20000 in
theorem mV_X9_begin : bl_mV yX9_begin cX9_begin 2 (Option.some Jvm.ClassFile.FieldType.int) 1 := ⟨bl_in_tb (bl_t3 (List.mem_of_getElem? (i := 110) rfl)) rfl, bl_in_tb (bl_t3 (List.mem_of_getElem? (i := 111) rfl)) rfl, bl_in_tb (bl_t1 (List.mem_of_getElem? (i := 1) rfl)) rfl, bl_in_tb (bl_t3 (List.mem_of_getElem? (i := 112) rfl)) rfl, ⟨by decide +kernel, by decide +kernel, by decide +kernel⟩⟩
set_option maxRecDepth 20000 in
theorem mV_X2_startYear : bl_mV yX2_startYear cX2_startYear 5 (Option.some Jvm.ClassFile.FieldType.int) 2 := ⟨bl_in_tb (bl_t3 (List.mem_of_getElem? (i := 114) rfl)) rfl, bl_in_tb (bl_t3 (List.mem_of_getElem? (i := 115) rfl)) rfl, bl_in_tb (bl_t1 (List.mem_of_getElem? (i := 6) rfl)) rfl, bl_in_tb (bl_t3 (List.mem_of_getElem? (i := 116) rfl)) rfl, ⟨by decide +kernel, by decide +kernel, by decide +kernel⟩⟩
set_option maxRecDepth 20000 in
theorem mV_X9_quiet : bl_mV yX9_quiet cX9_quiet 1 (Option.some Jvm.ClassFile.FieldType.int) 0 := ⟨bl_in_tb (bl_t3 (List.mem_of_getElem? (i := 119) rfl)) rfl, bl_in_tb (bl_t3 (List.mem_of_getElem? (i := 120) rfl)) rfl, bl_in_tb (bl_t1 (List.mem_of_getElem? (i := 1) rfl)) rfl, bl_in_tb (bl_t3 (List.mem_of_getElem? (i := 121) rfl)) rfl, ⟨by decide +kernel, by decide +kernel, by decide +kernel⟩⟩
set_option maxRecDepth 20000 in
theorem mV_X2_passChance : bl_mV yX2_passChance cX2_passChance 3 (Option.some Jvm.ClassFile.FieldType.int) 1 := ⟨bl_in_tb (bl_t3 (List.mem_of_getElem? (i := 123) rfl)) rfl, bl_in_tb (bl_t3 (List.mem_of_getElem? (i := 124) rfl)) rfl, bl_in_tb (bl_t1 (List.mem_of_getElem? (i := 6) rfl)) rfl, bl_in_tb (bl_t3 (List.mem_of_getElem? (i := 125) rfl)) rfl, ⟨by decide +kernel, by decide +kernel, by decide +kernel⟩⟩
set_option maxRecDepth 20000 in
theorem mV_X8_chances : bl_mV yX8_chances cX8_chances 1 (Option.some Jvm.ClassFile.FieldType.int) 0 := ⟨bl_in_tb (bl_t3 (List.mem_of_getElem? (i := 127) rfl)) rfl, bl_in_tb (bl_t3 (List.mem_of_getElem? (i := 128) rfl)) rfl, bl_in_tb (bl_t1 (List.mem_of_getElem? (i := 3) rfl)) rfl, bl_in_tb (bl_t3 (List.mem_of_getElem? (i := 129) rfl)) rfl, ⟨by decide +kernel, by decide +kernel, by decide +kernel⟩⟩
set_option maxRecDepth 20000 in
theorem mV_X2_endYear : bl_mV yX2_endYear cX2_endYear 2 (Option.none : Option Jvm.ClassFile.FieldType) 1 := ⟨bl_in_tb (bl_t3 (List.mem_of_getElem? (i := 132) rfl)) rfl, bl_in_sel (List.mem_of_getElem? (i := 12) rfl) rfl, bl_in_tb (bl_t1 (List.mem_of_getElem? (i := 6) rfl)) rfl, bl_in_tb (bl_t3 (List.mem_of_getElem? (i := 133) rfl)) rfl, ⟨by decide +kernel, by decide +kernel, by decide +kernel⟩⟩
set_option maxRecDepth 20000 in
theorem mS_X2_putEntry : bl_mS yX2_putEntry cX2_putEntry 6 (Option.none : Option Jvm.ClassFile.FieldType) 5 := ⟨bl_in_tb (bl_t3 (List.mem_of_getElem? (i := 135) rfl)) rfl, bl_in_tb (bl_t1 (List.mem_of_getElem? (i := 6) rfl)) rfl, bl_in_tb (bl_t3 (List.mem_of_getElem? (i := 136) rfl)) rfl, ⟨by decide +kernel, by decide +kernel, by decide +kernel⟩⟩
set_option maxRecDepth 20000 in
theorem mS_J9_floorMod_7cf53 : bl_mS yJ9_floorMod_7cf53 cJ9_floorMod_7cf53 3 (Option.some Jvm.ClassFile.FieldType.int) 2 := ⟨bl_in_tb (bl_t3 (List.mem_of_getElem? (i := 138) rfl)) rfl, bl_in_tb (bl_t1 (List.mem_of_getElem? (i := 17) rfl)) rfl, bl_in_tb (bl_t3 (List.mem_of_getElem? (i := 139) rfl)) rfl, ⟨by decide +kernel, by decide +kernel, by decide +kernel⟩⟩
set_option maxRecDepth 20000 in
theorem mV_X9_loss : bl_mV yX9_loss cX9_loss 4 (Option.some Jvm.ClassFile.FieldType.int) 2 := ⟨bl_in_tb (bl_t3 (List.mem_of_getElem? (i := 142) rfl)) rfl, bl_in_tb (bl_t3 (List.mem_of_getElem? (i := 143) rfl)) rfl, bl_in_tb (bl_t1 (List.mem_of_getElem? (i := 1) rfl)) rfl, bl_in_tb (bl_t3 (List.mem_of_getElem? (i := 144) rfl)) rfl, ⟨by decide +kernel, by decide +kernel, by decide +kernel⟩⟩
set_option maxRecDepth 20000 in
theorem mV_X2_takeLoss : bl_mV yX2_takeLoss cX2_takeLoss 5 (Option.some Jvm.ClassFile.FieldType.int) 3 := ⟨bl_in_tb (bl_t3 (List.mem_of_getElem? (i := 146) rfl)) rfl, bl_in_tb (bl_t3 (List.mem_of_getElem? (i := 147) rfl)) rfl, bl_in_tb (bl_t1 (List.mem_of_getElem? (i := 6) rfl)) rfl, bl_in_tb (bl_t3 (List.mem_of_getElem? (i := 148) rfl)) rfl, ⟨by decide +kernel, by decide +kernel, by decide +kernel⟩⟩
set_option maxRecDepth 20000 in
theorem mV_X8_ownOf : bl_mV yX8_ownOf cX8_ownOf 2 (Option.some Jvm.ClassFile.FieldType.int) 1 := ⟨bl_in_tb (bl_t3 (List.mem_of_getElem? (i := 150) rfl)) rfl, bl_in_tb (bl_t3 (List.mem_of_getElem? (i := 151) rfl)) rfl, bl_in_tb (bl_t1 (List.mem_of_getElem? (i := 3) rfl)) rfl, bl_in_tb (bl_t3 (List.mem_of_getElem? (i := 152) rfl)) rfl, ⟨by decide +kernel, by decide +kernel, by decide +kernel⟩⟩
set_option maxRecDepth 20000 in
theorem mV_X8_own : bl_mV yX8_own cX8_own 1 (Option.some Jvm.ClassFile.FieldType.int) 0 := ⟨bl_in_tb (bl_t3 (List.mem_of_getElem? (i := 154) rfl)) rfl, bl_in_tb (bl_t3 (List.mem_of_getElem? (i := 155) rfl)) rfl, bl_in_tb (bl_t1 (List.mem_of_getElem? (i := 3) rfl)) rfl, bl_in_tb (bl_t3 (List.mem_of_getElem? (i := 156) rfl)) rfl, ⟨by decide +kernel, by decide +kernel, by decide +kernel⟩⟩
set_option maxRecDepth 20000 in
theorem mV_X2_countTold : bl_mV yX2_countTold cX2_countTold 1 (Option.none : Option Jvm.ClassFile.FieldType) 0 := ⟨bl_in_tb (bl_t3 (List.mem_of_getElem? (i := 161) rfl)) rfl, bl_in_sel (List.mem_of_getElem? (i := 13) rfl) rfl, bl_in_tb (bl_t1 (List.mem_of_getElem? (i := 6) rfl)) rfl, bl_in_tb (bl_t3 (List.mem_of_getElem? (i := 162) rfl)) rfl, ⟨by decide +kernel, by decide +kernel, by decide +kernel⟩⟩
set_option maxRecDepth 20000 in
theorem mV_X9_live : bl_mV yX9_live cX9_live 5 (Option.some Jvm.ClassFile.FieldType.int) 4 := ⟨bl_in_tb (bl_t3 (List.mem_of_getElem? (i := 164) rfl)) rfl, bl_in_tb (bl_t3 (List.mem_of_getElem? (i := 165) rfl)) rfl, bl_in_tb (bl_t1 (List.mem_of_getElem? (i := 1) rfl)) rfl, bl_in_tb (bl_t3 (List.mem_of_getElem? (i := 166) rfl)) rfl, ⟨by decide +kernel, by decide +kernel, by decide +kernel⟩⟩
set_option maxRecDepth 20000 in
theorem mV_X9_canLive : bl_mV yX9_canLive cX9_canLive 4 (Option.some Jvm.ClassFile.FieldType.boolean) 3 := ⟨bl_in_tb (bl_t3 (List.mem_of_getElem? (i := 169) rfl)) rfl, bl_in_sel (List.mem_of_getElem? (i := 14) rfl) rfl, bl_in_tb (bl_t1 (List.mem_of_getElem? (i := 1) rfl)) rfl, bl_in_tb (bl_t3 (List.mem_of_getElem? (i := 170) rfl)) rfl, ⟨by decide +kernel, by decide +kernel, by decide +kernel⟩⟩
set_option maxRecDepth 20000 in
theorem mS_X9_isThumb : bl_mS yX9_isThumb cX9_isThumb 2 (Option.some Jvm.ClassFile.FieldType.boolean) 2 := ⟨bl_in_tb (bl_t3 (List.mem_of_getElem? (i := 172) rfl)) rfl, bl_in_tb (bl_t1 (List.mem_of_getElem? (i := 1) rfl)) rfl, bl_in_tb (bl_t3 (List.mem_of_getElem? (i := 173) rfl)) rfl, ⟨by decide +kernel, by decide +kernel, by decide +kernel⟩⟩
set_option maxRecDepth 20000 in
theorem mV_X9_liveByDraws : bl_mV yX9_liveByDraws cX9_liveByDraws 8 (Option.some Jvm.ClassFile.FieldType.int) 5 := ⟨bl_in_tb (bl_t3 (List.mem_of_getElem? (i := 176) rfl)) rfl, bl_in_sel (List.mem_of_getElem? (i := 15) rfl) rfl, bl_in_tb (bl_t1 (List.mem_of_getElem? (i := 1) rfl)) rfl, bl_in_tb (bl_t3 (List.mem_of_getElem? (i := 177) rfl)) rfl, ⟨by decide +kernel, by decide +kernel, by decide +kernel⟩⟩
set_option maxRecDepth 20000 in
theorem mV_X2_allPaid : bl_mV yX2_allPaid cX2_allPaid 1 (Option.some Jvm.ClassFile.FieldType.int) 0 := ⟨bl_in_tb (bl_t3 (List.mem_of_getElem? (i := 179) rfl)) rfl, bl_in_tb (bl_t3 (List.mem_of_getElem? (i := 180) rfl)) rfl, bl_in_tb (bl_t1 (List.mem_of_getElem? (i := 6) rfl)) rfl, bl_in_tb (bl_t3 (List.mem_of_getElem? (i := 181) rfl)) rfl, ⟨by decide +kernel, by decide +kernel, by decide +kernel⟩⟩
set_option maxRecDepth 20000 in
theorem mV_X4_learn : bl_mV yX4_learn cX4_learn 4 (Option.none : Option Jvm.ClassFile.FieldType) 1 := ⟨bl_in_tb (bl_t3 (List.mem_of_getElem? (i := 183) rfl)) rfl, bl_in_tb (bl_t3 (List.mem_of_getElem? (i := 184) rfl)) rfl, bl_in_tb (bl_t1 (List.mem_of_getElem? (i := 8) rfl)) rfl, bl_in_tb (bl_t3 (List.mem_of_getElem? (i := 185) rfl)) rfl, ⟨by decide +kernel, by decide +kernel, by decide +kernel⟩⟩
set_option maxRecDepth 20000 in
theorem mV_X3_take : bl_mV yX3_take cX3_take 7 (Option.none : Option Jvm.ClassFile.FieldType) 4 := ⟨bl_in_tb (bl_t3 (List.mem_of_getElem? (i := 188) rfl)) rfl, bl_in_tb (bl_t3 (List.mem_of_getElem? (i := 189) rfl)) rfl, bl_in_tb (bl_t1 (List.mem_of_getElem? (i := 9) rfl)) rfl, bl_in_tb (bl_t3 (List.mem_of_getElem? (i := 190) rfl)) rfl, ⟨by decide +kernel, by decide +kernel, by decide +kernel⟩⟩
set_option maxRecDepth 20000 in
theorem mV_X8_odds : bl_mV yX8_odds cX8_odds 1 (Option.some Jvm.ClassFile.FieldType.int) 0 := ⟨bl_in_tb (bl_t3 (List.mem_of_getElem? (i := 192) rfl)) rfl, bl_in_tb (bl_t3 (List.mem_of_getElem? (i := 193) rfl)) rfl, bl_in_tb (bl_t1 (List.mem_of_getElem? (i := 3) rfl)) rfl, bl_in_tb (bl_t3 (List.mem_of_getElem? (i := 194) rfl)) rfl, ⟨by decide +kernel, by decide +kernel, by decide +kernel⟩⟩
set_option maxRecDepth 20000 in
theorem mV_X8_allWeights : bl_mV yX8_allWeights cX8_allWeights 3 (Option.some Jvm.ClassFile.FieldType.int) 0 := ⟨bl_in_tb (bl_t3 (List.mem_of_getElem? (i := 196) rfl)) rfl, bl_in_tb (bl_t3 (List.mem_of_getElem? (i := 197) rfl)) rfl, bl_in_tb (bl_t1 (List.mem_of_getElem? (i := 3) rfl)) rfl, bl_in_tb (bl_t3 (List.mem_of_getElem? (i := 198) rfl)) rfl, ⟨by decide +kernel, by decide +kernel, by decide +kernel⟩⟩
set_option maxRecDepth 20000 in
theorem mV_X4_lookAhead : bl_mV yX4_lookAhead cX4_lookAhead 9 (Option.none : Option Jvm.ClassFile.FieldType) 5 := ⟨bl_in_tb (bl_t3 (List.mem_of_getElem? (i := 203) rfl)) rfl, bl_in_tb (bl_t3 (List.mem_of_getElem? (i := 204) rfl)) rfl, bl_in_tb (bl_t1 (List.mem_of_getElem? (i := 8) rfl)) rfl, bl_in_tb (bl_t3 (List.mem_of_getElem? (i := 205) rfl)) rfl, ⟨by decide +kernel, by decide +kernel, by decide +kernel⟩⟩
set_option maxRecDepth 20000 in
theorem mS_X4_index : bl_mS yX4_index cX4_index 3 (Option.some Jvm.ClassFile.FieldType.int) 3 := ⟨bl_in_tb (bl_t3 (List.mem_of_getElem? (i := 208) rfl)) rfl, bl_in_tb (bl_t1 (List.mem_of_getElem? (i := 8) rfl)) rfl, bl_in_tb (bl_t3 (List.mem_of_getElem? (i := 209) rfl)) rfl, ⟨by decide +kernel, by decide +kernel, by decide +kernel⟩⟩
set_option maxRecDepth 20000 in
theorem mS_X4_toldIndex : bl_mS yX4_toldIndex cX4_toldIndex 3 (Option.some Jvm.ClassFile.FieldType.int) 3 := ⟨bl_in_tb (bl_t3 (List.mem_of_getElem? (i := 212) rfl)) rfl, bl_in_tb (bl_t1 (List.mem_of_getElem? (i := 8) rfl)) rfl, bl_in_tb (bl_t3 (List.mem_of_getElem? (i := 213) rfl)) rfl, ⟨by decide +kernel, by decide +kernel, by decide +kernel⟩⟩
set_option maxRecDepth 20000 in
theorem mV_X3_chanceCost : bl_mV yX3_chanceCost cX3_chanceCost 12 (Option.some Jvm.ClassFile.FieldType.long) 2 := ⟨bl_in_tb (bl_t3 (List.mem_of_getElem? (i := 215) rfl)) rfl, bl_in_tb (bl_t3 (List.mem_of_getElem? (i := 216) rfl)) rfl, bl_in_tb (bl_t1 (List.mem_of_getElem? (i := 9) rfl)) rfl, bl_in_tb (bl_t3 (List.mem_of_getElem? (i := 217) rfl)) rfl, ⟨by decide +kernel, by decide +kernel, by decide +kernel⟩⟩
set_option maxRecDepth 20000 in
theorem mV_X3_lossCost : bl_mV yX3_lossCost cX3_lossCost 10 (Option.some Jvm.ClassFile.FieldType.long) 3 := ⟨bl_in_tb (bl_t3 (List.mem_of_getElem? (i := 221) rfl)) rfl, bl_in_sel (List.mem_of_getElem? (i := 16) rfl) rfl, bl_in_tb (bl_t1 (List.mem_of_getElem? (i := 9) rfl)) rfl, bl_in_tb (bl_t3 (List.mem_of_getElem? (i := 222) rfl)) rfl, ⟨by decide +kernel, by decide +kernel, by decide +kernel⟩⟩
set_option maxRecDepth 20000 in
theorem mS_J9_max_f86c9 : bl_mS yJ9_max_f86c9 cJ9_max_f86c9 4 (Option.some Jvm.ClassFile.FieldType.long) 2 := ⟨bl_in_tb (bl_t3 (List.mem_of_getElem? (i := 224) rfl)) rfl, bl_in_tb (bl_t1 (List.mem_of_getElem? (i := 17) rfl)) rfl, bl_in_tb (bl_t3 (List.mem_of_getElem? (i := 225) rfl)) rfl, ⟨by decide +kernel, by decide +kernel, by decide +kernel⟩⟩
set_option maxRecDepth 20000 in
theorem mV_X4_premiumPaid : bl_mV yX4_premiumPaid cX4_premiumPaid 4 (Option.some Jvm.ClassFile.FieldType.long) 1 := ⟨bl_in_tb (bl_t3 (List.mem_of_getElem? (i := 228) rfl)) rfl, bl_in_sel (List.mem_of_getElem? (i := 17) rfl) rfl, bl_in_tb (bl_t1 (List.mem_of_getElem? (i := 8) rfl)) rfl, bl_in_tb (bl_t3 (List.mem_of_getElem? (i := 229) rfl)) rfl, ⟨by decide +kernel, by decide +kernel, by decide +kernel⟩⟩
set_option maxRecDepth 20000 in
theorem mV_X4_costBehindPremium : bl_mV yX4_costBehindPremium cX4_costBehindPremium 2 (Option.some Jvm.ClassFile.FieldType.long) 1 := ⟨bl_in_tb (bl_t3 (List.mem_of_getElem? (i := 235) rfl)) rfl, bl_in_sel (List.mem_of_getElem? (i := 18) rfl) rfl, bl_in_tb (bl_t1 (List.mem_of_getElem? (i := 8) rfl)) rfl, bl_in_tb (bl_t3 (List.mem_of_getElem? (i := 236) rfl)) rfl, ⟨by decide +kernel, by decide +kernel, by decide +kernel⟩⟩
set_option maxRecDepth 20000 in
theorem mV_X4_guardPays : bl_mV yX4_guardPays cX4_guardPays 2 (Option.some Jvm.ClassFile.FieldType.boolean) 1 := ⟨bl_in_tb (bl_t3 (List.mem_of_getElem? (i := 239) rfl)) rfl, bl_in_sel (List.mem_of_getElem? (i := 19) rfl) rfl, bl_in_tb (bl_t1 (List.mem_of_getElem? (i := 8) rfl)) rfl, bl_in_tb (bl_t4 (List.mem_of_getElem? (i := 0) rfl)) rfl, ⟨by decide +kernel, by decide +kernel, by decide +kernel⟩⟩
set_option maxRecDepth 20000 in
theorem mV_X9_liveOneYear : bl_mV yX9_liveOneYear cX9_liveOneYear 9 (Option.none : Option Jvm.ClassFile.FieldType) 4 := ⟨bl_in_tb (bl_t4 (List.mem_of_getElem? (i := 3) rfl)) rfl, bl_in_sel (List.mem_of_getElem? (i := 20) rfl) rfl, bl_in_tb (bl_t1 (List.mem_of_getElem? (i := 1) rfl)) rfl, bl_in_tb (bl_t4 (List.mem_of_getElem? (i := 4) rfl)) rfl, ⟨by decide +kernel, by decide +kernel, by decide +kernel⟩⟩
set_option maxRecDepth 20000 in
theorem mV_X4_buys : bl_mV yX4_buys cX4_buys 3 (Option.some Jvm.ClassFile.FieldType.boolean) 2 := ⟨bl_in_tb (bl_t4 (List.mem_of_getElem? (i := 6) rfl)) rfl, bl_in_tb (bl_t4 (List.mem_of_getElem? (i := 7) rfl)) rfl, bl_in_tb (bl_t1 (List.mem_of_getElem? (i := 8) rfl)) rfl, bl_in_tb (bl_t4 (List.mem_of_getElem? (i := 8) rfl)) rfl, ⟨by decide +kernel, by decide +kernel, by decide +kernel⟩⟩
set_option maxRecDepth 20000 in
theorem mV_X0_next : bl_mV yX0_next cX0_next 2 (Option.some Jvm.ClassFile.FieldType.int) 1 := ⟨bl_in_tb (bl_t4 (List.mem_of_getElem? (i := 11) rfl)) rfl, bl_in_tb (bl_t4 (List.mem_of_getElem? (i := 12) rfl)) rfl, bl_in_tb (bl_t1 (List.mem_of_getElem? (i := 11) rfl)) rfl, bl_in_tb (bl_t4 (List.mem_of_getElem? (i := 13) rfl)) rfl, ⟨by decide +kernel, by decide +kernel, by decide +kernel⟩⟩
set_option maxRecDepth 20000 in
theorem mV_X0_nextSort : bl_mV yX0_nextSort cX0_nextSort 5 (Option.some Jvm.ClassFile.FieldType.int) 1 := ⟨bl_in_tb (bl_t4 (List.mem_of_getElem? (i := 17) rfl)) rfl, bl_in_tb (bl_t4 (List.mem_of_getElem? (i := 18) rfl)) rfl, bl_in_tb (bl_t1 (List.mem_of_getElem? (i := 11) rfl)) rfl, bl_in_tb (bl_t4 (List.mem_of_getElem? (i := 19) rfl)) rfl, ⟨by decide +kernel, by decide +kernel, by decide +kernel⟩⟩
set_option maxRecDepth 20000 in
theorem mV_X9_isTold : bl_mV yX9_isTold cX9_isTold 5 (Option.some Jvm.ClassFile.FieldType.boolean) 4 := ⟨bl_in_tb (bl_t4 (List.mem_of_getElem? (i := 25) rfl)) rfl, bl_in_sel (List.mem_of_getElem? (i := 21) rfl) rfl, bl_in_tb (bl_t1 (List.mem_of_getElem? (i := 1) rfl)) rfl, bl_in_tb (bl_t4 (List.mem_of_getElem? (i := 26) rfl)) rfl, ⟨by decide +kernel, by decide +kernel, by decide +kernel⟩⟩
set_option maxRecDepth 20000 in
theorem mV_X4_gainOf : bl_mV yX4_gainOf cX4_gainOf 5 (Option.some Jvm.ClassFile.FieldType.long) 4 := ⟨bl_in_tb (bl_t4 (List.mem_of_getElem? (i := 29) rfl)) rfl, bl_in_tb (bl_t4 (List.mem_of_getElem? (i := 30) rfl)) rfl, bl_in_tb (bl_t1 (List.mem_of_getElem? (i := 8) rfl)) rfl, bl_in_tb (bl_t4 (List.mem_of_getElem? (i := 31) rfl)) rfl, ⟨by decide +kernel, by decide +kernel, by decide +kernel⟩⟩
set_option maxRecDepth 20000 in
theorem mV_X3_savedIfTold : bl_mV yX3_savedIfTold cX3_savedIfTold 2 (Option.some Jvm.ClassFile.FieldType.long) 1 := ⟨bl_in_tb (bl_t4 (List.mem_of_getElem? (i := 33) rfl)) rfl, bl_in_tb (bl_t4 (List.mem_of_getElem? (i := 34) rfl)) rfl, bl_in_tb (bl_t1 (List.mem_of_getElem? (i := 9) rfl)) rfl, bl_in_tb (bl_t4 (List.mem_of_getElem? (i := 35) rfl)) rfl, ⟨by decide +kernel, by decide +kernel, by decide +kernel⟩⟩
set_option maxRecDepth 20000 in
theorem mV_X4_dearerIfTold : bl_mV yX4_dearerIfTold cX4_dearerIfTold 4 (Option.some Jvm.ClassFile.FieldType.long) 3 := ⟨bl_in_tb (bl_t4 (List.mem_of_getElem? (i := 38) rfl)) rfl, bl_in_sel (List.mem_of_getElem? (i := 22) rfl) rfl, bl_in_tb (bl_t1 (List.mem_of_getElem? (i := 8) rfl)) rfl, bl_in_tb (bl_t4 (List.mem_of_getElem? (i := 39) rfl)) rfl, ⟨by decide +kernel, by decide +kernel, by decide +kernel⟩⟩
set_option maxRecDepth 20000 in
theorem mV_X9_come : bl_mV yX9_come cX9_come 3 (Option.some Jvm.ClassFile.FieldType.int) 2 := ⟨bl_in_tb (bl_t4 (List.mem_of_getElem? (i := 41) rfl)) rfl, bl_in_tb (bl_t4 (List.mem_of_getElem? (i := 42) rfl)) rfl, bl_in_tb (bl_t1 (List.mem_of_getElem? (i := 1) rfl)) rfl, bl_in_tb (bl_t4 (List.mem_of_getElem? (i := 43) rfl)) rfl, ⟨by decide +kernel, by decide +kernel, by decide +kernel⟩⟩
set_option maxRecDepth 20000 in
theorem mV_X9_drop : bl_mV yX9_drop cX9_drop 2 (Option.some Jvm.ClassFile.FieldType.int) 1 := ⟨bl_in_tb (bl_t4 (List.mem_of_getElem? (i := 46) rfl)) rfl, bl_in_tb (bl_t4 (List.mem_of_getElem? (i := 47) rfl)) rfl, bl_in_tb (bl_t1 (List.mem_of_getElem? (i := 1) rfl)) rfl, bl_in_tb (bl_t4 (List.mem_of_getElem? (i := 48) rfl)) rfl, ⟨by decide +kernel, by decide +kernel, by decide +kernel⟩⟩
set_option maxRecDepth 20000 in
theorem mV_X8_removeSort : bl_mV yX8_removeSort cX8_removeSort 3 (Option.none : Option Jvm.ClassFile.FieldType) 1 := ⟨bl_in_tb (bl_t4 (List.mem_of_getElem? (i := 50) rfl)) rfl, bl_in_tb (bl_t4 (List.mem_of_getElem? (i := 51) rfl)) rfl, bl_in_tb (bl_t1 (List.mem_of_getElem? (i := 3) rfl)) rfl, bl_in_tb (bl_t4 (List.mem_of_getElem? (i := 52) rfl)) rfl, ⟨by decide +kernel, by decide +kernel, by decide +kernel⟩⟩
set_option maxRecDepth 20000 in
theorem mV_X9_move : bl_mV yX9_move cX9_move 3 (Option.some Jvm.ClassFile.FieldType.int) 1 := ⟨bl_in_tb (bl_t4 (List.mem_of_getElem? (i := 54) rfl)) rfl, bl_in_tb (bl_t4 (List.mem_of_getElem? (i := 55) rfl)) rfl, bl_in_tb (bl_t1 (List.mem_of_getElem? (i := 1) rfl)) rfl, bl_in_tb (bl_t4 (List.mem_of_getElem? (i := 56) rfl)) rfl, ⟨by decide +kernel, by decide +kernel, by decide +kernel⟩⟩
set_option maxRecDepth 20000 in
theorem mV_X9_anew : bl_mV yX9_anew cX9_anew 2 (Option.some Jvm.ClassFile.FieldType.int) 0 := ⟨bl_in_tb (bl_t4 (List.mem_of_getElem? (i := 58) rfl)) rfl, bl_in_tb (bl_t4 (List.mem_of_getElem? (i := 59) rfl)) rfl, bl_in_tb (bl_t1 (List.mem_of_getElem? (i := 1) rfl)) rfl, bl_in_tb (bl_t4 (List.mem_of_getElem? (i := 60) rfl)) rfl, ⟨by decide +kernel, by decide +kernel, by decide +kernel⟩⟩
set_option maxRecDepth 20000 in
theorem mV_X9_undo : bl_mV yX9_undo cX9_undo 1 (Option.some Jvm.ClassFile.FieldType.int) 0 := ⟨bl_in_tb (bl_t4 (List.mem_of_getElem? (i := 62) rfl)) rfl, bl_in_tb (bl_t4 (List.mem_of_getElem? (i := 63) rfl)) rfl, bl_in_tb (bl_t1 (List.mem_of_getElem? (i := 1) rfl)) rfl, bl_in_tb (bl_t4 (List.mem_of_getElem? (i := 64) rfl)) rfl, ⟨by decide +kernel, by decide +kernel, by decide +kernel⟩⟩
set_option maxRecDepth 20000 in
theorem mV_X6_takeBack : bl_mV yX6_takeBack cX6_takeBack 3 (Option.some Jvm.ClassFile.FieldType.boolean) 2 := ⟨bl_in_tb (bl_t4 (List.mem_of_getElem? (i := 66) rfl)) rfl, bl_in_tb (bl_t4 (List.mem_of_getElem? (i := 67) rfl)) rfl, bl_in_tb (bl_t1 (List.mem_of_getElem? (i := 7) rfl)) rfl, bl_in_tb (bl_t4 (List.mem_of_getElem? (i := 68) rfl)) rfl, ⟨by decide +kernel, by decide +kernel, by decide +kernel⟩⟩
set_option maxRecDepth 20000 in
theorem mV_X9_of : bl_mV yX9_of cX9_of 3 (Option.some Jvm.ClassFile.FieldType.int) 2 := ⟨bl_in_tb (bl_t4 (List.mem_of_getElem? (i := 70) rfl)) rfl, bl_in_tb (bl_t4 (List.mem_of_getElem? (i := 71) rfl)) rfl, bl_in_tb (bl_t1 (List.mem_of_getElem? (i := 1) rfl)) rfl, bl_in_tb (bl_t4 (List.mem_of_getElem? (i := 72) rfl)) rfl, ⟨by decide +kernel, by decide +kernel, by decide +kernel⟩⟩
set_option maxRecDepth 20000 in
theorem mV_X9_ofSort : bl_mV yX9_ofSort cX9_ofSort 3 (Option.some Jvm.ClassFile.FieldType.int) 2 := ⟨bl_in_tb (bl_t4 (List.mem_of_getElem? (i := 74) rfl)) rfl, bl_in_tb (bl_t4 (List.mem_of_getElem? (i := 75) rfl)) rfl, bl_in_tb (bl_t1 (List.mem_of_getElem? (i := 1) rfl)) rfl, bl_in_tb (bl_t4 (List.mem_of_getElem? (i := 76) rfl)) rfl, ⟨by decide +kernel, by decide +kernel, by decide +kernel⟩⟩
set_option maxRecDepth 20000 in
theorem mV_X9_life : bl_mV yX9_life cX9_life 2 (Option.some Jvm.ClassFile.FieldType.int) 1 := ⟨bl_in_tb (bl_t4 (List.mem_of_getElem? (i := 78) rfl)) rfl, bl_in_tb (bl_t4 (List.mem_of_getElem? (i := 79) rfl)) rfl, bl_in_tb (bl_t1 (List.mem_of_getElem? (i := 1) rfl)) rfl, bl_in_tb (bl_t4 (List.mem_of_getElem? (i := 80) rfl)) rfl, ⟨by decide +kernel, by decide +kernel, by decide +kernel⟩⟩
set_option maxRecDepth 20000 in
theorem mV_X9_book : bl_mV yX9_book cX9_book 3 (Option.some Jvm.ClassFile.FieldType.int) 2 := ⟨bl_in_tb (bl_t4 (List.mem_of_getElem? (i := 82) rfl)) rfl, bl_in_tb (bl_t4 (List.mem_of_getElem? (i := 83) rfl)) rfl, bl_in_tb (bl_t1 (List.mem_of_getElem? (i := 1) rfl)) rfl, bl_in_tb (bl_t4 (List.mem_of_getElem? (i := 84) rfl)) rfl, ⟨by decide +kernel, by decide +kernel, by decide +kernel⟩⟩
set_option maxRecDepth 20000 in
theorem mS_X9_entry : bl_mS yX9_entry cX9_entry 4 (Option.some Jvm.ClassFile.FieldType.int) 4 := ⟨bl_in_tb (bl_t4 (List.mem_of_getElem? (i := 86) rfl)) rfl, bl_in_tb (bl_t1 (List.mem_of_getElem? (i := 1) rfl)) rfl, bl_in_tb (bl_t4 (List.mem_of_getElem? (i := 87) rfl)) rfl, ⟨by decide +kernel, by decide +kernel, by decide +kernel⟩⟩
set_option maxRecDepth 20000 in
theorem mV_X9_ledger : bl_mV yX9_ledger cX9_ledger 3 (Option.some Jvm.ClassFile.FieldType.int) 2 := ⟨bl_in_tb (bl_t4 (List.mem_of_getElem? (i := 89) rfl)) rfl, bl_in_tb (bl_t4 (List.mem_of_getElem? (i := 90) rfl)) rfl, bl_in_tb (bl_t1 (List.mem_of_getElem? (i := 1) rfl)) rfl, bl_in_tb (bl_t4 (List.mem_of_getElem? (i := 91) rfl)) rfl, ⟨by decide +kernel, by decide +kernel, by decide +kernel⟩⟩
set_option maxRecDepth 20000 in
theorem mV_X9_mean : bl_mV yX9_mean cX9_mean 5 (Option.some Jvm.ClassFile.FieldType.int) 1 := ⟨bl_in_tb (bl_t4 (List.mem_of_getElem? (i := 93) rfl)) rfl, bl_in_tb (bl_t4 (List.mem_of_getElem? (i := 94) rfl)) rfl, bl_in_tb (bl_t1 (List.mem_of_getElem? (i := 1) rfl)) rfl, bl_in_tb (bl_t4 (List.mem_of_getElem? (i := 95) rfl)) rfl, ⟨by decide +kernel, by decide +kernel, by decide +kernel⟩⟩
set_option maxRecDepth 20000 in
theorem mS_X9_commonDivisor : bl_mS yX9_commonDivisor cX9_commonDivisor 6 (Option.some Jvm.ClassFile.FieldType.int) 2 := ⟨bl_in_tb (bl_t4 (List.mem_of_getElem? (i := 97) rfl)) rfl, bl_in_tb (bl_t1 (List.mem_of_getElem? (i := 1) rfl)) rfl, bl_in_tb (bl_t4 (List.mem_of_getElem? (i := 98) rfl)) rfl, ⟨by decide +kernel, by decide +kernel, by decide +kernel⟩⟩
set_option maxRecDepth 20000 in
theorem mS_J9_max_7cf53 : bl_mS yJ9_max_7cf53 cJ9_max_7cf53 2 (Option.some Jvm.ClassFile.FieldType.int) 2 := ⟨bl_in_tb (bl_t4 (List.mem_of_getElem? (i := 100) rfl)) rfl, bl_in_tb (bl_t1 (List.mem_of_getElem? (i := 17) rfl)) rfl, bl_in_tb (bl_t4 (List.mem_of_getElem? (i := 101) rfl)) rfl, ⟨by decide +kernel, by decide +kernel, by decide +kernel⟩⟩
set_option maxRecDepth 20000 in
theorem mV_X9_cost : bl_mV yX9_cost cX9_cost 3 (Option.some Jvm.ClassFile.FieldType.long) 2 := ⟨bl_in_tb (bl_t4 (List.mem_of_getElem? (i := 103) rfl)) rfl, bl_in_tb (bl_t4 (List.mem_of_getElem? (i := 104) rfl)) rfl, bl_in_tb (bl_t1 (List.mem_of_getElem? (i := 1) rfl)) rfl, bl_in_tb (bl_t4 (List.mem_of_getElem? (i := 105) rfl)) rfl, ⟨by decide +kernel, by decide +kernel, by decide +kernel⟩⟩
set_option maxRecDepth 20000 in
theorem mV_X9_isAsked : bl_mV yX9_isAsked cX9_isAsked 3 (Option.some Jvm.ClassFile.FieldType.boolean) 2 := ⟨bl_in_tb (bl_t4 (List.mem_of_getElem? (i := 108) rfl)) rfl, bl_in_sel (List.mem_of_getElem? (i := 23) rfl) rfl, bl_in_tb (bl_t1 (List.mem_of_getElem? (i := 1) rfl)) rfl, bl_in_tb (bl_t4 (List.mem_of_getElem? (i := 109) rfl)) rfl, ⟨by decide +kernel, by decide +kernel, by decide +kernel⟩⟩
set_option maxRecDepth 20000 in
theorem mV_X4_costOf : bl_mV yX4_costOf cX4_costOf 3 (Option.some Jvm.ClassFile.FieldType.long) 2 := ⟨bl_in_tb (bl_t4 (List.mem_of_getElem? (i := 112) rfl)) rfl, bl_in_tb (bl_t4 (List.mem_of_getElem? (i := 113) rfl)) rfl, bl_in_tb (bl_t1 (List.mem_of_getElem? (i := 8) rfl)) rfl, bl_in_tb (bl_t4 (List.mem_of_getElem? (i := 114) rfl)) rfl, ⟨by decide +kernel, by decide +kernel, by decide +kernel⟩⟩
set_option maxRecDepth 20000 in
theorem mV_X9_guards : bl_mV yX9_guards cX9_guards 3 (Option.some Jvm.ClassFile.FieldType.int) 2 := ⟨bl_in_tb (bl_t4 (List.mem_of_getElem? (i := 117) rfl)) rfl, bl_in_tb (bl_t4 (List.mem_of_getElem? (i := 118) rfl)) rfl, bl_in_tb (bl_t1 (List.mem_of_getElem? (i := 1) rfl)) rfl, bl_in_tb (bl_t4 (List.mem_of_getElem? (i := 119) rfl)) rfl, ⟨by decide +kernel, by decide +kernel, by decide +kernel⟩⟩
set_option maxRecDepth 20000 in
theorem mV_X9_ahead : bl_mV yX9_ahead cX9_ahead 6 (Option.some Jvm.ClassFile.FieldType.long) 5 := ⟨bl_in_tb (bl_t4 (List.mem_of_getElem? (i := 121) rfl)) rfl, bl_in_tb (bl_t4 (List.mem_of_getElem? (i := 122) rfl)) rfl, bl_in_tb (bl_t1 (List.mem_of_getElem? (i := 1) rfl)) rfl, bl_in_tb (bl_t4 (List.mem_of_getElem? (i := 123) rfl)) rfl, ⟨by decide +kernel, by decide +kernel, by decide +kernel⟩⟩
set_option maxRecDepth 20000 in
theorem mV_X9_isState : bl_mV yX9_isState cX9_isState 5 (Option.some Jvm.ClassFile.FieldType.boolean) 4 := ⟨bl_in_tb (bl_t4 (List.mem_of_getElem? (i := 126) rfl)) rfl, bl_in_sel (List.mem_of_getElem? (i := 24) rfl) rfl, bl_in_tb (bl_t1 (List.mem_of_getElem? (i := 1) rfl)) rfl, bl_in_tb (bl_t4 (List.mem_of_getElem? (i := 127) rfl)) rfl, ⟨by decide +kernel, by decide +kernel, by decide +kernel⟩⟩
set_option maxRecDepth 20000 in
theorem mV_X4_aheadOf : bl_mV yX4_aheadOf cX4_aheadOf 4 (Option.some Jvm.ClassFile.FieldType.long) 3 := ⟨bl_in_tb (bl_t4 (List.mem_of_getElem? (i := 130) rfl)) rfl, bl_in_tb (bl_t4 (List.mem_of_getElem? (i := 131) rfl)) rfl, bl_in_tb (bl_t1 (List.mem_of_getElem? (i := 8) rfl)) rfl, bl_in_tb (bl_t4 (List.mem_of_getElem? (i := 132) rfl)) rfl, ⟨by decide +kernel, by decide +kernel, by decide +kernel⟩⟩
set_option maxRecDepth 20000 in
theorem mV_X9_least : bl_mV yX9_least cX9_least 6 (Option.some Jvm.ClassFile.FieldType.int) 5 := ⟨bl_in_tb (bl_t4 (List.mem_of_getElem? (i := 134) rfl)) rfl, bl_in_tb (bl_t4 (List.mem_of_getElem? (i := 135) rfl)) rfl, bl_in_tb (bl_t1 (List.mem_of_getElem? (i := 1) rfl)) rfl, bl_in_tb (bl_t4 (List.mem_of_getElem? (i := 136) rfl)) rfl, ⟨by decide +kernel, by decide +kernel, by decide +kernel⟩⟩
set_option maxRecDepth 20000 in
theorem mV_X4_leastTold : bl_mV yX4_leastTold cX4_leastTold 8 (Option.some Jvm.ClassFile.FieldType.int) 3 := ⟨bl_in_tb (bl_t4 (List.mem_of_getElem? (i := 138) rfl)) rfl, bl_in_tb (bl_t4 (List.mem_of_getElem? (i := 139) rfl)) rfl, bl_in_tb (bl_t1 (List.mem_of_getElem? (i := 8) rfl)) rfl, bl_in_tb (bl_t4 (List.mem_of_getElem? (i := 140) rfl)) rfl, ⟨by decide +kernel, by decide +kernel, by decide +kernel⟩⟩
set_option maxRecDepth 20000 in
theorem mV_X9_tells : bl_mV yX9_tells cX9_tells 8 (Option.some Jvm.ClassFile.FieldType.int) 5 := ⟨bl_in_tb (bl_t4 (List.mem_of_getElem? (i := 144) rfl)) rfl, bl_in_tb (bl_t4 (List.mem_of_getElem? (i := 145) rfl)) rfl, bl_in_tb (bl_t1 (List.mem_of_getElem? (i := 1) rfl)) rfl, bl_in_tb (bl_t4 (List.mem_of_getElem? (i := 146) rfl)) rfl, ⟨by decide +kernel, by decide +kernel, by decide +kernel⟩⟩
set_option maxRecDepth 20000 in
theorem mV_X9_gain : bl_mV yX9_gain cX9_gain 7 (Option.some Jvm.ClassFile.FieldType.long) 6 := ⟨bl_in_tb (bl_t4 (List.mem_of_getElem? (i := 148) rfl)) rfl, bl_in_tb (bl_t4 (List.mem_of_getElem? (i := 149) rfl)) rfl, bl_in_tb (bl_t1 (List.mem_of_getElem? (i := 1) rfl)) rfl, bl_in_tb (bl_t4 (List.mem_of_getElem? (i := 150) rfl)) rfl, ⟨by decide +kernel, by decide +kernel, by decide +kernel⟩⟩
set_option maxRecDepth 20000 in
theorem mV_X9_patience : bl_mV yX9_patience cX9_patience 4 (Option.some Jvm.ClassFile.FieldType.int) 2 := ⟨bl_in_tb (bl_t4 (List.mem_of_getElem? (i := 153) rfl)) rfl, bl_in_tb (bl_t4 (List.mem_of_getElem? (i := 154) rfl)) rfl, bl_in_tb (bl_t1 (List.mem_of_getElem? (i := 1) rfl)) rfl, bl_in_tb (bl_t4 (List.mem_of_getElem? (i := 155) rfl)) rfl, ⟨by decide +kernel, by decide +kernel, by decide +kernel⟩⟩
set_option maxRecDepth 20000 in
theorem mV_X9_worst : bl_mV yX9_worst cX9_worst 3 (Option.some Jvm.ClassFile.FieldType.long) 2 := ⟨bl_in_tb (bl_t4 (List.mem_of_getElem? (i := 157) rfl)) rfl, bl_in_tb (bl_t4 (List.mem_of_getElem? (i := 158) rfl)) rfl, bl_in_tb (bl_t1 (List.mem_of_getElem? (i := 1) rfl)) rfl, bl_in_tb (bl_t4 (List.mem_of_getElem? (i := 159) rfl)) rfl, ⟨by decide +kernel, by decide +kernel, by decide +kernel⟩⟩
set_option maxRecDepth 20000 in
theorem mV_X9_bare : bl_mV yX9_bare cX9_bare 3 (Option.some Jvm.ClassFile.FieldType.long) 2 := ⟨bl_in_tb (bl_t4 (List.mem_of_getElem? (i := 161) rfl)) rfl, bl_in_tb (bl_t4 (List.mem_of_getElem? (i := 162) rfl)) rfl, bl_in_tb (bl_t1 (List.mem_of_getElem? (i := 1) rfl)) rfl, bl_in_tb (bl_t4 (List.mem_of_getElem? (i := 163) rfl)) rfl, ⟨by decide +kernel, by decide +kernel, by decide +kernel⟩⟩
set_option maxRecDepth 20000 in
theorem mV_X9_bareCost : bl_mV yX9_bareCost cX9_bareCost 3 (Option.some Jvm.ClassFile.FieldType.long) 2 := ⟨bl_in_tb (bl_t4 (List.mem_of_getElem? (i := 166) rfl)) rfl, bl_in_sel (List.mem_of_getElem? (i := 25) rfl) rfl, bl_in_tb (bl_t1 (List.mem_of_getElem? (i := 1) rfl)) rfl, bl_in_tb (bl_t4 (List.mem_of_getElem? (i := 167) rfl)) rfl, ⟨by decide +kernel, by decide +kernel, by decide +kernel⟩⟩
set_option maxRecDepth 20000 in
theorem mV_X9_by : bl_mV yX9_by cX9_by 5 (Option.some Jvm.ClassFile.FieldType.long) 4 := ⟨bl_in_tb (bl_t4 (List.mem_of_getElem? (i := 169) rfl)) rfl, bl_in_tb (bl_t4 (List.mem_of_getElem? (i := 170) rfl)) rfl, bl_in_tb (bl_t1 (List.mem_of_getElem? (i := 1) rfl)) rfl, bl_in_tb (bl_t4 (List.mem_of_getElem? (i := 171) rfl)) rfl, ⟨by decide +kernel, by decide +kernel, by decide +kernel⟩⟩
set_option maxRecDepth 20000 in
theorem mV_X9_costByRule : bl_mV yX9_costByRule cX9_costByRule 5 (Option.some Jvm.ClassFile.FieldType.long) 4 := ⟨bl_in_tb (bl_t4 (List.mem_of_getElem? (i := 174) rfl)) rfl, bl_in_sel (List.mem_of_getElem? (i := 26) rfl) rfl, bl_in_tb (bl_t1 (List.mem_of_getElem? (i := 1) rfl)) rfl, bl_in_tb (bl_t4 (List.mem_of_getElem? (i := 175) rfl)) rfl, ⟨by decide +kernel, by decide +kernel, by decide +kernel⟩⟩
set_option maxRecDepth 20000 in
theorem mV_X9_bestLimit : bl_mV yX9_bestLimit cX9_bestLimit 10 (Option.some Jvm.ClassFile.FieldType.int) 2 := ⟨bl_in_tb (bl_t4 (List.mem_of_getElem? (i := 177) rfl)) rfl, bl_in_tb (bl_t4 (List.mem_of_getElem? (i := 178) rfl)) rfl, bl_in_tb (bl_t1 (List.mem_of_getElem? (i := 1) rfl)) rfl, bl_in_tb (bl_t4 (List.mem_of_getElem? (i := 179) rfl)) rfl, ⟨by decide +kernel, by decide +kernel, by decide +kernel⟩⟩
set_option maxRecDepth 20000 in
theorem mV_X9_worth : bl_mV yX9_worth cX9_worth 4 (Option.some Jvm.ClassFile.FieldType.long) 3 := ⟨bl_in_tb (bl_t4 (List.mem_of_getElem? (i := 181) rfl)) rfl, bl_in_tb (bl_t4 (List.mem_of_getElem? (i := 182) rfl)) rfl, bl_in_tb (bl_t1 (List.mem_of_getElem? (i := 1) rfl)) rfl, bl_in_tb (bl_t4 (List.mem_of_getElem? (i := 183) rfl)) rfl, ⟨by decide +kernel, by decide +kernel, by decide +kernel⟩⟩
set_option maxRecDepth 20000 in
theorem mV_X9_cheapest : bl_mV yX9_cheapest cX9_cheapest 4 (Option.some Jvm.ClassFile.FieldType.int) 1 := ⟨bl_in_tb (bl_t4 (List.mem_of_getElem? (i := 185) rfl)) rfl, bl_in_tb (bl_t4 (List.mem_of_getElem? (i := 186) rfl)) rfl, bl_in_tb (bl_t1 (List.mem_of_getElem? (i := 1) rfl)) rfl, bl_in_tb (bl_t4 (List.mem_of_getElem? (i := 187) rfl)) rfl, ⟨by decide +kernel, by decide +kernel, by decide +kernel⟩⟩
set_option maxRecDepth 20000 in
theorem mV_X9_reach : bl_mV yX9_reach cX9_reach 4 (Option.some Jvm.ClassFile.FieldType.int) 1 := ⟨bl_in_tb (bl_t4 (List.mem_of_getElem? (i := 189) rfl)) rfl, bl_in_tb (bl_t4 (List.mem_of_getElem? (i := 190) rfl)) rfl, bl_in_tb (bl_t1 (List.mem_of_getElem? (i := 1) rfl)) rfl, bl_in_tb (bl_t4 (List.mem_of_getElem? (i := 191) rfl)) rfl, ⟨by decide +kernel, by decide +kernel, by decide +kernel⟩⟩
set_option maxRecDepth 20000 in
theorem mV_X9_stepFrom : bl_mV yX9_stepFrom cX9_stepFrom 5 (Option.some Jvm.ClassFile.FieldType.int) 1 := ⟨bl_in_tb (bl_t4 (List.mem_of_getElem? (i := 194) rfl)) rfl, bl_in_sel (List.mem_of_getElem? (i := 27) rfl) rfl, bl_in_tb (bl_t1 (List.mem_of_getElem? (i := 1) rfl)) rfl, bl_in_tb (bl_t4 (List.mem_of_getElem? (i := 195) rfl)) rfl, ⟨by decide +kernel, by decide +kernel, by decide +kernel⟩⟩
set_option maxRecDepth 20000 in
theorem mV_X9_years : bl_mV yX9_years cX9_years 5 (Option.some Jvm.ClassFile.FieldType.int) 2 := ⟨bl_in_tb (bl_t4 (List.mem_of_getElem? (i := 198) rfl)) rfl, bl_in_tb (bl_t4 (List.mem_of_getElem? (i := 199) rfl)) rfl, bl_in_tb (bl_t1 (List.mem_of_getElem? (i := 1) rfl)) rfl, bl_in_tb (bl_t4 (List.mem_of_getElem? (i := 200) rfl)) rfl, ⟨by decide +kernel, by decide +kernel, by decide +kernel⟩⟩
set_option maxRecDepth 20000 in
theorem mV_X9_ways : bl_mV yX9_ways cX9_ways 2 (Option.some Jvm.ClassFile.FieldType.int) 1 := ⟨bl_in_tb (bl_t4 (List.mem_of_getElem? (i := 202) rfl)) rfl, bl_in_tb (bl_t4 (List.mem_of_getElem? (i := 203) rfl)) rfl, bl_in_tb (bl_t1 (List.mem_of_getElem? (i := 1) rfl)) rfl, bl_in_tb (bl_t4 (List.mem_of_getElem? (i := 204) rfl)) rfl, ⟨by decide +kernel, by decide +kernel, by decide +kernel⟩⟩
set_option maxRecDepth 20000 in
theorem mV_X9_waysOf : bl_mV yX9_waysOf cX9_waysOf 5 (Option.some Jvm.ClassFile.FieldType.int) 1 := ⟨bl_in_tb (bl_t4 (List.mem_of_getElem? (i := 207) rfl)) rfl, bl_in_sel (List.mem_of_getElem? (i := 28) rfl) rfl, bl_in_tb (bl_t1 (List.mem_of_getElem? (i := 1) rfl)) rfl, bl_in_tb (bl_t4 (List.mem_of_getElem? (i := 208) rfl)) rfl, ⟨by decide +kernel, by decide +kernel, by decide +kernel⟩⟩
set_option maxRecDepth 20000 in
theorem mV_X9_moves : bl_mV yX9_moves cX9_moves 5 (Option.some Jvm.ClassFile.FieldType.int) 2 := ⟨bl_in_tb (bl_t4 (List.mem_of_getElem? (i := 210) rfl)) rfl, bl_in_tb (bl_t4 (List.mem_of_getElem? (i := 211) rfl)) rfl, bl_in_tb (bl_t1 (List.mem_of_getElem? (i := 1) rfl)) rfl, bl_in_tb (bl_t4 (List.mem_of_getElem? (i := 212) rfl)) rfl, ⟨by decide +kernel, by decide +kernel, by decide +kernel⟩⟩
set_option maxRecDepth 20000 in
theorem mV_X9_spread : bl_mV yX9_spread cX9_spread 5 (Option.some Jvm.ClassFile.FieldType.long) 3 := ⟨bl_in_tb (bl_t4 (List.mem_of_getElem? (i := 214) rfl)) rfl, bl_in_tb (bl_t4 (List.mem_of_getElem? (i := 215) rfl)) rfl, bl_in_tb (bl_t1 (List.mem_of_getElem? (i := 1) rfl)) rfl, bl_in_tb (bl_t4 (List.mem_of_getElem? (i := 216) rfl)) rfl, ⟨by decide +kernel, by decide +kernel, by decide +kernel⟩⟩
set_option maxRecDepth 20000 in
theorem mV_X9_spreadOneYear : bl_mV yX9_spreadOneYear cX9_spreadOneYear 4 (Option.none : Option Jvm.ClassFile.FieldType) 0 := ⟨bl_in_tb (bl_t4 (List.mem_of_getElem? (i := 219) rfl)) rfl, bl_in_sel (List.mem_of_getElem? (i := 29) rfl) rfl, bl_in_tb (bl_t1 (List.mem_of_getElem? (i := 1) rfl)) rfl, bl_in_tb (bl_t4 (List.mem_of_getElem? (i := 220) rfl)) rfl, ⟨by decide +kernel, by decide +kernel, by decide +kernel⟩⟩
set_option maxRecDepth 20000 in
theorem mV_X9_shared : bl_mV yX9_shared cX9_shared 4 (Option.some Jvm.ClassFile.FieldType.long) 3 := ⟨bl_in_tb (bl_t4 (List.mem_of_getElem? (i := 223) rfl)) rfl, bl_in_tb (bl_t4 (List.mem_of_getElem? (i := 224) rfl)) rfl, bl_in_tb (bl_t1 (List.mem_of_getElem? (i := 1) rfl)) rfl, bl_in_tb (bl_t4 (List.mem_of_getElem? (i := 225) rfl)) rfl, ⟨by decide +kernel, by decide +kernel, by decide +kernel⟩⟩
set_option maxRecDepth 20000 in
theorem mV_X1_costOf : bl_mV yX1_costOf cX1_costOf 7 (Option.some Jvm.ClassFile.FieldType.long) 4 := ⟨bl_in_tb (bl_t4 (List.mem_of_getElem? (i := 227) rfl)) rfl, bl_in_tb (bl_t4 (List.mem_of_getElem? (i := 228) rfl)) rfl, bl_in_tb (bl_t1 (List.mem_of_getElem? (i := 10) rfl)) rfl, bl_in_tb (bl_t4 (List.mem_of_getElem? (i := 229) rfl)) rfl, ⟨by decide +kernel, by decide +kernel, by decide +kernel⟩⟩
set_option maxRecDepth 20000 in
theorem mV_X1_fillPairs : bl_mV yX1_fillPairs cX1_fillPairs 7 (Option.none : Option Jvm.ClassFile.FieldType) 1 := ⟨bl_in_tb (bl_t4 (List.mem_of_getElem? (i := 233) rfl)) rfl, bl_in_sel (List.mem_of_getElem? (i := 30) rfl) rfl, bl_in_tb (bl_t1 (List.mem_of_getElem? (i := 10) rfl)) rfl, bl_in_tb (bl_t4 (List.mem_of_getElem? (i := 234) rfl)) rfl, ⟨by decide +kernel, by decide +kernel, by decide +kernel⟩⟩
set_option maxRecDepth 20000 in
theorem mV_X1_costBehindPremiums : bl_mV yX1_costBehindPremiums cX1_costBehindPremiums 8 (Option.some Jvm.ClassFile.FieldType.long) 3 := ⟨bl_in_tb (bl_t4 (List.mem_of_getElem? (i := 239) rfl)) rfl, bl_in_sel (List.mem_of_getElem? (i := 31) rfl) rfl, bl_in_tb (bl_t1 (List.mem_of_getElem? (i := 10) rfl)) rfl, bl_in_tb (bl_t5 (List.mem_of_getElem? (i := 0) rfl)) rfl, ⟨by decide +kernel, by decide +kernel, by decide +kernel⟩⟩
set_option maxRecDepth 20000 in
theorem mS_X1_index : bl_mS yX1_index cX1_index 3 (Option.some Jvm.ClassFile.FieldType.int) 3 := ⟨bl_in_tb (bl_t5 (List.mem_of_getElem? (i := 3) rfl)) rfl, bl_in_tb (bl_t1 (List.mem_of_getElem? (i := 10) rfl)) rfl, bl_in_tb (bl_t5 (List.mem_of_getElem? (i := 4) rfl)) rfl, ⟨by decide +kernel, by decide +kernel, by decide +kernel⟩⟩
set_option maxRecDepth 20000 in
theorem mV_X1_toldCost : bl_mV yX1_toldCost cX1_toldCost 8 (Option.some Jvm.ClassFile.FieldType.long) 3 := ⟨bl_in_tb (bl_t5 (List.mem_of_getElem? (i := 9) rfl)) rfl, bl_in_sel (List.mem_of_getElem? (i := 32) rfl) rfl, bl_in_tb (bl_t1 (List.mem_of_getElem? (i := 10) rfl)) rfl, bl_in_tb (bl_t5 (List.mem_of_getElem? (i := 10) rfl)) rfl, ⟨by decide +kernel, by decide +kernel, by decide +kernel⟩⟩
set_option maxRecDepth 20000 in
theorem mS_J9_min_f86c9 : bl_mS yJ9_min_f86c9 cJ9_min_f86c9 4 (Option.some Jvm.ClassFile.FieldType.long) 2 := ⟨bl_in_tb (bl_t5 (List.mem_of_getElem? (i := 12) rfl)) rfl, bl_in_tb (bl_t1 (List.mem_of_getElem? (i := 17) rfl)) rfl, bl_in_tb (bl_t5 (List.mem_of_getElem? (i := 13) rfl)) rfl, ⟨by decide +kernel, by decide +kernel, by decide +kernel⟩⟩
set_option maxRecDepth 20000 in
theorem mV_X9_joined : bl_mV yX9_joined cX9_joined 5 (Option.some Jvm.ClassFile.FieldType.long) 4 := ⟨bl_in_tb (bl_t5 (List.mem_of_getElem? (i := 16) rfl)) rfl, bl_in_tb (bl_t5 (List.mem_of_getElem? (i := 17) rfl)) rfl, bl_in_tb (bl_t1 (List.mem_of_getElem? (i := 1) rfl)) rfl, bl_in_tb (bl_t5 (List.mem_of_getElem? (i := 18) rfl)) rfl, ⟨by decide +kernel, by decide +kernel, by decide +kernel⟩⟩
set_option maxRecDepth 20000 in
theorem mV_X9_joinedClass : bl_mV yX9_joinedClass cX9_joinedClass 3 (Option.some Jvm.ClassFile.FieldType.int) 2 := ⟨bl_in_tb (bl_t5 (List.mem_of_getElem? (i := 21) rfl)) rfl, bl_in_sel (List.mem_of_getElem? (i := 33) rfl) rfl, bl_in_tb (bl_t1 (List.mem_of_getElem? (i := 1) rfl)) rfl, bl_in_tb (bl_t5 (List.mem_of_getElem? (i := 22) rfl)) rfl, ⟨by decide +kernel, by decide +kernel, by decide +kernel⟩⟩
set_option maxRecDepth 20000 in
theorem mV_X9_joinedCost : bl_mV yX9_joinedCost cX9_joinedCost 4 (Option.some Jvm.ClassFile.FieldType.long) 3 := ⟨bl_in_tb (bl_t5 (List.mem_of_getElem? (i := 25) rfl)) rfl, bl_in_sel (List.mem_of_getElem? (i := 34) rfl) rfl, bl_in_tb (bl_t1 (List.mem_of_getElem? (i := 1) rfl)) rfl, bl_in_tb (bl_t5 (List.mem_of_getElem? (i := 26) rfl)) rfl, ⟨by decide +kernel, by decide +kernel, by decide +kernel⟩⟩
set_option maxRecDepth 20000 in
theorem mV_X9_rebate : bl_mV yX9_rebate cX9_rebate 11 (Option.some Jvm.ClassFile.FieldType.int) 3 := ⟨bl_in_tb (bl_t5 (List.mem_of_getElem? (i := 28) rfl)) rfl, bl_in_tb (bl_t5 (List.mem_of_getElem? (i := 29) rfl)) rfl, bl_in_tb (bl_t1 (List.mem_of_getElem? (i := 1) rfl)) rfl, bl_in_tb (bl_t5 (List.mem_of_getElem? (i := 30) rfl)) rfl, ⟨by decide +kernel, by decide +kernel, by decide +kernel⟩⟩
set_option maxRecDepth 20000 in
theorem mV_X9_advice : bl_mV yX9_advice cX9_advice 4 (Option.some Jvm.ClassFile.FieldType.int) 2 := ⟨bl_in_tb (bl_t5 (List.mem_of_getElem? (i := 32) rfl)) rfl, bl_in_tb (bl_t5 (List.mem_of_getElem? (i := 33) rfl)) rfl, bl_in_tb (bl_t1 (List.mem_of_getElem? (i := 1) rfl)) rfl, bl_in_tb (bl_t5 (List.mem_of_getElem? (i := 34) rfl)) rfl, ⟨by decide +kernel, by decide +kernel, by decide +kernel⟩⟩
set_option maxRecDepth 20000 in
theorem mV_X9_rest : bl_mV yX9_rest cX9_rest 5 (Option.some Jvm.ClassFile.FieldType.int) 1 := ⟨bl_in_tb (bl_t5 (List.mem_of_getElem? (i := 36) rfl)) rfl, bl_in_tb (bl_t5 (List.mem_of_getElem? (i := 37) rfl)) rfl, bl_in_tb (bl_t1 (List.mem_of_getElem? (i := 1) rfl)) rfl, bl_in_tb (bl_t5 (List.mem_of_getElem? (i := 38) rfl)) rfl, ⟨by decide +kernel, by decide +kernel, by decide +kernel⟩⟩
set_option maxRecDepth 20000 in
theorem mV_X9_were : bl_mV yX9_were cX9_were 5 (Option.some Jvm.ClassFile.FieldType.long) 4 := ⟨bl_in_tb (bl_t5 (List.mem_of_getElem? (i := 40) rfl)) rfl, bl_in_tb (bl_t5 (List.mem_of_getElem? (i := 41) rfl)) rfl, bl_in_tb (bl_t1 (List.mem_of_getElem? (i := 1) rfl)) rfl, bl_in_tb (bl_t5 (List.mem_of_getElem? (i := 42) rfl)) rfl, ⟨by decide +kernel, by decide +kernel, by decide +kernel⟩⟩
set_option maxRecDepth 20000 in
theorem mV_X9_costWere : bl_mV yX9_costWere cX9_costWere 5 (Option.some Jvm.ClassFile.FieldType.long) 4 := ⟨bl_in_tb (bl_t5 (List.mem_of_getElem? (i := 45) rfl)) rfl, bl_in_sel (List.mem_of_getElem? (i := 35) rfl) rfl, bl_in_tb (bl_t1 (List.mem_of_getElem? (i := 1) rfl)) rfl, bl_in_tb (bl_t5 (List.mem_of_getElem? (i := 46) rfl)) rfl, ⟨by decide +kernel, by decide +kernel, by decide +kernel⟩⟩
set_option maxRecDepth 20000 in
theorem mV_X9_lacking : bl_mV yX9_lacking cX9_lacking 4 (Option.some Jvm.ClassFile.FieldType.long) 3 := ⟨bl_in_tb (bl_t5 (List.mem_of_getElem? (i := 48) rfl)) rfl, bl_in_tb (bl_t5 (List.mem_of_getElem? (i := 49) rfl)) rfl, bl_in_tb (bl_t1 (List.mem_of_getElem? (i := 1) rfl)) rfl, bl_in_tb (bl_t5 (List.mem_of_getElem? (i := 50) rfl)) rfl, ⟨by decide +kernel, by decide +kernel, by decide +kernel⟩⟩
set_option maxRecDepth 20000 in
theorem mV_X9_oddsFor : bl_mV yX9_oddsFor cX9_oddsFor 6 (Option.some Jvm.ClassFile.FieldType.int) 3 := ⟨bl_in_tb (bl_t5 (List.mem_of_getElem? (i := 52) rfl)) rfl, bl_in_tb (bl_t5 (List.mem_of_getElem? (i := 53) rfl)) rfl, bl_in_tb (bl_t1 (List.mem_of_getElem? (i := 1) rfl)) rfl, bl_in_tb (bl_t5 (List.mem_of_getElem? (i := 54) rfl)) rfl, ⟨by decide +kernel, by decide +kernel, by decide +kernel⟩⟩
set_option maxRecDepth 20000 in
theorem mV_X9_bestOwn : bl_mV yX9_bestOwn cX9_bestOwn 10 (Option.some Jvm.ClassFile.FieldType.int) 3 := ⟨bl_in_tb (bl_t5 (List.mem_of_getElem? (i := 56) rfl)) rfl, bl_in_tb (bl_t5 (List.mem_of_getElem? (i := 57) rfl)) rfl, bl_in_tb (bl_t1 (List.mem_of_getElem? (i := 1) rfl)) rfl, bl_in_tb (bl_t5 (List.mem_of_getElem? (i := 58) rfl)) rfl, ⟨by decide +kernel, by decide +kernel, by decide +kernel⟩⟩
set_option maxRecDepth 20000 in
theorem mV_X9_would : bl_mV yX9_would cX9_would 7 (Option.some Jvm.ClassFile.FieldType.int) 5 := ⟨bl_in_tb (bl_t5 (List.mem_of_getElem? (i := 60) rfl)) rfl, bl_in_tb (bl_t5 (List.mem_of_getElem? (i := 61) rfl)) rfl, bl_in_tb (bl_t1 (List.mem_of_getElem? (i := 1) rfl)) rfl, bl_in_tb (bl_t5 (List.mem_of_getElem? (i := 62) rfl)) rfl, ⟨by decide +kernel, by decide +kernel, by decide +kernel⟩⟩
set_option maxRecDepth 20000 in
theorem mV_X9_lifeElsewhere : bl_mV yX9_lifeElsewhere cX9_lifeElsewhere 1 (Option.some (Jvm.ClassFile.FieldType.object "BonusLadder$Life")) 0 := ⟨bl_in_tb (bl_t5 (List.mem_of_getElem? (i := 65) rfl)) rfl, bl_in_sel (List.mem_of_getElem? (i := 36) rfl) rfl, bl_in_tb (bl_t1 (List.mem_of_getElem? (i := 1) rfl)) rfl, bl_in_tb (bl_t5 (List.mem_of_getElem? (i := 66) rfl)) rfl, ⟨by decide +kernel, by decide +kernel, by decide +kernel⟩⟩
set_option maxRecDepth 20000 in
theorem mV_X9_bestRule : bl_mV yX9_bestRule cX9_bestRule 7 (Option.some Jvm.ClassFile.FieldType.int) 2 := ⟨bl_in_tb (bl_t5 (List.mem_of_getElem? (i := 68) rfl)) rfl, bl_in_tb (bl_t5 (List.mem_of_getElem? (i := 69) rfl)) rfl, bl_in_tb (bl_t1 (List.mem_of_getElem? (i := 1) rfl)) rfl, bl_in_tb (bl_t5 (List.mem_of_getElem? (i := 70) rfl)) rfl, ⟨by decide +kernel, by decide +kernel, by decide +kernel⟩⟩
set_option maxRecDepth 20000 in
theorem mV_X9_dearest : bl_mV yX9_dearest cX9_dearest 4 (Option.some Jvm.ClassFile.FieldType.int) 2 := ⟨bl_in_tb (bl_t5 (List.mem_of_getElem? (i := 72) rfl)) rfl, bl_in_tb (bl_t5 (List.mem_of_getElem? (i := 73) rfl)) rfl, bl_in_tb (bl_t1 (List.mem_of_getElem? (i := 1) rfl)) rfl, bl_in_tb (bl_t5 (List.mem_of_getElem? (i := 74) rfl)) rfl, ⟨by decide +kernel, by decide +kernel, by decide +kernel⟩⟩
set_option maxRecDepth 20000 in
theorem mV_X9_spell : bl_mV yX9_spell cX9_spell 4 (Option.some Jvm.ClassFile.FieldType.int) 1 := ⟨bl_in_tb (bl_t5 (List.mem_of_getElem? (i := 76) rfl)) rfl, bl_in_tb (bl_t5 (List.mem_of_getElem? (i := 77) rfl)) rfl, bl_in_tb (bl_t1 (List.mem_of_getElem? (i := 1) rfl)) rfl, bl_in_tb (bl_t5 (List.mem_of_getElem? (i := 78) rfl)) rfl, ⟨by decide +kernel, by decide +kernel, by decide +kernel⟩⟩
set_option maxRecDepth 20000 in
theorem mV_X5_putWord : bl_mV yX5_putWord cX5_putWord 3 (Option.none : Option Jvm.ClassFile.FieldType) 1 := ⟨bl_in_tb (bl_t5 (List.mem_of_getElem? (i := 81) rfl)) rfl, bl_in_tb (bl_t5 (List.mem_of_getElem? (i := 82) rfl)) rfl, bl_in_tb (bl_t1 (List.mem_of_getElem? (i := 5) rfl)) rfl, bl_in_tb (bl_t5 (List.mem_of_getElem? (i := 83) rfl)) rfl, ⟨by decide +kernel, by decide +kernel, by decide +kernel⟩⟩
set_option maxRecDepth 20000 in
theorem mV_X5_putBlank : bl_mV yX5_putBlank cX5_putBlank 1 (Option.none : Option Jvm.ClassFile.FieldType) 0 := ⟨bl_in_tb (bl_t5 (List.mem_of_getElem? (i := 86) rfl)) rfl, bl_in_sel (List.mem_of_getElem? (i := 37) rfl) rfl, bl_in_tb (bl_t1 (List.mem_of_getElem? (i := 5) rfl)) rfl, bl_in_tb (bl_t5 (List.mem_of_getElem? (i := 87) rfl)) rfl, ⟨by decide +kernel, by decide +kernel, by decide +kernel⟩⟩
set_option maxRecDepth 20000 in
theorem mV_X5_put : bl_mV yX5_put cX5_put 2 (Option.none : Option Jvm.ClassFile.FieldType) 1 := ⟨bl_in_tb (bl_t5 (List.mem_of_getElem? (i := 90) rfl)) rfl, bl_in_sel (List.mem_of_getElem? (i := 38) rfl) rfl, bl_in_tb (bl_t1 (List.mem_of_getElem? (i := 5) rfl)) rfl, bl_in_tb (bl_t5 (List.mem_of_getElem? (i := 91) rfl)) rfl, ⟨by decide +kernel, by decide +kernel, by decide +kernel⟩⟩
set_option maxRecDepth 20000 in
theorem mV_X5_putNumber : bl_mV yX5_putNumber cX5_putNumber 4 (Option.none : Option Jvm.ClassFile.FieldType) 1 := ⟨bl_in_tb (bl_t5 (List.mem_of_getElem? (i := 95) rfl)) rfl, bl_in_tb (bl_t5 (List.mem_of_getElem? (i := 96) rfl)) rfl, bl_in_tb (bl_t1 (List.mem_of_getElem? (i := 5) rfl)) rfl, bl_in_tb (bl_t5 (List.mem_of_getElem? (i := 97) rfl)) rfl, ⟨by decide +kernel, by decide +kernel, by decide +kernel⟩⟩
set_option maxRecDepth 20000 in
theorem mV_X5_endPhrase : bl_mV yX5_endPhrase cX5_endPhrase 1 (Option.none : Option Jvm.ClassFile.FieldType) 0 := ⟨bl_in_tb (bl_t5 (List.mem_of_getElem? (i := 99) rfl)) rfl, bl_in_tb (bl_t5 (List.mem_of_getElem? (i := 100) rfl)) rfl, bl_in_tb (bl_t1 (List.mem_of_getElem? (i := 5) rfl)) rfl, bl_in_tb (bl_t5 (List.mem_of_getElem? (i := 101) rfl)) rfl, ⟨by decide +kernel, by decide +kernel, by decide +kernel⟩⟩
set_option maxRecDepth 20000 in
theorem mV_X5_signAt : bl_mV yX5_signAt cX5_signAt 2 (Option.some Jvm.ClassFile.FieldType.int) 1 := ⟨bl_in_tb (bl_t5 (List.mem_of_getElem? (i := 103) rfl)) rfl, bl_in_tb (bl_t5 (List.mem_of_getElem? (i := 104) rfl)) rfl, bl_in_tb (bl_t1 (List.mem_of_getElem? (i := 5) rfl)) rfl, bl_in_tb (bl_t5 (List.mem_of_getElem? (i := 105) rfl)) rfl, ⟨by decide +kernel, by decide +kernel, by decide +kernel⟩⟩
set_option maxRecDepth 20000 in
theorem mV_X9_report : bl_mV yX9_report cX9_report 6 (Option.some Jvm.ClassFile.FieldType.int) 2 := ⟨bl_in_tb (bl_t5 (List.mem_of_getElem? (i := 107) rfl)) rfl, bl_in_tb (bl_t5 (List.mem_of_getElem? (i := 108) rfl)) rfl, bl_in_tb (bl_t1 (List.mem_of_getElem? (i := 1) rfl)) rfl, bl_in_tb (bl_t5 (List.mem_of_getElem? (i := 109) rfl)) rfl, ⟨by decide +kernel, by decide +kernel, by decide +kernel⟩⟩
set_option maxRecDepth 20000 in
theorem mV_X9_count : bl_mV yX9_count cX9_count 2 (Option.some Jvm.ClassFile.FieldType.int) 1 := ⟨bl_in_tb (bl_t5 (List.mem_of_getElem? (i := 114) rfl)) rfl, bl_in_tb (bl_t5 (List.mem_of_getElem? (i := 115) rfl)) rfl, bl_in_tb (bl_t1 (List.mem_of_getElem? (i := 1) rfl)) rfl, bl_in_tb (bl_t5 (List.mem_of_getElem? (i := 116) rfl)) rfl, ⟨by decide +kernel, by decide +kernel, by decide +kernel⟩⟩
set_option maxRecDepth 20000 in
theorem mS_X10_starts : bl_mS yX10_starts cX10_starts 2 (Option.none : Option Jvm.ClassFile.FieldType) 1 := ⟨bl_in_tb (bl_t5 (List.mem_of_getElem? (i := 126) rfl)) rfl, bl_in_tb (bl_t1 (List.mem_of_getElem? (i := 12) rfl)) rfl, bl_in_tb (bl_t5 (List.mem_of_getElem? (i := 127) rfl)) rfl, ⟨by decide +kernel, by decide +kernel, by decide +kernel⟩⟩
set_option maxRecDepth 20000 in
theorem mV_X10_set : bl_mV yX10_set cX10_set 5 (Option.some Jvm.ClassFile.FieldType.int) 3 := ⟨bl_in_tb (bl_t5 (List.mem_of_getElem? (i := 214) rfl)) rfl, bl_in_tb (bl_t5 (List.mem_of_getElem? (i := 215) rfl)) rfl, bl_in_tb (bl_t1 (List.mem_of_getElem? (i := 12) rfl)) rfl, bl_in_tb (bl_t5 (List.mem_of_getElem? (i := 216) rfl)) rfl, ⟨by decide +kernel, by decide +kernel, by decide +kernel⟩⟩
set_option maxRecDepth 20000 in
theorem mV_X10_isClass : bl_mV yX10_isClass cX10_isClass 2 (Option.some Jvm.ClassFile.FieldType.boolean) 1 := ⟨bl_in_tb (bl_t5 (List.mem_of_getElem? (i := 219) rfl)) rfl, bl_in_sel (List.mem_of_getElem? (i := 39) rfl) rfl, bl_in_tb (bl_t1 (List.mem_of_getElem? (i := 12) rfl)) rfl, bl_in_tb (bl_t5 (List.mem_of_getElem? (i := 220) rfl)) rfl, ⟨by decide +kernel, by decide +kernel, by decide +kernel⟩⟩
set_option maxRecDepth 20000 in
theorem mS_X10_in : bl_mS yX10_in cX10_in 6 (Option.some Jvm.ClassFile.FieldType.boolean) 3 := ⟨bl_in_tb (bl_t5 (List.mem_of_getElem? (i := 222) rfl)) rfl, bl_in_tb (bl_t1 (List.mem_of_getElem? (i := 12) rfl)) rfl, bl_in_tb (bl_t5 (List.mem_of_getElem? (i := 223) rfl)) rfl, ⟨by decide +kernel, by decide +kernel, by decide +kernel⟩⟩
set_option maxRecDepth 20000 in
theorem mV_X10_becomes : bl_mV yX10_becomes cX10_becomes 4 (Option.some Jvm.ClassFile.FieldType.int) 2 := ⟨bl_in_tb (bl_t5 (List.mem_of_getElem? (i := 227) rfl)) rfl, bl_in_sel (List.mem_of_getElem? (i := 40) rfl) rfl, bl_in_tb (bl_t1 (List.mem_of_getElem? (i := 12) rfl)) rfl, bl_in_tb (bl_t5 (List.mem_of_getElem? (i := 228) rfl)) rfl, ⟨by decide +kernel, by decide +kernel, by decide +kernel⟩⟩
set_option maxRecDepth 20000 in
theorem mV_X10_keeps : bl_mV yX10_keeps cX10_keeps 2 (Option.none : Option Jvm.ClassFile.FieldType) 0 := ⟨bl_in_tb (bl_t5 (List.mem_of_getElem? (i := 231) rfl)) rfl, bl_in_sel (List.mem_of_getElem? (i := 41) rfl) rfl, bl_in_tb (bl_t1 (List.mem_of_getElem? (i := 12) rfl)) rfl, bl_in_tb (bl_t5 (List.mem_of_getElem? (i := 232) rfl)) rfl, ⟨by decide +kernel, by decide +kernel, by decide +kernel⟩⟩
set_option maxRecDepth 20000 in
theorem mV_X10_sort : bl_mV yX10_sort cX10_sort 4 (Option.some Jvm.ClassFile.FieldType.int) 3 := ⟨bl_in_tb (bl_t5 (List.mem_of_getElem? (i := 234) rfl)) rfl, bl_in_tb (bl_t5 (List.mem_of_getElem? (i := 235) rfl)) rfl, bl_in_tb (bl_t1 (List.mem_of_getElem? (i := 12) rfl)) rfl, bl_in_tb (bl_t5 (List.mem_of_getElem? (i := 236) rfl)) rfl, ⟨by decide +kernel, by decide +kernel, by decide +kernel⟩⟩
set_option maxRecDepth 20000 in
theorem mV_X10_isSort : bl_mV yX10_isSort cX10_isSort 2 (Option.some Jvm.ClassFile.FieldType.boolean) 1 := ⟨bl_in_tb (bl_t5 (List.mem_of_getElem? (i := 239) rfl)) rfl, bl_in_sel (List.mem_of_getElem? (i := 42) rfl) rfl, bl_in_tb (bl_t1 (List.mem_of_getElem? (i := 12) rfl)) rfl, bl_in_tb (bl_t6 (List.mem_of_getElem? (i := 0) rfl)) rfl, ⟨by decide +kernel, by decide +kernel, by decide +kernel⟩⟩
set_option maxRecDepth 20000 in
theorem mV_X10_rule : bl_mV yX10_rule cX10_rule 3 (Option.some Jvm.ClassFile.FieldType.int) 2 := ⟨bl_in_tb (bl_t6 (List.mem_of_getElem? (i := 4) rfl)) rfl, bl_in_tb (bl_t6 (List.mem_of_getElem? (i := 5) rfl)) rfl, bl_in_tb (bl_t1 (List.mem_of_getElem? (i := 12) rfl)) rfl, bl_in_tb (bl_t6 (List.mem_of_getElem? (i := 6) rfl)) rfl, ⟨by decide +kernel, by decide +kernel, by decide +kernel⟩⟩
set_option maxRecDepth 20000 in
theorem mS_X10_isRule : bl_mS yX10_isRule cX10_isRule 2 (Option.some Jvm.ClassFile.FieldType.boolean) 2 := ⟨bl_in_tb (bl_t6 (List.mem_of_getElem? (i := 8) rfl)) rfl, bl_in_tb (bl_t1 (List.mem_of_getElem? (i := 12) rfl)) rfl, bl_in_tb (bl_t6 (List.mem_of_getElem? (i := 9) rfl)) rfl, ⟨by decide +kernel, by decide +kernel, by decide +kernel⟩⟩
set_option maxRecDepth 20000 in
theorem mV_X10_begin : bl_mV yX10_begin cX10_begin 2 (Option.some Jvm.ClassFile.FieldType.int) 1 := ⟨bl_in_tb (bl_t6 (List.mem_of_getElem? (i := 14) rfl)) rfl, bl_in_tb (bl_t6 (List.mem_of_getElem? (i := 15) rfl)) rfl, bl_in_tb (bl_t1 (List.mem_of_getElem? (i := 12) rfl)) rfl, bl_in_tb (bl_t6 (List.mem_of_getElem? (i := 16) rfl)) rfl, ⟨by decide +kernel, by decide +kernel, by decide +kernel⟩⟩
set_option maxRecDepth 20000 in
theorem mV_X10_begins : bl_mV yX10_begins cX10_begins 2 (Option.none : Option Jvm.ClassFile.FieldType) 1 := ⟨bl_in_tb (bl_t6 (List.mem_of_getElem? (i := 19) rfl)) rfl, bl_in_sel (List.mem_of_getElem? (i := 43) rfl) rfl, bl_in_tb (bl_t1 (List.mem_of_getElem? (i := 12) rfl)) rfl, bl_in_tb (bl_t6 (List.mem_of_getElem? (i := 20) rfl)) rfl, ⟨by decide +kernel, by decide +kernel, by decide +kernel⟩⟩
set_option maxRecDepth 20000 in
theorem mV_X10_ofClass : bl_mV yX10_ofClass cX10_ofClass 3 (Option.some Jvm.ClassFile.FieldType.int) 2 := ⟨bl_in_tb (bl_t6 (List.mem_of_getElem? (i := 23) rfl)) rfl, bl_in_sel (List.mem_of_getElem? (i := 44) rfl) rfl, bl_in_tb (bl_t1 (List.mem_of_getElem? (i := 12) rfl)) rfl, bl_in_tb (bl_t6 (List.mem_of_getElem? (i := 24) rfl)) rfl, ⟨by decide +kernel, by decide +kernel, by decide +kernel⟩⟩
set_option maxRecDepth 20000 in
theorem mV_X10_quiet : bl_mV yX10_quiet cX10_quiet 2 (Option.some Jvm.ClassFile.FieldType.int) 0 := ⟨bl_in_tb (bl_t6 (List.mem_of_getElem? (i := 26) rfl)) rfl, bl_in_tb (bl_t6 (List.mem_of_getElem? (i := 27) rfl)) rfl, bl_in_tb (bl_t1 (List.mem_of_getElem? (i := 12) rfl)) rfl, bl_in_tb (bl_t6 (List.mem_of_getElem? (i := 28) rfl)) rfl, ⟨by decide +kernel, by decide +kernel, by decide +kernel⟩⟩
set_option maxRecDepth 20000 in
theorem mV_X10_goesBy : bl_mV yX10_goesBy cX10_goesBy 1 (Option.none : Option Jvm.ClassFile.FieldType) 0 := ⟨bl_in_tb (bl_t6 (List.mem_of_getElem? (i := 31) rfl)) rfl, bl_in_sel (List.mem_of_getElem? (i := 45) rfl) rfl, bl_in_tb (bl_t1 (List.mem_of_getElem? (i := 12) rfl)) rfl, bl_in_tb (bl_t6 (List.mem_of_getElem? (i := 32) rfl)) rfl, ⟨by decide +kernel, by decide +kernel, by decide +kernel⟩⟩
set_option maxRecDepth 20000 in
theorem mV_X10_writes : bl_mV yX10_writes cX10_writes 6 (Option.none : Option Jvm.ClassFile.FieldType) 4 := ⟨bl_in_tb (bl_t6 (List.mem_of_getElem? (i := 35) rfl)) rfl, bl_in_sel (List.mem_of_getElem? (i := 46) rfl) rfl, bl_in_tb (bl_t1 (List.mem_of_getElem? (i := 12) rfl)) rfl, bl_in_tb (bl_t6 (List.mem_of_getElem? (i := 36) rfl)) rfl, ⟨by decide +kernel, by decide +kernel, by decide +kernel⟩⟩
set_option maxRecDepth 20000 in
theorem mV_X10_behind : bl_mV yX10_behind cX10_behind 3 (Option.some Jvm.ClassFile.FieldType.int) 2 := ⟨bl_in_tb (bl_t6 (List.mem_of_getElem? (i := 39) rfl)) rfl, bl_in_sel (List.mem_of_getElem? (i := 47) rfl) rfl, bl_in_tb (bl_t1 (List.mem_of_getElem? (i := 12) rfl)) rfl, bl_in_tb (bl_t6 (List.mem_of_getElem? (i := 40) rfl)) rfl, ⟨by decide +kernel, by decide +kernel, by decide +kernel⟩⟩
set_option maxRecDepth 20000 in
theorem mV_X10_loss : bl_mV yX10_loss cX10_loss 3 (Option.some Jvm.ClassFile.FieldType.int) 2 := ⟨bl_in_tb (bl_t6 (List.mem_of_getElem? (i := 42) rfl)) rfl, bl_in_tb (bl_t6 (List.mem_of_getElem? (i := 43) rfl)) rfl, bl_in_tb (bl_t1 (List.mem_of_getElem? (i := 12) rfl)) rfl, bl_in_tb (bl_t6 (List.mem_of_getElem? (i := 44) rfl)) rfl, ⟨by decide +kernel, by decide +kernel, by decide +kernel⟩⟩
set_option maxRecDepth 20000 in
theorem mV_X10_loses : bl_mV yX10_loses cX10_loses 4 (Option.some Jvm.ClassFile.FieldType.int) 2 := ⟨bl_in_tb (bl_t6 (List.mem_of_getElem? (i := 47) rfl)) rfl, bl_in_sel (List.mem_of_getElem? (i := 48) rfl) rfl, bl_in_tb (bl_t1 (List.mem_of_getElem? (i := 12) rfl)) rfl, bl_in_tb (bl_t6 (List.mem_of_getElem? (i := 48) rfl)) rfl, ⟨by decide +kernel, by decide +kernel, by decide +kernel⟩⟩
set_option maxRecDepth 20000 in
theorem mV_X10_toldPays : bl_mV yX10_toldPays cX10_toldPays 2 (Option.some Jvm.ClassFile.FieldType.int) 1 := ⟨bl_in_tb (bl_t6 (List.mem_of_getElem? (i := 51) rfl)) rfl, bl_in_sel (List.mem_of_getElem? (i := 49) rfl) rfl, bl_in_tb (bl_t1 (List.mem_of_getElem? (i := 12) rfl)) rfl, bl_in_tb (bl_t6 (List.mem_of_getElem? (i := 52) rfl)) rfl, ⟨by decide +kernel, by decide +kernel, by decide +kernel⟩⟩
set_option maxRecDepth 20000 in
theorem mV_X10_size : bl_mV yX10_size cX10_size 2 (Option.some Jvm.ClassFile.FieldType.int) 1 := ⟨bl_in_tb (bl_t6 (List.mem_of_getElem? (i := 55) rfl)) rfl, bl_in_sel (List.mem_of_getElem? (i := 50) rfl) rfl, bl_in_tb (bl_t1 (List.mem_of_getElem? (i := 12) rfl)) rfl, bl_in_tb (bl_t6 (List.mem_of_getElem? (i := 56) rfl)) rfl, ⟨by decide +kernel, by decide +kernel, by decide +kernel⟩⟩
set_option maxRecDepth 20000 in
theorem mV_X10_live : bl_mV yX10_live cX10_live 6 (Option.some Jvm.ClassFile.FieldType.int) 4 := ⟨bl_in_tb (bl_t6 (List.mem_of_getElem? (i := 58) rfl)) rfl, bl_in_tb (bl_t6 (List.mem_of_getElem? (i := 59) rfl)) rfl, bl_in_tb (bl_t1 (List.mem_of_getElem? (i := 12) rfl)) rfl, bl_in_tb (bl_t6 (List.mem_of_getElem? (i := 60) rfl)) rfl, ⟨by decide +kernel, by decide +kernel, by decide +kernel⟩⟩
set_option maxRecDepth 20000 in
theorem mS_X10_isLived : bl_mS yX10_isLived cX10_isLived 3 (Option.some Jvm.ClassFile.FieldType.boolean) 3 := ⟨bl_in_tb (bl_t6 (List.mem_of_getElem? (i := 62) rfl)) rfl, bl_in_tb (bl_t1 (List.mem_of_getElem? (i := 12) rfl)) rfl, bl_in_tb (bl_t6 (List.mem_of_getElem? (i := 63) rfl)) rfl, ⟨by decide +kernel, by decide +kernel, by decide +kernel⟩⟩
set_option maxRecDepth 20000 in
theorem mV_X10_allPaid : bl_mV yX10_allPaid cX10_allPaid 1 (Option.some Jvm.ClassFile.FieldType.int) 0 := ⟨bl_in_tb (bl_t6 (List.mem_of_getElem? (i := 67) rfl)) rfl, bl_in_sel (List.mem_of_getElem? (i := 51) rfl) rfl, bl_in_tb (bl_t1 (List.mem_of_getElem? (i := 12) rfl)) rfl, bl_in_tb (bl_t6 (List.mem_of_getElem? (i := 68) rfl)) rfl, ⟨by decide +kernel, by decide +kernel, by decide +kernel⟩⟩
set_option maxRecDepth 20000 in
theorem mV_X10_lives : bl_mV yX10_lives cX10_lives 11 (Option.none : Option Jvm.ClassFile.FieldType) 4 := ⟨bl_in_tb (bl_t6 (List.mem_of_getElem? (i := 71) rfl)) rfl, bl_in_sel (List.mem_of_getElem? (i := 52) rfl) rfl, bl_in_tb (bl_t1 (List.mem_of_getElem? (i := 12) rfl)) rfl, bl_in_tb (bl_t6 (List.mem_of_getElem? (i := 72) rfl)) rfl, ⟨by decide +kernel, by decide +kernel, by decide +kernel⟩⟩
set_option maxRecDepth 20000 in
theorem mV_X10_lays : bl_mV yX10_lays cX10_lays 5 (Option.none : Option Jvm.ClassFile.FieldType) 4 := ⟨bl_in_tb (bl_t6 (List.mem_of_getElem? (i := 75) rfl)) rfl, bl_in_sel (List.mem_of_getElem? (i := 53) rfl) rfl, bl_in_tb (bl_t1 (List.mem_of_getElem? (i := 12) rfl)) rfl, bl_in_tb (bl_t6 (List.mem_of_getElem? (i := 76) rfl)) rfl, ⟨by decide +kernel, by decide +kernel, by decide +kernel⟩⟩
set_option maxRecDepth 20000 in
theorem mV_X10_laysYears : bl_mV yX10_laysYears cX10_laysYears 15 (Option.none : Option Jvm.ClassFile.FieldType) 5 := ⟨bl_in_tb (bl_t6 (List.mem_of_getElem? (i := 79) rfl)) rfl, bl_in_sel (List.mem_of_getElem? (i := 54) rfl) rfl, bl_in_tb (bl_t1 (List.mem_of_getElem? (i := 12) rfl)) rfl, bl_in_tb (bl_t6 (List.mem_of_getElem? (i := 80) rfl)) rfl, ⟨by decide +kernel, by decide +kernel, by decide +kernel⟩⟩
set_option maxRecDepth 20000 in
theorem mV_X10_laysChances : bl_mV yX10_laysChances cX10_laysChances 6 (Option.none : Option Jvm.ClassFile.FieldType) 2 := ⟨bl_in_tb (bl_t6 (List.mem_of_getElem? (i := 83) rfl)) rfl, bl_in_sel (List.mem_of_getElem? (i := 55) rfl) rfl, bl_in_tb (bl_t1 (List.mem_of_getElem? (i := 12) rfl)) rfl, bl_in_tb (bl_t6 (List.mem_of_getElem? (i := 84) rfl)) rfl, ⟨by decide +kernel, by decide +kernel, by decide +kernel⟩⟩
set_option maxRecDepth 20000 in
theorem mV_X10_costAt : bl_mV yX10_costAt cX10_costAt 3 (Option.some Jvm.ClassFile.FieldType.long) 2 := ⟨bl_in_tb (bl_t6 (List.mem_of_getElem? (i := 87) rfl)) rfl, bl_in_sel (List.mem_of_getElem? (i := 56) rfl) rfl, bl_in_tb (bl_t1 (List.mem_of_getElem? (i := 12) rfl)) rfl, bl_in_tb (bl_t6 (List.mem_of_getElem? (i := 88) rfl)) rfl, ⟨by decide +kernel, by decide +kernel, by decide +kernel⟩⟩
set_option maxRecDepth 20000 in
theorem mS_X10_slot : bl_mS yX10_slot cX10_slot 3 (Option.some Jvm.ClassFile.FieldType.int) 3 := ⟨bl_in_tb (bl_t6 (List.mem_of_getElem? (i := 90) rfl)) rfl, bl_in_tb (bl_t1 (List.mem_of_getElem? (i := 12) rfl)) rfl, bl_in_tb (bl_t6 (List.mem_of_getElem? (i := 91) rfl)) rfl, ⟨by decide +kernel, by decide +kernel, by decide +kernel⟩⟩
set_option maxRecDepth 20000 in
theorem mV_X10_chanceCost : bl_mV yX10_chanceCost cX10_chanceCost 10 (Option.some Jvm.ClassFile.FieldType.long) 3 := ⟨bl_in_tb (bl_t6 (List.mem_of_getElem? (i := 94) rfl)) rfl, bl_in_sel (List.mem_of_getElem? (i := 57) rfl) rfl, bl_in_tb (bl_t1 (List.mem_of_getElem? (i := 12) rfl)) rfl, bl_in_tb (bl_t6 (List.mem_of_getElem? (i := 95) rfl)) rfl, ⟨by decide +kernel, by decide +kernel, by decide +kernel⟩⟩
set_option maxRecDepth 20000 in
theorem mV_X10_lossCost : bl_mV yX10_lossCost cX10_lossCost 10 (Option.some Jvm.ClassFile.FieldType.long) 4 := ⟨bl_in_tb (bl_t6 (List.mem_of_getElem? (i := 99) rfl)) rfl, bl_in_sel (List.mem_of_getElem? (i := 58) rfl) rfl, bl_in_tb (bl_t1 (List.mem_of_getElem? (i := 12) rfl)) rfl, bl_in_tb (bl_t6 (List.mem_of_getElem? (i := 100) rfl)) rfl, ⟨by decide +kernel, by decide +kernel, by decide +kernel⟩⟩
set_option maxRecDepth 20000 in
theorem mV_X10_toldCost : bl_mV yX10_toldCost cX10_toldCost 6 (Option.some Jvm.ClassFile.FieldType.long) 4 := ⟨bl_in_tb (bl_t6 (List.mem_of_getElem? (i := 103) rfl)) rfl, bl_in_sel (List.mem_of_getElem? (i := 59) rfl) rfl, bl_in_tb (bl_t1 (List.mem_of_getElem? (i := 12) rfl)) rfl, bl_in_tb (bl_t6 (List.mem_of_getElem? (i := 104) rfl)) rfl, ⟨by decide +kernel, by decide +kernel, by decide +kernel⟩⟩
set_option maxRecDepth 20000 in
theorem mV_X10_borneCost : bl_mV yX10_borneCost cX10_borneCost 5 (Option.some Jvm.ClassFile.FieldType.long) 4 := ⟨bl_in_tb (bl_t6 (List.mem_of_getElem? (i := 108) rfl)) rfl, bl_in_sel (List.mem_of_getElem? (i := 60) rfl) rfl, bl_in_tb (bl_t1 (List.mem_of_getElem? (i := 12) rfl)) rfl, bl_in_tb (bl_t6 (List.mem_of_getElem? (i := 109) rfl)) rfl, ⟨by decide +kernel, by decide +kernel, by decide +kernel⟩⟩
set_option maxRecDepth 20000 in
theorem mS_X10_greater : bl_mS yX10_greater cX10_greater 4 (Option.some Jvm.ClassFile.FieldType.long) 2 := ⟨bl_in_tb (bl_t6 (List.mem_of_getElem? (i := 111) rfl)) rfl, bl_in_tb (bl_t1 (List.mem_of_getElem? (i := 12) rfl)) rfl, bl_in_tb (bl_t6 (List.mem_of_getElem? (i := 112) rfl)) rfl, ⟨by decide +kernel, by decide +kernel, by decide +kernel⟩⟩
set_option maxRecDepth 20000 in
theorem mV_X10_weights : bl_mV yX10_weights cX10_weights 3 (Option.some Jvm.ClassFile.FieldType.int) 0 := ⟨bl_in_tb (bl_t6 (List.mem_of_getElem? (i := 115) rfl)) rfl, bl_in_sel (List.mem_of_getElem? (i := 61) rfl) rfl, bl_in_tb (bl_t1 (List.mem_of_getElem? (i := 12) rfl)) rfl, bl_in_tb (bl_t6 (List.mem_of_getElem? (i := 116) rfl)) rfl, ⟨by decide +kernel, by decide +kernel, by decide +kernel⟩⟩
set_option maxRecDepth 20000 in
theorem mV_X10_weight : bl_mV yX10_weight cX10_weight 2 (Option.some Jvm.ClassFile.FieldType.int) 1 := ⟨bl_in_tb (bl_t6 (List.mem_of_getElem? (i := 119) rfl)) rfl, bl_in_sel (List.mem_of_getElem? (i := 62) rfl) rfl, bl_in_tb (bl_t1 (List.mem_of_getElem? (i := 12) rfl)) rfl, bl_in_tb (bl_t6 (List.mem_of_getElem? (i := 120) rfl)) rfl, ⟨by decide +kernel, by decide +kernel, by decide +kernel⟩⟩
set_option maxRecDepth 20000 in
theorem mV_X10_isGuarded : bl_mV yX10_isGuarded cX10_isGuarded 3 (Option.some Jvm.ClassFile.FieldType.boolean) 2 := ⟨bl_in_tb (bl_t6 (List.mem_of_getElem? (i := 124) rfl)) rfl, bl_in_sel (List.mem_of_getElem? (i := 63) rfl) rfl, bl_in_tb (bl_t1 (List.mem_of_getElem? (i := 12) rfl)) rfl, bl_in_tb (bl_t6 (List.mem_of_getElem? (i := 125) rfl)) rfl, ⟨by decide +kernel, by decide +kernel, by decide +kernel⟩⟩
set_option maxRecDepth 20000 in
theorem mV_X10_draws : bl_mV yX10_draws cX10_draws 2 (Option.some Jvm.ClassFile.FieldType.int) 1 := ⟨bl_in_tb (bl_t6 (List.mem_of_getElem? (i := 128) rfl)) rfl, bl_in_sel (List.mem_of_getElem? (i := 64) rfl) rfl, bl_in_tb (bl_t1 (List.mem_of_getElem? (i := 12) rfl)) rfl, bl_in_tb (bl_t6 (List.mem_of_getElem? (i := 129) rfl)) rfl, ⟨by decide +kernel, by decide +kernel, by decide +kernel⟩⟩
set_option maxRecDepth 20000 in
theorem mV_X10_sortDrawn : bl_mV yX10_sortDrawn cX10_sortDrawn 3 (Option.some Jvm.ClassFile.FieldType.int) 0 := ⟨bl_in_tb (bl_t6 (List.mem_of_getElem? (i := 133) rfl)) rfl, bl_in_sel (List.mem_of_getElem? (i := 65) rfl) rfl, bl_in_tb (bl_t1 (List.mem_of_getElem? (i := 12) rfl)) rfl, bl_in_tb (bl_t6 (List.mem_of_getElem? (i := 134) rfl)) rfl, ⟨by decide +kernel, by decide +kernel, by decide +kernel⟩⟩
set_option maxRecDepth 20000 in
theorem mV_X10_countedNow : bl_mV yX10_countedNow cX10_countedNow 1 (Option.some Jvm.ClassFile.FieldType.int) 0 := ⟨bl_in_tb (bl_t6 (List.mem_of_getElem? (i := 137) rfl)) rfl, bl_in_sel (List.mem_of_getElem? (i := 66) rfl) rfl, bl_in_tb (bl_t1 (List.mem_of_getElem? (i := 12) rfl)) rfl, bl_in_tb (bl_t6 (List.mem_of_getElem? (i := 138) rfl)) rfl, ⟨by decide +kernel, by decide +kernel, by decide +kernel⟩⟩
set_option maxRecDepth 20000 in
theorem mV_X10_gainOf : bl_mV yX10_gainOf cX10_gainOf 5 (Option.some Jvm.ClassFile.FieldType.long) 4 := ⟨bl_in_tb (bl_t6 (List.mem_of_getElem? (i := 141) rfl)) rfl, bl_in_sel (List.mem_of_getElem? (i := 67) rfl) rfl, bl_in_tb (bl_t1 (List.mem_of_getElem? (i := 12) rfl)) rfl, bl_in_tb (bl_t6 (List.mem_of_getElem? (i := 142) rfl)) rfl, ⟨by decide +kernel, by decide +kernel, by decide +kernel⟩⟩
set_option maxRecDepth 20000 in
theorem mV_X10_come : bl_mV yX10_come cX10_come 3 (Option.some Jvm.ClassFile.FieldType.int) 2 := ⟨bl_in_tb (bl_t6 (List.mem_of_getElem? (i := 144) rfl)) rfl, bl_in_tb (bl_t6 (List.mem_of_getElem? (i := 145) rfl)) rfl, bl_in_tb (bl_t1 (List.mem_of_getElem? (i := 12) rfl)) rfl, bl_in_tb (bl_t6 (List.mem_of_getElem? (i := 146) rfl)) rfl, ⟨by decide +kernel, by decide +kernel, by decide +kernel⟩⟩
set_option maxRecDepth 20000 in
theorem mV_X10_drop : bl_mV yX10_drop cX10_drop 2 (Option.some Jvm.ClassFile.FieldType.int) 1 := ⟨bl_in_tb (bl_t6 (List.mem_of_getElem? (i := 148) rfl)) rfl, bl_in_tb (bl_t6 (List.mem_of_getElem? (i := 149) rfl)) rfl, bl_in_tb (bl_t1 (List.mem_of_getElem? (i := 12) rfl)) rfl, bl_in_tb (bl_t6 (List.mem_of_getElem? (i := 150) rfl)) rfl, ⟨by decide +kernel, by decide +kernel, by decide +kernel⟩⟩
set_option maxRecDepth 20000 in
theorem mV_X10_takesOut : bl_mV yX10_takesOut cX10_takesOut 3 (Option.none : Option Jvm.ClassFile.FieldType) 1 := ⟨bl_in_tb (bl_t6 (List.mem_of_getElem? (i := 153) rfl)) rfl, bl_in_sel (List.mem_of_getElem? (i := 68) rfl) rfl, bl_in_tb (bl_t1 (List.mem_of_getElem? (i := 12) rfl)) rfl, bl_in_tb (bl_t6 (List.mem_of_getElem? (i := 154) rfl)) rfl, ⟨by decide +kernel, by decide +kernel, by decide +kernel⟩⟩
set_option maxRecDepth 20000 in
theorem mV_X10_move : bl_mV yX10_move cX10_move 2 (Option.some Jvm.ClassFile.FieldType.int) 1 := ⟨bl_in_tb (bl_t6 (List.mem_of_getElem? (i := 156) rfl)) rfl, bl_in_tb (bl_t6 (List.mem_of_getElem? (i := 157) rfl)) rfl, bl_in_tb (bl_t1 (List.mem_of_getElem? (i := 12) rfl)) rfl, bl_in_tb (bl_t6 (List.mem_of_getElem? (i := 158) rfl)) rfl, ⟨by decide +kernel, by decide +kernel, by decide +kernel⟩⟩
set_option maxRecDepth 20000 in
theorem mV_X10_anew : bl_mV yX10_anew cX10_anew 3 (Option.some Jvm.ClassFile.FieldType.int) 0 := ⟨bl_in_tb (bl_t6 (List.mem_of_getElem? (i := 160) rfl)) rfl, bl_in_tb (bl_t6 (List.mem_of_getElem? (i := 161) rfl)) rfl, bl_in_tb (bl_t1 (List.mem_of_getElem? (i := 12) rfl)) rfl, bl_in_tb (bl_t6 (List.mem_of_getElem? (i := 162) rfl)) rfl, ⟨by decide +kernel, by decide +kernel, by decide +kernel⟩⟩
set_option maxRecDepth 20000 in
theorem mV_X10_undo : bl_mV yX10_undo cX10_undo 2 (Option.some Jvm.ClassFile.FieldType.int) 0 := ⟨bl_in_tb (bl_t6 (List.mem_of_getElem? (i := 164) rfl)) rfl, bl_in_tb (bl_t6 (List.mem_of_getElem? (i := 165) rfl)) rfl, bl_in_tb (bl_t1 (List.mem_of_getElem? (i := 12) rfl)) rfl, bl_in_tb (bl_t6 (List.mem_of_getElem? (i := 166) rfl)) rfl, ⟨by decide +kernel, by decide +kernel, by decide +kernel⟩⟩
set_option maxRecDepth 20000 in
theorem mV_X10_cost : bl_mV yX10_cost cX10_cost 3 (Option.some Jvm.ClassFile.FieldType.long) 2 := ⟨bl_in_tb (bl_t6 (List.mem_of_getElem? (i := 168) rfl)) rfl, bl_in_tb (bl_t6 (List.mem_of_getElem? (i := 169) rfl)) rfl, bl_in_tb (bl_t1 (List.mem_of_getElem? (i := 12) rfl)) rfl, bl_in_tb (bl_t6 (List.mem_of_getElem? (i := 170) rfl)) rfl, ⟨by decide +kernel, by decide +kernel, by decide +kernel⟩⟩
set_option maxRecDepth 20000 in
theorem mS_X10_areYears : bl_mS yX10_areYears cX10_areYears 1 (Option.some Jvm.ClassFile.FieldType.boolean) 1 := ⟨bl_in_tb (bl_t6 (List.mem_of_getElem? (i := 172) rfl)) rfl, bl_in_tb (bl_t1 (List.mem_of_getElem? (i := 12) rfl)) rfl, bl_in_tb (bl_t6 (List.mem_of_getElem? (i := 173) rfl)) rfl, ⟨by decide +kernel, by decide +kernel, by decide +kernel⟩⟩
set_option maxRecDepth 20000 in
theorem mV_X10_bestCost : bl_mV yX10_bestCost cX10_bestCost 3 (Option.some Jvm.ClassFile.FieldType.long) 2 := ⟨bl_in_tb (bl_t6 (List.mem_of_getElem? (i := 176) rfl)) rfl, bl_in_sel (List.mem_of_getElem? (i := 69) rfl) rfl, bl_in_tb (bl_t1 (List.mem_of_getElem? (i := 12) rfl)) rfl, bl_in_tb (bl_t6 (List.mem_of_getElem? (i := 177) rfl)) rfl, ⟨by decide +kernel, by decide +kernel, by decide +kernel⟩⟩
set_option maxRecDepth 20000 in
theorem mV_X10_guards : bl_mV yX10_guards cX10_guards 3 (Option.some Jvm.ClassFile.FieldType.int) 2 := ⟨bl_in_tb (bl_t6 (List.mem_of_getElem? (i := 180) rfl)) rfl, bl_in_tb (bl_t6 (List.mem_of_getElem? (i := 181) rfl)) rfl, bl_in_tb (bl_t1 (List.mem_of_getElem? (i := 12) rfl)) rfl, bl_in_tb (bl_t6 (List.mem_of_getElem? (i := 182) rfl)) rfl, ⟨by decide +kernel, by decide +kernel, by decide +kernel⟩⟩
set_option maxRecDepth 20000 in
theorem mV_X10_ahead : bl_mV yX10_ahead cX10_ahead 6 (Option.some Jvm.ClassFile.FieldType.long) 5 := ⟨bl_in_tb (bl_t6 (List.mem_of_getElem? (i := 184) rfl)) rfl, bl_in_tb (bl_t6 (List.mem_of_getElem? (i := 185) rfl)) rfl, bl_in_tb (bl_t1 (List.mem_of_getElem? (i := 12) rfl)) rfl, bl_in_tb (bl_t6 (List.mem_of_getElem? (i := 186) rfl)) rfl, ⟨by decide +kernel, by decide +kernel, by decide +kernel⟩⟩
set_option maxRecDepth 20000 in
theorem mV_X10_isChance : bl_mV yX10_isChance cX10_isChance 6 (Option.some Jvm.ClassFile.FieldType.boolean) 5 := ⟨bl_in_tb (bl_t6 (List.mem_of_getElem? (i := 189) rfl)) rfl, bl_in_sel (List.mem_of_getElem? (i := 70) rfl) rfl, bl_in_tb (bl_t1 (List.mem_of_getElem? (i := 12) rfl)) rfl, bl_in_tb (bl_t6 (List.mem_of_getElem? (i := 190) rfl)) rfl, ⟨by decide +kernel, by decide +kernel, by decide +kernel⟩⟩
set_option maxRecDepth 20000 in
theorem mV_X10_least : bl_mV yX10_least cX10_least 6 (Option.some Jvm.ClassFile.FieldType.int) 5 := ⟨bl_in_tb (bl_t6 (List.mem_of_getElem? (i := 193) rfl)) rfl, bl_in_tb (bl_t6 (List.mem_of_getElem? (i := 194) rfl)) rfl, bl_in_tb (bl_t1 (List.mem_of_getElem? (i := 12) rfl)) rfl, bl_in_tb (bl_t6 (List.mem_of_getElem? (i := 195) rfl)) rfl, ⟨by decide +kernel, by decide +kernel, by decide +kernel⟩⟩
set_option maxRecDepth 20000 in
theorem mV_X10_leastSize : bl_mV yX10_leastSize cX10_leastSize 12 (Option.some Jvm.ClassFile.FieldType.int) 3 := ⟨bl_in_tb (bl_t6 (List.mem_of_getElem? (i := 198) rfl)) rfl, bl_in_sel (List.mem_of_getElem? (i := 71) rfl) rfl, bl_in_tb (bl_t1 (List.mem_of_getElem? (i := 12) rfl)) rfl, bl_in_tb (bl_t6 (List.mem_of_getElem? (i := 199) rfl)) rfl, ⟨by decide +kernel, by decide +kernel, by decide +kernel⟩⟩
set_option maxRecDepth 20000 in
theorem mV_X10_tells : bl_mV yX10_tells cX10_tells 8 (Option.some Jvm.ClassFile.FieldType.int) 5 := ⟨bl_in_tb (bl_t6 (List.mem_of_getElem? (i := 201) rfl)) rfl, bl_in_tb (bl_t6 (List.mem_of_getElem? (i := 202) rfl)) rfl, bl_in_tb (bl_t1 (List.mem_of_getElem? (i := 12) rfl)) rfl, bl_in_tb (bl_t6 (List.mem_of_getElem? (i := 203) rfl)) rfl, ⟨by decide +kernel, by decide +kernel, by decide +kernel⟩⟩
set_option maxRecDepth 20000 in
theorem mV_X10_gain : bl_mV yX10_gain cX10_gain 7 (Option.some Jvm.ClassFile.FieldType.long) 6 := ⟨bl_in_tb (bl_t6 (List.mem_of_getElem? (i := 205) rfl)) rfl, bl_in_tb (bl_t6 (List.mem_of_getElem? (i := 206) rfl)) rfl, bl_in_tb (bl_t1 (List.mem_of_getElem? (i := 12) rfl)) rfl, bl_in_tb (bl_t6 (List.mem_of_getElem? (i := 207) rfl)) rfl, ⟨by decide +kernel, by decide +kernel, by decide +kernel⟩⟩
set_option maxRecDepth 20000 in
theorem mV_X10_patience : bl_mV yX10_patience cX10_patience 4 (Option.some Jvm.ClassFile.FieldType.int) 2 := ⟨bl_in_tb (bl_t6 (List.mem_of_getElem? (i := 209) rfl)) rfl, bl_in_tb (bl_t6 (List.mem_of_getElem? (i := 210) rfl)) rfl, bl_in_tb (bl_t1 (List.mem_of_getElem? (i := 12) rfl)) rfl, bl_in_tb (bl_t6 (List.mem_of_getElem? (i := 211) rfl)) rfl, ⟨by decide +kernel, by decide +kernel, by decide +kernel⟩⟩
set_option maxRecDepth 20000 in
theorem mV_X10_worst : bl_mV yX10_worst cX10_worst 3 (Option.some Jvm.ClassFile.FieldType.long) 2 := ⟨bl_in_tb (bl_t6 (List.mem_of_getElem? (i := 213) rfl)) rfl, bl_in_tb (bl_t6 (List.mem_of_getElem? (i := 214) rfl)) rfl, bl_in_tb (bl_t1 (List.mem_of_getElem? (i := 12) rfl)) rfl, bl_in_tb (bl_t6 (List.mem_of_getElem? (i := 215) rfl)) rfl, ⟨by decide +kernel, by decide +kernel, by decide +kernel⟩⟩
set_option maxRecDepth 20000 in
theorem mV_X10_bare : bl_mV yX10_bare cX10_bare 3 (Option.some Jvm.ClassFile.FieldType.long) 2 := ⟨bl_in_tb (bl_t6 (List.mem_of_getElem? (i := 217) rfl)) rfl, bl_in_tb (bl_t6 (List.mem_of_getElem? (i := 218) rfl)) rfl, bl_in_tb (bl_t1 (List.mem_of_getElem? (i := 12) rfl)) rfl, bl_in_tb (bl_t6 (List.mem_of_getElem? (i := 219) rfl)) rfl, ⟨by decide +kernel, by decide +kernel, by decide +kernel⟩⟩
set_option maxRecDepth 20000 in
theorem mV_X10_bareCost : bl_mV yX10_bareCost cX10_bareCost 3 (Option.some Jvm.ClassFile.FieldType.long) 2 := ⟨bl_in_tb (bl_t6 (List.mem_of_getElem? (i := 222) rfl)) rfl, bl_in_sel (List.mem_of_getElem? (i := 72) rfl) rfl, bl_in_tb (bl_t1 (List.mem_of_getElem? (i := 12) rfl)) rfl, bl_in_tb (bl_t6 (List.mem_of_getElem? (i := 223) rfl)) rfl, ⟨by decide +kernel, by decide +kernel, by decide +kernel⟩⟩
set_option maxRecDepth 20000 in
theorem mV_X10_by : bl_mV yX10_by cX10_by 5 (Option.some Jvm.ClassFile.FieldType.long) 4 := ⟨bl_in_tb (bl_t6 (List.mem_of_getElem? (i := 225) rfl)) rfl, bl_in_tb (bl_t6 (List.mem_of_getElem? (i := 226) rfl)) rfl, bl_in_tb (bl_t1 (List.mem_of_getElem? (i := 12) rfl)) rfl, bl_in_tb (bl_t6 (List.mem_of_getElem? (i := 227) rfl)) rfl, ⟨by decide +kernel, by decide +kernel, by decide +kernel⟩⟩
set_option maxRecDepth 20000 in
theorem mV_X10_bestLimit : bl_mV yX10_bestLimit cX10_bestLimit 9 (Option.some Jvm.ClassFile.FieldType.int) 2 := ⟨bl_in_tb (bl_t6 (List.mem_of_getElem? (i := 229) rfl)) rfl, bl_in_tb (bl_t6 (List.mem_of_getElem? (i := 230) rfl)) rfl, bl_in_tb (bl_t1 (List.mem_of_getElem? (i := 12) rfl)) rfl, bl_in_tb (bl_t6 (List.mem_of_getElem? (i := 231) rfl)) rfl, ⟨by decide +kernel, by decide +kernel, by decide +kernel⟩⟩
set_option maxRecDepth 20000 in
theorem mV_X10_worth : bl_mV yX10_worth cX10_worth 4 (Option.some Jvm.ClassFile.FieldType.long) 3 := ⟨bl_in_tb (bl_t6 (List.mem_of_getElem? (i := 233) rfl)) rfl, bl_in_tb (bl_t6 (List.mem_of_getElem? (i := 234) rfl)) rfl, bl_in_tb (bl_t1 (List.mem_of_getElem? (i := 12) rfl)) rfl, bl_in_tb (bl_t6 (List.mem_of_getElem? (i := 235) rfl)) rfl, ⟨by decide +kernel, by decide +kernel, by decide +kernel⟩⟩
set_option maxRecDepth 20000 in
theorem mV_X10_cheapest : bl_mV yX10_cheapest cX10_cheapest 4 (Option.some Jvm.ClassFile.FieldType.int) 1 := ⟨bl_in_tb (bl_t6 (List.mem_of_getElem? (i := 237) rfl)) rfl, bl_in_tb (bl_t6 (List.mem_of_getElem? (i := 238) rfl)) rfl, bl_in_tb (bl_t1 (List.mem_of_getElem? (i := 12) rfl)) rfl, bl_in_tb (bl_t6 (List.mem_of_getElem? (i := 239) rfl)) rfl, ⟨by decide +kernel, by decide +kernel, by decide +kernel⟩⟩
set_option maxRecDepth 20000 in
theorem mV_X10_reach : bl_mV yX10_reach cX10_reach 6 (Option.some Jvm.ClassFile.FieldType.int) 1 := ⟨bl_in_tb (bl_t7 (List.mem_of_getElem? (i := 1) rfl)) rfl, bl_in_tb (bl_t7 (List.mem_of_getElem? (i := 2) rfl)) rfl, bl_in_tb (bl_t1 (List.mem_of_getElem? (i := 12) rfl)) rfl, bl_in_tb (bl_t7 (List.mem_of_getElem? (i := 3) rfl)) rfl, ⟨by decide +kernel, by decide +kernel, by decide +kernel⟩⟩
set_option maxRecDepth 20000 in
theorem mV_X10_years : bl_mV yX10_years cX10_years 5 (Option.some Jvm.ClassFile.FieldType.int) 2 := ⟨bl_in_tb (bl_t7 (List.mem_of_getElem? (i := 5) rfl)) rfl, bl_in_tb (bl_t7 (List.mem_of_getElem? (i := 6) rfl)) rfl, bl_in_tb (bl_t1 (List.mem_of_getElem? (i := 12) rfl)) rfl, bl_in_tb (bl_t7 (List.mem_of_getElem? (i := 7) rfl)) rfl, ⟨by decide +kernel, by decide +kernel, by decide +kernel⟩⟩
set_option maxRecDepth 20000 in
theorem mV_X10_ways : bl_mV yX10_ways cX10_ways 2 (Option.some Jvm.ClassFile.FieldType.int) 1 := ⟨bl_in_tb (bl_t7 (List.mem_of_getElem? (i := 9) rfl)) rfl, bl_in_tb (bl_t7 (List.mem_of_getElem? (i := 10) rfl)) rfl, bl_in_tb (bl_t1 (List.mem_of_getElem? (i := 12) rfl)) rfl, bl_in_tb (bl_t7 (List.mem_of_getElem? (i := 11) rfl)) rfl, ⟨by decide +kernel, by decide +kernel, by decide +kernel⟩⟩
set_option maxRecDepth 20000 in
theorem mV_X10_waysOf : bl_mV yX10_waysOf cX10_waysOf 5 (Option.some Jvm.ClassFile.FieldType.long) 1 := ⟨bl_in_tb (bl_t7 (List.mem_of_getElem? (i := 14) rfl)) rfl, bl_in_sel (List.mem_of_getElem? (i := 73) rfl) rfl, bl_in_tb (bl_t1 (List.mem_of_getElem? (i := 12) rfl)) rfl, bl_in_tb (bl_t7 (List.mem_of_getElem? (i := 15) rfl)) rfl, ⟨by decide +kernel, by decide +kernel, by decide +kernel⟩⟩
set_option maxRecDepth 20000 in
theorem mS_X10_power : bl_mS yX10_power cX10_power 6 (Option.some Jvm.ClassFile.FieldType.long) 2 := ⟨bl_in_tb (bl_t7 (List.mem_of_getElem? (i := 17) rfl)) rfl, bl_in_tb (bl_t1 (List.mem_of_getElem? (i := 12) rfl)) rfl, bl_in_tb (bl_t7 (List.mem_of_getElem? (i := 18) rfl)) rfl, ⟨by decide +kernel, by decide +kernel, by decide +kernel⟩⟩
set_option maxRecDepth 20000 in
theorem mV_X10_moves : bl_mV yX10_moves cX10_moves 3 (Option.some Jvm.ClassFile.FieldType.int) 2 := ⟨bl_in_tb (bl_t7 (List.mem_of_getElem? (i := 20) rfl)) rfl, bl_in_tb (bl_t7 (List.mem_of_getElem? (i := 21) rfl)) rfl, bl_in_tb (bl_t1 (List.mem_of_getElem? (i := 12) rfl)) rfl, bl_in_tb (bl_t7 (List.mem_of_getElem? (i := 22) rfl)) rfl, ⟨by decide +kernel, by decide +kernel, by decide +kernel⟩⟩
set_option maxRecDepth 20000 in
theorem mV_X10_movesOf : bl_mV yX10_movesOf cX10_movesOf 6 (Option.some Jvm.ClassFile.FieldType.long) 2 := ⟨bl_in_tb (bl_t7 (List.mem_of_getElem? (i := 25) rfl)) rfl, bl_in_sel (List.mem_of_getElem? (i := 74) rfl) rfl, bl_in_tb (bl_t1 (List.mem_of_getElem? (i := 12) rfl)) rfl, bl_in_tb (bl_t7 (List.mem_of_getElem? (i := 26) rfl)) rfl, ⟨by decide +kernel, by decide +kernel, by decide +kernel⟩⟩
set_option maxRecDepth 20000 in
theorem mV_X10_spread : bl_mV yX10_spread cX10_spread 7 (Option.some Jvm.ClassFile.FieldType.long) 3 := ⟨bl_in_tb (bl_t7 (List.mem_of_getElem? (i := 28) rfl)) rfl, bl_in_tb (bl_t7 (List.mem_of_getElem? (i := 29) rfl)) rfl, bl_in_tb (bl_t1 (List.mem_of_getElem? (i := 12) rfl)) rfl, bl_in_tb (bl_t7 (List.mem_of_getElem? (i := 30) rfl)) rfl, ⟨by decide +kernel, by decide +kernel, by decide +kernel⟩⟩
set_option maxRecDepth 20000 in
theorem mV_X10_shared : bl_mV yX10_shared cX10_shared 7 (Option.some Jvm.ClassFile.FieldType.long) 3 := ⟨bl_in_tb (bl_t7 (List.mem_of_getElem? (i := 32) rfl)) rfl, bl_in_tb (bl_t7 (List.mem_of_getElem? (i := 33) rfl)) rfl, bl_in_tb (bl_t1 (List.mem_of_getElem? (i := 12) rfl)) rfl, bl_in_tb (bl_t7 (List.mem_of_getElem? (i := 34) rfl)) rfl, ⟨by decide +kernel, by decide +kernel, by decide +kernel⟩⟩
set_option maxRecDepth 20000 in
theorem mV_X10_bothYear : bl_mV yX10_bothYear cX10_bothYear 8 (Option.some Jvm.ClassFile.FieldType.long) 3 := ⟨bl_in_tb (bl_t7 (List.mem_of_getElem? (i := 37) rfl)) rfl, bl_in_sel (List.mem_of_getElem? (i := 75) rfl) rfl, bl_in_tb (bl_t1 (List.mem_of_getElem? (i := 12) rfl)) rfl, bl_in_tb (bl_t7 (List.mem_of_getElem? (i := 38) rfl)) rfl, ⟨by decide +kernel, by decide +kernel, by decide +kernel⟩⟩
set_option maxRecDepth 20000 in
theorem mS_X10_slotOf : bl_mS yX10_slotOf cX10_slotOf 3 (Option.some Jvm.ClassFile.FieldType.int) 3 := ⟨bl_in_tb (bl_t7 (List.mem_of_getElem? (i := 40) rfl)) rfl, bl_in_tb (bl_t1 (List.mem_of_getElem? (i := 12) rfl)) rfl, bl_in_tb (bl_t7 (List.mem_of_getElem? (i := 41) rfl)) rfl, ⟨by decide +kernel, by decide +kernel, by decide +kernel⟩⟩
set_option maxRecDepth 20000 in
theorem mV_X10_bothChance : bl_mV yX10_bothChance cX10_bothChance 14 (Option.some Jvm.ClassFile.FieldType.long) 3 := ⟨bl_in_tb (bl_t7 (List.mem_of_getElem? (i := 44) rfl)) rfl, bl_in_sel (List.mem_of_getElem? (i := 76) rfl) rfl, bl_in_tb (bl_t1 (List.mem_of_getElem? (i := 12) rfl)) rfl, bl_in_tb (bl_t7 (List.mem_of_getElem? (i := 45) rfl)) rfl, ⟨by decide +kernel, by decide +kernel, by decide +kernel⟩⟩
set_option maxRecDepth 20000 in
theorem mS_X10_more : bl_mS yX10_more cX10_more 1 (Option.some Jvm.ClassFile.FieldType.int) 1 := ⟨bl_in_tb (bl_t7 (List.mem_of_getElem? (i := 47) rfl)) rfl, bl_in_tb (bl_t1 (List.mem_of_getElem? (i := 12) rfl)) rfl, bl_in_tb (bl_t7 (List.mem_of_getElem? (i := 48) rfl)) rfl, ⟨by decide +kernel, by decide +kernel, by decide +kernel⟩⟩
set_option maxRecDepth 20000 in
theorem mS_X10_lesser : bl_mS yX10_lesser cX10_lesser 4 (Option.some Jvm.ClassFile.FieldType.long) 2 := ⟨bl_in_tb (bl_t7 (List.mem_of_getElem? (i := 50) rfl)) rfl, bl_in_tb (bl_t1 (List.mem_of_getElem? (i := 12) rfl)) rfl, bl_in_tb (bl_t7 (List.mem_of_getElem? (i := 51) rfl)) rfl, ⟨by decide +kernel, by decide +kernel, by decide +kernel⟩⟩
set_option maxRecDepth 20000 in
theorem mV_X10_joined : bl_mV yX10_joined cX10_joined 5 (Option.some Jvm.ClassFile.FieldType.long) 4 := ⟨bl_in_tb (bl_t7 (List.mem_of_getElem? (i := 53) rfl)) rfl, bl_in_tb (bl_t7 (List.mem_of_getElem? (i := 54) rfl)) rfl, bl_in_tb (bl_t1 (List.mem_of_getElem? (i := 12) rfl)) rfl, bl_in_tb (bl_t7 (List.mem_of_getElem? (i := 55) rfl)) rfl, ⟨by decide +kernel, by decide +kernel, by decide +kernel⟩⟩
set_option maxRecDepth 20000 in
theorem mV_X10_joinedCost : bl_mV yX10_joinedCost cX10_joinedCost 5 (Option.some Jvm.ClassFile.FieldType.long) 4 := ⟨bl_in_tb (bl_t7 (List.mem_of_getElem? (i := 59) rfl)) rfl, bl_in_sel (List.mem_of_getElem? (i := 77) rfl) rfl, bl_in_tb (bl_t1 (List.mem_of_getElem? (i := 12) rfl)) rfl, bl_in_tb (bl_t7 (List.mem_of_getElem? (i := 60) rfl)) rfl, ⟨by decide +kernel, by decide +kernel, by decide +kernel⟩⟩
set_option maxRecDepth 20000 in
theorem mV_X10_rebate : bl_mV yX10_rebate cX10_rebate 7 (Option.some Jvm.ClassFile.FieldType.int) 3 := ⟨bl_in_tb (bl_t7 (List.mem_of_getElem? (i := 62) rfl)) rfl, bl_in_tb (bl_t7 (List.mem_of_getElem? (i := 63) rfl)) rfl, bl_in_tb (bl_t1 (List.mem_of_getElem? (i := 12) rfl)) rfl, bl_in_tb (bl_t7 (List.mem_of_getElem? (i := 64) rfl)) rfl, ⟨by decide +kernel, by decide +kernel, by decide +kernel⟩⟩
set_option maxRecDepth 20000 in
theorem mV_X10_advice : bl_mV yX10_advice cX10_advice 3 (Option.some Jvm.ClassFile.FieldType.int) 2 := ⟨bl_in_tb (bl_t7 (List.mem_of_getElem? (i := 66) rfl)) rfl, bl_in_tb (bl_t7 (List.mem_of_getElem? (i := 67) rfl)) rfl, bl_in_tb (bl_t1 (List.mem_of_getElem? (i := 12) rfl)) rfl, bl_in_tb (bl_t7 (List.mem_of_getElem? (i := 68) rfl)) rfl, ⟨by decide +kernel, by decide +kernel, by decide +kernel⟩⟩
set_option maxRecDepth 20000 in
theorem mV_X10_rest : bl_mV yX10_rest cX10_rest 4 (Option.some Jvm.ClassFile.FieldType.int) 1 := ⟨bl_in_tb (bl_t7 (List.mem_of_getElem? (i := 70) rfl)) rfl, bl_in_tb (bl_t7 (List.mem_of_getElem? (i := 71) rfl)) rfl, bl_in_tb (bl_t1 (List.mem_of_getElem? (i := 12) rfl)) rfl, bl_in_tb (bl_t7 (List.mem_of_getElem? (i := 72) rfl)) rfl, ⟨by decide +kernel, by decide +kernel, by decide +kernel⟩⟩
set_option maxRecDepth 20000 in
theorem mV_X10_were : bl_mV yX10_were cX10_were 8 (Option.some Jvm.ClassFile.FieldType.long) 4 := ⟨bl_in_tb (bl_t7 (List.mem_of_getElem? (i := 74) rfl)) rfl, bl_in_tb (bl_t7 (List.mem_of_getElem? (i := 75) rfl)) rfl, bl_in_tb (bl_t1 (List.mem_of_getElem? (i := 12) rfl)) rfl, bl_in_tb (bl_t7 (List.mem_of_getElem? (i := 76) rfl)) rfl, ⟨by decide +kernel, by decide +kernel, by decide +kernel⟩⟩
set_option maxRecDepth 20000 in
theorem mV_X10_lacking : bl_mV yX10_lacking cX10_lacking 6 (Option.some Jvm.ClassFile.FieldType.long) 3 := ⟨bl_in_tb (bl_t7 (List.mem_of_getElem? (i := 78) rfl)) rfl, bl_in_tb (bl_t7 (List.mem_of_getElem? (i := 79) rfl)) rfl, bl_in_tb (bl_t1 (List.mem_of_getElem? (i := 12) rfl)) rfl, bl_in_tb (bl_t7 (List.mem_of_getElem? (i := 80) rfl)) rfl, ⟨by decide +kernel, by decide +kernel, by decide +kernel⟩⟩
set_option maxRecDepth 20000 in
theorem mS_X10_copies : bl_mS yX10_copies cX10_copies 3 (Option.none : Option Jvm.ClassFile.FieldType) 2 := ⟨bl_in_tb (bl_t7 (List.mem_of_getElem? (i := 82) rfl)) rfl, bl_in_tb (bl_t1 (List.mem_of_getElem? (i := 12) rfl)) rfl, bl_in_tb (bl_t7 (List.mem_of_getElem? (i := 83) rfl)) rfl, ⟨by decide +kernel, by decide +kernel, by decide +kernel⟩⟩
set_option maxRecDepth 20000 in
theorem mV_X10_oddsFor : bl_mV yX10_oddsFor cX10_oddsFor 8 (Option.some Jvm.ClassFile.FieldType.int) 3 := ⟨bl_in_tb (bl_t7 (List.mem_of_getElem? (i := 85) rfl)) rfl, bl_in_tb (bl_t7 (List.mem_of_getElem? (i := 86) rfl)) rfl, bl_in_tb (bl_t1 (List.mem_of_getElem? (i := 12) rfl)) rfl, bl_in_tb (bl_t7 (List.mem_of_getElem? (i := 87) rfl)) rfl, ⟨by decide +kernel, by decide +kernel, by decide +kernel⟩⟩
set_option maxRecDepth 20000 in
theorem mV_X10_bestOwn : bl_mV yX10_bestOwn cX10_bestOwn 11 (Option.some Jvm.ClassFile.FieldType.int) 3 := ⟨bl_in_tb (bl_t7 (List.mem_of_getElem? (i := 89) rfl)) rfl, bl_in_tb (bl_t7 (List.mem_of_getElem? (i := 90) rfl)) rfl, bl_in_tb (bl_t1 (List.mem_of_getElem? (i := 12) rfl)) rfl, bl_in_tb (bl_t7 (List.mem_of_getElem? (i := 91) rfl)) rfl, ⟨by decide +kernel, by decide +kernel, by decide +kernel⟩⟩
set_option maxRecDepth 20000 in
theorem mV_X10_would : bl_mV yX10_would cX10_would 6 (Option.some Jvm.ClassFile.FieldType.int) 5 := ⟨bl_in_tb (bl_t7 (List.mem_of_getElem? (i := 94) rfl)) rfl, bl_in_tb (bl_t7 (List.mem_of_getElem? (i := 95) rfl)) rfl, bl_in_tb (bl_t1 (List.mem_of_getElem? (i := 12) rfl)) rfl, bl_in_tb (bl_t7 (List.mem_of_getElem? (i := 96) rfl)) rfl, ⟨by decide +kernel, by decide +kernel, by decide +kernel⟩⟩
set_option maxRecDepth 20000 in
theorem mV_X10_tries : bl_mV yX10_tries cX10_tries 10 (Option.some Jvm.ClassFile.FieldType.int) 5 := ⟨bl_in_tb (bl_t7 (List.mem_of_getElem? (i := 99) rfl)) rfl, bl_in_sel (List.mem_of_getElem? (i := 78) rfl) rfl, bl_in_tb (bl_t1 (List.mem_of_getElem? (i := 12) rfl)) rfl, bl_in_tb (bl_t7 (List.mem_of_getElem? (i := 100) rfl)) rfl, ⟨by decide +kernel, by decide +kernel, by decide +kernel⟩⟩
set_option maxRecDepth 20000 in
theorem mV_X10_bestRule : bl_mV yX10_bestRule cX10_bestRule 7 (Option.some Jvm.ClassFile.FieldType.int) 2 := ⟨bl_in_tb (bl_t7 (List.mem_of_getElem? (i := 102) rfl)) rfl, bl_in_tb (bl_t7 (List.mem_of_getElem? (i := 103) rfl)) rfl, bl_in_tb (bl_t1 (List.mem_of_getElem? (i := 12) rfl)) rfl, bl_in_tb (bl_t7 (List.mem_of_getElem? (i := 104) rfl)) rfl, ⟨by decide +kernel, by decide +kernel, by decide +kernel⟩⟩
set_option maxRecDepth 20000 in
theorem mV_X10_dearest : bl_mV yX10_dearest cX10_dearest 7 (Option.some Jvm.ClassFile.FieldType.int) 2 := ⟨bl_in_tb (bl_t7 (List.mem_of_getElem? (i := 106) rfl)) rfl, bl_in_tb (bl_t7 (List.mem_of_getElem? (i := 107) rfl)) rfl, bl_in_tb (bl_t1 (List.mem_of_getElem? (i := 12) rfl)) rfl, bl_in_tb (bl_t7 (List.mem_of_getElem? (i := 108) rfl)) rfl, ⟨by decide +kernel, by decide +kernel, by decide +kernel⟩⟩
set_option maxRecDepth 20000 in
theorem mV_X10_of : bl_mV yX10_of cX10_of 3 (Option.some Jvm.ClassFile.FieldType.int) 2 := ⟨bl_in_tb (bl_t7 (List.mem_of_getElem? (i := 110) rfl)) rfl, bl_in_tb (bl_t7 (List.mem_of_getElem? (i := 111) rfl)) rfl, bl_in_tb (bl_t1 (List.mem_of_getElem? (i := 12) rfl)) rfl, bl_in_tb (bl_t7 (List.mem_of_getElem? (i := 112) rfl)) rfl, ⟨by decide +kernel, by decide +kernel, by decide +kernel⟩⟩
set_option maxRecDepth 20000 in
theorem mV_X10_ofSort : bl_mV yX10_ofSort cX10_ofSort 3 (Option.some Jvm.ClassFile.FieldType.int) 2 := ⟨bl_in_tb (bl_t7 (List.mem_of_getElem? (i := 114) rfl)) rfl, bl_in_tb (bl_t7 (List.mem_of_getElem? (i := 115) rfl)) rfl, bl_in_tb (bl_t1 (List.mem_of_getElem? (i := 12) rfl)) rfl, bl_in_tb (bl_t7 (List.mem_of_getElem? (i := 116) rfl)) rfl, ⟨by decide +kernel, by decide +kernel, by decide +kernel⟩⟩
set_option maxRecDepth 20000 in
theorem mV_X10_life : bl_mV yX10_life cX10_life 2 (Option.some Jvm.ClassFile.FieldType.int) 1 := ⟨bl_in_tb (bl_t7 (List.mem_of_getElem? (i := 118) rfl)) rfl, bl_in_tb (bl_t7 (List.mem_of_getElem? (i := 119) rfl)) rfl, bl_in_tb (bl_t1 (List.mem_of_getElem? (i := 12) rfl)) rfl, bl_in_tb (bl_t7 (List.mem_of_getElem? (i := 120) rfl)) rfl, ⟨by decide +kernel, by decide +kernel, by decide +kernel⟩⟩
set_option maxRecDepth 20000 in
theorem mV_X10_book : bl_mV yX10_book cX10_book 3 (Option.some Jvm.ClassFile.FieldType.int) 2 := ⟨bl_in_tb (bl_t7 (List.mem_of_getElem? (i := 122) rfl)) rfl, bl_in_tb (bl_t7 (List.mem_of_getElem? (i := 123) rfl)) rfl, bl_in_tb (bl_t1 (List.mem_of_getElem? (i := 12) rfl)) rfl, bl_in_tb (bl_t7 (List.mem_of_getElem? (i := 124) rfl)) rfl, ⟨by decide +kernel, by decide +kernel, by decide +kernel⟩⟩
set_option maxRecDepth 20000 in
theorem mV_X10_entry : bl_mV yX10_entry cX10_entry 4 (Option.some Jvm.ClassFile.FieldType.int) 3 := ⟨bl_in_tb (bl_t7 (List.mem_of_getElem? (i := 127) rfl)) rfl, bl_in_sel (List.mem_of_getElem? (i := 79) rfl) rfl, bl_in_tb (bl_t1 (List.mem_of_getElem? (i := 12) rfl)) rfl, bl_in_tb (bl_t7 (List.mem_of_getElem? (i := 128) rfl)) rfl, ⟨by decide +kernel, by decide +kernel, by decide +kernel⟩⟩
set_option maxRecDepth 20000 in
theorem mV_X10_ledger : bl_mV yX10_ledger cX10_ledger 3 (Option.some Jvm.ClassFile.FieldType.int) 2 := ⟨bl_in_tb (bl_t7 (List.mem_of_getElem? (i := 130) rfl)) rfl, bl_in_tb (bl_t7 (List.mem_of_getElem? (i := 131) rfl)) rfl, bl_in_tb (bl_t1 (List.mem_of_getElem? (i := 12) rfl)) rfl, bl_in_tb (bl_t7 (List.mem_of_getElem? (i := 132) rfl)) rfl, ⟨by decide +kernel, by decide +kernel, by decide +kernel⟩⟩
set_option maxRecDepth 20000 in
theorem mV_X10_mean : bl_mV yX10_mean cX10_mean 7 (Option.some Jvm.ClassFile.FieldType.int) 1 := ⟨bl_in_tb (bl_t7 (List.mem_of_getElem? (i := 134) rfl)) rfl, bl_in_tb (bl_t7 (List.mem_of_getElem? (i := 135) rfl)) rfl, bl_in_tb (bl_t1 (List.mem_of_getElem? (i := 12) rfl)) rfl, bl_in_tb (bl_t7 (List.mem_of_getElem? (i := 136) rfl)) rfl, ⟨by decide +kernel, by decide +kernel, by decide +kernel⟩⟩
set_option maxRecDepth 20000 in
theorem mV_X10_spell : bl_mV yX10_spell cX10_spell 3 (Option.some Jvm.ClassFile.FieldType.int) 1 := ⟨bl_in_tb (bl_t7 (List.mem_of_getElem? (i := 138) rfl)) rfl, bl_in_tb (bl_t7 (List.mem_of_getElem? (i := 139) rfl)) rfl, bl_in_tb (bl_t1 (List.mem_of_getElem? (i := 12) rfl)) rfl, bl_in_tb (bl_t7 (List.mem_of_getElem? (i := 140) rfl)) rfl, ⟨by decide +kernel, by decide +kernel, by decide +kernel⟩⟩
set_option maxRecDepth 20000 in
theorem mV_X10_writesRow : bl_mV yX10_writesRow cX10_writesRow 5 (Option.none : Option Jvm.ClassFile.FieldType) 3 := ⟨bl_in_tb (bl_t7 (List.mem_of_getElem? (i := 143) rfl)) rfl, bl_in_sel (List.mem_of_getElem? (i := 80) rfl) rfl, bl_in_tb (bl_t1 (List.mem_of_getElem? (i := 12) rfl)) rfl, bl_in_tb (bl_t7 (List.mem_of_getElem? (i := 144) rfl)) rfl, ⟨by decide +kernel, by decide +kernel, by decide +kernel⟩⟩
set_option maxRecDepth 20000 in
theorem mV_X10_writesWord : bl_mV yX10_writesWord cX10_writesWord 3 (Option.none : Option Jvm.ClassFile.FieldType) 1 := ⟨bl_in_tb (bl_t7 (List.mem_of_getElem? (i := 147) rfl)) rfl, bl_in_sel (List.mem_of_getElem? (i := 81) rfl) rfl, bl_in_tb (bl_t1 (List.mem_of_getElem? (i := 12) rfl)) rfl, bl_in_tb (bl_t7 (List.mem_of_getElem? (i := 148) rfl)) rfl, ⟨by decide +kernel, by decide +kernel, by decide +kernel⟩⟩
set_option maxRecDepth 20000 in
theorem mV_X10_wordFrom : bl_mV yX10_wordFrom cX10_wordFrom 4 (Option.some Jvm.ClassFile.FieldType.int) 1 := ⟨bl_in_tb (bl_t7 (List.mem_of_getElem? (i := 151) rfl)) rfl, bl_in_sel (List.mem_of_getElem? (i := 82) rfl) rfl, bl_in_tb (bl_t1 (List.mem_of_getElem? (i := 12) rfl)) rfl, bl_in_tb (bl_t7 (List.mem_of_getElem? (i := 152) rfl)) rfl, ⟨by decide +kernel, by decide +kernel, by decide +kernel⟩⟩
set_option maxRecDepth 20000 in
theorem mV_X10_writesSign : bl_mV yX10_writesSign cX10_writesSign 2 (Option.none : Option Jvm.ClassFile.FieldType) 1 := ⟨bl_in_tb (bl_t7 (List.mem_of_getElem? (i := 155) rfl)) rfl, bl_in_sel (List.mem_of_getElem? (i := 83) rfl) rfl, bl_in_tb (bl_t1 (List.mem_of_getElem? (i := 12) rfl)) rfl, bl_in_tb (bl_t7 (List.mem_of_getElem? (i := 156) rfl)) rfl, ⟨by decide +kernel, by decide +kernel, by decide +kernel⟩⟩
set_option maxRecDepth 20000 in
theorem mV_X10_writesNumber : bl_mV yX10_writesNumber cX10_writesNumber 3 (Option.none : Option Jvm.ClassFile.FieldType) 1 := ⟨bl_in_tb (bl_t7 (List.mem_of_getElem? (i := 159) rfl)) rfl, bl_in_sel (List.mem_of_getElem? (i := 84) rfl) rfl, bl_in_tb (bl_t1 (List.mem_of_getElem? (i := 12) rfl)) rfl, bl_in_tb (bl_t7 (List.mem_of_getElem? (i := 160) rfl)) rfl, ⟨by decide +kernel, by decide +kernel, by decide +kernel⟩⟩
set_option maxRecDepth 20000 in
theorem mV_X10_toldText : bl_mV yX10_toldText cX10_toldText 2 (Option.some Jvm.ClassFile.FieldType.int) 1 := ⟨bl_in_tb (bl_t7 (List.mem_of_getElem? (i := 163) rfl)) rfl, bl_in_sel (List.mem_of_getElem? (i := 85) rfl) rfl, bl_in_tb (bl_t1 (List.mem_of_getElem? (i := 12) rfl)) rfl, bl_in_tb (bl_t7 (List.mem_of_getElem? (i := 164) rfl)) rfl, ⟨by decide +kernel, by decide +kernel, by decide +kernel⟩⟩
set_option maxRecDepth 20000 in
theorem mV_X10_report : bl_mV yX10_report cX10_report 4 (Option.some Jvm.ClassFile.FieldType.int) 2 := ⟨bl_in_tb (bl_t7 (List.mem_of_getElem? (i := 166) rfl)) rfl, bl_in_tb (bl_t7 (List.mem_of_getElem? (i := 167) rfl)) rfl, bl_in_tb (bl_t1 (List.mem_of_getElem? (i := 12) rfl)) rfl, bl_in_tb (bl_t7 (List.mem_of_getElem? (i := 168) rfl)) rfl, ⟨by decide +kernel, by decide +kernel, by decide +kernel⟩⟩
set_option maxRecDepth 20000 in
theorem mV_X10_writesAdvice : bl_mV yX10_writesAdvice cX10_writesAdvice 5 (Option.none : Option Jvm.ClassFile.FieldType) 2 := ⟨bl_in_tb (bl_t7 (List.mem_of_getElem? (i := 171) rfl)) rfl, bl_in_sel (List.mem_of_getElem? (i := 86) rfl) rfl, bl_in_tb (bl_t1 (List.mem_of_getElem? (i := 12) rfl)) rfl, bl_in_tb (bl_t7 (List.mem_of_getElem? (i := 172) rfl)) rfl, ⟨by decide +kernel, by decide +kernel, by decide +kernel⟩⟩
set_option maxRecDepth 20000 in
theorem mV_X10_count : bl_mV yX10_count cX10_count 2 (Option.some Jvm.ClassFile.FieldType.int) 1 := ⟨bl_in_tb (bl_t7 (List.mem_of_getElem? (i := 174) rfl)) rfl, bl_in_tb (bl_t7 (List.mem_of_getElem? (i := 175) rfl)) rfl, bl_in_tb (bl_t1 (List.mem_of_getElem? (i := 12) rfl)) rfl, bl_in_tb (bl_t7 (List.mem_of_getElem? (i := 176) rfl)) rfl, ⟨by decide +kernel, by decide +kernel, by decide +kernel⟩⟩
set_option maxRecDepth 20000 in
theorem mV_X10_feed : bl_mV yX10_feed cX10_feed 8 (Option.some Jvm.ClassFile.FieldType.int) 5 := ⟨bl_in_tb (bl_t7 (List.mem_of_getElem? (i := 178) rfl)) rfl, bl_in_tb (bl_t7 (List.mem_of_getElem? (i := 179) rfl)) rfl, bl_in_tb (bl_t1 (List.mem_of_getElem? (i := 12) rfl)) rfl, bl_in_tb (bl_t7 (List.mem_of_getElem? (i := 180) rfl)) rfl, ⟨by decide +kernel, by decide +kernel, by decide +kernel⟩⟩
set_option maxRecDepth 20000 in
theorem mV_X10_back : bl_mV yX10_back cX10_back 2 (Option.some Jvm.ClassFile.FieldType.int) 1 := ⟨bl_in_tb (bl_t7 (List.mem_of_getElem? (i := 182) rfl)) rfl, bl_in_tb (bl_t7 (List.mem_of_getElem? (i := 183) rfl)) rfl, bl_in_tb (bl_t1 (List.mem_of_getElem? (i := 12) rfl)) rfl, bl_in_tb (bl_t7 (List.mem_of_getElem? (i := 184) rfl)) rfl, ⟨by decide +kernel, by decide +kernel, by decide +kernel⟩⟩
set_option maxRecDepth 20000 in
theorem mV_X10_text : bl_mV yX10_text cX10_text 1 (Option.some Jvm.ClassFile.FieldType.int) 0 := ⟨bl_in_tb (bl_t7 (List.mem_of_getElem? (i := 186) rfl)) rfl, bl_in_tb (bl_t7 (List.mem_of_getElem? (i := 187) rfl)) rfl, bl_in_tb (bl_t1 (List.mem_of_getElem? (i := 12) rfl)) rfl, bl_in_tb (bl_t7 (List.mem_of_getElem? (i := 188) rfl)) rfl, ⟨by decide +kernel, by decide +kernel, by decide +kernel⟩⟩
set_option maxRecDepth 20000 in
theorem mV_X10_goesOn : bl_mV yX10_goesOn cX10_goesOn 5 (Option.none : Option Jvm.ClassFile.FieldType) 0 := ⟨bl_in_tb (bl_t7 (List.mem_of_getElem? (i := 191) rfl)) rfl, bl_in_sel (List.mem_of_getElem? (i := 87) rfl) rfl, bl_in_tb (bl_t1 (List.mem_of_getElem? (i := 12) rfl)) rfl, bl_in_tb (bl_t7 (List.mem_of_getElem? (i := 192) rfl)) rfl, ⟨by decide +kernel, by decide +kernel, by decide +kernel⟩⟩
set_option maxRecDepth 20000 in
theorem mV_X10_here : bl_mV yX10_here cX10_here 1 (Option.some Jvm.ClassFile.FieldType.int) 0 := ⟨bl_in_tb (bl_t7 (List.mem_of_getElem? (i := 195) rfl)) rfl, bl_in_sel (List.mem_of_getElem? (i := 88) rfl) rfl, bl_in_tb (bl_t1 (List.mem_of_getElem? (i := 12) rfl)) rfl, bl_in_tb (bl_t7 (List.mem_of_getElem? (i := 196) rfl)) rfl, ⟨by decide +kernel, by decide +kernel, by decide +kernel⟩⟩
set_option maxRecDepth 20000 in
theorem mV_X10_readsOne : bl_mV yX10_readsOne cX10_readsOne 2 (Option.none : Option Jvm.ClassFile.FieldType) 0 := ⟨bl_in_tb (bl_t7 (List.mem_of_getElem? (i := 203) rfl)) rfl, bl_in_sel (List.mem_of_getElem? (i := 89) rfl) rfl, bl_in_tb (bl_t1 (List.mem_of_getElem? (i := 12) rfl)) rfl, bl_in_tb (bl_t7 (List.mem_of_getElem? (i := 204) rfl)) rfl, ⟨by decide +kernel, by decide +kernel, by decide +kernel⟩⟩
set_option maxRecDepth 20000 in
theorem mV_X10_takesWord : bl_mV yX10_takesWord cX10_takesWord 4 (Option.some Jvm.ClassFile.FieldType.boolean) 1 := ⟨bl_in_tb (bl_t7 (List.mem_of_getElem? (i := 207) rfl)) rfl, bl_in_sel (List.mem_of_getElem? (i := 90) rfl) rfl, bl_in_tb (bl_t1 (List.mem_of_getElem? (i := 12) rfl)) rfl, bl_in_tb (bl_t7 (List.mem_of_getElem? (i := 208) rfl)) rfl, ⟨by decide +kernel, by decide +kernel, by decide +kernel⟩⟩
set_option maxRecDepth 20000 in
theorem mV_X10_readsClass : bl_mV yX10_readsClass cX10_readsClass 3 (Option.none : Option Jvm.ClassFile.FieldType) 1 := ⟨bl_in_tb (bl_t7 (List.mem_of_getElem? (i := 211) rfl)) rfl, bl_in_sel (List.mem_of_getElem? (i := 91) rfl) rfl, bl_in_tb (bl_t1 (List.mem_of_getElem? (i := 12) rfl)) rfl, bl_in_tb (bl_t7 (List.mem_of_getElem? (i := 212) rfl)) rfl, ⟨by decide +kernel, by decide +kernel, by decide +kernel⟩⟩
set_option maxRecDepth 20000 in
theorem mV_X10_isRoom : bl_mV yX10_isRoom cX10_isRoom 4 (Option.some Jvm.ClassFile.FieldType.boolean) 3 := ⟨bl_in_tb (bl_t7 (List.mem_of_getElem? (i := 215) rfl)) rfl, bl_in_sel (List.mem_of_getElem? (i := 92) rfl) rfl, bl_in_tb (bl_t1 (List.mem_of_getElem? (i := 12) rfl)) rfl, bl_in_tb (bl_t7 (List.mem_of_getElem? (i := 216) rfl)) rfl, ⟨by decide +kernel, by decide +kernel, by decide +kernel⟩⟩
set_option maxRecDepth 20000 in
theorem mV_X10_needsNumber : bl_mV yX10_needsNumber cX10_needsNumber 4 (Option.some Jvm.ClassFile.FieldType.int) 2 := ⟨bl_in_tb (bl_t7 (List.mem_of_getElem? (i := 219) rfl)) rfl, bl_in_sel (List.mem_of_getElem? (i := 93) rfl) rfl, bl_in_tb (bl_t1 (List.mem_of_getElem? (i := 12) rfl)) rfl, bl_in_tb (bl_t7 (List.mem_of_getElem? (i := 220) rfl)) rfl, ⟨by decide +kernel, by decide +kernel, by decide +kernel⟩⟩
set_option maxRecDepth 20000 in
theorem mV_X10_readsLoss : bl_mV yX10_readsLoss cX10_readsLoss 3 (Option.none : Option Jvm.ClassFile.FieldType) 1 := ⟨bl_in_tb (bl_t7 (List.mem_of_getElem? (i := 223) rfl)) rfl, bl_in_sel (List.mem_of_getElem? (i := 94) rfl) rfl, bl_in_tb (bl_t1 (List.mem_of_getElem? (i := 12) rfl)) rfl, bl_in_tb (bl_t7 (List.mem_of_getElem? (i := 224) rfl)) rfl, ⟨by decide +kernel, by decide +kernel, by decide +kernel⟩⟩
set_option maxRecDepth 20000 in
theorem mV_X10_looksOver : bl_mV yX10_looksOver cX10_looksOver 3 (Option.none : Option Jvm.ClassFile.FieldType) 0 := ⟨bl_in_tb (bl_t7 (List.mem_of_getElem? (i := 227) rfl)) rfl, bl_in_sel (List.mem_of_getElem? (i := 95) rfl) rfl, bl_in_tb (bl_t1 (List.mem_of_getElem? (i := 12) rfl)) rfl, bl_in_tb (bl_t7 (List.mem_of_getElem? (i := 228) rfl)) rfl, ⟨by decide +kernel, by decide +kernel, by decide +kernel⟩⟩
set_option maxRecDepth 20000 in
theorem ml_L_9 : Cond.methodLink RL 9 yX9_init ∈ bl_tb := bl_in_tb (bl_t1 (List.mem_of_getElem? (i := 20) rfl)) rfl
set_option maxRecDepth 20000 in
theorem ml_X7_20 : Cond.methodLink RX7 20 yX8_init ∈ bl_tb := bl_in_tb (bl_t1 (List.mem_of_getElem? (i := 34) rfl)) rfl
set_option maxRecDepth 20000 in
theorem ml_X9_25 : Cond.methodLink RX9 25 yX8_init ∈ bl_tb := bl_in_tb (bl_t1 (List.mem_of_getElem? (i := 107) rfl)) rfl
set_option maxRecDepth 20000 in
theorem ml_X9_45 : Cond.methodLink RX9 45 yX6_init ∈ bl_tb := bl_in_tb (bl_t1 (List.mem_of_getElem? (i := 176) rfl)) rfl
set_option maxRecDepth 20000 in
theorem ml_X6_23 : Cond.methodLink RX6 23 yX8_init ∈ bl_tb := bl_in_tb (bl_t1 (List.mem_of_getElem? (i := 184) rfl)) rfl
set_option maxRecDepth 20000 in
theorem ml_X9_52 : Cond.methodLink RX9 52 yX4_init ∈ bl_tb := bl_in_tb (bl_t1 (List.mem_of_getElem? (i := 202) rfl)) rfl
set_option maxRecDepth 20000 in
theorem ml_L_13 : Cond.methodLink RL 13 yX9_feed ∈ bl_tb := bl_in_tb (bl_t2 (List.mem_of_getElem? (i := 112) rfl)) rfl
set_option maxRecDepth 20000 in
theorem ml_X9_87 : Cond.methodLink RX9 87 yX7_append ∈ bl_tb := bl_in_tb (bl_t2 (List.mem_of_getElem? (i := 116) rfl)) rfl
set_option maxRecDepth 20000 in
theorem ml_L_18 : Cond.methodLink RL 18 yX9_back ∈ bl_tb := bl_in_tb (bl_t2 (List.mem_of_getElem? (i := 120) rfl)) rfl
set_option maxRecDepth 20000 in
theorem ml_L_23 : Cond.methodLink RL 23 yX9_text ∈ bl_tb := bl_in_tb (bl_t2 (List.mem_of_getElem? (i := 124) rfl)) rfl
set_option maxRecDepth 20000 in
theorem ml_X9_91 : Cond.methodLink RX9 91 yX7_parse ∈ bl_tb := bl_in_tb (bl_t2 (List.mem_of_getElem? (i := 128) rfl)) rfl
set_option maxRecDepth 20000 in
theorem ml_X7_29 : Cond.methodLink RX7 29 yX8_clear ∈ bl_tb := bl_in_tb (bl_t2 (List.mem_of_getElem? (i := 132) rfl)) rfl
set_option maxRecDepth 20000 in
theorem ml_X7_38 : Cond.methodLink RX7 38 yX7_skipBlanks ∈ bl_tb := bl_in_tb (bl_t2 (List.mem_of_getElem? (i := 136) rfl)) rfl
set_option maxRecDepth 20000 in
theorem ml_X7_41 : Cond.methodLink RX7 41 yX7_readPhrase ∈ bl_tb := bl_in_tb (bl_t2 (List.mem_of_getElem? (i := 140) rfl)) rfl
set_option maxRecDepth 20000 in
theorem ml_X7_48 : Cond.methodLink RX7 48 yX7_isLetter ∈ bl_tb := bl_in_tb (bl_t2 (List.mem_of_getElem? (i := 144) rfl)) rfl
set_option maxRecDepth 20000 in
theorem ml_X7_52 : Cond.methodLink RX7 52 yX7_kindOf ∈ bl_tb := bl_in_tb (bl_t2 (List.mem_of_getElem? (i := 147) rfl)) rfl
set_option maxRecDepth 20000 in
theorem ml_X7_120 : Cond.methodLink RX7 120 yX7_isWord ∈ bl_tb := bl_in_tb (bl_t2 (List.mem_of_getElem? (i := 159) rfl)) rfl
set_option maxRecDepth 20000 in
theorem ml_X7_124 : Cond.methodLink RX7 124 yJ0_length_8abf5 ∈ bl_tb := bl_in_tb (bl_t2 (List.mem_of_getElem? (i := 163) rfl)) rfl
set_option maxRecDepth 20000 in
theorem ml_J0_335 : Cond.methodLink RJ0 335 yJ0_coder_7d493 ∈ bl_tb := bl_in_tb (bl_t2 (List.mem_of_getElem? (i := 167) rfl)) rfl
set_option maxRecDepth 20000 in
theorem ml_X7_129 : Cond.methodLink RX7 129 yJ0_charAt_5068e ∈ bl_tb := bl_in_tb (bl_t2 (List.mem_of_getElem? (i := 173) rfl)) rfl
set_option maxRecDepth 20000 in
theorem ml_J0_492 : Cond.methodLink RJ0 492 yJ0_isLatin1_aae02 ∈ bl_tb := bl_in_tb (bl_t2 (List.mem_of_getElem? (i := 177) rfl)) rfl
set_option maxRecDepth 20000 in
theorem ml_J0_495 : Cond.methodLink RJ0 495 yJ1_charAt_3b067 ∈ bl_tb := bl_in_tb (bl_t2 (List.mem_of_getElem? (i := 181) rfl)) rfl
set_option maxRecDepth 20000 in
theorem ml_J1_9 : Cond.methodLink RJ1 9 yJ0_checkIndex_df160 ∈ bl_tb := bl_in_tb (bl_t2 (List.mem_of_getElem? (i := 184) rfl)) rfl
set_option maxRecDepth 20000 in
theorem ml_J0_1059 : Cond.methodLink RJ0 1059 yJ3_checkIndex_8e157 ∈ bl_tb := bl_in_tb (bl_t2 (List.mem_of_getElem? (i := 189) rfl)) rfl
set_option maxRecDepth 20000 in
theorem ml_J0_498 : Cond.methodLink RJ0 498 yJ2_charAt_3b067 ∈ bl_tb := bl_in_tb (bl_t2 (List.mem_of_getElem? (i := 192) rfl)) rfl
set_option maxRecDepth 20000 in
theorem ml_J2_67 : Cond.methodLink RJ2 67 yJ2_checkIndex_2214a ∈ bl_tb := bl_in_tb (bl_t2 (List.mem_of_getElem? (i := 195) rfl)) rfl
set_option maxRecDepth 20000 in
theorem ml_J2_48 : Cond.methodLink RJ2 48 yJ2_length_9d52b ∈ bl_tb := bl_in_tb (bl_t2 (List.mem_of_getElem? (i := 198) rfl)) rfl
set_option maxRecDepth 20000 in
theorem ml_J2_414 : Cond.methodLink RJ2 414 yJ0_checkIndex_df160 ∈ bl_tb := bl_in_tb (bl_t2 (List.mem_of_getElem? (i := 201) rfl)) rfl
set_option maxRecDepth 20000 in
theorem ml_J2_71 : Cond.methodLink RJ2 71 yJ2_getChar_3b067 ∈ bl_tb := bl_in_tb (bl_t2 (List.mem_of_getElem? (i := 202) rfl)) rfl
set_option maxRecDepth 20000 in
theorem ml_X7_56 : Cond.methodLink RX7 56 yX7_isFull ∈ bl_tb := bl_in_tb (bl_t2 (List.mem_of_getElem? (i := 211) rfl)) rfl
set_option maxRecDepth 20000 in
theorem ml_X7_59 : Cond.methodLink RX7 59 yX7_amountOf ∈ bl_tb := bl_in_tb (bl_t2 (List.mem_of_getElem? (i := 215) rfl)) rfl
set_option maxRecDepth 20000 in
theorem ml_X7_63 : Cond.methodLink RX7 63 yX7_lowest ∈ bl_tb := bl_in_tb (bl_t2 (List.mem_of_getElem? (i := 218) rfl)) rfl
set_option maxRecDepth 20000 in
theorem ml_X7_66 : Cond.methodLink RX7 66 yX7_highest ∈ bl_tb := bl_in_tb (bl_t2 (List.mem_of_getElem? (i := 223) rfl)) rfl
set_option maxRecDepth 20000 in
theorem ml_X7_69 : Cond.methodLink RX7 69 yX7_readNumber ∈ bl_tb := bl_in_tb (bl_t2 (List.mem_of_getElem? (i := 232) rfl)) rfl
set_option maxRecDepth 20000 in
theorem ml_X7_80 : Cond.methodLink RX7 80 yX7_isDigit ∈ bl_tb := bl_in_tb (bl_t2 (List.mem_of_getElem? (i := 236) rfl)) rfl
set_option maxRecDepth 20000 in
theorem ml_X7_83 : Cond.methodLink RX7 83 yJ9_min_7cf53 ∈ bl_tb := bl_in_tb (bl_t2 (List.mem_of_getElem? (i := 239) rfl)) rfl
set_option maxRecDepth 20000 in
theorem ml_X7_73 : Cond.methodLink RX7 73 yX7_readEnd ∈ bl_tb := bl_in_tb (bl_t3 (List.mem_of_getElem? (i := 2) rfl)) rfl
set_option maxRecDepth 20000 in
theorem ml_X7_76 : Cond.methodLink RX7 76 yX7_take ∈ bl_tb := bl_in_tb (bl_t3 (List.mem_of_getElem? (i := 6) rfl)) rfl
set_option maxRecDepth 20000 in
theorem ml_X7_100 : Cond.methodLink RX7 100 yX8_addSort ∈ bl_tb := bl_in_tb (bl_t3 (List.mem_of_getElem? (i := 11) rfl)) rfl
set_option maxRecDepth 20000 in
theorem ml_X8_43 : Cond.methodLink RX8 43 yX8_setSortPart ∈ bl_tb := bl_in_tb (bl_t3 (List.mem_of_getElem? (i := 15) rfl)) rfl
set_option maxRecDepth 20000 in
theorem ml_X7_44 : Cond.methodLink RX7 44 yX7_isWhole ∈ bl_tb := bl_in_tb (bl_t3 (List.mem_of_getElem? (i := 19) rfl)) rfl
set_option maxRecDepth 20000 in
theorem ml_X7_110 : Cond.methodLink RX7 110 yX8_next ∈ bl_tb := bl_in_tb (bl_t3 (List.mem_of_getElem? (i := 23) rfl)) rfl
set_option maxRecDepth 20000 in
theorem ml_X8_37 : Cond.methodLink RX8 37 yJ9_min_7cf53 ∈ bl_tb := bl_in_tb (bl_t3 (List.mem_of_getElem? (i := 27) rfl)) rfl
set_option maxRecDepth 20000 in
theorem ml_X7_113 : Cond.methodLink RX7 113 yX8_hasClass ∈ bl_tb := bl_in_tb (bl_t3 (List.mem_of_getElem? (i := 28) rfl)) rfl
set_option maxRecDepth 20000 in
theorem ml_X9_98 : Cond.methodLink RX9 98 yX8_copy ∈ bl_tb := bl_in_tb (bl_t3 (List.mem_of_getElem? (i := 32) rfl)) rfl
set_option maxRecDepth 20000 in
theorem ml_X9_101 : Cond.methodLink RX9 101 yX2_clear ∈ bl_tb := bl_in_tb (bl_t3 (List.mem_of_getElem? (i := 36) rfl)) rfl
set_option maxRecDepth 20000 in
theorem ml_X2_43 : Cond.methodLink RX2 43 yX2_leaveYear ∈ bl_tb := bl_in_tb (bl_t3 (List.mem_of_getElem? (i := 40) rfl)) rfl
set_option maxRecDepth 20000 in
theorem ml_X9_104 : Cond.methodLink RX9 104 yX6_forget ∈ bl_tb := bl_in_tb (bl_t3 (List.mem_of_getElem? (i := 44) rfl)) rfl
set_option maxRecDepth 20000 in
theorem ml_X9_107 : Cond.methodLink RX9 107 yX4_look ∈ bl_tb := bl_in_tb (bl_t3 (List.mem_of_getElem? (i := 48) rfl)) rfl
set_option maxRecDepth 20000 in
theorem ml_L_28 : Cond.methodLink RL 28 yX9_set ∈ bl_tb := bl_in_tb (bl_t3 (List.mem_of_getElem? (i := 53) rfl)) rfl
set_option maxRecDepth 20000 in
theorem ml_X9_114 : Cond.methodLink RX9 114 yX8_hasClass ∈ bl_tb := bl_in_tb (bl_t3 (List.mem_of_getElem? (i := 57) rfl)) rfl
set_option maxRecDepth 20000 in
theorem ml_X9_118 : Cond.methodLink RX9 118 yX9_highestPart ∈ bl_tb := bl_in_tb (bl_t3 (List.mem_of_getElem? (i := 58) rfl)) rfl
set_option maxRecDepth 20000 in
theorem ml_X9_122 : Cond.methodLink RX9 122 yX8_part ∈ bl_tb := bl_in_tb (bl_t3 (List.mem_of_getElem? (i := 63) rfl)) rfl
set_option maxRecDepth 20000 in
theorem ml_X9_126 : Cond.methodLink RX9 126 yX9_keepForUndo ∈ bl_tb := bl_in_tb (bl_t3 (List.mem_of_getElem? (i := 67) rfl)) rfl
set_option maxRecDepth 20000 in
theorem ml_X9_369 : Cond.methodLink RX9 369 yX6_keep ∈ bl_tb := bl_in_tb (bl_t3 (List.mem_of_getElem? (i := 71) rfl)) rfl
set_option maxRecDepth 20000 in
theorem ml_X6_29 : Cond.methodLink RX6 29 yX8_copy ∈ bl_tb := bl_in_tb (bl_t3 (List.mem_of_getElem? (i := 75) rfl)) rfl
set_option maxRecDepth 20000 in
theorem ml_X6_33 : Cond.methodLink RX6 33 yX2_copy ∈ bl_tb := bl_in_tb (bl_t3 (List.mem_of_getElem? (i := 76) rfl)) rfl
set_option maxRecDepth 20000 in
theorem ml_X6_39 : Cond.methodLink RX6 39 yJ9_min_7cf53 ∈ bl_tb := bl_in_tb (bl_t3 (List.mem_of_getElem? (i := 81) rfl)) rfl
set_option maxRecDepth 20000 in
theorem ml_X9_129 : Cond.methodLink RX9 129 yX8_setPart ∈ bl_tb := bl_in_tb (bl_t3 (List.mem_of_getElem? (i := 82) rfl)) rfl
set_option maxRecDepth 20000 in
theorem ml_L_33 : Cond.methodLink RL 33 yX9_sort ∈ bl_tb := bl_in_tb (bl_t3 (List.mem_of_getElem? (i := 86) rfl)) rfl
set_option maxRecDepth 20000 in
theorem ml_X9_133 : Cond.methodLink RX9 133 yX8_hasSort ∈ bl_tb := bl_in_tb (bl_t3 (List.mem_of_getElem? (i := 90) rfl)) rfl
set_option maxRecDepth 20000 in
theorem ml_X9_140 : Cond.methodLink RX9 140 yX8_sortPart ∈ bl_tb := bl_in_tb (bl_t3 (List.mem_of_getElem? (i := 95) rfl)) rfl
set_option maxRecDepth 20000 in
theorem ml_X9_143 : Cond.methodLink RX9 143 yX8_setSortPart ∈ bl_tb := bl_in_tb (bl_t3 (List.mem_of_getElem? (i := 99) rfl)) rfl
set_option maxRecDepth 20000 in
theorem ml_L_37 : Cond.methodLink RL 37 yX9_rule ∈ bl_tb := bl_in_tb (bl_t3 (List.mem_of_getElem? (i := 100) rfl)) rfl
set_option maxRecDepth 20000 in
theorem ml_X9_146 : Cond.methodLink RX9 146 yX9_isRule ∈ bl_tb := bl_in_tb (bl_t3 (List.mem_of_getElem? (i := 104) rfl)) rfl
set_option maxRecDepth 20000 in
theorem ml_L_42 : Cond.methodLink RL 42 yX9_begin ∈ bl_tb := bl_in_tb (bl_t3 (List.mem_of_getElem? (i := 109) rfl)) rfl
set_option maxRecDepth 20000 in
theorem ml_X9_157 : Cond.methodLink RX9 157 yX2_startYear ∈ bl_tb := bl_in_tb (bl_t3 (List.mem_of_getElem? (i := 113) rfl)) rfl
set_option maxRecDepth 20000 in
theorem ml_X2_68 : Cond.methodLink RX2 68 yX8_part ∈ bl_tb := bl_in_tb (bl_t3 (List.mem_of_getElem? (i := 117) rfl)) rfl
set_option maxRecDepth 20000 in
theorem ml_L_47 : Cond.methodLink RL 47 yX9_quiet ∈ bl_tb := bl_in_tb (bl_t3 (List.mem_of_getElem? (i := 118) rfl)) rfl
set_option maxRecDepth 20000 in
theorem ml_X9_161 : Cond.methodLink RX9 161 yX2_passChance ∈ bl_tb := bl_in_tb (bl_t3 (List.mem_of_getElem? (i := 122) rfl)) rfl
set_option maxRecDepth 20000 in
theorem ml_X2_74 : Cond.methodLink RX2 74 yX8_chances ∈ bl_tb := bl_in_tb (bl_t3 (List.mem_of_getElem? (i := 126) rfl)) rfl
set_option maxRecDepth 20000 in
theorem ml_X2_78 : Cond.methodLink RX2 78 yX2_endYear ∈ bl_tb := bl_in_tb (bl_t3 (List.mem_of_getElem? (i := 130) rfl)) rfl
set_option maxRecDepth 20000 in
theorem ml_X2_82 : Cond.methodLink RX2 82 yX2_putEntry ∈ bl_tb := bl_in_tb (bl_t3 (List.mem_of_getElem? (i := 134) rfl)) rfl
set_option maxRecDepth 20000 in
theorem ml_X2_99 : Cond.methodLink RX2 99 yJ9_floorMod_7cf53 ∈ bl_tb := bl_in_tb (bl_t3 (List.mem_of_getElem? (i := 137) rfl)) rfl
set_option maxRecDepth 20000 in
theorem ml_X2_96 : Cond.methodLink RX2 96 yX8_next ∈ bl_tb := bl_in_tb (bl_t3 (List.mem_of_getElem? (i := 140) rfl)) rfl
set_option maxRecDepth 20000 in
theorem ml_L_51 : Cond.methodLink RL 51 yX9_loss ∈ bl_tb := bl_in_tb (bl_t3 (List.mem_of_getElem? (i := 141) rfl)) rfl
set_option maxRecDepth 20000 in
theorem ml_X9_165 : Cond.methodLink RX9 165 yX2_takeLoss ∈ bl_tb := bl_in_tb (bl_t3 (List.mem_of_getElem? (i := 145) rfl)) rfl
set_option maxRecDepth 20000 in
theorem ml_X2_86 : Cond.methodLink RX2 86 yX8_ownOf ∈ bl_tb := bl_in_tb (bl_t3 (List.mem_of_getElem? (i := 149) rfl)) rfl
set_option maxRecDepth 20000 in
theorem ml_X8_50 : Cond.methodLink RX8 50 yX8_own ∈ bl_tb := bl_in_tb (bl_t3 (List.mem_of_getElem? (i := 153) rfl)) rfl
set_option maxRecDepth 20000 in
theorem ml_X8_47 : Cond.methodLink RX8 47 yX8_sortPart ∈ bl_tb := bl_in_tb (bl_t3 (List.mem_of_getElem? (i := 157) rfl)) rfl
set_option maxRecDepth 20000 in
theorem ml_X2_90 : Cond.methodLink RX2 90 yX8_sortPart ∈ bl_tb := bl_in_tb (bl_t3 (List.mem_of_getElem? (i := 158) rfl)) rfl
set_option maxRecDepth 20000 in
theorem ml_X2_93 : Cond.methodLink RX2 93 yX2_countTold ∈ bl_tb := bl_in_tb (bl_t3 (List.mem_of_getElem? (i := 159) rfl)) rfl
set_option maxRecDepth 20000 in
theorem ml_L_56 : Cond.methodLink RL 56 yX9_live ∈ bl_tb := bl_in_tb (bl_t3 (List.mem_of_getElem? (i := 163) rfl)) rfl
set_option maxRecDepth 20000 in
theorem ml_X9_169 : Cond.methodLink RX9 169 yX9_canLive ∈ bl_tb := bl_in_tb (bl_t3 (List.mem_of_getElem? (i := 167) rfl)) rfl
set_option maxRecDepth 20000 in
theorem ml_X9_297 : Cond.methodLink RX9 297 yX9_isThumb ∈ bl_tb := bl_in_tb (bl_t3 (List.mem_of_getElem? (i := 171) rfl)) rfl
set_option maxRecDepth 20000 in
theorem ml_X9_173 : Cond.methodLink RX9 173 yX9_liveByDraws ∈ bl_tb := bl_in_tb (bl_t3 (List.mem_of_getElem? (i := 174) rfl)) rfl
set_option maxRecDepth 20000 in
theorem ml_X9_230 : Cond.methodLink RX9 230 yX2_allPaid ∈ bl_tb := bl_in_tb (bl_t3 (List.mem_of_getElem? (i := 178) rfl)) rfl
set_option maxRecDepth 20000 in
theorem ml_X9_260 : Cond.methodLink RX9 260 yX4_learn ∈ bl_tb := bl_in_tb (bl_t3 (List.mem_of_getElem? (i := 182) rfl)) rfl
set_option maxRecDepth 20000 in
theorem ml_X4_52 : Cond.methodLink RX4 52 yX8_chances ∈ bl_tb := bl_in_tb (bl_t3 (List.mem_of_getElem? (i := 186) rfl)) rfl
set_option maxRecDepth 20000 in
theorem ml_X4_60 : Cond.methodLink RX4 60 yX3_take ∈ bl_tb := bl_in_tb (bl_t3 (List.mem_of_getElem? (i := 187) rfl)) rfl
set_option maxRecDepth 20000 in
theorem ml_X3_32 : Cond.methodLink RX3 32 yX8_odds ∈ bl_tb := bl_in_tb (bl_t3 (List.mem_of_getElem? (i := 191) rfl)) rfl
set_option maxRecDepth 20000 in
theorem ml_X3_39 : Cond.methodLink RX3 39 yX8_allWeights ∈ bl_tb := bl_in_tb (bl_t3 (List.mem_of_getElem? (i := 195) rfl)) rfl
set_option maxRecDepth 20000 in
theorem ml_X3_48 : Cond.methodLink RX3 48 yX8_sortPart ∈ bl_tb := bl_in_tb (bl_t3 (List.mem_of_getElem? (i := 199) rfl)) rfl
set_option maxRecDepth 20000 in
theorem ml_X3_54 : Cond.methodLink RX3 54 yX8_ownOf ∈ bl_tb := bl_in_tb (bl_t3 (List.mem_of_getElem? (i := 201) rfl)) rfl
set_option maxRecDepth 20000 in
theorem ml_X4_67 : Cond.methodLink RX4 67 yX4_lookAhead ∈ bl_tb := bl_in_tb (bl_t3 (List.mem_of_getElem? (i := 202) rfl)) rfl
set_option maxRecDepth 20000 in
theorem ml_X4_82 : Cond.methodLink RX4 82 yX8_next ∈ bl_tb := bl_in_tb (bl_t3 (List.mem_of_getElem? (i := 206) rfl)) rfl
set_option maxRecDepth 20000 in
theorem ml_X4_86 : Cond.methodLink RX4 86 yX4_index ∈ bl_tb := bl_in_tb (bl_t3 (List.mem_of_getElem? (i := 207) rfl)) rfl
set_option maxRecDepth 20000 in
theorem ml_X4_90 : Cond.methodLink RX4 90 yJ9_min_7cf53 ∈ bl_tb := bl_in_tb (bl_t3 (List.mem_of_getElem? (i := 210) rfl)) rfl
set_option maxRecDepth 20000 in
theorem ml_X4_95 : Cond.methodLink RX4 95 yX4_toldIndex ∈ bl_tb := bl_in_tb (bl_t3 (List.mem_of_getElem? (i := 211) rfl)) rfl
set_option maxRecDepth 20000 in
theorem ml_X4_98 : Cond.methodLink RX4 98 yX3_chanceCost ∈ bl_tb := bl_in_tb (bl_t3 (List.mem_of_getElem? (i := 214) rfl)) rfl
set_option maxRecDepth 20000 in
theorem ml_X3_60 : Cond.methodLink RX3 60 yX3_lossCost ∈ bl_tb := bl_in_tb (bl_t3 (List.mem_of_getElem? (i := 219) rfl)) rfl
set_option maxRecDepth 20000 in
theorem ml_X3_64 : Cond.methodLink RX3 64 yJ9_max_f86c9 ∈ bl_tb := bl_in_tb (bl_t3 (List.mem_of_getElem? (i := 223) rfl)) rfl
set_option maxRecDepth 20000 in
theorem ml_X4_71 : Cond.methodLink RX4 71 yX4_premiumPaid ∈ bl_tb := bl_in_tb (bl_t3 (List.mem_of_getElem? (i := 226) rfl)) rfl
set_option maxRecDepth 20000 in
theorem ml_X4_120 : Cond.methodLink RX4 120 yX8_part ∈ bl_tb := bl_in_tb (bl_t3 (List.mem_of_getElem? (i := 231) rfl)) rfl
set_option maxRecDepth 20000 in
theorem ml_X4_75 : Cond.methodLink RX4 75 yX4_costBehindPremium ∈ bl_tb := bl_in_tb (bl_t3 (List.mem_of_getElem? (i := 233) rfl)) rfl
set_option maxRecDepth 20000 in
theorem ml_X4_102 : Cond.methodLink RX4 102 yX4_guardPays ∈ bl_tb := bl_in_tb (bl_t3 (List.mem_of_getElem? (i := 237) rfl)) rfl
set_option maxRecDepth 20000 in
theorem ml_X9_400 : Cond.methodLink RX9 400 yX9_liveOneYear ∈ bl_tb := bl_in_tb (bl_t4 (List.mem_of_getElem? (i := 1) rfl)) rfl
set_option maxRecDepth 20000 in
theorem ml_X9_263 : Cond.methodLink RX9 263 yX4_buys ∈ bl_tb := bl_in_tb (bl_t4 (List.mem_of_getElem? (i := 5) rfl)) rfl
set_option maxRecDepth 20000 in
theorem ml_X9_278 : Cond.methodLink RX9 278 yX8_chances ∈ bl_tb := bl_in_tb (bl_t4 (List.mem_of_getElem? (i := 9) rfl)) rfl
set_option maxRecDepth 20000 in
theorem ml_X9_404 : Cond.methodLink RX9 404 yX0_next ∈ bl_tb := bl_in_tb (bl_t4 (List.mem_of_getElem? (i := 10) rfl)) rfl
set_option maxRecDepth 20000 in
theorem ml_X9_200 : Cond.methodLink RX9 200 yX8_odds ∈ bl_tb := bl_in_tb (bl_t4 (List.mem_of_getElem? (i := 15) rfl)) rfl
set_option maxRecDepth 20000 in
theorem ml_X9_406 : Cond.methodLink RX9 406 yX0_nextSort ∈ bl_tb := bl_in_tb (bl_t4 (List.mem_of_getElem? (i := 16) rfl)) rfl
set_option maxRecDepth 20000 in
theorem ml_X0_16 : Cond.methodLink RX0 16 yX8_allWeights ∈ bl_tb := bl_in_tb (bl_t4 (List.mem_of_getElem? (i := 20) rfl)) rfl
set_option maxRecDepth 20000 in
theorem ml_X0_22 : Cond.methodLink RX0 22 yX0_next ∈ bl_tb := bl_in_tb (bl_t4 (List.mem_of_getElem? (i := 21) rfl)) rfl
set_option maxRecDepth 20000 in
theorem ml_X0_29 : Cond.methodLink RX0 29 yX8_sortPart ∈ bl_tb := bl_in_tb (bl_t4 (List.mem_of_getElem? (i := 22) rfl)) rfl
set_option maxRecDepth 20000 in
theorem ml_X9_409 : Cond.methodLink RX9 409 yX9_isTold ∈ bl_tb := bl_in_tb (bl_t4 (List.mem_of_getElem? (i := 23) rfl)) rfl
set_option maxRecDepth 20000 in
theorem ml_X9_243 : Cond.methodLink RX9 243 yJ9_min_7cf53 ∈ bl_tb := bl_in_tb (bl_t4 (List.mem_of_getElem? (i := 27) rfl)) rfl
set_option maxRecDepth 20000 in
theorem ml_X9_285 : Cond.methodLink RX9 285 yX4_gainOf ∈ bl_tb := bl_in_tb (bl_t4 (List.mem_of_getElem? (i := 28) rfl)) rfl
set_option maxRecDepth 20000 in
theorem ml_X4_106 : Cond.methodLink RX4 106 yX3_savedIfTold ∈ bl_tb := bl_in_tb (bl_t4 (List.mem_of_getElem? (i := 32) rfl)) rfl
set_option maxRecDepth 20000 in
theorem ml_X4_109 : Cond.methodLink RX4 109 yX4_dearerIfTold ∈ bl_tb := bl_in_tb (bl_t4 (List.mem_of_getElem? (i := 36) rfl)) rfl
set_option maxRecDepth 20000 in
theorem ml_L_61 : Cond.methodLink RL 61 yX9_come ∈ bl_tb := bl_in_tb (bl_t4 (List.mem_of_getElem? (i := 40) rfl)) rfl
set_option maxRecDepth 20000 in
theorem ml_X9_180 : Cond.methodLink RX9 180 yX8_addSort ∈ bl_tb := bl_in_tb (bl_t4 (List.mem_of_getElem? (i := 44) rfl)) rfl
set_option maxRecDepth 20000 in
theorem ml_L_65 : Cond.methodLink RL 65 yX9_drop ∈ bl_tb := bl_in_tb (bl_t4 (List.mem_of_getElem? (i := 45) rfl)) rfl
set_option maxRecDepth 20000 in
theorem ml_X9_184 : Cond.methodLink RX9 184 yX8_removeSort ∈ bl_tb := bl_in_tb (bl_t4 (List.mem_of_getElem? (i := 49) rfl)) rfl
set_option maxRecDepth 20000 in
theorem ml_L_69 : Cond.methodLink RL 69 yX9_move ∈ bl_tb := bl_in_tb (bl_t4 (List.mem_of_getElem? (i := 53) rfl)) rfl
set_option maxRecDepth 20000 in
theorem ml_L_73 : Cond.methodLink RL 73 yX9_anew ∈ bl_tb := bl_in_tb (bl_t4 (List.mem_of_getElem? (i := 57) rfl)) rfl
set_option maxRecDepth 20000 in
theorem ml_L_77 : Cond.methodLink RL 77 yX9_undo ∈ bl_tb := bl_in_tb (bl_t4 (List.mem_of_getElem? (i := 61) rfl)) rfl
set_option maxRecDepth 20000 in
theorem ml_X9_193 : Cond.methodLink RX9 193 yX6_takeBack ∈ bl_tb := bl_in_tb (bl_t4 (List.mem_of_getElem? (i := 65) rfl)) rfl
set_option maxRecDepth 20000 in
theorem ml_L_81 : Cond.methodLink RL 81 yX9_of ∈ bl_tb := bl_in_tb (bl_t4 (List.mem_of_getElem? (i := 69) rfl)) rfl
set_option maxRecDepth 20000 in
theorem ml_L_85 : Cond.methodLink RL 85 yX9_ofSort ∈ bl_tb := bl_in_tb (bl_t4 (List.mem_of_getElem? (i := 73) rfl)) rfl
set_option maxRecDepth 20000 in
theorem ml_L_89 : Cond.methodLink RL 89 yX9_life ∈ bl_tb := bl_in_tb (bl_t4 (List.mem_of_getElem? (i := 77) rfl)) rfl
set_option maxRecDepth 20000 in
theorem ml_L_93 : Cond.methodLink RL 93 yX9_book ∈ bl_tb := bl_in_tb (bl_t4 (List.mem_of_getElem? (i := 81) rfl)) rfl
set_option maxRecDepth 20000 in
theorem ml_X9_236 : Cond.methodLink RX9 236 yX9_entry ∈ bl_tb := bl_in_tb (bl_t4 (List.mem_of_getElem? (i := 85) rfl)) rfl
set_option maxRecDepth 20000 in
theorem ml_L_97 : Cond.methodLink RL 97 yX9_ledger ∈ bl_tb := bl_in_tb (bl_t4 (List.mem_of_getElem? (i := 88) rfl)) rfl
set_option maxRecDepth 20000 in
theorem ml_L_101 : Cond.methodLink RL 101 yX9_mean ∈ bl_tb := bl_in_tb (bl_t4 (List.mem_of_getElem? (i := 92) rfl)) rfl
set_option maxRecDepth 20000 in
theorem ml_X9_248 : Cond.methodLink RX9 248 yX9_commonDivisor ∈ bl_tb := bl_in_tb (bl_t4 (List.mem_of_getElem? (i := 96) rfl)) rfl
set_option maxRecDepth 20000 in
theorem ml_X9_376 : Cond.methodLink RX9 376 yJ9_max_7cf53 ∈ bl_tb := bl_in_tb (bl_t4 (List.mem_of_getElem? (i := 99) rfl)) rfl
set_option maxRecDepth 20000 in
theorem ml_L_105 : Cond.methodLink RL 105 yX9_cost ∈ bl_tb := bl_in_tb (bl_t4 (List.mem_of_getElem? (i := 102) rfl)) rfl
set_option maxRecDepth 20000 in
theorem ml_X9_251 : Cond.methodLink RX9 251 yX9_isAsked ∈ bl_tb := bl_in_tb (bl_t4 (List.mem_of_getElem? (i := 106) rfl)) rfl
set_option maxRecDepth 20000 in
theorem ml_X9_256 : Cond.methodLink RX9 256 yX4_costOf ∈ bl_tb := bl_in_tb (bl_t4 (List.mem_of_getElem? (i := 111) rfl)) rfl
set_option maxRecDepth 20000 in
theorem ml_X4_78 : Cond.methodLink RX4 78 yX4_learn ∈ bl_tb := bl_in_tb (bl_t4 (List.mem_of_getElem? (i := 115) rfl)) rfl
set_option maxRecDepth 20000 in
theorem ml_L_110 : Cond.methodLink RL 110 yX9_guards ∈ bl_tb := bl_in_tb (bl_t4 (List.mem_of_getElem? (i := 116) rfl)) rfl
set_option maxRecDepth 20000 in
theorem ml_L_114 : Cond.methodLink RL 114 yX9_ahead ∈ bl_tb := bl_in_tb (bl_t4 (List.mem_of_getElem? (i := 120) rfl)) rfl
set_option maxRecDepth 20000 in
theorem ml_X9_266 : Cond.methodLink RX9 266 yX9_isState ∈ bl_tb := bl_in_tb (bl_t4 (List.mem_of_getElem? (i := 124) rfl)) rfl
set_option maxRecDepth 20000 in
theorem ml_X9_270 : Cond.methodLink RX9 270 yX4_lookAhead ∈ bl_tb := bl_in_tb (bl_t4 (List.mem_of_getElem? (i := 128) rfl)) rfl
set_option maxRecDepth 20000 in
theorem ml_X9_274 : Cond.methodLink RX9 274 yX4_aheadOf ∈ bl_tb := bl_in_tb (bl_t4 (List.mem_of_getElem? (i := 129) rfl)) rfl
set_option maxRecDepth 20000 in
theorem ml_L_119 : Cond.methodLink RL 119 yX9_least ∈ bl_tb := bl_in_tb (bl_t4 (List.mem_of_getElem? (i := 133) rfl)) rfl
set_option maxRecDepth 20000 in
theorem ml_X9_281 : Cond.methodLink RX9 281 yX4_leastTold ∈ bl_tb := bl_in_tb (bl_t4 (List.mem_of_getElem? (i := 137) rfl)) rfl
set_option maxRecDepth 20000 in
theorem ml_X4_113 : Cond.methodLink RX4 113 yX8_own ∈ bl_tb := bl_in_tb (bl_t4 (List.mem_of_getElem? (i := 141) rfl)) rfl
set_option maxRecDepth 20000 in
theorem ml_L_124 : Cond.methodLink RL 124 yX9_tells ∈ bl_tb := bl_in_tb (bl_t4 (List.mem_of_getElem? (i := 143) rfl)) rfl
set_option maxRecDepth 20000 in
theorem ml_L_128 : Cond.methodLink RL 128 yX9_gain ∈ bl_tb := bl_in_tb (bl_t4 (List.mem_of_getElem? (i := 147) rfl)) rfl
set_option maxRecDepth 20000 in
theorem ml_L_133 : Cond.methodLink RL 133 yX9_patience ∈ bl_tb := bl_in_tb (bl_t4 (List.mem_of_getElem? (i := 152) rfl)) rfl
set_option maxRecDepth 20000 in
theorem ml_L_137 : Cond.methodLink RL 137 yX9_worst ∈ bl_tb := bl_in_tb (bl_t4 (List.mem_of_getElem? (i := 156) rfl)) rfl
set_option maxRecDepth 20000 in
theorem ml_L_141 : Cond.methodLink RL 141 yX9_bare ∈ bl_tb := bl_in_tb (bl_t4 (List.mem_of_getElem? (i := 160) rfl)) rfl
set_option maxRecDepth 20000 in
theorem ml_X9_294 : Cond.methodLink RX9 294 yX9_bareCost ∈ bl_tb := bl_in_tb (bl_t4 (List.mem_of_getElem? (i := 164) rfl)) rfl
set_option maxRecDepth 20000 in
theorem ml_L_145 : Cond.methodLink RL 145 yX9_by ∈ bl_tb := bl_in_tb (bl_t4 (List.mem_of_getElem? (i := 168) rfl)) rfl
set_option maxRecDepth 20000 in
theorem ml_X9_300 : Cond.methodLink RX9 300 yX9_costByRule ∈ bl_tb := bl_in_tb (bl_t4 (List.mem_of_getElem? (i := 172) rfl)) rfl
set_option maxRecDepth 20000 in
theorem ml_L_150 : Cond.methodLink RL 150 yX9_bestLimit ∈ bl_tb := bl_in_tb (bl_t4 (List.mem_of_getElem? (i := 176) rfl)) rfl
set_option maxRecDepth 20000 in
theorem ml_L_154 : Cond.methodLink RL 154 yX9_worth ∈ bl_tb := bl_in_tb (bl_t4 (List.mem_of_getElem? (i := 180) rfl)) rfl
set_option maxRecDepth 20000 in
theorem ml_L_159 : Cond.methodLink RL 159 yX9_cheapest ∈ bl_tb := bl_in_tb (bl_t4 (List.mem_of_getElem? (i := 184) rfl)) rfl
set_option maxRecDepth 20000 in
theorem ml_L_163 : Cond.methodLink RL 163 yX9_reach ∈ bl_tb := bl_in_tb (bl_t4 (List.mem_of_getElem? (i := 188) rfl)) rfl
set_option maxRecDepth 20000 in
theorem ml_X9_304 : Cond.methodLink RX9 304 yX9_stepFrom ∈ bl_tb := bl_in_tb (bl_t4 (List.mem_of_getElem? (i := 192) rfl)) rfl
set_option maxRecDepth 20000 in
theorem ml_X9_307 : Cond.methodLink RX9 307 yX8_next ∈ bl_tb := bl_in_tb (bl_t4 (List.mem_of_getElem? (i := 196) rfl)) rfl
set_option maxRecDepth 20000 in
theorem ml_L_167 : Cond.methodLink RL 167 yX9_years ∈ bl_tb := bl_in_tb (bl_t4 (List.mem_of_getElem? (i := 197) rfl)) rfl
set_option maxRecDepth 20000 in
theorem ml_L_171 : Cond.methodLink RL 171 yX9_ways ∈ bl_tb := bl_in_tb (bl_t4 (List.mem_of_getElem? (i := 201) rfl)) rfl
set_option maxRecDepth 20000 in
theorem ml_X9_310 : Cond.methodLink RX9 310 yX9_waysOf ∈ bl_tb := bl_in_tb (bl_t4 (List.mem_of_getElem? (i := 205) rfl)) rfl
set_option maxRecDepth 20000 in
theorem ml_L_175 : Cond.methodLink RL 175 yX9_moves ∈ bl_tb := bl_in_tb (bl_t4 (List.mem_of_getElem? (i := 209) rfl)) rfl
set_option maxRecDepth 20000 in
theorem ml_L_179 : Cond.methodLink RL 179 yX9_spread ∈ bl_tb := bl_in_tb (bl_t4 (List.mem_of_getElem? (i := 213) rfl)) rfl
set_option maxRecDepth 20000 in
theorem ml_X9_313 : Cond.methodLink RX9 313 yX9_spreadOneYear ∈ bl_tb := bl_in_tb (bl_t4 (List.mem_of_getElem? (i := 217) rfl)) rfl
set_option maxRecDepth 20000 in
theorem ml_L_183 : Cond.methodLink RL 183 yX9_shared ∈ bl_tb := bl_in_tb (bl_t4 (List.mem_of_getElem? (i := 222) rfl)) rfl
set_option maxRecDepth 20000 in
theorem ml_X9_316 : Cond.methodLink RX9 316 yX1_costOf ∈ bl_tb := bl_in_tb (bl_t4 (List.mem_of_getElem? (i := 226) rfl)) rfl
set_option maxRecDepth 20000 in
theorem ml_X1_28 : Cond.methodLink RX1 28 yX3_take ∈ bl_tb := bl_in_tb (bl_t4 (List.mem_of_getElem? (i := 230) rfl)) rfl
set_option maxRecDepth 20000 in
theorem ml_X1_32 : Cond.methodLink RX1 32 yX1_fillPairs ∈ bl_tb := bl_in_tb (bl_t4 (List.mem_of_getElem? (i := 231) rfl)) rfl
set_option maxRecDepth 20000 in
theorem ml_X1_42 : Cond.methodLink RX1 42 yX8_part ∈ bl_tb := bl_in_tb (bl_t4 (List.mem_of_getElem? (i := 235) rfl)) rfl
set_option maxRecDepth 20000 in
theorem ml_X1_48 : Cond.methodLink RX1 48 yX1_costBehindPremiums ∈ bl_tb := bl_in_tb (bl_t4 (List.mem_of_getElem? (i := 237) rfl)) rfl
set_option maxRecDepth 20000 in
theorem ml_X1_52 : Cond.methodLink RX1 52 yX8_chances ∈ bl_tb := bl_in_tb (bl_t5 (List.mem_of_getElem? (i := 1) rfl)) rfl
set_option maxRecDepth 20000 in
theorem ml_X1_56 : Cond.methodLink RX1 56 yX1_index ∈ bl_tb := bl_in_tb (bl_t5 (List.mem_of_getElem? (i := 2) rfl)) rfl
set_option maxRecDepth 20000 in
theorem ml_X1_60 : Cond.methodLink RX1 60 yX8_next ∈ bl_tb := bl_in_tb (bl_t5 (List.mem_of_getElem? (i := 5) rfl)) rfl
set_option maxRecDepth 20000 in
theorem ml_X1_63 : Cond.methodLink RX1 63 yJ9_min_7cf53 ∈ bl_tb := bl_in_tb (bl_t5 (List.mem_of_getElem? (i := 6) rfl)) rfl
set_option maxRecDepth 20000 in
theorem ml_X1_68 : Cond.methodLink RX1 68 yX1_toldCost ∈ bl_tb := bl_in_tb (bl_t5 (List.mem_of_getElem? (i := 7) rfl)) rfl
set_option maxRecDepth 20000 in
theorem ml_X1_76 : Cond.methodLink RX1 76 yJ9_min_f86c9 ∈ bl_tb := bl_in_tb (bl_t5 (List.mem_of_getElem? (i := 11) rfl)) rfl
set_option maxRecDepth 20000 in
theorem ml_X1_72 : Cond.methodLink RX1 72 yX3_chanceCost ∈ bl_tb := bl_in_tb (bl_t5 (List.mem_of_getElem? (i := 14) rfl)) rfl
set_option maxRecDepth 20000 in
theorem ml_L_187 : Cond.methodLink RL 187 yX9_joined ∈ bl_tb := bl_in_tb (bl_t5 (List.mem_of_getElem? (i := 15) rfl)) rfl
set_option maxRecDepth 20000 in
theorem ml_X9_319 : Cond.methodLink RX9 319 yX9_joinedClass ∈ bl_tb := bl_in_tb (bl_t5 (List.mem_of_getElem? (i := 19) rfl)) rfl
set_option maxRecDepth 20000 in
theorem ml_X9_322 : Cond.methodLink RX9 322 yX9_joinedCost ∈ bl_tb := bl_in_tb (bl_t5 (List.mem_of_getElem? (i := 23) rfl)) rfl
set_option maxRecDepth 20000 in
theorem ml_L_191 : Cond.methodLink RL 191 yX9_rebate ∈ bl_tb := bl_in_tb (bl_t5 (List.mem_of_getElem? (i := 27) rfl)) rfl
set_option maxRecDepth 20000 in
theorem ml_L_195 : Cond.methodLink RL 195 yX9_advice ∈ bl_tb := bl_in_tb (bl_t5 (List.mem_of_getElem? (i := 31) rfl)) rfl
set_option maxRecDepth 20000 in
theorem ml_L_199 : Cond.methodLink RL 199 yX9_rest ∈ bl_tb := bl_in_tb (bl_t5 (List.mem_of_getElem? (i := 35) rfl)) rfl
set_option maxRecDepth 20000 in
theorem ml_L_203 : Cond.methodLink RL 203 yX9_were ∈ bl_tb := bl_in_tb (bl_t5 (List.mem_of_getElem? (i := 39) rfl)) rfl
set_option maxRecDepth 20000 in
theorem ml_X9_326 : Cond.methodLink RX9 326 yX9_costWere ∈ bl_tb := bl_in_tb (bl_t5 (List.mem_of_getElem? (i := 43) rfl)) rfl
set_option maxRecDepth 20000 in
theorem ml_L_207 : Cond.methodLink RL 207 yX9_lacking ∈ bl_tb := bl_in_tb (bl_t5 (List.mem_of_getElem? (i := 47) rfl)) rfl
set_option maxRecDepth 20000 in
theorem ml_L_213 : Cond.methodLink RL 213 yX9_oddsFor ∈ bl_tb := bl_in_tb (bl_t5 (List.mem_of_getElem? (i := 51) rfl)) rfl
set_option maxRecDepth 20000 in
theorem ml_L_218 : Cond.methodLink RL 218 yX9_bestOwn ∈ bl_tb := bl_in_tb (bl_t5 (List.mem_of_getElem? (i := 55) rfl)) rfl
set_option maxRecDepth 20000 in
theorem ml_L_222 : Cond.methodLink RL 222 yX9_would ∈ bl_tb := bl_in_tb (bl_t5 (List.mem_of_getElem? (i := 59) rfl)) rfl
set_option maxRecDepth 20000 in
theorem ml_X9_332 : Cond.methodLink RX9 332 yX9_lifeElsewhere ∈ bl_tb := bl_in_tb (bl_t5 (List.mem_of_getElem? (i := 63) rfl)) rfl
set_option maxRecDepth 20000 in
theorem ml_L_226 : Cond.methodLink RL 226 yX9_bestRule ∈ bl_tb := bl_in_tb (bl_t5 (List.mem_of_getElem? (i := 67) rfl)) rfl
set_option maxRecDepth 20000 in
theorem ml_L_230 : Cond.methodLink RL 230 yX9_dearest ∈ bl_tb := bl_in_tb (bl_t5 (List.mem_of_getElem? (i := 71) rfl)) rfl
set_option maxRecDepth 20000 in
theorem ml_L_234 : Cond.methodLink RL 234 yX9_spell ∈ bl_tb := bl_in_tb (bl_t5 (List.mem_of_getElem? (i := 75) rfl)) rfl
set_option maxRecDepth 20000 in
theorem ml_X9_340 : Cond.methodLink RX9 340 yX9_wordOf ∈ bl_tb := bl_in_tb (bl_t5 (List.mem_of_getElem? (i := 79) rfl)) rfl
set_option maxRecDepth 20000 in
theorem ml_X9_344 : Cond.methodLink RX9 344 yX5_putWord ∈ bl_tb := bl_in_tb (bl_t5 (List.mem_of_getElem? (i := 80) rfl)) rfl
set_option maxRecDepth 20000 in
theorem ml_X5_15 : Cond.methodLink RX5 15 yX5_putBlank ∈ bl_tb := bl_in_tb (bl_t5 (List.mem_of_getElem? (i := 84) rfl)) rfl
set_option maxRecDepth 20000 in
theorem ml_X5_28 : Cond.methodLink RX5 28 yX5_put ∈ bl_tb := bl_in_tb (bl_t5 (List.mem_of_getElem? (i := 88) rfl)) rfl
set_option maxRecDepth 20000 in
theorem ml_X5_18 : Cond.methodLink RX5 18 yJ0_length_8abf5 ∈ bl_tb := bl_in_tb (bl_t5 (List.mem_of_getElem? (i := 92) rfl)) rfl
set_option maxRecDepth 20000 in
theorem ml_X5_24 : Cond.methodLink RX5 24 yJ0_charAt_5068e ∈ bl_tb := bl_in_tb (bl_t5 (List.mem_of_getElem? (i := 93) rfl)) rfl
set_option maxRecDepth 20000 in
theorem ml_X9_348 : Cond.methodLink RX9 348 yX5_putNumber ∈ bl_tb := bl_in_tb (bl_t5 (List.mem_of_getElem? (i := 94) rfl)) rfl
set_option maxRecDepth 20000 in
theorem ml_X9_351 : Cond.methodLink RX9 351 yX5_endPhrase ∈ bl_tb := bl_in_tb (bl_t5 (List.mem_of_getElem? (i := 98) rfl)) rfl
set_option maxRecDepth 20000 in
theorem ml_X9_354 : Cond.methodLink RX9 354 yX5_signAt ∈ bl_tb := bl_in_tb (bl_t5 (List.mem_of_getElem? (i := 102) rfl)) rfl
set_option maxRecDepth 20000 in
theorem ml_L_238 : Cond.methodLink RL 238 yX9_report ∈ bl_tb := bl_in_tb (bl_t5 (List.mem_of_getElem? (i := 106) rfl)) rfl
set_option maxRecDepth 20000 in
theorem ml_L_242 : Cond.methodLink RL 242 yX9_count ∈ bl_tb := bl_in_tb (bl_t5 (List.mem_of_getElem? (i := 113) rfl)) rfl
set_option maxRecDepth 20000 in
theorem ml_X9_363 : Cond.methodLink RX9 363 yX8_own ∈ bl_tb := bl_in_tb (bl_t5 (List.mem_of_getElem? (i := 117) rfl)) rfl
set_option maxRecDepth 20000 in
theorem ml_X9_366 : Cond.methodLink RX9 366 yX8_allWeights ∈ bl_tb := bl_in_tb (bl_t5 (List.mem_of_getElem? (i := 118) rfl)) rfl
set_option maxRecDepth 20000 in
theorem ml_L_12 : Cond.methodLink RL 12 yX10_init ∈ bl_tb := bl_in_tb (bl_t5 (List.mem_of_getElem? (i := 121) rfl)) rfl
set_option maxRecDepth 20000 in
theorem ml_X10_59 : Cond.methodLink RX10 59 yX10_starts ∈ bl_tb := bl_in_tb (bl_t5 (List.mem_of_getElem? (i := 125) rfl)) rfl
set_option maxRecDepth 20000 in
theorem ml_L_32 : Cond.methodLink RL 32 yX10_set ∈ bl_tb := bl_in_tb (bl_t5 (List.mem_of_getElem? (i := 213) rfl)) rfl
set_option maxRecDepth 20000 in
theorem ml_X10_84 : Cond.methodLink RX10 84 yX10_isClass ∈ bl_tb := bl_in_tb (bl_t5 (List.mem_of_getElem? (i := 217) rfl)) rfl
set_option maxRecDepth 20000 in
theorem ml_X10_66 : Cond.methodLink RX10 66 yX10_in ∈ bl_tb := bl_in_tb (bl_t5 (List.mem_of_getElem? (i := 221) rfl)) rfl
set_option maxRecDepth 20000 in
theorem ml_X10_90 : Cond.methodLink RX10 90 yX10_becomes ∈ bl_tb := bl_in_tb (bl_t5 (List.mem_of_getElem? (i := 225) rfl)) rfl
set_option maxRecDepth 20000 in
theorem ml_X10_81 : Cond.methodLink RX10 81 yX10_keeps ∈ bl_tb := bl_in_tb (bl_t5 (List.mem_of_getElem? (i := 229) rfl)) rfl
set_option maxRecDepth 20000 in
theorem ml_L_36 : Cond.methodLink RL 36 yX10_sort ∈ bl_tb := bl_in_tb (bl_t5 (List.mem_of_getElem? (i := 233) rfl)) rfl
set_option maxRecDepth 20000 in
theorem ml_X10_93 : Cond.methodLink RX10 93 yX10_isSort ∈ bl_tb := bl_in_tb (bl_t5 (List.mem_of_getElem? (i := 237) rfl)) rfl
set_option maxRecDepth 20000 in
theorem ml_L_41 : Cond.methodLink RL 41 yX10_rule ∈ bl_tb := bl_in_tb (bl_t6 (List.mem_of_getElem? (i := 3) rfl)) rfl
set_option maxRecDepth 20000 in
theorem ml_X10_106 : Cond.methodLink RX10 106 yX10_isRule ∈ bl_tb := bl_in_tb (bl_t6 (List.mem_of_getElem? (i := 7) rfl)) rfl
set_option maxRecDepth 20000 in
theorem ml_L_46 : Cond.methodLink RL 46 yX10_begin ∈ bl_tb := bl_in_tb (bl_t6 (List.mem_of_getElem? (i := 13) rfl)) rfl
set_option maxRecDepth 20000 in
theorem ml_X10_110 : Cond.methodLink RX10 110 yX10_begins ∈ bl_tb := bl_in_tb (bl_t6 (List.mem_of_getElem? (i := 17) rfl)) rfl
set_option maxRecDepth 20000 in
theorem ml_X10_74 : Cond.methodLink RX10 74 yX10_ofClass ∈ bl_tb := bl_in_tb (bl_t6 (List.mem_of_getElem? (i := 21) rfl)) rfl
set_option maxRecDepth 20000 in
theorem ml_L_50 : Cond.methodLink RL 50 yX10_quiet ∈ bl_tb := bl_in_tb (bl_t6 (List.mem_of_getElem? (i := 25) rfl)) rfl
set_option maxRecDepth 20000 in
theorem ml_X10_121 : Cond.methodLink RX10 121 yX10_goesBy ∈ bl_tb := bl_in_tb (bl_t6 (List.mem_of_getElem? (i := 29) rfl)) rfl
set_option maxRecDepth 20000 in
theorem ml_X10_114 : Cond.methodLink RX10 114 yX10_writes ∈ bl_tb := bl_in_tb (bl_t6 (List.mem_of_getElem? (i := 33) rfl)) rfl
set_option maxRecDepth 20000 in
theorem ml_X10_118 : Cond.methodLink RX10 118 yX10_behind ∈ bl_tb := bl_in_tb (bl_t6 (List.mem_of_getElem? (i := 37) rfl)) rfl
set_option maxRecDepth 20000 in
theorem ml_L_55 : Cond.methodLink RL 55 yX10_loss ∈ bl_tb := bl_in_tb (bl_t6 (List.mem_of_getElem? (i := 41) rfl)) rfl
set_option maxRecDepth 20000 in
theorem ml_X10_127 : Cond.methodLink RX10 127 yX10_loses ∈ bl_tb := bl_in_tb (bl_t6 (List.mem_of_getElem? (i := 45) rfl)) rfl
set_option maxRecDepth 20000 in
theorem ml_X10_124 : Cond.methodLink RX10 124 yX10_toldPays ∈ bl_tb := bl_in_tb (bl_t6 (List.mem_of_getElem? (i := 49) rfl)) rfl
set_option maxRecDepth 20000 in
theorem ml_X10_78 : Cond.methodLink RX10 78 yX10_size ∈ bl_tb := bl_in_tb (bl_t6 (List.mem_of_getElem? (i := 53) rfl)) rfl
set_option maxRecDepth 20000 in
theorem ml_L_60 : Cond.methodLink RL 60 yX10_live ∈ bl_tb := bl_in_tb (bl_t6 (List.mem_of_getElem? (i := 57) rfl)) rfl
set_option maxRecDepth 20000 in
theorem ml_X10_165 : Cond.methodLink RX10 165 yX10_isLived ∈ bl_tb := bl_in_tb (bl_t6 (List.mem_of_getElem? (i := 61) rfl)) rfl
set_option maxRecDepth 20000 in
theorem ml_X10_169 : Cond.methodLink RX10 169 yX10_allPaid ∈ bl_tb := bl_in_tb (bl_t6 (List.mem_of_getElem? (i := 65) rfl)) rfl
set_option maxRecDepth 20000 in
theorem ml_X10_172 : Cond.methodLink RX10 172 yX10_lives ∈ bl_tb := bl_in_tb (bl_t6 (List.mem_of_getElem? (i := 69) rfl)) rfl
set_option maxRecDepth 20000 in
theorem ml_X10_142 : Cond.methodLink RX10 142 yX10_lays ∈ bl_tb := bl_in_tb (bl_t6 (List.mem_of_getElem? (i := 73) rfl)) rfl
set_option maxRecDepth 20000 in
theorem ml_X10_223 : Cond.methodLink RX10 223 yX10_laysYears ∈ bl_tb := bl_in_tb (bl_t6 (List.mem_of_getElem? (i := 77) rfl)) rfl
set_option maxRecDepth 20000 in
theorem ml_X10_152 : Cond.methodLink RX10 152 yX10_laysChances ∈ bl_tb := bl_in_tb (bl_t6 (List.mem_of_getElem? (i := 81) rfl)) rfl
set_option maxRecDepth 20000 in
theorem ml_X10_210 : Cond.methodLink RX10 210 yX10_costAt ∈ bl_tb := bl_in_tb (bl_t6 (List.mem_of_getElem? (i := 85) rfl)) rfl
set_option maxRecDepth 20000 in
theorem ml_X10_181 : Cond.methodLink RX10 181 yX10_slot ∈ bl_tb := bl_in_tb (bl_t6 (List.mem_of_getElem? (i := 89) rfl)) rfl
set_option maxRecDepth 20000 in
theorem ml_X10_217 : Cond.methodLink RX10 217 yX10_chanceCost ∈ bl_tb := bl_in_tb (bl_t6 (List.mem_of_getElem? (i := 92) rfl)) rfl
set_option maxRecDepth 20000 in
theorem ml_X10_203 : Cond.methodLink RX10 203 yX10_lossCost ∈ bl_tb := bl_in_tb (bl_t6 (List.mem_of_getElem? (i := 97) rfl)) rfl
set_option maxRecDepth 20000 in
theorem ml_X10_188 : Cond.methodLink RX10 188 yX10_toldCost ∈ bl_tb := bl_in_tb (bl_t6 (List.mem_of_getElem? (i := 101) rfl)) rfl
set_option maxRecDepth 20000 in
theorem ml_X10_185 : Cond.methodLink RX10 185 yX10_borneCost ∈ bl_tb := bl_in_tb (bl_t6 (List.mem_of_getElem? (i := 106) rfl)) rfl
set_option maxRecDepth 20000 in
theorem ml_X10_206 : Cond.methodLink RX10 206 yX10_greater ∈ bl_tb := bl_in_tb (bl_t6 (List.mem_of_getElem? (i := 110) rfl)) rfl
set_option maxRecDepth 20000 in
theorem ml_X10_135 : Cond.methodLink RX10 135 yX10_weights ∈ bl_tb := bl_in_tb (bl_t6 (List.mem_of_getElem? (i := 113) rfl)) rfl
set_option maxRecDepth 20000 in
theorem ml_X10_70 : Cond.methodLink RX10 70 yX10_weight ∈ bl_tb := bl_in_tb (bl_t6 (List.mem_of_getElem? (i := 117) rfl)) rfl
set_option maxRecDepth 20000 in
theorem ml_X10_146 : Cond.methodLink RX10 146 yX10_isGuarded ∈ bl_tb := bl_in_tb (bl_t6 (List.mem_of_getElem? (i := 122) rfl)) rfl
set_option maxRecDepth 20000 in
theorem ml_X10_139 : Cond.methodLink RX10 139 yX10_draws ∈ bl_tb := bl_in_tb (bl_t6 (List.mem_of_getElem? (i := 126) rfl)) rfl
set_option maxRecDepth 20000 in
theorem ml_X10_149 : Cond.methodLink RX10 149 yX10_sortDrawn ∈ bl_tb := bl_in_tb (bl_t6 (List.mem_of_getElem? (i := 131) rfl)) rfl
set_option maxRecDepth 20000 in
theorem ml_X10_156 : Cond.methodLink RX10 156 yX10_countedNow ∈ bl_tb := bl_in_tb (bl_t6 (List.mem_of_getElem? (i := 135) rfl)) rfl
set_option maxRecDepth 20000 in
theorem ml_X10_159 : Cond.methodLink RX10 159 yX10_gainOf ∈ bl_tb := bl_in_tb (bl_t6 (List.mem_of_getElem? (i := 139) rfl)) rfl
set_option maxRecDepth 20000 in
theorem ml_L_64 : Cond.methodLink RL 64 yX10_come ∈ bl_tb := bl_in_tb (bl_t6 (List.mem_of_getElem? (i := 143) rfl)) rfl
set_option maxRecDepth 20000 in
theorem ml_L_68 : Cond.methodLink RL 68 yX10_drop ∈ bl_tb := bl_in_tb (bl_t6 (List.mem_of_getElem? (i := 147) rfl)) rfl
set_option maxRecDepth 20000 in
theorem ml_X10_175 : Cond.methodLink RX10 175 yX10_takesOut ∈ bl_tb := bl_in_tb (bl_t6 (List.mem_of_getElem? (i := 151) rfl)) rfl
set_option maxRecDepth 20000 in
theorem ml_L_72 : Cond.methodLink RL 72 yX10_move ∈ bl_tb := bl_in_tb (bl_t6 (List.mem_of_getElem? (i := 155) rfl)) rfl
set_option maxRecDepth 20000 in
theorem ml_L_76 : Cond.methodLink RL 76 yX10_anew ∈ bl_tb := bl_in_tb (bl_t6 (List.mem_of_getElem? (i := 159) rfl)) rfl
set_option maxRecDepth 20000 in
theorem ml_L_80 : Cond.methodLink RL 80 yX10_undo ∈ bl_tb := bl_in_tb (bl_t6 (List.mem_of_getElem? (i := 163) rfl)) rfl
set_option maxRecDepth 20000 in
theorem ml_L_109 : Cond.methodLink RL 109 yX10_cost ∈ bl_tb := bl_in_tb (bl_t6 (List.mem_of_getElem? (i := 167) rfl)) rfl
set_option maxRecDepth 20000 in
theorem ml_X10_227 : Cond.methodLink RX10 227 yX10_areYears ∈ bl_tb := bl_in_tb (bl_t6 (List.mem_of_getElem? (i := 171) rfl)) rfl
set_option maxRecDepth 20000 in
theorem ml_X10_230 : Cond.methodLink RX10 230 yX10_bestCost ∈ bl_tb := bl_in_tb (bl_t6 (List.mem_of_getElem? (i := 174) rfl)) rfl
set_option maxRecDepth 20000 in
theorem ml_L_113 : Cond.methodLink RL 113 yX10_guards ∈ bl_tb := bl_in_tb (bl_t6 (List.mem_of_getElem? (i := 179) rfl)) rfl
set_option maxRecDepth 20000 in
theorem ml_L_118 : Cond.methodLink RL 118 yX10_ahead ∈ bl_tb := bl_in_tb (bl_t6 (List.mem_of_getElem? (i := 183) rfl)) rfl
set_option maxRecDepth 20000 in
theorem ml_X10_237 : Cond.methodLink RX10 237 yX10_isChance ∈ bl_tb := bl_in_tb (bl_t6 (List.mem_of_getElem? (i := 187) rfl)) rfl
set_option maxRecDepth 20000 in
theorem ml_L_123 : Cond.methodLink RL 123 yX10_least ∈ bl_tb := bl_in_tb (bl_t6 (List.mem_of_getElem? (i := 192) rfl)) rfl
set_option maxRecDepth 20000 in
theorem ml_X10_241 : Cond.methodLink RX10 241 yX10_leastSize ∈ bl_tb := bl_in_tb (bl_t6 (List.mem_of_getElem? (i := 196) rfl)) rfl
set_option maxRecDepth 20000 in
theorem ml_L_127 : Cond.methodLink RL 127 yX10_tells ∈ bl_tb := bl_in_tb (bl_t6 (List.mem_of_getElem? (i := 200) rfl)) rfl
set_option maxRecDepth 20000 in
theorem ml_L_132 : Cond.methodLink RL 132 yX10_gain ∈ bl_tb := bl_in_tb (bl_t6 (List.mem_of_getElem? (i := 204) rfl)) rfl
set_option maxRecDepth 20000 in
theorem ml_L_136 : Cond.methodLink RL 136 yX10_patience ∈ bl_tb := bl_in_tb (bl_t6 (List.mem_of_getElem? (i := 208) rfl)) rfl
set_option maxRecDepth 20000 in
theorem ml_L_140 : Cond.methodLink RL 140 yX10_worst ∈ bl_tb := bl_in_tb (bl_t6 (List.mem_of_getElem? (i := 212) rfl)) rfl
set_option maxRecDepth 20000 in
theorem ml_L_144 : Cond.methodLink RL 144 yX10_bare ∈ bl_tb := bl_in_tb (bl_t6 (List.mem_of_getElem? (i := 216) rfl)) rfl
set_option maxRecDepth 20000 in
theorem ml_X10_244 : Cond.methodLink RX10 244 yX10_bareCost ∈ bl_tb := bl_in_tb (bl_t6 (List.mem_of_getElem? (i := 220) rfl)) rfl
set_option maxRecDepth 20000 in
theorem ml_L_149 : Cond.methodLink RL 149 yX10_by ∈ bl_tb := bl_in_tb (bl_t6 (List.mem_of_getElem? (i := 224) rfl)) rfl
set_option maxRecDepth 20000 in
theorem ml_L_153 : Cond.methodLink RL 153 yX10_bestLimit ∈ bl_tb := bl_in_tb (bl_t6 (List.mem_of_getElem? (i := 228) rfl)) rfl
set_option maxRecDepth 20000 in
theorem ml_L_158 : Cond.methodLink RL 158 yX10_worth ∈ bl_tb := bl_in_tb (bl_t6 (List.mem_of_getElem? (i := 232) rfl)) rfl
set_option maxRecDepth 20000 in
theorem ml_L_162 : Cond.methodLink RL 162 yX10_cheapest ∈ bl_tb := bl_in_tb (bl_t6 (List.mem_of_getElem? (i := 236) rfl)) rfl
set_option maxRecDepth 20000 in
theorem ml_L_166 : Cond.methodLink RL 166 yX10_reach ∈ bl_tb := bl_in_tb (bl_t7 (List.mem_of_getElem? (i := 0) rfl)) rfl
set_option maxRecDepth 20000 in
theorem ml_L_170 : Cond.methodLink RL 170 yX10_years ∈ bl_tb := bl_in_tb (bl_t7 (List.mem_of_getElem? (i := 4) rfl)) rfl
set_option maxRecDepth 20000 in
theorem ml_L_174 : Cond.methodLink RL 174 yX10_ways ∈ bl_tb := bl_in_tb (bl_t7 (List.mem_of_getElem? (i := 8) rfl)) rfl
set_option maxRecDepth 20000 in
theorem ml_X10_251 : Cond.methodLink RX10 251 yX10_waysOf ∈ bl_tb := bl_in_tb (bl_t7 (List.mem_of_getElem? (i := 12) rfl)) rfl
set_option maxRecDepth 20000 in
theorem ml_X10_247 : Cond.methodLink RX10 247 yX10_power ∈ bl_tb := bl_in_tb (bl_t7 (List.mem_of_getElem? (i := 16) rfl)) rfl
set_option maxRecDepth 20000 in
theorem ml_L_178 : Cond.methodLink RL 178 yX10_moves ∈ bl_tb := bl_in_tb (bl_t7 (List.mem_of_getElem? (i := 19) rfl)) rfl
set_option maxRecDepth 20000 in
theorem ml_X10_255 : Cond.methodLink RX10 255 yX10_movesOf ∈ bl_tb := bl_in_tb (bl_t7 (List.mem_of_getElem? (i := 23) rfl)) rfl
set_option maxRecDepth 20000 in
theorem ml_L_182 : Cond.methodLink RL 182 yX10_spread ∈ bl_tb := bl_in_tb (bl_t7 (List.mem_of_getElem? (i := 27) rfl)) rfl
set_option maxRecDepth 20000 in
theorem ml_L_186 : Cond.methodLink RL 186 yX10_shared ∈ bl_tb := bl_in_tb (bl_t7 (List.mem_of_getElem? (i := 31) rfl)) rfl
set_option maxRecDepth 20000 in
theorem ml_X10_270 : Cond.methodLink RX10 270 yX10_bothYear ∈ bl_tb := bl_in_tb (bl_t7 (List.mem_of_getElem? (i := 35) rfl)) rfl
set_option maxRecDepth 20000 in
theorem ml_X10_258 : Cond.methodLink RX10 258 yX10_slotOf ∈ bl_tb := bl_in_tb (bl_t7 (List.mem_of_getElem? (i := 39) rfl)) rfl
set_option maxRecDepth 20000 in
theorem ml_X10_267 : Cond.methodLink RX10 267 yX10_bothChance ∈ bl_tb := bl_in_tb (bl_t7 (List.mem_of_getElem? (i := 42) rfl)) rfl
set_option maxRecDepth 20000 in
theorem ml_X10_261 : Cond.methodLink RX10 261 yX10_more ∈ bl_tb := bl_in_tb (bl_t7 (List.mem_of_getElem? (i := 46) rfl)) rfl
set_option maxRecDepth 20000 in
theorem ml_X10_264 : Cond.methodLink RX10 264 yX10_lesser ∈ bl_tb := bl_in_tb (bl_t7 (List.mem_of_getElem? (i := 49) rfl)) rfl
set_option maxRecDepth 20000 in
theorem ml_L_190 : Cond.methodLink RL 190 yX10_joined ∈ bl_tb := bl_in_tb (bl_t7 (List.mem_of_getElem? (i := 52) rfl)) rfl
set_option maxRecDepth 20000 in
theorem ml_X10_275 : Cond.methodLink RX10 275 yX10_joinedCost ∈ bl_tb := bl_in_tb (bl_t7 (List.mem_of_getElem? (i := 57) rfl)) rfl
set_option maxRecDepth 20000 in
theorem ml_L_194 : Cond.methodLink RL 194 yX10_rebate ∈ bl_tb := bl_in_tb (bl_t7 (List.mem_of_getElem? (i := 61) rfl)) rfl
set_option maxRecDepth 20000 in
theorem ml_L_198 : Cond.methodLink RL 198 yX10_advice ∈ bl_tb := bl_in_tb (bl_t7 (List.mem_of_getElem? (i := 65) rfl)) rfl
set_option maxRecDepth 20000 in
theorem ml_L_202 : Cond.methodLink RL 202 yX10_rest ∈ bl_tb := bl_in_tb (bl_t7 (List.mem_of_getElem? (i := 69) rfl)) rfl
set_option maxRecDepth 20000 in
theorem ml_L_206 : Cond.methodLink RL 206 yX10_were ∈ bl_tb := bl_in_tb (bl_t7 (List.mem_of_getElem? (i := 73) rfl)) rfl
set_option maxRecDepth 20000 in
theorem ml_L_210 : Cond.methodLink RL 210 yX10_lacking ∈ bl_tb := bl_in_tb (bl_t7 (List.mem_of_getElem? (i := 77) rfl)) rfl
set_option maxRecDepth 20000 in
theorem ml_X10_278 : Cond.methodLink RX10 278 yX10_copies ∈ bl_tb := bl_in_tb (bl_t7 (List.mem_of_getElem? (i := 81) rfl)) rfl
set_option maxRecDepth 20000 in
theorem ml_L_217 : Cond.methodLink RL 217 yX10_oddsFor ∈ bl_tb := bl_in_tb (bl_t7 (List.mem_of_getElem? (i := 84) rfl)) rfl
set_option maxRecDepth 20000 in
theorem ml_L_221 : Cond.methodLink RL 221 yX10_bestOwn ∈ bl_tb := bl_in_tb (bl_t7 (List.mem_of_getElem? (i := 88) rfl)) rfl
set_option maxRecDepth 20000 in
theorem ml_L_225 : Cond.methodLink RL 225 yX10_would ∈ bl_tb := bl_in_tb (bl_t7 (List.mem_of_getElem? (i := 93) rfl)) rfl
set_option maxRecDepth 20000 in
theorem ml_X10_284 : Cond.methodLink RX10 284 yX10_tries ∈ bl_tb := bl_in_tb (bl_t7 (List.mem_of_getElem? (i := 97) rfl)) rfl
set_option maxRecDepth 20000 in
theorem ml_L_229 : Cond.methodLink RL 229 yX10_bestRule ∈ bl_tb := bl_in_tb (bl_t7 (List.mem_of_getElem? (i := 101) rfl)) rfl
set_option maxRecDepth 20000 in
theorem ml_L_233 : Cond.methodLink RL 233 yX10_dearest ∈ bl_tb := bl_in_tb (bl_t7 (List.mem_of_getElem? (i := 105) rfl)) rfl
set_option maxRecDepth 20000 in
theorem ml_L_84 : Cond.methodLink RL 84 yX10_of ∈ bl_tb := bl_in_tb (bl_t7 (List.mem_of_getElem? (i := 109) rfl)) rfl
set_option maxRecDepth 20000 in
theorem ml_L_88 : Cond.methodLink RL 88 yX10_ofSort ∈ bl_tb := bl_in_tb (bl_t7 (List.mem_of_getElem? (i := 113) rfl)) rfl
set_option maxRecDepth 20000 in
theorem ml_L_92 : Cond.methodLink RL 92 yX10_life ∈ bl_tb := bl_in_tb (bl_t7 (List.mem_of_getElem? (i := 117) rfl)) rfl
set_option maxRecDepth 20000 in
theorem ml_L_96 : Cond.methodLink RL 96 yX10_book ∈ bl_tb := bl_in_tb (bl_t7 (List.mem_of_getElem? (i := 121) rfl)) rfl
set_option maxRecDepth 20000 in
theorem ml_X10_288 : Cond.methodLink RX10 288 yX10_entry ∈ bl_tb := bl_in_tb (bl_t7 (List.mem_of_getElem? (i := 125) rfl)) rfl
set_option maxRecDepth 20000 in
theorem ml_L_100 : Cond.methodLink RL 100 yX10_ledger ∈ bl_tb := bl_in_tb (bl_t7 (List.mem_of_getElem? (i := 129) rfl)) rfl
set_option maxRecDepth 20000 in
theorem ml_L_104 : Cond.methodLink RL 104 yX10_mean ∈ bl_tb := bl_in_tb (bl_t7 (List.mem_of_getElem? (i := 133) rfl)) rfl
set_option maxRecDepth 20000 in
theorem ml_L_237 : Cond.methodLink RL 237 yX10_spell ∈ bl_tb := bl_in_tb (bl_t7 (List.mem_of_getElem? (i := 137) rfl)) rfl
set_option maxRecDepth 20000 in
theorem ml_X10_306 : Cond.methodLink RX10 306 yX10_writesRow ∈ bl_tb := bl_in_tb (bl_t7 (List.mem_of_getElem? (i := 141) rfl)) rfl
set_option maxRecDepth 20000 in
theorem ml_X10_300 : Cond.methodLink RX10 300 yX10_writesWord ∈ bl_tb := bl_in_tb (bl_t7 (List.mem_of_getElem? (i := 145) rfl)) rfl
set_option maxRecDepth 20000 in
theorem ml_X10_294 : Cond.methodLink RX10 294 yX10_wordFrom ∈ bl_tb := bl_in_tb (bl_t7 (List.mem_of_getElem? (i := 149) rfl)) rfl
set_option maxRecDepth 20000 in
theorem ml_X10_297 : Cond.methodLink RX10 297 yX10_writesSign ∈ bl_tb := bl_in_tb (bl_t7 (List.mem_of_getElem? (i := 153) rfl)) rfl
set_option maxRecDepth 20000 in
theorem ml_X10_303 : Cond.methodLink RX10 303 yX10_writesNumber ∈ bl_tb := bl_in_tb (bl_t7 (List.mem_of_getElem? (i := 157) rfl)) rfl
set_option maxRecDepth 20000 in
theorem ml_X10_310 : Cond.methodLink RX10 310 yX10_toldText ∈ bl_tb := bl_in_tb (bl_t7 (List.mem_of_getElem? (i := 161) rfl)) rfl
set_option maxRecDepth 20000 in
theorem ml_L_241 : Cond.methodLink RL 241 yX10_report ∈ bl_tb := bl_in_tb (bl_t7 (List.mem_of_getElem? (i := 165) rfl)) rfl
set_option maxRecDepth 20000 in
theorem ml_X10_313 : Cond.methodLink RX10 313 yX10_writesAdvice ∈ bl_tb := bl_in_tb (bl_t7 (List.mem_of_getElem? (i := 169) rfl)) rfl
set_option maxRecDepth 20000 in
theorem ml_L_245 : Cond.methodLink RL 245 yX10_count ∈ bl_tb := bl_in_tb (bl_t7 (List.mem_of_getElem? (i := 173) rfl)) rfl
set_option maxRecDepth 20000 in
theorem ml_L_17 : Cond.methodLink RL 17 yX10_feed ∈ bl_tb := bl_in_tb (bl_t7 (List.mem_of_getElem? (i := 177) rfl)) rfl
set_option maxRecDepth 20000 in
theorem ml_L_22 : Cond.methodLink RL 22 yX10_back ∈ bl_tb := bl_in_tb (bl_t7 (List.mem_of_getElem? (i := 181) rfl)) rfl
set_option maxRecDepth 20000 in
theorem ml_L_27 : Cond.methodLink RL 27 yX10_text ∈ bl_tb := bl_in_tb (bl_t7 (List.mem_of_getElem? (i := 185) rfl)) rfl
set_option maxRecDepth 20000 in
theorem ml_X10_345 : Cond.methodLink RX10 345 yX10_goesOn ∈ bl_tb := bl_in_tb (bl_t7 (List.mem_of_getElem? (i := 189) rfl)) rfl
set_option maxRecDepth 20000 in
theorem ml_X10_325 : Cond.methodLink RX10 325 yX10_here ∈ bl_tb := bl_in_tb (bl_t7 (List.mem_of_getElem? (i := 193) rfl)) rfl
set_option maxRecDepth 20000 in
theorem ml_X10_363 : Cond.methodLink RX10 363 yX10_readsOne ∈ bl_tb := bl_in_tb (bl_t7 (List.mem_of_getElem? (i := 201) rfl)) rfl
set_option maxRecDepth 20000 in
theorem ml_X10_354 : Cond.methodLink RX10 354 yX10_takesWord ∈ bl_tb := bl_in_tb (bl_t7 (List.mem_of_getElem? (i := 205) rfl)) rfl
set_option maxRecDepth 20000 in
theorem ml_X10_357 : Cond.methodLink RX10 357 yX10_readsClass ∈ bl_tb := bl_in_tb (bl_t7 (List.mem_of_getElem? (i := 209) rfl)) rfl
set_option maxRecDepth 20000 in
theorem ml_X10_348 : Cond.methodLink RX10 348 yX10_isRoom ∈ bl_tb := bl_in_tb (bl_t7 (List.mem_of_getElem? (i := 213) rfl)) rfl
set_option maxRecDepth 20000 in
theorem ml_X10_351 : Cond.methodLink RX10 351 yX10_needsNumber ∈ bl_tb := bl_in_tb (bl_t7 (List.mem_of_getElem? (i := 217) rfl)) rfl
set_option maxRecDepth 20000 in
theorem ml_X10_360 : Cond.methodLink RX10 360 yX10_readsLoss ∈ bl_tb := bl_in_tb (bl_t7 (List.mem_of_getElem? (i := 221) rfl)) rfl
set_option maxRecDepth 20000 in
theorem ml_X10_366 : Cond.methodLink RX10 366 yX10_looksOver ∈ bl_tb := bl_in_tb (bl_t7 (List.mem_of_getElem? (i := 225) rfl)) rfl
set_option maxRecDepth 20000 in
theorem ac_X8_24 : bl_acp RX8 24 := ⟨bl_in_tb (bl_t1 (List.mem_of_getElem? (i := 40) rfl)) rfl, bl_in_tb (bl_t1 (List.mem_of_getElem? (i := 42) rfl)) rfl, bl_in_tb (bl_t1 (List.mem_of_getElem? (i := 41) rfl)) rfl, bl_in_tb (bl_t1 (List.mem_of_getElem? (i := 4) rfl)) rfl⟩
set_option maxRecDepth 20000 in
theorem ac_X7_94 : bl_acp RX7 94 := ⟨bl_in_tb (bl_t3 (List.mem_of_getElem? (i := 10) rfl)) rfl, bl_in_tb (bl_t1 (List.mem_of_getElem? (i := 42) rfl)) rfl, bl_in_tb (bl_t1 (List.mem_of_getElem? (i := 41) rfl)) rfl, bl_in_tb (bl_t1 (List.mem_of_getElem? (i := 4) rfl)) rfl⟩
set_option maxRecDepth 20000 in
theorem ac_X2_62 : bl_acp RX2 62 := ⟨bl_in_tb (bl_t3 (List.mem_of_getElem? (i := 80) rfl)) rfl, bl_in_tb (bl_t1 (List.mem_of_getElem? (i := 42) rfl)) rfl, bl_in_tb (bl_t1 (List.mem_of_getElem? (i := 41) rfl)) rfl, bl_in_tb (bl_t1 (List.mem_of_getElem? (i := 4) rfl)) rfl⟩
set_option maxRecDepth 20000 in
theorem ac_X9_391 : bl_acp RX9 391 := ⟨bl_in_tb (bl_t4 (List.mem_of_getElem? (i := 221) rfl)) rfl, bl_in_tb (bl_t1 (List.mem_of_getElem? (i := 42) rfl)) rfl, bl_in_tb (bl_t1 (List.mem_of_getElem? (i := 41) rfl)) rfl, bl_in_tb (bl_t1 (List.mem_of_getElem? (i := 4) rfl)) rfl⟩
set_option maxRecDepth 20000 in
theorem mm_X7_83 : bl_Mmini RX7 83 := ⟨bl_in_tb (bl_t2 (List.mem_of_getElem? (i := 239) rfl)) rfl, bl_in_tb (bl_t3 (List.mem_of_getElem? (i := 0) rfl)) rfl, bl_in_tb (bl_t1 (List.mem_of_getElem? (i := 17) rfl)) rfl, bl_in_tb (bl_t3 (List.mem_of_getElem? (i := 1) rfl)) rfl⟩
set_option maxRecDepth 20000 in
theorem mm_X8_37 : bl_Mmini RX8 37 := ⟨bl_in_tb (bl_t3 (List.mem_of_getElem? (i := 27) rfl)) rfl, bl_in_tb (bl_t3 (List.mem_of_getElem? (i := 0) rfl)) rfl, bl_in_tb (bl_t1 (List.mem_of_getElem? (i := 17) rfl)) rfl, bl_in_tb (bl_t3 (List.mem_of_getElem? (i := 1) rfl)) rfl⟩
set_option maxRecDepth 20000 in
theorem mm_X6_39 : bl_Mmini RX6 39 := ⟨bl_in_tb (bl_t3 (List.mem_of_getElem? (i := 81) rfl)) rfl, bl_in_tb (bl_t3 (List.mem_of_getElem? (i := 0) rfl)) rfl, bl_in_tb (bl_t1 (List.mem_of_getElem? (i := 17) rfl)) rfl, bl_in_tb (bl_t3 (List.mem_of_getElem? (i := 1) rfl)) rfl⟩
set_option maxRecDepth 20000 in
theorem mm_X4_90 : bl_Mmini RX4 90 := ⟨bl_in_tb (bl_t3 (List.mem_of_getElem? (i := 210) rfl)) rfl, bl_in_tb (bl_t3 (List.mem_of_getElem? (i := 0) rfl)) rfl, bl_in_tb (bl_t1 (List.mem_of_getElem? (i := 17) rfl)) rfl, bl_in_tb (bl_t3 (List.mem_of_getElem? (i := 1) rfl)) rfl⟩
set_option maxRecDepth 20000 in
theorem mm_X3_64 : bl_Mmaxl RX3 64 := ⟨bl_in_tb (bl_t3 (List.mem_of_getElem? (i := 223) rfl)) rfl, bl_in_tb (bl_t3 (List.mem_of_getElem? (i := 224) rfl)) rfl, bl_in_tb (bl_t1 (List.mem_of_getElem? (i := 17) rfl)) rfl, bl_in_tb (bl_t3 (List.mem_of_getElem? (i := 225) rfl)) rfl⟩
set_option maxRecDepth 20000 in
theorem mm_X9_243 : bl_Mmini RX9 243 := ⟨bl_in_tb (bl_t4 (List.mem_of_getElem? (i := 27) rfl)) rfl, bl_in_tb (bl_t3 (List.mem_of_getElem? (i := 0) rfl)) rfl, bl_in_tb (bl_t1 (List.mem_of_getElem? (i := 17) rfl)) rfl, bl_in_tb (bl_t3 (List.mem_of_getElem? (i := 1) rfl)) rfl⟩
set_option maxRecDepth 20000 in
theorem mm_X9_376 : bl_Mmaxi RX9 376 := ⟨bl_in_tb (bl_t4 (List.mem_of_getElem? (i := 99) rfl)) rfl, bl_in_tb (bl_t4 (List.mem_of_getElem? (i := 100) rfl)) rfl, bl_in_tb (bl_t1 (List.mem_of_getElem? (i := 17) rfl)) rfl, bl_in_tb (bl_t4 (List.mem_of_getElem? (i := 101) rfl)) rfl⟩
set_option maxRecDepth 20000 in
theorem mm_X1_63 : bl_Mmini RX1 63 := ⟨bl_in_tb (bl_t5 (List.mem_of_getElem? (i := 6) rfl)) rfl, bl_in_tb (bl_t3 (List.mem_of_getElem? (i := 0) rfl)) rfl, bl_in_tb (bl_t1 (List.mem_of_getElem? (i := 17) rfl)) rfl, bl_in_tb (bl_t3 (List.mem_of_getElem? (i := 1) rfl)) rfl⟩
set_option maxRecDepth 20000 in
theorem mm_X1_76 : bl_Mminl RX1 76 := ⟨bl_in_tb (bl_t5 (List.mem_of_getElem? (i := 11) rfl)) rfl, bl_in_tb (bl_t5 (List.mem_of_getElem? (i := 12) rfl)) rfl, bl_in_tb (bl_t1 (List.mem_of_getElem? (i := 17) rfl)) rfl, bl_in_tb (bl_t5 (List.mem_of_getElem? (i := 13) rfl)) rfl⟩
set_option maxRecDepth 20000 in
theorem kl_X3_52 : Cond.constantLong RX3 52 (1000) ∈ bl_tb := bl_in_tb (bl_t3 (List.mem_of_getElem? (i := 200) rfl)) rfl
set_option maxRecDepth 20000 in
theorem kl_X3_58 : Cond.constantLong RX3 58 (12) ∈ bl_tb := bl_in_tb (bl_t3 (List.mem_of_getElem? (i := 218) rfl)) rfl
set_option maxRecDepth 20000 in
theorem kl_X4_116 : Cond.constantLong RX4 116 (1000) ∈ bl_tb := bl_in_tb (bl_t3 (List.mem_of_getElem? (i := 230) rfl)) rfl
set_option maxRecDepth 20000 in
theorem kl_X4_123 : Cond.constantLong RX4 123 (100) ∈ bl_tb := bl_in_tb (bl_t3 (List.mem_of_getElem? (i := 232) rfl)) rfl
set_option maxRecDepth 20000 in
theorem kl_X9_254 : Cond.constantLong RX9 254 (-1) ∈ bl_tb := bl_in_tb (bl_t4 (List.mem_of_getElem? (i := 110) rfl)) rfl
set_option maxRecDepth 20000 in
theorem kl_X4_118 : Cond.constantLong RX4 118 (9999) ∈ bl_tb := bl_in_tb (bl_t4 (List.mem_of_getElem? (i := 142) rfl)) rfl
set_option maxRecDepth 20000 in
theorem kl_X9_289 : Cond.constantLong RX9 289 (-9223372036854775808) ∈ bl_tb := bl_in_tb (bl_t4 (List.mem_of_getElem? (i := 151) rfl)) rfl
set_option maxRecDepth 20000 in
theorem kl_X1_46 : Cond.constantLong RX1 46 (1000) ∈ bl_tb := bl_in_tb (bl_t4 (List.mem_of_getElem? (i := 236) rfl)) rfl
set_option maxRecDepth 20000 in
theorem kl_X10_88 : Cond.constantLong RX10 88 (4) ∈ bl_tb := bl_in_tb (bl_t5 (List.mem_of_getElem? (i := 224) rfl)) rfl
set_option maxRecDepth 20000 in
theorem kl_X10_96 : Cond.constantLong RX10 96 (999) ∈ bl_tb := bl_in_tb (bl_t6 (List.mem_of_getElem? (i := 1) rfl)) rfl
set_option maxRecDepth 20000 in
theorem kl_X10_98 : Cond.constantLong RX10 98 (9) ∈ bl_tb := bl_in_tb (bl_t6 (List.mem_of_getElem? (i := 2) rfl)) rfl
set_option maxRecDepth 20000 in
theorem kl_X10_100 : Cond.constantLong RX10 100 (3) ∈ bl_tb := bl_in_tb (bl_t6 (List.mem_of_getElem? (i := 10) rfl)) rfl
set_option maxRecDepth 20000 in
theorem kl_X10_102 : Cond.constantLong RX10 102 (12) ∈ bl_tb := bl_in_tb (bl_t6 (List.mem_of_getElem? (i := 11) rfl)) rfl
set_option maxRecDepth 20000 in
theorem kl_X10_104 : Cond.constantLong RX10 104 (99) ∈ bl_tb := bl_in_tb (bl_t6 (List.mem_of_getElem? (i := 12) rfl)) rfl
set_option maxRecDepth 20000 in
theorem kl_X10_163 : Cond.constantLong RX10 163 (20) ∈ bl_tb := bl_in_tb (bl_t6 (List.mem_of_getElem? (i := 64) rfl)) rfl
set_option maxRecDepth 20000 in
theorem kl_X10_201 : Cond.constantLong RX10 201 (-9223372036854775808) ∈ bl_tb := bl_in_tb (bl_t6 (List.mem_of_getElem? (i := 96) rfl)) rfl
set_option maxRecDepth 20000 in
theorem kl_X10_179 : Cond.constantLong RX10 179 (1000) ∈ bl_tb := bl_in_tb (bl_t6 (List.mem_of_getElem? (i := 105) rfl)) rfl
set_option maxRecDepth 20000 in
theorem kl_X10_221 : Cond.constantLong RX10 221 (100) ∈ bl_tb := bl_in_tb (bl_t6 (List.mem_of_getElem? (i := 121) rfl)) rfl
set_option maxRecDepth 20000 in
theorem kl_X10_233 : Cond.constantLong RX10 233 (-1) ∈ bl_tb := bl_in_tb (bl_t6 (List.mem_of_getElem? (i := 178) rfl)) rfl
set_option maxRecDepth 20000 in
theorem kl_X10_235 : Cond.constantLong RX10 235 (2) ∈ bl_tb := bl_in_tb (bl_t6 (List.mem_of_getElem? (i := 191) rfl)) rfl
set_option maxRecDepth 20000 in
theorem kl_X10_273 : Cond.constantLong RX10 273 (50) ∈ bl_tb := bl_in_tb (bl_t7 (List.mem_of_getElem? (i := 56) rfl)) rfl
set_option maxRecDepth 20000 in
theorem kl_X10_282 : Cond.constantLong RX10 282 (9999) ∈ bl_tb := bl_in_tb (bl_t7 (List.mem_of_getElem? (i := 92) rfl)) rfl
set_option maxRecDepth 20000 in
theorem kl_X10_331 : Cond.constantLong RX10 331 (97) ∈ bl_tb := bl_in_tb (bl_t7 (List.mem_of_getElem? (i := 197) rfl)) rfl
set_option maxRecDepth 20000 in
theorem kl_X10_333 : Cond.constantLong RX10 333 (122) ∈ bl_tb := bl_in_tb (bl_t7 (List.mem_of_getElem? (i := 198) rfl)) rfl
set_option maxRecDepth 20000 in
theorem kl_X10_335 : Cond.constantLong RX10 335 (48) ∈ bl_tb := bl_in_tb (bl_t7 (List.mem_of_getElem? (i := 199) rfl)) rfl
set_option maxRecDepth 20000 in
theorem kl_X10_337 : Cond.constantLong RX10 337 (57) ∈ bl_tb := bl_in_tb (bl_t7 (List.mem_of_getElem? (i := 200) rfl)) rfl
set_option maxRecDepth 20000 in
theorem kl_L_211 : Cond.constantLong RL 211 (4294967295) ∈ bl_tb := bl_in_tb (bl_t7 (List.mem_of_getElem? (i := 229) rfl)) rfl
set_option maxRecDepth 20000 in
theorem ki_X0_15 : Cond.constant RX0 15 (1103515245) ∈ bl_tb := bl_in_tb (bl_t4 (List.mem_of_getElem? (i := 14) rfl)) rfl
set_option maxRecDepth 20000 in
theorem ki_X10_134 : Cond.constant RX10 134 (1103515245) ∈ bl_tb := bl_in_tb (bl_t6 (List.mem_of_getElem? (i := 130) rfl)) rfl
