set_option maxRecDepth 20000 in
theorem aw_int : Cond.arrayClass .int ∈ bl_tb := bl_in_tb (bl_t1 (List.mem_of_getElem? (i := 70) rfl)) rfl
set_option maxRecDepth 20000 in
theorem aw_long : Cond.arrayClass .long ∈ bl_tb := bl_in_tb (bl_t1 (List.mem_of_getElem? (i := 237) rfl)) rfl
set_option maxRecDepth 20000 in
theorem aw_byte : Cond.arrayClass .byte ∈ bl_tb := bl_in_tb (bl_t3 (List.mem_of_getElem? (i := 52) rfl)) rfl
set_option maxRecDepth 20000 in
theorem aw_boolean : Cond.arrayClass .boolean ∈ bl_tb := bl_in_tb (bl_t5 (List.mem_of_getElem? (i := 212) rfl)) rfl
set_option maxRecDepth 20000 in
theorem mI_X0_init : bl_mI yX0_init cX0_init 1 0 := ⟨bl_in_tb (bl_t2 (List.mem_of_getElem? (i := 64) rfl)) rfl, bl_in_tb (bl_t1 (List.mem_of_getElem? (i := 11) rfl)) rfl, bl_in_tb (bl_t2 (List.mem_of_getElem? (i := 65) rfl)) rfl, rfl, ⟨by decide +kernel, by decide +kernel, by decide +kernel⟩⟩
set_option maxRecDepth 20000 in
theorem mI_X1_init : bl_mI yX1_init cX1_init 1 0 := ⟨bl_in_tb (bl_t2 (List.mem_of_getElem? (i := 43) rfl)) rfl, bl_in_tb (bl_t1 (List.mem_of_getElem? (i := 10) rfl)) rfl, bl_in_tb (bl_t2 (List.mem_of_getElem? (i := 44) rfl)) rfl, rfl, ⟨by decide +kernel, by decide +kernel, by decide +kernel⟩⟩
set_option maxRecDepth 20000 in
theorem mI_X2_init : bl_mI yX2_init cX2_init 1 0 := ⟨bl_in_tb (bl_t1 (List.mem_of_getElem? (i := 111) rfl)) rfl, bl_in_tb (bl_t1 (List.mem_of_getElem? (i := 6) rfl)) rfl, bl_in_tb (bl_t1 (List.mem_of_getElem? (i := 112) rfl)) rfl, rfl, ⟨by decide +kernel, by decide +kernel, by decide +kernel⟩⟩
set_option maxRecDepth 20000 in
theorem mI_X3_init : bl_mI yX3_init cX3_init 1 0 := ⟨bl_in_tb (bl_t1 (List.mem_of_getElem? (i := 209) rfl)) rfl, bl_in_tb (bl_t1 (List.mem_of_getElem? (i := 9) rfl)) rfl, bl_in_tb (bl_t1 (List.mem_of_getElem? (i := 210) rfl)) rfl, rfl, ⟨by decide +kernel, by decide +kernel, by decide +kernel⟩⟩
set_option maxRecDepth 20000 in
theorem mI_X4_init : bl_mI yX4_init cX4_init 2 1 := ⟨bl_in_tb (bl_t1 (List.mem_of_getElem? (i := 203) rfl)) rfl, bl_in_tb (bl_t1 (List.mem_of_getElem? (i := 8) rfl)) rfl, bl_in_tb (bl_t1 (List.mem_of_getElem? (i := 204) rfl)) rfl, rfl, ⟨by decide +kernel, by decide +kernel, by decide +kernel⟩⟩
set_option maxRecDepth 20000 in
theorem mI_X5_init : bl_mI yX5_init cX5_init 1 0 := ⟨bl_in_tb (bl_t1 (List.mem_of_getElem? (i := 95) rfl)) rfl, bl_in_tb (bl_t1 (List.mem_of_getElem? (i := 5) rfl)) rfl, bl_in_tb (bl_t1 (List.mem_of_getElem? (i := 96) rfl)) rfl, rfl, ⟨by decide +kernel, by decide +kernel, by decide +kernel⟩⟩
set_option maxRecDepth 20000 in
theorem mI_X6_init : bl_mI yX6_init cX6_init 2 0 := ⟨bl_in_tb (bl_t1 (List.mem_of_getElem? (i := 177) rfl)) rfl, bl_in_tb (bl_t1 (List.mem_of_getElem? (i := 7) rfl)) rfl, bl_in_tb (bl_t1 (List.mem_of_getElem? (i := 178) rfl)) rfl, rfl, ⟨by decide +kernel, by decide +kernel, by decide +kernel⟩⟩
set_option maxRecDepth 20000 in
theorem mI_X7_init : bl_mI yX7_init cX7_init 1 0 := ⟨bl_in_tb (bl_t1 (List.mem_of_getElem? (i := 29) rfl)) rfl, bl_in_tb (bl_t1 (List.mem_of_getElem? (i := 2) rfl)) rfl, bl_in_tb (bl_t1 (List.mem_of_getElem? (i := 30) rfl)) rfl, rfl, ⟨by decide +kernel, by decide +kernel, by decide +kernel⟩⟩
set_option maxRecDepth 20000 in
theorem mI_X8_init : bl_mI yX8_init cX8_init 1 0 := ⟨bl_in_tb (bl_t1 (List.mem_of_getElem? (i := 35) rfl)) rfl, bl_in_tb (bl_t1 (List.mem_of_getElem? (i := 3) rfl)) rfl, bl_in_tb (bl_t1 (List.mem_of_getElem? (i := 36) rfl)) rfl, rfl, ⟨by decide +kernel, by decide +kernel, by decide +kernel⟩⟩
set_option maxRecDepth 20000 in
theorem mI_X9_init : bl_mI yX9_init cX9_init 1 0 := ⟨bl_in_tb (bl_t1 (List.mem_of_getElem? (i := 21) rfl)) rfl, bl_in_tb (bl_t1 (List.mem_of_getElem? (i := 1) rfl)) rfl, bl_in_tb (bl_t1 (List.mem_of_getElem? (i := 22) rfl)) rfl, rfl, ⟨by decide +kernel, by decide +kernel, by decide +kernel⟩⟩
set_option maxRecDepth 20000 in
theorem mI_X10_init : bl_mI yX10_init cX10_init 1 0 := ⟨bl_in_tb (bl_t5 (List.mem_of_getElem? (i := 122) rfl)) rfl, bl_in_tb (bl_t1 (List.mem_of_getElem? (i := 12) rfl)) rfl, bl_in_tb (bl_t5 (List.mem_of_getElem? (i := 123) rfl)) rfl, rfl, ⟨by decide +kernel, by decide +kernel, by decide +kernel⟩⟩
set_option maxRecDepth 20000 in
theorem oi_X9_1 : bl_oI RX9 1 := ⟨bl_in_tb (bl_t1 (List.mem_of_getElem? (i := 23) rfl)) rfl, bl_in_tb (bl_t1 (List.mem_of_getElem? (i := 24) rfl)) rfl, bl_in_tb (bl_t1 (List.mem_of_getElem? (i := 25) rfl)) rfl⟩
set_option maxRecDepth 20000 in
theorem oi_X7_3 : bl_oI RX7 3 := ⟨bl_in_tb (bl_t1 (List.mem_of_getElem? (i := 31) rfl)) rfl, bl_in_tb (bl_t1 (List.mem_of_getElem? (i := 24) rfl)) rfl, bl_in_tb (bl_t1 (List.mem_of_getElem? (i := 25) rfl)) rfl⟩
set_option maxRecDepth 20000 in
theorem oi_X8_3 : bl_oI RX8 3 := ⟨bl_in_tb (bl_t1 (List.mem_of_getElem? (i := 37) rfl)) rfl, bl_in_tb (bl_t1 (List.mem_of_getElem? (i := 24) rfl)) rfl, bl_in_tb (bl_t1 (List.mem_of_getElem? (i := 25) rfl)) rfl⟩
set_option maxRecDepth 20000 in
theorem oi_X5_3 : bl_oI RX5 3 := ⟨bl_in_tb (bl_t1 (List.mem_of_getElem? (i := 97) rfl)) rfl, bl_in_tb (bl_t1 (List.mem_of_getElem? (i := 24) rfl)) rfl, bl_in_tb (bl_t1 (List.mem_of_getElem? (i := 25) rfl)) rfl⟩
set_option maxRecDepth 20000 in
theorem oi_X2_3 : bl_oI RX2 3 := ⟨bl_in_tb (bl_t1 (List.mem_of_getElem? (i := 113) rfl)) rfl, bl_in_tb (bl_t1 (List.mem_of_getElem? (i := 24) rfl)) rfl, bl_in_tb (bl_t1 (List.mem_of_getElem? (i := 25) rfl)) rfl⟩
set_option maxRecDepth 20000 in
theorem oi_X6_3 : bl_oI RX6 3 := ⟨bl_in_tb (bl_t1 (List.mem_of_getElem? (i := 179) rfl)) rfl, bl_in_tb (bl_t1 (List.mem_of_getElem? (i := 24) rfl)) rfl, bl_in_tb (bl_t1 (List.mem_of_getElem? (i := 25) rfl)) rfl⟩
set_option maxRecDepth 20000 in
theorem oi_X4_3 : bl_oI RX4 3 := ⟨bl_in_tb (bl_t1 (List.mem_of_getElem? (i := 205) rfl)) rfl, bl_in_tb (bl_t1 (List.mem_of_getElem? (i := 24) rfl)) rfl, bl_in_tb (bl_t1 (List.mem_of_getElem? (i := 25) rfl)) rfl⟩
set_option maxRecDepth 20000 in
theorem oi_X3_3 : bl_oI RX3 3 := ⟨bl_in_tb (bl_t1 (List.mem_of_getElem? (i := 211) rfl)) rfl, bl_in_tb (bl_t1 (List.mem_of_getElem? (i := 24) rfl)) rfl, bl_in_tb (bl_t1 (List.mem_of_getElem? (i := 25) rfl)) rfl⟩
set_option maxRecDepth 20000 in
theorem oi_X1_3 : bl_oI RX1 3 := ⟨bl_in_tb (bl_t2 (List.mem_of_getElem? (i := 45) rfl)) rfl, bl_in_tb (bl_t1 (List.mem_of_getElem? (i := 24) rfl)) rfl, bl_in_tb (bl_t1 (List.mem_of_getElem? (i := 25) rfl)) rfl⟩
set_option maxRecDepth 20000 in
theorem oi_X0_3 : bl_oI RX0 3 := ⟨bl_in_tb (bl_t2 (List.mem_of_getElem? (i := 66) rfl)) rfl, bl_in_tb (bl_t1 (List.mem_of_getElem? (i := 24) rfl)) rfl, bl_in_tb (bl_t1 (List.mem_of_getElem? (i := 25) rfl)) rfl⟩
set_option maxRecDepth 20000 in
theorem oi_X10_7 : bl_oI RX10 7 := ⟨bl_in_tb (bl_t5 (List.mem_of_getElem? (i := 124) rfl)) rfl, bl_in_tb (bl_t1 (List.mem_of_getElem? (i := 24) rfl)) rfl, bl_in_tb (bl_t1 (List.mem_of_getElem? (i := 25) rfl)) rfl⟩
set_option maxRecDepth 20000 in
theorem fF_X1_18 : bl_fF RX1 18 1 2 2 (.array .long) := ⟨RX1, TX1, 4, tyX1, rfl, Nat.le_of_ble_eq_true rfl, in_X1, bl_in_tb (bl_t2 (List.mem_of_getElem? (i := 50) rfl)) rfl, rfl, tyX1_ok, nmX1, rfl, rfl, rfl⟩
set_option maxRecDepth 20000 in
theorem kN_X1_21 : bl_kN RX1 21 RX3 3 8 := ⟨TX3, tyX3, rfl, in_X3, tyX3_ok, by decide +kernel, by decide, bl_in_tb (bl_t2 (List.mem_of_getElem? (i := 46) rfl)) rfl, bl_in_tb (bl_t1 (List.mem_of_getElem? (i := 207) rfl)) rfl, bl_in_tb (bl_t1 (List.mem_of_getElem? (i := 9) rfl)) rfl⟩
set_option maxRecDepth 20000 in
theorem fF_X1_24 : bl_fF RX1 24 1 3 2 (.object "BonusLadder$Losses") := ⟨RX1, TX1, 4, tyX1, rfl, Nat.le_of_ble_eq_true rfl, in_X1, bl_in_tb (bl_t2 (List.mem_of_getElem? (i := 51) rfl)) rfl, rfl, tyX1_ok, nmX1, rfl, rfl, rfl⟩
set_option maxRecDepth 20000 in
theorem fF_X2_9 : bl_fF RX2 9 2 13 2 (.array .int) := ⟨RX2, TX2, 15, tyX2, rfl, Nat.le_of_ble_eq_true rfl, in_X2, bl_in_tb (bl_t1 (List.mem_of_getElem? (i := 139) rfl)) rfl, rfl, tyX2_ok, nmX2, rfl, rfl, rfl⟩
set_option maxRecDepth 20000 in
theorem fF_X2_15 : bl_fF RX2 15 2 14 2 (.array .int) := ⟨RX2, TX2, 15, tyX2, rfl, Nat.le_of_ble_eq_true rfl, in_X2, bl_in_tb (bl_t1 (List.mem_of_getElem? (i := 141) rfl)) rfl, rfl, tyX2_ok, nmX2, rfl, rfl, rfl⟩
set_option maxRecDepth 20000 in
theorem fF_X3_9 : bl_fF RX3 9 3 4 2 (.array .long) := ⟨RX3, TX3, 8, tyX3, rfl, Nat.le_of_ble_eq_true rfl, in_X3, bl_in_tb (bl_t1 (List.mem_of_getElem? (i := 216) rfl)) rfl, rfl, tyX3_ok, nmX3, rfl, rfl, rfl⟩
set_option maxRecDepth 20000 in
theorem fF_X3_15 : bl_fF RX3 15 3 5 2 (.array .long) := ⟨RX3, TX3, 8, tyX3, rfl, Nat.le_of_ble_eq_true rfl, in_X3, bl_in_tb (bl_t1 (List.mem_of_getElem? (i := 217) rfl)) rfl, rfl, tyX3_ok, nmX3, rfl, rfl, rfl⟩
set_option maxRecDepth 20000 in
theorem fF_X3_18 : bl_fF RX3 18 3 6 2 (.array .long) := ⟨RX3, TX3, 8, tyX3, rfl, Nat.le_of_ble_eq_true rfl, in_X3, bl_in_tb (bl_t1 (List.mem_of_getElem? (i := 218) rfl)) rfl, rfl, tyX3_ok, nmX3, rfl, rfl, rfl⟩
set_option maxRecDepth 20000 in
theorem fF_X3_21 : bl_fF RX3 21 3 7 2 (.array .int) := ⟨RX3, TX3, 8, tyX3, rfl, Nat.le_of_ble_eq_true rfl, in_X3, bl_in_tb (bl_t1 (List.mem_of_getElem? (i := 219) rfl)) rfl, rfl, tyX3_ok, nmX3, rfl, rfl, rfl⟩
set_option maxRecDepth 20000 in
theorem kN_X4_9 : bl_kN RX4 9 RX3 3 8 := ⟨TX3, tyX3, rfl, in_X3, tyX3_ok, by decide +kernel, by decide, bl_in_tb (bl_t1 (List.mem_of_getElem? (i := 206) rfl)) rfl, bl_in_tb (bl_t1 (List.mem_of_getElem? (i := 207) rfl)) rfl, bl_in_tb (bl_t1 (List.mem_of_getElem? (i := 9) rfl)) rfl⟩
set_option maxRecDepth 20000 in
theorem fF_X4_12 : bl_fF RX4 12 4 9 2 (.object "BonusLadder$Losses") := ⟨RX4, TX4, 12, tyX4, rfl, Nat.le_of_ble_eq_true rfl, in_X4, bl_in_tb (bl_t2 (List.mem_of_getElem? (i := 12) rfl)) rfl, rfl, tyX4_ok, nmX4, rfl, rfl, rfl⟩
set_option maxRecDepth 20000 in
theorem fF_X4_18 : bl_fF RX4 18 4 10 2 (.array .long) := ⟨RX4, TX4, 12, tyX4, rfl, Nat.le_of_ble_eq_true rfl, in_X4, bl_in_tb (bl_t2 (List.mem_of_getElem? (i := 13) rfl)) rfl, rfl, tyX4_ok, nmX4, rfl, rfl, rfl⟩
set_option maxRecDepth 20000 in
theorem fF_X4_22 : bl_fF RX4 22 4 11 2 (.array .long) := ⟨RX4, TX4, 12, tyX4, rfl, Nat.le_of_ble_eq_true rfl, in_X4, bl_in_tb (bl_t2 (List.mem_of_getElem? (i := 14) rfl)) rfl, rfl, tyX4_ok, nmX4, rfl, rfl, rfl⟩
set_option maxRecDepth 20000 in
theorem fF_X5_9 : bl_fF RX5 9 5 0 2 (.array .int) := ⟨RX5, TX5, 2, tyX5, rfl, Nat.le_of_ble_eq_true rfl, in_X5, bl_in_tb (bl_t1 (List.mem_of_getElem? (i := 98) rfl)) rfl, rfl, tyX5_ok, nmX5, rfl, rfl, rfl⟩
set_option maxRecDepth 20000 in
theorem cl_X6_9 : Cond.classLink RX6 9 "BonusLadder$Terms" ∈ bl_tb := bl_in_tb (bl_t1 (List.mem_of_getElem? (i := 180) rfl)) rfl
set_option maxRecDepth 20000 in
theorem fF_X6_11 : bl_fF RX6 11 6 0 2 (.array (.object "BonusLadder$Terms")) := ⟨RX6, TX6, 4, tyX6, rfl, Nat.le_of_ble_eq_true rfl, in_X6, bl_in_tb (bl_t1 (List.mem_of_getElem? (i := 186) rfl)) rfl, rfl, tyX6_ok, nmX6, rfl, rfl, rfl⟩
set_option maxRecDepth 20000 in
theorem cl_X6_17 : Cond.classLink RX6 17 "BonusLadder$Life" ∈ bl_tb := bl_in_tb (bl_t1 (List.mem_of_getElem? (i := 182) rfl)) rfl
set_option maxRecDepth 20000 in
theorem fF_X6_19 : bl_fF RX6 19 6 1 2 (.array (.object "BonusLadder$Life")) := ⟨RX6, TX6, 4, tyX6, rfl, Nat.le_of_ble_eq_true rfl, in_X6, bl_in_tb (bl_t1 (List.mem_of_getElem? (i := 187) rfl)) rfl, rfl, tyX6_ok, nmX6, rfl, rfl, rfl⟩
set_option maxRecDepth 20000 in
theorem kN_X6_9 : bl_kN RX6 9 RX8 8 5 := ⟨TX8, tyX8, rfl, in_X8, tyX8_ok, by decide +kernel, by decide, bl_in_tb (bl_t1 (List.mem_of_getElem? (i := 180) rfl)) rfl, bl_in_tb (bl_t1 (List.mem_of_getElem? (i := 33) rfl)) rfl, bl_in_tb (bl_t1 (List.mem_of_getElem? (i := 3) rfl)) rfl⟩
set_option maxRecDepth 20000 in
theorem kN_X6_17 : bl_kN RX6 17 RX2 2 15 := ⟨TX2, tyX2, rfl, in_X2, tyX2_ok, by decide +kernel, by decide, bl_in_tb (bl_t1 (List.mem_of_getElem? (i := 182) rfl)) rfl, bl_in_tb (bl_t1 (List.mem_of_getElem? (i := 109) rfl)) rfl, bl_in_tb (bl_t1 (List.mem_of_getElem? (i := 6) rfl)) rfl⟩
set_option maxRecDepth 20000 in
theorem fF_X7_9 : bl_fF RX7 9 7 0 2 (.array .int) := ⟨RX7, TX7, 6, tyX7, rfl, Nat.le_of_ble_eq_true rfl, in_X7, bl_in_tb (bl_t1 (List.mem_of_getElem? (i := 71) rfl)) rfl, rfl, tyX7_ok, nmX7, rfl, rfl, rfl⟩
set_option maxRecDepth 20000 in
theorem fF_X7_15 : bl_fF RX7 15 7 1 2 (.array .int) := ⟨RX7, TX7, 6, tyX7, rfl, Nat.le_of_ble_eq_true rfl, in_X7, bl_in_tb (bl_t1 (List.mem_of_getElem? (i := 72) rfl)) rfl, rfl, tyX7_ok, nmX7, rfl, rfl, rfl⟩
set_option maxRecDepth 20000 in
theorem kN_X7_18 : bl_kN RX7 18 RX8 8 5 := ⟨TX8, tyX8, rfl, in_X8, tyX8_ok, by decide +kernel, by decide, bl_in_tb (bl_t1 (List.mem_of_getElem? (i := 32) rfl)) rfl, bl_in_tb (bl_t1 (List.mem_of_getElem? (i := 33) rfl)) rfl, bl_in_tb (bl_t1 (List.mem_of_getElem? (i := 3) rfl)) rfl⟩
set_option maxRecDepth 20000 in
theorem fF_X7_21 : bl_fF RX7 21 7 2 2 (.object "BonusLadder$Terms") := ⟨RX7, TX7, 6, tyX7, rfl, Nat.le_of_ble_eq_true rfl, in_X7, bl_in_tb (bl_t1 (List.mem_of_getElem? (i := 73) rfl)) rfl, rfl, tyX7_ok, nmX7, rfl, rfl, rfl⟩
set_option maxRecDepth 20000 in
theorem fF_X8_9 : bl_fF RX8 9 8 2 2 (.array .int) := ⟨RX8, TX8, 5, tyX8, rfl, Nat.le_of_ble_eq_true rfl, in_X8, bl_in_tb (bl_t1 (List.mem_of_getElem? (i := 53) rfl)) rfl, rfl, tyX8_ok, nmX8, rfl, rfl, rfl⟩
set_option maxRecDepth 20000 in
theorem fF_X8_15 : bl_fF RX8 15 8 3 2 (.array .int) := ⟨RX8, TX8, 5, tyX8, rfl, Nat.le_of_ble_eq_true rfl, in_X8, bl_in_tb (bl_t1 (List.mem_of_getElem? (i := 55) rfl)) rfl, rfl, tyX8_ok, nmX8, rfl, rfl, rfl⟩
set_option maxRecDepth 20000 in
theorem fF_X8_18 : bl_fF RX8 18 8 4 2 (.array .int) := ⟨RX8, TX8, 5, tyX8, rfl, Nat.le_of_ble_eq_true rfl, in_X8, bl_in_tb (bl_t1 (List.mem_of_getElem? (i := 56) rfl)) rfl, rfl, tyX8_ok, nmX8, rfl, rfl, rfl⟩
set_option maxRecDepth 20000 in
theorem kN_X9_7 : bl_kN RX9 7 RX7 7 6 := ⟨TX7, tyX7, rfl, in_X7, tyX7_ok, by decide +kernel, by decide, bl_in_tb (bl_t1 (List.mem_of_getElem? (i := 26) rfl)) rfl, bl_in_tb (bl_t1 (List.mem_of_getElem? (i := 27) rfl)) rfl, bl_in_tb (bl_t1 (List.mem_of_getElem? (i := 2) rfl)) rfl⟩
set_option maxRecDepth 20000 in
theorem fF_X9_10 : bl_fF RX9 10 9 0 2 (.object "BonusLadder$Tape") := ⟨RX9, TX9, 13, tyX9, rfl, Nat.le_of_ble_eq_true rfl, in_X9, bl_in_tb (bl_t2 (List.mem_of_getElem? (i := 72) rfl)) rfl, rfl, tyX9_ok, nmX9, rfl, rfl, rfl⟩
set_option maxRecDepth 20000 in
theorem kN_X9_16 : bl_kN RX9 16 RX5 5 2 := ⟨TX5, tyX5, rfl, in_X5, tyX5_ok, by decide +kernel, by decide, bl_in_tb (bl_t1 (List.mem_of_getElem? (i := 92) rfl)) rfl, bl_in_tb (bl_t1 (List.mem_of_getElem? (i := 93) rfl)) rfl, bl_in_tb (bl_t1 (List.mem_of_getElem? (i := 5) rfl)) rfl⟩
set_option maxRecDepth 20000 in
theorem fF_X9_19 : bl_fF RX9 19 9 1 2 (.object "BonusLadder$Page") := ⟨RX9, TX9, 13, tyX9, rfl, Nat.le_of_ble_eq_true rfl, in_X9, bl_in_tb (bl_t2 (List.mem_of_getElem? (i := 73) rfl)) rfl, rfl, tyX9_ok, nmX9, rfl, rfl, rfl⟩
set_option maxRecDepth 20000 in
theorem kN_X9_23 : bl_kN RX9 23 RX8 8 5 := ⟨TX8, tyX8, rfl, in_X8, tyX8_ok, by decide +kernel, by decide, bl_in_tb (bl_t1 (List.mem_of_getElem? (i := 106) rfl)) rfl, bl_in_tb (bl_t1 (List.mem_of_getElem? (i := 33) rfl)) rfl, bl_in_tb (bl_t1 (List.mem_of_getElem? (i := 3) rfl)) rfl⟩
set_option maxRecDepth 20000 in
theorem fF_X9_26 : bl_fF RX9 26 9 2 2 (.object "BonusLadder$Terms") := ⟨RX9, TX9, 13, tyX9, rfl, Nat.le_of_ble_eq_true rfl, in_X9, bl_in_tb (bl_t2 (List.mem_of_getElem? (i := 74) rfl)) rfl, rfl, tyX9_ok, nmX9, rfl, rfl, rfl⟩
set_option maxRecDepth 20000 in
theorem fF_X9_30 : bl_fF RX9 30 9 3 2 (.object "BonusLadder$Terms") := ⟨RX9, TX9, 13, tyX9, rfl, Nat.le_of_ble_eq_true rfl, in_X9, bl_in_tb (bl_t2 (List.mem_of_getElem? (i := 75) rfl)) rfl, rfl, tyX9_ok, nmX9, rfl, rfl, rfl⟩
set_option maxRecDepth 20000 in
theorem kN_X9_33 : bl_kN RX9 33 RX2 2 15 := ⟨TX2, tyX2, rfl, in_X2, tyX2_ok, by decide +kernel, by decide, bl_in_tb (bl_t1 (List.mem_of_getElem? (i := 108) rfl)) rfl, bl_in_tb (bl_t1 (List.mem_of_getElem? (i := 109) rfl)) rfl, bl_in_tb (bl_t1 (List.mem_of_getElem? (i := 6) rfl)) rfl⟩
set_option maxRecDepth 20000 in
theorem fF_X9_36 : bl_fF RX9 36 9 4 2 (.object "BonusLadder$Life") := ⟨RX9, TX9, 13, tyX9, rfl, Nat.le_of_ble_eq_true rfl, in_X9, bl_in_tb (bl_t2 (List.mem_of_getElem? (i := 76) rfl)) rfl, rfl, tyX9_ok, nmX9, rfl, rfl, rfl⟩
set_option maxRecDepth 20000 in
theorem fF_X9_40 : bl_fF RX9 40 9 5 2 (.object "BonusLadder$Life") := ⟨RX9, TX9, 13, tyX9, rfl, Nat.le_of_ble_eq_true rfl, in_X9, bl_in_tb (bl_t2 (List.mem_of_getElem? (i := 77) rfl)) rfl, rfl, tyX9_ok, nmX9, rfl, rfl, rfl⟩
set_option maxRecDepth 20000 in
theorem kN_X9_43 : bl_kN RX9 43 RX6 6 4 := ⟨TX6, tyX6, rfl, in_X6, tyX6_ok, by decide +kernel, by decide, bl_in_tb (bl_t1 (List.mem_of_getElem? (i := 174) rfl)) rfl, bl_in_tb (bl_t1 (List.mem_of_getElem? (i := 175) rfl)) rfl, bl_in_tb (bl_t1 (List.mem_of_getElem? (i := 7) rfl)) rfl⟩
set_option maxRecDepth 20000 in
theorem fF_X9_46 : bl_fF RX9 46 9 6 2 (.object "BonusLadder$Past") := ⟨RX9, TX9, 13, tyX9, rfl, Nat.le_of_ble_eq_true rfl, in_X9, bl_in_tb (bl_t2 (List.mem_of_getElem? (i := 78) rfl)) rfl, rfl, tyX9_ok, nmX9, rfl, rfl, rfl⟩
set_option maxRecDepth 20000 in
theorem kN_X9_50 : bl_kN RX9 50 RX4 4 12 := ⟨TX4, tyX4, rfl, in_X4, tyX4_ok, by decide +kernel, by decide, bl_in_tb (bl_t1 (List.mem_of_getElem? (i := 200) rfl)) rfl, bl_in_tb (bl_t1 (List.mem_of_getElem? (i := 201) rfl)) rfl, bl_in_tb (bl_t1 (List.mem_of_getElem? (i := 8) rfl)) rfl⟩
set_option maxRecDepth 20000 in
theorem fF_X9_55 : bl_fF RX9 55 9 7 2 (.object "BonusLadder$Outlook") := ⟨RX9, TX9, 13, tyX9, rfl, Nat.le_of_ble_eq_true rfl, in_X9, bl_in_tb (bl_t2 (List.mem_of_getElem? (i := 79) rfl)) rfl, rfl, tyX9_ok, nmX9, rfl, rfl, rfl⟩
set_option maxRecDepth 20000 in
theorem fF_X9_59 : bl_fF RX9 59 9 8 2 (.object "BonusLadder$Outlook") := ⟨RX9, TX9, 13, tyX9, rfl, Nat.le_of_ble_eq_true rfl, in_X9, bl_in_tb (bl_t2 (List.mem_of_getElem? (i := 80) rfl)) rfl, rfl, tyX9_ok, nmX9, rfl, rfl, rfl⟩
set_option maxRecDepth 20000 in
theorem kN_X9_62 : bl_kN RX9 62 RX1 1 4 := ⟨TX1, tyX1, rfl, in_X1, tyX1_ok, by decide +kernel, by decide, bl_in_tb (bl_t2 (List.mem_of_getElem? (i := 40) rfl)) rfl, bl_in_tb (bl_t2 (List.mem_of_getElem? (i := 41) rfl)) rfl, bl_in_tb (bl_t1 (List.mem_of_getElem? (i := 10) rfl)) rfl⟩
set_option maxRecDepth 20000 in
theorem fF_X9_65 : bl_fF RX9 65 9 9 2 (.object "BonusLadder$House") := ⟨RX9, TX9, 13, tyX9, rfl, Nat.le_of_ble_eq_true rfl, in_X9, bl_in_tb (bl_t2 (List.mem_of_getElem? (i := 81) rfl)) rfl, rfl, tyX9_ok, nmX9, rfl, rfl, rfl⟩
set_option maxRecDepth 20000 in
theorem kN_X9_69 : bl_kN RX9 69 RX0 0 1 := ⟨TX0, tyX0, rfl, in_X0, tyX0_ok, by decide +kernel, by decide, bl_in_tb (bl_t2 (List.mem_of_getElem? (i := 61) rfl)) rfl, bl_in_tb (bl_t2 (List.mem_of_getElem? (i := 62) rfl)) rfl, bl_in_tb (bl_t1 (List.mem_of_getElem? (i := 11) rfl)) rfl⟩
set_option maxRecDepth 20000 in
theorem fF_X9_72 : bl_fF RX9 72 9 10 2 (.object "BonusLadder$Draws") := ⟨RX9, TX9, 13, tyX9, rfl, Nat.le_of_ble_eq_true rfl, in_X9, bl_in_tb (bl_t2 (List.mem_of_getElem? (i := 82) rfl)) rfl, rfl, tyX9_ok, nmX9, rfl, rfl, rfl⟩
set_option maxRecDepth 20000 in
theorem fF_X9_76 : bl_fF RX9 76 9 11 2 (.array .long) := ⟨RX9, TX9, 13, tyX9, rfl, Nat.le_of_ble_eq_true rfl, in_X9, bl_in_tb (bl_t2 (List.mem_of_getElem? (i := 83) rfl)) rfl, rfl, tyX9_ok, nmX9, rfl, rfl, rfl⟩
set_option maxRecDepth 20000 in
theorem fF_X9_80 : bl_fF RX9 80 9 12 2 (.array .long) := ⟨RX9, TX9, 13, tyX9, rfl, Nat.le_of_ble_eq_true rfl, in_X9, bl_in_tb (bl_t2 (List.mem_of_getElem? (i := 84) rfl)) rfl, rfl, tyX9_ok, nmX9, rfl, rfl, rfl⟩
set_option maxRecDepth 20000 in
theorem fF_X10_13 : bl_fF RX10 13 10 1 2 (.array .int) := ⟨RX10, TX10, 28, tyX10, rfl, Nat.le_of_ble_eq_true rfl, in_X10, bl_in_tb (bl_t5 (List.mem_of_getElem? (i := 128) rfl)) rfl, rfl, tyX10_ok, nmX10, rfl, rfl, rfl⟩
set_option maxRecDepth 20000 in
theorem fF_X10_17 : bl_fF RX10 17 10 2 2 (.array .int) := ⟨RX10, TX10, 28, tyX10, rfl, Nat.le_of_ble_eq_true rfl, in_X10, bl_in_tb (bl_t5 (List.mem_of_getElem? (i := 129) rfl)) rfl, rfl, tyX10_ok, nmX10, rfl, rfl, rfl⟩
set_option maxRecDepth 20000 in
theorem fF_X10_20 : bl_fF RX10 20 10 3 2 (.array .int) := ⟨RX10, TX10, 28, tyX10, rfl, Nat.le_of_ble_eq_true rfl, in_X10, bl_in_tb (bl_t5 (List.mem_of_getElem? (i := 130) rfl)) rfl, rfl, tyX10_ok, nmX10, rfl, rfl, rfl⟩
set_option maxRecDepth 20000 in
theorem fF_X10_23 : bl_fF RX10 23 10 4 2 (.array .int) := ⟨RX10, TX10, 28, tyX10, rfl, Nat.le_of_ble_eq_true rfl, in_X10, bl_in_tb (bl_t5 (List.mem_of_getElem? (i := 131) rfl)) rfl, rfl, tyX10_ok, nmX10, rfl, rfl, rfl⟩
set_option maxRecDepth 20000 in
theorem fF_X10_26 : bl_fF RX10 26 10 7 2 (.array .long) := ⟨RX10, TX10, 28, tyX10, rfl, Nat.le_of_ble_eq_true rfl, in_X10, bl_in_tb (bl_t5 (List.mem_of_getElem? (i := 134) rfl)) rfl, rfl, tyX10_ok, nmX10, rfl, rfl, rfl⟩
set_option maxRecDepth 20000 in
theorem fF_X10_30 : bl_fF RX10 30 10 8 2 (.array .boolean) := ⟨RX10, TX10, 28, tyX10, rfl, Nat.le_of_ble_eq_true rfl, in_X10, bl_in_tb (bl_t5 (List.mem_of_getElem? (i := 135) rfl)) rfl, rfl, tyX10_ok, nmX10, rfl, rfl, rfl⟩
set_option maxRecDepth 20000 in
theorem fF_X10_34 : bl_fF RX10 34 10 9 2 (.array .long) := ⟨RX10, TX10, 28, tyX10, rfl, Nat.le_of_ble_eq_true rfl, in_X10, bl_in_tb (bl_t5 (List.mem_of_getElem? (i := 136) rfl)) rfl, rfl, tyX10_ok, nmX10, rfl, rfl, rfl⟩
set_option maxRecDepth 20000 in
theorem fF_X10_37 : bl_fF RX10 37 10 14 2 (.array .long) := ⟨RX10, TX10, 28, tyX10, rfl, Nat.le_of_ble_eq_true rfl, in_X10, bl_in_tb (bl_t5 (List.mem_of_getElem? (i := 141) rfl)) rfl, rfl, tyX10_ok, nmX10, rfl, rfl, rfl⟩
set_option maxRecDepth 20000 in
theorem fF_X10_40 : bl_fF RX10 40 10 15 2 (.array .long) := ⟨RX10, TX10, 28, tyX10, rfl, Nat.le_of_ble_eq_true rfl, in_X10, bl_in_tb (bl_t5 (List.mem_of_getElem? (i := 142) rfl)) rfl, rfl, tyX10_ok, nmX10, rfl, rfl, rfl⟩
set_option maxRecDepth 20000 in
theorem fF_X10_43 : bl_fF RX10 43 10 16 2 (.array .long) := ⟨RX10, TX10, 28, tyX10, rfl, Nat.le_of_ble_eq_true rfl, in_X10, bl_in_tb (bl_t5 (List.mem_of_getElem? (i := 143) rfl)) rfl, rfl, tyX10_ok, nmX10, rfl, rfl, rfl⟩
set_option maxRecDepth 20000 in
theorem fF_X10_46 : bl_fF RX10 46 10 17 2 (.array .long) := ⟨RX10, TX10, 28, tyX10, rfl, Nat.le_of_ble_eq_true rfl, in_X10, bl_in_tb (bl_t5 (List.mem_of_getElem? (i := 144) rfl)) rfl, rfl, tyX10_ok, nmX10, rfl, rfl, rfl⟩
set_option maxRecDepth 20000 in
theorem fF_X10_49 : bl_fF RX10 49 10 18 2 (.array .int) := ⟨RX10, TX10, 28, tyX10, rfl, Nat.le_of_ble_eq_true rfl, in_X10, bl_in_tb (bl_t5 (List.mem_of_getElem? (i := 145) rfl)) rfl, rfl, tyX10_ok, nmX10, rfl, rfl, rfl⟩
set_option maxRecDepth 20000 in
theorem fF_X10_52 : bl_fF RX10 52 10 20 2 (.array .int) := ⟨RX10, TX10, 28, tyX10, rfl, Nat.le_of_ble_eq_true rfl, in_X10, bl_in_tb (bl_t5 (List.mem_of_getElem? (i := 147) rfl)) rfl, rfl, tyX10_ok, nmX10, rfl, rfl, rfl⟩
set_option maxRecDepth 20000 in
theorem fF_X10_55 : bl_fF RX10 55 10 22 2 (.array .byte) := ⟨RX10, TX10, 28, tyX10, rfl, Nat.le_of_ble_eq_true rfl, in_X10, bl_in_tb (bl_t5 (List.mem_of_getElem? (i := 149) rfl)) rfl, rfl, tyX10_ok, nmX10, rfl, rfl, rfl⟩
set_option maxRecDepth 20000 in
theorem kN_L_7 : bl_kN RL 7 RX9 9 13 := ⟨TX9, tyX9, rfl, in_X9, tyX9_ok, by decide +kernel, by decide, bl_in_tb (bl_t1 (List.mem_of_getElem? (i := 18) rfl)) rfl, bl_in_tb (bl_t1 (List.mem_of_getElem? (i := 19) rfl)) rfl, bl_in_tb (bl_t1 (List.mem_of_getElem? (i := 1) rfl)) rfl⟩
set_option maxRecDepth 20000 in
theorem kN_L_10 : bl_kN RL 10 RX10 10 28 := ⟨TX10, tyX10, rfl, in_X10, tyX10_ok, by decide +kernel, by decide, bl_in_tb (bl_t5 (List.mem_of_getElem? (i := 119) rfl)) rfl, bl_in_tb (bl_t5 (List.mem_of_getElem? (i := 120) rfl)) rfl, bl_in_tb (bl_t1 (List.mem_of_getElem? (i := 12) rfl)) rfl⟩
