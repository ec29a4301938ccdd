set_option maxRecDepth 20000 in
theorem iN_X0 : Cond.instantiable RX0 1 ∈ bl_tb := bl_in_tb (bl_t2 (List.mem_of_getElem? (i := 62) rfl)) rfl
set_option maxRecDepth 20000 in
theorem iN_X1 : Cond.instantiable RX1 4 ∈ bl_tb := bl_in_tb (bl_t2 (List.mem_of_getElem? (i := 41) rfl)) rfl
set_option maxRecDepth 20000 in
theorem iN_X2 : Cond.instantiable RX2 15 ∈ bl_tb := bl_in_tb (bl_t1 (List.mem_of_getElem? (i := 109) rfl)) rfl
set_option maxRecDepth 20000 in
theorem iN_X3 : Cond.instantiable RX3 8 ∈ bl_tb := bl_in_tb (bl_t1 (List.mem_of_getElem? (i := 207) rfl)) rfl
set_option maxRecDepth 20000 in
theorem iN_X4 : Cond.instantiable RX4 12 ∈ bl_tb := bl_in_tb (bl_t1 (List.mem_of_getElem? (i := 201) rfl)) rfl
set_option maxRecDepth 20000 in
theorem iN_X5 : Cond.instantiable RX5 2 ∈ bl_tb := bl_in_tb (bl_t1 (List.mem_of_getElem? (i := 93) rfl)) rfl
set_option maxRecDepth 20000 in
theorem iN_X6 : Cond.instantiable RX6 4 ∈ bl_tb := bl_in_tb (bl_t1 (List.mem_of_getElem? (i := 175) rfl)) rfl
set_option maxRecDepth 20000 in
theorem iN_X7 : Cond.instantiable RX7 6 ∈ bl_tb := bl_in_tb (bl_t1 (List.mem_of_getElem? (i := 27) rfl)) rfl
set_option maxRecDepth 20000 in
theorem iN_X8 : Cond.instantiable RX8 5 ∈ bl_tb := bl_in_tb (bl_t1 (List.mem_of_getElem? (i := 33) rfl)) rfl
set_option maxRecDepth 20000 in
theorem iN_X9 : Cond.instantiable RX9 13 ∈ bl_tb := bl_in_tb (bl_t1 (List.mem_of_getElem? (i := 19) rfl)) rfl
set_option maxRecDepth 20000 in
theorem iN_X10 : Cond.instantiable RX10 28 ∈ bl_tb := bl_in_tb (bl_t5 (List.mem_of_getElem? (i := 120) rfl)) rfl
theorem bl_saof {g : bl_Gp} {s : State} {args : Array Value} {nm : String} {xs : List Int32} (hN : xs.length < 2 ^ 31) (hl : (Cond.laysStatic "BonusLadder" nm "[I").before args s = true) (hini : (Cond.initialized "BonusLadder").before args s = true) (harr : (Cond.arrayOf (.static "BonusLadder" nm "[I") .int).before args s = true) (hlen : (Cond.eq (.length (.static "BonusLadder" nm "[I")) (.int (Int32.ofNat xs.length))).before args s = true) (hel : ∀ j : Nat, j < xs.length → (Cond.eq (.elem (.static "BonusLadder" nm "[I") (.int (Int32.ofNat j))) (.int (xs.getD j 0))).before args s = true) (hA : ∀ a : Nat, a < s.heap.size → ¬ bl_A g a) : bl_sa g s nm xs := by
  obtain ⟨t, h1, h2⟩ := va_Tof (f := fun j => .int (xs.getD j 0)) hN harr (va_eqt hlen) (fun j hj => va_eqt (hel j hj)) hA
  exact ⟨t, va_Zof hl hini h1 hA, h2⟩
theorem bl_nF_in : ∀ q ∈ bl_nF, Cond.fieldLinkNest q.1 q.2.1 "BonusLadder" q.2.2 "[I" "BonusLadder" ∈ tables_1 := by decide +kernel
theorem bl_nM_in : ∀ q ∈ bl_nM, Cond.methodLinkNest q.1 q.2.1 q.2.2 "BonusLadder" ∈ tables_1 := by decide +kernel
theorem bl_tx_in : ∀ q ∈ bl_tx, Cond.stringRef "BonusLadder" q.1 q.2 ∈ tables_1 := by decide +kernel
def bl_tm (j : Nat) : Term := .string "BonusLadder" (bl_tx.getD j (0, "")).1
def bl_fl1 : List Cond := flatC (Jvm.Cond.and given_1 narrow_1)
theorem bl_g1 : ∀ j, j < 8 → Cond.exactly (bl_tm j) "java/lang/String" ∈ bl_fl1 := by decide +kernel
theorem bl_g2 : ∀ j, j < 8 → Cond.eq (.field (bl_tm j) "java/lang/String" "coder" "B") (.int 0) ∈ bl_fl1 := by decide +kernel
theorem bl_g3 : ∀ j, j < 8 → Cond.arrayOf (.field (bl_tm j) "java/lang/String" "value" "[B") .byte ∈ bl_fl1 := by decide +kernel
theorem bl_g4 : ∀ j, j < 8 → Cond.eq (.length (.field (bl_tm j) "java/lang/String" "value" "[B")) (.int (Int32.ofNat (bl_tl.getD j 0))) ∈ bl_fl1 := by decide +kernel
theorem bl_g5 : ∀ i, i < 8 → ∀ j, j < bl_tl.getD i 0 → Cond.eq (.elem (.field (bl_tm i) "java/lang/String" "value" "[B") (.int (Int32.ofNat j))) (.int ((bl_tc.getD i []).getD j 0)) ∈ bl_fl1 := by decide +kernel
theorem bl_g6 : ∀ i, i < 8 → ∀ j, j < 8 → i ≠ j → (Cond.not (Cond.eq (bl_tm i) (bl_tm j)) ∈ bl_fl1 ∨ Cond.not (Cond.eq (bl_tm j) (bl_tm i)) ∈ bl_fl1) := by decide +kernel
theorem bl_g7 : Cond.isRef (.static "jdk/internal/util/Preconditions" "SIOOBE_FORMATTER" "Ljava/util/function/BiFunction;") ∈ bl_fl1 ∧ Cond.eq (.static "java/lang/String" "COMPACT_STRINGS" "Z") (.int 1) ∈ bl_fl1 := by decide +kernel

theorem bl_g_CLASS_HIGH : (Cond.arrayOf (.static "BonusLadder" "CLASS_HIGH" "[I") .int ∈ bl_fl1 ∧ Cond.eq (.length (.static "BonusLadder" "CLASS_HIGH" "[I")) (.int (Int32.ofNat bl_CH.length)) ∈ bl_fl1) ∧ (∀ j, j < bl_CH.length → Cond.eq (.elem (.static "BonusLadder" "CLASS_HIGH" "[I") (.int (Int32.ofNat j))) (.int (bl_CH.getD j 0)) ∈ bl_fl1) ∧ Cond.laysStatic "BonusLadder" "CLASS_HIGH" "[I" ∈ tables_1 := by decide +kernel
theorem bl_g_SORT_HIGH : (Cond.arrayOf (.static "BonusLadder" "SORT_HIGH" "[I") .int ∈ bl_fl1 ∧ Cond.eq (.length (.static "BonusLadder" "SORT_HIGH" "[I")) (.int (Int32.ofNat bl_SH.length)) ∈ bl_fl1) ∧ (∀ j, j < bl_SH.length → Cond.eq (.elem (.static "BonusLadder" "SORT_HIGH" "[I") (.int (Int32.ofNat j))) (.int (bl_SH.getD j 0)) ∈ bl_fl1) ∧ Cond.laysStatic "BonusLadder" "SORT_HIGH" "[I" ∈ tables_1 := by decide +kernel
theorem bl_g_RULE_LOW : (Cond.arrayOf (.static "BonusLadder" "RULE_LOW" "[I") .int ∈ bl_fl1 ∧ Cond.eq (.length (.static "BonusLadder" "RULE_LOW" "[I")) (.int (Int32.ofNat bl_RL.length)) ∈ bl_fl1) ∧ (∀ j, j < bl_RL.length → Cond.eq (.elem (.static "BonusLadder" "RULE_LOW" "[I") (.int (Int32.ofNat j))) (.int (bl_RL.getD j 0)) ∈ bl_fl1) ∧ Cond.laysStatic "BonusLadder" "RULE_LOW" "[I" ∈ tables_1 := by decide +kernel
theorem bl_g_RULE_HIGH : (Cond.arrayOf (.static "BonusLadder" "RULE_HIGH" "[I") .int ∈ bl_fl1 ∧ Cond.eq (.length (.static "BonusLadder" "RULE_HIGH" "[I")) (.int (Int32.ofNat bl_RH.length)) ∈ bl_fl1) ∧ (∀ j, j < bl_RH.length → Cond.eq (.elem (.static "BonusLadder" "RULE_HIGH" "[I") (.int (Int32.ofNat j))) (.int (bl_RH.getD j 0)) ∈ bl_fl1) ∧ Cond.laysStatic "BonusLadder" "RULE_HIGH" "[I" ∈ tables_1 := by decide +kernel
theorem bl_g_RULE_AT_FIRST : (Cond.arrayOf (.static "BonusLadder" "RULE_AT_FIRST" "[I") .int ∈ bl_fl1 ∧ Cond.eq (.length (.static "BonusLadder" "RULE_AT_FIRST" "[I")) (.int (Int32.ofNat bl_RF.length)) ∈ bl_fl1) ∧ (∀ j, j < bl_RF.length → Cond.eq (.elem (.static "BonusLadder" "RULE_AT_FIRST" "[I") (.int (Int32.ofNat j))) (.int (bl_RF.getD j 0)) ∈ bl_fl1) ∧ Cond.laysStatic "BonusLadder" "RULE_AT_FIRST" "[I" ∈ tables_1 := by decide +kernel
theorem bl_w1 : Cond.initialized "BonusLadder" ∈ tables_1 ∧ Cond.laysStatic "java/lang/String" "COMPACT_STRINGS" "Z" ∈ tables_1 ∧ Cond.initialized "java/lang/String" ∈ tables_1 ∧ Cond.laysStatic "jdk/internal/util/Preconditions" "SIOOBE_FORMATTER" "Ljava/util/function/BiFunction;" ∈ tables_1 ∧ Cond.initialized "jdk/internal/util/Preconditions" ∈ tables_1 ∧ Cond.arrayOver (.object "BonusLadder$Terms") ∈ tables_1 ∧ Cond.arrayOver (.object "BonusLadder$Life") ∈ tables_1 := by decide +kernel
theorem bl_arr {s : State} {args : Array Value} {ty : FieldType} (hp : ∀ C, ty ≠ .object C) (h : (Cond.arrayClass ty).before args s = true) : ∃ cA : ClassId, ArrOfT s cA ty ∧ va_RA s cA ty := by
  obtain ⟨cA, k, comp, h1, h2, h3⟩ := Cond.arrayClass_spec h
  refine ⟨cA, fun n z => ⟨fun k h => (by cases h), k, h2, comp, h3⟩, ?_⟩
  cases ty with
  | object C => exact absurd rfl (hp C)
  | _ => exact h1
theorem bl_arq {s : State} {args : Array Value} {C : String} (h : (Cond.arrayOver (.object C)).before args s = true) : ∃ cA : ClassId, ArrOfT s cA (.object C) ∧ va_RA s cA (.object C) := by
  obtain ⟨comp, c, k, h1, h2, h3, h4, h5⟩ := Cond.arrayOver_spec h
  exact ⟨c, fun n z => ⟨fun k h => (by cases h), k, h3, comp, h4⟩, k, comp, h3, h4, h1, h5⟩
theorem bl_cls {s : State} {args : Array Value} (hts : ∀ w ∈ bl_tb, w.before args s = true) : ∃ D : va_G, ∀ (k : Nat) (q : vw_C), vwCl[k]? = some q → u_Kn s q.1 q.2.1 q.2.2 (D.1 k) (D.2 k) := by
  have h : ∀ k : Nat, ∃ r : ClassId × (Nat → Nat), ∀ q : vw_C, vwCl[k]? = some q → u_Kn s q.1 q.2.1 q.2.2 r.1 r.2 := by
    intro k
    match k with
    | 0 =>
      obtain ⟨c, i, h⟩ := u_known (C := RX0) (T := TX0) (N := 1) (n := 1) hts in_X0 (hts _ iN_X0)
      exact ⟨(c, i), fun q hq => by cases hq; exact h⟩
    | 1 =>
      obtain ⟨c, i, h⟩ := u_known (C := RX1) (T := TX1) (N := 4) (n := 4) hts in_X1 (hts _ iN_X1)
      exact ⟨(c, i), fun q hq => by cases hq; exact h⟩
    | 2 =>
      obtain ⟨c, i, h⟩ := u_known (C := RX2) (T := TX2) (N := 15) (n := 15) hts in_X2 (hts _ iN_X2)
      exact ⟨(c, i), fun q hq => by cases hq; exact h⟩
    | 3 =>
      obtain ⟨c, i, h⟩ := u_known (C := RX3) (T := TX3) (N := 8) (n := 8) hts in_X3 (hts _ iN_X3)
      exact ⟨(c, i), fun q hq => by cases hq; exact h⟩
    | 4 =>
      obtain ⟨c, i, h⟩ := u_known (C := RX4) (T := TX4) (N := 12) (n := 12) hts in_X4 (hts _ iN_X4)
      exact ⟨(c, i), fun q hq => by cases hq; exact h⟩
    | 5 =>
      obtain ⟨c, i, h⟩ := u_known (C := RX5) (T := TX5) (N := 2) (n := 2) hts in_X5 (hts _ iN_X5)
      exact ⟨(c, i), fun q hq => by cases hq; exact h⟩
    | 6 =>
      obtain ⟨c, i, h⟩ := u_known (C := RX6) (T := TX6) (N := 4) (n := 4) hts in_X6 (hts _ iN_X6)
      exact ⟨(c, i), fun q hq => by cases hq; exact h⟩
    | 7 =>
      obtain ⟨c, i, h⟩ := u_known (C := RX7) (T := TX7) (N := 6) (n := 6) hts in_X7 (hts _ iN_X7)
      exact ⟨(c, i), fun q hq => by cases hq; exact h⟩
    | 8 =>
      obtain ⟨c, i, h⟩ := u_known (C := RX8) (T := TX8) (N := 5) (n := 5) hts in_X8 (hts _ iN_X8)
      exact ⟨(c, i), fun q hq => by cases hq; exact h⟩
    | 9 =>
      obtain ⟨c, i, h⟩ := u_known (C := RX9) (T := TX9) (N := 13) (n := 13) hts in_X9 (hts _ iN_X9)
      exact ⟨(c, i), fun q hq => by cases hq; exact h⟩
    | 10 =>
      obtain ⟨c, i, h⟩ := u_known (C := RX10) (T := TX10) (N := 28) (n := 28) hts in_X10 (hts _ iN_X10)
      exact ⟨(c, i), fun q hq => by cases hq; exact h⟩
    | k + 11 =>
      obtain ⟨c, i, -⟩ := u_known (C := RX0) (T := TX0) (N := 1) (n := 1) hts in_X0 (hts _ iN_X0)
      exact ⟨(c, i), fun q hq => by simp [vwCl] at hq⟩
  obtain ⟨f, hf⟩ := Classical.axiomOfChoice h
  exact ⟨(fun k => (f k).1, fun k => (f k).2), hf⟩
def bl_s0 : bl_St := (fun _ _ => 0, fun _ _ => 0, fun _ _ => 0)
def bl_s1 : bl_St := q_X10_init (q_X9_init bl_s0)
/-- what is left: of numbers alone -/
def bl_Pure : Prop := bl_WT bl_s1 ∧ ∃ σ1, f_X10_starts bl_s1 140 = some ((), σ1) ∧ ∀ (xs : Nat → Int32) (L : Nat), L ≤ 3584 → ∃ σ2, bl_fx (fun _ _ _ _ => none) (b_L_law_18 xs L) bl_fu σ1 0 139 0 = some (1, σ2)
/-- the launch's start: g, and where the walk stands -/
theorem bl_begin {p : Program} {s : State} {m : MethodId} {meth : Method} {c : Code} {b L : Nat} {xs : Nat → Int32} (C0 : lw_At p s m meth c b L xs) : ∃ g : bl_Gp, bl_L g ∧ bl_b g = s.heap.size ∧ bl_Cx g p s m #[Value.ref b] meth c code 4 RL := by
  obtain ⟨hx, hb, hr, hml, hown, hts, hX, hbl, hlocks, hgv⟩ := C0
  have hfl : ∀ w ∈ bl_fl1, w.before #[Value.ref b] s = true := flat_of_before _ hgv
  have htb : ∀ w ∈ tables_1, w.before #[Value.ref b] s = true := fun w h => hts w (List.mem_append_right _ h)
  have hgd : ∀ w ∈ bl_tb, w.before #[Value.ref b] s = true := fun w h => hts w (bl_tb_good h).1
  obtain ⟨D, hD⟩ := bl_cls hgd
  obtain ⟨a0, h00, h01⟩ := bl_arr (ty := .int) (fun C h => by cases h) (hgd _ aw_int)
  obtain ⟨a1, h10, h11⟩ := bl_arr (ty := .long) (fun C h => by cases h) (hgd _ aw_long)
  obtain ⟨a2, h20, h21⟩ := bl_arr (ty := .byte) (fun C h => by cases h) (hgd _ aw_byte)
  obtain ⟨a3, h30, h31⟩ := bl_arr (ty := .boolean) (fun C h => by cases h) (hgd _ aw_boolean)
  obtain ⟨a4, h40, h41⟩ := bl_arq (C := "BonusLadder$Terms") (htb _ bl_w1.2.2.2.2.2.1)
  obtain ⟨a5, h50, h51⟩ := bl_arq (C := "BonusLadder$Life") (htb _ bl_w1.2.2.2.2.2.2)
  have hA0 : ∀ a : Nat, a < s.heap.size → ¬ (fun q : Nat => s.heap.size ≤ q) a := fun a h z => by have z : s.heap.size ≤ a := z; omega
  obtain ⟨adK, adV, hS, hev⟩ := vk_Sof (N := 8) (tm := bl_tm) (len := bl_tl) (byt := bl_tc) (A := fun q : Nat => s.heap.size ≤ q) (fun i hi => by have := bl_tl_lt i hi; omega) (fun i hi => hfl _ (bl_g1 i hi)) (fun i hi => hfl _ (bl_g2 i hi)) (fun i hi => hfl _ (bl_g3 i hi)) (fun i hi => hfl _ (bl_g4 i hi)) (fun i hi j hj => hfl _ (bl_g5 i hi j hj)) (fun i j hi hj hne => (bl_g6 i hi j hj hne).elim (fun h => Or.inl (hfl _ h)) (fun h => Or.inr (hfl _ h))) hA0
  refine ⟨(s.heap.size, fun i => s.heap.size + i, D, fun k => if k = 0 then a0 else if k = 1 then a1 else if k = 2 then a2 else if k = 3 then a3 else if k = 4 then a4 else a5, adK, adV), fun i => rfl, rfl, ?_⟩
  generalize hg : ((s.heap.size, fun i => s.heap.size + i, D, fun k => if k = 0 then a0 else if k = 1 then a1 else if k = 2 then a2 else if k = 3 then a3 else if k = 4 then a4 else a5, adK, adV) : bl_Gp) = g
  have hA : ∀ a : Nat, a < s.heap.size → ¬ bl_A g a := by rw [← hg]; exact hA0
  refine ⟨hx, hb, hml, hown, hgd, ⟨?_, ?_⟩, ?_, hlocks⟩
  · rw [← hg]; exact hD
  · rw [← hg]
    intro k q hk
    match k, hk with
    | 0, hk => cases hk; exact ⟨h00, h01⟩
    | 1, hk => cases hk; exact ⟨h10, h11⟩
    | 2, hk => cases hk; exact ⟨h20, h21⟩
    | 3, hk => cases hk; exact ⟨h30, h31⟩
    | 4, hk => cases hk; exact ⟨h40, h41⟩
    | 5, hk => cases hk; exact ⟨h50, h51⟩
    | k + 6, hk => simp [bl_tys] at hk
  · have ini := htb _ bl_w1.1
    refine ⟨⟨?_, ?_, ?_, ?_, ?_⟩, fun q h => va_Nw.of rfl (htb _ (bl_nF_in q h)), fun q h => va_Nw.of rfl (htb _ (bl_nM_in q h)), by rw [← hg]; exact hS, ?_, ⟨?_, ?_⟩, va_AO.of (htb _ bl_w1.2.2.2.2.2.1), va_AO.of (htb _ bl_w1.2.2.2.2.2.2), ?_⟩
    · exact bl_saof (by decide) (htb _ bl_g_CLASS_HIGH.2.2) ini (hfl _ bl_g_CLASS_HIGH.1.1) (hfl _ bl_g_CLASS_HIGH.1.2) (fun j hj => hfl _ (bl_g_CLASS_HIGH.2.1 j hj)) hA
    · exact bl_saof (by decide) (htb _ bl_g_SORT_HIGH.2.2) ini (hfl _ bl_g_SORT_HIGH.1.1) (hfl _ bl_g_SORT_HIGH.1.2) (fun j hj => hfl _ (bl_g_SORT_HIGH.2.1 j hj)) hA
    · exact bl_saof (by decide) (htb _ bl_g_RULE_LOW.2.2) ini (hfl _ bl_g_RULE_LOW.1.1) (hfl _ bl_g_RULE_LOW.1.2) (fun j hj => hfl _ (bl_g_RULE_LOW.2.1 j hj)) hA
    · exact bl_saof (by decide) (htb _ bl_g_RULE_HIGH.2.2) ini (hfl _ bl_g_RULE_HIGH.1.1) (hfl _ bl_g_RULE_HIGH.1.2) (fun j hj => hfl _ (bl_g_RULE_HIGH.2.1 j hj)) hA
    · exact bl_saof (by decide) (htb _ bl_g_RULE_AT_FIRST.2.2) ini (hfl _ bl_g_RULE_AT_FIRST.1.1) (hfl _ bl_g_RULE_AT_FIRST.1.2) (fun j hj => hfl _ (bl_g_RULE_AT_FIRST.2.1 j hj)) hA
    · intro j q hq
      have hj : j < 8 := (List.getElem?_eq_some_iff.mp hq).1
      have e : bl_tx.getD j (0, "") = q := by rw [List.getD_eq_getElem?_getD, hq]; rfl
      have h2 := hev j hj
      unfold bl_tm at h2
      rw [e] at h2
      rw [← hg]
      exact vk_R.of (htb _ (bl_tx_in q (List.mem_of_getElem? hq))) h2
    · exact va_Zof (htb _ bl_w1.2.1) (htb _ bl_w1.2.2.1) (va_eqi (hfl _ bl_g7.2)) hA
    · exact va_Zqof (htb _ bl_w1.2.2.2.1) (htb _ bl_w1.2.2.2.2.1) (hfl _ bl_g7.1) hA
    · rw [← hg]
      exact ⟨fun i j _ _ h => by have h : s.heap.size + i = s.heap.size + j := h; omega, fun i _ => by show s.heap.size ≤ s.heap.size + i; omega⟩
set_option maxHeartbeats 4000000 in
set_option maxRecDepth 100000 in
/-- THE LAW, from its entry, out of what is said of numbers alone -/
theorem whole_open (hp : bl_Pure) {p : Program} {e : Env} {s : State} {m : MethodId} {below : List Frame} {meth : Method} {c : Code} (l : Launch) {b L : Nat} {xs : Nat → Int32} (hL3 : L ≤ 3584) (C0 : lw_At p s m meth c b L xs) : W p l e room_1 s m #[Value.ref b] below meth c s.heap [] 0 0 (lw_Z below #[Value.ref b] s) (entryFrame m ([Value.ref b] : List Value).toArray 4) := by
  obtain ⟨hw, σ1, hf1, hlaw⟩ := hp
  obtain ⟨σ2, hf2⟩ := hlaw xs L hL3
  obtain ⟨g, hL, hg, X⟩ := bl_begin C0
  obtain ⟨-, -, hr, -, -, -, hX, hbl, -, -⟩ := id C0
  have hbA : ¬ bl_A g b := fun h => by have h : bl_b g ≤ b := h; omega
  have hl := lv_entry ([.ref b]) (n := 4) (Nat.le_of_ble_eq_true rfl)
  rw [lg_entry_eq]
  generalize (lg_sl ([.ref b]) ++ List.replicate (4 - (lg_sl ([.ref b])).length) Slot.unset).toArray = ls at hl ⊢
  have hl : lv_has ls 4 [(0, .ref b)] := hl
  have V : bl_N g s 0 bl_s0 s.heap [] := ⟨⟨fun k q h => by simp [bl_ws] at h, by rw [hg]; rfl, fun i _ k => ⟨rfl, rfl, rfl⟩⟩, va_S.rf⟩
  refine bl_nnew (ci := 9) (N := 13) hL X V rfl kN_L_7 (Nat.le_of_ble_eq_true rfl) (Nat.le_of_ble_eq_true rfl) dL_law_0 (fun H V => ?_)
  have V : bl_N g s 1 _ _ _ := V
  refine lv_dup X.1 X.2.1 dL_law_3 rfl ?_
  refine bl_ck (As := []) (rest := [.ref (bl_ad g 0)]) X V hl.1 ml_L_9 mI_X9_init (t_X9_init l g hL bl_s0) rfl rfl ⟨Nat.le_of_ble_eq_true rfl, Nat.le_of_ble_eq_true rfl⟩ rfl rfl (Nat.le_of_ble_eq_true rfl) ⟨Nat.le_of_ble_eq_true rfl, Nat.le_of_ble_eq_true rfl⟩ dL_law_4 (fun H locs V => ?_)
  refine lv_astore_n (lv' := [(1, .ref (bl_ad g 0)), (0, .ref b)]) X.1 X.2.1 dL_law_7 rfl hl (by decide) rfl (fun ls hl => ?_)
  refine bl_nnew (ci := 10) (N := 28) hL X V rfl kN_L_10 (Nat.le_of_ble_eq_true rfl) (Nat.le_of_ble_eq_true rfl) dL_law_8 (fun H V => ?_)
  have V : bl_N g s 140 _ _ _ := V
  refine lv_dup X.1 X.2.1 dL_law_11 rfl ?_
  refine va_callv (va_runI (As := []) (rest := [.ref (bl_ad g 139)]) (b := bl_ad g 139) ⟨X.1, X.2.1, X.2.2.1, X.2.2.2.1, X.2.2.2.2.1⟩ (t_X10_init l g hL (q_X9_init bl_s0) σ1 hw hf1) (cwI 0 X.2.2.2.2.1 (bl_gC mI_X10_init.2.2.1) rfl rfl rfl (X.2.2.2.2.1 _ mI_X10_init.2.1) (X.2.2.2.2.1 _ ml_L_12) (X.2.2.2.2.1 _ mI_X10_init.1) mI_X10_init.2.2.2.1 ⟨mI_X10_init.2.2.2.2.1, mI_X10_init.2.2.2.2.2.1, mI_X10_init.2.2.2.2.2.2⟩ ⟨Nat.le_of_ble_eq_true rfl, Nat.le_of_ble_eq_true rfl⟩) ⟨bl_blind0 g 140 _ _, fun U hU hW => ⟨rfl, bl_pre0 X V U hU hW⟩⟩ rfl rfl hl.1 rfl (lv_room (Nat.le_of_ble_eq_true rfl)) dL_law_12 ⟨Nat.le_of_ble_eq_true rfl, Nat.le_of_ble_eq_true rfl⟩) V.2 (fun q _ h => h) (fun q h => h) (fun u t H1 locs1 ht _ hp hb _ _ hS => ?_)
  cases hp
  have hb : bl_P g σ1 t.heap := hb
  rw [ht] at hb
  have V : bl_V g s σ1 H1 locs1 := ⟨hb, hS⟩
  refine lv_astore_n (lv' := [(2, .ref (bl_ad g 139)), (1, .ref (bl_ad g 0)), (0, .ref b)]) X.1 X.2.1 dL_law_15 rfl hl (by decide) rfl (fun ls hl => ?_)
  refine lv_iconst (v := 0) X.1 X.2.1 dL_law_16 (by decide) ?_
  refine lv_istore_n (lv' := [(3, .int 0), (2, .ref (bl_ad g 139)), (1, .ref (bl_ad g 0)), (0, .ref b)]) X.1 X.2.1 dL_law_17 rfl hl (by decide) rfl (fun ls hl => ?_)
  exact l_L_law_18 (out := (1, σ2)) rfl hX hbl hbA hg X hr bl_fu σ1 0 139 0 rfl rfl hf2 _ _ _ V (lv_sub hl [3, 2, 1, 0] rfl)
