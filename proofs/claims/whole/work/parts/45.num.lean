/-! ===== numbers ===== -/
theorem bd_some {α β : Type} (a : α) (σ : bl_St) (k : α → bl_St → Option β) : bl_bd (some (a, σ)) k = k a σ := rfl
theorem let_eq {α β : Type} (e : α) (k : α → Option β) : bl_let e k = k e := rfl
theorem gd_true {β : Type} (k : Option β) : bl_gd true k = k := rfl
theorem gd_of {β : Type} {b : Bool} {k : Option β} (h : b = true) : bl_gd b k = k := by rw [h]; rfl
theorem fx_succ {F : Type} (bot : F) (step : F → F) (n : Nat) : bl_fx bot step (n + 1) = step (bl_fx bot step n) := rfl
theorem fu_succ : bl_fu = 19999 + 1 := rfl
abbrev vC (c : Int32) (n : Nat) : Prop := 0 ≤ c.toInt ∧ c.toInt < (n : Int)
theorem vC_of {c : Int32} {n : Nat} (hn : n ≤ 2 ^ 31) (h : vC c n) : ∃ k, k < n ∧ c = nI k := by
  have h0 : ¬ c < 0 := by
    rw [Int32.lt_iff_toInt_lt]
    have := h.1
    simpa using this
  obtain ⟨j, hj, rfl⟩ := nI_of h0
  refine ⟨j, ?_, rfl⟩
  have := h.2
  rw [nI_toInt hj] at this
  omega
theorem vC_nI {k n : Nat} (h : k < n) (hn : n ≤ 2 ^ 31) : vC (nI k) n := by
  unfold vC
  rw [nI_toInt (by omega)]
  omega
theorem lt0_iff (c : Int32) : c < 0 ↔ c.toInt < 0 := by rw [Int32.lt_iff_toInt_lt]; rfl
theorem ltN_iff (c : Int32) {n : Nat} (hn : n < 2 ^ 31) : c < nI n ↔ c.toInt < (n : Int) := by rw [Int32.lt_iff_toInt_lt, nI_toInt hn]
theorem leN_iff (c : Int32) {n : Nat} (hn : n < 2 ^ 31) : nI n ≤ c ↔ (n : Int) ≤ c.toInt := by rw [Int32.le_iff_toInt_le, nI_toInt hn]
theorem leN_iff' (c : Int32) {n : Nat} (hn : n < 2 ^ 31) : c ≤ nI n ↔ c.toInt ≤ (n : Int) := by rw [Int32.le_iff_toInt_le, nI_toInt hn]
theorem Nlt_iff (c : Int32) {n : Nat} (hn : n < 2 ^ 31) : nI n < c ↔ (n : Int) < c.toInt := by rw [Int32.lt_iff_toInt_lt, nI_toInt hn]
theorem eqN_iff (c : Int32) {n : Nat} (hn : n < 2 ^ 31) : c = nI n ↔ c.toInt = (n : Int) := by rw [← Int32.toInt_inj, nI_toInt hn]
theorem nI_mul (a b : Nat) : nI a * nI b = nI (a * b) := (Int32.ofNat_mul a b).symm
theorem nI_sub {a b : Nat} (h : b ≤ a) : nI a - nI b = nI (a - b) := by
  have e : nI a = nI (a - b) + nI b := by rw [nI_add]; congr 1; omega
  rw [e]
  exact Int32.add_sub_cancel _ _
theorem nI_lit (n : Nat) : (OfNat.ofNat n : Int32) = nI n := rfl
theorem lN_lit (n : Nat) : (OfNat.ofNat n : Int64) = lN n := rfl
theorem nI_inj {a b : Nat} (ha : a < 2 ^ 31) (hb : b < 2 ^ 31) (h : nI a = nI b) : a = b := (nI_eq ha hb).mp h
theorem in_nI {j n : Nat} (h : j < n) (hn : n ≤ 2 ^ 31) : bl_in (nI j) n = true := by
  unfold bl_in
  rw [nI_clamp (by omega)]
  simp only [Bool.and_eq_true, Bool.not_eq_true', decide_eq_false_iff_not, decide_eq_true_eq]
  exact ⟨nI_pos (by omega), h⟩
theorem lN_toI {n : Nat} (h : n < 2 ^ 63) : (lN n).toInt = (n : Int) := Int64.toInt_ofNat_of_lt h
theorem lN_leI {a b : Nat} (ha : a < 2 ^ 63) (hb : b < 2 ^ 63) : lN a ≤ lN b ↔ a ≤ b := by
  rw [Int64.le_iff_toInt_le, lN_toI ha, lN_toI hb]; omega
theorem lN_ltI {a b : Nat} (ha : a < 2 ^ 63) (hb : b < 2 ^ 63) : lN a < lN b ↔ a < b := by
  rw [Int64.lt_iff_toInt_lt, lN_toI ha, lN_toI hb]; omega
theorem lN_eqI {a b : Nat} (ha : a < 2 ^ 63) (hb : b < 2 ^ 63) : lN a = lN b ↔ a = b := by
  rw [← Int64.toInt_inj, lN_toI ha, lN_toI hb]; omega
theorem lN_div {a b : Nat} (ha : a < 2 ^ 63) (hb : b < 2 ^ 63) : lN a / lN b = lN (a / b) := by
  have hd : a / b < 2 ^ 63 := Nat.lt_of_le_of_lt (Nat.div_le_self a b) ha
  apply Int64.toInt_inj.mp
  rw [Int64.toInt_div, lN_toI ha, lN_toI hb, lN_toI hd]
  rw [Int.tdiv_eq_ediv_of_nonneg (by omega)]
  rw [Int.bmod_eq_of_le (by have := Int.ediv_nonneg (a := (a : Int)) (b := (b : Int)) (by omega) (by omega); omega) (by have : (a : Int) / (b : Int) = ((a / b : Nat) : Int) := rfl; rw [this]; omega)]
  rfl
theorem nI_div {a b : Nat} (ha : a < 2 ^ 31) (hb : b < 2 ^ 31) : nI a / nI b = nI (a / b) := by
  have hd : a / b < 2 ^ 31 := Nat.lt_of_le_of_lt (Nat.div_le_self a b) ha
  apply Int32.toInt_inj.mp
  rw [Int32.toInt_div, nI_toInt ha, nI_toInt hb, nI_toInt hd]
  rw [Int.tdiv_eq_ediv_of_nonneg (by omega)]
  rw [Int.bmod_eq_of_le (by have := Int.ediv_nonneg (a := (a : Int)) (b := (b : Int)) (by omega) (by omega); omega) (by have : (a : Int) / (b : Int) = ((a / b : Nat) : Int) := rfl; rw [this]; omega)]
  rfl
theorem nI_mod {a b : Nat} (ha : a < 2 ^ 31) (hb : b < 2 ^ 31) : nI a - nI a / nI b * nI b = nI (a % b) := by
  rw [nI_div ha hb, nI_mul, nI_sub (Nat.div_mul_le_self a b)]
  congr 1
  have := Nat.div_add_mod a b
  rw [Nat.mul_comm] at this
  omega
theorem i2l_toInt (c : Int32) : (Int32.toInt64 c).toInt = c.toInt := Int32.toInt_toInt64 c
theorem sub1_toInt {n : Nat} (hn : n < 2 ^ 31) : (nI n - 1).toInt = (n : Int) - 1 := by
  rcases Nat.eq_zero_or_pos n with rfl | h
  · rfl
  · rw [show (1 : Int32) = nI 1 from rfl, nI_sub h, nI_toInt (by omega)]; omega
/-- of longs: in(v, low, high) -/
theorem m_in (σ : bl_St) (a b c : Int64) : f_X10_in σ a b c = some (if b.toInt ≤ a.toInt ∧ a.toInt ≤ c.toInt then 1 else 0, σ) := by
  unfold f_X10_in
  simp only [Int64.lt_iff_toInt_lt]
  by_cases h1 : a.toInt < b.toInt
  · rw [if_pos h1, if_neg (by omega)]
  · rw [if_neg h1]
    by_cases h2 : c.toInt < a.toInt
    · rw [if_pos h2, if_neg (by omega)]
    · rw [if_neg h2, if_pos (by omega)]
theorem bo_if {P : Prop} {d : Decidable P} : bl_bo (@ite Int32 P d 1 0) = true := by
  by_cases h : P
  · rw [if_pos h]; rfl
  · rw [if_neg h]; rfl
theorem if10_0 {P : Prop} {d : Decidable P} : (@ite Int32 P d 1 0 = 0) ↔ ¬ P := by
  by_cases h : P
  · simp [h]
  · simp [h]
