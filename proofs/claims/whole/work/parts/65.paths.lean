/-! ===== the way down without losses; what can be reached ===== -/
theorem pigeon : ∀ (N : Nat) (g : Nat → Nat), (∀ i, i ≤ N → g i < N) → ∃ i j, i < j ∧ j ≤ N ∧ g i = g j := by
  intro N
  induction N with
  | zero =>
    intro g h
    exact absurd (h 0 (Nat.le_refl _)) (Nat.not_lt_zero _)
  | succ N ih =>
    intro g h
    by_cases hx : ∃ i, i ≤ N ∧ g i = g (N + 1)
    · obtain ⟨i, hi, he⟩ := hx
      exact ⟨i, N + 1, by omega, Nat.le_refl _, he⟩
    · have hne : ∀ i, i ≤ N → g i ≠ g (N + 1) := fun i hi he => hx ⟨i, hi, he⟩
      obtain ⟨i, j, hij, hj, he⟩ := ih (fun i => if g (N + 1) < g i then g i - 1 else g i) (fun i hi => by
        have h1 := h i (by omega)
        have h2 := h (N + 1) (Nat.le_refl _)
        have h3 := hne i hi
        show (if g (N + 1) < g i then g i - 1 else g i) < N
        split <;> omega)
      refine ⟨i, j, hij, by omega, ?_⟩
      have h3 := hne i (by omega)
      have h4 := hne j hj
      split at he <;> split at he <;> omega
/-- years without a loss that counts -/
def pth (v : tm_V) (c : Nat) : Nat → Nat
  | 0 => c
  | n + 1 => tB v (pth v c n) 0
theorem pth_lt {v : tm_V} (ok : TOk v) {c : Nat} (hc : c < tN v) : ∀ n, pth v c n < tN v
  | 0 => hc
  | n + 1 => tB_lt ok 0 (pth_lt ok hc n)
theorem pth_add (v : tm_V) (c a : Nat) : ∀ b, pth v c (a + b) = pth v (pth v c a) b
  | 0 => rfl
  | b + 1 => by
    show tB v (pth v c (a + b)) 0 = tB v (pth v (pth v c a) b) 0
    rw [pth_add v c a b]
theorem pth_near {v : tm_V} (ok : TOk v) {c : Nat} (hc : c < tN v) : ∀ n, ∃ m, m < tN v ∧ pth v c m = pth v c n := by
  obtain ⟨i, j, hij, hj, he⟩ := pigeon (tN v) (pth v c) (fun i _ => pth_lt ok hc i)
  intro n
  induction n using Nat.strongRecOn with
  | ind n ih =>
    by_cases hn : n < tN v
    · exact ⟨n, hn, rfl⟩
    · obtain ⟨m, hm, e⟩ := ih (i + (n - j)) (by omega)
      refine ⟨m, hm, e.trans ?_⟩
      rw [pth_add, he, ← pth_add]
      congr 1
      omega
section PTH
variable {s : st_V} {n : Nat}
theorem op_years (ok : SOk s n) (c w : Int32) : Both n s (fun σ => f_X9_years σ 0 c w) (fun τ => f_X10_years τ 139 c w) := by
  have h8 := ok.1.n8
  rcases (Classical.em (vC c (tN (sv s)) ∧ vC w (tN (sv s)))).symm with hb | hb
  · refine Both.same ok (-1) (fun σ hx => ⟨σ, ?_, hx⟩) (fun τ hm => ⟨τ, ?_, hm⟩)
    · show f_X9_years σ 0 c w = _
      unfold f_X9_years
      rw [hx.1.1.1.2.2.1, x_hasClass hx.2.1 ok.1, bd_some]
      by_cases h1 : vC c (tN (sv s))
      · rw [if_pos h1, if_neg (by decide), hx.1.1.1.2.2.1, x_hasClass hx.2.1 ok.1, bd_some, if_neg (show ¬ vC w (tN (sv s)) from fun z => hb ⟨h1, z⟩), if_pos rfl]
      · rw [if_neg h1, if_pos rfl]
    · show f_X10_years τ 139 c w = _
      unfold f_X10_years
      rw [m_isClass hm.1.1.1.1.1 hm.2.1 ok.1, bd_some]
      by_cases h1 : vC c (tN (sv s))
      · rw [if_pos h1, if_neg (by decide), m_isClass hm.1.1.1.1.1 hm.2.1 ok.1, bd_some, if_neg (show ¬ vC w (tN (sv s)) from fun z => hb ⟨h1, z⟩), if_pos rfl]
      · rw [if_neg h1, if_pos rfl]
  obtain ⟨hc, hw⟩ := hb
  obtain ⟨k, hk, rfl⟩ := vC_of (by omega) hc
  obtain ⟨j, hj, rfl⟩ := vC_of (by omega) hw
  have xstart : ∀ σ, XI σ s → f_X9_years σ 0 (nI k) (nI j) = bl_fx (fun _ _ _ _ _ => none) (b_X9_years_29) bl_fu σ 0 (nI j) (nI (pth (sv s) k 0)) (nI 0) := by
    intro σ hx
    unfold f_X9_years
    rw [hx.1.1.1.2.2.1, x_hasClass hx.2.1 ok.1, bd_some, if_pos hc, if_neg (by decide), hx.1.1.1.2.2.1, x_hasClass hx.2.1 ok.1, bd_some, if_pos hw, if_neg (by decide)]
    rfl
  have mstart : ∀ τ, MI τ s → f_X10_years τ 139 (nI k) (nI j) = bl_fx (fun _ _ _ _ _ => none) (b_X10_years_23) bl_fu τ 139 (nI j) (nI (pth (sv s) k 0)) (nI 0) := by
    intro τ hm
    unfold f_X10_years
    rw [m_isClass hm.1.1.1.1.1 hm.2.1 ok.1, bd_some, if_pos hc, if_neg (by decide), m_isClass hm.1.1.1.1.1 hm.2.1 ok.1, bd_some, if_pos hw, if_neg (by decide)]
    rfl
  have xl : ∀ (σ : bl_St), XI σ s → ∀ (r i m : Nat), i + r = tN (sv s) → r < m → bl_fx (fun _ _ _ _ _ => none) (b_X9_years_29) m σ 0 (nI j) (nI (pth (sv s) k i)) (nI i) = (if i < tN (sv s) then (if pth (sv s) k i = j then some (nI i, σ) else bl_fx (fun _ _ _ _ _ => none) (b_X9_years_29) (m - 1) σ 0 (nI j) (nI (pth (sv s) k (i + 1))) (nI (i + 1))) else some (-2, σ)) := by
    intro σ hx r i m hi hm
    obtain ⟨m, rfl⟩ : ∃ q, m = q + 1 := ⟨m - 1, by omega⟩
    have hp := pth_lt ok.1 hk i
    rw [fx_succ]
    show (if bl_I σ (bl_R σ 0 2) 0 ≤ nI i then _ else _) = _
    rw [hx.1.1.1.2.2.1, hx.2.1.2.1.1]
    by_cases h1 : i < tN (sv s)
    · rw [if_neg (nI_ge h1 (by omega)), if_pos h1]
      by_cases h2 : pth (sv s) k i = j
      · rw [if_pos (show nI (pth (sv s) k i) = nI j by rw [h2]), if_pos h2]
      · rw [if_neg (fun z => h2 (nI_inj (by omega) (by omega) z)), if_neg h2, show (0 : Int32) = nI 0 from rfl, x_next hx.2.1 ok.1 hp (by decide), bd_some, let_eq, nI_1]
        rfl
    · rw [if_pos (nI_le (by omega) (by omega)), if_neg h1]
  have ml : ∀ (τ : bl_St), MI τ s → ∀ (i m : Nat), 0 < m → i ≤ 8 → bl_fx (fun _ _ _ _ _ => none) (b_X10_years_23) m τ 139 (nI j) (nI (pth (sv s) k i)) (nI i) = (if i < 8 then (if pth (sv s) k i = j then some (nI i, τ) else bl_fx (fun _ _ _ _ _ => none) (b_X10_years_23) (m - 1) τ 139 (nI j) (nI (pth (sv s) k (i + 1))) (nI (i + 1))) else some (-2, τ)) := by
    intro τ hm i m hm0 hi
    obtain ⟨m, rfl⟩ : ∃ q, m = q + 1 := ⟨m - 1, by omega⟩
    have hp := pth_lt ok.1 hk i
    rw [fx_succ]
    show (if (8 : Int32) ≤ nI i then _ else _) = _
    by_cases h1 : i < 8
    · rw [if_neg (show ¬ (8 : Int32) ≤ nI i from nI_ge (a := i) (b := 8) h1 (by decide)), if_pos h1]
      by_cases h2 : pth (sv s) k i = j
      · rw [if_pos (show nI (pth (sv s) k i) = nI j by rw [h2]), if_pos h2]
      · rw [if_neg (fun z => h2 (nI_inj (by omega) (by omega) z)), if_neg h2, show (0 : Int32) = nI 0 from rfl, m_behind hm.1.1.1.1.1 hm.2.1 ok.1 hp (by decide), bd_some, let_eq, nI_1]
        rfl
    · rw [if_pos (show (8 : Int32) ≤ nI i from nI_le (a := 8) (by omega) (by omega)), if_neg h1]
  by_cases hx : ∃ i, i < tN (sv s) ∧ pth (sv s) k i = j
  · -- the first of them
    obtain ⟨i, hi, he, hmin⟩ : ∃ i, i < tN (sv s) ∧ pth (sv s) k i = j ∧ ∀ i', i' < i → pth (sv s) k i' ≠ j := by
      obtain ⟨i, hi, he⟩ := hx
      induction i using Nat.strongRecOn with
      | ind i ih =>
        by_cases h : ∃ i', i' < i ∧ pth (sv s) k i' = j
        · obtain ⟨i', h1, h2⟩ := h
          exact ih i' h1 (by omega) h2
        · exact ⟨i, hi, he, fun i' h1 h2 => h ⟨i', h1, h2⟩⟩
    refine Both.same ok (nI i) (fun σ hx => ⟨σ, ?_, hx⟩) (fun τ hm => ⟨τ, ?_, hm⟩)
    · show f_X9_years σ 0 (nI k) (nI j) = _
      rw [xstart σ hx]
      have loop : ∀ r q m, q + r = i → tN (sv s) < q + m → bl_fx (fun _ _ _ _ _ => none) (b_X9_years_29) m σ 0 (nI j) (nI (pth (sv s) k q)) (nI q) = some (nI i, σ) := by
        intro r
        induction r with
        | zero =>
          intro q m hq hm
          have hq : q = i := by omega
          rw [xl σ hx (tN (sv s) - q) q m (by omega) (by omega), if_pos (by omega), hq, if_pos he]
        | succ r ih =>
          intro q m hq hm
          rw [xl σ hx (tN (sv s) - q) q m (by omega) (by omega), if_pos (by omega), if_neg (hmin q (by omega))]
          exact ih (q + 1) (m - 1) (by omega) (by omega)
      exact loop i 0 bl_fu (by omega) (by unfold bl_fu; omega)
    · show f_X10_years τ 139 (nI k) (nI j) = _
      rw [mstart τ hm]
      have loop : ∀ r q m, q + r = i → 8 < q + m → bl_fx (fun _ _ _ _ _ => none) (b_X10_years_23) m τ 139 (nI j) (nI (pth (sv s) k q)) (nI q) = some (nI i, τ) := by
        intro r
        induction r with
        | zero =>
          intro q m hq hm2
          have hq : q = i := by omega
          rw [ml τ hm q m (by omega) (by omega), if_pos (by omega), hq, if_pos he]
        | succ r ih =>
          intro q m hq hm2
          rw [ml τ hm q m (by omega) (by omega), if_pos (by omega), if_neg (hmin q (by omega))]
          exact ih (q + 1) (m - 1) (by omega) (by omega)
      exact loop i 0 bl_fu (by omega) (by unfold bl_fu; omega)
  · have hno : ∀ i, pth (sv s) k i ≠ j := fun i he => by
      obtain ⟨m, hm, e⟩ := pth_near ok.1 hk i
      exact hx ⟨m, hm, e.trans he⟩
    refine Both.same ok (-2) (fun σ hx => ⟨σ, ?_, hx⟩) (fun τ hm => ⟨τ, ?_, hm⟩)
    · show f_X9_years σ 0 (nI k) (nI j) = _
      rw [xstart σ hx]
      have loop : ∀ r q m, q + r = tN (sv s) → tN (sv s) < q + m → bl_fx (fun _ _ _ _ _ => none) (b_X9_years_29) m σ 0 (nI j) (nI (pth (sv s) k q)) (nI q) = some (-2, σ) := by
        intro r
        induction r with
        | zero =>
          intro q m hq hm
          rw [xl σ hx (tN (sv s) - q) q m (by omega) (by omega), if_neg (by omega)]
        | succ r ih =>
          intro q m hq hm
          rw [xl σ hx (tN (sv s) - q) q m (by omega) (by omega), if_pos (by omega), if_neg (hno q)]
          exact ih (q + 1) (m - 1) (by omega) (by omega)
      exact loop (tN (sv s)) 0 bl_fu (by omega) (by unfold bl_fu; omega)
    · show f_X10_years τ 139 (nI k) (nI j) = _
      rw [mstart τ hm]
      have loop : ∀ r q m, q + r = 8 → 8 < q + m → bl_fx (fun _ _ _ _ _ => none) (b_X10_years_23) m τ 139 (nI j) (nI (pth (sv s) k q)) (nI q) = some (-2, τ) := by
        intro r
        induction r with
        | zero =>
          intro q m hq hm2
          rw [ml τ hm q m (by omega) (by omega), if_neg (by omega)]
        | succ r ih =>
          intro q m hq hm2
          rw [ml τ hm q m (by omega) (by omega), if_pos (by omega), if_neg (hno q)]
          exact ih (q + 1) (m - 1) (by omega) (by omega)
      exact loop 8 0 bl_fu (by omega) (by unfold bl_fu; omega)
end PTH
/-! sets of classes as bits -/
theorem bit_or : ∀ M, M < 256 → ∀ k, k < 8 → nI M ||| ((1 : Int32) <<< (nI k &&& 31)) = nI (M ||| 2 ^ k) := by decide +kernel
theorem bit_at : ∀ M, M < 256 → ∀ k, k < 8 → ((((nI M >>> (nI k &&& 31)) &&& 1) = 0) ↔ Nat.testBit M k = false) := by decide +kernel
theorem bit_or0 (M L : Nat) : nI M ||| nI L = nI (M ||| L) := by
  apply Int32.toBitVec_inj.mp
  rw [Int32.toBitVec_or]
  simp [nI, Int32.toBitVec_ofNat']
theorem bit_1 : ∀ k, k < 8 → (1 : Int32) <<< (nI k &&& 31) = nI (2 ^ k) := by decide +kernel
theorem or_lt8 {M L : Nat} (h : M < 256) (h2 : L < 256) : M ||| L < 256 := Nat.or_lt_two_pow (n := 8) h h2
theorem p2_lt {k : Nat} (h : k < 8) : 2 ^ k < 256 := Nat.pow_lt_pow_right (m := k) (n := 8) (by decide) h
section RST
variable {s : st_V} {n : Nat}
theorem op_rest (ok : SOk s n) (c : Int32) : Both n s (fun σ => f_X9_rest σ 0 c) (fun τ => f_X10_rest τ 139 c) := by
  have h8 := ok.1.n8
  rcases (Classical.em (vC c (tN (sv s)))).symm with hc | hc
  · refine Both.same ok (-1) (fun σ hx => ⟨σ, ?_, hx⟩) (fun τ hm => ⟨τ, ?_, hm⟩)
    · show f_X9_rest σ 0 c = _
      unfold f_X9_rest
      rw [hx.1.1.1.2.2.1, x_hasClass hx.2.1 ok.1, bd_some, if_neg hc, if_pos rfl]
    · show f_X10_rest τ 139 c = _
      unfold f_X10_rest
      rw [m_isClass hm.1.1.1.1.1 hm.2.1 ok.1, bd_some, if_neg hc, if_pos rfl]
  obtain ⟨k, hk, rfl⟩ := vC_of (by omega) hc
  have hp := fun i => pth_lt ok.1 hk i
  -- in step, from any place at which all so far differ
  intro σ τ hx hm
  have loop : ∀ (r i M m q : Nat), i + r = tN (sv s) + 1 → M < 256 → (∀ d, Nat.testBit M d = true ↔ ∃ a, a < i ∧ pth (sv s) k a = d) → (∀ a b, a < b → b < i → pth (sv s) k a ≠ pth (sv s) k b) → r < m → r < q → ∃ a, bl_fx (fun _ _ _ _ _ => none) (b_X9_rest_20) m σ 0 (nI M) (nI (pth (sv s) k i)) (nI i) = some (a, σ) ∧ bl_fx (fun _ _ _ _ => none) (b_X10_rest_14) q τ 139 (nI M) (nI (pth (sv s) k i)) = some (a, τ) := by
    intro r
    induction r with
    | zero =>
      intro i M m q hi hM hT hD hm1 hq1
      exfalso
      obtain ⟨a, b, hab, hb, he⟩ := pigeon (tN (sv s)) (pth (sv s) k) (fun i _ => hp i)
      exact hD a b hab (by omega) he
    | succ r ih =>
      intro i M m q hi hM hT hD hm1 hq1
      obtain ⟨m, rfl⟩ : ∃ z, m = z + 1 := ⟨m - 1, by omega⟩
      obtain ⟨q, rfl⟩ : ∃ z, q = z + 1 := ⟨q - 1, by omega⟩
      have hpi := hp i
      have hb := bit_at M hM (pth (sv s) k i) (by omega)
      rw [fx_succ, fx_succ]
      by_cases ht : Nat.testBit M (pth (sv s) k i) = false
      · obtain ⟨a, e1, e2⟩ := ih (i + 1) (M ||| 2 ^ (pth (sv s) k i)) m q (by omega) (or_lt8 hM (p2_lt (by omega))) (fun d => by
          rw [Nat.testBit_or, Nat.testBit_two_pow]
          simp only [Bool.or_eq_true, decide_eq_true_eq]
          constructor
          · rintro (h | h)
            · obtain ⟨a, h1, h2⟩ := (hT d).mp h
              exact ⟨a, by omega, h2⟩
            · exact ⟨i, by omega, h⟩
          · rintro ⟨a, h1, h2⟩
            by_cases hai : a = i
            · exact Or.inr (by rw [← hai]; exact h2)
            · exact Or.inl ((hT d).mpr ⟨a, by omega, h2⟩)) (fun a b hab hbi => by
          by_cases hbe : b = i
          · intro he
            have : Nat.testBit M (pth (sv s) k i) = true := (hT _).mpr ⟨a, by omega, by rw [he, hbe]⟩
            rw [this] at ht
            cases ht
          · exact hD a b hab (by omega)) (by omega) (by omega)
        refine ⟨a, ?_, ?_⟩
        · show (if bl_I σ (bl_R σ 0 2) 0 < nI i then _ else _) = _
          rw [hx.1.1.1.2.2.1, hx.2.1.2.1.1, if_neg (nI_nlt (by omega) (by omega)), if_pos (hb.mpr ht), let_eq, bit_or M hM _ (by omega), show (0 : Int32) = nI 0 from rfl, x_next hx.2.1 ok.1 hpi (by decide), bd_some, let_eq, nI_1]
          exact e1
        · show (if ((nI M >>> (nI (pth (sv s) k i) &&& 31)) &&& 1) = 0 then _ else _) = _
          rw [if_pos (hb.mpr ht), let_eq, bit_or M hM _ (by omega), show (0 : Int32) = nI 0 from rfl, m_behind hm.1.1.1.1.1 hm.2.1 ok.1 hpi (by decide), bd_some]
          exact e2
      · refine ⟨nI (pth (sv s) k i), ?_, ?_⟩
        · show (if bl_I σ (bl_R σ 0 2) 0 < nI i then _ else _) = _
          rw [hx.1.1.1.2.2.1, hx.2.1.2.1.1, if_neg (nI_nlt (by omega) (by omega)), if_neg (fun z => ht (hb.mp z))]
        · show (if ((nI M >>> (nI (pth (sv s) k i) &&& 31)) &&& 1) = 0 then _ else _) = _
          rw [if_neg (fun z => ht (hb.mp z))]
  obtain ⟨a, e1, e2⟩ := loop (tN (sv s) + 1) 0 0 bl_fu bl_fu (by omega) (by omega) (fun d => by simp) (fun a b _ h => by omega) (by unfold bl_fu; omega) (by unfold bl_fu; omega)
  refine ⟨a, s, σ, τ, ?_, ?_, hx, hm, ok.up⟩
  · show f_X9_rest σ 0 (nI k) = _
    unfold f_X9_rest
    rw [hx.1.1.1.2.2.1, x_hasClass hx.2.1 ok.1, bd_some, if_pos hc, if_neg (by decide)]
    exact e1
  · show f_X10_rest τ 139 (nI k) = _
    unfold f_X10_rest
    rw [m_isClass hm.1.1.1.1.1 hm.2.1 ok.1, bd_some, if_pos hc, if_neg (by decide)]
    exact e2
end RST
