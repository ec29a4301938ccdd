/-! ===== terms: what classes, sorts and rules are, in numbers; both sides hold them ===== -/
abbrev tm_V : Type := (Nat × Nat) × (Nat → Nat) × (Nat → Nat) × (Nat × Nat × Nat)
abbrev tN (v : tm_V) : Nat := v.1.1
abbrev tK (v : tm_V) : Nat := v.1.2
abbrev tC (v : tm_V) : Nat → Nat := v.2.1
abbrev tS (v : tm_V) : Nat → Nat := v.2.2.1
abbrev tH (v : tm_V) : Nat := v.2.2.2.1
abbrev tO (v : tm_V) : Nat := v.2.2.2.2.1
abbrev tW (v : tm_V) : Nat := v.2.2.2.2.2
/-- bounds -/
def TOk (v : tm_V) : Prop :=
  (tN v ≤ 8 ∧ tK v ≤ 5 ∧ (tN v = 0 ↔ tK v = 0)) ∧
  (∀ c, c < tN v → tC v (5 * c) ≤ 999 ∧ (∀ j, j < 3 → tC v (5 * c + 1 + j) < tN v) ∧ tC v (5 * c + 4) ≤ 99) ∧
  (∀ s, s < tK v → (1 ≤ tS v (2 * s) ∧ tS v (2 * s) ≤ 999) ∧ 1 ≤ tS v (2 * s + 1) ∧ tS v (2 * s + 1) ≤ 9) ∧
  (1 ≤ tH v ∧ tH v ≤ 3) ∧ tO v ≤ 12 ∧ tW v ≤ 99
/-- the class's Terms at t -/
def TX (σ : bl_St) (t : Nat) (v : tm_V) : Prop :=
  (bl_R σ t 2 = t + 1 ∧ bl_R σ t 3 = t + 2 ∧ bl_R σ t 4 = t + 3) ∧ (bl_I σ t 0 = nI (tN v) ∧ bl_I σ t 1 = nI (tK v)) ∧
  (∀ i, i < 5 * tN v → bl_I σ (t + 1) i = nI (tC v i)) ∧ (∀ i, i < 2 * tK v → bl_I σ (t + 2) i = nI (tS v i)) ∧
  (bl_I σ (t + 3) 0 = nI (tH v) ∧ bl_I σ (t + 3) 1 = nI (tO v) ∧ bl_I σ (t + 3) 2 = nI (tW v))
/-- the reference's row, from place o on -/
def TM (σ : bl_St) (a o : Nat) (v : tm_V) : Prop :=
  (bl_I σ a o = nI (tN v) ∧ bl_I σ a (o + 1) = nI (tK v)) ∧ (bl_I σ a (o + 2) = nI (tH v) ∧ bl_I σ a (o + 3) = nI (tO v) ∧ bl_I σ a (o + 4) = nI (tW v)) ∧
  (∀ i, i < 5 * tN v → bl_I σ a (o + 5 + i) = nI (tC v i)) ∧ (∀ i, i < 2 * tK v → bl_I σ a (o + 45 + i) = nI (tS v i))
def tm_A (v : tm_V) : Nat → Nat
  | 0 => 0
  | s + 1 => tm_A v s + tS v (2 * s + 1)
/-- all weights -/
abbrev tA (v : tm_V) : Nat := tm_A v (tK v)
/-- the class behind, by losses that count -/
def tB (v : tm_V) (c t : Nat) : Nat := tC v (5 * c + 1 + min 2 t)
/-- what a told loss pays -/
def tP (v : tm_V) (s : Nat) : Nat := min (tW v) (tS v (2 * s))
section TRM
variable {σ : bl_St} {t : Nat} {v : tm_V}
theorem TOk.n8 (h : TOk v) : tN v ≤ 8 := h.1.1
theorem TOk.k5 (h : TOk v) : tK v ≤ 5 := h.1.2.1
theorem TOk.cp (h : TOk v) {i : Nat} (hi : i < 5 * tN v) : tC v i ≤ 999 := by
  have hc : i / 5 < tN v := by omega
  obtain ⟨h1, h2, h3⟩ := h.2.1 (i / 5) hc
  have hm : i % 5 < 5 := Nat.mod_lt _ (by decide)
  have he : i = 5 * (i / 5) + i % 5 := by omega
  have h8 := h.1.1
  generalize i / 5 = c at *
  generalize i % 5 = r at *
  subst he
  rcases (show r = 0 ∨ r = 1 ∨ r = 2 ∨ r = 3 ∨ r = 4 by omega) with rfl | rfl | rfl | rfl | rfl
  · exact h1
  · have := h2 0 (by decide); simp at this; omega
  · have := h2 1 (by decide); simp [Nat.add_assoc] at this; omega
  · have := h2 2 (by decide); simp [Nat.add_assoc] at this; omega
  · omega
theorem TOk.sp (h : TOk v) {i : Nat} (hi : i < 2 * tK v) : 1 ≤ tS v i ∧ tS v i ≤ 999 := by
  have hc : i / 2 < tK v := by omega
  obtain ⟨h1, h2⟩ := h.2.2.1 (i / 2) hc
  have hm : i % 2 < 2 := Nat.mod_lt _ (by decide)
  have he : i = 2 * (i / 2) + i % 2 := by omega
  generalize i / 2 = c at *
  generalize i % 2 = r at *
  subst he
  rcases (show r = 0 ∨ r = 1 by omega) with rfl | rfl
  · exact h1
  · omega
theorem x_hasClass (h : TX σ t v) (ok : TOk v) (c : Int32) : f_X8_hasClass σ t c = some (if vC c (tN v) then 1 else 0, σ) := by
  have h8 := ok.n8
  unfold f_X8_hasClass
  rw [h.2.1.1]
  simp only [lt0_iff, leN_iff c (show tN v < 2 ^ 31 by omega), vC]
  by_cases h1 : c.toInt < 0
  · rw [if_pos h1, if_neg (by omega)]
  · rw [if_neg h1]
    by_cases h2 : (tN v : Int) ≤ c.toInt
    · rw [if_pos h2, if_neg (by omega)]
    · rw [if_neg h2, if_pos (by omega)]
theorem x_hasSort (h : TX σ t v) (ok : TOk v) (c : Int32) : f_X8_hasSort σ t c = some (if vC c (tK v) then 1 else 0, σ) := by
  have h8 := ok.k5
  unfold f_X8_hasSort
  rw [h.2.1.2]
  simp only [lt0_iff, leN_iff c (show tK v < 2 ^ 31 by omega), vC]
  by_cases h1 : c.toInt < 0
  · rw [if_pos h1, if_neg (by omega)]
  · rw [if_neg h1]
    by_cases h2 : (tK v : Int) ≤ c.toInt
    · rw [if_pos h2, if_neg (by omega)]
    · rw [if_neg h2, if_pos (by omega)]
theorem x_part (h : TX σ t v) (ok : TOk v) {c w : Nat} (hc : c < tN v) (hw : w < 5) : f_X8_part σ t (nI c) (nI w) = some (nI (tC v (5 * c + w)), σ) := by
  have h8 := ok.n8
  unfold f_X8_part
  rw [nI_lit 5, nI_mul, nI_add, in_nI (by omega) (by omega), gd_true, h.1.1, nI_clamp (by omega), h.2.2.1 _ (by omega)]
  rw [Nat.mul_comm c 5]
theorem x_sortPart (h : TX σ t v) (ok : TOk v) {s w : Nat} (hs : s < tK v) (hw : w < 2) : f_X8_sortPart σ t (nI s) (nI w) = some (nI (tS v (2 * s + w)), σ) := by
  have h8 := ok.k5
  unfold f_X8_sortPart
  rw [nI_lit 2, nI_mul, nI_add, in_nI (by omega) (by omega), gd_true, h.1.2.1, nI_clamp (by omega), h.2.2.2.1 _ (by omega)]
  rw [Nat.mul_comm s 2]
theorem nI_min2 {a : Nat} (ha : a < 2 ^ 31) : (if nI a < nI 2 then nI a else nI 2) = nI (min 2 a) := by
  by_cases h : a < 2
  · rw [if_pos (nI_lt h (by decide)), Nat.min_eq_right (by omega)]
  · rw [if_neg (nI_nlt (by omega) ha), Nat.min_eq_left (by omega)]
theorem x_next (h : TX σ t v) (ok : TOk v) {c k : Nat} (hc : c < tN v) (hk : k < 2 ^ 31) : f_X8_next σ t (nI c) (nI k) = some (nI (tB v c k), σ) := by
  have h8 := ok.n8
  unfold f_X8_next
  rw [nI_lit 5, nI_lit 1, nI_lit 2, nI_min2 hk, nI_mul, nI_add, nI_add, in_nI (by omega) (by omega), gd_true, h.1.1, nI_clamp (by omega), h.2.2.1 _ (by omega), tB]
  rw [Nat.mul_comm c 5]
theorem tB_lt (ok : TOk v) {c : Nat} (k : Nat) (hc : c < tN v) : tB v c k < tN v := (ok.2.1 c hc).2.1 (min 2 k) (by omega)
theorem x_chances (h : TX σ t v) : f_X8_chances σ t = some (nI (tH v), σ) := by
  unfold f_X8_chances
  rw [h.1.2.2, h.2.2.2.2.1]
theorem x_odds (h : TX σ t v) : f_X8_odds σ t = some (nI (tO v), σ) := by
  unfold f_X8_odds
  rw [h.1.2.2, h.2.2.2.2.2.1]
theorem x_own (h : TX σ t v) : f_X8_own σ t = some (nI (tW v), σ) := by
  unfold f_X8_own
  rw [h.1.2.2, h.2.2.2.2.2.2]
theorem x_ownOf (h : TX σ t v) (ok : TOk v) {s : Nat} (hs : s < tK v) : f_X8_ownOf σ t (nI s) = some (nI (tP v s), σ) := by
  have h1 := (ok.2.2.1 s hs).1
  have h2 := ok.2.2.2.2.2
  unfold f_X8_ownOf
  rw [x_own h, bd_some, nI_lit 0, x_sortPart h ok hs (by decide), bd_some]
  unfold tP
  rw [Nat.add_zero]
  by_cases hlt : tS v (2 * s) < tW v
  · rw [if_pos (nI_lt hlt (by omega)), Nat.min_eq_right (by omega)]
  · rw [if_neg (nI_nlt (by omega) (by omega)), Nat.min_eq_left (by omega)]
theorem tm_A_le (ok : TOk v) : ∀ s, s ≤ tK v → tm_A v s ≤ 9 * s
  | 0, _ => Nat.le_refl 0
  | s + 1, h => by
    have := tm_A_le ok s (by omega)
    have h2 := (ok.2.2.1 s (by omega)).2
    show tm_A v s + tS v (2 * s + 1) ≤ 9 * (s + 1)
    omega
theorem tm_A_ge (ok : TOk v) : ∀ s, s ≤ tK v → s ≤ tm_A v s
  | 0, _ => Nat.le_refl 0
  | s + 1, h => by
    have := tm_A_ge ok s (by omega)
    have h2 := (ok.2.2.1 s (by omega)).2
    show s + 1 ≤ tm_A v s + tS v (2 * s + 1)
    omega
theorem x_allW_loop (h : TX σ t v) (ok : TOk v) : ∀ (r s : Nat), s + r = tK v → ∀ n, r < n → bl_fx (fun _ _ _ _ => none) (b_X8_allWeights_4) n σ t (nI (tm_A v s)) (nI s) = some (nI (tA v), σ) := by
  have h8 := ok.k5
  intro r
  induction r with
  | zero =>
    intro s hs n hn
    obtain ⟨n, rfl⟩ : ∃ m, n = m + 1 := ⟨n - 1, by omega⟩
    have hs : s = tK v := by omega
    subst hs
    rw [fx_succ]
    unfold b_X8_allWeights_4
    rw [h.2.1.2, if_pos (nI_le (Nat.le_refl _) (by omega))]
  | succ r ih =>
    intro s hs n hn
    obtain ⟨n, rfl⟩ : ∃ m, n = m + 1 := ⟨n - 1, by omega⟩
    rw [fx_succ]
    unfold b_X8_allWeights_4
    rw [h.2.1.2, if_neg (nI_ge (by omega) (by omega)), nI_lit 1, x_sortPart h ok (by omega) (by decide), bd_some, let_eq, let_eq, nI_add, nI_add]
    exact ih (s + 1) (by omega) n (by omega)
theorem x_allWeights (h : TX σ t v) (ok : TOk v) : f_X8_allWeights σ t = some (nI (tA v), σ) := by
  have h8 := ok.k5
  unfold f_X8_allWeights
  exact x_allW_loop h ok (tK v) 0 (by omega) bl_fu (by unfold bl_fu; omega)
/-! the reference's -/
variable {m a : Nat}
theorem m_isClass (hR : bl_R σ m 1 = a) (h : TM σ a 0 v) (ok : TOk v) (c : Int32) : f_X10_isClass σ m c = some (if vC c (tN v) then 1 else 0, σ) := by
  have h8 := ok.n8
  unfold f_X10_isClass
  rw [m_in, bd_some, gd_of bo_if, hR, h.1.1, i2l_toInt, i2l_toInt, sub1_toInt (by omega)]
  have e : (0 : Int64).toInt = 0 := rfl
  simp only [e, vC]
  congr 2
  by_cases hc : 0 ≤ c.toInt ∧ c.toInt ≤ (tN v : Int) - 1
  · rw [if_pos hc, if_pos (by omega)]
  · rw [if_neg hc, if_neg (by omega)]
theorem m_isSort (hR : bl_R σ m 1 = a) (h : TM σ a 0 v) (ok : TOk v) (c : Int32) : f_X10_isSort σ m c = some (if vC c (tK v) then 1 else 0, σ) := by
  have h8 := ok.k5
  unfold f_X10_isSort
  have e1 := h.1.2
  rw [Nat.zero_add] at e1
  rw [m_in, bd_some, gd_of bo_if, hR, e1, i2l_toInt, i2l_toInt, sub1_toInt (by omega)]
  have e : (0 : Int64).toInt = 0 := rfl
  simp only [e, vC]
  congr 2
  by_cases hc : 0 ≤ c.toInt ∧ c.toInt ≤ (tK v : Int) - 1
  · rw [if_pos hc, if_pos (by omega)]
  · rw [if_neg hc, if_neg (by omega)]
theorem m_ofClass (hR : bl_R σ m 1 = a) (h : TM σ a 0 v) (ok : TOk v) {c w : Nat} (hc : c < tN v) (hw : w < 5) : f_X10_ofClass σ m (nI c) (nI w) = some (nI (tC v (5 * c + w)), σ) := by
  have h8 := ok.n8
  unfold f_X10_ofClass
  have e := h.2.2.1 (5 * c + w) (by omega)
  rw [show 0 + 5 + (5 * c + w) = 5 + 5 * c + w by omega] at e
  rw [nI_lit 5, nI_mul, nI_add, nI_add, in_nI (by omega) (by omega), gd_true, hR, nI_clamp (by omega), e]
theorem m_size (hR : bl_R σ m 1 = a) (h : TM σ a 0 v) (ok : TOk v) {s : Nat} (hs : s < tK v) : f_X10_size σ m (nI s) = some (nI (tS v (2 * s)), σ) := by
  have h8 := ok.k5
  unfold f_X10_size
  have e := h.2.2.2 (2 * s) (by omega)
  rw [show 0 + 45 + 2 * s = 45 + 2 * s by omega] at e
  rw [nI_lit 45, nI_lit 2, nI_mul, nI_add, in_nI (by omega) (by omega), gd_true, hR, nI_clamp (by omega), e]
theorem m_weight (hR : bl_R σ m 1 = a) (h : TM σ a 0 v) (ok : TOk v) {s : Nat} (hs : s < tK v) : f_X10_weight σ m (nI s) = some (nI (tS v (2 * s + 1)), σ) := by
  have h8 := ok.k5
  unfold f_X10_weight
  have e := h.2.2.2 (2 * s + 1) (by omega)
  rw [show 0 + 45 + (2 * s + 1) = 45 + 2 * s + 1 by omega] at e
  rw [nI_lit 45, nI_lit 2, nI_mul, nI_add, nI_1, in_nI (by omega) (by omega), gd_true, hR, nI_clamp (by omega), e]
theorem m_weights_loop (hR : bl_R σ m 1 = a) (h : TM σ a 0 v) (ok : TOk v) : ∀ (r s : Nat), s + r = tK v → ∀ n, r < n → bl_fx (fun _ _ _ _ => none) (b_X10_weights_4) n σ m (nI (tm_A v s)) (nI s) = some (nI (tA v), σ) := by
  have h8 := ok.k5
  have e1 := h.1.2
  rw [Nat.zero_add] at e1
  intro r
  induction r with
  | zero =>
    intro s hs n hn
    obtain ⟨n, rfl⟩ : ∃ m, n = m + 1 := ⟨n - 1, by omega⟩
    have hs : s = tK v := by omega
    subst hs
    rw [fx_succ]
    unfold b_X10_weights_4
    rw [hR, e1, if_pos (nI_le (Nat.le_refl _) (by omega))]
  | succ r ih =>
    intro s hs n hn
    obtain ⟨n, rfl⟩ : ∃ m, n = m + 1 := ⟨n - 1, by omega⟩
    rw [fx_succ]
    unfold b_X10_weights_4
    rw [hR, e1, if_neg (nI_ge (by omega) (by omega)), m_weight hR h ok (by omega), bd_some, let_eq, let_eq, nI_add, nI_1]
    exact ih (s + 1) (by omega) n (by omega)
theorem m_weights (hR : bl_R σ m 1 = a) (h : TM σ a 0 v) (ok : TOk v) : f_X10_weights σ m = some (nI (tA v), σ) := by
  have h8 := ok.k5
  unfold f_X10_weights
  exact m_weights_loop hR h ok (tK v) 0 (by omega) bl_fu (by unfold bl_fu; omega)
theorem m_behind (hR : bl_R σ m 1 = a) (h : TM σ a 0 v) (ok : TOk v) {c k : Nat} (hc : c < tN v) (hk : k < 2 ^ 31) : f_X10_behind σ m (nI c) (nI k) = some (nI (tB v c k), σ) := by
  unfold f_X10_behind tB
  by_cases h2 : k ≤ 2
  · rw [nI_lit 2, nI_lit 1, if_pos (nI_le h2 (by decide)), nI_add, m_ofClass hR h ok hc (by omega), bd_some, Nat.min_eq_right h2, Nat.add_assoc]
  · rw [nI_lit 2, nI_lit 1, if_neg (nI_ge (by omega) hk), nI_add, m_ofClass hR h ok hc (by omega), bd_some, Nat.min_eq_left (by omega), Nat.add_assoc]
theorem m_toldPays (hR : bl_R σ m 1 = a) (h : TM σ a 0 v) (ok : TOk v) {s : Nat} (hs : s < tK v) : f_X10_toldPays σ m (nI s) = some (nI (tP v s), σ) := by
  have h1 := (ok.2.2.1 s hs).1
  have h2 := ok.2.2.2.2.2
  have e1 := h.2.1.2.2
  rw [Nat.zero_add] at e1
  unfold f_X10_toldPays tP
  rw [m_size hR h ok hs, bd_some, hR, e1]
  by_cases hlt : tS v (2 * s) ≤ tW v
  · rw [if_pos (nI_le hlt (by omega)), m_size hR h ok hs, bd_some, Nat.min_eq_right (by omega)]
  · rw [if_neg (nI_ge (by omega) (by omega)), Nat.min_eq_left (by omega)]
end TRM
