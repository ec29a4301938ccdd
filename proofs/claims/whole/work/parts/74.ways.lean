/-! ===== ways, moves, spread ===== -/
def bnm (H : Nat) : Nat → Nat
  | 0 => 1
  | i + 1 => bnm H i * (H - i) / (i + 1)
def prw (O x f : Nat) : Nat → Nat
  | 0 => f
  | i + 1 => prw O x f i * (if i < x then O else 12 - O)
def pwn (a : Nat) : Nat → Nat
  | 0 => 1
  | k + 1 => pwn a k * a
/-- in how many ways so many losses come, of 12 to the chances -/
def wN (v : tm_V) (x : Nat) : Nat := if tH v < x then 0 else (if x = 0 ∨ x = tH v then 1 else tH v) * pwn (tO v) x * pwn (12 - tO v) (tH v - x)
theorem wN_x (v : tm_V) (ok : TOk v) {x : Nat} (hx : x ≤ tH v) : prw (tO v) x (bnm (tH v) x) (tH v) = wN v x := by
  obtain ⟨h1, h3⟩ := ok.2.2.2.1
  unfold wN
  rw [if_neg (by omega)]
  generalize tH v = H at *
  generalize tO v = O at *
  rcases (show H = 1 ∨ H = 2 ∨ H = 3 by omega) with rfl | rfl | rfl
  · rcases (show x = 0 ∨ x = 1 by omega) with rfl | rfl <;> simp [prw, bnm, pwn]
  · rcases (show x = 0 ∨ x = 1 ∨ x = 2 by omega) with rfl | rfl | rfl <;> simp [prw, bnm, pwn]
  · rcases (show x = 0 ∨ x = 1 ∨ x = 2 ∨ x = 3 by omega) with rfl | rfl | rfl | rfl <;> simp [prw, bnm, pwn, Nat.mul_assoc]
theorem bnm_le : ∀ H, H ≤ 3 → ∀ i, i ≤ 3 → bnm H i ≤ 6 := by decide
section WAY
variable {s : st_V} {n : Nat} {σ τ : bl_St}
theorem x_waysOf (hx : XI σ s) (ok : SOk s n) {x : Nat} (hx3 : x ≤ 3) : f_X9_waysOf σ 0 (nI x) = some (nI (wN (sv s) x), σ) := by
  have hH := ok.1.2.2.2.1
  have hO := ok.1.2.2.2.2.1
  unfold f_X9_waysOf
  rw [hx.1.1.1.2.2.1, x_chances hx.2.1, bd_some]
  by_cases hle : x ≤ tH (sv s)
  · rw [if_pos (nI_le hle (by omega)), ← wN_x (sv s) ok.1 hle]
    have l47 : ∀ (r i m : Nat), i + r = tH (sv s) → r < m → bl_fx (fun _ _ _ _ _ _ => none) (b_X9_waysOf_47) m σ 0 (nI x) (nI (tH (sv s))) (nI (prw (tO (sv s)) x (bnm (tH (sv s)) x) i)) (nI i) = some (nI (prw (tO (sv s)) x (bnm (tH (sv s)) x) (tH (sv s))), σ) := by
      intro r
      induction r with
      | zero =>
        intro i m hi hm
        obtain ⟨m, rfl⟩ : ∃ z, m = z + 1 := ⟨m - 1, by omega⟩
        have hi : i = tH (sv s) := by omega
        rw [hi, fx_succ]
        show (if nI (tH (sv s)) ≤ nI (tH (sv s)) then _ else _) = _
        rw [if_pos (nI_le (Nat.le_refl _) (by omega))]
      | succ r ih =>
        intro i m hi hm
        obtain ⟨m, rfl⟩ : ∃ z, m = z + 1 := ⟨m - 1, by omega⟩
        have key := ih (i + 1) m (by omega) (by omega)
        rw [fx_succ]
        show (if nI (tH (sv s)) ≤ nI i then _ else _) = _
        rw [if_neg (nI_ge (by omega) (by omega)), hx.1.1.1.2.2.1, x_odds hx.2.1, bd_some, bd_some]
        unfold b_X9_waysOf_80
        simp only [let_eq, nI_1, show (12 : Int32) = nI 12 from rfl]
        rw [nI_sub hO, nI_mul, nI_mul]
        have e : prw (tO (sv s)) x (bnm (tH (sv s)) x) (i + 1) = prw (tO (sv s)) x (bnm (tH (sv s)) x) i * (if i < x then tO (sv s) else 12 - tO (sv s)) := rfl
        rw [e] at key
        by_cases hix : i < x
        · rw [if_neg (nI_ge hix (by omega))]
          rw [if_pos hix] at key
          exact key
        · rw [if_pos (nI_le (by omega) (by omega))]
          rw [if_neg hix] at key
          exact key
    have l20 : ∀ (r i m : Nat), i + r = x → r < m → bl_fx (fun _ _ _ _ _ _ => none) (b_X9_waysOf_20) m σ 0 (nI x) (nI (tH (sv s))) (nI (bnm (tH (sv s)) i)) (nI i) = some (nI (prw (tO (sv s)) x (bnm (tH (sv s)) x) (tH (sv s))), σ) := by
      intro r
      induction r with
      | zero =>
        intro i m hi hm
        obtain ⟨m, rfl⟩ : ∃ z, m = z + 1 := ⟨m - 1, by omega⟩
        have hi : i = x := by omega
        rw [hi, fx_succ]
        show (if nI x ≤ nI x then _ else _) = _
        rw [if_pos (nI_le (Nat.le_refl _) (by omega))]
        exact l47 (tH (sv s)) 0 bl_fu (by omega) (by unfold bl_fu; omega)
      | succ r ih =>
        intro i m hi hm
        obtain ⟨m, rfl⟩ : ∃ z, m = z + 1 := ⟨m - 1, by omega⟩
        have key := ih (i + 1) m (by omega) (by omega)
        have hb := bnm_le (tH (sv s)) hH.2 i (by omega)
        have hb2 : bnm (tH (sv s)) i * (tH (sv s) - i) ≤ 6 * 3 := Nat.mul_le_mul hb (by omega)
        have hz : ¬ nI (i + 1) = 0 := nI_ne0 (by omega) (by omega)
        rw [fx_succ]
        show (if nI x ≤ nI i then _ else _) = _
        rw [if_neg (nI_ge (by omega) (by omega)), nI_1, gd_of (by simp [hz]), let_eq, let_eq, nI_sub (by omega), nI_mul, nI_div (by omega) (by omega)]
        exact key
    exact l20 x 0 bl_fu (by omega) (by unfold bl_fu; omega)
  · rw [if_neg (nI_ge (by omega) (by omega))]
    unfold wN
    rw [if_pos (by omega)]
    rfl
theorem m_power (τ : bl_St) (a k : Nat) (hk : k < 100) : f_X10_power τ (lN a) (nI k) = some (lN (pwn a k), τ) := by
  have loop : ∀ (r i m : Nat), i + r = k → r < m → bl_fx (fun _ _ _ _ _ => none) (b_X10_power_5) m τ (lN a) (nI k) (lN (pwn a i)) (nI i) = some (lN (pwn a k), τ) := by
    intro r
    induction r with
    | zero =>
      intro i m hi hm
      obtain ⟨m, rfl⟩ : ∃ z, m = z + 1 := ⟨m - 1, by omega⟩
      have hi : i = k := by omega
      rw [hi, fx_succ]
      show (if nI k ≤ nI k then _ else _) = _
      rw [if_pos (nI_le (Nat.le_refl _) (by omega))]
    | succ r ih =>
      intro i m hi hm
      obtain ⟨m, rfl⟩ : ∃ z, m = z + 1 := ⟨m - 1, by omega⟩
      rw [fx_succ]
      show (if nI k ≤ nI i then _ else _) = _
      rw [if_neg (nI_ge (by omega) (by omega)), let_eq, let_eq, lN_mul, nI_1]
      exact ih (i + 1) m (by omega) (by omega)
  unfold f_X10_power
  exact loop k 0 bl_fu (by omega) (by unfold bl_fu; omega)
theorem m_waysOf (hm : MI τ s) (ok : SOk s n) {x : Nat} (hx3 : x ≤ 3) : f_X10_waysOf τ 139 (nI x) = some (lN (wN (sv s) x), τ) := by
  have hH := ok.1.2.2.2.1
  have hO := ok.1.2.2.2.2.1
  obtain ⟨e2, e3, -⟩ := hm.2.1.2.1
  simp only [Nat.zero_add] at e2 e3
  unfold f_X10_waysOf wN
  rw [hm.1.1.1.1.1, e2, let_eq]
  by_cases hle : x ≤ tH (sv s)
  · rw [if_pos (nI_le hle (by omega)), if_neg (show ¬ tH (sv s) < x by omega)]
    have k29 : ∀ ch, b_X10_waysOf_29 τ 139 (nI x) (nI (tH (sv s))) (lN ch) = some (lN (ch * pwn (tO (sv s)) x * pwn (12 - tO (sv s)) (tH (sv s) - x)), τ) := by
      intro ch
      unfold b_X10_waysOf_29
      rw [hm.1.1.1.1.1, e3, nI_l (by omega), m_power τ _ x (by omega), bd_some, hm.1.1.1.1.1, e3, show (12 : Int32) = nI 12 from rfl, nI_sub hO, nI_l (by omega), nI_sub hle, m_power τ _ _ (by omega), bd_some, lN_mul, lN_mul]
    unfold b_X10_waysOf_23
    by_cases h0 : x = 0
    · rw [if_pos ((nI_is0 (by omega)).mpr h0), if_pos (Or.inl h0)]
      exact k29 1
    · rw [if_neg (fun z => h0 ((nI_is0 (by omega)).mp z))]
      by_cases h1 : x = tH (sv s)
      · rw [if_pos (show nI x = nI (tH (sv s)) by rw [h1]), if_pos (Or.inr h1)]
        exact k29 1
      · rw [if_neg (fun z => h1 (nI_inj (by omega) (by omega) z)), if_neg (by omega), nI_l (by omega)]
        exact k29 (tH (sv s))
  · rw [if_neg (nI_ge (by omega) (by omega)), if_pos (by omega)]
    rfl
theorem op_ways (ok : SOk s n) (x : Int32) : Both n s (fun σ => f_X9_ways σ 0 x) (fun τ => f_X10_ways τ 139 x) := by
  have h8 := ok.1.n8
  rcases (Classical.em (vR x 0 3 ∧ 0 < tN (sv s))).symm with hb | hb
  · refine Both.same ok (-1) (fun σ hx => ⟨σ, ?_, hx⟩) (fun τ hm => ⟨τ, ?_, hm⟩)
    · show f_X9_ways σ 0 x = _
      unfold f_X9_ways
      rw [hx.1.1.1.2.2.1, hx.2.1.2.1.1]
      by_cases h1 : x < 0
      · rw [if_pos h1]
      rw [if_neg h1]
      by_cases h2 : (3 : Int32) < x
      · rw [if_pos h2]
      rw [if_neg h2, if_pos ((nI_is0 (by omega)).mpr (by
        rcases Nat.eq_zero_or_pos (tN (sv s)) with z | z
        · exact z
        · exact absurd ⟨⟨by rw [lt0_iff] at h1; omega, by rw [show (3 : Int32) = nI 3 from rfl, Nlt_iff x (by decide)] at h2; omega⟩, z⟩ hb))]
    · show f_X10_ways τ 139 x = _
      unfold f_X10_ways
      have e0 := hm.2.1.1.1
      rw [hm.1.1.1.1.1, e0]
      by_cases h1 : tN (sv s) = 0
      · rw [h1, if_pos (by decide)]
      · rw [if_neg (show ¬ nI (tN (sv s)) ≤ 0 from nI_nle (by omega) (by omega)), show (0 : Int64) = lN 0 from rfl, show (3 : Int64) = lN 3 from rfl, m_inN τ x (by decide) (by decide), bd_some, if_neg (show ¬ vR x 0 3 from fun z => hb ⟨z, by omega⟩), if_pos rfl]
  obtain ⟨hv, hN⟩ := hb
  obtain ⟨k, rfl, -, hk⟩ := vR_of (by decide) hv
  refine Both.same ok (nI (wN (sv s) k)) (fun σ hx => ⟨σ, ?_, hx⟩) (fun τ hm => ⟨τ, ?_, hm⟩)
  · show f_X9_ways σ 0 (nI k) = _
    unfold f_X9_ways
    rw [hx.1.1.1.2.2.1, hx.2.1.2.1.1, if_neg (nI_pos (by omega)), if_neg (show ¬ (3 : Int32) < nI k from nI_nlt (a := 3) hk (by omega)), if_neg (fun z => by rw [nI_is0 (by omega)] at z; omega), x_waysOf hx ok hk, bd_some]
  · show f_X10_ways τ 139 (nI k) = _
    unfold f_X10_ways
    have e0 := hm.2.1.1.1
    rw [hm.1.1.1.1.1, e0, if_neg (show ¬ nI (tN (sv s)) ≤ 0 from nI_nle hN (by omega)), show (0 : Int64) = lN 0 from rfl, show (3 : Int64) = lN 3 from rfl, m_inN τ (nI k) (by decide) (by decide), bd_some, if_pos hv, if_neg (by decide), m_waysOf hm ok hk, bd_some, l2i]
/-- in how many ways one comes from a class to a class -/
def mvf (v : tm_V) (a b x : Nat) : Nat := if tB v a x = b then wN v x else 0
def mvN (v : tm_V) (a b : Nat) : Nat := sm (mvf v a b) 4
theorem mvN_x (v : tm_V) (ok : TOk v) (f : Nat → Nat) (hf : ∀ x, tH v < x → f x = 0) : sm f 4 = sm f (tH v + 1) := by
  obtain ⟨h1, h3⟩ := ok.2.2.2.1
  rcases (show tH v = 1 ∨ tH v = 2 ∨ tH v = 3 by omega) with h | h | h
  · rw [h]
    show 0 + f 0 + f 1 + f 2 + f 3 = 0 + f 0 + f 1
    rw [hf 2 (by omega), hf 3 (by omega)]
    omega
  · rw [h]
    show 0 + f 0 + f 1 + f 2 + f 3 = 0 + f 0 + f 1 + f 2
    rw [hf 3 (by omega)]
    omega
  · rw [h]
theorem wN_0 (v : tm_V) {x : Nat} (h : tH v < x) : wN v x = 0 := by unfold wN; rw [if_pos h]
theorem m_movesOf (hm : MI τ s) (ok : SOk s n) {a b : Nat} (ha : a < tN (sv s)) (hb : b < tN (sv s)) : f_X10_movesOf τ 139 (nI a) (nI b) = some (lN (mvN (sv s) a b), τ) := by
  have h8 := ok.1.n8
  have loop : ∀ (r x m : Nat), x + r = 4 → r < m → bl_fx (fun _ _ _ _ _ _ => none) (b_X10_movesOf_5) m τ 139 (nI a) (nI b) (lN (sm (mvf (sv s) a b) x)) (nI x) = some (lN (mvN (sv s) a b), τ) := by
    intro r
    induction r with
    | zero =>
      intro x m hx hm1
      obtain ⟨m, rfl⟩ : ∃ z, m = z + 1 := ⟨m - 1, by omega⟩
      have hx : x = 4 := by omega
      rw [hx, fx_succ]
      show (if (4 : Int32) ≤ nI 4 then _ else _) = _
      rw [if_pos (by decide)]
      rfl
    | succ r ih =>
      intro x m hx hm1
      obtain ⟨m, rfl⟩ : ∃ z, m = z + 1 := ⟨m - 1, by omega⟩
      have key := ih (x + 1) m (by omega) (by omega)
      have ht := tB_lt ok.1 x ha
      have e : sm (mvf (sv s) a b) (x + 1) = sm (mvf (sv s) a b) x + (if tB (sv s) a x = b then wN (sv s) x else 0) := rfl
      rw [e] at key
      rw [fx_succ]
      show (if (4 : Int32) ≤ nI x then _ else _) = _
      rw [if_neg (show ¬ (4 : Int32) ≤ nI x from nI_ge (a := x) (b := 4) (by omega) (by decide)), m_behind hm.1.1.1.1.1 hm.2.1 ok.1 ha (by omega), bd_some]
      unfold b_X10_movesOf_31
      by_cases h1 : tB (sv s) a x = b
      · rw [if_pos (show nI (tB (sv s) a x) = nI b by rw [h1]), m_waysOf hm ok (by omega), bd_some, let_eq, let_eq, lN_add, nI_1]
        rw [if_pos h1] at key
        exact key
      · rw [if_neg (fun z => h1 (nI_inj (by omega) (by omega) z)), let_eq, nI_1]
        rw [if_neg h1] at key
        exact key
  unfold f_X10_movesOf
  exact loop 4 0 bl_fu (by omega) (by unfold bl_fu; omega)
theorem op_moves (ok : SOk s n) (c w : Int32) : Both n s (fun σ => f_X9_moves σ 0 c w) (fun τ => f_X10_moves τ 139 c w) := by
  have h8 := ok.1.n8
  have hH := ok.1.2.2.2.1
  rcases (Classical.em (vC c (tN (sv s)) ∧ vC w (tN (sv s)))).symm with hb | hb
  · refine Both.same ok (-1) (fun σ hx => ⟨σ, ?_, hx⟩) (fun τ hm => ⟨τ, ?_, hm⟩)
    · show f_X9_moves σ 0 c w = _
      unfold f_X9_moves
      rw [hx.1.1.1.2.2.1, x_hasClass hx.2.1 ok.1, bd_some]
      by_cases h1 : vC c (tN (sv s))
      · rw [if_pos h1, if_neg (by decide), hx.1.1.1.2.2.1, x_hasClass hx.2.1 ok.1, bd_some, if_neg (show ¬ vC w (tN (sv s)) from fun z => hb ⟨h1, z⟩), if_pos rfl]
      · rw [if_neg h1, if_pos rfl]
    · show f_X10_moves τ 139 c w = _
      unfold f_X10_moves
      rw [m_isClass hm.1.1.1.1.1 hm.2.1 ok.1, bd_some]
      by_cases h1 : vC c (tN (sv s))
      · rw [if_pos h1, if_neg (by decide), m_isClass hm.1.1.1.1.1 hm.2.1 ok.1, bd_some, if_neg (show ¬ vC w (tN (sv s)) from fun z => hb ⟨h1, z⟩), if_pos rfl]
      · rw [if_neg h1, if_pos rfl]
  obtain ⟨hc, hw⟩ := hb
  obtain ⟨a, ha, rfl⟩ := vC_of (by omega) hc
  obtain ⟨b, hb', rfl⟩ := vC_of (by omega) hw
  refine Both.same ok (nI (mvN (sv s) a b)) (fun σ hx => ⟨σ, ?_, hx⟩) (fun τ hm => ⟨τ, ?_, hm⟩)
  · show f_X9_moves σ 0 (nI a) (nI b) = _
    have em : mvN (sv s) a b = sm (mvf (sv s) a b) (tH (sv s) + 1) := mvN_x (sv s) ok.1 _ (fun x hx => by unfold mvf; rw [wN_0 _ hx]; split <;> rfl)
    have loop : ∀ (r x m : Nat), x + r = tH (sv s) + 1 → r < m → bl_fx (fun _ _ _ _ _ _ => none) (b_X9_moves_29) m σ 0 (nI a) (nI b) (nI (sm (mvf (sv s) a b) x)) (nI x) = some (nI (mvN (sv s) a b), σ) := by
      intro r
      induction r with
      | zero =>
        intro x m hx2 hm1
        obtain ⟨m, rfl⟩ : ∃ z, m = z + 1 := ⟨m - 1, by omega⟩
        have hx2 : x = tH (sv s) + 1 := by omega
        rw [hx2, fx_succ]
        unfold b_X9_moves_29
        rw [hx.1.1.1.2.2.1, x_chances hx.2.1, bd_some, if_pos (nI_lt (by omega) (by omega)), em]
      | succ r ih =>
        intro x m hx2 hm1
        obtain ⟨m, rfl⟩ : ∃ z, m = z + 1 := ⟨m - 1, by omega⟩
        have key := ih (x + 1) m (by omega) (by omega)
        have ht := tB_lt ok.1 x ha
        have e : sm (mvf (sv s) a b) (x + 1) = sm (mvf (sv s) a b) x + (if tB (sv s) a x = b then wN (sv s) x else 0) := rfl
        rw [e] at key
        rw [fx_succ]
        unfold b_X9_moves_29 b_X9_moves_64
        rw [hx.1.1.1.2.2.1, x_chances hx.2.1, bd_some, if_neg (nI_nlt (by omega) (by omega)), hx.1.1.1.2.2.1, x_next hx.2.1 ok.1 ha (by omega), bd_some]
        by_cases h1 : tB (sv s) a x = b
        · rw [if_pos (show nI (tB (sv s) a x) = nI b by rw [h1]), x_waysOf hx ok (by omega), bd_some, let_eq, let_eq, nI_add, nI_1]
          rw [if_pos h1] at key
          exact key
        · rw [if_neg (fun z => h1 (nI_inj (by omega) (by omega) z)), let_eq, nI_1]
          rw [if_neg h1] at key
          exact key
    unfold f_X9_moves
    rw [hx.1.1.1.2.2.1, x_hasClass hx.2.1 ok.1, bd_some, if_pos hc, if_neg (by decide), hx.1.1.1.2.2.1, x_hasClass hx.2.1 ok.1, bd_some, if_pos hw, if_neg (by decide)]
    exact loop (tH (sv s) + 1) 0 bl_fu (by omega) (by unfold bl_fu; omega)
  · show f_X10_moves τ 139 (nI a) (nI b) = _
    unfold f_X10_moves
    rw [m_isClass hm.1.1.1.1.1 hm.2.1 ok.1, bd_some, if_pos hc, if_neg (by decide), m_isClass hm.1.1.1.1.1 hm.2.1 ok.1, bd_some, if_pos hw, if_neg (by decide), m_movesOf hm ok ha hb', bd_some, l2i]
/-! spread -/
theorem sm_add (f g : Nat → Nat) : ∀ k, sm (fun i => f i + g i) k = sm f k + sm g k
  | 0 => rfl
  | k + 1 => by
    show sm (fun i => f i + g i) k + (f k + g k) = sm f k + f k + (sm g k + g k)
    rw [sm_add f g k]
    omega
theorem sm_mul (c : Nat) (f : Nat → Nat) : ∀ k, sm (fun i => c * f i) k = c * sm f k
  | 0 => rfl
  | k + 1 => by
    show sm (fun i => c * f i) k + c * f k = c * (sm f k + f k)
    rw [sm_mul c f k, Nat.mul_add]
theorem sm_zero : ∀ k, sm (fun _ => 0) k = 0
  | 0 => rfl
  | k + 1 => by show sm (fun _ => 0) k + 0 = 0; rw [sm_zero k]
theorem sm_swap (f : Nat → Nat → Nat) (M : Nat) : ∀ k, sm (fun x => sm (fun a => f x a) M) k = sm (fun a => sm (fun x => f x a) k) M
  | 0 => (sm_zero M).symm
  | k + 1 => by
    show sm (fun x => sm (fun a => f x a) M) k + sm (fun a => f k a) M = sm (fun a => sm (fun x => f x a) k + f k a) M
    rw [sm_swap f M k, sm_add]
/-- a year of spreading -/
def spY (v : tm_V) (now : Nat → Nat) (b : Nat) : Nat := sm (fun a => now a * mvN v a b) (tN v)
def spf (v : tm_V) (now : Nat → Nat) (b x a : Nat) : Nat := if tB v a x = b then now a * wN v x else 0
theorem spY_x (v : tm_V) (ok : TOk v) (now : Nat → Nat) (b : Nat) : sm (fun x => sm (fun a => spf v now b x a) (tN v)) (tH v + 1) = spY v now b := by
  rw [← mvN_x v ok (fun x => sm (fun a => spf v now b x a) (tN v)) (fun x hx => by
    show sm (fun a => spf v now b x a) (tN v) = 0
    rw [← sm_zero (tN v)]
    refine sm_congr _ (fun i _ => ?_)
    unfold spf
    rw [wN_0 v hx]
    split <;> simp)]
  rw [sm_swap]
  unfold spY
  refine sm_congr _ (fun a _ => ?_)
  show sm (fun x => spf v now b x a) 4 = now a * mvN v a b
  unfold mvN
  rw [← sm_mul]
  refine sm_congr _ (fun x _ => ?_)
  unfold spf mvf
  split
  · rfl
  · simp
def spN (v : tm_V) (c : Nat) : Nat → Nat → Nat
  | 0, b => if b = c then 1 else 0
  | k + 1, b => spY v (spN v c k) b
abbrev spS (i : Nat) : Prop := i = 137 ∨ i = 138
theorem XI.sp {σ1 : bl_St} (h : XI σ s) (j : Jo spS σ σ1) : XI σ1 s :=
  h.scr j.ko.kq (fun i hi => by unfold spS at hi; omega) (h.1.kq j.ko.kq (fun i hi => by unfold spS; omega))
theorem x_spreadYear (hx : XI σ s) (ok : SOk s n) {now : Nat → Nat} (hn : ∀ b, b < tN (sv s) → bl_J σ 137 b = lN (now b)) : ∃ σ1, f_X9_spreadOneYear σ 0 = some ((), σ1) ∧ Jo spS σ σ1 ∧ ∀ b, b < tN (sv s) → bl_J σ1 137 b = lN (spY (sv s) now b) := by
  have h8 := ok.1.n8
  have hH := ok.1.2.2.2.1
  obtain ⟨P, hP⟩ : ∃ P : Nat → Nat → Nat, P = fun X b => sm (fun x => sm (fun a => spf (sv s) now b x a) (tN (sv s))) X := ⟨_, rfl⟩
  have l42 : ∀ (k23 : bl_St → Nat → Int32 → Option (Unit × bl_St)) (X : Nat), X ≤ tH (sv s) → ∀ (r d m : Nat) (τ : bl_St), d + r = tN (sv s) → r < m → Jo spS σ τ → (∀ b, b < tN (sv s) → bl_J τ 137 b = lN (now b)) → (∀ b, b < tN (sv s) → bl_J τ 138 b = lN (P X b + sm (fun a => spf (sv s) now b X a) d)) → ∃ σ1, bl_fx (fun _ _ _ _ _ => none) (b_X9_spreadOneYear_42 k23) m τ 0 (nI X) (nI (wN (sv s) X)) (nI d) = k23 σ1 0 (nI (X + 1)) ∧ Jo spS σ σ1 ∧ (∀ b, b < tN (sv s) → bl_J σ1 137 b = lN (now b)) ∧ ∀ b, b < tN (sv s) → bl_J σ1 138 b = lN (P (X + 1) b) := by
    intro k23 X hX r
    induction r with
    | zero =>
      intro d m τ hd hm J h1 h2
      obtain ⟨m, rfl⟩ : ∃ z, m = z + 1 := ⟨m - 1, by omega⟩
      have hd : d = tN (sv s) := by omega
      subst hd
      have xt := hx.sp J
      refine ⟨τ, ?_, J, h1, fun b hb => by rw [h2 b hb, hP]; rfl⟩
      rw [fx_succ]
      show (if bl_I τ (bl_R τ 0 2) 0 ≤ nI (tN (sv s)) then _ else _) = _
      rw [xt.1.1.1.2.2.1, xt.2.1.2.1.1, if_pos (nI_le (Nat.le_refl _) (by omega)), let_eq, nI_1]
    | succ r ih =>
      intro d m τ hd hm J h1 h2
      obtain ⟨m, rfl⟩ : ∃ z, m = z + 1 := ⟨m - 1, by omega⟩
      have xt := hx.sp J
      have hdN : d < tN (sv s) := by omega
      have ht := tB_lt ok.1 X hdN
      obtain ⟨y, hy⟩ : ∃ y, y = bl_J τ 138 (tB (sv s) d X) + bl_J τ 137 d * Int32.toInt64 (nI (wN (sv s) X)) := ⟨_, rfl⟩
      have hw63 : wN (sv s) X < 2 ^ 31 := by
        have hO := ok.1.2.2.2.2.1
        rw [← wN_x (sv s) ok.1 hX]
        have hb := bnm_le (tH (sv s)) hH.2 X (by omega)
        have : ∀ i, i ≤ 3 → prw (tO (sv s)) X (bnm (tH (sv s)) X) i ≤ 6 * 12 ^ i := by
          intro i
          induction i with
          | zero => intro _; exact hb
          | succ i ih2 =>
            intro hi
            have := ih2 (by omega)
            show prw (tO (sv s)) X (bnm (tH (sv s)) X) i * (if i < X then tO (sv s) else 12 - tO (sv s)) ≤ 6 * 12 ^ (i + 1)
            have h12 : (if i < X then tO (sv s) else 12 - tO (sv s)) ≤ 12 := by split <;> omega
            have := Nat.mul_le_mul this h12
            rw [Nat.pow_succ, ← Nat.mul_assoc]
            exact this
        have h3 := this (tH (sv s)) hH.2
        have : 12 ^ tH (sv s) ≤ 12 ^ 3 := Nat.pow_le_pow_right (by decide) hH.2
        omega
      have hye : y = lN (P X (tB (sv s) d X) + sm (fun a => spf (sv s) now (tB (sv s) d X) X a) (d + 1)) := by
        rw [hy, h2 _ ht, h1 d hdN, nI_l hw63, lN_mul, lN_add]
        have : sm (fun a => spf (sv s) now (tB (sv s) d X) X a) (d + 1) = sm (fun a => spf (sv s) now (tB (sv s) d X) X a) d + now d * wN (sv s) X := by
          show _ + spf (sv s) now (tB (sv s) d X) X d = _
          unfold spf
          rw [if_pos rfl]
        rw [this, Nat.add_assoc]
      obtain ⟨σ1, e1, J1, q1, q2⟩ := ih (d + 1) m (bl_pJ τ 138 (tB (sv s) d X) y) (by omega) (by omega) (J.pJ (Or.inr rfl) _ _) (fun b hb => by rw [J_pJ_o (by decide)]; exact h1 b hb) (fun b hb => by
        by_cases hbt : b = tB (sv s) d X
        · rw [hbt, J_pJ_self, hye]
        · rw [J_pJ_ne hbt, h2 b hb]
          congr 1
          show _ = P X b + (sm (fun a => spf (sv s) now b X a) d + spf (sv s) now b X d)
          unfold spf
          rw [if_neg (Ne.symm hbt), Nat.add_zero])
      refine ⟨σ1, ?_, J1, q1, q2⟩
      rw [fx_succ]
      show (if bl_I τ (bl_R τ 0 2) 0 ≤ nI d then _ else _) = _
      rw [xt.1.1.1.2.2.1, xt.2.1.2.1.1, if_neg (nI_ge hdN (by omega)), x_next xt.2.1 ok.1 hdN (by omega), bd_some, in_nI (show tB (sv s) d X < 8 by omega) (by decide), gd_true, in_nI (show d < 8 by omega) (by decide), gd_true, gd_true, let_eq, let_eq, xt.1.1.2.2.2.2.2.2, xt.1.1.2.2.2.2.2.1, nI_clamp (by omega), nI_clamp (by omega), nI_1, ← hy]
      exact e1
  have l23 : ∀ (r X m : Nat) (τ : bl_St), X + r = tH (sv s) + 1 → r < m → Jo spS σ τ → (∀ b, b < tN (sv s) → bl_J τ 137 b = lN (now b)) → (∀ b, b < tN (sv s) → bl_J τ 138 b = lN (P X b)) → ∃ σ1, bl_fx (fun _ _ _ => none) (b_X9_spreadOneYear_23) m τ 0 (nI X) = some ((), σ1) ∧ Jo spS σ σ1 ∧ ∀ b, b < tN (sv s) → bl_J σ1 137 b = lN (spY (sv s) now b) := by
    intro r
    induction r with
    | zero =>
      intro X m τ hX hm J h1 h2
      obtain ⟨m, rfl⟩ : ∃ z, m = z + 1 := ⟨m - 1, by omega⟩
      have hX : X = tH (sv s) + 1 := by omega
      have xt := hx.sp J
      refine ⟨bl_cJ τ 138 0 137 0 8, ?_, ⟨J.1, J.2.1, fun i hi => (bl_row_ne (fun z => hi (Or.inl z))).trans (J.2.2 i hi)⟩, fun b hb => ?_⟩
      · rw [fx_succ]
        unfold b_X9_spreadOneYear_23
        rw [xt.1.1.1.2.2.1, x_chances xt.2.1, bd_some, if_pos (nI_lt (by omega) (by omega)), let_eq, xt.1.1.2.2.2.2.2.2, xt.1.1.2.2.2.2.2.1]
        rfl
      · show bl_row τ.2.1 137 (va_cpy (τ.2.1 138) (τ.2.1 137) 0 0 8) 137 b = _
        rw [bl_row_eq]
        unfold va_cpy
        rw [if_pos ⟨Nat.zero_le _, by omega⟩]
        have := h2 b hb
        rw [hX, hP] at this
        rw [show 0 + (b - 0) = b by omega]
        refine this.trans ?_
        rw [← spY_x (sv s) ok.1]
    | succ r ih =>
      intro X m τ hX hm J h1 h2
      obtain ⟨m, rfl⟩ : ∃ z, m = z + 1 := ⟨m - 1, by omega⟩
      have xt := hx.sp J
      obtain ⟨σ1, e1, J1, q1, q2⟩ := l42 (bl_fx (fun _ _ _ => none) (b_X9_spreadOneYear_23) m) X (by omega) (tN (sv s)) 0 bl_fu τ (by omega) (by unfold bl_fu; omega) J h1 (fun b hb => h2 b hb)
      obtain ⟨σ2, e2, J2, q3⟩ := ih (X + 1) m σ1 (by omega) (by omega) J1 q1 q2
      refine ⟨σ2, ?_, J2, q3⟩
      rw [fx_succ]
      have hb : b_X9_spreadOneYear_23 (bl_fx (fun _ _ _ => none) (b_X9_spreadOneYear_23) m) τ 0 (nI X) = bl_fx (fun _ _ _ _ _ => none) (b_X9_spreadOneYear_42 (bl_fx (fun _ _ _ => none) (b_X9_spreadOneYear_23) m)) bl_fu τ 0 (nI X) (nI (wN (sv s) X)) (nI 0) := by
        show bl_bd (f_X8_chances τ (bl_R τ 0 2)) _ = _
        rw [xt.1.1.1.2.2.1, x_chances xt.2.1, bd_some, if_neg (nI_nlt (by omega) (by omega)), x_waysOf xt ok (by omega), bd_some]
        rfl
      rw [hb, e1]
      exact e2
  have l2 : ∀ (r d m : Nat) (τ : bl_St), d + r = 8 → r < m → Jo spS σ τ → (∀ b, b < tN (sv s) → bl_J τ 137 b = lN (now b)) → (∀ b, b < d → bl_J τ 138 b = 0) → ∃ σ1, bl_fx (fun _ _ _ => none) (b_X9_spreadOneYear_2) m τ 0 (nI d) = some ((), σ1) ∧ Jo spS σ σ1 ∧ ∀ b, b < tN (sv s) → bl_J σ1 137 b = lN (spY (sv s) now b) := by
    intro r
    induction r with
    | zero =>
      intro d m τ hd hm J h1 h2
      obtain ⟨m, rfl⟩ : ∃ z, m = z + 1 := ⟨m - 1, by omega⟩
      have hd : d = 8 := by omega
      obtain ⟨σ1, e1, q⟩ := l23 (tH (sv s) + 1) 0 bl_fu τ (by omega) (by unfold bl_fu; omega) J h1 (fun b hb => by rw [h2 b (by omega), hP]; rfl)
      refine ⟨σ1, ?_, q⟩
      rw [hd, fx_succ]
      show (if (8 : Int32) ≤ nI 8 then _ else _) = _
      rw [if_pos (by decide)]
      exact e1
    | succ r ih =>
      intro d m τ hd hm J h1 h2
      obtain ⟨m, rfl⟩ : ∃ z, m = z + 1 := ⟨m - 1, by omega⟩
      have xt := hx.sp J
      obtain ⟨σ1, e1, q⟩ := ih (d + 1) m (bl_pJ τ 138 d 0) (by omega) (by omega) (J.pJ (Or.inr rfl) _ _) (fun b hb => by rw [J_pJ_o (by decide)]; exact h1 b hb) (fun b hb => by
        by_cases hbd : b = d
        · rw [hbd, J_pJ_self]
        · rw [J_pJ_ne hbd]; exact h2 b (by omega))
      refine ⟨σ1, ?_, q⟩
      rw [fx_succ]
      show (if (8 : Int32) ≤ nI d then _ else _) = _
      rw [if_neg (show ¬ (8 : Int32) ≤ nI d from nI_ge (a := d) (b := 8) (by omega) (by decide)), in_nI (by omega) (by decide), gd_true, let_eq, let_eq, xt.1.1.2.2.2.2.2.2, nI_clamp (by omega), nI_1]
      exact e1
  unfold f_X9_spreadOneYear
  exact l2 8 0 bl_fu σ (by omega) (by unfold bl_fu; omega) (Jo.rf _ σ) hn (fun b hb => absurd hb (Nat.not_lt_zero b))
end WAY
