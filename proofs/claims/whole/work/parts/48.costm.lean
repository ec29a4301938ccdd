/-! the reference's chances and years -/
section CMT
variable {σ : bl_St} {v : tm_V} {rl lm : Nat} {w : Bool} {many k t g st td : Nat}
theorem m_chance (C : CM σ v rl lm w many) (ok : TOk v) (hK : 0 < tK v) (hrl : rl ≤ 3) (hlm : rl = 3 → lm ≤ 999) (hk : k < 6) (ht : t < 3) (hg : g < 2) (h : bl_J σ 146 (6 * (k + 1) + 2 * t + g) = lN st) (h' : bl_J σ 146 (6 * (k + 1) + 2 * tn t g + 0) = lN td) (b1 : st ≤ 2 ^ 40) (b2 : td ≤ 2 ^ 40) : f_X10_chanceCost σ 139 (nI k) (nI t) (nI g) = some (lN (cCh v w rl lm st td), σ) := by
  have h5 := ok.k5
  have hA1 : tK v ≤ tA v := tm_A_ge ok (tK v) (Nat.le_refl _)
  have hA2 : tA v ≤ 9 * tK v := tm_A_le ok (tK v) (Nat.le_refl _)
  have h12 := ok.2.2.2.2.1
  have e3 := C.2.1.2.1.2.1
  rw [Nat.zero_add] at e3
  unfold f_X10_chanceCost cCh
  rw [nI_1, m_slot, bd_some, in_nI (by omega) (by omega), gd_true, let_eq, nI_clamp (by omega), C.1.2.2.2, h, C.2.2.2.2.1]
  cases w with
  | false =>
    rw [if_neg (by decide : ¬ false = true), if_pos rfl, if_neg (by decide : ¬ false = true), m_weights C.1.1 C.2.1 ok, bd_some, let_eq, C.1.1, e3, nI_lit 12, nI_sub h12, nI_mul]
    have hb : (12 - tO v) * tA v ≤ 12 * 45 := Nat.mul_le_mul (by omega) (by omega)
    rw [nI_l (by omega), lN_mul]
    have hb2 : (12 - tO v) * tA v * st ≤ 12 * 45 * 2 ^ 40 := Nat.mul_le_mul hb b1
    exact m_chSum C ok hrl hlm hk ht hg h h' b1 b2 hK ((12 - tO v) * tA v * st) (by omega) (tK v) 0 (by omega) bl_fu (by unfold bl_fu; omega)
  | true =>
    rw [if_pos rfl, if_neg (by decide), if_pos rfl, C.1.1, e3]
    by_cases ho : tO v = 0
    · rw [if_pos ho, ho, if_neg (by decide)]
      unfold b_X10_chanceCost_41
      rw [fu_succ, fx_succ]
      unfold b_X10_chanceCost_46
      have e1 := C.2.1.1.2
      rw [Nat.zero_add] at e1
      rw [C.1.1, e1, e3, ho, if_neg (show ¬ nI (tK v) ≤ 0 from nI_nle hK (by omega)), if_pos (by decide)]
    · rw [if_neg ho]
      by_cases h2 : tO v = 12
      · rw [if_pos h2, h2, if_pos (by rfl)]
        -- the first sort is more than nothing
        unfold b_X10_chanceCost_41
        rw [fu_succ, fx_succ]
        have e1 := C.2.1.1.2
        rw [Nat.zero_add] at e1
        have key := m_chMax C ok hrl hlm hk ht hg h h' b1 b2 (by omega) 0 (by omega) (tK v - 1) 1 (by omega) 19999 (by omega)
        unfold b_X10_chanceCost_46 at key ⊢
        rw [C.1.1, e1, e3, h2, if_neg (show ¬ nI (tK v) ≤ 0 from nI_nle hK (by omega)), if_neg (by decide)]
        rw [show (0 : Int32) = nI 0 from rfl, m_lossCost C ok hrl hlm hK hk ht hg h h' b1 b2, bd_some]
        have q2 := cL_le ok rl lm hK b1 b2
        have hg2 : f_X10_greater σ (-9223372036854775808) (lN (cL v rl lm 0 st td)) = some (lN (cMax v rl lm st td 0 1), σ) := by
          unfold f_X10_greater
          rw [if_pos (by rw [Int64.le_iff_toInt_le, lN_toI (by omega)]; have : (-9223372036854775808 : Int64).toInt = -9223372036854775808 := by decide
                         rw [this]; omega)]
          show _ = some (lN (max 0 (cL v rl lm 0 st td)), σ)
          rw [Nat.max_eq_right (Nat.zero_le _)]
        rw [hg2, bd_some, let_eq]
        exact key
      · rw [if_neg h2, if_neg (show ¬ nI (tO v) = 12 from fun z => h2 (nI_inj (by omega) (by decide) z))]
        unfold b_X10_chanceCost_41
        exact m_chMax C ok hrl hlm hk ht hg h h' b1 b2 (by omega) st b1 (tK v) 0 (by omega) bl_fu (by unfold bl_fu; omega)
end CMT
/-- only long rows of these cells differ -/
def Jo (S : Nat → Prop) (σ σ1 : bl_St) : Prop := σ1.1 = σ.1 ∧ σ1.2.2 = σ.2.2 ∧ ∀ i, ¬ S i → bl_J σ1 i = bl_J σ i
theorem Jo.rf (S : Nat → Prop) (σ : bl_St) : Jo S σ σ := ⟨rfl, rfl, fun _ _ => rfl⟩
theorem Jo.pJ {S : Nat → Prop} {σ σ1 : bl_St} (h : Jo S σ σ1) {i : Nat} (hi : S i) (k : Nat) (x : Int64) : Jo S σ (bl_pJ σ1 i k x) :=
  ⟨h.1, h.2.1, fun j hj => (bl_u_ne (fun z => hj (by rw [z]; exact hi))).trans (h.2.2 j hj)⟩
theorem Jo.tr {S : Nat → Prop} {σ σ1 σ2 : bl_St} (h : Jo S σ σ1) (h2 : Jo S σ1 σ2) : Jo S σ σ2 := ⟨h2.1.trans h.1, h2.2.1.trans h.2.1, fun j hj => (h2.2.2 j hj).trans (h.2.2 j hj)⟩
theorem Jo.mono {S S2 : Nat → Prop} {σ σ1 : bl_St} (h : Jo S σ σ1) (hs : ∀ i, S i → S2 i) : Jo S2 σ σ1 := ⟨h.1, h.2.1, fun j hj => h.2.2 j (fun z => hj (hs j z))⟩
theorem CM.jo {S : Nat → Prop} {σ σ1 : bl_St} {v : tm_V} {rl lm : Nat} {w : Bool} {many : Nat} (C : CM σ v rl lm w many) (h : Jo S σ σ1) : CM σ1 v rl lm w many := by
  have e1 : bl_I σ1 = bl_I σ := h.1
  have e2 : bl_R σ1 = bl_R σ := h.2.1
  unfold CM TM at *
  rw [e1, e2]
  exact C
theorem J_pJ_self (σ : bl_St) (i k : Nat) (x : Int64) : bl_J (bl_pJ σ i k x) i k = x := by
  show bl_u σ.2.1 i k x i k = x
  simp [bl_u]
theorem J_pJ_ne {σ : bl_St} {i k j : Nat} {x : Int64} (h : j ≠ k) : bl_J (bl_pJ σ i k x) i j = bl_J σ i j := by
  show bl_u σ.2.1 i k x i j = σ.2.1 i j
  simp [bl_u, h]
theorem J_pJ_o {σ : bl_St} {i k i2 : Nat} {x : Int64} (h : i2 ≠ i) : bl_J (bl_pJ σ i k x) i2 = bl_J σ i2 := bl_u_ne h
section CMU
variable {σ : bl_St} {v : tm_V} {rl lm : Nat} {w : Bool} {many : Nat} {F : Nat → Nat → Nat → Nat}
/-- level k of the row of chances is right -/
def Lv (σ : bl_St) (a : Nat) (F : Nat → Nat → Nat → Nat) (k : Nat) : Prop := ∀ t g, t < 3 → g < 2 → bl_J σ a (6 * k + 2 * t + g) = lN (F k t g)
/-- the two of one t -/
theorem m_lc83 (C : CM σ v rl lm w many) (ok : TOk v) (hK : 0 < tK v) (hrl : rl ≤ 3) (hlm : rl = 3 → lm ≤ 999) {k t : Nat} (hk : k < 6) (ht : t < 3) (hF : ∀ t g, t < 3 → g < 2 → F k t g = cCh v w rl lm (F (k + 1) t g) (F (k + 1) (tn t g) 0)) (hB : ∀ t g, t < 3 → g < 2 → F (k + 1) t g ≤ 2 ^ 40) (hL : Lv σ 146 F (k + 1)) (k74 : bl_St → Nat → Int32 → Int32 → Option (Unit × bl_St)) :
    bl_fx (fun _ _ _ _ _ => none) (b_X10_laysChances_83 k74) bl_fu σ 139 (nI k) (nI t) 0 = k74 (bl_pJ (bl_pJ σ 146 (6 * k + 2 * t + 0) (lN (F k t 0))) 146 (6 * k + 2 * t + 1) (lN (F k t 1))) 139 (nI k) (nI (t + 1)) := by
  have htn : ∀ g, tn t g < 3 := fun g => by unfold tn; split <;> omega
  rw [show bl_fu = 19997 + 1 + 1 + 1 from rfl, fx_succ, fx_succ, fx_succ]
  have s0 := m_chance C ok hK hrl hlm hk ht (g := 0) (by decide) (hL t 0 ht (by decide)) (hL (tn t 0) 0 (htn 0) (by decide)) (hB t 0 ht (by decide)) (hB (tn t 0) 0 (htn 0) (by decide))
  rw [← hF t 0 ht (by decide)] at s0
  have hL1 : Lv (bl_pJ σ 146 (6 * k + 2 * t + 0) (lN (F k t 0))) 146 F (k + 1) := fun t' g' h1 h2 => by
    rw [J_pJ_ne (by omega)]
    exact hL t' g' h1 h2
  have s1 := m_chance (C.pJ 146 (6 * k + 2 * t + 0) (lN (F k t 0))) ok hK hrl hlm hk ht (g := 1) (by decide) (hL1 t 1 ht (by decide)) (hL1 (tn t 1) 0 (htn 1) (by decide)) (hB t 1 ht (by decide)) (hB (tn t 1) 0 (htn 1) (by decide))
  rw [← hF t 1 ht (by decide)] at s1
  unfold b_X10_laysChances_83
  rw [if_neg (show ¬ (2 : Int32) ≤ 0 by decide)]
  simp only [show (0 : Int32) = nI 0 from rfl]
  rw [m_slot, bd_some, s0, bd_some, in_nI (by omega) (by omega), gd_true, let_eq, nI_clamp (by omega), C.1.2.2.2, let_eq, nI_1]
  rw [if_neg (show ¬ (2 : Int32) ≤ nI (0 + 1) by decide)]
  rw [show nI (0 + 1) = nI 1 from rfl, m_slot, bd_some, s1, bd_some, in_nI (by omega) (by omega), gd_true, let_eq, nI_clamp (by omega), let_eq, nI_1]
  rw [if_pos (show (2 : Int32) ≤ nI (1 + 1) by decide), let_eq, nI_1]
  have e : bl_R (bl_pJ σ 146 (6 * k + 2 * t + 0) (lN (F k t 0))) 139 9 = 146 := C.1.2.2.2
  rw [e]
/-- a level -/
theorem m_lc74 (C : CM σ v rl lm w many) (ok : TOk v) (hK : 0 < tK v) (hrl : rl ≤ 3) (hlm : rl = 3 → lm ≤ 999) {k : Nat} (hk : k < 6) (hF : ∀ t g, t < 3 → g < 2 → F k t g = cCh v w rl lm (F (k + 1) t g) (F (k + 1) (tn t g) 0)) (hB : ∀ t g, t < 3 → g < 2 → F (k + 1) t g ≤ 2 ^ 40) (hL : Lv σ 146 F (k + 1)) (k67 : bl_St → Nat → Int32 → Option (Unit × bl_St)) :
    ∃ σ6, bl_fx (fun _ _ _ _ => none) (b_X10_laysChances_74 k67) bl_fu σ 139 (nI k) 0 = k67 σ6 139 (nI k + (-1)) ∧ Jo (fun i => i = 146) σ σ6 ∧ Lv σ6 146 F k ∧ ∀ j, (j < 6 * k ∨ 6 * k + 6 ≤ j) → bl_J σ6 146 j = bl_J σ 146 j := by
  have up : ∀ (τ : bl_St), CM τ v rl lm w many → Lv τ 146 F (k + 1) → ∀ t, t < 3 → CM (bl_pJ (bl_pJ τ 146 (6 * k + 2 * t + 0) (lN (F k t 0))) 146 (6 * k + 2 * t + 1) (lN (F k t 1))) v rl lm w many ∧ Lv (bl_pJ (bl_pJ τ 146 (6 * k + 2 * t + 0) (lN (F k t 0))) 146 (6 * k + 2 * t + 1) (lN (F k t 1))) 146 F (k + 1) := by
    intro τ hC hl t ht
    refine ⟨hC, fun t' g' h1 h2 => ?_⟩
    rw [J_pJ_ne (by omega), J_pJ_ne (by omega)]
    exact hl t' g' h1 h2
  obtain ⟨C1, L1⟩ := up σ C hL 0 (by decide)
  obtain ⟨C2, L2⟩ := up _ C1 L1 1 (by decide)
  obtain ⟨C3, L3⟩ := up _ C2 L2 2 (by decide)
  refine ⟨_, ?_, ((((((Jo.rf (fun i => i = 146) σ).pJ rfl (6 * k + 2 * 0 + 0) (lN (F k 0 0))).pJ rfl (6 * k + 2 * 0 + 1) (lN (F k 0 1))).pJ rfl (6 * k + 2 * 1 + 0) (lN (F k 1 0))).pJ rfl (6 * k + 2 * 1 + 1) (lN (F k 1 1))).pJ rfl (6 * k + 2 * 2 + 0) (lN (F k 2 0))).pJ rfl (6 * k + 2 * 2 + 1) (lN (F k 2 1)), ?_, ?_⟩
  · rw [show bl_fu = 19996 + 1 + 1 + 1 + 1 from rfl, fx_succ, fx_succ, fx_succ, fx_succ]
    unfold b_X10_laysChances_74
    rw [if_neg (show ¬ (3 : Int32) ≤ 0 by decide), show (0 : Int32) = nI 0 from rfl, show (nI 0 : Int32) = 0 from rfl]
    rw [show (bl_fx (fun _ _ _ _ _ => none) (b_X10_laysChances_83 _) bl_fu σ 139 (nI k) 0 0 : Option (Unit × bl_St)) = _ from m_lc83 C ok hK hrl hlm hk (t := 0) (by decide) hF hB hL _]
    rw [if_neg (show ¬ (3 : Int32) ≤ nI (0 + 1) by decide)]
    rw [m_lc83 C1 ok hK hrl hlm hk (t := 0 + 1) (by decide) hF hB L1 _]
    rw [if_neg (show ¬ (3 : Int32) ≤ nI (0 + 1 + 1) by decide)]
    rw [m_lc83 C2 ok hK hrl hlm hk (t := 0 + 1 + 1) (by decide) hF hB L2 _]
    rw [if_pos (show (3 : Int32) ≤ nI (0 + 1 + 1 + 1) by decide), let_eq]
  · intro t g ht hg
    rcases (show t = 0 ∨ t = 1 ∨ t = 2 by omega) with rfl | rfl | rfl <;> rcases (show g = 0 ∨ g = 1 by omega) with rfl | rfl
    · rw [J_pJ_ne (by omega), J_pJ_ne (by omega), J_pJ_ne (by omega), J_pJ_ne (by omega), J_pJ_ne (by omega), J_pJ_self]
    · rw [J_pJ_ne (by omega), J_pJ_ne (by omega), J_pJ_ne (by omega), J_pJ_ne (by omega), J_pJ_self]
    · rw [J_pJ_ne (by omega), J_pJ_ne (by omega), J_pJ_ne (by omega), J_pJ_self]
    · rw [J_pJ_ne (by omega), J_pJ_ne (by omega), J_pJ_self]
    · rw [J_pJ_ne (by omega), J_pJ_self]
    · rw [J_pJ_self]
  · intro j hj
    rw [J_pJ_ne (by omega), J_pJ_ne (by omega), J_pJ_ne (by omega), J_pJ_ne (by omega), J_pJ_ne (by omega), J_pJ_ne (by omega)]
theorem nI_m1 (k : Nat) : nI (k + 1) + (-1) = nI k := by
  have := nI_pred k
  rw [Int32.sub_eq_add_neg] at this
  exact this
theorem m_lc67 (ok : TOk v) (hK : 0 < tK v) (hrl : rl ≤ 3) (hlm : rl = 3 → lm ≤ 999) (hm : many ≤ 6) (hF : ∀ k t g, k < many → t < 3 → g < 2 → F k t g = cCh v w rl lm (F (k + 1) t g) (F (k + 1) (tn t g) 0)) (hB : ∀ k t g, k ≤ many → t < 3 → g < 2 → F k t g ≤ 2 ^ 40) :
    ∀ (r n : Nat) (σ : bl_St) (x : Int32), r ≤ many → r < n → nI (r) = x + 1 → CM σ v rl lm w many → (∀ k, r ≤ k → k ≤ many → Lv σ 146 F k) → ∃ σ1, bl_fx (fun _ _ _ => none) (b_X10_laysChances_67) n σ 139 x = some ((), σ1) ∧ Jo (fun i => i = 146) σ σ1 ∧ ∀ k, k ≤ many → Lv σ1 146 F k := by
  intro r
  induction r with
  | zero =>
    intro n σ x hr hn hx C hL
    obtain ⟨n, rfl⟩ : ∃ m, n = m + 1 := ⟨n - 1, by omega⟩
    have hx : x = -1 := by
      have : x + 1 + (-1) = nI 0 + (-1) := by rw [hx]
      rw [Int32.add_assoc, show nI 0 + (-1) = (-1 : Int32) by decide] at this
      simpa using this
    refine ⟨σ, ?_, Jo.rf _ σ, fun k hk => hL k (Nat.zero_le _) hk⟩
    rw [fx_succ, hx]
    unfold b_X10_laysChances_67
    rw [if_pos (by decide)]
  | succ r ih =>
    intro n σ x hr hn hx C hL
    obtain ⟨n, rfl⟩ : ∃ m, n = m + 1 := ⟨n - 1, by omega⟩
    have hx : x = nI r := by
      have : x + 1 + (-1) = nI (r + 1) + (-1) := by rw [hx]
      rw [nI_m1, Int32.add_assoc] at this
      simpa using this
    obtain ⟨σ6, e6, j6, l6, o6⟩ := m_lc74 C ok hK hrl hlm (show r < 6 by omega) (fun t g => hF r t g (by omega)) (fun t g => hB (r + 1) t g (by omega)) (hL (r + 1) (Nat.le_refl _) hr) (bl_fx (fun _ _ _ => none) (b_X10_laysChances_67) n)
    obtain ⟨σ1, e1, j1, l1⟩ := ih n σ6 (nI r + (-1)) (by omega) (by omega) (by rw [Int32.add_assoc]; simp) (C.jo j6) (fun k h1 h2 => by
      by_cases hk : k = r
      · rw [hk]; exact l6
      · intro t g ht hg
        rw [o6 _ (by omega)]
        exact hL k (by omega) h2 t g ht hg)
    refine ⟨σ1, ?_, j6.tr j1, l1⟩
    rw [fx_succ, hx]
    have hb : b_X10_laysChances_67 (bl_fx (fun _ _ _ => none) (b_X10_laysChances_67) n) σ 139 (nI r) = bl_fx (fun _ _ _ _ => none) (b_X10_laysChances_74 (bl_fx (fun _ _ _ => none) (b_X10_laysChances_67) n)) bl_fu σ 139 (nI r) 0 := by
      show (if nI r < 0 then _ else _) = _
      rw [if_neg (nI_pos (by omega))]
    rw [hb, e6]
    exact e1
end CMU
/-- a year of a class, chance by chance -/
theorem m_laysChances {σ : bl_St} {v : tm_V} {rl lm : Nat} {w : Bool} {many L c : Nat} {V : Nat → Nat} (C : CM σ v rl lm w many) (ok : TOk v) (hK : 0 < tK v) (hrl : rl ≤ 3) (hlm : rl = 3 → lm ≤ 999) (hm : many ≤ 6) (hL1 : 1 ≤ L) (hL : L ≤ 20) (hc : c < tN v) (hV : ∀ d, d < tN v → bl_J σ 144 (8 * (L - 1) + d) = lN (V d)) (hB : ∀ d, d < tN v → V d ≤ 2 ^ 39) :
    ∃ σ1, f_X10_laysChances σ 139 (nI L) (nI c) = some ((), σ1) ∧ Jo (fun i => i = 146) σ σ1 ∧ ∀ k, k ≤ many → Lv σ1 146 (fun k t g => cAh v w rl lm V c (many - k) t g) k := by
  have h8 := ok.n8
  have hbd := cAh_le ok hK w rl lm hc hB
  have bhd : ∀ t, f_X10_behind σ 139 (nI c) (nI t) = some (nI (tB v c t), σ) ∨ 2 ^ 31 ≤ t := fun t => by
    by_cases ht : t < 2 ^ 31
    · exact Or.inl (m_behind C.1.1 C.2.1 ok hc ht)
    · exact Or.inr (by omega)
  have step : ∀ (τ : bl_St) (t : Nat) (k2 : bl_St → Nat → Int32 → Int32 → Int32 → Option (Unit × bl_St)), t < 3 → CM τ v rl lm w many → (∀ d, d < tN v → bl_J τ 144 (8 * (L - 1) + d) = lN (V d)) → b_X10_laysChances_2 k2 τ 139 (nI L) (nI c) (nI t) = k2 (bl_pJ (bl_pJ τ 146 (6 * many + 2 * t + 0) (lN (V (tB v c t)))) 146 (6 * many + 2 * t + 1) (lN (V (tB v c t)))) 139 (nI L) (nI c) (nI (t + 1)) := by
    intro τ t k2 ht D hW
    have hb := tB_lt ok t hc
    unfold b_X10_laysChances_2
    rw [if_neg (show ¬ (3 : Int32) ≤ nI t from nI_ge (a := t) (b := 3) ht (by decide)), m_behind D.1.1 D.2.1 ok hc (by omega), bd_some, show (1 : Int32) = nI 1 from rfl, nI_sub hL1]
    unfold f_X10_costAt
    rw [nI_lit 8, nI_mul, nI_add, in_nI (by omega) (by omega), gd_true, D.1.2.1, nI_clamp (by omega), hW _ hb, bd_some, D.2.2.2.2.2, show (0 : Int32) = nI 0 from rfl, m_slot, bd_some, in_nI (by omega) (by omega), gd_true, let_eq, nI_clamp (by omega), D.1.2.2.2]
    have D1 : CM (bl_pJ τ 146 (6 * many + 2 * t + 0) (lN (V (tB v c t)))) v rl lm w many := D
    rw [D1.2.2.2.2.2, m_slot, bd_some, in_nI (by omega) (by omega), gd_true, let_eq, nI_clamp (by omega), D1.1.2.2.2, let_eq, nI_add]
  have hW1 : ∀ (τ : bl_St) (t : Nat), (∀ d, d < tN v → bl_J τ 144 (8 * (L - 1) + d) = lN (V d)) → ∀ d, d < tN v → bl_J (bl_pJ (bl_pJ τ 146 (6 * many + 2 * t + 0) (lN (V (tB v c t)))) 146 (6 * many + 2 * t + 1) (lN (V (tB v c t)))) 144 (8 * (L - 1) + d) = lN (V d) := by
    intro τ t h d hd
    rw [J_pJ_o (by decide), J_pJ_o (by decide)]
    exact h d hd
  have W1 := hW1 σ 0 hV
  have W2 := hW1 _ 1 W1
  have W3 := hW1 _ 2 W2
  obtain ⟨σ1, e1, j1, l1⟩ := m_lc67 (F := fun k t g => cAh v w rl lm V c (many - k) t g) (w := w) ok hK hrl hlm hm (fun k t g hk ht hg => by
      show cAh v w rl lm V c (many - k) t g = _
      rw [show many - k = (many - (k + 1)) + 1 by omega]
      rfl) (fun k t g hk _ _ => by have := hbd (many - k) t g; omega) many bl_fu (bl_pJ (bl_pJ (bl_pJ (bl_pJ (bl_pJ (bl_pJ σ 146 (6 * many + 2 * 0 + 0) (lN (V (tB v c 0)))) 146 (6 * many + 2 * 0 + 1) (lN (V (tB v c 0)))) 146 (6 * many + 2 * 1 + 0) (lN (V (tB v c 1)))) 146 (6 * many + 2 * 1 + 1) (lN (V (tB v c 1)))) 146 (6 * many + 2 * 2 + 0) (lN (V (tB v c 2)))) 146 (6 * many + 2 * 2 + 1) (lN (V (tB v c 2)))) (nI many - 1) (Nat.le_refl _) (by unfold bl_fu; omega) (by rw [Int32.sub_eq_add_neg, Int32.add_assoc]; simp) C (fun k h1 h2 => by
      have hk : k = many := by omega
      subst hk
      intro t g ht hg
      show _ = lN (cAh v w rl lm V c (k - k) t g)
      rw [Nat.sub_self]
      show _ = lN (V (tB v c t))
      rcases (show t = 0 ∨ t = 1 ∨ t = 2 by omega) with rfl | rfl | rfl <;> rcases (show g = 0 ∨ g = 1 by omega) with rfl | rfl
      · rw [J_pJ_ne (by omega), J_pJ_ne (by omega), J_pJ_ne (by omega), J_pJ_ne (by omega), J_pJ_ne (by omega), J_pJ_self]
      · rw [J_pJ_ne (by omega), J_pJ_ne (by omega), J_pJ_ne (by omega), J_pJ_ne (by omega), J_pJ_self]
      · rw [J_pJ_ne (by omega), J_pJ_ne (by omega), J_pJ_ne (by omega), J_pJ_self]
      · rw [J_pJ_ne (by omega), J_pJ_ne (by omega), J_pJ_self]
      · rw [J_pJ_ne (by omega), J_pJ_self]
      · rw [J_pJ_self])
  refine ⟨σ1, ?_, ((((((((Jo.rf (fun i => i = 146) σ).pJ rfl _ _).pJ rfl _ _).pJ rfl _ _).pJ rfl _ _).pJ rfl _ _).pJ rfl _ _).tr j1), l1⟩
  unfold f_X10_laysChances
  rw [show bl_fu = 19996 + 1 + 1 + 1 + 1 from rfl, fx_succ, fx_succ, fx_succ, fx_succ, show (0 : Int32) = nI 0 from rfl]
  rw [step σ 0 _ (by decide) C hV, step _ (0 + 1) _ (by decide) ((C.pJ _ _ _).pJ _ _ _) W1, step _ (0 + 1 + 1) _ (by decide) ((((C.pJ _ _ _).pJ _ _ _).pJ _ _ _).pJ _ _ _) W2]
  unfold b_X10_laysChances_2
  rw [if_pos (by decide), let_eq]
  rw [show bl_I (bl_pJ (bl_pJ (bl_pJ (bl_pJ (bl_pJ (bl_pJ σ 146 (6 * many + 2 * 0 + 0) (lN (V (tB v c 0)))) 146 (6 * many + 2 * 0 + 1) (lN (V (tB v c 0)))) 146 (6 * many + 2 * 1 + 0) (lN (V (tB v c 1)))) 146 (6 * many + 2 * 1 + 1) (lN (V (tB v c 1)))) 146 (6 * many + 2 * 2 + 0) (lN (V (tB v c 2)))) 146 (6 * many + 2 * 2 + 1) (lN (V (tB v c 2)))) 139 10 = nI many from C.2.2.2.2.2]
  exact e1
