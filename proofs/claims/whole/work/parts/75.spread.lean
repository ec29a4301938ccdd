section SPR
variable {s : st_V} {n : Nat} {σ τ : bl_St}
theorem MI.jo {S : Nat → Prop} {τ1 : bl_St} (h : MI τ s) (j : Jo S τ τ1) : MI τ1 s := by
  have Ie : bl_I τ1 = bl_I τ := j.1
  exact h.scr j.2.1 (by rw [Ie]) (by rw [Ie]) (by rw [Ie]) (by rw [Ie]) (by rw [Ie]) (by rw [Ie])
abbrev mpS (i : Nat) : Prop := i = 147 ∨ i = 148
/-- the reference's year of spreading -/
theorem m_spreadYear (hm : MI τ s) (ok : SOk s n) {now : Nat → Nat} (Y to : Int32) (k76 : bl_St → Nat → Int32 → Int32 → Int32 → Option (Int64 × bl_St)) (y : Nat) (hn : ∀ b, b < tN (sv s) → bl_J τ 147 b = lN (now b)) : ∃ τ1, bl_fx (fun _ _ _ _ _ _ => none) (b_X10_spread_85 k76) bl_fu τ 139 Y to (nI y) 0 = k76 τ1 139 Y to (nI (y + 1)) ∧ Jo mpS τ τ1 ∧ ∀ b, b < tN (sv s) → bl_J τ1 147 b = lN (spY (sv s) now b) := by
  have h8 := ok.1.n8
  obtain ⟨Q, hQ⟩ : ∃ Q : Nat → Nat → Nat, Q = fun A b => sm (fun a => now a * mvN (sv s) a b) A := ⟨_, rfl⟩
  have l175 : ∀ (r b m : Nat) (σ : bl_St), b + r = 8 → r < m → Jo mpS τ σ → (∀ d, d < tN (sv s) → bl_J σ 148 d = lN (spY (sv s) now d)) → (∀ d, d < b → bl_J σ 147 d = bl_J σ 148 d) → ∃ τ1, bl_fx (fun _ _ _ _ _ _ => none) (b_X10_spread_175 k76) m σ 139 Y to (nI y) (nI b) = k76 τ1 139 Y to (nI (y + 1)) ∧ Jo mpS τ τ1 ∧ ∀ b, b < tN (sv s) → bl_J τ1 147 b = lN (spY (sv s) now b) := by
    intro r
    induction r with
    | zero =>
      intro b m σ hb hm1 J h1 h2
      obtain ⟨m, rfl⟩ : ∃ z, m = z + 1 := ⟨m - 1, by omega⟩
      have hb : b = 8 := by omega
      refine ⟨σ, ?_, J, fun d hd => by rw [h2 d (by omega)]; exact h1 d hd⟩
      rw [hb, fx_succ]
      show (if (8 : Int32) ≤ nI 8 then _ else _) = _
      rw [if_pos (by decide), let_eq, nI_1]
    | succ r ih =>
      intro b m σ hb hm1 J h1 h2
      obtain ⟨m, rfl⟩ : ∃ z, m = z + 1 := ⟨m - 1, by omega⟩
      have ms := hm.jo J
      obtain ⟨τ1, e1, q⟩ := ih (b + 1) m (bl_pJ σ 147 b (bl_J σ 148 b)) (by omega) (by omega) (J.pJ (Or.inl rfl) _ _) (fun d hd => by rw [J_pJ_o (by decide)]; exact h1 d hd) (fun d hd => by
        rw [J_pJ_o (show 148 ≠ 147 by decide)]
        by_cases hdb : d = b
        · rw [hdb, J_pJ_self]
        · rw [J_pJ_ne hdb]; exact h2 d (by omega))
      refine ⟨τ1, ?_, q⟩
      rw [fx_succ]
      show (if (8 : Int32) ≤ nI b then _ else _) = _
      rw [if_neg (show ¬ (8 : Int32) ≤ nI b from nI_ge (a := b) (b := 8) (by omega) (by decide)), in_nI (by omega) (by decide), gd_true, gd_true, let_eq, let_eq, ms.1.1.2.1.1, ms.1.1.2.1.2.1, nI_clamp (by omega), nI_1]
      exact e1
  have l123 : ∀ (k109 : bl_St → Nat → Int32 → Int32 → Int32 → Int32 → Option (Int64 × bl_St)) (a : Nat), a < tN (sv s) → ∀ (r b m : Nat) (σ : bl_St), b + r = tN (sv s) → r < m → Jo mpS τ σ → (∀ d, d < tN (sv s) → bl_J σ 147 d = lN (now d)) → (∀ d, d < tN (sv s) → bl_J σ 148 d = lN (if d < b then Q (a + 1) d else Q a d)) → ∃ τ1, bl_fx (fun _ _ _ _ _ _ _ => none) (b_X10_spread_123 k109) m σ 139 Y to (nI y) (nI a) (nI b) = k109 τ1 139 Y to (nI y) (nI (a + 1)) ∧ Jo mpS τ τ1 ∧ (∀ d, d < tN (sv s) → bl_J τ1 147 d = lN (now d)) ∧ ∀ d, d < tN (sv s) → bl_J τ1 148 d = lN (Q (a + 1) d) := by
    intro k109 a ha r
    induction r with
    | zero =>
      intro b m σ hb hm1 J h1 h2
      obtain ⟨m, rfl⟩ : ∃ z, m = z + 1 := ⟨m - 1, by omega⟩
      have hb : b = tN (sv s) := by omega
      have ms := hm.jo J
      have e0 := ms.2.1.1.1
      refine ⟨σ, ?_, J, h1, fun d hd => by rw [h2 d hd, if_pos (by omega)]⟩
      rw [hb, fx_succ]
      show (if bl_I σ (bl_R σ 139 1) 0 ≤ nI (tN (sv s)) then _ else _) = _
      rw [ms.1.1.1.1.1, e0, if_pos (nI_le (Nat.le_refl _) (by omega)), let_eq, nI_1]
    | succ r ih =>
      intro b m σ hb hm1 J h1 h2
      obtain ⟨m, rfl⟩ : ∃ z, m = z + 1 := ⟨m - 1, by omega⟩
      have ms := hm.jo J
      have e0 := ms.2.1.1.1
      have hbN : b < tN (sv s) := by omega
      have hq : lN (Q a b) + lN (now a) * lN (mvN (sv s) a b) = lN (Q (a + 1) b) := by
        rw [lN_mul, lN_add, hQ]
        rfl
      obtain ⟨τ1, e1, q⟩ := ih (b + 1) m (bl_pJ σ 148 b (lN (Q (a + 1) b))) (by omega) (by omega) (J.pJ (Or.inr rfl) _ _) (fun d hd => by rw [J_pJ_o (by decide)]; exact h1 d hd) (fun d hd => by
        by_cases hdb : d = b
        · rw [hdb, J_pJ_self, if_pos (by omega)]
        · rw [J_pJ_ne hdb, h2 d hd]
          by_cases hlt : d < b
          · rw [if_pos hlt, if_pos (by omega)]
          · rw [if_neg hlt, if_neg (by omega)])
      refine ⟨τ1, ?_, q⟩
      have hb2 := h2 b hbN
      rw [if_neg (Nat.lt_irrefl b)] at hb2
      rw [fx_succ]
      show (if bl_I σ (bl_R σ 139 1) 0 ≤ nI b then _ else _) = _
      rw [ms.1.1.1.1.1, e0, if_neg (nI_ge hbN (by omega)), in_nI (show b < 8 by omega) (by decide), gd_true, in_nI (show a < 8 by omega) (by decide), gd_true, m_movesOf ms ok ha hbN, bd_some, gd_true, let_eq, let_eq, ms.1.1.2.1.1, ms.1.1.2.1.2.1, nI_clamp (by omega), nI_clamp (by omega), hb2, h1 a ha, hq, nI_1]
      exact e1
  have l109 : ∀ (r a m : Nat) (σ : bl_St), a + r = tN (sv s) → r < m → Jo mpS τ σ → (∀ d, d < tN (sv s) → bl_J σ 147 d = lN (now d)) → (∀ d, d < tN (sv s) → bl_J σ 148 d = lN (Q a d)) → ∃ τ1, bl_fx (fun _ _ _ _ _ _ => none) (b_X10_spread_109 k76) m σ 139 Y to (nI y) (nI a) = k76 τ1 139 Y to (nI (y + 1)) ∧ Jo mpS τ τ1 ∧ ∀ b, b < tN (sv s) → bl_J τ1 147 b = lN (spY (sv s) now b) := by
    intro r
    induction r with
    | zero =>
      intro a m σ ha hm1 J h1 h2
      obtain ⟨m, rfl⟩ : ∃ z, m = z + 1 := ⟨m - 1, by omega⟩
      have ha : a = tN (sv s) := by omega
      have ms := hm.jo J
      have e0 := ms.2.1.1.1
      obtain ⟨τ1, e1, q⟩ := l175 8 0 bl_fu σ (by omega) (by unfold bl_fu; omega) J (fun d hd => by rw [h2 d hd, ha, hQ]; rfl) (fun d hd => absurd hd (Nat.not_lt_zero d))
      refine ⟨τ1, ?_, q⟩
      rw [ha, fx_succ]
      show (if bl_I σ (bl_R σ 139 1) 0 ≤ nI (tN (sv s)) then _ else _) = _
      rw [ms.1.1.1.1.1, e0, if_pos (nI_le (Nat.le_refl _) (by omega))]
      exact e1
    | succ r ih =>
      intro a m σ ha hm1 J h1 h2
      obtain ⟨m, rfl⟩ : ∃ z, m = z + 1 := ⟨m - 1, by omega⟩
      have ms := hm.jo J
      have e0 := ms.2.1.1.1
      obtain ⟨τ1, e1, J1, q1, q2⟩ := l123 (bl_fx (fun _ _ _ _ _ _ => none) (b_X10_spread_109 k76) m) a (by omega) (tN (sv s)) 0 bl_fu σ (by omega) (by unfold bl_fu; omega) J h1 (fun d hd => by rw [if_neg (by omega)]; exact h2 d hd)
      obtain ⟨τ2, e2, q⟩ := ih (a + 1) m τ1 (by omega) (by omega) J1 q1 q2
      refine ⟨τ2, ?_, q⟩
      rw [fx_succ]
      show (if bl_I σ (bl_R σ 139 1) 0 ≤ nI a then _ else _) = _
      rw [ms.1.1.1.1.1, e0, if_neg (nI_ge (by omega) (by omega))]
      exact e1.trans e2
  have l85 : ∀ (r d m : Nat) (σ : bl_St), d + r = 8 → r < m → Jo mpS τ σ → (∀ b, b < tN (sv s) → bl_J σ 147 b = lN (now b)) → (∀ b, b < d → bl_J σ 148 b = 0) → ∃ τ1, bl_fx (fun _ _ _ _ _ _ => none) (b_X10_spread_85 k76) m σ 139 Y to (nI y) (nI d) = k76 τ1 139 Y to (nI (y + 1)) ∧ Jo mpS τ τ1 ∧ ∀ b, b < tN (sv s) → bl_J τ1 147 b = lN (spY (sv s) now b) := by
    intro r
    induction r with
    | zero =>
      intro d m σ hd hm1 J h1 h2
      obtain ⟨m, rfl⟩ : ∃ z, m = z + 1 := ⟨m - 1, by omega⟩
      have hd : d = 8 := by omega
      obtain ⟨τ1, e1, q⟩ := l109 (tN (sv s)) 0 bl_fu σ (by omega) (by unfold bl_fu; omega) J h1 (fun b hb => by rw [h2 b (by omega), hQ]; rfl)
      refine ⟨τ1, ?_, q⟩
      rw [hd, fx_succ]
      show (if (8 : Int32) ≤ nI 8 then _ else _) = _
      rw [if_pos (by decide)]
      exact e1
    | succ r ih =>
      intro d m σ hd hm1 J h1 h2
      obtain ⟨m, rfl⟩ : ∃ z, m = z + 1 := ⟨m - 1, by omega⟩
      have ms := hm.jo J
      obtain ⟨τ1, e1, q⟩ := ih (d + 1) m (bl_pJ σ 148 d 0) (by omega) (by omega) (J.pJ (Or.inr rfl) _ _) (fun b hb => by rw [J_pJ_o (by decide)]; exact h1 b hb) (fun b hb => by
        by_cases hbd : b = d
        · rw [hbd, J_pJ_self]
        · rw [J_pJ_ne hbd]; exact h2 b (by omega))
      refine ⟨τ1, ?_, q⟩
      rw [fx_succ]
      show (if (8 : Int32) ≤ nI d then _ else _) = _
      rw [if_neg (show ¬ (8 : Int32) ≤ nI d from nI_ge (a := d) (b := 8) (by omega) (by decide)), in_nI (by omega) (by decide), gd_true, let_eq, let_eq, ms.1.1.2.1.2.1, nI_clamp (by omega), nI_1]
      exact e1
  exact l85 8 0 bl_fu τ (by omega) (by unfold bl_fu; omega) (Jo.rf _ τ) hn (fun b hb => absurd hb (Nat.not_lt_zero b))
theorem op_spread (ok : SOk s n) (Y c w : Int32) : Both n s (fun σ => f_X9_spread σ 0 Y c w) (fun τ => f_X10_spread τ 139 Y c w) := by
  have h8 := ok.1.n8
  have hH := ok.1.2.2.2.1
  have eH : ∀ τ, MI τ s → bl_I τ (bl_R τ 139 1) 2 = nI (tH (sv s)) := fun τ hm => by
    have := hm.2.1.2.1.1
    rw [hm.1.1.1.1.1]
    simpa using this
  have hz : ¬ nI (tH (sv s)) = 0 := nI_ne0 hH.1 (by omega)
  rcases (Classical.em ((vC c (tN (sv s)) ∧ vC w (tN (sv s))) ∧ vR Y 0 (16 / tH (sv s)))).symm with hb | hb
  · refine Both.same ok (-1) (fun σ hx => ⟨σ, ?_, hx⟩) (fun τ hm => ⟨τ, ?_, hm⟩)
    · show f_X9_spread σ 0 Y c w = _
      unfold f_X9_spread
      rw [hx.1.1.1.2.2.1, x_hasClass hx.2.1 ok.1, bd_some]
      by_cases h1 : vC c (tN (sv s))
      · rw [if_pos h1, if_neg (by decide), hx.1.1.1.2.2.1, x_hasClass hx.2.1 ok.1, bd_some]
        by_cases h2 : vC w (tN (sv s))
        · rw [if_pos h2, if_neg (by decide)]
          by_cases h3 : Y < 0
          · rw [if_pos h3]
          rw [if_neg h3]
          by_cases h4 : (16 : Int32) < Y
          · rw [if_pos h4]
          rw [if_neg h4, hx.1.1.1.2.2.1, x_chances hx.2.1, bd_some]
          obtain ⟨y, rfl, -, hy⟩ := vR_of (x := Y) (a := 0) (b := 16) (by decide) ⟨by rw [lt0_iff] at h3; omega, by rw [show (16 : Int32) = nI 16 from rfl, Nlt_iff Y (by decide)] at h4; omega⟩
          have hmul : y * tH (sv s) ≤ 16 * 3 := Nat.mul_le_mul hy hH.2
          rw [nI_mul, if_neg (show ¬ nI (y * tH (sv s)) ≤ 16 from fun z => hb ⟨⟨h1, h2⟩, ⟨by rw [nI_toInt (by omega)]; omega, by
            rw [show (16 : Int32) = nI 16 from rfl, leN_iff' _ (by decide), nI_toInt (by omega)] at z
            rw [nI_toInt (by omega)]
            have : y ≤ 16 / tH (sv s) := (Nat.le_div_iff_mul_le hH.1).mpr (by omega)
            omega⟩⟩)]
        · rw [if_neg h2, if_pos rfl]
      · rw [if_neg h1, if_pos rfl]
    · show f_X10_spread τ 139 Y c w = _
      unfold f_X10_spread
      rw [m_isClass hm.1.1.1.1.1 hm.2.1 ok.1, bd_some]
      by_cases h1 : vC c (tN (sv s))
      · rw [if_pos h1, if_neg (by decide), m_isClass hm.1.1.1.1.1 hm.2.1 ok.1, bd_some]
        by_cases h2 : vC w (tN (sv s))
        · rw [if_pos h2, if_neg (by decide), eH τ hm, gd_of (by simp [hz]), show (16 : Int32) = nI 16 from rfl, nI_div (by decide) (by omega), i2l_nI (by have := Nat.div_le_self 16 (tH (sv s)); omega), show (0 : Int64) = lN 0 from rfl, m_inN τ Y (by decide) (by have := Nat.div_le_self 16 (tH (sv s)); omega), bd_some, if_neg (show ¬ vR Y 0 (16 / tH (sv s)) from fun z => hb ⟨⟨h1, h2⟩, z⟩), if_pos rfl]
        · rw [if_neg h2, if_pos rfl]
      · rw [if_neg h1, if_pos rfl]
  obtain ⟨⟨hc, hw⟩, hY⟩ := hb
  have hd16 := Nat.div_le_self 16 (tH (sv s))
  obtain ⟨c, hc', rfl⟩ := vC_of (by omega) hc
  obtain ⟨b, hb', rfl⟩ := vC_of (by omega) hw
  obtain ⟨y, rfl, -, hy⟩ := vR_of (by omega) hY
  have hy16 : y * tH (sv s) ≤ 16 := (Nat.le_div_iff_mul_le hH.1).mp hy
  refine Both.same ok (lN (spN (sv s) c y b)) (fun σ hx => ?_) (fun τ hm => ?_)
  · have l91 : ∀ (r k m : Nat) (τ : bl_St), k + r = y → r < m → Jo spS σ τ → (∀ d, d < tN (sv s) → bl_J τ 137 d = lN (spN (sv s) c k d)) → ∃ σ1, bl_fx (fun _ _ _ _ _ => none) (b_X9_spread_91) m τ 0 (nI y) (nI b) (nI k) = some (lN (spN (sv s) c y b), σ1) ∧ Jo spS σ σ1 := by
      intro r
      induction r with
      | zero =>
        intro k m τ hk hm J h1
        obtain ⟨m, rfl⟩ : ∃ z, m = z + 1 := ⟨m - 1, by omega⟩
        have hk : k = y := by omega
        have xt := hx.sp J
        refine ⟨τ, ?_, J⟩
        rw [hk, fx_succ]
        show (if nI y ≤ nI y then _ else _) = _
        have h1b := h1 b hb'
        rw [hk] at h1b
        rw [if_pos (nI_le (Nat.le_refl _) (by omega)), in_nI (by omega) (by decide), gd_true, xt.1.1.2.2.2.2.2.1, nI_clamp (by omega), h1b]
      | succ r ih =>
        intro k m τ hk hm J h1
        obtain ⟨m, rfl⟩ : ∃ z, m = z + 1 := ⟨m - 1, by omega⟩
        have xt := hx.sp J
        obtain ⟨σ1, e1, J1, q1⟩ := x_spreadYear xt ok h1
        obtain ⟨σ2, e2, J2⟩ := ih (k + 1) m σ1 (by omega) (by omega) (J.tr J1) q1
        refine ⟨σ2, ?_, J2⟩
        rw [fx_succ]
        show (if nI y ≤ nI k then _ else _) = _
        rw [if_neg (nI_ge (by omega) (by omega)), e1, bd_some, let_eq, nI_1]
        exact e2
    have l57 : ∀ (r d m : Nat) (τ : bl_St), d + r = 8 → r < m → Jo spS σ τ → (∀ u, u < d → bl_J τ 137 u = lN (spN (sv s) c 0 u)) → ∃ σ1, bl_fx (fun _ _ _ _ _ _ => none) (b_X9_spread_57) m τ 0 (nI y) (nI c) (nI b) (nI d) = some (lN (spN (sv s) c y b), σ1) ∧ Jo spS σ σ1 := by
      intro r
      induction r with
      | zero =>
        intro d m τ hd hm J h1
        obtain ⟨m, rfl⟩ : ∃ z, m = z + 1 := ⟨m - 1, by omega⟩
        have hd : d = 8 := by omega
        obtain ⟨σ1, e1, q⟩ := l91 y 0 bl_fu τ (by omega) (by unfold bl_fu; omega) J (fun u hu => h1 u (by omega))
        refine ⟨σ1, ?_, q⟩
        rw [hd, fx_succ]
        show (if (8 : Int32) ≤ nI 8 then _ else _) = _
        rw [if_pos (by decide)]
        exact e1
      | succ r ih =>
        intro d m τ hd hm J h1
        obtain ⟨m, rfl⟩ : ∃ z, m = z + 1 := ⟨m - 1, by omega⟩
        have xt := hx.sp J
        obtain ⟨σ1, e1, q⟩ := ih (d + 1) m (bl_pJ τ 137 d (lN (spN (sv s) c 0 d))) (by omega) (by omega) (J.pJ (Or.inl rfl) _ _) (fun u hu => by
          by_cases hud : u = d
          · rw [hud, J_pJ_self]
          · rw [J_pJ_ne hud]; exact h1 u (by omega))
        refine ⟨σ1, ?_, q⟩
        rw [fx_succ]
        show (if (8 : Int32) ≤ nI d then _ else _) = _
        have k81 : ∀ x : Int64, b_X9_spread_81 (bl_fx (fun _ _ _ _ _ _ => none) (b_X9_spread_57) m) τ 0 (nI y) (nI c) (nI b) (nI d) x (nI d) 137 = bl_fx (fun _ _ _ _ _ _ => none) (b_X9_spread_57) m (bl_pJ τ 137 d x) 0 (nI y) (nI c) (nI b) (nI (d + 1)) := by
          intro x
          unfold b_X9_spread_81
          rw [in_nI (by omega) (by decide), gd_true, let_eq, let_eq, nI_clamp (by omega), nI_1]
        rw [if_neg (show ¬ (8 : Int32) ≤ nI d from nI_ge (a := d) (b := 8) (by omega) (by decide)), xt.1.1.2.2.2.2.2.1, k81, k81]
        have e0 : spN (sv s) c 0 d = if d = c then 1 else 0 := rfl
        rw [e0] at e1
        by_cases hdc : d = c
        · rw [if_pos (show nI d = nI c by rw [hdc])]
          rw [if_pos hdc] at e1
          exact e1
        · rw [if_neg (fun z => hdc (nI_inj (by omega) (by omega) z))]
          rw [if_neg hdc] at e1
          exact e1
    obtain ⟨σ1, e1, J1⟩ := l57 8 0 bl_fu σ (by omega) (by unfold bl_fu; omega) (Jo.rf _ σ) (fun u hu => absurd hu (Nat.not_lt_zero u))
    refine ⟨σ1, ?_, hx.sp J1⟩
    show f_X9_spread σ 0 (nI y) (nI c) (nI b) = _
    unfold f_X9_spread
    rw [hx.1.1.1.2.2.1, x_hasClass hx.2.1 ok.1, bd_some, if_pos hc, if_neg (by decide), hx.1.1.1.2.2.1, x_hasClass hx.2.1 ok.1, bd_some, if_pos hw, if_neg (by decide), if_neg (nI_pos (by omega)), if_neg (show ¬ (16 : Int32) < nI y from nI_nlt (a := 16) (by omega) (by omega)), hx.1.1.1.2.2.1, x_chances hx.2.1, bd_some, nI_mul, if_pos (show nI (y * tH (sv s)) ≤ 16 from nI_le (b := 16) hy16 (by decide))]
    exact e1
  · have l76 : ∀ (r k m : Nat) (σ : bl_St), k + r = y → r < m → Jo mpS τ σ → (∀ d, d < tN (sv s) → bl_J σ 147 d = lN (spN (sv s) c k d)) → ∃ τ1, bl_fx (fun _ _ _ _ _ => none) (b_X10_spread_76) m σ 139 (nI y) (nI b) (nI k) = some (lN (spN (sv s) c y b), τ1) ∧ Jo mpS τ τ1 := by
      intro r
      induction r with
      | zero =>
        intro k m σ hk hm1 J h1
        obtain ⟨m, rfl⟩ : ∃ z, m = z + 1 := ⟨m - 1, by omega⟩
        have hk : k = y := by omega
        have ms := hm.jo J
        have h1b := h1 b hb'
        rw [hk] at h1b
        refine ⟨σ, ?_, J⟩
        rw [hk, fx_succ]
        show (if nI y ≤ nI y then _ else _) = _
        rw [if_pos (nI_le (Nat.le_refl _) (by omega)), in_nI (by omega) (by decide), gd_true, ms.1.1.2.1.1, nI_clamp (by omega), h1b]
      | succ r ih =>
        intro k m σ hk hm1 J h1
        obtain ⟨m, rfl⟩ : ∃ z, m = z + 1 := ⟨m - 1, by omega⟩
        have ms := hm.jo J
        obtain ⟨τ1, e1, J1, q1⟩ := m_spreadYear ms ok (nI y) (nI b) (bl_fx (fun _ _ _ _ _ => none) (b_X10_spread_76) m) k h1
        obtain ⟨τ2, e2, J2⟩ := ih (k + 1) m τ1 (by omega) (by omega) (J.tr J1) q1
        refine ⟨τ2, ?_, J2⟩
        rw [fx_succ]
        show (if nI y ≤ nI k then _ else _) = _
        rw [if_neg (nI_ge (by omega) (by omega))]
        exact e1.trans e2
    have l42 : ∀ (r d m : Nat) (σ : bl_St), d + r = 8 → r < m → Jo mpS τ σ → (∀ u, u < d → bl_J σ 147 u = lN (spN (sv s) c 0 u)) → ∃ τ1, bl_fx (fun _ _ _ _ _ _ => none) (b_X10_spread_42) m σ 139 (nI y) (nI c) (nI b) (nI d) = some (lN (spN (sv s) c y b), τ1) ∧ Jo mpS τ τ1 := by
      intro r
      induction r with
      | zero =>
        intro d m σ hd hm1 J h1
        obtain ⟨m, rfl⟩ : ∃ z, m = z + 1 := ⟨m - 1, by omega⟩
        have hd : d = 8 := by omega
        obtain ⟨τ1, e1, q⟩ := l76 y 0 bl_fu σ (by omega) (by unfold bl_fu; omega) J (fun u hu => h1 u (by omega))
        refine ⟨τ1, ?_, q⟩
        rw [hd, fx_succ]
        show (if (8 : Int32) ≤ nI 8 then _ else _) = _
        rw [if_pos (by decide)]
        exact e1
      | succ r ih =>
        intro d m σ hd hm1 J h1
        obtain ⟨m, rfl⟩ : ∃ z, m = z + 1 := ⟨m - 1, by omega⟩
        have ms := hm.jo J
        obtain ⟨τ1, e1, q⟩ := ih (d + 1) m (bl_pJ σ 147 d (lN (spN (sv s) c 0 d))) (by omega) (by omega) (J.pJ (Or.inl rfl) _ _) (fun u hu => by
          by_cases hud : u = d
          · rw [hud, J_pJ_self]
          · rw [J_pJ_ne hud]; exact h1 u (by omega))
        refine ⟨τ1, ?_, q⟩
        rw [fx_succ]
        show (if (8 : Int32) ≤ nI d then _ else _) = _
        have k66 : ∀ x : Int64, b_X10_spread_66 (bl_fx (fun _ _ _ _ _ _ => none) (b_X10_spread_42) m) σ 139 (nI y) (nI c) (nI b) (nI d) x (nI d) 147 = bl_fx (fun _ _ _ _ _ _ => none) (b_X10_spread_42) m (bl_pJ σ 147 d x) 139 (nI y) (nI c) (nI b) (nI (d + 1)) := by
          intro x
          unfold b_X10_spread_66
          rw [in_nI (by omega) (by decide), gd_true, let_eq, let_eq, nI_clamp (by omega), nI_1]
        rw [if_neg (show ¬ (8 : Int32) ≤ nI d from nI_ge (a := d) (b := 8) (by omega) (by decide)), ms.1.1.2.1.1, k66, k66]
        have e0 : spN (sv s) c 0 d = if d = c then 1 else 0 := rfl
        rw [e0] at e1
        by_cases hdc : d = c
        · rw [if_pos (show nI d = nI c by rw [hdc])]
          rw [if_pos hdc] at e1
          exact e1
        · rw [if_neg (fun z => hdc (nI_inj (by omega) (by omega) z))]
          rw [if_neg hdc] at e1
          exact e1
    obtain ⟨τ1, e1, J1⟩ := l42 8 0 bl_fu τ (by omega) (by unfold bl_fu; omega) (Jo.rf _ τ) (fun u hu => absurd hu (Nat.not_lt_zero u))
    refine ⟨τ1, ?_, hm.jo J1⟩
    show f_X10_spread τ 139 (nI y) (nI c) (nI b) = _
    unfold f_X10_spread
    rw [m_isClass hm.1.1.1.1.1 hm.2.1 ok.1, bd_some, if_pos hc, if_neg (by decide), m_isClass hm.1.1.1.1.1 hm.2.1 ok.1, bd_some, if_pos hw, if_neg (by decide), eH τ hm, gd_of (by simp [hz]), show (16 : Int32) = nI 16 from rfl, nI_div (by decide) (by omega), i2l_nI (a := 16 / tH (sv s)) (by omega), show (0 : Int64) = lN 0 from rfl, m_inN τ (nI y) (by decide) (by omega), bd_some, if_pos hY, if_neg (by decide)]
    exact e1
end SPR
