section CXU
variable {s : st_V} {n : Nat} {σ τ : bl_St}
theorem stA_full (ok : SOk s n) {L c k t : Nat} (h1 : 1 ≤ L) (h2 : L ≤ 20) (h3 : c < tN (sv s)) (h4 : k < tH (sv s)) (h5 : t ≤ 2) : stA s (nI L) (nI c) (nI k) (nI t) (tH (sv s)) := by
  have hH := ok.1.2.2.2.1
  have q := stA_nI ok h1 h2 h3 h4 h5
  exact ⟨q.1, q.2.1, ⟨q.2.2.1.1, by rw [nI_toInt (by omega)]; omega⟩, q.2.2.2⟩
theorem st_last (ok : SOk s n) {l c k t : Int32} (h1 : stA s l c k t (tH (sv s))) (hb : ¬ stA s l c k t (tH (sv s) - 1)) : k = nI (tH (sv s)) := by
  have hH := ok.1.2.2.2.1
  obtain ⟨k', rfl, -, hk⟩ := vR_of (by omega) h1.2.2.1
  congr 1
  apply Classical.byContradiction
  intro z
  exact hb ⟨h1.1, h1.2.1, ⟨h1.2.2.1.1, by rw [nI_toInt (by omega)]; omega⟩, h1.2.2.2⟩
/-- which sorts are worth telling, as bits -/
def cTl (v : tm_V) (L c k t g : Nat) : Nat → Nat
  | 0 => 0
  | d + 1 => if cG v L c k t g d ≤ 0 then cTl v L c k t g d else cTl v L c k t g d ||| 2 ^ d
theorem cTl_lt (v : tm_V) (L c k t g : Nat) : ∀ d, d ≤ 8 → cTl v L c k t g d < 256
  | 0, _ => by show 0 < 256; decide
  | d + 1, h => by
    have := cTl_lt v L c k t g d (by omega)
    unfold cTl
    split
    · exact this
    · exact or_lt8 this (p2_lt (by omega))
theorem op_tells (ok : SOk s n) (l c k t : Int32) {g : Nat} (hg : g < 2) : Both n s (fun σ => f_X9_tells σ 0 l c k t (nI g)) (fun τ => f_X10_tells τ 139 l c k t (nI g)) := by
  have hH := ok.1.2.2.2.1
  have h5k := ok.1.k5
  refine op_chance ok l c k t hg (-1) (fun L c' k' t' => nI (cTl (sv s) L c' k' t' g (tK (sv s)))) (fun σ hx hb => ?_) (fun τ hm hb => ?_) (fun L c' k' t' el ec ek et h1 h2 h3 h4 h5 σ σ1 σ2 hx e1 x1 e2 x2 c2 l2 => ?_) (fun L c' k' t' el ec ek et h1 h2 h3 h4 h5 τ τ1 hm e1 m1 c1 l1 => ?_)
  · show f_X9_tells σ 0 l c k t (nI g) = _
    unfold f_X9_tells
    rw [x_isState hx ok, bd_some]
    by_cases h1 : stA s l c k t (tH (sv s))
    · rw [if_pos h1, if_neg (by decide), hx.1.1.1.2.2.1, x_chances hx.2.1, bd_some, if_pos (st_last ok h1 hb)]
    · rw [if_neg h1, if_pos rfl]
  · show f_X10_tells τ 139 l c k t (nI g) = _
    unfold f_X10_tells
    rw [m_H1 hm ok, m_isChance0 hm ok (by omega) hb, bd_some, if_pos rfl]
  · subst el ec ek et
    show f_X9_tells σ 0 (nI L) (nI c') (nI k') (nI t') (nI g) = _
    have loop : ∀ (r d m : Nat), d + r = tK (sv s) → r < m → bl_fx (fun _ _ _ _ _ _ _ => none) (b_X9_tells_55) m σ2 0 (nI k') (nI t') (nI g) (nI (cTl (sv s) L c' k' t' g d)) (nI d) = some (nI (cTl (sv s) L c' k' t' g (tK (sv s))), σ2) := by
      intro r
      induction r with
      | zero =>
        intro d m hd hm
        obtain ⟨m, rfl⟩ : ∃ q, m = q + 1 := ⟨m - 1, by omega⟩
        have hd : d = tK (sv s) := by omega
        rw [hd, fx_succ]
        show (if bl_I σ2 (bl_R σ2 0 2) 1 ≤ nI (tK (sv s)) then _ else _) = _
        rw [x2.1.1.1.2.2.1, x2.2.1.2.1.2, if_pos (nI_le (Nat.le_refl _) (by omega))]
      | succ r ih =>
        intro d m hd hm
        obtain ⟨m, rfl⟩ : ∃ q, m = q + 1 := ⟨m - 1, by omega⟩
        have key := ih (d + 1) m (by omega) (by omega)
        rw [fx_succ]
        show (if bl_I σ2 (bl_R σ2 0 2) 1 ≤ nI d then _ else _) = _
        rw [x2.1.1.1.2.2.1, x2.2.1.2.1.2, if_neg (nI_ge (by omega) (by omega)), x2.1.1.2.1, x_gainOf c2 ok l2 h4 h5 hg (show d < tK (sv s) by omega), bd_some]
        unfold b_X9_tells_95
        by_cases hz : cG (sv s) L c' k' t' g d ≤ 0
        · rw [if_pos hz, let_eq, nI_1]
          have e : cTl (sv s) L c' k' t' g (d + 1) = cTl (sv s) L c' k' t' g d := by
            show (if cG (sv s) L c' k' t' g d ≤ 0 then _ else _) = _
            rw [if_pos hz]
          rw [e] at key
          exact key
        · rw [if_neg hz, let_eq, let_eq, bit_or _ (cTl_lt _ _ _ _ _ _ d (by omega)) d (by omega), nI_1]
          have e : cTl (sv s) L c' k' t' g (d + 1) = cTl (sv s) L c' k' t' g d ||| 2 ^ d := by
            show (if cG (sv s) L c' k' t' g d ≤ 0 then _ else _) = _
            rw [if_neg hz]
          rw [e] at key
          exact key
    unfold f_X9_tells
    rw [x_isState hx ok, bd_some, if_pos (stA_full ok h1 h2 h3 h4 h5), if_neg (by decide), hx.1.1.1.2.2.1, x_chances hx.2.1, bd_some, if_neg (fun z => by have := nI_inj (by omega) (by omega) z; omega), hx.1.1.2.1, show (1 : Int32) = nI 1 from rfl, nI_sub h1, e1, bd_some, x1.1.1.2.1, e2, bd_some]
    exact loop (tK (sv s)) 0 bl_fu (by omega) (by unfold bl_fu; omega)
  · subst el ec ek et
    show f_X10_tells τ 139 (nI L) (nI c') (nI k') (nI t') (nI g) = _
    have eK := m1.2.1.1.2
    simp only [Nat.zero_add] at eK
    have loop : ∀ (r d m : Nat), d + r = tK (sv s) → r < m → bl_fx (fun _ _ _ _ _ _ _ => none) (b_X10_tells_28) m τ1 139 (nI k') (nI t') (nI g) (nI (cTl (sv s) L c' k' t' g d)) (nI d) = some (nI (cTl (sv s) L c' k' t' g (tK (sv s))), τ1) := by
      intro r
      induction r with
      | zero =>
        intro d m hd hm2
        obtain ⟨m, rfl⟩ : ∃ q, m = q + 1 := ⟨m - 1, by omega⟩
        have hd : d = tK (sv s) := by omega
        rw [hd, fx_succ]
        show (if bl_I τ1 (bl_R τ1 139 1) 1 ≤ nI (tK (sv s)) then _ else _) = _
        rw [m1.1.1.1.1.1, eK, if_pos (nI_le (Nat.le_refl _) (by omega))]
      | succ r ih =>
        intro d m hd hm2
        obtain ⟨m, rfl⟩ : ∃ q, m = q + 1 := ⟨m - 1, by omega⟩
        have key := ih (d + 1) m (by omega) (by omega)
        rw [fx_succ]
        have h55 : b_X10_tells_28 (bl_fx (fun _ _ _ _ _ _ _ => none) (b_X10_tells_28) m) τ1 139 (nI k') (nI t') (nI g) (nI (cTl (sv s) L c' k' t' g d)) (nI d) = b_X10_tells_55 (bl_fx (fun _ _ _ _ _ _ _ => none) (b_X10_tells_28) m) τ1 139 (nI k') (nI t') (nI g) (nI (cTl (sv s) L c' k' t' g d)) (nI d) (nI g) (nI t') (nI k') (nI d) 139 := by
          show (if bl_I τ1 (bl_R τ1 139 1) 1 ≤ nI d then _ else _) = _
          rw [m1.1.1.1.1.1, eK, if_neg (nI_ge (by omega) (by omega))]
          rcases (show g = 0 ∨ g = 1 by omega) with rfl | rfl
          · rw [if_pos (by rfl)]; rfl
          · rw [if_neg (by decide)]; rfl
        rw [h55]
        unfold b_X10_tells_55 b_X10_tells_72
        rw [m_gainOf c1 ok l1 h4 h5 hg (show d < tK (sv s) by omega), bd_some]
        by_cases hz : cG (sv s) L c' k' t' g d ≤ 0
        · rw [if_pos hz, let_eq, nI_1]
          have e : cTl (sv s) L c' k' t' g (d + 1) = cTl (sv s) L c' k' t' g d := by
            show (if cG (sv s) L c' k' t' g d ≤ 0 then _ else _) = _
            rw [if_pos hz]
          rw [e] at key
          exact key
        · rw [if_neg hz, let_eq, let_eq, bit_or _ (cTl_lt _ _ _ _ _ _ d (by omega)) d (by omega), nI_1]
          have e : cTl (sv s) L c' k' t' g (d + 1) = cTl (sv s) L c' k' t' g d ||| 2 ^ d := by
            show (if cG (sv s) L c' k' t' g d ≤ 0 then _ else _) = _
            rw [if_neg hz]
          rw [e] at key
          exact key
    unfold f_X10_tells
    rw [m_H1 hm ok, e1, bd_some, if_neg (by decide)]
    exact loop (tK (sv s)) 0 bl_fu (by omega) (by unfold bl_fu; omega)
theorem op_gain (ok : SOk s n) (l c k t : Int32) {g : Nat} (hg : g < 2) (d : Int32) : Both n s (fun σ => f_X9_gain σ 0 l c k t (nI g) d) (fun τ => f_X10_gain τ 139 l c k t (nI g) d) := by
  have hH := ok.1.2.2.2.1
  have h5k := ok.1.k5
  rcases (Classical.em (vC d (tK (sv s)))).symm with hd | hd
  · refine Both.same ok (-9223372036854775808) (fun σ hx => ⟨σ, ?_, hx⟩) (fun τ hm => ⟨τ, ?_, hm⟩)
    · show f_X9_gain σ 0 l c k t (nI g) d = _
      unfold f_X9_gain
      rw [x_isState hx ok, bd_some]
      by_cases h1 : stA s l c k t (tH (sv s))
      · rw [if_pos h1, if_neg (by decide), hx.1.1.1.2.2.1, x_chances hx.2.1, bd_some]
        by_cases h2 : k = nI (tH (sv s))
        · rw [if_pos h2]
        · rw [if_neg h2, hx.1.1.1.2.2.1, x_hasSort hx.2.1 ok.1, bd_some, if_neg hd, if_pos rfl]
      · rw [if_neg h1, if_pos rfl]
    · show f_X10_gain τ 139 l c k t (nI g) d = _
      unfold f_X10_gain
      rw [m_isSort hm.1.1.1.1.1 hm.2.1 ok.1, bd_some, if_neg hd, if_pos rfl]
  obtain ⟨d, hd', rfl⟩ := vC_of (by omega) hd
  refine op_chance ok l c k t hg (-9223372036854775808) (fun L c' k' t' => cG (sv s) L c' k' t' g d) (fun σ hx hb => ?_) (fun τ hm hb => ?_) (fun L c' k' t' el ec ek et h1 h2 h3 h4 h5 σ σ1 σ2 hx e1 x1 e2 x2 c2 l2 => ?_) (fun L c' k' t' el ec ek et h1 h2 h3 h4 h5 τ τ1 hm e1 m1 c1 l1 => ?_)
  · show f_X9_gain σ 0 l c k t (nI g) (nI d) = _
    unfold f_X9_gain
    rw [x_isState hx ok, bd_some]
    by_cases h1 : stA s l c k t (tH (sv s))
    · rw [if_pos h1, if_neg (by decide), hx.1.1.1.2.2.1, x_chances hx.2.1, bd_some, if_pos (st_last ok h1 hb)]
    · rw [if_neg h1, if_pos rfl]
  · show f_X10_gain τ 139 l c k t (nI g) (nI d) = _
    unfold f_X10_gain
    rw [m_isSort hm.1.1.1.1.1 hm.2.1 ok.1, bd_some, if_pos hd, if_neg (by decide), m_H1 hm ok, m_isChance0 hm ok (by omega) hb, bd_some, if_pos rfl]
  · subst el ec ek et
    show f_X9_gain σ 0 (nI L) (nI c') (nI k') (nI t') (nI g) (nI d) = _
    unfold f_X9_gain
    rw [x_isState hx ok, bd_some, if_pos (stA_full ok h1 h2 h3 h4 h5), if_neg (by decide), hx.1.1.1.2.2.1, x_chances hx.2.1, bd_some, if_neg (fun z => by have := nI_inj (by omega) (by omega) z; omega), hx.1.1.1.2.2.1, x_hasSort hx.2.1 ok.1, bd_some, if_pos hd, if_neg (by decide), hx.1.1.2.1, show (1 : Int32) = nI 1 from rfl, nI_sub h1, e1, bd_some, x1.1.1.2.1, e2, bd_some, x2.1.1.2.1, x_gainOf c2 ok l2 h4 h5 hg hd', bd_some]
  · subst el ec ek et
    show f_X10_gain τ 139 (nI L) (nI c') (nI k') (nI t') (nI g) (nI d) = _
    unfold f_X10_gain
    rw [m_isSort hm.1.1.1.1.1 hm.2.1 ok.1, bd_some, if_pos hd, if_neg (by decide), m_H1 hm ok, e1, bd_some, if_neg (by decide)]
    have q := m_gainOf c1 ok l1 h4 h5 hg hd'
    rcases (show g = 0 ∨ g = 1 by omega) with rfl | rfl
    · rw [if_pos (by rfl), show (0 : Int32) = nI 0 from rfl, q, bd_some]
    · rw [if_neg (by decide), show (1 : Int32) = nI 1 from rfl, q, bd_some]
/-- patience -/
theorem op_patience (ok : SOk s n) (c d : Int32) : Both n s (fun σ => f_X9_patience σ 0 c d) (fun τ => f_X10_patience τ 139 c d) := by
  have h8 := ok.1.n8
  have h5k := ok.1.k5
  have hH := ok.1.2.2.2.1
  rcases (Classical.em (vC c (tN (sv s)) ∧ vC d (tK (sv s)))).symm with hb | hb
  · refine Both.same ok (-1) (fun σ hx => ⟨σ, ?_, hx⟩) (fun τ hm => ⟨τ, ?_, hm⟩)
    · show f_X9_patience σ 0 c d = _
      unfold f_X9_patience
      rw [hx.1.1.1.2.2.1, x_hasClass hx.2.1 ok.1, bd_some]
      by_cases h1 : vC c (tN (sv s))
      · rw [if_pos h1, if_neg (by decide), hx.1.1.1.2.2.1, x_hasSort hx.2.1 ok.1, bd_some, if_neg (show ¬ vC d (tK (sv s)) from fun z => hb ⟨h1, z⟩), if_pos rfl]
      · rw [if_neg h1, if_pos rfl]
    · show f_X10_patience τ 139 c d = _
      unfold f_X10_patience
      rw [m_isClass hm.1.1.1.1.1 hm.2.1 ok.1, bd_some]
      by_cases h1 : vC c (tN (sv s))
      · rw [if_pos h1, if_neg (by decide), m_isSort hm.1.1.1.1.1 hm.2.1 ok.1, bd_some, if_neg (show ¬ vC d (tK (sv s)) from fun z => hb ⟨h1, z⟩), if_pos rfl]
      · rw [if_neg h1, if_pos rfl]
  obtain ⟨hc, hd⟩ := hb
  obtain ⟨c, hc', rfl⟩ := vC_of (by omega) hc
  obtain ⟨d, hd', rfl⟩ := vC_of (by omega) hd
  intro σ τ hx hm
  obtain ⟨τ1, e1, m1, c1, f1⟩ := m_lays (rl := 0) (lm := 0) hm ok (by omega) true (Nat.le_refl 20) (by decide) (by decide)
  have loop : ∀ (r L m q : Nat) (σ τ : bl_St), L + r = 21 → 1 ≤ L → r < m → r < q → XI σ s → MI τ s → CM τ (sv s) 0 0 false (tH (sv s) * 1) → (∀ z, z ≤ 20 → ∀ d, d < tN (sv s) → bl_J τ 144 (8 * z + d) = lN (cCo (sv s) false 0 0 true 1 0 z d) ∧ (1 ≤ z → bl_I τ 145 (8 * z + d) = nI (cGd (sv s) false 0 0 true 1 0 (z - 1) d))) → ∃ a σ1 τ1, bl_fx (fun _ _ _ _ _ => none) (b_X9_patience_26) m σ 0 (nI c) (nI d) (nI L) = some (a, σ1) ∧ bl_fx (fun _ _ _ _ _ => none) (b_X10_patience_29) q τ 139 (nI c) (nI d) (nI L) = some (a, τ1) ∧ XI σ1 s ∧ MI τ1 s := by
    intro r
    induction r with
    | zero =>
      intro L m q σ τ hL h1 hm1 hq1 hx hm C hf
      obtain ⟨m, rfl⟩ : ∃ z, m = z + 1 := ⟨m - 1, by omega⟩
      obtain ⟨q, rfl⟩ : ∃ z, q = z + 1 := ⟨q - 1, by omega⟩
      have hL : L = 21 := by omega
      refine ⟨-2, σ, τ, ?_, ?_, hx, hm⟩
      · rw [hL, fx_succ]
        show (if (20 : Int32) < nI 21 then _ else _) = _
        rw [if_pos (by decide)]
      · rw [hL, fx_succ]
        show (if (20 : Int32) < nI 21 then _ else _) = _
        rw [if_pos (by decide)]
    | succ r ih =>
      intro L m q σ τ hL h1 hm1 hq1 hx hm C hf
      obtain ⟨m, rfl⟩ : ∃ z, m = z + 1 := ⟨m - 1, by omega⟩
      obtain ⟨q, rfl⟩ : ∃ z, q = z + 1 := ⟨q - 1, by omega⟩
      obtain ⟨σ1, σ2, a1, x1, a2, x2, c2, l2⟩ := x_state (L := L) (c := c) (k := 0) (t := 0) (g := 0) hx ok h1 (by omega) hc' (Nat.zero_le _) (by decide) (by decide)
      obtain ⟨τ2, b1, m2, d2, g2, f2⟩ := m_lch (L := L) hm ok C hf h1 (show L ≤ 20 by omega) (Nat.le_refl _) hc'
      have xg := x_gainOf c2 ok l2 (show 0 < tH (sv s) by omega) (by decide) (by decide) hd'
      have mg := m_gainOf (k := 0) (t := 0) (g := 0) d2 ok g2 (show 0 < tH (sv s) by omega) (by decide) (by decide) hd'
      obtain ⟨a, σ3, τ3, i1, i2, i3, i4⟩ := ih (L + 1) m q σ2 τ2 (by omega) (by omega) (by omega) (by omega) x2 m2 d2 f2
      have n20 : ¬ (20 : Int32) < nI L := nI_nlt (a := 20) (b := L) (by omega) (by omega)
      by_cases hz : (0 : Int64) < cG (sv s) L c 0 0 0 d
      · refine ⟨a, σ3, τ3, ?_, ?_, i3, i4⟩
        · rw [fx_succ]
          show (if (20 : Int32) < nI L then _ else _) = _
          rw [if_neg n20, hx.1.1.2.1, show (1 : Int32) = nI 1 from rfl, nI_sub h1, a1, bd_some, x1.1.1.2.1, show f_X4_lookAhead σ1 111 (nI L) (nI c) 0 0 0 = _ from a2, bd_some, x2.1.1.2.1, show f_X4_gainOf σ2 111 0 0 0 (nI d) = _ from xg, bd_some, if_pos hz, let_eq, nI_add]
          exact i1
        · rw [fx_succ]
          show (if (20 : Int32) < nI L then _ else _) = _
          rw [if_neg n20, b1, bd_some, show f_X10_gainOf τ2 139 (nI d) 0 0 0 = _ from mg, bd_some, if_pos hz, let_eq, nI_1]
          exact i2
      · refine ⟨nI L, σ2, τ2, ?_, ?_, x2, m2⟩
        · rw [fx_succ]
          show (if (20 : Int32) < nI L then _ else _) = _
          rw [if_neg n20, hx.1.1.2.1, show (1 : Int32) = nI 1 from rfl, nI_sub h1, a1, bd_some, x1.1.1.2.1, show f_X4_lookAhead σ1 111 (nI L) (nI c) 0 0 0 = _ from a2, bd_some, x2.1.1.2.1, show f_X4_gainOf σ2 111 0 0 0 (nI d) = _ from xg, bd_some, if_neg hz]
        · rw [fx_succ]
          show (if (20 : Int32) < nI L then _ else _) = _
          rw [if_neg n20, b1, bd_some, show f_X10_gainOf τ2 139 (nI d) 0 0 0 = _ from mg, bd_some, if_neg hz]
  obtain ⟨a, σ1, τ2, i1, i2, i3, i4⟩ := loop 20 1 bl_fu bl_fu σ τ1 (by omega) (by omega) (by unfold bl_fu; omega) (by unfold bl_fu; omega) hx m1 c1 f1
  refine ⟨a, s, σ1, τ2, ?_, ?_, i3, i4, ok.up⟩
  · show f_X9_patience σ 0 (nI c) (nI d) = _
    unfold f_X9_patience
    rw [hx.1.1.1.2.2.1, x_hasClass hx.2.1 ok.1, bd_some, if_pos hc, if_neg (by decide), hx.1.1.1.2.2.1, x_hasSort hx.2.1 ok.1, bd_some, if_pos hd, if_neg (by decide)]
    exact i1
  · show f_X10_patience τ 139 (nI c) (nI d) = _
    unfold f_X10_patience
    rw [m_isClass hm.1.1.1.1.1 hm.2.1 ok.1, bd_some, if_pos hc, if_neg (by decide), m_isSort hm.1.1.1.1.1 hm.2.1 ok.1, bd_some, if_pos hd, if_neg (by decide), show f_X10_lays τ 139 20 1 0 0 = _ from e1, bd_some]
    exact i2
/-- worth -/
theorem op_worth (ok : SOk s n) (l c d : Int32) : Both n s (fun σ => f_X9_worth σ 0 l c d) (fun τ => f_X10_worth τ 139 l c d) := by
  have h8 := ok.1.n8
  rcases (Classical.em ((vY l ∧ vC c (tN (sv s))) ∧ vC d (tN (sv s)))).symm with hb | hb
  · refine Both.same ok (-9223372036854775808) (fun σ hx => ⟨σ, ?_, hx⟩) (fun τ hm => ⟨τ, ?_, hm⟩)
    · show f_X9_worth σ 0 l c d = _
      unfold f_X9_worth
      rw [x_isAsked hx ok, bd_some]
      by_cases h1 : vY l ∧ vC c (tN (sv s))
      · rw [if_pos h1, if_neg (by decide), hx.1.1.1.2.2.1, x_hasClass hx.2.1 ok.1, bd_some, if_neg (show ¬ vC d (tN (sv s)) from fun z => hb ⟨h1, z⟩), if_pos rfl]
      · rw [if_neg h1, if_pos rfl]
    · show f_X10_worth τ 139 l c d = _
      unfold f_X10_worth
      rw [m_areYears, bd_some]
      by_cases h1 : vY l
      · rw [if_pos h1, if_neg (by decide), m_isClass hm.1.1.1.1.1 hm.2.1 ok.1, bd_some]
        by_cases h2 : vC c (tN (sv s))
        · rw [if_pos h2, if_neg (by decide), m_isClass hm.1.1.1.1.1 hm.2.1 ok.1, bd_some, if_neg (show ¬ vC d (tN (sv s)) from fun z => hb ⟨⟨h1, h2⟩, z⟩), if_pos rfl]
        · rw [if_neg h2, if_pos rfl]
      · rw [if_neg h1, if_pos rfl]
  obtain ⟨hlc, hd⟩ := id hb
  obtain ⟨hl, hc⟩ := id hlc
  obtain ⟨L, rfl, -, hL⟩ := vR_of (by decide) hl
  obtain ⟨c, hc', rfl⟩ := vC_of (by omega) hc
  obtain ⟨d, hd', rfl⟩ := vC_of (by omega) hd
  refine Both.same ok (lN (cB (sv s) L d) - lN (cB (sv s) L c)) (fun σ hx => ?_) (fun τ hm => ?_)
  · obtain ⟨σ1, e1, x1⟩ := x_cost hx ok hL hd'
    obtain ⟨σ2, e2, x2⟩ := x_cost x1 ok hL hc'
    refine ⟨σ2, ?_, x2⟩
    show f_X9_worth σ 0 (nI L) (nI c) (nI d) = _
    unfold f_X9_worth
    rw [x_isAsked hx ok, bd_some, if_pos hlc, if_neg (by decide), hx.1.1.1.2.2.1, x_hasClass hx.2.1 ok.1, bd_some, if_pos hd, if_neg (by decide), hx.1.1.2.1, e1, bd_some, x1.1.1.2.1, e2, bd_some]
  · obtain ⟨τ1, e1, m1, c1, f1⟩ := m_lays (rl := 0) (lm := 0) hm ok (by omega) true hL (by decide) (by decide)
    refine ⟨τ1, ?_, m1⟩
    show f_X10_worth τ 139 (nI L) (nI c) (nI d) = _
    unfold f_X10_worth
    rw [m_areYears, bd_some, if_pos hl, if_neg (by decide), m_isClass hm.1.1.1.1.1 hm.2.1 ok.1, bd_some, if_pos hc, if_neg (by decide), m_isClass hm.1.1.1.1.1 hm.2.1 ok.1, bd_some, if_pos hd, if_neg (by decide), show f_X10_lays τ 139 (nI L) 1 0 0 = _ from e1, bd_some, m_costAt m1 hL (by omega) (f1 L (Nat.le_refl _) d hd').1, bd_some, m_costAt m1 hL (by omega) (f1 L (Nat.le_refl _) c hc').1, bd_some]
/-- cheapest -/
def cCp (v : tm_V) (L : Nat) : Nat → Nat → Nat → Nat
  | 0, _, b => b
  | r + 1, c, b => if lN (cB v L b) ≤ lN (cB v L c) then cCp v L r (c + 1) b else cCp v L r (c + 1) c
theorem op_cheapest (ok : SOk s n) (l : Int32) : Both n s (fun σ => f_X9_cheapest σ 0 l) (fun τ => f_X10_cheapest τ 139 l) := by
  have h8 := ok.1.n8
  have v0 : vC 0 (tN (sv s)) ↔ 0 < tN (sv s) := by
    unfold vC
    rw [show (0 : Int32).toInt = 0 from rfl]
    omega
  rcases (Classical.em (vY l ∧ 0 < tN (sv s))).symm with hb | hb
  · refine Both.same ok (-1) (fun σ hx => ⟨σ, ?_, hx⟩) (fun τ hm => ⟨τ, ?_, hm⟩)
    · show f_X9_cheapest σ 0 l = _
      unfold f_X9_cheapest
      rw [x_isAsked hx ok, bd_some, if_neg (show ¬ (vY l ∧ vC 0 (tN (sv s))) from fun z => hb ⟨z.1, v0.mp z.2⟩), if_pos rfl]
    · show f_X10_cheapest τ 139 l = _
      unfold f_X10_cheapest
      have e0 := hm.2.1.1.1
      rw [m_areYears, bd_some, hm.1.1.1.1.1, e0]
      by_cases h1 : vY l
      · rw [if_pos h1, if_neg (by decide), if_pos ((nI_is0 (by omega)).mpr (by
          rcases Nat.eq_zero_or_pos (tN (sv s)) with z | z
          · exact z
          · exact absurd ⟨h1, z⟩ hb))]
      · rw [if_neg h1, if_pos rfl]
  obtain ⟨hl, hN⟩ := id hb
  obtain ⟨L, rfl, -, hL⟩ := vR_of (by decide) hl
  refine Both.same ok (nI (cCp (sv s) L (tN (sv s) - 1) 1 0)) (fun σ hx => ?_) (fun τ hm => ?_)
  · have loop : ∀ (r c b m : Nat) (σ : bl_St), c + r = tN (sv s) → b < tN (sv s) → r < m → XI σ s → ∃ σ1, bl_fx (fun _ _ _ _ _ => none) (b_X9_cheapest_15) m σ 0 (nI L) (nI b) (nI c) = some (nI (cCp (sv s) L r c b), σ1) ∧ XI σ1 s := by
      intro r
      induction r with
      | zero =>
        intro c b m σ hc hbn hm hx
        obtain ⟨m, rfl⟩ : ∃ q, m = q + 1 := ⟨m - 1, by omega⟩
        refine ⟨σ, ?_, hx⟩
        rw [fx_succ]
        show (if bl_I σ (bl_R σ 0 2) 0 ≤ nI c then _ else _) = _
        rw [hx.1.1.1.2.2.1, hx.2.1.2.1.1, if_pos (nI_le (by omega) (by omega))]
        rfl
      | succ r ih =>
        intro c b m σ hc hbn hm hx
        obtain ⟨m, rfl⟩ : ∃ q, m = q + 1 := ⟨m - 1, by omega⟩
        obtain ⟨σ1, e1, x1⟩ := x_cost hx ok hL (show c < tN (sv s) by omega)
        obtain ⟨σ2, e2, x2⟩ := x_cost x1 ok hL hbn
        rw [fx_succ]
        have hstep : b_X9_cheapest_15 (bl_fx (fun _ _ _ _ _ => none) (b_X9_cheapest_15) m) σ 0 (nI L) (nI b) (nI c) = (if lN (cB (sv s) L b) ≤ lN (cB (sv s) L c) then bl_fx (fun _ _ _ _ _ => none) (b_X9_cheapest_15) m σ2 0 (nI L) (nI b) (nI (c + 1)) else bl_fx (fun _ _ _ _ _ => none) (b_X9_cheapest_15) m σ2 0 (nI L) (nI c) (nI (c + 1))) := by
          show (if bl_I σ (bl_R σ 0 2) 0 ≤ nI c then _ else _) = _
          rw [hx.1.1.1.2.2.1, hx.2.1.2.1.1, if_neg (nI_ge (by omega) (by omega)), hx.1.1.2.1, e1, bd_some, x1.1.1.2.1, e2, bd_some]
          unfold b_X9_cheapest_50
          simp only [let_eq, nI_1]
        rw [hstep]
        have e : cCp (sv s) L (r + 1) c b = if lN (cB (sv s) L b) ≤ lN (cB (sv s) L c) then cCp (sv s) L r (c + 1) b else cCp (sv s) L r (c + 1) c := rfl
        rw [e]
        by_cases hz : lN (cB (sv s) L b) ≤ lN (cB (sv s) L c)
        · rw [if_pos hz, if_pos hz]
          exact ih (c + 1) b m σ2 (by omega) hbn (by omega) x2
        · rw [if_neg hz, if_neg hz]
          exact ih (c + 1) c m σ2 (by omega) (by omega) (by omega) x2
    obtain ⟨σ1, e1, x1⟩ := loop (tN (sv s) - 1) 1 0 bl_fu σ (by omega) hN (by unfold bl_fu; omega) hx
    refine ⟨σ1, ?_, x1⟩
    show f_X9_cheapest σ 0 (nI L) = _
    unfold f_X9_cheapest
    rw [x_isAsked hx ok, bd_some, if_pos (show vY (nI L) ∧ vC 0 (tN (sv s)) from ⟨hl, v0.mpr hN⟩), if_neg (by decide)]
    exact e1
  · obtain ⟨τ1, e1, m1, c1, f1⟩ := m_lays (rl := 0) (lm := 0) hm ok (by omega) true hL (by decide) (by decide)
    have loop : ∀ (r c b m : Nat), c + r = tN (sv s) → b < tN (sv s) → r < m → bl_fx (fun _ _ _ _ _ => none) (b_X10_cheapest_30) m τ1 139 (nI L) (nI b) (nI c) = some (nI (cCp (sv s) L r c b), τ1) := by
      intro r
      induction r with
      | zero =>
        intro c b m hc hbn hm2
        obtain ⟨m, rfl⟩ : ∃ q, m = q + 1 := ⟨m - 1, by omega⟩
        rw [fx_succ]
        have e0 := m1.2.1.1.1
        show (if bl_I τ1 (bl_R τ1 139 1) 0 ≤ nI c then _ else _) = _
        rw [m1.1.1.1.1.1, e0, if_pos (nI_le (by omega) (by omega))]
        rfl
      | succ r ih =>
        intro c b m hc hbn hm2
        obtain ⟨m, rfl⟩ : ∃ q, m = q + 1 := ⟨m - 1, by omega⟩
        rw [fx_succ]
        have e0 := m1.2.1.1.1
        show (if bl_I τ1 (bl_R τ1 139 1) 0 ≤ nI c then _ else _) = _
        rw [m1.1.1.1.1.1, e0, if_neg (nI_ge (by omega) (by omega)), m_costAt m1 hL (by omega) (f1 L (Nat.le_refl _) c (by omega)).1, bd_some, m_costAt m1 hL (by omega) (f1 L (Nat.le_refl _) b hbn).1, bd_some]
        unfold b_X10_cheapest_58
        simp only [let_eq, nI_1]
        have e : cCp (sv s) L (r + 1) c b = if lN (cB (sv s) L b) ≤ lN (cB (sv s) L c) then cCp (sv s) L r (c + 1) b else cCp (sv s) L r (c + 1) c := rfl
        rw [e]
        by_cases hz : lN (cB (sv s) L b) ≤ lN (cB (sv s) L c)
        · rw [if_pos hz, if_pos hz]
          exact ih (c + 1) b m (by omega) hbn (by omega)
        · rw [if_neg hz, if_neg hz]
          exact ih (c + 1) c m (by omega) (by omega) (by omega)
    refine ⟨τ1, ?_, m1⟩
    show f_X10_cheapest τ 139 (nI L) = _
    unfold f_X10_cheapest
    have e0 := hm.2.1.1.1
    rw [m_areYears, bd_some, if_pos hl, if_neg (by decide), hm.1.1.1.1.1, e0, if_neg (fun z => by rw [nI_is0 (by omega)] at z; omega), show f_X10_lays τ 139 (nI L) 1 0 0 = _ from e1, bd_some]
    exact loop (tN (sv s) - 1) 1 0 bl_fu (by omega) hN (by unfold bl_fu; omega)
/-- advice -/
theorem op_advice (ok : SOk s n) (l d : Int32) : Both n s (fun σ => f_X9_advice σ 0 l d) (fun τ => f_X10_advice τ 139 l d) := by
  have h8 := ok.1.n8
  have h5k := ok.1.k5
  have hO := ok.2.1.2.1.1
  rcases (Classical.em (lO (sl s) = 1 ∧ vR l 1 20 ∧ vC d (tK (sv s)))).symm with hb | hb
  · refine Both.same ok (-1) (fun σ hx => ⟨σ, ?_, hx⟩) (fun τ hm => ⟨τ, ?_, hm⟩)
    · show f_X9_advice σ 0 l d = _
      unfold f_X9_advice
      rw [hx.1.1.1.2.2.2.2.1, hx.2.2.1.2.1.2.1, hx.1.1.1.2.2.1, x_hasSort hx.2.1 ok.1, bd_some]
      by_cases h1 : lO (sl s) = 1
      · rw [h1, if_neg (by decide)]
        by_cases h2 : l < 1
        · rw [if_pos h2]
        rw [if_neg h2]
        by_cases h3 : (20 : Int32) < l
        · rw [if_pos h3]
        rw [if_neg h3, if_neg (show ¬ vC d (tK (sv s)) from fun z => hb ⟨h1, ⟨by rw [show (1 : Int32) = nI 1 from rfl, ltN_iff l (by decide)] at h2; omega, by rw [show (20 : Int32) = nI 20 from rfl, Nlt_iff l (by decide)] at h3; omega⟩, z⟩), if_pos rfl]
      · rw [show lO (sl s) = 0 by omega, if_pos (by rfl)]
    · show f_X10_advice τ 139 l d = _
      unfold f_X10_advice
      have e1 := hm.2.2.1.1.2.1
      simp only [Nat.zero_add] at e1
      rw [hm.1.1.1.1.1, e1]
      by_cases h1 : lO (sl s) = 1
      · rw [h1, if_neg (by decide), show (1 : Int64) = lN 1 from rfl, show (20 : Int64) = lN 20 from rfl, m_inN τ l (by decide) (by decide), bd_some]
        by_cases h2 : vR l 1 20
        · rw [if_pos h2, if_neg (by decide), m_isSort hm.1.1.1.1.1 hm.2.1 ok.1, bd_some, if_neg (show ¬ vC d (tK (sv s)) from fun z => hb ⟨h1, h2, z⟩), if_pos rfl]
        · rw [if_neg h2, if_pos rfl]
      · rw [show lO (sl s) = 0 by omega, if_pos (by rfl)]
  obtain ⟨ho, hl, hd⟩ := hb
  obtain ⟨L, rfl, hL1, hL⟩ := vR_of (by decide) hl
  obtain ⟨d, hd', rfl⟩ := vC_of (by omega) hd
  have w := ok.2.1.wk ok.1 ho
  have hC := (ok.2.1.2.2.2.1 ho).2.1
  have hU := ok.2.1.2.1.2.2
  have hG := w.2.2.1
  have hH := ok.1.2.2.2.1
  obtain ⟨t, ht⟩ : ∃ t, t = min 2 (lC (sl s)) := ⟨_, rfl⟩
  obtain ⟨G, hGv⟩ : ∃ G, G = cG (sv s) L (lP (sl s)) (lG (sl s)) t (lU (sl s)) d := ⟨_, rfl⟩
  refine Both.same ok (if G ≤ 0 then 0 else 1) (fun σ hx => ?_) (fun τ hm => ?_)
  · obtain ⟨σ1, σ2, e1, x1, e2, x2, c2, l2⟩ := x_state (L := L) (c := lP (sl s)) (k := lG (sl s)) (t := t) (g := lU (sl s)) hx ok hL1 hL w.1 (by omega) (by omega) (by omega)
    refine ⟨σ2, ?_, x2⟩
    obtain ⟨a0, a1, a2, a3, a4⟩ := x1.2.2.1.2.1
    obtain ⟨b0, b1, b2, b3, b4⟩ := x2.2.2.1.2.1
    show f_X9_advice σ 0 (nI L) (nI d) = _
    unfold f_X9_advice
    rw [hx.1.1.1.2.2.2.2.1, hx.2.2.1.2.1.2.1, hx.1.1.1.2.2.1, x_hasSort hx.2.1 ok.1, bd_some, ho, if_neg (by decide), if_neg (show ¬ nI L < 1 from nI_nlt (a := L) (b := 1) hL1 (by omega)), if_neg (show ¬ (20 : Int32) < nI L from nI_nlt (a := 20) hL (by omega)), if_pos hd, if_neg (by decide), hx.1.1.1.2.2.2.2.1, hx.2.2.1.2.1.2.2.2.1, let_eq, show (if nI (lC (sl s)) < 2 then nI (lC (sl s)) else 2) = nI t by rw [ht]; exact nI_min2 (by omega), hx.1.1.2.1, show (1 : Int32) = nI 1 from rfl, nI_sub hL1, e1, bd_some, x1.1.1.1.2.2.2.2.1, a0, a2, a4, x1.1.1.2.1, e2, bd_some, x2.1.1.1.2.2.2.2.1, b2, b4, x2.1.1.2.1, x_gainOf c2 ok l2 hG (by omega) (by omega) hd', bd_some, ← hGv]
    simp only [ite_some]
  · obtain ⟨τ1, e1, m1, c1, f1⟩ := m_lays (rl := 0) (lm := 0) hm ok (by have := w.1; omega) true hL (by decide) (by decide)
    obtain ⟨τ2, e2, m2, c2, l2, f2⟩ := m_lch m1 ok c1 f1 hL1 (Nat.le_refl _) hL w.1
    refine ⟨τ2, ?_, m2⟩
    have q1 := hm.2.2.1.1.2.1
    obtain ⟨a0, a1, a2, a3, a4⟩ := m1.2.2.1.1
    obtain ⟨b0, b1, b2, b3, b4⟩ := m2.2.2.1.1
    simp only [Nat.zero_add] at q1 a0 b2 b3 b4
    have cn : f_X10_countedNow τ2 139 = some (nI t, τ2) := by
      unfold f_X10_countedNow
      rw [m2.1.1.1.1.1, b3, ht]
      by_cases h2 : lC (sl s) ≤ 2
      · rw [if_pos (show nI (lC (sl s)) ≤ 2 from nI_le (b := 2) h2 (by decide)), Nat.min_eq_right h2]
      · rw [if_neg (show ¬ nI (lC (sl s)) ≤ 2 from nI_ge (a := 2) (by omega) (by omega)), Nat.min_eq_left (by omega)]
        rfl
    show f_X10_advice τ 139 (nI L) (nI d) = _
    unfold f_X10_advice
    rw [hm.1.1.1.1.1, q1, ho, if_neg (by decide), show (1 : Int64) = lN 1 from rfl, show (20 : Int64) = lN 20 from rfl, m_inN τ (nI L) (by decide) (by decide), bd_some, if_pos hl, if_neg (by decide), m_isSort hm.1.1.1.1.1 hm.2.1 ok.1, bd_some, if_pos hd, if_neg (by decide), show f_X10_lays τ 139 (nI L) 1 0 0 = _ from e1, bd_some, m1.1.1.1.1.1, a0, e2, bd_some, cn, bd_some, m2.1.1.1.1.1, b2, b4, m_gainOf c2 ok l2 hG (by omega) (by omega) hd', bd_some, ← hGv]
    simp only [ite_some]
end CXU
