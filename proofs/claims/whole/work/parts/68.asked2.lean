theorem l2i (a : Nat) : Int64.toInt32 (lN a) = nI a := Int64.toInt32_ofNat'
section CXT
variable {s : st_V} {n : Nat} {σ τ : bl_St}
/-- such a chance there is -/
abbrev stA (s : st_V) (l c k t : Int32) (M : Nat) : Prop := vR l 1 20 ∧ vC c (tN (sv s)) ∧ vR k 0 M ∧ vC t 3
theorem x_isState (hx : XI σ s) (ok : SOk s n) (l c k t : Int32) : f_X9_isState σ 0 l c k t = some (if stA s l c k t (tH (sv s)) then 1 else 0, σ) := by
  have hH := ok.1.2.2.2.1.2
  unfold f_X9_isState
  by_cases h1 : l ≤ 0
  · rw [if_pos h1, if_neg (fun z => by rw [show (0 : Int32) = nI 0 from rfl, leN_iff' l (by decide)] at h1; have := z.1.1; omega)]
  rw [if_neg h1, x_isAsked hx ok, bd_some]
  rw [show (0 : Int32) = nI 0 from rfl, leN_iff' l (by decide)] at h1
  by_cases h2 : vY l ∧ vC c (tN (sv s))
  · rw [if_pos h2, if_neg (by decide)]
    have hl : vR l 1 20 := ⟨by omega, h2.1.2⟩
    by_cases h3 : k < 0
    · rw [if_pos h3, if_neg (fun z => by rw [lt0_iff] at h3; have := z.2.2.1.1; omega)]
    rw [if_neg h3, hx.1.1.1.2.2.1, x_chances hx.2.1, bd_some]
    by_cases h4 : nI (tH (sv s)) < k
    · rw [if_pos h4, if_neg (fun z => by rw [Nlt_iff k (by omega)] at h4; have := z.2.2.1.2; omega)]
    rw [if_neg h4]
    by_cases h5 : t < 0
    · rw [if_pos h5, if_neg (fun z => by rw [lt0_iff] at h5; have := z.2.2.2.1; omega)]
    rw [if_neg h5]
    by_cases h6 : (3 : Int32) ≤ t
    · rw [if_pos h6, if_neg (fun z => by rw [show (3 : Int32) = nI 3 from rfl, leN_iff t (by decide)] at h6; have := z.2.2.2.2; omega)]
    rw [if_neg h6, if_pos ⟨hl, h2.2, ⟨by rw [lt0_iff] at h3; omega, by rw [Nlt_iff k (by omega)] at h4; omega⟩, ⟨by rw [lt0_iff] at h5; omega, by rw [show (3 : Int32) = nI 3 from rfl, leN_iff t (by decide)] at h6; omega⟩⟩]
  · rw [if_neg h2, if_pos rfl, if_neg (fun z => h2 ⟨⟨by have := z.1.1; omega, z.1.2⟩, z.2.1⟩)]
theorem m_isChance0 (hm : MI τ s) (ok : SOk s n) {l c k t : Int32} {M : Nat} (hM : M < 2 ^ 31) (hb : ¬ stA s l c k t M) : f_X10_isChance τ 139 l c k t (nI M) = some (0, τ) := by
  unfold f_X10_isChance
  rw [show (1 : Int64) = lN 1 from rfl, show (20 : Int64) = lN 20 from rfl, m_inN τ l (by decide) (by decide), bd_some]
  by_cases h1 : vR l 1 20
  · rw [if_pos h1, if_neg (by decide), m_isClass hm.1.1.1.1.1 hm.2.1 ok.1, bd_some]
    by_cases h2 : vC c (tN (sv s))
    · rw [if_pos h2, if_neg (by decide), i2l_nI hM, show (0 : Int64) = lN 0 from rfl, m_inN τ k (by decide) hM, bd_some]
      by_cases h3 : vR k 0 M
      · rw [if_pos h3, if_neg (by decide), show (2 : Int64) = lN 2 from rfl, m_inN τ t (by decide) (by decide), bd_some, if_neg (show ¬ vR t 0 2 from fun z => hb ⟨h1, h2, h3, ⟨by have := z.1; omega, by have := z.2; omega⟩⟩), if_pos rfl]
      · rw [if_neg h3, if_pos rfl]
    · rw [if_neg h2, if_pos rfl]
  · rw [if_neg h1, if_pos rfl]
theorem m_isChance1 (hm : MI τ s) (ok : SOk s n) {L c k t M : Nat} (hM : M < 2 ^ 31) (hb : stA s (nI L) (nI c) (nI k) (nI t) M) (hL1 : 1 ≤ L) (hL : L ≤ 20) (hc : c < tN (sv s)) : ∃ τ1, f_X10_isChance τ 139 (nI L) (nI c) (nI k) (nI t) (nI M) = some (1, τ1) ∧ MI τ1 s ∧ CM τ1 (sv s) 0 0 false (tH (sv s) * 1) ∧ ∀ k, k ≤ tH (sv s) * 1 → Lv τ1 146 (fun k t g => cA (sv s) L c k t g) k := by
  obtain ⟨τ1, e1, m1, c1, f1⟩ := m_lays (rl := 0) (lm := 0) hm ok (by omega) true hL (by decide) (by decide)
  obtain ⟨τ2, e2, m2, c2, l2, f2⟩ := m_lch m1 ok c1 f1 hL1 (Nat.le_refl _) hL hc
  refine ⟨τ2, ?_, m2, c2, l2⟩
  have e1' : f_X10_lays τ 139 (nI L) 1 0 0 = some ((), τ1) := e1
  unfold f_X10_isChance
  rw [show (1 : Int64) = lN 1 from rfl, show (20 : Int64) = lN 20 from rfl, m_inN τ (nI L) (by decide) (by decide), bd_some, if_pos hb.1, if_neg (by decide), m_isClass hm.1.1.1.1.1 hm.2.1 ok.1, bd_some, if_pos hb.2.1, if_neg (by decide), i2l_nI hM, show (0 : Int64) = lN 0 from rfl, m_inN τ (nI k) (by decide) hM, bd_some, if_pos hb.2.2.1, if_neg (by decide), show (2 : Int64) = lN 2 from rfl, m_inN τ (nI t) (by decide) (by decide), bd_some, if_pos (show vR (nI t) 0 2 from ⟨by have := hb.2.2.2.1; omega, by have := hb.2.2.2.2; omega⟩), if_neg (by decide), e1', bd_some, e2, bd_some]
theorem stA_of (ok : SOk s n) {l c k t : Int32} {M : Nat} (hM : M ≤ 3) (h : stA s l c k t M) : ∃ L c' k' t', l = nI L ∧ c = nI c' ∧ k = nI k' ∧ t = nI t' ∧ 1 ≤ L ∧ L ≤ 20 ∧ c' < tN (sv s) ∧ k' ≤ M ∧ t' ≤ 2 := by
  have h8 := ok.1.n8
  obtain ⟨L, e1, a1, a2⟩ := vR_of (by decide) h.1
  obtain ⟨c', b1, b2⟩ := vC_of (by omega) h.2.1
  obtain ⟨k', d1, -, d3⟩ := vR_of (by omega) h.2.2.1
  obtain ⟨t', f1, f2⟩ := vC_of (by decide) h.2.2.2
  exact ⟨L, c', k', t', e1, b2, d1, f2, a1, a2, b1, d3, by omega⟩
/-- what X does for a chance -/
theorem x_state (hx : XI σ s) (ok : SOk s n) {L c k t g : Nat} (hL1 : 1 ≤ L) (hL : L ≤ 20) (hc : c < tN (sv s)) (hk : k ≤ tH (sv s)) (ht : t ≤ 2) (hg : g < 2) : ∃ σ1 σ2, f_X4_learn σ 111 (nI (L - 1)) = some ((), σ1) ∧ XI σ1 s ∧ f_X4_lookAhead σ1 111 (nI L) (nI c) (nI k) (nI t) (nI g) = some ((), σ2) ∧ XI σ2 s ∧ CX σ2 111 10 (sv s) 0 0 false (tH (sv s) * 1) ∧ ∀ j, k ≤ j → j ≤ tH (sv s) * 1 → LvX σ2 118 k t g (fun k t g => cA (sv s) L c k t g) j := by
  obtain ⟨σ1, e1, x1, c1, kn, hkn, o1⟩ := x_lrn (Y := L - 1) hx ok (by omega) (by omega)
  obtain ⟨σ2, e2, x2, c2, o2, l2⟩ := x_lka x1 ok c1 o1 hkn hL1 hL hc hk ht hg
  exact ⟨σ1, σ2, e1, x1, e2, x2, c2, l2⟩
theorem op_ahead (ok : SOk s n) (l c k t : Int32) {g : Nat} (hg : g < 2) : Both n s (fun σ => f_X9_ahead σ 0 l c k t (nI g)) (fun τ => f_X10_ahead τ 139 l c k t (nI g)) := by
  have hH := ok.1.2.2.2.1
  have eH : ∀ τ, MI τ s → bl_I τ (bl_R τ 139 1) 2 = nI (tH (sv s)) := fun τ hm => by
    have := hm.2.1.2.1.1
    rw [hm.1.1.1.1.1]
    simpa using this
  rcases (Classical.em (stA s l c k t (tH (sv s)))).symm with hb | hb
  · refine Both.same ok (-1) (fun σ hx => ⟨σ, ?_, hx⟩) (fun τ hm => ⟨τ, ?_, hm⟩)
    · show f_X9_ahead σ 0 l c k t (nI g) = _
      unfold f_X9_ahead
      rw [x_isState hx ok, bd_some, if_neg hb, if_pos rfl]
    · show f_X10_ahead τ 139 l c k t (nI g) = _
      unfold f_X10_ahead
      rw [eH τ hm, m_isChance0 hm ok (by omega) hb, bd_some, if_pos rfl]
  obtain ⟨L, c, k, t, rfl, rfl, rfl, rfl, hL1, hL, hc, hk, ht⟩ := stA_of ok hH.2 hb
  refine Both.same ok (lN (cA (sv s) L c k t g)) (fun σ hx => ?_) (fun τ hm => ?_)
  · obtain ⟨σ1, σ2, e1, x1, e2, x2, c2, l2⟩ := x_state (k := k) (t := t) (g := g) hx ok hL1 hL hc hk ht hg
    refine ⟨σ2, ?_, x2⟩
    show f_X9_ahead σ 0 (nI L) (nI c) (nI k) (nI t) (nI g) = _
    unfold f_X9_ahead f_X4_aheadOf
    have q := l2 k (Nat.le_refl _) (by omega)
    have e3 : bl_J σ2 118 (6 * k + 2 * t + g) = lN (cA (sv s) L c k t g) := by
      rcases (show g = 0 ∨ g = 1 by omega) with rfl | rfl
      · exact q.1 t ⟨Nat.le_refl _, ht, by omega⟩
      · exact q.2 rfl
    rw [x_isState hx ok, bd_some, if_pos hb, if_neg (by decide), hx.1.1.2.1, show (1 : Int32) = nI 1 from rfl, nI_sub hL1, e1, bd_some, x1.1.1.2.1, e2, bd_some, x2.1.1.2.1, x_index σ2 hg, bd_some, in_nI (by omega) (by decide), gd_true, bd_some, c2.1.2.2.2, nI_clamp (by omega)]
    rw [show (111 + 7 : Nat) = 118 from rfl, e3]
  · obtain ⟨τ1, e1, m1, c1, l1⟩ := m_isChance1 hm ok (by omega) hb hL1 hL hc
    refine ⟨τ1, ?_, m1⟩
    show f_X10_ahead τ 139 (nI L) (nI c) (nI k) (nI t) (nI g) = _
    unfold f_X10_ahead
    have e3 := l1 k (by omega) t g (by omega) hg
    rw [eH τ hm, e1, bd_some, if_neg (by decide)]
    rcases (show g = 0 ∨ g = 1 by omega) with rfl | rfl
    · rw [if_pos (by rfl), show (0 : Int32) = nI 0 from rfl, m_slot, bd_some, in_nI (by omega) (by decide), gd_true, m1.1.1.1.2.2.2, nI_clamp (by omega), e3]
    · rw [if_neg (by decide), show (1 : Int32) = nI 1 from rfl, m_slot, bd_some, in_nI (by omega) (by decide), gd_true, m1.1.1.1.2.2.2, nI_clamp (by omega), e3]
/-! the least size worth telling -/
def cLe (v : tm_V) (T B : Nat) : Nat := if T < B then 1 else tW v + (T - B) / 1000 + 1
abbrev cLI (v : tm_V) (T B : Nat) : Int32 := if cLe v T B ≤ 9999 then nI (cLe v T B) else (-2)
theorem x_leastTold {L c k t g : Nat} (C : CX σ 111 10 (sv s) 0 0 false (tH (sv s) * 1)) (ok : SOk s n) (h1 : bl_J σ 118 (6 * (k + 1) + 2 * t + g) = lN (cA (sv s) L c (k + 1) t g)) (h2 : bl_J σ 118 (6 * (k + 1) + 2 * tn t g + 0) = lN (cA (sv s) L c (k + 1) (tn t g) 0)) (hc : c < tN (sv s)) (hL : L ≤ 20) (hk : k < tH (sv s)) (ht : t ≤ 2) (hg : g < 2) : f_X4_leastTold σ 111 (nI k) (nI t) (nI g) = some (cLI (sv s) (cA (sv s) L c (k + 1) (tn t g) 0) (cA (sv s) L c (k + 1) t g), σ) := by
  have h3 := ok.1.2.2.2.1.2
  have hW := ok.1.2.2.2.2.2
  have b1 := cA_le ok hc hL (k + 1) (tn t g) 0
  have b2 := cA_le ok hc hL (k + 1) t g
  unfold f_X4_leastTold
  rw [x_dearer C.1.2.2.2 h1 h2 (by omega) ht hg, bd_some]
  generalize cA (sv s) L c (k + 1) (tn t g) 0 = T at *
  generalize cA (sv s) L c (k + 1) t g = B at *
  unfold cLI cLe
  by_cases hTB : T < B
  · have hneg : ¬ (0 : Int64) ≤ lN T - lN B := by
      rw [Int64.le_iff_toInt_le]
      have e : (lN T - lN B).toInt = (T : Int) - (B : Int) := by
        rw [Int64.toInt_sub, lN_toI (by omega), lN_toI (by omega), Int.bmod_eq_of_le (by omega) (by omega)]
      rw [e]
      show ¬ (0 : Int) ≤ _
      omega
    rw [if_neg hneg, if_pos hTB, if_pos (by decide)]
    rfl
  · have e : lN T - lN B = lN (T - B) := lN_sub (by omega)
    have hd : (T - B) / 1000 ≤ T - B := Nat.div_le_self _ _
    rw [e, if_pos (show (0 : Int64) ≤ lN (T - B) by rw [show (0 : Int64) = lN 0 from rfl, lN_leI (by decide) (by omega)]; omega), C.1.1, x_own C.2.1, bd_some, let_eq, nI_l (by omega), show (1000 : Int64) = lN 1000 from rfl, lN_div (by omega) (by decide), lN_add, show (1 : Int64) = lN 1 from rfl, lN_add, if_neg hTB, show (9999 : Int64) = lN 9999 from rfl]
    by_cases h9 : tW (sv s) + (T - B) / 1000 + 1 ≤ 9999
    · rw [if_pos ((lN_leI (by omega) (by decide)).mpr h9), if_pos h9]
      rw [l2i]
    · rw [if_neg (fun z => h9 ((lN_leI (by omega) (by decide)).mp z)), if_neg h9]
theorem m_leastSize (C : CM τ (sv s) 0 0 false (tH (sv s) * 1)) (ok : SOk s n) {L c k t g : Nat} (h1 : bl_J τ 146 (6 * (k + 1) + 2 * t + g) = lN (cA (sv s) L c (k + 1) t g)) (h2 : bl_J τ 146 (6 * (k + 1) + 2 * tn t g + 0) = lN (cA (sv s) L c (k + 1) (tn t g) 0)) (hc : c < tN (sv s)) (hL : L ≤ 20) (hk : k < tH (sv s)) (ht : t ≤ 2) (hg : g < 2) : f_X10_leastSize τ 139 (nI k) (nI t) (nI g) = some (cLI (sv s) (cA (sv s) L c (k + 1) (tn t g) 0) (cA (sv s) L c (k + 1) t g), τ) := by
  have h3 := ok.1.2.2.2.1.2
  have hW := ok.1.2.2.2.2.2
  have b1 := cA_le ok hc hL (k + 1) (tn t g) 0
  have b2 := cA_le ok hc hL (k + 1) t g
  have htn : tn t g ≤ 2 := by unfold tn; split <;> omega
  have eW := C.2.1.2.1.2.2
  rw [Nat.zero_add] at eW
  have key : f_X10_leastSize τ 139 (nI k) (nI t) (nI g) = bl_fx (fun _ _ _ _ _ => none) (b_X10_leastSize_57) bl_fu τ 139 (lN (cA (sv s) L c (k + 1) (tn t g) 0)) (lN (cA (sv s) L c (k + 1) t g)) (nI 1) := by
    have k21 : ∀ q, q = tn t g → b_X10_leastSize_21 τ 139 (nI k) (nI t) (nI g) (nI q) = bl_fx (fun _ _ _ _ _ => none) (b_X10_leastSize_57) bl_fu τ 139 (lN (cA (sv s) L c (k + 1) (tn t g) 0)) (lN (cA (sv s) L c (k + 1) t g)) (nI 1) := by
      intro q hq
      rw [hq]
      unfold b_X10_leastSize_21
      rw [nI_1, show (0 : Int32) = nI 0 from rfl, m_slot, bd_some, in_nI (by omega) (by decide), gd_true, let_eq, m_slot, bd_some, in_nI (by omega) (by decide), gd_true, let_eq, C.1.2.2.2, nI_clamp (by omega), nI_clamp (by omega), h1, h2]
      rfl
    unfold f_X10_leastSize
    rcases (show g = 0 ∨ g = 1 by omega) with rfl | rfl
    · rw [if_neg (by decide)]
      by_cases h2t : 2 ≤ t
      · rw [if_pos (show (2 : Int32) ≤ nI t from nI_le (a := 2) h2t (by omega))]
        exact k21 2 (by show 2 = min 2 (t + 1); omega)
      · rw [if_neg (show ¬ (2 : Int32) ≤ nI t from nI_ge (a := t) (b := 2) (by omega) (by decide)), nI_1]
        exact k21 (t + 1) (by show t + 1 = min 2 (t + 1); omega)
    · rw [if_pos (by rfl)]
      exact k21 t rfl
  rw [key]
  generalize cA (sv s) L c (k + 1) (tn t g) 0 = T at *
  generalize cA (sv s) L c (k + 1) t g = B at *
  have hz0 : 1 ≤ cLe (sv s) T B := by unfold cLe; split <;> omega
  have loop : ∀ (r z m : Nat), z + r = 10000 → 1 ≤ z → z ≤ cLe (sv s) T B → r < m → bl_fx (fun _ _ _ _ _ => none) (b_X10_leastSize_57) m τ 139 (lN T) (lN B) (nI z) = some (cLI (sv s) T B, τ) := by
    intro r
    induction r with
    | zero =>
      intro z m hz h1z hzl hm
      obtain ⟨m, rfl⟩ : ∃ q, m = q + 1 := ⟨m - 1, by omega⟩
      have hz : z = 10000 := by omega
      subst hz
      rw [fx_succ]
      show (if (9999 : Int32) < nI 10000 then _ else _) = _
      rw [if_pos (by decide)]
      unfold cLI
      rw [if_neg (by omega)]
    | succ r ih =>
      intro z m hz h1z hzl hm
      obtain ⟨m, rfl⟩ : ∃ q, m = q + 1 := ⟨m - 1, by omega⟩
      rw [fx_succ]
      show (if (9999 : Int32) < nI z then _ else _) = _
      rw [if_neg (show ¬ (9999 : Int32) < nI z from nI_nlt (a := 9999) (b := z) (by omega) (by omega)), C.1.1, eW]
      have k89 : ∀ p, p = min (tW (sv s)) z → b_X10_leastSize_89 (bl_fx (fun _ _ _ _ _ => none) (b_X10_leastSize_57) m) τ 139 (lN T) (lN B) (nI z) (lN p) = some (cLI (sv s) T B, τ) := by
        intro p hp
        unfold b_X10_leastSize_89
        rw [nI_l (by omega), show (1000 : Int64) = lN 1000 from rfl, lN_mul, lN_mul, lN_add, lN_add]
        by_cases hle : z * 1000 + B ≤ p * 1000 + T
        · rw [if_pos ((lN_leI (by omega) (by omega)).mpr hle), let_eq, nI_1]
          refine ih (z + 1) m (by omega) (by omega) ?_ (by omega)
          unfold cLe at hzl ⊢
          split
          · rename_i hlt
            omega
          · rename_i hlt
            rw [if_neg hlt] at hzl
            have := Nat.div_add_mod (T - B) 1000
            have := Nat.mod_lt (T - B) (show 0 < 1000 by decide)
            omega
        · rw [if_neg (fun z => hle ((lN_leI (by omega) (by omega)).mp z))]
          have : cLe (sv s) T B = z := by
            unfold cLe at hzl ⊢
            split
            · rename_i hlt
              rw [if_pos hlt] at hzl
              omega
            · rename_i hlt
              rw [if_neg hlt] at hzl
              have := Nat.div_add_mod (T - B) 1000
              have := Nat.mod_lt (T - B) (show 0 < 1000 by decide)
              omega
          unfold cLI
          rw [this, if_pos (by omega)]
      by_cases hzw : z ≤ tW (sv s)
      · rw [if_pos (nI_le hzw (by omega)), nI_l (by omega)]
        exact k89 z (by omega)
      · rw [if_neg (nI_ge (by omega) (by omega)), nI_l (by omega)]
        exact k89 (tW (sv s)) (by omega)
  exact loop 9999 1 bl_fu (by omega) (by omega) hz0 (by unfold bl_fu; omega)
/-- of a chance that is yet to go: the frame for least, tells, gain -/
theorem op_chance {α : Type} (ok : SOk s n) (l c k t : Int32) {g : Nat} (hg : g < 2) {fX fM : bl_St → Option (α × bl_St)} (bad : α) (val : Nat → Nat → Nat → Nat → α)
    (hX0 : ∀ σ, XI σ s → ¬ stA s l c k t (tH (sv s) - 1) → fX σ = some (bad, σ)) (hM0 : ∀ τ, MI τ s → ¬ stA s l c k t (tH (sv s) - 1) → fM τ = some (bad, τ))
    (hX1 : ∀ L c' k' t', l = nI L → c = nI c' → k = nI k' → t = nI t' → 1 ≤ L → L ≤ 20 → c' < tN (sv s) → k' < tH (sv s) → t' ≤ 2 → ∀ σ σ1 σ2, XI σ s → f_X4_learn σ 111 (nI (L - 1)) = some ((), σ1) → XI σ1 s → f_X4_lookAhead σ1 111 (nI L) (nI c') (nI k') (nI t') (nI g) = some ((), σ2) → XI σ2 s → CX σ2 111 10 (sv s) 0 0 false (tH (sv s) * 1) → (∀ j, k' ≤ j → j ≤ tH (sv s) * 1 → LvX σ2 118 k' t' g (fun k t g => cA (sv s) L c' k t g) j) → fX σ = some (val L c' k' t', σ2))
    (hM1 : ∀ L c' k' t', l = nI L → c = nI c' → k = nI k' → t = nI t' → 1 ≤ L → L ≤ 20 → c' < tN (sv s) → k' < tH (sv s) → t' ≤ 2 → ∀ τ τ1, MI τ s → f_X10_isChance τ 139 (nI L) (nI c') (nI k') (nI t') (nI (tH (sv s) - 1)) = some (1, τ1) → MI τ1 s → CM τ1 (sv s) 0 0 false (tH (sv s) * 1) → (∀ k, k ≤ tH (sv s) * 1 → Lv τ1 146 (fun k t g => cA (sv s) L c' k t g) k) → fM τ = some (val L c' k' t', τ1)) : Both n s fX fM := by
  have hH := ok.1.2.2.2.1
  rcases (Classical.em (stA s l c k t (tH (sv s) - 1))).symm with hb | hb
  · exact Both.same ok bad (fun σ hx => ⟨σ, hX0 σ hx hb, hx⟩) (fun τ hm => ⟨τ, hM0 τ hm hb, hm⟩)
  obtain ⟨L, c, k, t, rfl, rfl, rfl, rfl, hL1, hL, hc, hk, ht⟩ := stA_of ok (by omega) hb
  refine Both.same ok (val L c k t) (fun σ hx => ?_) (fun τ hm => ?_)
  · obtain ⟨σ1, σ2, e1, x1, e2, x2, c2, l2⟩ := x_state (k := k) (t := t) (g := g) hx ok hL1 hL hc (by omega) ht hg
    exact ⟨σ2, hX1 L c k t rfl rfl rfl rfl hL1 hL hc (by omega) ht σ σ1 σ2 hx e1 x1 e2 x2 c2 l2, x2⟩
  · obtain ⟨τ1, e1, m1, c1, l1⟩ := m_isChance1 hm ok (M := tH (sv s) - 1) (by omega) hb hL1 hL hc
    exact ⟨τ1, hM1 L c k t rfl rfl rfl rfl hL1 hL hc (by omega) ht τ τ1 hm e1 m1 c1 l1, m1⟩
/-- X's way in: a state, but not behind the last chance -/
theorem x_in (hx : XI σ s) (ok : SOk s n) (l c k t : Int32) {α : Type} (bad : α) (go : Option (α × bl_St)) : (bl_bd (f_X9_isState σ 0 l c k t) fun r1 σ2 => if r1 = 0 then some (bad, σ2) else bl_bd (f_X8_chances σ2 (bl_R σ2 0 2)) fun r6 σ7 => if k = r6 then some (bad, σ7) else go) = (if stA s l c k t (tH (sv s) - 1) then go else some (bad, σ)) := by
  have hH := ok.1.2.2.2.1
  rw [x_isState hx ok, bd_some]
  by_cases h1 : stA s l c k t (tH (sv s))
  · rw [if_pos h1, if_neg (by decide), hx.1.1.1.2.2.1, x_chances hx.2.1, bd_some]
    obtain ⟨k', rfl, -, hk⟩ := vR_of (by omega) h1.2.2.1
    by_cases h2 : nI k' = nI (tH (sv s))
    · rw [if_pos h2, if_neg (fun z => by
        have := nI_inj (by omega) (by omega) h2
        have z2 := z.2.2.1.2
        rw [nI_toInt (by omega)] at z2
        omega)]
    · rw [if_neg h2, if_pos ⟨h1.1, h1.2.1, ⟨h1.2.2.1.1, by
        rw [nI_toInt (by omega)]
        have : k' ≠ tH (sv s) := fun z => h2 (by rw [z])
        omega⟩, h1.2.2.2⟩]
  · rw [if_neg h1, if_pos rfl, if_neg (fun z => h1 ⟨z.1, z.2.1, ⟨z.2.2.1.1, by have := z.2.2.1.2; omega⟩, z.2.2.2⟩)]
theorem m_H1 (hm : MI τ s) (ok : SOk s n) : bl_I τ (bl_R τ 139 1) 2 - 1 = nI (tH (sv s) - 1) := by
  have hH := ok.1.2.2.2.1
  have := hm.2.1.2.1.1
  simp only [Nat.zero_add] at this
  rw [hm.1.1.1.1.1, this, show (1 : Int32) = nI 1 from rfl, nI_sub (by omega)]
theorem stA_nI (ok : SOk s n) {L c k t : Nat} (h1 : 1 ≤ L) (h2 : L ≤ 20) (h3 : c < tN (sv s)) (h4 : k < tH (sv s)) (h5 : t ≤ 2) : stA s (nI L) (nI c) (nI k) (nI t) (tH (sv s) - 1) := by
  have hH := ok.1.2.2.2.1
  have h8 := ok.1.n8
  refine ⟨?_, vC_nI h3 (by omega), ?_, vC_nI (by omega) (by decide)⟩
  · unfold vR; rw [nI_toInt (by omega)]; omega
  · unfold vR; rw [nI_toInt (by omega)]; omega
theorem op_least (ok : SOk s n) (l c k t : Int32) {g : Nat} (hg : g < 2) : Both n s (fun σ => f_X9_least σ 0 l c k t (nI g)) (fun τ => f_X10_least τ 139 l c k t (nI g)) := by
  have hH := ok.1.2.2.2.1
  refine op_chance ok l c k t hg (-1) (fun L c' k' t' => cLI (sv s) (cA (sv s) L c' (k' + 1) (tn t' g) 0) (cA (sv s) L c' (k' + 1) t' g)) (fun σ hx hb => ?_) (fun τ hm hb => ?_) (fun L c' k' t' el ec ek et h1 h2 h3 h4 h5 σ σ1 σ2 hx e1 x1 e2 x2 c2 l2 => ?_) (fun L c' k' t' el ec ek et h1 h2 h3 h4 h5 τ τ1 hm e1 m1 c1 l1 => ?_)
  · show f_X9_least σ 0 l c k t (nI g) = _
    unfold f_X9_least
    rw [x_isState hx ok, bd_some]
    by_cases h1 : stA s l c k t (tH (sv s))
    · rw [if_pos h1, if_neg (by decide), hx.1.1.1.2.2.1, x_chances hx.2.1, bd_some]
      obtain ⟨k', rfl, -, hk⟩ := vR_of (by omega) h1.2.2.1
      rw [if_pos (show nI k' = nI (tH (sv s)) by
        congr 1
        apply Classical.byContradiction
        intro z
        exact hb ⟨h1.1, h1.2.1, ⟨h1.2.2.1.1, by rw [nI_toInt (by omega)]; omega⟩, h1.2.2.2⟩)]
    · rw [if_neg h1, if_pos rfl]
  · show f_X10_least τ 139 l c k t (nI g) = _
    unfold f_X10_least
    rw [m_H1 hm ok, m_isChance0 hm ok (by omega) hb, bd_some, if_pos rfl]
  · subst el ec ek et
    show f_X9_least σ 0 (nI L) (nI c') (nI k') (nI t') (nI g) = _
    obtain ⟨q1, q2⟩ := x_two l2 h4 h5 hg
    have go := x_in hx ok (nI L) (nI c') (nI k') (nI t') (-1 : Int32) (bl_bd (f_X4_learn σ 111 (nI (L - 1))) fun _ σ12 => bl_bd (f_X4_lookAhead σ12 (bl_R σ12 0 7) (nI L) (nI c') (nI k') (nI t') (nI g)) fun _ σ16 => bl_bd (f_X4_leastTold σ16 (bl_R σ16 0 7) (nI k') (nI t') (nI g)) fun r19 σ20 => some (r19, σ20))
    rw [if_pos (stA_nI ok h1 h2 h3 h4 h5)] at go
    rw [e1, bd_some, x1.1.1.2.1, e2, bd_some, x2.1.1.2.1, x_leastTold c2 ok q1 q2 h3 h2 h4 h5 hg, bd_some] at go
    rw [← go]
    unfold f_X9_least
    rw [x_isState hx ok, bd_some, bd_some, if_pos (show stA s (nI L) (nI c') (nI k') (nI t') (tH (sv s)) from ⟨(stA_nI ok h1 h2 h3 h4 h5).1, (stA_nI ok h1 h2 h3 h4 h5).2.1, ⟨(stA_nI ok h1 h2 h3 h4 h5).2.2.1.1, by rw [nI_toInt (by omega)]; omega⟩, (stA_nI ok h1 h2 h3 h4 h5).2.2.2⟩), if_neg (by decide), if_neg (by decide), hx.1.1.1.2.2.1, x_chances hx.2.1, bd_some, bd_some, if_neg (fun z => by have := nI_inj (by omega) (by omega) z; omega), if_neg (fun z => by have := nI_inj (by omega) (by omega) z; omega), hx.1.1.2.1, show (1 : Int32) = nI 1 from rfl, nI_sub h1, e1, bd_some, x1.1.1.2.1, e2, bd_some, x2.1.1.2.1, x_leastTold c2 ok q1 q2 h3 h2 h4 h5 hg, bd_some]
  · subst el ec ek et
    show f_X10_least τ 139 (nI L) (nI c') (nI k') (nI t') (nI g) = _
    obtain ⟨q1, q2⟩ := m_two l1 h4 h5 hg
    unfold f_X10_least
    rw [m_H1 hm ok, e1, bd_some, if_neg (by decide)]
    have q := m_leastSize c1 ok q1 q2 h3 h2 h4 h5 hg
    rcases (show g = 0 ∨ g = 1 by omega) with rfl | rfl
    · rw [if_pos (by rfl), show (0 : Int32) = nI 0 from rfl, q, bd_some]
    · rw [if_neg (by decide), show (1 : Int32) = nI 1 from rfl, q, bd_some]
end CXT
