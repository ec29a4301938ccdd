section TAD
variable {s : st_V} {n : Nat}
/-- sort -/
theorem op_sort (ok : SOk s n) (c w x : Int32) : Both n s (fun σ => f_X9_sort σ 0 c w x) (fun τ => f_X10_sort τ 139 c w x) := by
  have h5 := ok.1.k5
  rcases (Classical.em (vC c (tK (sv s)))).symm with hc | hc
  · refine Both.same ok (-1) (fun σ hx => ⟨σ, ?_, hx⟩) (fun τ hm => ⟨τ, ?_, hm⟩)
    · show f_X9_sort σ 0 c w x = _
      unfold f_X9_sort
      rw [hx.1.1.1.2.2.1, x_hasSort hx.2.1 ok.1, bd_some, if_neg hc, if_pos rfl]
    · show f_X10_sort τ 139 c w x = _
      unfold f_X10_sort
      rw [m_isSort hm.1.1.1.1.1 hm.2.1 ok.1, bd_some, if_neg hc, if_pos rfl]
  rcases (Classical.em (vC w 2)).symm with hw | hw
  · refine Both.same ok (-1) (fun σ hx => ⟨σ, ?_, hx⟩) (fun τ hm => ⟨τ, ?_, hm⟩)
    · show f_X9_sort σ 0 c w x = _
      unfold f_X9_sort
      rw [hx.1.1.1.2.2.1, x_hasSort hx.2.1 ok.1, bd_some, if_pos hc, if_neg (by decide)]
      by_cases h1 : w < 0
      · rw [if_pos h1]
      · rw [if_neg h1, if_pos (show (2 : Int32) ≤ w by
          rw [show (2 : Int32) = nI 2 from rfl, leN_iff w (by decide)]
          rw [lt0_iff] at h1
          omega)]
    · show f_X10_sort τ 139 c w x = _
      unfold f_X10_sort
      rw [m_isSort hm.1.1.1.1.1 hm.2.1 ok.1, bd_some, if_pos hc, if_neg (by decide), show (0 : Int64) = lN 0 from rfl, show (1 : Int64) = lN 1 from rfl, m_inN τ w (by decide) (by decide), bd_some, if_neg (show ¬ vR w 0 1 by unfold vC at hw; unfold vR; omega), if_pos rfl]
  obtain ⟨k, hk, rfl⟩ := vC_of (by omega) hc
  obtain ⟨j, hj, rfl⟩ := vC_of (by decide) hw
  obtain ⟨B, hB⟩ : ∃ B, B = (if j = 0 then 999 else 9) := ⟨_, rfl⟩
  have hB9 : B ≤ 999 := by rw [hB]; split <;> omega
  have mh : ∀ τ, MI τ s → f_X10_sort τ 139 (nI k) (nI j) x = bl_bd (f_X10_in τ (Int32.toInt64 x) (lN 1) (lN B)) (fun r1 σ2 => if r1 = 0 then some ((-1), σ2) else bl_bd (f_X10_becomes σ2 139 (nI (45 + (2 * k + j))) x) fun r5 σ6 => some (r5, σ6)) := by
    intro τ hm
    unfold f_X10_sort
    rw [m_isSort hm.1.1.1.1.1 hm.2.1 ok.1, bd_some, if_pos hc, if_neg (by decide), show (0 : Int64) = lN 0 from rfl, show (1 : Int64) = lN 1 from rfl, m_inN τ (nI j) (by decide) (by decide), bd_some, if_pos (show vR (nI j) 0 1 by unfold vC at hw; unfold vR; omega), if_neg (by decide)]
    unfold b_X10_sort_34
    rw [nI_lit 45, nI_lit 2, nI_mul, nI_add, nI_add, Nat.add_assoc]
    rcases (show j = 0 ∨ j = 1 by omega) with rfl | rfl
    · rw [if_pos (by rfl), hB]; rfl
    · rw [if_neg (by decide), hB]; rfl
  have xstart : ∀ σ, XI σ s → f_X9_sort σ 0 (nI k) (nI j) x = (if x < nI 1 then some ((-1), σ) else if x ≤ nI B then (if nI (tS (sv s) (2 * k + j)) = x then some ((-1), σ) else bl_bd (f_X9_keepForUndo σ 0) fun _ σ19 => bl_bd (f_X8_setSortPart σ19 (bl_R σ19 0 2) (nI k) (nI j) x) fun _ σ23 => some (nI (tS (sv s) (2 * k + j)), σ23)) else some ((-1), σ)) := by
    intro σ hx
    have e1 : bl_SH.getD (Int32.toNatClampNeg (nI j)) 0 = nI B := by
      rw [nI_clamp (by omega), hB]
      rcases (show j = 0 ∨ j = 1 by omega) with rfl | rfl <;> rfl
    unfold f_X9_sort
    rw [hx.1.1.1.2.2.1, x_hasSort hx.2.1 ok.1, bd_some, if_pos hc, if_neg (by decide), if_neg (nI_pos (by omega)), if_neg (show ¬ (2 : Int32) ≤ nI j from nI_ge (a := j) (b := 2) hj (by decide)), gd_of (show bl_in (nI j) bl_SH.length = true from in_nI (n := 2) hj (by decide)), e1, hx.1.1.1.2.2.1, x_sortPart hx.2.1 ok.1 hk hj, bd_some]
    rfl
  rcases (Classical.em (vR x 1 B)).symm with hxr | hxr
  · refine Both.same ok (-1) (fun σ hx => ⟨σ, ?_, hx⟩) (fun τ hm => ⟨τ, ?_, hm⟩)
    · show f_X9_sort σ 0 (nI k) (nI j) x = _
      rw [xstart σ hx]
      by_cases h1 : x < nI 1
      · rw [if_pos h1]
      · rw [if_neg h1, if_neg (fun z => by
          rw [leN_iff' x (by omega)] at z
          rw [ltN_iff x (by decide)] at h1
          unfold vR at hxr
          omega)]
    · show f_X10_sort τ 139 (nI k) (nI j) x = _
      rw [mh τ hm, m_inN τ x (by decide) (by omega), bd_some, if_neg hxr, if_pos rfl]
  obtain ⟨y, rfl, hy1, hy⟩ := vR_of (by omega) hxr
  have xs2 : ∀ σ, XI σ s → f_X9_sort σ 0 (nI k) (nI j) (nI y) = (if nI (tS (sv s) (2 * k + j)) = nI y then some ((-1), σ) else bl_bd (f_X9_keepForUndo σ 0) fun _ σ19 => bl_bd (f_X8_setSortPart σ19 (bl_R σ19 0 2) (nI k) (nI j) (nI y)) fun _ σ23 => some (nI (tS (sv s) (2 * k + j)), σ23)) := fun σ hx => by
    rw [xstart σ hx, if_neg (nI_nlt (by omega) (by omega)), if_pos (nI_le hy (by omega))]
  have ms2 : ∀ τ, MI τ s → f_X10_sort τ 139 (nI k) (nI j) (nI y) = bl_bd (f_X10_becomes τ 139 (nI (45 + (2 * k + j))) (nI y)) (fun r5 σ6 => some (r5, σ6)) := fun τ hm => by
    rw [mh τ hm, m_inN τ (nI y) (by decide) (by omega), bd_some, if_pos hxr, if_neg (by decide)]
  have hold : ∀ τ, MI τ s → bl_I τ 140 (45 + (2 * k + j)) = nI (tS (sv s) (2 * k + j)) := fun τ hm => by
    have := hm.2.1.2.2.2 (2 * k + j) (by omega)
    rw [Nat.zero_add] at this
    exact this
  by_cases he : nI (tS (sv s) (2 * k + j)) = nI y
  · refine Both.same ok (-1) (fun σ hx => ⟨σ, ?_, hx⟩) (fun τ hm => ⟨τ, ?_, hm⟩)
    · show f_X9_sort σ 0 (nI k) (nI j) (nI y) = _
      rw [xs2 σ hx, if_pos he]
    · show f_X10_sort τ 139 (nI k) (nI j) (nI y) = _
      rw [ms2 τ hm, (m_becomes hm ok (by omega) (hold τ hm) (nI y)).1 he, bd_some]
  · have okv := tOk_setS ok.1 hj (c := k) (y := y) ⟨hy1, by rw [← hB]; exact hy⟩
    refine Both.to (nI (tS (sv s) (2 * k + j))) ((vSetS (sv s) (2 * k + j) y, sl s), (pushed s).2) ⟨okv, ok.2.1.up, ok.pushed.up.2.2⟩ (fun σ hx => ?_) (fun τ hm => ?_)
    · obtain ⟨σa, ea, xa, oa⟩ := x_kfu hx ok
      refine ⟨bl_pI σa (10 + 2) (2 * k + j) (nI y), ?_, xa.newT oa ((Kq.rf _ σa).pI (by decide) _ _) (xa.2.1.setS (2 * k + j) y)⟩
      show f_X9_sort σ 0 (nI k) (nI j) (nI y) = _
      rw [xs2 σ hx, if_neg he, ea, bd_some]
      unfold f_X8_setSortPart
      rw [nI_lit 2, nI_mul, nI_add, in_nI (by omega) (by decide), gd_true, let_eq, bd_some, xa.1.1.1.2.2.1, xa.2.1.1.2.1, nI_clamp (by omega), Nat.mul_comm k 2]
    · obtain ⟨τa, ea, ma⟩ := (m_becomes hm ok (by omega) (hold τ hm) (nI y)).2 he
      refine ⟨_, ?_, ma.now ((Mo.rf τa).pI _ _) (ma.2.1.setS ok.1 (i := 2 * k + j) (by omega) y) (ma.2.2.1.lo (by omega) _)⟩
      show f_X10_sort τ 139 (nI k) (nI j) (nI y) = _
      rw [ms2 τ hm, ea, bd_some]
/-- is it a rule -/
abbrev isR (a x : Int32) : Prop := vC a 3 ∧ vR x (rLo (Int32.toNatClampNeg a)) (rHi (Int32.toNatClampNeg a))
theorem x_isRule (σ : bl_St) (a x : Int32) : f_X9_isRule σ a x = some (if isR a x then 1 else 0, σ) := by
  unfold f_X9_isRule
  by_cases h1 : a < 0
  · rw [if_pos h1, if_neg (fun z => by rw [lt0_iff] at h1; have := z.1.1; omega)]
  rw [if_neg h1]
  by_cases h2 : (3 : Int32) ≤ a
  · rw [if_pos h2, if_neg (fun z => by rw [show (3 : Int32) = nI 3 from rfl, leN_iff a (by decide)] at h2; have := z.1.2; omega)]
  rw [if_neg h2]
  have hv : vC a 3 := by
    rw [show (3 : Int32) = nI 3 from rfl, leN_iff a (by decide)] at h2
    rw [lt0_iff] at h1
    exact ⟨by omega, by omega⟩
  obtain ⟨k, hk, rfl⟩ := vC_of (by decide) hv
  have e1 : bl_RL.getD (Int32.toNatClampNeg (nI k)) 0 = nI (rLo k) := by
    rw [nI_clamp (by omega)]
    rcases (show k = 0 ∨ k = 1 ∨ k = 2 by omega) with rfl | rfl | rfl <;> rfl
  have e2 : bl_RH.getD (Int32.toNatClampNeg (nI k)) 0 = nI (rHi k) := by
    rw [nI_clamp (by omega)]
    rcases (show k = 0 ∨ k = 1 ∨ k = 2 by omega) with rfl | rfl | rfl <;> rfl
  have b1 : rLo k ≤ 1 := by unfold rLo; split <;> omega
  have b2 : rHi k ≤ 99 := by unfold rHi; split <;> (try split) <;> omega
  rw [gd_of (show bl_in (nI k) bl_RL.length = true from in_nI (n := 3) hk (by decide)), gd_of (show bl_in (nI k) bl_RH.length = true from in_nI (n := 3) hk (by decide)), e1, e2]
  unfold isR vR
  rw [nI_clamp (by omega)]
  by_cases h3 : x < nI (rLo k)
  · rw [if_pos h3, if_neg (fun z => by rw [ltN_iff x (by omega)] at h3; have := z.2.1; omega)]
  rw [if_neg h3]
  by_cases h4 : nI (rHi k) < x
  · rw [if_pos h4, if_neg (fun z => by rw [Nlt_iff x (by omega)] at h4; have := z.2.2; omega)]
  rw [if_neg h4, if_pos ⟨hv, by rw [ltN_iff x (by omega)] at h3; omega, by rw [Nlt_iff x (by omega)] at h4; omega⟩]
theorem m_isRule (σ : bl_St) (a x : Int32) : f_X10_isRule σ a x = some (if isR a x then 1 else 0, σ) := by
  unfold f_X10_isRule
  by_cases hv : vC a 3
  · obtain ⟨k, hk, rfl⟩ := vC_of (by decide) hv
    have e : isR (nI k) x ↔ vR x (rLo k) (rHi k) := by
      unfold isR
      rw [nI_clamp (by omega)]
      exact ⟨fun z => z.2, fun z => ⟨hv, z⟩⟩
    rcases (show k = 0 ∨ k = 1 ∨ k = 2 by omega) with rfl | rfl | rfl
    · rw [if_pos (by rfl), show (1 : Int64) = lN 1 from rfl, show (3 : Int64) = lN 3 from rfl, m_inN σ x (by decide) (by decide), bd_some, gd_of bo_if]
      simp only [e]
      rfl
    · rw [if_neg (by decide), if_pos (by rfl), show (0 : Int64) = lN 0 from rfl, show (12 : Int64) = lN 12 from rfl, m_inN σ x (by decide) (by decide), bd_some, gd_of bo_if]
      simp only [e]
      rfl
    · rw [if_neg (by decide), if_neg (by decide), if_pos (by rfl), show (0 : Int64) = lN 0 from rfl, show (99 : Int64) = lN 99 from rfl, m_inN σ x (by decide) (by decide), bd_some]
      by_cases h : vR x 0 99
      · rw [if_pos h, if_neg (by decide), if_pos (e.mpr h)]
      · rw [if_neg h, if_pos rfl, if_neg (fun z => h (e.mp z))]
  · have n0 : a ≠ 0 := fun z => hv (by rw [z]; decide)
    have n1 : a ≠ 1 := fun z => hv (by rw [z]; decide)
    have n2 : a ≠ 2 := fun z => hv (by rw [z]; decide)
    rw [if_neg n0, if_neg n1, if_neg n2, if_neg (fun z => hv z.1)]
/-- rule -/
theorem op_rule (ok : SOk s n) (a x : Int32) : Both n s (fun σ => f_X9_rule σ 0 a x) (fun τ => f_X10_rule τ 139 a x) := by
  have hO := ok.2.1.2.1.1
  rcases (Classical.em (isR a x ∧ ¬ (a = 0 ∧ lO (sl s) = 1))).symm with hb | hb
  · refine Both.same ok (-1) (fun σ hx => ⟨σ, ?_, hx⟩) (fun τ hm => ⟨τ, ?_, hm⟩)
    · show f_X9_rule σ 0 a x = _
      unfold f_X9_rule
      rw [x_isRule, bd_some, hx.1.1.1.2.2.2.2.1, hx.2.2.1.2.1.2.1]
      by_cases h1 : isR a x
      · have h2 : a = 0 ∧ lO (sl s) = 1 := Classical.not_not.mp (fun z => hb ⟨h1, z⟩)
        rw [if_pos h1, if_neg (by decide), if_pos h2.1, h2.2, if_neg (by decide)]
      · rw [if_neg h1, if_pos rfl]
    · show f_X10_rule τ 139 a x = _
      unfold f_X10_rule
      have e1 := hm.2.2.1.1.2.1
      rw [m_isRule, bd_some, hm.1.1.1.1.1, e1]
      by_cases h1 : isR a x
      · have h2 : a = 0 ∧ lO (sl s) = 1 := Classical.not_not.mp (fun z => hb ⟨h1, z⟩)
        rw [if_pos h1, if_neg (by decide), if_pos h2.1, h2.2, if_pos (by rfl)]
      · rw [if_neg h1, if_pos rfl]
  obtain ⟨h1, h2⟩ := hb
  obtain ⟨k, hk, rfl⟩ := vC_of (by decide) h1.1
  have h1' := h1.2
  rw [nI_clamp (by omega)] at h1'
  have b2 : rHi k ≤ 99 := by unfold rHi; split <;> (try split) <;> omega
  obtain ⟨y, rfl, hy1, hy⟩ := vR_of (by omega) h1'
  obtain ⟨old, hold⟩ : ∃ old, old = (if k = 0 then tH (sv s) else if k = 1 then tO (sv s) else tW (sv s)) := ⟨_, rfl⟩
  have xs2 : ∀ σ, XI σ s → f_X9_rule σ 0 (nI k) (nI y) = (if nI old = nI y then some ((-1), σ) else bl_bd (f_X9_keepForUndo σ 0) fun _ σ8 => bl_gd (bl_in (nI k) 3) (bl_let (bl_pI σ8 (bl_R σ8 (bl_R σ8 0 2) 4) (Int32.toNatClampNeg (nI k)) (nI y)) fun σ13 => some (nI old, σ13))) := by
    intro σ hx
    have e24 : b_X9_rule_24 σ 0 (nI k) (nI y) = (if nI old = nI y then some ((-1), σ) else bl_bd (f_X9_keepForUndo σ 0) fun _ σ8 => bl_gd (bl_in (nI k) 3) (bl_let (bl_pI σ8 (bl_R σ8 (bl_R σ8 0 2) 4) (Int32.toNatClampNeg (nI k)) (nI y)) fun σ13 => some (nI old, σ13))) := by
      unfold b_X9_rule_24
      have e3 : bl_I σ (bl_R σ (bl_R σ 0 2) 4) (Int32.toNatClampNeg (nI k)) = nI old := by
        rw [hx.1.1.1.2.2.1, hx.2.1.1.2.2, nI_clamp (by omega), hold]
        rcases (show k = 0 ∨ k = 1 ∨ k = 2 by omega) with rfl | rfl | rfl
        · exact hx.2.1.2.2.2.2.1
        · exact hx.2.1.2.2.2.2.2.1
        · exact hx.2.1.2.2.2.2.2.2
      rw [gd_of (in_nI hk (by decide)), let_eq, e3]
    unfold f_X9_rule
    rw [x_isRule, bd_some, if_pos h1, if_neg (by decide), hx.1.1.1.2.2.2.2.1, hx.2.2.1.2.1.2.1, e24]
    by_cases h0 : nI k = 0
    · rw [if_pos h0, if_pos ((nI_is0 (by omega)).mpr (by
        rcases Nat.lt_or_ge (lO (sl s)) 1 with z | z
        · omega
        · exact absurd ⟨h0, by omega⟩ h2))]
    · rw [if_neg h0]
  have ms2 : ∀ τ, MI τ s → f_X10_rule τ 139 (nI k) (nI y) = bl_bd (f_X10_becomes τ 139 (nI (2 + k)) (nI y)) (fun r5 σ6 => some (r5, σ6)) := by
    intro τ hm
    unfold f_X10_rule b_X10_rule_25
    have e1 := hm.2.2.1.1.2.1
    simp only [Nat.zero_add] at e1
    rw [m_isRule, bd_some, if_pos h1, if_neg (by decide), hm.1.1.1.1.1, e1, show (2 : Int32) = nI 2 from rfl, nI_add]
    by_cases h0 : nI k = 0
    · rw [if_pos h0, if_neg (show ¬ nI (lO (sl s)) = 1 from fun z => h2 ⟨h0, nI_inj (b := 1) (by omega) (by decide) z⟩)]
    · rw [if_neg h0]
  have ho : ∀ τ, MI τ s → bl_I τ 140 (2 + k) = nI old := fun τ hm => by
    have := hm.2.1.2.1
    simp only [Nat.zero_add] at this
    rw [hold]
    rcases (show k = 0 ∨ k = 1 ∨ k = 2 by omega) with rfl | rfl | rfl
    · exact this.1
    · exact this.2.1
    · exact this.2.2
  by_cases he : nI old = nI y
  · refine Both.same ok (-1) (fun σ hx => ⟨σ, ?_, hx⟩) (fun τ hm => ⟨τ, ?_, hm⟩)
    · show f_X9_rule σ 0 (nI k) (nI y) = _
      rw [xs2 σ hx, if_pos he]
    · show f_X10_rule τ 139 (nI k) (nI y) = _
      rw [ms2 τ hm, (m_becomes hm ok (by omega) (ho τ hm) (nI y)).1 he, bd_some]
  · have okv := tOk_rule ok.1 hk ⟨hy1, hy⟩
    have lk : LOk (vRule (sv s) k y) (sl s) n := by
      obtain ⟨q1, q2, q3, q4, q5⟩ := ok.2.1
      refine ⟨q1, q2, q3, fun z => ⟨?_, (q4 z).2⟩, q5⟩
      show lG (sl s) < (if k = 0 then y else tH (sv s))
      have : k ≠ 0 := fun zz => h2 ⟨by rw [zz]; rfl, z⟩
      rw [if_neg this]
      exact (q4 z).1
    refine Both.to (nI old) ((vRule (sv s) k y, sl s), (pushed s).2) ⟨okv, lk.up, ok.pushed.up.2.2⟩ (fun σ hx => ?_) (fun τ hm => ?_)
    · obtain ⟨σa, ea, xa, oa⟩ := x_kfu hx ok
      refine ⟨bl_pI σa (10 + 3) k (nI y), ?_, xa.newT oa ((Kq.rf _ σa).pI (by decide) _ _) (xa.2.1.rule hk y)⟩
      show f_X9_rule σ 0 (nI k) (nI y) = _
      rw [xs2 σ hx, if_neg he, ea, bd_some, gd_of (in_nI hk (by decide)), let_eq, xa.1.1.1.2.2.1, xa.2.1.1.2.2, nI_clamp (by omega)]
    · obtain ⟨τa, ea, ma⟩ := (m_becomes hm ok (by omega) (ho τ hm) (nI y)).2 he
      refine ⟨_, ?_, ma.now ((Mo.rf τa).pI _ _) (ma.2.1.rule hk y) (ma.2.2.1.lo (by omega) _)⟩
      show f_X10_rule τ 139 (nI k) (nI y) = _
      rw [ms2 τ hm, ea, bd_some]
/-- move -/
def lMove (l : lf_V) (p : Nat) : lf_V := ((p, lO l, lG l, lC l, lU l), l.2)
theorem op_move (ok : SOk s n) (c : Int32) : Both n s (fun σ => f_X9_move σ 0 c) (fun τ => f_X10_move τ 139 c) := by
  have h8 := ok.1.n8
  have hO := ok.2.1.2.1.1
  rcases (Classical.em (vC c (tN (sv s)) ∧ lO (sl s) = 0)).symm with hb | hb
  · refine Both.same ok (-1) (fun σ hx => ⟨σ, ?_, hx⟩) (fun τ hm => ⟨τ, ?_, hm⟩)
    · show f_X9_move σ 0 c = _
      unfold f_X9_move
      rw [hx.1.1.1.2.2.1, x_hasClass hx.2.1 ok.1, bd_some, hx.1.1.1.2.2.2.2.1, hx.2.2.1.2.1.2.1]
      by_cases h1 : vC c (tN (sv s))
      · rw [if_pos h1, if_neg (by decide), if_neg (fun z => hb ⟨h1, (nI_is0 (by omega)).mp z⟩)]
      · rw [if_neg h1, if_pos rfl]
    · show f_X10_move τ 139 c = _
      unfold f_X10_move
      have e1 := hm.2.2.1.1.2.1
      rw [m_isClass hm.1.1.1.1.1 hm.2.1 ok.1, bd_some, hm.1.1.1.1.1, e1]
      by_cases h1 : vC c (tN (sv s))
      · rw [if_pos h1, if_neg (by decide), if_neg (fun z => hb ⟨h1, (nI_is0 (by omega)).mp z⟩)]
      · rw [if_neg h1, if_pos rfl]
  obtain ⟨hc, ho⟩ := hb
  obtain ⟨k, hk, rfl⟩ := vC_of (by omega) hc
  have ms2 : ∀ τ, MI τ s → f_X10_move τ 139 (nI k) = bl_bd (f_X10_becomes τ 139 (nI 55) (nI k)) (fun r5 σ6 => some (r5, σ6)) := by
    intro τ hm
    unfold f_X10_move
    have e1 := hm.2.2.1.1.2.1
    rw [m_isClass hm.1.1.1.1.1 hm.2.1 ok.1, bd_some, hm.1.1.1.1.1, e1, if_pos hc, if_neg (by decide), ho, if_pos (by rfl)]
    rfl
  have xs2 : ∀ σ, XI σ s → f_X9_move σ 0 (nI k) = (if nI (lP (sl s)) = nI k then some ((-1), σ) else bl_bd (f_X9_keepForUndo σ 0) fun _ σ11 => bl_let (bl_I σ11 (bl_R σ11 0 4) 0) fun x14 => bl_let (bl_pI σ11 (bl_R σ11 0 4) 0 (nI k)) fun σ17 => some (x14, σ17)) := by
    intro σ hx
    unfold f_X9_move
    rw [hx.1.1.1.2.2.1, x_hasClass hx.2.1 ok.1, bd_some, hx.1.1.1.2.2.2.2.1, hx.2.2.1.2.1.2.1, if_pos hc, if_neg (by decide), ho, if_pos (by rfl), hx.2.2.1.2.1.1]
  have hold : ∀ τ, MI τ s → bl_I τ 140 55 = nI (lP (sl s)) := fun τ hm => by
    have := hm.2.2.1.1.1
    rw [Nat.zero_add] at this
    exact this
  by_cases he : nI (lP (sl s)) = nI k
  · refine Both.same ok (-1) (fun σ hx => ⟨σ, ?_, hx⟩) (fun τ hm => ⟨τ, ?_, hm⟩)
    · show f_X9_move σ 0 (nI k) = _
      rw [xs2 σ hx, if_pos he]
    · show f_X10_move τ 139 (nI k) = _
      rw [ms2 τ hm, (m_becomes hm ok (by decide) (hold τ hm) (nI k)).1 he, bd_some]
  · have lk : LOk (sv s) (lMove (sl s) k) n := by
      obtain ⟨q1, q2, q3, q4, q5⟩ := ok.2.1
      exact ⟨⟨fun z => by omega, fun _ => hk⟩, q2, q3, q4, q5⟩
    refine Both.to (nI (lP (sl s))) ((sv s, lMove (sl s) k), (pushed s).2) ⟨ok.1, lk.up, ok.pushed.up.2.2⟩ (fun σ hx => ?_) (fun τ hm => ?_)
    · obtain ⟨σa, ea, xa, oa⟩ := x_kfu hx ok
      have kk : Kq (fun i => i = 18) σa (bl_pI σa 18 0 (nI k)) := (Kq.rf (fun i => i = 18) σa).pI rfl _ _
      refine ⟨bl_pI σa 18 0 (nI k), ?_, xa.newL (kk.mono (fun i hi => by omega)) ?_⟩
      · show f_X9_move σ 0 (nI k) = _
        rw [xs2 σ hx, if_neg he, ea, bd_some, let_eq, let_eq, xa.1.1.1.2.2.2.2.1, xa.2.2.1.2.1.1]
        rfl
      · obtain ⟨⟨r1, r2⟩, ⟨a0, a1, a2, a3, a4⟩, b, ⟨c1, c2, c3, c4, c5, c6, c7⟩, d1, d2⟩ := xa.2.2.1
        have io : ∀ j, j ≠ 0 → bl_I (bl_pI σa 18 0 (nI k)) 18 j = bl_I σa 18 j := fun j hj => I_pI_ne hj
        have o1 : bl_I (bl_pI σa 18 0 (nI k)) (18 + 1) = bl_I σa (18 + 1) := I_pI_o (by decide)
        have o2 : bl_I (bl_pI σa 18 0 (nI k)) (18 + 2) = bl_I σa (18 + 2) := I_pI_o (by decide)
        refine ⟨⟨r1, r2⟩, ⟨I_pI_self _ _ _ _, by rw [io 1 (by decide)]; exact a1, by rw [io 2 (by decide)]; exact a2, by rw [io 3 (by decide)]; exact a3, by rw [io 4 (by decide)]; exact a4⟩, fun z => by rw [io 5 (by decide)]; exact b z, ?_, by rw [o1]; exact d1, by rw [o2]; exact d2⟩
        rw [io 6 (by decide), io 7 (by decide), io 8 (by decide), io 9 (by decide), io 10 (by decide), io 11 (by decide), io 12 (by decide)]
        exact ⟨c1, c2, c3, c4, c5, c6, c7⟩
    · obtain ⟨τa, ea, ma⟩ := (m_becomes hm ok (by decide) (hold τ hm) (nI k)).2 he
      have io : ∀ j, j ≠ 55 → bl_I (bl_pI τa 140 55 (nI k)) 140 j = bl_I τa 140 j := fun j hj => I_pI_ne hj
      refine ⟨_, ?_, ma.now ((Mo.rf τa).pI _ _) (ma.2.1.hi ok.1 (fun j hj => io j (by omega))) ?_⟩
      · show f_X10_move τ 139 (nI k) = _
        rw [ms2 τ hm, ea, bd_some]
      · obtain ⟨⟨a0, a1, a2, a3, a4⟩, b, ⟨c1, c2, c3, c4, c5, c6, c7⟩, ⟨m1, m2⟩, d1, d2⟩ := ma.2.2.1
        refine ⟨⟨I_pI_self _ _ _ _, by rw [io _ (by omega)]; exact a1, by rw [io _ (by omega)]; exact a2, by rw [io _ (by omega)]; exact a3, by rw [io _ (by omega)]; exact a4⟩, fun z => absurd (show lO (sl s) = 1 from z) (by omega), ?_, ⟨by rw [io _ (by omega)]; exact m1, by rw [io _ (by omega)]; exact m2⟩, fun j w hj hw => ?_, fun j w hj hw => ?_⟩
        · rw [io _ (by omega), io _ (by omega), io _ (by omega), io _ (by omega), io _ (by omega), io _ (by omega), io _ (by omega)]
          exact ⟨c1, c2, c3, c4, c5, c6, c7⟩
        · show bl_I (bl_pI τa 140 55 (nI k)) 140 (0 + 70 + _) = _
          rw [io _ (by omega)]
          exact d1 j w hj hw
        · show bl_I (bl_pI τa 140 55 (nI k)) 140 (0 + 119 + _) = _
          rw [io _ (by omega)]
          exact d2 j w hj hw
end TAD
