/-! ===== were, lacking, oddsFor, bestOwn, dearest ===== -/
def wR (s : st_V) (k y : Nat) : st_V := ((vRule (sv s) k y, sl s), s.2)
def rOf (v : tm_V) (k : Nat) : Nat := if k = 0 then tH v else if k = 1 then tO v else tW v
theorem vRule2 (v : tm_V) {k : Nat} (hk : k < 3) (y z : Nat) : vRule (vRule v k y) k z = vRule v k z := by
  rcases (show k = 0 ∨ k = 1 ∨ k = 2 by omega) with rfl | rfl | rfl <;> rfl
theorem vRule0 (v : tm_V) {k : Nat} (hk : k < 3) : vRule v k (rOf v k) = v := by
  rcases (show k = 0 ∨ k = 1 ∨ k = 2 by omega) with rfl | rfl | rfl <;> rfl
theorem wR0 (s : st_V) {k : Nat} (hk : k < 3) : wR s k (rOf (sv s) k) = s := by
  show ((vRule (sv s) k (rOf (sv s) k), sl s), s.2) = s
  rw [vRule0 _ hk]
section WER
variable {s : st_V} {n : Nat} {σ τ : bl_St}
theorem m_bestT (hm : MI τ s) (ok : TOk (sv s)) (hK : 0 < tK (sv s)) {L c : Nat} (hL : L ≤ 20) (hc : c < tN (sv s)) : ∃ τ1, f_X10_bestCost τ 139 (nI L) (nI c) = some (lN (cB (sv s) L c), τ1) ∧ MI τ1 s ∧ Kq (fun i => i = 139 ∨ (144 ≤ i ∧ i ≤ 146)) τ τ1 := by
  have h8 := ok.n8
  obtain ⟨τ1, e1, m1, k1, c1, f1⟩ := m_laysT (rl := 0) (lm := 0) hm ok hK true hL (by decide) (by decide)
  refine ⟨τ1, ?_, m1, k1⟩
  unfold f_X10_bestCost
  rw [show f_X10_lays τ 139 (nI L) 1 0 0 = _ from e1, bd_some, m_costAt m1 hL (by omega) (f1 L (Nat.le_refl _) c hc).1, bd_some]
theorem m_setR {k y : Nat} (hk : k < 3) (hm : MI τ (wR s k y)) (z : Nat) : MI (bl_pI τ 140 (2 + k) (nI z)) (wR s k z) := by
  have T := hm.2.1.rule hk z
  have e : vRule (sv (wR s k y)) k z = vRule (sv s) k z := vRule2 (sv s) hk y z
  rw [e] at T
  exact hm.now ((Mo.rf τ).pI _ _) T (hm.2.2.1.lo (by omega) _)
theorem m_werestep {k y z L c : Nat} (ok : SOk s n) (hk : k < 3) (hm : MI τ (wR s k y)) (hz : rLo k ≤ z ∧ z ≤ rHi k) (hL : L ≤ 20) (hc : c < tN (sv s)) : ∃ τ1, f_X10_bestCost (bl_pI τ 140 (2 + k) (nI z)) 139 (nI L) (nI c) = some (lN (cB (vRule (sv s) k z) L c), τ1) ∧ MI τ1 (wR s k z) := by
  obtain ⟨τ1, e1, m1, -⟩ := m_bestT (s := wR s k z) (m_setR hk hm z) (tOk_rule ok.1 hk hz) (show 0 < tK (sv s) from ok.hK (by omega)) hL (show c < tN (sv s) from hc)
  exact ⟨τ1, e1, m1⟩
theorem op_were (ok : SOk s n) (a x l c : Int32) : Both n s (fun σ => f_X9_were σ 0 a x l c) (fun τ => f_X10_were τ 139 a x l c) := by
  have h8 := ok.1.n8
  rcases (Classical.em ((vY l ∧ vC c (tN (sv s))) ∧ isR a x)).symm with hb | hb
  · refine Both.same ok (-1) (fun σ hx => ⟨σ, ?_, hx⟩) (fun τ hm => ⟨τ, ?_, hm⟩)
    · show f_X9_were σ 0 a x l c = _
      unfold f_X9_were
      rw [x_isAsked hx ok, bd_some]
      by_cases h1 : vY l ∧ vC c (tN (sv s))
      · rw [if_pos h1, if_neg (by decide), x_isRule, bd_some, if_neg (show ¬ isR a x from fun z => hb ⟨h1, z⟩), if_pos rfl]
      · rw [if_neg h1, if_pos rfl]
    · show f_X10_were τ 139 a x l c = _
      unfold f_X10_were
      rw [m_isRule, bd_some]
      by_cases h1 : isR a x
      · rw [if_pos h1, if_neg (by decide)]
        exact asked_bad ok (fun z => hb ⟨z, h1⟩) hm _ _
      · rw [if_neg h1, if_pos rfl]
  obtain ⟨hlc, hR⟩ := hb
  obtain ⟨hl, hc⟩ := id hlc
  obtain ⟨L, rfl, -, hL⟩ := vR_of (by decide) hl
  obtain ⟨c, hc', rfl⟩ := vC_of (by omega) hc
  obtain ⟨k, hk, rfl⟩ := vC_of (by decide) hR.1
  have h1' := hR.2
  rw [nI_clamp (by omega)] at h1'
  have b2 : rHi k ≤ 99 := by unfold rHi; split <;> (try split) <;> omega
  obtain ⟨y, rfl, hy1, hy⟩ := vR_of (by omega) h1'
  refine Both.same ok (lN (cB (vRule (sv s) k y) L c)) (fun σ hx => ?_) (fun τ hm => ?_)
  · obtain ⟨σ1, e1, x1⟩ := x_were hx ok hk ⟨hy1, hy⟩ hL hc'
    refine ⟨σ1, ?_, x1⟩
    show f_X9_were σ 0 (nI k) (nI y) (nI L) (nI c) = _
    unfold f_X9_were
    rw [x_isAsked hx ok, bd_some, if_pos hlc, if_neg (by decide), x_isRule, bd_some, if_pos hR, if_neg (by decide), e1, bd_some]
  · have hm0 : MI τ (wR s k (rOf (sv s) k)) := by rw [wR0 s hk]; exact hm
    obtain ⟨τ1, e1, m1⟩ := m_werestep ok hk hm0 ⟨hy1, hy⟩ hL hc'
    have m2 := m_setR hk m1 (rOf (sv s) k)
    rw [wR0 s hk] at m2
    refine ⟨_, ?_, m2⟩
    have eo : bl_I τ 140 (2 + k) = nI (rOf (sv s) k) := by
      have := hm.2.1.2.1
      simp only [Nat.zero_add] at this
      unfold rOf
      rcases (show k = 0 ∨ k = 1 ∨ k = 2 by omega) with rfl | rfl | rfl
      · exact this.1
      · exact this.2.1
      · exact this.2.2
    show f_X10_were τ 139 (nI k) (nI y) (nI L) (nI c) = _
    unfold f_X10_were
    rw [m_isRule, bd_some, if_pos hR, if_neg (by decide)]
    refine (asked_ok ok hlc hm _ _).trans ?_
    rw [show (2 : Int32) = nI 2 from rfl, nI_add, in_nI (by omega) (by decide), gd_true, let_eq, gd_true, let_eq, hm.1.1.1.1.1, nI_clamp (by omega), e1, bd_some, gd_true, let_eq, m1.1.1.1.1.1, eo]
/-- a row into a row -/
theorem m_copies {a b : Nat} (hab : a ≠ b) : ∃ σ1, f_X10_copies σ a b = some ((), σ1) ∧ bl_R σ1 = bl_R σ ∧ bl_J σ1 = bl_J σ ∧ (∀ i, i ≠ b → bl_I σ1 i = bl_I σ i) ∧ ∀ j, j < 167 → bl_I σ1 b j = bl_I σ a j := by
  have loop : ∀ (r k m : Nat) (τ : bl_St), k + r = 167 → r < m → bl_R τ = bl_R σ → bl_J τ = bl_J σ → (∀ i, i ≠ b → bl_I τ i = bl_I σ i) → (∀ j, j < k → bl_I τ b j = bl_I σ a j) → ∃ σ1, bl_fx (fun _ _ _ _ => none) (b_X10_copies_2) m τ a b (nI k) = some ((), σ1) ∧ bl_R σ1 = bl_R σ ∧ bl_J σ1 = bl_J σ ∧ (∀ i, i ≠ b → bl_I σ1 i = bl_I σ i) ∧ ∀ j, j < 167 → bl_I σ1 b j = bl_I σ a j := by
    intro r
    induction r with
    | zero =>
      intro k m τ hk hm hR hJ hI hs
      obtain ⟨m, rfl⟩ : ∃ q, m = q + 1 := ⟨m - 1, by omega⟩
      have hk : k = 167 := by omega
      refine ⟨τ, ?_, hR, hJ, hI, fun j hj => hs j (by omega)⟩
      rw [hk, fx_succ]
      show (if (167 : Int32) ≤ nI 167 then _ else _) = _
      rw [if_pos (by decide)]
    | succ r ih =>
      intro k m τ hk hm hR hJ hI hs
      obtain ⟨m, rfl⟩ : ∃ q, m = q + 1 := ⟨m - 1, by omega⟩
      obtain ⟨σ1, e1, e2, e3, e4, e5⟩ := ih (k + 1) m (bl_pI τ b k (bl_I τ a k)) (by omega) (by omega) hR hJ (fun i hi => by rw [I_pI_o hi]; exact hI i hi) (fun j hj => by
        rw [I_pI]
        by_cases hjk : j = k
        · rw [if_pos ⟨rfl, hjk⟩, hI a hab, hjk]
        · rw [if_neg (fun z => hjk z.2)]
          exact hs j (by omega))
      refine ⟨σ1, ?_, e2, e3, e4, e5⟩
      rw [fx_succ]
      show (if (167 : Int32) ≤ nI k then _ else _) = _
      rw [if_neg (show ¬ (167 : Int32) ≤ nI k from nI_ge (a := k) (b := 167) (by omega) (by decide)), in_nI (by omega) (by decide), gd_true, gd_true, let_eq, let_eq, nI_clamp (by omega), nI_1]
      exact e1
  unfold f_X10_copies
  exact loop 167 0 bl_fu σ (by omega) (by unfold bl_fu; omega) rfl rfl (fun _ _ => rfl) (fun j hj => absurd hj (Nat.not_lt_zero j))
/-- now laid by -/
theorem m_layBy (hm : MI τ s) (ok : TOk (sv s)) : ∃ τ1, f_X10_copies τ 140 142 = some ((), τ1) ∧ MI τ1 s ∧ TM τ1 142 0 (sv s) ∧ LM τ1 142 0 (sl s) := by
  obtain ⟨τ1, e1, R1, J1, I1, C1⟩ := m_copies (σ := τ) (a := 140) (b := 142) (by decide)
  refine ⟨τ1, e1, hm.scr R1 (by rw [I1 139 (by decide)]) (by rw [I1 139 (by decide)]) (I1 140 (by decide)) (I1 143 (by decide)) (I1 152 (by decide)) (I1 153 (by decide)), hm.2.1.cp ok (fun j hj => by rw [Nat.zero_add]; exact C1 j hj), hm.2.2.1.cp (fun j _ hj => by rw [Nat.zero_add]; exact C1 j hj)⟩
/-- and taken back -/
theorem m_takeBy {v' : tm_V} {l' : lf_V} (hm : MI τ ((v', l'), s.2)) (ok : TOk (sv s)) (T : TM τ 142 0 (sv s)) (L : LM τ 142 0 (sl s)) : ∃ τ1, f_X10_copies τ 142 140 = some ((), τ1) ∧ MI τ1 s := by
  obtain ⟨τ1, e1, R1, J1, I1, C1⟩ := m_copies (σ := τ) (a := 142) (b := 140) (by decide)
  have q := hm.now (σ1 := τ1) (v' := sv s) (l' := sl s) ⟨R1, J1, I1⟩ (T.cp ok (fun j hj => by rw [Nat.zero_add]; exact C1 j hj)) (L.cp (fun j _ hj => by rw [Nat.zero_add]; exact C1 j hj))
  exact ⟨τ1, e1, q⟩
theorem op_lacking (ok : SOk s n) (d l c : Int32) : Both n s (fun σ => f_X9_lacking σ 0 d l c) (fun τ => f_X10_lacking τ 139 d l c) := by
  have h8 := ok.1.n8
  have h5 := ok.1.k5
  rcases (Classical.em ((vY l ∧ vC c (tN (sv s))) ∧ vC d (tK (sv s)) ∧ tK (sv s) ≠ 1)).symm with hb | hb
  · refine Both.same ok (-1) (fun σ hx => ⟨σ, ?_, hx⟩) (fun τ hm => ⟨τ, ?_, hm⟩)
    · show f_X9_lacking σ 0 d l c = _
      unfold f_X9_lacking
      rw [x_isAsked hx ok, bd_some]
      by_cases h1 : vY l ∧ vC c (tN (sv s))
      · rw [if_pos h1, if_neg (by decide), hx.1.1.1.2.2.1, x_hasSort hx.2.1 ok.1, bd_some, hx.1.1.1.2.2.1, hx.2.1.2.1.2]
        by_cases h2 : vC d (tK (sv s))
        · rw [if_pos h2, if_neg (by decide), show tK (sv s) = 1 from Classical.not_not.mp (fun z => hb ⟨h1, h2, z⟩), if_pos (by rfl)]
        · rw [if_neg h2, if_pos rfl]
      · rw [if_neg h1, if_pos rfl]
    · show f_X10_lacking τ 139 d l c = _
      unfold f_X10_lacking
      have e1 := hm.2.1.1.2
      simp only [Nat.zero_add] at e1
      rw [m_isSort hm.1.1.1.1.1 hm.2.1 ok.1, bd_some, hm.1.1.1.1.1, e1]
      by_cases h1 : vC d (tK (sv s))
      · rw [if_pos h1, if_neg (by decide)]
        by_cases h2 : tK (sv s) = 1
        · rw [h2, if_pos (by rfl)]
        · rw [if_neg (show ¬ nI (tK (sv s)) = 1 from fun z => h2 (nI_inj (b := 1) (by omega) (by decide) z))]
          exact asked_bad ok (fun z => hb ⟨z, h1, h2⟩) hm _ _
      · rw [if_neg h1, if_pos rfl]
  obtain ⟨hlc, hd, h1⟩ := hb
  obtain ⟨hl, hc⟩ := id hlc
  obtain ⟨L, rfl, -, hL⟩ := vR_of (by decide) hl
  obtain ⟨c, hc', rfl⟩ := vC_of (by omega) hc
  obtain ⟨d, hd', rfl⟩ := vC_of (by omega) hd
  have okv := tOk_drop ok.1 hd' (by omega)
  have hKv : 0 < tK (vDrop (sv s) d) := by show 0 < tK (sv s) - 1; omega
  refine Both.same ok (lN (cB (vDrop (sv s) d) L c)) (fun σ hx => ?_) (fun τ hm => ?_)
  · obtain ⟨σa, ea, xa, ta⟩ := x_other hx ok
    obtain ⟨σb, eb, kb, Rb, tb⟩ := x_removeSort ta ok.1 hd'
    have xb : XI σb s := xa.tr (kb.mono (fun i hi => by unfold trS; omega)) (xa.1.2.2.2.2.2.1.kq kb (fun i a b c => by omega)) (by rw [Rb]; exact xa.r14)
    obtain ⟨σc, ec, xc, oc⟩ := x_look2 xb tb (Or.inr rfl) true
    obtain ⟨σd, ed, xd⟩ := x_cost2 xc oc (Or.inr rfl) okv hKv (by decide) (by decide) (by decide) (by decide) hL (show c < tN (sv s) from hc')
    refine ⟨σd, ?_, xd⟩
    show f_X9_lacking σ 0 (nI d) (nI L) (nI c) = _
    unfold f_X9_lacking
    rw [x_isAsked hx ok, bd_some, if_pos hlc, if_neg (by decide), hx.1.1.1.2.2.1, x_hasSort hx.2.1 ok.1, bd_some, if_pos hd, if_neg (by decide), hx.1.1.1.2.2.1, hx.2.1.2.1.2, if_neg (show ¬ nI (tK (sv s)) = 1 from fun z => h1 (nI_inj (b := 1) (by omega) (by decide) z)), hx.1.1.1.2.2.2.1, ea, bd_some, xa.1.1.1.2.2.2.1, eb, bd_some, xb.1.1.2.2.1, xb.1.1.1.2.2.2.1, show f_X4_look σb 119 14 1 = _ from ec, bd_some, xc.1.1.2.2.1, ed, bd_some]
  · obtain ⟨τa, ea, ma, Ta, La⟩ := m_layBy hm ok.1
    obtain ⟨τb, eb, mb, tb, lb⟩ := m_takesOut ma.1.1.1.1.1 ma.2.1 ok.1 ma.2.2.1 hd'
    have mb2 := ma.now mb tb lb
    obtain ⟨τc, ec, mc, kc⟩ := m_bestT mb2 okv hKv hL (show c < tN (sv s) from hc')
    have e142 : bl_I τc 142 = bl_I τa 142 := by rw [(kc 142 (by omega)).1, mb.2.2 142 (by decide)]
    obtain ⟨τd, ed, md⟩ := m_takeBy (s := s) mc ok.1 (by unfold TM at *; rw [e142]; exact Ta) (by unfold LM at *; rw [e142]; exact La)
    refine ⟨τd, ?_, md⟩
    show f_X10_lacking τ 139 (nI d) (nI L) (nI c) = _
    unfold f_X10_lacking
    have e1 := hm.2.1.1.2
    simp only [Nat.zero_add] at e1
    rw [m_isSort hm.1.1.1.1.1 hm.2.1 ok.1, bd_some, hm.1.1.1.1.1, e1, if_pos hd, if_neg (by decide), if_neg (show ¬ nI (tK (sv s)) = 1 from fun z => h1 (nI_inj (b := 1) (by omega) (by decide) z))]
    refine (asked_ok ok hlc hm _ _).trans ?_
    rw [hm.1.1.1.1.1, hm.1.1.1.1.2.2.1, ea, bd_some, eb, bd_some, ec, bd_some, mc.1.1.1.1.1, mc.1.1.1.1.2.2.1, ed, bd_some]
theorem op_oddsFor (ok : SOk s n) (lim : Int64) (l c : Int32) : Both n s (fun σ => f_X9_oddsFor σ 0 lim l c) (fun τ => f_X10_oddsFor τ 139 lim l c) := by
  have h8 := ok.1.n8
  rcases (Classical.em (vY l ∧ vC c (tN (sv s)))).symm with hb | hb
  · refine Both.same ok (-1) (fun σ hx => ⟨σ, ?_, hx⟩) (fun τ hm => ⟨τ, ?_, hm⟩)
    · show f_X9_oddsFor σ 0 lim l c = _
      unfold f_X9_oddsFor
      rw [x_isAsked hx ok, bd_some, if_neg hb, if_pos rfl]
    · show f_X10_oddsFor τ 139 lim l c = _
      unfold f_X10_oddsFor
      exact asked_bad ok hb hm _ _
  obtain ⟨hl, hc⟩ := id hb
  obtain ⟨L, rfl, -, hL⟩ := vR_of (by decide) hl
  obtain ⟨c, hc', rfl⟩ := vC_of (by omega) hc
  intro σ τ hx hm
  have back : ∀ (τ : bl_St) (y : Nat) (a : Int32), MI τ (wR s 1 y) → ∃ τ1, b_X10_oddsFor_77 τ 139 (nI (tO (sv s))) a = some (a, τ1) ∧ MI τ1 s := by
    intro τ y a hm
    have m2 := m_setR (k := 1) (by decide) hm (rOf (sv s) 1)
    rw [wR0 s (by decide)] at m2
    refine ⟨_, ?_, m2⟩
    unfold b_X10_oddsFor_77
    rw [let_eq, hm.1.1.1.1.1]
    rfl
  have loop : ∀ (r j m q y : Nat) (σ τ : bl_St), j + r = 13 → r < m → r < q → XI σ s → MI τ (wR s 1 y) → ∃ a σ1 τ1, bl_fx (fun _ _ _ _ _ _ => none) (b_X9_oddsFor_15) m σ 0 lim (nI L) (nI c) (nI j) = some (a, σ1) ∧ bl_fx (fun _ _ _ _ _ _ _ _ => none) (b_X10_oddsFor_33) q τ 139 lim (nI L) (nI c) (nI (tO (sv s))) (-2) (nI j) = some (a, τ1) ∧ XI σ1 s ∧ MI τ1 s := by
    intro r
    induction r with
    | zero =>
      intro j m q y σ τ hj hm1 hq1 hx hm
      obtain ⟨m, rfl⟩ : ∃ z, m = z + 1 := ⟨m - 1, by omega⟩
      obtain ⟨q, rfl⟩ : ∃ z, q = z + 1 := ⟨q - 1, by omega⟩
      have hj : j = 13 := by omega
      obtain ⟨τ1, e1, m1⟩ := back τ y (-2) hm
      refine ⟨-2, σ, τ1, ?_, ?_, hx, m1⟩
      · rw [hj, fx_succ]
        show (if (12 : Int32) < nI 13 then _ else _) = _
        rw [if_pos (by decide)]
      · rw [hj, fx_succ]
        show (if (12 : Int32) < nI 13 then _ else _) = _
        rw [if_pos (by decide)]
        exact e1
    | succ r ih =>
      intro j m q y σ τ hj hm1 hq1 hx hm
      obtain ⟨m, rfl⟩ : ∃ z, m = z + 1 := ⟨m - 1, by omega⟩
      obtain ⟨q, rfl⟩ : ∃ z, q = z + 1 := ⟨q - 1, by omega⟩
      have hr : rLo 1 ≤ j ∧ j ≤ rHi 1 := ⟨Nat.zero_le _, by show j ≤ 12; omega⟩
      obtain ⟨σ1, a1, x1⟩ := x_were (k := 1) hx ok (by decide) hr hL hc'
      obtain ⟨τ1, b1, m1⟩ := m_werestep (k := 1) ok (by decide) hm hr hL hc'
      have n12 : ¬ (12 : Int32) < nI j := nI_nlt (a := 12) (b := j) (by omega) (by omega)
      have mstep : b_X10_oddsFor_33 (bl_fx (fun _ _ _ _ _ _ _ _ => none) (b_X10_oddsFor_33) q) τ 139 lim (nI L) (nI c) (nI (tO (sv s))) (-2) (nI j) = (if lN (cB (vRule (sv s) 1 j) L c) < lim then bl_fx (fun _ _ _ _ _ _ _ _ => none) (b_X10_oddsFor_33) q τ1 139 lim (nI L) (nI c) (nI (tO (sv s))) (-2) (nI (j + 1)) else bl_fx (fun _ _ _ _ _ _ _ _ => none) (b_X10_oddsFor_33) q τ1 139 lim (nI L) (nI c) (nI (tO (sv s))) (nI j) (nI (j + 1))) := by
        show (if (12 : Int32) < nI j then _ else _) = _
        rw [if_neg n12, if_pos rfl, let_eq, hm.1.1.1.1.1, show f_X10_bestCost (bl_pI τ 140 3 (nI j)) 139 (nI L) (nI c) = _ from b1, bd_some]
        unfold b_X10_oddsFor_71
        simp only [let_eq, nI_1]
      have xstep : b_X9_oddsFor_15 (bl_fx (fun _ _ _ _ _ _ => none) (b_X9_oddsFor_15) m) σ 0 lim (nI L) (nI c) (nI j) = (if lN (cB (vRule (sv s) 1 j) L c) < lim then bl_fx (fun _ _ _ _ _ _ => none) (b_X9_oddsFor_15) m σ1 0 lim (nI L) (nI c) (nI (j + 1)) else some (nI j, σ1)) := by
        show (if (12 : Int32) < nI j then _ else _) = _
        rw [if_neg n12, show f_X9_costWere σ 0 1 (nI j) (nI L) (nI c) = _ from a1, bd_some]
        simp only [let_eq, nI_1]
      rw [fx_succ, fx_succ, mstep, xstep]
      by_cases hz : lN (cB (vRule (sv s) 1 j) L c) < lim
      · rw [if_pos hz, if_pos hz]
        exact ih (j + 1) m q j σ1 τ1 (by omega) (by omega) (by omega) x1 m1
      · rw [if_neg hz, if_neg hz]
        obtain ⟨τ2, e2, m2⟩ := back τ1 j (nI j) m1
        refine ⟨nI j, σ1, τ2, rfl, ?_, x1, m2⟩
        obtain ⟨q, rfl⟩ : ∃ z, q = z + 1 := ⟨q - 1, by omega⟩
        rw [fx_succ]
        show (if (12 : Int32) < nI (j + 1) then _ else _) = _
        by_cases h12 : (12 : Int32) < nI (j + 1)
        · rw [if_pos h12]; exact e2
        · rw [if_neg h12, if_neg (show ¬ nI j = -2 from fun z => by
            have h : (nI j).toInt = (-2 : Int32).toInt := by rw [z]
            rw [nI_toInt (by omega), show (-2 : Int32).toInt = -2 from rfl] at h
            omega)]
          exact e2
  have hm0 : MI τ (wR s 1 (rOf (sv s) 1)) := by rw [wR0 s (by decide)]; exact hm
  obtain ⟨a, σ1, τ1, i1, i2, i3, i4⟩ := loop 13 0 bl_fu bl_fu _ σ τ (by omega) (by unfold bl_fu; omega) (by unfold bl_fu; omega) hx hm0
  refine ⟨a, s, σ1, τ1, ?_, ?_, i3, i4, ok.up⟩
  · show f_X9_oddsFor σ 0 lim (nI L) (nI c) = _
    unfold f_X9_oddsFor
    rw [x_isAsked hx ok, bd_some, if_pos hb, if_neg (by decide)]
    exact i1
  · show f_X10_oddsFor τ 139 lim (nI L) (nI c) = _
    unfold f_X10_oddsFor
    refine (asked_ok ok hb hm _ _).trans ?_
    have e3 := hm.2.1.2.1.2.1
    simp only [Nat.zero_add] at e3
    rw [let_eq, hm.1.1.1.1.1, e3]
    exact i2
theorem op_bestOwn (ok : SOk s n) (p l c : Int32) : Both n s (fun σ => f_X9_bestOwn σ 0 p l c) (fun τ => f_X10_bestOwn τ 139 p l c) := by
  have h8 := ok.1.n8
  rcases (Classical.em ((vY l ∧ vC c (tN (sv s))) ∧ vR p 0 9999)).symm with hb | hb
  · refine Both.same ok (-1) (fun σ hx => ⟨σ, ?_, hx⟩) (fun τ hm => ⟨τ, ?_, hm⟩)
    · show f_X9_bestOwn σ 0 p l c = _
      unfold f_X9_bestOwn
      rw [x_isAsked hx ok, bd_some]
      by_cases h1 : vY l ∧ vC c (tN (sv s))
      · rw [if_pos h1, if_neg (by decide)]
        by_cases h3 : p < 0
        · rw [if_pos h3]
        · rw [if_neg h3, if_neg (show ¬ p ≤ 9999 from fun z => hb ⟨h1, ⟨by rw [lt0_iff] at h3; omega, by rw [show (9999 : Int32) = nI 9999 from rfl, leN_iff' p (by decide)] at z; exact z⟩⟩)]
      · rw [if_neg h1, if_pos rfl]
    · show f_X10_bestOwn τ 139 p l c = _
      unfold f_X10_bestOwn
      rw [show (0 : Int64) = lN 0 from rfl, show (9999 : Int64) = lN 9999 from rfl, m_inN τ p (by decide) (by decide), bd_some]
      by_cases h1 : vR p 0 9999
      · rw [if_pos h1, if_neg (by decide)]
        exact asked_bad ok (fun z => hb ⟨z, h1⟩) hm _ _
      · rw [if_neg h1, if_pos rfl]
  obtain ⟨hlc, hp⟩ := hb
  obtain ⟨hl, hc⟩ := id hlc
  obtain ⟨L, rfl, -, hL⟩ := vR_of (by decide) hl
  obtain ⟨c, hc', rfl⟩ := vC_of (by omega) hc
  intro σ τ hx hm
  obtain ⟨F, hF⟩ : ∃ F : Nat → Int64, F = fun j => lN (cB (vRule (sv s) 2 j) L c) - Int32.toInt64 p * Int32.toInt64 (nI j) * Int32.toInt64 (nI L) := ⟨_, rfl⟩
  have loop : ∀ (r j m q y b : Nat) (least : Int64) (σ τ : bl_St), j + r = 100 → r < m → r < q → b < 100 → XI σ s → MI τ (wR s 2 y) → ∃ a σ1 τ1, bl_fx (fun _ _ _ _ _ _ _ _ => none) (b_X9_bestOwn_38) m σ 0 p (nI L) (nI c) (nI b) least (nI j) = some (a, σ1) ∧ bl_fx (fun _ _ _ _ _ _ _ _ _ => none) (b_X10_bestOwn_46) q τ 139 p (nI L) (nI c) (nI (tW (sv s))) (nI b) least (nI j) = some (a, τ1) ∧ XI σ1 s ∧ MI τ1 s := by
    intro r
    induction r with
    | zero =>
      intro j m q y b least σ τ hj hm1 hq1 hbb hx hm
      obtain ⟨m, rfl⟩ : ∃ z, m = z + 1 := ⟨m - 1, by omega⟩
      obtain ⟨q, rfl⟩ : ∃ z, q = z + 1 := ⟨q - 1, by omega⟩
      have hj : j = 100 := by omega
      have m2 := m_setR (k := 2) (by decide) hm (rOf (sv s) 2)
      rw [wR0 s (by decide)] at m2
      refine ⟨nI b, σ, _, ?_, ?_, hx, m2⟩
      · rw [hj, fx_succ]
        show (if (bl_RH.getD (Int32.toNatClampNeg 2) 0) < nI 100 then _ else _) = _
        rw [if_pos (by decide)]
      · rw [hj, fx_succ]
        show (if (100 : Int32) ≤ nI 100 then _ else _) = _
        rw [if_pos (by decide), let_eq, hm.1.1.1.1.1]
        rfl
    | succ r ih =>
      intro j m q y b least σ τ hj hm1 hq1 hbb hx hm
      obtain ⟨m, rfl⟩ : ∃ z, m = z + 1 := ⟨m - 1, by omega⟩
      obtain ⟨q, rfl⟩ : ∃ z, q = z + 1 := ⟨q - 1, by omega⟩
      have hr : rLo 2 ≤ j ∧ j ≤ rHi 2 := ⟨Nat.zero_le _, by show j ≤ 99; omega⟩
      obtain ⟨σ1, a1, x1⟩ := x_were (k := 2) hx ok (by decide) hr hL hc'
      obtain ⟨τ1, b1, m1⟩ := m_werestep (k := 2) ok (by decide) hm hr hL hc'
      have nb : ¬ nI b = -1 := fun z => by
        have h : (nI b).toInt = (-1 : Int32).toInt := by rw [z]
        rw [nI_toInt (by omega), show (-1 : Int32).toInt = -1 from rfl] at h
        omega
      have xstep : b_X9_bestOwn_38 (bl_fx (fun _ _ _ _ _ _ _ _ => none) (b_X9_bestOwn_38) m) σ 0 p (nI L) (nI c) (nI b) least (nI j) = (if least ≤ F j then bl_fx (fun _ _ _ _ _ _ _ _ => none) (b_X9_bestOwn_38) m σ1 0 p (nI L) (nI c) (nI b) least (nI (j + 1)) else bl_fx (fun _ _ _ _ _ _ _ _ => none) (b_X9_bestOwn_38) m σ1 0 p (nI L) (nI c) (nI j) (F j) (nI (j + 1))) := by
        show (if (bl_RH.getD (Int32.toNatClampNeg 2) 0) < nI j then _ else _) = _
        rw [show bl_RH.getD (Int32.toNatClampNeg 2) 0 = nI 99 from rfl, if_neg (nI_nlt (a := 99) (b := j) (by omega) (by omega)), show f_X9_costWere σ 0 2 (nI j) (nI L) (nI c) = _ from a1, bd_some, let_eq, show lN (cB (vRule (sv s) 2 j) L c) - Int32.toInt64 p * Int32.toInt64 (nI j) * Int32.toInt64 (nI L) = F j by rw [hF]]
        unfold b_X9_bestOwn_85
        simp only [let_eq, nI_1]
      have mstep : b_X10_bestOwn_46 (bl_fx (fun _ _ _ _ _ _ _ _ _ => none) (b_X10_bestOwn_46) q) τ 139 p (nI L) (nI c) (nI (tW (sv s))) (nI b) least (nI j) = (if F j < least then bl_fx (fun _ _ _ _ _ _ _ _ _ => none) (b_X10_bestOwn_46) q τ1 139 p (nI L) (nI c) (nI (tW (sv s))) (nI j) (F j) (nI (j + 1)) else bl_fx (fun _ _ _ _ _ _ _ _ _ => none) (b_X10_bestOwn_46) q τ1 139 p (nI L) (nI c) (nI (tW (sv s))) (nI b) least (nI (j + 1))) := by
        show (if (100 : Int32) ≤ nI j then _ else _) = _
        rw [if_neg (show ¬ (100 : Int32) ≤ nI j from nI_ge (a := j) (b := 100) (by omega) (by decide)), let_eq, hm.1.1.1.1.1, show f_X10_bestCost (bl_pI τ 140 4 (nI j)) 139 (nI L) (nI c) = _ from b1, bd_some, let_eq, if_neg nb, show lN (cB (vRule (sv s) 2 j) L c) - Int32.toInt64 p * Int32.toInt64 (nI j) * Int32.toInt64 (nI L) = F j by rw [hF]]
        unfold b_X10_bestOwn_96 b_X10_bestOwn_104
        simp only [let_eq, nI_1]
      rw [fx_succ, fx_succ, mstep, xstep]
      by_cases hz : least ≤ F j
      · rw [if_pos hz, if_neg (fun z => by rw [Int64.lt_iff_toInt_lt] at z; rw [Int64.le_iff_toInt_le] at hz; omega)]
        exact ih (j + 1) m q j b least σ1 τ1 (by omega) (by omega) (by omega) hbb x1 m1
      · rw [if_neg hz, if_pos (by rw [Int64.lt_iff_toInt_lt]; rw [Int64.le_iff_toInt_le] at hz; omega)]
        exact ih (j + 1) m q j j (F j) σ1 τ1 (by omega) (by omega) (by omega) (by omega) x1 m1
  have hm0 : MI τ (wR s 2 (rOf (sv s) 2)) := by rw [wR0 s (by decide)]; exact hm
  obtain ⟨σ0, a0, x0⟩ := x_were (k := 2) (y := 0) hx ok (by decide) (by decide) hL hc'
  obtain ⟨τ0, b0, m0⟩ := m_werestep (k := 2) (z := 0) ok (by decide) hm0 (by decide) hL hc'
  obtain ⟨a, σ1, τ1, i1, i2, i3, i4⟩ := loop 99 1 bl_fu 19999 0 0 (lN (cB (vRule (sv s) 2 0) L c)) σ0 τ0 (by omega) (by unfold bl_fu; omega) (by omega) (by decide) x0 m0
  refine ⟨a, s, σ1, τ1, ?_, ?_, i3, i4, ok.up⟩
  · show f_X9_bestOwn σ 0 p (nI L) (nI c) = _
    unfold f_X9_bestOwn
    rw [x_isAsked hx ok, bd_some, if_pos hlc, if_neg (by decide), if_neg (fun z => by rw [lt0_iff] at z; have := hp.1; omega), if_pos (show p ≤ 9999 by rw [show (9999 : Int32) = nI 9999 from rfl, leN_iff' p (by decide)]; exact hp.2), show f_X9_costWere σ 0 2 0 (nI L) (nI c) = _ from a0, bd_some]
    exact i1
  · show f_X10_bestOwn τ 139 p (nI L) (nI c) = _
    unfold f_X10_bestOwn
    rw [show (0 : Int64) = lN 0 from rfl, show (9999 : Int64) = lN 9999 from rfl, m_inN τ p (by decide) (by decide), bd_some, if_pos hp, if_neg (by decide)]
    refine (asked_ok ok hlc hm _ _).trans ?_
    have e3 := hm.2.1.2.1.2.2
    simp only [Nat.zero_add] at e3
    rw [let_eq, hm.1.1.1.1.1, e3, fu_succ, fx_succ]
    show (if (100 : Int32) ≤ 0 then _ else _) = _
    rw [if_neg (by decide), let_eq, hm.1.1.1.1.1, show f_X10_bestCost (bl_pI τ 140 4 0) 139 (nI L) (nI c) = _ from b0, bd_some, let_eq, if_pos rfl]
    unfold b_X10_bestOwn_96 b_X10_bestOwn_104
    have ez : lN (cB (vRule (sv s) 2 0) L c) - Int32.toInt64 p * Int32.toInt64 0 * Int32.toInt64 (nI L) = lN (cB (vRule (sv s) 2 0) L c) := by
      rw [show Int32.toInt64 0 = 0 from rfl, Int64.mul_zero, Int64.zero_mul, Int64.sub_zero]
    rw [ez, let_eq]
    exact i2
end WER
