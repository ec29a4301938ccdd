/-! ===== dearest, rebate, bestLimit ===== -/
def wC (s : st_V) (i y : Nat) : st_V := ((vSetC (sv s) i y, sl s), s.2)
theorem vSetC2 (v : tm_V) (i y z : Nat) : vSetC (vSetC v i y) i z = vSetC v i z := by
  show (v.1, (fun j => if j = i then z else if j = i then y else tC v j), v.2.2) = (v.1, (fun j => if j = i then z else tC v j), v.2.2)
  congr 2
  funext j
  by_cases h : j = i
  · rw [if_pos h, if_pos h]
  · rw [if_neg h, if_neg h, if_neg h]
theorem vSetC0 (v : tm_V) (i : Nat) : vSetC v i (tC v i) = v := by
  show (v.1, (fun j => if j = i then tC v i else tC v j), v.2.2) = (v.1, tC v, v.2.2)
  congr 2
  funext j
  by_cases h : j = i
  · rw [if_pos h, h]
  · rw [if_neg h]
section DEA
variable {s : st_V} {n : Nat} {σ τ : bl_St}
theorem m_setC {i y : Nat} (hi : i < 40) (ok : TOk (vSetC (sv s) i y)) (hm : MI τ (wC s i y)) (z : Nat) : MI (bl_pI τ 140 (5 + i) (nI z)) (wC s i z) := by
  have T := hm.2.1.setC ok hi z
  have e : vSetC (sv (wC s i y)) i z = vSetC (sv s) i z := vSetC2 (sv s) i y z
  rw [e] at T
  exact hm.now ((Mo.rf τ).pI _ _) T (hm.2.2.1.lo (by omega) _)
/-- the second outlook on other terms: whether a guard is bought -/
theorem x_buys2 (hx : XI σ s) {v : tm_V} (hT : TX σ 14 v) (ok : TOk v) (hK : 0 < tK v) {L c : Nat} (hL1 : 1 ≤ L) (hL : L ≤ 20) (hc : c < tN v) : ∃ σ1 σ2 σ3, f_X4_look σ 119 14 1 = some ((), σ1) ∧ XI σ1 s ∧ f_X4_learn σ1 119 (nI (L - 1)) = some ((), σ2) ∧ XI σ2 s ∧ f_X4_buys σ2 119 (nI L) (nI c) = some (nI (cGd v false 0 0 true 1 0 (L - 1) c), σ3) ∧ XI σ3 s ∧ TX σ3 14 v := by
  have h3 := ok.2.2.2.1.2
  obtain ⟨σ1, e1, x1, o1⟩ := x_look2 hx hT (Or.inr rfl) true
  obtain ⟨σ2, e2, k2, o2, c2⟩ := x_learn (Y := L - 1) o1 ok hK (by decide) (by decide) (by decide) (by decide) (by decide) (by omega)
  have x2 : XI σ2 s := x1.tr (k2.kq.mono (fun i hi => by unfold trS; omega)) o2.or (by rw [(k2.kq 14 (by omega)).2.2]; exact x1.r14)
  obtain ⟨σ3, e3, j3, l3⟩ := x_lookAhead (fK := 0) (fT := 0) (gd := 1) (V := cCo v false 0 0 true 1 0 (L - 1)) c2 ok hK (by decide) (by omega) (Nat.zero_le _) (by decide) (by decide) (by decide) hL1 hL hc (fun d hd => o2.row0 ok (by omega) hd) (fun d hd => by have := cCo_le ok hK false 0 0 true 1 0 (by decide) (L - 1) d hd; omega)
  have k3 : Kq (fun i => i = 126) σ2 σ3 := j3.ko.kq
  have x3 : XI σ3 s := x2.tr (k3.mono (fun i hi => by unfold trS; omega)) (by
    have h := x2.1.2.2.2.2.2.1
    unfold OR at *
    rw [show bl_R σ3 = bl_R σ2 from j3.2.1, (k3 125 (by omega)).2.1]
    exact h) (by rw [show bl_R σ3 = bl_R σ2 from j3.2.1]; exact x2.r14)
  have C3 := c2.ko j3.ko (fun i a b c => by omega) (fun i a b c => by omega)
  refine ⟨σ1, σ2, σ3, e1, x1, e2, x2, ?_, x3, C3.2.1⟩
  have q := l3 0 (Nat.le_refl _) (Nat.zero_le _)
  have b : ∀ t g, cAh v false 0 0 (cCo v false 0 0 true 1 0 (L - 1)) c (tH v * 1) t g ≤ 2 ^ 40 := fun t g => by
    have h := cAh_le ok hK false 0 0 (V := cCo v false 0 0 true 1 0 (L - 1)) hc (fun d hd => cCo_le ok hK false 0 0 true 1 0 (by decide) (L - 1) d hd) (tH v * 1) t g
    exact Nat.le_trans h (by omega)
  have q0 : bl_J σ3 (119 + 7) 0 = lN (cAh v false 0 0 (cCo v false 0 0 true 1 0 (L - 1)) c (tH v * 1) 0 0) := q.1 0 ⟨Nat.le_refl _, by decide, by decide⟩
  have q1 : bl_J σ3 (119 + 7) 1 = lN (cAh v false 0 0 (cCo v false 0 0 true 1 0 (L - 1)) c (tH v * 1) 0 1) := q.2 rfl
  unfold f_X4_buys
  rw [show f_X4_lookAhead σ2 119 (nI L) (nI c) 0 0 1 = _ from e3, bd_some, x_guardPays C3.1.1 C3.1.2.2.2 C3.2.1 ok hc q0 q1 (b 0 0) (b 0 1), bd_some, gd_of bo_if]
  unfold cGd
  simp only [true_and]
  by_cases h : tC v (5 * c + 4) * 1000 + cAh v false 0 0 (cCo v false 0 0 true 1 0 (L - 1)) c (tH v * 1) 0 1 < cAh v false 0 0 (cCo v false 0 0 true 1 0 (L - 1)) c (tH v * 1) 0 0
  · rw [if_pos h, if_pos h]; rfl
  · rw [if_neg h, if_neg h]; rfl
theorem op_dearest (ok : SOk s n) (l c : Int32) : Both n s (fun σ => f_X9_dearest σ 0 l c) (fun τ => f_X10_dearest τ 139 l c) := by
  have h8 := ok.1.n8
  rcases (Classical.em (vR l 1 20 ∧ vC c (tN (sv s)))).symm with hb | hb
  · refine Both.same ok (-1) (fun σ hx => ⟨σ, ?_, hx⟩) (fun τ hm => ⟨τ, ?_, hm⟩)
    · show f_X9_dearest σ 0 l c = _
      unfold f_X9_dearest
      rw [x_isAsked hx ok, bd_some]
      by_cases h1 : vY l ∧ vC c (tN (sv s))
      · rw [if_pos h1, if_neg (by decide), if_pos (show l = 0 by
          refine (eqN_iff l (n := 0) (by decide)).mpr ?_
          apply Classical.byContradiction
          intro z
          exact hb ⟨⟨by have := h1.1.1; omega, h1.1.2⟩, h1.2⟩)]
      · rw [if_neg h1, if_pos rfl]
    · show f_X10_dearest τ 139 l c = _
      unfold f_X10_dearest
      rw [show (1 : Int64) = lN 1 from rfl, show (20 : Int64) = lN 20 from rfl, m_inN τ l (by decide) (by decide), bd_some]
      by_cases h1 : vR l 1 20
      · rw [if_pos h1, if_neg (by decide), m_isClass hm.1.1.1.1.1 hm.2.1 ok.1, bd_some, if_neg (show ¬ vC c (tN (sv s)) from fun z => hb ⟨h1, z⟩), if_pos rfl]
      · rw [if_neg h1, if_pos rfl]
  obtain ⟨hl, hc⟩ := hb
  obtain ⟨L, rfl, hL1, hL⟩ := vR_of (by decide) hl
  obtain ⟨c, hc', rfl⟩ := vC_of (by omega) hc
  intro σ τ hx hm
  have hK := ok.hK (show 0 < tN (sv s) by omega)
  have okf : ∀ f, f ≤ 99 → TOk (vSetC (sv s) (5 * c + 4) f) := fun f hf => tOk_setC ok.1 hc' (by decide) (by show f ≤ 99; exact hf)
  have ok0 : tC (sv s) (5 * c + 4) ≤ 99 := (ok.1.2.1 c hc').2.2
  have back : ∀ (τ : bl_St) (y : Nat) (a : Int32), y ≤ 99 → MI τ (wC s (5 * c + 4) y) → ∃ τ1, b_X10_dearest_93 τ 139 (nI (5 + (5 * c + 4))) (nI (tC (sv s) (5 * c + 4))) a = some (a, τ1) ∧ MI τ1 s := by
    intro τ y a hy hm
    have m2 := m_setC (by omega) (okf y hy) hm (tC (sv s) (5 * c + 4))
    have e : wC s (5 * c + 4) (tC (sv s) (5 * c + 4)) = s := by
      show ((vSetC (sv s) (5 * c + 4) (tC (sv s) (5 * c + 4)), sl s), s.2) = s
      rw [vSetC0]
    rw [e] at m2
    refine ⟨_, ?_, m2⟩
    unfold b_X10_dearest_93
    rw [in_nI (by omega) (by decide), gd_true, let_eq, hm.1.1.1.1.1, nI_clamp (by omega)]
  have loop : ∀ (r m q y w : Nat) (x : Int32) (σ τ : bl_St), nI r = x + 1 → r ≤ 100 → r < m → r < q → y ≤ 99 → w ≤ 99 → XI σ s → TX σ 14 (vSetC (sv s) (5 * c + 4) w) → MI τ (wC s (5 * c + 4) y) → ∃ a σ1 τ1, bl_fx (fun _ _ _ _ _ => none) (b_X9_dearest_32) m σ 0 (nI L) (nI c) x = some (a, σ1) ∧ bl_fx (fun _ _ _ _ _ _ _ _ => none) (b_X10_dearest_46) q τ 139 (nI L) (nI c) (nI (5 + (5 * c + 4))) (nI (tC (sv s) (5 * c + 4))) (-2) x = some (a, τ1) ∧ XI σ1 s ∧ MI τ1 s := by
    intro r
    induction r with
    | zero =>
      intro m q y w x σ τ hxr hr hm1 hq1 hy hw hx hT hm
      obtain ⟨m, rfl⟩ : ∃ z, m = z + 1 := ⟨m - 1, by omega⟩
      obtain ⟨q, rfl⟩ : ∃ z, q = z + 1 := ⟨q - 1, by omega⟩
      have hxe : x = -1 := by
        have : x + 1 + (-1) = nI 0 + (-1) := by rw [hxr]
        rw [Int32.add_assoc, show nI 0 + (-1) = (-1 : Int32) by decide] at this
        simpa using this
      obtain ⟨τ1, e1, m1⟩ := back τ y (-2) hy hm
      refine ⟨-2, σ, τ1, ?_, ?_, hx, m1⟩
      · rw [hxe, fx_succ]
        show (if (-1 : Int32) < 0 then _ else _) = _
        rw [if_pos (by decide)]
      · rw [hxe, fx_succ]
        show (if (-1 : Int32) < 0 then _ else _) = _
        rw [if_pos (by decide)]
        exact e1
    | succ r ih =>
      intro m q y w x σ τ hxr hr hm1 hq1 hy hw hx hT hm
      obtain ⟨m, rfl⟩ : ∃ z, m = z + 1 := ⟨m - 1, by omega⟩
      obtain ⟨q, rfl⟩ : ∃ z, q = z + 1 := ⟨q - 1, by omega⟩
      have hxe : x = nI r := by
        have : x + 1 + (-1) = nI (r + 1) + (-1) := by rw [hxr]
        rw [nI_m1, Int32.add_assoc] at this
        simpa using this
      have okr := okf r (by omega)
      have xa : XI (bl_pI σ 15 (5 * c + 4) (nI r)) s := hx.tr ((Kq.rf trS σ).pI (by unfold trS; omega) _ _) hx.1.2.2.2.2.2.1 hx.r14
      have ta : TX (bl_pI σ 15 (5 * c + 4) (nI r)) 14 (vSetC (sv s) (5 * c + 4) r) := by
        have := hT.setC (5 * c + 4) r
        rw [vSetC2] at this
        exact this
      obtain ⟨σ1, σ2, σ3, a1, x1, a2, x2, a3, x3, t3⟩ := x_buys2 (L := L) (c := c) xa ta okr (show 0 < tK (sv s) from hK) hL1 hL (show c < tN (sv s) from hc')
      have mb := m_setC (by omega) (okf y hy) hm r
      obtain ⟨τ1, b1, m1, k1, c1, f1⟩ := m_laysT (rl := 0) (lm := 0) (Y := L) mb okr (show 0 < tK (sv s) from hK) true hL (by decide) (by decide)
      have g1 := (f1 L (Nat.le_refl _) c (show c < tN (sv s) from hc')).2 hL1
      have g2 := cGd_lt (vSetC (sv s) (5 * c + 4) r) false 0 0 true 1 0 (L - 1) c
      have n0 : ¬ nI r < 0 := nI_pos (by omega)
      have xstep : b_X9_dearest_32 (bl_fx (fun _ _ _ _ _ => none) (b_X9_dearest_32) m) σ 0 (nI L) (nI c) (nI r) = (if nI (cGd (vSetC (sv s) (5 * c + 4) r) false 0 0 true 1 0 (L - 1) c) = 0 then bl_fx (fun _ _ _ _ _ => none) (b_X9_dearest_32) m σ3 0 (nI L) (nI c) (nI r + (-1)) else some (nI r, σ3)) := by
        show (if nI r < 0 then _ else _) = _
        unfold f_X8_setPart
        rw [if_neg n0, show (5 : Int32) = nI 5 from rfl, nI_mul, show (4 : Int32) = nI 4 from rfl, nI_add, in_nI (by omega) (by decide), gd_true, let_eq, bd_some, hx.1.1.1.2.2.2.1, hT.1.1, nI_clamp (by omega), show c * 5 + 4 = 5 * c + 4 by omega, show (14 + 1 : Nat) = 15 from rfl, xa.1.1.2.2.1, xa.1.1.1.2.2.2.1, a1, bd_some, x1.1.1.2.2.1, show (1 : Int32) = nI 1 from rfl, nI_sub hL1, a2, bd_some, x2.1.1.2.2.1, a3, bd_some, let_eq]
      have mstep : b_X10_dearest_46 (bl_fx (fun _ _ _ _ _ _ _ _ => none) (b_X10_dearest_46) q) τ 139 (nI L) (nI c) (nI (5 + (5 * c + 4))) (nI (tC (sv s) (5 * c + 4))) (-2) (nI r) = (if nI (cGd (vSetC (sv s) (5 * c + 4) r) false 0 0 true 1 0 (L - 1) c) = 0 then bl_fx (fun _ _ _ _ _ _ _ _ => none) (b_X10_dearest_46) q τ1 139 (nI L) (nI c) (nI (5 + (5 * c + 4))) (nI (tC (sv s) (5 * c + 4))) (-2) (nI r + (-1)) else bl_fx (fun _ _ _ _ _ _ _ _ => none) (b_X10_dearest_46) q τ1 139 (nI L) (nI c) (nI (5 + (5 * c + 4))) (nI (tC (sv s) (5 * c + 4))) (nI r) (nI r + (-1))) := by
        show (if nI r < 0 then _ else _) = _
        rw [if_neg n0, if_pos rfl, in_nI (by omega) (by decide), gd_true, let_eq, hm.1.1.1.1.1, nI_clamp (by omega), show f_X10_lays (bl_pI τ 140 (5 + (5 * c + 4)) (nI r)) 139 (nI L) 1 0 0 = _ from b1, bd_some, m_isGuarded m1 hL (by omega) g2 g1, bd_some]
        unfold b_X10_dearest_87
        simp only [let_eq]
      rw [hxe, fx_succ, fx_succ, mstep, xstep]
      by_cases hz : nI (cGd (vSetC (sv s) (5 * c + 4) r) false 0 0 true 1 0 (L - 1) c) = 0
      · rw [if_pos hz, if_pos hz]
        exact ih m q r r (nI r + (-1)) σ3 τ1 (by rw [Int32.add_assoc]; simp) (by omega) (by omega) (by omega) (by omega) (by omega) x3 t3 m1
      · rw [if_neg hz, if_neg hz]
        obtain ⟨τ2, e2, m2⟩ := back τ1 r (nI r) (by omega) m1
        refine ⟨nI r, σ3, τ2, rfl, ?_, x3, m2⟩
        obtain ⟨q, rfl⟩ : ∃ z, q = z + 1 := ⟨q - 1, by omega⟩
        rw [fx_succ]
        show (if nI r + (-1) < 0 then _ else _) = _
        by_cases h12 : nI r + (-1) < 0
        · rw [if_pos h12]; exact e2
        · rw [if_neg h12, if_neg (show ¬ nI r = -2 from fun z => by
            have h : (nI r).toInt = (-2 : Int32).toInt := by rw [z]
            rw [nI_toInt (by omega), show (-2 : Int32).toInt = -2 from rfl] at h
            omega)]
          exact e2
  obtain ⟨σa, ea, xa, ta⟩ := x_other hx ok
  have hm0 : MI τ (wC s (5 * c + 4) (tC (sv s) (5 * c + 4))) := by
    have e : wC s (5 * c + 4) (tC (sv s) (5 * c + 4)) = s := by
      show ((vSetC (sv s) (5 * c + 4) (tC (sv s) (5 * c + 4)), sl s), s.2) = s
      rw [vSetC0]
    rw [e]; exact hm
  obtain ⟨a, σ1, τ1, i1, i2, i3, i4⟩ := loop 100 bl_fu bl_fu (tC (sv s) (5 * c + 4)) (tC (sv s) (5 * c + 4)) (nI 99) σa τ (by decide) (by omega) (by unfold bl_fu; omega) (by unfold bl_fu; omega) ok0 ok0 xa (by rw [vSetC0]; exact ta) hm0
  refine ⟨a, s, σ1, τ1, ?_, ?_, i3, i4, ok.up⟩
  · show f_X9_dearest σ 0 (nI L) (nI c) = _
    unfold f_X9_dearest
    rw [x_isAsked hx ok, bd_some, if_pos (show vY (nI L) ∧ vC (nI c) (tN (sv s)) from ⟨⟨by have := hl.1; omega, hl.2⟩, hc⟩), if_neg (by decide), if_neg (nI_ne0 hL1 (by omega)), hx.1.1.1.2.2.2.1, hx.1.1.1.2.2.1, ea, bd_some, let_eq]
    exact i1
  · show f_X10_dearest τ 139 (nI L) (nI c) = _
    unfold f_X10_dearest
    have e0 := hm.2.1.2.2.1 (5 * c + 4) (by omega)
    rw [Nat.zero_add] at e0
    rw [show (1 : Int64) = lN 1 from rfl, show (20 : Int64) = lN 20 from rfl, m_inN τ (nI L) (by decide) (by decide), bd_some, if_pos hl, if_neg (by decide), m_isClass hm.1.1.1.1.1 hm.2.1 ok.1, bd_some, if_pos hc, if_neg (by decide), let_eq, show (5 : Int32) = nI 5 from rfl, nI_mul, nI_add, show (4 : Int32) = nI 4 from rfl, nI_add, Nat.add_assoc, in_nI (by omega) (by decide), gd_true, let_eq, hm.1.1.1.1.1, nI_clamp (by omega), e0]
    exact i2
/-! a greater rebate never costs more -/
theorem cL_mono (v : tm_V) (s : Nat) {a b a' b' : Nat} (h1 : a ≤ a') (h2 : b ≤ b') : cL v 0 0 s a b ≤ cL v 0 0 s a' b' := by
  show min (tP v s * 1000 + b) (tS v (2 * s) * 1000 + a) ≤ min (tP v s * 1000 + b') (tS v (2 * s) * 1000 + a')
  omega
theorem cSum_mono (v : tm_V) {a b a' b' : Nat} (h1 : a ≤ a') (h2 : b ≤ b') : ∀ k, cSum v 0 0 a b k ≤ cSum v 0 0 a' b' k
  | 0 => Nat.le_refl _
  | k + 1 => Nat.add_le_add (cSum_mono v h1 h2 k) (Nat.mul_le_mul_left _ (cL_mono v k h1 h2))
theorem cCh_mono (v : tm_V) {a b a' b' : Nat} (h1 : a ≤ a') (h2 : b ≤ b') : cCh v false 0 0 a b ≤ cCh v false 0 0 a' b' := by
  unfold cCh
  rw [if_neg (by decide), if_neg (by decide)]
  exact Nat.div_le_div_right (Nat.add_le_add (Nat.mul_le_mul_left _ h1) (Nat.mul_le_mul_left _ (cSum_mono v h1 h2 _)))
theorem cAh_mono {v : tm_V} (ok : TOk v) {V V' : Nat → Nat} {c : Nat} (hc : c < tN v) (h : ∀ d, d < tN v → V d ≤ V' d) : ∀ r t g, cAh v false 0 0 V c r t g ≤ cAh v false 0 0 V' c r t g
  | 0, t, g => h _ (tB_lt ok t hc)
  | r + 1, t, g => cCh_mono v (cAh_mono ok hc h r t g) (cAh_mono ok hc h r _ 0)
theorem cCo_anti {v : tm_V} (ok : TOk v) {h h' : Nat} (hh : h ≤ h') : ∀ L c, c < tN v → cCo v false 0 0 false 2 h' L c ≤ cCo v false 0 0 false 2 h L c
  | 0, _, _ => Nat.le_refl _
  | L + 1, c, hc => by
    simp only [cCo]
    rw [if_neg (by simp), if_neg (by simp)]
    have h1 := cAh_mono ok hc (V := cCo v false 0 0 false 2 h' L) (V' := cCo v false 0 0 false 2 h L) (fun d hd => cCo_anti ok hh L d hd) (tH v * 2) 0 0
    have h2 : cPr v 2 h' c ≤ cPr v 2 h c := by
      unfold cPr
      have := Nat.div_le_div_right (c := 100) (Nat.mul_le_mul_left (2 * tC v (5 * c) * 1000) hh)
      omega
    omega
theorem op_rebate (ok : SOk s n) (l a b : Int32) : Both n s (fun σ => f_X9_rebate σ 0 l a b) (fun τ => f_X10_rebate τ 139 l a b) := by
  have h8 := ok.1.n8
  rcases (Classical.em ((vY l ∧ vC a (tN (sv s))) ∧ vC b (tN (sv s)))).symm with hb | hb
  · refine Both.same ok (-1) (fun σ hx => ⟨σ, ?_, hx⟩) (fun τ hm => ⟨τ, ?_, hm⟩)
    · show f_X9_rebate σ 0 l a b = _
      unfold f_X9_rebate
      rw [x_isAsked hx ok, bd_some]
      by_cases h1 : vY l ∧ vC a (tN (sv s))
      · rw [if_pos h1, if_neg (by decide), hx.1.1.1.2.2.1, x_hasClass hx.2.1 ok.1, bd_some, if_neg (show ¬ vC b (tN (sv s)) from fun z => hb ⟨h1, z⟩), if_pos rfl]
      · rw [if_neg h1, if_pos rfl]
    · show f_X10_rebate τ 139 l a b = _
      unfold f_X10_rebate
      by_cases h1 : vY l ∧ vC a (tN (sv s))
      · refine (asked_ok ok h1 hm _ _).trans ?_
        rw [m_isClass hm.1.1.1.1.1 hm.2.1 ok.1, bd_some, if_neg (show ¬ vC b (tN (sv s)) from fun z => hb ⟨h1, z⟩), if_pos rfl]
      · exact asked_bad ok h1 hm _ _
  obtain ⟨hla, hbb⟩ := hb
  obtain ⟨hl, ha⟩ := id hla
  obtain ⟨L, rfl, -, hL⟩ := vR_of (by decide) hl
  obtain ⟨a, ha', rfl⟩ := vC_of (by omega) ha
  obtain ⟨b, hb', rfl⟩ := vC_of (by omega) hbb
  have hK := ok.hK (show 0 < tN (sv s) by omega)
  obtain ⟨j, hj⟩ : ∃ j, j = (if tC (sv s) (5 * b) ≤ tC (sv s) (5 * a) then a else b) := ⟨_, rfl⟩
  have hjN : j < tN (sv s) := by rw [hj]; split <;> omega
  obtain ⟨F, hF⟩ : ∃ F : Nat → Nat, F = fun r => cCo (sv s) false 0 0 false 2 r L j := ⟨_, rfl⟩
  have hFb : ∀ r, F r ≤ 8100000 * L := fun r => by rw [hF]; exact cCo_le ok.1 hK false 0 0 false 2 r (by decide) L j hjN
  have hFa : ∀ r r', r ≤ r' → F r' ≤ F r := fun r r' h => by rw [hF]; exact cCo_anti ok.1 h L j hjN
  obtain ⟨A, hA⟩ : ∃ A, A = cCo (sv s) false 0 0 false 1 0 L a + cCo (sv s) false 0 0 false 1 0 L b := ⟨_, rfl⟩
  have hAb : A ≤ 16200000 * L := by
    have h1 := cCo_le ok.1 hK false 0 0 false 1 0 (by decide) L a ha'
    have h2 := cCo_le ok.1 hK false 0 0 false 1 0 (by decide) L b hb'
    rw [hA]
    omega
  have lnA : ∀ r, (lN A ≤ lN (F r)) ↔ A ≤ F r := fun r => lN_leI (by omega) (by have := hFb r; omega)
  -- the first rebate that is enough, if one of 0..50 is
  have mloop : ∀ (g : Nat), g ≤ 50 → F g < A → (∀ r, r < g → A ≤ F r) → ∀ (r k m : Nat) (τ : bl_St), k + r = g → r < m → MI τ s → ∃ τ1, bl_fx (fun _ _ _ _ _ _ _ => none) (b_X10_rebate_43) m τ 139 (nI L) (nI a) (nI b) (lN A) (nI k) = some (nI g, τ1) ∧ MI τ1 s := by
    intro g hg hgA hmin r
    induction r with
    | zero =>
      intro k m τ hk hm1 hm
      obtain ⟨m, rfl⟩ : ∃ z, m = z + 1 := ⟨m - 1, by omega⟩
      have hk : k = g := by omega
      obtain ⟨τ1, e1, m1⟩ := m_joined (hu := k) hm ok (by omega) hL ha' hb'
      rw [← hj] at e1
      refine ⟨τ1, ?_, m1⟩
      rw [fx_succ]
      show (if (50 : Int32) < nI k then _ else _) = _
      rw [if_neg (show ¬ (50 : Int32) < nI k from nI_nlt (a := 50) (b := k) (by omega) (by omega)), e1, bd_some, show cCo (sv s) false 0 0 false 2 k L j = F k by rw [hF], if_neg (fun z => by have := (lnA k).mp z; rw [hk] at this; omega), hk]
    | succ r ih =>
      intro k m τ hk hm1 hm
      obtain ⟨m, rfl⟩ : ∃ z, m = z + 1 := ⟨m - 1, by omega⟩
      obtain ⟨τ1, e1, m1⟩ := m_joined (hu := k) hm ok (by omega) hL ha' hb'
      rw [← hj] at e1
      obtain ⟨τ2, e2, m2⟩ := ih (k + 1) m τ1 (by omega) (by omega) m1
      refine ⟨τ2, ?_, m2⟩
      rw [fx_succ]
      show (if (50 : Int32) < nI k then _ else _) = _
      rw [if_neg (show ¬ (50 : Int32) < nI k from nI_nlt (a := 50) (b := k) (by omega) (by omega)), e1, bd_some, show cCo (sv s) false 0 0 false 2 k L j = F k by rw [hF], if_pos ((lnA k).mpr (hmin k (by omega))), let_eq, nI_1]
      exact e2
  have xpre : ∀ σ, XI σ s → ∃ σ1, f_X9_rebate σ 0 (nI L) (nI a) (nI b) = (if lN (F 50) < lN A then bl_fx (fun _ _ _ _ _ _ _ _ => none) (b_X9_rebate_73) bl_fu σ1 0 (nI L) (lN A) (nI j) (nI 0) (nI 50) (nI 0) else some (-2, σ1)) ∧ XI σ1 s := by
    intro σ hx
    obtain ⟨σa, ea, xa⟩ := x_bare hx ok hL ha'
    obtain ⟨σb, eb, xb⟩ := x_bare xa ok hL hb'
    obtain ⟨σc, ec, xc⟩ := x_joined (hu := 50) xb ok (by decide) hL hjN
    refine ⟨σc, ?_, xc⟩
    unfold f_X9_rebate
    rw [x_isAsked hx ok, bd_some, if_pos hla, if_neg (by decide), hx.1.1.1.2.2.1, x_hasClass hx.2.1 ok.1, bd_some, if_pos hbb, if_neg (by decide), ea, bd_some, eb, bd_some, let_eq, lN_add, ← hA, x_joinedClass xb ok ha' hb', bd_some, ← hj, show f_X9_joinedCost σb 0 (nI L) (nI j) 50 = _ from ec, bd_some, show cCo (sv s) false 0 0 false 2 50 L j = F 50 by rw [hF]]
    rfl
  have mpre : ∀ τ, MI τ s → ∃ τ1, f_X10_rebate τ 139 (nI L) (nI a) (nI b) = bl_fx (fun _ _ _ _ _ _ _ => none) (b_X10_rebate_43) bl_fu τ1 139 (nI L) (nI a) (nI b) (lN A) (nI 0) ∧ MI τ1 s := by
    intro τ hm
    obtain ⟨τa, ea, ma⟩ := m_bareCost hm ok hL ha'
    obtain ⟨τb, eb, mb⟩ := m_bareCost ma ok hL hb'
    refine ⟨τb, ?_, mb⟩
    unfold f_X10_rebate
    refine (asked_ok ok hla hm _ _).trans ?_
    rw [m_isClass hm.1.1.1.1.1 hm.2.1 ok.1, bd_some, if_pos hbb, if_neg (by decide), ea, bd_some, eb, bd_some, let_eq, lN_add, ← hA]
    rfl
  by_cases h50 : F 50 < A
  · obtain ⟨g, hg, hgA, hmin⟩ : ∃ g, g ≤ 50 ∧ F g < A ∧ ∀ r, r < g → A ≤ F r := by
      have : ∀ k, k ≤ 50 → F k < A → ∃ g, g ≤ 50 ∧ F g < A ∧ ∀ r, r < g → A ≤ F r := by
        intro k
        induction k using Nat.strongRecOn with
        | ind k ih =>
          intro hk hkA
          by_cases h : ∃ r, r < k ∧ F r < A
          · obtain ⟨r, h1, h2⟩ := h
            exact ih r h1 (by omega) h2
          · refine ⟨k, hk, hkA, fun r hr => ?_⟩
            rcases Nat.lt_or_ge (F r) A with z | z
            · exact absurd ⟨r, hr, z⟩ h
            · exact z
      exact this 50 (Nat.le_refl _) h50
    refine Both.same ok (nI g) (fun σ hx => ?_) (fun τ hm => ?_)
    · obtain ⟨σ1, e1, x1⟩ := xpre σ hx
      have loop : ∀ (r k lo hi m : Nat) (σ : bl_St), k + r = 50 → lo ≤ g → g ≤ hi → hi - lo ≤ r → hi ≤ 50 → r < m → XI σ s → ∃ σ1, bl_fx (fun _ _ _ _ _ _ _ _ => none) (b_X9_rebate_73) m σ 0 (nI L) (lN A) (nI j) (nI lo) (nI hi) (nI k) = some (nI g, σ1) ∧ XI σ1 s := by
        intro r
        induction r with
        | zero =>
          intro k lo hi m σ hk hlo hhi hd h50' hm hx
          obtain ⟨m, rfl⟩ : ∃ z, m = z + 1 := ⟨m - 1, by omega⟩
          refine ⟨σ, ?_, hx⟩
          rw [fx_succ]
          show (if (50 : Int32) ≤ nI k then _ else _) = _
          rw [if_pos (show (50 : Int32) ≤ nI k from nI_le (a := 50) (by omega) (by omega)), show lo = g by omega]
        | succ r ih =>
          intro k lo hi m σ hk hlo hhi hd h50' hm hx
          obtain ⟨m, rfl⟩ : ∃ z, m = z + 1 := ⟨m - 1, by omega⟩
          rw [fx_succ]
          have n50 : ¬ (50 : Int32) ≤ nI k := nI_ge (a := k) (b := 50) (by omega) (by decide)
          by_cases hlh : hi ≤ lo
          · refine ⟨σ, ?_, hx⟩
            show (if (50 : Int32) ≤ nI k then _ else _) = _
            rw [if_neg n50, if_pos (nI_le hlh (by omega)), show lo = g by omega]
          · obtain ⟨mid, hmid⟩ : ∃ mid, mid = (lo + hi) / 2 := ⟨_, rfl⟩
            have hm1 : lo ≤ mid ∧ mid < hi := by omega
            obtain ⟨σ1, e1, x1⟩ := x_joined (hu := mid) hx ok (by omega) hL hjN
            have step : b_X9_rebate_73 (bl_fx (fun _ _ _ _ _ _ _ _ => none) (b_X9_rebate_73) m) σ 0 (nI L) (lN A) (nI j) (nI lo) (nI hi) (nI k) = (if lN A ≤ lN (F mid) then bl_fx (fun _ _ _ _ _ _ _ _ => none) (b_X9_rebate_73) m σ1 0 (nI L) (lN A) (nI j) (nI (mid + 1)) (nI hi) (nI (k + 1)) else bl_fx (fun _ _ _ _ _ _ _ _ => none) (b_X9_rebate_73) m σ1 0 (nI L) (lN A) (nI j) (nI lo) (nI mid) (nI (k + 1))) := by
              show (if (50 : Int32) ≤ nI k then _ else _) = _
              rw [if_neg n50, if_neg (nI_ge (by omega) (by omega)), nI_add, show (2 : Int32) = nI 2 from rfl, nI_div (by omega) (by decide), ← hmid, let_eq, e1, bd_some, show cCo (sv s) false 0 0 false 2 mid L j = F mid by rw [hF]]
              unfold b_X9_rebate_124
              simp only [let_eq, nI_1]
            rw [step]
            by_cases hz : A ≤ F mid
            · rw [if_pos ((lnA mid).mpr hz)]
              have : mid < g := by
                rcases Nat.lt_or_ge mid g with z | z
                · exact z
                · have := hFa g mid z; omega
              exact ih (k + 1) (mid + 1) hi m σ1 (by omega) (by omega) hhi (by omega) h50' (by omega) x1
            · rw [if_neg (fun z => hz ((lnA mid).mp z))]
              have : g ≤ mid := by
                rcases Nat.lt_or_ge mid g with z | z
                · exact absurd (hmin mid z) hz
                · exact z
              exact ih (k + 1) lo mid m σ1 (by omega) hlo this (by omega) (by omega) (by omega) x1
      obtain ⟨σ2, e2, x2⟩ := loop 50 0 0 50 bl_fu σ1 (by omega) (by omega) hg (by omega) (by omega) (by unfold bl_fu; omega) x1
      refine ⟨σ2, ?_, x2⟩
      show f_X9_rebate σ 0 (nI L) (nI a) (nI b) = _
      rw [e1, if_pos ((lN_ltI (by have := hFb 50; omega) (by omega)).mpr h50)]
      exact e2
    · obtain ⟨τ1, e1, m1⟩ := mpre τ hm
      obtain ⟨τ2, e2, m2⟩ := mloop g hg hgA hmin g 0 bl_fu τ1 (by omega) (by unfold bl_fu; omega) m1
      refine ⟨τ2, ?_, m2⟩
      show f_X10_rebate τ 139 (nI L) (nI a) (nI b) = _
      rw [e1]
      exact e2
  · refine Both.same ok (-2) (fun σ hx => ?_) (fun τ hm => ?_)
    · obtain ⟨σ1, e1, x1⟩ := xpre σ hx
      refine ⟨σ1, ?_, x1⟩
      show f_X9_rebate σ 0 (nI L) (nI a) (nI b) = _
      rw [e1, if_neg (fun z => h50 ((lN_ltI (by have := hFb 50; omega) (by omega)).mp z))]
    · obtain ⟨τ1, e1, m1⟩ := mpre τ hm
      have loop : ∀ (r k m : Nat) (τ : bl_St), k + r = 51 → r < m → MI τ s → ∃ τ1, bl_fx (fun _ _ _ _ _ _ _ => none) (b_X10_rebate_43) m τ 139 (nI L) (nI a) (nI b) (lN A) (nI k) = some (-2, τ1) ∧ MI τ1 s := by
        intro r
        induction r with
        | zero =>
          intro k m τ hk hm1 hm
          obtain ⟨m, rfl⟩ : ∃ z, m = z + 1 := ⟨m - 1, by omega⟩
          refine ⟨τ, ?_, hm⟩
          rw [fx_succ]
          show (if (50 : Int32) < nI k then _ else _) = _
          rw [if_pos (show (50 : Int32) < nI k from nI_lt (a := 50) (by omega) (by omega))]
        | succ r ih =>
          intro k m τ hk hm1 hm
          obtain ⟨m, rfl⟩ : ∃ z, m = z + 1 := ⟨m - 1, by omega⟩
          obtain ⟨τ1, e1, m1⟩ := m_joined (hu := k) hm ok (by omega) hL ha' hb'
          rw [← hj] at e1
          obtain ⟨τ2, e2, m2⟩ := ih (k + 1) m τ1 (by omega) (by omega) m1
          refine ⟨τ2, ?_, m2⟩
          rw [fx_succ]
          show (if (50 : Int32) < nI k then _ else _) = _
          rw [if_neg (show ¬ (50 : Int32) < nI k from nI_nlt (a := 50) (b := k) (by omega) (by omega)), e1, bd_some, show cCo (sv s) false 0 0 false 2 k L j = F k by rw [hF], if_pos ((lnA k).mpr (by have := hFa k 50 (by omega); omega)), let_eq, nI_1]
          exact e2
      obtain ⟨τ2, e2, m2⟩ := loop 51 0 bl_fu τ1 (by omega) (by unfold bl_fu; omega) m1
      refine ⟨τ2, ?_, m2⟩
      show f_X10_rebate τ 139 (nI L) (nI a) (nI b) = _
      rw [e1]
      exact e2
end DEA
