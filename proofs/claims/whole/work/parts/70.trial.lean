/-! ===== trials: the class's second outlook; the reference's other wishes ===== -/
section TRI
variable {s : st_V} {n : Nat} {σ σ1 : bl_St} {o t : Nat} {v : tm_V} {rl lm : Nat} {w gd : Bool} {cars hu : Nat}
theorem OX.s2 (h : OX σ o t v rl lm w gd cars hu 0) (hsep : t + 3 < o ∨ o + 7 < t) (x : Nat) : OX (bl_pI σ o 2 (nI x)) o t v x lm w gd cars hu 0 := by
  have k : Kq (fun i => i = o) σ (bl_pI σ o 2 (nI x)) := (Kq.rf (fun i => i = o) σ).pI rfl _ _
  obtain ⟨q1, q2, ⟨f1, f2, f3, f4, f5, f6, f7⟩, q4, q5, -⟩ := h
  exact ⟨q1, q2.kq k (fun i a b c => by omega), ⟨by rw [I_pI_ne (by decide)]; exact f1, I_pI_self _ _ _ _, by rw [I_pI_ne (by decide)]; exact f3, by rw [I_pI_ne (by decide)]; exact f4, by rw [I_pI_ne (by decide)]; exact f5, by rw [I_pI_ne (by decide)]; exact f6, by rw [I_pI_ne (by decide)]; exact f7⟩, q4, q5, fun z => absurd z (by decide)⟩
theorem OX.s3 (h : OX σ o t v rl lm w gd cars hu 0) (hsep : t + 3 < o ∨ o + 7 < t) (x : Nat) : OX (bl_pI σ o 3 (nI x)) o t v rl x w gd cars hu 0 := by
  have k : Kq (fun i => i = o) σ (bl_pI σ o 3 (nI x)) := (Kq.rf (fun i => i = o) σ).pI rfl _ _
  obtain ⟨q1, q2, ⟨f1, f2, f3, f4, f5, f6, f7⟩, q4, q5, -⟩ := h
  exact ⟨q1, q2.kq k (fun i a b c => by omega), ⟨by rw [I_pI_ne (by decide)]; exact f1, by rw [I_pI_ne (by decide)]; exact f2, I_pI_self _ _ _ _, by rw [I_pI_ne (by decide)]; exact f4, by rw [I_pI_ne (by decide)]; exact f5, by rw [I_pI_ne (by decide)]; exact f6, by rw [I_pI_ne (by decide)]; exact f7⟩, q4, q5, fun z => absurd z (by decide)⟩
theorem OX.s4 (h : OX σ o t v rl lm w gd cars hu 0) (hsep : t + 3 < o ∨ o + 7 < t) : OX (bl_pI σ o 4 1) o t v rl lm true gd cars hu 0 := by
  have k : Kq (fun i => i = o) σ (bl_pI σ o 4 1) := (Kq.rf (fun i => i = o) σ).pI rfl _ _
  obtain ⟨q1, q2, ⟨f1, f2, f3, f4, f5, f6, f7⟩, q4, q5, -⟩ := h
  exact ⟨q1, q2.kq k (fun i a b c => by omega), ⟨by rw [I_pI_ne (by decide)]; exact f1, by rw [I_pI_ne (by decide)]; exact f2, by rw [I_pI_ne (by decide)]; exact f3, I_pI_self _ _ _ _, by rw [I_pI_ne (by decide)]; exact f5, by rw [I_pI_ne (by decide)]; exact f6, by rw [I_pI_ne (by decide)]; exact f7⟩, q4, q5, fun z => absurd z (by decide)⟩
theorem OX.s5 (h : OX σ o t v rl lm w gd cars hu 0) (hsep : t + 3 < o ∨ o + 7 < t) (x : Nat) : OX (bl_pI σ o 5 (nI x)) o t v rl lm w gd x hu 0 := by
  have k : Kq (fun i => i = o) σ (bl_pI σ o 5 (nI x)) := (Kq.rf (fun i => i = o) σ).pI rfl _ _
  obtain ⟨q1, q2, ⟨f1, f2, f3, f4, f5, f6, f7⟩, q4, q5, -⟩ := h
  exact ⟨q1, q2.kq k (fun i a b c => by omega), ⟨by rw [I_pI_ne (by decide)]; exact f1, by rw [I_pI_ne (by decide)]; exact f2, by rw [I_pI_ne (by decide)]; exact f3, by rw [I_pI_ne (by decide)]; exact f4, I_pI_self _ _ _ _, by rw [I_pI_ne (by decide)]; exact f6, by rw [I_pI_ne (by decide)]; exact f7⟩, q4, q5, fun z => absurd z (by decide)⟩
theorem OX.s6 (h : OX σ o t v rl lm w gd cars hu 0) (hsep : t + 3 < o ∨ o + 7 < t) (x : Nat) : OX (bl_pI σ o 6 (nI x)) o t v rl lm w gd cars x 0 := by
  have k : Kq (fun i => i = o) σ (bl_pI σ o 6 (nI x)) := (Kq.rf (fun i => i = o) σ).pI rfl _ _
  obtain ⟨q1, q2, ⟨f1, f2, f3, f4, f5, f6, f7⟩, q4, q5, -⟩ := h
  exact ⟨q1, q2.kq k (fun i a b c => by omega), ⟨by rw [I_pI_ne (by decide)]; exact f1, by rw [I_pI_ne (by decide)]; exact f2, by rw [I_pI_ne (by decide)]; exact f3, by rw [I_pI_ne (by decide)]; exact f4, by rw [I_pI_ne (by decide)]; exact f5, I_pI_self _ _ _ _, by rw [I_pI_ne (by decide)]; exact f7⟩, q4, q5, fun z => absurd z (by decide)⟩
abbrev trS (i : Nat) : Prop := (14 ≤ i ∧ i ≤ 17) ∨ (119 ≤ i ∧ i ≤ 126)
theorem SW.tr (h : SW σ) (k : Kq trS σ σ1) (o1 : OR σ1 119) (r14 : bl_R σ1 14 2 = 15 ∧ bl_R σ1 14 3 = 16 ∧ bl_R σ1 14 4 = 17) : SW σ1 := by
  have e0 := (k 0 (by unfold trS; omega)).2.2
  have e1 := (k 1 (by unfold trS; omega)).2.2
  have e4 := (k 4 (by unfold trS; omega)).2.2
  have e8 := (k 8 (by unfold trS; omega)).2.2
  have e21 := (k 21 (by unfold trS; omega)).2.2
  have e127 := (k 127 (by unfold trS; omega)).2.2
  have e131 := (k 131 (by unfold trS; omega)).2.2
  unfold SW
  rw [e0, e1, e4, e8, e21, e127, e131]
  exact ⟨h.1, h.2.1, h.2.2.1, r14, h.2.2.2.2.1, o1, h.2.2.2.2.2.2⟩
theorem XI.tr (h : XI σ s) (k : Kq trS σ σ1) (o1 : OR σ1 119) (r14 : bl_R σ1 14 2 = 15 ∧ bl_R σ1 14 3 = 16 ∧ bl_R σ1 14 4 = 17) : XI σ1 s :=
  h.scr k (fun i hi => by unfold trS at hi; omega) (h.1.tr k o1 r14)
theorem XI.r14 (h : XI σ s) : bl_R σ 14 2 = 15 ∧ bl_R σ 14 3 = 16 ∧ bl_R σ 14 4 = 17 := h.1.2.2.2.1
/-- the second outlook begins anew -/
theorem x_look2 (h : XI σ s) (hT : TX σ t v) (ht : t = 10 ∨ t = 14) (gd : Bool) : ∃ σ1, f_X4_look σ 119 t (gI gd) = some ((), σ1) ∧ XI σ1 s ∧ OX σ1 119 t v 0 0 false gd 1 0 0 := by
  obtain ⟨σ1, e1, k1, o1⟩ := x_look h.1.2.2.2.2.2.1 hT gd (by omega)
  refine ⟨σ1, e1, h.tr (k1.mono (fun i hi => by unfold trS; omega)) o1.or ?_, o1⟩
  rw [(k1 14 (by omega)).2.2]
  exact h.r14
theorem XI.p119 (h : XI σ s) (k : Nat) (x : Int32) : XI (bl_pI σ 119 k x) s := h.tr ((Kq.rf trS σ).pI (by unfold trS; omega) k x) h.1.2.2.2.2.2.1 h.r14
theorem x_cost2 (h : XI σ s) (hO : OX σ 119 t v rl lm w gd cars hu 0) (ht : t = 10 ∨ t = 14) (ok : TOk v) (hK : 0 < tK v) (hrl : rl ≤ 3) (hlm : lm ≤ 999) (hca : cars ≤ 2) (hhu : hu ≤ 50) {Y c : Nat} (hY : Y ≤ 20) (hc : c < tN v) : ∃ σ1, f_X4_costOf σ 119 (nI Y) (nI c) = some (lN (cCo v w rl lm gd cars hu Y c), σ1) ∧ XI σ1 s := by
  obtain ⟨σ1, e1, k1, o1⟩ := x_costOf hO ok hK hrl hlm hca hhu (by omega) hY hc
  refine ⟨σ1, e1, h.tr (k1.kq.mono (fun i hi => by unfold trS; omega)) o1.or ?_⟩
  rw [(k1.kq 14 (by omega)).2.2]
  exact h.r14
/-! the class's reckonings -/
theorem x_bare (h : XI σ s) (ok : SOk s n) {L c : Nat} (hL : L ≤ 20) (hc : c < tN (sv s)) : ∃ σ1, f_X9_bareCost σ 0 (nI L) (nI c) = some (lN (cCo (sv s) false 0 0 false 1 0 L c), σ1) ∧ XI σ1 s := by
  obtain ⟨σa, ea, xa, oa⟩ := x_look2 h h.2.1 (Or.inl rfl) false
  obtain ⟨σb, eb, xb⟩ := x_cost2 xa oa (Or.inl rfl) ok.1 (ok.hK (by omega)) (by decide) (by decide) (by decide) (by decide) hL hc
  refine ⟨σb, ?_, xb⟩
  unfold f_X9_bareCost
  rw [h.1.1.2.2.1, h.1.1.1.2.2.1, show f_X4_look σ 119 10 0 = _ from ea, bd_some, xa.1.1.2.2.1, eb, bd_some]
theorem x_byRule (h : XI σ s) (ok : SOk s n) {rl lm L c : Nat} (hrl : rl ≤ 3) (hlm : lm ≤ 999) (hL : L ≤ 20) (hc : c < tN (sv s)) : ∃ σ1, f_X9_costByRule σ 0 (nI rl) (nI lm) (nI L) (nI c) = some (lN (cCo (sv s) false rl lm false 1 0 L c), σ1) ∧ XI σ1 s := by
  obtain ⟨σa, ea, xa, oa⟩ := x_look2 h h.2.1 (Or.inl rfl) false
  have xb := (xa.p119 2 (nI rl)).p119 3 (nI lm)
  obtain ⟨σb, eb, xb2⟩ := x_cost2 xb ((oa.s2 (by decide) rl).s3 (by decide) lm) (Or.inl rfl) ok.1 (ok.hK (by omega)) hrl hlm (by decide) (by decide) hL hc
  refine ⟨σb, ?_, xb2⟩
  unfold f_X9_costByRule
  rw [h.1.1.2.2.1, h.1.1.1.2.2.1, show f_X4_look σ 119 10 0 = _ from ea, bd_some]
  simp only [let_eq, R_pI, xa.1.1.2.2.1]
  rw [eb, bd_some]
theorem x_joined (h : XI σ s) (ok : SOk s n) {hu L c : Nat} (hhu : hu ≤ 50) (hL : L ≤ 20) (hc : c < tN (sv s)) : ∃ σ1, f_X9_joinedCost σ 0 (nI L) (nI c) (nI hu) = some (lN (cCo (sv s) false 0 0 false 2 hu L c), σ1) ∧ XI σ1 s := by
  obtain ⟨σa, ea, xa, oa⟩ := x_look2 h h.2.1 (Or.inl rfl) false
  have xb := (xa.p119 5 (nI 2)).p119 6 (nI hu)
  obtain ⟨σb, eb, xb2⟩ := x_cost2 xb ((oa.s5 (by decide) 2).s6 (by decide) hu) (Or.inl rfl) ok.1 (ok.hK (by omega)) (by decide) (by decide) (by decide) hhu hL hc
  refine ⟨σb, ?_, xb2⟩
  unfold f_X9_joinedCost
  rw [h.1.1.2.2.1, h.1.1.1.2.2.1, show f_X4_look σ 119 10 0 = _ from ea, bd_some]
  simp only [let_eq, R_pI, xa.1.1.2.2.1]
  rw [show bl_pI (bl_pI σa 119 5 2) 119 6 (nI hu) = bl_pI (bl_pI σa 119 5 (nI 2)) 119 6 (nI hu) from rfl, eb, bd_some]
/-- other terms: a copy -/
theorem x_other (h : XI σ s) (ok : SOk s n) : ∃ σ1, f_X8_copy σ 14 10 = some ((), σ1) ∧ XI σ1 s ∧ TX σ1 14 (sv s) := by
  obtain ⟨σ1, e1, k1, R1, T1⟩ := x_tcopy (d := 14) h.2.1 ok.1 h.r14 (by decide)
  refine ⟨σ1, e1, h.tr (k1.mono (fun i hi => by unfold trS; omega)) (h.1.2.2.2.2.2.1.kq k1 (fun i a b c => by omega)) ?_, T1⟩
  rw [R1]
  exact h.r14
theorem x_were (h : XI σ s) (ok : SOk s n) {k y L c : Nat} (hk : k < 3) (hy : rLo k ≤ y ∧ y ≤ rHi k) (hL : L ≤ 20) (hc : c < tN (sv s)) : ∃ σ1, f_X9_costWere σ 0 (nI k) (nI y) (nI L) (nI c) = some (lN (cB (vRule (sv s) k y) L c), σ1) ∧ XI σ1 s := by
  obtain ⟨σa, ea, xa, ta⟩ := x_other h ok
  have okv := tOk_rule ok.1 hk hy
  have xb : XI (bl_pI σa 17 k (nI y)) s := xa.tr ((Kq.rf trS σa).pI (by unfold trS; omega) k _) xa.1.2.2.2.2.2.1 xa.r14
  have tb : TX (bl_pI σa 17 k (nI y)) 14 (vRule (sv s) k y) := ta.rule hk y
  obtain ⟨σc, ec, xc, oc⟩ := x_look2 xb tb (Or.inr rfl) true
  obtain ⟨σd, ed, xd⟩ := x_cost2 xc oc (Or.inr rfl) okv (show 0 < tK (sv s) from ok.hK (by omega)) (by decide) (by decide) (by decide) (by decide) hL (show c < tN (sv s) from hc)
  refine ⟨σd, ?_, xd⟩
  unfold f_X9_costWere
  rw [h.1.1.1.2.2.2.1, h.1.1.1.2.2.1, ea, bd_some, gd_of (in_nI hk (by decide)), let_eq, xa.1.1.1.2.2.2.1, ta.1.2.2, nI_clamp (by omega), xb.1.1.2.2.1, xb.1.1.1.2.2.2.1, show f_X4_look (bl_pI σa (14 + 3) k (nI y)) 119 14 1 = _ from ec, bd_some, xc.1.1.2.2.1, ed, bd_some]
/-! the reference's reckonings -/
variable {τ : bl_St}
theorem m_bare (hm : MI τ s) (ok : SOk s n) {rl lm L c : Nat} (hrl : rl ≤ 3) (hlm : lm ≤ 999) (hL : L ≤ 20) (hc : c < tN (sv s)) : ∃ τ1, f_X10_lays τ 139 (nI L) 0 (nI rl) (nI lm) = some ((), τ1) ∧ f_X10_costAt τ1 139 (nI L) (nI c) = some (lN (cCo (sv s) false rl lm false 1 0 L c), τ1) ∧ MI τ1 s := by
  have h8 := ok.1.n8
  obtain ⟨τ1, e1, m1, k1, c1, f1⟩ := m_laysT (rl := rl) (lm := lm) (Y := L) hm ok.1 (ok.hK (by omega)) false hL hrl (fun _ => hlm)
  exact ⟨τ1, e1, m_costAt m1 hL (by omega) (f1 L (Nat.le_refl _) c hc).1, m1⟩
theorem m_bareCost (hm : MI τ s) (ok : SOk s n) {L c : Nat} (hL : L ≤ 20) (hc : c < tN (sv s)) : ∃ τ1, f_X10_bareCost τ 139 (nI L) (nI c) = some (lN (cCo (sv s) false 0 0 false 1 0 L c), τ1) ∧ MI τ1 s := by
  obtain ⟨τ1, e1, e2, m1⟩ := m_bare (rl := 0) (lm := 0) hm ok (by decide) (by decide) hL hc
  refine ⟨τ1, ?_, m1⟩
  unfold f_X10_bareCost
  rw [show f_X10_lays τ 139 (nI L) 0 0 0 = _ from e1, bd_some, e2, bd_some]
/-- where the best is chosen the limit is nothing -/
theorem cL_0 (v : tm_V) (lm s a b : Nat) : cL v 0 lm s a b = cL v 0 0 s a b := rfl
theorem cSum_0 (v : tm_V) (lm a b : Nat) : ∀ k, cSum v 0 lm a b k = cSum v 0 0 a b k
  | 0 => rfl
  | k + 1 => by
    show cSum v 0 lm a b k + _ = cSum v 0 0 a b k + _
    rw [cSum_0 v lm a b k, cL_0]
theorem cMax_0 (v : tm_V) (lm a b base : Nat) : ∀ k, cMax v 0 lm a b base k = cMax v 0 0 a b base k
  | 0 => rfl
  | k + 1 => by
    show max (cMax v 0 lm a b base k) _ = max (cMax v 0 0 a b base k) _
    rw [cMax_0 v lm a b base k, cL_0]
theorem cCh_lm (v : tm_V) (w : Bool) (lm a b : Nat) : cCh v w 0 lm a b = cCh v w 0 0 a b := by
  unfold cCh
  rw [cSum_0]
  simp only [cMax_0 v lm]
theorem cAh_lm (v : tm_V) (w : Bool) (lm : Nat) (V : Nat → Nat) (c : Nat) : ∀ r t g, cAh v w 0 lm V c r t g = cAh v w 0 0 V c r t g
  | 0, _, _ => rfl
  | r + 1, t, g => by
    show cCh v w 0 lm _ _ = cCh v w 0 0 _ _
    rw [cAh_lm v w lm V c r, cAh_lm v w lm V c r, cCh_lm]
theorem cCo_lm (v : tm_V) (w : Bool) (lm : Nat) (gd : Bool) (cars hu : Nat) : ∀ L, cCo v w 0 lm gd cars hu L = cCo v w 0 0 gd cars hu L
  | 0 => rfl
  | L + 1 => by
    funext c
    simp only [cCo, cAh_lm v w lm, cCo_lm v w lm gd cars hu L]
theorem m_joined (hm : MI τ s) (ok : SOk s n) {hu L a b : Nat} (hhu : hu ≤ 50) (hL : L ≤ 20) (ha : a < tN (sv s)) (hb : b < tN (sv s)) : ∃ τ1, f_X10_joinedCost τ 139 (nI L) (nI a) (nI b) (nI hu) = some (lN (cCo (sv s) false 0 0 false 2 hu L (if tC (sv s) (5 * b) ≤ tC (sv s) (5 * a) then a else b)), τ1) ∧ MI τ1 s := by
  have h8 := ok.1.n8
  have hpa := (ok.1.2.1 a ha).1
  have hpb := (ok.1.2.1 b hb).1
  obtain ⟨τa, ea⟩ : ∃ z, z = bl_pI (bl_pI τ 139 11 0) 139 13 0 := ⟨_, rfl⟩
  have ma : MI τa s := by rw [ea]; exact (hm.f9 (by decide) (by decide) _).f9 (by decide) (by decide) _
  obtain ⟨lm, hlm⟩ := int_nat (bl_I τa 139 12)
  obtain ⟨τ1, e1, m1, k1, c1, i1, f1⟩ := m_lyT (w := false) (gd := false) (cars := 2) (hu := hu) (rl := 0) (lm := lm) (Y := L) ma ok.1 (ok.hK (by omega)) (by rw [ea]; simp [I_pI]; rfl) hlm (by rw [ea]; simp [I_pI]) hL (by decide) (fun z => by omega) (by decide) hhu (fun z => by cases z)
  refine ⟨τ1, ?_, m1⟩
  have eH := ma.2.1.2.1.1
  simp only [Nat.zero_add] at eH
  have fa := (f1 L (Nat.le_refl _) a ha).1
  have fb := (f1 L (Nat.le_refl _) b hb).1
  rw [cCo_lm] at fa fb
  unfold f_X10_joinedCost
  simp only [let_eq]
  rw [← ea, ma.1.1.1.1.1, eH, show (2 : Int32) = nI 2 from rfl, nI_mul, Nat.mul_comm 2, show f_X10_laysYears τa 139 (nI L) 0 (nI (tH (sv s) * 2)) (nI 2) (nI hu) = _ from e1, bd_some, show (0 : Int32) = nI 0 from rfl, m_ofClass m1.1.1.1.1.1 m1.2.1 ok.1 hb (by decide), bd_some, m_ofClass m1.1.1.1.1.1 m1.2.1 ok.1 ha (by decide), bd_some]
  show (if nI (tC (sv s) (5 * b)) ≤ nI (tC (sv s) (5 * a)) then _ else _) = _
  by_cases h : tC (sv s) (5 * b) ≤ tC (sv s) (5 * a)
  · rw [if_pos (nI_le h (by omega)), if_pos h, m_costAt m1 hL (by omega) fa, bd_some]
  · rw [if_neg (nI_ge (by omega) (by omega)), if_neg h, m_costAt m1 hL (by omega) fb, bd_some]
/-! worst, bare, by, joined -/
theorem asked_bad {α : Type} (ok : SOk s n) {l c : Int32} (hb : ¬ (vY l ∧ vC c (tN (sv s)))) (hm : MI τ s) (bad : α) (go : bl_St → Option (α × bl_St)) : (bl_bd (f_X10_areYears τ l) fun r1 σ2 => if r1 = 0 then some (bad, σ2) else bl_bd (f_X10_isClass σ2 139 c) fun r5 σ6 => if r5 = 0 then some (bad, σ6) else go σ6) = some (bad, τ) := by
  rw [m_areYears, bd_some]
  by_cases h1 : vY l
  · rw [if_pos h1, if_neg (by decide), m_isClass hm.1.1.1.1.1 hm.2.1 ok.1, bd_some, if_neg (show ¬ vC c (tN (sv s)) from fun z => hb ⟨h1, z⟩), if_pos rfl]
  · rw [if_neg h1, if_pos rfl]
theorem asked_ok {α : Type} (ok : SOk s n) {l c : Int32} (hb : vY l ∧ vC c (tN (sv s))) (hm : MI τ s) (bad : α) (go : bl_St → Option (α × bl_St)) : (bl_bd (f_X10_areYears τ l) fun r1 σ2 => if r1 = 0 then some (bad, σ2) else bl_bd (f_X10_isClass σ2 139 c) fun r5 σ6 => if r5 = 0 then some (bad, σ6) else go σ6) = go τ := by
  rw [m_areYears, bd_some, if_pos hb.1, if_neg (by decide), m_isClass hm.1.1.1.1.1 hm.2.1 ok.1, bd_some, if_pos hb.2, if_neg (by decide)]
theorem op_worst (ok : SOk s n) (l c : Int32) : Both n s (fun σ => f_X9_worst σ 0 l c) (fun τ => f_X10_worst τ 139 l c) := by
  have h8 := ok.1.n8
  rcases (Classical.em (vY l ∧ vC c (tN (sv s)))).symm with hb | hb
  · refine Both.same ok (-1) (fun σ hx => ⟨σ, ?_, hx⟩) (fun τ hm => ⟨τ, ?_, hm⟩)
    · show f_X9_worst σ 0 l c = _
      unfold f_X9_worst
      rw [x_isAsked hx ok, bd_some, if_neg hb, if_pos rfl]
    · show f_X10_worst τ 139 l c = _
      unfold f_X10_worst
      exact asked_bad ok hb hm _ _
  obtain ⟨hl, hc⟩ := id hb
  obtain ⟨L, rfl, -, hL⟩ := vR_of (by decide) hl
  obtain ⟨k, hk, rfl⟩ := vC_of (by omega) hc
  refine Both.same ok (lN (cCo (sv s) true 0 0 false 1 0 L k)) (fun σ hx => ?_) (fun τ hm => ?_)
  · obtain ⟨σa, ea, xa, oa⟩ := x_look2 hx hx.2.1 (Or.inl rfl) false
    obtain ⟨σb, eb, xb⟩ := x_cost2 (xa.p119 4 1) (oa.s4 (by decide)) (Or.inl rfl) ok.1 (ok.hK (by omega)) (by decide) (by decide) (by decide) (by decide) hL hk
    refine ⟨σb, ?_, xb⟩
    show f_X9_worst σ 0 (nI L) (nI k) = _
    unfold f_X9_worst
    rw [x_isAsked hx ok, bd_some, if_pos hb, if_neg (by decide), hx.1.1.2.2.1, hx.1.1.1.2.2.1, show f_X4_look σ 119 10 0 = _ from ea, bd_some]
    simp only [let_eq, R_pI, xa.1.1.2.2.1]
    rw [eb, bd_some]
  · obtain ⟨τa, ea⟩ : ∃ z, z = bl_pI (bl_pI τ 139 11 0) 139 13 1 := ⟨_, rfl⟩
    have ma : MI τa s := by rw [ea]; exact (hm.f9 (by decide) (by decide) _).f9 (by decide) (by decide) _
    obtain ⟨lm, hlm⟩ := int_nat (bl_I τa 139 12)
    obtain ⟨τ1, e1, m1, k1, c1, i1, f1⟩ := m_lyT (w := true) (gd := false) (cars := 1) (hu := 0) (rl := 0) (lm := lm) (Y := L) ma ok.1 (ok.hK (by omega)) (by rw [ea]; simp [I_pI]; rfl) hlm (by rw [ea]; simp [I_pI]) hL (by decide) (fun z => by omega) (by decide) (by decide) (fun z => by cases z)
    have fa := (f1 L (Nat.le_refl _) k hk).1
    rw [cCo_lm] at fa
    have m2 := m1.f9 (k := 13) (by decide) (by decide) 0
    refine ⟨bl_pI τ1 139 13 0, ?_, m2⟩
    have eH := ma.2.1.2.1.1
    simp only [Nat.zero_add] at eH
    show f_X10_worst τ 139 (nI L) (nI k) = _
    unfold f_X10_worst
    refine (asked_ok ok hb hm _ _).trans ?_
    simp only [let_eq]
    have e1' : f_X10_laysYears τa 139 (nI L) 0 (nI (tH (sv s))) 1 0 = some ((), τ1) := by
      have := e1
      rw [Nat.mul_one] at this
      exact this
    rw [← ea, ma.1.1.1.1.1, eH, e1', bd_some, m_costAt m2 hL (by omega) fa, bd_some]
theorem op_bare (ok : SOk s n) (l c : Int32) : Both n s (fun σ => f_X9_bare σ 0 l c) (fun τ => f_X10_bare τ 139 l c) := by
  have h8 := ok.1.n8
  rcases (Classical.em (vY l ∧ vC c (tN (sv s)))).symm with hb | hb
  · refine Both.same ok (-1) (fun σ hx => ⟨σ, ?_, hx⟩) (fun τ hm => ⟨τ, ?_, hm⟩)
    · show f_X9_bare σ 0 l c = _
      unfold f_X9_bare
      rw [x_isAsked hx ok, bd_some, if_neg hb, if_pos rfl]
    · show f_X10_bare τ 139 l c = _
      unfold f_X10_bare
      exact asked_bad ok hb hm _ _
  obtain ⟨hl, hc⟩ := id hb
  obtain ⟨L, rfl, -, hL⟩ := vR_of (by decide) hl
  obtain ⟨k, hk, rfl⟩ := vC_of (by omega) hc
  refine Both.same ok (lN (cCo (sv s) false 0 0 false 1 0 L k)) (fun σ hx => ?_) (fun τ hm => ?_)
  · obtain ⟨σb, eb, xb⟩ := x_bare hx ok hL hk
    refine ⟨σb, ?_, xb⟩
    show f_X9_bare σ 0 (nI L) (nI k) = _
    unfold f_X9_bare
    rw [x_isAsked hx ok, bd_some, if_pos hb, if_neg (by decide), eb, bd_some]
  · obtain ⟨τ1, e1, m1⟩ := m_bareCost hm ok hL hk
    refine ⟨τ1, ?_, m1⟩
    show f_X10_bare τ 139 (nI L) (nI k) = _
    unfold f_X10_bare
    refine (asked_ok ok hb hm _ _).trans ?_
    rw [e1, bd_some]
abbrev vT (r v : Int32) : Prop := vC r 4 ∧ vR v 0 (if r = 3 then 999 else 0)
theorem x_isThumb (σ : bl_St) (r v : Int32) : f_X9_isThumb σ r v = some (if vT r v then 1 else 0, σ) := by
  unfold f_X9_isThumb
  by_cases h3 : r = 3
  · rw [if_pos h3]
    unfold vT
    rw [if_pos h3]
    by_cases h1 : v < 0
    · rw [if_pos h1, if_neg (fun z => by rw [lt0_iff] at h1; have := z.2.1; omega)]
    rw [if_neg h1]
    by_cases h2 : (999 : Int32) < v
    · rw [if_pos h2, if_neg (fun z => by rw [show (999 : Int32) = nI 999 from rfl, Nlt_iff v (by decide)] at h2; have := z.2.2; omega)]
    rw [if_neg h2, if_pos ⟨by rw [h3]; decide, by rw [lt0_iff] at h1; omega, by rw [show (999 : Int32) = nI 999 from rfl, Nlt_iff v (by decide)] at h2; omega⟩]
  · rw [if_neg h3]
    unfold vT
    rw [if_neg h3]
    by_cases h1 : r < 0
    · rw [if_pos h1, if_neg (fun z => by rw [lt0_iff] at h1; have := z.1.1; omega)]
    rw [if_neg h1]
    have hne : r.toInt ≠ 3 := fun z => h3 ((eqN_iff r (n := 3) (by decide)).mpr z)
    by_cases h2 : (3 : Int32) ≤ r
    · rw [if_pos h2, if_neg (fun z => by rw [show (3 : Int32) = nI 3 from rfl, leN_iff r (by decide)] at h2; have := z.1.2; omega)]
    rw [if_neg h2]
    by_cases h4 : v = 0
    · rw [if_pos h4, if_pos ⟨⟨by rw [lt0_iff] at h1; omega, by rw [show (3 : Int32) = nI 3 from rfl, leN_iff r (by decide)] at h2; omega⟩, by rw [h4]; decide⟩]
    · rw [if_neg h4, if_neg (fun z => h4 ((eqN_iff v (n := 0) (by decide)).mpr (by have := z.2; omega)))]
theorem op_by (ok : SOk s n) (r v l c : Int32) : Both n s (fun σ => f_X9_by σ 0 r v l c) (fun τ => f_X10_by τ 139 r v l c) := by
  have h8 := ok.1.n8
  rcases (Classical.em ((vY l ∧ vC c (tN (sv s))) ∧ vT r v)).symm with hb | hb
  · refine Both.same ok (-1) (fun σ hx => ⟨σ, ?_, hx⟩) (fun τ hm => ⟨τ, ?_, hm⟩)
    · show f_X9_by σ 0 r v l c = _
      unfold f_X9_by
      rw [x_isAsked hx ok, bd_some]
      by_cases h1 : vY l ∧ vC c (tN (sv s))
      · rw [if_pos h1, if_neg (by decide), x_isThumb, bd_some, if_neg (show ¬ vT r v from fun z => hb ⟨h1, z⟩), if_pos rfl]
      · rw [if_neg h1, if_pos rfl]
    · show f_X10_by τ 139 r v l c = _
      unfold f_X10_by
      rw [show (0 : Int64) = lN 0 from rfl, show (3 : Int64) = lN 3 from rfl, m_inN τ r (by decide) (by decide), bd_some]
      by_cases h1 : vR r 0 3
      · rw [if_pos h1, if_neg (by decide)]
        have k27 : ∀ B, B < 2 ^ 31 → (B = if r = 3 then 999 else 0) → b_X10_by_27 τ 139 r v l c (lN B) (lN 0) (Int32.toInt64 v) = some (-1, τ) := by
          intro B hB hBe
          unfold b_X10_by_27
          rw [m_inN τ v (by decide) hB, bd_some]
          by_cases h2 : vR v 0 B
          · rw [if_pos h2, if_neg (by decide)]
            exact asked_bad ok (fun z => hb ⟨z, ⟨⟨by have := h1.1; omega, by have := h1.2; omega⟩, by rw [← hBe]; exact h2⟩⟩) hm _ _
          · rw [if_neg h2, if_pos rfl]
        by_cases h3 : r = 3
        · rw [if_pos h3]
          exact k27 999 (by decide) (by rw [if_pos h3])
        · rw [if_neg h3]
          exact k27 0 (by decide) (by rw [if_neg h3])
      · rw [if_neg h1, if_pos rfl]
  obtain ⟨hlc, ht⟩ := hb
  obtain ⟨hl, hc⟩ := id hlc
  obtain ⟨L, rfl, -, hL⟩ := vR_of (by decide) hl
  obtain ⟨k, hk, rfl⟩ := vC_of (by omega) hc
  obtain ⟨rl, hrl, rfl⟩ := vC_of (by decide) ht.1
  have h2 := ht.2
  have hB : (if nI rl = 3 then 999 else 0) ≤ 999 := by split <;> omega
  obtain ⟨lm, rfl, -, hlm⟩ := vR_of (by omega) h2
  refine Both.same ok (lN (cCo (sv s) false rl lm false 1 0 L k)) (fun σ hx => ?_) (fun τ hm => ?_)
  · obtain ⟨σb, eb, xb⟩ := x_byRule (rl := rl) (lm := lm) hx ok (by omega) (by omega) hL hk
    refine ⟨σb, ?_, xb⟩
    show f_X9_by σ 0 (nI rl) (nI lm) (nI L) (nI k) = _
    unfold f_X9_by
    rw [x_isAsked hx ok, bd_some, if_pos hlc, if_neg (by decide), x_isThumb, bd_some, if_pos ht, if_neg (by decide), eb, bd_some]
  · obtain ⟨τ1, e1, e2, m1⟩ := m_bare (rl := rl) (lm := lm) hm ok (by omega) (by omega) hL hk
    refine ⟨τ1, ?_, m1⟩
    show f_X10_by τ 139 (nI rl) (nI lm) (nI L) (nI k) = _
    unfold f_X10_by
    rw [show (0 : Int64) = lN 0 from rfl, show (3 : Int64) = lN 3 from rfl, m_inN τ (nI rl) (by decide) (by decide), bd_some, if_pos (show vR (nI rl) 0 3 from ⟨by have := ht.1.1; omega, by have := ht.1.2; omega⟩), if_neg (by decide)]
    have k27 : ∀ B, B < 2 ^ 31 → (B = if nI rl = 3 then 999 else 0) → b_X10_by_27 τ 139 (nI rl) (nI lm) (nI L) (nI k) (lN B) (lN 0) (Int32.toInt64 (nI lm)) = some (lN (cCo (sv s) false rl lm false 1 0 L k), τ1) := by
      intro B hB hBe
      unfold b_X10_by_27
      rw [m_inN τ (nI lm) (by decide) hB, bd_some, if_pos (show vR (nI lm) 0 B by rw [hBe]; exact h2), if_neg (by decide)]
      refine (asked_ok ok hlc hm _ _).trans ?_
      rw [e1, bd_some, e2, bd_some]
    by_cases h3 : nI rl = 3
    · rw [if_pos h3]
      exact k27 999 (by decide) (by rw [if_pos h3])
    · rw [if_neg h3]
      exact k27 0 (by decide) (by rw [if_neg h3])
theorem x_joinedClass (hx : XI σ s) (ok : SOk s n) {a b : Nat} (ha : a < tN (sv s)) (hb : b < tN (sv s)) : f_X9_joinedClass σ 0 (nI a) (nI b) = some (nI (if tC (sv s) (5 * b) ≤ tC (sv s) (5 * a) then a else b), σ) := by
  have hpa := (ok.1.2.1 a ha).1
  have hpb := (ok.1.2.1 b hb).1
  unfold f_X9_joinedClass
  rw [hx.1.1.1.2.2.1, show (0 : Int32) = nI 0 from rfl, x_part hx.2.1 ok.1 hb (by decide), bd_some, hx.1.1.1.2.2.1, x_part hx.2.1 ok.1 ha (by decide), bd_some]
  show (if nI (tC (sv s) (5 * b)) ≤ nI (tC (sv s) (5 * a)) then _ else _) = _
  by_cases h : tC (sv s) (5 * b) ≤ tC (sv s) (5 * a)
  · rw [if_pos (nI_le h (by omega)), if_pos h]
  · rw [if_neg (nI_ge (by omega) (by omega)), if_neg h]
theorem op_joined (ok : SOk s n) (l a b r : Int32) : Both n s (fun σ => f_X9_joined σ 0 l a b r) (fun τ => f_X10_joined τ 139 l a b r) := by
  have h8 := ok.1.n8
  rcases (Classical.em (((vY l ∧ vC a (tN (sv s))) ∧ vC b (tN (sv s))) ∧ vR r 0 50)).symm with hb | hb
  · refine Both.same ok (-1) (fun σ hx => ⟨σ, ?_, hx⟩) (fun τ hm => ⟨τ, ?_, hm⟩)
    · show f_X9_joined σ 0 l a b r = _
      unfold f_X9_joined
      rw [x_isAsked hx ok, bd_some]
      by_cases h1 : vY l ∧ vC a (tN (sv s))
      · rw [if_pos h1, if_neg (by decide), hx.1.1.1.2.2.1, x_hasClass hx.2.1 ok.1, bd_some]
        by_cases h2 : vC b (tN (sv s))
        · rw [if_pos h2, if_neg (by decide)]
          by_cases h3 : r < 0
          · rw [if_pos h3]
          · rw [if_neg h3, if_neg (show ¬ r ≤ 50 from fun z => hb ⟨⟨h1, h2⟩, ⟨by rw [lt0_iff] at h3; omega, by rw [show (50 : Int32) = nI 50 from rfl, leN_iff' r (by decide)] at z; exact z⟩⟩)]
        · rw [if_neg h2, if_pos rfl]
      · rw [if_neg h1, if_pos rfl]
    · show f_X10_joined τ 139 l a b r = _
      unfold f_X10_joined
      by_cases h1 : vY l ∧ vC a (tN (sv s))
      · refine (asked_ok ok h1 hm _ _).trans ?_
        rw [m_isClass hm.1.1.1.1.1 hm.2.1 ok.1, bd_some]
        by_cases h2 : vC b (tN (sv s))
        · rw [if_pos h2, if_neg (by decide), show (0 : Int64) = lN 0 from rfl, show (50 : Int64) = lN 50 from rfl, m_inN τ r (by decide) (by decide), bd_some, if_neg (show ¬ vR r 0 50 from fun z => hb ⟨⟨h1, h2⟩, z⟩), if_pos rfl]
        · rw [if_neg h2, if_pos rfl]
      · exact asked_bad ok h1 hm _ _
  obtain ⟨⟨hla, hbb⟩, hr⟩ := hb
  obtain ⟨hl, ha⟩ := id hla
  obtain ⟨L, rfl, -, hL⟩ := vR_of (by decide) hl
  obtain ⟨a, ha', rfl⟩ := vC_of (by omega) ha
  obtain ⟨b, hb', rfl⟩ := vC_of (by omega) hbb
  obtain ⟨hu, rfl, -, hhu⟩ := vR_of (by decide) hr
  have hj : (if tC (sv s) (5 * b) ≤ tC (sv s) (5 * a) then a else b) < tN (sv s) := by split <;> omega
  refine Both.same ok (lN (cCo (sv s) false 0 0 false 2 hu L (if tC (sv s) (5 * b) ≤ tC (sv s) (5 * a) then a else b))) (fun σ hx => ?_) (fun τ hm => ?_)
  · obtain ⟨σb, eb, xb⟩ := x_joined hx ok hhu hL hj
    refine ⟨σb, ?_, xb⟩
    show f_X9_joined σ 0 (nI L) (nI a) (nI b) (nI hu) = _
    unfold f_X9_joined
    rw [x_isAsked hx ok, bd_some, if_pos hla, if_neg (by decide), hx.1.1.1.2.2.1, x_hasClass hx.2.1 ok.1, bd_some, if_pos hbb, if_neg (by decide), if_neg (nI_pos (by omega)), if_pos (show nI hu ≤ 50 from nI_le (b := 50) hhu (by decide)), x_joinedClass hx ok ha' hb', bd_some, eb, bd_some]
  · obtain ⟨τ1, e1, m1⟩ := m_joined hm ok hhu hL ha' hb'
    refine ⟨τ1, ?_, m1⟩
    show f_X10_joined τ 139 (nI L) (nI a) (nI b) (nI hu) = _
    unfold f_X10_joined
    refine (asked_ok ok hla hm _ _).trans ?_
    rw [m_isClass hm.1.1.1.1.1 hm.2.1 ok.1, bd_some, if_pos hbb, if_neg (by decide), show (0 : Int64) = lN 0 from rfl, show (50 : Int64) = lN 50 from rfl, m_inN τ (nI hu) (by decide) (by decide), bd_some, if_pos hr, if_neg (by decide), e1, bd_some]
end TRI
