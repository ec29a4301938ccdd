/-! ===== the reference's signs ===== -/
/-- only the reading's own numbers differ -/
def Gf (τ τ1 : bl_St) : Prop := bl_R τ1 = bl_R τ ∧ bl_J τ1 = bl_J τ ∧ (∀ k, k ≠ 23 → k ≠ 24 → k ≠ 25 → k ≠ 26 → bl_I τ1 139 k = bl_I τ 139 k) ∧ ∀ i, i ≠ 139 → bl_I τ1 i = bl_I τ i
theorem Gf.rf (τ : bl_St) : Gf τ τ := ⟨rfl, rfl, fun _ _ _ _ _ => rfl, fun _ _ => rfl⟩
theorem Gf.tr {τ τ1 τ2 : bl_St} (h : Gf τ τ1) (h2 : Gf τ1 τ2) : Gf τ τ2 := ⟨h2.1.trans h.1, h2.2.1.trans h.2.1, fun k a b c d => (h2.2.2.1 k a b c d).trans (h.2.2.1 k a b c d), fun i hi => (h2.2.2.2 i hi).trans (h.2.2.2 i hi)⟩
theorem Gf.p {τ τ1 : bl_St} (h : Gf τ τ1) {k : Nat} (hk : k = 23 ∨ k = 24 ∨ k = 25 ∨ k = 26) (x : Int32) : Gf τ (bl_pI τ1 139 k x) :=
  ⟨h.1, h.2.1, fun j a b c d => by rw [I_pI_ne (by omega)]; exact h.2.2.1 j a b c d, fun i hi => by rw [I_pI_o hi]; exact h.2.2.2 i hi⟩
def WM (τ : bl_St) (b : Nat → Nat) (ln : Nat) : Prop := (bl_R τ 139 2 = 141 ∧ bl_R τ 139 20 = 152) ∧ bl_I τ 139 21 = nI ln ∧ (∀ i, i < ln → bl_I τ 152 i = nI (b i)) ∧ (ln ≤ 400 ∧ ∀ i, i < ln → b i < 256) ∧ WD τ
theorem WM.gf {τ τ1 : bl_St} {b : Nat → Nat} {ln : Nat} (w : WM τ b ln) (g : Gf τ τ1) : WM τ1 b ln :=
  ⟨by rw [g.1]; exact w.1, by rw [g.2.2.1 21 (by decide) (by decide) (by decide) (by decide)]; exact w.2.1, by rw [g.2.2.2 152 (by decide)]; exact w.2.2.1, w.2.2.2.1, by rw [g.1]; exact w.2.2.2.2.1, by rw [g.2.2.2 153 (by decide)]; exact w.2.2.2.2.2⟩
abbrev glu (b : Nat → Nat) (ln p was : Nat) : Prop := nB b ln p = p ∧ (was = 1 ∨ was = 2)
def tok (b : Nat → Nat) (ln p was : Nat) : Nat :=
  if ln ≤ nB b ln p then 0 else if isL (b (nB b ln p)) = true then (if glu b ln p was then 4 else 1)
  else if isD (b (nB b ln p)) = true then (if glu b ln p was then 4 else if 3 < nE b ln p - nB b ln p then 4 else 2)
  else if b (nB b ln p) = 59 then 3 else 4
def spt (b : Nat → Nat) (ln p : Nat) : Nat :=
  if ln ≤ nB b ln p then nB b ln p else if isL (b (nB b ln p)) = true then rn b ln isL (nB b ln p)
  else if isD (b (nB b ln p)) = true then nE b ln p else nB b ln p + 1
def TKN (τ : bl_St) (b : Nat → Nat) (ln p was : Nat) : Prop := bl_I τ 139 25 = nI (nB b ln p) ∧ bl_I τ 139 24 = nI (tok b ln p was) ∧ bl_I τ 139 23 = nI (spt b ln p) ∧ (tok b ln p was = 2 → bl_I τ 139 26 = nI (nV b ln p))
section LXM
variable {τ : bl_St} {b : Nat → Nat} {ln p : Nat}
theorem m_here (w : WM τ b ln) (h : bl_I τ 139 23 = nI p) (hp : p ≤ ln) : f_X10_here τ 139 = some (if p < ln then nI (b p) else (-1), τ) := by
  have h4 := w.2.2.2.1.1
  unfold f_X10_here
  rw [w.2.1, h]
  by_cases c : p < ln
  · rw [if_neg (nI_ge c (by omega)), in_nI (by omega) (by decide), gd_true, w.1.2, nI_clamp (by omega), w.2.2.1 p c, if_pos c]
  · rw [if_pos (nI_le (by omega) (by omega)), if_neg c]
theorem m1_ne {c : Nat} (hc : c < 2 ^ 31) : nI c ≠ -1 := fun z => by
  have h := nI_toInt hc
  rw [z] at h
  have : (-1 : Int32).toInt = -1 := rfl
  omega
theorem in_b (τ : bl_St) {c lo hi : Nat} (hc : c < 256) (hlo : lo < 2 ^ 31) (hhi : hi < 2 ^ 31) : f_X10_in τ (Int32.toInt64 (nI c)) (lN lo) (lN hi) = some (if lo ≤ c ∧ c ≤ hi then 1 else 0, τ) := by
  rw [m_inN τ (nI c) hlo hhi]
  congr 2
  have e : vR (nI c) lo hi ↔ (lo ≤ c ∧ c ≤ hi) := by
    unfold vR
    rw [nI_toInt (by omega)]
    omega
  by_cases h : lo ≤ c ∧ c ≤ hi
  · rw [if_pos h, if_pos (e.mpr h)]
  · rw [if_neg h, if_neg (fun z => h (e.mp z))]
theorem in_m1 (τ : bl_St) {lo hi : Nat} (hlo : lo < 2 ^ 31) (hhi : hi < 2 ^ 31) : f_X10_in τ (Int32.toInt64 (-1)) (lN lo) (lN hi) = some (0, τ) := by
  rw [m_inN τ (-1) hlo hhi, if_neg]
  intro z
  have : (-1 : Int32).toInt = -1 := rfl
  have h := z.1
  rw [this] at h
  omega
/-- letters -/
theorem m_lets {st gl : Nat} (hgl : gl < 2) : ∀ (r p m : Nat) (τ : bl_St), p + r = ln → r < m → WM τ b ln → bl_I τ 139 23 = nI p → ∃ τ1, bl_fx (fun _ _ _ => none) (b_X10_goesOn_108) m τ 139 (nI gl) = some ((), τ1) ∧ Gf τ τ1 ∧ bl_I τ1 139 25 = bl_I τ 139 25 ∧ bl_I τ1 139 23 = nI (rn b ln isL p) ∧ bl_I τ1 139 24 = nI (if gl = 1 then 4 else 1) := by
  intro r
  have fin : ∀ (τ : bl_St) (p : Nat), rn b ln isL p = p → bl_I τ 139 23 = nI p → ∃ τ1, (if nI gl = 0 then (bl_let (bl_pI τ 139 24 1) fun σ32 => (some ((), σ32) : Option (Unit × bl_St))) else bl_let (bl_pI τ 139 24 4) fun σ34 => some ((), σ34)) = some ((), τ1) ∧ Gf τ τ1 ∧ bl_I τ1 139 25 = bl_I τ 139 25 ∧ bl_I τ1 139 23 = nI (rn b ln isL p) ∧ bl_I τ1 139 24 = nI (if gl = 1 then 4 else 1) := by
    intro τ p e h
    rw [e]
    rcases (show gl = 0 ∨ gl = 1 by omega) with rfl | rfl
    · exact ⟨_, by rw [if_pos (by rfl), let_eq], (Gf.rf τ).p (by decide) _, by rw [I_pI_ne (by decide)], by rw [I_pI_ne (by decide)]; exact h, by rw [I_pI_self]; rfl⟩
    · exact ⟨_, by rw [if_neg (by decide), let_eq], (Gf.rf τ).p (by decide) _, by rw [I_pI_ne (by decide)], by rw [I_pI_ne (by decide)]; exact h, by rw [I_pI_self]; rfl⟩
  induction r with
  | zero =>
    intro p m τ hp hm w h
    obtain ⟨m, rfl⟩ : ∃ z, m = z + 1 := ⟨m - 1, by omega⟩
    rw [fx_succ]
    unfold b_X10_goesOn_108
    rw [m_here w h (by omega), bd_some, if_neg (show ¬ p < ln by omega), show (97 : Int64) = lN 97 from rfl, show (122 : Int64) = lN 122 from rfl, in_m1 τ (by decide) (by decide), bd_some, if_pos rfl]
    exact fin τ p (rn_stop (by omega)) h
  | succ r ih =>
    intro p m τ hp hm w h
    obtain ⟨m, rfl⟩ : ∃ z, m = z + 1 := ⟨m - 1, by omega⟩
    have hlt : p < ln := by omega
    have h4 := w.2.2.2.1
    have hb := h4.2 p hlt
    rw [fx_succ]
    show ∃ τ1, (bl_bd (f_X10_here τ 139) _) = _ ∧ _
    rw [m_here w h (by omega), bd_some, if_pos hlt, show (97 : Int64) = lN 97 from rfl, show (122 : Int64) = lN 122 from rfl, in_b τ hb (by decide) (by decide), bd_some]
    by_cases hq : isL (b p) = true
    · rw [if_pos ((isL_iff _).mp hq), if_neg (by decide), let_eq, h, nI_1]
      have g1 : Gf τ (bl_pI τ 139 23 (nI (p + 1))) := (Gf.rf τ).p (by decide) _
      obtain ⟨τ1, e1, g2, i1, i2, i3⟩ := ih (p + 1) m _ (by omega) (by omega) (w.gf g1) (I_pI_self _ _ _ _)
      exact ⟨τ1, e1, g1.tr g2, by rw [i1, I_pI_ne (by decide)], by rw [i2, show rn b ln isL p = rn b ln isL (p + 1) from rn_step hlt hq], i3⟩
    · rw [if_neg (fun z => hq ((isL_iff _).mpr z)), if_pos rfl]
      exact fin τ p (rn_stop (fun z => hq z.2)) h
/-- digits -/
theorem m_digs {st gl : Nat} (hgl : gl < 2) : ∀ (r p m : Nat) (τ : bl_St), p + r = ln → st ≤ p → r < m → WM τ b ln → bl_I τ 139 23 = nI p → bl_I τ 139 25 = nI st → bl_I τ 139 26 = nI (vl b st (min 3 (p - st))) → ∃ τ1, bl_fx (fun _ _ _ => none) (b_X10_goesOn_174) m τ 139 (nI gl) = some ((), τ1) ∧ Gf τ τ1 ∧ bl_I τ1 139 25 = nI st ∧ bl_I τ1 139 23 = nI (rn b ln isD p) ∧ bl_I τ1 139 24 = nI (if gl = 1 then 4 else if 3 < rn b ln isD p - st then 4 else 2) ∧ bl_I τ1 139 26 = nI (vl b st (min 3 (rn b ln isD p - st))) := by
  intro r
  have fin : ∀ (τ : bl_St) (p : Nat), rn b ln isD p = p → p ≤ 400 → st ≤ p → bl_I τ 139 23 = nI p → bl_I τ 139 25 = nI st → bl_I τ 139 26 = nI (vl b st (min 3 (p - st))) → ∃ τ1, (if nI gl = 0 then (if bl_I τ 139 23 - bl_I τ 139 25 ≤ 3 then (bl_let (bl_pI τ 139 24 2) fun σ14 => (some ((), σ14) : Option (Unit × bl_St))) else bl_let (bl_pI τ 139 24 4) fun σ16 => some ((), σ16)) else bl_let (bl_pI τ 139 24 4) fun σ11 => some ((), σ11)) = some ((), τ1) ∧ Gf τ τ1 ∧ bl_I τ1 139 25 = nI st ∧ bl_I τ1 139 23 = nI (rn b ln isD p) ∧ bl_I τ1 139 24 = nI (if gl = 1 then 4 else if 3 < rn b ln isD p - st then 4 else 2) ∧ bl_I τ1 139 26 = nI (vl b st (min 3 (rn b ln isD p - st))) := by
    intro τ p e hp hs h h2 h3
    rw [e, h, h2, nI_sub hs]
    have mk : ∀ x : Int32, Gf τ (bl_pI τ 139 24 x) ∧ bl_I (bl_pI τ 139 24 x) 139 25 = nI st ∧ bl_I (bl_pI τ 139 24 x) 139 23 = nI p ∧ bl_I (bl_pI τ 139 24 x) 139 26 = nI (vl b st (min 3 (p - st))) := fun x => ⟨(Gf.rf τ).p (by decide) _, by rw [I_pI_ne (by decide)]; exact h2, by rw [I_pI_ne (by decide)]; exact h, by rw [I_pI_ne (by decide)]; exact h3⟩
    rcases (show gl = 0 ∨ gl = 1 by omega) with rfl | rfl
    · rw [if_pos (by rfl), if_neg (show ¬ 0 = 1 by decide)]
      by_cases c : 3 < p - st
      · rw [if_neg (show ¬ nI (p - st) ≤ 3 from nI_ge (a := 3) c (by omega)), let_eq, if_pos c]
        exact ⟨_, rfl, (mk _).1, (mk _).2.1, (mk _).2.2.1, I_pI_self _ _ _ _, (mk _).2.2.2⟩
      · rw [if_pos (show nI (p - st) ≤ 3 from nI_le (b := 3) (by omega) (by decide)), let_eq, if_neg c]
        exact ⟨_, rfl, (mk _).1, (mk _).2.1, (mk _).2.2.1, I_pI_self _ _ _ _, (mk _).2.2.2⟩
    · rw [if_neg (by decide), if_pos rfl, let_eq]
      exact ⟨_, rfl, (mk _).1, (mk _).2.1, (mk _).2.2.1, I_pI_self _ _ _ _, (mk _).2.2.2⟩
  induction r with
  | zero =>
    intro p m τ hp hs hm w h h2 h3
    obtain ⟨m, rfl⟩ : ∃ z, m = z + 1 := ⟨m - 1, by omega⟩
    have h4 := w.2.2.2.1.1
    rw [fx_succ]
    show ∃ τ1, (bl_bd (f_X10_here τ 139) _) = _ ∧ _
    rw [m_here w h (by omega), bd_some, if_neg (show ¬ p < ln by omega), show (48 : Int64) = lN 48 from rfl, show (57 : Int64) = lN 57 from rfl, in_m1 τ (by decide) (by decide), bd_some, if_pos rfl]
    exact fin τ p (rn_stop (by omega)) (by omega) hs h h2 h3
  | succ r ih =>
    intro p m τ hp hs hm w h h2 h3
    obtain ⟨m, rfl⟩ : ∃ z, m = z + 1 := ⟨m - 1, by omega⟩
    have hlt : p < ln := by omega
    have h4 := w.2.2.2.1
    have hb := h4.2 p hlt
    rw [fx_succ]
    show ∃ τ1, (bl_bd (f_X10_here τ 139) _) = _ ∧ _
    rw [m_here w h (by omega), bd_some, if_pos hlt, show (48 : Int64) = lN 48 from rfl, show (57 : Int64) = lN 57 from rfl, in_b τ hb (by decide) (by decide), bd_some]
    by_cases hq : isD (b p) = true
    · have hc := (isD_iff _).mp hq
      rw [if_pos hc, if_neg (by decide)]
      rw [show rn b ln isD p = rn b ln isD (p + 1) from rn_step hlt hq]
      by_cases c : 3 ≤ p - st
      · have g1 : Gf τ (bl_pI τ 139 23 (nI (p + 1))) := (Gf.rf τ).p (by decide) _
        obtain ⟨τ1, e1, g2, q⟩ := ih (p + 1) m _ (by omega) (by omega) (by omega) (w.gf g1) (I_pI_self _ _ _ _) (by rw [I_pI_ne (by decide)]; exact h2) (by rw [I_pI_ne (by decide), h3, Nat.min_eq_left c, Nat.min_eq_left (by omega)])
        refine ⟨τ1, ?_, g1.tr g2, q⟩
        rw [h, h2, nI_sub hs, if_pos (show (3 : Int32) ≤ nI (p - st) from nI_le (a := 3) c (by omega))]
        unfold b_X10_goesOn_223
        rw [let_eq, h, nI_1]
        exact e1
      · have ev : (10 : Int32) * nI (vl b st (min 3 (p - st))) + nI (b p) - 48 = nI (vl b st (min 3 (p + 1 - st))) := by
          rw [Nat.min_eq_right (by omega), Nat.min_eq_right (by omega), show (10 : Int32) = nI 10 from rfl, nI_mul, nI_add, show (48 : Int32) = nI 48 from rfl, nI_sub (by omega), show p + 1 - st = (p - st) + 1 by omega]
          show _ = nI (10 * vl b st (p - st) + (b (st + (p - st)) - 48))
          rw [show st + (p - st) = p by omega]
          congr 1
          omega
        have g1 : Gf τ (bl_pI (bl_pI τ 139 26 (nI (vl b st (min 3 (p + 1 - st))))) 139 23 (nI (p + 1))) := ((Gf.rf τ).p (by decide) _).p (by decide) _
        obtain ⟨τ1, e1, g2, q⟩ := ih (p + 1) m _ (by omega) (by omega) (by omega) (w.gf g1) (I_pI_self _ _ _ _) (by rw [I_pI_ne (by decide), I_pI_ne (by decide)]; exact h2) (by rw [I_pI_ne (by decide), I_pI_self])
        refine ⟨τ1, ?_, g1.tr g2, q⟩
        rw [h, h2, nI_sub hs, if_neg (show ¬ (3 : Int32) ≤ nI (p - st) from nI_ge (b := 3) (by omega) (by decide)), m_here w h (by omega), bd_some, if_pos hlt, let_eq, h3, ev]
        unfold b_X10_goesOn_223
        rw [let_eq, I_pI_ne (by decide), h, nI_1]
        exact e1
    · rw [if_neg (fun z => hq ((isD_iff _).mpr z)), if_pos rfl]
      exact fin τ p (rn_stop (fun z => hq z.2)) (by omega) hs h h2 h3
theorem m_tok (w : WM τ b ln) {was gl : Nat} (hp : p ≤ ln) (hgl : gl < 2) (hg : gl = 1 ↔ glu b ln p was) (h23 : bl_I τ 139 23 = nI (nB b ln p)) (h25 : bl_I τ 139 25 = nI (nB b ln p)) : ∃ τ1, b_X10_goesOn_72 τ 139 (nI gl) = some ((), τ1) ∧ Gf τ τ1 ∧ TKN τ1 b ln p was := by
  have h4 := w.2.2.2.1
  have hle : nB b ln p ≤ ln := rn_le hp
  have eg : ∀ (x y : Nat), (if gl = 1 then x else y) = if glu b ln p was then x else y := fun x y => by
    by_cases c : gl = 1
    · rw [if_pos c, if_pos (hg.mp c)]
    · rw [if_neg c, if_neg (fun z => c (hg.mpr z))]
  unfold b_X10_goesOn_72 TKN tok spt
  rw [m_here w h23 hle, bd_some]
  by_cases c1 : ln ≤ nB b ln p
  · rw [if_neg (show ¬ nB b ln p < ln by omega), if_pos rfl, let_eq, if_pos c1, if_pos c1]
    exact ⟨_, rfl, (Gf.rf τ).p (by decide) _, by rw [I_pI_ne (by decide)]; exact h25, I_pI_self _ _ _ _, by rw [I_pI_ne (by decide)]; exact h23, fun z => absurd z (by decide)⟩
  have hlt : nB b ln p < ln := by omega
  have hb := h4.2 _ hlt
  rw [if_pos hlt, if_neg (m1_ne (by omega)), if_neg c1, if_neg c1, show (97 : Int64) = lN 97 from rfl, show (122 : Int64) = lN 122 from rfl, in_b τ hb (by decide) (by decide), bd_some]
  by_cases c2 : isL (b (nB b ln p)) = true
  · rw [if_pos ((isL_iff _).mp c2), if_neg (by decide), if_pos c2, if_pos c2]
    obtain ⟨τ1, e1, g1, i1, i2, i3⟩ := m_lets (b := b) (st := 0) hgl (ln - nB b ln p) (nB b ln p) bl_fu τ (by omega) (by unfold bl_fu; omega) w h23
    refine ⟨τ1, e1, g1, by rw [i1]; exact h25, by rw [i3, eg], i2, fun z => absurd z ?_⟩
    split <;> decide
  rw [if_neg (fun z => c2 ((isL_iff _).mpr z)), if_pos rfl, if_neg c2, if_neg c2, show (48 : Int64) = lN 48 from rfl, show (57 : Int64) = lN 57 from rfl, in_b τ hb (by decide) (by decide), bd_some]
  by_cases c3 : isD (b (nB b ln p)) = true
  · rw [if_pos ((isD_iff _).mp c3), if_neg (by decide), if_pos c3, if_pos c3, let_eq]
    have g0 : Gf τ (bl_pI τ 139 26 0) := (Gf.rf τ).p (by decide) _
    obtain ⟨τ1, e1, g1, i1, i2, i3, i4⟩ := m_digs (b := b) (st := nB b ln p) hgl (ln - nB b ln p) (nB b ln p) bl_fu _ (by omega) (Nat.le_refl _) (by unfold bl_fu; omega) (w.gf g0) (by rw [I_pI_ne (by decide)]; exact h23) (by rw [I_pI_ne (by decide)]; exact h25) (by rw [I_pI_self, Nat.sub_self]; rfl)
    refine ⟨τ1, e1, g0.tr g1, i1, by rw [i3, eg], i2, fun z => ?_⟩
    have hn : ¬ 3 < nE b ln p - nB b ln p := fun c => by
      split at z
      · exact absurd z (by decide)
      · exact absurd z (by decide)
    rw [i4, Nat.min_eq_right (by show nE b ln p - nB b ln p ≤ 3; omega)]
  rw [if_neg (fun z => c3 ((isD_iff _).mpr z)), if_pos rfl, if_neg c3, if_neg c3, let_eq, h23, nI_1]
  by_cases c4 : b (nB b ln p) = 59
  · rw [if_pos (show nI (b (nB b ln p)) = 59 by rw [c4]; rfl), let_eq, if_pos c4]
    exact ⟨_, rfl, ((Gf.rf τ).p (by decide) _).p (by decide) _, by rw [I_pI_ne (by decide), I_pI_ne (by decide)]; exact h25, I_pI_self _ _ _ _, by rw [I_pI_ne (by decide), I_pI_self], fun z => absurd z (by decide)⟩
  · rw [if_neg (show ¬ nI (b (nB b ln p)) = 59 from fun z => c4 (nI_inj (by omega) (by decide) z)), let_eq, if_neg c4]
    exact ⟨_, rfl, ((Gf.rf τ).p (by decide) _).p (by decide) _, by rw [I_pI_ne (by decide), I_pI_ne (by decide)]; exact h25, I_pI_self _ _ _ _, by rw [I_pI_ne (by decide), I_pI_self], fun z => absurd z (by decide)⟩
theorem m_goesOn (w : WM τ b ln) {was : Nat} (hw : was < 5) (hp : p ≤ ln) (h23 : bl_I τ 139 23 = nI p) (h24 : bl_I τ 139 24 = nI was) : ∃ τ1, f_X10_goesOn τ 139 = some ((), τ1) ∧ Gf τ τ1 ∧ TKN τ1 b ln p was := by
  have h4 := w.2.2.2.1
  have l10 : ∀ (r q m : Nat) (ρ : bl_St), q + r = ln → p ≤ q → r < m → Gf τ ρ → nB b ln q = nB b ln p → bl_I ρ 139 23 = nI q → ∃ τ1, bl_fx (fun _ _ _ _ => none) (b_X10_goesOn_10) m ρ 139 (nI was) (nI p) = some ((), τ1) ∧ Gf τ τ1 ∧ TKN τ1 b ln p was := by
    intro r
    have fin : ∀ (ρ : bl_St) (q : Nat), q ≤ ln → Gf τ ρ → nB b ln p = q → bl_I ρ 139 23 = nI q → ∃ τ1, (bl_let (bl_pI ρ 139 25 (bl_I ρ 139 23)) fun σ71 => if bl_I σ71 139 25 = nI p then (if nI was = 1 then b_X10_goesOn_67 σ71 139 else if nI was = 2 then b_X10_goesOn_67 σ71 139 else b_X10_goesOn_71 σ71 139) else b_X10_goesOn_71 σ71 139) = some ((), τ1) ∧ Gf τ τ1 ∧ TKN τ1 b ln p was := by
      intro ρ q hq g e h
      have g2 : Gf ρ (bl_pI ρ 139 25 (nI q)) := (Gf.rf ρ).p (by decide) _
      have go : ∀ gl, gl < 2 → (gl = 1 ↔ glu b ln p was) → ∃ τ1, b_X10_goesOn_72 (bl_pI ρ 139 25 (nI q)) 139 (nI gl) = some ((), τ1) ∧ Gf τ τ1 ∧ TKN τ1 b ln p was := fun gl hgl hg => by
        obtain ⟨τ1, e1, q1, q2⟩ := m_tok ((w.gf g).gf g2) hp hgl hg (by rw [I_pI_ne (by decide), e]; exact h) (by rw [I_pI_self, e])
        exact ⟨τ1, e1, (g.tr g2).tr q1, q2⟩
      rw [let_eq, h, I_pI_self]
      unfold b_X10_goesOn_67 b_X10_goesOn_71
      by_cases c : q = p
      · rw [if_pos (show nI q = nI p by rw [c])]
        by_cases c1 : was = 1
        · rw [if_pos (show nI was = 1 by rw [c1]; rfl)]
          exact go 1 (by decide) ⟨fun _ => ⟨by rw [e]; exact c, Or.inl c1⟩, fun _ => rfl⟩
        rw [if_neg (show ¬ nI was = 1 from fun z => c1 (nI_inj (by omega) (by decide) z))]
        by_cases c2 : was = 2
        · rw [if_pos (show nI was = 2 by rw [c2]; rfl)]
          exact go 1 (by decide) ⟨fun _ => ⟨by rw [e]; exact c, Or.inr c2⟩, fun _ => rfl⟩
        rw [if_neg (show ¬ nI was = 2 from fun z => c2 (nI_inj (by omega) (by decide) z))]
        exact go 0 (by decide) ⟨fun z => absurd z (by decide), fun z => by rcases z.2 with q | q <;> omega⟩
      · rw [if_neg (show ¬ nI q = nI p from fun z => c (nI_inj (by omega) (by omega) z))]
        exact go 0 (by decide) ⟨fun z => absurd z (by decide), fun z => absurd (e.symm.trans z.1) c⟩
    induction r with
    | zero =>
      intro q m ρ hq hpq hm g e h
      obtain ⟨m, rfl⟩ : ∃ z, m = z + 1 := ⟨m - 1, by omega⟩
      have hh := m_here (w.gf g) h (by omega)
      rw [if_neg (show ¬ q < ln by omega)] at hh
      rw [fx_succ]
      show ∃ τ1, (bl_bd (f_X10_here ρ 139) _) = _ ∧ _
      rw [hh, bd_some, if_neg (by decide), hh, bd_some, if_neg (by decide)]
      exact fin ρ q (by omega) g (by rw [← e]; exact rn_stop (by omega)) h
    | succ r ih =>
      intro q m ρ hq hpq hm g e h
      obtain ⟨m, rfl⟩ : ∃ z, m = z + 1 := ⟨m - 1, by omega⟩
      have hlt : q < ln := by omega
      have hb := h4.2 q hlt
      have hh := m_here (w.gf g) h (by omega)
      rw [if_pos hlt] at hh
      have go : isB (b q) = true → ∃ τ1, b_X10_goesOn_28 (bl_fx (fun _ _ _ _ => none) (b_X10_goesOn_10) m) ρ 139 (nI was) (nI p) = some ((), τ1) ∧ Gf τ τ1 ∧ TKN τ1 b ln p was := fun hz => by
        obtain ⟨τ1, e1, z⟩ := ih (q + 1) m (bl_pI ρ 139 23 (nI (q + 1))) (by omega) (by omega) (by omega) (g.p (by decide) _) (by rw [← e]; exact (rn_step hlt hz).symm) (I_pI_self _ _ _ _)
        refine ⟨τ1, ?_, z⟩
        unfold b_X10_goesOn_28
        rw [let_eq, h, nI_1]
        exact e1
      rw [fx_succ]
      show ∃ τ1, (bl_bd (f_X10_here ρ 139) _) = _ ∧ _
      rw [hh, bd_some]
      by_cases h32 : b q = 32
      · rw [if_pos (show nI (b q) = 32 by rw [h32]; rfl)]
        exact go ((isB_iff _).mpr (Or.inl h32))
      rw [if_neg (show ¬ nI (b q) = 32 from fun z => h32 (nI_inj (by omega) (by decide) z)), hh, bd_some]
      by_cases h10 : b q = 10
      · rw [if_pos (show nI (b q) = 10 by rw [h10]; rfl)]
        exact go ((isB_iff _).mpr (Or.inr h10))
      rw [if_neg (show ¬ nI (b q) = 10 from fun z => h10 (nI_inj (by omega) (by decide) z))]
      exact fin ρ q (by omega) g (by rw [← e]; exact rn_stop (fun z => by rcases (isB_iff _).mp z.2 with q | q <;> omega)) h
  unfold f_X10_goesOn
  rw [let_eq, let_eq, h23, h24]
  exact l10 (ln - p) p bl_fu τ (by omega) (Nat.le_refl _) (by unfold bl_fu; omega) (Gf.rf τ) rfl h23
end LXM
