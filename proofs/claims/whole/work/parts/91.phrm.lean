/-! ===== phrases: the reference's ===== -/
def Mf (τ τ1 : bl_St) : Prop := bl_R τ1 = bl_R τ ∧ bl_J τ1 = bl_J τ ∧ (∀ k, (k < 23 ∨ 27 < k) → bl_I τ1 139 k = bl_I τ 139 k) ∧ ∀ i, i ≠ 139 → i ≠ 141 → bl_I τ1 i = bl_I τ i
theorem Mf.rf (τ : bl_St) : Mf τ τ := ⟨rfl, rfl, fun _ _ => rfl, fun _ _ _ => rfl⟩
theorem Mf.tr {τ τ1 τ2 : bl_St} (h : Mf τ τ1) (h2 : Mf τ1 τ2) : Mf τ τ2 := ⟨h2.1.trans h.1, h2.2.1.trans h.2.1, fun k a => (h2.2.2.1 k a).trans (h.2.2.1 k a), fun i a b => (h2.2.2.2 i a b).trans (h.2.2.2 i a b)⟩
theorem Gf.mf {τ τ1 : bl_St} (g : Gf τ τ1) : Mf τ τ1 := ⟨g.1, g.2.1, fun k h => g.2.2.1 k (by omega) (by omega) (by omega) (by omega), fun i h _ => g.2.2.2 i h⟩
theorem Mf.w {τ τ1 : bl_St} (h : Mf τ τ1) (x : Int32) : Mf τ (bl_pI τ1 139 27 x) := ⟨h.1, h.2.1, fun k a => by rw [I_pI_ne (by omega)]; exact h.2.2.1 k a, fun i a b => by rw [I_pI_o a]; exact h.2.2.2 i a b⟩
theorem Mf.b {τ τ1 : bl_St} (h : Mf τ τ1) (x : Int32) : Mf τ (bl_pI τ1 139 25 x) := ⟨h.1, h.2.1, fun k a => by rw [I_pI_ne (by omega)]; exact h.2.2.1 k a, fun i a b => by rw [I_pI_o a]; exact h.2.2.2 i a b⟩
theorem Mf.r {τ τ1 : bl_St} (h : Mf τ τ1) (k : Nat) (x : Int32) : Mf τ (bl_pI τ1 141 k x) := ⟨h.1, h.2.1, fun k a => by rw [I_pI_o (by decide)]; exact h.2.2.1 k a, fun i a b => by rw [I_pI_o b]; exact h.2.2.2 i a b⟩
def RM (τ : bl_St) (v : tm_V) : Prop := TM τ 141 0 v ∧ ∀ j, 55 ≤ j → j < 167 → bl_I τ 141 j = 0
section PHM
variable {τ τ1 : bl_St} {b : Nat → Nat} {ln p q : Nat} {v : tm_V}
theorem WM.mf (w : WM τ b ln) (g : Mf τ τ1) : WM τ1 b ln :=
  ⟨by rw [g.1]; exact w.1, by rw [g.2.2.1 21 (by decide)]; exact w.2.1, by rw [g.2.2.2 152 (by decide) (by decide)]; exact w.2.2.1, w.2.2.2.1, by rw [g.1]; exact w.2.2.2.2.1, by rw [g.2.2.2 153 (by decide) (by decide)]; exact w.2.2.2.2.2⟩
theorem RM.e (h : RM τ v) (e : bl_I τ1 141 = bl_I τ 141) : RM τ1 v := by
  unfold RM TM at *
  rw [e]
  exact h
theorem TKN.r {was : Nat} (h : TKN τ b ln p was) (k : Nat) (x : Int32) : TKN (bl_pI τ 141 k x) b ln p was := by
  unfold TKN at *
  rw [I_pI_o (by decide)]
  exact h
theorem LD {c : Nat} (h : isL c = true) : ¬ isD c = true := fun z => by
  have h1 := (isL_iff c).mp h
  have h2 := (isD_iff c).mp z
  omega
theorem tok_le (b : Nat → Nat) (ln p was : Nat) : tok b ln p was < 5 := by
  unfold tok
  split; omega
  split
  · split <;> omega
  split
  · split; omega; split <;> omega
  split <;> omega
theorem tok_num {was : Nat} (hw : was = 1 ∨ was = 2) : tok b ln p was = 2 ↔ (p < nB b ln p ∧ nB b ln p < ln ∧ isD (b (nB b ln p)) = true ∧ nE b ln p - nB b ln p ≤ 3) := by
  have hge : p ≤ nB b ln p := rn_ge _ _ _ _
  unfold tok
  by_cases c1 : ln ≤ nB b ln p
  · rw [if_pos c1]
    exact ⟨fun z => absurd z (by decide), fun z => by omega⟩
  rw [if_neg c1]
  by_cases c2 : isL (b (nB b ln p)) = true
  · rw [if_pos c2]
    refine ⟨fun z => ?_, fun z => absurd z.2.2.1 (LD c2)⟩
    split at z <;> exact absurd z (by decide)
  rw [if_neg c2]
  by_cases c3 : isD (b (nB b ln p)) = true
  · rw [if_pos c3]
    by_cases c4 : glu b ln p was
    · rw [if_pos c4]
      exact ⟨fun z => absurd z (by decide), fun z => by have := c4.1; omega⟩
    rw [if_neg c4]
    have hn : nB b ln p ≠ p := fun z => c4 ⟨z, hw⟩
    by_cases c5 : 3 < nE b ln p - nB b ln p
    · rw [if_pos c5]
      exact ⟨fun z => absurd z (by decide), fun z => by omega⟩
    · rw [if_neg c5]
      exact ⟨fun _ => ⟨by omega, by omega, c3, by omega⟩, fun _ => rfl⟩
  · rw [if_neg c3]
    refine ⟨fun z => ?_, fun z => absurd z.2.2.1 c3⟩
    split at z <;> exact absurd z (by decide)
theorem tok_end {was : Nat} : tok b ln p was = 3 ↔ (nB b ln p < ln ∧ b (nB b ln p) = 59) := by
  unfold tok
  by_cases c1 : ln ≤ nB b ln p
  · rw [if_pos c1]
    exact ⟨fun z => absurd z (by decide), fun z => by omega⟩
  rw [if_neg c1]
  by_cases c2 : isL (b (nB b ln p)) = true
  · rw [if_pos c2]
    refine ⟨fun z => ?_, fun z => by have := (isL_iff _).mp c2; omega⟩
    split at z <;> exact absurd z (by decide)
  rw [if_neg c2]
  by_cases c3 : isD (b (nB b ln p)) = true
  · rw [if_pos c3]
    refine ⟨fun z => ?_, fun z => by have := (isD_iff _).mp c3; omega⟩
    split at z
    · exact absurd z (by decide)
    · split at z <;> exact absurd z (by decide)
  rw [if_neg c3]
  by_cases c4 : b (nB b ln p) = 59
  · rw [if_pos c4]
    exact ⟨fun _ => ⟨by omega, c4⟩, fun _ => rfl⟩
  · rw [if_neg c4]
    exact ⟨fun z => absurd z (by decide), fun z => absurd z.2 c4⟩
theorem spt_end (h : nB b ln p < ln ∧ b (nB b ln p) = 59) : spt b ln p = nB b ln p + 1 := by
  unfold spt
  rw [if_neg (by omega), if_neg (fun z => by have := (isL_iff _).mp z; omega), if_neg (fun z => by have := (isD_iff _).mp z; omega)]
theorem spt_num (h : nB b ln p < ln) (h2 : isD (b (nB b ln p)) = true) : spt b ln p = nE b ln p := by
  unfold spt
  rw [if_neg (by omega), if_neg (fun z => LD z h2), if_pos h2]
theorem tok_w (h : nB b ln q < ln) (h2 : isL (b (nB b ln q)) = true) : tok b ln q 3 = 1 ∧ spt b ln q = rn b ln isL (nB b ln q) := by
  have hg : ¬ glu b ln q 3 := fun z => by rcases z.2 with q | q <;> omega
  refine ⟨?_, ?_⟩
  · unfold tok
    rw [if_neg (by omega), if_pos h2, if_neg hg]
  · unfold spt
    rw [if_neg (by omega), if_pos h2]
theorem tok_nw (h2 : ¬ isL (b (nB b ln q)) = true) : tok b ln q 3 ≠ 1 := by
  unfold tok
  intro z
  split at z
  · exact absurd z (by decide)
  · split at z
    · split at z
      · exact absurd z (by decide)
      · split at z <;> exact absurd z (by decide)
    · split at z <;> exact absurd z (by decide)
/-- a number is needed -/
theorem m_needs (w : WM τ b ln) {was : Nat} (hw : was = 1 ∨ was = 2) (T : TKN τ b ln p was) (h27 : bl_I τ 139 27 = 0) (hp : p ≤ ln) {lo hi : Nat} (hlo : lo ≤ 999) (hhi : hi ≤ 999) : (nOk b ln p lo hi → ∃ τ1, f_X10_needsNumber τ 139 (nI lo) (nI hi) = some (nI (nV b ln p), τ1) ∧ Gf τ τ1 ∧ TKN τ1 b ln (nE b ln p) 2) ∧ (¬ nOk b ln p lo hi → f_X10_needsNumber τ 139 (nI lo) (nI hi) = some (nI lo, bl_pI τ 139 27 1)) := by
  have htk := tok_le b ln p was
  have hle : nB b ln p ≤ ln := rn_le hp
  have h4 := w.2.2.2.1.1
  unfold f_X10_needsNumber
  rw [h27, if_pos rfl, T.2.1]
  by_cases c1 : tok b ln p was = 2
  · have c1' := (tok_num hw).mp c1
    have hV : nV b ln p ≤ 999 := vl_3 c1'.2.2.2 (fun i hi => ((isD_iff _).mp (rn_in (b := b) (ln := ln) (Q := isD) (p := nB b ln p) (i := nB b ln p + i) (by omega) (by show nB b ln p + i < nE b ln p; omega))).2)
    rw [if_pos (show nI (tok b ln p was) = 2 by rw [c1]; rfl), T.2.2.2 c1, i2l_nI (a := lo) (by omega), i2l_nI (a := hi) (by omega), m_inN τ (nI (nV b ln p)) (by omega) (by omega), bd_some]
    by_cases c2 : lo ≤ nV b ln p ∧ nV b ln p ≤ hi
    · have hv : vR (nI (nV b ln p)) lo hi := by
        unfold vR
        rw [nI_toInt (by omega)]
        omega
      rw [if_pos hv, if_neg (by decide), let_eq]
      obtain ⟨τ1, e1, g1, t1⟩ := m_goesOn (p := nE b ln p) (was := 2) w (by decide) (rn_le hle) (by rw [T.2.2.1, spt_num c1'.2.1 c1'.2.2.1]) (by rw [T.2.1, c1])
      rw [e1, bd_some]
      exact ⟨fun _ => ⟨τ1, by rw [T.2.2.2 c1], g1, t1⟩, fun z => absurd ⟨c1'.1, c1'.2.1, c1'.2.2.1, c1'.2.2.2, c2.1, c2.2⟩ z⟩
    · have hv : ¬ vR (nI (nV b ln p)) lo hi := by
        unfold vR
        rw [nI_toInt (by omega)]
        omega
      rw [if_neg hv, if_pos rfl, let_eq]
      exact ⟨fun z => absurd ⟨z.2.2.2.2.1, z.2.2.2.2.2⟩ c2, fun _ => rfl⟩
  · rw [if_neg (show ¬ nI (tok b ln p was) = 2 from fun z => c1 (nI_inj (by omega) (by decide) z)), let_eq]
    exact ⟨fun z => absurd ((tok_num hw).mpr ⟨z.1, z.2.1, z.2.2.1, z.2.2.2.1⟩) c1, fun _ => rfl⟩
theorem m_needsW (h27 : bl_I τ 139 27 = 1) (lo hi : Int32) : f_X10_needsNumber τ 139 lo hi = some (lo, bl_pI τ 139 27 1) := by
  unfold f_X10_needsNumber
  rw [h27, if_neg (by decide), let_eq]
/-- a word is taken -/
theorem m_takes (w : WM τ b ln) (T : TKN τ b ln q 3) (h27 : bl_I τ 139 27 = 0) (hq : nB b ln q = p) (hp : p < ln) {j : Nat} (hj : j < 5) : (wM b p (rn b ln isL p) j → ∃ τ1, f_X10_takesWord τ 139 (nI j) = some (1, τ1) ∧ Gf τ τ1 ∧ TKN τ1 b ln (rn b ln isL p) 1) ∧ (¬ wM b p (rn b ln isL p) j → f_X10_takesWord τ 139 (nI j) = some (0, τ)) := by
  have h4 := w.2.2.2.1
  have htk := tok_le b ln q 3
  have hge : p ≤ rn b ln isL p := rn_ge _ _ _ _
  have hle : rn b ln isL p ≤ ln := rn_le (by omega)
  have em : mwd j = wd5 j := by
    show bl_tc.getD (mx j) [] = _
    unfold mx
    rw [if_neg (by omega), if_neg (by omega)]
  have hat := wd_at j (by omega)
  have hen := wd_end j (by omega)
  rw [em] at hat hen
  have h3 : ∀ j, j < 5 → 3 ≤ (wd5 j).length := by decide
  have hl3 := h3 j hj
  unfold f_X10_takesWord
  rw [h27, if_pos rfl, T.2.1]
  by_cases c : isL (b p) = true
  · obtain ⟨k1, k2⟩ := tok_w (b := b) (ln := ln) (q := q) (by rw [hq]; exact hp) (by rw [hq]; exact c)
    rw [hq] at k2
    rw [if_pos (show nI (tok b ln q 3) = 1 by rw [k1]; rfl), m_wordFrom w.2.2.2.2 (show j < 8 by omega), bd_some]
    have t25 := T.1
    rw [hq] at t25
    have t23 := T.2.2.1
    rw [k2] at t23
    have t24 := T.2.1
    rw [k1] at t24
    obtain ⟨e, he⟩ : ∃ e, e = rn b ln isL p := ⟨_, rfl⟩
    rw [← he] at hge hle t23 ⊢
    have b66 : ∀ k, k ≤ 50 → p + k ≠ e → b_X10_takesWord_66 τ 139 (nI (pw.getD j 0)) (nI k) = some (0, τ) := fun k hk hne => by
      unfold b_X10_takesWord_66
      rw [t25, t23, nI_add, if_neg (fun z => hne (nI_inj (by omega) (by omega) z))]
    have l25 : ∀ (r k m : Nat), p + k + r = e → k ≤ (wd5 j).length → r < m → (∀ i, i < k → nI (b (p + i)) = (wd5 j).getD i 0) → (wM b p e j → ∃ τ1, bl_fx (fun _ _ _ _ => none) (b_X10_takesWord_25) m τ 139 (nI (pw.getD j 0)) (nI k) = some (1, τ1) ∧ Gf τ τ1 ∧ TKN τ1 b ln e 1) ∧ (¬ wM b p e j → bl_fx (fun _ _ _ _ => none) (b_X10_takesWord_25) m τ 139 (nI (pw.getD j 0)) (nI k) = some (0, τ)) := by
      intro r
      induction r with
      | zero =>
        intro k m hk hkl hm hmt
        obtain ⟨m, rfl⟩ : ∃ z, m = z + 1 := ⟨m - 1, by omega⟩
        have e0 : bl_fx (fun _ _ _ _ => none) (b_X10_takesWord_25) (m + 1) τ 139 (nI (pw.getD j 0)) (nI k) = b_X10_takesWord_66 τ 139 (nI (pw.getD j 0)) (nI k) := by
          rw [fx_succ]
          show (if bl_I τ 139 23 ≤ bl_I τ 139 25 + nI k then _ else _) = _
          rw [t23, t25, nI_add, if_pos (nI_le (by omega) (by omega))]
        rw [e0]
        unfold b_X10_takesWord_66
        rw [t25, t23, nI_add, if_pos (show nI (p + k) = nI e by rw [show p + k = e by omega]), nI_add, in_nI (show pw.getD j 0 + k < 45 by omega) (by decide), gd_true, w.2.2.2.2.1, nI_clamp (by omega), w.2.2.2.2.2 _ (by omega)]
        by_cases ck : k = (wd5 j).length
        · rw [ck, hen.1, if_pos rfl]
          obtain ⟨τ1, e1, g1, t1⟩ := m_goesOn (p := e) (was := 1) w (by decide) hle t23 t24
          rw [e1, bd_some]
          exact ⟨fun _ => ⟨τ1, rfl, g1, t1⟩, fun z => absurd ⟨by omega, fun i hi => hmt i (by omega)⟩ z⟩
        · have hq := hat k (by omega)
          rw [hq.1, if_neg hq.2]
          exact ⟨fun z => by have := z.1; omega, fun _ => rfl⟩
      | succ r ih =>
        intro k m hk hkl hm hmt
        obtain ⟨m, rfl⟩ : ∃ z, m = z + 1 := ⟨m - 1, by omega⟩
        have hbk : isL (b (p + k)) = true := rn_in (b := b) (ln := ln) (Q := isL) (p := p) (by omega) (by rw [← he]; omega)
        have hbv := (isL_iff _).mp hbk
        have e0 : bl_fx (fun _ _ _ _ => none) (b_X10_takesWord_25) (m + 1) τ 139 (nI (pw.getD j 0)) (nI k) = if bl_wd.getD (pw.getD j 0 + k) 0 = nI (b (p + k)) then bl_fx (fun _ _ _ _ => none) (b_X10_takesWord_25) m τ 139 (nI (pw.getD j 0)) (nI (k + 1)) else b_X10_takesWord_66 τ 139 (nI (pw.getD j 0)) (nI k) := by
          rw [fx_succ]
          show (if bl_I τ 139 23 ≤ bl_I τ 139 25 + nI k then _ else _) = _
          rw [t23, t25, nI_add, if_neg (nI_ge (by omega) (by omega)), nI_add, in_nI (show pw.getD j 0 + k < 45 by omega) (by decide), gd_true, in_nI (show p + k < 400 by omega) (by decide), gd_true, w.2.2.2.2.1, w.1.2, nI_clamp (by omega), nI_clamp (by omega), w.2.2.2.2.2 _ (by omega), w.2.2.1 _ (by omega), let_eq, nI_1]
        rw [e0]
        by_cases ck : k = (wd5 j).length
        · rw [ck, hen.1, if_neg (fun z => by
            rw [← ck] at z
            have z : nI 0 = nI (b (p + k)) := z
            have := nI_inj (by decide) (by omega) z
            omega), ← ck, b66 k (by omega) (by omega)]
          exact ⟨fun z => by have := z.1; omega, fun _ => rfl⟩
        · have hq := hat k (by omega)
          rw [hq.1]
          by_cases cm : nI (b (p + k)) = (wd5 j).getD k 0
          · rw [if_pos cm.symm]
            exact ih (k + 1) m (by omega) (by omega) (by omega) (fun i hi => by
              by_cases hik : i = k
              · rw [hik]; exact cm
              · exact hmt i (by omega))
          · rw [if_neg (fun z => cm z.symm), b66 k (by omega) (by omega)]
            exact ⟨fun z => absurd (z.2 k (by omega)) cm, fun _ => rfl⟩
    exact l25 (e - p) 0 bl_fu (by omega) (by omega) (by unfold bl_fu; omega) (fun i hi => absurd hi (Nat.not_lt_zero i))
  · have hn := tok_nw (b := b) (ln := ln) (q := q) (by rw [hq]; exact c)
    rw [if_neg (show ¬ nI (tok b ln q 3) = 1 from fun z => hn (nI_inj (by omega) (by decide) z))]
    have e1 : rn b ln isL p = p := rn_stop (fun z => c z.2)
    exact ⟨fun z => by have := z.1; rw [e1] at this; omega, fun _ => rfl⟩
/-- the phrase's end -/
theorem m_113w (h27 : bl_I τ 139 27 = 1) : b_X10_readsOne_113 τ 139 = some ((), τ) := by
  unfold b_X10_readsOne_113
  rw [h27, if_neg (by decide)]
theorem m_113 (w : WM τ b ln) (T : TKN τ b ln p 2) (h27 : bl_I τ 139 27 = 0) (hp : p ≤ ln) : (nB b ln p < ln ∧ b (nB b ln p) = 59 → ∃ τ1, b_X10_readsOne_113 τ 139 = some ((), τ1) ∧ Gf τ τ1 ∧ TKN τ1 b ln (nB b ln p + 1) 3) ∧ (¬ (nB b ln p < ln ∧ b (nB b ln p) = 59) → b_X10_readsOne_113 τ 139 = some ((), bl_pI τ 139 27 1)) := by
  have htk := tok_le b ln p 2
  unfold b_X10_readsOne_113
  rw [h27, if_pos rfl, T.2.1]
  by_cases c : nB b ln p < ln ∧ b (nB b ln p) = 59
  · have c1 := (tok_end (was := 2)).mpr c
    obtain ⟨τ1, e1, g1, t1⟩ := m_goesOn (p := nB b ln p + 1) (was := 3) w (by decide) (by omega) (by rw [T.2.2.1, spt_end c]) (by rw [T.2.1, c1])
    rw [if_pos (show nI (tok b ln p 2) = 3 by rw [c1]; rfl), e1, bd_some]
    exact ⟨fun _ => ⟨τ1, rfl, g1, t1⟩, fun z => absurd c z⟩
  · have c1 : tok b ln p 2 ≠ 3 := fun z => c (tok_end.mp z)
    rw [if_neg (show ¬ nI (tok b ln p 2) = 3 from fun z => c1 (nI_inj (by omega) (by decide) z)), let_eq]
    exact ⟨fun z => absurd z c, fun _ => rfl⟩
end PHM
