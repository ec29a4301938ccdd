/-! the class's lives, on -/
section XLG
variable {σ : bl_St} {v : tm_V} {l : lf_V} {a t : Nat}
theorem x_passChance (hT : TX σ t v) (ok : TOk v) (hX : LX σ a l) (hP : lP l < tN v) (hG : lG l < tH v) (hC : lC l ≤ 4) (hE : lE l ≤ 20000) (ho : lO l = 1) (hsep : t + 3 < a ∨ a + 2 < t) :
    ∃ σ1, f_X2_passChance σ a t = some (nI (tH v - (lG l + 1)), σ1) ∧ Kq (fun i => a ≤ i ∧ i ≤ a + 2) σ σ1 ∧ LX σ1 a (lPass v l) := by
  have hH := ok.2.2.2.1
  obtain ⟨σ2, e2⟩ : ∃ z, z = bl_pI σ a 2 (nI (lG l + 1)) := ⟨_, rfl⟩
  have k2 : Kq (fun i => a ≤ i ∧ i ≤ a + 2) σ σ2 := by rw [e2]; exact (Kq.rf _ σ).pI (by omega) _ _
  have hT2 := hT.kq k2 (fun i h1 h2 h3 => by omega)
  have i2 : bl_I σ2 a 2 = nI (lG l + 1) := by rw [e2, I_pI_self]
  have hX2 : LX σ2 a ((lP l, lO l, lG l + 1, lC l, lU l), l.2) := by
    obtain ⟨⟨r1, r2⟩, ⟨a0, a1, a2, a3, a4⟩, b, ⟨c1, c2, c3, c4, c5, c6, c7⟩, d1, d2⟩ := hX
    have o1 : bl_I σ2 (a + 1) = bl_I σ (a + 1) := by rw [e2]; funext b; simp [I_pI]
    have o2 : bl_I σ2 (a + 2) = bl_I σ (a + 2) := by rw [e2]; funext b; simp [I_pI]
    have io : ∀ k, k ≠ 2 → bl_I σ2 a k = bl_I σ a k := fun k hk => by rw [e2, I_pI_ne hk]
    refine ⟨by rw [e2]; exact ⟨r1, r2⟩, ⟨by rw [io 0 (by decide)]; exact a0, by rw [io 1 (by decide)]; exact a1, i2, by rw [io 3 (by decide)]; exact a3, by rw [io 4 (by decide)]; exact a4⟩, fun h => by rw [io 5 (by decide)]; exact b h, ?_, by rw [o1]; exact d1, by rw [o2]; exact d2⟩
    rw [io 6 (by decide), io 7 (by decide), io 8 (by decide), io 9 (by decide), io 10 (by decide), io 11 (by decide), io 12 (by decide)]
    exact ⟨c1, c2, c3, c4, c5, c6, c7⟩
  have hb : f_X2_passChance σ a t = (if 0 < nI (tH v - (lG l + 1)) then some (nI (tH v - (lG l + 1)), σ2) else bl_bd (f_X2_endYear σ2 a t) fun _ σ10 => some (nI (tH v - (lG l + 1)), σ10)) := by
    unfold f_X2_passChance
    rw [let_eq, hX.2.1.2.2.1, nI_1, ← e2, x_chances hT2, bd_some, let_eq, i2, nI_sub (by omega)]
  unfold lPass
  rw [hb]
  by_cases hlt : lG l + 1 < tH v
  · rw [if_pos hlt, if_pos (show (0 : Int32) < nI (tH v - (lG l + 1)) from nI_lt (a := 0) (by omega) (by omega))]
    exact ⟨σ2, rfl, k2, hX2⟩
  · rw [if_neg hlt, if_neg (show ¬ (0 : Int32) < nI (tH v - (lG l + 1)) by rw [show tH v - (lG l + 1) = 0 by omega]; decide)]
    -- endYear reads neither gone nor the chances
    obtain ⟨⟨r1, r2⟩, ⟨a0, a1, a2, a3, a4⟩, b, ⟨c1, c2, c3, c4, c5, c6, c7⟩, d1, d2⟩ := hX2
    obtain ⟨σ3, p1, p2, p3, p4⟩ := x_putEntry d2 (show lE l < 2 ^ 31 - 1 by omega) (lP l) (lY l) (lC l)
    have q0 := (p2 a (by omega)).1
    have q1 := (p2 (a + 1) (by omega)).1
    obtain ⟨σ1, e1⟩ : ∃ z, z = bl_pI (bl_pI (bl_pI (bl_pI (bl_pI (bl_pI (bl_pI σ3 a 6 (nI (lE l + 1))) a 0 (nI (tB v (lP l) (lC l)))) a 1 0) a 2 0) a 3 0) a 4 0) a 5 0 := ⟨_, rfl⟩
    have k3 : Kq (fun i => a ≤ i ∧ i ≤ a + 2) σ (bl_pI σ3 a 6 (nI (lE l + 1))) := (k2.tr (p2.mono (fun i hi => by omega))).pI (by omega) _ _
    have ks : Kq (fun i => a ≤ i ∧ i ≤ a + 2) σ σ1 := by rw [e1]; exact (((((k3.pI (by omega) _ _).pI (by omega) _ _).pI (by omega) _ _).pI (by omega) _ _).pI (by omega) _ _).pI (by omega) _ _
    refine ⟨σ1, ?_, ks, ?_⟩
    · unfold f_X2_endYear f_X2_leaveYear
      have z1 : bl_I σ2 a 5 = nI (lY l) := b ho
      have z2 : bl_I σ2 a 6 = nI (lE l) := c1
      have z3 : bl_I σ2 a 0 = nI (lP l) := a0
      have z4 : bl_I σ2 a 3 = nI (lC l) := a3
      rw [r2, z2, z3, z1, z4, p1, bd_some, let_eq, q0, z2, nI_1]
      have f1 : bl_I (bl_pI σ3 a 6 (nI (lE l + 1))) a 0 = nI (lP l) := by rw [I_pI_ne (by decide), q0, z3]
      have f3 : bl_I (bl_pI σ3 a 6 (nI (lE l + 1))) a 3 = nI (lC l) := by rw [I_pI_ne (by decide), q0, z4]
      rw [f1, f3, x_next (hT.kq k3 (fun i h1 h2 h3 => by omega)) ok hP (by omega), bd_some, e1]
      rfl
    · have hR : bl_R σ1 = bl_R σ2 := by rw [e1]; exact p3
      have o1 : bl_I σ1 (a + 1) = bl_I σ2 (a + 1) := by rw [e1]; funext b; simp [I_pI, q1]
      have o2 : bl_I σ1 (a + 2) = bl_I σ3 (a + 2) := by rw [e1]; funext b; simp [I_pI]
      refine ⟨⟨by rw [hR]; exact r1, by rw [hR]; exact r2⟩, ?_, ?_, ?_, by rw [o1]; exact d1, by rw [o2]; exact p4⟩
      · rw [e1]
        simp only [I_pI]
        simp [lEnd]
        rfl
      · intro h
        exact absurd h (by simp [lEnd])
      · rw [e1]
        simp only [I_pI]
        simp only [lpp, lpg, lpt, lpb, lT, lB] at c2 c3 c4 c5 c6 c7
        simp [lEnd, q0, c2, c3, c4, c5, c6, c7]
theorem x_takeLoss {s d : Nat} (hT : TX σ t v) (ok : TOk v) (hX : LX σ a l) (hTB : lT l + lB l ≤ 60000) (hU : lU l ≤ 1) (ho : lO l = 1) (hs : s < tK v) (hd : d < 2) (hsep : t + 3 < a ∨ a + 2 < t) :
    ∃ σ1, f_X2_takeLoss σ a t (nI s) (nI d) = some (nI (lPaid v s d), σ1) ∧ Kq (fun i => a ≤ i ∧ i ≤ a + 2) σ σ1 ∧ LX σ1 a (lLoss v l s d) := by
  obtain ⟨⟨r1, r2⟩, ⟨a0, a1, a2, a3, a4⟩, b, ⟨c1, c2, c3, c4, c5, c6, c7⟩, d1, d2⟩ := hX
  obtain ⟨σ2, p1, p2, p3, p4⟩ := x_putEntry d1 (show lT l + lB l < 2 ^ 31 - 1 by omega) (lE l) s d
  have q0 := (p2 a (by omega)).1
  have q2 := (p2 (a + 2) (by omega)).1
  have k2 : Kq (fun i => a ≤ i ∧ i ≤ a + 2) σ σ2 := p2.mono (fun i hi => by omega)
  have hT2 := hT.kq k2 (fun i h1 h2 h3 => by omega)
  have q0s : ∀ k, bl_I σ2 a k = bl_I σ a k := fun k => by rw [q0]
  have R2 : bl_R σ2 a = bl_R σ a := by rw [p3]
  rcases (show d = 0 ∨ d = 1 by omega) with rfl | rfl
  · obtain ⟨σ1, e1⟩ : ∃ z, z = bl_pI (bl_pI (bl_pI σ2 a 5 (nI (lY l + tS v (2 * s)))) a 12 (nI (lB l + 1))) a 10 (lpb l + nI (tS v (2 * s))) := ⟨_, rfl⟩
    refine ⟨σ1, ?_, by rw [e1]; exact ((k2.pI (by omega) _ _).pI (by omega) _ _).pI (by omega) _ _, ?_⟩
    · unfold f_X2_takeLoss b_X2_takeLoss_27 b_X2_takeLoss_48
      rw [if_pos (by rfl), c6, c7, nI_add, r1, c1, show (0 : Int32) = nI 0 from rfl, p1, bd_some, if_pos rfl, x_sortPart hT2 ok hs (by decide), bd_some, let_eq, if_pos rfl, let_eq, let_eq, e1, Nat.add_zero]
      simp only [I_pI]
      simp [q0s, b ho, c7, c5, nI_add, nI_1, lPaid]
    · have o1 : bl_I σ1 (a + 1) = bl_I σ2 (a + 1) := by rw [e1]; funext b; simp [I_pI]
      have o2 : bl_I σ1 (a + 2) = bl_I σ (a + 2) := by rw [e1]; funext b; simp [I_pI, q2]
      have hR : bl_R σ1 a = bl_R σ a := by rw [e1]; exact R2
      have el : lLoss v l s 0 = ((lP l, lO l, lG l, lC l, lU l), (lY l + tS v (2 * s), lE l, lT l, lB l + 1), (lpp l, lpg l, lpt l, lpb l + nI (tS v (2 * s))), cns (lE l) s 0 (lBk l), lLg l) := rfl
      rw [el]
      refine ⟨⟨by rw [hR]; exact r1, by rw [hR]; exact r2⟩, ?_, ?_, ?_, by rw [o1]; exact p4, by rw [o2]; exact d2⟩
      · rw [e1]
        simp only [I_pI]
        simp [q0s, a0, a1, a2, a3, a4]
      · intro h
        rw [e1]
        simp only [I_pI]
        simp
      · rw [e1]
        simp only [I_pI]
        simp [q0s, c1, c2, c3, c4, c5, c6, c7]
  · obtain ⟨σ3, e3⟩ : ∃ z, z = bl_pI (bl_pI (bl_pI σ2 a 5 (nI (lY l + tP v s))) a 11 (nI (lT l + 1))) a 9 (lpt l + nI (tP v s)) := ⟨_, rfl⟩
    have k3 : Kq (fun i => a ≤ i ∧ i ≤ a + 2) σ σ3 := by rw [e3]; exact ((k2.pI (by omega) _ _).pI (by omega) _ _).pI (by omega) _ _
    obtain ⟨σ1, e1⟩ : ∃ z, z = (if lU l = 1 then bl_pI σ3 a 4 0 else bl_pI σ3 a 3 (nI (lC l + 1))) := ⟨_, rfl⟩
    have i34 : bl_I σ3 a 4 = nI (lU l) := by rw [e3]; simp only [I_pI]; simp [q0s, a4]
    have i33 : bl_I σ3 a 3 = nI (lC l) := by rw [e3]; simp only [I_pI]; simp [q0s, a3]
    have hc : f_X2_countTold σ3 a = some ((), σ1) := by
      unfold f_X2_countTold
      rw [i34, i33, let_eq, let_eq, e1, nI_1]
      rcases (show lU l = 0 ∨ lU l = 1 by omega) with h | h
      · rw [h]; rfl
      · rw [h]; rfl
    have k1 : Kq (fun i => a ≤ i ∧ i ≤ a + 2) σ σ1 := by
      rw [e1]
      split
      · exact k3.pI (by omega) _ _
      · exact k3.pI (by omega) _ _
    refine ⟨σ1, ?_, k1, ?_⟩
    · unfold f_X2_takeLoss b_X2_takeLoss_27 b_X2_takeLoss_48
      rw [if_neg (by decide), c6, c7, nI_add, r1, c1, show (1 : Int32) = nI 1 from rfl, p1, bd_some, if_neg (by decide), x_ownOf hT2 ok hs, bd_some, let_eq, if_neg (by decide), let_eq, let_eq]
      have e3' : bl_pI (bl_pI (bl_pI σ2 a 5 (bl_I σ2 a 5 + nI (tP v s))) a 11 (bl_I (bl_pI σ2 a 5 (bl_I σ2 a 5 + nI (tP v s))) a 11 + nI 1)) a 9 (bl_I (bl_pI (bl_pI σ2 a 5 (bl_I σ2 a 5 + nI (tP v s))) a 11 (bl_I (bl_pI σ2 a 5 (bl_I σ2 a 5 + nI (tP v s))) a 11 + nI 1)) a 9 + nI (tP v s)) = σ3 := by
        rw [e3]
        simp only [I_pI]
        simp [q0s, b ho, c6, c4, nI_add]
      rw [e3', hc, bd_some]
      rfl
    · have o1 : bl_I σ1 (a + 1) = bl_I σ2 (a + 1) := by rw [e1]; split <;> (rw [e3]; funext b; simp [I_pI])
      have o2 : bl_I σ1 (a + 2) = bl_I σ (a + 2) := by rw [e1]; split <;> (rw [e3]; funext b; simp [I_pI, q2])
      have hR : bl_R σ1 a = bl_R σ a := by rw [e1]; split <;> (rw [e3]; exact R2)
      have el : lLoss v l s 1 = ((lP l, lO l, lG l, (if lU l = 1 then lC l else lC l + 1), 0), (lY l + tP v s, lE l, lT l + 1, lB l), (lpp l, lpg l, lpt l + nI (tP v s), lpb l), cns (lE l) s 1 (lBk l), lLg l) := rfl
      rw [el]
      refine ⟨⟨by rw [hR]; exact r1, by rw [hR]; exact r2⟩, ?_, ?_, ?_, ?_, by rw [o2]; exact d2⟩
      · rw [e1, e3]
        rcases (show lU l = 0 ∨ lU l = 1 by omega) with h | h
        · simp [q0s, a0, a1, a2, a3, a4, h, I_pI]
        · simp [q0s, a0, a1, a2, a3, a4, h, I_pI]
          rfl
      · intro h
        rw [e1, e3]
        split <;> simp [I_pI]
      · rw [e1, e3]
        split <;> simp [I_pI, q0s, c1, c2, c3, c4, c5, c6, c7]
      · rw [o1, show lT l + 1 + lB l = lT l + lB l + 1 by omega]
        exact p4
end XLG
