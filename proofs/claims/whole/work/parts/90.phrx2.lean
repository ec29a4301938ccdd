section PHX
variable {b : Nat → Nat} {ln p : Nat} {v : tm_V} {σ0 σ : bl_St}
theorem x_117bad {f : Nat} (hf : f < 2 ^ 31) (h : bl_I σ 1 5 = nI f) (j : Int32) : b_X7_readPhrase_117 σ 1 j = some ((), σ) := by
  unfold b_X7_readPhrase_117 b_X7_readPhrase_129
  rw [h, if_neg (m1_ne hf), if_neg (m1_ne hf)]
theorem x_nums (w : WX σ0 b ln) {j en : Nat} (hj : j < 5) (hen : en ≤ ln) : ∀ (r i m : Nat) (σ : bl_St), i + r = pAm j → r + 1 < m → XS σ0 σ ln (qI b ln en i) (-1) → (∀ k, k < i → bl_I σ 3 k = nI (nV b ln (qI b ln en k))) →
    (∀ f, nrun b ln (pLo j) (pHi j) r i (qI b ln en i) = .inl f → ∃ σ1 q, bl_fx (fun _ _ _ _ _ => none) (b_X7_readPhrase_81) m σ 1 (nI j) (nI (pAm j)) (nI i) = some ((), σ1) ∧ XS σ0 σ1 ln q (nI f) ∧ q ≤ ln) ∧
    (∀ q, nrun b ln (pLo j) (pHi j) r i (qI b ln en i) = .inr q → ∃ σ1, bl_fx (fun _ _ _ _ _ => none) (b_X7_readPhrase_81) m σ 1 (nI j) (nI (pAm j)) (nI i) = b_X7_readPhrase_117 σ1 1 (nI j) ∧ XS σ0 σ1 ln q (-1) ∧ Kq k13 σ σ1 ∧ ∀ k, k < pAm j → bl_I σ1 3 k = nI (nV b ln (qI b ln en k))) := by
  have h4 := w.2.2.1
  have ha : pAm j ≤ 5 := by unfold pAm; split; omega; split <;> omega
  intro r
  induction r with
  | zero =>
    intro i m σ hi hm h hk
    obtain ⟨m, rfl⟩ : ∃ z, m = z + 1 := ⟨m - 1, by omega⟩
    refine ⟨fun f z => (by rw [nrun_0] at z; cases z), fun q z => ?_⟩
    rw [nrun_0] at z
    have z := Sum.inr.inj z
    refine ⟨σ, ?_, by rw [← z]; exact h, Kq.rf _ σ, fun k hk2 => hk k (by omega)⟩
    rw [fx_succ]
    unfold b_X7_readPhrase_81
    rw [if_pos (nI_le (by omega) (by omega))]
  | succ r ih =>
    intro i m σ hi hm h hk
    obtain ⟨m, rfl⟩ : ∃ z, m = z + 1 := ⟨m - 1, by omega⟩
    have hl := pLo_le j
    have hh := pHi_le j i
    have hq := qI_le (b := b) hen i
    obtain ⟨g1, g2⟩ := x_readNumber w h hq (i := i) (lo := pLo j) (hi := pHi j i) (by omega) (by omega) (by omega)
    have e0 : bl_fx (fun _ _ _ _ _ => none) (b_X7_readPhrase_81) (m + 1) σ 1 (nI j) (nI (pAm j)) (nI i) = bl_bd (f_X7_readNumber σ 1 (nI i) (nI (pLo j)) (nI (pHi j i))) fun _ σ18 => bl_fx (fun _ _ _ _ _ => none) (b_X7_readPhrase_81) m σ18 1 (nI j) (nI (pAm j)) (nI (i + 1)) := by
      rw [fx_succ]
      show (if nI (pAm j) ≤ nI i then _ else _) = _
      rw [if_neg (nI_ge (by omega) (by omega)), h.2.2.2.2, if_pos rfl, x_lowest σ hj, bd_some, x_highest σ hj (by omega), bd_some, ← nI_1]
      rfl
    rw [nrun_1]
    by_cases c : nOk b ln (qI b ln en i) (pLo j) (pHi j i)
    · obtain ⟨σa, ea, xa, ka, na⟩ := g1 c
      rw [if_pos c]
      obtain ⟨q1, q2⟩ := ih (i + 1) m σa (by omega) (by omega) xa (fun k hk2 => by
        rw [na k]
        by_cases he : k = i
        · rw [he, if_pos rfl]
        · rw [if_neg he]; exact hk k (by omega))
      rw [e0, ea, bd_some]
      refine ⟨q1, fun q z => ?_⟩
      obtain ⟨σ1, e1, x1, k1, n1⟩ := q2 q z
      exact ⟨σ1, e1, x1, ka.tr k1, n1⟩
    · obtain ⟨σa, q, ea, xa, hqa, ka⟩ := g2 c
      rw [if_neg c, e0, ea, bd_some]
      refine ⟨fun f z => ?_, fun q z => (by cases z)⟩
      have z := Sum.inl.inj z
      have hnb : nB b ln (qI b ln en i) ≤ ln := rn_le hq
      refine ⟨σa, q, ?_, by rw [← z]; exact xa, hqa⟩
      obtain ⟨m, rfl⟩ : ∃ z, m = z + 1 := ⟨m - 1, by omega⟩
      rw [fx_succ]
      unfold b_X7_readPhrase_81
      rw [xa.2.2.2.2, if_neg (m1_ne (show nB b ln (qI b ln en i) < 2 ^ 31 by omega)), x_117bad (show nB b ln (qI b ln en i) < 2 ^ 31 by omega) xa.2.2.2.2]
      split <;> rfl
abbrev k47 (i : Nat) : Prop := 4 ≤ i ∧ i ≤ 7
theorem XS.kq {S : Nat → Prop} {σ1 : bl_St} {f : Int32} (h : XS σ0 σ ln p f) (k : Kq S σ σ1) (hR : bl_R σ1 = bl_R σ) (hs : ∀ i, S i → 3 ≤ i ∧ i ≤ 7) : XS σ0 σ1 ln p f := by
  have e := (k 1 (fun z => by have := hs 1 z; omega)).1
  exact ⟨h.1.tr (k.mono (fun i hi => Or.inr (hs i hi))), hR.trans h.2.1, by rw [e]; exact h.2.2.1, by rw [e]; exact h.2.2.2.1, by rw [e]; exact h.2.2.2.2⟩
theorem x_take7 (w : WX σ0 b ln) {f : Int32} (h : XS σ0 σ ln p f) (T : TX σ 4 v) (P : POk v) {j : Nat} (hj : j < 5) (hf : ¬ full j v) {x : Nat → Nat} (hx : ∀ k, k < pAm j → bl_I σ 3 k = nI (x k)) : ∃ σ1, f_X7_take σ 1 (nI j) = some ((), σ1) ∧ XS σ0 σ1 ln p f ∧ TX σ1 4 (takeV j v x) := by
  have p1 := P.1
  have r1 : bl_R σ 1 1 = 3 := by rw [h.2.1]; exact w.1.2.1
  have r2 : bl_R σ 1 2 = 4 := by rw [h.2.1]; exact w.1.2.2
  obtain ⟨⟨t1, t2, t3⟩, ⟨t4, t5⟩, t6, t7, t8⟩ := id T
  unfold full at hf
  unfold f_X7_take takeV
  rw [r1, r2]
  rcases (show j = 0 ∨ j = 1 ∨ 2 ≤ j by omega) with rfl | rfl | h2
  · have hN : tN v < 8 := by omega
    rw [if_pos (by rfl), t4, show (5 : Int32) = nI 5 from rfl, nI_mul]
    have hg : bl_cpk 0 (nI (tN v * 5)) (nI 5) 5 40 = true := by
      unfold bl_cpk
      rw [nI_clamp (show tN v * 5 < 2 ^ 31 by omega), nI_clamp (show 5 < 2 ^ 31 by decide)]
      simp only [Bool.and_eq_true, Bool.not_eq_true', decide_eq_false_iff_not, decide_eq_true_eq]
      exact ⟨⟨⟨⟨by decide, nI_pos (by omega)⟩, by decide⟩, by decide⟩, by omega⟩
    obtain ⟨σa, qa⟩ : ∃ z, z = bl_cI σ 3 0 5 (5 * tN v) 5 := ⟨_, rfl⟩
    have ka : Kq k47 σ σa := by rw [qa]; exact (Kq.rf k47 σ).cI (by decide) _ _ _ _
    have i4 : bl_I σa 4 = bl_I σ 4 := by rw [qa]; funext z; rw [I_cI, if_neg (by omega)]
    have Ra : bl_R σa = bl_R σ := by rw [qa]; rfl
    obtain ⟨σ1, q1⟩ : ∃ z, z = bl_pI σa 4 0 (nI (tN v + 1)) := ⟨_, rfl⟩
    have k1 : Kq k47 σ σ1 := by rw [q1]; exact ka.pI (by decide) _ _
    have R1 : bl_R σ1 = bl_R σ := by rw [q1]; exact Ra
    refine ⟨σ1, ?_, h.kq k1 R1 (fun i hi => by unfold k47 at hi; omega), ?_⟩
    · rw [gd_of hg, let_eq, t1, show Int32.toNatClampNeg 0 = 0 by decide, show Int32.toNatClampNeg (nI 5) = 5 by decide, nI_clamp (show tN v * 5 < 2 ^ 31 by omega), Nat.mul_comm (tN v) 5, ← qa, let_eq, Ra, r2, i4, t4, nI_1, ← q1]
    · rw [if_pos rfl]
      have i4' : ∀ k, k ≠ 0 → bl_I σ1 4 k = bl_I σ 4 k := fun k hk => by rw [q1, I_pI_ne hk, i4]
      have i5 : ∀ i, bl_I σ1 (4 + 1) i = if 5 * tN v ≤ i ∧ i < 5 * tN v + 5 then bl_I σ 3 (i - 5 * tN v) else bl_I σ (4 + 1) i := fun i => by
        rw [q1, I_pI_o (by decide), qa, I_cI]
        simp
      have i6 : bl_I σ1 (4 + 2) = bl_I σ (4 + 2) := by rw [q1, I_pI_o (by decide), qa]; funext z; rw [I_cI, if_neg (by omega)]
      have i7 : bl_I σ1 (4 + 3) = bl_I σ (4 + 3) := by rw [q1, I_pI_o (by decide), qa]; funext z; rw [I_cI, if_neg (by omega)]
      refine ⟨by rw [R1]; exact ⟨t1, t2, t3⟩, ⟨by rw [q1, I_pI_self], by rw [i4' 1 (by decide)]; exact t5⟩, fun i hi => ?_, by rw [i6]; exact t7, by rw [i7]; exact t8⟩
      have hi : i < 5 * (tN v + 1) := hi
      rw [i5]
      show _ = nI (if 5 * tN v ≤ i then x (i - 5 * tN v) else tC v i)
      by_cases c : 5 * tN v ≤ i
      · rw [if_pos ⟨c, by omega⟩, if_pos c]
        exact hx _ (by show i - 5 * tN v < 5; omega)
      · rw [if_neg (fun z => c z.1), if_neg c]
        exact t6 i (by omega)
  · have hK : tK v < 5 := by omega
    have hx0 : bl_I σ 3 0 = nI (x 0) := hx 0 (by decide)
    have hx1 : bl_I σ 3 1 = nI (x 1) := hx 1 (by decide)
    obtain ⟨σ1, q1⟩ : ∃ z, z = bl_pI (bl_pI (bl_pI σ 6 (2 * tK v) (nI (x 0))) 6 (2 * tK v + 1) (nI (x 1))) 4 1 (nI (tK v + 1)) := ⟨_, rfl⟩
    have k1 : Kq k47 σ σ1 := by rw [q1]; exact (((Kq.rf k47 σ).pI (by decide) _ _).pI (by decide) _ _).pI (by decide) _ _
    have R1 : bl_R σ1 = bl_R σ := by rw [q1]; rfl
    refine ⟨σ1, ?_, h.kq k1 R1 (fun i hi => by unfold k47 at hi; omega), ?_⟩
    · rw [if_neg (by decide), if_pos (by rfl), hx0, hx1]
      have s1 : f_X8_setSortPart σ 4 (nI (tK v)) 0 (nI (x 0)) = some ((), bl_pI σ 6 (2 * tK v) (nI (x 0))) := by
        unfold f_X8_setSortPart
        rw [show (2 : Int32) = nI 2 from rfl, show (0 : Int32) = nI 0 from rfl, nI_mul, nI_add, in_nI (by omega) (by decide), gd_true, let_eq, t2, nI_clamp (by omega), Nat.mul_comm]
        rfl
      have s2 : f_X8_setSortPart (bl_pI σ 6 (2 * tK v) (nI (x 0))) 4 (nI (tK v)) 1 (nI (x 1)) = some ((), bl_pI (bl_pI σ 6 (2 * tK v) (nI (x 0))) 6 (2 * tK v + 1) (nI (x 1))) := by
        unfold f_X8_setSortPart
        rw [show (2 : Int32) = nI 2 from rfl, show (1 : Int32) = nI 1 from rfl, nI_mul, nI_add, in_nI (by omega) (by decide), gd_true, let_eq, R_pI, t2, nI_clamp (by omega), Nat.mul_comm]
      unfold f_X8_addSort
      rw [t5, s1, bd_some, I_pI_o (by decide), t5, s2, bd_some, let_eq, I_pI_o (by decide), I_pI_o (by decide), t5, nI_1, ← q1, bd_some]
    · rw [if_neg (by decide), if_pos rfl]
      have i4' : ∀ k, k ≠ 1 → bl_I σ1 4 k = bl_I σ 4 k := fun k hk => by rw [q1, I_pI_ne hk, I_pI_o (by decide), I_pI_o (by decide)]
      have i5 : bl_I σ1 (4 + 1) = bl_I σ (4 + 1) := by rw [q1, I_pI_o (by decide), I_pI_o (by decide), I_pI_o (by decide)]
      have i7 : bl_I σ1 (4 + 3) = bl_I σ (4 + 3) := by rw [q1, I_pI_o (by decide), I_pI_o (by decide), I_pI_o (by decide)]
      refine ⟨by rw [R1]; exact ⟨t1, t2, t3⟩, ⟨by rw [i4' 0 (by decide)]; exact t4, by rw [q1, I_pI_self]⟩, by rw [i5]; exact t6, fun i hi => ?_, by rw [i7]; exact t8⟩
      have hi : i < 2 * (tK v + 1) := hi
      rw [q1, I_pI_o (by decide)]
      show bl_I (bl_pI (bl_pI σ 6 (2 * tK v) (nI (x 0))) 6 (2 * tK v + 1) (nI (x 1))) 6 i = nI (if 2 * tK v ≤ i then x (i - 2 * tK v) else tS v i)
      by_cases c1 : i = 2 * tK v + 1
      · rw [c1, I_pI_self, if_pos (by omega), show 2 * tK v + 1 - 2 * tK v = 1 by omega]
      · rw [I_pI_ne c1]
        by_cases c0 : i = 2 * tK v
        · rw [c0, I_pI_self, if_pos (Nat.le_refl _), Nat.sub_self]
        · rw [I_pI_ne c0, if_neg (by omega)]
          exact t7 i (by omega)
  · have hx0 : bl_I σ 3 0 = nI (x 0) := hx 0 (by unfold pAm; split; omega; split <;> omega)
    refine ⟨bl_pI σ 7 (j - 2) (nI (x 0)), ?_, h.kq ((Kq.rf k47 σ).pI (by decide) _ _) rfl (fun i hi => by unfold k47 at hi; omega), ?_⟩
    · rw [if_neg (show ¬ nI j = 0 from nI_ne0 (by omega) (by omega)), if_neg (show ¬ nI j = 1 from fun z => by have := nI_inj (b := 1) (by omega) (by decide) z; omega), show (2 : Int32) = nI 2 from rfl, nI_sub h2, in_nI (by omega) (by decide), gd_true, let_eq, t3, nI_clamp (by omega), hx0]
    · rw [if_neg (by omega), if_neg (by omega)]
      exact T.rule (k := j - 2) (by omega) (x 0)
/-- Tape.readPhrase -/
theorem x_phrase (w : WX σ0 b ln) (h : XS σ0 σ ln p (-1)) (hp : p ≤ ln) (T : TX σ 4 v) (P : POk v) : (∀ f, phr b ln p v = .inl f → ∃ σ1 q, f_X7_readPhrase σ 1 = some ((), σ1) ∧ XS σ0 σ1 ln q (nI f) ∧ q ≤ ln) ∧ (∀ q v', phr b ln p v = .inr (q, v') → ∃ σ1, f_X7_readPhrase σ 1 = some ((), σ1) ∧ XS σ0 σ1 ln q (-1) ∧ TX σ1 4 v') := by
  have h4 := w.2.2.1
  obtain ⟨σa, ea, xa, ka⟩ := x_word w (nI p) (ln - p) p bl_fu σ (by omega) (by unfold bl_fu; omega) h
  have Ta : TX σa 4 v := T.kq ka (fun i a b c => by unfold k1 at c; omega)
  have hge : p ≤ rn b ln isL p := rn_ge _ _ _ _
  have hle : rn b ln isL p ≤ ln := rn_le hp
  have hk5 := kd_le b p (rn b ln isL p)
  have e0 : f_X7_readPhrase σ 1 = b_X7_readPhrase_44 σa 1 (nI p) := by
    unfold f_X7_readPhrase
    rw [let_eq, h.2.2.2.1]
    exact ea
  have bad : ∀ f, Sum.inl p = (Sum.inl f : Sum Nat (Nat × tm_V)) → ∃ σ1 q, (some ((), bl_pI σa 1 5 (nI p)) : Option (Unit × bl_St)) = some ((), σ1) ∧ XS σ0 σ1 ln q (nI f) ∧ q ≤ ln := fun f z => by
    have z := Sum.inl.inj z
    rw [← z]
    exact ⟨_, _, rfl, xa.flt _, hle⟩
  rw [e0]
  unfold b_X7_readPhrase_44
  rw [xa.2.2.2.1, x_kindOf w xa hge hle, bd_some]
  by_cases c1 : kd b p (rn b ln isL p) = 5
  · rw [if_pos c1, if_pos rfl, let_eq, phr_bad5 c1]
    exact ⟨bad, fun q v' z => (by cases z)⟩
  rw [if_neg c1, if_neg (m1_ne (by omega)), x_isFull xa w Ta P (by omega), bd_some]
  rcases Classical.em (full (kd b p (rn b ln isL p)) v) with c2 | c2
  · rw [if_pos c2, if_neg (by decide), let_eq, phr_full c1 c2]
    exact ⟨bad, fun q v' z => (by cases z)⟩
  rw [if_neg c2, if_pos rfl, x_amount σa (by omega), bd_some]
  have ha : pAm (kd b p (rn b ln isL p)) ≤ 5 := by unfold pAm; split; omega; split <;> omega
  obtain ⟨g1, g2⟩ := x_nums w (j := kd b p (rn b ln isL p)) (en := rn b ln isL p) (by omega) hle (pAm (kd b p (rn b ln isL p))) 0 bl_fu σa (by omega) (by unfold bl_fu; omega) xa (fun k hk => absurd hk (Nat.not_lt_zero k))
  cases h3 : nrun b ln (pLo (kd b p (rn b ln isL p))) (pHi (kd b p (rn b ln isL p))) (pAm (kd b p (rn b ln isL p))) 0 (rn b ln isL p) with
  | inl f0 =>
    rw [phr_num c1 c2 h3]
    refine ⟨fun f z => ?_, fun q v' z => (by cases z)⟩
    have z := Sum.inl.inj z
    rw [← z]
    exact g1 f0 h3
  | inr q0 =>
    rw [phr_end c1 c2 h3]
    obtain ⟨σb, eb, xb, kb, nb⟩ := g2 q0 h3
    have hq0 : q0 ≤ ln := by
      rw [(nrun_ok (e := rn b ln isL p) _ 0 q0 h3).1]
      exact qI_le hle _
    have Tb : TX σb 4 v := Ta.kq kb (fun i a b c => by unfold k13 at c; omega)
    have eb' : bl_fx (fun _ _ _ _ _ => none) (b_X7_readPhrase_81) bl_fu σa 1 (nI (kd b p (rn b ln isL p))) (nI (pAm (kd b p (rn b ln isL p)))) 0 = b_X7_readPhrase_117 σb 1 (nI (kd b p (rn b ln isL p))) := eb
    rw [eb']
    unfold b_X7_readPhrase_117
    rw [xb.2.2.2.2, if_pos rfl]
    obtain ⟨r1, r2⟩ := x_readEnd w xb hq0
    by_cases c4 : nB b ln q0 < ln ∧ b (nB b ln q0) = 59
    · obtain ⟨σc, ec, xc, kc⟩ := r1 c4
      have Tc : TX σc 4 v := Tb.kq kc (fun i a b c => by unfold k1 at c; omega)
      obtain ⟨σd, ed, xd, Td⟩ := x_take7 w xc Tc P (j := kd b p (rn b ln isL p)) (by omega) c2 (x := fun i => nV b ln (qI b ln (rn b ln isL p) i)) (fun k hk => by rw [(kc 3 (by decide)).1]; exact nb k hk)
      rw [if_pos c4, ec, bd_some]
      refine ⟨fun f z => (by cases z), fun q v' z => ?_⟩
      have z := Sum.inr.inj z
      have e1 : nB b ln q0 + 1 = q := congrArg Prod.fst z
      have e2 : takeV (kd b p (rn b ln isL p)) v (fun i => nV b ln (qI b ln (rn b ln isL p) i)) = v' := congrArg Prod.snd z
      refine ⟨σd, ?_, by rw [← e1]; exact xd, by rw [← e2]; exact Td⟩
      unfold b_X7_readPhrase_129
      rw [xc.2.2.2.2, if_pos rfl, ed, bd_some]
    · obtain ⟨σc, ec, xc, kc⟩ := r2 c4
      have hnb : nB b ln q0 ≤ ln := rn_le hq0
      rw [if_neg c4, ec, bd_some]
      refine ⟨fun f z => ?_, fun q v' z => (by cases z)⟩
      have z := Sum.inl.inj z
      rw [← z]
      refine ⟨σc, _, ?_, xc, hnb⟩
      unfold b_X7_readPhrase_129
      rw [xc.2.2.2.2, if_neg (m1_ne (by omega))]
end PHX
