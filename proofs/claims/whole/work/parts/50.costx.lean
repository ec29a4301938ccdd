/-! ===== the class's losses and chances ===== -/
theorem TX.ko {S : Nat → Prop} {σ σ1 : bl_St} {t : Nat} {v : tm_V} (h : TX σ t v) (k : Ko S σ σ1) (hs : ∀ i, t ≤ i → i ≤ t + 3 → ¬ S i) : TX σ1 t v := by
  have e0 := (k.2 t (hs t (by omega) (by omega))).1
  have e1 := (k.2 (t + 1) (hs (t + 1) (by omega) (by omega))).1
  have e2 := (k.2 (t + 2) (hs (t + 2) (by omega) (by omega))).1
  have e3 := (k.2 (t + 3) (hs (t + 3) (by omega) (by omega))).1
  have eR : bl_R σ1 = bl_R σ := k.1
  unfold TX at *
  rw [e0, e1, e2, e3, eR]
  exact h
/-- what is done about a sort's losses: 0 the best, 1 told, 2 borne -/
def cho (v : tm_V) (rl lm s : Nat) : Nat := if rl = 3 then (if tS v (2 * s) ≤ lm then 2 else 1) else rl
def XLs (σ : bl_St) (q : Nat) (v : tm_V) (rl lm : Nat) (w : Bool) : Prop :=
  (bl_R σ q 4 = q + 1 ∧ bl_R σ q 5 = q + 2 ∧ bl_R σ q 6 = q + 3 ∧ bl_R σ q 7 = q + 4) ∧ (bl_I σ q 0 = nI (tK v) ∧ bl_J σ q 1 = lN (tO v) ∧ bl_J σ q 2 = lN (tA v) ∧ bl_I σ q 3 = (if w = true then 1 else 0)) ∧
  ∀ s, s < tK v → bl_J σ (q + 1) s = lN (1000 * tS v (2 * s)) ∧ bl_J σ (q + 2) s = lN (1000 * tP v s) ∧ bl_J σ (q + 3) s = lN (tS v (2 * s + 1)) ∧ bl_I σ (q + 4) s = nI (cho v rl lm s)
theorem XLs.ko {S : Nat → Prop} {σ σ1 : bl_St} {q : Nat} {v : tm_V} {rl lm : Nat} {w : Bool} (h : XLs σ q v rl lm w) (k : Ko S σ σ1) (hs : ∀ i, q ≤ i → i ≤ q + 4 → ¬ S i) : XLs σ1 q v rl lm w := by
  obtain ⟨i0, j0⟩ := k.2 q (hs q (by omega) (by omega))
  obtain ⟨i1, j1⟩ := k.2 (q + 1) (hs (q + 1) (by omega) (by omega))
  obtain ⟨i2, j2⟩ := k.2 (q + 2) (hs (q + 2) (by omega) (by omega))
  obtain ⟨i3, j3⟩ := k.2 (q + 3) (hs (q + 3) (by omega) (by omega))
  obtain ⟨i4, j4⟩ := k.2 (q + 4) (hs (q + 4) (by omega) (by omega))
  have eR : bl_R σ1 = bl_R σ := k.1
  unfold XLs at *
  rw [i0, j0, j1, j2, j3, i4, eR]
  exact h
section XL
variable {σ : bl_St} {q : Nat} {v : tm_V} {rl lm : Nat} {w : Bool} {s st td : Nat}
theorem x_lossCost (h : XLs σ q v rl lm w) (ok : TOk v) (hrl : rl ≤ 3) (hs : s < tK v) (b1 : st ≤ 2 ^ 40) (b2 : td ≤ 2 ^ 40) : f_X3_lossCost σ q (nI s) (lN st) (lN td) = some (lN (cL v rl lm s st td), σ) := by
  have h5 := ok.k5
  have hp := tP_le v s
  have hs2 := (ok.2.2.1 s hs).1.2
  obtain ⟨a1, a2, a3, a4⟩ := h.2.2 s hs
  unfold f_X3_lossCost
  simp only [in_nI (show s < 5 by omega) (show 5 ≤ 2 ^ 31 by decide), gd_true, let_eq]
  rw [h.1.1, h.1.2.1, h.1.2.2.2, nI_clamp (by omega), a1, a2, a4, lN_add, lN_add]
  unfold cL
  have c1 : 1000 * tP v s + td = tP v s * 1000 + td := by omega
  have c2 : 1000 * tS v (2 * s) + st = tS v (2 * s) * 1000 + st := by omega
  rw [c1, c2]
  rcases (show rl = 0 ∨ rl = 1 ∨ rl = 2 ∨ rl = 3 by omega) with rfl | rfl | rfl | rfl
  · rw [show cho v 0 lm s = 0 from rfl, if_pos (show nI 0 = 0 from rfl), if_pos rfl]
    have g1 : tS v (2 * s) * 1000 + st < 2 ^ 63 := by omega
    have g2 : tP v s * 1000 + td < 2 ^ 63 := Nat.lt_of_le_of_lt (Nat.add_le_add (Nat.mul_le_mul_right 1000 hp) (Nat.le_refl td)) (show tS v (2 * s) * 1000 + td < 2 ^ 63 by omega)
    by_cases h2 : tS v (2 * s) * 1000 + st ≤ tP v s * 1000 + td
    · rw [if_pos ((lN_leI g1 g2).mpr h2), Nat.min_eq_right h2]
    · rw [if_neg (fun z => h2 ((lN_leI g1 g2).mp z)), Nat.min_eq_left (Nat.le_of_not_le h2)]
  · rfl
  · rfl
  · unfold cho
    rw [if_pos rfl]
    by_cases h2 : tS v (2 * s) ≤ lm
    · rw [if_pos h2, if_neg (show ¬ nI 2 = 0 by decide), if_neg (show ¬ nI 2 = 1 by decide)]
      show _ = some (lN (if lm < tS v (2 * s) then tP v s * 1000 + td else tS v (2 * s) * 1000 + st), σ)
      rw [if_neg (by omega)]
    · rw [if_neg h2, if_neg (show ¬ nI 1 = 0 by decide), if_pos (show nI 1 = 1 from rfl)]
      show _ = some (lN (if lm < tS v (2 * s) then tP v s * 1000 + td else tS v (2 * s) * 1000 + st), σ)
      rw [if_pos (by omega)]
theorem x_saved (h : XLs σ q v rl lm w) (ok : TOk v) (hs : s < tK v) : f_X3_savedIfTold σ q (nI s) = some (lN (1000 * tS v (2 * s)) - lN (1000 * tP v s), σ) := by
  have h5 := ok.k5
  obtain ⟨a1, a2, a3, a4⟩ := h.2.2 s hs
  unfold f_X3_savedIfTold
  simp only [in_nI (show s < 5 by omega) (show 5 ≤ 2 ^ 31 by decide), gd_true]
  rw [h.1.1, h.1.2.1, nI_clamp (by omega), a1, a2]
theorem cCh_0 (ok : TOk v) (hK : 0 < tK v) (ho : tO v = 0) (w : Bool) (rl lm st td : Nat) : cCh v w rl lm st td = st := by
  have hA1 : tK v ≤ tA v := tm_A_ge ok (tK v) (Nat.le_refl _)
  unfold cCh
  rw [ho]
  simp only [if_true, Nat.sub_zero, Nat.zero_mul, Nat.add_zero]
  split
  · rfl
  · exact Nat.mul_div_cancel_left st (by omega)
theorem x_chance_loop (h : XLs σ q v rl lm w) (ok : TOk v) (hK : 0 < tK v) (hrl : rl ≤ 3) (b1 : st ≤ 2 ^ 40) (b2 : td ≤ 2 ^ 40) : ∀ (r s : Nat), s + r = tK v → ∀ n, r < n →
    bl_fx (fun _ _ _ _ _ _ _ => none) (b_X3_chanceCost_24) n σ q (lN st) (lN td) (lN (cSum v rl lm st td s)) (lN (cMax v rl lm st td (if tO v = 12 then 0 else st) s)) (nI s) = some (lN (cCh v w rl lm st td), σ) := by
  have h5 := ok.k5
  have h12 := ok.2.2.2.2.1
  have hA1 : tK v ≤ tA v := tm_A_ge ok (tK v) (Nat.le_refl _)
  have hA2 : tA v ≤ 9 * tK v := tm_A_le ok (tK v) (Nat.le_refl _)
  intro r
  induction r with
  | zero =>
    intro s hs n hn
    obtain ⟨n, rfl⟩ : ∃ m, n = m + 1 := ⟨n - 1, by omega⟩
    have hs : s = tK v := by omega
    subst hs
    rw [fx_succ]
    unfold b_X3_chanceCost_24
    rw [h.2.1.1, if_pos (nI_le (Nat.le_refl _) (by omega)), let_eq, h.2.1.2.1, h.2.1.2.2.1, h.2.1.2.2.2]
    by_cases ho : tO v = 0
    · rw [ho, if_pos (show lN 0 = 0 from rfl), cCh_0 ok hK ho]
    · have hz : ¬ lN (tO v) = 0 := fun z => by
        rw [show (0 : Int64) = lN 0 from rfl, lN_eqI (by omega) (by omega)] at z
        exact ho z
      rw [if_neg hz, lN_lit 12, lN_mul]
      have hz2 : (0 : Int64) < lN (12 * tA v) := by
        rw [show (0 : Int64) = lN 0 from rfl, lN_ltI (by omega) (by omega)]
        omega
      have hz3 : ¬ lN (12 * tA v) = 0 := fun z => by
        rw [show (0 : Int64) = lN 0 from rfl, lN_eqI (by omega) (by omega)] at z
        omega
      rw [if_pos hz2]
      unfold cCh
      cases w with
      | true => rw [if_neg (show ¬ (if true = true then (1 : Int32) else 0) = 0 by decide), if_pos rfl, if_neg ho]
      | false =>
        have q1 : (12 - tO v) * tA v ≤ 12 * 45 := Nat.mul_le_mul (by omega) (by omega)
        have q2 : (12 - tO v) * tA v * st ≤ 12 * 45 * 2 ^ 40 := Nat.mul_le_mul q1 b1
        have q3 : tO v * cSum v rl lm st td (tK v) ≤ 12 * (45 * (999000 + 2 ^ 40)) := Nat.mul_le_mul h12 (Nat.le_trans (cSum_le ok rl lm b1 b2 _ (Nat.le_refl _)) (Nat.mul_le_mul_right _ (by show tA v ≤ 45; omega)))
        rw [if_pos (show (if false = true then (1 : Int32) else 0) = 0 from rfl), if_neg (show ¬ false = true by decide), gd_of (by simp [hz3]), lN_sub h12, lN_mul, lN_mul, lN_mul, lN_add, lN_div (by omega) (by omega)]
  | succ r ih =>
    intro s hs n hn
    obtain ⟨n, rfl⟩ : ∃ m, n = m + 1 := ⟨n - 1, by omega⟩
    obtain ⟨a1, a2, a3, a4⟩ := h.2.2 s (by omega)
    have p1 := cMax_le ok rl lm (base := if tO v = 12 then 0 else st) (B := 2 ^ 40) (by split <;> omega) b1 b2 s (by omega)
    have p2 := cL_le ok rl lm (s := s) (by omega) b1 b2
    rw [fx_succ]
    unfold b_X3_chanceCost_24
    rw [h.2.1.1, if_neg (nI_ge (by omega) (by omega)), x_lossCost h ok hrl (by omega) b1 b2, bd_some, in_nI (by omega) (by omega), gd_true, let_eq, let_eq, let_eq, h.1.2.2.1, nI_clamp (by omega), a3, lN_mul, lN_add, nI_1]
    have e : (if lN (cL v rl lm s st td) < lN (cMax v rl lm st td (if tO v = 12 then 0 else st) s) then lN (cMax v rl lm st td (if tO v = 12 then 0 else st) s) else lN (cL v rl lm s st td)) = lN (cMax v rl lm st td (if tO v = 12 then 0 else st) (s + 1)) := by
      show _ = lN (max (cMax v rl lm st td (if tO v = 12 then 0 else st) s) (cL v rl lm s st td))
      by_cases h2 : cL v rl lm s st td < cMax v rl lm st td (if tO v = 12 then 0 else st) s
      · rw [if_pos ((lN_ltI (by omega) (by omega)).mpr h2), Nat.max_eq_left (by omega)]
      · rw [if_neg (fun z => h2 ((lN_ltI (by omega) (by omega)).mp z)), Nat.max_eq_right (by omega)]
    rw [e]
    exact ih (s + 1) (by omega) n (by omega)
theorem x_chance (h : XLs σ q v rl lm w) (ok : TOk v) (hK : 0 < tK v) (hrl : rl ≤ 3) (b1 : st ≤ 2 ^ 40) (b2 : td ≤ 2 ^ 40) : f_X3_chanceCost σ q (lN st) (lN td) = some (lN (cCh v w rl lm st td), σ) := by
  have h12 := ok.2.2.2.2.1
  have h5 := ok.k5
  have key := x_chance_loop h ok hK hrl b1 b2 (tK v) 0 (by omega) bl_fu (by unfold bl_fu; omega)
  unfold f_X3_chanceCost b_X3_chanceCost_19
  rw [h.2.1.2.1]
  by_cases h2 : tO v = 12
  · rw [if_pos (show (12 : Int64) ≤ lN (tO v) by rw [h2]; decide)]
    rw [if_pos h2] at key
    exact key
  · have hz : ¬ (12 : Int64) ≤ lN (tO v) := fun z => by
      rw [show (12 : Int64) = lN 12 from rfl, lN_leI (by omega) (by omega)] at z
      omega
    rw [if_neg hz]
    rw [if_neg h2] at key
    exact key
theorem wI_bo (w : Bool) : bl_bo (if w = true then 1 else 0) = true := by cases w <;> rfl
/-- Losses.take -/
theorem x_take_loop {t : Nat} (ok : TOk v) (hrl : rl ≤ 3) (hlm : lm ≤ 999) (hd : t + 3 < q ∨ q + 4 < t) : ∀ (r s n : Nat) (σ : bl_St), s + r = tK v → r < n → TX σ t v → (bl_R σ q 4 = q + 1 ∧ bl_R σ q 5 = q + 2 ∧ bl_R σ q 6 = q + 3 ∧ bl_R σ q 7 = q + 4) → bl_I σ q 0 = nI (tK v) →
    (∀ z, z < s → bl_J σ (q + 1) z = lN (1000 * tS v (2 * z)) ∧ bl_J σ (q + 2) z = lN (1000 * tP v z) ∧ bl_J σ (q + 3) z = lN (tS v (2 * z + 1)) ∧ bl_I σ (q + 4) z = nI (cho v rl lm z)) →
    ∃ σ1, bl_fx (fun _ _ _ _ _ _ => none) (b_X3_take_35) n σ q t (nI rl) (nI lm) (nI s) = some ((), σ1) ∧ Ko (fun i => q < i ∧ i ≤ q + 4) σ σ1 ∧ (∀ z, z < tK v → bl_J σ1 (q + 1) z = lN (1000 * tS v (2 * z)) ∧ bl_J σ1 (q + 2) z = lN (1000 * tP v z) ∧ bl_J σ1 (q + 3) z = lN (tS v (2 * z + 1)) ∧ bl_I σ1 (q + 4) z = nI (cho v rl lm z)) := by
  have h5 := ok.k5
  intro r
  induction r with
  | zero =>
    intro s n σ hs hn hT hR h0 hD
    obtain ⟨n, rfl⟩ : ∃ m, n = m + 1 := ⟨n - 1, by omega⟩
    have hs : s = tK v := by omega
    subst hs
    refine ⟨σ, ?_, Ko.rf _ σ, hD⟩
    rw [fx_succ]
    unfold b_X3_take_35
    rw [h0, if_pos (nI_le (Nat.le_refl _) (by omega))]
  | succ r ih =>
    intro s n σ hs hn hT hR h0 hD
    obtain ⟨n, rfl⟩ : ∃ m, n = m + 1 := ⟨n - 1, by omega⟩
    have hsk : s < tK v := by omega
    have hs2 := (ok.2.2.1 s hsk).1.2
    have hw9 := (ok.2.2.1 s hsk).2.2
    have hp := tP_le v s
    obtain ⟨σa, ea⟩ : ∃ z, z = bl_pJ σ (q + 1) s (lN (1000 * tS v (2 * s))) := ⟨_, rfl⟩
    obtain ⟨σb, eb⟩ : ∃ z, z = bl_pJ σa (q + 2) s (lN (1000 * tP v s)) := ⟨_, rfl⟩
    obtain ⟨σc, ec⟩ : ∃ z, z = bl_pJ σb (q + 3) s (lN (tS v (2 * s + 1))) := ⟨_, rfl⟩
    obtain ⟨σd, ed⟩ : ∃ z, z = bl_pI σc (q + 4) s (nI rl) := ⟨_, rfl⟩
    have Ta : TX σa t v := by rw [ea]; exact hT
    have Tb : TX σb t v := by rw [eb]; exact Ta
    have Ra : bl_R σa = bl_R σ := by rw [ea]; rfl
    have Rb : bl_R σb = bl_R σ := by rw [eb]; exact Ra
    have Rc : bl_R σc = bl_R σ := by rw [ec]; exact Rb
    have Rd : bl_R σd = bl_R σ := by rw [ed]; exact Rc
    have fin : ∀ (σe : bl_St), (σe = σd ∧ rl ≠ 3 ∨ ∃ x, σe = bl_pI σd (q + 4) s x ∧ x = nI (cho v rl lm s)) → (rl ≠ 3 → cho v rl lm s = rl) → ∃ σ1, b_X3_take_131 (bl_fx (fun _ _ _ _ _ _ => none) (b_X3_take_35) n) σe q t (nI rl) (nI lm) (nI s) = some ((), σ1) ∧ Ko (fun i => q < i ∧ i ≤ q + 4) σ σ1 ∧ (∀ z, z < tK v → bl_J σ1 (q + 1) z = lN (1000 * tS v (2 * z)) ∧ bl_J σ1 (q + 2) z = lN (1000 * tP v z) ∧ bl_J σ1 (q + 3) z = lN (tS v (2 * z + 1)) ∧ bl_I σ1 (q + 4) z = nI (cho v rl lm z)) := by
      intro σe he hch
      have kd : Ko (fun i => q < i ∧ i ≤ q + 4) σ σd := by
        rw [ed, ec, eb, ea]
        exact ((((Ko.rf _ σ).pJ (by omega) s _).pJ (by omega) s _).pJ (by omega) s _).pI (by omega) s _
      have ke : Ko (fun i => q < i ∧ i ≤ q + 4) σ σe := by
        rcases he with ⟨he, -⟩ | ⟨x, he, -⟩
        · rw [he]; exact kd
        · rw [he]; exact kd.pI (by omega) s _
      have Je : bl_J σe = bl_J σc := by
        rcases he with ⟨he, -⟩ | ⟨x, he, -⟩
        · rw [he, ed]; rfl
        · rw [he, ed]; rfl
      have Ie : ∀ z, z ≠ s → bl_I σe (q + 4) z = bl_I σ (q + 4) z := by
        intro z hz
        have e1 : bl_I σd (q + 4) z = bl_I σ (q + 4) z := by
          rw [ed, I_pI_ne hz, ec, eb, ea]; rfl
        rcases he with ⟨he, -⟩ | ⟨x, he, -⟩
        · rw [he]; exact e1
        · rw [he, I_pI_ne hz]; exact e1
      have Is : bl_I σe (q + 4) s = nI (cho v rl lm s) := by
        rcases he with ⟨he, h3⟩ | ⟨x, he, hx⟩
        · rw [he, ed, I_pI_self, hch h3]
        · rw [he, I_pI_self, hx]
      have J1 : bl_J σc (q + 1) = bl_J σa (q + 1) := by rw [ec, J_pJ_o (by omega), eb, J_pJ_o (by omega)]
      have J2 : bl_J σc (q + 2) = bl_J σb (q + 2) := by rw [ec, J_pJ_o (by omega)]
      obtain ⟨σ1, e1, k1, f1⟩ := ih (s + 1) n σe (by omega) (by omega) (hT.ko ke (fun i a b c => by omega)) (by have : bl_R σe = bl_R σ := ke.1; rw [this]; exact hR) (by rw [(ke.2 q (by omega)).1]; exact h0) (fun z hz => by
        rw [Je]
        by_cases hzs : z = s
        · subst hzs
          refine ⟨?_, ?_, ?_, Is⟩
          · rw [J1, ea, J_pJ_self]
          · rw [J2, eb, J_pJ_self]
          · rw [ec, J_pJ_self]
        · obtain ⟨d1, d2, d3, d4⟩ := hD z (by omega)
          refine ⟨?_, ?_, ?_, (Ie z hzs).trans d4⟩
          · rw [J1, ea, J_pJ_ne hzs]; exact d1
          · rw [J2, eb, J_pJ_ne hzs, ea, J_pJ_o (by omega)]; exact d2
          · rw [ec, J_pJ_ne hzs, eb, J_pJ_o (by omega), ea, J_pJ_o (by omega)]; exact d3)
      refine ⟨σ1, ?_, ke.tr k1, f1⟩
      unfold b_X3_take_131
      rw [let_eq, nI_1]
      exact e1
    rw [fx_succ]
    have hb : b_X3_take_35 (bl_fx (fun _ _ _ _ _ _ => none) (b_X3_take_35) n) σ q t (nI rl) (nI lm) (nI s) = (if nI rl = 3 then (if nI (tS v (2 * s)) ≤ nI lm then b_X3_take_130 (bl_fx (fun _ _ _ _ _ _ => none) (b_X3_take_35) n) σd q t (nI rl) (nI lm) (nI s) 2 (nI s) (bl_R σd q 7) else b_X3_take_130 (bl_fx (fun _ _ _ _ _ _ => none) (b_X3_take_35) n) σd q t (nI rl) (nI lm) (nI s) 1 (nI s) (bl_R σd q 7)) else b_X3_take_131 (bl_fx (fun _ _ _ _ _ _ => none) (b_X3_take_35) n) σd q t (nI rl) (nI lm) (nI s)) := by
      show (if bl_I σ q 0 ≤ nI s then _ else _) = _
      rw [h0, if_neg (nI_ge (by omega) (by omega)), show (0 : Int32) = nI 0 from rfl, x_sortPart hT ok hsk (by decide), bd_some, in_nI (by omega) (by omega), gd_true, let_eq, hR.1, nI_clamp (by omega), show tS v (2 * s + 0) = tS v (2 * s) from rfl, nI_l (by omega), lN_lit 1000, lN_mul, ← ea, x_ownOf Ta ok hsk, bd_some, gd_true, let_eq, Ra, hR.2.1, nI_l (by omega), lN_mul, ← eb, show (1 : Int32) = nI 1 from rfl, x_sortPart Tb ok hsk (by decide), bd_some, gd_true, let_eq, Rb, hR.2.2.1, nI_l (by omega), ← ec, gd_true, let_eq, Rc, hR.2.2.2, ← ed]
    rw [hb]
    have h130 : ∀ x, b_X3_take_130 (bl_fx (fun _ _ _ _ _ _ => none) (b_X3_take_35) n) σd q t (nI rl) (nI lm) (nI s) x (nI s) (bl_R σd q 7) = b_X3_take_131 (bl_fx (fun _ _ _ _ _ _ => none) (b_X3_take_35) n) (bl_pI σd (q + 4) s x) q t (nI rl) (nI lm) (nI s) := by
      intro x
      show bl_gd (bl_in (nI s) 5) _ = _
      rw [in_nI (by omega) (by omega), gd_true, let_eq, Rd, hR.2.2.2, nI_clamp (by omega)]
    by_cases h3 : rl = 3
    · rw [if_pos (show nI rl = 3 by rw [h3]; rfl), h130, h130]
      by_cases hle : tS v (2 * s) ≤ lm
      · rw [if_pos (nI_le hle (by omega))]
        exact fin _ (Or.inr ⟨_, rfl, by unfold cho; rw [if_pos h3, if_pos hle]; rfl⟩) (fun z => absurd h3 z)
      · rw [if_neg (nI_ge (by omega) (by omega))]
        exact fin _ (Or.inr ⟨_, rfl, by unfold cho; rw [if_pos h3, if_neg hle]; rfl⟩) (fun z => absurd h3 z)
    · rw [if_neg (show ¬ nI rl = 3 from fun z => h3 (nI_inj (by omega) (by decide) z))]
      exact fin _ (Or.inl ⟨rfl, h3⟩) (fun _ => by unfold cho; rw [if_neg h3])
theorem x_take {t : Nat} {σ : bl_St} (ok : TOk v) (hrl : rl ≤ 3) (hlm : lm ≤ 999) (hd : t + 3 < q ∨ q + 4 < t) (hT : TX σ t v) (hR : bl_R σ q 4 = q + 1 ∧ bl_R σ q 5 = q + 2 ∧ bl_R σ q 6 = q + 3 ∧ bl_R σ q 7 = q + 4) :
    ∃ σ1, f_X3_take σ q t (nI rl) (nI lm) (if w = true then 1 else 0) = some ((), σ1) ∧ Ko (fun i => q ≤ i ∧ i ≤ q + 4) σ σ1 ∧ XLs σ1 q v rl lm w := by
  have h5 := ok.k5
  have h12 := ok.2.2.2.2.1
  have hA2 : tA v ≤ 9 * tK v := tm_A_le ok (tK v) (Nat.le_refl _)
  obtain ⟨σa, ea⟩ : ∃ z, z = bl_pI σ q 0 (nI (tK v)) := ⟨_, rfl⟩
  obtain ⟨σb, eb⟩ : ∃ z, z = bl_pJ σa q 1 (lN (tO v)) := ⟨_, rfl⟩
  obtain ⟨σc, ec⟩ : ∃ z, z = bl_pJ σb q 2 (lN (tA v)) := ⟨_, rfl⟩
  obtain ⟨σd, ed⟩ : ∃ z, z = bl_pI σc q 3 (if w = true then 1 else 0) := ⟨_, rfl⟩
  have kd : Ko (fun i => q ≤ i ∧ i ≤ q + 4) σ σd := by
    rw [ed, ec, eb, ea]
    exact ((((Ko.rf _ σ).pI (by omega) 0 _).pJ (by omega) 1 _).pJ (by omega) 2 _).pI (by omega) 3 _
  have ka : Ko (fun i => q ≤ i ∧ i ≤ q + 4) σ σa := by rw [ea]; exact (Ko.rf _ σ).pI (by omega) 0 _
  have Ta := hT.ko ka (fun i a b c => by omega)
  have Tb : TX σb t v := by rw [eb]; exact Ta
  have Td := hT.ko kd (fun i a b c => by omega)
  have i0 : bl_I σd q 0 = nI (tK v) := by rw [ed, I_pI_ne (by decide), ec, eb, ea]; exact I_pI_self _ _ _ _
  have j1 : bl_J σd q 1 = lN (tO v) := by
    rw [ed]
    show bl_J σc q 1 = _
    rw [ec, J_pJ_ne (by decide), eb, J_pJ_self]
  have j2 : bl_J σd q 2 = lN (tA v) := by
    rw [ed]
    show bl_J σc q 2 = _
    rw [ec, J_pJ_self]
  have i3 : bl_I σd q 3 = (if w = true then 1 else 0) := by rw [ed, I_pI_self]
  have Rd : bl_R σd = bl_R σ := kd.1
  obtain ⟨σ1, e1, k1, f1⟩ := x_take_loop (q := q) (t := t) (v := v) (rl := rl) (lm := lm) ok hrl hlm hd (tK v) 0 bl_fu σd (by omega) (by unfold bl_fu; omega) Td (by rw [Rd]; exact hR) i0 (fun z hz => absurd hz (Nat.not_lt_zero z))
  obtain ⟨iq, jq⟩ := k1.2 q (by omega)
  have R1 : bl_R σ1 = bl_R σ := k1.1.trans Rd
  refine ⟨σ1, ?_, kd.tr (k1.mono (fun i hi => ⟨by omega, hi.2⟩)), ⟨by rw [R1]; exact hR, ⟨by rw [iq]; exact i0, by rw [jq]; exact j1, by rw [jq]; exact j2, by rw [iq]; exact i3⟩, f1⟩⟩
  unfold f_X3_take
  rw [let_eq, hT.2.1.2, ← ea, x_odds Ta, bd_some, let_eq, nI_l (by omega), ← eb, x_allWeights Tb ok, bd_some, let_eq, nI_l (by omega), ← ec, gd_of (wI_bo w), let_eq, ← ed]
  exact e1
end XL
