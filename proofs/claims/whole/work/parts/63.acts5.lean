theorem ite_some {α : Type} {P : Prop} {d : Decidable P} (a b : α) (σ : bl_St) : (some ((@ite α P d a b), σ) : Option (α × bl_St)) = @ite _ P d (some (a, σ)) (some (b, σ)) := by
  by_cases h : P
  · rw [if_pos h, if_pos h]
  · rw [if_neg h, if_neg h]
section TAF
variable {s : st_V} {n : Nat}
theorem m_anew15 {σ : bl_St} (hR : bl_R σ 139 1 = 140) (x : Int32) : ∀ (r k m : Nat) (τ : bl_St), k + r = 167 → 55 ≤ k → r < m → Mo σ τ → (∀ j, bl_I τ 140 j = if 55 ≤ j ∧ j < k then 0 else bl_I σ 140 j) → ∃ σ1, bl_fx (fun _ _ _ _ => none) (b_X10_anew_15) m τ 139 x (nI k) = some (x, σ1) ∧ Mo σ σ1 ∧ ∀ j, bl_I σ1 140 j = if 55 ≤ j ∧ j < 167 then 0 else bl_I σ 140 j := by
  intro r
  induction r with
  | zero =>
    intro k m τ hk h55 hm M hs
    obtain ⟨m, rfl⟩ : ∃ q, m = q + 1 := ⟨m - 1, by omega⟩
    have hk : k = 167 := by omega
    subst hk
    refine ⟨τ, ?_, M, hs⟩
    rw [fx_succ]
    show (if (167 : Int32) ≤ nI 167 then _ else _) = _
    rw [if_pos (by decide)]
  | succ r ih =>
    intro k m τ hk h55 hm M hs
    obtain ⟨m, rfl⟩ : ∃ q, m = q + 1 := ⟨m - 1, by omega⟩
    obtain ⟨σ1, e1, e2, e3⟩ := ih (k + 1) m (bl_pI τ 140 k 0) (by omega) (by omega) (by omega) (M.pI _ _) (fun j => by
      rw [I_pI]
      by_cases hj : j = k
      · rw [if_pos ⟨rfl, hj⟩, if_pos (by omega)]
      · rw [if_neg (fun z => hj z.2), hs j]
        by_cases hj2 : 55 ≤ j ∧ j < k
        · rw [if_pos hj2, if_pos (by omega)]
        · rw [if_neg hj2, if_neg (by omega)])
    refine ⟨σ1, ?_, e2, e3⟩
    rw [fx_succ]
    have hb : b_X10_anew_15 (bl_fx (fun _ _ _ _ => none) (b_X10_anew_15) m) τ 139 x (nI k) = bl_fx (fun _ _ _ _ => none) (b_X10_anew_15) m (bl_pI τ 140 k 0) 139 x (nI (k + 1)) := by
      show (if (167 : Int32) ≤ nI k then _ else _) = _
      rw [if_neg (show ¬ (167 : Int32) ≤ nI k from nI_ge (a := k) (b := 167) (by omega) (by decide)), in_nI (by omega) (by decide), gd_true, let_eq, let_eq, nI_clamp (by omega), nI_1, M.1, hR]
    rw [hb]
    exact e1
theorem lOk_zero (v : tm_V) (n : Nat) : LOk v lZero n := ⟨⟨fun _ => ⟨rfl, rfl⟩, fun z => z⟩, ⟨by decide, by decide, by decide⟩, fun _ => ⟨rfl, rfl, rfl⟩, fun z => absurd z (by decide), ⟨Nat.zero_le _, Nat.zero_le _⟩, fun k hk => absurd hk (by show ¬ k < min 16 0; omega)⟩
theorem LM.zero {σ : bl_St} {a o : Nat} (h : ∀ j, 55 ≤ j → j < 167 → bl_I σ a (o + j) = 0) : LM σ a o lZero := by
  refine ⟨⟨h 55 (by decide) (by decide), h 56 (by decide) (by decide), h 57 (by decide) (by decide), h 58 (by decide) (by decide), h 59 (by decide) (by decide)⟩, fun z => absurd z (by decide), ⟨h 60 (by decide) (by decide), h 61 (by decide) (by decide), h 62 (by decide) (by decide), h 63 (by decide) (by decide), h 64 (by decide) (by decide), h 65 (by decide) (by decide), h 66 (by decide) (by decide)⟩, ⟨h 69 (by decide) (by decide), h 118 (by decide) (by decide)⟩, Shelf.zero _ _, Shelf.zero _ _⟩
theorem op_anew (ok : SOk s n) : Both n s (fun σ => f_X9_anew σ 0) (fun τ => f_X10_anew τ 139) := by
  refine Both.to (nI (lE (sl s))) ((sv s, lZero), (pushed s).2) ⟨ok.1, lOk_zero _ _, ok.pushed.up.2.2⟩ (fun σ hx => ?_) (fun τ hm => ?_)
  · obtain ⟨σa, ea, xa, oa⟩ := x_kfu hx ok
    obtain ⟨σb, eb, kb, Rb, lb⟩ := x_clear xa.2.2.1.1
    refine ⟨σb, ?_, xa.newL (kb.mono (fun i hi => by omega)) lb⟩
    show f_X9_anew σ 0 = _
    unfold f_X9_anew
    rw [ea, bd_some, let_eq, xa.1.1.1.2.2.2.2.1, xa.2.2.1.2.2.2.1.1, eb, bd_some]
    rfl
  · obtain ⟨τa, ea, ma⟩ := m_kfu hm ok
    obtain ⟨τb, eb, mb, ib⟩ := m_anew15 ma.1.1.1.1.1 (nI (lE (sl s))) 112 55 bl_fu τa (by omega) (by omega) (by unfold bl_fu; omega) (Mo.rf τa) (fun j => by rw [if_neg (by omega)])
    refine ⟨τb, ?_, ma.now mb (ma.2.1.hi ok.1 (fun j hj => by rw [ib, if_neg (by omega)])) (LM.zero (fun j h1 h2 => by rw [ib, if_pos (by omega)]))⟩
    show f_X10_anew τ 139 = _
    unfold f_X10_anew
    have e1 := ma.2.2.1.2.2.1.1
    rw [Nat.zero_add] at e1
    rw [ea, bd_some, let_eq, ma.1.1.1.1.1, e1]
    exact eb
theorem m_undo21 {σ : bl_St} {kp : Nat} (hk12 : kp < 12) (hR : bl_R σ 139 1 = 140) (hR4 : bl_R σ 139 4 = 143) (h5 : bl_I σ 139 5 = nI kp) : ∀ (r k m : Nat) (τ : bl_St), k + r = 167 → r < m → Mo σ τ → (∀ j, bl_I τ 140 j = if j < k then bl_I σ 143 (167 * kp + j) else bl_I σ 140 j) → ∃ σ1, bl_fx (fun _ _ _ => none) (b_X10_undo_21) m τ 139 (nI k) = some (nI kp, σ1) ∧ Mo σ σ1 ∧ ∀ j, j < 167 → bl_I σ1 140 j = bl_I σ 143 (167 * kp + j) := by
  intro r
  induction r with
  | zero =>
    intro k m τ hk hm M hs
    obtain ⟨m, rfl⟩ : ∃ q, m = q + 1 := ⟨m - 1, by omega⟩
    have hk : k = 167 := by omega
    subst hk
    refine ⟨τ, ?_, M, fun j hj => by rw [hs j, if_pos hj]⟩
    rw [fx_succ]
    show (if (167 : Int32) ≤ nI 167 then _ else _) = _
    rw [if_pos (by decide), M.2.2 139 (by decide), h5]
  | succ r ih =>
    intro k m τ hk hm M hs
    obtain ⟨m, rfl⟩ : ∃ q, m = q + 1 := ⟨m - 1, by omega⟩
    obtain ⟨σ1, e1, e2, e3⟩ := ih (k + 1) m (bl_pI τ 140 k (bl_I σ 143 (167 * kp + k))) (by omega) (by omega) (M.pI _ _) (fun j => by
      rw [I_pI]
      by_cases hj : j = k
      · rw [if_pos ⟨rfl, hj⟩, if_pos (by omega), hj]
      · rw [if_neg (fun z => hj z.2), hs j]
        by_cases hj2 : j < k
        · rw [if_pos hj2, if_pos (by omega)]
        · rw [if_neg hj2, if_neg (by omega)])
    refine ⟨σ1, ?_, e2, e3⟩
    rw [fx_succ]
    have hb : b_X10_undo_21 (bl_fx (fun _ _ _ => none) (b_X10_undo_21) m) τ 139 (nI k) = bl_fx (fun _ _ _ => none) (b_X10_undo_21) m (bl_pI τ 140 k (bl_I σ 143 (167 * kp + k))) 139 (nI (k + 1)) := by
      show (if (167 : Int32) ≤ nI k then _ else _) = _
      rw [if_neg (show ¬ (167 : Int32) ≤ nI k from nI_ge (a := k) (b := 167) (by omega) (by decide)), M.2.2 139 (by decide), h5, show (167 : Int32) = nI 167 from rfl, nI_mul, nI_add, in_nI (by omega) (by decide), gd_true, in_nI (by omega) (by decide), gd_true, let_eq, let_eq, nI_clamp (by omega), nI_clamp (by omega), nI_1, M.1, hR, hR4, M.2.2 143 (by decide)]
    rw [hb]
    exact e1
theorem op_undo (ok : SOk s n) : Both n s (fun σ => f_X9_undo σ 0) (fun τ => f_X10_undo τ 139) := by
  have h12 := ok.2.2.1.1
  rcases Nat.eq_zero_or_pos (sk s) with h0 | hp
  · refine Both.same ok (-1) (fun σ hx => ⟨σ, ?_, hx⟩) (fun τ hm => ⟨τ, ?_, hm⟩)
    · show f_X9_undo σ 0 = _
      obtain ⟨nx, hP⟩ := hx.2.2.2.1
      have e := hP.2.1.2
      unfold f_X9_undo f_X6_takeBack
      rw [hx.1.1.1.2.2.2.2.2.2, e, h0, if_pos (by rfl), bd_some, if_pos rfl]
    · show f_X10_undo τ 139 = _
      unfold f_X10_undo
      rw [hm.2.2.2.1.1, h0, if_pos (by rfl)]
  obtain ⟨kp, hkp⟩ : ∃ kp, sk s = kp + 1 := ⟨sk s - 1, by omega⟩
  have p0 := ok.2.2.1.2 0 hp
  have hne : ¬ nI (kp + 1) = 0 := nI_ne0 (by omega) (by omega)
  refine Both.to (nI kp) (sp s 0, (kp, fun j => sp s (j + 1)), s.2.2) ⟨p0.1, p0.2.up, ⟨by show kp ≤ 12; omega, fun j hj => ⟨(ok.2.2.1.2 (j + 1) (by have : j < kp := hj; omega)).1, (ok.2.2.1.2 (j + 1) (by have : j < kp := hj; omega)).2.up⟩⟩, ok.2.2.2⟩ (fun σ hx => ?_) (fun τ hm => ?_)
  · obtain ⟨hw, hT, hL, ⟨nx, hP⟩, ⟨kn, hO⟩, hB⟩ := hx
    rw [hkp] at hP
    obtain ⟨σa, ea, ka, Pa, Ta, La⟩ := x_takeBack (t := 10) (a := 18) hP hT hL p0.1 p0.2 (by decide) (by decide)
    have wa := hw.kq ka (fun i hi => by omega)
    obtain ⟨σb, eb, kb, Ob⟩ := x_look (hO.or.kq ka (fun i a b c => by omega)) Ta true (by decide)
    have wb := wa.kq kb (fun i hi => by omega)
    have Pb := Pa.kq kb (fun i a b c => by omega)
    refine ⟨σb, ?_, ⟨wb, Ta.kq kb (fun i a b c => by omega), La.kq kb (fun i a b c => by omega), ⟨_, Pb⟩, ⟨0, Ob⟩, (hB.kq ka (by omega) (by omega)).kq kb (by omega) (by omega)⟩⟩
    show f_X9_undo σ 0 = _
    unfold f_X9_undo
    rw [hw.1.1.2.2.2.2.2.2, hw.1.1.2.2.1, hw.1.1.2.2.2.2.1, ea, bd_some, if_neg (by decide), wa.1.2.1, wa.1.1.2.2.1, show f_X4_look σa 111 10 1 = _ from eb, bd_some, wb.1.1.2.2.2.2.2.2, Pb.2.1.2]
  · obtain ⟨⟨hw, hd⟩, hT, hL, ⟨h5, hP⟩, h21, hB⟩ := id hm
    rw [hkp] at h5 hP
    obtain ⟨τa, e0⟩ : ∃ z, z = bl_pI τ 139 5 (nI kp) := ⟨_, rfl⟩
    have Ra : bl_R τa = bl_R τ := by rw [e0]; rfl
    have Io : ∀ i, i ≠ 139 → bl_I τa i = bl_I τ i := fun i hi => by rw [e0, I_pI_o hi]
    have I9 : ∀ k, k ≠ 5 → bl_I τa 139 k = bl_I τ 139 k := fun k hk => by rw [e0, I_pI_ne hk]
    obtain ⟨τb, eb, mb, ib⟩ := m_undo21 (σ := τa) (kp := kp) (by omega) (by rw [Ra]; exact hw.1.1.1) (by rw [Ra]; exact hw.1.1.2.2.2) (by rw [e0, I_pI_self]) 167 0 bl_fu τa (by omega) (by unfold bl_fu; omega) (Mo.rf τa) (fun j => by rw [if_neg (by omega)])
    refine ⟨τb, ?_, ⟨⟨by unfold MW; rw [mb.1, Ra]; exact hw, by rw [mb.2.2 153 (by decide), Io 153 (by decide)]; exact hd⟩, ?_, ?_, ⟨by rw [mb.2.2 139 (by decide), e0, I_pI_self], ⟨by show kp ≤ 12; omega, fun j hj => ?_⟩⟩, by rw [mb.2.2 139 (by decide), I9 21 (by decide)]; exact h21, by rw [mb.2.2 152 (by decide), Io 152 (by decide)]; exact hB⟩⟩
    · show f_X10_undo τ 139 = _
      unfold f_X10_undo
      rw [h5, if_neg hne, let_eq, show (1 : Int32) = nI 1 from rfl, nI_sub (by omega), show kp + 1 - 1 = kp by omega, ← e0]
      exact eb
    · have q := (hP.2 0 (by omega)).1
      rw [show 167 * (kp + 1 - 1 - 0) = 167 * kp by omega] at q
      exact q.cp p0.1 (fun j hj => by rw [Nat.zero_add, ib j hj, Io 143 (by decide)])
    · have q := (hP.2 0 (by omega)).2
      rw [show 167 * (kp + 1 - 1 - 0) = 167 * kp by omega] at q
      exact q.cp (fun j _ hj => by rw [Nat.zero_add, ib j hj, Io 143 (by decide)])
    · have hj : j < kp := hj
      have q := hP.2 (j + 1) (by omega)
      rw [show 167 * (kp + 1 - 1 - (j + 1)) = 167 * (kp - 1 - j) by omega] at q
      have e143 : bl_I τb 143 = bl_I τ 143 := by rw [mb.2.2 143 (by decide), Io 143 (by decide)]
      have q1 := q.1
      have q2 := q.2
      show TM τb 143 (167 * (kp - 1 - j)) (sp s (j + 1)).1 ∧ LM τb 143 (167 * (kp - 1 - j)) (sp s (j + 1)).2
      unfold TM LM at *
      rw [e143]
      exact ⟨q1, q2⟩
/-! asked: nothing changes -/
theorem op_of (ok : SOk s n) (c w : Int32) : Both n s (fun σ => f_X9_of σ 0 c w) (fun τ => f_X10_of τ 139 c w) := by
  have h8 := ok.1.n8
  rcases (Classical.em (vC c (tN (sv s)) ∧ vC w 5)).symm with hb | hb
  · refine Both.same ok (-1) (fun σ hx => ⟨σ, ?_, hx⟩) (fun τ hm => ⟨τ, ?_, hm⟩)
    · show f_X9_of σ 0 c w = _
      unfold f_X9_of
      rw [hx.1.1.1.2.2.1, x_hasClass hx.2.1 ok.1, bd_some]
      by_cases h1 : vC c (tN (sv s))
      · rw [if_pos h1, if_neg (by decide)]
        by_cases h2 : w < 0
        · rw [if_pos h2]
        · rw [if_neg h2, if_neg (show ¬ w < 5 from fun z => hb ⟨h1, by rw [lt0_iff] at h2; omega, by rw [show (5 : Int32) = nI 5 from rfl, ltN_iff w (by decide)] at z; exact z⟩)]
      · rw [if_neg h1, if_pos rfl]
    · show f_X10_of τ 139 c w = _
      unfold f_X10_of
      rw [m_isClass hm.1.1.1.1.1 hm.2.1 ok.1, bd_some]
      by_cases h1 : vC c (tN (sv s))
      · rw [if_pos h1, if_neg (by decide), show (0 : Int64) = lN 0 from rfl, show (4 : Int64) = lN 4 from rfl, m_inN τ w (by decide) (by decide), bd_some, if_neg (show ¬ vR w 0 4 from fun z => hb ⟨h1, by have := z.1; omega, by have := z.2; omega⟩), if_pos rfl]
      · rw [if_neg h1, if_pos rfl]
  obtain ⟨hc, hw⟩ := hb
  obtain ⟨k, hk, rfl⟩ := vC_of (by omega) hc
  obtain ⟨j, hj, rfl⟩ := vC_of (by decide) hw
  refine Both.same ok (nI (tC (sv s) (5 * k + j))) (fun σ hx => ⟨σ, ?_, hx⟩) (fun τ hm => ⟨τ, ?_, hm⟩)
  · show f_X9_of σ 0 (nI k) (nI j) = _
    unfold f_X9_of
    rw [hx.1.1.1.2.2.1, x_hasClass hx.2.1 ok.1, bd_some, if_pos hc, if_neg (by decide), if_neg (nI_pos (by omega)), if_pos (show nI j < 5 from nI_lt (b := 5) hj (by decide)), hx.1.1.1.2.2.1, x_part hx.2.1 ok.1 hk hj, bd_some]
  · show f_X10_of τ 139 (nI k) (nI j) = _
    unfold f_X10_of
    rw [m_isClass hm.1.1.1.1.1 hm.2.1 ok.1, bd_some, if_pos hc, if_neg (by decide), show (0 : Int64) = lN 0 from rfl, show (4 : Int64) = lN 4 from rfl, m_inN τ (nI j) (by decide) (by decide), bd_some, if_pos (show vR (nI j) 0 4 by unfold vC at hw; unfold vR; omega), if_neg (by decide), m_ofClass hm.1.1.1.1.1 hm.2.1 ok.1 hk hj, bd_some]
theorem op_ofSort (ok : SOk s n) (c w : Int32) : Both n s (fun σ => f_X9_ofSort σ 0 c w) (fun τ => f_X10_ofSort τ 139 c w) := by
  have h5 := ok.1.k5
  rcases (Classical.em (vC c (tK (sv s)))).symm with hc | hc
  · refine Both.same ok (-1) (fun σ hx => ⟨σ, ?_, hx⟩) (fun τ hm => ⟨τ, ?_, hm⟩)
    · show f_X9_ofSort σ 0 c w = _
      unfold f_X9_ofSort
      rw [hx.1.1.1.2.2.1, x_hasSort hx.2.1 ok.1, bd_some, if_neg hc, if_pos rfl]
    · show f_X10_ofSort τ 139 c w = _
      unfold f_X10_ofSort
      rw [m_isSort hm.1.1.1.1.1 hm.2.1 ok.1, bd_some, if_neg hc, if_pos rfl]
  obtain ⟨k, hk, rfl⟩ := vC_of (by omega) hc
  refine Both.same ok (if w = 0 then nI (tS (sv s) (2 * k)) else if w = 1 then nI (tS (sv s) (2 * k + 1)) else if w = 2 then nI (tO (sv s)) * nI (tS (sv s) (2 * k + 1)) else (-1)) (fun σ hx => ⟨σ, ?_, hx⟩) (fun τ hm => ⟨τ, ?_, hm⟩)
  · show f_X9_ofSort σ 0 (nI k) w = _
    unfold f_X9_ofSort
    have p0 : f_X8_sortPart σ 10 (nI k) 0 = _ := x_sortPart hx.2.1 ok.1 hk (w := 0) (by decide)
    have p1 : f_X8_sortPart σ 10 (nI k) 1 = _ := x_sortPart hx.2.1 ok.1 hk (w := 1) (by decide)
    rw [hx.1.1.1.2.2.1, x_hasSort hx.2.1 ok.1, bd_some, if_pos hc, if_neg (by decide)]
    simp only [hx.1.1.1.2.2.1, p0, p1, bd_some, x_odds hx.2.1, Nat.add_zero]
    simp only [ite_some, bd_some]
  · show f_X10_ofSort τ 139 (nI k) w = _
    unfold f_X10_ofSort
    have e3 := hm.2.1.2.1.2.1
    simp only [Nat.zero_add] at e3
    rw [m_isSort hm.1.1.1.1.1 hm.2.1 ok.1, bd_some, if_pos hc, if_neg (by decide), m_size hm.1.1.1.1.1 hm.2.1 ok.1 hk, m_weight hm.1.1.1.1.1 hm.2.1 ok.1 hk, bd_some, bd_some, hm.1.1.1.1.1, e3]
    simp only [ite_some, bd_some]
theorem op_life (ok : SOk s n) (w : Int32) : Both n s (fun σ => f_X9_life σ 0 w) (fun τ => f_X10_life τ 139 w) := by
  have h8 := ok.1.n8
  have hO := ok.2.1.2.1.1
  have hU := ok.2.1.2.1.2.2
  refine Both.same ok (if w = 0 then (if nI (tN (sv s)) = 0 then (-1) else nI (lP (sl s))) else if w = 1 then nI (lO (sl s)) else if w = 2 then nI (lG (sl s)) else if w = 3 then nI (lC (sl s)) else if w = 4 then nI (lU (sl s)) else if w = 5 then nI (lE (sl s)) else if w = 6 then lpp (sl s) else if w = 7 then lpg (sl s) else if w = 8 then lpt (sl s) else if w = 9 then lpb (sl s) else if w = 10 then nI (lT (sl s)) else if w = 11 then nI (lB (sl s)) else if w = 12 then lpp (sl s) + lpg (sl s) + lpt (sl s) + lpb (sl s) else (-1)) (fun σ hx => ⟨σ, ?_, hx⟩) (fun τ hm => ⟨τ, ?_, hm⟩)
  · show f_X9_life σ 0 w = _
    obtain ⟨⟨r1, r2⟩, ⟨a0, a1, a2, a3, a4⟩, b, ⟨c1, c2, c3, c4, c5, c6, c7⟩, d1, d2⟩ := hx.2.2.1
    unfold f_X9_life f_X2_allPaid
    rw [hx.1.1.1.2.2.1, hx.1.1.1.2.2.2.2.1, hx.2.1.2.1.1, a0, a1, a2, a3, a4, c1, c2, c3, c4, c5, c6, c7, bd_some]
    have x1 : (if nI (lO (sl s)) = 0 then some ((0 : Int32), σ) else some (1, σ)) = some (nI (lO (sl s)), σ) := by
      rcases (show lO (sl s) = 0 ∨ lO (sl s) = 1 by omega) with h | h <;> rw [h] <;> rfl
    have x4 : (if nI (lU (sl s)) = 0 then some ((0 : Int32), σ) else some (1, σ)) = some (nI (lU (sl s)), σ) := by
      rcases (show lU (sl s) = 0 ∨ lU (sl s) = 1 by omega) with h | h <;> rw [h] <;> rfl
    rw [x1, x4]
    simp only [ite_some, bd_some]
  · show f_X10_life τ 139 w = _
    obtain ⟨⟨a0, a1, a2, a3, a4⟩, b, ⟨c1, c2, c3, c4, c5, c6, c7⟩, ⟨m1, m2⟩, d1, d2⟩ := hm.2.2.1
    have e0 := hm.2.1.1.1
    simp only [Nat.zero_add] at a0 a1 a2 a3 a4 c1 c2 c3 c4 c5 c6 c7
    unfold f_X10_life f_X10_allPaid
    rw [hm.1.1.1.1.1, e0, a0, a1, a2, a3, a4, c1, c2, c3, c4, c5, c6, c7, bd_some]
    simp only [ite_some, bd_some]
theorem op_count (ok : SOk s n) (hn : n ≤ 600) (w : Int32) : Both n s (fun σ => f_X9_count σ 0 w) (fun τ => f_X10_count τ 139 w) := by
  have hE := ok.2.1.2.2.2.2.1
  have n16 : ∀ a, a < 2 ^ 31 → (if nI a < 16 then nI a else 16) = nI (min 16 a) := fun a ha => by
    show (if nI a < nI 16 then nI a else nI 16) = _
    by_cases h : a < 16
    · rw [if_pos (nI_lt h (by decide)), Nat.min_eq_right (by omega)]
    · rw [if_neg (nI_nlt (by omega) ha), Nat.min_eq_left (by omega)]
  refine Both.same ok (if w = 0 then nI (tN (sv s)) else if w = 1 then nI (tK (sv s)) else if w = 2 then nI (tH (sv s)) else if w = 3 then nI (tO (sv s)) else if w = 4 then nI (tW (sv s)) else if w = 5 then nI (sk s) else if w = 6 then nI (sn s) else if w = 7 then nI (tA (sv s)) else if w = 8 then nI (min 16 (lT (sl s) + lB (sl s))) else if w = 9 then nI (min 16 (lE (sl s))) else (-1)) (fun σ hx => ⟨σ, ?_, hx⟩) (fun τ hm => ⟨τ, ?_, hm⟩)
  · show f_X9_count σ 0 w = _
    obtain ⟨⟨r1, r2⟩, ⟨a0, a1, a2, a3, a4⟩, b, ⟨c1, c2, c3, c4, c5, c6, c7⟩, d1, d2⟩ := hx.2.2.1
    obtain ⟨nx, hP⟩ := hx.2.2.2.1
    unfold f_X9_count
    rw [hx.1.1.1.2.2.1, hx.1.1.1.2.2.2.2.1, hx.1.1.1.2.2.2.2.2.2, hx.1.1.1.1, hx.2.1.2.1.1, hx.2.1.2.1.2, x_chances hx.2.1, x_odds hx.2.1, x_own hx.2.1, x_allWeights hx.2.1 ok.1, hP.2.1.2, hx.2.2.2.2.2.1, c1, c6, c7, nI_add, n16 _ (by omega), n16 _ (by omega), bd_some, bd_some, bd_some, bd_some]
    simp only [ite_some, bd_some]
  · show f_X10_count τ 139 w = _
    obtain ⟨⟨a0, a1, a2, a3, a4⟩, b, ⟨c1, c2, c3, c4, c5, c6, c7⟩, ⟨m1, m2⟩, d1, d2⟩ := hm.2.2.1
    obtain ⟨⟨e0, e1⟩, ⟨b0, b1, b2⟩, -⟩ := hm.2.1
    simp only [Nat.zero_add] at m1 m2 e1 b0 b1 b2
    unfold f_X10_count
    rw [hm.1.1.1.1.1, e0, e1, b0, b1, b2, hm.2.2.2.1.1, hm.2.2.2.2.1, m_weights hm.1.1.1.1.1 hm.2.1 ok.1, m1, m2, bd_some]
    simp only [ite_some, bd_some]
end TAF
