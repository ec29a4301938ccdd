/-! ===== acts ===== -/
theorem SOk.pushed {s : st_V} {n : Nat} (h : SOk s n) : SOk (pushed s) n := by
  refine ⟨h.1, h.2.1, ⟨by show min 12 (sk s + 1) ≤ 12; omega, fun j hj => ?_⟩, h.2.2.2⟩
  have hj : j < min 12 (sk s + 1) := hj
  cases j with
  | zero => exact ⟨h.1, h.2.1⟩
  | succ j => exact h.2.2.1.2 j (by omega)
/-- ahead of the chance that goes -/
def WOk (v : tm_V) (l : lf_V) (m : Nat) : Prop :=
  lP l < tN v ∧ lO l = 1 ∧ lG l < tH v ∧ (lC l ≤ lG l + 1 ∧ lU l ≤ 1) ∧ lY l ≤ 1098 + 999 * (lG l + 1) ∧ (lE l ≤ 20 * m ∧ lT l + lB l ≤ 60 * m) ∧ ∀ k, k < min 16 (lE l) → lLg l k 1 ≤ 4095
section ACT
variable {v : tm_V} {l : lf_V} {m : Nat}
theorem LOk.wk (h : LOk v l m) (ok : TOk v) (ho : lO l = 1) : WOk v l m := by
  have hN : 0 < tN v := by
    rcases Nat.eq_zero_or_pos (tN v) with z | z
    · have := (h.1.1 z).2; omega
    · exact z
  have q := h.2.2.2.1 ho
  exact ⟨h.1.2 hN, ho, q.1, ⟨by omega, h.2.1.2.2⟩, by omega, h.2.2.2.2⟩
theorem lOk_begin (h : LOk v l m) (ok : TOk v) (hN : 0 < tN v) {g : Nat} (hg : g < 2) : LOk v (lBegin v l g) m := by
  have hP := h.1.2 hN
  have hp := (ok.2.1 _ hP).1
  have hf := (ok.2.1 _ hP).2.2
  refine ⟨⟨fun z => by omega, fun _ => hP⟩, ⟨by show 1 ≤ 1; omega, by show 0 ≤ 3; omega, by show g ≤ 1; omega⟩, fun z => absurd z (by show ¬ 1 = 0; decide), fun _ => ⟨by have := ok.2.2.2.1.1; show 0 < tH v; omega, by show 0 ≤ 0; omega, ?_⟩, h.2.2.2.2⟩
  show tC v (5 * lP l) + g * tC v (5 * lP l + 4) ≤ 1098 + 999 * 0
  rcases (show g = 0 ∨ g = 1 by omega) with rfl | rfl <;> omega
theorem lOk_pass (h : WOk v l m) (ok : TOk v) (hE : lE l + 1 ≤ 20 * m) : LOk v (lPass v l) m := by
  obtain ⟨hP, ho, hG, ⟨hC, hU⟩, hY, ⟨_, hTB⟩, hLg⟩ := h
  have h3 := ok.2.2.2.1.2
  unfold lPass
  split
  · rename_i hlt
    exact ⟨⟨fun z => by omega, fun _ => hP⟩, ⟨by show lO l ≤ 1; omega, by show lC l ≤ 3; omega, hU⟩, fun z => absurd (show lO l = 0 from z) (by omega), fun _ => ⟨hlt, hC, by show lY l ≤ 1098 + 999 * (lG l + 1); omega⟩, ⟨by show lE l ≤ 20 * m; omega, hTB⟩, hLg⟩
  · refine ⟨⟨fun z => by omega, fun _ => tB_lt ok _ hP⟩, ⟨by show 0 ≤ 1; omega, by show 0 ≤ 3; omega, by show 0 ≤ 1; omega⟩, fun _ => ⟨rfl, rfl, rfl⟩, fun z => absurd z (by show ¬ 0 = 1; decide), ⟨hE, hTB⟩, fun k hk => ?_⟩
    cases k with
    | zero =>
      have hg2 : lG l ≤ 2 := by omega
      exact Nat.le_trans hY (by omega)
    | succ k => exact hLg k (by have hk : k + 1 < min 16 (lE l + 1) := hk; omega)
theorem wOk_loss (h : LOk v l m) (ok : TOk v) (ho : lO l = 1) {s d : Nat} (hs : s < tK v) (hB : lT l + lB l + 1 ≤ 60 * m) : WOk v (lLoss v l s d) m := by
  obtain ⟨hP, -, hG, -, hY, ⟨hE, hTB⟩, hLg⟩ := h.wk ok ho
  have q := h.2.2.2.1 ho
  have hU := h.2.1.2.2
  have hs2 := (ok.2.2.1 s hs).1.2
  have hp := tP_le v s
  unfold lLoss
  split
  · refine ⟨hP, ho, hG, ⟨?_, by show 0 ≤ 1; omega⟩, by show lY l + tP v s ≤ 1098 + 999 * (lG l + 1); omega, ⟨hE, by show lT l + 1 + lB l ≤ 60 * m; omega⟩, hLg⟩
    show (if lU l = 1 then lC l else lC l + 1) ≤ lG l + 1
    split <;> omega
  · exact ⟨hP, ho, hG, ⟨by show lC l ≤ lG l + 1; omega, hU⟩, by show lY l + tS v (2 * s) ≤ 1098 + 999 * (lG l + 1); omega, ⟨hE, by show lT l + (lB l + 1) ≤ 60 * m; omega⟩, hLg⟩
variable {s : st_V} {n : Nat}
theorem nI_is0 {a : Nat} (ha : a < 2 ^ 31) : (nI a = 0) ↔ a = 0 := by
  rw [show (0 : Int32) = nI 0 from rfl]
  exact nI_eq ha (by decide)
theorem nI_is {a b : Nat} (ha : a < 2 ^ 31) (hb : b < 2 ^ 31) : (nI a = nI b) ↔ a = b := nI_eq ha hb
theorem SOk.hN (ok : SOk s n) : tN (sv s) ≤ 8 := ok.1.n8
/-- begin -/
theorem op_begin (ok : SOk s n) (hn : n ≤ 600) {g : Nat} (hg : g < 2) : Both n s (fun σ => f_X9_begin σ 0 (nI g)) (fun τ => f_X10_begin τ 139 (nI g)) := by
  have h8 := ok.1.n8
  have hO := ok.2.1.2.1.1
  by_cases hbad : lO (sl s) = 1 ∨ tN (sv s) = 0
  · refine Both.same ok (-1) (fun σ hx => ⟨σ, ?_, hx⟩) (fun τ hm => ⟨τ, ?_, hm⟩)
    · show f_X9_begin σ 0 (nI g) = _
      unfold f_X9_begin
      rw [hx.1.1.1.2.2.2.2.1, hx.1.1.1.2.2.1, hx.2.2.1.2.1.2.1, hx.2.1.2.1.1]
      by_cases h1 : lO (sl s) = 1
      · rw [h1, if_neg (by decide)]
      · rw [show lO (sl s) = 0 by omega, if_pos (by rfl), if_pos ((nI_is0 (by omega)).mpr (hbad.resolve_left h1))]
    · show f_X10_begin τ 139 (nI g) = _
      unfold f_X10_begin
      have e0 := hm.2.1.1.1
      have e1 := hm.2.2.1.1.2.1
      rw [hm.1.1.1.1.1, e0, e1]
      by_cases h1 : tN (sv s) = 0
      · rw [if_pos ((nI_is0 (by omega)).mpr h1)]
      · rw [if_neg (fun z => h1 ((nI_is0 (by omega)).mp z)), hbad.resolve_right h1, if_pos (by rfl)]
  · have hN : 0 < tN (sv s) := by omega
    have ho : lO (sl s) = 0 := by omega
    have hP := ok.2.1.1.2 hN
    have h0 := ok.2.1.2.2.1 ho
    refine Both.to (nI (lY (lBegin (sv s) (sl s) g))) ((sv s, lBegin (sv s) (sl s) g), (pushed s).2) ⟨ok.1, (lOk_begin ok.2.1 ok.1 hN hg).up, ok.pushed.up.2.2⟩ (fun σ hx => ?_) (fun τ hm => ?_)
    · obtain ⟨σa, ea, xa, oa⟩ := x_kfu hx ok
      obtain ⟨σb, eb, kb, lb⟩ := x_startYear (g := g) xa.2.1 ok.1 xa.2.2.1 hP ⟨h0.1, h0.2.1⟩ hg (by decide)
      refine ⟨σb, ?_, xa.newL (kb.mono (fun i hi => by omega)) lb⟩
      show f_X9_begin σ 0 (nI g) = _
      unfold f_X9_begin
      rw [hx.1.1.1.2.2.2.2.1, hx.1.1.1.2.2.1, hx.2.2.1.2.1.2.1, hx.2.1.2.1.1, ho, if_pos (by rfl), if_neg (fun z => by have := (nI_is0 (by omega)).mp z; omega), ea, bd_some, xa.1.1.1.2.2.2.2.1, xa.1.1.1.2.2.1, eb, bd_some]
      rfl
    · obtain ⟨τa, ea, ma⟩ := m_kfu hm ok
      obtain ⟨τb, eb, mb, tb, lb⟩ := m_begins (g := g) ma.1.1.1.1.1 ma.2.1 ok.1 ma.2.2.1.lw hP hg
      refine ⟨τb, ?_, ma.now mb tb lb⟩
      show f_X10_begin τ 139 (nI g) = _
      unfold f_X10_begin
      have e0 := hm.2.1.1.1
      have e1 := hm.2.2.1.1.2.1
      have e2 := (lb.2.1 rfl).1
      have e3 : bl_R τb 139 1 = 140 := by rw [mb.1]; exact ma.1.1.1.1.1
      simp only [Nat.zero_add] at e2
      rw [hm.1.1.1.1.1, e0, e1, if_neg (fun z => by have := (nI_is0 (by omega)).mp z; omega), ho, if_neg (by decide), ea, bd_some, eb, bd_some, e3, e2]
      rfl
/-- quiet -/
theorem op_quiet (ok : SOk s n) (hn : n ≤ 600) : Both n s (fun σ => f_X9_quiet σ 0) (fun τ => f_X10_quiet τ 139) := by
  have h8 := ok.1.n8
  have hO := ok.2.1.2.1.1
  by_cases ho : lO (sl s) = 0
  · refine Both.same ok (-1) (fun σ hx => ⟨σ, ?_, hx⟩) (fun τ hm => ⟨τ, ?_, hm⟩)
    · show f_X9_quiet σ 0 = _
      unfold f_X9_quiet
      rw [hx.1.1.1.2.2.2.2.1, hx.2.2.1.2.1.2.1, ho, if_pos (by rfl)]
    · show f_X10_quiet τ 139 = _
      unfold f_X10_quiet
      have e1 := hm.2.2.1.1.2.1
      rw [hm.1.1.1.1.1, e1, ho, if_pos (by rfl)]
  · have ho : lO (sl s) = 1 := by omega
    have w := ok.2.1.wk ok.1 ho
    have hE := w.2.2.2.2.2.1
    have hH := ok.1.2.2.2.1
    have hG := w.2.2.1
    have hC := w.2.2.2.1.1
    refine Both.to (nI (tH (sv s) - (lG (sl s) + 1))) ((sv s, lPass (sv s) (sl s)), (pushed s).2) ⟨ok.1, lOk_pass (m := n + 1) (ok.2.1.up.wk ok.1 ho) ok.1 (by omega), ok.pushed.up.2.2⟩ (fun σ hx => ?_) (fun τ hm => ?_)
    · obtain ⟨σa, ea, xa, oa⟩ := x_kfu hx ok
      obtain ⟨σb, eb, kb, lb⟩ := x_passChance xa.2.1 ok.1 xa.2.2.1 w.1 hG (show lC (sl s) ≤ 4 by omega) (show lE (sl s) ≤ 20000 by omega) ho (by decide)
      refine ⟨σb, ?_, xa.newL kb lb⟩
      show f_X9_quiet σ 0 = _
      unfold f_X9_quiet
      rw [hx.1.1.1.2.2.2.2.1, hx.2.2.1.2.1.2.1, ho, if_neg (by decide), ea, bd_some, xa.1.1.1.2.2.2.2.1, xa.1.1.1.2.2.1, eb, bd_some]
      rfl
    · obtain ⟨τa, ea, ma⟩ := m_kfu hm ok
      obtain ⟨τb, eb, mb, tb, lb⟩ := m_goesBy (n := 0) ma.1.1.1.1.1 ma.2.1 ok.1 ma.2.2.1 (show 0 < tN (sv s) by have := w.1; omega) w.1 ho (show lC (sl s) ≤ 4 by omega) (show lG (sl s) < 100 by omega)
      refine ⟨τb, ?_, ma.now mb tb lb⟩
      show f_X10_quiet τ 139 = _
      unfold f_X10_quiet
      have e1 := hm.2.2.1.1.2.1
      have e2 := ma.2.1.2.1.1
      have e3 := ma.2.2.1.1.2.2.1
      simp only [Nat.zero_add] at e1 e2 e3
      rw [hm.1.1.1.1.1, e1, ho, if_neg (by decide), ea, bd_some, let_eq, ma.1.1.1.1.1, e2, e3, eb, bd_some]
      have : nI (tH (sv s)) - nI (lG (sl s)) - 1 = nI (tH (sv s) - (lG (sl s) + 1)) := by
        rw [show (1 : Int32) = nI 1 from rfl, nI_sub (by omega), nI_sub (by omega)]
        congr 1
      rw [← this]
      rfl
/-- loss -/
theorem op_loss (ok : SOk s n) (hn : n ≤ 600) (c : Int32) {d : Nat} (hd : d < 2) : Both n s (fun σ => f_X9_loss σ 0 c (nI d)) (fun τ => f_X10_loss τ 139 c (nI d)) := by
  have h8 := ok.1.n8
  have h5 := ok.1.k5
  have hO := ok.2.1.2.1.1
  by_cases ho : lO (sl s) = 0
  · refine Both.same ok (-1) (fun σ hx => ⟨σ, ?_, hx⟩) (fun τ hm => ⟨τ, ?_, hm⟩)
    · show f_X9_loss σ 0 c (nI d) = _
      unfold f_X9_loss
      rw [hx.1.1.1.2.2.2.2.1, hx.2.2.1.2.1.2.1, ho, if_pos (by rfl)]
    · show f_X10_loss τ 139 c (nI d) = _
      unfold f_X10_loss
      have e1 := hm.2.2.1.1.2.1
      rw [hm.1.1.1.1.1, e1, ho, if_pos (by rfl)]
  have ho : lO (sl s) = 1 := by omega
  by_cases hc : vC c (tK (sv s))
  · obtain ⟨k, hk, rfl⟩ := vC_of (by omega) hc
    have w := ok.2.1.wk ok.1 ho
    have hE := w.2.2.2.2.2.1
    have hH := ok.1.2.2.2.1
    have hG := w.2.2.1
    have hC := (ok.2.1.2.2.2.1 ho).2.1
    have hU := ok.2.1.2.1.2.2
    have w2 := wOk_loss (d := d) ok.2.1.up ok.1 ho hk (show lT (sl s) + lB (sl s) + 1 ≤ 60 * (n + 1) by omega)
    have eE : lE (lLoss (sv s) (sl s) k d) = lE (sl s) := by unfold lLoss; split <;> rfl
    refine Both.to (nI (lPaid (sv s) k d)) ((sv s, lPass (sv s) (lLoss (sv s) (sl s) k d)), (pushed s).2) ⟨ok.1, lOk_pass (m := n + 1) w2 ok.1 (by rw [eE]; omega), ok.pushed.up.2.2⟩ (fun σ hx => ?_) (fun τ hm => ?_)
    · obtain ⟨σa, ea, xa, oa⟩ := x_kfu hx ok
      obtain ⟨σb, eb, kb, lb⟩ := x_takeLoss (s := k) (d := d) xa.2.1 ok.1 xa.2.2.1 (show lT (sl s) + lB (sl s) ≤ 60000 by omega) hU ho hk hd (by decide)
      have xb := xa.newL kb lb
      obtain ⟨σc, ec, kc, lc⟩ := x_passChance xb.2.1 ok.1 xb.2.2.1 w2.1 w2.2.2.1 (show lC (lLoss (sv s) (sl s) k d) ≤ 4 by have h1 := w2.2.2.2.1.1; have h2 := w2.2.2.1; omega) (show lE (lLoss (sv s) (sl s) k d) ≤ 20000 by rw [eE]; omega) w2.2.1 (by decide)
      refine ⟨σc, ?_, xb.newL kc lc⟩
      show f_X9_loss σ 0 (nI k) (nI d) = _
      unfold f_X9_loss
      rw [hx.1.1.1.2.2.2.2.1, hx.1.1.1.2.2.1, hx.2.2.1.2.1.2.1, ho, if_neg (by decide), x_hasSort hx.2.1 ok.1, bd_some, if_pos hc, if_neg (by decide), ea, bd_some, xa.1.1.1.2.2.2.2.1, xa.1.1.1.2.2.1, eb, bd_some, xb.1.1.1.2.2.2.2.1, xb.1.1.1.2.2.1, ec, bd_some]
      rfl
    · obtain ⟨τa, ea, ma⟩ := m_kfu hm ok
      obtain ⟨τb, eb, mb, tb, lb⟩ := m_loses (s := k) (d := d) ma.1.1.1.1.1 ma.2.1 ok.1 ma.2.2.1 (show 0 < tN (sv s) by have := w.1; omega) w.1 ho hU (show lC (sl s) ≤ 3 by omega) (show lG (sl s) < 100 by omega) hk hd
      refine ⟨τb, ?_, ma.now mb tb lb⟩
      show f_X10_loss τ 139 (nI k) (nI d) = _
      unfold f_X10_loss
      have e1 := hm.2.2.1.1.2.1
      simp only [Nat.zero_add] at e1
      rw [hm.1.1.1.1.1, e1, ho, if_neg (by decide), m_isSort hm.1.1.1.1.1 hm.2.1 ok.1, bd_some, if_pos hc, if_neg (by decide), ea, bd_some, eb, bd_some]
      rfl
  · refine Both.same ok (-1) (fun σ hx => ⟨σ, ?_, hx⟩) (fun τ hm => ⟨τ, ?_, hm⟩)
    · show f_X9_loss σ 0 c (nI d) = _
      unfold f_X9_loss
      rw [hx.1.1.1.2.2.2.2.1, hx.1.1.1.2.2.1, hx.2.2.1.2.1.2.1, ho, if_neg (by decide), x_hasSort hx.2.1 ok.1, bd_some, if_neg hc, if_pos rfl]
    · show f_X10_loss τ 139 c (nI d) = _
      unfold f_X10_loss
      have e1 := hm.2.2.1.1.2.1
      simp only [Nat.zero_add] at e1
      rw [hm.1.1.1.1.1, e1, ho, if_neg (by decide), m_isSort hm.1.1.1.1.1 hm.2.1 ok.1, bd_some, if_neg hc, if_pos rfl]
end ACT
