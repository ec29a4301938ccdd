/-! ===== live, would, bestRule ===== -/
section LIV
variable {s : st_V} {n : Nat} {σ τ : bl_St}
abbrev vL (s : st_V) (y r v : Int32) : Prop := 0 < tN (sv s) ∧ vR y 1 20 ∧ vT r v
theorem x_canLive (hx : XI σ s) (ok : SOk s n) (y r v : Int32) : f_X9_canLive σ 0 y r v = some (if vL s y r v then 1 else 0, σ) := by
  have h8 := ok.1.n8
  unfold f_X9_canLive
  rw [hx.1.1.1.2.2.1, hx.2.1.2.1.1]
  by_cases h0 : tN (sv s) = 0
  · rw [if_pos (show nI (tN (sv s)) ≤ 0 by rw [h0]; decide), if_neg (fun z => by have := z.1; omega)]
  rw [if_neg (nI_nle (by omega) (by omega))]
  by_cases h1 : y < 1
  · rw [if_pos h1, if_neg (fun z => by rw [show (1 : Int32) = nI 1 from rfl, ltN_iff y (by decide)] at h1; have := z.2.1.1; omega)]
  rw [if_neg h1]
  by_cases h2 : (20 : Int32) < y
  · rw [if_pos h2, if_neg (fun z => by rw [show (20 : Int32) = nI 20 from rfl, Nlt_iff y (by decide)] at h2; have := z.2.1.2; omega)]
  rw [if_neg h2, x_isThumb, bd_some]
  by_cases h3 : vT r v
  · rw [if_pos h3, if_neg (by decide), if_pos ⟨by omega, ⟨by rw [show (1 : Int32) = nI 1 from rfl, ltN_iff y (by decide)] at h1; omega, by rw [show (20 : Int32) = nI 20 from rfl, Nlt_iff y (by decide)] at h2; omega⟩, h3⟩]
  · rw [if_neg h3, if_pos rfl, if_neg (fun z => h3 z.2.2)]
theorem m_isLived (τ : bl_St) (y r v : Int32) : f_X10_isLived τ y r v = some (if vR y 1 20 ∧ vT r v then 1 else 0, τ) := by
  unfold f_X10_isLived b_X10_isLived_39
  rw [show (1 : Int64) = lN 1 from rfl, show (20 : Int64) = lN 20 from rfl, m_inN τ y (by decide) (by decide), bd_some]
  by_cases h1 : vR y 1 20
  · rw [if_pos h1, if_neg (by decide), show (0 : Int64) = lN 0 from rfl, show (3 : Int64) = lN 3 from rfl, m_inN τ r (by decide) (by decide), bd_some]
    by_cases h2 : vR r 0 3
    · rw [if_pos h2, if_neg (by decide), show (999 : Int64) = lN 999 from rfl, m_inN τ v (by decide) (by decide), m_inN τ v (by decide) (by decide), bd_some, bd_some]
      have hc : vC r 4 := ⟨by have := h2.1; omega, by have := h2.2; omega⟩
      by_cases h3 : r = 3
      · rw [if_pos h3]
        by_cases h4 : vR v 0 999
        · rw [if_pos h4, if_neg (by decide), if_pos ⟨h1, hc, by rw [if_pos h3]; exact h4⟩]
        · rw [if_neg h4, if_pos rfl, if_neg (fun z => h4 (by have := z.2.2; rw [if_pos h3] at this; exact this))]
      · rw [if_neg h3]
        by_cases h4 : vR v 0 0
        · rw [if_pos h4, if_neg (by decide), if_pos ⟨h1, hc, by rw [if_neg h3]; exact h4⟩]
        · rw [if_neg h4, if_pos rfl, if_neg (fun z => h4 (by have := z.2.2; rw [if_neg h3] at this; exact this))]
    · rw [if_neg h2, if_pos rfl, if_neg (fun z => h2 ⟨by have := z.2.1.1; omega, by have := z.2.1.2; omega⟩)]
  · rw [if_neg h1, if_pos rfl, if_neg (fun z => h1 z.1)]
theorem vT_of {r v : Int32} (h : vT r v) : ∃ rl lm, r = nI rl ∧ v = nI lm ∧ rl ≤ 3 ∧ lm ≤ 999 := by
  obtain ⟨rl, h1, h2⟩ := vC_of (by decide) h.1
  obtain ⟨lm, e, -, h4⟩ := vR_of (b := if r = 3 then 999 else 0) (by split <;> decide) h.2
  refine ⟨rl, lm, h2, e, by omega, ?_⟩
  split at h4 <;> omega
theorem ye_of (ok : SOk s n) (ho : lO (sl s) = 0) {Y : Nat} (hY : Y ≤ 20) : YE (sv s) (n + 1) Y (sl s) :=
  ⟨ok.2.1.up, ho, by have := ok.2.1.2.2.2.2.1.1; omega, by have := ok.2.1.2.2.2.2.1.2; omega⟩
theorem op_live (ok : SOk s n) (hn : n ≤ 600) (y r v sd : Int32) : Both n s (fun σ => f_X9_live σ 0 y r v sd) (fun τ => f_X10_live τ 139 y r v sd) := by
  have h8 := ok.1.n8
  have hO := ok.2.1.2.1.1
  rcases (Classical.em (lO (sl s) = 0 ∧ vL s y r v)).symm with hb | hb
  · refine Both.same ok (-1) (fun σ hx => ⟨σ, ?_, hx⟩) (fun τ hm => ⟨τ, ?_, hm⟩)
    · show f_X9_live σ 0 y r v sd = _
      unfold f_X9_live
      rw [hx.1.1.1.2.2.2.2.1, hx.2.2.1.2.1.2.1]
      by_cases h1 : lO (sl s) = 0
      · rw [h1, if_pos (by rfl), x_canLive hx ok, bd_some, if_neg (show ¬ vL s y r v from fun z => hb ⟨h1, z⟩), if_pos rfl]
      · rw [if_neg (nI_ne0 (by omega) (by omega))]
    · show f_X10_live τ 139 y r v sd = _
      unfold f_X10_live
      have e1 := hm.2.2.1.1.2.1
      have e0 := hm.2.1.1.1
      simp only [Nat.zero_add] at e1
      rw [hm.1.1.1.1.1, e0, e1]
      by_cases h0 : tN (sv s) = 0
      · rw [h0, if_pos (by rfl)]
      rw [if_neg (nI_ne0 (by omega) (by omega))]
      by_cases h1 : lO (sl s) = 0
      · rw [h1, if_neg (by decide), m_isLived, bd_some, if_neg (show ¬ (vR y 1 20 ∧ vT r v) from fun z => hb ⟨h1, by omega, z⟩), if_pos rfl]
      · rw [if_pos (show nI (lO (sl s)) = 1 by rw [show lO (sl s) = 1 by omega]; rfl)]
  obtain ⟨ho, hN, hy, hr⟩ := id hb
  obtain ⟨Y, rfl, hY1, hY⟩ := vR_of (by decide) hy
  obtain ⟨rl, lm, rfl, rfl, hrl, hlm⟩ := vT_of hr
  have okp := ok.pushed
  have yp : YE (sv s) (n + 1) Y (sl s) := ye_of ok ho hY
  obtain ⟨l1, hl1⟩ : ∃ z, z = (yrs (sv s) rl lm Y (sl s, sd)).1 := ⟨_, rfl⟩
  have y1 : YE (sv s) (n + 1) 0 l1 := by rw [hl1]; exact ye_yrs ok.1 hN (ok.hK hN) rl lm Y _ yp
  refine Both.to (lAll l1 - lAll (sl s)) ((sv s, l1), (pushed s).2) ⟨ok.1, y1.1, ok.pushed.up.2.2⟩ (fun σ hx => ?_) (fun τ hm => ?_)
  · obtain ⟨σa, ea, xa, oa⟩ := x_kfu hx ok
    obtain ⟨σ1, e1, v1⟩ := x_byDraws (s := pushed s) (a := 18) (l := sl s) (x := bl_I σa 136 0) ⟨xa, xa.2.2.1, rfl⟩ (Or.inl rfl) okp hN (show n + 1 ≤ 601 by omega) hrl hlm hY yp sd
    refine ⟨σ1, ?_, ?_⟩
    · show f_X9_live σ 0 (nI Y) (nI rl) (nI lm) sd = _
      unfold f_X9_live
      rw [hx.1.1.1.2.2.2.2.1, hx.2.2.1.2.1.2.1, ho, if_pos (by rfl), x_canLive hx ok, bd_some, if_pos hb.2, if_neg (by decide), ea, bd_some, xa.1.1.1.2.2.2.2.1, e1, bd_some, hl1]
      rfl
    · rw [hl1]
      exact v1.1
  · obtain ⟨τa, ea, ma⟩ := m_kfu hm ok
    obtain ⟨τ1, e1, m1, -⟩ := m_lives (s := pushed s) (l := sl s) (l' := sl s) ma rfl (fun _ => rfl) okp hN (show n + 1 ≤ 601 by omega) hrl hlm hY1 hY yp sd
    have m1' : MI τ1 ((sv s, l1), (pushed s).2) := by rw [hl1]; exact m1
    refine ⟨τ1, ?_, m1'⟩
    show f_X10_live τ 139 (nI Y) (nI rl) (nI lm) sd = _
    unfold f_X10_live
    have q1 := hm.2.2.1.1.2.1
    have q0 := hm.2.1.1.1
    simp only [Nat.zero_add] at q1
    rw [hm.1.1.1.1.1, q0, q1, if_neg (nI_ne0 (by omega) (by omega)), ho, if_neg (by decide), m_isLived, bd_some, if_pos hb.2.2, if_neg (by decide), ea, bd_some, m_allPaid ma, bd_some, e1, bd_some, m_allPaid m1', bd_some]
    rfl
/-! in thought -/
theorem x_elsewhere (hx : XI σ s) (ok : SOk s n) : ∃ σ1, f_X9_lifeElsewhere σ 0 = some (21, σ1) ∧ XV σ1 s 21 (lAt (lP (sl s))) (bl_I σ 136 0) := by
  have hR : bl_R σ 21 13 = 21 + 1 ∧ bl_R σ 21 14 = 21 + 2 := hx.1.2.2.2.2.1
  obtain ⟨σa, ea, ka, ra, la⟩ := x_clear hR
  have v0 : XV σa s 21 lZero (bl_I σ 136 0) := by
    refine ⟨?_, la, by rw [(ka 136 (by decide)).1]⟩
    show XI σa s
    refine hx.scr ka (fun i hi => by omega) ?_
    exact hx.1.ko ra (fun d hd => by rw [(ka 125 (by decide)).2.1]; exact hx.1.2.2.2.2.2.1.2 d hd)
  have k1 : Kq (fun i => 21 ≤ i ∧ i ≤ 21 + 2) σa (bl_pI σa 21 0 (nI (lP (sl s)))) := (Kq.rf _ σa).pI (by omega) _ _
  have l1 : LX (bl_pI σa 21 0 (nI (lP (sl s)))) 21 (lAt (lP (sl s))) := by
    obtain ⟨r, ⟨a0, a1, a2, a3, a4⟩, b, ⟨c1, c2, c3, c4, c5, c6, c7⟩, d1, d2⟩ := la
    refine ⟨r, ⟨I_pI_self _ _ _ _, ?_, ?_, ?_, ?_⟩, fun z => absurd z (by show ¬ 0 = 1; decide), ⟨?_, ?_, ?_, ?_, ?_, ?_, ?_⟩, Ring.zero _ _, Ring.zero _ _⟩
    all_goals rw [I_pI_ne (by decide)]
    · exact a1
    · exact a2
    · exact a3
    · exact a4
    · exact c1
    · exact c2
    · exact c3
    · exact c4
    · exact c5
    · exact c6
    · exact c7
  refine ⟨_, ?_, v0.life (Or.inr rfl) k1 l1⟩
  unfold f_X9_lifeElsewhere
  have w := v0.1.1
  have h18 : bl_I σa 18 0 = nI (lP (sl s)) := by rw [(ka 18 (by decide)).1]; exact hx.2.2.1.2.1.1
  rw [hx.1.1.1.2.2.2.2.2.1, ea, bd_some, let_eq, w.1.1.2.2.2.2.2.1, w.1.1.2.2.2.2.1, h18, R_pI, w.1.1.2.2.2.2.2.1]
theorem ye_at (ok : SOk s n) (hN : 0 < tN (sv s)) {Y : Nat} (hY : Y ≤ 20) : YE (sv s) (n + 1) Y (lAt (lP (sl s))) :=
  ⟨⟨⟨fun z => by omega, fun _ => ok.2.1.1.2 hN⟩, ⟨by show 0 ≤ 1; omega, by show 0 ≤ 3; omega, by show 0 ≤ 1; omega⟩, fun _ => ⟨rfl, rfl, rfl⟩, fun z => absurd z (by show ¬ 0 = 1; decide), ⟨Nat.zero_le _, Nat.zero_le _⟩, fun k hk => absurd hk (by show ¬ k < min 16 0; omega)⟩, rfl, by show 0 + Y ≤ 20 * (n + 1); omega, by show 0 + 0 + 3 * Y ≤ 60 * (n + 1); omega⟩
/-- the reference's life, its year left -/
def lOff (l : lf_V) : lf_V := ((lP l, 0, 0, 0, 0), l.2)
def lOn0 (l : lf_V) : lf_V := ((lP l, 0, lG l, lC l, lU l), l.2)
theorem ye_off (ok : SOk s n) (hN : 0 < tN (sv s)) {Y : Nat} (hY : Y ≤ 20) : YE (sv s) (n + 1) Y (lOff (sl s)) := by
  obtain ⟨h1, h2, h3, h4, h5, h6⟩ := ok.2.1.up
  have q := ok.2.1.2.2.2.2.1
  exact ⟨⟨⟨fun z => by omega, h1.2⟩, ⟨by show 0 ≤ 1; omega, by show 0 ≤ 3; omega, by show 0 ≤ 1; omega⟩, fun _ => ⟨rfl, rfl, rfl⟩, fun z => absurd z (by show ¬ 0 = 1; decide), h5, h6⟩, rfl, by show lE (sl s) + Y ≤ 20 * (n + 1); omega, by show lT (sl s) + lB (sl s) + 3 * Y ≤ 60 * (n + 1); omega⟩
abbrev eOf (l : lf_V) : ofs := ((lT l, lB l), lpp l, lpg l, lpt l, lpb l)
theorem sim_0 (l : lf_V) : SIM (eOf l) (lAt (lP l)) (lOff l) :=
  ⟨⟨rfl, rfl, rfl, rfl, rfl⟩, ⟨(Nat.zero_add _).symm, (Nat.zero_add _).symm⟩, (Int32.zero_add _).symm, (Int32.zero_add _).symm, (Int32.zero_add _).symm, (Int32.zero_add _).symm⟩
/-- what a life in thought comes to -/
abbrev lThink (s : st_V) (rl lm Y : Nat) (sd : Int32) : lf_V := (yrs (sv s) rl lm Y (lAt (lP (sl s)), sd)).1
def wAns (l : lf_V) (w : Nat) : Int32 := if w = 0 then lAll l else if w = 1 then nI (lT l) else if w = 2 then nI (lB l) else nI (lP l)
theorem x_think (hx : XI σ s) (ok : SOk s n) (hn : n ≤ 600) (hN : 0 < tN (sv s)) {rl lm Y : Nat} (hrl : rl ≤ 3) (hlm : lm ≤ 999) (hY : Y ≤ 20) (sd : Int32) : ∃ σ1 σ2, f_X9_lifeElsewhere σ 0 = some (21, σ1) ∧ f_X9_liveByDraws σ1 0 21 (nI Y) (nI rl) (nI lm) sd = some (lAll (lThink s rl lm Y sd), σ2) ∧ XI σ2 s ∧ LX σ2 21 (lThink s rl lm Y sd) := by
  obtain ⟨σ1, e1, v1⟩ := x_elsewhere hx ok
  obtain ⟨σ2, e2, v2⟩ := x_byDraws v1 (Or.inr rfl) ok hN (show n + 1 ≤ 601 by omega) hrl hlm hY (ye_at ok hN hY) sd
  refine ⟨σ1, σ2, e1, ?_, v2.1, v2.2.1⟩
  rw [e2]
  have z : lAll (lAt (lP (sl s))) = 0 := by show (0 : Int32) + 0 + 0 + 0 = 0; decide
  rw [z, Int32.sub_zero]
theorem i4 (a b c d e f g h : Int32) : a + e + (b + f) + (c + g) + (d + h) - (e + f + g + h) = a + b + c + d := by
  rw [show a + e + (b + f) + (c + g) + (d + h) = (a + b + c + d) + (e + f + g + h) by ac_rfl, Int32.add_sub_cancel]
theorem m_think (hm : MI τ s) (ok : SOk s n) (hn : n ≤ 600) (hN : 0 < tN (sv s)) {rl lm Y w : Nat} (hrl : rl ≤ 3) (hlm : lm ≤ 999) (hY1 : 1 ≤ Y) (hY : Y ≤ 20) (hw : w ≤ 3) (sd : Int32) : ∃ τ1, f_X10_tries τ 139 (nI Y) (nI rl) (nI lm) sd (nI w) = some (wAns (lThink s rl lm Y sd) w, τ1) ∧ MI τ1 s := by
  obtain ⟨τa, ea, ma, Ta, La⟩ := m_layBy hm ok.1
  have T0 : TM (bl_pI τa 140 56 0) 140 0 (sv s) := ma.2.1.hi ok.1 (fun j hj => by rw [I_pI_ne (by omega)])
  have L0 : LM (bl_pI τa 140 56 0) 140 0 (lOn0 (sl s)) := by
    obtain ⟨⟨a0, a1, a2, a3, a4⟩, b, c, d1, d2, d3⟩ := ma.2.2.1
    simp only [Nat.zero_add] at a0 a1 a2 a3 a4 c d1
    refine ⟨?_, fun z => absurd z (by show ¬ 0 = 1; decide), ?_, ?_, fun k w hk hw => ?_, fun k w hk hw => ?_⟩
    · simp only [Nat.zero_add]
      refine ⟨by rw [I_pI_ne (by decide)]; exact a0, by rw [I_pI_self]; rfl, by rw [I_pI_ne (by decide)]; exact a2, by rw [I_pI_ne (by decide)]; exact a3, by rw [I_pI_ne (by decide)]; exact a4⟩
    · simp only [Nat.zero_add]
      rw [I_pI_ne (by decide), I_pI_ne (by decide), I_pI_ne (by decide), I_pI_ne (by decide), I_pI_ne (by decide), I_pI_ne (by decide), I_pI_ne (by decide)]
      exact c
    · simp only [Nat.zero_add]
      rw [I_pI_ne (by decide), I_pI_ne (by decide)]
      exact d1
    · show bl_I (bl_pI τa 140 56 0) 140 (0 + 70 + _) = _
      rw [I_pI_ne (by omega)]
      exact d2 k w hk hw
    · show bl_I (bl_pI τa 140 56 0) 140 (0 + 119 + _) = _
      rw [I_pI_ne (by omega)]
      exact d3 k w hk hw
  have m0 : MI (bl_pI τa 140 56 0) ((sv s, lOn0 (sl s)), s.2) := ma.now ((Mo.rf τa).pI _ _) T0 L0
  obtain ⟨τb, eb, mb, wb⟩ := m_lives (s := s) (l := lOff (sl s)) (l' := lOn0 (sl s)) (w := bl_I τa 142) m0 (by rw [I_pI_o (by decide)]) (fun _ => rfl) ok hN (show n + 1 ≤ 601 by omega) hrl hlm hY1 hY (ye_off ok hN hY) sd
  obtain ⟨l2, hl2⟩ : ∃ z, z = (yrs (sv s) rl lm Y (lOff (sl s), sd)).1 := ⟨_, rfl⟩
  rw [← hl2] at mb
  have sm : SIM (eOf (sl s)) (lThink s rl lm Y sd) l2 := by rw [hl2]; exact sim_yrs rl lm Y (lAt (lP (sl s)), sd) (lOff (sl s), sd) (sim_0 (sl s)) rfl
  have Tb : TM τb 142 0 (sv s) := by unfold TM at *; rw [wb]; exact Ta
  have Lb : LM τb 142 0 (sl s) := by unfold LM at *; rw [wb]; exact La
  obtain ⟨τc, ec, mc⟩ := m_takeBy (s := s) mb ok.1 Tb Lb
  refine ⟨τc, ?_, mc⟩
  have k112 : ∀ z, b_X10_tries_112 τb 139 z = some (z, τc) := fun z => by
    unfold b_X10_tries_112
    rw [mb.1.1.1.1.2.2.1, mb.1.1.1.1.1, ec, bd_some]
  obtain ⟨c1, c2, c3, c4, c5, c6, c7⟩ := m0.2.2.1.2.2.1
  obtain ⟨d1, d2, d3, d4, d5, d6, d7⟩ := mb.2.2.1.2.2.1
  have f1 := mb.2.2.1.1.1
  simp only [Nat.zero_add] at c6 c7 d6 d7 f1
  obtain ⟨s1, ⟨s2, s3⟩, s4, s5, s6, s7⟩ := sm
  have s2 : lT l2 = lT (lThink s rl lm Y sd) + lT (sl s) := s2
  have s3 : lB l2 = lB (lThink s rl lm Y sd) + lB (sl s) := s3
  unfold f_X10_tries
  rw [hm.1.1.1.1.1, hm.1.1.1.1.2.2.1, ea, bd_some, let_eq, ma.1.1.1.1.1, m_allPaid m0, bd_some, let_eq, let_eq, R_pI, ma.1.1.1.1.1, c6, c7, eb, bd_some]
  unfold wAns
  have hw' : w = 0 ∨ w = 1 ∨ w = 2 ∨ w = 3 := by omega
  rcases hw' with rfl | rfl | rfl | rfl
  · rw [if_pos (by rfl), m_allPaid mb, bd_some, k112, if_pos rfl]
    show some (lpp l2 + lpg l2 + lpt l2 + lpb l2 - (lpp (sl s) + lpg (sl s) + lpt (sl s) + lpb (sl s)), τc) = _
    rw [s4, s5, s6, s7, i4]
  · rw [if_neg (by decide), if_pos (by rfl), mb.1.1.1.1.1, d6, k112, if_neg (by decide), if_pos rfl]
    show some (nI (lT l2) - nI (lT (sl s)), τc) = _
    rw [s2, nI_sub (by omega), Nat.add_sub_cancel]
  · rw [if_neg (by decide), if_neg (by decide), if_pos (by rfl), mb.1.1.1.1.1, d7, k112, if_neg (by decide), if_neg (by decide), if_pos rfl]
    show some (nI (lB l2) - nI (lB (sl s)), τc) = _
    rw [s3, nI_sub (by omega), Nat.add_sub_cancel]
  · rw [if_neg (by decide), if_neg (by decide), if_neg (by decide), mb.1.1.1.1.1, f1, k112, if_neg (by decide), if_neg (by decide), if_neg (by decide)]
    show some (nI (lP l2), τc) = _
    rw [s1.1]
theorem op_would (ok : SOk s n) (hn : n ≤ 600) (y r v sd a : Int32) : Both n s (fun σ => f_X9_would σ 0 y r v sd a) (fun τ => f_X10_would τ 139 y r v sd a) := by
  have h8 := ok.1.n8
  rcases (Classical.em (vR a 0 3 ∧ vL s y r v)).symm with hb | hb
  · refine Both.same ok (-1) (fun σ hx => ⟨σ, ?_, hx⟩) (fun τ hm => ⟨τ, ?_, hm⟩)
    · show f_X9_would σ 0 y r v sd a = _
      unfold f_X9_would
      by_cases h1 : a < 0
      · rw [if_pos h1]
      rw [if_neg h1]
      by_cases h2 : (3 : Int32) < a
      · rw [if_pos h2]
      rw [if_neg h2, x_canLive hx ok, bd_some, if_neg (show ¬ vL s y r v from fun z => hb ⟨⟨by rw [lt0_iff] at h1; omega, by rw [show (3 : Int32) = nI 3 from rfl, Nlt_iff a (by decide)] at h2; omega⟩, z⟩), if_pos rfl]
    · show f_X10_would τ 139 y r v sd a = _
      unfold f_X10_would
      have e0 := hm.2.1.1.1
      rw [hm.1.1.1.1.1, e0]
      by_cases h0 : tN (sv s) = 0
      · rw [h0, if_pos (by decide)]
      rw [if_neg (nI_nle (by omega) (by omega)), m_isLived, bd_some]
      by_cases h1 : vR y 1 20 ∧ vT r v
      · rw [if_pos h1, if_neg (by decide), show (0 : Int64) = lN 0 from rfl, show (3 : Int64) = lN 3 from rfl, m_inN τ a (by decide) (by decide), bd_some, if_neg (show ¬ vR a 0 3 from fun z => hb ⟨z, by omega, h1⟩), if_pos rfl]
      · rw [if_neg h1, if_pos rfl]
  obtain ⟨ha, hN, hy, hr⟩ := id hb
  obtain ⟨Y, rfl, hY1, hY⟩ := vR_of (by decide) hy
  obtain ⟨w, rfl, -, hw⟩ := vR_of (by decide) ha
  obtain ⟨rl, lm, rfl, rfl, hrl, hlm⟩ := vT_of hr
  refine Both.same ok (wAns (lThink s rl lm Y sd) w) (fun σ hx => ?_) (fun τ hm => ?_)
  · obtain ⟨σ1, σ2, e1, e2, x2, l2⟩ := x_think hx ok hn hN hrl hlm hY sd
    refine ⟨σ2, ?_, x2⟩
    obtain ⟨c1, c2, c3, c4, c5, c6, c7⟩ := l2.2.2.2.1
    have a0 := l2.2.1.1
    show f_X9_would σ 0 (nI Y) (nI rl) (nI lm) sd (nI w) = _
    unfold f_X9_would wAns
    rw [if_neg (nI_pos (by omega)), if_neg (show ¬ (3 : Int32) < nI w from nI_nlt (a := 3) hw (by omega)), x_canLive hx ok, bd_some, if_pos hb.2, if_neg (by decide), e1, bd_some, e2, bd_some, x2.1.1.1.2.2.2.2.2.1, c6, c7, a0]
    have hw' : w = 0 ∨ w = 1 ∨ w = 2 ∨ w = 3 := by omega
    rcases hw' with rfl | rfl | rfl | rfl
    · rw [if_pos (by rfl), if_pos rfl]
    · rw [if_neg (by decide), if_pos (by rfl), if_neg (by decide), if_pos rfl]
    · rw [if_neg (by decide), if_neg (by decide), if_pos (by rfl), if_neg (by decide), if_neg (by decide), if_pos rfl]
    · rw [if_neg (by decide), if_neg (by decide), if_neg (by decide), if_neg (by decide), if_neg (by decide), if_neg (by decide)]
  · obtain ⟨τ1, e1, m1⟩ := m_think hm ok hn hN hrl hlm hY1 hY hw sd
    refine ⟨τ1, ?_, m1⟩
    show f_X10_would τ 139 (nI Y) (nI rl) (nI lm) sd (nI w) = _
    unfold f_X10_would
    have e0 := hm.2.1.1.1
    rw [hm.1.1.1.1.1, e0, if_neg (nI_nle (by omega) (by omega)), m_isLived, bd_some, if_pos hb.2.2, if_neg (by decide), show (0 : Int64) = lN 0 from rfl, show (3 : Int64) = lN 3 from rfl, m_inN τ (nI w) (by decide) (by decide), bd_some, if_pos ha, if_neg (by decide), e1, bd_some]
theorem op_bestRule (ok : SOk s n) (hn : n ≤ 600) (y sd : Int32) : Both n s (fun σ => f_X9_bestRule σ 0 y sd) (fun τ => f_X10_bestRule τ 139 y sd) := by
  have h8 := ok.1.n8
  have t0 : vT (0 : Int32) 0 := by unfold vT; decide
  rcases (Classical.em (0 < tN (sv s) ∧ vR y 1 20)).symm with hb | hb
  · refine Both.same ok (-1) (fun σ hx => ⟨σ, ?_, hx⟩) (fun τ hm => ⟨τ, ?_, hm⟩)
    · show f_X9_bestRule σ 0 y sd = _
      unfold f_X9_bestRule
      rw [x_canLive hx ok, bd_some, if_neg (show ¬ vL s y 0 0 from fun z => hb ⟨z.1, z.2.1⟩), if_pos rfl]
    · show f_X10_bestRule τ 139 y sd = _
      unfold f_X10_bestRule
      have e0 := hm.2.1.1.1
      rw [hm.1.1.1.1.1, e0]
      by_cases h0 : tN (sv s) = 0
      · rw [h0, if_pos (by rfl)]
      rw [if_neg (nI_ne0 (by omega) (by omega)), show (1 : Int64) = lN 1 from rfl, show (20 : Int64) = lN 20 from rfl, m_inN τ y (by decide) (by decide), bd_some, if_neg (show ¬ vR y 1 20 from fun z => hb ⟨by omega, z⟩), if_pos rfl]
  obtain ⟨hN, hy⟩ := id hb
  obtain ⟨Y, rfl, hY1, hY⟩ := vR_of (by decide) hy
  obtain ⟨A, hA⟩ : ∃ A : Nat → Int32, A = fun rl => lAll (lThink s rl 0 Y sd) := ⟨_, rfl⟩
  have hx1 : ∀ (rl : Nat), rl ≤ 3 → ∀ σ, XI σ s → ∃ σ1 σ2, f_X9_lifeElsewhere σ 0 = some (21, σ1) ∧ f_X9_liveByDraws σ1 0 21 (nI Y) (nI rl) 0 sd = some (A rl, σ2) ∧ XI σ2 s := fun rl h σ hx => by
    obtain ⟨σ1, σ2, e1, e2, x2, l2⟩ := x_think (lm := 0) hx ok hn hN h (by decide) hY sd
    exact ⟨σ1, σ2, e1, by rw [hA]; exact e2, x2⟩
  have hm1 : ∀ (rl : Nat), rl ≤ 3 → ∀ τ, MI τ s → ∃ τ1, f_X10_tries τ 139 (nI Y) (nI rl) 0 sd 0 = some (A rl, τ1) ∧ MI τ1 s := fun rl h τ hm => by
    obtain ⟨τ1, e1, m1⟩ := m_think (lm := 0) (w := 0) hm ok hn hN h (by decide) hY1 hY (by decide) sd
    exact ⟨τ1, by rw [hA]; exact e1, m1⟩
  obtain ⟨b1, hb1⟩ : ∃ q : Int32 × Int32, q = if A 0 ≤ A 1 then (0, A 0) else (1, A 1) := ⟨_, rfl⟩
  obtain ⟨b2, hb2⟩ : ∃ q : Int32 × Int32, q = if b1.2 ≤ A 2 then b1 else (2, A 2) := ⟨_, rfl⟩
  have lte : ∀ a b : Int32, a < b ↔ ¬ b ≤ a := fun a b => by rw [Int32.lt_iff_toInt_lt, Int32.le_iff_toInt_le]; omega
  refine Both.same ok b2.1 (fun σ hx => ?_) (fun τ hm => ?_)
  · obtain ⟨σa, σb, ea, eb, xb⟩ := hx1 0 (by decide) σ hx
    obtain ⟨σc, σd, ec, ed, xd⟩ := hx1 1 (by decide) σb xb
    obtain ⟨σe, σf, ee, ef, xf⟩ := hx1 2 (by decide) σd xd
    refine ⟨σf, ?_, xf⟩
    show f_X9_bestRule σ 0 (nI Y) sd = _
    have last : ∀ (m : Nat) (q : Int32 × Int32), bl_fx (fun _ _ _ _ _ _ _ => none) (b_X9_bestRule_31) (m + 1) σf 0 (nI Y) sd q.1 q.2 (2 + 1) = some (q.1, σf) := fun m (q : Int32 × Int32) => by
      rw [fx_succ]
      unfold b_X9_bestRule_31
      rw [if_pos (by decide)]
    have two : ∀ (m : Nat) (q : Int32 × Int32), bl_fx (fun _ _ _ _ _ _ _ => none) (b_X9_bestRule_31) (m + 2) σd 0 (nI Y) sd q.1 q.2 (1 + 1) = some ((if q.2 ≤ A 2 then q else ((2 : Int32), A 2)).1, σf) := fun m (q : Int32 × Int32) => by
      rw [show m + 2 = (m + 1) + 1 from rfl, fx_succ]
      show (if (2 : Int32) < 1 + 1 then _ else _) = _
      rw [if_neg (by decide), ee, bd_some, show f_X9_liveByDraws σe 0 21 (nI Y) (1 + 1) 0 sd = _ from ef, bd_some]
      by_cases h : q.2 ≤ A 2
      · rw [if_pos h, if_pos h]
        unfold b_X9_bestRule_66
        rw [let_eq]
        exact last m q
      · rw [if_neg h, if_neg h]
        unfold b_X9_bestRule_66
        rw [let_eq]
        exact last m (2, A 2)
    have one : ∀ (m : Nat), bl_fx (fun _ _ _ _ _ _ _ => none) (b_X9_bestRule_31) (m + 3) σb 0 (nI Y) sd 0 (A 0) 1 = some (b2.1, σf) := fun m => by
      rw [show m + 3 = (m + 2) + 1 from rfl, fx_succ]
      show (if (2 : Int32) < 1 then _ else _) = _
      rw [if_neg (by decide), ec, bd_some, show f_X9_liveByDraws σc 0 21 (nI Y) 1 0 sd = _ from ed, bd_some, hb2, hb1]
      by_cases h : A 0 ≤ A 1
      · rw [if_pos h, if_pos h]
        unfold b_X9_bestRule_66
        rw [let_eq]
        exact two m (0, A 0)
      · rw [if_neg h, if_neg h]
        unfold b_X9_bestRule_66
        rw [let_eq]
        exact two m (1, A 1)
    unfold f_X9_bestRule
    rw [x_canLive hx ok, bd_some, if_pos (show vL s (nI Y) 0 0 from ⟨hN, hy, t0⟩), if_neg (by decide), ea, bd_some, show f_X9_liveByDraws σa 0 21 (nI Y) 0 0 sd = _ from eb, bd_some]
    exact one 19997
  · obtain ⟨τb, eb, mb⟩ := hm1 0 (by decide) τ hm
    obtain ⟨τd, ed, md⟩ := hm1 1 (by decide) τb mb
    obtain ⟨τf, ef, mf⟩ := hm1 2 (by decide) τd md
    refine ⟨τf, ?_, mf⟩
    show f_X10_bestRule τ 139 (nI Y) sd = _
    have last : ∀ (m : Nat) (q : Int32 × Int32), bl_fx (fun _ _ _ _ _ _ _ => none) (b_X10_bestRule_39) (m + 1) τf 139 (nI Y) sd q.1 q.2 (2 + 1) = some (q.1, τf) := fun m (q : Int32 × Int32) => by
      rw [fx_succ]
      unfold b_X10_bestRule_39
      rw [if_pos (by decide)]
    have two : ∀ (m : Nat) (q : Int32 × Int32), bl_fx (fun _ _ _ _ _ _ _ => none) (b_X10_bestRule_39) (m + 2) τd 139 (nI Y) sd q.1 q.2 (1 + 1) = some ((if q.2 ≤ A 2 then q else ((2 : Int32), A 2)).1, τf) := fun m (q : Int32 × Int32) => by
      rw [show m + 2 = (m + 1) + 1 from rfl, fx_succ]
      show (if (3 : Int32) ≤ 1 + 1 then _ else _) = _
      rw [if_neg (by decide), show f_X10_tries τd 139 (nI Y) (1 + 1) 0 sd 0 = _ from ef, bd_some]
      by_cases h : q.2 ≤ A 2
      · rw [if_neg (fun z => ((lte _ _).mp z) h), if_pos h]
        unfold b_X10_bestRule_74
        rw [let_eq]
        exact last m q
      · rw [if_pos ((lte _ _).mpr h), if_neg h]
        unfold b_X10_bestRule_74
        rw [let_eq]
        exact last m (2, A 2)
    have one : ∀ (m : Nat), bl_fx (fun _ _ _ _ _ _ _ => none) (b_X10_bestRule_39) (m + 3) τb 139 (nI Y) sd 0 (A 0) 1 = some (b2.1, τf) := fun m => by
      rw [show m + 3 = (m + 2) + 1 from rfl, fx_succ]
      show (if (3 : Int32) ≤ 1 then _ else _) = _
      rw [if_neg (by decide), show f_X10_tries τb 139 (nI Y) 1 0 sd 0 = _ from ed, bd_some, hb2, hb1]
      by_cases h : A 0 ≤ A 1
      · rw [if_neg (fun z => ((lte _ _).mp z) h), if_pos h]
        unfold b_X10_bestRule_74
        rw [let_eq]
        exact two m (0, A 0)
      · rw [if_pos ((lte _ _).mpr h), if_neg h]
        unfold b_X10_bestRule_74
        rw [let_eq]
        exact two m (1, A 1)
    unfold f_X10_bestRule
    have e0 := hm.2.1.1.1
    rw [hm.1.1.1.1.1, e0, if_neg (nI_ne0 (by omega) (by omega)), show (1 : Int64) = lN 1 from rfl, show (20 : Int64) = lN 20 from rfl, m_inN τ (nI Y) (by decide) (by decide), bd_some, if_pos hy, if_neg (by decide), show f_X10_tries τ 139 (nI Y) 0 0 sd 0 = _ from eb, bd_some]
    exact one 19997
end LIV
