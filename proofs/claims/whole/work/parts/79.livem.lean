/-! ===== a life by draws: the reference ===== -/
abbrev fl (τ : bl_St) (v : tm_V) (Y : Nat) : Prop := ∀ z, z ≤ Y → ∀ d, d < tN v → bl_J τ 144 (8 * z + d) = lN (cCo v false 0 0 true 1 0 z d) ∧ (1 ≤ z → bl_I τ 145 (8 * z + d) = nI (cGd v false 0 0 true 1 0 (z - 1) d))
def GM (τ : bl_St) (v : tm_V) (Y : Nat) : Prop := CM τ v 0 0 false (tH v * 1) ∧ fl τ v Y
/-- the reference, at a life and a draw -/
def MV (τ : bl_St) (s : st_V) (l : lf_V) (x : Int32) (w : Nat → Int32) : Prop := MI τ ((sv s, l), s.2) ∧ bl_I τ 139 6 = x ∧ bl_I τ 142 = w
section LVM
variable {τ τ1 : bl_St} {s : st_V} {n : Nat} {l l' : lf_V} {x : Int32} {w : Nat → Int32} {v : tm_V} {L c Y : Nat}
theorem CM.mo {rl lm many : Nat} {b : Bool} (h : CM τ v rl lm b many) (m : Mo τ τ1) (T : TM τ1 140 0 v) : CM τ1 v rl lm b many := by
  refine ⟨by rw [m.1]; exact h.1, T, ?_⟩
  rw [m.2.2 139 (by decide)]
  exact h.2.2
theorem GM.mo (h : GM τ v Y) (m : Mo τ τ1) (T : TM τ1 140 0 v) : GM τ1 v Y := by
  refine ⟨h.1.mo m T, fun z hz d hd => ?_⟩
  rw [m.2.1, m.2.2 145 (by decide)]
  exact h.2 z hz d hd
theorem GM.draw (h : GM τ v Y) (y : Int32) : GM (bl_pI τ 139 6 y) v Y := by
  refine ⟨?_, fun z hz d hd => ?_⟩
  · obtain ⟨a, T, b, c, d, e⟩ := h.1
    refine ⟨a, ?_, by rw [I_pI_ne (by decide)]; exact b, by rw [I_pI_ne (by decide)]; exact c, by rw [I_pI_ne (by decide)]; exact d, by rw [I_pI_ne (by decide)]; exact e⟩
    unfold TM at *
    rw [I_pI_o (by decide)]
    exact T
  · rw [I_pI_o (by decide)]
    exact h.2 z hz d hd
theorem MV.life (h : MV τ s l x w) (m : Mo τ τ1) (T : TM τ1 140 0 (sv s)) (q : LM τ1 140 0 l') : MV τ1 s l' x w :=
  ⟨h.1.now m T q, by rw [m.2.2 139 (by decide)]; exact h.2.1, by rw [m.2.2 142 (by decide)]; exact h.2.2⟩
theorem MV.draw (h : MV τ s l x w) (y : Int32) : MV (bl_pI τ 139 6 y) s l y w :=
  ⟨h.1.f9 (by decide) (by decide) y, I_pI_self _ _ _ _, by rw [I_pI_o (by decide)]; exact h.2.2⟩
theorem m_lchK (h : MV τ s l x w) (G : GM τ (sv s) Y) (ok : TOk (sv s)) (hK : 0 < tK (sv s)) (hL1 : 1 ≤ L) (hLY : L ≤ Y) (hY : Y ≤ 20) (hc : c < tN (sv s)) : ∃ τ1, f_X10_laysChances τ 139 (nI L) (nI c) = some ((), τ1) ∧ MV τ1 s l x w ∧ GM τ1 (sv s) Y ∧ ∀ k, k ≤ tH (sv s) * 1 → Lv τ1 146 (fun k t g => cA (sv s) L c k t g) k := by
  obtain ⟨τ1, e1, j1, l1⟩ := m_laysChances (V := cCo (sv s) false 0 0 true 1 0 (L - 1)) G.1 ok hK (by decide) (by decide) (by have := tH1 ok; omega) hL1 (show L ≤ 20 by omega) hc (fun d hd => (G.2 (L - 1) (by omega) d hd).1) (fun d hd => by have := cCo_le ok hK false 0 0 true 1 0 (by decide) (L - 1) d hd; omega)
  have Ie : bl_I τ1 = bl_I τ := j1.1
  refine ⟨τ1, e1, ⟨h.1.scr j1.2.1 (by rw [Ie]) (by rw [Ie]) (by rw [Ie]) (by rw [Ie]) (by rw [Ie]) (by rw [Ie]), by rw [Ie]; exact h.2.1, by rw [Ie]; exact h.2.2⟩, ⟨G.1.jo j1, fun z hz d hd => ?_⟩, l1⟩
  rw [j1.2.2 144 (by decide), Ie]
  exact G.2 z hz d hd
/-- a chance -/
theorem m_chn {q : lf_V × Int32} (h : MV τ s q.1 q.2 w) (ok : SOk s n) (hN : 0 < tN (sv s)) {rl lm k m : Nat} (hm : m ≤ 601) (hrl : rl ≤ 3) (hlm : lm ≤ 999) (y : YI (sv s) m L c q.1 k) (hL : 1 ≤ L) (hLY : L ≤ Y) (hY : Y ≤ 20) (hk : k < tH (sv s)) (hG : rl = 0 → GM τ (sv s) Y) (k21 : bl_St → Nat → Int32 → Int32 → Int32 → Option (Unit × bl_St)) (k66 : bl_St → Nat → Int32 → Int32 → Int32 → Int32 → Int32 → Option (Unit × bl_St)) :
    ∃ τ1, b_X10_lives_66 k21 k66 τ 139 (nI rl) (nI lm) (nI L) (nI (tH (sv s))) (nI k) = k66 τ1 139 (nI rl) (nI lm) (nI L) (nI (tH (sv s))) (nI (k + 1)) ∧ MV τ1 s (chn (sv s) rl lm L q).1 (chn (sv s) rl lm L q).2 w ∧ (rl = 0 → GM τ1 (sv s) Y) := by
  obtain ⟨l, x⟩ := q
  have h : MV τ s l x w := h
  have y : YI (sv s) m L c l k := y
  have hH := ok.1.2.2.2.1
  have hO := ok.1.2.2.2.2.1
  have hK := ok.hK hN
  have hd := Nat.mod_lt (dS (dNx x)) (show 0 < 12 by decide)
  obtain ⟨yl, ⟨yo, yg, yp⟩, yu, yE, yB⟩ := id y
  have wk := yl.wk ok.1 yo
  have hCg := (yl.2.2.2.1 yo).2.1
  have hU := yl.2.1.2.2
  obtain ⟨τa, ea⟩ : ∃ z, z = bl_pI τ 139 6 (dNx x) := ⟨_, rfl⟩
  have va : MV τa s l (dNx x) w := by rw [ea]; exact h.draw _
  have ga : rl = 0 → GM τa (sv s) Y := fun z => by rw [ea]; exact (hG z).draw _
  have odds : ∀ τ' l' x', MV τ' s l' x' w → bl_I τ' (bl_R τ' 139 1) 3 = nI (tO (sv s)) := fun τ' l' x' q => by
    have e := q.1.2.1.2.1.2.1
    rw [Nat.zero_add] at e
    rw [q.1.1.1.1.1.1]
    exact e
  unfold b_X10_lives_66
  rw [if_neg (nI_ge hk (by omega)), show (12 : Int32) = nI 12 from rfl, m_dnext h.2.1 (by decide) (by decide), bd_some, ← ea, odds τa l _ va]
  unfold chn
  by_cases hlt : dS (dNx x) % 12 < tO (sv s)
  · rw [if_pos (nI_lt hlt (by omega)), if_pos hlt]
    obtain ⟨d, hdd⟩ : ∃ d, d = dsr (sv s) (dNx (dNx x)) := ⟨_, rfl⟩
    have hdl : d < tK (sv s) := by rw [hdd]; exact dsr_lt (sv s) hK _
    have hs2 := (ok.1.2.2.1 d hdl).1.2
    obtain ⟨τb, eb⟩ : ∃ z, z = bl_pI τa 139 6 (dNx (dNx x)) := ⟨_, rfl⟩
    have vb : MV τb s l (dNx (dNx x)) w := by rw [eb]; exact va.draw _
    have gb : rl = 0 → GM τb (sv s) Y := fun z => by rw [eb]; exact (ga z).draw _
    have en : f_X10_sortDrawn τa 139 = some (nI d, τb) := by rw [m_sortDrawn va.1.1.1.1.1.1 va.1.2.1 ok.1 hK va.2.1, hdd, eb]; rfl
    rw [en, bd_some]
    obtain ⟨t, ht⟩ : ∃ t, t = tld (sv s) rl lm L l d := ⟨_, rfl⟩
    have ht2 : t < 2 := by rw [ht]; exact tld_lt _ _ _ _ _ _
    have last : ∀ (τ' : bl_St), MV τ' s l (dNx (dNx x)) w → (rl = 0 → GM τ' (sv s) Y) → ∃ τ1, b_X10_lives_176 k66 τ' 139 (nI rl) (nI lm) (nI L) (nI (tH (sv s))) (nI k) (nI d) (nI t) = k66 τ1 139 (nI rl) (nI lm) (nI L) (nI (tH (sv s))) (nI (k + 1)) ∧ MV τ1 s (lPass (sv s) (lLoss (sv s) l d t)) (dNx (dNx x)) w ∧ (rl = 0 → GM τ1 (sv s) Y) := by
      intro τ' v' g'
      obtain ⟨τ1, e1, m1, t1, l1⟩ := m_loses (s := d) (d := t) v'.1.1.1.1.1.1 v'.1.2.1 ok.1 v'.1.2.2.1 hN wk.1 yo hU (show lC l ≤ 3 by omega) (show lG l < 100 by omega) hdl ht2
      refine ⟨τ1, ?_, v'.life m1 t1 l1, fun z => (g' z).mo m1 t1⟩
      unfold b_X10_lives_176 b_X10_lives_186
      rw [e1, bd_some, let_eq, nI_1]
    have fin : (∃ τ1, (if nI rl = 1 then b_X10_lives_121 k66 τb 139 (nI rl) (nI lm) (nI L) (nI (tH (sv s))) (nI k) (nI d) else if nI rl = 3 then bl_bd (f_X10_size τb 139 (nI d)) fun r32 σ33 => if r32 ≤ nI lm then b_X10_lives_125 k66 σ33 139 (nI rl) (nI lm) (nI L) (nI (tH (sv s))) (nI k) (nI d) else b_X10_lives_121 k66 σ33 139 (nI rl) (nI lm) (nI L) (nI (tH (sv s))) (nI k) (nI d) else b_X10_lives_125 k66 τb 139 (nI rl) (nI lm) (nI L) (nI (tH (sv s))) (nI k) (nI d)) = k66 τ1 139 (nI rl) (nI lm) (nI L) (nI (tH (sv s))) (nI (k + 1)) ∧ MV τ1 s (lPass (sv s) (lLoss (sv s) l d t)) (dNx (dNx x)) w ∧ (rl = 0 → GM τ1 (sv s) Y)) := by
      have k126 : ∀ z : Int32, rl ≠ 0 → b_X10_lives_126 k66 τb 139 (nI rl) (nI lm) (nI L) (nI (tH (sv s))) (nI k) (nI d) z = b_X10_lives_176 k66 τb 139 (nI rl) (nI lm) (nI L) (nI (tH (sv s))) (nI k) (nI d) z := fun z hz => by
        unfold b_X10_lives_126
        rw [if_neg (show ¬ nI rl = 0 from fun q => hz ((nI_is0 (by omega)).mp q))]
      by_cases h1 : rl = 1
      · rw [if_pos (show nI rl = 1 by rw [h1]; rfl)]
        unfold b_X10_lives_121
        rw [k126 1 (by omega), show (1 : Int32) = nI t by rw [ht]; unfold tld; rw [if_pos h1]; rfl]
        exact last τb vb gb
      rw [if_neg (show ¬ nI rl = 1 from fun z => h1 ((nI_is (by omega) (by decide)).mp z))]
      by_cases h3 : rl = 3
      · rw [if_pos (show nI rl = 3 by rw [h3]; rfl), m_size vb.1.1.1.1.1.1 vb.1.2.1 ok.1 hdl, bd_some]
        have ht' : t = if tS (sv s) (2 * d) ≤ lm then 0 else 1 := by rw [ht]; unfold tld; rw [if_neg h1, if_neg (by omega), if_pos h3]
        by_cases h4 : tS (sv s) (2 * d) ≤ lm
        · rw [if_pos (show nI (tS (sv s) (2 * d)) ≤ nI lm from nI_le h4 (by omega))]
          unfold b_X10_lives_125
          rw [k126 0 (by omega), show (0 : Int32) = nI t by rw [ht', if_pos h4]; rfl]
          exact last τb vb gb
        · rw [if_neg (show ¬ nI (tS (sv s) (2 * d)) ≤ nI lm from nI_ge (by omega) (by omega))]
          unfold b_X10_lives_121
          rw [k126 1 (by omega), show (1 : Int32) = nI t by rw [ht', if_neg h4]; rfl]
          exact last τb vb gb
      rw [if_neg (show ¬ nI rl = 3 from fun z => h3 ((nI_is (by omega) (by decide)).mp z))]
      unfold b_X10_lives_125
      by_cases h2 : rl = 2
      · rw [k126 0 (by omega), show (0 : Int32) = nI t by rw [ht]; unfold tld; rw [if_neg h1, if_pos h2]; rfl]
        exact last τb vb gb
      have h0 : rl = 0 := by omega
      have ht' : t = if cG (sv s) L (lP l) (lG l) (min 2 (lC l)) (lU l) d ≤ 0 then 0 else 1 := by rw [ht]; unfold tld; rw [if_neg h1, if_neg h2, if_neg h3]
      obtain ⟨τc, ec, vc, gc, lc⟩ := m_lchK vb (gb h0) ok.1 hK hL hLY hY wk.1
      obtain ⟨a0, a1, a2, a3, a4⟩ := vc.1.2.2.1.1
      have b0 := vb.1.2.2.1.1.1
      simp only [Nat.zero_add] at a0 a1 a2 a3 a4 b0
      have a4 : bl_I τc 140 59 = nI (lU l) := a4
      have a3 : bl_I τc 140 58 = nI (lC l) := a3
      have cn : f_X10_countedNow τc 139 = some (nI (min 2 (lC l)), τc) := by
        unfold f_X10_countedNow
        rw [vc.1.1.1.1.1.1, a3]
        by_cases h2 : lC l ≤ 2
        · rw [if_pos (show nI (lC l) ≤ 2 from nI_le (b := 2) h2 (by decide)), Nat.min_eq_right h2]
        · rw [if_neg (show ¬ nI (lC l) ≤ 2 from nI_ge (a := 2) (by omega) (by omega)), Nat.min_eq_left (by omega)]
          rfl
      unfold b_X10_lives_126 b_X10_lives_174
      rw [if_pos (show nI rl = 0 by rw [h0]; rfl), vb.1.1.1.1.1.1, b0, ec, bd_some, cn, bd_some, vc.1.1.1.1.1.1, a4, ← yg, m_gainOf (n := n) gc.1 ok lc (by omega) (by omega) (by omega) hdl, bd_some]
      by_cases h5 : cG (sv s) L (lP l) (lG l) (min 2 (lC l)) (lU l) d ≤ 0
      · rw [if_pos h5, show (0 : Int32) = nI t by rw [ht', if_pos h5]; rfl, yg]
        exact last τc vc (fun _ => gc)
      · rw [if_neg h5, show (1 : Int32) = nI t by rw [ht', if_neg h5]; rfl, yg]
        exact last τc vc (fun _ => gc)
    show ∃ τ1, _ ∧ MV τ1 s (lPass (sv s) (lLoss (sv s) l (dsr (sv s) (dNx (dNx x))) (tld (sv s) rl lm L l (dsr (sv s) (dNx (dNx x)))))) (dNx (dNx x)) w ∧ _
    rw [← hdd, ← ht]
    exact fin
  · rw [if_neg (nI_nlt (by omega) (by omega)), if_neg hlt]
    obtain ⟨τ1, e1, m1, t1, l1⟩ := m_goesBy (n := 0) va.1.1.1.1.1.1 va.1.2.1 ok.1 va.1.2.2.1 hN wk.1 yo (show lC l ≤ 4 by omega) (show lG l < 100 by omega)
    refine ⟨τ1, ?_, va.life m1 t1 l1, fun z => (ga z).mo m1 t1⟩
    unfold b_X10_lives_186
    rw [e1, bd_some, let_eq, nI_1]
theorem m_chs (ok : SOk s n) (hN : 0 < tN (sv s)) {rl lm m : Nat} (hm : m ≤ 601) (hrl : rl ≤ 3) (hlm : lm ≤ 999) (hL : 1 ≤ L) (hLY : L ≤ Y) (hY : Y ≤ 20) (k21 : bl_St → Nat → Int32 → Int32 → Int32 → Option (Unit × bl_St)) : ∀ (r k f : Nat) (τ : bl_St) (q : lf_V × Int32), k + r = tH (sv s) → r < f → MV τ s q.1 q.2 w → YS (sv s) m L c q.1 k → (rl = 0 → GM τ (sv s) Y) →
    ∃ τ1, bl_fx (fun _ _ _ _ _ _ _ => none) (b_X10_lives_66 k21) f τ 139 (nI rl) (nI lm) (nI L) (nI (tH (sv s))) (nI k) = k21 τ1 139 (nI rl) (nI lm) (nI (L - 1)) ∧ MV τ1 s (chs (sv s) rl lm L r q).1 (chs (sv s) rl lm L r q).2 w ∧ (rl = 0 → GM τ1 (sv s) Y) := by
  have hH := ok.1.2.2.2.1
  intro r
  induction r with
  | zero =>
    intro k f τ q hk hq h y g
    obtain ⟨f, rfl⟩ : ∃ z, f = z + 1 := ⟨f - 1, by omega⟩
    rw [chs_0]
    refine ⟨τ, ?_, h, g⟩
    obtain ⟨L, rfl⟩ : ∃ z, L = z + 1 := ⟨L - 1, by omega⟩
    rw [fx_succ]
    show (if nI (tH (sv s)) ≤ nI k then _ else _) = _
    rw [if_pos (nI_le (by omega) (by omega)), let_eq, nI_m1]
    rfl
  | succ r ih =>
    intro k f τ q hk hq h y g
    obtain ⟨f, rfl⟩ : ∃ z, f = z + 1 := ⟨f - 1, by omega⟩
    obtain ⟨τa, ea, va, ga⟩ := m_chn h ok hN hm hrl hlm (y.1 (by omega)) hL hLY hY (by omega) g k21 (bl_fx (fun _ _ _ _ _ _ _ => none) (b_X10_lives_66 k21) f)
    obtain ⟨τ1, e1, v1, g1⟩ := ih (k + 1) f τa (chn (sv s) rl lm L q) (by omega) (by omega) va (ys_chn (y.1 (by omega)) ok.1 (ok.hK hN) hL rl lm) ga
    rw [chs_1]
    refine ⟨τ1, ?_, v1, g1⟩
    rw [fx_succ, ea]
    exact e1
/-- a year; what the year before left of its own counts for nothing -/
theorem m_year (h : MV τ s l' x w) (hl : ∀ g, lBegin (sv s) l' g = lBegin (sv s) l g) (ok : SOk s n) (hN : 0 < tN (sv s)) {rl lm m : Nat} (hm : m ≤ 601) (hrl : rl ≤ 3) (hlm : lm ≤ 999) (y : YE (sv s) m L l) (hL : 1 ≤ L) (hLY : L ≤ Y) (hY : Y ≤ 20) (hG : rl = 0 → GM τ (sv s) Y) (k21 : bl_St → Nat → Int32 → Int32 → Int32 → Option (Unit × bl_St)) :
    ∃ τ1, b_X10_lives_21 k21 τ 139 (nI rl) (nI lm) (nI L) = k21 τ1 139 (nI rl) (nI lm) (nI (L - 1)) ∧ MV τ1 s (yr (sv s) rl lm L (l, x)).1 (yr (sv s) rl lm L (l, x)).2 w ∧ (rl = 0 → GM τ1 (sv s) Y) := by
  have ey0 : yr (sv s) rl lm L (l, x) = chs (sv s) rl lm L (tH (sv s)) (lBegin (sv s) l (yrg (sv s) rl L l), x) := by rw [yr]
  rw [ey0]
  have hH := ok.1.2.2.2.1
  have h8 := ok.1.n8
  have hP := y.1.1.2 hN
  have eP : lP l' = lP l := by have := congrArg (fun z : lf_V => z.1.1) (hl 0); exact this
  have hg := yrg_lt (sv s) rl L l
  have k52 : ∃ τ1, b_X10_lives_52 k21 τ 139 (nI rl) (nI lm) (nI L) (nI (yrg (sv s) rl L l)) 139 = k21 τ1 139 (nI rl) (nI lm) (nI (L - 1)) ∧ MV τ1 s (chs (sv s) rl lm L (tH (sv s)) (lBegin (sv s) l (yrg (sv s) rl L l), x)).1 (chs (sv s) rl lm L (tH (sv s)) (lBegin (sv s) l (yrg (sv s) rl L l), x)).2 w ∧ (rl = 0 → GM τ1 (sv s) Y) := by
    obtain ⟨τ2, e2, m2, t2, l2⟩ := m_begins h.1.1.1.1.1.1 h.1.2.1 ok.1 h.1.2.2.1.lw (by rw [eP]; exact hP) hg
    rw [hl] at l2
    have v2 := h.life m2 t2 l2
    have eh := v2.1.2.1.2.1.1
    rw [Nat.zero_add] at eh
    obtain ⟨τ1, e1, q⟩ := m_chs (c := lP l) (w := w) ok hN hm hrl hlm hL hLY hY k21 (tH (sv s)) 0 bl_fu τ2 (lBegin (sv s) l (yrg (sv s) rl L l), x) (by omega) (by unfold bl_fu; omega) v2 ⟨fun _ => yi_begin y ok.1 hN hg, fun z => by omega⟩ (fun z => (hG z).mo m2 t2)
    refine ⟨τ1, ?_, q⟩
    unfold b_X10_lives_52
    rw [e2, bd_some, let_eq, v2.1.1.1.1.1.1, eh]
    exact e1
  unfold b_X10_lives_21
  rw [if_neg (nI_nle (by omega) (by omega))]
  by_cases hr : rl = 0
  · have G := hG hr
    have ey : yrg (sv s) rl L l = cGd (sv s) false 0 0 true 1 0 (L - 1) (lP l) := by unfold yrg; rw [if_pos hr]
    have e55 := h.1.2.2.1.1.1
    rw [Nat.zero_add] at e55
    have eg := m_isGuarded (L := L) (c := lP l) h.1 (by omega) (by omega) hg (by rw [ey]; exact (G.2 L hLY (lP l) hP).2 hL)
    rw [if_pos (show nI rl = 0 by rw [hr]; rfl), h.1.1.1.1.1.1, e55, eP, eg, bd_some]
    rcases (show yrg (sv s) rl L l = 0 ∨ yrg (sv s) rl L l = 1 by omega) with hz | hz
    · rw [hz] at k52 ⊢
      rw [if_pos (by rfl)]
      exact k52
    · rw [hz] at k52 ⊢
      rw [if_neg (by decide)]
      exact k52
  · have ey : yrg (sv s) rl L l = 0 := by unfold yrg; rw [if_neg hr]
    rw [ey] at k52 ⊢
    rw [if_neg (show ¬ nI rl = 0 from fun z => hr ((nI_is0 (by omega)).mp z))]
    exact k52
theorem m_years (ok : SOk s n) (hN : 0 < tN (sv s)) {rl lm m : Nat} (hm : m ≤ 601) (hrl : rl ≤ 3) (hlm : lm ≤ 999) (hY : Y ≤ 20) : ∀ (L f : Nat) (τ : bl_St) (q : lf_V × Int32), L ≤ Y → L < f → MV τ s q.1 q.2 w → YE (sv s) m L q.1 → (rl = 0 → GM τ (sv s) Y) →
    ∃ τ1, bl_fx (fun _ _ _ _ _ => none) (b_X10_lives_21) f τ 139 (nI rl) (nI lm) (nI L) = some ((), τ1) ∧ MV τ1 s (yrs (sv s) rl lm L q).1 (yrs (sv s) rl lm L q).2 w := by
  intro L
  induction L with
  | zero =>
    intro f τ q hL hq h y g
    obtain ⟨f, rfl⟩ : ∃ z, f = z + 1 := ⟨f - 1, by omega⟩
    rw [yrs_0]
    refine ⟨τ, ?_, h⟩
    rw [fx_succ]
    unfold b_X10_lives_21
    rw [if_pos (by decide)]
  | succ L ih =>
    intro f τ q hL hq h y g
    obtain ⟨f, rfl⟩ : ∃ z, f = z + 1 := ⟨f - 1, by omega⟩
    obtain ⟨l, x⟩ := q
    obtain ⟨τa, ea, va, ga⟩ := m_year (l := l) (l' := l) (x := x) h (fun _ => rfl) ok hN hm hrl hlm y (by omega) hL hY g (bl_fx (fun _ _ _ _ _ => none) (b_X10_lives_21) f)
    obtain ⟨τ1, e1, v1⟩ := ih f τa (yr (sv s) rl lm (L + 1) (l, x)) (by omega) (by omega) va (ye_yr (q := (l, x)) y ok.1 hN (ok.hK hN) (by omega) rl lm) ga
    rw [yrs_1]
    refine ⟨τ1, ?_, v1⟩
    rw [fx_succ, ea]
    exact e1
theorem m_lives (hm0 : MI τ ((sv s, l'), s.2)) (hw : bl_I τ 142 = w) (hl : ∀ g, lBegin (sv s) l' g = lBegin (sv s) l g) (ok : SOk s n) (hN : 0 < tN (sv s)) {rl lm m : Nat} (hm : m ≤ 601) (hrl : rl ≤ 3) (hlm : lm ≤ 999) (hY1 : 1 ≤ Y) (hY : Y ≤ 20) (y : YE (sv s) m Y l) (sd : Int32) :
    ∃ τ1, f_X10_lives τ 139 (nI Y) (nI rl) (nI lm) sd = some ((), τ1) ∧ MI τ1 ((sv s, (yrs (sv s) rl lm Y (l, sd)).1), s.2) ∧ bl_I τ1 142 = w := by
  have hK := ok.hK hN
  have v0 : MV (bl_pI τ 139 6 sd) s l' sd w := ⟨hm0.f9 (by decide) (by decide) sd, I_pI_self _ _ _ _, by rw [I_pI_o (by decide)]; exact hw⟩
  have go : ∀ (τ2 : bl_St), MV τ2 s l' sd w → (rl = 0 → GM τ2 (sv s) Y) → ∃ τ1, b_X10_lives_18 τ2 139 (nI Y) (nI rl) (nI lm) = some ((), τ1) ∧ MI τ1 ((sv s, (yrs (sv s) rl lm Y (l, sd)).1), s.2) ∧ bl_I τ1 142 = w := by
    intro τ2 v2 g2
    obtain ⟨Z, rfl⟩ : ∃ Z, Y = Z + 1 := ⟨Y - 1, by omega⟩
    obtain ⟨τa, ea, va, ga⟩ := m_year v2 hl ok hN hm hrl hlm y (by omega) (Nat.le_refl _) hY g2 (bl_fx (fun _ _ _ _ _ => none) (b_X10_lives_21) 19999)
    obtain ⟨τ1, e1, v1⟩ := m_years ok hN hm hrl hlm hY Z 19999 τa (yr (sv s) rl lm (Z + 1) (l, sd)) (by omega) (by omega) va (ye_yr (q := (l, sd)) y ok.1 hN hK (by omega) rl lm) ga
    rw [yrs_1]
    refine ⟨τ1, ?_, v1.1, v1.2.2⟩
    unfold b_X10_lives_18
    rw [fu_succ, fx_succ, ea]
    exact e1
  unfold f_X10_lives
  rw [let_eq]
  by_cases hr : rl = 0
  · obtain ⟨τ2, e2, m2, k2, c2, f2⟩ := m_laysT (rl := 0) (lm := 0) v0.1 ok.1 hK true hY (by decide) (by decide)
    have v2 : MV τ2 s l' sd w := by
      refine ⟨m2, ?_, by rw [(k2 142 (by omega)).1]; exact v0.2.2⟩
      have i6 : bl_I τ2 139 6 = bl_I (bl_pI τ 139 6 sd) 139 6 := by
        obtain ⟨τa, qa⟩ : ∃ z, z = bl_pI (bl_pI (bl_pI (bl_pI τ 139 6 sd) 139 11 (nI 0)) 139 12 (nI 0)) 139 13 0 := ⟨_, rfl⟩
        have ma : MI τa ((sv s, l'), s.2) := by rw [qa]; exact ((v0.1.f9 (by decide) (by decide) _).f9 (by decide) (by decide) _).f9 (by decide) (by decide) _
        obtain ⟨τb, eb, mb, kb, cb, ib, fb⟩ := m_lyT (w := false) (gd := true) (cars := 1) (hu := 0) (rl := 0) (lm := 0) (Y := Y) ma ok.1 hK (by rw [qa]; simp [I_pI]) (by rw [qa]; simp [I_pI]) (by rw [qa]; simp [I_pI]) hY (by decide) (by decide) (by decide) (by decide) (fun _ => rfl)
        have eH := ma.2.1.2.1.1
        simp only [Nat.zero_add] at eH
        have e3 : f_X10_lays (bl_pI τ 139 6 sd) 139 (nI Y) (gI true) (nI 0) (nI 0) = some ((), τb) := by
          unfold f_X10_lays
          simp only [let_eq]
          rw [← qa, ma.1.1.1.1.1, eH]
          have q : f_X10_laysYears τa 139 (nI Y) (gI true) (nI (tH (sv s))) 1 0 = some ((), τb) := by
            have := eb
            rw [Nat.mul_one] at this
            exact this
          rw [q, bd_some]
        have e4 : τ2 = τb := by
          have := e2.symm.trans e3
          simpa using this
        rw [e4, ib 6 (by decide), qa]
        simp [I_pI]
      rw [i6]
      exact v0.2.1
    obtain ⟨τ1, e1, q⟩ := go τ2 v2 (fun _ => ⟨c2, f2⟩)
    refine ⟨τ1, ?_, q⟩
    rw [if_pos (show nI rl = 0 by rw [hr]; rfl), show f_X10_lays (bl_pI τ 139 6 sd) 139 (nI Y) 1 0 0 = _ from e2, bd_some]
    exact e1
  · obtain ⟨τ1, e1, q⟩ := go _ v0 (fun z => absurd z hr)
    refine ⟨τ1, ?_, q⟩
    rw [if_neg (show ¬ nI rl = 0 from fun z => hr ((nI_is0 (by omega)).mp z))]
    exact e1
theorem m_allPaid (h : MI τ s) : f_X10_allPaid τ 139 = some (lAll (sl s), τ) := by
  obtain ⟨c1, c2, c3, c4, c5, c6, c7⟩ := h.2.2.1.2.2.1
  simp only [Nat.zero_add] at c2 c3 c4 c5
  unfold f_X10_allPaid
  rw [h.1.1.1.1.1, c2, c3, c4, c5]
end LVM
