/-! ===== report ===== -/
abbrev rG (v : tm_V) (L c : Nat) : Nat := cGd v false 0 0 true 1 0 (L - 1) c
abbrev rE (v : tm_V) (L c : Nat) : Nat := cLe v (cA v L c (0 + 1) (tn 0 (rG v L c)) 0) (cA v L c (0 + 1) 0 (rG v L c))
def adG (v : tm_V) (L c : Nat) : List Int32 := if rG v L c = 1 then 32 :: bl_tc.getD 5 [] else []
def adE (v : tm_V) (L c : Nat) : List Int32 := if rE v L c ≤ 9999 then 32 :: bl_tc.getD 7 [] ++ 32 :: num (rE v L c) else 32 :: bl_tc.getD 6 []
def adT (v : tm_V) (L c : Nat) : List Int32 := bl_tc.getD 0 [] ++ 32 :: num c ++ adG v L c ++ adE v L c ++ [59]
section REP
variable {s : st_V} {n : Nat} {σ σ1 τ τ1 : bl_St} {v : tm_V} {L c kn : Nat} {xs ys : List Int32}
theorem adG_len (v : tm_V) (L c : Nat) : (adG v L c).length ≤ 6 := by
  unfold adG
  split <;> decide
theorem adE_len (v : tm_V) (L c : Nat) : (adE v L c).length ≤ 11 := by
  unfold adE
  split
  · rw [List.length_append]
    show 6 + ((num (rE v L c)).length + 1) ≤ 11
    rw [num_len]
    have := nd_le (rE v L c)
    omega
  · decide
theorem adT_len (v : tm_V) (L : Nat) {c : Nat} (hc : c < 8) : (adT v L c).length = 8 + (adG v L c).length + (adE v L c).length := by
  unfold adT
  rw [List.length_append, List.length_append, List.length_append, List.length_append]
  show 5 + ((num c).length + 1) + _ + _ + 1 = _
  rw [num_len, nd1 (by omega)]
  omega
theorem PG.kq {S : Nat → Prop} (h : PG σ xs) (k : Kq S σ σ1) (h1 : ¬ S 8) (h2 : ¬ S 9) : PG σ1 xs := by
  unfold PG at *
  rw [(k 8 h1).1, (k 8 h1).2.2, (k 9 h2).1]
  exact h
def XQ (σ : bl_St) (s : st_V) (xs : List Int32) (L c kn : Nat) : Prop := XI σ s ∧ PG σ xs ∧ GQ σ (sv s) L c kn
theorem XQ.pg (h : XQ σ s xs L c kn) (p : PG σ1 ys) (k : Kq pgS σ σ1) (r : bl_R σ1 = bl_R σ) : XQ σ1 s ys L c kn :=
  ⟨h.1.pg k r, p, h.2.2.kq k (fun i a b c => by unfold pgS at c; omega) (fun i a b c => by unfold pgS at c; omega)⟩
theorem xq_word (h : XQ σ s xs L c kn) {j : Nat} (hj : j < 8) (hs : Mid xs) (hl : xs.length + 1 + (bl_tc.getD j []).length ≤ 256) : ∃ σ1, f_X5_putWord σ 8 j = some ((), σ1) ∧ XQ σ1 s (xs ++ 32 :: bl_tc.getD j []) L c kn := by
  obtain ⟨σ1, e1, p1, k1, r1⟩ := x_word1 h.2.1 hj hs hl
  exact ⟨σ1, e1, h.pg p1 k1 r1⟩
theorem xq_num (h : XQ σ s xs L c kn) {w : Nat} (hw : w ≤ 9999) (hs : Mid xs) (hl : xs.length + 1 + (num w).length ≤ 256) : ∃ σ1, f_X5_putNumber σ 8 (nI w) = some ((), σ1) ∧ XQ σ1 s (xs ++ 32 :: num w) L c kn := by
  obtain ⟨σ1, e1, p1, k1, r1⟩ := x_num h.2.1 hw hs hl
  exact ⟨σ1, e1, h.pg p1 k1 r1⟩
theorem mid_w32 {j : Nat} (hj : j < 8) : Mid (xs ++ 32 :: bl_tc.getD j []) := by
  have h : Mid ([32] ++ bl_tc.getD j []) := mid_word hj
  exact h.app
theorem adE_0 (v : tm_V) (L c : Nat) : (if rE v L c ≤ 9999 then nI (rE v L c) else (-2) : Int32) = -2 ↔ ¬ rE v L c ≤ 9999 := by
  by_cases h : rE v L c ≤ 9999
  · rw [if_pos h]
    refine ⟨fun z => ?_, fun z => absurd h z⟩
    have := nI_pos (n := rE v L c) (by omega)
    rw [z] at this
    exact absurd (by decide) this
  · rw [if_neg h]
    exact ⟨fun _ => h, fun _ => rfl⟩
/-- what is written of a class -/
theorem x_adv (hx : XI σ s) (p : PG σ xs) (C : CX σ 111 10 (sv s) 0 0 false (tH (sv s) * 1)) (O : OX σ 111 10 (sv s) 0 0 false true 1 0 kn) (ok : SOk s n) (hkn : L - 1 ≤ kn) (hL1 : 1 ≤ L) (hL : L ≤ 20) (hc : c < tN (sv s)) (hs : Sta xs) (hl : xs.length + (adT (sv s) L c).length ≤ 256) (i : Int32) (k48 : bl_St → Nat → Int32 → Int32 → Int32 → Option (Int32 × bl_St)) :
    ∃ σ1, b_X9_report_48 k48 σ 0 (nI L) i (nI c) = k48 σ1 0 (nI L) i (nI (c + 1)) ∧ XQ σ1 s (xs ++ adT (sv s) L c) L c kn := by
  have h8 := ok.1.n8
  have hH := ok.1.2.2.2.1
  have hK := ok.hK (by omega)
  have hg2 : rG (sv s) L c < 2 := cGd_lt (sv s) false 0 0 true 1 0 (L - 1) c
  rw [adT_len (sv s) L (by omega)] at hl
  obtain ⟨σa, ea, ka, ga⟩ := x_buysK C O ok.1 hK hkn hL1 hL hc
  have xa := hx.out (ka.mono (fun i hi => by omega)) ga.2.2
  have pa : PG σa xs := p.kq ka (by decide) (by decide)
  have q := ga.2.1 (0 + 1) (by omega)
  have h1 : bl_J σa 118 (6 * (0 + 1) + 2 * 0 + rG (sv s) L c) = lN (cA (sv s) L c (0 + 1) 0 (rG (sv s) L c)) := by
    rcases (show rG (sv s) L c = 0 ∨ rG (sv s) L c = 1 by omega) with hz | hz
    · rw [hz]; exact q.1 0 ⟨by decide, by decide, by decide⟩
    · rw [hz]; exact q.2 rfl
  have h2 : bl_J σa 118 (6 * (0 + 1) + 2 * tn 0 (rG (sv s) L c) + 0) = lN (cA (sv s) L c (0 + 1) (tn 0 (rG (sv s) L c)) 0) := q.1 _ (by unfold rg tn; split <;> omega)
  have el : f_X4_leastTold σa 111 0 0 (nI (rG (sv s) L c)) = some (if rE (sv s) L c ≤ 9999 then nI (rE (sv s) L c) else (-2), σa) := x_leastTold (k := 0) (t := 0) (g := rG (sv s) L c) ga.1 ok h1 h2 hc hL (by omega) (by decide) hg2
  have Qa : XQ σa s xs L c kn := ⟨xa, pa, ga⟩
  obtain ⟨σb, eb, pb, kb, rb⟩ := x_word0 pa (show 0 < 8 by decide) hs (by show xs.length + 5 ≤ 256; omega)
  have Qb := Qa.pg pb kb rb
  obtain ⟨σc, ec, Qc⟩ := xq_num (w := c) Qb (by omega) (mid_word (by decide)) (by rw [List.length_append, num_len, nd1 (by omega)]; show xs.length + 5 + 1 + (0 + 1) ≤ 256; omega)
  have l156 : ∀ (ρ : bl_St), XQ ρ s (xs ++ bl_tc.getD 0 [] ++ 32 :: num c ++ adG (sv s) L c ++ adE (sv s) L c) L c kn → ∃ σ1, b_X9_report_156 k48 ρ 0 (nI L) i (nI c) = k48 σ1 0 (nI L) i (nI (c + 1)) ∧ XQ σ1 s (xs ++ adT (sv s) L c) L c kn := by
    intro ρ Q
    obtain ⟨σ1, e1, p1, k1, r1⟩ := x_end Q.2.1 (by rw [List.length_append, List.length_append, List.length_append, List.length_append]; show xs.length + 5 + ((num c).length + 1) + _ + _ < 256; rw [num_len, nd1 (by omega)]; omega)
    refine ⟨σ1, ?_, ?_⟩
    · unfold b_X9_report_156
      rw [Q.1.1.1.1.2.1, e1, bd_some, let_eq, nI_1]
    · have Q1 := Q.pg p1 k1 r1
      unfold adT
      rw [← List.append_assoc, ← List.append_assoc, ← List.append_assoc, ← List.append_assoc]
      exact Q1
  have l117 : ∀ (ρ : bl_St), XQ ρ s (xs ++ bl_tc.getD 0 [] ++ 32 :: num c ++ adG (sv s) L c) L c kn → Mid (xs ++ bl_tc.getD 0 [] ++ 32 :: num c ++ adG (sv s) L c) → ∃ σ1, b_X9_report_117 k48 ρ 0 (nI L) i (nI c) (if rE (sv s) L c ≤ 9999 then nI (rE (sv s) L c) else (-2)) = k48 σ1 0 (nI L) i (nI (c + 1)) ∧ XQ σ1 s (xs ++ adT (sv s) L c) L c kn := by
    intro ρ Q hm
    have len0 : (xs ++ bl_tc.getD 0 [] ++ 32 :: num c ++ adG (sv s) L c).length = xs.length + 7 + (adG (sv s) L c).length := by
      rw [List.length_append, List.length_append, List.length_append]
      show xs.length + 5 + ((num c).length + 1) + _ = _
      rw [num_len, nd1 (by omega)]
    unfold b_X9_report_117
    by_cases h9 : rE (sv s) L c ≤ 9999
    · rw [if_neg (fun z => ((adE_0 (sv s) L c).mp z) h9), if_pos h9]
      have ee : adE (sv s) L c = 32 :: bl_tc.getD 7 [] ++ 32 :: num (rE (sv s) L c) := by unfold adE; rw [if_pos h9]
      have le : (adE (sv s) L c).length = 6 + (nd (rE (sv s) L c) + 2) := by rw [ee, List.length_append]; show 6 + ((num (rE (sv s) L c)).length + 1) = _; rw [num_len]
      obtain ⟨σd, ed, Qd⟩ := xq_word Q (show 7 < 8 by decide) hm (by rw [len0]; show xs.length + 7 + _ + 1 + 5 ≤ 256; omega)
      obtain ⟨σe, e2, Qe⟩ := xq_num (w := rE (sv s) L c) Qd h9 (mid_w32 (by decide)) (by rw [List.length_append, len0, num_len]; show xs.length + 7 + _ + 6 + 1 + _ ≤ 256; omega)
      obtain ⟨σ1, e1, Q1⟩ := l156 σe (by rw [ee, ← List.append_assoc]; exact Qe)
      refine ⟨σ1, ?_, Q1⟩
      rw [Q.1.1.1.1.2.1, ed, bd_some, Qd.1.1.1.1.2.1, e2, bd_some]
      exact e1
    · rw [if_pos ((adE_0 (sv s) L c).mpr h9)]
      have ee : adE (sv s) L c = 32 :: bl_tc.getD 6 [] := by unfold adE; rw [if_neg h9]
      have le : (adE (sv s) L c).length = 5 := by rw [ee]; rfl
      obtain ⟨σd, ed, Qd⟩ := xq_word Q (show 6 < 8 by decide) hm (by rw [len0]; show xs.length + 7 + _ + 1 + 4 ≤ 256; omega)
      obtain ⟨σ1, e1, Q1⟩ := l156 σd (by rw [ee]; exact Qd)
      refine ⟨σ1, ?_, Q1⟩
      rw [Q.1.1.1.1.2.1, ed, bd_some]
      exact e1
  unfold b_X9_report_48
  rw [hx.1.1.1.2.2.1, hx.2.1.2.1.1, if_neg (nI_ge hc (by omega)), hx.1.1.2.1, ea, bd_some, xa.1.1.2.1, el, bd_some, show f_X9_wordOf σa 0 = _ from x_word_of σa (k := 0) (by decide), bd_some, xa.1.1.1.2.1, eb, bd_some, Qb.1.1.1.1.2.1, ec, bd_some]
  rcases (show rG (sv s) L c = 0 ∨ rG (sv s) L c = 1 by omega) with hz | hz
  · have eg : adG (sv s) L c = [] := by unfold adG; rw [if_neg (by omega)]
    rw [if_pos (show nI (rG (sv s) L c) = 0 by rw [hz]; rfl)]
    exact l117 σc (by rw [eg, List.append_nil]; exact Qc) (by rw [eg, List.append_nil]; exact mid_32 _)
  · have eg : adG (sv s) L c = 32 :: bl_tc.getD 5 [] := by unfold adG; rw [if_pos hz]
    have lg : (adG (sv s) L c).length = 6 := by rw [eg]; rfl
    obtain ⟨σd, ed, Qd⟩ := xq_word Qc (show 5 < 8 by decide) (mid_32 _) (by rw [List.length_append, List.length_append]; show xs.length + 5 + ((num c).length + 1) + 1 + 5 ≤ 256; rw [num_len, nd1 (by omega)]; omega)
    rw [if_neg (show ¬ nI (rG (sv s) L c) = 0 by rw [hz]; decide), Qc.1.1.1.1.2.1, ed, bd_some]
    exact l117 σd (by rw [eg]; exact Qd) (by rw [eg]; exact mid_w32 (by decide))
abbrev rpT (v : tm_V) (L k : Nat) : List Int32 := catT (adT v L) k
theorem rp_len (ok : TOk v) (L : Nat) {k : Nat} (hk : k ≤ tN v) : (rpT v L k).length ≤ 25 * k := catT_len k (fun j hj => by
  have h8 := ok.n8
  rw [adT_len v L (by omega)]
  have := adG_len v L j
  have := adE_len v L j
  omega)
theorem sta_rp (v : tm_V) (L : Nat) : ∀ k, Sta (rpT v L k)
  | 0 => Or.inl rfl
  | k + 1 => by
    show Sta (rpT v L k ++ (bl_tc.getD 0 [] ++ 32 :: num k ++ adG v L k ++ adE v L k ++ [59]))
    rw [← List.append_assoc]
    exact Sta.end1 _
theorem x_report (hx : XI σ s) (ok : SOk s n) (hN : 0 < tN (sv s)) (hL1 : 1 ≤ L) (hL : L ≤ 20) (i : Int32) : ∃ σ1, (bl_let (bl_pI σ 8 1 0) fun σ56 => bl_bd (f_X4_learn σ56 (bl_R σ56 0 7) (nI L - 1)) fun _ σ60 => bl_fx (fun _ _ _ _ _ => none) (b_X9_report_48 ) bl_fu σ60 0 (nI L) i 0) = some (txA (rpT (sv s) L (tN (sv s))) i, σ1) ∧ XI σ1 s := by
  have h8 := ok.1.n8
  have hK := ok.hK hN
  have l48 : ∀ (kn : Nat), L - 1 ≤ kn → ∀ (r c m : Nat) (ρ : bl_St), c + r = tN (sv s) → r < m → XI ρ s → PG ρ (rpT (sv s) L c) → CX ρ 111 10 (sv s) 0 0 false (tH (sv s) * 1) → OX ρ 111 10 (sv s) 0 0 false true 1 0 kn → ∃ σ1, bl_fx (fun _ _ _ _ _ => none) (b_X9_report_48 ) m ρ 0 (nI L) i (nI c) = some (txA (rpT (sv s) L (tN (sv s))) i, σ1) ∧ XI σ1 s := by
    intro kn hkn r
    induction r with
    | zero =>
      intro c m ρ hc hm X P C O
      obtain ⟨m, rfl⟩ : ∃ z, m = z + 1 := ⟨m - 1, by omega⟩
      have hcN : c = tN (sv s) := by omega
      have hl := rp_len ok.1 L (Nat.le_refl (tN (sv s)))
      rw [hcN] at P
      refine ⟨ρ, ?_, X⟩
      rw [fx_succ]
      unfold b_X9_report_48
      rw [X.1.1.1.2.2.1, X.2.1.2.1.1, if_pos (nI_le (by omega) (by omega)), X.1.1.1.2.1, x_sign P (by omega), bd_some]
    | succ r ih =>
      intro c m ρ hc hm X P C O
      obtain ⟨m, rfl⟩ : ∃ z, m = z + 1 := ⟨m - 1, by omega⟩
      have hl := rp_len ok.1 L (show c + 1 ≤ tN (sv s) by omega)
      have e : (rpT (sv s) L (c + 1)).length = (rpT (sv s) L c).length + (adT (sv s) L c).length := by
        show (rpT (sv s) L c ++ adT (sv s) L c).length = _
        rw [List.length_append]
      obtain ⟨σa, ea, Qa⟩ := x_adv X P C O ok hkn hL1 hL (show c < tN (sv s) by omega) (sta_rp _ _ _) (by omega) i (bl_fx (fun _ _ _ _ _ => none) (b_X9_report_48 ) m)
      obtain ⟨σ1, e1, q⟩ := ih (c + 1) m σa (by omega) (by omega) Qa.1 Qa.2.1 Qa.2.2.1 Qa.2.2.2.2
      refine ⟨σ1, ?_, q⟩
      rw [fx_succ, ea]
      exact e1
  obtain ⟨σa, qa⟩ : ∃ z, z = bl_pI σ 8 1 0 := ⟨_, rfl⟩
  have ka : Kq pgS σ σa := by rw [qa]; exact (Kq.rf pgS σ).pI (Or.inl rfl) _ _
  have xa := hx.pg ka (by rw [qa]; rfl)
  have pa : PG σa [] := ⟨⟨xa.1.2.2.1, by rw [qa, I_pI_self]; rfl⟩, fun i c h => by simp at h⟩
  obtain ⟨kn, hO⟩ := xa.2.2.2.2.1
  obtain ⟨σb, eb, kb, ob, cb⟩ := x_learn hO ok.1 hK (by decide) (by decide) (by decide) (by decide) (by decide) (show L - 1 ≤ 20 by omega)
  obtain ⟨σ1, e1, q⟩ := l48 (max kn (L - 1)) (by omega) (tN (sv s)) 0 bl_fu σb (by omega) (by unfold bl_fu; omega) (xa.out kb.kq ob) (pa.kq kb.kq (by decide) (by decide)) cb ob
  refine ⟨σ1, ?_, q⟩
  rw [let_eq, ← qa, xa.1.1.2.1, show (1 : Int32) = nI 1 from rfl, nI_sub hL1, eb, bd_some]
  exact e1
/-! the reference's -/
theorem m_lays9 (hm : MI τ s) (ok : TOk (sv s)) (hK : 0 < tK (sv s)) {Y : Nat} (hY : Y ≤ 20) : ∃ τ1, f_X10_lays τ 139 (nI Y) 1 0 0 = some ((), τ1) ∧ MI τ1 s ∧ GM τ1 (sv s) Y ∧ Kq (fun i => i = 139 ∨ (144 ≤ i ∧ i ≤ 146)) τ τ1 ∧ bl_I τ1 139 19 = bl_I τ 139 19 := by
  obtain ⟨τa, ea⟩ : ∃ z, z = bl_pI (bl_pI (bl_pI τ 139 11 (nI 0)) 139 12 (nI 0)) 139 13 0 := ⟨_, rfl⟩
  have ma : MI τa s := by rw [ea]; exact ((hm.f9 (by decide) (by decide) _).f9 (by decide) (by decide) _).f9 (by decide) (by decide) _
  have ka : Kq (fun i => i = 139 ∨ (144 ≤ i ∧ i ≤ 146)) τ τa := by rw [ea]; exact (((Kq.rf (fun i => i = 139 ∨ (144 ≤ i ∧ i ≤ 146)) τ).pI (Or.inl rfl) _ _).pI (Or.inl rfl) _ _).pI (Or.inl rfl) _ _
  obtain ⟨τ1, e1, m1, k1, c1, i1, f1⟩ := m_lyT (w := false) (gd := true) (cars := 1) (hu := 0) (rl := 0) (lm := 0) (Y := Y) ma ok hK (by rw [ea]; simp [I_pI]) (by rw [ea]; simp [I_pI]) (by rw [ea]; simp [I_pI]) hY (by decide) (by decide) (by decide) (by decide) (fun _ => rfl)
  refine ⟨τ1, ?_, m1, ⟨c1, f1⟩, ka.tr k1, by rw [i1 19 (by decide), ea]; simp [I_pI]⟩
  have eH := ma.2.1.2.1.1
  simp only [Nat.zero_add] at eH
  have q : f_X10_laysYears τa 139 (nI Y) (gI true) (nI (tH (sv s))) 1 0 = some ((), τ1) := by
    have := e1
    rw [Nat.mul_one] at this
    exact this
  show f_X10_lays τ 139 (nI Y) (gI true) (nI 0) (nI 0) = _
  unfold f_X10_lays
  simp only [let_eq]
  rw [← ea, ma.1.1.1.1.1, eH, q, bd_some]
def MTx (τ : bl_St) (s : st_V) (xs : List Int32) (Y : Nat) : Prop := MI τ s ∧ PM9 τ xs ∧ GM τ (sv s) Y
theorem GM.tx {Y : Nat} (h : GM τ v Y) (x : Tx τ τ1) : GM τ1 v Y := by
  refine ⟨⟨by rw [x.1]; exact h.1.1, ?_, by rw [x.2.2.1 11 (by decide)]; exact h.1.2.2.1, by rw [x.2.2.1 12 (by decide)]; exact h.1.2.2.2.1, by rw [x.2.2.1 13 (by decide)]; exact h.1.2.2.2.2.1, by rw [x.2.2.1 10 (by decide)]; exact h.1.2.2.2.2.2⟩, fun z hz d hd => ?_⟩
  · have T := h.1.2.1
    unfold TM at *
    rw [x.2.2.2 140 (by decide) (by decide)]
    exact T
  · rw [x.2.1, x.2.2.2 145 (by decide) (by decide)]
    exact h.2 z hz d hd
theorem MTx.tx {Y : Nat} (h : MTx τ s xs Y) (p : PM9 τ1 ys) (x : Tx τ τ1) : MTx τ1 s ys Y := ⟨h.1.tx x, p, h.2.2.tx x⟩
theorem mq_sign {Y : Nat} (h : MTx τ s xs Y) (hl : xs.length < 400) (c : Int32) : ∃ τ1, f_X10_writesSign τ 139 c = some ((), τ1) ∧ MTx τ1 s (xs ++ [c]) Y := by
  obtain ⟨τ1, e1, p1, x1⟩ := m_sign1 h.2.1 hl c
  exact ⟨τ1, e1, h.tx p1 x1⟩
theorem mq_word {Y : Nat} (h : MTx τ s xs Y) {w : Nat} (h8 : w < 8) (hl : xs.length + (mwd w).length ≤ 400) : ∃ τ1, f_X10_writesWord τ 139 (nI w) = some ((), τ1) ∧ MTx τ1 s (xs ++ mwd w) Y := by
  obtain ⟨τ1, e1, p1, x1⟩ := m_word h.2.1 h.1.wd h8 hl
  exact ⟨τ1, e1, h.tx p1 x1⟩
theorem mq_num {Y : Nat} (h : MTx τ s xs Y) {w : Nat} (hw : w ≤ 9999) (hl : xs.length + 1 + (num w).length ≤ 400) : ∃ τ1, f_X10_writesNumber τ 139 (nI w) = some ((), τ1) ∧ MTx τ1 s (xs ++ 32 :: num w) Y := by
  obtain ⟨τ1, e1, p1, x1⟩ := m_num h.2.1 hw hl
  exact ⟨τ1, e1, h.tx p1 x1⟩
theorem m_adv (h : MTx τ s xs L) (ok : SOk s n) (hL1 : 1 ≤ L) (hL : L ≤ 20) (hc : c < tN (sv s)) (hl : xs.length + (adT (sv s) L c).length ≤ 400) : ∃ τ1, f_X10_writesAdvice τ 139 (nI L) (nI c) = some ((), τ1) ∧ MTx τ1 s (xs ++ adT (sv s) L c) L := by
  have h8 := ok.1.n8
  have hH := ok.1.2.2.2.1
  have hK := ok.hK (by omega)
  have hg2 : rG (sv s) L c < 2 := cGd_lt (sv s) false 0 0 true 1 0 (L - 1) c
  rw [adT_len (sv s) L (by omega)] at hl
  have w0 : mwd 0 = bl_tc.getD 0 [] := rfl
  have w5 : mwd 5 = bl_tc.getD 5 [] := rfl
  have w6 : mwd 6 = bl_tc.getD 7 [] := rfl
  have w7 : mwd 7 = bl_tc.getD 6 [] := rfl
  obtain ⟨τa, ea, Qa⟩ := mq_word h (show 0 < 8 by decide) (by show xs.length + 5 ≤ 400; omega)
  rw [w0] at Qa
  obtain ⟨τb, eb, Qb⟩ := mq_num (w := c) Qa (by omega) (by rw [List.length_append, num_len, nd1 (by omega)]; show xs.length + 5 + 1 + (0 + 1) ≤ 400; omega)
  have eg := m_isGuarded (L := L) (c := c) (x := rG (sv s) L c) Qb.1 hL (by omega) hg2 ((Qb.2.2.2 L (Nat.le_refl _) c hc).2 hL1)
  have l32 : ∀ (ρ : bl_St), MTx ρ s (xs ++ bl_tc.getD 0 [] ++ 32 :: num c ++ adG (sv s) L c) L → ∃ τ1, b_X10_writesAdvice_32 ρ 139 (nI L) (nI c) (nI (rG (sv s) L c)) = some ((), τ1) ∧ MTx τ1 s (xs ++ adT (sv s) L c) L := by
    intro ρ Q
    have len0 : (xs ++ bl_tc.getD 0 [] ++ 32 :: num c ++ adG (sv s) L c).length = xs.length + 7 + (adG (sv s) L c).length := by
      rw [List.length_append, List.length_append, List.length_append]
      show xs.length + 5 + ((num c).length + 1) + _ = _
      rw [num_len, nd1 (by omega)]
    obtain ⟨ρ1, e1, j1, l1⟩ := m_laysChances (V := cCo (sv s) false 0 0 true 1 0 (L - 1)) Q.2.2.1 ok.1 hK (by decide) (by decide) (by have := tH1 ok.1; omega) hL1 hL hc (fun d hd => (Q.2.2.2 (L - 1) (by omega) d hd).1) (fun d hd => by have := cCo_le ok.1 hK false 0 0 true 1 0 (by decide) (L - 1) d hd; omega)
    have Ie : bl_I ρ1 = bl_I ρ := j1.1
    have Re : bl_R ρ1 = bl_R ρ := j1.2.1
    have Q1 : MTx ρ1 s (xs ++ bl_tc.getD 0 [] ++ 32 :: num c ++ adG (sv s) L c) L := by
      refine ⟨Q.1.jo j1, ?_, Q.2.2.1.jo j1, fun z hz d hd => ?_⟩
      · have P := Q.2.1
        unfold PM9 at *
        rw [Ie, Re]
        exact P
      · rw [j1.2.2 144 (by decide), Ie]
        exact Q.2.2.2 z hz d hd
    obtain ⟨q1, q2⟩ := m_two (s := s) (L := L) (c := c) (k := 0) (t := 0) (g := rG (sv s) L c) l1 (by omega) (by decide) hg2
    have el : f_X10_leastSize ρ1 139 0 0 (nI (rG (sv s) L c)) = some (if rE (sv s) L c ≤ 9999 then nI (rE (sv s) L c) else (-2), ρ1) := m_leastSize (k := 0) (t := 0) (g := rG (sv s) L c) Q1.2.2.1 ok q1 q2 hc hL (by omega) (by decide) hg2
    have k50 : b_X10_writesAdvice_32 ρ 139 (nI L) (nI c) (nI (rG (sv s) L c)) = b_X10_writesAdvice_50 ρ1 139 (nI (rG (sv s) L c)) 0 0 139 := by
      unfold b_X10_writesAdvice_32
      rw [e1, bd_some]
      rcases (show rG (sv s) L c = 0 ∨ rG (sv s) L c = 1 by omega) with hz | hz
      · rw [hz, if_pos (by rfl)]; rfl
      · rw [hz, if_neg (by decide)]; rfl
    rw [k50]
    unfold b_X10_writesAdvice_50
    have hle := adE_len (sv s) L c
    have hle1 : 5 ≤ (adE (sv s) L c).length := by
      unfold adE
      split
      · rw [List.length_append]; show 5 ≤ 6 + _; omega
      · decide
    obtain ⟨ρ2, e2, Q2⟩ := mq_sign Q1 (by rw [len0]; omega) 32
    rw [el, bd_some, e2, bd_some]
    unfold b_X10_writesAdvice_76
    by_cases h9 : rE (sv s) L c ≤ 9999
    · have ee : adE (sv s) L c = 32 :: bl_tc.getD 7 [] ++ 32 :: num (rE (sv s) L c) := by unfold adE; rw [if_pos h9]
      have le : (adE (sv s) L c).length = 6 + (nd (rE (sv s) L c) + 2) := by rw [ee, List.length_append]; show 6 + ((num (rE (sv s) L c)).length + 1) = _; rw [num_len]
      obtain ⟨ρ3, e3, Q3⟩ := mq_word Q2 (show 6 < 8 by decide) (by rw [List.length_append, len0]; show xs.length + 7 + _ + 1 + 5 ≤ 400; omega)
      rw [w6] at Q3
      obtain ⟨ρ4, e4, Q4⟩ := mq_num (w := rE (sv s) L c) Q3 h9 (by rw [List.length_append, List.length_append, len0, num_len]; show xs.length + 7 + _ + 1 + 5 + 1 + _ ≤ 400; omega)
      obtain ⟨ρ5, e5, Q5⟩ := mq_sign Q4 (by rw [List.length_append, List.length_append, List.length_append, len0]; show xs.length + 7 + _ + 1 + 5 + ((num (rE (sv s) L c)).length + 1) < 400; rw [num_len]; omega) 59
      refine ⟨ρ5, ?_, ?_⟩
      · rw [if_neg (fun z => ((adE_0 (sv s) L c).mp z) h9), show f_X10_writesWord ρ2 139 6 = _ from e3, bd_some, if_neg (fun z => ((adE_0 (sv s) L c).mp z) h9), if_pos h9, e4, bd_some, e5, bd_some]
      · unfold adT
        rw [ee]
        show MTx ρ5 s (xs ++ (bl_tc.getD 0 [] ++ 32 :: num c ++ adG (sv s) L c ++ ([32] ++ bl_tc.getD 7 [] ++ 32 :: num (rE (sv s) L c)) ++ [59])) L
        simp only [List.append_assoc] at Q5 ⊢
        exact Q5
    · have ee : adE (sv s) L c = 32 :: bl_tc.getD 6 [] := by unfold adE; rw [if_neg h9]
      have le : (adE (sv s) L c).length = 5 := by rw [ee]; rfl
      obtain ⟨ρ3, e3, Q3⟩ := mq_word Q2 (show 7 < 8 by decide) (by rw [List.length_append, len0]; show xs.length + 7 + _ + 1 + 4 ≤ 400; omega)
      rw [w7] at Q3
      obtain ⟨ρ5, e5, Q5⟩ := mq_sign Q3 (by rw [List.length_append, List.length_append, len0]; show xs.length + 7 + _ + 1 + 4 < 400; omega) 59
      refine ⟨ρ5, ?_, ?_⟩
      · rw [if_pos ((adE_0 (sv s) L c).mpr h9), show f_X10_writesWord ρ2 139 7 = _ from e3, bd_some, if_pos ((adE_0 (sv s) L c).mpr h9), e5, bd_some]
      · unfold adT
        rw [ee]
        show MTx ρ5 s (xs ++ (bl_tc.getD 0 [] ++ 32 :: num c ++ adG (sv s) L c ++ ([32] ++ bl_tc.getD 6 []) ++ [59])) L
        simp only [List.append_assoc] at Q5 ⊢
        exact Q5
  unfold f_X10_writesAdvice
  rw [show f_X10_writesWord τ 139 0 = _ from ea, bd_some, eb, bd_some, eg, bd_some]
  rcases (show rG (sv s) L c = 0 ∨ rG (sv s) L c = 1 by omega) with hz | hz
  · have e0 : adG (sv s) L c = [] := by unfold adG; rw [if_neg (by omega)]
    rw [if_pos (show nI (rG (sv s) L c) = 0 by rw [hz]; rfl)]
    exact l32 τb (by rw [e0, List.append_nil]; exact Qb)
  · have e0 : adG (sv s) L c = 32 :: bl_tc.getD 5 [] := by unfold adG; rw [if_pos hz]
    have lg : (adG (sv s) L c).length = 6 := by rw [e0]; rfl
    have lb : (xs ++ bl_tc.getD 0 [] ++ 32 :: num c).length = xs.length + 7 := by
      rw [List.length_append, List.length_append]
      show xs.length + 5 + ((num c).length + 1) = _
      rw [num_len, nd1 (by omega)]
    obtain ⟨ρ1, e1, Q1⟩ := mq_sign Qb (by rw [lb]; omega) 32
    obtain ⟨ρ2, e2, Q2⟩ := mq_word Q1 (show 5 < 8 by decide) (by rw [List.length_append, lb]; show xs.length + 7 + 1 + 5 ≤ 400; omega)
    rw [if_neg (show ¬ nI (rG (sv s) L c) = 0 by rw [hz]; decide), e1, bd_some, show f_X10_writesWord ρ1 139 5 = _ from e2, bd_some]
    refine l32 ρ2 ?_
    rw [w5, List.append_assoc] at Q2
    rw [e0]
    exact Q2
theorem m_report (hm : MI τ s) (ok : SOk s n) (hN : 0 < tN (sv s)) (hL1 : 1 ≤ L) (hL : L ≤ 20) {i : Int32} (hi : (-1 : Int32) ≤ i) : ∃ τ1, (bl_let (bl_pI τ 139 19 0) fun σ18 => bl_bd (f_X10_lays σ18 139 (nI L) 1 0 0) fun _ σ21 => bl_fx (fun _ _ _ _ _ => none) (b_X10_report_43 ) bl_fu σ21 139 (nI L) i 0) = some (txA (rpT (sv s) L (tN (sv s))) i, τ1) ∧ MI τ1 s := by
  have h8 := ok.1.n8
  have hK := ok.hK hN
  have l43 : ∀ (r c m : Nat) (ρ : bl_St), c + r = tN (sv s) → r < m → MTx ρ s (rpT (sv s) L c) L → ∃ τ1, bl_fx (fun _ _ _ _ _ => none) (b_X10_report_43 ) m ρ 139 (nI L) i (nI c) = some (txA (rpT (sv s) L (tN (sv s))) i, τ1) ∧ MI τ1 s := by
    intro r
    induction r with
    | zero =>
      intro c m ρ hc hm Q
      obtain ⟨m, rfl⟩ : ∃ z, m = z + 1 := ⟨m - 1, by omega⟩
      have hcN : c = tN (sv s) := by omega
      have hl := rp_len ok.1 L (Nat.le_refl (tN (sv s)))
      have e0 := Q.1.2.1.1.1
      rw [hcN] at Q
      refine ⟨ρ, ?_, Q.1⟩
      rw [fx_succ]
      unfold b_X10_report_43
      rw [Q.1.1.1.1.1.1, e0, if_pos (nI_le (by omega) (by omega)), m_told Q.2.1 (by omega) hi, bd_some]
    | succ r ih =>
      intro c m ρ hc hm Q
      obtain ⟨m, rfl⟩ : ∃ z, m = z + 1 := ⟨m - 1, by omega⟩
      have e0 := Q.1.2.1.1.1
      have hl := rp_len ok.1 L (show c + 1 ≤ tN (sv s) by omega)
      have e : (rpT (sv s) L (c + 1)).length = (rpT (sv s) L c).length + (adT (sv s) L c).length := by
        show (rpT (sv s) L c ++ adT (sv s) L c).length = _
        rw [List.length_append]
      obtain ⟨τa, ea, Qa⟩ := m_adv Q ok hL1 hL (show c < tN (sv s) by omega) (by omega)
      obtain ⟨τ1, e1, q⟩ := ih (c + 1) m τa (by omega) (by omega) Qa
      refine ⟨τ1, ?_, q⟩
      rw [fx_succ]
      show (if bl_I ρ (bl_R ρ 139 1) 0 ≤ nI c then _ else _) = _
      rw [Q.1.1.1.1.1.1, e0, if_neg (nI_ge (by omega) (by omega)), ea, bd_some, let_eq, nI_1]
      exact e1
  obtain ⟨τa, qa⟩ : ∃ z, z = bl_pI τ 139 19 0 := ⟨_, rfl⟩
  have ma : MI τa s := by rw [qa]; exact hm.f9 (by decide) (by decide) _
  obtain ⟨τb, eb, mb, gb, kb, ib⟩ := m_lays9 ma ok.1 hK hL
  have pb : PM9 τb [] := ⟨⟨mb.1.1.2.2.1, by rw [ib, qa, I_pI_self]; rfl⟩, fun i c h => by simp at h⟩
  obtain ⟨τ1, e1, q⟩ := l43 (tN (sv s)) 0 bl_fu τb (by omega) (by unfold bl_fu; omega) ⟨mb, pb, gb⟩
  refine ⟨τ1, ?_, q⟩
  rw [let_eq, ← qa, eb, bd_some]
  exact e1
theorem op_report (ok : SOk s n) (l i : Int32) : Both n s (fun σ => f_X9_report σ 0 l i) (fun τ => f_X10_report τ 139 l i) := by
  have h8 := ok.1.n8
  have hm1 : (-1 : Int32).toInt = -1 := rfl
  rcases (Classical.em (vR l 1 20 ∧ (-1 : Int32) ≤ i ∧ 0 < tN (sv s))).symm with hb | hb
  · refine Both.same ok (-1) (fun σ hx => ⟨σ, ?_, hx⟩) (fun τ hm => ⟨τ, ?_, hm⟩)
    · show f_X9_report σ 0 l i = _
      unfold f_X9_report
      by_cases h1 : l < 1
      · rw [if_pos h1]
      rw [if_neg h1]
      by_cases h2 : (20 : Int32) < l
      · rw [if_pos h2]
      rw [if_neg h2]
      by_cases h3 : i < -1
      · rw [if_pos h3]
      rw [if_neg h3, hx.1.1.1.2.2.1, hx.2.1.2.1.1]
      by_cases h4 : tN (sv s) = 0
      · rw [h4, if_pos (by rfl)]
      exact absurd ⟨⟨by rw [show (1 : Int32) = nI 1 from rfl, ltN_iff l (by decide)] at h1; omega, by rw [show (20 : Int32) = nI 20 from rfl, Nlt_iff l (by decide)] at h2; omega⟩, by rw [Int32.lt_iff_toInt_lt] at h3; rw [Int32.le_iff_toInt_le]; omega, by omega⟩ hb
    · show f_X10_report τ 139 l i = _
      unfold f_X10_report
      rw [show (1 : Int64) = lN 1 from rfl, show (20 : Int64) = lN 20 from rfl, m_inN τ l (by decide) (by decide), bd_some]
      by_cases h1 : vR l 1 20
      · rw [if_pos h1, if_neg (by decide)]
        by_cases h3 : i < -1
        · rw [if_pos h3]
        have e0 := hm.2.1.1.1
        rw [if_neg h3, hm.1.1.1.1.1, e0]
        by_cases h4 : tN (sv s) = 0
        · rw [h4, if_pos (by rfl)]
        exact absurd ⟨h1, by rw [Int32.lt_iff_toInt_lt] at h3; rw [Int32.le_iff_toInt_le]; omega, by omega⟩ hb
      · rw [if_neg h1, if_pos rfl]
  obtain ⟨hl, hi, hN⟩ := id hb
  obtain ⟨L, rfl, hL1, hL⟩ := vR_of (by decide) hl
  have hi' : ¬ i < -1 := by rw [Int32.lt_iff_toInt_lt]; rw [Int32.le_iff_toInt_le] at hi; omega
  refine Both.same ok (txA (rpT (sv s) L (tN (sv s))) i) (fun σ hx => ?_) (fun τ hm => ?_)
  · obtain ⟨σ1, e1, x1⟩ := x_report hx ok hN hL1 hL i
    refine ⟨σ1, ?_, x1⟩
    show f_X9_report σ 0 (nI L) i = _
    unfold f_X9_report
    rw [if_neg (show ¬ nI L < 1 from nI_nlt (a := L) (b := 1) hL1 (by omega)), if_neg (show ¬ (20 : Int32) < nI L from nI_nlt (a := 20) hL (by omega)), if_neg hi', hx.1.1.1.2.2.1, hx.2.1.2.1.1, if_neg (nI_ne0 hN (by omega)), hx.1.1.1.2.1]
    exact e1
  · obtain ⟨τ1, e1, m1⟩ := m_report hm ok hN hL1 hL hi
    refine ⟨τ1, ?_, m1⟩
    have e0 := hm.2.1.1.1
    show f_X10_report τ 139 (nI L) i = _
    unfold f_X10_report
    rw [show (1 : Int64) = lN 1 from rfl, show (20 : Int64) = lN 20 from rfl, m_inN τ (nI L) (by decide) (by decide), bd_some, if_pos hl, if_neg (by decide), if_neg hi', hm.1.1.1.1.1, e0, if_neg (nI_ne0 hN (by omega))]
    exact e1
end REP
