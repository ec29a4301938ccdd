section OPT
variable {s : st_V} {n : Nat} {σ τ : bl_St}
theorem x_clear8 (σ : bl_St) (hR : bl_R σ 4 2 = 5 ∧ bl_R σ 4 3 = 6 ∧ bl_R σ 4 4 = 7) : ∃ σ1, f_X8_clear σ 4 = some ((), σ1) ∧ Kq k47 σ σ1 ∧ bl_R σ1 = bl_R σ ∧ TX σ1 4 v0 := by
  obtain ⟨σ1, q1⟩ : ∃ z, z = bl_cS (bl_pI (bl_pI σ 4 0 0) 4 1 0) (fun j => bl_RF.getD j 0) 0 7 0 3 := ⟨_, rfl⟩
  have R1 : bl_R σ1 = bl_R σ := by rw [q1]; rfl
  refine ⟨σ1, ?_, ?_, R1, ⟨by rw [R1]; exact hR, ⟨?_, ?_⟩, fun i hi => absurd hi (Nat.not_lt_zero i), fun i hi => absurd hi (Nat.not_lt_zero i), ?_, ?_, ?_⟩⟩
  · unfold f_X8_clear
    rw [let_eq, let_eq, let_eq, show bl_R (bl_pI (bl_pI σ 4 0 0) 4 1 0) 4 4 = 7 from hR.2.2, ← q1]
  · rw [q1]
    exact ((((Kq.rf k47 σ).pI (by decide) _ _).pI (by decide) _ _).cS (by decide) _ _ _ _)
  · rw [q1, I_cS, if_neg (by omega), I_pI_ne (by decide), I_pI_self]; rfl
  · rw [q1, I_cS, if_neg (by omega), I_pI_self]; rfl
  · rw [q1, I_cS, if_pos (by decide)]; rfl
  · rw [q1, I_cS, if_pos (by decide)]; rfl
  · rw [q1, I_cS, if_pos (by decide)]; rfl
/-- the parse: a fault, or terms that are whole -/
theorem x_parse (hx : XI σ s) (ok : SOk s n) :
    (∀ f, prs (sb s) (sn s) 400 (nB (sb s) (sn s) 0) v0 = .inl f → ∃ σ1, f_X7_parse σ 1 = some (nI f, σ1) ∧ (Kq S7 σ σ1 ∧ bl_R σ1 = bl_R σ) ∧ f ≤ sn s) ∧
    (∀ v', prs (sb s) (sn s) 400 (nB (sb s) (sn s) 0) v0 = .inr v' → (whl v' → ∃ σ1, f_X7_parse σ 1 = some (-1, σ1) ∧ (Kq S7 σ σ1 ∧ bl_R σ1 = bl_R σ) ∧ TX σ1 4 v' ∧ POk v') ∧ (¬ whl v' → ∃ σ1, f_X7_parse σ 1 = some (nI (sn s), σ1) ∧ (Kq S7 σ σ1 ∧ bl_R σ1 = bl_R σ))) := by
  have hw := hx.1.2.1
  have h4 := ok.2.2.2.1
  have w : WX σ (sb s) (sn s) := ⟨hw.1, hx.2.2.2.2.2.2, h4, ok.2.2.2.2⟩
  obtain ⟨σa, ea, ka, ra, ta⟩ := x_clear8 σ hw.2
  have ka1 := (ka 1 (by decide)).1
  obtain ⟨σb, qb⟩ : ∃ z, z = bl_pI (bl_pI σa 1 4 0) 1 5 (-1) := ⟨_, rfl⟩
  have xb : XS σ σb (sn s) 0 (-1) := by
    refine ⟨?_, by rw [qb]; exact ra, ?_, ?_, ?_⟩
    · rw [qb]
      exact ((ka.mono (fun i hi => by unfold k47 at hi; unfold S7; omega)).pI (Or.inl rfl) _ _).pI (Or.inl rfl) _ _
    · rw [qb, I_pI_ne (by decide), I_pI_ne (by decide), ka1]
      exact hx.2.2.2.2.2.1
    · rw [qb, I_pI_ne (by decide), I_pI_self]; rfl
    · rw [qb, I_pI_self]
  have tb : TX σb 4 v0 := by
    rw [qb]
    exact ta.kq (((Kq.rf k1 σa).pI rfl _ _).pI rfl _ _) (fun i a b c => by unfold k1 at c; omega)
  obtain ⟨σc, ec, xc, kc⟩ := x_skipB w xb (Nat.zero_le _)
  have tc := tb.kq kc (fun i a b c => by unfold k1 at c; omega)
  obtain ⟨g1, g2⟩ := x_parse23 w 400 0 bl_fu σc (nB (sb s) (sn s) 0) v0 (by omega) (by unfold bl_fu; omega) (Nat.zero_le _) (rn_le (Nat.zero_le _)) xc tc v0_ok
  have e0 : f_X7_parse σ 1 = bl_fx (fun _ _ _ => none) (b_X7_parse_23) bl_fu σc 1 (nI 0) := by
    unfold f_X7_parse
    rw [hw.1.2.2, ea, bd_some, let_eq, let_eq, ← qb, ec, bd_some]
    rfl
  rw [e0]
  refine ⟨g1, fun v' h => ?_⟩
  obtain ⟨σd, p', ed, xd, td, pd⟩ := g2 v' h
  have rd : bl_R σd 1 2 = 4 := by rw [xd.2.1]; exact hw.1.2.2
  have e63 : b_X7_parse_63 σd 1 = if @ite Int32 (whl v') (Classical.propDecidable _) 1 0 = 0 then some (nI (sn s), bl_pI σd 1 5 (nI (sn s))) else some (-1, σd) := by
    unfold b_X7_parse_63
    rw [xd.2.2.2.2, if_pos rfl, x_isWhole td pd rd, bd_some, let_eq, xd.2.2.1, I_pI_self, xd.2.2.2.2]
  rw [ed, e63]
  refine ⟨fun z => ?_, fun z => ?_⟩
  · rw [if_pos z, if_neg (by decide)]
    exact ⟨σd, rfl, ⟨xd.1, xd.2.1⟩, td, pd⟩
  · rw [if_neg z, if_pos rfl]
    exact ⟨_, rfl, xd.1.pI (Or.inl rfl) _ _, xd.2.1⟩
abbrev s0T (s : st_V) : st_V := (s.1, s.2.1, (0, sb s))
abbrev s1T (s : st_V) (v : tm_V) : st_V := ((v, lZero), (0, sp s), (0, sb s))
/-- nothing but the tape and what was read differs -/
theorem XI.par {σ1 : bl_St} (h : XI σ s) (k : Kq S7 σ σ1) (hR : bl_R σ1 = bl_R σ) : XI (bl_pI σ1 1 3 0) (s0T s) := by
  have k2 : Kq S7 σ (bl_pI σ1 1 3 0) := k.pI (Or.inl rfl) _ _
  exact ⟨h.1.ko hR (fun d hd => by rw [(k2 125 (by decide)).2.1]; exact h.1.2.2.2.2.2.1.2 d hd), h.2.1.kq k2 (fun i a b c => by unfold S7 at c; omega), h.2.2.1.kq k2 (fun i a b c => by unfold S7 at c; omega), ⟨_, h.2.2.2.1.choose_spec.kq k2 (fun i a b c => by unfold S7 at c; omega)⟩, ⟨_, h.2.2.2.2.1.choose_spec.kq k2 (fun i a b c => by unfold S7 at c; omega) (fun i a b c => by unfold S7 at c; omega)⟩, I_pI_self _ _ _ _, fun i hi => absurd hi (Nat.not_lt_zero i)⟩
theorem x_textOk (hx : XI σ s) (ok : SOk s n) {v' : tm_V} {σ1 : bl_St} (e : f_X7_parse σ 1 = some (-1, σ1)) (k : Kq S7 σ σ1 ∧ bl_R σ1 = bl_R σ) (T : TX σ1 4 v') (tok : TOk v') : ∃ σ2, f_X9_text σ 0 = some (nI (tN v'), σ2) ∧ XI σ2 (s1T s v') := by
  have xa := hx.par k.1 k.2
  obtain ⟨σa, qa⟩ : ∃ z, z = bl_pI σ1 1 3 0 := ⟨_, rfl⟩
  rw [← qa] at xa
  have Ta : TX σa 4 v' := by rw [qa]; exact T.kq ((Kq.rf k1 σ1).pI rfl _ _) (fun i a b c => by unfold k1 at c; omega)
  have Ra : bl_R σa = bl_R σ := by rw [qa]; exact k.2
  obtain ⟨hw, hT, hL, ⟨nx, hP⟩, ⟨kn, hO⟩, hB⟩ := xa
  obtain ⟨σb, eb, kb, rb, tb⟩ := x_tcopy (d := 10) Ta tok ⟨hT.1.1, hT.1.2.1, hT.1.2.2⟩ (by decide)
  have wb := hw.kq kb (fun i hi => by omega)
  obtain ⟨σc, ec, kc, rc, lc⟩ := x_clear (σ := σb) (a := 18) (hL.kq kb (fun i a b c => by omega)).1
  have wc := wb.kq kc (fun i hi => by omega)
  have Pc : PX σc nx (sk s) (sp s) := (hP.kq kb (fun i a b c => by omega)).kq kc (fun i a b c => by omega)
  obtain ⟨σd, qd⟩ : ∃ z, z = bl_pI σc 24 3 0 := ⟨_, rfl⟩
  have kd : Kq (fun i => i = 24) σc σd := by rw [qd]; exact (Kq.rf (fun i => i = 24) σc).pI rfl _ _
  have wd := wc.kq kd (fun i hi => by omega)
  have td : TX σd 10 v' := (tb.kq kc (fun i a b c => by omega)).kq kd (fun i a b c => by omega)
  have ld : LX σd 18 lZero := lc.kq kd (fun i a b c => by omega)
  have Pd : PX σd nx 0 (sp s) := by
    refine ⟨?_, ⟨by rw [qd, I_pI_ne (by decide)]; exact Pc.2.1.1, by rw [qd, I_pI_self]; rfl⟩, ⟨Pc.2.2.1.1, by decide⟩, fun j hj => absurd hj (Nat.not_lt_zero j)⟩
    rw [qd]
    exact Pc.1
  have Od : OR σd 111 := ((hO.or.kq kb (fun i a b c => by omega)).kq kc (fun i a b c => by omega)).kq kd (fun i a b c => by omega)
  have Bd : TPx σd 0 (sb s) := ((hB.kq kb (by omega) (by omega)).kq kc (by omega) (by omega)).kq kd (by omega) (by omega)
  obtain ⟨σe, ee, ke, oe⟩ := x_look Od td true (by decide)
  have we := wd.kq ke (fun i hi => by omega)
  have te := td.kq ke (fun i a b c => by omega)
  refine ⟨σe, ?_, we, te, ld.kq ke (fun i a b c => by omega), ⟨nx, Pd.kq ke (fun i a b c => by omega)⟩, ⟨0, oe⟩, Bd.kq ke (by omega) (by omega)⟩
  unfold f_X9_text
  rw [hx.1.1.1.1, e, bd_some, k.2, hx.1.1.1.1, let_eq, ← qa, if_pos rfl, hw.1.1.1, hw.2.1.1.2.2, hw.1.1.2.2.1, eb, bd_some, wb.1.1.2.2.2.2.1, ec, bd_some, wc.1.1.2.2.2.2.2.2]
  unfold f_X6_forget
  rw [let_eq, ← qd, bd_some, wd.1.2.1, wd.1.1.2.2.1, show f_X4_look σd 111 10 1 = _ from ee, bd_some, we.1.1.2.2.1, te.2.1.1]
theorem x_textBad (hx : XI σ s) {f : Nat} (hf : f < 2 ^ 31) {σ1 : bl_St} (e : f_X7_parse σ 1 = some (nI f, σ1)) (k : Kq S7 σ σ1 ∧ bl_R σ1 = bl_R σ) : ∃ σ2, f_X9_text σ 0 = some (-4 - nI f, σ2) ∧ XI σ2 (s0T s) := by
  refine ⟨_, ?_, hx.par k.1 k.2⟩
  unfold f_X9_text
  rw [hx.1.1.1.1, e, bd_some, k.2, hx.1.1.1.1, let_eq, if_neg (m1_ne hf)]
/-! the reference's -/
theorem m_textRun (hm : MI τ s) (ok : SOk s n) : ∃ ρ, f_X10_text τ 139 = bl_fx (fun _ _ => none) (b_X10_text_26) bl_fu ρ 139 ∧ WM τ (sb s) (sn s) ∧ Mf τ ρ ∧ TKN ρ (sb s) (sn s) 0 3 ∧ bl_I ρ 139 27 = 0 ∧ RM ρ v0 := by
  have hw := hm.1.1
  have w : WM τ (sb s) (sn s) := ⟨⟨hw.1.1.2.1, hw.2.2.2.1⟩, hm.2.2.2.2.1, hm.2.2.2.2.2, ⟨ok.2.2.2.1, ok.2.2.2.2⟩, hm.wd⟩
  obtain ⟨τa, ea, ra, ja, ia, za⟩ := m_starts τ 141
  have ma : Mf τ τa := ⟨ra, ja, fun k _ => by rw [ia 139 (by decide)], fun i _ h => ia i h⟩
  obtain ⟨τb, qb⟩ : ∃ z, z = bl_pI (bl_pI (bl_pI τa 139 23 0) 139 24 3) 139 27 0 := ⟨_, rfl⟩
  have mb : Mf τ τb := by
    refine ⟨by rw [qb]; exact ra, by rw [qb]; exact ja, fun k hk => ?_, fun i h1 h2 => ?_⟩
    · rw [qb, I_pI_ne (by omega), I_pI_ne (by omega), I_pI_ne (by omega)]; exact ma.2.2.1 k hk
    · rw [qb, I_pI_o h1, I_pI_o h1, I_pI_o h1]; exact ma.2.2.2 i h1 h2
  have b141 : bl_I τb 141 = bl_I τa 141 := by rw [qb, I_pI_o (by decide), I_pI_o (by decide), I_pI_o (by decide)]
  have Rb : RM τb v0 := by
    refine ⟨⟨⟨?_, ?_⟩, ⟨?_, ?_, ?_⟩, fun i hi => absurd hi (Nat.not_lt_zero i), fun i hi => absurd hi (Nat.not_lt_zero i)⟩, fun j h1 h2 => ?_⟩
    · rw [b141, za 0 (by decide)]; rfl
    · rw [b141, za 1 (by decide)]; rfl
    · rw [b141, za 2 (by decide)]; rfl
    · rw [b141, za 3 (by decide)]; rfl
    · rw [b141, za 4 (by decide)]; rfl
    · rw [b141, za j h2, if_neg (by omega), if_neg (by omega)]
  obtain ⟨τc, ec, gc, tc⟩ := m_goesOn (p := 0) (was := 3) (w.mf mb) (by decide) (Nat.zero_le _) (by rw [qb, I_pI_ne (by decide), I_pI_ne (by decide), I_pI_self]; rfl) (by rw [qb, I_pI_ne (by decide), I_pI_self]; rfl)
  refine ⟨τc, ?_, w, mb.tr gc.mf, tc, by rw [gc.2.2.1 27 (by decide) (by decide) (by decide) (by decide), qb, I_pI_self], Rb.e (gc.2.2.2 141 (by decide))⟩
  unfold f_X10_text
  rw [hw.1.1.2.1, ea, bd_some, let_eq, let_eq, let_eq, ← qb, ec, bd_some]
theorem MI.rd {τ1 : bl_St} (h : MI τ s) (hR : bl_R τ1 = bl_R τ) (h140 : bl_I τ1 140 = bl_I τ 140) (h143 : bl_I τ1 143 = bl_I τ 143) (h153 : bl_I τ1 153 = bl_I τ 153) (h5 : bl_I τ1 139 5 = bl_I τ 139 5) (h21 : bl_I τ1 139 21 = 0) : MI τ1 (s0T s) := by
  obtain ⟨⟨hw, hd⟩, hT, hL, ⟨g5, hP⟩, -, -⟩ := h
  refine ⟨⟨by unfold MW; rw [hR]; exact hw, by rw [h153]; exact hd⟩, by unfold TM at *; rw [h140]; exact hT, by unfold LM at *; rw [h140]; exact hL, ⟨by rw [h5]; exact g5, hP.1, fun j hj => ?_⟩, h21, fun i hi => absurd hi (Nat.not_lt_zero i)⟩
  have q := hP.2 j hj
  unfold TM LM at *
  rw [h143]
  exact q
theorem m_textBad (hm : MI τ s) {f : Nat} {ρ : bl_St} (M : Mf τ ρ) (h27 : bl_I ρ 139 27 = 1) (h25 : bl_I ρ 139 25 = nI f) : ∃ τ1, b_X10_text_58 ρ 139 = some (-4 - nI f, τ1) ∧ MI τ1 (s0T s) := by
  refine ⟨bl_pI ρ 139 21 0, ?_, hm.rd M.1 (by rw [I_pI_o (by decide)]; exact M.2.2.2 140 (by decide) (by decide)) (by rw [I_pI_o (by decide)]; exact M.2.2.2 143 (by decide) (by decide)) (by rw [I_pI_o (by decide)]; exact M.2.2.2 153 (by decide) (by decide)) (by rw [I_pI_ne (by decide)]; exact M.2.2.1 5 (by decide)) (I_pI_self _ _ _ _)⟩
  unfold b_X10_text_58
  rw [let_eq, I_pI_ne (by decide), h27, if_neg (by decide), I_pI_ne (by decide), h25]
theorem m_textOk (hm : MI τ s) {v' : tm_V} {ρ : bl_St} (M : Mf τ ρ) (h27 : bl_I ρ 139 27 = 0) (R : RM ρ v') (tok : TOk v') : ∃ τ1, b_X10_text_58 ρ 139 = some (nI (tN v'), τ1) ∧ MI τ1 (s1T s v') := by
  obtain ⟨ρa, qa⟩ : ∃ z, z = bl_pI ρ 139 21 0 := ⟨_, rfl⟩
  have Ra : bl_R ρa = bl_R τ := by rw [qa]; exact M.1
  have a141 : bl_I ρa 141 = bl_I ρ 141 := by rw [qa, I_pI_o (by decide)]
  obtain ⟨ρb, eb, rb, jb, ib, cb⟩ := m_copies (σ := ρa) (a := 141) (b := 140) (by decide)
  obtain ⟨τ1, q1⟩ : ∃ z, z = bl_pI ρb 139 5 0 := ⟨_, rfl⟩
  have R1 : bl_R τ1 = bl_R τ := by rw [q1]; exact rb.trans Ra
  have i140 : ∀ j, j < 167 → bl_I τ1 140 j = bl_I ρ 141 j := fun j hj => by rw [q1, I_pI_o (by decide), cb j hj, a141]
  have io : ∀ i, i ≠ 139 → i ≠ 140 → i ≠ 141 → bl_I τ1 i = bl_I τ i := fun i h1 h2 h3 => by rw [q1, I_pI_o h1, ib i h2, qa, I_pI_o h1]; exact M.2.2.2 i h1 h3
  have T1 : TM τ1 140 0 v' := R.1.cp tok (fun j hj => by rw [Nat.zero_add]; exact i140 j hj)
  refine ⟨τ1, ?_, ⟨⟨by unfold MW; rw [R1]; exact hm.1.1, by rw [io 153 (by decide) (by decide) (by decide)]; exact hm.1.2⟩, T1, LM.zero (fun j h1 h2 => by rw [Nat.zero_add, i140 j h2]; exact R.2 j h1 h2), ⟨by rw [q1, I_pI_self]; rfl, Nat.zero_le _, fun j hj => absurd hj (Nat.not_lt_zero j)⟩, ?_, fun i hi => absurd hi (Nat.not_lt_zero i)⟩⟩
  · unfold b_X10_text_58
    rw [let_eq, ← qa, show bl_I ρa 139 27 = 0 by rw [qa, I_pI_ne (by decide)]; exact h27, if_pos rfl, Ra, hm.1.1.1.1.2.1, hm.1.1.1.1.1, eb, bd_some, let_eq, ← q1, R1, hm.1.1.1.1.1, T1.1.1]
  · show bl_I τ1 139 21 = nI 0
    rw [q1, I_pI_ne (by decide), ib 139 (by decide), qa, I_pI_self]
    rfl
theorem op_text (ok : SOk s n) : Both n s (fun σ => f_X9_text σ 0) (fun τ => f_X10_text τ 139) := by
  have h4 := ok.2.2.2.1
  have ok0 : SOk (s0T s) (n + 1) := ⟨ok.up.1, ok.up.2.1, ok.up.2.2.1, Nat.zero_le _, fun i hi => absurd hi (Nat.not_lt_zero i)⟩
  have model : ∀ τ, MI τ s → (∀ f, prs (sb s) (sn s) 400 (nB (sb s) (sn s) 0) v0 = .inl f → ∃ τ1, f_X10_text τ 139 = some (-4 - nI f, τ1) ∧ MI τ1 (s0T s)) ∧ (∀ v', prs (sb s) (sn s) 400 (nB (sb s) (sn s) 0) v0 = .inr v' → (whl v' → ∃ τ1, f_X10_text τ 139 = some (nI (tN v'), τ1) ∧ MI τ1 (s1T s v')) ∧ (¬ whl v' → ∃ τ1, f_X10_text τ 139 = some (-4 - nI (sn s), τ1) ∧ MI τ1 (s0T s))) := by
    intro τ hm
    obtain ⟨ρ, e0, w, M, T, h27, R⟩ := m_textRun hm ok
    obtain ⟨g1, g2⟩ := m_text26 w 400 bl_fu ρ 0 v0 (by unfold bl_fu; omega) (by omega) (Nat.zero_le _) M T h27 R v0_ok
    rw [e0]
    refine ⟨fun f h => ?_, fun v' h => ?_⟩
    · obtain ⟨τa, ea, ma, i27, i25⟩ := g1 f h
      obtain ⟨τ1, e1, m1⟩ := m_textBad hm ma i27 i25
      refine ⟨τ1, ?_, m1⟩
      rw [ea]
      unfold b_X10_text_47
      rw [i27, if_neg (by decide), e1]
    · obtain ⟨τa, ea, ma, i27, i25, ra, pa⟩ := g2 v' h
      obtain ⟨τb, x, eb, lb, ib, hx, qx⟩ := m_over ra pa (by rw [ma.1]; exact w.1.1)
      have e47 : b_X10_text_47 τa 139 = b_X10_text_58 τb 139 := by
        unfold b_X10_text_47
        rw [i27, if_pos rfl, eb, bd_some]
      rw [ea, e47]
      refine ⟨fun z => ?_, fun z => ?_⟩
      · have x0 := qx.mpr z
        exact m_textOk hm (ma.tr lb.mf) (by rw [ib, x0]; rfl) (ra.e (lb.2.2.2 141 (by decide))) (pa.tok z)
      · have x1 : x = 1 := by
          have : x ≠ 0 := fun q => z (qx.mp q)
          omega
        exact m_textBad hm (ma.tr lb.mf) (by rw [ib, x1]; rfl) (by rw [lb.2.2.1 25 (by decide)]; exact i25)
  cases hp : prs (sb s) (sn s) 400 (nB (sb s) (sn s) 0) v0 with
  | inl f =>
    have hx0 : ∀ σ, XI σ s → ∃ σ2, f_X9_text σ 0 = some (-4 - nI f, σ2) ∧ XI σ2 (s0T s) := fun σ hx => by
      obtain ⟨σ1, e1, k1, hf⟩ := (x_parse hx ok).1 f hp
      exact x_textBad hx (by omega) e1 k1
    exact Both.to _ (s0T s) ok0 hx0 (fun τ hm => (model τ hm).1 f hp)
  | inr v' =>
    rcases Classical.em (whl v') with z | z
    · intro σ τ hx hm
      obtain ⟨σ1, e1, k1, t1, p1⟩ := ((x_parse hx ok).2 v' hp).1 z
      obtain ⟨σ2, e2, x2⟩ := x_textOk hx ok e1 k1 t1 (p1.tok z)
      obtain ⟨τ2, e3, m2⟩ := ((model τ hm).2 v' hp).1 z
      exact ⟨_, s1T s v', σ2, τ2, e2, e3, x2, m2, p1.tok z, lOk_zero _ _, ⟨Nat.zero_le _, fun j hj => absurd hj (Nat.not_lt_zero j)⟩, Nat.zero_le _, fun i hi => absurd hi (Nat.not_lt_zero i)⟩
    · have hx0 : ∀ σ, XI σ s → ∃ σ2, f_X9_text σ 0 = some (-4 - nI (sn s), σ2) ∧ XI σ2 (s0T s) := fun σ hx => by
        obtain ⟨σ1, e1, k1⟩ := ((x_parse hx ok).2 v' hp).2 z
        exact x_textBad hx (by omega) e1 k1
      exact Both.to _ (s0T s) ok0 hx0 (fun τ hm => ((model τ hm).2 v' hp).2 z)
end OPT
