/-! ===== text ===== -/
def whl (v : tm_V) : Prop := (tN v ≠ 0 ∧ tK v ≠ 0) ∧ ∀ c k, c < tN v → k < 3 → tC v (5 * c + 1 + k) < tN v
theorem POk.tok {v : tm_V} (P : POk v) (h : whl v) : TOk v :=
  ⟨⟨P.1.1, P.1.2, by have := h.1; omega⟩, fun c hc => ⟨(P.2.1 c hc).1, fun j hj => h.2 c j hc hj, (P.2.1 c hc).2.2⟩, P.2.2.1, P.2.2.2.1, P.2.2.2.2.1, P.2.2.2.2.2⟩
noncomputable def prs (b : Nat → Nat) (ln : Nat) : Nat → Nat → tm_V → Sum Nat tm_V
  | 0, _, v => .inr v
  | r + 1, p, v => if ln ≤ p then .inr v else (match phr b ln p v with | .inl f => .inl f | .inr z => prs b ln r (nB b ln z.1) z.2)
theorem prs_0 (b : Nat → Nat) (ln p : Nat) (v : tm_V) : prs b ln 0 p v = .inr v := by rw [prs]
theorem prs_e {b : Nat → Nat} {ln r p : Nat} {v : tm_V} (h : ln ≤ p) : prs b ln (r + 1) p v = .inr v := by rw [prs, if_pos h]
theorem prs_f {b : Nat → Nat} {ln r p f : Nat} {v : tm_V} (h : ¬ ln ≤ p) (h2 : phr b ln p v = .inl f) : prs b ln (r + 1) p v = .inl f := by rw [prs, if_neg h, h2]
theorem prs_n {b : Nat → Nat} {ln r p q : Nat} {v v' : tm_V} (h : ¬ ln ≤ p) (h2 : phr b ln p v = .inr (q, v')) : prs b ln (r + 1) p v = prs b ln r (nB b ln q) v' := by rw [prs, if_neg h, h2]
def v0 : tm_V := ((0, 0), (fun _ => 0), (fun _ => 0), (2, 3, 0))
theorem v0_ok : POk v0 := ⟨⟨by decide, by decide⟩, fun c hc => absurd hc (Nat.not_lt_zero c), fun c hc => absurd hc (Nat.not_lt_zero c), ⟨by decide, by decide⟩, by decide, by decide⟩
section TXX
variable {σ0 σ : bl_St} {b : Nat → Nat} {ln p : Nat} {v : tm_V}
theorem x_nextP (h : TX σ 4 v) (h8 : tN v ≤ 8) {c k : Nat} (hc : c < tN v) (hk : k < 3) : f_X8_next σ 4 (nI c) (nI k) = some (nI (tC v (5 * c + 1 + k)), σ) := by
  unfold f_X8_next
  rw [nI_lit 5, nI_lit 1, nI_lit 2, nI_min2 (by omega), nI_mul, nI_add, nI_add, Nat.min_eq_right (by omega), in_nI (by omega) (by omega), gd_true, h.1.1, nI_clamp (by omega), Nat.mul_comm c 5, h.2.2.1 _ (by omega)]
theorem x_hasP (h : TX σ 4 v) (h8 : tN v ≤ 8) {c : Nat} (hc : c < 2 ^ 31) : f_X8_hasClass σ 4 (nI c) = some (if c < tN v then 1 else 0, σ) := by
  unfold f_X8_hasClass
  rw [h.2.1.1, if_neg (nI_pos hc)]
  by_cases q : c < tN v
  · rw [if_neg (nI_ge q (by omega)), if_pos q]
  · rw [if_pos (nI_le (by omega) hc), if_neg q]
theorem x_isWhole (h : TX σ 4 v) (P : POk v) (hR : bl_R σ 1 2 = 4) : f_X7_isWhole σ 1 = some (@ite _ (whl v) (Classical.propDecidable _) 1 0, σ) := by
  have h8 := P.1.1
  have l37 : ∀ (c : Nat), c < tN v → ∀ (k24 : bl_St → Nat → Int32 → Option (Int32 × bl_St)) (r k m : Nat), k + r = 3 → r < m → ((∀ j, k ≤ j → j < 3 → tC v (5 * c + 1 + j) < tN v) → bl_fx (fun _ _ _ _ => none) (b_X7_isWhole_37 k24) m σ 1 (nI c) (nI k) = k24 σ 1 (nI (c + 1))) ∧ (¬ (∀ j, k ≤ j → j < 3 → tC v (5 * c + 1 + j) < tN v) → bl_fx (fun _ _ _ _ => none) (b_X7_isWhole_37 k24) m σ 1 (nI c) (nI k) = some (0, σ)) := by
    intro c hc k24 r
    induction r with
    | zero =>
      intro k m hk hm
      obtain ⟨m, rfl⟩ : ∃ z, m = z + 1 := ⟨m - 1, by omega⟩
      refine ⟨fun _ => ?_, fun z => absurd (fun j h1 h2 => by omega) z⟩
      rw [fx_succ, show k = 3 by omega]
      show (if (3 : Int32) ≤ nI 3 then _ else _) = _
      rw [if_pos (by decide), let_eq, nI_1]
    | succ r ih =>
      intro k m hk hm
      obtain ⟨m, rfl⟩ : ∃ z, m = z + 1 := ⟨m - 1, by omega⟩
      have hx := (P.2.1 c hc).2.1 k (by omega)
      have e0 : bl_fx (fun _ _ _ _ => none) (b_X7_isWhole_37 k24) (m + 1) σ 1 (nI c) (nI k) = if tC v (5 * c + 1 + k) < tN v then bl_fx (fun _ _ _ _ => none) (b_X7_isWhole_37 k24) m σ 1 (nI c) (nI (k + 1)) else some (0, σ) := by
        rw [fx_succ]
        show (if (3 : Int32) ≤ nI k then _ else _) = _
        rw [if_neg (show ¬ (3 : Int32) ≤ nI k from nI_ge (b := 3) (by omega) (by decide)), hR, x_nextP h h8 hc (by omega), bd_some, x_hasP h h8 (by omega), bd_some]
        by_cases q : tC v (5 * c + 1 + k) < tN v
        · rw [if_pos q, if_neg (by decide), let_eq, nI_1, if_pos q]
        · rw [if_neg q, if_pos rfl, if_neg q]
      rw [e0]
      obtain ⟨i1, i2⟩ := ih (k + 1) m (by omega) (by omega)
      by_cases q : tC v (5 * c + 1 + k) < tN v
      · rw [if_pos q]
        refine ⟨fun z => i1 (fun j h1 h2 => z j (by omega) h2), fun z => i2 (fun z2 => z (fun j h1 h2 => ?_))⟩
        by_cases he : j = k
        · rw [he]; exact q
        · exact z2 j (by omega) h2
      · rw [if_neg q]
        exact ⟨fun z => absurd (z k (Nat.le_refl _) (by omega)) q, fun _ => rfl⟩
  have l24 : ∀ (r c m : Nat), c + r = tN v → r < m → bl_fx (fun _ _ _ => none) (b_X7_isWhole_24) m σ 1 (nI c) = some (@ite _ (∀ a k, c ≤ a → a < tN v → k < 3 → tC v (5 * a + 1 + k) < tN v) (Classical.propDecidable _) 1 0, σ) := by
    intro r
    induction r with
    | zero =>
      intro c m hc hm
      obtain ⟨m, rfl⟩ : ∃ z, m = z + 1 := ⟨m - 1, by omega⟩
      rw [fx_succ]
      unfold b_X7_isWhole_24
      rw [hR, h.2.1.1, if_pos (nI_le (by omega) (by omega)), if_pos (fun a k h1 h2 _ => by omega)]
    | succ r ih =>
      intro c m hc hm
      obtain ⟨m, rfl⟩ : ∃ z, m = z + 1 := ⟨m - 1, by omega⟩
      obtain ⟨g1, g2⟩ := l37 c (by omega) (bl_fx (fun _ _ _ => none) (b_X7_isWhole_24) m) 3 0 bl_fu (by omega) (by unfold bl_fu; omega)
      rw [fx_succ]
      show (if bl_I σ (bl_R σ 1 2) 0 ≤ nI c then _ else _) = _
      rw [hR, h.2.1.1, if_neg (nI_ge (by omega) (by omega))]
      rcases Classical.em (∀ j, 0 ≤ j → j < 3 → tC v (5 * c + 1 + j) < tN v) with q | q
      · refine (g1 q).trans ((ih (c + 1) m (by omega) (by omega)).trans ?_)
        congr 2
        rcases Classical.em (∀ a k, c + 1 ≤ a → a < tN v → k < 3 → tC v (5 * a + 1 + k) < tN v) with z | z
        · rw [if_pos z, if_pos (fun a k h1 h2 h3 => by
            by_cases he : a = c
            · rw [he]; exact q k (Nat.zero_le _) h3
            · exact z a k (by omega) h2 h3)]
        · rw [if_neg z, if_neg (fun z2 => z (fun a k h1 h2 h3 => z2 a k (by omega) h2 h3))]
      · rw [if_neg (fun z => q (fun j _ h2 => z c j (Nat.le_refl _) (by omega) h2))]
        exact g2 q
  unfold f_X7_isWhole
  rw [hR, h.2.1.1, h.2.1.2]
  by_cases q1 : tN v = 0
  · rw [if_pos (show nI (tN v) = 0 by rw [q1]; rfl), if_neg (fun z => z.1.1 q1)]
  rw [if_neg (nI_ne0 (by omega) (by omega))]
  have h5 := P.1.2
  by_cases q2 : tK v = 0
  · rw [if_pos (show nI (tK v) = 0 by rw [q2]; rfl), if_neg (fun z => z.1.2 q2)]
  rw [if_neg (nI_ne0 (by omega) (by omega))]
  refine (l24 (tN v) 0 bl_fu (by omega) (by unfold bl_fu; omega)).trans ?_
  congr 2
  rcases Classical.em (whl v) with z | z
  · rw [if_pos z, if_pos (fun a k _ h2 h3 => z.2 a k h2 h3)]
  · rw [if_neg z, if_neg (fun z2 => z ⟨⟨q1, q2⟩, fun a k h2 h3 => z2 a k (Nat.zero_le _) h2 h3⟩)]
/-- all phrases -/
theorem x_parse23 (w : WX σ0 b ln) : ∀ (r i m : Nat) (σ : bl_St) (p : Nat) (v : tm_V), i + r = 400 → r + 1 < m → i ≤ p → p ≤ ln → XS σ0 σ ln p (-1) → TX σ 4 v → POk v →
    (∀ f, prs b ln r p v = .inl f → ∃ σ1, bl_fx (fun _ _ _ => none) (b_X7_parse_23) m σ 1 (nI i) = some (nI f, σ1) ∧ (Kq S7 σ0 σ1 ∧ bl_R σ1 = bl_R σ0) ∧ f ≤ ln) ∧
    (∀ v', prs b ln r p v = .inr v' → ∃ σ1 p', bl_fx (fun _ _ _ => none) (b_X7_parse_23) m σ 1 (nI i) = b_X7_parse_63 σ1 1 ∧ XS σ0 σ1 ln p' (-1) ∧ TX σ1 4 v' ∧ POk v') := by
  have h4 := w.2.2.1
  intro r
  induction r with
  | zero =>
    intro i m σ p v hi hm hip hp h T P
    obtain ⟨m, rfl⟩ : ∃ z, m = z + 1 := ⟨m - 1, by omega⟩
    refine ⟨fun f z => (by rw [prs_0] at z; cases z), fun v' z => ?_⟩
    rw [prs_0] at z
    have z := Sum.inr.inj z
    rw [← z]
    refine ⟨σ, p, ?_, h, T, P⟩
    rw [fx_succ, show i = 400 by omega]
    show (if (400 : Int32) ≤ nI 400 then _ else _) = _
    rw [if_pos (by decide)]
  | succ r ih =>
    intro i m σ p v hi hm hip hp h T P
    obtain ⟨m, rfl⟩ : ∃ z, m = z + 1 := ⟨m - 1, by omega⟩
    by_cases hlp : ln ≤ p
    · rw [prs_e hlp]
      refine ⟨fun f z => (by cases z), fun v' z => ?_⟩
      have z := Sum.inr.inj z
      rw [← z]
      refine ⟨σ, p, ?_, h, T, P⟩
      rw [fx_succ]
      show (if (400 : Int32) ≤ nI i then _ else _) = _
      rw [if_neg (show ¬ (400 : Int32) ≤ nI i from nI_ge (b := 400) (by omega) (by decide)), h.2.2.1, h.2.2.2.1, if_pos (nI_le hlp (by omega))]
    · obtain ⟨g1, g2⟩ := x_phrase w h hp T P
      have e0 : bl_fx (fun _ _ _ => none) (b_X7_parse_23) (m + 1) σ 1 (nI i) = bl_bd (f_X7_readPhrase σ 1) fun _ σ12 => bl_bd (f_X7_skipBlanks σ12 1) fun _ σ15 => bl_fx (fun _ _ _ => none) (b_X7_parse_23) m σ15 1 (nI (i + 1)) := by
        rw [fx_succ]
        show (if (400 : Int32) ≤ nI i then _ else _) = _
        rw [if_neg (show ¬ (400 : Int32) ≤ nI i from nI_ge (b := 400) (by omega) (by decide)), h.2.2.1, h.2.2.2.1, if_neg (nI_ge (by omega) (by omega)), h.2.2.2.2, if_pos rfl, ← nI_1]
        rfl
      rw [e0]
      cases hph : phr b ln p v with
      | inl f0 =>
        rw [prs_f hlp hph]
        obtain ⟨σa, q, ea, xa, hq⟩ := g1 f0 hph
        obtain ⟨σb, eb, xb, kb⟩ := x_skipB w xa hq
        refine ⟨fun f z => ?_, fun v' z => (by cases z)⟩
        have z := Sum.inl.inj z
        rw [← z, ea, bd_some, eb, bd_some]
        have hf : f0 ≤ ln := by
          have hge : p ≤ rn b ln isL p := rn_ge _ _ _ _
          have hle : rn b ln isL p ≤ ln := rn_le hp
          by_cases c1 : kd b p (rn b ln isL p) = 5
          · rw [phr_bad5 c1] at hph; have := Sum.inl.inj hph; omega
          rcases Classical.em (full (kd b p (rn b ln isL p)) v) with c2 | c2
          · rw [phr_full c1 c2] at hph; have := Sum.inl.inj hph; omega
          cases h3 : nrun b ln (pLo (kd b p (rn b ln isL p))) (pHi (kd b p (rn b ln isL p))) (pAm (kd b p (rn b ln isL p))) 0 (rn b ln isL p) with
          | inl f1 =>
            rw [phr_num c1 c2 h3] at hph
            have e1 := Sum.inl.inj hph
            rw [← e1]
            have nl : ∀ (lo : Nat) (hi : Nat → Nat) (r i : Nat) (g : Nat), nrun b ln lo hi r i (qI b ln (rn b ln isL p) i) = .inl g → g ≤ ln := by
              intro lo hi r
              induction r with
              | zero => intro i g hg; rw [nrun_0] at hg; cases hg
              | succ r ih2 =>
                intro i g hg
                rw [nrun_1] at hg
                by_cases c : nOk b ln (qI b ln (rn b ln isL p) i) lo (hi i)
                · rw [if_pos c] at hg
                  exact ih2 (i + 1) g hg
                · rw [if_neg c] at hg
                  have := Sum.inl.inj hg
                  rw [← this]
                  exact rn_le (qI_le hle i)
            exact nl _ _ _ 0 f1 h3
          | inr z0 =>
            rw [phr_end c1 c2 h3] at hph
            have hz0 : z0 ≤ ln := by
              rw [(nrun_ok (e := rn b ln isL p) _ 0 z0 h3).1]
              exact qI_le hle _
            by_cases c4 : nB b ln z0 < ln ∧ b (nB b ln z0) = 59
            · rw [if_pos c4] at hph; cases hph
            · rw [if_neg c4] at hph
              have := Sum.inl.inj hph
              rw [← this]
              exact rn_le hz0
        refine ⟨σb, ?_, ⟨xb.1, xb.2.1⟩, hf⟩
        obtain ⟨m, rfl⟩ : ∃ z, m = z + 1 := ⟨m - 1, by omega⟩
        have e63 : b_X7_parse_63 σb 1 = some (nI f0, σb) := by
          unfold b_X7_parse_63
          rw [xb.2.2.2.2, if_neg (m1_ne (by omega))]
        rw [fx_succ]
        unfold b_X7_parse_23
        rw [e63, xb.2.2.2.2, if_neg (m1_ne (show f0 < 2 ^ 31 by omega))]
        split
        · rfl
        · split <;> rfl
      | inr zz =>
        obtain ⟨q, v1⟩ := zz
        rw [prs_n hlp hph]
        obtain ⟨hpq, hq, P1⟩ := phr_go hp P hph
        obtain ⟨σa, ea, xa, Ta⟩ := g2 q v1 hph
        obtain ⟨σb, eb, xb, kb⟩ := x_skipB w xa hq
        have hge : q ≤ nB b ln q := rn_ge _ _ _ _
        rw [ea, bd_some, eb, bd_some]
        exact ih (i + 1) m σb (nB b ln q) v1 (by omega) (by omega) (by omega) (rn_le hq) xb (Ta.kq kb (fun i a b c => by unfold k1 at c; omega)) P1
end TXX
