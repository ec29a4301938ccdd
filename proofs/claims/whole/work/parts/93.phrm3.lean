section PHO
variable {τ : bl_St} {b : Nat → Nat} {ln p q : Nat} {v : tm_V}
theorem RM.rul (h : RM τ v) {k : Nat} (hk : k < 3) (y : Nat) : RM (bl_pI τ 141 (2 + k) (nI y)) (vRule v k y) := by
  obtain ⟨⟨⟨a0, a1⟩, ⟨b0, b1, b2⟩, c1, c2⟩, c3⟩ := h
  refine ⟨⟨⟨by rw [I_pI_ne (by omega)]; exact a0, by rw [I_pI_ne (by omega)]; exact a1⟩, ?_, fun j hj => by rw [I_pI_ne (by omega)]; exact c1 j hj, fun j hj => by rw [I_pI_ne (by omega)]; exact c2 j hj⟩, fun j h1 h2 => by rw [I_pI_ne (by omega)]; exact c3 j h1 h2⟩
  simp only [Nat.zero_add] at b0 b1 b2
  rcases (show k = 0 ∨ k = 1 ∨ k = 2 by omega) with rfl | rfl | rfl <;> simp [I_pI, vRule, b0, b1, b2]
abbrev gdM (τ : bl_St) (b : Nat → Nat) (ln : Nat) (z : Nat) (v' : tm_V) (o : Option (Unit × bl_St)) : Prop := ∃ τ1, o = some ((), τ1) ∧ Mf τ τ1 ∧ bl_I τ1 139 27 = 0 ∧ TKN τ1 b ln z 3 ∧ RM τ1 v'
theorem m_tail (w : WM τ b ln) {ρ : bl_St} {V : tm_V} {z : Nat} (M : Mf τ ρ) (h27 : bl_I ρ 139 27 = 0) (T : TKN ρ b ln z 2) (hz : z ≤ ln) (R : RM ρ V) : (∀ f, (if nB b ln z < ln ∧ b (nB b ln z) = 59 then (Sum.inr (nB b ln z + 1, V) : Sum Nat (Nat × tm_V)) else .inl (nB b ln z)) = .inl f → bdM τ f (b_X10_readsOne_113 ρ 139)) ∧ (∀ z' v', (if nB b ln z < ln ∧ b (nB b ln z) = 59 then (Sum.inr (nB b ln z + 1, V) : Sum Nat (Nat × tm_V)) else .inl (nB b ln z)) = .inr (z', v') → gdM τ b ln z' v' (b_X10_readsOne_113 ρ 139)) := by
  obtain ⟨g1, g2⟩ := m_113 (w.mf M) T h27 hz
  by_cases c : nB b ln z < ln ∧ b (nB b ln z) = 59
  · rw [if_pos c]
    obtain ⟨τ1, e1, ga, ta⟩ := g1 c
    refine ⟨fun f h => (by cases h), fun z' v' h => ?_⟩
    have h := Sum.inr.inj h
    have h1 : nB b ln z + 1 = z' := congrArg Prod.fst h
    have h2 : V = v' := congrArg Prod.snd h
    rw [← h1, ← h2]
    exact ⟨τ1, e1, M.tr ga.mf, by rw [ga.2.2.1 27 (by decide) (by decide) (by decide) (by decide)]; exact h27, ta, R.e (ga.2.2.2 141 (by decide))⟩
  · rw [if_neg c]
    refine ⟨fun f h => ?_, fun z' v' h => (by cases h)⟩
    have h := Sum.inl.inj h
    rw [← h]
    exact ⟨_, g2 c, M.w 1, I_pI_self _ _ _ _, by rw [I_pI_ne (by decide)]; exact T.1⟩
theorem m_badtail {f : Nat} {ρ : bl_St} (M : Mf τ ρ) (h27 : bl_I ρ 139 27 = 1) (h25 : bl_I ρ 139 25 = nI f) : bdM τ f (b_X10_readsOne_113 ρ 139) := ⟨ρ, m_113w h27, M, h27, h25⟩
/-- one number of a rule -/
theorem m_rul (w : WM τ b ln) {ρ : bl_St} {k en : Nat} (M : Mf τ ρ) (T : TKN ρ b ln en 1) (h27 : bl_I ρ 139 27 = 0) (hen : en ≤ ln) (R : RM ρ v) (hk : k < 3) :
    (∀ f, nrun b ln (pLo (2 + k)) (pHi (2 + k)) 1 0 en = .inl f → ∃ ρ1, f_X10_needsNumber ρ 139 (nI (pLo (2 + k))) (nI (pHi (2 + k) 0)) = some (nI (pLo (2 + k)), ρ1) ∧ bdM τ f (b_X10_readsOne_113 (bl_pI ρ1 141 (2 + k) (nI (pLo (2 + k)))) 139)) ∧
    (∀ z, nrun b ln (pLo (2 + k)) (pHi (2 + k)) 1 0 en = .inr z → ∃ ρ1, f_X10_needsNumber ρ 139 (nI (pLo (2 + k))) (nI (pHi (2 + k) 0)) = some (nI (nV b ln en), ρ1) ∧ Mf τ (bl_pI ρ1 141 (2 + k) (nI (nV b ln en))) ∧ bl_I (bl_pI ρ1 141 (2 + k) (nI (nV b ln en))) 139 27 = 0 ∧ TKN (bl_pI ρ1 141 (2 + k) (nI (nV b ln en))) b ln z 2 ∧ RM (bl_pI ρ1 141 (2 + k) (nI (nV b ln en))) (takeV (2 + k) v (fun i => nV b ln (qI b ln en i)))) := by
  obtain ⟨g1, g2⟩ := m_needs (w.mf M) (Or.inl rfl) T h27 hen (lo := pLo (2 + k)) (hi := pHi (2 + k) 0) (by have := pLo_le (2 + k); omega) (pHi_le _ _)
  rw [nrun_1]
  by_cases c : nOk b ln en (pLo (2 + k)) (pHi (2 + k) 0)
  · rw [if_pos c]
    obtain ⟨ρ1, e1, ga, ta⟩ := g1 c
    refine ⟨fun f h => (by rw [nrun_0] at h; cases h), fun z h => ?_⟩
    rw [nrun_0] at h
    have h := Sum.inr.inj h
    rw [← h]
    refine ⟨ρ1, e1, (M.tr ga.mf).r _ _, by rw [I_pI_o (by decide), ga.2.2.1 27 (by decide) (by decide) (by decide) (by decide)]; exact h27, ta.r _ _, ?_⟩
    unfold takeV
    rw [if_neg (by omega), if_neg (by omega), show 2 + k - 2 = k by omega]
    exact (R.e (ga.2.2.2 141 (by decide))).rul hk (nV b ln en)
  · rw [if_neg c]
    refine ⟨fun f h => ?_, fun z h => (by cases h)⟩
    have h := Sum.inl.inj h
    rw [← h]
    exact ⟨_, g2 c, m_badtail ((M.w 1).r _ _) (by rw [I_pI_o (by decide), I_pI_self]) (by rw [I_pI_o (by decide), I_pI_ne (by decide)]; exact T.1)⟩
/-- readsOne -/
theorem m_phrase (w : WM τ b ln) (T : TKN τ b ln q 3) (h27 : bl_I τ 139 27 = 0) (hq : nB b ln q = p) (hp : p < ln) (R : RM τ v) (P : POk v) : (∀ f, phr b ln p v = .inl f → bdM τ f (f_X10_readsOne τ 139)) ∧ (∀ z v', phr b ln p v = .inr (z, v') → gdM τ b ln z v' (f_X10_readsOne τ 139)) := by
  have p1 := P.1
  have hge : p ≤ rn b ln isL p := rn_ge _ _ _ _
  have hle : rn b ln isL p ≤ ln := rn_le (by omega)
  have h25 := T.1
  rw [hq] at h25
  have tk : ∀ j, j < 5 → _ := fun j hj => m_takes w T h27 hq hp (j := j) hj
  have h0 := R.1.1.1
  have h1 := R.1.1.2
  rw [Nat.zero_add] at h1
  obtain ⟨E, hE⟩ : ∃ E, rn b ln isL p = E := ⟨_, rfl⟩
  obtain ⟨K, hK⟩ : ∃ K, kd b p E = K := ⟨_, rfl⟩
  have hKE : kd b p (rn b ln isL p) = K := by rw [hE]; exact hK
  -- what the phrase is, by its kind
  have pin : K ≠ 5 → ¬ full K v → (∀ f, nrun b ln (pLo K) (pHi K) (pAm K) 0 E = .inl f → phr b ln p v = .inl f) ∧ (∀ z, nrun b ln (pLo K) (pHi K) (pAm K) 0 E = .inr z → phr b ln p v = if nB b ln z < ln ∧ b (nB b ln z) = 59 then .inr (nB b ln z + 1, takeV K v (fun i => nV b ln (qI b ln E i))) else .inl (nB b ln z)) := fun h5 hf => by
    refine ⟨fun f h => phr_num (by rw [hKE]; exact h5) (by rw [hKE]; exact hf) (by rw [hKE, hE]; exact h), fun z h => ?_⟩
    have := phr_end (b := b) (ln := ln) (p := p) (v := v) (q := z) (by rw [hKE]; exact h5) (by rw [hKE]; exact hf) (by rw [hKE, hE]; exact h)
    rw [hKE, hE] at this
    exact this
  rw [hE] at tk hle hge
  unfold f_X10_readsOne
  rw [let_eq, h25]
  have room : ∀ (ρ : bl_St) (i most : Nat), Gf τ ρ → i < 167 → most < 100 → ∀ n, bl_I τ 141 i = nI n → n < 100 → f_X10_isRoom ρ 139 (nI i) (nI most) (nI p) = if most ≤ n then some (0, bl_pI (bl_pI ρ 139 25 (nI p)) 139 27 1) else some (1, ρ) := fun ρ i most g hi hm n hn hn1 => by
    unfold f_X10_isRoom
    rw [in_nI hi (by decide), gd_true, g.1, w.1.1, nI_clamp (by omega), g.2.2.2 141 (by decide), hn, let_eq, let_eq]
    by_cases c : most ≤ n
    · rw [if_pos (nI_le c (by omega)), if_pos c]
    · rw [if_neg (nI_ge (by omega) (by omega)), if_neg c]
  have z27 : ∀ ρ, Gf τ ρ → bl_I ρ 139 27 = 0 := fun ρ g => by rw [g.2.2.1 27 (by decide) (by decide) (by decide) (by decide)]; exact h27
  by_cases c0 : wM b p E 0
  · have eK : K = 0 := by rw [← hK]; unfold kd; rw [if_pos c0]
    subst eK
    obtain ⟨τa, ea, ga, ta⟩ := (tk 0 (by decide)).1 c0
    rw [show f_X10_takesWord τ 139 0 = _ from ea, bd_some, if_neg (by decide)]
    unfold f_X10_readsClass
    have rm := room τa 0 8 ga (by decide) (by decide) (tN v) h0 (by omega)
    rw [show f_X10_isRoom τa 139 0 8 (nI p) = _ from rm]
    by_cases cf : 8 ≤ tN v
    · rw [if_pos cf, bd_some, if_pos rfl, bd_some, phr_full (by rw [hKE]; decide) (by rw [hKE]; exact Or.inl ⟨rfl, cf⟩)]
      refine ⟨fun f h => ?_, fun z v' h => (by cases h)⟩
      have h := Sum.inl.inj h
      rw [← h]
      exact m_badtail ((ga.mf.b _).w 1) (I_pI_self _ _ _ _) (by rw [I_pI_ne (by decide), I_pI_self])
    · have hf : ¬ full 0 v := fun z => by unfold full at z; omega
      obtain ⟨f1, f2⟩ := pin (by decide) hf
      obtain ⟨g1, g2⟩ := m_cls (τ := τa) (w.gf ga) P (by omega) hle 5 0 bl_fu τa 1 (by omega) (by unfold bl_fu; omega) (Mf.rf τa) (Or.inl rfl) (Or.inl rfl) ta (z27 τa ga) (R.e (ga.2.2.2 141 (by decide))) (fun i hi => absurd hi (Nat.not_lt_zero i))
      rw [if_neg cf, bd_some, if_neg (by decide)]
      cases h3 : nrun b ln 0 (pHi 0) 5 0 E with
      | inl f0 =>
        rw [f1 f0 h3]
        obtain ⟨τb, eb, mb, x27, x25⟩ := g1 f0 h3
        refine ⟨fun f h => ?_, fun z v' h => (by cases h)⟩
        have h := Sum.inl.inj h
        rw [← h, show bl_fx (fun _ _ _ => none) (b_X10_readsClass_14) bl_fu τa 139 0 = _ from eb, bd_some]
        exact m_badtail (ga.mf.tr mb) x27 x25
      | inr z0 =>
        rw [f2 z0 h3]
        obtain ⟨τb, eb, mb, x27, xt, xr⟩ := g2 z0 h3
        have hz0 : z0 ≤ ln := by rw [(nrun_ok (e := E) _ 0 z0 h3).1]; exact qI_le hle _
        rw [show bl_fx (fun _ _ _ => none) (b_X10_readsClass_14) bl_fu τa 139 0 = _ from eb, bd_some]
        exact m_tail w (ga.mf.tr mb) x27 xt hz0 xr
  rw [show f_X10_takesWord τ 139 0 = _ from (tk 0 (by decide)).2 c0, bd_some, if_pos rfl]
  by_cases c1 : wM b p E 1
  · have eK : K = 1 := by rw [← hK]; unfold kd; rw [if_neg c0, if_pos c1]
    subst eK
    obtain ⟨τa, ea, ga, ta⟩ := (tk 1 (by decide)).1 c1
    rw [show f_X10_takesWord τ 139 1 = _ from ea, bd_some, if_neg (by decide)]
    unfold f_X10_readsLoss
    have rm := room τa 1 5 ga (by decide) (by decide) (tK v) h1 (by omega)
    rw [show f_X10_isRoom τa 139 1 5 (nI p) = _ from rm]
    by_cases cf : 5 ≤ tK v
    · rw [if_pos cf, bd_some, if_pos rfl, bd_some, phr_full (by rw [hKE]; decide) (by rw [hKE]; exact Or.inr ⟨rfl, cf⟩)]
      refine ⟨fun f h => ?_, fun z v' h => (by cases h)⟩
      have h := Sum.inl.inj h
      rw [← h]
      exact m_badtail ((ga.mf.b _).w 1) (I_pI_self _ _ _ _) (by rw [I_pI_ne (by decide), I_pI_self])
    · have hf : ¬ full 1 v := fun z => by unfold full at z; omega
      obtain ⟨f1, f2⟩ := pin (by decide) hf
      obtain ⟨g1, g2⟩ := m_los (τ := τa) (w.gf ga) P (by omega) hle 2 0 bl_fu τa 1 (by omega) (by unfold bl_fu; omega) (Mf.rf τa) (Or.inl rfl) (Or.inl rfl) ta (z27 τa ga) (R.e (ga.2.2.2 141 (by decide))) (fun i hi => absurd hi (Nat.not_lt_zero i))
      rw [if_neg cf, bd_some, if_neg (by decide)]
      cases h3 : nrun b ln 1 (pHi 1) 2 0 E with
      | inl f0 =>
        rw [f1 f0 h3]
        obtain ⟨τb, eb, mb, x27, x25⟩ := g1 f0 h3
        refine ⟨fun f h => ?_, fun z v' h => (by cases h)⟩
        have h := Sum.inl.inj h
        rw [← h, show bl_fx (fun _ _ _ => none) (b_X10_readsLoss_13) bl_fu τa 139 0 = _ from eb, bd_some]
        exact m_badtail (ga.mf.tr mb) x27 x25
      | inr z0 =>
        rw [f2 z0 h3]
        obtain ⟨τb, eb, mb, x27, xt, xr⟩ := g2 z0 h3
        have hz0 : z0 ≤ ln := by rw [(nrun_ok (e := E) _ 0 z0 h3).1]; exact qI_le hle _
        rw [show bl_fx (fun _ _ _ => none) (b_X10_readsLoss_13) bl_fu τa 139 0 = _ from eb, bd_some]
        exact m_tail w (ga.mf.tr mb) x27 xt hz0 xr
  rw [show f_X10_takesWord τ 139 1 = _ from (tk 1 (by decide)).2 c1, bd_some, if_pos rfl]
  -- a rule's phrase
  have rul : ∀ (k : Nat), k < 3 → K = 2 + k → ∀ (τa : bl_St), Gf τ τa → TKN τa b ln E 1 → (∀ f, phr b ln p v = .inl f → bdM τ f (bl_bd (f_X10_needsNumber τa 139 (nI (pLo (2 + k))) (nI (pHi (2 + k) 0))) fun r σ => bl_let (bl_pI σ (bl_R τa 139 2) (2 + k) r) fun σ2 => b_X10_readsOne_113 σ2 139)) ∧ (∀ z v', phr b ln p v = .inr (z, v') → gdM τ b ln z v' (bl_bd (f_X10_needsNumber τa 139 (nI (pLo (2 + k))) (nI (pHi (2 + k) 0))) fun r σ => bl_let (bl_pI σ (bl_R τa 139 2) (2 + k) r) fun σ2 => b_X10_readsOne_113 σ2 139)) := by
    intro k hk eK τa ga ta
    have hf : ¬ full K v := fun z => by unfold full at z; omega
    have ea : pAm K = 1 := by unfold pAm; rw [if_neg (by omega), if_neg (by omega)]
    obtain ⟨f1, f2⟩ := pin (by omega) hf
    rw [ea, eK] at f1 f2
    obtain ⟨g1, g2⟩ := m_rul w ga.mf ta (z27 τa ga) hle (R.e (ga.2.2.2 141 (by decide))) hk
    have rR : bl_R τa 139 2 = 141 := by rw [ga.1]; exact w.1.1
    rw [rR]
    cases h3 : nrun b ln (pLo (2 + k)) (pHi (2 + k)) 1 0 E with
    | inl f0 =>
      rw [f1 f0 h3]
      obtain ⟨ρ1, e1, bd⟩ := g1 f0 h3
      rw [e1, bd_some, let_eq]
      refine ⟨fun f h => ?_, fun z v' h => (by cases h)⟩
      have h := Sum.inl.inj h
      rw [← h]
      exact bd
    | inr z0 =>
      rw [f2 z0 h3]
      obtain ⟨ρ1, e1, mb, x27, xt, xr⟩ := g2 z0 h3
      have hz0 : z0 ≤ ln := by rw [(nrun_ok (e := E) _ 0 z0 h3).1]; exact qI_le hle _
      rw [e1, bd_some, let_eq]
      exact m_tail w mb x27 xt hz0 xr
  by_cases c2 : wM b p E 2
  · have eK : K = 2 + 0 := by rw [← hK]; unfold kd; rw [if_neg c0, if_neg c1, if_pos c2]
    obtain ⟨τa, ea, ga, ta⟩ := (tk 2 (by decide)).1 c2
    rw [show f_X10_takesWord τ 139 2 = _ from ea, bd_some, if_neg (by decide)]
    exact rul 0 (by decide) eK τa ga ta
  rw [show f_X10_takesWord τ 139 2 = _ from (tk 2 (by decide)).2 c2, bd_some, if_pos rfl]
  by_cases c3 : wM b p E 3
  · have eK : K = 2 + 1 := by rw [← hK]; unfold kd; rw [if_neg c0, if_neg c1, if_neg c2, if_pos c3]
    obtain ⟨τa, ea, ga, ta⟩ := (tk 3 (by decide)).1 c3
    rw [show f_X10_takesWord τ 139 3 = _ from ea, bd_some, if_neg (by decide)]
    exact rul 1 (by decide) eK τa ga ta
  rw [show f_X10_takesWord τ 139 3 = _ from (tk 3 (by decide)).2 c3, bd_some, if_pos rfl]
  by_cases c4 : wM b p E 4
  · have eK : K = 2 + 2 := by rw [← hK]; unfold kd; rw [if_neg c0, if_neg c1, if_neg c2, if_neg c3, if_pos c4]
    obtain ⟨τa, ea, ga, ta⟩ := (tk 4 (by decide)).1 c4
    rw [show f_X10_takesWord τ 139 4 = _ from ea, bd_some, if_neg (by decide)]
    exact rul 2 (by decide) eK τa ga ta
  have eK : K = 5 := by rw [← hK]; unfold kd; rw [if_neg c0, if_neg c1, if_neg c2, if_neg c3, if_neg c4]
  rw [show f_X10_takesWord τ 139 4 = _ from (tk 4 (by decide)).2 c4, bd_some, if_pos rfl, let_eq, phr_bad5 (by rw [hKE]; exact eK)]
  refine ⟨fun f h => ?_, fun z v' h => (by cases h)⟩
  have h := Sum.inl.inj h
  rw [← h]
  exact m_badtail ((Mf.rf τ).w 1) (I_pI_self _ _ _ _) (by rw [I_pI_ne (by decide)]; exact h25)
end PHO
