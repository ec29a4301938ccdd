section TXM
variable {τ : bl_St} {b : Nat → Nat} {ln p : Nat} {v : tm_V}
theorem m_starts (τ : bl_St) (a : Nat) : ∃ τ1, f_X10_starts τ a = some ((), τ1) ∧ bl_R τ1 = bl_R τ ∧ bl_J τ1 = bl_J τ ∧ (∀ i, i ≠ a → bl_I τ1 i = bl_I τ i) ∧ ∀ j, j < 167 → bl_I τ1 a j = if j = 2 then 2 else if j = 3 then 3 else 0 := by
  have l2 : ∀ (r k m : Nat) (ρ : bl_St), k + r = 167 → r < m → bl_R ρ = bl_R τ → bl_J ρ = bl_J τ → (∀ i, i ≠ a → bl_I ρ i = bl_I τ i) → (∀ j, j < k → bl_I ρ a j = 0) → ∃ τ1, bl_fx (fun _ _ _ => none) (b_X10_starts_2) m ρ a (nI k) = some ((), τ1) ∧ bl_R τ1 = bl_R τ ∧ bl_J τ1 = bl_J τ ∧ (∀ i, i ≠ a → bl_I τ1 i = bl_I τ i) ∧ ∀ j, j < 167 → bl_I τ1 a j = if j = 2 then 2 else if j = 3 then 3 else 0 := by
    intro r
    induction r with
    | zero =>
      intro k m ρ hk hm R J I Z
      obtain ⟨m, rfl⟩ : ∃ z, m = z + 1 := ⟨m - 1, by omega⟩
      refine ⟨bl_pI (bl_pI ρ a 2 2) a 3 3, ?_, R, J, fun i hi => by rw [I_pI_o hi, I_pI_o hi]; exact I i hi, fun j hj => ?_⟩
      · rw [fx_succ, show k = 167 by omega]
        show (if (167 : Int32) ≤ nI 167 then _ else _) = _
        rw [if_pos (by decide), let_eq, let_eq]
      · by_cases c3 : j = 3
        · rw [c3, I_pI_self, if_neg (by decide), if_pos rfl]
        · rw [I_pI_ne c3]
          by_cases c2 : j = 2
          · rw [c2, I_pI_self, if_pos rfl]
          · rw [I_pI_ne c2, if_neg c2, if_neg c3]
            exact Z j (by omega)
    | succ r ih =>
      intro k m ρ hk hm R J I Z
      obtain ⟨m, rfl⟩ : ∃ z, m = z + 1 := ⟨m - 1, by omega⟩
      obtain ⟨τ1, e1, q⟩ := ih (k + 1) m (bl_pI ρ a k 0) (by omega) (by omega) R J (fun i hi => by rw [I_pI_o hi]; exact I i hi) (fun j hj => by
        by_cases c : j = k
        · rw [c, I_pI_self]
        · rw [I_pI_ne c]; exact Z j (by omega))
      refine ⟨τ1, ?_, q⟩
      rw [fx_succ]
      show (if (167 : Int32) ≤ nI k then _ else _) = _
      rw [if_neg (show ¬ (167 : Int32) ≤ nI k from nI_ge (b := 167) (by omega) (by decide)), in_nI (by omega) (by decide), gd_true, let_eq, let_eq, nI_clamp (by omega), nI_1]
      exact e1
  exact l2 167 0 bl_fu τ (by omega) (by unfold bl_fu; omega) rfl rfl (fun _ _ => rfl) (fun j hj => absurd hj (Nat.not_lt_zero j))
def Lf (τ τ1 : bl_St) : Prop := bl_R τ1 = bl_R τ ∧ bl_J τ1 = bl_J τ ∧ (∀ k, k ≠ 27 → bl_I τ1 139 k = bl_I τ 139 k) ∧ ∀ i, i ≠ 139 → bl_I τ1 i = bl_I τ i
theorem Lf.w27 {ρ : bl_St} (h : Lf τ ρ) (x : Int32) : Lf τ (bl_pI ρ 139 27 x) := ⟨h.1, h.2.1, fun k hk => by rw [I_pI_ne hk]; exact h.2.2.1 k hk, fun i hi => by rw [I_pI_o hi]; exact h.2.2.2 i hi⟩
theorem Lf.mf {ρ : bl_St} (h : Lf τ ρ) : Mf τ ρ := ⟨h.1, h.2.1, fun k hk => h.2.2.1 k (by omega), fun i hi _ => h.2.2.2 i hi⟩
theorem m_over (R : RM τ v) (P : POk v) (hR : bl_R τ 139 2 = 141) : ∃ τ1 w, f_X10_looksOver τ 139 = some ((), τ1) ∧ Lf τ τ1 ∧ bl_I τ1 139 27 = nI w ∧ w < 2 ∧ (w = 0 ↔ whl v) := by
  have h8 := P.1.1
  have h5 := P.1.2
  have r0 := R.1.1.1
  have r1 := R.1.1.2
  have r2 := R.1.2.2.1
  simp only [Nat.zero_add] at r1 r2
  have l41 : ∀ (c : Nat), c < tN v → ∀ (k29 : bl_St → Nat → Int32 → Option (Unit × bl_St)) (r k m : Nat) (ρ : bl_St) (w : Nat), k + r = 4 → 1 ≤ k → r < m → Lf τ ρ → bl_I ρ 139 27 = nI w → w < 2 → ∃ τ1 w', bl_fx (fun _ _ _ _ => none) (b_X10_looksOver_41 k29) m ρ 139 (nI c) (nI k) = k29 τ1 139 (nI (c + 1)) ∧ Lf τ τ1 ∧ bl_I τ1 139 27 = nI w' ∧ w' < 2 ∧ (w' = 0 ↔ (w = 0 ∧ ∀ j, k ≤ j → j < 4 → tC v (5 * c + j) < tN v)) := by
    intro c hc k29 r
    induction r with
    | zero =>
      intro k m ρ w hk hk1 hm L h27 hw
      obtain ⟨m, rfl⟩ : ∃ z, m = z + 1 := ⟨m - 1, by omega⟩
      refine ⟨ρ, w, ?_, L, h27, hw, ⟨fun z => ⟨z, fun j h1 h2 => by omega⟩, fun z => z.1⟩⟩
      rw [fx_succ, show k = 4 by omega]
      show (if (4 : Int32) ≤ nI 4 then _ else _) = _
      rw [if_pos (by decide), let_eq, nI_1]
    | succ r ih =>
      intro k m ρ w hk hk1 hm L h27 hw
      obtain ⟨m, rfl⟩ : ∃ z, m = z + 1 := ⟨m - 1, by omega⟩
      have go : ∀ (x : Nat), x < 2 → (x = 0 ↔ (w = 0 ∧ tC v (5 * c + k) < tN v)) → ∃ τ1 w', b_X10_looksOver_80 (bl_fx (fun _ _ _ _ => none) (b_X10_looksOver_41 k29) m) ρ 139 (nI c) (nI k) (nI x) 139 = k29 τ1 139 (nI (c + 1)) ∧ Lf τ τ1 ∧ bl_I τ1 139 27 = nI w' ∧ w' < 2 ∧ (w' = 0 ↔ (w = 0 ∧ ∀ j, k ≤ j → j < 4 → tC v (5 * c + j) < tN v)) := fun x hx hxe => by
        obtain ⟨τ1, w', e1, l1, i1, w1, q1⟩ := ih (k + 1) m (bl_pI ρ 139 27 (nI x)) x (by omega) (by omega) (by omega) (L.w27 _) (I_pI_self _ _ _ _) hx
        refine ⟨τ1, w', ?_, l1, i1, w1, q1.trans ⟨fun z => ?_, fun z => ⟨hxe.mpr ⟨z.1, z.2 k (Nat.le_refl _) (by omega)⟩, fun j h1 h2 => z.2 j (by omega) h2⟩⟩⟩
        · unfold b_X10_looksOver_80
          rw [gd_of (bo_lt hx), let_eq, let_eq, nI_1]
          exact e1
        · have hz := hxe.mp z.1
          refine ⟨hz.1, fun j h1 h2 => ?_⟩
          by_cases he : j = k
          · rw [he]; exact hz.2
          · exact z.2 j (by omega) h2
      have hcp : tC v (5 * c + k) ≤ 7 := by
        have := (P.2.1 c hc).2.1 (k - 1) (by omega)
        rw [show 5 * c + 1 + (k - 1) = 5 * c + k by omega] at this
        exact this
      have rc := r2 (5 * c + k) (by omega)
      rw [← Nat.add_assoc] at rc
      rw [fx_succ]
      show ∃ τ1 w', (if (4 : Int32) ≤ nI k then _ else _) = _ ∧ _
      rw [if_neg (show ¬ (4 : Int32) ≤ nI k from nI_ge (b := 4) (by omega) (by decide)), h27]
      rcases (show w = 0 ∨ w = 1 by omega) with rfl | rfl
      · rw [if_pos (by rfl), show (5 : Int32) + 5 * nI c + nI k = nI (5 + 5 * c + k) by rw [show (5 : Int32) = nI 5 from rfl, nI_mul, nI_add, nI_add], in_nI (by omega) (by decide), gd_true, L.1, hR, nI_clamp (by omega), L.2.2.2 141 (by decide), rc, r0]
        by_cases q : tC v (5 * c + k) < tN v
        · rw [if_pos (nI_lt q (by omega))]
          exact go 0 (by decide) ⟨fun _ => ⟨rfl, q⟩, fun _ => rfl⟩
        · rw [if_neg (nI_nlt (by omega) (by omega))]
          exact go 1 (by decide) ⟨fun z => absurd z (by decide), fun z => absurd z.2 q⟩
      · rw [if_neg (by decide)]
        exact go 1 (by decide) ⟨fun z => absurd z (by decide), fun z => absurd z.1 (by decide)⟩
  have l29 : ∀ (r c m : Nat) (ρ : bl_St) (w : Nat), c + r = tN v → r < m → Lf τ ρ → bl_I ρ 139 27 = nI w → w < 2 → ∃ τ1 w', bl_fx (fun _ _ _ => none) (b_X10_looksOver_29) m ρ 139 (nI c) = some ((), τ1) ∧ Lf τ τ1 ∧ bl_I τ1 139 27 = nI w' ∧ w' < 2 ∧ (w' = 0 ↔ (w = 0 ∧ ∀ a j, c ≤ a → a < tN v → 1 ≤ j → j < 4 → tC v (5 * a + j) < tN v)) := by
    intro r
    induction r with
    | zero =>
      intro c m ρ w hc hm L h27 hw
      obtain ⟨m, rfl⟩ : ∃ z, m = z + 1 := ⟨m - 1, by omega⟩
      refine ⟨ρ, w, ?_, L, h27, hw, ⟨fun z => ⟨z, fun a j h1 h2 _ _ => by omega⟩, fun z => z.1⟩⟩
      rw [fx_succ]
      unfold b_X10_looksOver_29
      rw [L.1, hR, L.2.2.2 141 (by decide), r0, if_pos (nI_le (by omega) (by omega))]
    | succ r ih =>
      intro c m ρ w hc hm L h27 hw
      obtain ⟨m, rfl⟩ : ∃ z, m = z + 1 := ⟨m - 1, by omega⟩
      obtain ⟨τa, wa, ea, la, ia, ha, qa⟩ := l41 c (by omega) (bl_fx (fun _ _ _ => none) (b_X10_looksOver_29) m) 3 1 bl_fu ρ w (by omega) (by omega) (by unfold bl_fu; omega) L h27 hw
      obtain ⟨τ1, w', e1, l1, i1, h1, q1⟩ := ih (c + 1) m τa wa (by omega) (by omega) la ia ha
      refine ⟨τ1, w', ?_, l1, i1, h1, q1.trans ⟨fun z => ?_, fun z => ⟨qa.mpr ⟨z.1, fun j h2 h3 => z.2 c j (Nat.le_refl _) (by omega) h2 h3⟩, fun a j h2 h3 h4 h5 => z.2 a j (by omega) h3 h4 h5⟩⟩⟩
      · rw [fx_succ]
        show (if bl_I ρ (bl_R ρ 139 2) 0 ≤ nI c then _ else _) = _
        rw [L.1, hR, L.2.2.2 141 (by decide), r0, if_neg (nI_ge (by omega) (by omega))]
        exact ea.trans e1
      · have hz := qa.mp z.1
        refine ⟨hz.1, fun a j h2 h3 h4 h5 => ?_⟩
        by_cases he : a = c
        · rw [he]; exact hz.2 j h4 h5
        · exact z.2 a j (by omega) h3 h4 h5
  have k24 : ∀ x, x < 2 → (x = 0 ↔ (tN v ≠ 0 ∧ tK v ≠ 0)) → ∃ τ1 w, b_X10_looksOver_24 τ 139 (nI x) 139 = some ((), τ1) ∧ Lf τ τ1 ∧ bl_I τ1 139 27 = nI w ∧ w < 2 ∧ (w = 0 ↔ whl v) := fun x hx hxe => by
    have L0 : Lf τ (bl_pI τ 139 27 (nI x)) := ⟨rfl, rfl, fun k hk => I_pI_ne hk, fun i hi => I_pI_o hi⟩
    obtain ⟨τ1, w', e1, l1, i1, h1, q1⟩ := l29 (tN v) 0 bl_fu _ x (by omega) (by unfold bl_fu; omega) L0 (I_pI_self _ _ _ _) hx
    refine ⟨τ1, w', ?_, l1, i1, h1, q1.trans ⟨fun z => ⟨hxe.mp z.1, fun c k h2 h3 => ?_⟩, fun z => ⟨hxe.mpr z.1, fun a j _ h3 h4 h5 => ?_⟩⟩⟩
    · unfold b_X10_looksOver_24
      rw [gd_of (bo_lt hx), let_eq]
      exact e1
    · have := z.2 c (1 + k) (Nat.zero_le _) h2 (by omega) (by omega)
      rw [← Nat.add_assoc] at this
      exact this
    · have := z.2 a (j - 1) h3 (by omega)
      rw [show 5 * a + 1 + (j - 1) = 5 * a + j by omega] at this
      exact this
  unfold f_X10_looksOver b_X10_looksOver_19
  rw [hR, r0, r1]
  by_cases q1 : tN v = 0
  · rw [if_pos (show nI (tN v) = 0 by rw [q1]; rfl)]
    exact k24 1 (by decide) ⟨fun z => absurd z (by decide), fun z => absurd q1 z.1⟩
  rw [if_neg (nI_ne0 (by omega) (by omega))]
  by_cases q2 : tK v = 0
  · rw [if_pos (show nI (tK v) = 0 by rw [q2]; rfl)]
    exact k24 1 (by decide) ⟨fun z => absurd z (by decide), fun z => absurd q2 z.2⟩
  rw [if_neg (nI_ne0 (by omega) (by omega))]
  exact k24 0 (by decide) ⟨fun _ => ⟨q1, q2⟩, fun _ => rfl⟩
theorem tok_0 {was : Nat} : tok b ln p was = 0 ↔ ln ≤ nB b ln p := by
  unfold tok
  by_cases c : ln ≤ nB b ln p
  · rw [if_pos c]
    exact ⟨fun _ => c, fun _ => rfl⟩
  · rw [if_neg c]
    refine ⟨fun z => ?_, fun z => absurd z c⟩
    split at z
    · split at z <;> exact absurd z (by decide)
    · split at z
      · split at z
        · exact absurd z (by decide)
        · split at z <;> exact absurd z (by decide)
      · split at z <;> exact absurd z (by decide)
/-- all phrases -/
theorem m_text26 (w : WM τ b ln) : ∀ (r m : Nat) (ρ : bl_St) (q : Nat) (v : tm_V), r + 1 < m → 400 ≤ nB b ln q + r → q ≤ ln → Mf τ ρ → TKN ρ b ln q 3 → bl_I ρ 139 27 = 0 → RM ρ v → POk v →
    (∀ f, prs b ln r (nB b ln q) v = .inl f → ∃ τ1, bl_fx (fun _ _ => none) (b_X10_text_26) m ρ 139 = b_X10_text_47 τ1 139 ∧ Mf τ τ1 ∧ bl_I τ1 139 27 = 1 ∧ bl_I τ1 139 25 = nI f) ∧
    (∀ v', prs b ln r (nB b ln q) v = .inr v' → ∃ τ1, bl_fx (fun _ _ => none) (b_X10_text_26) m ρ 139 = b_X10_text_47 τ1 139 ∧ Mf τ τ1 ∧ bl_I τ1 139 27 = 0 ∧ bl_I τ1 139 25 = nI ln ∧ RM τ1 v' ∧ POk v') := by
  have h4 := w.2.2.2.1.1
  have stop : ∀ (m : Nat) (ρ : bl_St) (q : Nat) (v : tm_V), q ≤ ln → ln ≤ nB b ln q → Mf τ ρ → TKN ρ b ln q 3 → bl_I ρ 139 27 = 0 → RM ρ v → POk v → ∃ τ1, bl_fx (fun _ _ => none) (b_X10_text_26) (m + 1) ρ 139 = b_X10_text_47 τ1 139 ∧ Mf τ τ1 ∧ bl_I τ1 139 27 = 0 ∧ bl_I τ1 139 25 = nI ln ∧ RM τ1 v ∧ POk v := by
    intro m ρ q v hq hl M T h27 R P
    have hle : nB b ln q ≤ ln := rn_le hq
    refine ⟨ρ, ?_, M, h27, by rw [T.1, show nB b ln q = ln by omega], R, P⟩
    rw [fx_succ]
    unfold b_X10_text_26
    rw [h27, if_pos rfl, T.2.1, if_pos (show nI (tok b ln q 3) = 0 by rw [tok_0.mpr hl]; rfl)]
  intro r
  induction r with
  | zero =>
    intro m ρ q v hm hr hq M T h27 R P
    obtain ⟨m, rfl⟩ : ∃ z, m = z + 1 := ⟨m - 1, by omega⟩
    refine ⟨fun f z => (by rw [prs_0] at z; cases z), fun v' z => ?_⟩
    rw [prs_0] at z
    have z := Sum.inr.inj z
    rw [← z]
    exact stop m ρ q v hq (by omega) M T h27 R P
  | succ r ih =>
    intro m ρ q v hm hr hq M T h27 R P
    obtain ⟨m, rfl⟩ : ∃ z, m = z + 1 := ⟨m - 1, by omega⟩
    by_cases hl : ln ≤ nB b ln q
    · rw [prs_e hl]
      refine ⟨fun f z => (by cases z), fun v' z => ?_⟩
      have z := Sum.inr.inj z
      rw [← z]
      exact stop m ρ q v hq hl M T h27 R P
    · have hle : nB b ln q ≤ ln := rn_le hq
      have htk := tok_le b ln q 3
      have e0 : bl_fx (fun _ _ => none) (b_X10_text_26) (m + 1) ρ 139 = bl_bd (f_X10_readsOne ρ 139) fun _ σ19 => bl_fx (fun _ _ => none) (b_X10_text_26) m σ19 139 := by
        rw [fx_succ]
        show (if bl_I ρ 139 27 = 0 then _ else _) = _
        rw [h27, if_pos rfl, T.2.1, if_neg (show ¬ nI (tok b ln q 3) = 0 from fun z => hl (tok_0.mp (nI_inj (b := 0) (by omega) (by decide) z)))]
      rw [e0]
      obtain ⟨g1, g2⟩ := m_phrase (w.mf M) T h27 rfl (by omega) R P
      cases hph : phr b ln (nB b ln q) v with
      | inl f0 =>
        rw [prs_f hl hph]
        obtain ⟨τa, ea, ma, i27, i25⟩ := g1 f0 hph
        refine ⟨fun f z => ?_, fun v' z => (by cases z)⟩
        have z := Sum.inl.inj z
        rw [← z]
        refine ⟨τa, ?_, M.tr ma, i27, i25⟩
        rw [ea, bd_some]
        obtain ⟨m, rfl⟩ : ∃ z, m = z + 1 := ⟨m - 1, by omega⟩
        rw [fx_succ]
        show (if bl_I τa 139 27 = 0 then _ else _) = _
        rw [i27, if_neg (by decide)]
      | inr zz =>
        obtain ⟨q1, v1⟩ := zz
        rw [prs_n hl hph]
        obtain ⟨hpq, hq1, P1⟩ := phr_go hle P hph
        obtain ⟨τa, ea, ma, i27, ta, ra⟩ := g2 q1 v1 hph
        have hge : q1 ≤ nB b ln q1 := rn_ge _ _ _ _
        rw [ea, bd_some]
        exact ih m τa q1 v1 (by omega) (by omega) hq1 (M.tr ma) ta i27 ra P1
end TXM
