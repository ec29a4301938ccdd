/-! ===== bestLimit ===== -/
def Bst (C : Nat → Nat) (P : Nat → Prop) (b : Nat) : Prop := P b ∧ ∀ v, P v → C b ≤ C v ∧ (C v = C b → b ≤ v)
theorem Bst.uq {C : Nat → Nat} {P : Nat → Prop} {b b' : Nat} (h : Bst C P b) (h' : Bst C P b') : b = b' := by
  have h1 := h.2 b' h'.1
  have h2 := h'.2 b h.1
  have e : C b = C b' := by omega
  have := h1.2 e.symm
  have := h2.2 e
  omega
/-- is it a limit to try: after so many sorts -/
def cfl (v : tm_V) (x : Nat) : Nat → Nat
  | 0 => if x = 0 then 1 else 0
  | k + 1 => if cfl v x k = 0 then (if tS v (2 * k) = x then 1 else 0) else 1
def cand (v : tm_V) (k x : Nat) : Prop := x = 0 ∨ ∃ d, d < k ∧ tS v (2 * d) = x
theorem cfl_lt (v : tm_V) (x : Nat) : ∀ k, cfl v x k < 2
  | 0 => by unfold cfl; split <;> omega
  | k + 1 => by unfold cfl; split <;> (try split) <;> omega
theorem cfl_iff (v : tm_V) (x : Nat) : ∀ k, cfl v x k = 1 ↔ cand v k x
  | 0 => by
    unfold cfl cand
    constructor
    · intro h; split at h
      · exact Or.inl (by assumption)
      · cases h
    · rintro (h | ⟨d, hd, _⟩)
      · rw [if_pos h]
      · exact absurd hd (Nat.not_lt_zero _)
  | k + 1 => by
    have ih := cfl_iff v x k
    have hl := cfl_lt v x k
    unfold cfl
    by_cases h0 : cfl v x k = 0
    · rw [if_pos h0]
      have hn : ¬ cand v k x := fun z => by have := ih.mpr z; omega
      constructor
      · intro h; split at h
        · exact Or.inr ⟨k, by omega, by assumption⟩
        · cases h
      · rintro (h | ⟨d, hd, h⟩)
        · exact absurd (Or.inl h) hn
        · by_cases hdk : d = k
          · rw [hdk] at h; rw [if_pos h]
          · exact absurd (Or.inr ⟨d, by omega, h⟩) hn
    · rw [if_neg h0]
      have hy : cand v k x := ih.mp (by omega)
      refine ⟨fun _ => ?_, fun _ => rfl⟩
      rcases hy with h | ⟨d, hd, h⟩
      · exact Or.inl h
      · exact Or.inr ⟨d, by omega, h⟩
section LIM
variable {s : st_V} {n : Nat}
theorem op_bestLimit (ok : SOk s n) (l c : Int32) : Both n s (fun σ => f_X9_bestLimit σ 0 l c) (fun τ => f_X10_bestLimit τ 139 l c) := by
  have h8 := ok.1.n8
  have h5 := ok.1.k5
  rcases (Classical.em (vY l ∧ vC c (tN (sv s)))).symm with hb | hb
  · refine Both.same ok (-1) (fun σ hx => ⟨σ, ?_, hx⟩) (fun τ hm => ⟨τ, ?_, hm⟩)
    · show f_X9_bestLimit σ 0 l c = _
      unfold f_X9_bestLimit
      rw [x_isAsked hx ok, bd_some, if_neg hb, if_pos rfl]
    · show f_X10_bestLimit τ 139 l c = _
      unfold f_X10_bestLimit
      exact asked_bad ok hb hm _ _
  obtain ⟨hl, hc⟩ := id hb
  obtain ⟨L, rfl, -, hL⟩ := vR_of (by decide) hl
  obtain ⟨c, hc', rfl⟩ := vC_of (by omega) hc
  have hK := ok.hK (show 0 < tN (sv s) by omega)
  obtain ⟨F, hF⟩ : ∃ F : Nat → Nat, F = fun x => cCo (sv s) false 3 x false 1 0 L c := ⟨_, rfl⟩
  have hFb : ∀ x, F x ≤ 8100000 * L := fun x => by rw [hF]; exact cCo_le ok.1 hK false 3 x false 1 0 (by decide) L c hc'
  have lt63 : ∀ x, F x < 2 ^ 63 := fun x => by have := hFb x; omega
  have hsz : ∀ d, d < tK (sv s) → 1 ≤ tS (sv s) (2 * d) ∧ tS (sv s) (2 * d) ≤ 999 := fun d hd => (ok.1.2.2.1 d hd).1
  -- X
  have xl : ∀ (r d b m : Nat) (σ : bl_St), d + r = tK (sv s) → r < m → b ≤ 999 → Bst F (cand (sv s) d) b → XI σ s → ∃ b' σ1, bl_fx (fun _ _ _ _ _ _ _ => none) (b_X9_bestLimit_26) m σ 0 (nI L) (nI c) (nI b) (lN (F b)) (nI d) = some (nI b', σ1) ∧ XI σ1 s ∧ Bst F (cand (sv s) (tK (sv s))) b' := by
    intro r
    induction r with
    | zero =>
      intro d b m σ hd hm hb9 hB hx
      obtain ⟨m, rfl⟩ : ∃ z, m = z + 1 := ⟨m - 1, by omega⟩
      have hd : d = tK (sv s) := by omega
      subst hd
      refine ⟨b, σ, ?_, hx, hB⟩
      rw [fx_succ]
      show (if bl_I σ (bl_R σ 0 2) 1 ≤ nI (tK (sv s)) then _ else _) = _
      rw [hx.1.1.1.2.2.1, hx.2.1.2.1.2, if_pos (nI_le (Nat.le_refl _) (by omega))]
    | succ r ih =>
      intro d b m σ hd hm hb9 hB hx
      obtain ⟨m, rfl⟩ : ∃ z, m = z + 1 := ⟨m - 1, by omega⟩
      have hsd := hsz d (by omega)
      obtain ⟨x, hxe⟩ : ∃ x, x = tS (sv s) (2 * d) := ⟨_, rfl⟩
      rw [← hxe] at hsd
      obtain ⟨σ1, e1, x1⟩ := x_byRule (rl := 3) (lm := x) hx ok (by decide) hsd.2 hL hc'
      have step : b_X9_bestLimit_26 (bl_fx (fun _ _ _ _ _ _ _ => none) (b_X9_bestLimit_26) m) σ 0 (nI L) (nI c) (nI b) (lN (F b)) (nI d) = (if F x < F b ∨ (F x = F b ∧ x < b) then bl_fx (fun _ _ _ _ _ _ _ => none) (b_X9_bestLimit_26) m σ1 0 (nI L) (nI c) (nI x) (lN (F x)) (nI (d + 1)) else bl_fx (fun _ _ _ _ _ _ _ => none) (b_X9_bestLimit_26) m σ1 0 (nI L) (nI c) (nI b) (lN (F b)) (nI (d + 1))) := by
        show (if bl_I σ (bl_R σ 0 2) 1 ≤ nI d then _ else _) = _
        have sp0 : f_X8_sortPart σ 10 (nI d) 0 = some (nI x, σ) := by rw [hxe]; exact x_sortPart hx.2.1 ok.1 (show d < tK (sv s) by omega) (w := 0) (by decide)
        rw [hx.1.1.1.2.2.1, hx.2.1.2.1.2, if_neg (nI_ge (by omega) (by omega)), sp0, bd_some, show f_X9_costByRule σ 0 3 (nI x) (nI L) (nI c) = _ from e1, bd_some, show cCo (sv s) false 3 x false 1 0 L c = F x by rw [hF]]
        unfold b_X9_bestLimit_83 b_X9_bestLimit_90
        simp only [let_eq, nI_1]
        by_cases h1 : F x < F b
        · rw [if_pos ((lN_ltI (lt63 x) (lt63 b)).mpr h1), if_pos (Or.inl h1)]
        · rw [if_neg (fun z => h1 ((lN_ltI (lt63 x) (lt63 b)).mp z))]
          by_cases h2 : F x = F b
          · rw [if_pos (show lN (F x) = lN (F b) by rw [h2])]
            by_cases h3 : b ≤ x
            · rw [if_pos (nI_le h3 (by omega)), if_neg (by omega)]
            · rw [if_neg (nI_ge (by omega) (by omega)), if_pos (Or.inr ⟨h2, by omega⟩)]
          · rw [if_neg (fun z => h2 ((lN_eqI (lt63 x) (lt63 b)).mp z)), if_neg (by omega)]
      rw [fx_succ, step]
      have cd : ∀ u, cand (sv s) (d + 1) u ↔ cand (sv s) d u ∨ u = x := by
        intro u
        constructor
        · rintro (h | ⟨a, h1, h2⟩)
          · exact Or.inl (Or.inl h)
          · by_cases had : a = d
            · rw [had] at h2; exact Or.inr (by omega)
            · exact Or.inl (Or.inr ⟨a, by omega, h2⟩)
        · rintro ((h | ⟨a, h1, h2⟩) | h)
          · exact Or.inl h
          · exact Or.inr ⟨a, by omega, h2⟩
          · exact Or.inr ⟨d, by omega, by omega⟩
      by_cases hz : F x < F b ∨ (F x = F b ∧ x < b)
      · rw [if_pos hz]
        exact ih (d + 1) x m σ1 (by omega) (by omega) hsd.2 ⟨(cd x).mpr (Or.inr rfl), fun u hu => by
          rcases (cd u).mp hu with h | h
          · have := hB.2 u h
            omega
          · rw [h]; omega⟩ x1
      · rw [if_neg hz]
        exact ih (d + 1) b m σ1 (by omega) (by omega) hb9 ⟨(cd b).mpr (Or.inl hB.1), fun u hu => by
          rcases (cd u).mp hu with h | h
          · exact hB.2 u h
          · rw [h]; omega⟩ x1
  -- M: one limit
  have mis : ∀ (k25 : bl_St → Nat → Int32 → Int32 → Int32 → Int64 → Int32 → Option (Int32 × bl_St)) (τ : bl_St) (B : Int32) (least : Int64) (x : Nat), x < 1000 → MI τ s → ∀ (r d m : Nat), d + r = tK (sv s) → r < m → bl_fx (fun _ _ _ _ _ _ _ _ _ => none) (b_X10_bestLimit_48 k25) m τ 139 (nI L) (nI c) B least (nI x) (nI (cfl (sv s) x d)) (nI d) = (if cfl (sv s) x (tK (sv s)) = 0 then k25 τ 139 (nI L) (nI c) B least (nI (x + 1)) else bl_bd (f_X10_lays τ 139 (nI L) 0 3 (nI x)) fun _ σ12 => if B = (-1) then b_X10_bestLimit_125 k25 σ12 139 (nI L) (nI c) (nI x) else bl_bd (f_X10_costAt σ12 139 (nI L) (nI c)) fun r15 σ16 => if r15 < least then b_X10_bestLimit_125 k25 σ16 139 (nI L) (nI c) (nI x) else b_X10_bestLimit_136 k25 σ16 139 (nI L) (nI c) B least (nI x)) := by
    intro k25 τ B least x hx9 hm r
    have eK := hm.2.1.1.2
    simp only [Nat.zero_add] at eK
    induction r with
    | zero =>
      intro d m hd hm1
      obtain ⟨m, rfl⟩ : ∃ z, m = z + 1 := ⟨m - 1, by omega⟩
      have hd : d = tK (sv s) := by omega
      have hl2 := cfl_lt (sv s) x (tK (sv s))
      rw [hd, fx_succ]
      show (if bl_I τ (bl_R τ 139 1) 1 ≤ nI (tK (sv s)) then _ else _) = _
      rw [hm.1.1.1.1.1, eK, if_pos (nI_le (Nat.le_refl _) (by omega))]
      rcases (show cfl (sv s) x (tK (sv s)) = 0 ∨ cfl (sv s) x (tK (sv s)) = 1 by omega) with h | h
      · rw [h, if_pos (by rfl), if_pos rfl]
        unfold b_X10_bestLimit_136
        rw [let_eq, nI_1]
      · rw [h, if_neg (by decide), if_neg (by decide)]
    | succ r ih =>
      intro d m hd hm1
      obtain ⟨m, rfl⟩ : ∃ z, m = z + 1 := ⟨m - 1, by omega⟩
      have hl2 := cfl_lt (sv s) x d
      have hsd := hsz d (by omega)
      have key := ih (d + 1) m (by omega) (by omega)
      rw [fx_succ]
      show (if bl_I τ (bl_R τ 139 1) 1 ≤ nI d then _ else _) = _
      rw [hm.1.1.1.1.1, eK, if_neg (nI_ge (by omega) (by omega)), m_size hm.1.1.1.1.1 hm.2.1 ok.1 (show d < tK (sv s) by omega), bd_some]
      unfold b_X10_bestLimit_75 b_X10_bestLimit_80
      simp only [let_eq, nI_1]
      have e : cfl (sv s) x (d + 1) = if cfl (sv s) x d = 0 then (if tS (sv s) (2 * d) = x then 1 else 0) else 1 := rfl
      rw [e] at key
      rcases (show cfl (sv s) x d = 0 ∨ cfl (sv s) x d = 1 by omega) with h | h
      · rw [h, if_pos (show nI 0 = 0 from rfl)]
        rw [h, if_pos rfl] at key
        by_cases h2 : tS (sv s) (2 * d) = x
        · rw [if_pos (show nI (tS (sv s) (2 * d)) = nI x by rw [h2])]
          rw [if_pos h2] at key
          exact key
        · rw [if_neg (show ¬ nI (tS (sv s) (2 * d)) = nI x from fun z => h2 (nI_inj (by omega) (by omega) z))]
          rw [if_neg h2] at key
          exact key
      · rw [h, if_neg (show ¬ nI 1 = 0 by decide)]
        rw [h, if_neg (by decide)] at key
        exact key
  have m43 : ∀ (k25 : bl_St → Nat → Int32 → Int32 → Int32 → Int64 → Int32 → Option (Int32 × bl_St)) (τ : bl_St) (B : Int32) (least : Int64) (x : Nat), x < 1000 → b_X10_bestLimit_25 k25 τ 139 (nI L) (nI c) B least (nI x) = bl_fx (fun _ _ _ _ _ _ _ _ _ => none) (b_X10_bestLimit_48 k25) bl_fu τ 139 (nI L) (nI c) B least (nI x) (nI (cfl (sv s) x 0)) (nI 0) := by
    intro k25 τ B least x hx9
    show (if (1000 : Int32) ≤ nI x then _ else _) = _
    rw [if_neg (show ¬ (1000 : Int32) ≤ nI x from nI_ge (a := x) (b := 1000) hx9 (by decide))]
    unfold b_X10_bestLimit_43
    have e : cfl (sv s) x 0 = if x = 0 then 1 else 0 := rfl
    rw [e]
    by_cases h0 : x = 0
    · rw [if_pos ((nI_is0 (by omega)).mpr h0), if_pos h0]; rfl
    · rw [if_neg (fun z => h0 ((nI_is0 (by omega)).mp z)), if_neg h0]; rfl
  have ml : ∀ (r x b m : Nat) (τ : bl_St), x + r = 1000 → 1 ≤ x → r < m → b ≤ 999 → Bst F (fun u => cand (sv s) (tK (sv s)) u ∧ u < x) b → MI τ s → ∃ b' τ1, bl_fx (fun _ _ _ _ _ _ _ => none) (b_X10_bestLimit_25) m τ 139 (nI L) (nI c) (nI b) (lN (F b)) (nI x) = some (nI b', τ1) ∧ MI τ1 s ∧ Bst F (fun u => cand (sv s) (tK (sv s)) u ∧ u < 1000) b' := by
    intro r
    induction r with
    | zero =>
      intro x b m τ hx h1 hm1 hb9 hB hm
      obtain ⟨m, rfl⟩ : ∃ z, m = z + 1 := ⟨m - 1, by omega⟩
      have hx : x = 1000 := by omega
      subst hx
      refine ⟨b, τ, ?_, hm, hB⟩
      rw [fx_succ]
      show (if (1000 : Int32) ≤ nI 1000 then _ else _) = _
      rw [if_pos (by decide)]
    | succ r ih =>
      intro x b m τ hx h1 hm1 hb9 hB hm
      obtain ⟨m, rfl⟩ : ∃ z, m = z + 1 := ⟨m - 1, by omega⟩
      have hl2 := cfl_lt (sv s) x (tK (sv s))
      have hci := cfl_iff (sv s) x (tK (sv s))
      have nb : ¬ nI b = -1 := fun z => by
        have h : (nI b).toInt = (-1 : Int32).toInt := by rw [z]
        rw [nI_toInt (by omega), show (-1 : Int32).toInt = -1 from rfl] at h
        omega
      rw [fx_succ, m43 _ τ _ _ x (by omega), mis _ τ _ _ x (by omega) hm (tK (sv s)) 0 bl_fu (by omega) (by unfold bl_fu; omega)]
      by_cases h0 : cfl (sv s) x (tK (sv s)) = 0
      · rw [if_pos h0]
        have hnc : ¬ cand (sv s) (tK (sv s)) x := fun z => by have := hci.mpr z; omega
        exact ih (x + 1) b m τ (by omega) (by omega) (by omega) hb9 ⟨⟨hB.1.1, by have := hB.1.2; omega⟩, fun u hu => hB.2 u ⟨hu.1, by
          have h2 := hu.2
          rcases Nat.lt_or_ge u x with z | z
          · exact z
          · have : u = x := by omega
            rw [this] at hu
            exact absurd hu.1 hnc⟩⟩ hm
      · rw [if_neg h0]
        have hyc : cand (sv s) (tK (sv s)) x := hci.mp (by omega)
        obtain ⟨τ1, e1, e2, m1⟩ := m_bare (rl := 3) (lm := x) hm ok (by decide) (by omega) hL hc'
        rw [show cCo (sv s) false 3 x false 1 0 L c = F x by rw [hF]] at e2
        rw [show f_X10_lays τ 139 (nI L) 0 3 (nI x) = _ from e1, bd_some, if_neg nb, e2, bd_some]
        unfold b_X10_bestLimit_125 b_X10_bestLimit_136
        rw [e2, bd_some]
        simp only [let_eq, nI_1]
        have hcases : ∀ u, (cand (sv s) (tK (sv s)) u ∧ u < x + 1) → (cand (sv s) (tK (sv s)) u ∧ u < x) ∨ u = x := fun u hu => by
          have := hu.2
          rcases Nat.lt_or_ge u x with z | z
          · exact Or.inl ⟨hu.1, z⟩
          · exact Or.inr (by omega)
        have hbx := hB.1.2
        by_cases hlt : F x < F b
        · rw [if_pos ((lN_ltI (lt63 x) (lt63 b)).mpr hlt)]
          exact ih (x + 1) x m τ1 (by omega) (by omega) (by omega) (by omega) ⟨⟨hyc, by omega⟩, fun u hu => by
            rcases hcases u hu with h | h
            · have := hB.2 u h
              omega
            · rw [h]; omega⟩ m1
        · rw [if_neg (fun z => hlt ((lN_ltI (lt63 x) (lt63 b)).mp z))]
          exact ih (x + 1) b m τ1 (by omega) (by omega) (by omega) hb9 ⟨⟨hB.1.1, by omega⟩, fun u hu => by
            rcases hcases u hu with h | h
            · exact hB.2 u h
            · rw [h]; omega⟩ m1
  intro σ τ hx hm
  obtain ⟨σ0, a0, x0⟩ := x_byRule (rl := 3) (lm := 0) hx ok (by decide) (by decide) hL hc'
  obtain ⟨b1, σ1, i1, i2, i3⟩ := xl (tK (sv s)) 0 0 bl_fu σ0 (by omega) (by unfold bl_fu; omega) (by decide) ⟨Or.inl rfl, fun u hu => by
    rcases hu with h | ⟨d, hd, _⟩
    · rw [h]; omega
    · exact absurd hd (Nat.not_lt_zero _)⟩ x0
  obtain ⟨τ0, e0, e00, m0⟩ := m_bare (rl := 3) (lm := 0) hm ok (by decide) (by decide) hL hc'
  rw [show cCo (sv s) false 3 0 false 1 0 L c = F 0 by rw [hF]] at e00 a0
  obtain ⟨b2, τ1, j1, j2, j3⟩ := ml 999 1 0 19999 τ0 (by omega) (by omega) (by omega) (by decide) ⟨⟨Or.inl rfl, by decide⟩, fun u hu => by
    have := hu.2
    rw [show u = 0 by omega]; omega⟩ m0
  have eb : b2 = b1 := by
    refine Bst.uq j3 ⟨⟨i3.1, ?_⟩, fun u hu => i3.2 u hu.1⟩
    rcases i3.1 with h | ⟨d, hd, h⟩
    · omega
    · have := hsz d hd; omega
  refine ⟨nI b1, s, σ1, τ1, ?_, ?_, i2, j2, ok.up⟩
  · show f_X9_bestLimit σ 0 (nI L) (nI c) = _
    unfold f_X9_bestLimit
    rw [x_isAsked hx ok, bd_some, if_pos hb, if_neg (by decide), show f_X9_costByRule σ 0 3 0 (nI L) (nI c) = _ from a0, bd_some]
    exact i1
  · show f_X10_bestLimit τ 139 (nI L) (nI c) = _
    unfold f_X10_bestLimit
    refine (asked_ok ok hb hm _ _).trans ?_
    have hc1 : cfl (sv s) 0 (tK (sv s)) = 1 := (cfl_iff (sv s) 0 (tK (sv s))).mpr (Or.inl rfl)
    rw [fu_succ, fx_succ, show (0 : Int32) = nI 0 from rfl, m43 _ τ _ _ 0 (by decide), mis _ τ _ _ 0 (by decide) hm (tK (sv s)) 0 bl_fu (by omega) (by unfold bl_fu; omega), if_neg (by omega), show nI 0 = (0 : Int32) from rfl, show f_X10_lays τ 139 (nI L) 0 3 0 = _ from e0, bd_some, if_pos rfl]
    unfold b_X10_bestLimit_125 b_X10_bestLimit_136
    rw [e00, bd_some, let_eq, ← eb]
    exact j1
end LIM
