def md_J9_floorMod_7cf53 : List (Nat × Nat) := []
set_option maxRecDepth 100000 in
theorem fr_J9_floorMod_7cf53 {ho : Nat → Bool} (σ : bl_St) (a0 : Int32) (a1 : Int32) (o : Int32 × bl_St) (hw : bl_WT σ) (hh : bl_WH ho σ) (hf : f_J9_floorMod_7cf53 σ a0 a1 = some o) : bl_Fq ho md_J9_floorMod_7cf53 σ o.2 := by
  obtain ⟨σ0, hz⟩ : ∃ z, z = σ := ⟨_, rfl⟩
  suffices hgo : bl_Fq ho md_J9_floorMod_7cf53 σ0 o.2 by rw [hz] at hgo; exact hgo
  have qσ : bl_Fq ho md_J9_floorMod_7cf53 σ0 σ := by rw [hz]; exact ⟨hw, hh, fun _ _ => ⟨rfl, rfl, rfl⟩⟩
  unfold f_J9_floorMod_7cf53 at hf
  obtain ⟨-, hf⟩ := bl_gd_at hf
  obtain ⟨x2, e3⟩ : ∃ z, z = (a0 - a0 / a1 * a1) := ⟨_, rfl⟩
  have hf := bl_let_at e3 hf
  rcases bl_if_at hf with hf | hf
  · rw [← Option.some.inj hf]
    exact qσ
  · rcases bl_if_at hf with hf | hf
    · rw [← Option.some.inj hf]
      exact qσ
    · rw [← Option.some.inj hf]
      exact qσ
def md_X0_next : List (Nat × Nat) := [(0, 1)]
set_option maxRecDepth 100000 in
theorem fr_X0_next {ho : Nat → Bool} (σ : bl_St) (a0 : Nat) (a1 : Int32) (o : Int32 × bl_St) (hw : bl_WT σ) (hh : bl_WH ho σ) (ha0 : bl_sh[a0]? = some (0, 1) ∧ ho a0 = true) (hf : f_X0_next σ a0 a1 = some o) : bl_Fq ho md_X0_next σ o.2 := by
  obtain ⟨σ0, hz⟩ : ∃ z, z = σ := ⟨_, rfl⟩
  suffices hgo : bl_Fq ho md_X0_next σ0 o.2 by rw [hz] at hgo; exact hgo
  have qσ : bl_Fq ho md_X0_next σ0 σ := by rw [hz]; exact ⟨hw, hh, fun _ _ => ⟨rfl, rfl, rfl⟩⟩
  unfold f_X0_next at hf
  obtain ⟨σ1, e2⟩ : ∃ z : bl_St, z = bl_pI σ a0 0 (((bl_I σ a0 0) * 1103515245) + 12345) := ⟨_, rfl⟩
  have hf := bl_let_at e2 hf
  have qσ1 : bl_Fq ho md_X0_next σ0 σ1 := by rw [e2]; exact bl_Fq_I qσ (bl_al_in ha0.1 (by decide) ha0.2)
  rcases bl_if_at hf with hf | hf
  · rw [← Option.some.inj hf]
    exact qσ1
  · obtain ⟨-, hf⟩ := bl_gd_at hf
    rw [← Option.some.inj hf]
    exact qσ1
def md_X8_sortPart : List (Nat × Nat) := []
set_option maxRecDepth 100000 in
theorem fr_X8_sortPart {ho : Nat → Bool} (σ : bl_St) (a0 : Nat) (a1 : Int32) (a2 : Int32) (o : Int32 × bl_St) (hw : bl_WT σ) (hh : bl_WH ho σ) (ha0 : bl_sh[a0]? = some (8, 5)) (hf : f_X8_sortPart σ a0 a1 a2 = some o) : bl_Fq ho md_X8_sortPart σ o.2 := by
  obtain ⟨σ0, hz⟩ : ∃ z, z = σ := ⟨_, rfl⟩
  suffices hgo : bl_Fq ho md_X8_sortPart σ0 o.2 by rw [hz] at hgo; exact hgo
  have qσ : bl_Fq ho md_X8_sortPart σ0 σ := by rw [hz]; exact ⟨hw, hh, fun _ _ => ⟨rfl, rfl, rfl⟩⟩
  have ha0 := And.intro ha0 trivial
  unfold f_X8_sortPart at hf
  have h1 := bl_Fq_gn qσ ha0 (k := 3) rfl
  obtain ⟨-, hf⟩ := bl_gd_at hf
  rw [← Option.some.inj hf]
  exact qσ
def md_X8_allWeights : List (Nat × Nat) := []
set_option maxRecDepth 100000 in
theorem gw_X8_allWeights_4 {ho : Nat → Bool} {σ0 : bl_St} {out : Int32 × bl_St} (k4 : bl_St → Nat → Int32 → Int32 → Option (Int32 × bl_St)) (gk4 : ∀ (σ : bl_St) (v0 : Nat) (v1 : Int32) (v2 : Int32), bl_Fq ho md_X8_allWeights σ0 σ → (bl_sh[v0]? = some (8, 5) ∧ True) → k4 σ v0 v1 v2 = some out → bl_Fq ho md_X8_allWeights σ0 out.2) : ∀ (σ : bl_St) (v0 : Nat) (v1 : Int32) (v2 : Int32), bl_Fq ho md_X8_allWeights σ0 σ → (bl_sh[v0]? = some (8, 5) ∧ True) → (b_X8_allWeights_4 k4) σ v0 v1 v2 = some out → bl_Fq ho md_X8_allWeights σ0 out.2 := by
  intro σ v0 v1 v2 qσ hv0 hf
  unfold b_X8_allWeights_4 at hf
  rcases bl_if_at hf with hf | hf
  · rw [← Option.some.inj hf]
    exact qσ
  · obtain ⟨r2, σ3, h4, hf⟩ := bl_bd_at hf
    have qσ3 := bl_Fq_call qσ (fr_X8_sortPart σ v0 v2 1 _ qσ.1 qσ.2.1 hv0.1 h4) (by decide)
    obtain ⟨x5, e6⟩ : ∃ z, z = (v1 + r2) := ⟨_, rfl⟩
    have hf := bl_let_at e6 hf
    obtain ⟨x7, e8⟩ : ∃ z : Int32, z = v2 + 1 := ⟨_, rfl⟩
    have hf := bl_let_at e8 hf
    exact gk4 σ3 v0 x5 x7 qσ3 hv0 hf
theorem gl_X8_allWeights_4 {ho : Nat → Bool} {σ0 : bl_St} {out : Int32 × bl_St} (n : Nat) : ∀ (σ : bl_St) (v0 : Nat) (v1 : Int32) (v2 : Int32), bl_Fq ho md_X8_allWeights σ0 σ → (bl_sh[v0]? = some (8, 5) ∧ True) → (bl_fx (fun _ _ _ _ => none) (b_X8_allWeights_4 ) n) σ v0 v1 v2 = some out → bl_Fq ho md_X8_allWeights σ0 out.2 := by
  induction n with
  | zero =>
    intro σ v0 v1 v2 qσ hv0 hf
    cases hf
  | succ n ih => exact gw_X8_allWeights_4  _ ih
set_option maxRecDepth 100000 in
theorem fr_X8_allWeights {ho : Nat → Bool} (σ : bl_St) (a0 : Nat) (o : Int32 × bl_St) (hw : bl_WT σ) (hh : bl_WH ho σ) (ha0 : bl_sh[a0]? = some (8, 5)) (hf : f_X8_allWeights σ a0 = some o) : bl_Fq ho md_X8_allWeights σ o.2 := by
  obtain ⟨σ0, hz⟩ : ∃ z, z = σ := ⟨_, rfl⟩
  suffices hgo : bl_Fq ho md_X8_allWeights σ0 o.2 by rw [hz] at hgo; exact hgo
  have qσ : bl_Fq ho md_X8_allWeights σ0 σ := by rw [hz]; exact ⟨hw, hh, fun _ _ => ⟨rfl, rfl, rfl⟩⟩
  have ha0 := And.intro ha0 trivial
  unfold f_X8_allWeights at hf
  exact gl_X8_allWeights_4  bl_fu σ a0 0 0 qσ ha0 hf
def md_X0_nextSort : List (Nat × Nat) := [(0, 1)]
set_option maxRecDepth 100000 in
theorem gw_X0_nextSort_19 {ho : Nat → Bool} {σ0 : bl_St} {out : Int32 × bl_St} (k19 : bl_St → Nat → Int32 → Int32 → Int32 → Option (Int32 × bl_St)) (gk19 : ∀ (σ : bl_St) (v1 : Nat) (v2 : Int32) (v3 : Int32) (v4 : Int32), bl_Fq ho md_X0_nextSort σ0 σ → (bl_sh[v1]? = some (8, 5) ∧ True) → k19 σ v1 v2 v3 v4 = some out → bl_Fq ho md_X0_nextSort σ0 out.2) : ∀ (σ : bl_St) (v1 : Nat) (v2 : Int32) (v3 : Int32) (v4 : Int32), bl_Fq ho md_X0_nextSort σ0 σ → (bl_sh[v1]? = some (8, 5) ∧ True) → (b_X0_nextSort_19 k19) σ v1 v2 v3 v4 = some out → bl_Fq ho md_X0_nextSort σ0 out.2 := by
  intro σ v1 v2 v3 v4 qσ hv1 hf
  unfold b_X0_nextSort_19 at hf
  rcases bl_if_at hf with hf | hf
  · rw [← Option.some.inj hf]
    exact qσ
  · obtain ⟨r2, σ3, h4, hf⟩ := bl_bd_at hf
    have qσ3 := bl_Fq_call qσ (fr_X8_sortPart σ v1 v4 1 _ qσ.1 qσ.2.1 hv1.1 h4) (by decide)
    obtain ⟨x5, e6⟩ : ∃ z, z = (v2 - r2) := ⟨_, rfl⟩
    have hf := bl_let_at e6 hf
    rcases bl_if_at hf with hf | hf
    · obtain ⟨x8, e9⟩ : ∃ z : Int32, z = v4 + 1 := ⟨_, rfl⟩
      have hf := bl_let_at e9 hf
      exact gk19 σ3 v1 x5 v3 x8 qσ3 hv1 hf
    · rw [← Option.some.inj hf]
      exact qσ3
theorem gl_X0_nextSort_19 {ho : Nat → Bool} {σ0 : bl_St} {out : Int32 × bl_St} (n : Nat) : ∀ (σ : bl_St) (v1 : Nat) (v2 : Int32) (v3 : Int32) (v4 : Int32), bl_Fq ho md_X0_nextSort σ0 σ → (bl_sh[v1]? = some (8, 5) ∧ True) → (bl_fx (fun _ _ _ _ _ => none) (b_X0_nextSort_19 ) n) σ v1 v2 v3 v4 = some out → bl_Fq ho md_X0_nextSort σ0 out.2 := by
  induction n with
  | zero =>
    intro σ v1 v2 v3 v4 qσ hv1 hf
    cases hf
  | succ n ih => exact gw_X0_nextSort_19  _ ih
set_option maxRecDepth 100000 in
theorem fr_X0_nextSort {ho : Nat → Bool} (σ : bl_St) (a0 : Nat) (a1 : Nat) (o : Int32 × bl_St) (hw : bl_WT σ) (hh : bl_WH ho σ) (ha0 : bl_sh[a0]? = some (0, 1) ∧ ho a0 = true) (ha1 : bl_sh[a1]? = some (8, 5)) (hf : f_X0_nextSort σ a0 a1 = some o) : bl_Fq ho md_X0_nextSort σ o.2 := by
  obtain ⟨σ0, hz⟩ : ∃ z, z = σ := ⟨_, rfl⟩
  suffices hgo : bl_Fq ho md_X0_nextSort σ0 o.2 by rw [hz] at hgo; exact hgo
  have qσ : bl_Fq ho md_X0_nextSort σ0 σ := by rw [hz]; exact ⟨hw, hh, fun _ _ => ⟨rfl, rfl, rfl⟩⟩
  have ha1 := And.intro ha1 trivial
  unfold f_X0_nextSort at hf
  obtain ⟨r10, σ11, h12, hf⟩ := bl_bd_at hf
  have qσ11 := bl_Fq_call qσ (fr_X8_allWeights σ a1 _ qσ.1 qσ.2.1 ha1.1 h12) (by decide)
  obtain ⟨r13, σ14, h15, hf⟩ := bl_bd_at hf
  have qσ14 := bl_Fq_call qσ11 (fr_X0_next σ11 a0 r10 _ qσ11.1 qσ11.2.1 ha0 h15) (by decide)
  obtain ⟨x16, e17⟩ : ∃ z, z = ((bl_I σ14 a1 1) - 1) := ⟨_, rfl⟩
  have hf := bl_let_at e17 hf
  exact gl_X0_nextSort_19  bl_fu σ14 a1 r13 x16 0 qσ14 ha1 hf
def md_X1_index : List (Nat × Nat) := []
set_option maxRecDepth 100000 in
theorem fr_X1_index {ho : Nat → Bool} (σ : bl_St) (a0 : Int32) (a1 : Int32) (a2 : Int32) (o : Int32 × bl_St) (hw : bl_WT σ) (hh : bl_WH ho σ) (hf : f_X1_index σ a0 a1 a2 = some o) : bl_Fq ho md_X1_index σ o.2 := by
  obtain ⟨σ0, hz⟩ : ∃ z, z = σ := ⟨_, rfl⟩
  suffices hgo : bl_Fq ho md_X1_index σ0 o.2 by rw [hz] at hgo; exact hgo
  have qσ : bl_Fq ho md_X1_index σ0 σ := by rw [hz]; exact ⟨hw, hh, fun _ _ => ⟨rfl, rfl, rfl⟩⟩
  unfold f_X1_index at hf
  rw [← Option.some.inj hf]
  exact qσ
def md_X1_toldCost : List (Nat × Nat) := []
set_option maxRecDepth 100000 in
theorem fr_X1_toldCost {ho : Nat → Bool} (σ : bl_St) (a0 : Nat) (a1 : Int32) (a2 : Int32) (a3 : Int32) (o : Int64 × bl_St) (hw : bl_WT σ) (hh : bl_WH ho σ) (ha0 : bl_sh[a0]? = some (1, 4)) (hf : f_X1_toldCost σ a0 a1 a2 a3 = some o) : bl_Fq ho md_X1_toldCost σ o.2 := by
  obtain ⟨σ0, hz⟩ : ∃ z, z = σ := ⟨_, rfl⟩
  suffices hgo : bl_Fq ho md_X1_toldCost σ0 o.2 by rw [hz] at hgo; exact hgo
  have qσ : bl_Fq ho md_X1_toldCost σ0 σ := by rw [hz]; exact ⟨hw, hh, fun _ _ => ⟨rfl, rfl, rfl⟩⟩
  have ha0 := And.intro ha0 trivial
  unfold f_X1_toldCost at hf
  have h1 := bl_Fq_gn qσ ha0 (k := 2) rfl
  obtain ⟨r2, σ3, h4, hf⟩ := bl_bd_at hf
  have qσ3 := bl_Fq_call qσ (fr_X1_index σ (a1 + 1) (if (a2 + 1) < 2 then (a2 + 1) else 2) a3 _ qσ.1 qσ.2.1  h4) (by decide)
  obtain ⟨-, hf⟩ := bl_gd_at hf
  obtain ⟨x6, e7⟩ : ∃ z, z = (bl_J σ3 (bl_R σ a0 2) (Int32.toNatClampNeg r2)) := ⟨_, rfl⟩
  have hf := bl_let_at e7 hf
  have h8 := bl_Fq_gn qσ3 ha0 (k := 2) rfl
  obtain ⟨r9, σ10, h11, hf⟩ := bl_bd_at hf
  have qσ10 := bl_Fq_call qσ3 (fr_X1_index σ3 (a1 + 1) a2 (if (a3 + 1) < 2 then (a3 + 1) else 2) _ qσ3.1 qσ3.2.1  h11) (by decide)
  obtain ⟨-, hf⟩ := bl_gd_at hf
  obtain ⟨x13, e14⟩ : ∃ z, z = (bl_J σ10 (bl_R σ3 a0 2) (Int32.toNatClampNeg r9)) := ⟨_, rfl⟩
  have hf := bl_let_at e14 hf
  rw [← Option.some.inj hf]
  exact qσ10
def md_X3_lossCost : List (Nat × Nat) := []
set_option maxRecDepth 100000 in
theorem fr_X3_lossCost {ho : Nat → Bool} (σ : bl_St) (a0 : Nat) (a1 : Int32) (a2 : Int64) (a4 : Int64) (o : Int64 × bl_St) (hw : bl_WT σ) (hh : bl_WH ho σ) (ha0 : bl_sh[a0]? = some (3, 8)) (hf : f_X3_lossCost σ a0 a1 a2 a4 = some o) : bl_Fq ho md_X3_lossCost σ o.2 := by
  obtain ⟨σ0, hz⟩ : ∃ z, z = σ := ⟨_, rfl⟩
  suffices hgo : bl_Fq ho md_X3_lossCost σ0 o.2 by rw [hz] at hgo; exact hgo
  have qσ : bl_Fq ho md_X3_lossCost σ0 σ := by rw [hz]; exact ⟨hw, hh, fun _ _ => ⟨rfl, rfl, rfl⟩⟩
  have ha0 := And.intro ha0 trivial
  unfold f_X3_lossCost at hf
  have h1 := bl_Fq_gn qσ ha0 (k := 5) rfl
  obtain ⟨-, hf⟩ := bl_gd_at hf
  obtain ⟨x3, e4⟩ : ∃ z, z = ((bl_J σ (bl_R σ a0 5) (Int32.toNatClampNeg a1)) + a4) := ⟨_, rfl⟩
  have hf := bl_let_at e4 hf
  have h5 := bl_Fq_gn qσ ha0 (k := 4) rfl
  obtain ⟨-, hf⟩ := bl_gd_at hf
  obtain ⟨x7, e8⟩ : ∃ z, z = ((bl_J σ (bl_R σ a0 4) (Int32.toNatClampNeg a1)) + a2) := ⟨_, rfl⟩
  have hf := bl_let_at e8 hf
  have h9 := bl_Fq_gn qσ ha0 (k := 7) rfl
  obtain ⟨-, hf⟩ := bl_gd_at hf
  rcases bl_if_at hf with hf | hf
  · rcases bl_if_at hf with hf | hf
    · rw [← Option.some.inj hf]
      exact qσ
    · rw [← Option.some.inj hf]
      exact qσ
  · have h12 := bl_Fq_gn qσ ha0 (k := 7) rfl
    obtain ⟨-, hf⟩ := bl_gd_at hf
    rcases bl_if_at hf with hf | hf
    · rw [← Option.some.inj hf]
      exact qσ
    · rw [← Option.some.inj hf]
      exact qσ
def md_X3_chanceCost : List (Nat × Nat) := []
set_option maxRecDepth 100000 in
theorem gw_X3_chanceCost_24 {ho : Nat → Bool} {σ0 : bl_St} {out : Int64 × bl_St} (k24 : bl_St → Nat → Int64 → Int64 → Int64 → Int64 → Int32 → Option (Int64 × bl_St)) (gk24 : ∀ (σ : bl_St) (v0 : Nat) (v1 : Int64) (v3 : Int64) (v5 : Int64) (v7 : Int64) (v9 : Int32), bl_Fq ho md_X3_chanceCost σ0 σ → (bl_sh[v0]? = some (3, 8) ∧ True) → k24 σ v0 v1 v3 v5 v7 v9 = some out → bl_Fq ho md_X3_chanceCost σ0 out.2) : ∀ (σ : bl_St) (v0 : Nat) (v1 : Int64) (v3 : Int64) (v5 : Int64) (v7 : Int64) (v9 : Int32), bl_Fq ho md_X3_chanceCost σ0 σ → (bl_sh[v0]? = some (3, 8) ∧ True) → (b_X3_chanceCost_24 k24) σ v0 v1 v3 v5 v7 v9 = some out → bl_Fq ho md_X3_chanceCost σ0 out.2 := by
  intro σ v0 v1 v3 v5 v7 v9 qσ hv0 hf
  unfold b_X3_chanceCost_24 at hf
  rcases bl_if_at hf with hf | hf
  · obtain ⟨x2, e3⟩ : ∃ z, z = (12 * (bl_J σ v0 2)) := ⟨_, rfl⟩
    have hf := bl_let_at e3 hf
    rcases bl_if_at hf with hf | hf
    · rw [← Option.some.inj hf]
      exact qσ
    · rcases bl_if_at hf with hf | hf
      · rcases bl_if_at hf with hf | hf
        · obtain ⟨-, hf⟩ := bl_gd_at hf
          rw [← Option.some.inj hf]
          exact qσ
        · rw [← Option.some.inj hf]
          exact qσ
      · rw [← Option.some.inj hf]
        exact qσ
  · obtain ⟨r8, σ9, h10, hf⟩ := bl_bd_at hf
    have qσ9 := bl_Fq_call qσ (fr_X3_lossCost σ v0 v9 v1 v3 _ qσ.1 qσ.2.1 hv0.1 h10) (by decide)
    have h11 := bl_Fq_gn qσ9 hv0 (k := 6) rfl
    obtain ⟨-, hf⟩ := bl_gd_at hf
    obtain ⟨x13, e14⟩ : ∃ z, z = (v5 + ((bl_J σ9 (bl_R σ9 v0 6) (Int32.toNatClampNeg v9)) * r8)) := ⟨_, rfl⟩
    have hf := bl_let_at e14 hf
    obtain ⟨x15, e16⟩ : ∃ z, z = (if r8 < v7 then v7 else r8) := ⟨_, rfl⟩
    have hf := bl_let_at e16 hf
    obtain ⟨x17, e18⟩ : ∃ z : Int32, z = v9 + 1 := ⟨_, rfl⟩
    have hf := bl_let_at e18 hf
    exact gk24 σ9 v0 v1 v3 x13 x15 x17 qσ9 hv0 hf
theorem gl_X3_chanceCost_24 {ho : Nat → Bool} {σ0 : bl_St} {out : Int64 × bl_St} (n : Nat) : ∀ (σ : bl_St) (v0 : Nat) (v1 : Int64) (v3 : Int64) (v5 : Int64) (v7 : Int64) (v9 : Int32), bl_Fq ho md_X3_chanceCost σ0 σ → (bl_sh[v0]? = some (3, 8) ∧ True) → (bl_fx (fun _ _ _ _ _ _ _ => none) (b_X3_chanceCost_24 ) n) σ v0 v1 v3 v5 v7 v9 = some out → bl_Fq ho md_X3_chanceCost σ0 out.2 := by
  induction n with
  | zero =>
    intro σ v0 v1 v3 v5 v7 v9 qσ hv0 hf
    cases hf
  | succ n ih => exact gw_X3_chanceCost_24  _ ih
set_option maxRecDepth 100000 in
theorem gw_X3_chanceCost_19 {ho : Nat → Bool} {σ0 : bl_St} {out : Int64 × bl_St} : ∀ (σ : bl_St) (v0 : Nat) (v1 : Int64) (v3 : Int64) (v5 : Int64) (s0 : Int64), bl_Fq ho md_X3_chanceCost σ0 σ → (bl_sh[v0]? = some (3, 8) ∧ True) → (b_X3_chanceCost_19 ) σ v0 v1 v3 v5 s0 = some out → bl_Fq ho md_X3_chanceCost σ0 out.2 := by
  intro σ v0 v1 v3 v5 s0 qσ hv0 hf
  unfold b_X3_chanceCost_19 at hf
  exact gl_X3_chanceCost_24  bl_fu σ v0 v1 v3 v5 s0 0 qσ hv0 hf
set_option maxRecDepth 100000 in
theorem fr_X3_chanceCost {ho : Nat → Bool} (σ : bl_St) (a0 : Nat) (a1 : Int64) (a3 : Int64) (o : Int64 × bl_St) (hw : bl_WT σ) (hh : bl_WH ho σ) (ha0 : bl_sh[a0]? = some (3, 8)) (hf : f_X3_chanceCost σ a0 a1 a3 = some o) : bl_Fq ho md_X3_chanceCost σ o.2 := by
  obtain ⟨σ0, hz⟩ : ∃ z, z = σ := ⟨_, rfl⟩
  suffices hgo : bl_Fq ho md_X3_chanceCost σ0 o.2 by rw [hz] at hgo; exact hgo
  have qσ : bl_Fq ho md_X3_chanceCost σ0 σ := by rw [hz]; exact ⟨hw, hh, fun _ _ => ⟨rfl, rfl, rfl⟩⟩
  have ha0 := And.intro ha0 trivial
  unfold f_X3_chanceCost at hf
  rcases bl_if_at hf with hf | hf
  · exact gw_X3_chanceCost_19  σ a0 a1 a3 0 0 qσ ha0 hf
  · exact gw_X3_chanceCost_19  σ a0 a1 a3 0 a1 qσ ha0 hf
def md_X8_chances : List (Nat × Nat) := []
set_option maxRecDepth 100000 in
theorem fr_X8_chances {ho : Nat → Bool} (σ : bl_St) (a0 : Nat) (o : Int32 × bl_St) (hw : bl_WT σ) (hh : bl_WH ho σ) (ha0 : bl_sh[a0]? = some (8, 5)) (hf : f_X8_chances σ a0 = some o) : bl_Fq ho md_X8_chances σ o.2 := by
  obtain ⟨σ0, hz⟩ : ∃ z, z = σ := ⟨_, rfl⟩
  suffices hgo : bl_Fq ho md_X8_chances σ0 o.2 by rw [hz] at hgo; exact hgo
  have qσ : bl_Fq ho md_X8_chances σ0 σ := by rw [hz]; exact ⟨hw, hh, fun _ _ => ⟨rfl, rfl, rfl⟩⟩
  have ha0 := And.intro ha0 trivial
  unfold f_X8_chances at hf
  have h1 := bl_Fq_gn qσ ha0 (k := 4) rfl
  rw [← Option.some.inj hf]
  exact qσ
def md_X8_next : List (Nat × Nat) := []
set_option maxRecDepth 100000 in
theorem fr_X8_next {ho : Nat → Bool} (σ : bl_St) (a0 : Nat) (a1 : Int32) (a2 : Int32) (o : Int32 × bl_St) (hw : bl_WT σ) (hh : bl_WH ho σ) (ha0 : bl_sh[a0]? = some (8, 5)) (hf : f_X8_next σ a0 a1 a2 = some o) : bl_Fq ho md_X8_next σ o.2 := by
  obtain ⟨σ0, hz⟩ : ∃ z, z = σ := ⟨_, rfl⟩
  suffices hgo : bl_Fq ho md_X8_next σ0 o.2 by rw [hz] at hgo; exact hgo
  have qσ : bl_Fq ho md_X8_next σ0 σ := by rw [hz]; exact ⟨hw, hh, fun _ _ => ⟨rfl, rfl, rfl⟩⟩
  have ha0 := And.intro ha0 trivial
  unfold f_X8_next at hf
  have h1 := bl_Fq_gn qσ ha0 (k := 2) rfl
  obtain ⟨-, hf⟩ := bl_gd_at hf
  rw [← Option.some.inj hf]
  exact qσ
def md_X1_costBehindPremiums : List (Nat × Nat) := [(21, 63)]
set_option maxRecDepth 100000 in
theorem gw_X1_costBehindPremiums_103 {ho : Nat → Bool} {σ0 : bl_St} {out : Int64 × bl_St} (k89 : bl_St → Nat → Int32 → Int32 → Option (Int64 × bl_St)) (gk89 : ∀ (σ : bl_St) (v0 : Nat) (v5 : Int32) (v6 : Int32), bl_Fq ho md_X1_costBehindPremiums σ0 σ → (bl_sh[v0]? = some (1, 4) ∧ ho v0 = true) → k89 σ v0 v5 v6 = some out → bl_Fq ho md_X1_costBehindPremiums σ0 out.2) (k103 : bl_St → Nat → Int32 → Int32 → Int32 → Option (Int64 × bl_St)) (gk103 : ∀ (σ : bl_St) (v0 : Nat) (v5 : Int32) (v6 : Int32) (v7 : Int32), bl_Fq ho md_X1_costBehindPremiums σ0 σ → (bl_sh[v0]? = some (1, 4) ∧ ho v0 = true) → k103 σ v0 v5 v6 v7 = some out → bl_Fq ho md_X1_costBehindPremiums σ0 out.2) : ∀ (σ : bl_St) (v0 : Nat) (v5 : Int32) (v6 : Int32) (v7 : Int32), bl_Fq ho md_X1_costBehindPremiums σ0 σ → (bl_sh[v0]? = some (1, 4) ∧ ho v0 = true) → (b_X1_costBehindPremiums_103 k89 k103) σ v0 v5 v6 v7 = some out → bl_Fq ho md_X1_costBehindPremiums σ0 out.2 := by
  intro σ v0 v5 v6 v7 qσ hv0 hf
  unfold b_X1_costBehindPremiums_103 at hf
  rcases bl_if_at hf with hf | hf
  · obtain ⟨x2, e3⟩ : ∃ z : Int32, z = v6 + 1 := ⟨_, rfl⟩
    have hf := bl_let_at e3 hf
    exact gk89 σ v0 v5 x2 qσ hv0 hf
  · have h4 := bl_Fq_g qσ hv0 (k := 2) rfl (by decide)
    obtain ⟨r5, σ6, h7, hf⟩ := bl_bd_at hf
    have qσ6 := bl_Fq_call qσ (fr_X1_index σ v5 v6 v7 _ qσ.1 qσ.2.1  h7) (by decide)
    have h8 := bl_Fq_g qσ6 hv0 (k := 3) rfl (by decide)
    have h9 := bl_Fq_g qσ6 hv0 (k := 2) rfl (by decide)
    obtain ⟨r10, σ11, h12, hf⟩ := bl_bd_at hf
    have qσ11 := bl_Fq_call qσ6 (fr_X1_index σ6 (v5 + 1) v6 v7 _ qσ6.1 qσ6.2.1  h12) (by decide)
    obtain ⟨-, hf⟩ := bl_gd_at hf
    obtain ⟨r14, σ15, h16, hf⟩ := bl_bd_at hf
    have qσ15 := bl_Fq_call qσ11 (fr_X1_toldCost σ11 v0 v5 v6 v7 _ qσ11.1 qσ11.2.1 hv0.1 h16) (by decide)
    obtain ⟨r17, σ18, h19, hf⟩ := bl_bd_at hf
    have qσ18 := bl_Fq_call qσ15 (fr_X3_chanceCost σ15 (bl_R σ6 v0 3) (bl_J σ11 (bl_R σ6 v0 2) (Int32.toNatClampNeg r10)) r14 _ qσ15.1 qσ15.2.1 h8.1 h19) (by decide)
    obtain ⟨-, hf⟩ := bl_gd_at hf
    obtain ⟨σ21, e22⟩ : ∃ z : bl_St, z = bl_pJ σ18 (bl_R σ v0 2) (Int32.toNatClampNeg r5) r17 := ⟨_, rfl⟩
    have hf := bl_let_at e22 hf
    have qσ21 : bl_Fq ho md_X1_costBehindPremiums σ0 σ21 := by rw [e22]; exact bl_Fq_J qσ18 (bl_al_in h4.1 (by decide) h4.2)
    obtain ⟨x23, e24⟩ : ∃ z : Int32, z = v7 + 1 := ⟨_, rfl⟩
    have hf := bl_let_at e24 hf
    exact gk103 σ21 v0 v5 v6 x23 qσ21 hv0 hf
theorem gl_X1_costBehindPremiums_103 {ho : Nat → Bool} {σ0 : bl_St} {out : Int64 × bl_St} (k89 : bl_St → Nat → Int32 → Int32 → Option (Int64 × bl_St)) (gk89 : ∀ (σ : bl_St) (v0 : Nat) (v5 : Int32) (v6 : Int32), bl_Fq ho md_X1_costBehindPremiums σ0 σ → (bl_sh[v0]? = some (1, 4) ∧ ho v0 = true) → k89 σ v0 v5 v6 = some out → bl_Fq ho md_X1_costBehindPremiums σ0 out.2) (n : Nat) : ∀ (σ : bl_St) (v0 : Nat) (v5 : Int32) (v6 : Int32) (v7 : Int32), bl_Fq ho md_X1_costBehindPremiums σ0 σ → (bl_sh[v0]? = some (1, 4) ∧ ho v0 = true) → (bl_fx (fun _ _ _ _ _ => none) (b_X1_costBehindPremiums_103 k89) n) σ v0 v5 v6 v7 = some out → bl_Fq ho md_X1_costBehindPremiums σ0 out.2 := by
  induction n with
  | zero =>
    intro σ v0 v5 v6 v7 qσ hv0 hf
    cases hf
  | succ n ih => exact gw_X1_costBehindPremiums_103 k89 gk89 _ ih
set_option maxRecDepth 100000 in
theorem gw_X1_costBehindPremiums_89 {ho : Nat → Bool} {σ0 : bl_St} {out : Int64 × bl_St} (k81 : bl_St → Nat → Int32 → Option (Int64 × bl_St)) (gk81 : ∀ (σ : bl_St) (v0 : Nat) (v5 : Int32), bl_Fq ho md_X1_costBehindPremiums σ0 σ → (bl_sh[v0]? = some (1, 4) ∧ ho v0 = true) → k81 σ v0 v5 = some out → bl_Fq ho md_X1_costBehindPremiums σ0 out.2) (k89 : bl_St → Nat → Int32 → Int32 → Option (Int64 × bl_St)) (gk89 : ∀ (σ : bl_St) (v0 : Nat) (v5 : Int32) (v6 : Int32), bl_Fq ho md_X1_costBehindPremiums σ0 σ → (bl_sh[v0]? = some (1, 4) ∧ ho v0 = true) → k89 σ v0 v5 v6 = some out → bl_Fq ho md_X1_costBehindPremiums σ0 out.2) : ∀ (σ : bl_St) (v0 : Nat) (v5 : Int32) (v6 : Int32), bl_Fq ho md_X1_costBehindPremiums σ0 σ → (bl_sh[v0]? = some (1, 4) ∧ ho v0 = true) → (b_X1_costBehindPremiums_89 k81 k89) σ v0 v5 v6 = some out → bl_Fq ho md_X1_costBehindPremiums σ0 out.2 := by
  intro σ v0 v5 v6 qσ hv0 hf
  unfold b_X1_costBehindPremiums_89 at hf
  rcases bl_if_at hf with hf | hf
  · obtain ⟨x26, e27⟩ : ∃ z : Int32, z = v5 + (-1) := ⟨_, rfl⟩
    have hf := bl_let_at e27 hf
    exact gk81 σ v0 x26 qσ hv0 hf
  · exact gl_X1_costBehindPremiums_103 k89 gk89 bl_fu σ v0 v5 v6 0 qσ hv0 hf
theorem gl_X1_costBehindPremiums_89 {ho : Nat → Bool} {σ0 : bl_St} {out : Int64 × bl_St} (k81 : bl_St → Nat → Int32 → Option (Int64 × bl_St)) (gk81 : ∀ (σ : bl_St) (v0 : Nat) (v5 : Int32), bl_Fq ho md_X1_costBehindPremiums σ0 σ → (bl_sh[v0]? = some (1, 4) ∧ ho v0 = true) → k81 σ v0 v5 = some out → bl_Fq ho md_X1_costBehindPremiums σ0 out.2) (n : Nat) : ∀ (σ : bl_St) (v0 : Nat) (v5 : Int32) (v6 : Int32), bl_Fq ho md_X1_costBehindPremiums σ0 σ → (bl_sh[v0]? = some (1, 4) ∧ ho v0 = true) → (bl_fx (fun _ _ _ _ => none) (b_X1_costBehindPremiums_89 k81) n) σ v0 v5 v6 = some out → bl_Fq ho md_X1_costBehindPremiums σ0 out.2 := by
  induction n with
  | zero =>
    intro σ v0 v5 v6 qσ hv0 hf
    cases hf
  | succ n ih => exact gw_X1_costBehindPremiums_89 k81 gk81 _ ih
set_option maxRecDepth 100000 in
theorem gw_X1_costBehindPremiums_81 {ho : Nat → Bool} {σ0 : bl_St} {out : Int64 × bl_St} (k81 : bl_St → Nat → Int32 → Option (Int64 × bl_St)) (gk81 : ∀ (σ : bl_St) (v0 : Nat) (v5 : Int32), bl_Fq ho md_X1_costBehindPremiums σ0 σ → (bl_sh[v0]? = some (1, 4) ∧ ho v0 = true) → k81 σ v0 v5 = some out → bl_Fq ho md_X1_costBehindPremiums σ0 out.2) : ∀ (σ : bl_St) (v0 : Nat) (v5 : Int32), bl_Fq ho md_X1_costBehindPremiums σ0 σ → (bl_sh[v0]? = some (1, 4) ∧ ho v0 = true) → (b_X1_costBehindPremiums_81 k81) σ v0 v5 = some out → bl_Fq ho md_X1_costBehindPremiums σ0 out.2 := by
  intro σ v0 v5 qσ hv0 hf
  unfold b_X1_costBehindPremiums_81 at hf
  rcases bl_if_at hf with hf | hf
  · have h29 := bl_Fq_g qσ hv0 (k := 2) rfl (by decide)
    obtain ⟨r30, σ31, h32, hf⟩ := bl_bd_at hf
    have qσ31 := bl_Fq_call qσ (fr_X1_index σ 0 0 0 _ qσ.1 qσ.2.1  h32) (by decide)
    obtain ⟨-, hf⟩ := bl_gd_at hf
    rw [← Option.some.inj hf]
    exact qσ31
  · exact gl_X1_costBehindPremiums_89 k81 gk81 bl_fu σ v0 v5 0 qσ hv0 hf
theorem gl_X1_costBehindPremiums_81 {ho : Nat → Bool} {σ0 : bl_St} {out : Int64 × bl_St} (n : Nat) : ∀ (σ : bl_St) (v0 : Nat) (v5 : Int32), bl_Fq ho md_X1_costBehindPremiums σ0 σ → (bl_sh[v0]? = some (1, 4) ∧ ho v0 = true) → (bl_fx (fun _ _ _ => none) (b_X1_costBehindPremiums_81 ) n) σ v0 v5 = some out → bl_Fq ho md_X1_costBehindPremiums σ0 out.2 := by
  induction n with
  | zero =>
    intro σ v0 v5 qσ hv0 hf
    cases hf
  | succ n ih => exact gw_X1_costBehindPremiums_81  _ ih
set_option maxRecDepth 100000 in
theorem gw_X1_costBehindPremiums_20 {ho : Nat → Bool} {σ0 : bl_St} {out : Int64 × bl_St} (k11 : bl_St → Nat → Nat → Int32 → Int32 → Int32 → Int32 → Option (Int64 × bl_St)) (gk11 : ∀ (σ : bl_St) (v0 : Nat) (v1 : Nat) (v2 : Int32) (v3 : Int32) (v4 : Int32) (v5 : Int32), bl_Fq ho md_X1_costBehindPremiums σ0 σ → (bl_sh[v0]? = some (1, 4) ∧ ho v0 = true) → (bl_sh[v1]? = some (8, 5) ∧ True) → k11 σ v0 v1 v2 v3 v4 v5 = some out → bl_Fq ho md_X1_costBehindPremiums σ0 out.2) (k20 : bl_St → Nat → Nat → Int32 → Int32 → Int32 → Int32 → Int32 → Option (Int64 × bl_St)) (gk20 : ∀ (σ : bl_St) (v0 : Nat) (v1 : Nat) (v2 : Int32) (v3 : Int32) (v4 : Int32) (v5 : Int32) (v6 : Int32), bl_Fq ho md_X1_costBehindPremiums σ0 σ → (bl_sh[v0]? = some (1, 4) ∧ ho v0 = true) → (bl_sh[v1]? = some (8, 5) ∧ True) → k20 σ v0 v1 v2 v3 v4 v5 v6 = some out → bl_Fq ho md_X1_costBehindPremiums σ0 out.2) : ∀ (σ : bl_St) (v0 : Nat) (v1 : Nat) (v2 : Int32) (v3 : Int32) (v4 : Int32) (v5 : Int32) (v6 : Int32), bl_Fq ho md_X1_costBehindPremiums σ0 σ → (bl_sh[v0]? = some (1, 4) ∧ ho v0 = true) → (bl_sh[v1]? = some (8, 5) ∧ True) → (b_X1_costBehindPremiums_20 k11 k20) σ v0 v1 v2 v3 v4 v5 v6 = some out → bl_Fq ho md_X1_costBehindPremiums σ0 out.2 := by
  intro σ v0 v1 v2 v3 v4 v5 v6 qσ hv0 hv1 hf
  unfold b_X1_costBehindPremiums_20 at hf
  rcases bl_if_at hf with hf | hf
  · obtain ⟨x35, e36⟩ : ∃ z : Int32, z = v5 + 1 := ⟨_, rfl⟩
    have hf := bl_let_at e36 hf
    exact gk11 σ v0 v1 v2 v3 v4 x35 qσ hv0 hv1 hf
  · have h37 := bl_Fq_g qσ hv0 (k := 2) rfl (by decide)
    obtain ⟨r38, σ39, h40, hf⟩ := bl_bd_at hf
    have qσ39 := bl_Fq_call qσ (fr_X1_index σ v4 v5 v6 _ qσ.1 qσ.2.1  h40) (by decide)
    have h41 := bl_Fq_g qσ39 hv0 (k := 1) rfl (by decide)
    obtain ⟨r42, σ43, h44, hf⟩ := bl_bd_at hf
    have qσ43 := bl_Fq_call qσ39 (fr_X8_next σ39 v1 v2 v5 _ qσ39.1 qσ39.2.1 hv1.1 h44) (by decide)
    obtain ⟨r45, σ46, h47, hf⟩ := bl_bd_at hf
    have qσ46 := bl_Fq_call qσ43 (fr_X8_next σ43 v1 v3 v6 _ qσ43.1 qσ43.2.1 hv1.1 h47) (by decide)
    obtain ⟨-, hf⟩ := bl_gd_at hf
    obtain ⟨-, hf⟩ := bl_gd_at hf
    obtain ⟨σ50, e51⟩ : ∃ z : bl_St, z = bl_pJ σ46 (bl_R σ v0 2) (Int32.toNatClampNeg r38) (bl_J σ46 (bl_R σ39 v0 1) (Int32.toNatClampNeg ((r42 * 8) + r45))) := ⟨_, rfl⟩
    have hf := bl_let_at e51 hf
    have qσ50 : bl_Fq ho md_X1_costBehindPremiums σ0 σ50 := by rw [e51]; exact bl_Fq_J qσ46 (bl_al_in h37.1 (by decide) h37.2)
    obtain ⟨x52, e53⟩ : ∃ z : Int32, z = v6 + 1 := ⟨_, rfl⟩
    have hf := bl_let_at e53 hf
    exact gk20 σ50 v0 v1 v2 v3 v4 v5 x52 qσ50 hv0 hv1 hf
theorem gl_X1_costBehindPremiums_20 {ho : Nat → Bool} {σ0 : bl_St} {out : Int64 × bl_St} (k11 : bl_St → Nat → Nat → Int32 → Int32 → Int32 → Int32 → Option (Int64 × bl_St)) (gk11 : ∀ (σ : bl_St) (v0 : Nat) (v1 : Nat) (v2 : Int32) (v3 : Int32) (v4 : Int32) (v5 : Int32), bl_Fq ho md_X1_costBehindPremiums σ0 σ → (bl_sh[v0]? = some (1, 4) ∧ ho v0 = true) → (bl_sh[v1]? = some (8, 5) ∧ True) → k11 σ v0 v1 v2 v3 v4 v5 = some out → bl_Fq ho md_X1_costBehindPremiums σ0 out.2) (n : Nat) : ∀ (σ : bl_St) (v0 : Nat) (v1 : Nat) (v2 : Int32) (v3 : Int32) (v4 : Int32) (v5 : Int32) (v6 : Int32), bl_Fq ho md_X1_costBehindPremiums σ0 σ → (bl_sh[v0]? = some (1, 4) ∧ ho v0 = true) → (bl_sh[v1]? = some (8, 5) ∧ True) → (bl_fx (fun _ _ _ _ _ _ _ _ => none) (b_X1_costBehindPremiums_20 k11) n) σ v0 v1 v2 v3 v4 v5 v6 = some out → bl_Fq ho md_X1_costBehindPremiums σ0 out.2 := by
  induction n with
  | zero =>
    intro σ v0 v1 v2 v3 v4 v5 v6 qσ hv0 hv1 hf
    cases hf
  | succ n ih => exact gw_X1_costBehindPremiums_20 k11 gk11 _ ih
set_option maxRecDepth 100000 in
theorem gw_X1_costBehindPremiums_11 {ho : Nat → Bool} {σ0 : bl_St} {out : Int64 × bl_St} (k11 : bl_St → Nat → Nat → Int32 → Int32 → Int32 → Int32 → Option (Int64 × bl_St)) (gk11 : ∀ (σ : bl_St) (v0 : Nat) (v1 : Nat) (v2 : Int32) (v3 : Int32) (v4 : Int32) (v5 : Int32), bl_Fq ho md_X1_costBehindPremiums σ0 σ → (bl_sh[v0]? = some (1, 4) ∧ ho v0 = true) → (bl_sh[v1]? = some (8, 5) ∧ True) → k11 σ v0 v1 v2 v3 v4 v5 = some out → bl_Fq ho md_X1_costBehindPremiums σ0 out.2) : ∀ (σ : bl_St) (v0 : Nat) (v1 : Nat) (v2 : Int32) (v3 : Int32) (v4 : Int32) (v5 : Int32), bl_Fq ho md_X1_costBehindPremiums σ0 σ → (bl_sh[v0]? = some (1, 4) ∧ ho v0 = true) → (bl_sh[v1]? = some (8, 5) ∧ True) → (b_X1_costBehindPremiums_11 k11) σ v0 v1 v2 v3 v4 v5 = some out → bl_Fq ho md_X1_costBehindPremiums σ0 out.2 := by
  intro σ v0 v1 v2 v3 v4 v5 qσ hv0 hv1 hf
  unfold b_X1_costBehindPremiums_11 at hf
  rcases bl_if_at hf with hf | hf
  · obtain ⟨x55, e56⟩ : ∃ z, z = (v4 - 1) := ⟨_, rfl⟩
    have hf := bl_let_at e56 hf
    exact gl_X1_costBehindPremiums_81  bl_fu σ v0 x55 qσ hv0 hf
  · exact gl_X1_costBehindPremiums_20 k11 gk11 bl_fu σ v0 v1 v2 v3 v4 v5 0 qσ hv0 hv1 hf
theorem gl_X1_costBehindPremiums_11 {ho : Nat → Bool} {σ0 : bl_St} {out : Int64 × bl_St} (n : Nat) : ∀ (σ : bl_St) (v0 : Nat) (v1 : Nat) (v2 : Int32) (v3 : Int32) (v4 : Int32) (v5 : Int32), bl_Fq ho md_X1_costBehindPremiums σ0 σ → (bl_sh[v0]? = some (1, 4) ∧ ho v0 = true) → (bl_sh[v1]? = some (8, 5) ∧ True) → (bl_fx (fun _ _ _ _ _ _ _ => none) (b_X1_costBehindPremiums_11 ) n) σ v0 v1 v2 v3 v4 v5 = some out → bl_Fq ho md_X1_costBehindPremiums σ0 out.2 := by
  induction n with
  | zero =>
    intro σ v0 v1 v2 v3 v4 v5 qσ hv0 hv1 hf
    cases hf
  | succ n ih => exact gw_X1_costBehindPremiums_11  _ ih
set_option maxRecDepth 100000 in
theorem fr_X1_costBehindPremiums {ho : Nat → Bool} (σ : bl_St) (a0 : Nat) (a1 : Nat) (a2 : Int32) (a3 : Int32) (o : Int64 × bl_St) (hw : bl_WT σ) (hh : bl_WH ho σ) (ha0 : bl_sh[a0]? = some (1, 4) ∧ ho a0 = true) (ha1 : bl_sh[a1]? = some (8, 5)) (hf : f_X1_costBehindPremiums σ a0 a1 a2 a3 = some o) : bl_Fq ho md_X1_costBehindPremiums σ o.2 := by
  obtain ⟨σ0, hz⟩ : ∃ z, z = σ := ⟨_, rfl⟩
  suffices hgo : bl_Fq ho md_X1_costBehindPremiums σ0 o.2 by rw [hz] at hgo; exact hgo
  have qσ : bl_Fq ho md_X1_costBehindPremiums σ0 σ := by rw [hz]; exact ⟨hw, hh, fun _ _ => ⟨rfl, rfl, rfl⟩⟩
  have ha1 := And.intro ha1 trivial
  unfold f_X1_costBehindPremiums at hf
  obtain ⟨r57, σ58, h59, hf⟩ := bl_bd_at hf
  have qσ58 := bl_Fq_call qσ (fr_X8_chances σ a1 _ qσ.1 qσ.2.1 ha1.1 h59) (by decide)
  obtain ⟨x60, e61⟩ : ∃ z, z = (2 * r57) := ⟨_, rfl⟩
  have hf := bl_let_at e61 hf
  exact gl_X1_costBehindPremiums_11  bl_fu σ58 a0 a1 a2 a3 x60 0 qσ58 ha0 ha1 hf
def md_X8_part : List (Nat × Nat) := []
set_option maxRecDepth 100000 in
theorem fr_X8_part {ho : Nat → Bool} (σ : bl_St) (a0 : Nat) (a1 : Int32) (a2 : Int32) (o : Int32 × bl_St) (hw : bl_WT σ) (hh : bl_WH ho σ) (ha0 : bl_sh[a0]? = some (8, 5)) (hf : f_X8_part σ a0 a1 a2 = some o) : bl_Fq ho md_X8_part σ o.2 := by
  obtain ⟨σ0, hz⟩ : ∃ z, z = σ := ⟨_, rfl⟩
  suffices hgo : bl_Fq ho md_X8_part σ0 o.2 by rw [hz] at hgo; exact hgo
  have qσ : bl_Fq ho md_X8_part σ0 σ := by rw [hz]; exact ⟨hw, hh, fun _ _ => ⟨rfl, rfl, rfl⟩⟩
  have ha0 := And.intro ha0 trivial
  unfold f_X8_part at hf
  have h1 := bl_Fq_gn qσ ha0 (k := 2) rfl
  obtain ⟨-, hf⟩ := bl_gd_at hf
  rw [← Option.some.inj hf]
  exact qσ
def md_X1_fillPairs : List (Nat × Nat) := [(21, 63), (21, 64)]
set_option maxRecDepth 100000 in
theorem gw_X1_fillPairs_12 {ho : Nat → Bool} {σ0 : bl_St} {out : Unit × bl_St} (k2 : bl_St → Nat → Nat → Int32 → Option (Unit × bl_St)) (gk2 : ∀ (σ : bl_St) (v0 : Nat) (v1 : Nat) (v2 : Int32), bl_Fq ho md_X1_fillPairs σ0 σ → (bl_sh[v0]? = some (1, 4) ∧ ho v0 = true) → (bl_sh[v1]? = some (8, 5) ∧ True) → k2 σ v0 v1 v2 = some out → bl_Fq ho md_X1_fillPairs σ0 out.2) (k12 : bl_St → Nat → Nat → Int32 → Int32 → Option (Unit × bl_St)) (gk12 : ∀ (σ : bl_St) (v0 : Nat) (v1 : Nat) (v2 : Int32) (v3 : Int32), bl_Fq ho md_X1_fillPairs σ0 σ → (bl_sh[v0]? = some (1, 4) ∧ ho v0 = true) → (bl_sh[v1]? = some (8, 5) ∧ True) → k12 σ v0 v1 v2 v3 = some out → bl_Fq ho md_X1_fillPairs σ0 out.2) : ∀ (σ : bl_St) (v0 : Nat) (v1 : Nat) (v2 : Int32) (v3 : Int32), bl_Fq ho md_X1_fillPairs σ0 σ → (bl_sh[v0]? = some (1, 4) ∧ ho v0 = true) → (bl_sh[v1]? = some (8, 5) ∧ True) → (b_X1_fillPairs_12 k2 k12) σ v0 v1 v2 v3 = some out → bl_Fq ho md_X1_fillPairs σ0 out.2 := by
  intro σ v0 v1 v2 v3 qσ hv0 hv1 hf
  unfold b_X1_fillPairs_12 at hf
  rcases bl_if_at hf with hf | hf
  · obtain ⟨x2, e3⟩ : ∃ z : Int32, z = v2 + 1 := ⟨_, rfl⟩
    have hf := bl_let_at e3 hf
    exact gk2 σ v0 v1 x2 qσ hv0 hv1 hf
  · obtain ⟨r4, σ5, h6, hf⟩ := bl_bd_at hf
    have qσ5 := bl_Fq_call qσ (fr_X8_part σ v1 v2 0 _ qσ.1 qσ.2.1 hv1.1 h6) (by decide)
    obtain ⟨r7, σ8, h9, hf⟩ := bl_bd_at hf
    have qσ8 := bl_Fq_call qσ5 (fr_X8_part σ5 v1 v3 0 _ qσ5.1 qσ5.2.1 hv1.1 h9) (by decide)
    obtain ⟨x10, e11⟩ : ∃ z, z = (r4 + r7) := ⟨_, rfl⟩
    have hf := bl_let_at e11 hf
    obtain ⟨r12, σ13, h14, hf⟩ := bl_bd_at hf
    have qσ13 := bl_Fq_call qσ8 (fr_X1_costBehindPremiums σ8 v0 v1 v2 v3 _ qσ8.1 qσ8.2.1 hv0 hv1.1 h14) (by decide)
    obtain ⟨x15, e16⟩ : ∃ z, z = ((1000 * (Int32.toInt64 x10)) + r12) := ⟨_, rfl⟩
    have hf := bl_let_at e16 hf
    have h17 := bl_Fq_g qσ13 hv0 (k := 0) rfl (by decide)
    obtain ⟨-, hf⟩ := bl_gd_at hf
    obtain ⟨σ19, e20⟩ : ∃ z : bl_St, z = bl_pJ σ13 (bl_R σ13 v0 0) (Int32.toNatClampNeg ((v2 * 8) + v3)) x15 := ⟨_, rfl⟩
    have hf := bl_let_at e20 hf
    have qσ19 : bl_Fq ho md_X1_fillPairs σ0 σ19 := by rw [e20]; exact bl_Fq_J qσ13 (bl_al_in h17.1 (by decide) h17.2)
    have h21 := bl_Fq_g qσ19 hv0 (k := 0) rfl (by decide)
    obtain ⟨-, hf⟩ := bl_gd_at hf
    obtain ⟨σ23, e24⟩ : ∃ z : bl_St, z = bl_pJ σ19 (bl_R σ19 v0 0) (Int32.toNatClampNeg ((v3 * 8) + v2)) x15 := ⟨_, rfl⟩
    have hf := bl_let_at e24 hf
    have qσ23 : bl_Fq ho md_X1_fillPairs σ0 σ23 := by rw [e24]; exact bl_Fq_J qσ19 (bl_al_in h21.1 (by decide) h21.2)
    obtain ⟨x25, e26⟩ : ∃ z : Int32, z = v3 + 1 := ⟨_, rfl⟩
    have hf := bl_let_at e26 hf
    exact gk12 σ23 v0 v1 v2 x25 qσ23 hv0 hv1 hf
theorem gl_X1_fillPairs_12 {ho : Nat → Bool} {σ0 : bl_St} {out : Unit × bl_St} (k2 : bl_St → Nat → Nat → Int32 → Option (Unit × bl_St)) (gk2 : ∀ (σ : bl_St) (v0 : Nat) (v1 : Nat) (v2 : Int32), bl_Fq ho md_X1_fillPairs σ0 σ → (bl_sh[v0]? = some (1, 4) ∧ ho v0 = true) → (bl_sh[v1]? = some (8, 5) ∧ True) → k2 σ v0 v1 v2 = some out → bl_Fq ho md_X1_fillPairs σ0 out.2) (n : Nat) : ∀ (σ : bl_St) (v0 : Nat) (v1 : Nat) (v2 : Int32) (v3 : Int32), bl_Fq ho md_X1_fillPairs σ0 σ → (bl_sh[v0]? = some (1, 4) ∧ ho v0 = true) → (bl_sh[v1]? = some (8, 5) ∧ True) → (bl_fx (fun _ _ _ _ _ => none) (b_X1_fillPairs_12 k2) n) σ v0 v1 v2 v3 = some out → bl_Fq ho md_X1_fillPairs σ0 out.2 := by
  induction n with
  | zero =>
    intro σ v0 v1 v2 v3 qσ hv0 hv1 hf
    cases hf
  | succ n ih => exact gw_X1_fillPairs_12 k2 gk2 _ ih
set_option maxRecDepth 100000 in
theorem gw_X1_fillPairs_2 {ho : Nat → Bool} {σ0 : bl_St} {out : Unit × bl_St} (k2 : bl_St → Nat → Nat → Int32 → Option (Unit × bl_St)) (gk2 : ∀ (σ : bl_St) (v0 : Nat) (v1 : Nat) (v2 : Int32), bl_Fq ho md_X1_fillPairs σ0 σ → (bl_sh[v0]? = some (1, 4) ∧ ho v0 = true) → (bl_sh[v1]? = some (8, 5) ∧ True) → k2 σ v0 v1 v2 = some out → bl_Fq ho md_X1_fillPairs σ0 out.2) : ∀ (σ : bl_St) (v0 : Nat) (v1 : Nat) (v2 : Int32), bl_Fq ho md_X1_fillPairs σ0 σ → (bl_sh[v0]? = some (1, 4) ∧ ho v0 = true) → (bl_sh[v1]? = some (8, 5) ∧ True) → (b_X1_fillPairs_2 k2) σ v0 v1 v2 = some out → bl_Fq ho md_X1_fillPairs σ0 out.2 := by
  intro σ v0 v1 v2 qσ hv0 hv1 hf
  unfold b_X1_fillPairs_2 at hf
  rcases bl_if_at hf with hf | hf
  · rw [← Option.some.inj hf]
    exact qσ
  · exact gl_X1_fillPairs_12 k2 gk2 bl_fu σ v0 v1 v2 v2 qσ hv0 hv1 hf
theorem gl_X1_fillPairs_2 {ho : Nat → Bool} {σ0 : bl_St} {out : Unit × bl_St} (n : Nat) : ∀ (σ : bl_St) (v0 : Nat) (v1 : Nat) (v2 : Int32), bl_Fq ho md_X1_fillPairs σ0 σ → (bl_sh[v0]? = some (1, 4) ∧ ho v0 = true) → (bl_sh[v1]? = some (8, 5) ∧ True) → (bl_fx (fun _ _ _ _ => none) (b_X1_fillPairs_2 ) n) σ v0 v1 v2 = some out → bl_Fq ho md_X1_fillPairs σ0 out.2 := by
  induction n with
  | zero =>
    intro σ v0 v1 v2 qσ hv0 hv1 hf
    cases hf
  | succ n ih => exact gw_X1_fillPairs_2  _ ih
set_option maxRecDepth 100000 in
theorem fr_X1_fillPairs {ho : Nat → Bool} (σ : bl_St) (a0 : Nat) (a1 : Nat) (o : Unit × bl_St) (hw : bl_WT σ) (hh : bl_WH ho σ) (ha0 : bl_sh[a0]? = some (1, 4) ∧ ho a0 = true) (ha1 : bl_sh[a1]? = some (8, 5)) (hf : f_X1_fillPairs σ a0 a1 = some o) : bl_Fq ho md_X1_fillPairs σ o.2 := by
  obtain ⟨σ0, hz⟩ : ∃ z, z = σ := ⟨_, rfl⟩
  suffices hgo : bl_Fq ho md_X1_fillPairs σ0 o.2 by rw [hz] at hgo; exact hgo
  have qσ : bl_Fq ho md_X1_fillPairs σ0 σ := by rw [hz]; exact ⟨hw, hh, fun _ _ => ⟨rfl, rfl, rfl⟩⟩
  have ha1 := And.intro ha1 trivial
  unfold f_X1_fillPairs at hf
  exact gl_X1_fillPairs_2  bl_fu σ a0 a1 0 qσ ha0 ha1 hf
def md_X8_odds : List (Nat × Nat) := []
set_option maxRecDepth 100000 in
theorem fr_X8_odds {ho : Nat → Bool} (σ : bl_St) (a0 : Nat) (o : Int32 × bl_St) (hw : bl_WT σ) (hh : bl_WH ho σ) (ha0 : bl_sh[a0]? = some (8, 5)) (hf : f_X8_odds σ a0 = some o) : bl_Fq ho md_X8_odds σ o.2 := by
  obtain ⟨σ0, hz⟩ : ∃ z, z = σ := ⟨_, rfl⟩
  suffices hgo : bl_Fq ho md_X8_odds σ0 o.2 by rw [hz] at hgo; exact hgo
  have qσ : bl_Fq ho md_X8_odds σ0 σ := by rw [hz]; exact ⟨hw, hh, fun _ _ => ⟨rfl, rfl, rfl⟩⟩
  have ha0 := And.intro ha0 trivial
  unfold f_X8_odds at hf
  have h1 := bl_Fq_gn qσ ha0 (k := 4) rfl
  rw [← Option.some.inj hf]
  exact qσ
def md_X8_own : List (Nat × Nat) := []
set_option maxRecDepth 100000 in
theorem fr_X8_own {ho : Nat → Bool} (σ : bl_St) (a0 : Nat) (o : Int32 × bl_St) (hw : bl_WT σ) (hh : bl_WH ho σ) (ha0 : bl_sh[a0]? = some (8, 5)) (hf : f_X8_own σ a0 = some o) : bl_Fq ho md_X8_own σ o.2 := by
  obtain ⟨σ0, hz⟩ : ∃ z, z = σ := ⟨_, rfl⟩
  suffices hgo : bl_Fq ho md_X8_own σ0 o.2 by rw [hz] at hgo; exact hgo
  have qσ : bl_Fq ho md_X8_own σ0 σ := by rw [hz]; exact ⟨hw, hh, fun _ _ => ⟨rfl, rfl, rfl⟩⟩
  have ha0 := And.intro ha0 trivial
  unfold f_X8_own at hf
  have h1 := bl_Fq_gn qσ ha0 (k := 4) rfl
  rw [← Option.some.inj hf]
  exact qσ
def md_X8_ownOf : List (Nat × Nat) := []
set_option maxRecDepth 100000 in
theorem fr_X8_ownOf {ho : Nat → Bool} (σ : bl_St) (a0 : Nat) (a1 : Int32) (o : Int32 × bl_St) (hw : bl_WT σ) (hh : bl_WH ho σ) (ha0 : bl_sh[a0]? = some (8, 5)) (hf : f_X8_ownOf σ a0 a1 = some o) : bl_Fq ho md_X8_ownOf σ o.2 := by
  obtain ⟨σ0, hz⟩ : ∃ z, z = σ := ⟨_, rfl⟩
  suffices hgo : bl_Fq ho md_X8_ownOf σ0 o.2 by rw [hz] at hgo; exact hgo
  have qσ : bl_Fq ho md_X8_ownOf σ0 σ := by rw [hz]; exact ⟨hw, hh, fun _ _ => ⟨rfl, rfl, rfl⟩⟩
  have ha0 := And.intro ha0 trivial
  unfold f_X8_ownOf at hf
  obtain ⟨r1, σ2, h3, hf⟩ := bl_bd_at hf
  have qσ2 := bl_Fq_call qσ (fr_X8_own σ a0 _ qσ.1 qσ.2.1 ha0.1 h3) (by decide)
  obtain ⟨r4, σ5, h6, hf⟩ := bl_bd_at hf
  have qσ5 := bl_Fq_call qσ2 (fr_X8_sortPart σ2 a0 a1 0 _ qσ2.1 qσ2.2.1 ha0.1 h6) (by decide)
  rw [← Option.some.inj hf]
  exact qσ5
def md_X3_take : List (Nat × Nat) := [(3, 8), (20, 5), (21, 5)]
set_option maxRecDepth 100000 in
theorem gw_X3_take_131 {ho : Nat → Bool} {σ0 : bl_St} {out : Unit × bl_St} (k35 : bl_St → Nat → Nat → Int32 → Int32 → Int32 → Option (Unit × bl_St)) (gk35 : ∀ (σ : bl_St) (v0 : Nat) (v1 : Nat) (v2 : Int32) (v3 : Int32) (v5 : Int32), bl_Fq ho md_X3_take σ0 σ → (bl_sh[v0]? = some (3, 8) ∧ ho v0 = true) → (bl_sh[v1]? = some (8, 5) ∧ True) → k35 σ v0 v1 v2 v3 v5 = some out → bl_Fq ho md_X3_take σ0 out.2) : ∀ (σ : bl_St) (v0 : Nat) (v1 : Nat) (v2 : Int32) (v3 : Int32) (v5 : Int32), bl_Fq ho md_X3_take σ0 σ → (bl_sh[v0]? = some (3, 8) ∧ ho v0 = true) → (bl_sh[v1]? = some (8, 5) ∧ True) → (b_X3_take_131 k35) σ v0 v1 v2 v3 v5 = some out → bl_Fq ho md_X3_take σ0 out.2 := by
  intro σ v0 v1 v2 v3 v5 qσ hv0 hv1 hf
  unfold b_X3_take_131 at hf
  obtain ⟨x1, e2⟩ : ∃ z : Int32, z = v5 + 1 := ⟨_, rfl⟩
  have hf := bl_let_at e2 hf
  exact gk35 σ v0 v1 v2 v3 x1 qσ hv0 hv1 hf
set_option maxRecDepth 100000 in
theorem gw_X3_take_130 {ho : Nat → Bool} {σ0 : bl_St} {out : Unit × bl_St} (k35 : bl_St → Nat → Nat → Int32 → Int32 → Int32 → Option (Unit × bl_St)) (gk35 : ∀ (σ : bl_St) (v0 : Nat) (v1 : Nat) (v2 : Int32) (v3 : Int32) (v5 : Int32), bl_Fq ho md_X3_take σ0 σ → (bl_sh[v0]? = some (3, 8) ∧ ho v0 = true) → (bl_sh[v1]? = some (8, 5) ∧ True) → k35 σ v0 v1 v2 v3 v5 = some out → bl_Fq ho md_X3_take σ0 out.2) : ∀ (σ : bl_St) (v0 : Nat) (v1 : Nat) (v2 : Int32) (v3 : Int32) (v5 : Int32) (s0 : Int32) (s1 : Int32) (s2 : Nat), bl_Fq ho md_X3_take σ0 σ → (bl_sh[v0]? = some (3, 8) ∧ ho v0 = true) → (bl_sh[v1]? = some (8, 5) ∧ True) → (bl_sh[s2]? = some (20, 5) ∧ ho s2 = true) → (b_X3_take_130 k35) σ v0 v1 v2 v3 v5 s0 s1 s2 = some out → bl_Fq ho md_X3_take σ0 out.2 := by
  intro σ v0 v1 v2 v3 v5 s0 s1 s2 qσ hv0 hv1 hs2 hf
  unfold b_X3_take_130 at hf
  obtain ⟨-, hf⟩ := bl_gd_at hf
  obtain ⟨σ4, e5⟩ : ∃ z : bl_St, z = bl_pI σ s2 (Int32.toNatClampNeg s1) s0 := ⟨_, rfl⟩
  have hf := bl_let_at e5 hf
  have qσ4 : bl_Fq ho md_X3_take σ0 σ4 := by rw [e5]; exact bl_Fq_I qσ (bl_al_in hs2.1 (by decide) hs2.2)
  exact gw_X3_take_131 k35 gk35 σ4 v0 v1 v2 v3 v5 qσ4 hv0 hv1 hf
set_option maxRecDepth 100000 in
theorem gw_X3_take_35 {ho : Nat → Bool} {σ0 : bl_St} {out : Unit × bl_St} (k35 : bl_St → Nat → Nat → Int32 → Int32 → Int32 → Option (Unit × bl_St)) (gk35 : ∀ (σ : bl_St) (v0 : Nat) (v1 : Nat) (v2 : Int32) (v3 : Int32) (v5 : Int32), bl_Fq ho md_X3_take σ0 σ → (bl_sh[v0]? = some (3, 8) ∧ ho v0 = true) → (bl_sh[v1]? = some (8, 5) ∧ True) → k35 σ v0 v1 v2 v3 v5 = some out → bl_Fq ho md_X3_take σ0 out.2) : ∀ (σ : bl_St) (v0 : Nat) (v1 : Nat) (v2 : Int32) (v3 : Int32) (v5 : Int32), bl_Fq ho md_X3_take σ0 σ → (bl_sh[v0]? = some (3, 8) ∧ ho v0 = true) → (bl_sh[v1]? = some (8, 5) ∧ True) → (b_X3_take_35 k35) σ v0 v1 v2 v3 v5 = some out → bl_Fq ho md_X3_take σ0 out.2 := by
  intro σ v0 v1 v2 v3 v5 qσ hv0 hv1 hf
  unfold b_X3_take_35 at hf
  rcases bl_if_at hf with hf | hf
  · rw [← Option.some.inj hf]
    exact qσ
  · obtain ⟨r7, σ8, h9, hf⟩ := bl_bd_at hf
    have qσ8 := bl_Fq_call qσ (fr_X8_sortPart σ v1 v5 0 _ qσ.1 qσ.2.1 hv1.1 h9) (by decide)
    have h10 := bl_Fq_g qσ8 hv0 (k := 4) rfl (by decide)
    obtain ⟨-, hf⟩ := bl_gd_at hf
    obtain ⟨σ12, e13⟩ : ∃ z : bl_St, z = bl_pJ σ8 (bl_R σ8 v0 4) (Int32.toNatClampNeg v5) (1000 * (Int32.toInt64 r7)) := ⟨_, rfl⟩
    have hf := bl_let_at e13 hf
    have qσ12 : bl_Fq ho md_X3_take σ0 σ12 := by rw [e13]; exact bl_Fq_J qσ8 (bl_al_in h10.1 (by decide) h10.2)
    have h14 := bl_Fq_g qσ12 hv0 (k := 5) rfl (by decide)
    obtain ⟨r15, σ16, h17, hf⟩ := bl_bd_at hf
    have qσ16 := bl_Fq_call qσ12 (fr_X8_ownOf σ12 v1 v5 _ qσ12.1 qσ12.2.1 hv1.1 h17) (by decide)
    obtain ⟨-, hf⟩ := bl_gd_at hf
    obtain ⟨σ19, e20⟩ : ∃ z : bl_St, z = bl_pJ σ16 (bl_R σ12 v0 5) (Int32.toNatClampNeg v5) (1000 * (Int32.toInt64 r15)) := ⟨_, rfl⟩
    have hf := bl_let_at e20 hf
    have qσ19 : bl_Fq ho md_X3_take σ0 σ19 := by rw [e20]; exact bl_Fq_J qσ16 (bl_al_in h14.1 (by decide) h14.2)
    have h21 := bl_Fq_g qσ19 hv0 (k := 6) rfl (by decide)
    obtain ⟨r22, σ23, h24, hf⟩ := bl_bd_at hf
    have qσ23 := bl_Fq_call qσ19 (fr_X8_sortPart σ19 v1 v5 1 _ qσ19.1 qσ19.2.1 hv1.1 h24) (by decide)
    obtain ⟨-, hf⟩ := bl_gd_at hf
    obtain ⟨σ26, e27⟩ : ∃ z : bl_St, z = bl_pJ σ23 (bl_R σ19 v0 6) (Int32.toNatClampNeg v5) (Int32.toInt64 r22) := ⟨_, rfl⟩
    have hf := bl_let_at e27 hf
    have qσ26 : bl_Fq ho md_X3_take σ0 σ26 := by rw [e27]; exact bl_Fq_J qσ23 (bl_al_in h21.1 (by decide) h21.2)
    have h28 := bl_Fq_g qσ26 hv0 (k := 7) rfl (by decide)
    obtain ⟨-, hf⟩ := bl_gd_at hf
    obtain ⟨σ30, e31⟩ : ∃ z : bl_St, z = bl_pI σ26 (bl_R σ26 v0 7) (Int32.toNatClampNeg v5) v2 := ⟨_, rfl⟩
    have hf := bl_let_at e31 hf
    have qσ30 : bl_Fq ho md_X3_take σ0 σ30 := by rw [e31]; exact bl_Fq_I qσ26 (bl_al_in h28.1 (by decide) h28.2)
    rcases bl_if_at hf with hf | hf
    · have h33 := bl_Fq_g qσ30 hv0 (k := 7) rfl (by decide)
      rcases bl_if_at hf with hf | hf
      · exact gw_X3_take_130 k35 gk35 σ30 v0 v1 v2 v3 v5 2 v5 (bl_R σ30 v0 7) qσ30 hv0 hv1 h33 hf
      · exact gw_X3_take_130 k35 gk35 σ30 v0 v1 v2 v3 v5 1 v5 (bl_R σ30 v0 7) qσ30 hv0 hv1 h33 hf
    · exact gw_X3_take_131 k35 gk35 σ30 v0 v1 v2 v3 v5 qσ30 hv0 hv1 hf
theorem gl_X3_take_35 {ho : Nat → Bool} {σ0 : bl_St} {out : Unit × bl_St} (n : Nat) : ∀ (σ : bl_St) (v0 : Nat) (v1 : Nat) (v2 : Int32) (v3 : Int32) (v5 : Int32), bl_Fq ho md_X3_take σ0 σ → (bl_sh[v0]? = some (3, 8) ∧ ho v0 = true) → (bl_sh[v1]? = some (8, 5) ∧ True) → (bl_fx (fun _ _ _ _ _ _ => none) (b_X3_take_35 ) n) σ v0 v1 v2 v3 v5 = some out → bl_Fq ho md_X3_take σ0 out.2 := by
  induction n with
  | zero =>
    intro σ v0 v1 v2 v3 v5 qσ hv0 hv1 hf
    cases hf
  | succ n ih => exact gw_X3_take_35  _ ih
set_option maxRecDepth 100000 in
theorem fr_X3_take {ho : Nat → Bool} (σ : bl_St) (a0 : Nat) (a1 : Nat) (a2 : Int32) (a3 : Int32) (a4 : Int32) (o : Unit × bl_St) (hw : bl_WT σ) (hh : bl_WH ho σ) (ha0 : bl_sh[a0]? = some (3, 8) ∧ ho a0 = true) (ha1 : bl_sh[a1]? = some (8, 5)) (hf : f_X3_take σ a0 a1 a2 a3 a4 = some o) : bl_Fq ho md_X3_take σ o.2 := by
  obtain ⟨σ0, hz⟩ : ∃ z, z = σ := ⟨_, rfl⟩
  suffices hgo : bl_Fq ho md_X3_take σ0 o.2 by rw [hz] at hgo; exact hgo
  have qσ : bl_Fq ho md_X3_take σ0 σ := by rw [hz]; exact ⟨hw, hh, fun _ _ => ⟨rfl, rfl, rfl⟩⟩
  have ha1 := And.intro ha1 trivial
  unfold f_X3_take at hf
  obtain ⟨σ35, e36⟩ : ∃ z : bl_St, z = bl_pI σ a0 0 (bl_I σ a1 1) := ⟨_, rfl⟩
  have hf := bl_let_at e36 hf
  have qσ35 : bl_Fq ho md_X3_take σ0 σ35 := by rw [e36]; exact bl_Fq_I qσ (bl_al_in ha0.1 (by decide) ha0.2)
  obtain ⟨r37, σ38, h39, hf⟩ := bl_bd_at hf
  have qσ38 := bl_Fq_call qσ35 (fr_X8_odds σ35 a1 _ qσ35.1 qσ35.2.1 ha1.1 h39) (by decide)
  obtain ⟨σ40, e41⟩ : ∃ z : bl_St, z = bl_pJ σ38 a0 1 (Int32.toInt64 r37) := ⟨_, rfl⟩
  have hf := bl_let_at e41 hf
  have qσ40 : bl_Fq ho md_X3_take σ0 σ40 := by rw [e41]; exact bl_Fq_J qσ38 (bl_al_in ha0.1 (by decide) ha0.2)
  obtain ⟨r42, σ43, h44, hf⟩ := bl_bd_at hf
  have qσ43 := bl_Fq_call qσ40 (fr_X8_allWeights σ40 a1 _ qσ40.1 qσ40.2.1 ha1.1 h44) (by decide)
  obtain ⟨σ45, e46⟩ : ∃ z : bl_St, z = bl_pJ σ43 a0 2 (Int32.toInt64 r42) := ⟨_, rfl⟩
  have hf := bl_let_at e46 hf
  have qσ45 : bl_Fq ho md_X3_take σ0 σ45 := by rw [e46]; exact bl_Fq_J qσ43 (bl_al_in ha0.1 (by decide) ha0.2)
  obtain ⟨-, hf⟩ := bl_gd_at hf
  obtain ⟨σ48, e49⟩ : ∃ z : bl_St, z = bl_pI σ45 a0 3 a4 := ⟨_, rfl⟩
  have hf := bl_let_at e49 hf
  have qσ48 : bl_Fq ho md_X3_take σ0 σ48 := by rw [e49]; exact bl_Fq_I qσ45 (bl_al_in ha0.1 (by decide) ha0.2)
  exact gl_X3_take_35  bl_fu σ48 a0 a1 a2 a3 0 qσ48 ha0 ha1 hf
def md_X1_costOf : List (Nat × Nat) := [(1, 4), (3, 8), (20, 5), (21, 5), (21, 63), (21, 64)]
set_option maxRecDepth 100000 in
theorem gw_X1_costOf_38 {ho : Nat → Bool} {σ0 : bl_St} {out : Int64 × bl_St} (k38 : bl_St → Nat → Nat → Int32 → Int32 → Int32 → Int32 → Option (Int64 × bl_St)) (gk38 : ∀ (σ : bl_St) (v0 : Nat) (v1 : Nat) (v2 : Int32) (v3 : Int32) (v4 : Int32) (v5 : Int32), bl_Fq ho md_X1_costOf σ0 σ → (bl_sh[v0]? = some (1, 4) ∧ ho v0 = true) → (bl_sh[v1]? = some (8, 5) ∧ True) → k38 σ v0 v1 v2 v3 v4 v5 = some out → bl_Fq ho md_X1_costOf σ0 out.2) : ∀ (σ : bl_St) (v0 : Nat) (v1 : Nat) (v2 : Int32) (v3 : Int32) (v4 : Int32) (v5 : Int32), bl_Fq ho md_X1_costOf σ0 σ → (bl_sh[v0]? = some (1, 4) ∧ ho v0 = true) → (bl_sh[v1]? = some (8, 5) ∧ True) → (b_X1_costOf_38 k38) σ v0 v1 v2 v3 v4 v5 = some out → bl_Fq ho md_X1_costOf σ0 out.2 := by
  intro σ v0 v1 v2 v3 v4 v5 qσ hv0 hv1 hf
  unfold b_X1_costOf_38 at hf
  rcases bl_if_at hf with hf | hf
  · have h2 := bl_Fq_g qσ hv0 (k := 0) rfl (by decide)
    obtain ⟨-, hf⟩ := bl_gd_at hf
    rw [← Option.some.inj hf]
    exact qσ
  · have h4 := bl_Fq_g qσ hv0 (k := 0) rfl (by decide)
    have h5 := bl_Fq_g qσ hv0 (k := 1) rfl (by decide)
    obtain ⟨σ6, e7⟩ : ∃ z : bl_St, z = bl_pR σ v0 0 (bl_R σ v0 1) := ⟨_, rfl⟩
    have hf := bl_let_at e7 hf
    have qσ6 : bl_Fq ho md_X1_costOf σ0 σ6 := by rw [e7]; exact bl_Fq_R qσ (bl_al_in hv0.1 (by decide) hv0.2) hv0.1 (by decide) rfl h5.1 (by decide) (Or.inl h5.2)
    obtain ⟨σ8, e9⟩ : ∃ z : bl_St, z = bl_pR σ6 v0 1 (bl_R σ v0 0) := ⟨_, rfl⟩
    have hf := bl_let_at e9 hf
    have qσ8 : bl_Fq ho md_X1_costOf σ0 σ8 := by rw [e9]; exact bl_Fq_R qσ6 (bl_al_in hv0.1 (by decide) hv0.2) hv0.1 (by decide) rfl h4.1 (by decide) (Or.inl h4.2)
    obtain ⟨r10, σ11, h12, hf⟩ := bl_bd_at hf
    have qσ11 := bl_Fq_call qσ8 (fr_X1_fillPairs σ8 v0 v1 _ qσ8.1 qσ8.2.1 hv0 hv1.1 h12) (by decide)
    obtain ⟨x13, e14⟩ : ∃ z : Int32, z = v5 + 1 := ⟨_, rfl⟩
    have hf := bl_let_at e14 hf
    exact gk38 σ11 v0 v1 v2 v3 v4 x13 qσ11 hv0 hv1 hf
theorem gl_X1_costOf_38 {ho : Nat → Bool} {σ0 : bl_St} {out : Int64 × bl_St} (n : Nat) : ∀ (σ : bl_St) (v0 : Nat) (v1 : Nat) (v2 : Int32) (v3 : Int32) (v4 : Int32) (v5 : Int32), bl_Fq ho md_X1_costOf σ0 σ → (bl_sh[v0]? = some (1, 4) ∧ ho v0 = true) → (bl_sh[v1]? = some (8, 5) ∧ True) → (bl_fx (fun _ _ _ _ _ _ _ => none) (b_X1_costOf_38 ) n) σ v0 v1 v2 v3 v4 v5 = some out → bl_Fq ho md_X1_costOf σ0 out.2 := by
  induction n with
  | zero =>
    intro σ v0 v1 v2 v3 v4 v5 qσ hv0 hv1 hf
    cases hf
  | succ n ih => exact gw_X1_costOf_38  _ ih
set_option maxRecDepth 100000 in
theorem gw_X1_costOf_14 {ho : Nat → Bool} {σ0 : bl_St} {out : Int64 × bl_St} (k14 : bl_St → Nat → Nat → Int32 → Int32 → Int32 → Int32 → Option (Int64 × bl_St)) (gk14 : ∀ (σ : bl_St) (v0 : Nat) (v1 : Nat) (v2 : Int32) (v3 : Int32) (v4 : Int32) (v5 : Int32), bl_Fq ho md_X1_costOf σ0 σ → (bl_sh[v0]? = some (1, 4) ∧ ho v0 = true) → (bl_sh[v1]? = some (8, 5) ∧ True) → k14 σ v0 v1 v2 v3 v4 v5 = some out → bl_Fq ho md_X1_costOf σ0 out.2) : ∀ (σ : bl_St) (v0 : Nat) (v1 : Nat) (v2 : Int32) (v3 : Int32) (v4 : Int32) (v5 : Int32), bl_Fq ho md_X1_costOf σ0 σ → (bl_sh[v0]? = some (1, 4) ∧ ho v0 = true) → (bl_sh[v1]? = some (8, 5) ∧ True) → (b_X1_costOf_14 k14) σ v0 v1 v2 v3 v4 v5 = some out → bl_Fq ho md_X1_costOf σ0 out.2 := by
  intro σ v0 v1 v2 v3 v4 v5 qσ hv0 hv1 hf
  unfold b_X1_costOf_14 at hf
  rcases bl_if_at hf with hf | hf
  · exact gl_X1_costOf_38  bl_fu σ v0 v1 v2 v3 v4 1 qσ hv0 hv1 hf
  · have h16 := bl_Fq_g qσ hv0 (k := 0) rfl (by decide)
    obtain ⟨-, hf⟩ := bl_gd_at hf
    obtain ⟨σ18, e19⟩ : ∃ z : bl_St, z = bl_pJ σ (bl_R σ v0 0) (Int32.toNatClampNeg v5) 0 := ⟨_, rfl⟩
    have hf := bl_let_at e19 hf
    have qσ18 : bl_Fq ho md_X1_costOf σ0 σ18 := by rw [e19]; exact bl_Fq_J qσ (bl_al_in h16.1 (by decide) h16.2)
    obtain ⟨x20, e21⟩ : ∃ z : Int32, z = v5 + 1 := ⟨_, rfl⟩
    have hf := bl_let_at e21 hf
    exact gk14 σ18 v0 v1 v2 v3 v4 x20 qσ18 hv0 hv1 hf
theorem gl_X1_costOf_14 {ho : Nat → Bool} {σ0 : bl_St} {out : Int64 × bl_St} (n : Nat) : ∀ (σ : bl_St) (v0 : Nat) (v1 : Nat) (v2 : Int32) (v3 : Int32) (v4 : Int32) (v5 : Int32), bl_Fq ho md_X1_costOf σ0 σ → (bl_sh[v0]? = some (1, 4) ∧ ho v0 = true) → (bl_sh[v1]? = some (8, 5) ∧ True) → (bl_fx (fun _ _ _ _ _ _ _ => none) (b_X1_costOf_14 ) n) σ v0 v1 v2 v3 v4 v5 = some out → bl_Fq ho md_X1_costOf σ0 out.2 := by
  induction n with
  | zero =>
    intro σ v0 v1 v2 v3 v4 v5 qσ hv0 hv1 hf
    cases hf
  | succ n ih => exact gw_X1_costOf_14  _ ih
set_option maxRecDepth 100000 in
theorem fr_X1_costOf {ho : Nat → Bool} (σ : bl_St) (a0 : Nat) (a1 : Nat) (a2 : Int32) (a3 : Int32) (a4 : Int32) (o : Int64 × bl_St) (hw : bl_WT σ) (hh : bl_WH ho σ) (ha0 : bl_sh[a0]? = some (1, 4) ∧ ho a0 = true) (ha1 : bl_sh[a1]? = some (8, 5)) (hf : f_X1_costOf σ a0 a1 a2 a3 a4 = some o) : bl_Fq ho md_X1_costOf σ o.2 := by
  obtain ⟨σ0, hz⟩ : ∃ z, z = σ := ⟨_, rfl⟩
  suffices hgo : bl_Fq ho md_X1_costOf σ0 o.2 by rw [hz] at hgo; exact hgo
  have qσ : bl_Fq ho md_X1_costOf σ0 σ := by rw [hz]; exact ⟨hw, hh, fun _ _ => ⟨rfl, rfl, rfl⟩⟩
  have ha1 := And.intro ha1 trivial
  unfold f_X1_costOf at hf
  have h22 := bl_Fq_g qσ ha0 (k := 3) rfl (by decide)
  obtain ⟨r23, σ24, h25, hf⟩ := bl_bd_at hf
  have qσ24 := bl_Fq_call qσ (fr_X3_take σ (bl_R σ a0 3) a1 0 0 0 _ qσ.1 qσ.2.1 h22 ha1.1 h25) (by decide)
  exact gl_X1_costOf_14  bl_fu σ24 a0 a1 a2 a3 a4 0 qσ24 ha0 ha1 hf
def md_X2_leaveYear : List (Nat × Nat) := [(2, 15)]
set_option maxRecDepth 100000 in
theorem fr_X2_leaveYear {ho : Nat → Bool} (σ : bl_St) (a0 : Nat) (o : Unit × bl_St) (hw : bl_WT σ) (hh : bl_WH ho σ) (ha0 : bl_sh[a0]? = some (2, 15) ∧ ho a0 = true) (hf : f_X2_leaveYear σ a0 = some o) : bl_Fq ho md_X2_leaveYear σ o.2 := by
  obtain ⟨σ0, hz⟩ : ∃ z, z = σ := ⟨_, rfl⟩
  suffices hgo : bl_Fq ho md_X2_leaveYear σ0 o.2 by rw [hz] at hgo; exact hgo
  have qσ : bl_Fq ho md_X2_leaveYear σ0 σ := by rw [hz]; exact ⟨hw, hh, fun _ _ => ⟨rfl, rfl, rfl⟩⟩
  unfold f_X2_leaveYear at hf
  obtain ⟨σ1, e2⟩ : ∃ z : bl_St, z = bl_pI σ a0 1 0 := ⟨_, rfl⟩
  have hf := bl_let_at e2 hf
  have qσ1 : bl_Fq ho md_X2_leaveYear σ0 σ1 := by rw [e2]; exact bl_Fq_I qσ (bl_al_in ha0.1 (by decide) ha0.2)
  obtain ⟨σ3, e4⟩ : ∃ z : bl_St, z = bl_pI σ1 a0 2 0 := ⟨_, rfl⟩
  have hf := bl_let_at e4 hf
  have qσ3 : bl_Fq ho md_X2_leaveYear σ0 σ3 := by rw [e4]; exact bl_Fq_I qσ1 (bl_al_in ha0.1 (by decide) ha0.2)
  obtain ⟨σ5, e6⟩ : ∃ z : bl_St, z = bl_pI σ3 a0 3 0 := ⟨_, rfl⟩
  have hf := bl_let_at e6 hf
  have qσ5 : bl_Fq ho md_X2_leaveYear σ0 σ5 := by rw [e6]; exact bl_Fq_I qσ3 (bl_al_in ha0.1 (by decide) ha0.2)
  obtain ⟨σ7, e8⟩ : ∃ z : bl_St, z = bl_pI σ5 a0 4 0 := ⟨_, rfl⟩
  have hf := bl_let_at e8 hf
  have qσ7 : bl_Fq ho md_X2_leaveYear σ0 σ7 := by rw [e8]; exact bl_Fq_I qσ5 (bl_al_in ha0.1 (by decide) ha0.2)
  obtain ⟨σ9, e10⟩ : ∃ z : bl_St, z = bl_pI σ7 a0 5 0 := ⟨_, rfl⟩
  have hf := bl_let_at e10 hf
  have qσ9 : bl_Fq ho md_X2_leaveYear σ0 σ9 := by rw [e10]; exact bl_Fq_I qσ7 (bl_al_in ha0.1 (by decide) ha0.2)
  rw [← Option.some.inj hf]
  exact qσ9
def md_X2_clear : List (Nat × Nat) := [(2, 15)]
set_option maxRecDepth 100000 in
theorem fr_X2_clear {ho : Nat → Bool} (σ : bl_St) (a0 : Nat) (o : Unit × bl_St) (hw : bl_WT σ) (hh : bl_WH ho σ) (ha0 : bl_sh[a0]? = some (2, 15) ∧ ho a0 = true) (hf : f_X2_clear σ a0 = some o) : bl_Fq ho md_X2_clear σ o.2 := by
  obtain ⟨σ0, hz⟩ : ∃ z, z = σ := ⟨_, rfl⟩
  suffices hgo : bl_Fq ho md_X2_clear σ0 o.2 by rw [hz] at hgo; exact hgo
  have qσ : bl_Fq ho md_X2_clear σ0 σ := by rw [hz]; exact ⟨hw, hh, fun _ _ => ⟨rfl, rfl, rfl⟩⟩
  unfold f_X2_clear at hf
  obtain ⟨σ1, e2⟩ : ∃ z : bl_St, z = bl_pI σ a0 0 0 := ⟨_, rfl⟩
  have hf := bl_let_at e2 hf
  have qσ1 : bl_Fq ho md_X2_clear σ0 σ1 := by rw [e2]; exact bl_Fq_I qσ (bl_al_in ha0.1 (by decide) ha0.2)
  obtain ⟨σ3, e4⟩ : ∃ z : bl_St, z = bl_pI σ1 a0 6 0 := ⟨_, rfl⟩
  have hf := bl_let_at e4 hf
  have qσ3 : bl_Fq ho md_X2_clear σ0 σ3 := by rw [e4]; exact bl_Fq_I qσ1 (bl_al_in ha0.1 (by decide) ha0.2)
  obtain ⟨σ5, e6⟩ : ∃ z : bl_St, z = bl_pI σ3 a0 7 0 := ⟨_, rfl⟩
  have hf := bl_let_at e6 hf
  have qσ5 : bl_Fq ho md_X2_clear σ0 σ5 := by rw [e6]; exact bl_Fq_I qσ3 (bl_al_in ha0.1 (by decide) ha0.2)
  obtain ⟨σ7, e8⟩ : ∃ z : bl_St, z = bl_pI σ5 a0 8 0 := ⟨_, rfl⟩
  have hf := bl_let_at e8 hf
  have qσ7 : bl_Fq ho md_X2_clear σ0 σ7 := by rw [e8]; exact bl_Fq_I qσ5 (bl_al_in ha0.1 (by decide) ha0.2)
  obtain ⟨σ9, e10⟩ : ∃ z : bl_St, z = bl_pI σ7 a0 9 0 := ⟨_, rfl⟩
  have hf := bl_let_at e10 hf
  have qσ9 : bl_Fq ho md_X2_clear σ0 σ9 := by rw [e10]; exact bl_Fq_I qσ7 (bl_al_in ha0.1 (by decide) ha0.2)
  obtain ⟨σ11, e12⟩ : ∃ z : bl_St, z = bl_pI σ9 a0 10 0 := ⟨_, rfl⟩
  have hf := bl_let_at e12 hf
  have qσ11 : bl_Fq ho md_X2_clear σ0 σ11 := by rw [e12]; exact bl_Fq_I qσ9 (bl_al_in ha0.1 (by decide) ha0.2)
  obtain ⟨σ13, e14⟩ : ∃ z : bl_St, z = bl_pI σ11 a0 11 0 := ⟨_, rfl⟩
  have hf := bl_let_at e14 hf
  have qσ13 : bl_Fq ho md_X2_clear σ0 σ13 := by rw [e14]; exact bl_Fq_I qσ11 (bl_al_in ha0.1 (by decide) ha0.2)
  obtain ⟨σ15, e16⟩ : ∃ z : bl_St, z = bl_pI σ13 a0 12 0 := ⟨_, rfl⟩
  have hf := bl_let_at e16 hf
  have qσ15 : bl_Fq ho md_X2_clear σ0 σ15 := by rw [e16]; exact bl_Fq_I qσ13 (bl_al_in ha0.1 (by decide) ha0.2)
  obtain ⟨r17, σ18, h19, hf⟩ := bl_bd_at hf
  have qσ18 := bl_Fq_call qσ15 (fr_X2_leaveYear σ15 a0 _ qσ15.1 qσ15.2.1 ha0 h19) (by decide)
  rw [← Option.some.inj hf]
  exact qσ18
def md_X2_copy : List (Nat × Nat) := [(2, 15), (20, 48)]
set_option maxRecDepth 100000 in
theorem fr_X2_copy {ho : Nat → Bool} (σ : bl_St) (a0 : Nat) (a1 : Nat) (o : Unit × bl_St) (hw : bl_WT σ) (hh : bl_WH ho σ) (ha0 : bl_sh[a0]? = some (2, 15) ∧ ho a0 = true) (ha1 : bl_sh[a1]? = some (2, 15)) (hf : f_X2_copy σ a0 a1 = some o) : bl_Fq ho md_X2_copy σ o.2 := by
  obtain ⟨σ0, hz⟩ : ∃ z, z = σ := ⟨_, rfl⟩
  suffices hgo : bl_Fq ho md_X2_copy σ0 o.2 by rw [hz] at hgo; exact hgo
  have qσ : bl_Fq ho md_X2_copy σ0 σ := by rw [hz]; exact ⟨hw, hh, fun _ _ => ⟨rfl, rfl, rfl⟩⟩
  have ha1 := And.intro ha1 trivial
  unfold f_X2_copy at hf
  obtain ⟨σ1, e2⟩ : ∃ z : bl_St, z = bl_pI σ a0 0 (bl_I σ a1 0) := ⟨_, rfl⟩
  have hf := bl_let_at e2 hf
  have qσ1 : bl_Fq ho md_X2_copy σ0 σ1 := by rw [e2]; exact bl_Fq_I qσ (bl_al_in ha0.1 (by decide) ha0.2)
  obtain ⟨-, hf⟩ := bl_gd_at hf
  obtain ⟨σ4, e5⟩ : ∃ z : bl_St, z = bl_pI σ1 a0 1 (bl_I σ1 a1 1) := ⟨_, rfl⟩
  have hf := bl_let_at e5 hf
  have qσ4 : bl_Fq ho md_X2_copy σ0 σ4 := by rw [e5]; exact bl_Fq_I qσ1 (bl_al_in ha0.1 (by decide) ha0.2)
  obtain ⟨σ6, e7⟩ : ∃ z : bl_St, z = bl_pI σ4 a0 2 (bl_I σ4 a1 2) := ⟨_, rfl⟩
  have hf := bl_let_at e7 hf
  have qσ6 : bl_Fq ho md_X2_copy σ0 σ6 := by rw [e7]; exact bl_Fq_I qσ4 (bl_al_in ha0.1 (by decide) ha0.2)
  obtain ⟨σ8, e9⟩ : ∃ z : bl_St, z = bl_pI σ6 a0 3 (bl_I σ6 a1 3) := ⟨_, rfl⟩
  have hf := bl_let_at e9 hf
  have qσ8 : bl_Fq ho md_X2_copy σ0 σ8 := by rw [e9]; exact bl_Fq_I qσ6 (bl_al_in ha0.1 (by decide) ha0.2)
  obtain ⟨-, hf⟩ := bl_gd_at hf
  obtain ⟨σ11, e12⟩ : ∃ z : bl_St, z = bl_pI σ8 a0 4 (bl_I σ8 a1 4) := ⟨_, rfl⟩
  have hf := bl_let_at e12 hf
  have qσ11 : bl_Fq ho md_X2_copy σ0 σ11 := by rw [e12]; exact bl_Fq_I qσ8 (bl_al_in ha0.1 (by decide) ha0.2)
  obtain ⟨σ13, e14⟩ : ∃ z : bl_St, z = bl_pI σ11 a0 5 (bl_I σ11 a1 5) := ⟨_, rfl⟩
  have hf := bl_let_at e14 hf
  have qσ13 : bl_Fq ho md_X2_copy σ0 σ13 := by rw [e14]; exact bl_Fq_I qσ11 (bl_al_in ha0.1 (by decide) ha0.2)
  obtain ⟨σ15, e16⟩ : ∃ z : bl_St, z = bl_pI σ13 a0 6 (bl_I σ13 a1 6) := ⟨_, rfl⟩
  have hf := bl_let_at e16 hf
  have qσ15 : bl_Fq ho md_X2_copy σ0 σ15 := by rw [e16]; exact bl_Fq_I qσ13 (bl_al_in ha0.1 (by decide) ha0.2)
  obtain ⟨σ17, e18⟩ : ∃ z : bl_St, z = bl_pI σ15 a0 7 (bl_I σ15 a1 7) := ⟨_, rfl⟩
  have hf := bl_let_at e18 hf
  have qσ17 : bl_Fq ho md_X2_copy σ0 σ17 := by rw [e18]; exact bl_Fq_I qσ15 (bl_al_in ha0.1 (by decide) ha0.2)
  obtain ⟨σ19, e20⟩ : ∃ z : bl_St, z = bl_pI σ17 a0 8 (bl_I σ17 a1 8) := ⟨_, rfl⟩
  have hf := bl_let_at e20 hf
  have qσ19 : bl_Fq ho md_X2_copy σ0 σ19 := by rw [e20]; exact bl_Fq_I qσ17 (bl_al_in ha0.1 (by decide) ha0.2)
  obtain ⟨σ21, e22⟩ : ∃ z : bl_St, z = bl_pI σ19 a0 9 (bl_I σ19 a1 9) := ⟨_, rfl⟩
  have hf := bl_let_at e22 hf
  have qσ21 : bl_Fq ho md_X2_copy σ0 σ21 := by rw [e22]; exact bl_Fq_I qσ19 (bl_al_in ha0.1 (by decide) ha0.2)
  obtain ⟨σ23, e24⟩ : ∃ z : bl_St, z = bl_pI σ21 a0 10 (bl_I σ21 a1 10) := ⟨_, rfl⟩
  have hf := bl_let_at e24 hf
  have qσ23 : bl_Fq ho md_X2_copy σ0 σ23 := by rw [e24]; exact bl_Fq_I qσ21 (bl_al_in ha0.1 (by decide) ha0.2)
  obtain ⟨σ25, e26⟩ : ∃ z : bl_St, z = bl_pI σ23 a0 11 (bl_I σ23 a1 11) := ⟨_, rfl⟩
  have hf := bl_let_at e26 hf
  have qσ25 : bl_Fq ho md_X2_copy σ0 σ25 := by rw [e26]; exact bl_Fq_I qσ23 (bl_al_in ha0.1 (by decide) ha0.2)
  obtain ⟨σ27, e28⟩ : ∃ z : bl_St, z = bl_pI σ25 a0 12 (bl_I σ25 a1 12) := ⟨_, rfl⟩
  have hf := bl_let_at e28 hf
  have qσ27 : bl_Fq ho md_X2_copy σ0 σ27 := by rw [e28]; exact bl_Fq_I qσ25 (bl_al_in ha0.1 (by decide) ha0.2)
  have h29 := bl_Fq_gn qσ27 ha1 (k := 13) rfl
  have h30 := bl_Fq_g qσ27 ha0 (k := 13) rfl (by decide)
  obtain ⟨σ31, e32⟩ : ∃ z : bl_St, z = bl_cI σ27 (bl_R σ27 a1 13) (Int32.toNatClampNeg 0) (bl_R σ27 a0 13) (Int32.toNatClampNeg 0) (Int32.toNatClampNeg 48) := ⟨_, rfl⟩
  have hf := bl_let_at e32 hf
  have qσ31 : bl_Fq ho md_X2_copy σ0 σ31 := by rw [e32]; exact bl_Fq_cI qσ27 (bl_al_in h30.1 (by decide) h30.2)
  have h33 := bl_Fq_gn qσ31 ha1 (k := 14) rfl
  have h34 := bl_Fq_g qσ31 ha0 (k := 14) rfl (by decide)
  obtain ⟨σ35, e36⟩ : ∃ z : bl_St, z = bl_cI σ31 (bl_R σ31 a1 14) (Int32.toNatClampNeg 0) (bl_R σ31 a0 14) (Int32.toNatClampNeg 0) (Int32.toNatClampNeg 48) := ⟨_, rfl⟩
  have hf := bl_let_at e36 hf
  have qσ35 : bl_Fq ho md_X2_copy σ0 σ35 := by rw [e36]; exact bl_Fq_cI qσ31 (bl_al_in h34.1 (by decide) h34.2)
  rw [← Option.some.inj hf]
  exact qσ35
def md_X2_allPaid : List (Nat × Nat) := []
set_option maxRecDepth 100000 in
theorem fr_X2_allPaid {ho : Nat → Bool} (σ : bl_St) (a0 : Nat) (o : Int32 × bl_St) (hw : bl_WT σ) (hh : bl_WH ho σ) (ha0 : bl_sh[a0]? = some (2, 15)) (hf : f_X2_allPaid σ a0 = some o) : bl_Fq ho md_X2_allPaid σ o.2 := by
  obtain ⟨σ0, hz⟩ : ∃ z, z = σ := ⟨_, rfl⟩
  suffices hgo : bl_Fq ho md_X2_allPaid σ0 o.2 by rw [hz] at hgo; exact hgo
  have qσ : bl_Fq ho md_X2_allPaid σ0 σ := by rw [hz]; exact ⟨hw, hh, fun _ _ => ⟨rfl, rfl, rfl⟩⟩
  have ha0 := And.intro ha0 trivial
  unfold f_X2_allPaid at hf
  rw [← Option.some.inj hf]
  exact qσ
def md_X2_startYear : List (Nat × Nat) := [(2, 15)]
set_option maxRecDepth 100000 in
theorem gw_X2_startYear_27 {ho : Nat → Bool} {σ0 : bl_St} {out : Int32 × bl_St} : ∀ (σ : bl_St) (v0 : Nat) (v2 : Int32) (v3 : Int32) (s0 : Int32), bl_Fq ho md_X2_startYear σ0 σ → (bl_sh[v0]? = some (2, 15) ∧ ho v0 = true) → (b_X2_startYear_27 ) σ v0 v2 v3 s0 = some out → bl_Fq ho md_X2_startYear σ0 out.2 := by
  intro σ v0 v2 v3 s0 qσ hv0 hf
  unfold b_X2_startYear_27 at hf
  obtain ⟨σ1, e2⟩ : ∃ z : bl_St, z = bl_pI σ v0 7 ((bl_I σ v0 7) + v3) := ⟨_, rfl⟩
  have hf := bl_let_at e2 hf
  have qσ1 : bl_Fq ho md_X2_startYear σ0 σ1 := by rw [e2]; exact bl_Fq_I qσ (bl_al_in hv0.1 (by decide) hv0.2)
  obtain ⟨σ3, e4⟩ : ∃ z : bl_St, z = bl_pI σ1 v0 8 ((bl_I σ1 v0 8) + s0) := ⟨_, rfl⟩
  have hf := bl_let_at e4 hf
  have qσ3 : bl_Fq ho md_X2_startYear σ0 σ3 := by rw [e4]; exact bl_Fq_I qσ1 (bl_al_in hv0.1 (by decide) hv0.2)
  obtain ⟨σ5, e6⟩ : ∃ z : bl_St, z = bl_pI σ3 v0 1 1 := ⟨_, rfl⟩
  have hf := bl_let_at e6 hf
  have qσ5 : bl_Fq ho md_X2_startYear σ0 σ5 := by rw [e6]; exact bl_Fq_I qσ3 (bl_al_in hv0.1 (by decide) hv0.2)
  obtain ⟨-, hf⟩ := bl_gd_at hf
  obtain ⟨σ8, e9⟩ : ∃ z : bl_St, z = bl_pI σ5 v0 4 v2 := ⟨_, rfl⟩
  have hf := bl_let_at e9 hf
  have qσ8 : bl_Fq ho md_X2_startYear σ0 σ8 := by rw [e9]; exact bl_Fq_I qσ5 (bl_al_in hv0.1 (by decide) hv0.2)
  obtain ⟨σ10, e11⟩ : ∃ z : bl_St, z = bl_pI σ8 v0 5 (v3 + s0) := ⟨_, rfl⟩
  have hf := bl_let_at e11 hf
  have qσ10 : bl_Fq ho md_X2_startYear σ0 σ10 := by rw [e11]; exact bl_Fq_I qσ8 (bl_al_in hv0.1 (by decide) hv0.2)
  rw [← Option.some.inj hf]
  exact qσ10
set_option maxRecDepth 100000 in
theorem fr_X2_startYear {ho : Nat → Bool} (σ : bl_St) (a0 : Nat) (a1 : Nat) (a2 : Int32) (o : Int32 × bl_St) (hw : bl_WT σ) (hh : bl_WH ho σ) (ha0 : bl_sh[a0]? = some (2, 15) ∧ ho a0 = true) (ha1 : bl_sh[a1]? = some (8, 5)) (hf : f_X2_startYear σ a0 a1 a2 = some o) : bl_Fq ho md_X2_startYear σ o.2 := by
  obtain ⟨σ0, hz⟩ : ∃ z, z = σ := ⟨_, rfl⟩
  suffices hgo : bl_Fq ho md_X2_startYear σ0 o.2 by rw [hz] at hgo; exact hgo
  have qσ : bl_Fq ho md_X2_startYear σ0 σ := by rw [hz]; exact ⟨hw, hh, fun _ _ => ⟨rfl, rfl, rfl⟩⟩
  have ha1 := And.intro ha1 trivial
  unfold f_X2_startYear at hf
  obtain ⟨r12, σ13, h14, hf⟩ := bl_bd_at hf
  have qσ13 := bl_Fq_call qσ (fr_X8_part σ a1 (bl_I σ a0 0) 0 _ qσ.1 qσ.2.1 ha1.1 h14) (by decide)
  rcases bl_if_at hf with hf | hf
  · exact gw_X2_startYear_27  σ13 a0 a2 r12 0 qσ13 ha0 hf
  · obtain ⟨r16, σ17, h18, hf⟩ := bl_bd_at hf
    have qσ17 := bl_Fq_call qσ13 (fr_X8_part σ13 a1 (bl_I σ13 a0 0) 4 _ qσ13.1 qσ13.2.1 ha1.1 h18) (by decide)
    exact gw_X2_startYear_27  σ17 a0 a2 r12 r16 qσ17 ha0 hf
def md_X2_putEntry : List (Nat × Nat) := [(20, 48)]
set_option maxRecDepth 100000 in
theorem fr_X2_putEntry {ho : Nat → Bool} (σ : bl_St) (a0 : Nat) (a1 : Int32) (a2 : Int32) (a3 : Int32) (a4 : Int32) (o : Unit × bl_St) (hw : bl_WT σ) (hh : bl_WH ho σ) (ha0 : bl_sh[a0]? = some (20, 48) ∧ ho a0 = true) (hf : f_X2_putEntry σ a0 a1 a2 a3 a4 = some o) : bl_Fq ho md_X2_putEntry σ o.2 := by
  obtain ⟨σ0, hz⟩ : ∃ z, z = σ := ⟨_, rfl⟩
  suffices hgo : bl_Fq ho md_X2_putEntry σ0 o.2 by rw [hz] at hgo; exact hgo
  have qσ : bl_Fq ho md_X2_putEntry σ0 σ := by rw [hz]; exact ⟨hw, hh, fun _ _ => ⟨rfl, rfl, rfl⟩⟩
  unfold f_X2_putEntry at hf
  obtain ⟨r1, σ2, h3, hf⟩ := bl_bd_at hf
  have qσ2 := bl_Fq_call qσ (fr_J9_floorMod_7cf53 σ a1 16 _ qσ.1 qσ.2.1  h3) (by decide)
  obtain ⟨x4, e5⟩ : ∃ z, z = (r1 * 3) := ⟨_, rfl⟩
  have hf := bl_let_at e5 hf
  obtain ⟨-, hf⟩ := bl_gd_at hf
  obtain ⟨σ7, e8⟩ : ∃ z : bl_St, z = bl_pI σ2 a0 (Int32.toNatClampNeg x4) a2 := ⟨_, rfl⟩
  have hf := bl_let_at e8 hf
  have qσ7 : bl_Fq ho md_X2_putEntry σ0 σ7 := by rw [e8]; exact bl_Fq_I qσ2 (bl_al_in ha0.1 (by decide) ha0.2)
  obtain ⟨-, hf⟩ := bl_gd_at hf
  obtain ⟨σ10, e11⟩ : ∃ z : bl_St, z = bl_pI σ7 a0 (Int32.toNatClampNeg (x4 + 1)) a3 := ⟨_, rfl⟩
  have hf := bl_let_at e11 hf
  have qσ10 : bl_Fq ho md_X2_putEntry σ0 σ10 := by rw [e11]; exact bl_Fq_I qσ7 (bl_al_in ha0.1 (by decide) ha0.2)
  obtain ⟨-, hf⟩ := bl_gd_at hf
  obtain ⟨σ13, e14⟩ : ∃ z : bl_St, z = bl_pI σ10 a0 (Int32.toNatClampNeg (x4 + 2)) a4 := ⟨_, rfl⟩
  have hf := bl_let_at e14 hf
  have qσ13 : bl_Fq ho md_X2_putEntry σ0 σ13 := by rw [e14]; exact bl_Fq_I qσ10 (bl_al_in ha0.1 (by decide) ha0.2)
  rw [← Option.some.inj hf]
  exact qσ13
def md_X2_endYear : List (Nat × Nat) := [(2, 15), (20, 48)]
set_option maxRecDepth 100000 in
theorem fr_X2_endYear {ho : Nat → Bool} (σ : bl_St) (a0 : Nat) (a1 : Nat) (o : Unit × bl_St) (hw : bl_WT σ) (hh : bl_WH ho σ) (ha0 : bl_sh[a0]? = some (2, 15) ∧ ho a0 = true) (ha1 : bl_sh[a1]? = some (8, 5)) (hf : f_X2_endYear σ a0 a1 = some o) : bl_Fq ho md_X2_endYear σ o.2 := by
  obtain ⟨σ0, hz⟩ : ∃ z, z = σ := ⟨_, rfl⟩
  suffices hgo : bl_Fq ho md_X2_endYear σ0 o.2 by rw [hz] at hgo; exact hgo
  have qσ : bl_Fq ho md_X2_endYear σ0 σ := by rw [hz]; exact ⟨hw, hh, fun _ _ => ⟨rfl, rfl, rfl⟩⟩
  have ha1 := And.intro ha1 trivial
  unfold f_X2_endYear at hf
  have h1 := bl_Fq_g qσ ha0 (k := 14) rfl (by decide)
  obtain ⟨r2, σ3, h4, hf⟩ := bl_bd_at hf
  have qσ3 := bl_Fq_call qσ (fr_X2_putEntry σ (bl_R σ a0 14) (bl_I σ a0 6) (bl_I σ a0 0) (bl_I σ a0 5) (bl_I σ a0 3) _ qσ.1 qσ.2.1 h1 h4) (by decide)
  obtain ⟨σ5, e6⟩ : ∃ z : bl_St, z = bl_pI σ3 a0 6 ((bl_I σ3 a0 6) + 1) := ⟨_, rfl⟩
  have hf := bl_let_at e6 hf
  have qσ5 : bl_Fq ho md_X2_endYear σ0 σ5 := by rw [e6]; exact bl_Fq_I qσ3 (bl_al_in ha0.1 (by decide) ha0.2)
  obtain ⟨r7, σ8, h9, hf⟩ := bl_bd_at hf
  have qσ8 := bl_Fq_call qσ5 (fr_X8_next σ5 a1 (bl_I σ5 a0 0) (bl_I σ5 a0 3) _ qσ5.1 qσ5.2.1 ha1.1 h9) (by decide)
  obtain ⟨σ10, e11⟩ : ∃ z : bl_St, z = bl_pI σ8 a0 0 r7 := ⟨_, rfl⟩
  have hf := bl_let_at e11 hf
  have qσ10 : bl_Fq ho md_X2_endYear σ0 σ10 := by rw [e11]; exact bl_Fq_I qσ8 (bl_al_in ha0.1 (by decide) ha0.2)
  obtain ⟨r12, σ13, h14, hf⟩ := bl_bd_at hf
  have qσ13 := bl_Fq_call qσ10 (fr_X2_leaveYear σ10 a0 _ qσ10.1 qσ10.2.1 ha0 h14) (by decide)
  rw [← Option.some.inj hf]
  exact qσ13
def md_X2_passChance : List (Nat × Nat) := [(2, 15), (20, 48)]
set_option maxRecDepth 100000 in
theorem fr_X2_passChance {ho : Nat → Bool} (σ : bl_St) (a0 : Nat) (a1 : Nat) (o : Int32 × bl_St) (hw : bl_WT σ) (hh : bl_WH ho σ) (ha0 : bl_sh[a0]? = some (2, 15) ∧ ho a0 = true) (ha1 : bl_sh[a1]? = some (8, 5)) (hf : f_X2_passChance σ a0 a1 = some o) : bl_Fq ho md_X2_passChance σ o.2 := by
  obtain ⟨σ0, hz⟩ : ∃ z, z = σ := ⟨_, rfl⟩
  suffices hgo : bl_Fq ho md_X2_passChance σ0 o.2 by rw [hz] at hgo; exact hgo
  have qσ : bl_Fq ho md_X2_passChance σ0 σ := by rw [hz]; exact ⟨hw, hh, fun _ _ => ⟨rfl, rfl, rfl⟩⟩
  have ha1 := And.intro ha1 trivial
  unfold f_X2_passChance at hf
  obtain ⟨σ1, e2⟩ : ∃ z : bl_St, z = bl_pI σ a0 2 ((bl_I σ a0 2) + 1) := ⟨_, rfl⟩
  have hf := bl_let_at e2 hf
  have qσ1 : bl_Fq ho md_X2_passChance σ0 σ1 := by rw [e2]; exact bl_Fq_I qσ (bl_al_in ha0.1 (by decide) ha0.2)
  obtain ⟨r3, σ4, h5, hf⟩ := bl_bd_at hf
  have qσ4 := bl_Fq_call qσ1 (fr_X8_chances σ1 a1 _ qσ1.1 qσ1.2.1 ha1.1 h5) (by decide)
  obtain ⟨x6, e7⟩ : ∃ z, z = (r3 - (bl_I σ4 a0 2)) := ⟨_, rfl⟩
  have hf := bl_let_at e7 hf
  rcases bl_if_at hf with hf | hf
  · rw [← Option.some.inj hf]
    exact qσ4
  · obtain ⟨r9, σ10, h11, hf⟩ := bl_bd_at hf
    have qσ10 := bl_Fq_call qσ4 (fr_X2_endYear σ4 a0 a1 _ qσ4.1 qσ4.2.1 ha0 ha1.1 h11) (by decide)
    rw [← Option.some.inj hf]
    exact qσ10
def md_X2_countTold : List (Nat × Nat) := [(2, 15)]
set_option maxRecDepth 100000 in
theorem fr_X2_countTold {ho : Nat → Bool} (σ : bl_St) (a0 : Nat) (o : Unit × bl_St) (hw : bl_WT σ) (hh : bl_WH ho σ) (ha0 : bl_sh[a0]? = some (2, 15) ∧ ho a0 = true) (hf : f_X2_countTold σ a0 = some o) : bl_Fq ho md_X2_countTold σ o.2 := by
  obtain ⟨σ0, hz⟩ : ∃ z, z = σ := ⟨_, rfl⟩
  suffices hgo : bl_Fq ho md_X2_countTold σ0 o.2 by rw [hz] at hgo; exact hgo
  have qσ : bl_Fq ho md_X2_countTold σ0 σ := by rw [hz]; exact ⟨hw, hh, fun _ _ => ⟨rfl, rfl, rfl⟩⟩
  unfold f_X2_countTold at hf
  rcases bl_if_at hf with hf | hf
  · obtain ⟨σ2, e3⟩ : ∃ z : bl_St, z = bl_pI σ a0 3 ((bl_I σ a0 3) + 1) := ⟨_, rfl⟩
    have hf := bl_let_at e3 hf
    have qσ2 : bl_Fq ho md_X2_countTold σ0 σ2 := by rw [e3]; exact bl_Fq_I qσ (bl_al_in ha0.1 (by decide) ha0.2)
    rw [← Option.some.inj hf]
    exact qσ2
  · obtain ⟨σ4, e5⟩ : ∃ z : bl_St, z = bl_pI σ a0 4 0 := ⟨_, rfl⟩
    have hf := bl_let_at e5 hf
    have qσ4 : bl_Fq ho md_X2_countTold σ0 σ4 := by rw [e5]; exact bl_Fq_I qσ (bl_al_in ha0.1 (by decide) ha0.2)
    rw [← Option.some.inj hf]
    exact qσ4
def md_X2_takeLoss : List (Nat × Nat) := [(2, 15), (20, 48)]
set_option maxRecDepth 100000 in
theorem gw_X2_takeLoss_48 {ho : Nat → Bool} {σ0 : bl_St} {out : Int32 × bl_St} : ∀ (σ : bl_St) (v0 : Nat) (v3 : Int32) (s0 : Int32), bl_Fq ho md_X2_takeLoss σ0 σ → (bl_sh[v0]? = some (2, 15) ∧ ho v0 = true) → (b_X2_takeLoss_48 ) σ v0 v3 s0 = some out → bl_Fq ho md_X2_takeLoss σ0 out.2 := by
  intro σ v0 v3 s0 qσ hv0 hf
  unfold b_X2_takeLoss_48 at hf
  obtain ⟨σ1, e2⟩ : ∃ z : bl_St, z = bl_pI σ v0 5 ((bl_I σ v0 5) + s0) := ⟨_, rfl⟩
  have hf := bl_let_at e2 hf
  have qσ1 : bl_Fq ho md_X2_takeLoss σ0 σ1 := by rw [e2]; exact bl_Fq_I qσ (bl_al_in hv0.1 (by decide) hv0.2)
  rcases bl_if_at hf with hf | hf
  · obtain ⟨σ4, e5⟩ : ∃ z : bl_St, z = bl_pI σ1 v0 12 ((bl_I σ1 v0 12) + 1) := ⟨_, rfl⟩
    have hf := bl_let_at e5 hf
    have qσ4 : bl_Fq ho md_X2_takeLoss σ0 σ4 := by rw [e5]; exact bl_Fq_I qσ1 (bl_al_in hv0.1 (by decide) hv0.2)
    obtain ⟨σ6, e7⟩ : ∃ z : bl_St, z = bl_pI σ4 v0 10 ((bl_I σ4 v0 10) + s0) := ⟨_, rfl⟩
    have hf := bl_let_at e7 hf
    have qσ6 : bl_Fq ho md_X2_takeLoss σ0 σ6 := by rw [e7]; exact bl_Fq_I qσ4 (bl_al_in hv0.1 (by decide) hv0.2)
    rw [← Option.some.inj hf]
    exact qσ6
  · obtain ⟨σ8, e9⟩ : ∃ z : bl_St, z = bl_pI σ1 v0 11 ((bl_I σ1 v0 11) + 1) := ⟨_, rfl⟩
    have hf := bl_let_at e9 hf
    have qσ8 : bl_Fq ho md_X2_takeLoss σ0 σ8 := by rw [e9]; exact bl_Fq_I qσ1 (bl_al_in hv0.1 (by decide) hv0.2)
    obtain ⟨σ10, e11⟩ : ∃ z : bl_St, z = bl_pI σ8 v0 9 ((bl_I σ8 v0 9) + s0) := ⟨_, rfl⟩
    have hf := bl_let_at e11 hf
    have qσ10 : bl_Fq ho md_X2_takeLoss σ0 σ10 := by rw [e11]; exact bl_Fq_I qσ8 (bl_al_in hv0.1 (by decide) hv0.2)
    obtain ⟨r12, σ13, h14, hf⟩ := bl_bd_at hf
    have qσ13 := bl_Fq_call qσ10 (fr_X2_countTold σ10 v0 _ qσ10.1 qσ10.2.1 hv0 h14) (by decide)
    rw [← Option.some.inj hf]
    exact qσ13
set_option maxRecDepth 100000 in
theorem gw_X2_takeLoss_27 {ho : Nat → Bool} {σ0 : bl_St} {out : Int32 × bl_St} : ∀ (σ : bl_St) (v0 : Nat) (v1 : Nat) (v2 : Int32) (v3 : Int32) (s0 : Int32) (s1 : Int32) (s2 : Int32) (s3 : Int32) (s4 : Nat), bl_Fq ho md_X2_takeLoss σ0 σ → (bl_sh[v0]? = some (2, 15) ∧ ho v0 = true) → (bl_sh[v1]? = some (8, 5) ∧ True) → (bl_sh[s4]? = some (20, 48) ∧ ho s4 = true) → (b_X2_takeLoss_27 ) σ v0 v1 v2 v3 s0 s1 s2 s3 s4 = some out → bl_Fq ho md_X2_takeLoss σ0 out.2 := by
  intro σ v0 v1 v2 v3 s0 s1 s2 s3 s4 qσ hv0 hv1 hs4 hf
  unfold b_X2_takeLoss_27 at hf
  obtain ⟨r15, σ16, h17, hf⟩ := bl_bd_at hf
  have qσ16 := bl_Fq_call qσ (fr_X2_putEntry σ s4 s3 s2 s1 s0 _ qσ.1 qσ.2.1 hs4 h17) (by decide)
  rcases bl_if_at hf with hf | hf
  · obtain ⟨r19, σ20, h21, hf⟩ := bl_bd_at hf
    have qσ20 := bl_Fq_call qσ16 (fr_X8_sortPart σ16 v1 v2 0 _ qσ16.1 qσ16.2.1 hv1.1 h21) (by decide)
    exact gw_X2_takeLoss_48  σ20 v0 v3 r19 qσ20 hv0 hf
  · obtain ⟨r22, σ23, h24, hf⟩ := bl_bd_at hf
    have qσ23 := bl_Fq_call qσ16 (fr_X8_ownOf σ16 v1 v2 _ qσ16.1 qσ16.2.1 hv1.1 h24) (by decide)
    exact gw_X2_takeLoss_48  σ23 v0 v3 r22 qσ23 hv0 hf
set_option maxRecDepth 100000 in
theorem fr_X2_takeLoss {ho : Nat → Bool} (σ : bl_St) (a0 : Nat) (a1 : Nat) (a2 : Int32) (a3 : Int32) (o : Int32 × bl_St) (hw : bl_WT σ) (hh : bl_WH ho σ) (ha0 : bl_sh[a0]? = some (2, 15) ∧ ho a0 = true) (ha1 : bl_sh[a1]? = some (8, 5)) (hf : f_X2_takeLoss σ a0 a1 a2 a3 = some o) : bl_Fq ho md_X2_takeLoss σ o.2 := by
  obtain ⟨σ0, hz⟩ : ∃ z, z = σ := ⟨_, rfl⟩
  suffices hgo : bl_Fq ho md_X2_takeLoss σ0 o.2 by rw [hz] at hgo; exact hgo
  have qσ : bl_Fq ho md_X2_takeLoss σ0 σ := by rw [hz]; exact ⟨hw, hh, fun _ _ => ⟨rfl, rfl, rfl⟩⟩
  have ha1 := And.intro ha1 trivial
  unfold f_X2_takeLoss at hf
  have h25 := bl_Fq_g qσ ha0 (k := 13) rfl (by decide)
  rcases bl_if_at hf with hf | hf
  · exact gw_X2_takeLoss_27  σ a0 a1 a2 a3 0 a2 (bl_I σ a0 6) ((bl_I σ a0 11) + (bl_I σ a0 12)) (bl_R σ a0 13) qσ ha0 ha1 h25 hf
  · exact gw_X2_takeLoss_27  σ a0 a1 a2 a3 1 a2 (bl_I σ a0 6) ((bl_I σ a0 11) + (bl_I σ a0 12)) (bl_R σ a0 13) qσ ha0 ha1 h25 hf
def md_X3_savedIfTold : List (Nat × Nat) := []
set_option maxRecDepth 100000 in
theorem fr_X3_savedIfTold {ho : Nat → Bool} (σ : bl_St) (a0 : Nat) (a1 : Int32) (o : Int64 × bl_St) (hw : bl_WT σ) (hh : bl_WH ho σ) (ha0 : bl_sh[a0]? = some (3, 8)) (hf : f_X3_savedIfTold σ a0 a1 = some o) : bl_Fq ho md_X3_savedIfTold σ o.2 := by
  obtain ⟨σ0, hz⟩ : ∃ z, z = σ := ⟨_, rfl⟩
  suffices hgo : bl_Fq ho md_X3_savedIfTold σ0 o.2 by rw [hz] at hgo; exact hgo
  have qσ : bl_Fq ho md_X3_savedIfTold σ0 σ := by rw [hz]; exact ⟨hw, hh, fun _ _ => ⟨rfl, rfl, rfl⟩⟩
  have ha0 := And.intro ha0 trivial
  unfold f_X3_savedIfTold at hf
  have h1 := bl_Fq_gn qσ ha0 (k := 4) rfl
  obtain ⟨-, hf⟩ := bl_gd_at hf
  have h3 := bl_Fq_gn qσ ha0 (k := 5) rfl
  obtain ⟨-, hf⟩ := bl_gd_at hf
  rw [← Option.some.inj hf]
  exact qσ
def md_X4_look : List (Nat × Nat) := [(4, 12)]
set_option maxRecDepth 100000 in
theorem fr_X4_look {ho : Nat → Bool} (σ : bl_St) (a0 : Nat) (a1 : Nat) (a2 : Int32) (o : Unit × bl_St) (hw : bl_WT σ) (hh : bl_WH ho σ) (ha0 : bl_sh[a0]? = some (4, 12) ∧ ho a0 = true) (ha1 : bl_sh[a1]? = some (8, 5)) (hf : f_X4_look σ a0 a1 a2 = some o) : bl_Fq ho md_X4_look σ o.2 := by
  obtain ⟨σ0, hz⟩ : ∃ z, z = σ := ⟨_, rfl⟩
  suffices hgo : bl_Fq ho md_X4_look σ0 o.2 by rw [hz] at hgo; exact hgo
  have qσ : bl_Fq ho md_X4_look σ0 σ := by rw [hz]; exact ⟨hw, hh, fun _ _ => ⟨rfl, rfl, rfl⟩⟩
  have ha1 := And.intro ha1 trivial
  unfold f_X4_look at hf
  obtain ⟨σ1, e2⟩ : ∃ z : bl_St, z = bl_pR σ a0 0 a1 := ⟨_, rfl⟩
  have hf := bl_let_at e2 hf
  have qσ1 : bl_Fq ho md_X4_look σ0 σ1 := by rw [e2]; exact bl_Fq_R qσ (bl_al_in ha0.1 (by decide) ha0.2) ha0.1 (by decide) rfl ha1.1 (by decide) (Or.inr (by decide))
  obtain ⟨-, hf⟩ := bl_gd_at hf
  obtain ⟨σ4, e5⟩ : ∃ z : bl_St, z = bl_pI σ1 a0 1 a2 := ⟨_, rfl⟩
  have hf := bl_let_at e5 hf
  have qσ4 : bl_Fq ho md_X4_look σ0 σ4 := by rw [e5]; exact bl_Fq_I qσ1 (bl_al_in ha0.1 (by decide) ha0.2)
  obtain ⟨σ6, e7⟩ : ∃ z : bl_St, z = bl_pI σ4 a0 2 0 := ⟨_, rfl⟩
  have hf := bl_let_at e7 hf
  have qσ6 : bl_Fq ho md_X4_look σ0 σ6 := by rw [e7]; exact bl_Fq_I qσ4 (bl_al_in ha0.1 (by decide) ha0.2)
  obtain ⟨σ8, e9⟩ : ∃ z : bl_St, z = bl_pI σ6 a0 3 0 := ⟨_, rfl⟩
  have hf := bl_let_at e9 hf
  have qσ8 : bl_Fq ho md_X4_look σ0 σ8 := by rw [e9]; exact bl_Fq_I qσ6 (bl_al_in ha0.1 (by decide) ha0.2)
  obtain ⟨σ10, e11⟩ : ∃ z : bl_St, z = bl_pI σ8 a0 4 0 := ⟨_, rfl⟩
  have hf := bl_let_at e11 hf
  have qσ10 : bl_Fq ho md_X4_look σ0 σ10 := by rw [e11]; exact bl_Fq_I qσ8 (bl_al_in ha0.1 (by decide) ha0.2)
  obtain ⟨σ12, e13⟩ : ∃ z : bl_St, z = bl_pI σ10 a0 5 1 := ⟨_, rfl⟩
  have hf := bl_let_at e13 hf
  have qσ12 : bl_Fq ho md_X4_look σ0 σ12 := by rw [e13]; exact bl_Fq_I qσ10 (bl_al_in ha0.1 (by decide) ha0.2)
  obtain ⟨σ14, e15⟩ : ∃ z : bl_St, z = bl_pI σ12 a0 6 0 := ⟨_, rfl⟩
  have hf := bl_let_at e15 hf
  have qσ14 : bl_Fq ho md_X4_look σ0 σ14 := by rw [e15]; exact bl_Fq_I qσ12 (bl_al_in ha0.1 (by decide) ha0.2)
  obtain ⟨σ16, e17⟩ : ∃ z : bl_St, z = bl_pI σ14 a0 7 0 := ⟨_, rfl⟩
  have hf := bl_let_at e17 hf
  have qσ16 : bl_Fq ho md_X4_look σ0 σ16 := by rw [e17]; exact bl_Fq_I qσ14 (bl_al_in ha0.1 (by decide) ha0.2)
  rw [← Option.some.inj hf]
  exact qσ16
def md_X4_index : List (Nat × Nat) := []
set_option maxRecDepth 100000 in
theorem fr_X4_index {ho : Nat → Bool} (σ : bl_St) (a0 : Int32) (a1 : Int32) (a2 : Int32) (o : Int32 × bl_St) (hw : bl_WT σ) (hh : bl_WH ho σ) (hf : f_X4_index σ a0 a1 a2 = some o) : bl_Fq ho md_X4_index σ o.2 := by
  obtain ⟨σ0, hz⟩ : ∃ z, z = σ := ⟨_, rfl⟩
  suffices hgo : bl_Fq ho md_X4_index σ0 o.2 by rw [hz] at hgo; exact hgo
  have qσ : bl_Fq ho md_X4_index σ0 σ := by rw [hz]; exact ⟨hw, hh, fun _ _ => ⟨rfl, rfl, rfl⟩⟩
  unfold f_X4_index at hf
  rcases bl_if_at hf with hf | hf
  · rw [← Option.some.inj hf]
    exact qσ
  · rw [← Option.some.inj hf]
    exact qσ
def md_X4_guardPays : List (Nat × Nat) := []
set_option maxRecDepth 100000 in
theorem fr_X4_guardPays {ho : Nat → Bool} (σ : bl_St) (a0 : Nat) (a1 : Int32) (o : Int32 × bl_St) (hw : bl_WT σ) (hh : bl_WH ho σ) (ha0 : bl_sh[a0]? = some (4, 12)) (hf : f_X4_guardPays σ a0 a1 = some o) : bl_Fq ho md_X4_guardPays σ o.2 := by
  obtain ⟨σ0, hz⟩ : ∃ z, z = σ := ⟨_, rfl⟩
  suffices hgo : bl_Fq ho md_X4_guardPays σ0 o.2 by rw [hz] at hgo; exact hgo
  have qσ : bl_Fq ho md_X4_guardPays σ0 σ := by rw [hz]; exact ⟨hw, hh, fun _ _ => ⟨rfl, rfl, rfl⟩⟩
  have ha0 := And.intro ha0 trivial
  unfold f_X4_guardPays at hf
  have h1 := bl_Fq_gn qσ ha0 (k := 0) rfl
  obtain ⟨r2, σ3, h4, hf⟩ := bl_bd_at hf
  have qσ3 := bl_Fq_call qσ (fr_X8_part σ (bl_R σ a0 0) a1 4 _ qσ.1 qσ.2.1 h1.1 h4) (by decide)
  have h5 := bl_Fq_gn qσ3 ha0 (k := 11) rfl
  obtain ⟨r6, σ7, h8, hf⟩ := bl_bd_at hf
  have qσ7 := bl_Fq_call qσ3 (fr_X4_index σ3 0 0 1 _ qσ3.1 qσ3.2.1  h8) (by decide)
  obtain ⟨-, hf⟩ := bl_gd_at hf
  have h10 := bl_Fq_gn qσ7 ha0 (k := 11) rfl
  obtain ⟨r11, σ12, h13, hf⟩ := bl_bd_at hf
  have qσ12 := bl_Fq_call qσ7 (fr_X4_index σ7 0 0 0 _ qσ7.1 qσ7.2.1  h13) (by decide)
  obtain ⟨-, hf⟩ := bl_gd_at hf
  rcases bl_if_at hf with hf | hf
  · rw [← Option.some.inj hf]
    exact qσ12
  · rw [← Option.some.inj hf]
    exact qσ12
def md_X4_costBehindPremium : List (Nat × Nat) := []
set_option maxRecDepth 100000 in
theorem gw_X4_costBehindPremium_42 {ho : Nat → Bool} {σ0 : bl_St} {out : Int64 × bl_St} : ∀ (σ : bl_St) (v0 : Nat), bl_Fq ho md_X4_costBehindPremium σ0 σ → (bl_sh[v0]? = some (4, 12) ∧ True) → (b_X4_costBehindPremium_42 ) σ v0 = some out → bl_Fq ho md_X4_costBehindPremium σ0 out.2 := by
  intro σ v0 qσ hv0 hf
  unfold b_X4_costBehindPremium_42 at hf
  have h1 := bl_Fq_gn qσ hv0 (k := 11) rfl
  obtain ⟨r2, σ3, h4, hf⟩ := bl_bd_at hf
  have qσ3 := bl_Fq_call qσ (fr_X4_index σ 0 0 0 _ qσ.1 qσ.2.1  h4) (by decide)
  obtain ⟨-, hf⟩ := bl_gd_at hf
  rw [← Option.some.inj hf]
  exact qσ3
set_option maxRecDepth 100000 in
theorem fr_X4_costBehindPremium {ho : Nat → Bool} (σ : bl_St) (a0 : Nat) (a1 : Int32) (o : Int64 × bl_St) (hw : bl_WT σ) (hh : bl_WH ho σ) (ha0 : bl_sh[a0]? = some (4, 12)) (hf : f_X4_costBehindPremium σ a0 a1 = some o) : bl_Fq ho md_X4_costBehindPremium σ o.2 := by
  obtain ⟨σ0, hz⟩ : ∃ z, z = σ := ⟨_, rfl⟩
  suffices hgo : bl_Fq ho md_X4_costBehindPremium σ0 o.2 by rw [hz] at hgo; exact hgo
  have qσ : bl_Fq ho md_X4_costBehindPremium σ0 σ := by rw [hz]; exact ⟨hw, hh, fun _ _ => ⟨rfl, rfl, rfl⟩⟩
  have ha0 := And.intro ha0 trivial
  unfold f_X4_costBehindPremium at hf
  rcases bl_if_at hf with hf | hf
  · exact gw_X4_costBehindPremium_42  σ a0 qσ ha0 hf
  · obtain ⟨r7, σ8, h9, hf⟩ := bl_bd_at hf
    have qσ8 := bl_Fq_call qσ (fr_X4_guardPays σ a0 a1 _ qσ.1 qσ.2.1 ha0.1 h9) (by decide)
    rcases bl_if_at hf with hf | hf
    · exact gw_X4_costBehindPremium_42  σ8 a0 qσ8 ha0 hf
    · have h11 := bl_Fq_gn qσ8 ha0 (k := 0) rfl
      obtain ⟨r12, σ13, h14, hf⟩ := bl_bd_at hf
      have qσ13 := bl_Fq_call qσ8 (fr_X8_part σ8 (bl_R σ8 a0 0) a1 4 _ qσ8.1 qσ8.2.1 h11.1 h14) (by decide)
      have h15 := bl_Fq_gn qσ13 ha0 (k := 11) rfl
      obtain ⟨r16, σ17, h18, hf⟩ := bl_bd_at hf
      have qσ17 := bl_Fq_call qσ13 (fr_X4_index σ13 0 0 1 _ qσ13.1 qσ13.2.1  h18) (by decide)
      obtain ⟨-, hf⟩ := bl_gd_at hf
      rw [← Option.some.inj hf]
      exact qσ17
def md_X4_toldIndex : List (Nat × Nat) := []
set_option maxRecDepth 100000 in
theorem fr_X4_toldIndex {ho : Nat → Bool} (σ : bl_St) (a0 : Int32) (a1 : Int32) (a2 : Int32) (o : Int32 × bl_St) (hw : bl_WT σ) (hh : bl_WH ho σ) (hf : f_X4_toldIndex σ a0 a1 a2 = some o) : bl_Fq ho md_X4_toldIndex σ o.2 := by
  obtain ⟨σ0, hz⟩ : ∃ z, z = σ := ⟨_, rfl⟩
  suffices hgo : bl_Fq ho md_X4_toldIndex σ0 o.2 by rw [hz] at hgo; exact hgo
  have qσ : bl_Fq ho md_X4_toldIndex σ0 σ := by rw [hz]; exact ⟨hw, hh, fun _ _ => ⟨rfl, rfl, rfl⟩⟩
  unfold f_X4_toldIndex at hf
  rcases bl_if_at hf with hf | hf
  · obtain ⟨r2, σ3, h4, hf⟩ := bl_bd_at hf
    have qσ3 := bl_Fq_call qσ (fr_X4_index σ (a0 + 1) (if (a1 + 1) < 2 then (a1 + 1) else 2) 0 _ qσ.1 qσ.2.1  h4) (by decide)
    rw [← Option.some.inj hf]
    exact qσ3
  · obtain ⟨r5, σ6, h7, hf⟩ := bl_bd_at hf
    have qσ6 := bl_Fq_call qσ (fr_X4_index σ (a0 + 1) a1 0 _ qσ.1 qσ.2.1  h7) (by decide)
    rw [← Option.some.inj hf]
    exact qσ6
def md_X4_lookAhead : List (Nat × Nat) := [(21, 42)]
set_option maxRecDepth 100000 in
theorem gw_X4_lookAhead_218 {ho : Nat → Bool} {σ0 : bl_St} {out : Unit × bl_St} (k81 : bl_St → Nat → Int32 → Int32 → Int32 → Int32 → Option (Unit × bl_St)) (gk81 : ∀ (σ : bl_St) (v0 : Nat) (v3 : Int32) (v4 : Int32) (v5 : Int32) (v6 : Int32), bl_Fq ho md_X4_lookAhead σ0 σ → (bl_sh[v0]? = some (4, 12) ∧ ho v0 = true) → k81 σ v0 v3 v4 v5 v6 = some out → bl_Fq ho md_X4_lookAhead σ0 out.2) : ∀ (σ : bl_St) (v0 : Nat) (v3 : Int32) (v4 : Int32) (v5 : Int32) (v6 : Int32), bl_Fq ho md_X4_lookAhead σ0 σ → (bl_sh[v0]? = some (4, 12) ∧ ho v0 = true) → (b_X4_lookAhead_218 k81) σ v0 v3 v4 v5 v6 = some out → bl_Fq ho md_X4_lookAhead σ0 out.2 := by
  intro σ v0 v3 v4 v5 v6 qσ hv0 hf
  unfold b_X4_lookAhead_218 at hf
  obtain ⟨x1, e2⟩ : ∃ z : Int32, z = v6 + (-1) := ⟨_, rfl⟩
  have hf := bl_let_at e2 hf
  exact gk81 σ v0 v3 v4 v5 x1 qσ hv0 hf
set_option maxRecDepth 100000 in
theorem gw_X4_lookAhead_104 {ho : Nat → Bool} {σ0 : bl_St} {out : Unit × bl_St} (k81 : bl_St → Nat → Int32 → Int32 → Int32 → Int32 → Option (Unit × bl_St)) (gk81 : ∀ (σ : bl_St) (v0 : Nat) (v3 : Int32) (v4 : Int32) (v5 : Int32) (v6 : Int32), bl_Fq ho md_X4_lookAhead σ0 σ → (bl_sh[v0]? = some (4, 12) ∧ ho v0 = true) → k81 σ v0 v3 v4 v5 v6 = some out → bl_Fq ho md_X4_lookAhead σ0 out.2) (k104 : bl_St → Nat → Int32 → Int32 → Int32 → Int32 → Int32 → Int32 → Option (Unit × bl_St)) (gk104 : ∀ (σ : bl_St) (v0 : Nat) (v3 : Int32) (v4 : Int32) (v5 : Int32) (v6 : Int32) (v7 : Int32) (v8 : Int32), bl_Fq ho md_X4_lookAhead σ0 σ → (bl_sh[v0]? = some (4, 12) ∧ ho v0 = true) → k104 σ v0 v3 v4 v5 v6 v7 v8 = some out → bl_Fq ho md_X4_lookAhead σ0 out.2) : ∀ (σ : bl_St) (v0 : Nat) (v3 : Int32) (v4 : Int32) (v5 : Int32) (v6 : Int32) (v7 : Int32) (v8 : Int32), bl_Fq ho md_X4_lookAhead σ0 σ → (bl_sh[v0]? = some (4, 12) ∧ ho v0 = true) → (b_X4_lookAhead_104 k81 k104) σ v0 v3 v4 v5 v6 v7 v8 = some out → bl_Fq ho md_X4_lookAhead σ0 out.2 := by
  intro σ v0 v3 v4 v5 v6 v7 v8 qσ hv0 hf
  unfold b_X4_lookAhead_104 at hf
  rcases bl_if_at hf with hf | hf
  · rcases bl_if_at hf with hf | hf
    · exact gw_X4_lookAhead_218 k81 gk81 σ v0 v3 v4 v5 v6 qσ hv0 hf
    · have h5 := bl_Fq_g qσ hv0 (k := 11) rfl (by decide)
      obtain ⟨r6, σ7, h8, hf⟩ := bl_bd_at hf
      have qσ7 := bl_Fq_call qσ (fr_X4_index σ v6 v4 1 _ qσ.1 qσ.2.1  h8) (by decide)
      have h9 := bl_Fq_g qσ7 hv0 (k := 9) rfl (by decide)
      have h10 := bl_Fq_g qσ7 hv0 (k := 11) rfl (by decide)
      obtain ⟨r11, σ12, h13, hf⟩ := bl_bd_at hf
      have qσ12 := bl_Fq_call qσ7 (fr_X4_index σ7 (v6 + 1) v4 1 _ qσ7.1 qσ7.2.1  h13) (by decide)
      obtain ⟨-, hf⟩ := bl_gd_at hf
      have h15 := bl_Fq_g qσ12 hv0 (k := 11) rfl (by decide)
      obtain ⟨r16, σ17, h18, hf⟩ := bl_bd_at hf
      have qσ17 := bl_Fq_call qσ12 (fr_X4_toldIndex σ12 v6 v4 1 _ qσ12.1 qσ12.2.1  h18) (by decide)
      obtain ⟨-, hf⟩ := bl_gd_at hf
      obtain ⟨r20, σ21, h22, hf⟩ := bl_bd_at hf
      have qσ21 := bl_Fq_call qσ17 (fr_X3_chanceCost σ17 (bl_R σ7 v0 9) (bl_J σ12 (bl_R σ7 v0 11) (Int32.toNatClampNeg r11)) (bl_J σ17 (bl_R σ12 v0 11) (Int32.toNatClampNeg r16)) _ qσ17.1 qσ17.2.1 h9.1 h22) (by decide)
      obtain ⟨-, hf⟩ := bl_gd_at hf
      obtain ⟨σ24, e25⟩ : ∃ z : bl_St, z = bl_pJ σ21 (bl_R σ v0 11) (Int32.toNatClampNeg r6) r20 := ⟨_, rfl⟩
      have hf := bl_let_at e25 hf
      have qσ24 : bl_Fq ho md_X4_lookAhead σ0 σ24 := by rw [e25]; exact bl_Fq_J qσ21 (bl_al_in h5.1 (by decide) h5.2)
      exact gw_X4_lookAhead_218 k81 gk81 σ24 v0 v3 v4 v5 v6 qσ24 hv0 hf
  · have h26 := bl_Fq_g qσ hv0 (k := 11) rfl (by decide)
    obtain ⟨r27, σ28, h29, hf⟩ := bl_bd_at hf
    have qσ28 := bl_Fq_call qσ (fr_X4_index σ v6 v8 0 _ qσ.1 qσ.2.1  h29) (by decide)
    have h30 := bl_Fq_g qσ28 hv0 (k := 9) rfl (by decide)
    have h31 := bl_Fq_g qσ28 hv0 (k := 11) rfl (by decide)
    obtain ⟨r32, σ33, h34, hf⟩ := bl_bd_at hf
    have qσ33 := bl_Fq_call qσ28 (fr_X4_index σ28 (v6 + 1) v8 0 _ qσ28.1 qσ28.2.1  h34) (by decide)
    obtain ⟨-, hf⟩ := bl_gd_at hf
    have h36 := bl_Fq_g qσ33 hv0 (k := 11) rfl (by decide)
    obtain ⟨r37, σ38, h39, hf⟩ := bl_bd_at hf
    have qσ38 := bl_Fq_call qσ33 (fr_X4_toldIndex σ33 v6 v8 0 _ qσ33.1 qσ33.2.1  h39) (by decide)
    obtain ⟨-, hf⟩ := bl_gd_at hf
    obtain ⟨r41, σ42, h43, hf⟩ := bl_bd_at hf
    have qσ42 := bl_Fq_call qσ38 (fr_X3_chanceCost σ38 (bl_R σ28 v0 9) (bl_J σ33 (bl_R σ28 v0 11) (Int32.toNatClampNeg r32)) (bl_J σ38 (bl_R σ33 v0 11) (Int32.toNatClampNeg r37)) _ qσ38.1 qσ38.2.1 h30.1 h43) (by decide)
    obtain ⟨-, hf⟩ := bl_gd_at hf
    obtain ⟨σ45, e46⟩ : ∃ z : bl_St, z = bl_pJ σ42 (bl_R σ v0 11) (Int32.toNatClampNeg r27) r41 := ⟨_, rfl⟩
    have hf := bl_let_at e46 hf
    have qσ45 : bl_Fq ho md_X4_lookAhead σ0 σ45 := by rw [e46]; exact bl_Fq_J qσ42 (bl_al_in h26.1 (by decide) h26.2)
    obtain ⟨x47, e48⟩ : ∃ z : Int32, z = v8 + 1 := ⟨_, rfl⟩
    have hf := bl_let_at e48 hf
    exact gk104 σ45 v0 v3 v4 v5 v6 v7 x47 qσ45 hv0 hf
theorem gl_X4_lookAhead_104 {ho : Nat → Bool} {σ0 : bl_St} {out : Unit × bl_St} (k81 : bl_St → Nat → Int32 → Int32 → Int32 → Int32 → Option (Unit × bl_St)) (gk81 : ∀ (σ : bl_St) (v0 : Nat) (v3 : Int32) (v4 : Int32) (v5 : Int32) (v6 : Int32), bl_Fq ho md_X4_lookAhead σ0 σ → (bl_sh[v0]? = some (4, 12) ∧ ho v0 = true) → k81 σ v0 v3 v4 v5 v6 = some out → bl_Fq ho md_X4_lookAhead σ0 out.2) (n : Nat) : ∀ (σ : bl_St) (v0 : Nat) (v3 : Int32) (v4 : Int32) (v5 : Int32) (v6 : Int32) (v7 : Int32) (v8 : Int32), bl_Fq ho md_X4_lookAhead σ0 σ → (bl_sh[v0]? = some (4, 12) ∧ ho v0 = true) → (bl_fx (fun _ _ _ _ _ _ _ _ => none) (b_X4_lookAhead_104 k81) n) σ v0 v3 v4 v5 v6 v7 v8 = some out → bl_Fq ho md_X4_lookAhead σ0 out.2 := by
  induction n with
  | zero =>
    intro σ v0 v3 v4 v5 v6 v7 v8 qσ hv0 hf
    cases hf
  | succ n ih => exact gw_X4_lookAhead_104 k81 gk81 _ ih
set_option maxRecDepth 100000 in
theorem gw_X4_lookAhead_81 {ho : Nat → Bool} {σ0 : bl_St} {out : Unit × bl_St} (k81 : bl_St → Nat → Int32 → Int32 → Int32 → Int32 → Option (Unit × bl_St)) (gk81 : ∀ (σ : bl_St) (v0 : Nat) (v3 : Int32) (v4 : Int32) (v5 : Int32) (v6 : Int32), bl_Fq ho md_X4_lookAhead σ0 σ → (bl_sh[v0]? = some (4, 12) ∧ ho v0 = true) → k81 σ v0 v3 v4 v5 v6 = some out → bl_Fq ho md_X4_lookAhead σ0 out.2) : ∀ (σ : bl_St) (v0 : Nat) (v3 : Int32) (v4 : Int32) (v5 : Int32) (v6 : Int32), bl_Fq ho md_X4_lookAhead σ0 σ → (bl_sh[v0]? = some (4, 12) ∧ ho v0 = true) → (b_X4_lookAhead_81 k81) σ v0 v3 v4 v5 v6 = some out → bl_Fq ho md_X4_lookAhead σ0 out.2 := by
  intro σ v0 v3 v4 v5 v6 qσ hv0 hf
  unfold b_X4_lookAhead_81 at hf
  rcases bl_if_at hf with hf | hf
  · rw [← Option.some.inj hf]
    exact qσ
  · obtain ⟨x50, e51⟩ : ∃ z, z = (if ((v4 + v6) - v3) < 2 then ((v4 + v6) - v3) else 2) := ⟨_, rfl⟩
    have hf := bl_let_at e51 hf
    exact gl_X4_lookAhead_104 k81 gk81 bl_fu σ v0 v3 v4 v5 v6 x50 v4 qσ hv0 hf
theorem gl_X4_lookAhead_81 {ho : Nat → Bool} {σ0 : bl_St} {out : Unit × bl_St} (n : Nat) : ∀ (σ : bl_St) (v0 : Nat) (v3 : Int32) (v4 : Int32) (v5 : Int32) (v6 : Int32), bl_Fq ho md_X4_lookAhead σ0 σ → (bl_sh[v0]? = some (4, 12) ∧ ho v0 = true) → (bl_fx (fun _ _ _ _ _ _ => none) (b_X4_lookAhead_81 ) n) σ v0 v3 v4 v5 v6 = some out → bl_Fq ho md_X4_lookAhead σ0 out.2 := by
  induction n with
  | zero =>
    intro σ v0 v3 v4 v5 v6 qσ hv0 hf
    cases hf
  | succ n ih => exact gw_X4_lookAhead_81  _ ih
set_option maxRecDepth 100000 in
theorem gw_X4_lookAhead_3 {ho : Nat → Bool} {σ0 : bl_St} {out : Unit × bl_St} (k3 : bl_St → Nat → Int32 → Int32 → Int32 → Int32 → Int32 → Int32 → Option (Unit × bl_St)) (gk3 : ∀ (σ : bl_St) (v0 : Nat) (v1 : Int32) (v2 : Int32) (v3 : Int32) (v4 : Int32) (v5 : Int32) (v6 : Int32), bl_Fq ho md_X4_lookAhead σ0 σ → (bl_sh[v0]? = some (4, 12) ∧ ho v0 = true) → k3 σ v0 v1 v2 v3 v4 v5 v6 = some out → bl_Fq ho md_X4_lookAhead σ0 out.2) : ∀ (σ : bl_St) (v0 : Nat) (v1 : Int32) (v2 : Int32) (v3 : Int32) (v4 : Int32) (v5 : Int32) (v6 : Int32), bl_Fq ho md_X4_lookAhead σ0 σ → (bl_sh[v0]? = some (4, 12) ∧ ho v0 = true) → (b_X4_lookAhead_3 k3) σ v0 v1 v2 v3 v4 v5 v6 = some out → bl_Fq ho md_X4_lookAhead σ0 out.2 := by
  intro σ v0 v1 v2 v3 v4 v5 v6 qσ hv0 hf
  unfold b_X4_lookAhead_3 at hf
  rcases bl_if_at hf with hf | hf
  · obtain ⟨x53, e54⟩ : ∃ z, z = ((bl_I σ v0 8) - 1) := ⟨_, rfl⟩
    have hf := bl_let_at e54 hf
    exact gl_X4_lookAhead_81  bl_fu σ v0 v3 v4 v5 x53 qσ hv0 hf
  · have h55 := bl_Fq_g qσ hv0 (k := 10) rfl (by decide)
    have h56 := bl_Fq_gn qσ hv0 (k := 0) rfl
    obtain ⟨r57, σ58, h59, hf⟩ := bl_bd_at hf
    have qσ58 := bl_Fq_call qσ (fr_X8_next σ (bl_R σ v0 0) v2 v6 _ qσ.1 qσ.2.1 h56.1 h59) (by decide)
    obtain ⟨-, hf⟩ := bl_gd_at hf
    obtain ⟨x61, e62⟩ : ∃ z, z = (bl_J σ58 (bl_R σ v0 10) (Int32.toNatClampNeg (((v1 - 1) * 8) + r57))) := ⟨_, rfl⟩
    have hf := bl_let_at e62 hf
    have h63 := bl_Fq_g qσ58 hv0 (k := 11) rfl (by decide)
    obtain ⟨r64, σ65, h66, hf⟩ := bl_bd_at hf
    have qσ65 := bl_Fq_call qσ58 (fr_X4_index σ58 (bl_I σ58 v0 8) v6 0 _ qσ58.1 qσ58.2.1  h66) (by decide)
    obtain ⟨-, hf⟩ := bl_gd_at hf
    obtain ⟨σ68, e69⟩ : ∃ z : bl_St, z = bl_pJ σ65 (bl_R σ58 v0 11) (Int32.toNatClampNeg r64) x61 := ⟨_, rfl⟩
    have hf := bl_let_at e69 hf
    have qσ68 : bl_Fq ho md_X4_lookAhead σ0 σ68 := by rw [e69]; exact bl_Fq_J qσ65 (bl_al_in h63.1 (by decide) h63.2)
    have h70 := bl_Fq_g qσ68 hv0 (k := 11) rfl (by decide)
    obtain ⟨r71, σ72, h73, hf⟩ := bl_bd_at hf
    have qσ72 := bl_Fq_call qσ68 (fr_X4_index σ68 (bl_I σ68 v0 8) v6 1 _ qσ68.1 qσ68.2.1  h73) (by decide)
    obtain ⟨-, hf⟩ := bl_gd_at hf
    obtain ⟨σ75, e76⟩ : ∃ z : bl_St, z = bl_pJ σ72 (bl_R σ68 v0 11) (Int32.toNatClampNeg r71) x61 := ⟨_, rfl⟩
    have hf := bl_let_at e76 hf
    have qσ75 : bl_Fq ho md_X4_lookAhead σ0 σ75 := by rw [e76]; exact bl_Fq_J qσ72 (bl_al_in h70.1 (by decide) h70.2)
    obtain ⟨x77, e78⟩ : ∃ z : Int32, z = v6 + 1 := ⟨_, rfl⟩
    have hf := bl_let_at e78 hf
    exact gk3 σ75 v0 v1 v2 v3 v4 v5 x77 qσ75 hv0 hf
theorem gl_X4_lookAhead_3 {ho : Nat → Bool} {σ0 : bl_St} {out : Unit × bl_St} (n : Nat) : ∀ (σ : bl_St) (v0 : Nat) (v1 : Int32) (v2 : Int32) (v3 : Int32) (v4 : Int32) (v5 : Int32) (v6 : Int32), bl_Fq ho md_X4_lookAhead σ0 σ → (bl_sh[v0]? = some (4, 12) ∧ ho v0 = true) → (bl_fx (fun _ _ _ _ _ _ _ _ => none) (b_X4_lookAhead_3 ) n) σ v0 v1 v2 v3 v4 v5 v6 = some out → bl_Fq ho md_X4_lookAhead σ0 out.2 := by
  induction n with
  | zero =>
    intro σ v0 v1 v2 v3 v4 v5 v6 qσ hv0 hf
    cases hf
  | succ n ih => exact gw_X4_lookAhead_3  _ ih
set_option maxRecDepth 100000 in
theorem fr_X4_lookAhead {ho : Nat → Bool} (σ : bl_St) (a0 : Nat) (a1 : Int32) (a2 : Int32) (a3 : Int32) (a4 : Int32) (a5 : Int32) (o : Unit × bl_St) (hw : bl_WT σ) (hh : bl_WH ho σ) (ha0 : bl_sh[a0]? = some (4, 12) ∧ ho a0 = true) (hf : f_X4_lookAhead σ a0 a1 a2 a3 a4 a5 = some o) : bl_Fq ho md_X4_lookAhead σ o.2 := by
  obtain ⟨σ0, hz⟩ : ∃ z, z = σ := ⟨_, rfl⟩
  suffices hgo : bl_Fq ho md_X4_lookAhead σ0 o.2 by rw [hz] at hgo; exact hgo
  have qσ : bl_Fq ho md_X4_lookAhead σ0 σ := by rw [hz]; exact ⟨hw, hh, fun _ _ => ⟨rfl, rfl, rfl⟩⟩
  unfold f_X4_lookAhead at hf
  exact gl_X4_lookAhead_3  bl_fu σ a0 a1 a2 a3 a4 a5 0 qσ ha0 hf
def md_X4_premiumPaid : List (Nat × Nat) := []
set_option maxRecDepth 100000 in
theorem fr_X4_premiumPaid {ho : Nat → Bool} (σ : bl_St) (a0 : Nat) (a1 : Int32) (o : Int64 × bl_St) (hw : bl_WT σ) (hh : bl_WH ho σ) (ha0 : bl_sh[a0]? = some (4, 12)) (hf : f_X4_premiumPaid σ a0 a1 = some o) : bl_Fq ho md_X4_premiumPaid σ o.2 := by
  obtain ⟨σ0, hz⟩ : ∃ z, z = σ := ⟨_, rfl⟩
  suffices hgo : bl_Fq ho md_X4_premiumPaid σ0 o.2 by rw [hz] at hgo; exact hgo
  have qσ : bl_Fq ho md_X4_premiumPaid σ0 σ := by rw [hz]; exact ⟨hw, hh, fun _ _ => ⟨rfl, rfl, rfl⟩⟩
  have ha0 := And.intro ha0 trivial
  unfold f_X4_premiumPaid at hf
  have h1 := bl_Fq_gn qσ ha0 (k := 0) rfl
  obtain ⟨r2, σ3, h4, hf⟩ := bl_bd_at hf
  have qσ3 := bl_Fq_call qσ (fr_X8_part σ (bl_R σ a0 0) a1 0 _ qσ.1 qσ.2.1 h1.1 h4) (by decide)
  obtain ⟨x5, e6⟩ : ∃ z, z = ((1000 * (Int32.toInt64 (bl_I σ a0 5))) * (Int32.toInt64 r2)) := ⟨_, rfl⟩
  have hf := bl_let_at e6 hf
  rw [← Option.some.inj hf]
  exact qσ3
def md_X4_learn : List (Nat × Nat) := [(3, 8), (4, 12), (20, 5), (21, 5), (21, 42), (21, 168)]
set_option maxRecDepth 100000 in
theorem gw_X4_learn_60 {ho : Nat → Bool} {σ0 : bl_St} {out : Unit × bl_St} (k53 : bl_St → Nat → Int32 → Int32 → Option (Unit × bl_St)) (gk53 : ∀ (σ : bl_St) (v0 : Nat) (v1 : Int32) (v2 : Int32), bl_Fq ho md_X4_learn σ0 σ → (bl_sh[v0]? = some (4, 12) ∧ ho v0 = true) → k53 σ v0 v1 v2 = some out → bl_Fq ho md_X4_learn σ0 out.2) (k60 : bl_St → Nat → Int32 → Int32 → Int32 → Option (Unit × bl_St)) (gk60 : ∀ (σ : bl_St) (v0 : Nat) (v1 : Int32) (v2 : Int32) (v3 : Int32), bl_Fq ho md_X4_learn σ0 σ → (bl_sh[v0]? = some (4, 12) ∧ ho v0 = true) → k60 σ v0 v1 v2 v3 = some out → bl_Fq ho md_X4_learn σ0 out.2) : ∀ (σ : bl_St) (v0 : Nat) (v1 : Int32) (v2 : Int32) (v3 : Int32), bl_Fq ho md_X4_learn σ0 σ → (bl_sh[v0]? = some (4, 12) ∧ ho v0 = true) → (b_X4_learn_60 k53 k60) σ v0 v1 v2 v3 = some out → bl_Fq ho md_X4_learn σ0 out.2 := by
  intro σ v0 v1 v2 v3 qσ hv0 hf
  unfold b_X4_learn_60 at hf
  have h1 := bl_Fq_gn qσ hv0 (k := 0) rfl
  rcases bl_if_at hf with hf | hf
  · obtain ⟨σ3, e4⟩ : ∃ z : bl_St, z = bl_pI σ v0 7 v2 := ⟨_, rfl⟩
    have hf := bl_let_at e4 hf
    have qσ3 : bl_Fq ho md_X4_learn σ0 σ3 := by rw [e4]; exact bl_Fq_I qσ (bl_al_in hv0.1 (by decide) hv0.2)
    obtain ⟨x5, e6⟩ : ∃ z : Int32, z = v2 + 1 := ⟨_, rfl⟩
    have hf := bl_let_at e6 hf
    exact gk53 σ3 v0 v1 x5 qσ3 hv0 hf
  · obtain ⟨r7, σ8, h9, hf⟩ := bl_bd_at hf
    have qσ8 := bl_Fq_call qσ (fr_X4_lookAhead σ v0 v2 v3 0 0 (bl_I σ v0 1) _ qσ.1 qσ.2.1 hv0 h9) (by decide)
    have h10 := bl_Fq_g qσ8 hv0 (k := 10) rfl (by decide)
    obtain ⟨r11, σ12, h13, hf⟩ := bl_bd_at hf
    have qσ12 := bl_Fq_call qσ8 (fr_X4_premiumPaid σ8 v0 v3 _ qσ8.1 qσ8.2.1 hv0.1 h13) (by decide)
    obtain ⟨r14, σ15, h16, hf⟩ := bl_bd_at hf
    have qσ15 := bl_Fq_call qσ12 (fr_X4_costBehindPremium σ12 v0 v3 _ qσ12.1 qσ12.2.1 hv0.1 h16) (by decide)
    obtain ⟨-, hf⟩ := bl_gd_at hf
    obtain ⟨σ18, e19⟩ : ∃ z : bl_St, z = bl_pJ σ15 (bl_R σ8 v0 10) (Int32.toNatClampNeg ((v2 * 8) + v3)) (r11 + r14) := ⟨_, rfl⟩
    have hf := bl_let_at e19 hf
    have qσ18 : bl_Fq ho md_X4_learn σ0 σ18 := by rw [e19]; exact bl_Fq_J qσ15 (bl_al_in h10.1 (by decide) h10.2)
    obtain ⟨x20, e21⟩ : ∃ z : Int32, z = v3 + 1 := ⟨_, rfl⟩
    have hf := bl_let_at e21 hf
    exact gk60 σ18 v0 v1 v2 x20 qσ18 hv0 hf
theorem gl_X4_learn_60 {ho : Nat → Bool} {σ0 : bl_St} {out : Unit × bl_St} (k53 : bl_St → Nat → Int32 → Int32 → Option (Unit × bl_St)) (gk53 : ∀ (σ : bl_St) (v0 : Nat) (v1 : Int32) (v2 : Int32), bl_Fq ho md_X4_learn σ0 σ → (bl_sh[v0]? = some (4, 12) ∧ ho v0 = true) → k53 σ v0 v1 v2 = some out → bl_Fq ho md_X4_learn σ0 out.2) (n : Nat) : ∀ (σ : bl_St) (v0 : Nat) (v1 : Int32) (v2 : Int32) (v3 : Int32), bl_Fq ho md_X4_learn σ0 σ → (bl_sh[v0]? = some (4, 12) ∧ ho v0 = true) → (bl_fx (fun _ _ _ _ _ => none) (b_X4_learn_60 k53) n) σ v0 v1 v2 v3 = some out → bl_Fq ho md_X4_learn σ0 out.2 := by
  induction n with
  | zero =>
    intro σ v0 v1 v2 v3 qσ hv0 hf
    cases hf
  | succ n ih => exact gw_X4_learn_60 k53 gk53 _ ih
set_option maxRecDepth 100000 in
theorem gw_X4_learn_53 {ho : Nat → Bool} {σ0 : bl_St} {out : Unit × bl_St} (k53 : bl_St → Nat → Int32 → Int32 → Option (Unit × bl_St)) (gk53 : ∀ (σ : bl_St) (v0 : Nat) (v1 : Int32) (v2 : Int32), bl_Fq ho md_X4_learn σ0 σ → (bl_sh[v0]? = some (4, 12) ∧ ho v0 = true) → k53 σ v0 v1 v2 = some out → bl_Fq ho md_X4_learn σ0 out.2) : ∀ (σ : bl_St) (v0 : Nat) (v1 : Int32) (v2 : Int32), bl_Fq ho md_X4_learn σ0 σ → (bl_sh[v0]? = some (4, 12) ∧ ho v0 = true) → (b_X4_learn_53 k53) σ v0 v1 v2 = some out → bl_Fq ho md_X4_learn σ0 out.2 := by
  intro σ v0 v1 v2 qσ hv0 hf
  unfold b_X4_learn_53 at hf
  rcases bl_if_at hf with hf | hf
  · rw [← Option.some.inj hf]
    exact qσ
  · exact gl_X4_learn_60 k53 gk53 bl_fu σ v0 v1 v2 0 qσ hv0 hf
theorem gl_X4_learn_53 {ho : Nat → Bool} {σ0 : bl_St} {out : Unit × bl_St} (n : Nat) : ∀ (σ : bl_St) (v0 : Nat) (v1 : Int32) (v2 : Int32), bl_Fq ho md_X4_learn σ0 σ → (bl_sh[v0]? = some (4, 12) ∧ ho v0 = true) → (bl_fx (fun _ _ _ _ => none) (b_X4_learn_53 ) n) σ v0 v1 v2 = some out → bl_Fq ho md_X4_learn σ0 out.2 := by
  induction n with
  | zero =>
    intro σ v0 v1 v2 qσ hv0 hf
    cases hf
  | succ n ih => exact gw_X4_learn_53  _ ih
set_option maxRecDepth 100000 in
theorem gw_X4_learn_46 {ho : Nat → Bool} {σ0 : bl_St} {out : Unit × bl_St} : ∀ (σ : bl_St) (v0 : Nat) (v1 : Int32), bl_Fq ho md_X4_learn σ0 σ → (bl_sh[v0]? = some (4, 12) ∧ ho v0 = true) → (b_X4_learn_46 ) σ v0 v1 = some out → bl_Fq ho md_X4_learn σ0 out.2 := by
  intro σ v0 v1 qσ hv0 hf
  unfold b_X4_learn_46 at hf
  obtain ⟨x23, e24⟩ : ∃ z, z = ((bl_I σ v0 7) + 1) := ⟨_, rfl⟩
  have hf := bl_let_at e24 hf
  exact gl_X4_learn_53  bl_fu σ v0 v1 x23 qσ hv0 hf
set_option maxRecDepth 100000 in
theorem fr_X4_learn {ho : Nat → Bool} (σ : bl_St) (a0 : Nat) (a1 : Int32) (o : Unit × bl_St) (hw : bl_WT σ) (hh : bl_WH ho σ) (ha0 : bl_sh[a0]? = some (4, 12) ∧ ho a0 = true) (hf : f_X4_learn σ a0 a1 = some o) : bl_Fq ho md_X4_learn σ o.2 := by
  obtain ⟨σ0, hz⟩ : ∃ z, z = σ := ⟨_, rfl⟩
  suffices hgo : bl_Fq ho md_X4_learn σ0 o.2 by rw [hz] at hgo; exact hgo
  have qσ : bl_Fq ho md_X4_learn σ0 σ := by rw [hz]; exact ⟨hw, hh, fun _ _ => ⟨rfl, rfl, rfl⟩⟩
  unfold f_X4_learn at hf
  rcases bl_if_at hf with hf | hf
  · have h26 := bl_Fq_gn qσ ha0 (k := 0) rfl
    obtain ⟨r27, σ28, h29, hf⟩ := bl_bd_at hf
    have qσ28 := bl_Fq_call qσ (fr_X8_chances σ (bl_R σ a0 0) _ qσ.1 qσ.2.1 h26.1 h29) (by decide)
    obtain ⟨σ30, e31⟩ : ∃ z : bl_St, z = bl_pI σ28 a0 8 (r27 * (bl_I σ28 a0 5)) := ⟨_, rfl⟩
    have hf := bl_let_at e31 hf
    have qσ30 : bl_Fq ho md_X4_learn σ0 σ30 := by rw [e31]; exact bl_Fq_I qσ28 (bl_al_in ha0.1 (by decide) ha0.2)
    have h32 := bl_Fq_g qσ30 ha0 (k := 9) rfl (by decide)
    have h33 := bl_Fq_gn qσ30 ha0 (k := 0) rfl
    obtain ⟨r34, σ35, h36, hf⟩ := bl_bd_at hf
    have qσ35 := bl_Fq_call qσ30 (fr_X3_take σ30 (bl_R σ30 a0 9) (bl_R σ30 a0 0) (bl_I σ30 a0 2) (bl_I σ30 a0 3) (bl_I σ30 a0 4) _ qσ30.1 qσ30.2.1 h32 h33.1 h36) (by decide)
    exact gw_X4_learn_46  σ35 a0 a1 qσ35 ha0 hf
  · exact gw_X4_learn_46  σ a0 a1 qσ ha0 hf
def md_X4_costOf : List (Nat × Nat) := [(3, 8), (4, 12), (20, 5), (21, 5), (21, 42), (21, 168)]
set_option maxRecDepth 100000 in
theorem fr_X4_costOf {ho : Nat → Bool} (σ : bl_St) (a0 : Nat) (a1 : Int32) (a2 : Int32) (o : Int64 × bl_St) (hw : bl_WT σ) (hh : bl_WH ho σ) (ha0 : bl_sh[a0]? = some (4, 12) ∧ ho a0 = true) (hf : f_X4_costOf σ a0 a1 a2 = some o) : bl_Fq ho md_X4_costOf σ o.2 := by
  obtain ⟨σ0, hz⟩ : ∃ z, z = σ := ⟨_, rfl⟩
  suffices hgo : bl_Fq ho md_X4_costOf σ0 o.2 by rw [hz] at hgo; exact hgo
  have qσ : bl_Fq ho md_X4_costOf σ0 σ := by rw [hz]; exact ⟨hw, hh, fun _ _ => ⟨rfl, rfl, rfl⟩⟩
  unfold f_X4_costOf at hf
  obtain ⟨r1, σ2, h3, hf⟩ := bl_bd_at hf
  have qσ2 := bl_Fq_call qσ (fr_X4_learn σ a0 a1 _ qσ.1 qσ.2.1 ha0 h3) (by decide)
  have h4 := bl_Fq_g qσ2 ha0 (k := 10) rfl (by decide)
  obtain ⟨-, hf⟩ := bl_gd_at hf
  rw [← Option.some.inj hf]
  exact qσ2
def md_X4_buys : List (Nat × Nat) := [(21, 42)]
set_option maxRecDepth 100000 in
theorem fr_X4_buys {ho : Nat → Bool} (σ : bl_St) (a0 : Nat) (a1 : Int32) (a2 : Int32) (o : Int32 × bl_St) (hw : bl_WT σ) (hh : bl_WH ho σ) (ha0 : bl_sh[a0]? = some (4, 12) ∧ ho a0 = true) (hf : f_X4_buys σ a0 a1 a2 = some o) : bl_Fq ho md_X4_buys σ o.2 := by
  obtain ⟨σ0, hz⟩ : ∃ z, z = σ := ⟨_, rfl⟩
  suffices hgo : bl_Fq ho md_X4_buys σ0 o.2 by rw [hz] at hgo; exact hgo
  have qσ : bl_Fq ho md_X4_buys σ0 σ := by rw [hz]; exact ⟨hw, hh, fun _ _ => ⟨rfl, rfl, rfl⟩⟩
  unfold f_X4_buys at hf
  obtain ⟨r1, σ2, h3, hf⟩ := bl_bd_at hf
  have qσ2 := bl_Fq_call qσ (fr_X4_lookAhead σ a0 a1 a2 0 0 1 _ qσ.1 qσ.2.1 ha0 h3) (by decide)
  obtain ⟨r4, σ5, h6, hf⟩ := bl_bd_at hf
  have qσ5 := bl_Fq_call qσ2 (fr_X4_guardPays σ2 a0 a2 _ qσ2.1 qσ2.2.1 ha0.1 h6) (by decide)
  obtain ⟨-, hf⟩ := bl_gd_at hf
  rw [← Option.some.inj hf]
  exact qσ5
def md_X4_aheadOf : List (Nat × Nat) := []
set_option maxRecDepth 100000 in
theorem fr_X4_aheadOf {ho : Nat → Bool} (σ : bl_St) (a0 : Nat) (a1 : Int32) (a2 : Int32) (a3 : Int32) (o : Int64 × bl_St) (hw : bl_WT σ) (hh : bl_WH ho σ) (ha0 : bl_sh[a0]? = some (4, 12)) (hf : f_X4_aheadOf σ a0 a1 a2 a3 = some o) : bl_Fq ho md_X4_aheadOf σ o.2 := by
  obtain ⟨σ0, hz⟩ : ∃ z, z = σ := ⟨_, rfl⟩
  suffices hgo : bl_Fq ho md_X4_aheadOf σ0 o.2 by rw [hz] at hgo; exact hgo
  have qσ : bl_Fq ho md_X4_aheadOf σ0 σ := by rw [hz]; exact ⟨hw, hh, fun _ _ => ⟨rfl, rfl, rfl⟩⟩
  have ha0 := And.intro ha0 trivial
  unfold f_X4_aheadOf at hf
  have h1 := bl_Fq_gn qσ ha0 (k := 11) rfl
  obtain ⟨r2, σ3, h4, hf⟩ := bl_bd_at hf
  have qσ3 := bl_Fq_call qσ (fr_X4_index σ a1 a2 a3 _ qσ.1 qσ.2.1  h4) (by decide)
  obtain ⟨-, hf⟩ := bl_gd_at hf
  rw [← Option.some.inj hf]
  exact qσ3
def md_X4_dearerIfTold : List (Nat × Nat) := []
set_option maxRecDepth 100000 in
theorem fr_X4_dearerIfTold {ho : Nat → Bool} (σ : bl_St) (a0 : Nat) (a1 : Int32) (a2 : Int32) (a3 : Int32) (o : Int64 × bl_St) (hw : bl_WT σ) (hh : bl_WH ho σ) (ha0 : bl_sh[a0]? = some (4, 12)) (hf : f_X4_dearerIfTold σ a0 a1 a2 a3 = some o) : bl_Fq ho md_X4_dearerIfTold σ o.2 := by
  obtain ⟨σ0, hz⟩ : ∃ z, z = σ := ⟨_, rfl⟩
  suffices hgo : bl_Fq ho md_X4_dearerIfTold σ0 o.2 by rw [hz] at hgo; exact hgo
  have qσ : bl_Fq ho md_X4_dearerIfTold σ0 σ := by rw [hz]; exact ⟨hw, hh, fun _ _ => ⟨rfl, rfl, rfl⟩⟩
  have ha0 := And.intro ha0 trivial
  unfold f_X4_dearerIfTold at hf
  have h1 := bl_Fq_gn qσ ha0 (k := 11) rfl
  obtain ⟨r2, σ3, h4, hf⟩ := bl_bd_at hf
  have qσ3 := bl_Fq_call qσ (fr_X4_toldIndex σ a1 a2 a3 _ qσ.1 qσ.2.1  h4) (by decide)
  obtain ⟨-, hf⟩ := bl_gd_at hf
  have h6 := bl_Fq_gn qσ3 ha0 (k := 11) rfl
  obtain ⟨r7, σ8, h9, hf⟩ := bl_bd_at hf
  have qσ8 := bl_Fq_call qσ3 (fr_X4_index σ3 (a1 + 1) a2 a3 _ qσ3.1 qσ3.2.1  h9) (by decide)
  obtain ⟨-, hf⟩ := bl_gd_at hf
  rw [← Option.some.inj hf]
  exact qσ8
def md_X4_gainOf : List (Nat × Nat) := []
set_option maxRecDepth 100000 in
theorem fr_X4_gainOf {ho : Nat → Bool} (σ : bl_St) (a0 : Nat) (a1 : Int32) (a2 : Int32) (a3 : Int32) (a4 : Int32) (o : Int64 × bl_St) (hw : bl_WT σ) (hh : bl_WH ho σ) (ha0 : bl_sh[a0]? = some (4, 12)) (hf : f_X4_gainOf σ a0 a1 a2 a3 a4 = some o) : bl_Fq ho md_X4_gainOf σ o.2 := by
  obtain ⟨σ0, hz⟩ : ∃ z, z = σ := ⟨_, rfl⟩
  suffices hgo : bl_Fq ho md_X4_gainOf σ0 o.2 by rw [hz] at hgo; exact hgo
  have qσ : bl_Fq ho md_X4_gainOf σ0 σ := by rw [hz]; exact ⟨hw, hh, fun _ _ => ⟨rfl, rfl, rfl⟩⟩
  have ha0 := And.intro ha0 trivial
  unfold f_X4_gainOf at hf
  have h1 := bl_Fq_gn qσ ha0 (k := 9) rfl
  obtain ⟨r2, σ3, h4, hf⟩ := bl_bd_at hf
  have qσ3 := bl_Fq_call qσ (fr_X3_savedIfTold σ (bl_R σ a0 9) a4 _ qσ.1 qσ.2.1 h1.1 h4) (by decide)
  obtain ⟨r5, σ6, h7, hf⟩ := bl_bd_at hf
  have qσ6 := bl_Fq_call qσ3 (fr_X4_dearerIfTold σ3 a0 a1 a2 a3 _ qσ3.1 qσ3.2.1 ha0.1 h7) (by decide)
  rw [← Option.some.inj hf]
  exact qσ6
def md_X4_leastTold : List (Nat × Nat) := []
set_option maxRecDepth 100000 in
theorem fr_X4_leastTold {ho : Nat → Bool} (σ : bl_St) (a0 : Nat) (a1 : Int32) (a2 : Int32) (a3 : Int32) (o : Int32 × bl_St) (hw : bl_WT σ) (hh : bl_WH ho σ) (ha0 : bl_sh[a0]? = some (4, 12)) (hf : f_X4_leastTold σ a0 a1 a2 a3 = some o) : bl_Fq ho md_X4_leastTold σ o.2 := by
  obtain ⟨σ0, hz⟩ : ∃ z, z = σ := ⟨_, rfl⟩
  suffices hgo : bl_Fq ho md_X4_leastTold σ0 o.2 by rw [hz] at hgo; exact hgo
  have qσ : bl_Fq ho md_X4_leastTold σ0 σ := by rw [hz]; exact ⟨hw, hh, fun _ _ => ⟨rfl, rfl, rfl⟩⟩
  have ha0 := And.intro ha0 trivial
  unfold f_X4_leastTold at hf
  obtain ⟨r1, σ2, h3, hf⟩ := bl_bd_at hf
  have qσ2 := bl_Fq_call qσ (fr_X4_dearerIfTold σ a0 a1 a2 a3 _ qσ.1 qσ.2.1 ha0.1 h3) (by decide)
  rcases bl_if_at hf with hf | hf
  · have h5 := bl_Fq_gn qσ2 ha0 (k := 0) rfl
    obtain ⟨r6, σ7, h8, hf⟩ := bl_bd_at hf
    have qσ7 := bl_Fq_call qσ2 (fr_X8_own σ2 (bl_R σ2 a0 0) _ qσ2.1 qσ2.2.1 h5.1 h8) (by decide)
    obtain ⟨x9, e10⟩ : ∃ z, z = (((Int32.toInt64 r6) + (r1 / 1000)) + 1) := ⟨_, rfl⟩
    have hf := bl_let_at e10 hf
    rcases bl_if_at hf with hf | hf
    · rw [← Option.some.inj hf]
      exact qσ7
    · rw [← Option.some.inj hf]
      exact qσ7
  · rw [← Option.some.inj hf]
    exact qσ2
def md_X5_put : List (Nat × Nat) := [(5, 2), (20, 256)]
set_option maxRecDepth 100000 in
theorem fr_X5_put {ho : Nat → Bool} (σ : bl_St) (a0 : Nat) (a1 : Int32) (o : Unit × bl_St) (hw : bl_WT σ) (hh : bl_WH ho σ) (ha0 : bl_sh[a0]? = some (5, 2) ∧ ho a0 = true) (hf : f_X5_put σ a0 a1 = some o) : bl_Fq ho md_X5_put σ o.2 := by
  obtain ⟨σ0, hz⟩ : ∃ z, z = σ := ⟨_, rfl⟩
  suffices hgo : bl_Fq ho md_X5_put σ0 o.2 by rw [hz] at hgo; exact hgo
  have qσ : bl_Fq ho md_X5_put σ0 σ := by rw [hz]; exact ⟨hw, hh, fun _ _ => ⟨rfl, rfl, rfl⟩⟩
  unfold f_X5_put at hf
  rcases bl_if_at hf with hf | hf
  · rw [← Option.some.inj hf]
    exact qσ
  · have h2 := bl_Fq_g qσ ha0 (k := 0) rfl (by decide)
    obtain ⟨-, hf⟩ := bl_gd_at hf
    obtain ⟨σ4, e5⟩ : ∃ z : bl_St, z = bl_pI σ (bl_R σ a0 0) (Int32.toNatClampNeg (bl_I σ a0 1)) a1 := ⟨_, rfl⟩
    have hf := bl_let_at e5 hf
    have qσ4 : bl_Fq ho md_X5_put σ0 σ4 := by rw [e5]; exact bl_Fq_I qσ (bl_al_in h2.1 (by decide) h2.2)
    obtain ⟨σ6, e7⟩ : ∃ z : bl_St, z = bl_pI σ4 a0 1 ((bl_I σ4 a0 1) + 1) := ⟨_, rfl⟩
    have hf := bl_let_at e7 hf
    have qσ6 : bl_Fq ho md_X5_put σ0 σ6 := by rw [e7]; exact bl_Fq_I qσ4 (bl_al_in ha0.1 (by decide) ha0.2)
    rw [← Option.some.inj hf]
    exact qσ6
def md_X5_putBlank : List (Nat × Nat) := [(5, 2), (20, 256)]
set_option maxRecDepth 100000 in
theorem fr_X5_putBlank {ho : Nat → Bool} (σ : bl_St) (a0 : Nat) (o : Unit × bl_St) (hw : bl_WT σ) (hh : bl_WH ho σ) (ha0 : bl_sh[a0]? = some (5, 2) ∧ ho a0 = true) (hf : f_X5_putBlank σ a0 = some o) : bl_Fq ho md_X5_putBlank σ o.2 := by
  obtain ⟨σ0, hz⟩ : ∃ z, z = σ := ⟨_, rfl⟩
  suffices hgo : bl_Fq ho md_X5_putBlank σ0 o.2 by rw [hz] at hgo; exact hgo
  have qσ : bl_Fq ho md_X5_putBlank σ0 σ := by rw [hz]; exact ⟨hw, hh, fun _ _ => ⟨rfl, rfl, rfl⟩⟩
  unfold f_X5_putBlank at hf
  rcases bl_if_at hf with hf | hf
  · rw [← Option.some.inj hf]
    exact qσ
  · have h2 := bl_Fq_g qσ ha0 (k := 0) rfl (by decide)
    obtain ⟨-, hf⟩ := bl_gd_at hf
    rcases bl_if_at hf with hf | hf
    · rw [← Option.some.inj hf]
      exact qσ
    · obtain ⟨r5, σ6, h7, hf⟩ := bl_bd_at hf
      have qσ6 := bl_Fq_call qσ (fr_X5_put σ a0 32 _ qσ.1 qσ.2.1 ha0 h7) (by decide)
      rw [← Option.some.inj hf]
      exact qσ6
def md_X5_putWord : List (Nat × Nat) := [(5, 2), (20, 256)]
set_option maxRecDepth 100000 in
theorem gw_X5_putWord_6 {ho : Nat → Bool} {σ0 : bl_St} {out : Unit × bl_St} (k6 : bl_St → Nat → Nat → Int32 → Option (Unit × bl_St)) (gk6 : ∀ (σ : bl_St) (v0 : Nat) (v1 : Nat) (v2 : Int32), bl_Fq ho md_X5_putWord σ0 σ → (bl_sh[v0]? = some (5, 2) ∧ ho v0 = true) → k6 σ v0 v1 v2 = some out → bl_Fq ho md_X5_putWord σ0 out.2) : ∀ (σ : bl_St) (v0 : Nat) (v1 : Nat) (v2 : Int32), bl_Fq ho md_X5_putWord σ0 σ → (bl_sh[v0]? = some (5, 2) ∧ ho v0 = true) → (b_X5_putWord_6 k6) σ v0 v1 v2 = some out → bl_Fq ho md_X5_putWord σ0 out.2 := by
  intro σ v0 v1 v2 qσ hv0 hf
  unfold b_X5_putWord_6 at hf
  obtain ⟨r1, σ2, h3, hf⟩ := bl_bd_at hf
  have qσ2 : bl_Fq ho md_X5_putWord σ0 σ2 := by rw [← z_J0_length_8abf5 h3]; exact qσ
  rcases bl_if_at hf with hf | hf
  · rw [← Option.some.inj hf]
    exact qσ2
  · obtain ⟨r5, σ6, h7, hf⟩ := bl_bd_at hf
    have qσ6 : bl_Fq ho md_X5_putWord σ0 σ6 := by rw [← z_J0_charAt_5068e h7]; exact qσ2
    obtain ⟨r8, σ9, h10, hf⟩ := bl_bd_at hf
    have qσ9 := bl_Fq_call qσ6 (fr_X5_put σ6 v0 r5 _ qσ6.1 qσ6.2.1 hv0 h10) (by decide)
    obtain ⟨x11, e12⟩ : ∃ z : Int32, z = v2 + 1 := ⟨_, rfl⟩
    have hf := bl_let_at e12 hf
    exact gk6 σ9 v0 v1 x11 qσ9 hv0 hf
theorem gl_X5_putWord_6 {ho : Nat → Bool} {σ0 : bl_St} {out : Unit × bl_St} (n : Nat) : ∀ (σ : bl_St) (v0 : Nat) (v1 : Nat) (v2 : Int32), bl_Fq ho md_X5_putWord σ0 σ → (bl_sh[v0]? = some (5, 2) ∧ ho v0 = true) → (bl_fx (fun _ _ _ _ => none) (b_X5_putWord_6 ) n) σ v0 v1 v2 = some out → bl_Fq ho md_X5_putWord σ0 out.2 := by
  induction n with
  | zero =>
    intro σ v0 v1 v2 qσ hv0 hf
    cases hf
  | succ n ih => exact gw_X5_putWord_6  _ ih
set_option maxRecDepth 100000 in
theorem fr_X5_putWord {ho : Nat → Bool} (σ : bl_St) (a0 : Nat) (a1 : Nat) (o : Unit × bl_St) (hw : bl_WT σ) (hh : bl_WH ho σ) (ha0 : bl_sh[a0]? = some (5, 2) ∧ ho a0 = true) (hf : f_X5_putWord σ a0 a1 = some o) : bl_Fq ho md_X5_putWord σ o.2 := by
  obtain ⟨σ0, hz⟩ : ∃ z, z = σ := ⟨_, rfl⟩
  suffices hgo : bl_Fq ho md_X5_putWord σ0 o.2 by rw [hz] at hgo; exact hgo
  have qσ : bl_Fq ho md_X5_putWord σ0 σ := by rw [hz]; exact ⟨hw, hh, fun _ _ => ⟨rfl, rfl, rfl⟩⟩
  unfold f_X5_putWord at hf
  obtain ⟨r13, σ14, h15, hf⟩ := bl_bd_at hf
  have qσ14 := bl_Fq_call qσ (fr_X5_putBlank σ a0 _ qσ.1 qσ.2.1 ha0 h15) (by decide)
  exact gl_X5_putWord_6  bl_fu σ14 a0 a1 0 qσ14 ha0 hf
def md_X5_putNumber : List (Nat × Nat) := [(5, 2), (20, 256)]
set_option maxRecDepth 100000 in
theorem gw_X5_putNumber_35 {ho : Nat → Bool} {σ0 : bl_St} {out : Unit × bl_St} (k35 : bl_St → Nat → Int32 → Int32 → Int32 → Option (Unit × bl_St)) (gk35 : ∀ (σ : bl_St) (v0 : Nat) (v1 : Int32) (v2 : Int32) (v3 : Int32), bl_Fq ho md_X5_putNumber σ0 σ → (bl_sh[v0]? = some (5, 2) ∧ ho v0 = true) → k35 σ v0 v1 v2 v3 = some out → bl_Fq ho md_X5_putNumber σ0 out.2) : ∀ (σ : bl_St) (v0 : Nat) (v1 : Int32) (v2 : Int32) (v3 : Int32), bl_Fq ho md_X5_putNumber σ0 σ → (bl_sh[v0]? = some (5, 2) ∧ ho v0 = true) → (b_X5_putNumber_35 k35) σ v0 v1 v2 v3 = some out → bl_Fq ho md_X5_putNumber σ0 out.2 := by
  intro σ v0 v1 v2 v3 qσ hv0 hf
  unfold b_X5_putNumber_35 at hf
  rcases bl_if_at hf with hf | hf
  · rw [← Option.some.inj hf]
    exact qσ
  · rcases bl_if_at hf with hf | hf
    · rw [← Option.some.inj hf]
      exact qσ
    · obtain ⟨-, hf⟩ := bl_gd_at hf
      obtain ⟨r4, σ5, h6, hf⟩ := bl_bd_at hf
      have qσ5 := bl_Fq_call qσ (fr_X5_put σ v0 (48 + ((v1 / v2) - (v1 / v2) / 10 * 10)) _ qσ.1 qσ.2.1 hv0 h6) (by decide)
      obtain ⟨x7, e8⟩ : ∃ z, z = (v2 / 10) := ⟨_, rfl⟩
      have hf := bl_let_at e8 hf
      obtain ⟨x9, e10⟩ : ∃ z : Int32, z = v3 + 1 := ⟨_, rfl⟩
      have hf := bl_let_at e10 hf
      exact gk35 σ5 v0 v1 x7 x9 qσ5 hv0 hf
theorem gl_X5_putNumber_35 {ho : Nat → Bool} {σ0 : bl_St} {out : Unit × bl_St} (n : Nat) : ∀ (σ : bl_St) (v0 : Nat) (v1 : Int32) (v2 : Int32) (v3 : Int32), bl_Fq ho md_X5_putNumber σ0 σ → (bl_sh[v0]? = some (5, 2) ∧ ho v0 = true) → (bl_fx (fun _ _ _ _ _ => none) (b_X5_putNumber_35 ) n) σ v0 v1 v2 v3 = some out → bl_Fq ho md_X5_putNumber σ0 out.2 := by
  induction n with
  | zero =>
    intro σ v0 v1 v2 v3 qσ hv0 hf
    cases hf
  | succ n ih => exact gw_X5_putNumber_35  _ ih
set_option maxRecDepth 100000 in
theorem gw_X5_putNumber_33 {ho : Nat → Bool} {σ0 : bl_St} {out : Unit × bl_St} : ∀ (σ : bl_St) (v0 : Nat) (v1 : Int32) (v2 : Int32), bl_Fq ho md_X5_putNumber σ0 σ → (bl_sh[v0]? = some (5, 2) ∧ ho v0 = true) → (b_X5_putNumber_33 ) σ v0 v1 v2 = some out → bl_Fq ho md_X5_putNumber σ0 out.2 := by
  intro σ v0 v1 v2 qσ hv0 hf
  unfold b_X5_putNumber_33 at hf
  exact gl_X5_putNumber_35  bl_fu σ v0 v1 v2 0 qσ hv0 hf
set_option maxRecDepth 100000 in
theorem gw_X5_putNumber_8 {ho : Nat → Bool} {σ0 : bl_St} {out : Unit × bl_St} (k8 : bl_St → Nat → Int32 → Int32 → Int32 → Option (Unit × bl_St)) (gk8 : ∀ (σ : bl_St) (v0 : Nat) (v1 : Int32) (v2 : Int32) (v3 : Int32), bl_Fq ho md_X5_putNumber σ0 σ → (bl_sh[v0]? = some (5, 2) ∧ ho v0 = true) → k8 σ v0 v1 v2 v3 = some out → bl_Fq ho md_X5_putNumber σ0 out.2) : ∀ (σ : bl_St) (v0 : Nat) (v1 : Int32) (v2 : Int32) (v3 : Int32), bl_Fq ho md_X5_putNumber σ0 σ → (bl_sh[v0]? = some (5, 2) ∧ ho v0 = true) → (b_X5_putNumber_8 k8) σ v0 v1 v2 v3 = some out → bl_Fq ho md_X5_putNumber σ0 out.2 := by
  intro σ v0 v1 v2 v3 qσ hv0 hf
  unfold b_X5_putNumber_8 at hf
  rcases bl_if_at hf with hf | hf
  · exact gw_X5_putNumber_33  σ v0 v1 v2 qσ hv0 hf
  · obtain ⟨-, hf⟩ := bl_gd_at hf
    rcases bl_if_at hf with hf | hf
    · exact gw_X5_putNumber_33  σ v0 v1 v2 qσ hv0 hf
    · obtain ⟨x14, e15⟩ : ∃ z, z = (v2 * 10) := ⟨_, rfl⟩
      have hf := bl_let_at e15 hf
      obtain ⟨x16, e17⟩ : ∃ z : Int32, z = v3 + 1 := ⟨_, rfl⟩
      have hf := bl_let_at e17 hf
      exact gk8 σ v0 v1 x14 x16 qσ hv0 hf
theorem gl_X5_putNumber_8 {ho : Nat → Bool} {σ0 : bl_St} {out : Unit × bl_St} (n : Nat) : ∀ (σ : bl_St) (v0 : Nat) (v1 : Int32) (v2 : Int32) (v3 : Int32), bl_Fq ho md_X5_putNumber σ0 σ → (bl_sh[v0]? = some (5, 2) ∧ ho v0 = true) → (bl_fx (fun _ _ _ _ _ => none) (b_X5_putNumber_8 ) n) σ v0 v1 v2 v3 = some out → bl_Fq ho md_X5_putNumber σ0 out.2 := by
  induction n with
  | zero =>
    intro σ v0 v1 v2 v3 qσ hv0 hf
    cases hf
  | succ n ih => exact gw_X5_putNumber_8  _ ih
set_option maxRecDepth 100000 in
theorem fr_X5_putNumber {ho : Nat → Bool} (σ : bl_St) (a0 : Nat) (a1 : Int32) (o : Unit × bl_St) (hw : bl_WT σ) (hh : bl_WH ho σ) (ha0 : bl_sh[a0]? = some (5, 2) ∧ ho a0 = true) (hf : f_X5_putNumber σ a0 a1 = some o) : bl_Fq ho md_X5_putNumber σ o.2 := by
  obtain ⟨σ0, hz⟩ : ∃ z, z = σ := ⟨_, rfl⟩
  suffices hgo : bl_Fq ho md_X5_putNumber σ0 o.2 by rw [hz] at hgo; exact hgo
  have qσ : bl_Fq ho md_X5_putNumber σ0 σ := by rw [hz]; exact ⟨hw, hh, fun _ _ => ⟨rfl, rfl, rfl⟩⟩
  unfold f_X5_putNumber at hf
  obtain ⟨r18, σ19, h20, hf⟩ := bl_bd_at hf
  have qσ19 := bl_Fq_call qσ (fr_X5_putBlank σ a0 _ qσ.1 qσ.2.1 ha0 h20) (by decide)
  exact gl_X5_putNumber_8  bl_fu σ19 a0 a1 1 0 qσ19 ha0 hf
def md_X5_endPhrase : List (Nat × Nat) := [(5, 2), (20, 256)]
set_option maxRecDepth 100000 in
theorem fr_X5_endPhrase {ho : Nat → Bool} (σ : bl_St) (a0 : Nat) (o : Unit × bl_St) (hw : bl_WT σ) (hh : bl_WH ho σ) (ha0 : bl_sh[a0]? = some (5, 2) ∧ ho a0 = true) (hf : f_X5_endPhrase σ a0 = some o) : bl_Fq ho md_X5_endPhrase σ o.2 := by
  obtain ⟨σ0, hz⟩ : ∃ z, z = σ := ⟨_, rfl⟩
  suffices hgo : bl_Fq ho md_X5_endPhrase σ0 o.2 by rw [hz] at hgo; exact hgo
  have qσ : bl_Fq ho md_X5_endPhrase σ0 σ := by rw [hz]; exact ⟨hw, hh, fun _ _ => ⟨rfl, rfl, rfl⟩⟩
  unfold f_X5_endPhrase at hf
  obtain ⟨r1, σ2, h3, hf⟩ := bl_bd_at hf
  have qσ2 := bl_Fq_call qσ (fr_X5_put σ a0 59 _ qσ.1 qσ.2.1 ha0 h3) (by decide)
  rw [← Option.some.inj hf]
  exact qσ2
def md_X5_signAt : List (Nat × Nat) := []
set_option maxRecDepth 100000 in
theorem fr_X5_signAt {ho : Nat → Bool} (σ : bl_St) (a0 : Nat) (a1 : Int32) (o : Int32 × bl_St) (hw : bl_WT σ) (hh : bl_WH ho σ) (ha0 : bl_sh[a0]? = some (5, 2)) (hf : f_X5_signAt σ a0 a1 = some o) : bl_Fq ho md_X5_signAt σ o.2 := by
  obtain ⟨σ0, hz⟩ : ∃ z, z = σ := ⟨_, rfl⟩
  suffices hgo : bl_Fq ho md_X5_signAt σ0 o.2 by rw [hz] at hgo; exact hgo
  have qσ : bl_Fq ho md_X5_signAt σ0 σ := by rw [hz]; exact ⟨hw, hh, fun _ _ => ⟨rfl, rfl, rfl⟩⟩
  have ha0 := And.intro ha0 trivial
  unfold f_X5_signAt at hf
  rcases bl_if_at hf with hf | hf
  · rcases bl_if_at hf with hf | hf
    · rw [← Option.some.inj hf]
      exact qσ
    · rcases bl_if_at hf with hf | hf
      · rw [← Option.some.inj hf]
        exact qσ
      · have h4 := bl_Fq_gn qσ ha0 (k := 0) rfl
        obtain ⟨-, hf⟩ := bl_gd_at hf
        rw [← Option.some.inj hf]
        exact qσ
  · rw [← Option.some.inj hf]
    exact qσ
def md_X8_copy : List (Nat × Nat) := [(8, 5), (20, 3), (20, 10), (20, 40)]
set_option maxRecDepth 100000 in
theorem fr_X8_copy {ho : Nat → Bool} (σ : bl_St) (a0 : Nat) (a1 : Nat) (o : Unit × bl_St) (hw : bl_WT σ) (hh : bl_WH ho σ) (ha0 : bl_sh[a0]? = some (8, 5) ∧ ho a0 = true) (ha1 : bl_sh[a1]? = some (8, 5)) (hf : f_X8_copy σ a0 a1 = some o) : bl_Fq ho md_X8_copy σ o.2 := by
  obtain ⟨σ0, hz⟩ : ∃ z, z = σ := ⟨_, rfl⟩
  suffices hgo : bl_Fq ho md_X8_copy σ0 o.2 by rw [hz] at hgo; exact hgo
  have qσ : bl_Fq ho md_X8_copy σ0 σ := by rw [hz]; exact ⟨hw, hh, fun _ _ => ⟨rfl, rfl, rfl⟩⟩
  have ha1 := And.intro ha1 trivial
  unfold f_X8_copy at hf
  obtain ⟨σ1, e2⟩ : ∃ z : bl_St, z = bl_pI σ a0 0 (bl_I σ a1 0) := ⟨_, rfl⟩
  have hf := bl_let_at e2 hf
  have qσ1 : bl_Fq ho md_X8_copy σ0 σ1 := by rw [e2]; exact bl_Fq_I qσ (bl_al_in ha0.1 (by decide) ha0.2)
  obtain ⟨σ3, e4⟩ : ∃ z : bl_St, z = bl_pI σ1 a0 1 (bl_I σ1 a1 1) := ⟨_, rfl⟩
  have hf := bl_let_at e4 hf
  have qσ3 : bl_Fq ho md_X8_copy σ0 σ3 := by rw [e4]; exact bl_Fq_I qσ1 (bl_al_in ha0.1 (by decide) ha0.2)
  have h5 := bl_Fq_gn qσ3 ha1 (k := 2) rfl
  have h6 := bl_Fq_g qσ3 ha0 (k := 2) rfl (by decide)
  obtain ⟨σ7, e8⟩ : ∃ z : bl_St, z = bl_cI σ3 (bl_R σ3 a1 2) (Int32.toNatClampNeg 0) (bl_R σ3 a0 2) (Int32.toNatClampNeg 0) (Int32.toNatClampNeg 40) := ⟨_, rfl⟩
  have hf := bl_let_at e8 hf
  have qσ7 : bl_Fq ho md_X8_copy σ0 σ7 := by rw [e8]; exact bl_Fq_cI qσ3 (bl_al_in h6.1 (by decide) h6.2)
  have h9 := bl_Fq_gn qσ7 ha1 (k := 3) rfl
  have h10 := bl_Fq_g qσ7 ha0 (k := 3) rfl (by decide)
  obtain ⟨σ11, e12⟩ : ∃ z : bl_St, z = bl_cI σ7 (bl_R σ7 a1 3) (Int32.toNatClampNeg 0) (bl_R σ7 a0 3) (Int32.toNatClampNeg 0) (Int32.toNatClampNeg 10) := ⟨_, rfl⟩
  have hf := bl_let_at e12 hf
  have qσ11 : bl_Fq ho md_X8_copy σ0 σ11 := by rw [e12]; exact bl_Fq_cI qσ7 (bl_al_in h10.1 (by decide) h10.2)
  have h13 := bl_Fq_gn qσ11 ha1 (k := 4) rfl
  have h14 := bl_Fq_g qσ11 ha0 (k := 4) rfl (by decide)
  obtain ⟨σ15, e16⟩ : ∃ z : bl_St, z = bl_cI σ11 (bl_R σ11 a1 4) (Int32.toNatClampNeg 0) (bl_R σ11 a0 4) (Int32.toNatClampNeg 0) (Int32.toNatClampNeg 3) := ⟨_, rfl⟩
  have hf := bl_let_at e16 hf
  have qσ15 : bl_Fq ho md_X8_copy σ0 σ15 := by rw [e16]; exact bl_Fq_cI qσ11 (bl_al_in h14.1 (by decide) h14.2)
  rw [← Option.some.inj hf]
  exact qσ15
def md_X6_keep : List (Nat × Nat) := [(2, 15), (6, 4), (8, 5), (20, 3), (20, 10), (20, 40), (20, 48)]
set_option maxRecDepth 100000 in
theorem fr_X6_keep {ho : Nat → Bool} (σ : bl_St) (a0 : Nat) (a1 : Nat) (a2 : Nat) (o : Unit × bl_St) (hw : bl_WT σ) (hh : bl_WH ho σ) (ha0 : bl_sh[a0]? = some (6, 4) ∧ ho a0 = true) (ha1 : bl_sh[a1]? = some (8, 5)) (ha2 : bl_sh[a2]? = some (2, 15)) (hf : f_X6_keep σ a0 a1 a2 = some o) : bl_Fq ho md_X6_keep σ o.2 := by
  obtain ⟨σ0, hz⟩ : ∃ z, z = σ := ⟨_, rfl⟩
  suffices hgo : bl_Fq ho md_X6_keep σ0 o.2 by rw [hz] at hgo; exact hgo
  have qσ : bl_Fq ho md_X6_keep σ0 σ := by rw [hz]; exact ⟨hw, hh, fun _ _ => ⟨rfl, rfl, rfl⟩⟩
  have ha1 := And.intro ha1 trivial
  have ha2 := And.intro ha2 trivial
  unfold f_X6_keep at hf
  have h1 := bl_Fq_g qσ ha0 (k := 0) rfl (by decide)
  obtain ⟨h2, hf⟩ := bl_gd_at hf
  have h3 := bl_Fq_24 qσ h1 (bl_in_lt h2)
  obtain ⟨r4, σ5, h6, hf⟩ := bl_bd_at hf
  have qσ5 := bl_Fq_call qσ (fr_X8_copy σ (bl_R σ (bl_R σ a0 0) (Int32.toNatClampNeg (bl_I σ a0 2))) a1 _ qσ.1 qσ.2.1 h3 ha1.1 h6) (by decide)
  have h7 := bl_Fq_g qσ5 ha0 (k := 1) rfl (by decide)
  obtain ⟨h8, hf⟩ := bl_gd_at hf
  have h9 := bl_Fq_25 qσ5 h7 (bl_in_lt h8)
  obtain ⟨r10, σ11, h12, hf⟩ := bl_bd_at hf
  have qσ11 := bl_Fq_call qσ5 (fr_X2_copy σ5 (bl_R σ5 (bl_R σ5 a0 1) (Int32.toNatClampNeg (bl_I σ5 a0 2))) a2 _ qσ5.1 qσ5.2.1 h9 ha2.1 h12) (by decide)
  obtain ⟨σ13, e14⟩ : ∃ z : bl_St, z = bl_pI σ11 a0 2 (((bl_I σ11 a0 2) + 1) - ((bl_I σ11 a0 2) + 1) / 12 * 12) := ⟨_, rfl⟩
  have hf := bl_let_at e14 hf
  have qσ13 : bl_Fq ho md_X6_keep σ0 σ13 := by rw [e14]; exact bl_Fq_I qσ11 (bl_al_in ha0.1 (by decide) ha0.2)
  obtain ⟨σ15, e16⟩ : ∃ z : bl_St, z = bl_pI σ13 a0 3 (if ((bl_I σ13 a0 3) + 1) < 12 then ((bl_I σ13 a0 3) + 1) else 12) := ⟨_, rfl⟩
  have hf := bl_let_at e16 hf
  have qσ15 : bl_Fq ho md_X6_keep σ0 σ15 := by rw [e16]; exact bl_Fq_I qσ13 (bl_al_in ha0.1 (by decide) ha0.2)
  rw [← Option.some.inj hf]
  exact qσ15
def md_X6_takeBack : List (Nat × Nat) := [(2, 15), (6, 4), (8, 5), (20, 3), (20, 10), (20, 40), (20, 48)]
set_option maxRecDepth 100000 in
theorem fr_X6_takeBack {ho : Nat → Bool} (σ : bl_St) (a0 : Nat) (a1 : Nat) (a2 : Nat) (o : Int32 × bl_St) (hw : bl_WT σ) (hh : bl_WH ho σ) (ha0 : bl_sh[a0]? = some (6, 4) ∧ ho a0 = true) (ha1 : bl_sh[a1]? = some (8, 5) ∧ ho a1 = true) (ha2 : bl_sh[a2]? = some (2, 15) ∧ ho a2 = true) (hf : f_X6_takeBack σ a0 a1 a2 = some o) : bl_Fq ho md_X6_takeBack σ o.2 := by
  obtain ⟨σ0, hz⟩ : ∃ z, z = σ := ⟨_, rfl⟩
  suffices hgo : bl_Fq ho md_X6_takeBack σ0 o.2 by rw [hz] at hgo; exact hgo
  have qσ : bl_Fq ho md_X6_takeBack σ0 σ := by rw [hz]; exact ⟨hw, hh, fun _ _ => ⟨rfl, rfl, rfl⟩⟩
  unfold f_X6_takeBack at hf
  rcases bl_if_at hf with hf | hf
  · rw [← Option.some.inj hf]
    exact qσ
  · obtain ⟨σ2, e3⟩ : ∃ z : bl_St, z = bl_pI σ a0 2 ((((bl_I σ a0 2) + 12) - 1) - (((bl_I σ a0 2) + 12) - 1) / 12 * 12) := ⟨_, rfl⟩
    have hf := bl_let_at e3 hf
    have qσ2 : bl_Fq ho md_X6_takeBack σ0 σ2 := by rw [e3]; exact bl_Fq_I qσ (bl_al_in ha0.1 (by decide) ha0.2)
    obtain ⟨σ4, e5⟩ : ∃ z : bl_St, z = bl_pI σ2 a0 3 ((bl_I σ2 a0 3) - 1) := ⟨_, rfl⟩
    have hf := bl_let_at e5 hf
    have qσ4 : bl_Fq ho md_X6_takeBack σ0 σ4 := by rw [e5]; exact bl_Fq_I qσ2 (bl_al_in ha0.1 (by decide) ha0.2)
    have h6 := bl_Fq_g qσ4 ha0 (k := 0) rfl (by decide)
    obtain ⟨h7, hf⟩ := bl_gd_at hf
    have h8 := bl_Fq_24 qσ4 h6 (bl_in_lt h7)
    obtain ⟨r9, σ10, h11, hf⟩ := bl_bd_at hf
    have qσ10 := bl_Fq_call qσ4 (fr_X8_copy σ4 a1 (bl_R σ4 (bl_R σ4 a0 0) (Int32.toNatClampNeg (bl_I σ4 a0 2))) _ qσ4.1 qσ4.2.1 ha1 h8.1 h11) (by decide)
    have h12 := bl_Fq_g qσ10 ha0 (k := 1) rfl (by decide)
    obtain ⟨h13, hf⟩ := bl_gd_at hf
    have h14 := bl_Fq_25 qσ10 h12 (bl_in_lt h13)
    obtain ⟨r15, σ16, h17, hf⟩ := bl_bd_at hf
    have qσ16 := bl_Fq_call qσ10 (fr_X2_copy σ10 a2 (bl_R σ10 (bl_R σ10 a0 1) (Int32.toNatClampNeg (bl_I σ10 a0 2))) _ qσ10.1 qσ10.2.1 ha2 h14.1 h17) (by decide)
    rw [← Option.some.inj hf]
    exact qσ16
def md_X6_forget : List (Nat × Nat) := [(6, 4)]
set_option maxRecDepth 100000 in
theorem fr_X6_forget {ho : Nat → Bool} (σ : bl_St) (a0 : Nat) (o : Unit × bl_St) (hw : bl_WT σ) (hh : bl_WH ho σ) (ha0 : bl_sh[a0]? = some (6, 4) ∧ ho a0 = true) (hf : f_X6_forget σ a0 = some o) : bl_Fq ho md_X6_forget σ o.2 := by
  obtain ⟨σ0, hz⟩ : ∃ z, z = σ := ⟨_, rfl⟩
  suffices hgo : bl_Fq ho md_X6_forget σ0 o.2 by rw [hz] at hgo; exact hgo
  have qσ : bl_Fq ho md_X6_forget σ0 σ := by rw [hz]; exact ⟨hw, hh, fun _ _ => ⟨rfl, rfl, rfl⟩⟩
  unfold f_X6_forget at hf
  obtain ⟨σ1, e2⟩ : ∃ z : bl_St, z = bl_pI σ a0 3 0 := ⟨_, rfl⟩
  have hf := bl_let_at e2 hf
  have qσ1 : bl_Fq ho md_X6_forget σ0 σ1 := by rw [e2]; exact bl_Fq_I qσ (bl_al_in ha0.1 (by decide) ha0.2)
  rw [← Option.some.inj hf]
  exact qσ1
def md_X7_append : List (Nat × Nat) := [(7, 6), (20, 400)]
set_option maxRecDepth 100000 in
theorem gw_X7_append_3 {ho : Nat → Bool} {σ0 : bl_St} {out : Unit × bl_St} (k3 : bl_St → Nat → Int32 → Int32 → Option (Unit × bl_St)) (gk3 : ∀ (σ : bl_St) (v0 : Nat) (v1 : Int32) (v2 : Int32), bl_Fq ho md_X7_append σ0 σ → (bl_sh[v0]? = some (7, 6) ∧ ho v0 = true) → k3 σ v0 v1 v2 = some out → bl_Fq ho md_X7_append σ0 out.2) : ∀ (σ : bl_St) (v0 : Nat) (v1 : Int32) (v2 : Int32), bl_Fq ho md_X7_append σ0 σ → (bl_sh[v0]? = some (7, 6) ∧ ho v0 = true) → (b_X7_append_3 k3) σ v0 v1 v2 = some out → bl_Fq ho md_X7_append σ0 out.2 := by
  intro σ v0 v1 v2 qσ hv0 hf
  unfold b_X7_append_3 at hf
  rcases bl_if_at hf with hf | hf
  · rw [← Option.some.inj hf]
    exact qσ
  · rcases bl_if_at hf with hf | hf
    · rw [← Option.some.inj hf]
      exact qσ
    · have h3 := bl_Fq_g qσ hv0 (k := 0) rfl (by decide)
      obtain ⟨-, hf⟩ := bl_gd_at hf
      obtain ⟨σ5, e6⟩ : ∃ z : bl_St, z = bl_pI σ (bl_R σ v0 0) (Int32.toNatClampNeg (bl_I σ v0 3)) (((Int32.toUInt32 v1) >>> ((Int32.toUInt32 v2) &&& Int32.toUInt32 31)).toInt32 &&& 255) := ⟨_, rfl⟩
      have hf := bl_let_at e6 hf
      have qσ5 : bl_Fq ho md_X7_append σ0 σ5 := by rw [e6]; exact bl_Fq_I qσ (bl_al_in h3.1 (by decide) h3.2)
      obtain ⟨σ7, e8⟩ : ∃ z : bl_St, z = bl_pI σ5 v0 3 ((bl_I σ5 v0 3) + 1) := ⟨_, rfl⟩
      have hf := bl_let_at e8 hf
      have qσ7 : bl_Fq ho md_X7_append σ0 σ7 := by rw [e8]; exact bl_Fq_I qσ5 (bl_al_in hv0.1 (by decide) hv0.2)
      obtain ⟨x9, e10⟩ : ∃ z : Int32, z = v2 + (-8) := ⟨_, rfl⟩
      have hf := bl_let_at e10 hf
      exact gk3 σ7 v0 v1 x9 qσ7 hv0 hf
theorem gl_X7_append_3 {ho : Nat → Bool} {σ0 : bl_St} {out : Unit × bl_St} (n : Nat) : ∀ (σ : bl_St) (v0 : Nat) (v1 : Int32) (v2 : Int32), bl_Fq ho md_X7_append σ0 σ → (bl_sh[v0]? = some (7, 6) ∧ ho v0 = true) → (bl_fx (fun _ _ _ _ => none) (b_X7_append_3 ) n) σ v0 v1 v2 = some out → bl_Fq ho md_X7_append σ0 out.2 := by
  induction n with
  | zero =>
    intro σ v0 v1 v2 qσ hv0 hf
    cases hf
  | succ n ih => exact gw_X7_append_3  _ ih
set_option maxRecDepth 100000 in
theorem fr_X7_append {ho : Nat → Bool} (σ : bl_St) (a0 : Nat) (a1 : Int32) (o : Unit × bl_St) (hw : bl_WT σ) (hh : bl_WH ho σ) (ha0 : bl_sh[a0]? = some (7, 6) ∧ ho a0 = true) (hf : f_X7_append σ a0 a1 = some o) : bl_Fq ho md_X7_append σ o.2 := by
  obtain ⟨σ0, hz⟩ : ∃ z, z = σ := ⟨_, rfl⟩
  suffices hgo : bl_Fq ho md_X7_append σ0 o.2 by rw [hz] at hgo; exact hgo
  have qσ : bl_Fq ho md_X7_append σ0 σ := by rw [hz]; exact ⟨hw, hh, fun _ _ => ⟨rfl, rfl, rfl⟩⟩
  unfold f_X7_append at hf
  exact gl_X7_append_3  bl_fu σ a0 a1 24 qσ ha0 hf
def md_X8_hasClass : List (Nat × Nat) := []
set_option maxRecDepth 100000 in
theorem fr_X8_hasClass {ho : Nat → Bool} (σ : bl_St) (a0 : Nat) (a1 : Int32) (o : Int32 × bl_St) (hw : bl_WT σ) (hh : bl_WH ho σ) (ha0 : bl_sh[a0]? = some (8, 5)) (hf : f_X8_hasClass σ a0 a1 = some o) : bl_Fq ho md_X8_hasClass σ o.2 := by
  obtain ⟨σ0, hz⟩ : ∃ z, z = σ := ⟨_, rfl⟩
  suffices hgo : bl_Fq ho md_X8_hasClass σ0 o.2 by rw [hz] at hgo; exact hgo
  have qσ : bl_Fq ho md_X8_hasClass σ0 σ := by rw [hz]; exact ⟨hw, hh, fun _ _ => ⟨rfl, rfl, rfl⟩⟩
  have ha0 := And.intro ha0 trivial
  unfold f_X8_hasClass at hf
  rcases bl_if_at hf with hf | hf
  · rw [← Option.some.inj hf]
    exact qσ
  · rcases bl_if_at hf with hf | hf
    · rw [← Option.some.inj hf]
      exact qσ
    · rw [← Option.some.inj hf]
      exact qσ
def md_X7_isWhole : List (Nat × Nat) := []
set_option maxRecDepth 100000 in
theorem gw_X7_isWhole_37 {ho : Nat → Bool} {σ0 : bl_St} {out : Int32 × bl_St} (k24 : bl_St → Nat → Int32 → Option (Int32 × bl_St)) (gk24 : ∀ (σ : bl_St) (v0 : Nat) (v1 : Int32), bl_Fq ho md_X7_isWhole σ0 σ → (bl_sh[v0]? = some (7, 6) ∧ True) → k24 σ v0 v1 = some out → bl_Fq ho md_X7_isWhole σ0 out.2) (k37 : bl_St → Nat → Int32 → Int32 → Option (Int32 × bl_St)) (gk37 : ∀ (σ : bl_St) (v0 : Nat) (v1 : Int32) (v2 : Int32), bl_Fq ho md_X7_isWhole σ0 σ → (bl_sh[v0]? = some (7, 6) ∧ True) → k37 σ v0 v1 v2 = some out → bl_Fq ho md_X7_isWhole σ0 out.2) : ∀ (σ : bl_St) (v0 : Nat) (v1 : Int32) (v2 : Int32), bl_Fq ho md_X7_isWhole σ0 σ → (bl_sh[v0]? = some (7, 6) ∧ True) → (b_X7_isWhole_37 k24 k37) σ v0 v1 v2 = some out → bl_Fq ho md_X7_isWhole σ0 out.2 := by
  intro σ v0 v1 v2 qσ hv0 hf
  unfold b_X7_isWhole_37 at hf
  rcases bl_if_at hf with hf | hf
  · obtain ⟨x2, e3⟩ : ∃ z : Int32, z = v1 + 1 := ⟨_, rfl⟩
    have hf := bl_let_at e3 hf
    exact gk24 σ v0 x2 qσ hv0 hf
  · have h4 := bl_Fq_gn qσ hv0 (k := 2) rfl
    have h5 := bl_Fq_gn qσ hv0 (k := 2) rfl
    obtain ⟨r6, σ7, h8, hf⟩ := bl_bd_at hf
    have qσ7 := bl_Fq_call qσ (fr_X8_next σ (bl_R σ v0 2) v1 v2 _ qσ.1 qσ.2.1 h5.1 h8) (by decide)
    obtain ⟨r9, σ10, h11, hf⟩ := bl_bd_at hf
    have qσ10 := bl_Fq_call qσ7 (fr_X8_hasClass σ7 (bl_R σ v0 2) r6 _ qσ7.1 qσ7.2.1 h4.1 h11) (by decide)
    rcases bl_if_at hf with hf | hf
    · rw [← Option.some.inj hf]
      exact qσ10
    · obtain ⟨x13, e14⟩ : ∃ z : Int32, z = v2 + 1 := ⟨_, rfl⟩
      have hf := bl_let_at e14 hf
      exact gk37 σ10 v0 v1 x13 qσ10 hv0 hf
theorem gl_X7_isWhole_37 {ho : Nat → Bool} {σ0 : bl_St} {out : Int32 × bl_St} (k24 : bl_St → Nat → Int32 → Option (Int32 × bl_St)) (gk24 : ∀ (σ : bl_St) (v0 : Nat) (v1 : Int32), bl_Fq ho md_X7_isWhole σ0 σ → (bl_sh[v0]? = some (7, 6) ∧ True) → k24 σ v0 v1 = some out → bl_Fq ho md_X7_isWhole σ0 out.2) (n : Nat) : ∀ (σ : bl_St) (v0 : Nat) (v1 : Int32) (v2 : Int32), bl_Fq ho md_X7_isWhole σ0 σ → (bl_sh[v0]? = some (7, 6) ∧ True) → (bl_fx (fun _ _ _ _ => none) (b_X7_isWhole_37 k24) n) σ v0 v1 v2 = some out → bl_Fq ho md_X7_isWhole σ0 out.2 := by
  induction n with
  | zero =>
    intro σ v0 v1 v2 qσ hv0 hf
    cases hf
  | succ n ih => exact gw_X7_isWhole_37 k24 gk24 _ ih
set_option maxRecDepth 100000 in
theorem gw_X7_isWhole_24 {ho : Nat → Bool} {σ0 : bl_St} {out : Int32 × bl_St} (k24 : bl_St → Nat → Int32 → Option (Int32 × bl_St)) (gk24 : ∀ (σ : bl_St) (v0 : Nat) (v1 : Int32), bl_Fq ho md_X7_isWhole σ0 σ → (bl_sh[v0]? = some (7, 6) ∧ True) → k24 σ v0 v1 = some out → bl_Fq ho md_X7_isWhole σ0 out.2) : ∀ (σ : bl_St) (v0 : Nat) (v1 : Int32), bl_Fq ho md_X7_isWhole σ0 σ → (bl_sh[v0]? = some (7, 6) ∧ True) → (b_X7_isWhole_24 k24) σ v0 v1 = some out → bl_Fq ho md_X7_isWhole σ0 out.2 := by
  intro σ v0 v1 qσ hv0 hf
  unfold b_X7_isWhole_24 at hf
  have h15 := bl_Fq_gn qσ hv0 (k := 2) rfl
  rcases bl_if_at hf with hf | hf
  · rw [← Option.some.inj hf]
    exact qσ
  · exact gl_X7_isWhole_37 k24 gk24 bl_fu σ v0 v1 0 qσ hv0 hf
theorem gl_X7_isWhole_24 {ho : Nat → Bool} {σ0 : bl_St} {out : Int32 × bl_St} (n : Nat) : ∀ (σ : bl_St) (v0 : Nat) (v1 : Int32), bl_Fq ho md_X7_isWhole σ0 σ → (bl_sh[v0]? = some (7, 6) ∧ True) → (bl_fx (fun _ _ _ => none) (b_X7_isWhole_24 ) n) σ v0 v1 = some out → bl_Fq ho md_X7_isWhole σ0 out.2 := by
  induction n with
  | zero =>
    intro σ v0 v1 qσ hv0 hf
    cases hf
  | succ n ih => exact gw_X7_isWhole_24  _ ih
set_option maxRecDepth 100000 in
theorem fr_X7_isWhole {ho : Nat → Bool} (σ : bl_St) (a0 : Nat) (o : Int32 × bl_St) (hw : bl_WT σ) (hh : bl_WH ho σ) (ha0 : bl_sh[a0]? = some (7, 6)) (hf : f_X7_isWhole σ a0 = some o) : bl_Fq ho md_X7_isWhole σ o.2 := by
  obtain ⟨σ0, hz⟩ : ∃ z, z = σ := ⟨_, rfl⟩
  suffices hgo : bl_Fq ho md_X7_isWhole σ0 o.2 by rw [hz] at hgo; exact hgo
  have qσ : bl_Fq ho md_X7_isWhole σ0 σ := by rw [hz]; exact ⟨hw, hh, fun _ _ => ⟨rfl, rfl, rfl⟩⟩
  have ha0 := And.intro ha0 trivial
  unfold f_X7_isWhole at hf
  have h17 := bl_Fq_gn qσ ha0 (k := 2) rfl
  rcases bl_if_at hf with hf | hf
  · rw [← Option.some.inj hf]
    exact qσ
  · have h19 := bl_Fq_gn qσ ha0 (k := 2) rfl
    rcases bl_if_at hf with hf | hf
    · rw [← Option.some.inj hf]
      exact qσ
    · exact gl_X7_isWhole_24  bl_fu σ a0 0 qσ ha0 hf
def md_X7_amountOf : List (Nat × Nat) := []
set_option maxRecDepth 100000 in
theorem fr_X7_amountOf {ho : Nat → Bool} (σ : bl_St) (a0 : Int32) (o : Int32 × bl_St) (hw : bl_WT σ) (hh : bl_WH ho σ) (hf : f_X7_amountOf σ a0 = some o) : bl_Fq ho md_X7_amountOf σ o.2 := by
  obtain ⟨σ0, hz⟩ : ∃ z, z = σ := ⟨_, rfl⟩
  suffices hgo : bl_Fq ho md_X7_amountOf σ0 o.2 by rw [hz] at hgo; exact hgo
  have qσ : bl_Fq ho md_X7_amountOf σ0 σ := by rw [hz]; exact ⟨hw, hh, fun _ _ => ⟨rfl, rfl, rfl⟩⟩
  unfold f_X7_amountOf at hf
  rcases bl_if_at hf with hf | hf
  · rw [← Option.some.inj hf]
    exact qσ
  · rcases bl_if_at hf with hf | hf
    · rw [← Option.some.inj hf]
      exact qσ
    · rw [← Option.some.inj hf]
      exact qσ
def md_X7_highest : List (Nat × Nat) := []
set_option maxRecDepth 100000 in
theorem fr_X7_highest {ho : Nat → Bool} (σ : bl_St) (a0 : Int32) (a1 : Int32) (o : Int32 × bl_St) (hw : bl_WT σ) (hh : bl_WH ho σ) (hf : f_X7_highest σ a0 a1 = some o) : bl_Fq ho md_X7_highest σ o.2 := by
  obtain ⟨σ0, hz⟩ : ∃ z, z = σ := ⟨_, rfl⟩
  suffices hgo : bl_Fq ho md_X7_highest σ0 o.2 by rw [hz] at hgo; exact hgo
  have qσ : bl_Fq ho md_X7_highest σ0 σ := by rw [hz]; exact ⟨hw, hh, fun _ _ => ⟨rfl, rfl, rfl⟩⟩
  unfold f_X7_highest at hf
  rcases bl_if_at hf with hf | hf
  · obtain ⟨-, hf⟩ := bl_gd_at hf
    rw [← Option.some.inj hf]
    exact qσ
  · rcases bl_if_at hf with hf | hf
    · obtain ⟨-, hf⟩ := bl_gd_at hf
      rw [← Option.some.inj hf]
      exact qσ
    · obtain ⟨-, hf⟩ := bl_gd_at hf
      rw [← Option.some.inj hf]
      exact qσ
def md_X7_isFull : List (Nat × Nat) := []
set_option maxRecDepth 100000 in
theorem gw_X7_isFull_16 {ho : Nat → Bool} {σ0 : bl_St} {out : Int32 × bl_St} : ∀ (σ : bl_St) (v0 : Nat) (v1 : Int32), bl_Fq ho md_X7_isFull σ0 σ → (bl_sh[v0]? = some (7, 6) ∧ True) → (b_X7_isFull_16 ) σ v0 v1 = some out → bl_Fq ho md_X7_isFull σ0 out.2 := by
  intro σ v0 v1 qσ hv0 hf
  unfold b_X7_isFull_16 at hf
  rcases bl_if_at hf with hf | hf
  · have h2 := bl_Fq_gn qσ hv0 (k := 2) rfl
    rcases bl_if_at hf with hf | hf
    · rw [← Option.some.inj hf]
      exact qσ
    · rw [← Option.some.inj hf]
      exact qσ
  · rw [← Option.some.inj hf]
    exact qσ
set_option maxRecDepth 100000 in
theorem fr_X7_isFull {ho : Nat → Bool} (σ : bl_St) (a0 : Nat) (a1 : Int32) (o : Int32 × bl_St) (hw : bl_WT σ) (hh : bl_WH ho σ) (ha0 : bl_sh[a0]? = some (7, 6)) (hf : f_X7_isFull σ a0 a1 = some o) : bl_Fq ho md_X7_isFull σ o.2 := by
  obtain ⟨σ0, hz⟩ : ∃ z, z = σ := ⟨_, rfl⟩
  suffices hgo : bl_Fq ho md_X7_isFull σ0 o.2 by rw [hz] at hgo; exact hgo
  have qσ : bl_Fq ho md_X7_isFull σ0 σ := by rw [hz]; exact ⟨hw, hh, fun _ _ => ⟨rfl, rfl, rfl⟩⟩
  have ha0 := And.intro ha0 trivial
  unfold f_X7_isFull at hf
  rcases bl_if_at hf with hf | hf
  · have h5 := bl_Fq_gn qσ ha0 (k := 2) rfl
    rcases bl_if_at hf with hf | hf
    · rw [← Option.some.inj hf]
      exact qσ
    · exact gw_X7_isFull_16  σ a0 a1 qσ ha0 hf
  · exact gw_X7_isFull_16  σ a0 a1 qσ ha0 hf
def md_X7_isLetter : List (Nat × Nat) := []
set_option maxRecDepth 100000 in
theorem fr_X7_isLetter {ho : Nat → Bool} (σ : bl_St) (a0 : Int32) (o : Int32 × bl_St) (hw : bl_WT σ) (hh : bl_WH ho σ) (hf : f_X7_isLetter σ a0 = some o) : bl_Fq ho md_X7_isLetter σ o.2 := by
  obtain ⟨σ0, hz⟩ : ∃ z, z = σ := ⟨_, rfl⟩
  suffices hgo : bl_Fq ho md_X7_isLetter σ0 o.2 by rw [hz] at hgo; exact hgo
  have qσ : bl_Fq ho md_X7_isLetter σ0 σ := by rw [hz]; exact ⟨hw, hh, fun _ _ => ⟨rfl, rfl, rfl⟩⟩
  unfold f_X7_isLetter at hf
  rcases bl_if_at hf with hf | hf
  · rw [← Option.some.inj hf]
    exact qσ
  · rcases bl_if_at hf with hf | hf
    · rw [← Option.some.inj hf]
      exact qσ
    · rw [← Option.some.inj hf]
      exact qσ
def md_X7_isWord : List (Nat × Nat) := []
set_option maxRecDepth 100000 in
theorem gw_X7_isWord_15 {ho : Nat → Bool} {σ0 : bl_St} {out : Int32 × bl_St} (k15 : bl_St → Nat → Nat → Int32 → Int32 → Option (Int32 × bl_St)) (gk15 : ∀ (σ : bl_St) (v0 : Nat) (v1 : Nat) (v2 : Int32) (v4 : Int32), bl_Fq ho md_X7_isWord σ0 σ → (bl_sh[v0]? = some (7, 6) ∧ True) → k15 σ v0 v1 v2 v4 = some out → bl_Fq ho md_X7_isWord σ0 out.2) : ∀ (σ : bl_St) (v0 : Nat) (v1 : Nat) (v2 : Int32) (v4 : Int32), bl_Fq ho md_X7_isWord σ0 σ → (bl_sh[v0]? = some (7, 6) ∧ True) → (b_X7_isWord_15 k15) σ v0 v1 v2 v4 = some out → bl_Fq ho md_X7_isWord σ0 out.2 := by
  intro σ v0 v1 v2 v4 qσ hv0 hf
  unfold b_X7_isWord_15 at hf
  obtain ⟨r1, σ2, h3, hf⟩ := bl_bd_at hf
  have qσ2 : bl_Fq ho md_X7_isWord σ0 σ2 := by rw [← z_J0_length_8abf5 h3]; exact qσ
  rcases bl_if_at hf with hf | hf
  · rw [← Option.some.inj hf]
    exact qσ2
  · have h5 := bl_Fq_gn qσ2 hv0 (k := 0) rfl
    obtain ⟨-, hf⟩ := bl_gd_at hf
    obtain ⟨r7, σ8, h9, hf⟩ := bl_bd_at hf
    have qσ8 : bl_Fq ho md_X7_isWord σ0 σ8 := by rw [← z_J0_charAt_5068e h9]; exact qσ2
    rcases bl_if_at hf with hf | hf
    · obtain ⟨x11, e12⟩ : ∃ z : Int32, z = v4 + 1 := ⟨_, rfl⟩
      have hf := bl_let_at e12 hf
      exact gk15 σ8 v0 v1 v2 x11 qσ8 hv0 hf
    · rw [← Option.some.inj hf]
      exact qσ8
theorem gl_X7_isWord_15 {ho : Nat → Bool} {σ0 : bl_St} {out : Int32 × bl_St} (n : Nat) : ∀ (σ : bl_St) (v0 : Nat) (v1 : Nat) (v2 : Int32) (v4 : Int32), bl_Fq ho md_X7_isWord σ0 σ → (bl_sh[v0]? = some (7, 6) ∧ True) → (bl_fx (fun _ _ _ _ _ => none) (b_X7_isWord_15 ) n) σ v0 v1 v2 v4 = some out → bl_Fq ho md_X7_isWord σ0 out.2 := by
  induction n with
  | zero =>
    intro σ v0 v1 v2 v4 qσ hv0 hf
    cases hf
  | succ n ih => exact gw_X7_isWord_15  _ ih
set_option maxRecDepth 100000 in
theorem fr_X7_isWord {ho : Nat → Bool} (σ : bl_St) (a0 : Nat) (a1 : Nat) (a2 : Int32) (a3 : Int32) (o : Int32 × bl_St) (hw : bl_WT σ) (hh : bl_WH ho σ) (ha0 : bl_sh[a0]? = some (7, 6)) (hf : f_X7_isWord σ a0 a1 a2 a3 = some o) : bl_Fq ho md_X7_isWord σ o.2 := by
  obtain ⟨σ0, hz⟩ : ∃ z, z = σ := ⟨_, rfl⟩
  suffices hgo : bl_Fq ho md_X7_isWord σ0 o.2 by rw [hz] at hgo; exact hgo
  have qσ : bl_Fq ho md_X7_isWord σ0 σ := by rw [hz]; exact ⟨hw, hh, fun _ _ => ⟨rfl, rfl, rfl⟩⟩
  have ha0 := And.intro ha0 trivial
  unfold f_X7_isWord at hf
  obtain ⟨r13, σ14, h15, hf⟩ := bl_bd_at hf
  have qσ14 : bl_Fq ho md_X7_isWord σ0 σ14 := by rw [← z_J0_length_8abf5 h15]; exact qσ
  rcases bl_if_at hf with hf | hf
  · exact gl_X7_isWord_15  bl_fu σ14 a0 a1 a2 0 qσ14 ha0 hf
  · rw [← Option.some.inj hf]
    exact qσ14
def md_X9_wordOf : List (Nat × Nat) := []
set_option maxRecDepth 100000 in
theorem fr_X9_wordOf {ho : Nat → Bool} (σ : bl_St) (a0 : Int32) (o : Nat × bl_St) (hw : bl_WT σ) (hh : bl_WH ho σ) (hf : f_X9_wordOf σ a0 = some o) : bl_Fq ho md_X9_wordOf σ o.2 := by
  obtain ⟨σ0, hz⟩ : ∃ z, z = σ := ⟨_, rfl⟩
  suffices hgo : bl_Fq ho md_X9_wordOf σ0 o.2 by rw [hz] at hgo; exact hgo
  have qσ : bl_Fq ho md_X9_wordOf σ0 σ := by rw [hz]; exact ⟨hw, hh, fun _ _ => ⟨rfl, rfl, rfl⟩⟩
  unfold f_X9_wordOf at hf
  rcases bl_if_at hf with hf | hf
  · rw [← Option.some.inj hf]
    exact qσ
  rcases bl_if_at hf with hf | hf
  · rw [← Option.some.inj hf]
    exact qσ
  rcases bl_if_at hf with hf | hf
  · rw [← Option.some.inj hf]
    exact qσ
  rcases bl_if_at hf with hf | hf
  · rw [← Option.some.inj hf]
    exact qσ
  rw [← Option.some.inj hf]
  exact qσ
def md_X7_kindOf : List (Nat × Nat) := []
set_option maxRecDepth 100000 in
theorem gw_X7_kindOf_2 {ho : Nat → Bool} {σ0 : bl_St} {out : Int32 × bl_St} (k2 : bl_St → Nat → Int32 → Int32 → Int32 → Option (Int32 × bl_St)) (gk2 : ∀ (σ : bl_St) (v0 : Nat) (v1 : Int32) (v2 : Int32) (v3 : Int32), bl_Fq ho md_X7_kindOf σ0 σ → (bl_sh[v0]? = some (7, 6) ∧ True) → k2 σ v0 v1 v2 v3 = some out → bl_Fq ho md_X7_kindOf σ0 out.2) : ∀ (σ : bl_St) (v0 : Nat) (v1 : Int32) (v2 : Int32) (v3 : Int32), bl_Fq ho md_X7_kindOf σ0 σ → (bl_sh[v0]? = some (7, 6) ∧ True) → (b_X7_kindOf_2 k2) σ v0 v1 v2 v3 = some out → bl_Fq ho md_X7_kindOf σ0 out.2 := by
  intro σ v0 v1 v2 v3 qσ hv0 hf
  unfold b_X7_kindOf_2 at hf
  rcases bl_if_at hf with hf | hf
  · rw [← Option.some.inj hf]
    exact qσ
  · obtain ⟨r2, σ3, h4, hf⟩ := bl_bd_at hf
    have qσ3 := bl_Fq_call qσ (fr_X9_wordOf σ v3 _ qσ.1 qσ.2.1  h4) (by decide)
    obtain ⟨r5, σ6, h7, hf⟩ := bl_bd_at hf
    have qσ6 := bl_Fq_call qσ3 (fr_X7_isWord σ3 v0 r2 v1 v2 _ qσ3.1 qσ3.2.1 hv0.1 h7) (by decide)
    rcases bl_if_at hf with hf | hf
    · obtain ⟨x9, e10⟩ : ∃ z : Int32, z = v3 + 1 := ⟨_, rfl⟩
      have hf := bl_let_at e10 hf
      exact gk2 σ6 v0 v1 v2 x9 qσ6 hv0 hf
    · rw [← Option.some.inj hf]
      exact qσ6
theorem gl_X7_kindOf_2 {ho : Nat → Bool} {σ0 : bl_St} {out : Int32 × bl_St} (n : Nat) : ∀ (σ : bl_St) (v0 : Nat) (v1 : Int32) (v2 : Int32) (v3 : Int32), bl_Fq ho md_X7_kindOf σ0 σ → (bl_sh[v0]? = some (7, 6) ∧ True) → (bl_fx (fun _ _ _ _ _ => none) (b_X7_kindOf_2 ) n) σ v0 v1 v2 v3 = some out → bl_Fq ho md_X7_kindOf σ0 out.2 := by
  induction n with
  | zero =>
    intro σ v0 v1 v2 v3 qσ hv0 hf
    cases hf
  | succ n ih => exact gw_X7_kindOf_2  _ ih
set_option maxRecDepth 100000 in
theorem fr_X7_kindOf {ho : Nat → Bool} (σ : bl_St) (a0 : Nat) (a1 : Int32) (a2 : Int32) (o : Int32 × bl_St) (hw : bl_WT σ) (hh : bl_WH ho σ) (ha0 : bl_sh[a0]? = some (7, 6)) (hf : f_X7_kindOf σ a0 a1 a2 = some o) : bl_Fq ho md_X7_kindOf σ o.2 := by
  obtain ⟨σ0, hz⟩ : ∃ z, z = σ := ⟨_, rfl⟩
  suffices hgo : bl_Fq ho md_X7_kindOf σ0 o.2 by rw [hz] at hgo; exact hgo
  have qσ : bl_Fq ho md_X7_kindOf σ0 σ := by rw [hz]; exact ⟨hw, hh, fun _ _ => ⟨rfl, rfl, rfl⟩⟩
  have ha0 := And.intro ha0 trivial
  unfold f_X7_kindOf at hf
  exact gl_X7_kindOf_2  bl_fu σ a0 a1 a2 0 qσ ha0 hf
def md_X7_lowest : List (Nat × Nat) := []
set_option maxRecDepth 100000 in
theorem fr_X7_lowest {ho : Nat → Bool} (σ : bl_St) (a0 : Int32) (o : Int32 × bl_St) (hw : bl_WT σ) (hh : bl_WH ho σ) (hf : f_X7_lowest σ a0 = some o) : bl_Fq ho md_X7_lowest σ o.2 := by
  obtain ⟨σ0, hz⟩ : ∃ z, z = σ := ⟨_, rfl⟩
  suffices hgo : bl_Fq ho md_X7_lowest σ0 o.2 by rw [hz] at hgo; exact hgo
  have qσ : bl_Fq ho md_X7_lowest σ0 σ := by rw [hz]; exact ⟨hw, hh, fun _ _ => ⟨rfl, rfl, rfl⟩⟩
  unfold f_X7_lowest at hf
  rcases bl_if_at hf with hf | hf
  · rw [← Option.some.inj hf]
    exact qσ
  · rcases bl_if_at hf with hf | hf
    · rw [← Option.some.inj hf]
      exact qσ
    · obtain ⟨-, hf⟩ := bl_gd_at hf
      rw [← Option.some.inj hf]
      exact qσ
def md_X7_skipBlanks : List (Nat × Nat) := [(7, 6)]
set_option maxRecDepth 100000 in
theorem gw_X7_skipBlanks_39 {ho : Nat → Bool} {σ0 : bl_St} {out : Unit × bl_St} (k0 : bl_St → Nat → Option (Unit × bl_St)) (gk0 : ∀ (σ : bl_St) (v0 : Nat), bl_Fq ho md_X7_skipBlanks σ0 σ → (bl_sh[v0]? = some (7, 6) ∧ ho v0 = true) → k0 σ v0 = some out → bl_Fq ho md_X7_skipBlanks σ0 out.2) : ∀ (σ : bl_St) (v0 : Nat), bl_Fq ho md_X7_skipBlanks σ0 σ → (bl_sh[v0]? = some (7, 6) ∧ ho v0 = true) → (b_X7_skipBlanks_39 k0) σ v0 = some out → bl_Fq ho md_X7_skipBlanks σ0 out.2 := by
  intro σ v0 qσ hv0 hf
  unfold b_X7_skipBlanks_39 at hf
  obtain ⟨σ1, e2⟩ : ∃ z : bl_St, z = bl_pI σ v0 4 ((bl_I σ v0 4) + 1) := ⟨_, rfl⟩
  have hf := bl_let_at e2 hf
  have qσ1 : bl_Fq ho md_X7_skipBlanks σ0 σ1 := by rw [e2]; exact bl_Fq_I qσ (bl_al_in hv0.1 (by decide) hv0.2)
  exact gk0 σ1 v0 qσ1 hv0 hf
set_option maxRecDepth 100000 in
theorem gw_X7_skipBlanks_0 {ho : Nat → Bool} {σ0 : bl_St} {out : Unit × bl_St} (k0 : bl_St → Nat → Option (Unit × bl_St)) (gk0 : ∀ (σ : bl_St) (v0 : Nat), bl_Fq ho md_X7_skipBlanks σ0 σ → (bl_sh[v0]? = some (7, 6) ∧ ho v0 = true) → k0 σ v0 = some out → bl_Fq ho md_X7_skipBlanks σ0 out.2) : ∀ (σ : bl_St) (v0 : Nat), bl_Fq ho md_X7_skipBlanks σ0 σ → (bl_sh[v0]? = some (7, 6) ∧ ho v0 = true) → (b_X7_skipBlanks_0 k0) σ v0 = some out → bl_Fq ho md_X7_skipBlanks σ0 out.2 := by
  intro σ v0 qσ hv0 hf
  unfold b_X7_skipBlanks_0 at hf
  rcases bl_if_at hf with hf | hf
  · rw [← Option.some.inj hf]
    exact qσ
  · have h4 := bl_Fq_g qσ hv0 (k := 0) rfl (by decide)
    obtain ⟨-, hf⟩ := bl_gd_at hf
    rcases bl_if_at hf with hf | hf
    · exact gw_X7_skipBlanks_39 k0 gk0 σ v0 qσ hv0 hf
    · have h7 := bl_Fq_g qσ hv0 (k := 0) rfl (by decide)
      obtain ⟨-, hf⟩ := bl_gd_at hf
      rcases bl_if_at hf with hf | hf
      · exact gw_X7_skipBlanks_39 k0 gk0 σ v0 qσ hv0 hf
      · rw [← Option.some.inj hf]
        exact qσ
theorem gl_X7_skipBlanks_0 {ho : Nat → Bool} {σ0 : bl_St} {out : Unit × bl_St} (n : Nat) : ∀ (σ : bl_St) (v0 : Nat), bl_Fq ho md_X7_skipBlanks σ0 σ → (bl_sh[v0]? = some (7, 6) ∧ ho v0 = true) → (bl_fx (fun _ _ => none) (b_X7_skipBlanks_0 ) n) σ v0 = some out → bl_Fq ho md_X7_skipBlanks σ0 out.2 := by
  induction n with
  | zero =>
    intro σ v0 qσ hv0 hf
    cases hf
  | succ n ih => exact gw_X7_skipBlanks_0  _ ih
set_option maxRecDepth 100000 in
theorem fr_X7_skipBlanks {ho : Nat → Bool} (σ : bl_St) (a0 : Nat) (o : Unit × bl_St) (hw : bl_WT σ) (hh : bl_WH ho σ) (ha0 : bl_sh[a0]? = some (7, 6) ∧ ho a0 = true) (hf : f_X7_skipBlanks σ a0 = some o) : bl_Fq ho md_X7_skipBlanks σ o.2 := by
  obtain ⟨σ0, hz⟩ : ∃ z, z = σ := ⟨_, rfl⟩
  suffices hgo : bl_Fq ho md_X7_skipBlanks σ0 o.2 by rw [hz] at hgo; exact hgo
  have qσ : bl_Fq ho md_X7_skipBlanks σ0 σ := by rw [hz]; exact ⟨hw, hh, fun _ _ => ⟨rfl, rfl, rfl⟩⟩
  unfold f_X7_skipBlanks at hf
  exact gl_X7_skipBlanks_0  bl_fu σ a0 qσ ha0 hf
def md_X7_readEnd : List (Nat × Nat) := [(7, 6)]
set_option maxRecDepth 100000 in
theorem fr_X7_readEnd {ho : Nat → Bool} (σ : bl_St) (a0 : Nat) (o : Unit × bl_St) (hw : bl_WT σ) (hh : bl_WH ho σ) (ha0 : bl_sh[a0]? = some (7, 6) ∧ ho a0 = true) (hf : f_X7_readEnd σ a0 = some o) : bl_Fq ho md_X7_readEnd σ o.2 := by
  obtain ⟨σ0, hz⟩ : ∃ z, z = σ := ⟨_, rfl⟩
  suffices hgo : bl_Fq ho md_X7_readEnd σ0 o.2 by rw [hz] at hgo; exact hgo
  have qσ : bl_Fq ho md_X7_readEnd σ0 σ := by rw [hz]; exact ⟨hw, hh, fun _ _ => ⟨rfl, rfl, rfl⟩⟩
  unfold f_X7_readEnd at hf
  obtain ⟨r1, σ2, h3, hf⟩ := bl_bd_at hf
  have qσ2 := bl_Fq_call qσ (fr_X7_skipBlanks σ a0 _ qσ.1 qσ.2.1 ha0 h3) (by decide)
  rcases bl_if_at hf with hf | hf
  · obtain ⟨σ5, e6⟩ : ∃ z : bl_St, z = bl_pI σ2 a0 5 (bl_I σ2 a0 4) := ⟨_, rfl⟩
    have hf := bl_let_at e6 hf
    have qσ5 : bl_Fq ho md_X7_readEnd σ0 σ5 := by rw [e6]; exact bl_Fq_I qσ2 (bl_al_in ha0.1 (by decide) ha0.2)
    rw [← Option.some.inj hf]
    exact qσ5
  · have h7 := bl_Fq_g qσ2 ha0 (k := 0) rfl (by decide)
    obtain ⟨-, hf⟩ := bl_gd_at hf
    rcases bl_if_at hf with hf | hf
    · obtain ⟨σ12, e13⟩ : ∃ z : bl_St, z = bl_pI σ2 a0 4 ((bl_I σ2 a0 4) + 1) := ⟨_, rfl⟩
      have hf := bl_let_at e13 hf
      have qσ12 : bl_Fq ho md_X7_readEnd σ0 σ12 := by rw [e13]; exact bl_Fq_I qσ2 (bl_al_in ha0.1 (by decide) ha0.2)
      rw [← Option.some.inj hf]
      exact qσ12
    · obtain ⟨σ10, e11⟩ : ∃ z : bl_St, z = bl_pI σ2 a0 5 (bl_I σ2 a0 4) := ⟨_, rfl⟩
      have hf := bl_let_at e11 hf
      have qσ10 : bl_Fq ho md_X7_readEnd σ0 σ10 := by rw [e11]; exact bl_Fq_I qσ2 (bl_al_in ha0.1 (by decide) ha0.2)
      rw [← Option.some.inj hf]
      exact qσ10
def md_X7_isDigit : List (Nat × Nat) := []
set_option maxRecDepth 100000 in
theorem fr_X7_isDigit {ho : Nat → Bool} (σ : bl_St) (a0 : Int32) (o : Int32 × bl_St) (hw : bl_WT σ) (hh : bl_WH ho σ) (hf : f_X7_isDigit σ a0 = some o) : bl_Fq ho md_X7_isDigit σ o.2 := by
  obtain ⟨σ0, hz⟩ : ∃ z, z = σ := ⟨_, rfl⟩
  suffices hgo : bl_Fq ho md_X7_isDigit σ0 o.2 by rw [hz] at hgo; exact hgo
  have qσ : bl_Fq ho md_X7_isDigit σ0 σ := by rw [hz]; exact ⟨hw, hh, fun _ _ => ⟨rfl, rfl, rfl⟩⟩
  unfold f_X7_isDigit at hf
  rcases bl_if_at hf with hf | hf
  · rw [← Option.some.inj hf]
    exact qσ
  · rcases bl_if_at hf with hf | hf
    · rw [← Option.some.inj hf]
      exact qσ
    · rw [← Option.some.inj hf]
      exact qσ
def md_X7_readNumber : List (Nat × Nat) := [(7, 6), (20, 5)]
set_option maxRecDepth 100000 in
theorem gw_X7_readNumber_128 {ho : Nat → Bool} {σ0 : bl_St} {out : Unit × bl_St} : ∀ (σ : bl_St) (v0 : Nat) (v1 : Int32) (v2 : Int32) (v3 : Int32) (v5 : Int32) (v6 : Int32), bl_Fq ho md_X7_readNumber σ0 σ → (bl_sh[v0]? = some (7, 6) ∧ ho v0 = true) → (b_X7_readNumber_128 ) σ v0 v1 v2 v3 v5 v6 = some out → bl_Fq ho md_X7_readNumber σ0 out.2 := by
  intro σ v0 v1 v2 v3 v5 v6 qσ hv0 hf
  unfold b_X7_readNumber_128 at hf
  rcases bl_if_at hf with hf | hf
  · obtain ⟨σ2, e3⟩ : ∃ z : bl_St, z = bl_pI σ v0 5 v5 := ⟨_, rfl⟩
    have hf := bl_let_at e3 hf
    have qσ2 : bl_Fq ho md_X7_readNumber σ0 σ2 := by rw [e3]; exact bl_Fq_I qσ (bl_al_in hv0.1 (by decide) hv0.2)
    rw [← Option.some.inj hf]
    exact qσ2
  · rcases bl_if_at hf with hf | hf
    · obtain ⟨σ5, e6⟩ : ∃ z : bl_St, z = bl_pI σ v0 5 v5 := ⟨_, rfl⟩
      have hf := bl_let_at e6 hf
      have qσ5 : bl_Fq ho md_X7_readNumber σ0 σ5 := by rw [e6]; exact bl_Fq_I qσ (bl_al_in hv0.1 (by decide) hv0.2)
      rw [← Option.some.inj hf]
      exact qσ5
    · rcases bl_if_at hf with hf | hf
      · have h8 := bl_Fq_g qσ hv0 (k := 1) rfl (by decide)
        obtain ⟨-, hf⟩ := bl_gd_at hf
        obtain ⟨σ10, e11⟩ : ∃ z : bl_St, z = bl_pI σ (bl_R σ v0 1) (Int32.toNatClampNeg v1) v6 := ⟨_, rfl⟩
        have hf := bl_let_at e11 hf
        have qσ10 : bl_Fq ho md_X7_readNumber σ0 σ10 := by rw [e11]; exact bl_Fq_I qσ (bl_al_in h8.1 (by decide) h8.2)
        rw [← Option.some.inj hf]
        exact qσ10
      · obtain ⟨σ12, e13⟩ : ∃ z : bl_St, z = bl_pI σ v0 5 v5 := ⟨_, rfl⟩
        have hf := bl_let_at e13 hf
        have qσ12 : bl_Fq ho md_X7_readNumber σ0 σ12 := by rw [e13]; exact bl_Fq_I qσ (bl_al_in hv0.1 (by decide) hv0.2)
        rw [← Option.some.inj hf]
        exact qσ12
set_option maxRecDepth 100000 in
theorem gw_X7_readNumber_63 {ho : Nat → Bool} {σ0 : bl_St} {out : Unit × bl_St} (k63 : bl_St → Nat → Int32 → Int32 → Int32 → Int32 → Int32 → Option (Unit × bl_St)) (gk63 : ∀ (σ : bl_St) (v0 : Nat) (v1 : Int32) (v2 : Int32) (v3 : Int32) (v5 : Int32) (v6 : Int32), bl_Fq ho md_X7_readNumber σ0 σ → (bl_sh[v0]? = some (7, 6) ∧ ho v0 = true) → k63 σ v0 v1 v2 v3 v5 v6 = some out → bl_Fq ho md_X7_readNumber σ0 out.2) : ∀ (σ : bl_St) (v0 : Nat) (v1 : Int32) (v2 : Int32) (v3 : Int32) (v5 : Int32) (v6 : Int32), bl_Fq ho md_X7_readNumber σ0 σ → (bl_sh[v0]? = some (7, 6) ∧ ho v0 = true) → (b_X7_readNumber_63 k63) σ v0 v1 v2 v3 v5 v6 = some out → bl_Fq ho md_X7_readNumber σ0 out.2 := by
  intro σ v0 v1 v2 v3 v5 v6 qσ hv0 hf
  unfold b_X7_readNumber_63 at hf
  rcases bl_if_at hf with hf | hf
  · exact gw_X7_readNumber_128  σ v0 v1 v2 v3 v5 v6 qσ hv0 hf
  · have h15 := bl_Fq_g qσ hv0 (k := 0) rfl (by decide)
    obtain ⟨-, hf⟩ := bl_gd_at hf
    obtain ⟨r17, σ18, h19, hf⟩ := bl_bd_at hf
    have qσ18 := bl_Fq_call qσ (fr_X7_isDigit σ (bl_I σ (bl_R σ v0 0) (Int32.toNatClampNeg (bl_I σ v0 4))) _ qσ.1 qσ.2.1  h19) (by decide)
    rcases bl_if_at hf with hf | hf
    · exact gw_X7_readNumber_128  σ18 v0 v1 v2 v3 v5 v6 qσ18 hv0 hf
    · have h21 := bl_Fq_g qσ18 hv0 (k := 0) rfl (by decide)
      obtain ⟨-, hf⟩ := bl_gd_at hf
      obtain ⟨x23, e24⟩ : ∃ z, z = (if (((v6 * 10) + (bl_I σ18 (bl_R σ18 v0 0) (Int32.toNatClampNeg (bl_I σ18 v0 4)))) - 48) < 9999 then (((v6 * 10) + (bl_I σ18 (bl_R σ18 v0 0) (Int32.toNatClampNeg (bl_I σ18 v0 4)))) - 48) else 9999) := ⟨_, rfl⟩
      have hf := bl_let_at e24 hf
      obtain ⟨σ25, e26⟩ : ∃ z : bl_St, z = bl_pI σ18 v0 4 ((bl_I σ18 v0 4) + 1) := ⟨_, rfl⟩
      have hf := bl_let_at e26 hf
      have qσ25 : bl_Fq ho md_X7_readNumber σ0 σ25 := by rw [e26]; exact bl_Fq_I qσ18 (bl_al_in hv0.1 (by decide) hv0.2)
      exact gk63 σ25 v0 v1 v2 v3 v5 x23 qσ25 hv0 hf
theorem gl_X7_readNumber_63 {ho : Nat → Bool} {σ0 : bl_St} {out : Unit × bl_St} (n : Nat) : ∀ (σ : bl_St) (v0 : Nat) (v1 : Int32) (v2 : Int32) (v3 : Int32) (v5 : Int32) (v6 : Int32), bl_Fq ho md_X7_readNumber σ0 σ → (bl_sh[v0]? = some (7, 6) ∧ ho v0 = true) → (bl_fx (fun _ _ _ _ _ _ _ => none) (b_X7_readNumber_63 ) n) σ v0 v1 v2 v3 v5 v6 = some out → bl_Fq ho md_X7_readNumber σ0 out.2 := by
  induction n with
  | zero =>
    intro σ v0 v1 v2 v3 v5 v6 qσ hv0 hf
    cases hf
  | succ n ih => exact gw_X7_readNumber_63  _ ih
set_option maxRecDepth 100000 in
theorem fr_X7_readNumber {ho : Nat → Bool} (σ : bl_St) (a0 : Nat) (a1 : Int32) (a2 : Int32) (a3 : Int32) (o : Unit × bl_St) (hw : bl_WT σ) (hh : bl_WH ho σ) (ha0 : bl_sh[a0]? = some (7, 6) ∧ ho a0 = true) (hf : f_X7_readNumber σ a0 a1 a2 a3 = some o) : bl_Fq ho md_X7_readNumber σ o.2 := by
  obtain ⟨σ0, hz⟩ : ∃ z, z = σ := ⟨_, rfl⟩
  suffices hgo : bl_Fq ho md_X7_readNumber σ0 o.2 by rw [hz] at hgo; exact hgo
  have qσ : bl_Fq ho md_X7_readNumber σ0 σ := by rw [hz]; exact ⟨hw, hh, fun _ _ => ⟨rfl, rfl, rfl⟩⟩
  unfold f_X7_readNumber at hf
  obtain ⟨x27, e28⟩ : ∃ z, z = (bl_I σ a0 4) := ⟨_, rfl⟩
  have hf := bl_let_at e28 hf
  obtain ⟨r29, σ30, h31, hf⟩ := bl_bd_at hf
  have qσ30 := bl_Fq_call qσ (fr_X7_skipBlanks σ a0 _ qσ.1 qσ.2.1 ha0 h31) (by decide)
  rcases bl_if_at hf with hf | hf
  · obtain ⟨σ33, e34⟩ : ∃ z : bl_St, z = bl_pI σ30 a0 5 (bl_I σ30 a0 4) := ⟨_, rfl⟩
    have hf := bl_let_at e34 hf
    have qσ33 : bl_Fq ho md_X7_readNumber σ0 σ33 := by rw [e34]; exact bl_Fq_I qσ30 (bl_al_in ha0.1 (by decide) ha0.2)
    rw [← Option.some.inj hf]
    exact qσ33
  · rcases bl_if_at hf with hf | hf
    · obtain ⟨σ36, e37⟩ : ∃ z : bl_St, z = bl_pI σ30 a0 5 (bl_I σ30 a0 4) := ⟨_, rfl⟩
      have hf := bl_let_at e37 hf
      have qσ36 : bl_Fq ho md_X7_readNumber σ0 σ36 := by rw [e37]; exact bl_Fq_I qσ30 (bl_al_in ha0.1 (by decide) ha0.2)
      rw [← Option.some.inj hf]
      exact qσ36
    · have h38 := bl_Fq_g qσ30 ha0 (k := 0) rfl (by decide)
      obtain ⟨-, hf⟩ := bl_gd_at hf
      obtain ⟨r40, σ41, h42, hf⟩ := bl_bd_at hf
      have qσ41 := bl_Fq_call qσ30 (fr_X7_isDigit σ30 (bl_I σ30 (bl_R σ30 a0 0) (Int32.toNatClampNeg (bl_I σ30 a0 4))) _ qσ30.1 qσ30.2.1  h42) (by decide)
      rcases bl_if_at hf with hf | hf
      · obtain ⟨σ46, e47⟩ : ∃ z : bl_St, z = bl_pI σ41 a0 5 (bl_I σ41 a0 4) := ⟨_, rfl⟩
        have hf := bl_let_at e47 hf
        have qσ46 : bl_Fq ho md_X7_readNumber σ0 σ46 := by rw [e47]; exact bl_Fq_I qσ41 (bl_al_in ha0.1 (by decide) ha0.2)
        rw [← Option.some.inj hf]
        exact qσ46
      · obtain ⟨x44, e45⟩ : ∃ z, z = (bl_I σ41 a0 4) := ⟨_, rfl⟩
        have hf := bl_let_at e45 hf
        exact gl_X7_readNumber_63  bl_fu σ41 a0 a1 a2 a3 x44 0 qσ41 ha0 hf
def md_X8_setSortPart : List (Nat × Nat) := [(20, 10)]
set_option maxRecDepth 100000 in
theorem fr_X8_setSortPart {ho : Nat → Bool} (σ : bl_St) (a0 : Nat) (a1 : Int32) (a2 : Int32) (a3 : Int32) (o : Unit × bl_St) (hw : bl_WT σ) (hh : bl_WH ho σ) (ha0 : bl_sh[a0]? = some (8, 5) ∧ ho a0 = true) (hf : f_X8_setSortPart σ a0 a1 a2 a3 = some o) : bl_Fq ho md_X8_setSortPart σ o.2 := by
  obtain ⟨σ0, hz⟩ : ∃ z, z = σ := ⟨_, rfl⟩
  suffices hgo : bl_Fq ho md_X8_setSortPart σ0 o.2 by rw [hz] at hgo; exact hgo
  have qσ : bl_Fq ho md_X8_setSortPart σ0 σ := by rw [hz]; exact ⟨hw, hh, fun _ _ => ⟨rfl, rfl, rfl⟩⟩
  unfold f_X8_setSortPart at hf
  have h1 := bl_Fq_g qσ ha0 (k := 3) rfl (by decide)
  obtain ⟨-, hf⟩ := bl_gd_at hf
  obtain ⟨σ3, e4⟩ : ∃ z : bl_St, z = bl_pI σ (bl_R σ a0 3) (Int32.toNatClampNeg ((a1 * 2) + a2)) a3 := ⟨_, rfl⟩
  have hf := bl_let_at e4 hf
  have qσ3 : bl_Fq ho md_X8_setSortPart σ0 σ3 := by rw [e4]; exact bl_Fq_I qσ (bl_al_in h1.1 (by decide) h1.2)
  rw [← Option.some.inj hf]
  exact qσ3
def md_X8_addSort : List (Nat × Nat) := [(8, 5), (20, 10)]
set_option maxRecDepth 100000 in
theorem fr_X8_addSort {ho : Nat → Bool} (σ : bl_St) (a0 : Nat) (a1 : Int32) (a2 : Int32) (o : Unit × bl_St) (hw : bl_WT σ) (hh : bl_WH ho σ) (ha0 : bl_sh[a0]? = some (8, 5) ∧ ho a0 = true) (hf : f_X8_addSort σ a0 a1 a2 = some o) : bl_Fq ho md_X8_addSort σ o.2 := by
  obtain ⟨σ0, hz⟩ : ∃ z, z = σ := ⟨_, rfl⟩
  suffices hgo : bl_Fq ho md_X8_addSort σ0 o.2 by rw [hz] at hgo; exact hgo
  have qσ : bl_Fq ho md_X8_addSort σ0 σ := by rw [hz]; exact ⟨hw, hh, fun _ _ => ⟨rfl, rfl, rfl⟩⟩
  unfold f_X8_addSort at hf
  obtain ⟨r1, σ2, h3, hf⟩ := bl_bd_at hf
  have qσ2 := bl_Fq_call qσ (fr_X8_setSortPart σ a0 (bl_I σ a0 1) 0 a1 _ qσ.1 qσ.2.1 ha0 h3) (by decide)
  obtain ⟨r4, σ5, h6, hf⟩ := bl_bd_at hf
  have qσ5 := bl_Fq_call qσ2 (fr_X8_setSortPart σ2 a0 (bl_I σ2 a0 1) 1 a2 _ qσ2.1 qσ2.2.1 ha0 h6) (by decide)
  obtain ⟨σ7, e8⟩ : ∃ z : bl_St, z = bl_pI σ5 a0 1 ((bl_I σ5 a0 1) + 1) := ⟨_, rfl⟩
  have hf := bl_let_at e8 hf
  have qσ7 : bl_Fq ho md_X8_addSort σ0 σ7 := by rw [e8]; exact bl_Fq_I qσ5 (bl_al_in ha0.1 (by decide) ha0.2)
  rw [← Option.some.inj hf]
  exact qσ7
def md_X7_take : List (Nat × Nat) := [(8, 5), (20, 3), (20, 10), (20, 40)]
set_option maxRecDepth 100000 in
theorem fr_X7_take {ho : Nat → Bool} (σ : bl_St) (a0 : Nat) (a1 : Int32) (o : Unit × bl_St) (hw : bl_WT σ) (hh : bl_WH ho σ) (ha0 : bl_sh[a0]? = some (7, 6) ∧ ho a0 = true) (hf : f_X7_take σ a0 a1 = some o) : bl_Fq ho md_X7_take σ o.2 := by
  obtain ⟨σ0, hz⟩ : ∃ z, z = σ := ⟨_, rfl⟩
  suffices hgo : bl_Fq ho md_X7_take σ0 o.2 by rw [hz] at hgo; exact hgo
  have qσ : bl_Fq ho md_X7_take σ0 σ := by rw [hz]; exact ⟨hw, hh, fun _ _ => ⟨rfl, rfl, rfl⟩⟩
  unfold f_X7_take at hf
  rcases bl_if_at hf with hf | hf
  · have h15 := bl_Fq_g qσ ha0 (k := 1) rfl (by decide)
    have h16 := bl_Fq_g qσ ha0 (k := 2) rfl (by decide)
    have h17 := bl_Fq_g qσ h16 (k := 2) rfl (by decide)
    have h18 := bl_Fq_g qσ ha0 (k := 2) rfl (by decide)
    obtain ⟨-, hf⟩ := bl_gd_at hf
    obtain ⟨σ20, e21⟩ : ∃ z : bl_St, z = bl_cI σ (bl_R σ a0 1) (Int32.toNatClampNeg 0) (bl_R σ (bl_R σ a0 2) 2) (Int32.toNatClampNeg ((bl_I σ (bl_R σ a0 2) 0) * 5)) (Int32.toNatClampNeg 5) := ⟨_, rfl⟩
    have hf := bl_let_at e21 hf
    have qσ20 : bl_Fq ho md_X7_take σ0 σ20 := by rw [e21]; exact bl_Fq_cI qσ (bl_al_in h17.1 (by decide) h17.2)
    have h22 := bl_Fq_g qσ20 ha0 (k := 2) rfl (by decide)
    obtain ⟨σ23, e24⟩ : ∃ z : bl_St, z = bl_pI σ20 (bl_R σ20 a0 2) 0 ((bl_I σ20 (bl_R σ20 a0 2) 0) + 1) := ⟨_, rfl⟩
    have hf := bl_let_at e24 hf
    have qσ23 : bl_Fq ho md_X7_take σ0 σ23 := by rw [e24]; exact bl_Fq_I qσ20 (bl_al_in h22.1 (by decide) h22.2)
    rw [← Option.some.inj hf]
    exact qσ23
  · rcases bl_if_at hf with hf | hf
    · have h9 := bl_Fq_g qσ ha0 (k := 2) rfl (by decide)
      have h10 := bl_Fq_g qσ ha0 (k := 1) rfl (by decide)
      have h11 := bl_Fq_g qσ ha0 (k := 1) rfl (by decide)
      obtain ⟨r12, σ13, h14, hf⟩ := bl_bd_at hf
      have qσ13 := bl_Fq_call qσ (fr_X8_addSort σ (bl_R σ a0 2) (bl_I σ (bl_R σ a0 1) 0) (bl_I σ (bl_R σ a0 1) 1) _ qσ.1 qσ.2.1 h9 h14) (by decide)
      rw [← Option.some.inj hf]
      exact qσ13
    · have h3 := bl_Fq_g qσ ha0 (k := 2) rfl (by decide)
      have h4 := bl_Fq_g qσ h3 (k := 4) rfl (by decide)
      have h5 := bl_Fq_g qσ ha0 (k := 1) rfl (by decide)
      obtain ⟨-, hf⟩ := bl_gd_at hf
      obtain ⟨σ7, e8⟩ : ∃ z : bl_St, z = bl_pI σ (bl_R σ (bl_R σ a0 2) 4) (Int32.toNatClampNeg (a1 - 2)) (bl_I σ (bl_R σ a0 1) 0) := ⟨_, rfl⟩
      have hf := bl_let_at e8 hf
      have qσ7 : bl_Fq ho md_X7_take σ0 σ7 := by rw [e8]; exact bl_Fq_I qσ (bl_al_in h4.1 (by decide) h4.2)
      rw [← Option.some.inj hf]
      exact qσ7
def md_X7_readPhrase : List (Nat × Nat) := [(7, 6), (8, 5), (20, 3), (20, 5), (20, 10), (20, 40)]
set_option maxRecDepth 100000 in
theorem gw_X7_readPhrase_129 {ho : Nat → Bool} {σ0 : bl_St} {out : Unit × bl_St} : ∀ (σ : bl_St) (v0 : Nat) (v2 : Int32), bl_Fq ho md_X7_readPhrase σ0 σ → (bl_sh[v0]? = some (7, 6) ∧ ho v0 = true) → (b_X7_readPhrase_129 ) σ v0 v2 = some out → bl_Fq ho md_X7_readPhrase σ0 out.2 := by
  intro σ v0 v2 qσ hv0 hf
  unfold b_X7_readPhrase_129 at hf
  rcases bl_if_at hf with hf | hf
  · obtain ⟨r2, σ3, h4, hf⟩ := bl_bd_at hf
    have qσ3 := bl_Fq_call qσ (fr_X7_take σ v0 v2 _ qσ.1 qσ.2.1 hv0 h4) (by decide)
    rw [← Option.some.inj hf]
    exact qσ3
  · rw [← Option.some.inj hf]
    exact qσ
set_option maxRecDepth 100000 in
theorem gw_X7_readPhrase_117 {ho : Nat → Bool} {σ0 : bl_St} {out : Unit × bl_St} : ∀ (σ : bl_St) (v0 : Nat) (v2 : Int32), bl_Fq ho md_X7_readPhrase σ0 σ → (bl_sh[v0]? = some (7, 6) ∧ ho v0 = true) → (b_X7_readPhrase_117 ) σ v0 v2 = some out → bl_Fq ho md_X7_readPhrase σ0 out.2 := by
  intro σ v0 v2 qσ hv0 hf
  unfold b_X7_readPhrase_117 at hf
  rcases bl_if_at hf with hf | hf
  · obtain ⟨r6, σ7, h8, hf⟩ := bl_bd_at hf
    have qσ7 := bl_Fq_call qσ (fr_X7_readEnd σ v0 _ qσ.1 qσ.2.1 hv0 h8) (by decide)
    exact gw_X7_readPhrase_129  σ7 v0 v2 qσ7 hv0 hf
  · exact gw_X7_readPhrase_129  σ v0 v2 qσ hv0 hf
set_option maxRecDepth 100000 in
theorem gw_X7_readPhrase_81 {ho : Nat → Bool} {σ0 : bl_St} {out : Unit × bl_St} (k81 : bl_St → Nat → Int32 → Int32 → Int32 → Option (Unit × bl_St)) (gk81 : ∀ (σ : bl_St) (v0 : Nat) (v2 : Int32) (v3 : Int32) (v4 : Int32), bl_Fq ho md_X7_readPhrase σ0 σ → (bl_sh[v0]? = some (7, 6) ∧ ho v0 = true) → k81 σ v0 v2 v3 v4 = some out → bl_Fq ho md_X7_readPhrase σ0 out.2) : ∀ (σ : bl_St) (v0 : Nat) (v2 : Int32) (v3 : Int32) (v4 : Int32), bl_Fq ho md_X7_readPhrase σ0 σ → (bl_sh[v0]? = some (7, 6) ∧ ho v0 = true) → (b_X7_readPhrase_81 k81) σ v0 v2 v3 v4 = some out → bl_Fq ho md_X7_readPhrase σ0 out.2 := by
  intro σ v0 v2 v3 v4 qσ hv0 hf
  unfold b_X7_readPhrase_81 at hf
  rcases bl_if_at hf with hf | hf
  · exact gw_X7_readPhrase_117  σ v0 v2 qσ hv0 hf
  · rcases bl_if_at hf with hf | hf
    · obtain ⟨r11, σ12, h13, hf⟩ := bl_bd_at hf
      have qσ12 := bl_Fq_call qσ (fr_X7_lowest σ v2 _ qσ.1 qσ.2.1  h13) (by decide)
      obtain ⟨r14, σ15, h16, hf⟩ := bl_bd_at hf
      have qσ15 := bl_Fq_call qσ12 (fr_X7_highest σ12 v2 v4 _ qσ12.1 qσ12.2.1  h16) (by decide)
      obtain ⟨r17, σ18, h19, hf⟩ := bl_bd_at hf
      have qσ18 := bl_Fq_call qσ15 (fr_X7_readNumber σ15 v0 v4 r11 r14 _ qσ15.1 qσ15.2.1 hv0 h19) (by decide)
      obtain ⟨x20, e21⟩ : ∃ z : Int32, z = v4 + 1 := ⟨_, rfl⟩
      have hf := bl_let_at e21 hf
      exact gk81 σ18 v0 v2 v3 x20 qσ18 hv0 hf
    · exact gw_X7_readPhrase_117  σ v0 v2 qσ hv0 hf
theorem gl_X7_readPhrase_81 {ho : Nat → Bool} {σ0 : bl_St} {out : Unit × bl_St} (n : Nat) : ∀ (σ : bl_St) (v0 : Nat) (v2 : Int32) (v3 : Int32) (v4 : Int32), bl_Fq ho md_X7_readPhrase σ0 σ → (bl_sh[v0]? = some (7, 6) ∧ ho v0 = true) → (bl_fx (fun _ _ _ _ _ => none) (b_X7_readPhrase_81 ) n) σ v0 v2 v3 v4 = some out → bl_Fq ho md_X7_readPhrase σ0 out.2 := by
  induction n with
  | zero =>
    intro σ v0 v2 v3 v4 qσ hv0 hf
    cases hf
  | succ n ih => exact gw_X7_readPhrase_81  _ ih
set_option maxRecDepth 100000 in
theorem gw_X7_readPhrase_44 {ho : Nat → Bool} {σ0 : bl_St} {out : Unit × bl_St} : ∀ (σ : bl_St) (v0 : Nat) (v1 : Int32), bl_Fq ho md_X7_readPhrase σ0 σ → (bl_sh[v0]? = some (7, 6) ∧ ho v0 = true) → (b_X7_readPhrase_44 ) σ v0 v1 = some out → bl_Fq ho md_X7_readPhrase σ0 out.2 := by
  intro σ v0 v1 qσ hv0 hf
  unfold b_X7_readPhrase_44 at hf
  obtain ⟨r22, σ23, h24, hf⟩ := bl_bd_at hf
  have qσ23 := bl_Fq_call qσ (fr_X7_kindOf σ v0 v1 (bl_I σ v0 4) _ qσ.1 qσ.2.1 hv0.1 h24) (by decide)
  rcases bl_if_at hf with hf | hf
  · obtain ⟨σ26, e27⟩ : ∃ z : bl_St, z = bl_pI σ23 v0 5 v1 := ⟨_, rfl⟩
    have hf := bl_let_at e27 hf
    have qσ26 : bl_Fq ho md_X7_readPhrase σ0 σ26 := by rw [e27]; exact bl_Fq_I qσ23 (bl_al_in hv0.1 (by decide) hv0.2)
    rw [← Option.some.inj hf]
    exact qσ26
  · obtain ⟨r28, σ29, h30, hf⟩ := bl_bd_at hf
    have qσ29 := bl_Fq_call qσ23 (fr_X7_isFull σ23 v0 r22 _ qσ23.1 qσ23.2.1 hv0.1 h30) (by decide)
    rcases bl_if_at hf with hf | hf
    · obtain ⟨r32, σ33, h34, hf⟩ := bl_bd_at hf
      have qσ33 := bl_Fq_call qσ29 (fr_X7_amountOf σ29 r22 _ qσ29.1 qσ29.2.1  h34) (by decide)
      exact gl_X7_readPhrase_81  bl_fu σ33 v0 r22 r32 0 qσ33 hv0 hf
    · obtain ⟨σ35, e36⟩ : ∃ z : bl_St, z = bl_pI σ29 v0 5 v1 := ⟨_, rfl⟩
      have hf := bl_let_at e36 hf
      have qσ35 : bl_Fq ho md_X7_readPhrase σ0 σ35 := by rw [e36]; exact bl_Fq_I qσ29 (bl_al_in hv0.1 (by decide) hv0.2)
      rw [← Option.some.inj hf]
      exact qσ35
set_option maxRecDepth 100000 in
theorem gw_X7_readPhrase_5 {ho : Nat → Bool} {σ0 : bl_St} {out : Unit × bl_St} (k5 : bl_St → Nat → Int32 → Option (Unit × bl_St)) (gk5 : ∀ (σ : bl_St) (v0 : Nat) (v1 : Int32), bl_Fq ho md_X7_readPhrase σ0 σ → (bl_sh[v0]? = some (7, 6) ∧ ho v0 = true) → k5 σ v0 v1 = some out → bl_Fq ho md_X7_readPhrase σ0 out.2) : ∀ (σ : bl_St) (v0 : Nat) (v1 : Int32), bl_Fq ho md_X7_readPhrase σ0 σ → (bl_sh[v0]? = some (7, 6) ∧ ho v0 = true) → (b_X7_readPhrase_5 k5) σ v0 v1 = some out → bl_Fq ho md_X7_readPhrase σ0 out.2 := by
  intro σ v0 v1 qσ hv0 hf
  unfold b_X7_readPhrase_5 at hf
  rcases bl_if_at hf with hf | hf
  · exact gw_X7_readPhrase_44  σ v0 v1 qσ hv0 hf
  · have h38 := bl_Fq_g qσ hv0 (k := 0) rfl (by decide)
    obtain ⟨-, hf⟩ := bl_gd_at hf
    obtain ⟨r40, σ41, h42, hf⟩ := bl_bd_at hf
    have qσ41 := bl_Fq_call qσ (fr_X7_isLetter σ (bl_I σ (bl_R σ v0 0) (Int32.toNatClampNeg (bl_I σ v0 4))) _ qσ.1 qσ.2.1  h42) (by decide)
    rcases bl_if_at hf with hf | hf
    · exact gw_X7_readPhrase_44  σ41 v0 v1 qσ41 hv0 hf
    · obtain ⟨σ44, e45⟩ : ∃ z : bl_St, z = bl_pI σ41 v0 4 ((bl_I σ41 v0 4) + 1) := ⟨_, rfl⟩
      have hf := bl_let_at e45 hf
      have qσ44 : bl_Fq ho md_X7_readPhrase σ0 σ44 := by rw [e45]; exact bl_Fq_I qσ41 (bl_al_in hv0.1 (by decide) hv0.2)
      exact gk5 σ44 v0 v1 qσ44 hv0 hf
theorem gl_X7_readPhrase_5 {ho : Nat → Bool} {σ0 : bl_St} {out : Unit × bl_St} (n : Nat) : ∀ (σ : bl_St) (v0 : Nat) (v1 : Int32), bl_Fq ho md_X7_readPhrase σ0 σ → (bl_sh[v0]? = some (7, 6) ∧ ho v0 = true) → (bl_fx (fun _ _ _ => none) (b_X7_readPhrase_5 ) n) σ v0 v1 = some out → bl_Fq ho md_X7_readPhrase σ0 out.2 := by
  induction n with
  | zero =>
    intro σ v0 v1 qσ hv0 hf
    cases hf
  | succ n ih => exact gw_X7_readPhrase_5  _ ih
set_option maxRecDepth 100000 in
theorem fr_X7_readPhrase {ho : Nat → Bool} (σ : bl_St) (a0 : Nat) (o : Unit × bl_St) (hw : bl_WT σ) (hh : bl_WH ho σ) (ha0 : bl_sh[a0]? = some (7, 6) ∧ ho a0 = true) (hf : f_X7_readPhrase σ a0 = some o) : bl_Fq ho md_X7_readPhrase σ o.2 := by
  obtain ⟨σ0, hz⟩ : ∃ z, z = σ := ⟨_, rfl⟩
  suffices hgo : bl_Fq ho md_X7_readPhrase σ0 o.2 by rw [hz] at hgo; exact hgo
  have qσ : bl_Fq ho md_X7_readPhrase σ0 σ := by rw [hz]; exact ⟨hw, hh, fun _ _ => ⟨rfl, rfl, rfl⟩⟩
  unfold f_X7_readPhrase at hf
  obtain ⟨x46, e47⟩ : ∃ z, z = (bl_I σ a0 4) := ⟨_, rfl⟩
  have hf := bl_let_at e47 hf
  exact gl_X7_readPhrase_5  bl_fu σ a0 x46 qσ ha0 hf
def md_X8_clear : List (Nat × Nat) := [(8, 5), (20, 3)]
set_option maxRecDepth 100000 in
theorem fr_X8_clear {ho : Nat → Bool} (σ : bl_St) (a0 : Nat) (o : Unit × bl_St) (hw : bl_WT σ) (hh : bl_WH ho σ) (ha0 : bl_sh[a0]? = some (8, 5) ∧ ho a0 = true) (hf : f_X8_clear σ a0 = some o) : bl_Fq ho md_X8_clear σ o.2 := by
  obtain ⟨σ0, hz⟩ : ∃ z, z = σ := ⟨_, rfl⟩
  suffices hgo : bl_Fq ho md_X8_clear σ0 o.2 by rw [hz] at hgo; exact hgo
  have qσ : bl_Fq ho md_X8_clear σ0 σ := by rw [hz]; exact ⟨hw, hh, fun _ _ => ⟨rfl, rfl, rfl⟩⟩
  unfold f_X8_clear at hf
  obtain ⟨σ1, e2⟩ : ∃ z : bl_St, z = bl_pI σ a0 0 0 := ⟨_, rfl⟩
  have hf := bl_let_at e2 hf
  have qσ1 : bl_Fq ho md_X8_clear σ0 σ1 := by rw [e2]; exact bl_Fq_I qσ (bl_al_in ha0.1 (by decide) ha0.2)
  obtain ⟨σ3, e4⟩ : ∃ z : bl_St, z = bl_pI σ1 a0 1 0 := ⟨_, rfl⟩
  have hf := bl_let_at e4 hf
  have qσ3 : bl_Fq ho md_X8_clear σ0 σ3 := by rw [e4]; exact bl_Fq_I qσ1 (bl_al_in ha0.1 (by decide) ha0.2)
  have h7 := bl_Fq_g qσ3 ha0 (k := 4) rfl (by decide)
  obtain ⟨σ8, e9⟩ : ∃ z : bl_St, z = bl_cS σ3 (fun j => bl_RF.getD j 0) 0 (bl_R σ3 a0 4) 0 3 := ⟨_, rfl⟩
  have hf := bl_let_at e9 hf
  have qσ8 : bl_Fq ho md_X8_clear σ0 σ8 := by rw [e9]; exact bl_Fq_S qσ3 (bl_al_in h7.1 (by decide) h7.2)
  rw [← Option.some.inj hf]
  exact qσ8
def md_X7_parse : List (Nat × Nat) := [(7, 6), (8, 5), (20, 3), (20, 5), (20, 10), (20, 40)]
set_option maxRecDepth 100000 in
theorem gw_X7_parse_63 {ho : Nat → Bool} {σ0 : bl_St} {out : Int32 × bl_St} : ∀ (σ : bl_St) (v0 : Nat), bl_Fq ho md_X7_parse σ0 σ → (bl_sh[v0]? = some (7, 6) ∧ ho v0 = true) → (b_X7_parse_63 ) σ v0 = some out → bl_Fq ho md_X7_parse σ0 out.2 := by
  intro σ v0 qσ hv0 hf
  unfold b_X7_parse_63 at hf
  rcases bl_if_at hf with hf | hf
  · obtain ⟨r2, σ3, h4, hf⟩ := bl_bd_at hf
    have qσ3 := bl_Fq_call qσ (fr_X7_isWhole σ v0 _ qσ.1 qσ.2.1 hv0.1 h4) (by decide)
    rcases bl_if_at hf with hf | hf
    · obtain ⟨σ6, e7⟩ : ∃ z : bl_St, z = bl_pI σ3 v0 5 (bl_I σ3 v0 3) := ⟨_, rfl⟩
      have hf := bl_let_at e7 hf
      have qσ6 : bl_Fq ho md_X7_parse σ0 σ6 := by rw [e7]; exact bl_Fq_I qσ3 (bl_al_in hv0.1 (by decide) hv0.2)
      rw [← Option.some.inj hf]
      exact qσ6
    · rw [← Option.some.inj hf]
      exact qσ3
  · rw [← Option.some.inj hf]
    exact qσ
set_option maxRecDepth 100000 in
theorem gw_X7_parse_23 {ho : Nat → Bool} {σ0 : bl_St} {out : Int32 × bl_St} (k23 : bl_St → Nat → Int32 → Option (Int32 × bl_St)) (gk23 : ∀ (σ : bl_St) (v0 : Nat) (v1 : Int32), bl_Fq ho md_X7_parse σ0 σ → (bl_sh[v0]? = some (7, 6) ∧ ho v0 = true) → k23 σ v0 v1 = some out → bl_Fq ho md_X7_parse σ0 out.2) : ∀ (σ : bl_St) (v0 : Nat) (v1 : Int32), bl_Fq ho md_X7_parse σ0 σ → (bl_sh[v0]? = some (7, 6) ∧ ho v0 = true) → (b_X7_parse_23 k23) σ v0 v1 = some out → bl_Fq ho md_X7_parse σ0 out.2 := by
  intro σ v0 v1 qσ hv0 hf
  unfold b_X7_parse_23 at hf
  rcases bl_if_at hf with hf | hf
  · exact gw_X7_parse_63  σ v0 qσ hv0 hf
  · rcases bl_if_at hf with hf | hf
    · exact gw_X7_parse_63  σ v0 qσ hv0 hf
    · rcases bl_if_at hf with hf | hf
      · obtain ⟨r11, σ12, h13, hf⟩ := bl_bd_at hf
        have qσ12 := bl_Fq_call qσ (fr_X7_readPhrase σ v0 _ qσ.1 qσ.2.1 hv0 h13) (by decide)
        obtain ⟨r14, σ15, h16, hf⟩ := bl_bd_at hf
        have qσ15 := bl_Fq_call qσ12 (fr_X7_skipBlanks σ12 v0 _ qσ12.1 qσ12.2.1 hv0 h16) (by decide)
        obtain ⟨x17, e18⟩ : ∃ z : Int32, z = v1 + 1 := ⟨_, rfl⟩
        have hf := bl_let_at e18 hf
        exact gk23 σ15 v0 x17 qσ15 hv0 hf
      · exact gw_X7_parse_63  σ v0 qσ hv0 hf
theorem gl_X7_parse_23 {ho : Nat → Bool} {σ0 : bl_St} {out : Int32 × bl_St} (n : Nat) : ∀ (σ : bl_St) (v0 : Nat) (v1 : Int32), bl_Fq ho md_X7_parse σ0 σ → (bl_sh[v0]? = some (7, 6) ∧ ho v0 = true) → (bl_fx (fun _ _ _ => none) (b_X7_parse_23 ) n) σ v0 v1 = some out → bl_Fq ho md_X7_parse σ0 out.2 := by
  induction n with
  | zero =>
    intro σ v0 v1 qσ hv0 hf
    cases hf
  | succ n ih => exact gw_X7_parse_23  _ ih
set_option maxRecDepth 100000 in
theorem fr_X7_parse {ho : Nat → Bool} (σ : bl_St) (a0 : Nat) (o : Int32 × bl_St) (hw : bl_WT σ) (hh : bl_WH ho σ) (ha0 : bl_sh[a0]? = some (7, 6) ∧ ho a0 = true) (hf : f_X7_parse σ a0 = some o) : bl_Fq ho md_X7_parse σ o.2 := by
  obtain ⟨σ0, hz⟩ : ∃ z, z = σ := ⟨_, rfl⟩
  suffices hgo : bl_Fq ho md_X7_parse σ0 o.2 by rw [hz] at hgo; exact hgo
  have qσ : bl_Fq ho md_X7_parse σ0 σ := by rw [hz]; exact ⟨hw, hh, fun _ _ => ⟨rfl, rfl, rfl⟩⟩
  unfold f_X7_parse at hf
  have h19 := bl_Fq_g qσ ha0 (k := 2) rfl (by decide)
  obtain ⟨r20, σ21, h22, hf⟩ := bl_bd_at hf
  have qσ21 := bl_Fq_call qσ (fr_X8_clear σ (bl_R σ a0 2) _ qσ.1 qσ.2.1 h19 h22) (by decide)
  obtain ⟨σ23, e24⟩ : ∃ z : bl_St, z = bl_pI σ21 a0 4 0 := ⟨_, rfl⟩
  have hf := bl_let_at e24 hf
  have qσ23 : bl_Fq ho md_X7_parse σ0 σ23 := by rw [e24]; exact bl_Fq_I qσ21 (bl_al_in ha0.1 (by decide) ha0.2)
  obtain ⟨σ25, e26⟩ : ∃ z : bl_St, z = bl_pI σ23 a0 5 (-1) := ⟨_, rfl⟩
  have hf := bl_let_at e26 hf
  have qσ25 : bl_Fq ho md_X7_parse σ0 σ25 := by rw [e26]; exact bl_Fq_I qσ23 (bl_al_in ha0.1 (by decide) ha0.2)
  obtain ⟨r27, σ28, h29, hf⟩ := bl_bd_at hf
  have qσ28 := bl_Fq_call qσ25 (fr_X7_skipBlanks σ25 a0 _ qσ25.1 qσ25.2.1 ha0 h29) (by decide)
  exact gl_X7_parse_23  bl_fu σ28 a0 0 qσ28 ha0 hf
def md_X8_hasSort : List (Nat × Nat) := []
set_option maxRecDepth 100000 in
theorem fr_X8_hasSort {ho : Nat → Bool} (σ : bl_St) (a0 : Nat) (a1 : Int32) (o : Int32 × bl_St) (hw : bl_WT σ) (hh : bl_WH ho σ) (ha0 : bl_sh[a0]? = some (8, 5)) (hf : f_X8_hasSort σ a0 a1 = some o) : bl_Fq ho md_X8_hasSort σ o.2 := by
  obtain ⟨σ0, hz⟩ : ∃ z, z = σ := ⟨_, rfl⟩
  suffices hgo : bl_Fq ho md_X8_hasSort σ0 o.2 by rw [hz] at hgo; exact hgo
  have qσ : bl_Fq ho md_X8_hasSort σ0 σ := by rw [hz]; exact ⟨hw, hh, fun _ _ => ⟨rfl, rfl, rfl⟩⟩
  have ha0 := And.intro ha0 trivial
  unfold f_X8_hasSort at hf
  rcases bl_if_at hf with hf | hf
  · rw [← Option.some.inj hf]
    exact qσ
  · rcases bl_if_at hf with hf | hf
    · rw [← Option.some.inj hf]
      exact qσ
    · rw [← Option.some.inj hf]
      exact qσ
def md_X8_setPart : List (Nat × Nat) := [(20, 40)]
set_option maxRecDepth 100000 in
theorem fr_X8_setPart {ho : Nat → Bool} (σ : bl_St) (a0 : Nat) (a1 : Int32) (a2 : Int32) (a3 : Int32) (o : Unit × bl_St) (hw : bl_WT σ) (hh : bl_WH ho σ) (ha0 : bl_sh[a0]? = some (8, 5) ∧ ho a0 = true) (hf : f_X8_setPart σ a0 a1 a2 a3 = some o) : bl_Fq ho md_X8_setPart σ o.2 := by
  obtain ⟨σ0, hz⟩ : ∃ z, z = σ := ⟨_, rfl⟩
  suffices hgo : bl_Fq ho md_X8_setPart σ0 o.2 by rw [hz] at hgo; exact hgo
  have qσ : bl_Fq ho md_X8_setPart σ0 σ := by rw [hz]; exact ⟨hw, hh, fun _ _ => ⟨rfl, rfl, rfl⟩⟩
  unfold f_X8_setPart at hf
  have h1 := bl_Fq_g qσ ha0 (k := 2) rfl (by decide)
  obtain ⟨-, hf⟩ := bl_gd_at hf
  obtain ⟨σ3, e4⟩ : ∃ z : bl_St, z = bl_pI σ (bl_R σ a0 2) (Int32.toNatClampNeg ((a1 * 5) + a2)) a3 := ⟨_, rfl⟩
  have hf := bl_let_at e4 hf
  have qσ3 : bl_Fq ho md_X8_setPart σ0 σ3 := by rw [e4]; exact bl_Fq_I qσ (bl_al_in h1.1 (by decide) h1.2)
  rw [← Option.some.inj hf]
  exact qσ3
def md_X8_removeSort : List (Nat × Nat) := [(8, 5), (20, 10)]
set_option maxRecDepth 100000 in
theorem gw_X8_removeSort_4 {ho : Nat → Bool} {σ0 : bl_St} {out : Unit × bl_St} (k4 : bl_St → Nat → Int32 → Option (Unit × bl_St)) (gk4 : ∀ (σ : bl_St) (v0 : Nat) (v2 : Int32), bl_Fq ho md_X8_removeSort σ0 σ → (bl_sh[v0]? = some (8, 5) ∧ ho v0 = true) → k4 σ v0 v2 = some out → bl_Fq ho md_X8_removeSort σ0 out.2) : ∀ (σ : bl_St) (v0 : Nat) (v2 : Int32), bl_Fq ho md_X8_removeSort σ0 σ → (bl_sh[v0]? = some (8, 5) ∧ ho v0 = true) → (b_X8_removeSort_4 k4) σ v0 v2 = some out → bl_Fq ho md_X8_removeSort σ0 out.2 := by
  intro σ v0 v2 qσ hv0 hf
  unfold b_X8_removeSort_4 at hf
  rcases bl_if_at hf with hf | hf
  · obtain ⟨σ2, e3⟩ : ∃ z : bl_St, z = bl_pI σ v0 1 ((bl_I σ v0 1) - 1) := ⟨_, rfl⟩
    have hf := bl_let_at e3 hf
    have qσ2 : bl_Fq ho md_X8_removeSort σ0 σ2 := by rw [e3]; exact bl_Fq_I qσ (bl_al_in hv0.1 (by decide) hv0.2)
    rw [← Option.some.inj hf]
    exact qσ2
  · obtain ⟨r4, σ5, h6, hf⟩ := bl_bd_at hf
    have qσ5 := bl_Fq_call qσ (fr_X8_sortPart σ v0 v2 0 _ qσ.1 qσ.2.1 hv0.1 h6) (by decide)
    obtain ⟨r7, σ8, h9, hf⟩ := bl_bd_at hf
    have qσ8 := bl_Fq_call qσ5 (fr_X8_setSortPart σ5 v0 (v2 - 1) 0 r4 _ qσ5.1 qσ5.2.1 hv0 h9) (by decide)
    obtain ⟨r10, σ11, h12, hf⟩ := bl_bd_at hf
    have qσ11 := bl_Fq_call qσ8 (fr_X8_sortPart σ8 v0 v2 1 _ qσ8.1 qσ8.2.1 hv0.1 h12) (by decide)
    obtain ⟨r13, σ14, h15, hf⟩ := bl_bd_at hf
    have qσ14 := bl_Fq_call qσ11 (fr_X8_setSortPart σ11 v0 (v2 - 1) 1 r10 _ qσ11.1 qσ11.2.1 hv0 h15) (by decide)
    obtain ⟨x16, e17⟩ : ∃ z : Int32, z = v2 + 1 := ⟨_, rfl⟩
    have hf := bl_let_at e17 hf
    exact gk4 σ14 v0 x16 qσ14 hv0 hf
theorem gl_X8_removeSort_4 {ho : Nat → Bool} {σ0 : bl_St} {out : Unit × bl_St} (n : Nat) : ∀ (σ : bl_St) (v0 : Nat) (v2 : Int32), bl_Fq ho md_X8_removeSort σ0 σ → (bl_sh[v0]? = some (8, 5) ∧ ho v0 = true) → (bl_fx (fun _ _ _ => none) (b_X8_removeSort_4 ) n) σ v0 v2 = some out → bl_Fq ho md_X8_removeSort σ0 out.2 := by
  induction n with
  | zero =>
    intro σ v0 v2 qσ hv0 hf
    cases hf
  | succ n ih => exact gw_X8_removeSort_4  _ ih
set_option maxRecDepth 100000 in
theorem fr_X8_removeSort {ho : Nat → Bool} (σ : bl_St) (a0 : Nat) (a1 : Int32) (o : Unit × bl_St) (hw : bl_WT σ) (hh : bl_WH ho σ) (ha0 : bl_sh[a0]? = some (8, 5) ∧ ho a0 = true) (hf : f_X8_removeSort σ a0 a1 = some o) : bl_Fq ho md_X8_removeSort σ o.2 := by
  obtain ⟨σ0, hz⟩ : ∃ z, z = σ := ⟨_, rfl⟩
  suffices hgo : bl_Fq ho md_X8_removeSort σ0 o.2 by rw [hz] at hgo; exact hgo
  have qσ : bl_Fq ho md_X8_removeSort σ0 σ := by rw [hz]; exact ⟨hw, hh, fun _ _ => ⟨rfl, rfl, rfl⟩⟩
  unfold f_X8_removeSort at hf
  obtain ⟨x18, e19⟩ : ∃ z, z = (a1 + 1) := ⟨_, rfl⟩
  have hf := bl_let_at e19 hf
  exact gl_X8_removeSort_4  bl_fu σ a0 x18 qσ ha0 hf
def md_X9_feed : List (Nat × Nat) := [(7, 6), (20, 400)]
set_option maxRecDepth 100000 in
theorem fr_X9_feed {ho : Nat → Bool} (σ : bl_St) (a0 : Nat) (a1 : Int32) (a2 : Int32) (a3 : Int32) (a4 : Int32) (a5 : Int32) (o : Int32 × bl_St) (hw : bl_WT σ) (hh : bl_WH ho σ) (ha0 : bl_sh[a0]? = some (9, 13) ∧ ho a0 = true) (hf : f_X9_feed σ a0 a1 a2 a3 a4 a5 = some o) : bl_Fq ho md_X9_feed σ o.2 := by
  obtain ⟨σ0, hz⟩ : ∃ z, z = σ := ⟨_, rfl⟩
  suffices hgo : bl_Fq ho md_X9_feed σ0 o.2 by rw [hz] at hgo; exact hgo
  have qσ : bl_Fq ho md_X9_feed σ0 σ := by rw [hz]; exact ⟨hw, hh, fun _ _ => ⟨rfl, rfl, rfl⟩⟩
  unfold f_X9_feed at hf
  have h1 := bl_Fq_g qσ ha0 (k := 0) rfl (by decide)
  rcases bl_if_at hf with hf | hf
  · have h3 := bl_Fq_g qσ ha0 (k := 0) rfl (by decide)
    obtain ⟨r4, σ5, h6, hf⟩ := bl_bd_at hf
    have qσ5 := bl_Fq_call qσ (fr_X7_append σ (bl_R σ a0 0) a1 _ qσ.1 qσ.2.1 h3 h6) (by decide)
    have h7 := bl_Fq_g qσ5 ha0 (k := 0) rfl (by decide)
    obtain ⟨r8, σ9, h10, hf⟩ := bl_bd_at hf
    have qσ9 := bl_Fq_call qσ5 (fr_X7_append σ5 (bl_R σ5 a0 0) a2 _ qσ5.1 qσ5.2.1 h7 h10) (by decide)
    have h11 := bl_Fq_g qσ9 ha0 (k := 0) rfl (by decide)
    obtain ⟨r12, σ13, h14, hf⟩ := bl_bd_at hf
    have qσ13 := bl_Fq_call qσ9 (fr_X7_append σ9 (bl_R σ9 a0 0) a3 _ qσ9.1 qσ9.2.1 h11 h14) (by decide)
    have h15 := bl_Fq_g qσ13 ha0 (k := 0) rfl (by decide)
    obtain ⟨r16, σ17, h18, hf⟩ := bl_bd_at hf
    have qσ17 := bl_Fq_call qσ13 (fr_X7_append σ13 (bl_R σ13 a0 0) a4 _ qσ13.1 qσ13.2.1 h15 h18) (by decide)
    have h19 := bl_Fq_g qσ17 ha0 (k := 0) rfl (by decide)
    obtain ⟨r20, σ21, h22, hf⟩ := bl_bd_at hf
    have qσ21 := bl_Fq_call qσ17 (fr_X7_append σ17 (bl_R σ17 a0 0) a5 _ qσ17.1 qσ17.2.1 h19 h22) (by decide)
    have h23 := bl_Fq_g qσ21 ha0 (k := 0) rfl (by decide)
    rw [← Option.some.inj hf]
    exact qσ21
  · rw [← Option.some.inj hf]
    exact qσ
def md_X9_back : List (Nat × Nat) := [(7, 6)]
set_option maxRecDepth 100000 in
theorem fr_X9_back {ho : Nat → Bool} (σ : bl_St) (a0 : Nat) (a1 : Int32) (o : Int32 × bl_St) (hw : bl_WT σ) (hh : bl_WH ho σ) (ha0 : bl_sh[a0]? = some (9, 13) ∧ ho a0 = true) (hf : f_X9_back σ a0 a1 = some o) : bl_Fq ho md_X9_back σ o.2 := by
  obtain ⟨σ0, hz⟩ : ∃ z, z = σ := ⟨_, rfl⟩
  suffices hgo : bl_Fq ho md_X9_back σ0 o.2 by rw [hz] at hgo; exact hgo
  have qσ : bl_Fq ho md_X9_back σ0 σ := by rw [hz]; exact ⟨hw, hh, fun _ _ => ⟨rfl, rfl, rfl⟩⟩
  unfold f_X9_back at hf
  rcases bl_if_at hf with hf | hf
  · rw [← Option.some.inj hf]
    exact qσ
  · have h2 := bl_Fq_g qσ ha0 (k := 0) rfl (by decide)
    rcases bl_if_at hf with hf | hf
    · have h4 := bl_Fq_g qσ ha0 (k := 0) rfl (by decide)
      obtain ⟨σ5, e6⟩ : ∃ z : bl_St, z = bl_pI σ (bl_R σ a0 0) 3 ((bl_I σ (bl_R σ a0 0) 3) - a1) := ⟨_, rfl⟩
      have hf := bl_let_at e6 hf
      have qσ5 : bl_Fq ho md_X9_back σ0 σ5 := by rw [e6]; exact bl_Fq_I qσ (bl_al_in h4.1 (by decide) h4.2)
      have h7 := bl_Fq_g qσ5 ha0 (k := 0) rfl (by decide)
      rw [← Option.some.inj hf]
      exact qσ5
    · rw [← Option.some.inj hf]
      exact qσ
def md_X9_text : List (Nat × Nat) := [(2, 15), (4, 12), (6, 4), (7, 6), (8, 5), (20, 3), (20, 5), (20, 10), (20, 40)]
set_option maxRecDepth 100000 in
theorem fr_X9_text {ho : Nat → Bool} (σ : bl_St) (a0 : Nat) (o : Int32 × bl_St) (hw : bl_WT σ) (hh : bl_WH ho σ) (ha0 : bl_sh[a0]? = some (9, 13) ∧ ho a0 = true) (hf : f_X9_text σ a0 = some o) : bl_Fq ho md_X9_text σ o.2 := by
  obtain ⟨σ0, hz⟩ : ∃ z, z = σ := ⟨_, rfl⟩
  suffices hgo : bl_Fq ho md_X9_text σ0 o.2 by rw [hz] at hgo; exact hgo
  have qσ : bl_Fq ho md_X9_text σ0 σ := by rw [hz]; exact ⟨hw, hh, fun _ _ => ⟨rfl, rfl, rfl⟩⟩
  unfold f_X9_text at hf
  have h1 := bl_Fq_g qσ ha0 (k := 0) rfl (by decide)
  obtain ⟨r2, σ3, h4, hf⟩ := bl_bd_at hf
  have qσ3 := bl_Fq_call qσ (fr_X7_parse σ (bl_R σ a0 0) _ qσ.1 qσ.2.1 h1 h4) (by decide)
  have h5 := bl_Fq_g qσ3 ha0 (k := 0) rfl (by decide)
  obtain ⟨σ6, e7⟩ : ∃ z : bl_St, z = bl_pI σ3 (bl_R σ3 a0 0) 3 0 := ⟨_, rfl⟩
  have hf := bl_let_at e7 hf
  have qσ6 : bl_Fq ho md_X9_text σ0 σ6 := by rw [e7]; exact bl_Fq_I qσ3 (bl_al_in h5.1 (by decide) h5.2)
  rcases bl_if_at hf with hf | hf
  · have h9 := bl_Fq_g qσ6 ha0 (k := 2) rfl (by decide)
    have h10 := bl_Fq_g qσ6 ha0 (k := 0) rfl (by decide)
    have h11 := bl_Fq_g qσ6 h10 (k := 2) rfl (by decide)
    obtain ⟨r12, σ13, h14, hf⟩ := bl_bd_at hf
    have qσ13 := bl_Fq_call qσ6 (fr_X8_copy σ6 (bl_R σ6 a0 2) (bl_R σ6 (bl_R σ6 a0 0) 2) _ qσ6.1 qσ6.2.1 h9 h11.1 h14) (by decide)
    have h15 := bl_Fq_g qσ13 ha0 (k := 4) rfl (by decide)
    obtain ⟨r16, σ17, h18, hf⟩ := bl_bd_at hf
    have qσ17 := bl_Fq_call qσ13 (fr_X2_clear σ13 (bl_R σ13 a0 4) _ qσ13.1 qσ13.2.1 h15 h18) (by decide)
    have h19 := bl_Fq_g qσ17 ha0 (k := 6) rfl (by decide)
    obtain ⟨r20, σ21, h22, hf⟩ := bl_bd_at hf
    have qσ21 := bl_Fq_call qσ17 (fr_X6_forget σ17 (bl_R σ17 a0 6) _ qσ17.1 qσ17.2.1 h19 h22) (by decide)
    have h23 := bl_Fq_g qσ21 ha0 (k := 7) rfl (by decide)
    have h24 := bl_Fq_g qσ21 ha0 (k := 2) rfl (by decide)
    obtain ⟨r25, σ26, h27, hf⟩ := bl_bd_at hf
    have qσ26 := bl_Fq_call qσ21 (fr_X4_look σ21 (bl_R σ21 a0 7) (bl_R σ21 a0 2) 1 _ qσ21.1 qσ21.2.1 h23 h24.1 h27) (by decide)
    have h28 := bl_Fq_g qσ26 ha0 (k := 2) rfl (by decide)
    rw [← Option.some.inj hf]
    exact qσ26
  · rw [← Option.some.inj hf]
    exact qσ6
def md_X9_highestPart : List (Nat × Nat) := []
set_option maxRecDepth 100000 in
theorem fr_X9_highestPart {ho : Nat → Bool} (σ : bl_St) (a0 : Nat) (a1 : Int32) (o : Int32 × bl_St) (hw : bl_WT σ) (hh : bl_WH ho σ) (ha0 : bl_sh[a0]? = some (9, 13)) (hf : f_X9_highestPart σ a0 a1 = some o) : bl_Fq ho md_X9_highestPart σ o.2 := by
  obtain ⟨σ0, hz⟩ : ∃ z, z = σ := ⟨_, rfl⟩
  suffices hgo : bl_Fq ho md_X9_highestPart σ0 o.2 by rw [hz] at hgo; exact hgo
  have qσ : bl_Fq ho md_X9_highestPart σ0 σ := by rw [hz]; exact ⟨hw, hh, fun _ _ => ⟨rfl, rfl, rfl⟩⟩
  have ha0 := And.intro ha0 trivial
  unfold f_X9_highestPart at hf
  rcases bl_if_at hf with hf | hf
  · obtain ⟨-, hf⟩ := bl_gd_at hf
    rw [← Option.some.inj hf]
    exact qσ
  · rcases bl_if_at hf with hf | hf
    · obtain ⟨-, hf⟩ := bl_gd_at hf
      rw [← Option.some.inj hf]
      exact qσ
    · have h9 := bl_Fq_gn qσ ha0 (k := 2) rfl
      rw [← Option.some.inj hf]
      exact qσ
def md_X9_keepForUndo : List (Nat × Nat) := [(2, 15), (4, 12), (6, 4), (8, 5), (20, 3), (20, 10), (20, 40), (20, 48)]
set_option maxRecDepth 100000 in
theorem fr_X9_keepForUndo {ho : Nat → Bool} (σ : bl_St) (a0 : Nat) (o : Unit × bl_St) (hw : bl_WT σ) (hh : bl_WH ho σ) (ha0 : bl_sh[a0]? = some (9, 13) ∧ ho a0 = true) (hf : f_X9_keepForUndo σ a0 = some o) : bl_Fq ho md_X9_keepForUndo σ o.2 := by
  obtain ⟨σ0, hz⟩ : ∃ z, z = σ := ⟨_, rfl⟩
  suffices hgo : bl_Fq ho md_X9_keepForUndo σ0 o.2 by rw [hz] at hgo; exact hgo
  have qσ : bl_Fq ho md_X9_keepForUndo σ0 σ := by rw [hz]; exact ⟨hw, hh, fun _ _ => ⟨rfl, rfl, rfl⟩⟩
  unfold f_X9_keepForUndo at hf
  have h1 := bl_Fq_g qσ ha0 (k := 6) rfl (by decide)
  have h2 := bl_Fq_g qσ ha0 (k := 2) rfl (by decide)
  have h3 := bl_Fq_g qσ ha0 (k := 4) rfl (by decide)
  obtain ⟨r4, σ5, h6, hf⟩ := bl_bd_at hf
  have qσ5 := bl_Fq_call qσ (fr_X6_keep σ (bl_R σ a0 6) (bl_R σ a0 2) (bl_R σ a0 4) _ qσ.1 qσ.2.1 h1 h2.1 h3.1 h6) (by decide)
  have h7 := bl_Fq_g qσ5 ha0 (k := 7) rfl (by decide)
  have h8 := bl_Fq_g qσ5 ha0 (k := 2) rfl (by decide)
  obtain ⟨r9, σ10, h11, hf⟩ := bl_bd_at hf
  have qσ10 := bl_Fq_call qσ5 (fr_X4_look σ5 (bl_R σ5 a0 7) (bl_R σ5 a0 2) 1 _ qσ5.1 qσ5.2.1 h7 h8.1 h11) (by decide)
  rw [← Option.some.inj hf]
  exact qσ10
def md_X9_set : List (Nat × Nat) := [(2, 15), (4, 12), (6, 4), (8, 5), (20, 3), (20, 10), (20, 40), (20, 48)]
set_option maxRecDepth 100000 in
theorem fr_X9_set {ho : Nat → Bool} (σ : bl_St) (a0 : Nat) (a1 : Int32) (a2 : Int32) (a3 : Int32) (o : Int32 × bl_St) (hw : bl_WT σ) (hh : bl_WH ho σ) (ha0 : bl_sh[a0]? = some (9, 13) ∧ ho a0 = true) (hf : f_X9_set σ a0 a1 a2 a3 = some o) : bl_Fq ho md_X9_set σ o.2 := by
  obtain ⟨σ0, hz⟩ : ∃ z, z = σ := ⟨_, rfl⟩
  suffices hgo : bl_Fq ho md_X9_set σ0 o.2 by rw [hz] at hgo; exact hgo
  have qσ : bl_Fq ho md_X9_set σ0 σ := by rw [hz]; exact ⟨hw, hh, fun _ _ => ⟨rfl, rfl, rfl⟩⟩
  unfold f_X9_set at hf
  have h1 := bl_Fq_g qσ ha0 (k := 2) rfl (by decide)
  obtain ⟨r2, σ3, h4, hf⟩ := bl_bd_at hf
  have qσ3 := bl_Fq_call qσ (fr_X8_hasClass σ (bl_R σ a0 2) a1 _ qσ.1 qσ.2.1 h1.1 h4) (by decide)
  rcases bl_if_at hf with hf | hf
  · rw [← Option.some.inj hf]
    exact qσ3
  · rcases bl_if_at hf with hf | hf
    · rw [← Option.some.inj hf]
      exact qσ3
    · rcases bl_if_at hf with hf | hf
      · rw [← Option.some.inj hf]
        exact qσ3
      · rcases bl_if_at hf with hf | hf
        · rw [← Option.some.inj hf]
          exact qσ3
        · obtain ⟨r9, σ10, h11, hf⟩ := bl_bd_at hf
          have qσ10 := bl_Fq_call qσ3 (fr_X9_highestPart σ3 a0 a2 _ qσ3.1 qσ3.2.1 ha0.1 h11) (by decide)
          rcases bl_if_at hf with hf | hf
          · have h13 := bl_Fq_g qσ10 ha0 (k := 2) rfl (by decide)
            obtain ⟨r14, σ15, h16, hf⟩ := bl_bd_at hf
            have qσ15 := bl_Fq_call qσ10 (fr_X8_part σ10 (bl_R σ10 a0 2) a1 a2 _ qσ10.1 qσ10.2.1 h13.1 h16) (by decide)
            rcases bl_if_at hf with hf | hf
            · rw [← Option.some.inj hf]
              exact qσ15
            · obtain ⟨r18, σ19, h20, hf⟩ := bl_bd_at hf
              have qσ19 := bl_Fq_call qσ15 (fr_X9_keepForUndo σ15 a0 _ qσ15.1 qσ15.2.1 ha0 h20) (by decide)
              have h21 := bl_Fq_g qσ19 ha0 (k := 2) rfl (by decide)
              obtain ⟨r22, σ23, h24, hf⟩ := bl_bd_at hf
              have qσ23 := bl_Fq_call qσ19 (fr_X8_setPart σ19 (bl_R σ19 a0 2) a1 a2 a3 _ qσ19.1 qσ19.2.1 h21 h24) (by decide)
              rw [← Option.some.inj hf]
              exact qσ23
          · rw [← Option.some.inj hf]
            exact qσ10
def md_X9_sort : List (Nat × Nat) := [(2, 15), (4, 12), (6, 4), (8, 5), (20, 3), (20, 10), (20, 40), (20, 48)]
set_option maxRecDepth 100000 in
theorem fr_X9_sort {ho : Nat → Bool} (σ : bl_St) (a0 : Nat) (a1 : Int32) (a2 : Int32) (a3 : Int32) (o : Int32 × bl_St) (hw : bl_WT σ) (hh : bl_WH ho σ) (ha0 : bl_sh[a0]? = some (9, 13) ∧ ho a0 = true) (hf : f_X9_sort σ a0 a1 a2 a3 = some o) : bl_Fq ho md_X9_sort σ o.2 := by
  obtain ⟨σ0, hz⟩ : ∃ z, z = σ := ⟨_, rfl⟩
  suffices hgo : bl_Fq ho md_X9_sort σ0 o.2 by rw [hz] at hgo; exact hgo
  have qσ : bl_Fq ho md_X9_sort σ0 σ := by rw [hz]; exact ⟨hw, hh, fun _ _ => ⟨rfl, rfl, rfl⟩⟩
  unfold f_X9_sort at hf
  have h1 := bl_Fq_g qσ ha0 (k := 2) rfl (by decide)
  obtain ⟨r2, σ3, h4, hf⟩ := bl_bd_at hf
  have qσ3 := bl_Fq_call qσ (fr_X8_hasSort σ (bl_R σ a0 2) a1 _ qσ.1 qσ.2.1 h1.1 h4) (by decide)
  rcases bl_if_at hf with hf | hf
  · rw [← Option.some.inj hf]
    exact qσ3
  · rcases bl_if_at hf with hf | hf
    · rw [← Option.some.inj hf]
      exact qσ3
    · rcases bl_if_at hf with hf | hf
      · rw [← Option.some.inj hf]
        exact qσ3
      · rcases bl_if_at hf with hf | hf
        · rw [← Option.some.inj hf]
          exact qσ3
        · obtain ⟨-, hf⟩ := bl_gd_at hf
          rcases bl_if_at hf with hf | hf
          · have h13 := bl_Fq_g qσ3 ha0 (k := 2) rfl (by decide)
            obtain ⟨r14, σ15, h16, hf⟩ := bl_bd_at hf
            have qσ15 := bl_Fq_call qσ3 (fr_X8_sortPart σ3 (bl_R σ3 a0 2) a1 a2 _ qσ3.1 qσ3.2.1 h13.1 h16) (by decide)
            rcases bl_if_at hf with hf | hf
            · rw [← Option.some.inj hf]
              exact qσ15
            · obtain ⟨r18, σ19, h20, hf⟩ := bl_bd_at hf
              have qσ19 := bl_Fq_call qσ15 (fr_X9_keepForUndo σ15 a0 _ qσ15.1 qσ15.2.1 ha0 h20) (by decide)
              have h21 := bl_Fq_g qσ19 ha0 (k := 2) rfl (by decide)
              obtain ⟨r22, σ23, h24, hf⟩ := bl_bd_at hf
              have qσ23 := bl_Fq_call qσ19 (fr_X8_setSortPart σ19 (bl_R σ19 a0 2) a1 a2 a3 _ qσ19.1 qσ19.2.1 h21 h24) (by decide)
              rw [← Option.some.inj hf]
              exact qσ23
          · rw [← Option.some.inj hf]
            exact qσ3
def md_X9_isRule : List (Nat × Nat) := []
set_option maxRecDepth 100000 in
theorem fr_X9_isRule {ho : Nat → Bool} (σ : bl_St) (a0 : Int32) (a1 : Int32) (o : Int32 × bl_St) (hw : bl_WT σ) (hh : bl_WH ho σ) (hf : f_X9_isRule σ a0 a1 = some o) : bl_Fq ho md_X9_isRule σ o.2 := by
  obtain ⟨σ0, hz⟩ : ∃ z, z = σ := ⟨_, rfl⟩
  suffices hgo : bl_Fq ho md_X9_isRule σ0 o.2 by rw [hz] at hgo; exact hgo
  have qσ : bl_Fq ho md_X9_isRule σ0 σ := by rw [hz]; exact ⟨hw, hh, fun _ _ => ⟨rfl, rfl, rfl⟩⟩
  unfold f_X9_isRule at hf
  rcases bl_if_at hf with hf | hf
  · rw [← Option.some.inj hf]
    exact qσ
  · rcases bl_if_at hf with hf | hf
    · rw [← Option.some.inj hf]
      exact qσ
    · obtain ⟨-, hf⟩ := bl_gd_at hf
      rcases bl_if_at hf with hf | hf
      · rw [← Option.some.inj hf]
        exact qσ
      · obtain ⟨-, hf⟩ := bl_gd_at hf
        rcases bl_if_at hf with hf | hf
        · rw [← Option.some.inj hf]
          exact qσ
        · rw [← Option.some.inj hf]
          exact qσ
def md_X9_rule : List (Nat × Nat) := [(2, 15), (4, 12), (6, 4), (8, 5), (20, 3), (20, 10), (20, 40), (20, 48)]
set_option maxRecDepth 100000 in
theorem gw_X9_rule_24 {ho : Nat → Bool} {σ0 : bl_St} {out : Int32 × bl_St} : ∀ (σ : bl_St) (v0 : Nat) (v1 : Int32) (v2 : Int32), bl_Fq ho md_X9_rule σ0 σ → (bl_sh[v0]? = some (9, 13) ∧ ho v0 = true) → (b_X9_rule_24 ) σ v0 v1 v2 = some out → bl_Fq ho md_X9_rule σ0 out.2 := by
  intro σ v0 v1 v2 qσ hv0 hf
  unfold b_X9_rule_24 at hf
  have h1 := bl_Fq_g qσ hv0 (k := 2) rfl (by decide)
  have h2 := bl_Fq_g qσ h1 (k := 4) rfl (by decide)
  obtain ⟨-, hf⟩ := bl_gd_at hf
  obtain ⟨x4, e5⟩ : ∃ z, z = (bl_I σ (bl_R σ (bl_R σ v0 2) 4) (Int32.toNatClampNeg v1)) := ⟨_, rfl⟩
  have hf := bl_let_at e5 hf
  rcases bl_if_at hf with hf | hf
  · rw [← Option.some.inj hf]
    exact qσ
  · obtain ⟨r7, σ8, h9, hf⟩ := bl_bd_at hf
    have qσ8 := bl_Fq_call qσ (fr_X9_keepForUndo σ v0 _ qσ.1 qσ.2.1 hv0 h9) (by decide)
    have h10 := bl_Fq_g qσ8 hv0 (k := 2) rfl (by decide)
    have h11 := bl_Fq_g qσ8 h10 (k := 4) rfl (by decide)
    obtain ⟨-, hf⟩ := bl_gd_at hf
    obtain ⟨σ13, e14⟩ : ∃ z : bl_St, z = bl_pI σ8 (bl_R σ8 (bl_R σ8 v0 2) 4) (Int32.toNatClampNeg v1) v2 := ⟨_, rfl⟩
    have hf := bl_let_at e14 hf
    have qσ13 : bl_Fq ho md_X9_rule σ0 σ13 := by rw [e14]; exact bl_Fq_I qσ8 (bl_al_in h11.1 (by decide) h11.2)
    rw [← Option.some.inj hf]
    exact qσ13
set_option maxRecDepth 100000 in
theorem fr_X9_rule {ho : Nat → Bool} (σ : bl_St) (a0 : Nat) (a1 : Int32) (a2 : Int32) (o : Int32 × bl_St) (hw : bl_WT σ) (hh : bl_WH ho σ) (ha0 : bl_sh[a0]? = some (9, 13) ∧ ho a0 = true) (hf : f_X9_rule σ a0 a1 a2 = some o) : bl_Fq ho md_X9_rule σ o.2 := by
  obtain ⟨σ0, hz⟩ : ∃ z, z = σ := ⟨_, rfl⟩
  suffices hgo : bl_Fq ho md_X9_rule σ0 o.2 by rw [hz] at hgo; exact hgo
  have qσ : bl_Fq ho md_X9_rule σ0 σ := by rw [hz]; exact ⟨hw, hh, fun _ _ => ⟨rfl, rfl, rfl⟩⟩
  unfold f_X9_rule at hf
  obtain ⟨r15, σ16, h17, hf⟩ := bl_bd_at hf
  have qσ16 := bl_Fq_call qσ (fr_X9_isRule σ a1 a2 _ qσ.1 qσ.2.1  h17) (by decide)
  rcases bl_if_at hf with hf | hf
  · rw [← Option.some.inj hf]
    exact qσ16
  · rcases bl_if_at hf with hf | hf
    · have h20 := bl_Fq_g qσ16 ha0 (k := 4) rfl (by decide)
      rcases bl_if_at hf with hf | hf
      · exact gw_X9_rule_24  σ16 a0 a1 a2 qσ16 ha0 hf
      · rw [← Option.some.inj hf]
        exact qσ16
    · exact gw_X9_rule_24  σ16 a0 a1 a2 qσ16 ha0 hf
def md_X9_begin : List (Nat × Nat) := [(2, 15), (4, 12), (6, 4), (8, 5), (20, 3), (20, 10), (20, 40), (20, 48)]
set_option maxRecDepth 100000 in
theorem fr_X9_begin {ho : Nat → Bool} (σ : bl_St) (a0 : Nat) (a1 : Int32) (o : Int32 × bl_St) (hw : bl_WT σ) (hh : bl_WH ho σ) (ha0 : bl_sh[a0]? = some (9, 13) ∧ ho a0 = true) (hf : f_X9_begin σ a0 a1 = some o) : bl_Fq ho md_X9_begin σ o.2 := by
  obtain ⟨σ0, hz⟩ : ∃ z, z = σ := ⟨_, rfl⟩
  suffices hgo : bl_Fq ho md_X9_begin σ0 o.2 by rw [hz] at hgo; exact hgo
  have qσ : bl_Fq ho md_X9_begin σ0 σ := by rw [hz]; exact ⟨hw, hh, fun _ _ => ⟨rfl, rfl, rfl⟩⟩
  unfold f_X9_begin at hf
  have h1 := bl_Fq_g qσ ha0 (k := 4) rfl (by decide)
  rcases bl_if_at hf with hf | hf
  · have h3 := bl_Fq_g qσ ha0 (k := 2) rfl (by decide)
    rcases bl_if_at hf with hf | hf
    · rw [← Option.some.inj hf]
      exact qσ
    · obtain ⟨r5, σ6, h7, hf⟩ := bl_bd_at hf
      have qσ6 := bl_Fq_call qσ (fr_X9_keepForUndo σ a0 _ qσ.1 qσ.2.1 ha0 h7) (by decide)
      have h8 := bl_Fq_g qσ6 ha0 (k := 4) rfl (by decide)
      have h9 := bl_Fq_g qσ6 ha0 (k := 2) rfl (by decide)
      obtain ⟨r10, σ11, h12, hf⟩ := bl_bd_at hf
      have qσ11 := bl_Fq_call qσ6 (fr_X2_startYear σ6 (bl_R σ6 a0 4) (bl_R σ6 a0 2) a1 _ qσ6.1 qσ6.2.1 h8 h9.1 h12) (by decide)
      rw [← Option.some.inj hf]
      exact qσ11
  · rw [← Option.some.inj hf]
    exact qσ
def md_X9_quiet : List (Nat × Nat) := [(2, 15), (4, 12), (6, 4), (8, 5), (20, 3), (20, 10), (20, 40), (20, 48)]
set_option maxRecDepth 100000 in
theorem fr_X9_quiet {ho : Nat → Bool} (σ : bl_St) (a0 : Nat) (o : Int32 × bl_St) (hw : bl_WT σ) (hh : bl_WH ho σ) (ha0 : bl_sh[a0]? = some (9, 13) ∧ ho a0 = true) (hf : f_X9_quiet σ a0 = some o) : bl_Fq ho md_X9_quiet σ o.2 := by
  obtain ⟨σ0, hz⟩ : ∃ z, z = σ := ⟨_, rfl⟩
  suffices hgo : bl_Fq ho md_X9_quiet σ0 o.2 by rw [hz] at hgo; exact hgo
  have qσ : bl_Fq ho md_X9_quiet σ0 σ := by rw [hz]; exact ⟨hw, hh, fun _ _ => ⟨rfl, rfl, rfl⟩⟩
  unfold f_X9_quiet at hf
  have h1 := bl_Fq_g qσ ha0 (k := 4) rfl (by decide)
  rcases bl_if_at hf with hf | hf
  · rw [← Option.some.inj hf]
    exact qσ
  · obtain ⟨r3, σ4, h5, hf⟩ := bl_bd_at hf
    have qσ4 := bl_Fq_call qσ (fr_X9_keepForUndo σ a0 _ qσ.1 qσ.2.1 ha0 h5) (by decide)
    have h6 := bl_Fq_g qσ4 ha0 (k := 4) rfl (by decide)
    have h7 := bl_Fq_g qσ4 ha0 (k := 2) rfl (by decide)
    obtain ⟨r8, σ9, h10, hf⟩ := bl_bd_at hf
    have qσ9 := bl_Fq_call qσ4 (fr_X2_passChance σ4 (bl_R σ4 a0 4) (bl_R σ4 a0 2) _ qσ4.1 qσ4.2.1 h6 h7.1 h10) (by decide)
    rw [← Option.some.inj hf]
    exact qσ9
def md_X9_loss : List (Nat × Nat) := [(2, 15), (4, 12), (6, 4), (8, 5), (20, 3), (20, 10), (20, 40), (20, 48)]
set_option maxRecDepth 100000 in
theorem fr_X9_loss {ho : Nat → Bool} (σ : bl_St) (a0 : Nat) (a1 : Int32) (a2 : Int32) (o : Int32 × bl_St) (hw : bl_WT σ) (hh : bl_WH ho σ) (ha0 : bl_sh[a0]? = some (9, 13) ∧ ho a0 = true) (hf : f_X9_loss σ a0 a1 a2 = some o) : bl_Fq ho md_X9_loss σ o.2 := by
  obtain ⟨σ0, hz⟩ : ∃ z, z = σ := ⟨_, rfl⟩
  suffices hgo : bl_Fq ho md_X9_loss σ0 o.2 by rw [hz] at hgo; exact hgo
  have qσ : bl_Fq ho md_X9_loss σ0 σ := by rw [hz]; exact ⟨hw, hh, fun _ _ => ⟨rfl, rfl, rfl⟩⟩
  unfold f_X9_loss at hf
  have h1 := bl_Fq_g qσ ha0 (k := 4) rfl (by decide)
  rcases bl_if_at hf with hf | hf
  · rw [← Option.some.inj hf]
    exact qσ
  · have h3 := bl_Fq_g qσ ha0 (k := 2) rfl (by decide)
    obtain ⟨r4, σ5, h6, hf⟩ := bl_bd_at hf
    have qσ5 := bl_Fq_call qσ (fr_X8_hasSort σ (bl_R σ a0 2) a1 _ qσ.1 qσ.2.1 h3.1 h6) (by decide)
    rcases bl_if_at hf with hf | hf
    · rw [← Option.some.inj hf]
      exact qσ5
    · obtain ⟨r8, σ9, h10, hf⟩ := bl_bd_at hf
      have qσ9 := bl_Fq_call qσ5 (fr_X9_keepForUndo σ5 a0 _ qσ5.1 qσ5.2.1 ha0 h10) (by decide)
      have h11 := bl_Fq_g qσ9 ha0 (k := 4) rfl (by decide)
      have h12 := bl_Fq_g qσ9 ha0 (k := 2) rfl (by decide)
      obtain ⟨r13, σ14, h15, hf⟩ := bl_bd_at hf
      have qσ14 := bl_Fq_call qσ9 (fr_X2_takeLoss σ9 (bl_R σ9 a0 4) (bl_R σ9 a0 2) a1 a2 _ qσ9.1 qσ9.2.1 h11 h12.1 h15) (by decide)
      have h16 := bl_Fq_g qσ14 ha0 (k := 4) rfl (by decide)
      have h17 := bl_Fq_g qσ14 ha0 (k := 2) rfl (by decide)
      obtain ⟨r18, σ19, h20, hf⟩ := bl_bd_at hf
      have qσ19 := bl_Fq_call qσ14 (fr_X2_passChance σ14 (bl_R σ14 a0 4) (bl_R σ14 a0 2) _ qσ14.1 qσ14.2.1 h16 h17.1 h20) (by decide)
      rw [← Option.some.inj hf]
      exact qσ19
def md_X9_isThumb : List (Nat × Nat) := []
set_option maxRecDepth 100000 in
theorem fr_X9_isThumb {ho : Nat → Bool} (σ : bl_St) (a0 : Int32) (a1 : Int32) (o : Int32 × bl_St) (hw : bl_WT σ) (hh : bl_WH ho σ) (hf : f_X9_isThumb σ a0 a1 = some o) : bl_Fq ho md_X9_isThumb σ o.2 := by
  obtain ⟨σ0, hz⟩ : ∃ z, z = σ := ⟨_, rfl⟩
  suffices hgo : bl_Fq ho md_X9_isThumb σ0 o.2 by rw [hz] at hgo; exact hgo
  have qσ : bl_Fq ho md_X9_isThumb σ0 σ := by rw [hz]; exact ⟨hw, hh, fun _ _ => ⟨rfl, rfl, rfl⟩⟩
  unfold f_X9_isThumb at hf
  rcases bl_if_at hf with hf | hf
  · rcases bl_if_at hf with hf | hf
    · rw [← Option.some.inj hf]
      exact qσ
    · rcases bl_if_at hf with hf | hf
      · rw [← Option.some.inj hf]
        exact qσ
      · rw [← Option.some.inj hf]
        exact qσ
  · rcases bl_if_at hf with hf | hf
    · rw [← Option.some.inj hf]
      exact qσ
    · rcases bl_if_at hf with hf | hf
      · rw [← Option.some.inj hf]
        exact qσ
      · rcases bl_if_at hf with hf | hf
        · rw [← Option.some.inj hf]
          exact qσ
        · rw [← Option.some.inj hf]
          exact qσ
