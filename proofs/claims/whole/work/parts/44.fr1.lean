def md_X9_canLive : List (Nat × Nat) := []
set_option maxRecDepth 100000 in
theorem fr_X9_canLive {ho : Nat → Bool} (σ : bl_St) (a0 : Nat) (a1 : Int32) (a2 : Int32) (a3 : Int32) (o : Int32 × bl_St) (hw : bl_WT σ) (hh : bl_WH ho σ) (ha0 : bl_sh[a0]? = some (9, 13)) (hf : f_X9_canLive σ a0 a1 a2 a3 = some o) : bl_Fq ho md_X9_canLive σ o.2 := by
  obtain ⟨σ0, hz⟩ : ∃ z, z = σ := ⟨_, rfl⟩
  suffices hgo : bl_Fq ho md_X9_canLive σ0 o.2 by rw [hz] at hgo; exact hgo
  have qσ : bl_Fq ho md_X9_canLive σ0 σ := by rw [hz]; exact ⟨hw, hh, fun _ _ => ⟨rfl, rfl, rfl⟩⟩
  have ha0 := And.intro ha0 trivial
  unfold f_X9_canLive at hf
  have h1 := bl_Fq_gn qσ ha0 (k := 2) rfl
  rcases bl_if_at hf with hf | hf
  · rw [← Option.some.inj hf]
    exact qσ
  · rcases bl_if_at hf with hf | hf
    · rw [← Option.some.inj hf]
      exact qσ
    · rcases bl_if_at hf with hf | hf
      · rw [← Option.some.inj hf]
        exact qσ
      · obtain ⟨r5, σ6, h7, hf⟩ := bl_bd_at hf
        have qσ6 := bl_Fq_call qσ (fr_X9_isThumb σ a2 a3 _ qσ.1 qσ.2.1  h7) (by decide)
        rcases bl_if_at hf with hf | hf
        · rw [← Option.some.inj hf]
          exact qσ6
        · rw [← Option.some.inj hf]
          exact qσ6
def md_X9_isTold : List (Nat × Nat) := []
set_option maxRecDepth 100000 in
theorem fr_X9_isTold {ho : Nat → Bool} (σ : bl_St) (a0 : Nat) (a1 : Nat) (a2 : Int32) (a3 : Int32) (a4 : Int32) (o : Int32 × bl_St) (hw : bl_WT σ) (hh : bl_WH ho σ) (ha0 : bl_sh[a0]? = some (9, 13)) (ha1 : bl_sh[a1]? = some (2, 15)) (hf : f_X9_isTold σ a0 a1 a2 a3 a4 = some o) : bl_Fq ho md_X9_isTold σ o.2 := by
  obtain ⟨σ0, hz⟩ : ∃ z, z = σ := ⟨_, rfl⟩
  suffices hgo : bl_Fq ho md_X9_isTold σ0 o.2 by rw [hz] at hgo; exact hgo
  have qσ : bl_Fq ho md_X9_isTold σ0 σ := by rw [hz]; exact ⟨hw, hh, fun _ _ => ⟨rfl, rfl, rfl⟩⟩
  have ha0 := And.intro ha0 trivial
  have ha1 := And.intro ha1 trivial
  unfold f_X9_isTold at hf
  rcases bl_if_at hf with hf | hf
  · rw [← Option.some.inj hf]
    exact qσ
  rcases bl_if_at hf with hf | hf
  · rw [← Option.some.inj hf]
    exact qσ
  rcases bl_if_at hf with hf | hf
  · have h4 := bl_Fq_gn qσ ha0 (k := 2) rfl
    obtain ⟨r5, σ6, h7, hf⟩ := bl_bd_at hf
    have qσ6 := bl_Fq_call qσ (fr_X8_sortPart σ (bl_R σ a0 2) a4 0 _ qσ.1 qσ.2.1 h4.1 h7) (by decide)
    rcases bl_if_at hf with hf | hf
    · rw [← Option.some.inj hf]
      exact qσ6
    · rw [← Option.some.inj hf]
      exact qσ6
  have h9 := bl_Fq_gn qσ ha0 (k := 7) rfl
  obtain ⟨r10, σ11, h12, hf⟩ := bl_bd_at hf
  have qσ11 := bl_Fq_call qσ (fr_X4_gainOf σ (bl_R σ a0 7) (bl_I σ a1 2) (if (bl_I σ a1 3) < 2 then (bl_I σ a1 3) else 2) (bl_I σ a1 4) a4 _ qσ.1 qσ.2.1 h9.1 h12) (by decide)
  rcases bl_if_at hf with hf | hf
  · rw [← Option.some.inj hf]
    exact qσ11
  · rw [← Option.some.inj hf]
    exact qσ11
def md_X9_liveOneYear : List (Nat × Nat) := [(0, 1), (2, 15), (20, 48), (21, 42)]
set_option maxRecDepth 100000 in
theorem gw_X9_liveOneYear_109 {ho : Nat → Bool} {σ0 : bl_St} {out : Unit × bl_St} (k49 : bl_St → Nat → Nat → Int32 → Int32 → Int32 → Int32 → Option (Unit × bl_St)) (gk49 : ∀ (σ : bl_St) (v0 : Nat) (v1 : Nat) (v3 : Int32) (v4 : Int32) (v6 : Int32) (v7 : Int32), bl_Fq ho md_X9_liveOneYear σ0 σ → (bl_sh[v0]? = some (9, 13) ∧ ho v0 = true) → (bl_sh[v1]? = some (2, 15) ∧ ho v1 = true) → k49 σ v0 v1 v3 v4 v6 v7 = some out → bl_Fq ho md_X9_liveOneYear σ0 out.2) : ∀ (σ : bl_St) (v0 : Nat) (v1 : Nat) (v3 : Int32) (v4 : Int32) (v6 : Int32) (v7 : Int32), bl_Fq ho md_X9_liveOneYear σ0 σ → (bl_sh[v0]? = some (9, 13) ∧ ho v0 = true) → (bl_sh[v1]? = some (2, 15) ∧ ho v1 = true) → (b_X9_liveOneYear_109 k49) σ v0 v1 v3 v4 v6 v7 = some out → bl_Fq ho md_X9_liveOneYear σ0 out.2 := by
  intro σ v0 v1 v3 v4 v6 v7 qσ hv0 hv1 hf
  unfold b_X9_liveOneYear_109 at hf
  have h1 := bl_Fq_g qσ hv0 (k := 2) rfl (by decide)
  obtain ⟨r2, σ3, h4, hf⟩ := bl_bd_at hf
  have qσ3 := bl_Fq_call qσ (fr_X2_passChance σ v1 (bl_R σ v0 2) _ qσ.1 qσ.2.1 hv1 h1.1 h4) (by decide)
  obtain ⟨x5, e6⟩ : ∃ z : Int32, z = v7 + 1 := ⟨_, rfl⟩
  have hf := bl_let_at e6 hf
  exact gk49 σ3 v0 v1 v3 v4 v6 x5 qσ3 hv0 hv1 hf
set_option maxRecDepth 100000 in
theorem gw_X9_liveOneYear_49 {ho : Nat → Bool} {σ0 : bl_St} {out : Unit × bl_St} (k49 : bl_St → Nat → Nat → Int32 → Int32 → Int32 → Int32 → Option (Unit × bl_St)) (gk49 : ∀ (σ : bl_St) (v0 : Nat) (v1 : Nat) (v3 : Int32) (v4 : Int32) (v6 : Int32) (v7 : Int32), bl_Fq ho md_X9_liveOneYear σ0 σ → (bl_sh[v0]? = some (9, 13) ∧ ho v0 = true) → (bl_sh[v1]? = some (2, 15) ∧ ho v1 = true) → k49 σ v0 v1 v3 v4 v6 v7 = some out → bl_Fq ho md_X9_liveOneYear σ0 out.2) : ∀ (σ : bl_St) (v0 : Nat) (v1 : Nat) (v3 : Int32) (v4 : Int32) (v6 : Int32) (v7 : Int32), bl_Fq ho md_X9_liveOneYear σ0 σ → (bl_sh[v0]? = some (9, 13) ∧ ho v0 = true) → (bl_sh[v1]? = some (2, 15) ∧ ho v1 = true) → (b_X9_liveOneYear_49 k49) σ v0 v1 v3 v4 v6 v7 = some out → bl_Fq ho md_X9_liveOneYear σ0 out.2 := by
  intro σ v0 v1 v3 v4 v6 v7 qσ hv0 hv1 hf
  unfold b_X9_liveOneYear_49 at hf
  rcases bl_if_at hf with hf | hf
  · rw [← Option.some.inj hf]
    exact qσ
  · have h8 := bl_Fq_g qσ hv0 (k := 10) rfl (by decide)
    obtain ⟨r9, σ10, h11, hf⟩ := bl_bd_at hf
    have qσ10 := bl_Fq_call qσ (fr_X0_next σ (bl_R σ v0 10) 12 _ qσ.1 qσ.2.1 h8 h11) (by decide)
    have h12 := bl_Fq_g qσ10 hv0 (k := 2) rfl (by decide)
    obtain ⟨r13, σ14, h15, hf⟩ := bl_bd_at hf
    have qσ14 := bl_Fq_call qσ10 (fr_X8_odds σ10 (bl_R σ10 v0 2) _ qσ10.1 qσ10.2.1 h12.1 h15) (by decide)
    rcases bl_if_at hf with hf | hf
    · exact gw_X9_liveOneYear_109 k49 gk49 σ14 v0 v1 v3 v4 v6 v7 qσ14 hv0 hv1 hf
    · have h17 := bl_Fq_g qσ14 hv0 (k := 10) rfl (by decide)
      have h18 := bl_Fq_g qσ14 hv0 (k := 2) rfl (by decide)
      obtain ⟨r19, σ20, h21, hf⟩ := bl_bd_at hf
      have qσ20 := bl_Fq_call qσ14 (fr_X0_nextSort σ14 (bl_R σ14 v0 10) (bl_R σ14 v0 2) _ qσ14.1 qσ14.2.1 h17 h18.1 h21) (by decide)
      have h22 := bl_Fq_g qσ20 hv0 (k := 2) rfl (by decide)
      obtain ⟨r23, σ24, h25, hf⟩ := bl_bd_at hf
      have qσ24 := bl_Fq_call qσ20 (fr_X9_isTold σ20 v0 v1 v3 v4 r19 _ qσ20.1 qσ20.2.1 hv0.1 hv1.1 h25) (by decide)
      obtain ⟨r26, σ27, h28, hf⟩ := bl_bd_at hf
      have qσ27 := bl_Fq_call qσ24 (fr_X2_takeLoss σ24 v1 (bl_R σ20 v0 2) r19 r23 _ qσ24.1 qσ24.2.1 hv1 h22.1 h28) (by decide)
      exact gw_X9_liveOneYear_109 k49 gk49 σ27 v0 v1 v3 v4 v6 v7 qσ27 hv0 hv1 hf
theorem gl_X9_liveOneYear_49 {ho : Nat → Bool} {σ0 : bl_St} {out : Unit × bl_St} (n : Nat) : ∀ (σ : bl_St) (v0 : Nat) (v1 : Nat) (v3 : Int32) (v4 : Int32) (v6 : Int32) (v7 : Int32), bl_Fq ho md_X9_liveOneYear σ0 σ → (bl_sh[v0]? = some (9, 13) ∧ ho v0 = true) → (bl_sh[v1]? = some (2, 15) ∧ ho v1 = true) → (bl_fx (fun _ _ _ _ _ _ _ => none) (b_X9_liveOneYear_49 ) n) σ v0 v1 v3 v4 v6 v7 = some out → bl_Fq ho md_X9_liveOneYear σ0 out.2 := by
  induction n with
  | zero =>
    intro σ v0 v1 v3 v4 v6 v7 qσ hv0 hv1 hf
    cases hf
  | succ n ih => exact gw_X9_liveOneYear_49  _ ih
set_option maxRecDepth 100000 in
theorem gw_X9_liveOneYear_24 {ho : Nat → Bool} {σ0 : bl_St} {out : Unit × bl_St} : ∀ (σ : bl_St) (v0 : Nat) (v1 : Nat) (v3 : Int32) (v4 : Int32) (s0 : Int32), bl_Fq ho md_X9_liveOneYear σ0 σ → (bl_sh[v0]? = some (9, 13) ∧ ho v0 = true) → (bl_sh[v1]? = some (2, 15) ∧ ho v1 = true) → (b_X9_liveOneYear_24 ) σ v0 v1 v3 v4 s0 = some out → bl_Fq ho md_X9_liveOneYear σ0 out.2 := by
  intro σ v0 v1 v3 v4 s0 qσ hv0 hv1 hf
  unfold b_X9_liveOneYear_24 at hf
  have h29 := bl_Fq_g qσ hv0 (k := 2) rfl (by decide)
  obtain ⟨r30, σ31, h32, hf⟩ := bl_bd_at hf
  have qσ31 := bl_Fq_call qσ (fr_X8_chances σ (bl_R σ v0 2) _ qσ.1 qσ.2.1 h29.1 h32) (by decide)
  have h33 := bl_Fq_g qσ31 hv0 (k := 2) rfl (by decide)
  obtain ⟨r34, σ35, h36, hf⟩ := bl_bd_at hf
  have qσ35 := bl_Fq_call qσ31 (fr_X2_startYear σ31 v1 (bl_R σ31 v0 2) s0 _ qσ31.1 qσ31.2.1 hv1 h33.1 h36) (by decide)
  exact gl_X9_liveOneYear_49  bl_fu σ35 v0 v1 v3 v4 r30 0 qσ35 hv0 hv1 hf
set_option maxRecDepth 100000 in
theorem gw_X9_liveOneYear_23 {ho : Nat → Bool} {σ0 : bl_St} {out : Unit × bl_St} : ∀ (σ : bl_St) (v0 : Nat) (v1 : Nat) (v3 : Int32) (v4 : Int32), bl_Fq ho md_X9_liveOneYear σ0 σ → (bl_sh[v0]? = some (9, 13) ∧ ho v0 = true) → (bl_sh[v1]? = some (2, 15) ∧ ho v1 = true) → (b_X9_liveOneYear_23 ) σ v0 v1 v3 v4 = some out → bl_Fq ho md_X9_liveOneYear σ0 out.2 := by
  intro σ v0 v1 v3 v4 qσ hv0 hv1 hf
  unfold b_X9_liveOneYear_23 at hf
  exact gw_X9_liveOneYear_24  σ v0 v1 v3 v4 0 qσ hv0 hv1 hf
set_option maxRecDepth 100000 in
theorem fr_X9_liveOneYear {ho : Nat → Bool} (σ : bl_St) (a0 : Nat) (a1 : Nat) (a2 : Int32) (a3 : Int32) (a4 : Int32) (o : Unit × bl_St) (hw : bl_WT σ) (hh : bl_WH ho σ) (ha0 : bl_sh[a0]? = some (9, 13) ∧ ho a0 = true) (ha1 : bl_sh[a1]? = some (2, 15) ∧ ho a1 = true) (hf : f_X9_liveOneYear σ a0 a1 a2 a3 a4 = some o) : bl_Fq ho md_X9_liveOneYear σ o.2 := by
  obtain ⟨σ0, hz⟩ : ∃ z, z = σ := ⟨_, rfl⟩
  suffices hgo : bl_Fq ho md_X9_liveOneYear σ0 o.2 by rw [hz] at hgo; exact hgo
  have qσ : bl_Fq ho md_X9_liveOneYear σ0 σ := by rw [hz]; exact ⟨hw, hh, fun _ _ => ⟨rfl, rfl, rfl⟩⟩
  unfold f_X9_liveOneYear at hf
  rcases bl_if_at hf with hf | hf
  · have h38 := bl_Fq_g qσ ha0 (k := 7) rfl (by decide)
    obtain ⟨r39, σ40, h41, hf⟩ := bl_bd_at hf
    have qσ40 := bl_Fq_call qσ (fr_X4_buys σ (bl_R σ a0 7) a2 (bl_I σ a1 0) _ qσ.1 qσ.2.1 h38 h41) (by decide)
    rcases bl_if_at hf with hf | hf
    · exact gw_X9_liveOneYear_23  σ40 a0 a1 a3 a4 qσ40 ha0 ha1 hf
    · exact gw_X9_liveOneYear_24  σ40 a0 a1 a3 a4 1 qσ40 ha0 ha1 hf
  · exact gw_X9_liveOneYear_23  σ a0 a1 a3 a4 qσ ha0 ha1 hf
def md_X9_liveByDraws : List (Nat × Nat) := [(0, 1), (2, 15), (3, 8), (4, 12), (20, 5), (20, 48), (21, 5), (21, 42), (21, 168)]
set_option maxRecDepth 100000 in
theorem gw_X9_liveByDraws_30 {ho : Nat → Bool} {σ0 : bl_St} {out : Int32 × bl_St} (k30 : bl_St → Nat → Nat → Int32 → Int32 → Int32 → Int32 → Option (Int32 × bl_St)) (gk30 : ∀ (σ : bl_St) (v0 : Nat) (v1 : Nat) (v3 : Int32) (v4 : Int32) (v6 : Int32) (v7 : Int32), bl_Fq ho md_X9_liveByDraws σ0 σ → (bl_sh[v0]? = some (9, 13) ∧ ho v0 = true) → (bl_sh[v1]? = some (2, 15) ∧ ho v1 = true) → k30 σ v0 v1 v3 v4 v6 v7 = some out → bl_Fq ho md_X9_liveByDraws σ0 out.2) : ∀ (σ : bl_St) (v0 : Nat) (v1 : Nat) (v3 : Int32) (v4 : Int32) (v6 : Int32) (v7 : Int32), bl_Fq ho md_X9_liveByDraws σ0 σ → (bl_sh[v0]? = some (9, 13) ∧ ho v0 = true) → (bl_sh[v1]? = some (2, 15) ∧ ho v1 = true) → (b_X9_liveByDraws_30 k30) σ v0 v1 v3 v4 v6 v7 = some out → bl_Fq ho md_X9_liveByDraws σ0 out.2 := by
  intro σ v0 v1 v3 v4 v6 v7 qσ hv0 hv1 hf
  unfold b_X9_liveByDraws_30 at hf
  rcases bl_if_at hf with hf | hf
  · obtain ⟨r2, σ3, h4, hf⟩ := bl_bd_at hf
    have qσ3 := bl_Fq_call qσ (fr_X2_allPaid σ v1 _ qσ.1 qσ.2.1 hv1.1 h4) (by decide)
    rw [← Option.some.inj hf]
    exact qσ3
  · obtain ⟨r5, σ6, h7, hf⟩ := bl_bd_at hf
    have qσ6 := bl_Fq_call qσ (fr_X9_liveOneYear σ v0 v1 v7 v3 v4 _ qσ.1 qσ.2.1 hv0 hv1 h7) (by decide)
    obtain ⟨x8, e9⟩ : ∃ z : Int32, z = v7 + (-1) := ⟨_, rfl⟩
    have hf := bl_let_at e9 hf
    exact gk30 σ6 v0 v1 v3 v4 v6 x8 qσ6 hv0 hv1 hf
theorem gl_X9_liveByDraws_30 {ho : Nat → Bool} {σ0 : bl_St} {out : Int32 × bl_St} (n : Nat) : ∀ (σ : bl_St) (v0 : Nat) (v1 : Nat) (v3 : Int32) (v4 : Int32) (v6 : Int32) (v7 : Int32), bl_Fq ho md_X9_liveByDraws σ0 σ → (bl_sh[v0]? = some (9, 13) ∧ ho v0 = true) → (bl_sh[v1]? = some (2, 15) ∧ ho v1 = true) → (bl_fx (fun _ _ _ _ _ _ _ => none) (b_X9_liveByDraws_30 ) n) σ v0 v1 v3 v4 v6 v7 = some out → bl_Fq ho md_X9_liveByDraws σ0 out.2 := by
  induction n with
  | zero =>
    intro σ v0 v1 v3 v4 v6 v7 qσ hv0 hv1 hf
    cases hf
  | succ n ih => exact gw_X9_liveByDraws_30  _ ih
set_option maxRecDepth 100000 in
theorem gw_X9_liveByDraws_27 {ho : Nat → Bool} {σ0 : bl_St} {out : Int32 × bl_St} : ∀ (σ : bl_St) (v0 : Nat) (v1 : Nat) (v2 : Int32) (v3 : Int32) (v4 : Int32) (v6 : Int32), bl_Fq ho md_X9_liveByDraws σ0 σ → (bl_sh[v0]? = some (9, 13) ∧ ho v0 = true) → (bl_sh[v1]? = some (2, 15) ∧ ho v1 = true) → (b_X9_liveByDraws_27 ) σ v0 v1 v2 v3 v4 v6 = some out → bl_Fq ho md_X9_liveByDraws σ0 out.2 := by
  intro σ v0 v1 v2 v3 v4 v6 qσ hv0 hv1 hf
  unfold b_X9_liveByDraws_27 at hf
  exact gl_X9_liveByDraws_30  bl_fu σ v0 v1 v3 v4 v6 v2 qσ hv0 hv1 hf
set_option maxRecDepth 100000 in
theorem fr_X9_liveByDraws {ho : Nat → Bool} (σ : bl_St) (a0 : Nat) (a1 : Nat) (a2 : Int32) (a3 : Int32) (a4 : Int32) (a5 : Int32) (o : Int32 × bl_St) (hw : bl_WT σ) (hh : bl_WH ho σ) (ha0 : bl_sh[a0]? = some (9, 13) ∧ ho a0 = true) (ha1 : bl_sh[a1]? = some (2, 15) ∧ ho a1 = true) (hf : f_X9_liveByDraws σ a0 a1 a2 a3 a4 a5 = some o) : bl_Fq ho md_X9_liveByDraws σ o.2 := by
  obtain ⟨σ0, hz⟩ : ∃ z, z = σ := ⟨_, rfl⟩
  suffices hgo : bl_Fq ho md_X9_liveByDraws σ0 o.2 by rw [hz] at hgo; exact hgo
  have qσ : bl_Fq ho md_X9_liveByDraws σ0 σ := by rw [hz]; exact ⟨hw, hh, fun _ _ => ⟨rfl, rfl, rfl⟩⟩
  unfold f_X9_liveByDraws at hf
  obtain ⟨r10, σ11, h12, hf⟩ := bl_bd_at hf
  have qσ11 := bl_Fq_call qσ (fr_X2_allPaid σ a1 _ qσ.1 qσ.2.1 ha1.1 h12) (by decide)
  have h13 := bl_Fq_g qσ11 ha0 (k := 10) rfl (by decide)
  obtain ⟨σ14, e15⟩ : ∃ z : bl_St, z = bl_pI σ11 (bl_R σ11 a0 10) 0 a5 := ⟨_, rfl⟩
  have hf := bl_let_at e15 hf
  have qσ14 : bl_Fq ho md_X9_liveByDraws σ0 σ14 := by rw [e15]; exact bl_Fq_I qσ11 (bl_al_in h13.1 (by decide) h13.2)
  rcases bl_if_at hf with hf | hf
  · have h17 := bl_Fq_g qσ14 ha0 (k := 7) rfl (by decide)
    obtain ⟨r18, σ19, h20, hf⟩ := bl_bd_at hf
    have qσ19 := bl_Fq_call qσ14 (fr_X4_learn σ14 (bl_R σ14 a0 7) a2 _ qσ14.1 qσ14.2.1 h17 h20) (by decide)
    exact gw_X9_liveByDraws_27  σ19 a0 a1 a2 a3 a4 r10 qσ19 ha0 ha1 hf
  · exact gw_X9_liveByDraws_27  σ14 a0 a1 a2 a3 a4 r10 qσ14 ha0 ha1 hf
def md_X9_live : List (Nat × Nat) := [(0, 1), (2, 15), (3, 8), (4, 12), (6, 4), (8, 5), (20, 3), (20, 5), (20, 10), (20, 40), (20, 48), (21, 5), (21, 42), (21, 168)]
set_option maxRecDepth 100000 in
theorem fr_X9_live {ho : Nat → Bool} (σ : bl_St) (a0 : Nat) (a1 : Int32) (a2 : Int32) (a3 : Int32) (a4 : Int32) (o : Int32 × bl_St) (hw : bl_WT σ) (hh : bl_WH ho σ) (ha0 : bl_sh[a0]? = some (9, 13) ∧ ho a0 = true) (hf : f_X9_live σ a0 a1 a2 a3 a4 = some o) : bl_Fq ho md_X9_live σ o.2 := by
  obtain ⟨σ0, hz⟩ : ∃ z, z = σ := ⟨_, rfl⟩
  suffices hgo : bl_Fq ho md_X9_live σ0 o.2 by rw [hz] at hgo; exact hgo
  have qσ : bl_Fq ho md_X9_live σ0 σ := by rw [hz]; exact ⟨hw, hh, fun _ _ => ⟨rfl, rfl, rfl⟩⟩
  unfold f_X9_live at hf
  have h1 := bl_Fq_g qσ ha0 (k := 4) rfl (by decide)
  rcases bl_if_at hf with hf | hf
  · obtain ⟨r3, σ4, h5, hf⟩ := bl_bd_at hf
    have qσ4 := bl_Fq_call qσ (fr_X9_canLive σ a0 a1 a2 a3 _ qσ.1 qσ.2.1 ha0.1 h5) (by decide)
    rcases bl_if_at hf with hf | hf
    · rw [← Option.some.inj hf]
      exact qσ4
    · obtain ⟨r7, σ8, h9, hf⟩ := bl_bd_at hf
      have qσ8 := bl_Fq_call qσ4 (fr_X9_keepForUndo σ4 a0 _ qσ4.1 qσ4.2.1 ha0 h9) (by decide)
      have h10 := bl_Fq_g qσ8 ha0 (k := 4) rfl (by decide)
      obtain ⟨r11, σ12, h13, hf⟩ := bl_bd_at hf
      have qσ12 := bl_Fq_call qσ8 (fr_X9_liveByDraws σ8 a0 (bl_R σ8 a0 4) a1 a2 a3 a4 _ qσ8.1 qσ8.2.1 ha0 h10 h13) (by decide)
      rw [← Option.some.inj hf]
      exact qσ12
  · rw [← Option.some.inj hf]
    exact qσ
def md_X9_come : List (Nat × Nat) := [(2, 15), (4, 12), (6, 4), (8, 5), (20, 3), (20, 10), (20, 40), (20, 48)]
set_option maxRecDepth 100000 in
theorem fr_X9_come {ho : Nat → Bool} (σ : bl_St) (a0 : Nat) (a1 : Int32) (a2 : Int32) (o : Int32 × bl_St) (hw : bl_WT σ) (hh : bl_WH ho σ) (ha0 : bl_sh[a0]? = some (9, 13) ∧ ho a0 = true) (hf : f_X9_come σ a0 a1 a2 = some o) : bl_Fq ho md_X9_come σ o.2 := by
  obtain ⟨σ0, hz⟩ : ∃ z, z = σ := ⟨_, rfl⟩
  suffices hgo : bl_Fq ho md_X9_come σ0 o.2 by rw [hz] at hgo; exact hgo
  have qσ : bl_Fq ho md_X9_come σ0 σ := by rw [hz]; exact ⟨hw, hh, fun _ _ => ⟨rfl, rfl, rfl⟩⟩
  unfold f_X9_come at hf
  rcases bl_if_at hf with hf | hf
  · rw [← Option.some.inj hf]
    exact qσ
  · rcases bl_if_at hf with hf | hf
    · rw [← Option.some.inj hf]
      exact qσ
    · rcases bl_if_at hf with hf | hf
      · rw [← Option.some.inj hf]
        exact qσ
      · rcases bl_if_at hf with hf | hf
        · have h9 := bl_Fq_g qσ ha0 (k := 2) rfl (by decide)
          rcases bl_if_at hf with hf | hf
          · rw [← Option.some.inj hf]
            exact qσ
          · have h11 := bl_Fq_g qσ ha0 (k := 2) rfl (by decide)
            rcases bl_if_at hf with hf | hf
            · rw [← Option.some.inj hf]
              exact qσ
            · obtain ⟨r13, σ14, h15, hf⟩ := bl_bd_at hf
              have qσ14 := bl_Fq_call qσ (fr_X9_keepForUndo σ a0 _ qσ.1 qσ.2.1 ha0 h15) (by decide)
              have h16 := bl_Fq_g qσ14 ha0 (k := 2) rfl (by decide)
              obtain ⟨r17, σ18, h19, hf⟩ := bl_bd_at hf
              have qσ18 := bl_Fq_call qσ14 (fr_X8_addSort σ14 (bl_R σ14 a0 2) a1 a2 _ qσ14.1 qσ14.2.1 h16 h19) (by decide)
              have h20 := bl_Fq_g qσ18 ha0 (k := 2) rfl (by decide)
              rw [← Option.some.inj hf]
              exact qσ18
        · rw [← Option.some.inj hf]
          exact qσ
def md_X9_drop : List (Nat × Nat) := [(2, 15), (4, 12), (6, 4), (8, 5), (20, 3), (20, 10), (20, 40), (20, 48)]
set_option maxRecDepth 100000 in
theorem fr_X9_drop {ho : Nat → Bool} (σ : bl_St) (a0 : Nat) (a1 : Int32) (o : Int32 × bl_St) (hw : bl_WT σ) (hh : bl_WH ho σ) (ha0 : bl_sh[a0]? = some (9, 13) ∧ ho a0 = true) (hf : f_X9_drop σ a0 a1 = some o) : bl_Fq ho md_X9_drop σ o.2 := by
  obtain ⟨σ0, hz⟩ : ∃ z, z = σ := ⟨_, rfl⟩
  suffices hgo : bl_Fq ho md_X9_drop σ0 o.2 by rw [hz] at hgo; exact hgo
  have qσ : bl_Fq ho md_X9_drop σ0 σ := by rw [hz]; exact ⟨hw, hh, fun _ _ => ⟨rfl, rfl, rfl⟩⟩
  unfold f_X9_drop at hf
  have h1 := bl_Fq_g qσ ha0 (k := 2) rfl (by decide)
  obtain ⟨r2, σ3, h4, hf⟩ := bl_bd_at hf
  have qσ3 := bl_Fq_call qσ (fr_X8_hasSort σ (bl_R σ a0 2) a1 _ qσ.1 qσ.2.1 h1.1 h4) (by decide)
  rcases bl_if_at hf with hf | hf
  · rw [← Option.some.inj hf]
    exact qσ3
  · have h6 := bl_Fq_g qσ3 ha0 (k := 2) rfl (by decide)
    rcases bl_if_at hf with hf | hf
    · rw [← Option.some.inj hf]
      exact qσ3
    · obtain ⟨r8, σ9, h10, hf⟩ := bl_bd_at hf
      have qσ9 := bl_Fq_call qσ3 (fr_X9_keepForUndo σ3 a0 _ qσ3.1 qσ3.2.1 ha0 h10) (by decide)
      have h11 := bl_Fq_g qσ9 ha0 (k := 2) rfl (by decide)
      obtain ⟨r12, σ13, h14, hf⟩ := bl_bd_at hf
      have qσ13 := bl_Fq_call qσ9 (fr_X8_removeSort σ9 (bl_R σ9 a0 2) a1 _ qσ9.1 qσ9.2.1 h11 h14) (by decide)
      have h15 := bl_Fq_g qσ13 ha0 (k := 2) rfl (by decide)
      rw [← Option.some.inj hf]
      exact qσ13
def md_X9_move : List (Nat × Nat) := [(2, 15), (4, 12), (6, 4), (8, 5), (20, 3), (20, 10), (20, 40), (20, 48)]
set_option maxRecDepth 100000 in
theorem fr_X9_move {ho : Nat → Bool} (σ : bl_St) (a0 : Nat) (a1 : Int32) (o : Int32 × bl_St) (hw : bl_WT σ) (hh : bl_WH ho σ) (ha0 : bl_sh[a0]? = some (9, 13) ∧ ho a0 = true) (hf : f_X9_move σ a0 a1 = some o) : bl_Fq ho md_X9_move σ o.2 := by
  obtain ⟨σ0, hz⟩ : ∃ z, z = σ := ⟨_, rfl⟩
  suffices hgo : bl_Fq ho md_X9_move σ0 o.2 by rw [hz] at hgo; exact hgo
  have qσ : bl_Fq ho md_X9_move σ0 σ := by rw [hz]; exact ⟨hw, hh, fun _ _ => ⟨rfl, rfl, rfl⟩⟩
  unfold f_X9_move at hf
  have h1 := bl_Fq_g qσ ha0 (k := 2) rfl (by decide)
  obtain ⟨r2, σ3, h4, hf⟩ := bl_bd_at hf
  have qσ3 := bl_Fq_call qσ (fr_X8_hasClass σ (bl_R σ a0 2) a1 _ qσ.1 qσ.2.1 h1.1 h4) (by decide)
  rcases bl_if_at hf with hf | hf
  · rw [← Option.some.inj hf]
    exact qσ3
  · have h6 := bl_Fq_g qσ3 ha0 (k := 4) rfl (by decide)
    rcases bl_if_at hf with hf | hf
    · have h8 := bl_Fq_g qσ3 ha0 (k := 4) rfl (by decide)
      rcases bl_if_at hf with hf | hf
      · rw [← Option.some.inj hf]
        exact qσ3
      · obtain ⟨r10, σ11, h12, hf⟩ := bl_bd_at hf
        have qσ11 := bl_Fq_call qσ3 (fr_X9_keepForUndo σ3 a0 _ qσ3.1 qσ3.2.1 ha0 h12) (by decide)
        have h13 := bl_Fq_g qσ11 ha0 (k := 4) rfl (by decide)
        obtain ⟨x14, e15⟩ : ∃ z, z = (bl_I σ11 (bl_R σ11 a0 4) 0) := ⟨_, rfl⟩
        have hf := bl_let_at e15 hf
        have h16 := bl_Fq_g qσ11 ha0 (k := 4) rfl (by decide)
        obtain ⟨σ17, e18⟩ : ∃ z : bl_St, z = bl_pI σ11 (bl_R σ11 a0 4) 0 a1 := ⟨_, rfl⟩
        have hf := bl_let_at e18 hf
        have qσ17 : bl_Fq ho md_X9_move σ0 σ17 := by rw [e18]; exact bl_Fq_I qσ11 (bl_al_in h16.1 (by decide) h16.2)
        rw [← Option.some.inj hf]
        exact qσ17
    · rw [← Option.some.inj hf]
      exact qσ3
def md_X9_anew : List (Nat × Nat) := [(2, 15), (4, 12), (6, 4), (8, 5), (20, 3), (20, 10), (20, 40), (20, 48)]
set_option maxRecDepth 100000 in
theorem fr_X9_anew {ho : Nat → Bool} (σ : bl_St) (a0 : Nat) (o : Int32 × bl_St) (hw : bl_WT σ) (hh : bl_WH ho σ) (ha0 : bl_sh[a0]? = some (9, 13) ∧ ho a0 = true) (hf : f_X9_anew σ a0 = some o) : bl_Fq ho md_X9_anew σ o.2 := by
  obtain ⟨σ0, hz⟩ : ∃ z, z = σ := ⟨_, rfl⟩
  suffices hgo : bl_Fq ho md_X9_anew σ0 o.2 by rw [hz] at hgo; exact hgo
  have qσ : bl_Fq ho md_X9_anew σ0 σ := by rw [hz]; exact ⟨hw, hh, fun _ _ => ⟨rfl, rfl, rfl⟩⟩
  unfold f_X9_anew at hf
  obtain ⟨r1, σ2, h3, hf⟩ := bl_bd_at hf
  have qσ2 := bl_Fq_call qσ (fr_X9_keepForUndo σ a0 _ qσ.1 qσ.2.1 ha0 h3) (by decide)
  have h4 := bl_Fq_g qσ2 ha0 (k := 4) rfl (by decide)
  obtain ⟨x5, e6⟩ : ∃ z, z = (bl_I σ2 (bl_R σ2 a0 4) 6) := ⟨_, rfl⟩
  have hf := bl_let_at e6 hf
  have h7 := bl_Fq_g qσ2 ha0 (k := 4) rfl (by decide)
  obtain ⟨r8, σ9, h10, hf⟩ := bl_bd_at hf
  have qσ9 := bl_Fq_call qσ2 (fr_X2_clear σ2 (bl_R σ2 a0 4) _ qσ2.1 qσ2.2.1 h7 h10) (by decide)
  rw [← Option.some.inj hf]
  exact qσ9
def md_X9_undo : List (Nat × Nat) := [(2, 15), (4, 12), (6, 4), (8, 5), (20, 3), (20, 10), (20, 40), (20, 48)]
set_option maxRecDepth 100000 in
theorem fr_X9_undo {ho : Nat → Bool} (σ : bl_St) (a0 : Nat) (o : Int32 × bl_St) (hw : bl_WT σ) (hh : bl_WH ho σ) (ha0 : bl_sh[a0]? = some (9, 13) ∧ ho a0 = true) (hf : f_X9_undo σ a0 = some o) : bl_Fq ho md_X9_undo σ o.2 := by
  obtain ⟨σ0, hz⟩ : ∃ z, z = σ := ⟨_, rfl⟩
  suffices hgo : bl_Fq ho md_X9_undo σ0 o.2 by rw [hz] at hgo; exact hgo
  have qσ : bl_Fq ho md_X9_undo σ0 σ := by rw [hz]; exact ⟨hw, hh, fun _ _ => ⟨rfl, rfl, rfl⟩⟩
  unfold f_X9_undo at hf
  have h1 := bl_Fq_g qσ ha0 (k := 6) rfl (by decide)
  have h2 := bl_Fq_g qσ ha0 (k := 2) rfl (by decide)
  have h3 := bl_Fq_g qσ ha0 (k := 4) rfl (by decide)
  obtain ⟨r4, σ5, h6, hf⟩ := bl_bd_at hf
  have qσ5 := bl_Fq_call qσ (fr_X6_takeBack σ (bl_R σ a0 6) (bl_R σ a0 2) (bl_R σ a0 4) _ qσ.1 qσ.2.1 h1 h2 h3 h6) (by decide)
  rcases bl_if_at hf with hf | hf
  · rw [← Option.some.inj hf]
    exact qσ5
  · have h8 := bl_Fq_g qσ5 ha0 (k := 7) rfl (by decide)
    have h9 := bl_Fq_g qσ5 ha0 (k := 2) rfl (by decide)
    obtain ⟨r10, σ11, h12, hf⟩ := bl_bd_at hf
    have qσ11 := bl_Fq_call qσ5 (fr_X4_look σ5 (bl_R σ5 a0 7) (bl_R σ5 a0 2) 1 _ qσ5.1 qσ5.2.1 h8 h9.1 h12) (by decide)
    have h13 := bl_Fq_g qσ11 ha0 (k := 6) rfl (by decide)
    rw [← Option.some.inj hf]
    exact qσ11
def md_X9_of : List (Nat × Nat) := []
set_option maxRecDepth 100000 in
theorem fr_X9_of {ho : Nat → Bool} (σ : bl_St) (a0 : Nat) (a1 : Int32) (a2 : Int32) (o : Int32 × bl_St) (hw : bl_WT σ) (hh : bl_WH ho σ) (ha0 : bl_sh[a0]? = some (9, 13)) (hf : f_X9_of σ a0 a1 a2 = some o) : bl_Fq ho md_X9_of σ o.2 := by
  obtain ⟨σ0, hz⟩ : ∃ z, z = σ := ⟨_, rfl⟩
  suffices hgo : bl_Fq ho md_X9_of σ0 o.2 by rw [hz] at hgo; exact hgo
  have qσ : bl_Fq ho md_X9_of σ0 σ := by rw [hz]; exact ⟨hw, hh, fun _ _ => ⟨rfl, rfl, rfl⟩⟩
  have ha0 := And.intro ha0 trivial
  unfold f_X9_of at hf
  have h1 := bl_Fq_gn qσ ha0 (k := 2) rfl
  obtain ⟨r2, σ3, h4, hf⟩ := bl_bd_at hf
  have qσ3 := bl_Fq_call qσ (fr_X8_hasClass σ (bl_R σ a0 2) a1 _ qσ.1 qσ.2.1 h1.1 h4) (by decide)
  rcases bl_if_at hf with hf | hf
  · rw [← Option.some.inj hf]
    exact qσ3
  · rcases bl_if_at hf with hf | hf
    · rw [← Option.some.inj hf]
      exact qσ3
    · rcases bl_if_at hf with hf | hf
      · have h8 := bl_Fq_gn qσ3 ha0 (k := 2) rfl
        obtain ⟨r9, σ10, h11, hf⟩ := bl_bd_at hf
        have qσ10 := bl_Fq_call qσ3 (fr_X8_part σ3 (bl_R σ3 a0 2) a1 a2 _ qσ3.1 qσ3.2.1 h8.1 h11) (by decide)
        rw [← Option.some.inj hf]
        exact qσ10
      · rw [← Option.some.inj hf]
        exact qσ3
def md_X9_ofSort : List (Nat × Nat) := []
set_option maxRecDepth 100000 in
theorem fr_X9_ofSort {ho : Nat → Bool} (σ : bl_St) (a0 : Nat) (a1 : Int32) (a2 : Int32) (o : Int32 × bl_St) (hw : bl_WT σ) (hh : bl_WH ho σ) (ha0 : bl_sh[a0]? = some (9, 13)) (hf : f_X9_ofSort σ a0 a1 a2 = some o) : bl_Fq ho md_X9_ofSort σ o.2 := by
  obtain ⟨σ0, hz⟩ : ∃ z, z = σ := ⟨_, rfl⟩
  suffices hgo : bl_Fq ho md_X9_ofSort σ0 o.2 by rw [hz] at hgo; exact hgo
  have qσ : bl_Fq ho md_X9_ofSort σ0 σ := by rw [hz]; exact ⟨hw, hh, fun _ _ => ⟨rfl, rfl, rfl⟩⟩
  have ha0 := And.intro ha0 trivial
  unfold f_X9_ofSort at hf
  have h1 := bl_Fq_gn qσ ha0 (k := 2) rfl
  obtain ⟨r2, σ3, h4, hf⟩ := bl_bd_at hf
  have qσ3 := bl_Fq_call qσ (fr_X8_hasSort σ (bl_R σ a0 2) a1 _ qσ.1 qσ.2.1 h1.1 h4) (by decide)
  rcases bl_if_at hf with hf | hf
  · rw [← Option.some.inj hf]
    exact qσ3
  · rcases bl_if_at hf with hf | hf
    · have h7 := bl_Fq_gn qσ3 ha0 (k := 2) rfl
      obtain ⟨r8, σ9, h10, hf⟩ := bl_bd_at hf
      have qσ9 := bl_Fq_call qσ3 (fr_X8_sortPart σ3 (bl_R σ3 a0 2) a1 0 _ qσ3.1 qσ3.2.1 h7.1 h10) (by decide)
      rw [← Option.some.inj hf]
      exact qσ9
    rcases bl_if_at hf with hf | hf
    · have h12 := bl_Fq_gn qσ3 ha0 (k := 2) rfl
      obtain ⟨r13, σ14, h15, hf⟩ := bl_bd_at hf
      have qσ14 := bl_Fq_call qσ3 (fr_X8_sortPart σ3 (bl_R σ3 a0 2) a1 1 _ qσ3.1 qσ3.2.1 h12.1 h15) (by decide)
      rw [← Option.some.inj hf]
      exact qσ14
    rcases bl_if_at hf with hf | hf
    · have h17 := bl_Fq_gn qσ3 ha0 (k := 2) rfl
      obtain ⟨r18, σ19, h20, hf⟩ := bl_bd_at hf
      have qσ19 := bl_Fq_call qσ3 (fr_X8_odds σ3 (bl_R σ3 a0 2) _ qσ3.1 qσ3.2.1 h17.1 h20) (by decide)
      have h21 := bl_Fq_gn qσ19 ha0 (k := 2) rfl
      obtain ⟨r22, σ23, h24, hf⟩ := bl_bd_at hf
      have qσ23 := bl_Fq_call qσ19 (fr_X8_sortPart σ19 (bl_R σ19 a0 2) a1 1 _ qσ19.1 qσ19.2.1 h21.1 h24) (by decide)
      rw [← Option.some.inj hf]
      exact qσ23
    rw [← Option.some.inj hf]
    exact qσ3
def md_X9_life : List (Nat × Nat) := []
set_option maxRecDepth 100000 in
theorem fr_X9_life {ho : Nat → Bool} (σ : bl_St) (a0 : Nat) (a1 : Int32) (o : Int32 × bl_St) (hw : bl_WT σ) (hh : bl_WH ho σ) (ha0 : bl_sh[a0]? = some (9, 13)) (hf : f_X9_life σ a0 a1 = some o) : bl_Fq ho md_X9_life σ o.2 := by
  obtain ⟨σ0, hz⟩ : ∃ z, z = σ := ⟨_, rfl⟩
  suffices hgo : bl_Fq ho md_X9_life σ0 o.2 by rw [hz] at hgo; exact hgo
  have qσ : bl_Fq ho md_X9_life σ0 σ := by rw [hz]; exact ⟨hw, hh, fun _ _ => ⟨rfl, rfl, rfl⟩⟩
  have ha0 := And.intro ha0 trivial
  unfold f_X9_life at hf
  rcases bl_if_at hf with hf | hf
  · have h2 := bl_Fq_gn qσ ha0 (k := 2) rfl
    rcases bl_if_at hf with hf | hf
    · rw [← Option.some.inj hf]
      exact qσ
    · have h4 := bl_Fq_gn qσ ha0 (k := 4) rfl
      rw [← Option.some.inj hf]
      exact qσ
  rcases bl_if_at hf with hf | hf
  · have h6 := bl_Fq_gn qσ ha0 (k := 4) rfl
    rcases bl_if_at hf with hf | hf
    · rw [← Option.some.inj hf]
      exact qσ
    · rw [← Option.some.inj hf]
      exact qσ
  rcases bl_if_at hf with hf | hf
  · have h9 := bl_Fq_gn qσ ha0 (k := 4) rfl
    rw [← Option.some.inj hf]
    exact qσ
  rcases bl_if_at hf with hf | hf
  · have h11 := bl_Fq_gn qσ ha0 (k := 4) rfl
    rw [← Option.some.inj hf]
    exact qσ
  rcases bl_if_at hf with hf | hf
  · have h13 := bl_Fq_gn qσ ha0 (k := 4) rfl
    rcases bl_if_at hf with hf | hf
    · rw [← Option.some.inj hf]
      exact qσ
    · rw [← Option.some.inj hf]
      exact qσ
  rcases bl_if_at hf with hf | hf
  · have h16 := bl_Fq_gn qσ ha0 (k := 4) rfl
    rw [← Option.some.inj hf]
    exact qσ
  rcases bl_if_at hf with hf | hf
  · have h18 := bl_Fq_gn qσ ha0 (k := 4) rfl
    rw [← Option.some.inj hf]
    exact qσ
  rcases bl_if_at hf with hf | hf
  · have h20 := bl_Fq_gn qσ ha0 (k := 4) rfl
    rw [← Option.some.inj hf]
    exact qσ
  rcases bl_if_at hf with hf | hf
  · have h22 := bl_Fq_gn qσ ha0 (k := 4) rfl
    rw [← Option.some.inj hf]
    exact qσ
  rcases bl_if_at hf with hf | hf
  · have h24 := bl_Fq_gn qσ ha0 (k := 4) rfl
    rw [← Option.some.inj hf]
    exact qσ
  rcases bl_if_at hf with hf | hf
  · have h26 := bl_Fq_gn qσ ha0 (k := 4) rfl
    rw [← Option.some.inj hf]
    exact qσ
  rcases bl_if_at hf with hf | hf
  · have h28 := bl_Fq_gn qσ ha0 (k := 4) rfl
    rw [← Option.some.inj hf]
    exact qσ
  rcases bl_if_at hf with hf | hf
  · have h30 := bl_Fq_gn qσ ha0 (k := 4) rfl
    obtain ⟨r31, σ32, h33, hf⟩ := bl_bd_at hf
    have qσ32 := bl_Fq_call qσ (fr_X2_allPaid σ (bl_R σ a0 4) _ qσ.1 qσ.2.1 h30.1 h33) (by decide)
    rw [← Option.some.inj hf]
    exact qσ32
  rw [← Option.some.inj hf]
  exact qσ
def md_X9_entry : List (Nat × Nat) := []
set_option maxRecDepth 100000 in
theorem fr_X9_entry {ho : Nat → Bool} (σ : bl_St) (a0 : Nat) (a1 : Int32) (a2 : Int32) (a3 : Int32) (o : Int32 × bl_St) (hw : bl_WT σ) (hh : bl_WH ho σ) (ha0 : bl_sh[a0]? = some (20, 48)) (hf : f_X9_entry σ a0 a1 a2 a3 = some o) : bl_Fq ho md_X9_entry σ o.2 := by
  obtain ⟨σ0, hz⟩ : ∃ z, z = σ := ⟨_, rfl⟩
  suffices hgo : bl_Fq ho md_X9_entry σ0 o.2 by rw [hz] at hgo; exact hgo
  have qσ : bl_Fq ho md_X9_entry σ0 σ := by rw [hz]; exact ⟨hw, hh, fun _ _ => ⟨rfl, rfl, rfl⟩⟩
  have ha0 := And.intro ha0 trivial
  unfold f_X9_entry at hf
  rcases bl_if_at hf with hf | hf
  · rw [← Option.some.inj hf]
    exact qσ
  · rcases bl_if_at hf with hf | hf
    · rw [← Option.some.inj hf]
      exact qσ
    · rcases bl_if_at hf with hf | hf
      · rw [← Option.some.inj hf]
        exact qσ
      · rcases bl_if_at hf with hf | hf
        · obtain ⟨-, hf⟩ := bl_gd_at hf
          rw [← Option.some.inj hf]
          exact qσ
        · rw [← Option.some.inj hf]
          exact qσ
def md_X9_book : List (Nat × Nat) := []
set_option maxRecDepth 100000 in
theorem fr_X9_book {ho : Nat → Bool} (σ : bl_St) (a0 : Nat) (a1 : Int32) (a2 : Int32) (o : Int32 × bl_St) (hw : bl_WT σ) (hh : bl_WH ho σ) (ha0 : bl_sh[a0]? = some (9, 13)) (hf : f_X9_book σ a0 a1 a2 = some o) : bl_Fq ho md_X9_book σ o.2 := by
  obtain ⟨σ0, hz⟩ : ∃ z, z = σ := ⟨_, rfl⟩
  suffices hgo : bl_Fq ho md_X9_book σ0 o.2 by rw [hz] at hgo; exact hgo
  have qσ : bl_Fq ho md_X9_book σ0 σ := by rw [hz]; exact ⟨hw, hh, fun _ _ => ⟨rfl, rfl, rfl⟩⟩
  have ha0 := And.intro ha0 trivial
  unfold f_X9_book at hf
  have h1 := bl_Fq_gn qσ ha0 (k := 4) rfl
  have h2 := bl_Fq_gn qσ h1 (k := 13) rfl
  have h3 := bl_Fq_gn qσ ha0 (k := 4) rfl
  have h4 := bl_Fq_gn qσ ha0 (k := 4) rfl
  obtain ⟨r5, σ6, h7, hf⟩ := bl_bd_at hf
  have qσ6 := bl_Fq_call qσ (fr_X9_entry σ (bl_R σ (bl_R σ a0 4) 13) ((bl_I σ (bl_R σ a0 4) 11) + (bl_I σ (bl_R σ a0 4) 12)) a1 a2 _ qσ.1 qσ.2.1 h2.1 h7) (by decide)
  rw [← Option.some.inj hf]
  exact qσ6
def md_X9_ledger : List (Nat × Nat) := []
set_option maxRecDepth 100000 in
theorem fr_X9_ledger {ho : Nat → Bool} (σ : bl_St) (a0 : Nat) (a1 : Int32) (a2 : Int32) (o : Int32 × bl_St) (hw : bl_WT σ) (hh : bl_WH ho σ) (ha0 : bl_sh[a0]? = some (9, 13)) (hf : f_X9_ledger σ a0 a1 a2 = some o) : bl_Fq ho md_X9_ledger σ o.2 := by
  obtain ⟨σ0, hz⟩ : ∃ z, z = σ := ⟨_, rfl⟩
  suffices hgo : bl_Fq ho md_X9_ledger σ0 o.2 by rw [hz] at hgo; exact hgo
  have qσ : bl_Fq ho md_X9_ledger σ0 σ := by rw [hz]; exact ⟨hw, hh, fun _ _ => ⟨rfl, rfl, rfl⟩⟩
  have ha0 := And.intro ha0 trivial
  unfold f_X9_ledger at hf
  have h1 := bl_Fq_gn qσ ha0 (k := 4) rfl
  have h2 := bl_Fq_gn qσ h1 (k := 14) rfl
  have h3 := bl_Fq_gn qσ ha0 (k := 4) rfl
  obtain ⟨r4, σ5, h6, hf⟩ := bl_bd_at hf
  have qσ5 := bl_Fq_call qσ (fr_X9_entry σ (bl_R σ (bl_R σ a0 4) 14) (bl_I σ (bl_R σ a0 4) 6) a1 a2 _ qσ.1 qσ.2.1 h2.1 h6) (by decide)
  rw [← Option.some.inj hf]
  exact qσ5
def md_X9_commonDivisor : List (Nat × Nat) := []
set_option maxRecDepth 100000 in
theorem gw_X9_commonDivisor_7 {ho : Nat → Bool} {σ0 : bl_St} {out : Int32 × bl_St} (k7 : bl_St → Int32 → Int32 → Int32 → Option (Int32 × bl_St)) (gk7 : ∀ (σ : bl_St) (v2 : Int32) (v3 : Int32) (v4 : Int32), bl_Fq ho md_X9_commonDivisor σ0 σ → k7 σ v2 v3 v4 = some out → bl_Fq ho md_X9_commonDivisor σ0 out.2) : ∀ (σ : bl_St) (v2 : Int32) (v3 : Int32) (v4 : Int32), bl_Fq ho md_X9_commonDivisor σ0 σ → (b_X9_commonDivisor_7 k7) σ v2 v3 v4 = some out → bl_Fq ho md_X9_commonDivisor σ0 out.2 := by
  intro σ v2 v3 v4 qσ  hf
  unfold b_X9_commonDivisor_7 at hf
  rcases bl_if_at hf with hf | hf
  · rw [← Option.some.inj hf]
    exact qσ
  · rcases bl_if_at hf with hf | hf
    · rw [← Option.some.inj hf]
      exact qσ
    · obtain ⟨-, hf⟩ := bl_gd_at hf
      obtain ⟨x4, e5⟩ : ∃ z, z = (v2 - v2 / v3 * v3) := ⟨_, rfl⟩
      have hf := bl_let_at e5 hf
      obtain ⟨x6, e7⟩ : ∃ z : Int32, z = v4 + 1 := ⟨_, rfl⟩
      have hf := bl_let_at e7 hf
      exact gk7 σ v3 x4 x6 qσ  hf
theorem gl_X9_commonDivisor_7 {ho : Nat → Bool} {σ0 : bl_St} {out : Int32 × bl_St} (n : Nat) : ∀ (σ : bl_St) (v2 : Int32) (v3 : Int32) (v4 : Int32), bl_Fq ho md_X9_commonDivisor σ0 σ → (bl_fx (fun _ _ _ _ => none) (b_X9_commonDivisor_7 ) n) σ v2 v3 v4 = some out → bl_Fq ho md_X9_commonDivisor σ0 out.2 := by
  induction n with
  | zero =>
    intro σ v2 v3 v4 qσ  hf
    cases hf
  | succ n ih => exact gw_X9_commonDivisor_7  _ ih
set_option maxRecDepth 100000 in
theorem fr_X9_commonDivisor {ho : Nat → Bool} (σ : bl_St) (a0 : Int32) (a1 : Int32) (o : Int32 × bl_St) (hw : bl_WT σ) (hh : bl_WH ho σ) (hf : f_X9_commonDivisor σ a0 a1 = some o) : bl_Fq ho md_X9_commonDivisor σ o.2 := by
  obtain ⟨σ0, hz⟩ : ∃ z, z = σ := ⟨_, rfl⟩
  suffices hgo : bl_Fq ho md_X9_commonDivisor σ0 o.2 by rw [hz] at hgo; exact hgo
  have qσ : bl_Fq ho md_X9_commonDivisor σ0 σ := by rw [hz]; exact ⟨hw, hh, fun _ _ => ⟨rfl, rfl, rfl⟩⟩
  unfold f_X9_commonDivisor at hf
  exact gl_X9_commonDivisor_7  bl_fu σ a0 a1 0 qσ  hf
def md_X9_mean : List (Nat × Nat) := []
set_option maxRecDepth 100000 in
theorem gw_X9_mean_24 {ho : Nat → Bool} {σ0 : bl_St} {out : Int32 × bl_St} (k24 : bl_St → Nat → Int32 → Int32 → Int32 → Int32 → Option (Int32 × bl_St)) (gk24 : ∀ (σ : bl_St) (v0 : Nat) (v1 : Int32) (v2 : Int32) (v3 : Int32) (v4 : Int32), bl_Fq ho md_X9_mean σ0 σ → (bl_sh[v0]? = some (9, 13) ∧ True) → k24 σ v0 v1 v2 v3 v4 = some out → bl_Fq ho md_X9_mean σ0 out.2) : ∀ (σ : bl_St) (v0 : Nat) (v1 : Int32) (v2 : Int32) (v3 : Int32) (v4 : Int32), bl_Fq ho md_X9_mean σ0 σ → (bl_sh[v0]? = some (9, 13) ∧ True) → (b_X9_mean_24 k24) σ v0 v1 v2 v3 v4 = some out → bl_Fq ho md_X9_mean σ0 out.2 := by
  intro σ v0 v1 v2 v3 v4 qσ hv0 hf
  unfold b_X9_mean_24 at hf
  rcases bl_if_at hf with hf | hf
  · obtain ⟨r2, σ3, h4, hf⟩ := bl_bd_at hf
    have qσ3 := bl_Fq_call qσ (fr_X9_commonDivisor σ v3 v2 _ qσ.1 qσ.2.1  h4) (by decide)
    rcases bl_if_at hf with hf | hf
    · obtain ⟨-, hf⟩ := bl_gd_at hf
      rw [← Option.some.inj hf]
      exact qσ3
    · obtain ⟨-, hf⟩ := bl_gd_at hf
      rw [← Option.some.inj hf]
      exact qσ3
  · have h8 := bl_Fq_gn qσ hv0 (k := 4) rfl
    have h9 := bl_Fq_gn qσ h8 (k := 14) rfl
    have h10 := bl_Fq_gn qσ hv0 (k := 4) rfl
    obtain ⟨r11, σ12, h13, hf⟩ := bl_bd_at hf
    have qσ12 := bl_Fq_call qσ (fr_X9_entry σ (bl_R σ (bl_R σ v0 4) 14) (bl_I σ (bl_R σ v0 4) 6) v4 1 _ qσ.1 qσ.2.1 h9.1 h13) (by decide)
    obtain ⟨x14, e15⟩ : ∃ z, z = (v3 + r11) := ⟨_, rfl⟩
    have hf := bl_let_at e15 hf
    obtain ⟨x16, e17⟩ : ∃ z : Int32, z = v4 + 1 := ⟨_, rfl⟩
    have hf := bl_let_at e17 hf
    exact gk24 σ12 v0 v1 v2 x14 x16 qσ12 hv0 hf
theorem gl_X9_mean_24 {ho : Nat → Bool} {σ0 : bl_St} {out : Int32 × bl_St} (n : Nat) : ∀ (σ : bl_St) (v0 : Nat) (v1 : Int32) (v2 : Int32) (v3 : Int32) (v4 : Int32), bl_Fq ho md_X9_mean σ0 σ → (bl_sh[v0]? = some (9, 13) ∧ True) → (bl_fx (fun _ _ _ _ _ _ => none) (b_X9_mean_24 ) n) σ v0 v1 v2 v3 v4 = some out → bl_Fq ho md_X9_mean σ0 out.2 := by
  induction n with
  | zero =>
    intro σ v0 v1 v2 v3 v4 qσ hv0 hf
    cases hf
  | succ n ih => exact gw_X9_mean_24  _ ih
set_option maxRecDepth 100000 in
theorem fr_X9_mean {ho : Nat → Bool} (σ : bl_St) (a0 : Nat) (a1 : Int32) (o : Int32 × bl_St) (hw : bl_WT σ) (hh : bl_WH ho σ) (ha0 : bl_sh[a0]? = some (9, 13)) (hf : f_X9_mean σ a0 a1 = some o) : bl_Fq ho md_X9_mean σ o.2 := by
  obtain ⟨σ0, hz⟩ : ∃ z, z = σ := ⟨_, rfl⟩
  suffices hgo : bl_Fq ho md_X9_mean σ0 o.2 by rw [hz] at hgo; exact hgo
  have qσ : bl_Fq ho md_X9_mean σ0 σ := by rw [hz]; exact ⟨hw, hh, fun _ _ => ⟨rfl, rfl, rfl⟩⟩
  have ha0 := And.intro ha0 trivial
  unfold f_X9_mean at hf
  have h18 := bl_Fq_gn qσ ha0 (k := 4) rfl
  obtain ⟨x19, e20⟩ : ∃ z, z = (if (bl_I σ (bl_R σ a0 4) 6) < 16 then (bl_I σ (bl_R σ a0 4) 6) else 16) := ⟨_, rfl⟩
  have hf := bl_let_at e20 hf
  rcases bl_if_at hf with hf | hf
  · exact gl_X9_mean_24  bl_fu σ a0 a1 x19 0 0 qσ ha0 hf
  · rw [← Option.some.inj hf]
    exact qσ
def md_X9_isAsked : List (Nat × Nat) := []
set_option maxRecDepth 100000 in
theorem fr_X9_isAsked {ho : Nat → Bool} (σ : bl_St) (a0 : Nat) (a1 : Int32) (a2 : Int32) (o : Int32 × bl_St) (hw : bl_WT σ) (hh : bl_WH ho σ) (ha0 : bl_sh[a0]? = some (9, 13)) (hf : f_X9_isAsked σ a0 a1 a2 = some o) : bl_Fq ho md_X9_isAsked σ o.2 := by
  obtain ⟨σ0, hz⟩ : ∃ z, z = σ := ⟨_, rfl⟩
  suffices hgo : bl_Fq ho md_X9_isAsked σ0 o.2 by rw [hz] at hgo; exact hgo
  have qσ : bl_Fq ho md_X9_isAsked σ0 σ := by rw [hz]; exact ⟨hw, hh, fun _ _ => ⟨rfl, rfl, rfl⟩⟩
  have ha0 := And.intro ha0 trivial
  unfold f_X9_isAsked at hf
  rcases bl_if_at hf with hf | hf
  · rw [← Option.some.inj hf]
    exact qσ
  · rcases bl_if_at hf with hf | hf
    · rw [← Option.some.inj hf]
      exact qσ
    · have h3 := bl_Fq_gn qσ ha0 (k := 2) rfl
      obtain ⟨r4, σ5, h6, hf⟩ := bl_bd_at hf
      have qσ5 := bl_Fq_call qσ (fr_X8_hasClass σ (bl_R σ a0 2) a2 _ qσ.1 qσ.2.1 h3.1 h6) (by decide)
      rcases bl_if_at hf with hf | hf
      · rw [← Option.some.inj hf]
        exact qσ5
      · rw [← Option.some.inj hf]
        exact qσ5
def md_X9_cost : List (Nat × Nat) := [(3, 8), (4, 12), (20, 5), (21, 5), (21, 42), (21, 168)]
set_option maxRecDepth 100000 in
theorem fr_X9_cost {ho : Nat → Bool} (σ : bl_St) (a0 : Nat) (a1 : Int32) (a2 : Int32) (o : Int64 × bl_St) (hw : bl_WT σ) (hh : bl_WH ho σ) (ha0 : bl_sh[a0]? = some (9, 13) ∧ ho a0 = true) (hf : f_X9_cost σ a0 a1 a2 = some o) : bl_Fq ho md_X9_cost σ o.2 := by
  obtain ⟨σ0, hz⟩ : ∃ z, z = σ := ⟨_, rfl⟩
  suffices hgo : bl_Fq ho md_X9_cost σ0 o.2 by rw [hz] at hgo; exact hgo
  have qσ : bl_Fq ho md_X9_cost σ0 σ := by rw [hz]; exact ⟨hw, hh, fun _ _ => ⟨rfl, rfl, rfl⟩⟩
  unfold f_X9_cost at hf
  obtain ⟨r1, σ2, h3, hf⟩ := bl_bd_at hf
  have qσ2 := bl_Fq_call qσ (fr_X9_isAsked σ a0 a1 a2 _ qσ.1 qσ.2.1 ha0.1 h3) (by decide)
  rcases bl_if_at hf with hf | hf
  · rw [← Option.some.inj hf]
    exact qσ2
  · have h5 := bl_Fq_g qσ2 ha0 (k := 7) rfl (by decide)
    obtain ⟨r6, σ7, h8, hf⟩ := bl_bd_at hf
    have qσ7 := bl_Fq_call qσ2 (fr_X4_costOf σ2 (bl_R σ2 a0 7) a1 a2 _ qσ2.1 qσ2.2.1 h5 h8) (by decide)
    rw [← Option.some.inj hf]
    exact qσ7
def md_X9_guards : List (Nat × Nat) := [(3, 8), (4, 12), (20, 5), (21, 5), (21, 42), (21, 168)]
set_option maxRecDepth 100000 in
theorem fr_X9_guards {ho : Nat → Bool} (σ : bl_St) (a0 : Nat) (a1 : Int32) (a2 : Int32) (o : Int32 × bl_St) (hw : bl_WT σ) (hh : bl_WH ho σ) (ha0 : bl_sh[a0]? = some (9, 13) ∧ ho a0 = true) (hf : f_X9_guards σ a0 a1 a2 = some o) : bl_Fq ho md_X9_guards σ o.2 := by
  obtain ⟨σ0, hz⟩ : ∃ z, z = σ := ⟨_, rfl⟩
  suffices hgo : bl_Fq ho md_X9_guards σ0 o.2 by rw [hz] at hgo; exact hgo
  have qσ : bl_Fq ho md_X9_guards σ0 σ := by rw [hz]; exact ⟨hw, hh, fun _ _ => ⟨rfl, rfl, rfl⟩⟩
  unfold f_X9_guards at hf
  obtain ⟨r1, σ2, h3, hf⟩ := bl_bd_at hf
  have qσ2 := bl_Fq_call qσ (fr_X9_isAsked σ a0 a1 a2 _ qσ.1 qσ.2.1 ha0.1 h3) (by decide)
  rcases bl_if_at hf with hf | hf
  · rw [← Option.some.inj hf]
    exact qσ2
  · rcases bl_if_at hf with hf | hf
    · rw [← Option.some.inj hf]
      exact qσ2
    · have h6 := bl_Fq_g qσ2 ha0 (k := 7) rfl (by decide)
      obtain ⟨r7, σ8, h9, hf⟩ := bl_bd_at hf
      have qσ8 := bl_Fq_call qσ2 (fr_X4_learn σ2 (bl_R σ2 a0 7) (a1 - 1) _ qσ2.1 qσ2.2.1 h6 h9) (by decide)
      have h10 := bl_Fq_g qσ8 ha0 (k := 7) rfl (by decide)
      obtain ⟨r11, σ12, h13, hf⟩ := bl_bd_at hf
      have qσ12 := bl_Fq_call qσ8 (fr_X4_buys σ8 (bl_R σ8 a0 7) a1 a2 _ qσ8.1 qσ8.2.1 h10 h13) (by decide)
      rcases bl_if_at hf with hf | hf
      · rw [← Option.some.inj hf]
        exact qσ12
      · rw [← Option.some.inj hf]
        exact qσ12
def md_X9_isState : List (Nat × Nat) := []
set_option maxRecDepth 100000 in
theorem fr_X9_isState {ho : Nat → Bool} (σ : bl_St) (a0 : Nat) (a1 : Int32) (a2 : Int32) (a3 : Int32) (a4 : Int32) (o : Int32 × bl_St) (hw : bl_WT σ) (hh : bl_WH ho σ) (ha0 : bl_sh[a0]? = some (9, 13)) (hf : f_X9_isState σ a0 a1 a2 a3 a4 = some o) : bl_Fq ho md_X9_isState σ o.2 := by
  obtain ⟨σ0, hz⟩ : ∃ z, z = σ := ⟨_, rfl⟩
  suffices hgo : bl_Fq ho md_X9_isState σ0 o.2 by rw [hz] at hgo; exact hgo
  have qσ : bl_Fq ho md_X9_isState σ0 σ := by rw [hz]; exact ⟨hw, hh, fun _ _ => ⟨rfl, rfl, rfl⟩⟩
  have ha0 := And.intro ha0 trivial
  unfold f_X9_isState at hf
  rcases bl_if_at hf with hf | hf
  · rw [← Option.some.inj hf]
    exact qσ
  · obtain ⟨r2, σ3, h4, hf⟩ := bl_bd_at hf
    have qσ3 := bl_Fq_call qσ (fr_X9_isAsked σ a0 a1 a2 _ qσ.1 qσ.2.1 ha0.1 h4) (by decide)
    rcases bl_if_at hf with hf | hf
    · rw [← Option.some.inj hf]
      exact qσ3
    · rcases bl_if_at hf with hf | hf
      · rw [← Option.some.inj hf]
        exact qσ3
      · have h7 := bl_Fq_gn qσ3 ha0 (k := 2) rfl
        obtain ⟨r8, σ9, h10, hf⟩ := bl_bd_at hf
        have qσ9 := bl_Fq_call qσ3 (fr_X8_chances σ3 (bl_R σ3 a0 2) _ qσ3.1 qσ3.2.1 h7.1 h10) (by decide)
        rcases bl_if_at hf with hf | hf
        · rw [← Option.some.inj hf]
          exact qσ9
        · rcases bl_if_at hf with hf | hf
          · rw [← Option.some.inj hf]
            exact qσ9
          · rcases bl_if_at hf with hf | hf
            · rw [← Option.some.inj hf]
              exact qσ9
            · rw [← Option.some.inj hf]
              exact qσ9
def md_X9_ahead : List (Nat × Nat) := [(3, 8), (4, 12), (20, 5), (21, 5), (21, 42), (21, 168)]
set_option maxRecDepth 100000 in
theorem fr_X9_ahead {ho : Nat → Bool} (σ : bl_St) (a0 : Nat) (a1 : Int32) (a2 : Int32) (a3 : Int32) (a4 : Int32) (a5 : Int32) (o : Int64 × bl_St) (hw : bl_WT σ) (hh : bl_WH ho σ) (ha0 : bl_sh[a0]? = some (9, 13) ∧ ho a0 = true) (hf : f_X9_ahead σ a0 a1 a2 a3 a4 a5 = some o) : bl_Fq ho md_X9_ahead σ o.2 := by
  obtain ⟨σ0, hz⟩ : ∃ z, z = σ := ⟨_, rfl⟩
  suffices hgo : bl_Fq ho md_X9_ahead σ0 o.2 by rw [hz] at hgo; exact hgo
  have qσ : bl_Fq ho md_X9_ahead σ0 σ := by rw [hz]; exact ⟨hw, hh, fun _ _ => ⟨rfl, rfl, rfl⟩⟩
  unfold f_X9_ahead at hf
  obtain ⟨r1, σ2, h3, hf⟩ := bl_bd_at hf
  have qσ2 := bl_Fq_call qσ (fr_X9_isState σ a0 a1 a2 a3 a4 _ qσ.1 qσ.2.1 ha0.1 h3) (by decide)
  rcases bl_if_at hf with hf | hf
  · rw [← Option.some.inj hf]
    exact qσ2
  · have h5 := bl_Fq_g qσ2 ha0 (k := 7) rfl (by decide)
    obtain ⟨r6, σ7, h8, hf⟩ := bl_bd_at hf
    have qσ7 := bl_Fq_call qσ2 (fr_X4_learn σ2 (bl_R σ2 a0 7) (a1 - 1) _ qσ2.1 qσ2.2.1 h5 h8) (by decide)
    have h9 := bl_Fq_g qσ7 ha0 (k := 7) rfl (by decide)
    obtain ⟨r10, σ11, h12, hf⟩ := bl_bd_at hf
    have qσ11 := bl_Fq_call qσ7 (fr_X4_lookAhead σ7 (bl_R σ7 a0 7) a1 a2 a3 a4 a5 _ qσ7.1 qσ7.2.1 h9 h12) (by decide)
    have h13 := bl_Fq_g qσ11 ha0 (k := 7) rfl (by decide)
    obtain ⟨r14, σ15, h16, hf⟩ := bl_bd_at hf
    have qσ15 := bl_Fq_call qσ11 (fr_X4_aheadOf σ11 (bl_R σ11 a0 7) a3 a4 a5 _ qσ11.1 qσ11.2.1 h13.1 h16) (by decide)
    rw [← Option.some.inj hf]
    exact qσ15
def md_X9_least : List (Nat × Nat) := [(3, 8), (4, 12), (20, 5), (21, 5), (21, 42), (21, 168)]
set_option maxRecDepth 100000 in
theorem fr_X9_least {ho : Nat → Bool} (σ : bl_St) (a0 : Nat) (a1 : Int32) (a2 : Int32) (a3 : Int32) (a4 : Int32) (a5 : Int32) (o : Int32 × bl_St) (hw : bl_WT σ) (hh : bl_WH ho σ) (ha0 : bl_sh[a0]? = some (9, 13) ∧ ho a0 = true) (hf : f_X9_least σ a0 a1 a2 a3 a4 a5 = some o) : bl_Fq ho md_X9_least σ o.2 := by
  obtain ⟨σ0, hz⟩ : ∃ z, z = σ := ⟨_, rfl⟩
  suffices hgo : bl_Fq ho md_X9_least σ0 o.2 by rw [hz] at hgo; exact hgo
  have qσ : bl_Fq ho md_X9_least σ0 σ := by rw [hz]; exact ⟨hw, hh, fun _ _ => ⟨rfl, rfl, rfl⟩⟩
  unfold f_X9_least at hf
  obtain ⟨r1, σ2, h3, hf⟩ := bl_bd_at hf
  have qσ2 := bl_Fq_call qσ (fr_X9_isState σ a0 a1 a2 a3 a4 _ qσ.1 qσ.2.1 ha0.1 h3) (by decide)
  rcases bl_if_at hf with hf | hf
  · rw [← Option.some.inj hf]
    exact qσ2
  · have h5 := bl_Fq_g qσ2 ha0 (k := 2) rfl (by decide)
    obtain ⟨r6, σ7, h8, hf⟩ := bl_bd_at hf
    have qσ7 := bl_Fq_call qσ2 (fr_X8_chances σ2 (bl_R σ2 a0 2) _ qσ2.1 qσ2.2.1 h5.1 h8) (by decide)
    rcases bl_if_at hf with hf | hf
    · rw [← Option.some.inj hf]
      exact qσ7
    · have h10 := bl_Fq_g qσ7 ha0 (k := 7) rfl (by decide)
      obtain ⟨r11, σ12, h13, hf⟩ := bl_bd_at hf
      have qσ12 := bl_Fq_call qσ7 (fr_X4_learn σ7 (bl_R σ7 a0 7) (a1 - 1) _ qσ7.1 qσ7.2.1 h10 h13) (by decide)
      have h14 := bl_Fq_g qσ12 ha0 (k := 7) rfl (by decide)
      obtain ⟨r15, σ16, h17, hf⟩ := bl_bd_at hf
      have qσ16 := bl_Fq_call qσ12 (fr_X4_lookAhead σ12 (bl_R σ12 a0 7) a1 a2 a3 a4 a5 _ qσ12.1 qσ12.2.1 h14 h17) (by decide)
      have h18 := bl_Fq_g qσ16 ha0 (k := 7) rfl (by decide)
      obtain ⟨r19, σ20, h21, hf⟩ := bl_bd_at hf
      have qσ20 := bl_Fq_call qσ16 (fr_X4_leastTold σ16 (bl_R σ16 a0 7) a3 a4 a5 _ qσ16.1 qσ16.2.1 h18.1 h21) (by decide)
      rw [← Option.some.inj hf]
      exact qσ20
def md_X9_tells : List (Nat × Nat) := [(3, 8), (4, 12), (20, 5), (21, 5), (21, 42), (21, 168)]
set_option maxRecDepth 100000 in
theorem gw_X9_tells_95 {ho : Nat → Bool} {σ0 : bl_St} {out : Int32 × bl_St} (k55 : bl_St → Nat → Int32 → Int32 → Int32 → Int32 → Int32 → Option (Int32 × bl_St)) (gk55 : ∀ (σ : bl_St) (v0 : Nat) (v3 : Int32) (v4 : Int32) (v5 : Int32) (v6 : Int32) (v7 : Int32), bl_Fq ho md_X9_tells σ0 σ → (bl_sh[v0]? = some (9, 13) ∧ ho v0 = true) → k55 σ v0 v3 v4 v5 v6 v7 = some out → bl_Fq ho md_X9_tells σ0 out.2) : ∀ (σ : bl_St) (v0 : Nat) (v3 : Int32) (v4 : Int32) (v5 : Int32) (v6 : Int32) (v7 : Int32), bl_Fq ho md_X9_tells σ0 σ → (bl_sh[v0]? = some (9, 13) ∧ ho v0 = true) → (b_X9_tells_95 k55) σ v0 v3 v4 v5 v6 v7 = some out → bl_Fq ho md_X9_tells σ0 out.2 := by
  intro σ v0 v3 v4 v5 v6 v7 qσ hv0 hf
  unfold b_X9_tells_95 at hf
  obtain ⟨x1, e2⟩ : ∃ z : Int32, z = v7 + 1 := ⟨_, rfl⟩
  have hf := bl_let_at e2 hf
  exact gk55 σ v0 v3 v4 v5 v6 x1 qσ hv0 hf
set_option maxRecDepth 100000 in
theorem gw_X9_tells_55 {ho : Nat → Bool} {σ0 : bl_St} {out : Int32 × bl_St} (k55 : bl_St → Nat → Int32 → Int32 → Int32 → Int32 → Int32 → Option (Int32 × bl_St)) (gk55 : ∀ (σ : bl_St) (v0 : Nat) (v3 : Int32) (v4 : Int32) (v5 : Int32) (v6 : Int32) (v7 : Int32), bl_Fq ho md_X9_tells σ0 σ → (bl_sh[v0]? = some (9, 13) ∧ ho v0 = true) → k55 σ v0 v3 v4 v5 v6 v7 = some out → bl_Fq ho md_X9_tells σ0 out.2) : ∀ (σ : bl_St) (v0 : Nat) (v3 : Int32) (v4 : Int32) (v5 : Int32) (v6 : Int32) (v7 : Int32), bl_Fq ho md_X9_tells σ0 σ → (bl_sh[v0]? = some (9, 13) ∧ ho v0 = true) → (b_X9_tells_55 k55) σ v0 v3 v4 v5 v6 v7 = some out → bl_Fq ho md_X9_tells σ0 out.2 := by
  intro σ v0 v3 v4 v5 v6 v7 qσ hv0 hf
  unfold b_X9_tells_55 at hf
  have h3 := bl_Fq_g qσ hv0 (k := 2) rfl (by decide)
  rcases bl_if_at hf with hf | hf
  · rw [← Option.some.inj hf]
    exact qσ
  · have h5 := bl_Fq_g qσ hv0 (k := 7) rfl (by decide)
    obtain ⟨r6, σ7, h8, hf⟩ := bl_bd_at hf
    have qσ7 := bl_Fq_call qσ (fr_X4_gainOf σ (bl_R σ v0 7) v3 v4 v5 v7 _ qσ.1 qσ.2.1 h5.1 h8) (by decide)
    rcases bl_if_at hf with hf | hf
    · exact gw_X9_tells_95 k55 gk55 σ7 v0 v3 v4 v5 v6 v7 qσ7 hv0 hf
    · obtain ⟨x10, e11⟩ : ∃ z, z = (v6 ||| (1 <<< (v7 &&& 31))) := ⟨_, rfl⟩
      have hf := bl_let_at e11 hf
      exact gw_X9_tells_95 k55 gk55 σ7 v0 v3 v4 v5 x10 v7 qσ7 hv0 hf
theorem gl_X9_tells_55 {ho : Nat → Bool} {σ0 : bl_St} {out : Int32 × bl_St} (n : Nat) : ∀ (σ : bl_St) (v0 : Nat) (v3 : Int32) (v4 : Int32) (v5 : Int32) (v6 : Int32) (v7 : Int32), bl_Fq ho md_X9_tells σ0 σ → (bl_sh[v0]? = some (9, 13) ∧ ho v0 = true) → (bl_fx (fun _ _ _ _ _ _ _ => none) (b_X9_tells_55 ) n) σ v0 v3 v4 v5 v6 v7 = some out → bl_Fq ho md_X9_tells σ0 out.2 := by
  induction n with
  | zero =>
    intro σ v0 v3 v4 v5 v6 v7 qσ hv0 hf
    cases hf
  | succ n ih => exact gw_X9_tells_55  _ ih
set_option maxRecDepth 100000 in
theorem fr_X9_tells {ho : Nat → Bool} (σ : bl_St) (a0 : Nat) (a1 : Int32) (a2 : Int32) (a3 : Int32) (a4 : Int32) (a5 : Int32) (o : Int32 × bl_St) (hw : bl_WT σ) (hh : bl_WH ho σ) (ha0 : bl_sh[a0]? = some (9, 13) ∧ ho a0 = true) (hf : f_X9_tells σ a0 a1 a2 a3 a4 a5 = some o) : bl_Fq ho md_X9_tells σ o.2 := by
  obtain ⟨σ0, hz⟩ : ∃ z, z = σ := ⟨_, rfl⟩
  suffices hgo : bl_Fq ho md_X9_tells σ0 o.2 by rw [hz] at hgo; exact hgo
  have qσ : bl_Fq ho md_X9_tells σ0 σ := by rw [hz]; exact ⟨hw, hh, fun _ _ => ⟨rfl, rfl, rfl⟩⟩
  unfold f_X9_tells at hf
  obtain ⟨r12, σ13, h14, hf⟩ := bl_bd_at hf
  have qσ13 := bl_Fq_call qσ (fr_X9_isState σ a0 a1 a2 a3 a4 _ qσ.1 qσ.2.1 ha0.1 h14) (by decide)
  rcases bl_if_at hf with hf | hf
  · rw [← Option.some.inj hf]
    exact qσ13
  · have h16 := bl_Fq_g qσ13 ha0 (k := 2) rfl (by decide)
    obtain ⟨r17, σ18, h19, hf⟩ := bl_bd_at hf
    have qσ18 := bl_Fq_call qσ13 (fr_X8_chances σ13 (bl_R σ13 a0 2) _ qσ13.1 qσ13.2.1 h16.1 h19) (by decide)
    rcases bl_if_at hf with hf | hf
    · rw [← Option.some.inj hf]
      exact qσ18
    · have h21 := bl_Fq_g qσ18 ha0 (k := 7) rfl (by decide)
      obtain ⟨r22, σ23, h24, hf⟩ := bl_bd_at hf
      have qσ23 := bl_Fq_call qσ18 (fr_X4_learn σ18 (bl_R σ18 a0 7) (a1 - 1) _ qσ18.1 qσ18.2.1 h21 h24) (by decide)
      have h25 := bl_Fq_g qσ23 ha0 (k := 7) rfl (by decide)
      obtain ⟨r26, σ27, h28, hf⟩ := bl_bd_at hf
      have qσ27 := bl_Fq_call qσ23 (fr_X4_lookAhead σ23 (bl_R σ23 a0 7) a1 a2 a3 a4 a5 _ qσ23.1 qσ23.2.1 h25 h28) (by decide)
      exact gl_X9_tells_55  bl_fu σ27 a0 a3 a4 a5 0 0 qσ27 ha0 hf
def md_X9_gain : List (Nat × Nat) := [(3, 8), (4, 12), (20, 5), (21, 5), (21, 42), (21, 168)]
set_option maxRecDepth 100000 in
theorem fr_X9_gain {ho : Nat → Bool} (σ : bl_St) (a0 : Nat) (a1 : Int32) (a2 : Int32) (a3 : Int32) (a4 : Int32) (a5 : Int32) (a6 : Int32) (o : Int64 × bl_St) (hw : bl_WT σ) (hh : bl_WH ho σ) (ha0 : bl_sh[a0]? = some (9, 13) ∧ ho a0 = true) (hf : f_X9_gain σ a0 a1 a2 a3 a4 a5 a6 = some o) : bl_Fq ho md_X9_gain σ o.2 := by
  obtain ⟨σ0, hz⟩ : ∃ z, z = σ := ⟨_, rfl⟩
  suffices hgo : bl_Fq ho md_X9_gain σ0 o.2 by rw [hz] at hgo; exact hgo
  have qσ : bl_Fq ho md_X9_gain σ0 σ := by rw [hz]; exact ⟨hw, hh, fun _ _ => ⟨rfl, rfl, rfl⟩⟩
  unfold f_X9_gain at hf
  obtain ⟨r1, σ2, h3, hf⟩ := bl_bd_at hf
  have qσ2 := bl_Fq_call qσ (fr_X9_isState σ a0 a1 a2 a3 a4 _ qσ.1 qσ.2.1 ha0.1 h3) (by decide)
  rcases bl_if_at hf with hf | hf
  · rw [← Option.some.inj hf]
    exact qσ2
  · have h5 := bl_Fq_g qσ2 ha0 (k := 2) rfl (by decide)
    obtain ⟨r6, σ7, h8, hf⟩ := bl_bd_at hf
    have qσ7 := bl_Fq_call qσ2 (fr_X8_chances σ2 (bl_R σ2 a0 2) _ qσ2.1 qσ2.2.1 h5.1 h8) (by decide)
    rcases bl_if_at hf with hf | hf
    · rw [← Option.some.inj hf]
      exact qσ7
    · have h10 := bl_Fq_g qσ7 ha0 (k := 2) rfl (by decide)
      obtain ⟨r11, σ12, h13, hf⟩ := bl_bd_at hf
      have qσ12 := bl_Fq_call qσ7 (fr_X8_hasSort σ7 (bl_R σ7 a0 2) a6 _ qσ7.1 qσ7.2.1 h10.1 h13) (by decide)
      rcases bl_if_at hf with hf | hf
      · rw [← Option.some.inj hf]
        exact qσ12
      · have h15 := bl_Fq_g qσ12 ha0 (k := 7) rfl (by decide)
        obtain ⟨r16, σ17, h18, hf⟩ := bl_bd_at hf
        have qσ17 := bl_Fq_call qσ12 (fr_X4_learn σ12 (bl_R σ12 a0 7) (a1 - 1) _ qσ12.1 qσ12.2.1 h15 h18) (by decide)
        have h19 := bl_Fq_g qσ17 ha0 (k := 7) rfl (by decide)
        obtain ⟨r20, σ21, h22, hf⟩ := bl_bd_at hf
        have qσ21 := bl_Fq_call qσ17 (fr_X4_lookAhead σ17 (bl_R σ17 a0 7) a1 a2 a3 a4 a5 _ qσ17.1 qσ17.2.1 h19 h22) (by decide)
        have h23 := bl_Fq_g qσ21 ha0 (k := 7) rfl (by decide)
        obtain ⟨r24, σ25, h26, hf⟩ := bl_bd_at hf
        have qσ25 := bl_Fq_call qσ21 (fr_X4_gainOf σ21 (bl_R σ21 a0 7) a3 a4 a5 a6 _ qσ21.1 qσ21.2.1 h23.1 h26) (by decide)
        rw [← Option.some.inj hf]
        exact qσ25
def md_X9_patience : List (Nat × Nat) := [(3, 8), (4, 12), (20, 5), (21, 5), (21, 42), (21, 168)]
set_option maxRecDepth 100000 in
theorem gw_X9_patience_26 {ho : Nat → Bool} {σ0 : bl_St} {out : Int32 × bl_St} (k26 : bl_St → Nat → Int32 → Int32 → Int32 → Option (Int32 × bl_St)) (gk26 : ∀ (σ : bl_St) (v0 : Nat) (v1 : Int32) (v2 : Int32) (v3 : Int32), bl_Fq ho md_X9_patience σ0 σ → (bl_sh[v0]? = some (9, 13) ∧ ho v0 = true) → k26 σ v0 v1 v2 v3 = some out → bl_Fq ho md_X9_patience σ0 out.2) : ∀ (σ : bl_St) (v0 : Nat) (v1 : Int32) (v2 : Int32) (v3 : Int32), bl_Fq ho md_X9_patience σ0 σ → (bl_sh[v0]? = some (9, 13) ∧ ho v0 = true) → (b_X9_patience_26 k26) σ v0 v1 v2 v3 = some out → bl_Fq ho md_X9_patience σ0 out.2 := by
  intro σ v0 v1 v2 v3 qσ hv0 hf
  unfold b_X9_patience_26 at hf
  rcases bl_if_at hf with hf | hf
  · rw [← Option.some.inj hf]
    exact qσ
  · have h2 := bl_Fq_g qσ hv0 (k := 7) rfl (by decide)
    obtain ⟨r3, σ4, h5, hf⟩ := bl_bd_at hf
    have qσ4 := bl_Fq_call qσ (fr_X4_learn σ (bl_R σ v0 7) (v3 - 1) _ qσ.1 qσ.2.1 h2 h5) (by decide)
    have h6 := bl_Fq_g qσ4 hv0 (k := 7) rfl (by decide)
    obtain ⟨r7, σ8, h9, hf⟩ := bl_bd_at hf
    have qσ8 := bl_Fq_call qσ4 (fr_X4_lookAhead σ4 (bl_R σ4 v0 7) v3 v1 0 0 0 _ qσ4.1 qσ4.2.1 h6 h9) (by decide)
    have h10 := bl_Fq_g qσ8 hv0 (k := 7) rfl (by decide)
    obtain ⟨r11, σ12, h13, hf⟩ := bl_bd_at hf
    have qσ12 := bl_Fq_call qσ8 (fr_X4_gainOf σ8 (bl_R σ8 v0 7) 0 0 0 v2 _ qσ8.1 qσ8.2.1 h10.1 h13) (by decide)
    rcases bl_if_at hf with hf | hf
    · obtain ⟨x15, e16⟩ : ∃ z : Int32, z = v3 + 1 := ⟨_, rfl⟩
      have hf := bl_let_at e16 hf
      exact gk26 σ12 v0 v1 v2 x15 qσ12 hv0 hf
    · rw [← Option.some.inj hf]
      exact qσ12
theorem gl_X9_patience_26 {ho : Nat → Bool} {σ0 : bl_St} {out : Int32 × bl_St} (n : Nat) : ∀ (σ : bl_St) (v0 : Nat) (v1 : Int32) (v2 : Int32) (v3 : Int32), bl_Fq ho md_X9_patience σ0 σ → (bl_sh[v0]? = some (9, 13) ∧ ho v0 = true) → (bl_fx (fun _ _ _ _ _ => none) (b_X9_patience_26 ) n) σ v0 v1 v2 v3 = some out → bl_Fq ho md_X9_patience σ0 out.2 := by
  induction n with
  | zero =>
    intro σ v0 v1 v2 v3 qσ hv0 hf
    cases hf
  | succ n ih => exact gw_X9_patience_26  _ ih
set_option maxRecDepth 100000 in
theorem fr_X9_patience {ho : Nat → Bool} (σ : bl_St) (a0 : Nat) (a1 : Int32) (a2 : Int32) (o : Int32 × bl_St) (hw : bl_WT σ) (hh : bl_WH ho σ) (ha0 : bl_sh[a0]? = some (9, 13) ∧ ho a0 = true) (hf : f_X9_patience σ a0 a1 a2 = some o) : bl_Fq ho md_X9_patience σ o.2 := by
  obtain ⟨σ0, hz⟩ : ∃ z, z = σ := ⟨_, rfl⟩
  suffices hgo : bl_Fq ho md_X9_patience σ0 o.2 by rw [hz] at hgo; exact hgo
  have qσ : bl_Fq ho md_X9_patience σ0 σ := by rw [hz]; exact ⟨hw, hh, fun _ _ => ⟨rfl, rfl, rfl⟩⟩
  unfold f_X9_patience at hf
  have h17 := bl_Fq_g qσ ha0 (k := 2) rfl (by decide)
  obtain ⟨r18, σ19, h20, hf⟩ := bl_bd_at hf
  have qσ19 := bl_Fq_call qσ (fr_X8_hasClass σ (bl_R σ a0 2) a1 _ qσ.1 qσ.2.1 h17.1 h20) (by decide)
  rcases bl_if_at hf with hf | hf
  · rw [← Option.some.inj hf]
    exact qσ19
  · have h22 := bl_Fq_g qσ19 ha0 (k := 2) rfl (by decide)
    obtain ⟨r23, σ24, h25, hf⟩ := bl_bd_at hf
    have qσ24 := bl_Fq_call qσ19 (fr_X8_hasSort σ19 (bl_R σ19 a0 2) a2 _ qσ19.1 qσ19.2.1 h22.1 h25) (by decide)
    rcases bl_if_at hf with hf | hf
    · rw [← Option.some.inj hf]
      exact qσ24
    · exact gl_X9_patience_26  bl_fu σ24 a0 a1 a2 1 qσ24 ha0 hf
def md_X9_worst : List (Nat × Nat) := [(3, 8), (4, 12), (20, 5), (21, 5), (21, 42), (21, 168)]
set_option maxRecDepth 100000 in
theorem fr_X9_worst {ho : Nat → Bool} (σ : bl_St) (a0 : Nat) (a1 : Int32) (a2 : Int32) (o : Int64 × bl_St) (hw : bl_WT σ) (hh : bl_WH ho σ) (ha0 : bl_sh[a0]? = some (9, 13) ∧ ho a0 = true) (hf : f_X9_worst σ a0 a1 a2 = some o) : bl_Fq ho md_X9_worst σ o.2 := by
  obtain ⟨σ0, hz⟩ : ∃ z, z = σ := ⟨_, rfl⟩
  suffices hgo : bl_Fq ho md_X9_worst σ0 o.2 by rw [hz] at hgo; exact hgo
  have qσ : bl_Fq ho md_X9_worst σ0 σ := by rw [hz]; exact ⟨hw, hh, fun _ _ => ⟨rfl, rfl, rfl⟩⟩
  unfold f_X9_worst at hf
  obtain ⟨r1, σ2, h3, hf⟩ := bl_bd_at hf
  have qσ2 := bl_Fq_call qσ (fr_X9_isAsked σ a0 a1 a2 _ qσ.1 qσ.2.1 ha0.1 h3) (by decide)
  rcases bl_if_at hf with hf | hf
  · rw [← Option.some.inj hf]
    exact qσ2
  · have h5 := bl_Fq_g qσ2 ha0 (k := 8) rfl (by decide)
    have h6 := bl_Fq_g qσ2 ha0 (k := 2) rfl (by decide)
    obtain ⟨r7, σ8, h9, hf⟩ := bl_bd_at hf
    have qσ8 := bl_Fq_call qσ2 (fr_X4_look σ2 (bl_R σ2 a0 8) (bl_R σ2 a0 2) 0 _ qσ2.1 qσ2.2.1 h5 h6.1 h9) (by decide)
    have h10 := bl_Fq_g qσ8 ha0 (k := 8) rfl (by decide)
    obtain ⟨σ11, e12⟩ : ∃ z : bl_St, z = bl_pI σ8 (bl_R σ8 a0 8) 4 1 := ⟨_, rfl⟩
    have hf := bl_let_at e12 hf
    have qσ11 : bl_Fq ho md_X9_worst σ0 σ11 := by rw [e12]; exact bl_Fq_I qσ8 (bl_al_in h10.1 (by decide) h10.2)
    have h13 := bl_Fq_g qσ11 ha0 (k := 8) rfl (by decide)
    obtain ⟨r14, σ15, h16, hf⟩ := bl_bd_at hf
    have qσ15 := bl_Fq_call qσ11 (fr_X4_costOf σ11 (bl_R σ11 a0 8) a1 a2 _ qσ11.1 qσ11.2.1 h13 h16) (by decide)
    rw [← Option.some.inj hf]
    exact qσ15
def md_X9_bareCost : List (Nat × Nat) := [(3, 8), (4, 12), (20, 5), (21, 5), (21, 42), (21, 168)]
set_option maxRecDepth 100000 in
theorem fr_X9_bareCost {ho : Nat → Bool} (σ : bl_St) (a0 : Nat) (a1 : Int32) (a2 : Int32) (o : Int64 × bl_St) (hw : bl_WT σ) (hh : bl_WH ho σ) (ha0 : bl_sh[a0]? = some (9, 13) ∧ ho a0 = true) (hf : f_X9_bareCost σ a0 a1 a2 = some o) : bl_Fq ho md_X9_bareCost σ o.2 := by
  obtain ⟨σ0, hz⟩ : ∃ z, z = σ := ⟨_, rfl⟩
  suffices hgo : bl_Fq ho md_X9_bareCost σ0 o.2 by rw [hz] at hgo; exact hgo
  have qσ : bl_Fq ho md_X9_bareCost σ0 σ := by rw [hz]; exact ⟨hw, hh, fun _ _ => ⟨rfl, rfl, rfl⟩⟩
  unfold f_X9_bareCost at hf
  have h1 := bl_Fq_g qσ ha0 (k := 8) rfl (by decide)
  have h2 := bl_Fq_g qσ ha0 (k := 2) rfl (by decide)
  obtain ⟨r3, σ4, h5, hf⟩ := bl_bd_at hf
  have qσ4 := bl_Fq_call qσ (fr_X4_look σ (bl_R σ a0 8) (bl_R σ a0 2) 0 _ qσ.1 qσ.2.1 h1 h2.1 h5) (by decide)
  have h6 := bl_Fq_g qσ4 ha0 (k := 8) rfl (by decide)
  obtain ⟨r7, σ8, h9, hf⟩ := bl_bd_at hf
  have qσ8 := bl_Fq_call qσ4 (fr_X4_costOf σ4 (bl_R σ4 a0 8) a1 a2 _ qσ4.1 qσ4.2.1 h6 h9) (by decide)
  rw [← Option.some.inj hf]
  exact qσ8
def md_X9_bare : List (Nat × Nat) := [(3, 8), (4, 12), (20, 5), (21, 5), (21, 42), (21, 168)]
set_option maxRecDepth 100000 in
theorem fr_X9_bare {ho : Nat → Bool} (σ : bl_St) (a0 : Nat) (a1 : Int32) (a2 : Int32) (o : Int64 × bl_St) (hw : bl_WT σ) (hh : bl_WH ho σ) (ha0 : bl_sh[a0]? = some (9, 13) ∧ ho a0 = true) (hf : f_X9_bare σ a0 a1 a2 = some o) : bl_Fq ho md_X9_bare σ o.2 := by
  obtain ⟨σ0, hz⟩ : ∃ z, z = σ := ⟨_, rfl⟩
  suffices hgo : bl_Fq ho md_X9_bare σ0 o.2 by rw [hz] at hgo; exact hgo
  have qσ : bl_Fq ho md_X9_bare σ0 σ := by rw [hz]; exact ⟨hw, hh, fun _ _ => ⟨rfl, rfl, rfl⟩⟩
  unfold f_X9_bare at hf
  obtain ⟨r1, σ2, h3, hf⟩ := bl_bd_at hf
  have qσ2 := bl_Fq_call qσ (fr_X9_isAsked σ a0 a1 a2 _ qσ.1 qσ.2.1 ha0.1 h3) (by decide)
  rcases bl_if_at hf with hf | hf
  · rw [← Option.some.inj hf]
    exact qσ2
  · obtain ⟨r5, σ6, h7, hf⟩ := bl_bd_at hf
    have qσ6 := bl_Fq_call qσ2 (fr_X9_bareCost σ2 a0 a1 a2 _ qσ2.1 qσ2.2.1 ha0 h7) (by decide)
    rw [← Option.some.inj hf]
    exact qσ6
def md_X9_costByRule : List (Nat × Nat) := [(3, 8), (4, 12), (20, 5), (21, 5), (21, 42), (21, 168)]
set_option maxRecDepth 100000 in
theorem fr_X9_costByRule {ho : Nat → Bool} (σ : bl_St) (a0 : Nat) (a1 : Int32) (a2 : Int32) (a3 : Int32) (a4 : Int32) (o : Int64 × bl_St) (hw : bl_WT σ) (hh : bl_WH ho σ) (ha0 : bl_sh[a0]? = some (9, 13) ∧ ho a0 = true) (hf : f_X9_costByRule σ a0 a1 a2 a3 a4 = some o) : bl_Fq ho md_X9_costByRule σ o.2 := by
  obtain ⟨σ0, hz⟩ : ∃ z, z = σ := ⟨_, rfl⟩
  suffices hgo : bl_Fq ho md_X9_costByRule σ0 o.2 by rw [hz] at hgo; exact hgo
  have qσ : bl_Fq ho md_X9_costByRule σ0 σ := by rw [hz]; exact ⟨hw, hh, fun _ _ => ⟨rfl, rfl, rfl⟩⟩
  unfold f_X9_costByRule at hf
  have h1 := bl_Fq_g qσ ha0 (k := 8) rfl (by decide)
  have h2 := bl_Fq_g qσ ha0 (k := 2) rfl (by decide)
  obtain ⟨r3, σ4, h5, hf⟩ := bl_bd_at hf
  have qσ4 := bl_Fq_call qσ (fr_X4_look σ (bl_R σ a0 8) (bl_R σ a0 2) 0 _ qσ.1 qσ.2.1 h1 h2.1 h5) (by decide)
  have h6 := bl_Fq_g qσ4 ha0 (k := 8) rfl (by decide)
  obtain ⟨σ7, e8⟩ : ∃ z : bl_St, z = bl_pI σ4 (bl_R σ4 a0 8) 2 a1 := ⟨_, rfl⟩
  have hf := bl_let_at e8 hf
  have qσ7 : bl_Fq ho md_X9_costByRule σ0 σ7 := by rw [e8]; exact bl_Fq_I qσ4 (bl_al_in h6.1 (by decide) h6.2)
  have h9 := bl_Fq_g qσ7 ha0 (k := 8) rfl (by decide)
  obtain ⟨σ10, e11⟩ : ∃ z : bl_St, z = bl_pI σ7 (bl_R σ7 a0 8) 3 a2 := ⟨_, rfl⟩
  have hf := bl_let_at e11 hf
  have qσ10 : bl_Fq ho md_X9_costByRule σ0 σ10 := by rw [e11]; exact bl_Fq_I qσ7 (bl_al_in h9.1 (by decide) h9.2)
  have h12 := bl_Fq_g qσ10 ha0 (k := 8) rfl (by decide)
  obtain ⟨r13, σ14, h15, hf⟩ := bl_bd_at hf
  have qσ14 := bl_Fq_call qσ10 (fr_X4_costOf σ10 (bl_R σ10 a0 8) a3 a4 _ qσ10.1 qσ10.2.1 h12 h15) (by decide)
  rw [← Option.some.inj hf]
  exact qσ14
def md_X9_by : List (Nat × Nat) := [(3, 8), (4, 12), (20, 5), (21, 5), (21, 42), (21, 168)]
set_option maxRecDepth 100000 in
theorem fr_X9_by {ho : Nat → Bool} (σ : bl_St) (a0 : Nat) (a1 : Int32) (a2 : Int32) (a3 : Int32) (a4 : Int32) (o : Int64 × bl_St) (hw : bl_WT σ) (hh : bl_WH ho σ) (ha0 : bl_sh[a0]? = some (9, 13) ∧ ho a0 = true) (hf : f_X9_by σ a0 a1 a2 a3 a4 = some o) : bl_Fq ho md_X9_by σ o.2 := by
  obtain ⟨σ0, hz⟩ : ∃ z, z = σ := ⟨_, rfl⟩
  suffices hgo : bl_Fq ho md_X9_by σ0 o.2 by rw [hz] at hgo; exact hgo
  have qσ : bl_Fq ho md_X9_by σ0 σ := by rw [hz]; exact ⟨hw, hh, fun _ _ => ⟨rfl, rfl, rfl⟩⟩
  unfold f_X9_by at hf
  obtain ⟨r1, σ2, h3, hf⟩ := bl_bd_at hf
  have qσ2 := bl_Fq_call qσ (fr_X9_isAsked σ a0 a3 a4 _ qσ.1 qσ.2.1 ha0.1 h3) (by decide)
  rcases bl_if_at hf with hf | hf
  · rw [← Option.some.inj hf]
    exact qσ2
  · obtain ⟨r5, σ6, h7, hf⟩ := bl_bd_at hf
    have qσ6 := bl_Fq_call qσ2 (fr_X9_isThumb σ2 a1 a2 _ qσ2.1 qσ2.2.1  h7) (by decide)
    rcases bl_if_at hf with hf | hf
    · rw [← Option.some.inj hf]
      exact qσ6
    · obtain ⟨r9, σ10, h11, hf⟩ := bl_bd_at hf
      have qσ10 := bl_Fq_call qσ6 (fr_X9_costByRule σ6 a0 a1 a2 a3 a4 _ qσ6.1 qσ6.2.1 ha0 h11) (by decide)
      rw [← Option.some.inj hf]
      exact qσ10
def md_X9_bestLimit : List (Nat × Nat) := [(3, 8), (4, 12), (20, 5), (21, 5), (21, 42), (21, 168)]
set_option maxRecDepth 100000 in
theorem gw_X9_bestLimit_90 {ho : Nat → Bool} {σ0 : bl_St} {out : Int32 × bl_St} (k26 : bl_St → Nat → Int32 → Int32 → Int32 → Int64 → Int32 → Option (Int32 × bl_St)) (gk26 : ∀ (σ : bl_St) (v0 : Nat) (v1 : Int32) (v2 : Int32) (v3 : Int32) (v4 : Int64) (v6 : Int32), bl_Fq ho md_X9_bestLimit σ0 σ → (bl_sh[v0]? = some (9, 13) ∧ ho v0 = true) → k26 σ v0 v1 v2 v3 v4 v6 = some out → bl_Fq ho md_X9_bestLimit σ0 out.2) : ∀ (σ : bl_St) (v0 : Nat) (v1 : Int32) (v2 : Int32) (v3 : Int32) (v4 : Int64) (v6 : Int32), bl_Fq ho md_X9_bestLimit σ0 σ → (bl_sh[v0]? = some (9, 13) ∧ ho v0 = true) → (b_X9_bestLimit_90 k26) σ v0 v1 v2 v3 v4 v6 = some out → bl_Fq ho md_X9_bestLimit σ0 out.2 := by
  intro σ v0 v1 v2 v3 v4 v6 qσ hv0 hf
  unfold b_X9_bestLimit_90 at hf
  obtain ⟨x1, e2⟩ : ∃ z : Int32, z = v6 + 1 := ⟨_, rfl⟩
  have hf := bl_let_at e2 hf
  exact gk26 σ v0 v1 v2 v3 v4 x1 qσ hv0 hf
set_option maxRecDepth 100000 in
theorem gw_X9_bestLimit_83 {ho : Nat → Bool} {σ0 : bl_St} {out : Int32 × bl_St} (k26 : bl_St → Nat → Int32 → Int32 → Int32 → Int64 → Int32 → Option (Int32 × bl_St)) (gk26 : ∀ (σ : bl_St) (v0 : Nat) (v1 : Int32) (v2 : Int32) (v3 : Int32) (v4 : Int64) (v6 : Int32), bl_Fq ho md_X9_bestLimit σ0 σ → (bl_sh[v0]? = some (9, 13) ∧ ho v0 = true) → k26 σ v0 v1 v2 v3 v4 v6 = some out → bl_Fq ho md_X9_bestLimit σ0 out.2) : ∀ (σ : bl_St) (v0 : Nat) (v1 : Int32) (v2 : Int32) (v6 : Int32) (v7 : Int32) (v8 : Int64), bl_Fq ho md_X9_bestLimit σ0 σ → (bl_sh[v0]? = some (9, 13) ∧ ho v0 = true) → (b_X9_bestLimit_83 k26) σ v0 v1 v2 v6 v7 v8 = some out → bl_Fq ho md_X9_bestLimit σ0 out.2 := by
  intro σ v0 v1 v2 v6 v7 v8 qσ hv0 hf
  unfold b_X9_bestLimit_83 at hf
  exact gw_X9_bestLimit_90 k26 gk26 σ v0 v1 v2 v7 v8 v6 qσ hv0 hf
set_option maxRecDepth 100000 in
theorem gw_X9_bestLimit_26 {ho : Nat → Bool} {σ0 : bl_St} {out : Int32 × bl_St} (k26 : bl_St → Nat → Int32 → Int32 → Int32 → Int64 → Int32 → Option (Int32 × bl_St)) (gk26 : ∀ (σ : bl_St) (v0 : Nat) (v1 : Int32) (v2 : Int32) (v3 : Int32) (v4 : Int64) (v6 : Int32), bl_Fq ho md_X9_bestLimit σ0 σ → (bl_sh[v0]? = some (9, 13) ∧ ho v0 = true) → k26 σ v0 v1 v2 v3 v4 v6 = some out → bl_Fq ho md_X9_bestLimit σ0 out.2) : ∀ (σ : bl_St) (v0 : Nat) (v1 : Int32) (v2 : Int32) (v3 : Int32) (v4 : Int64) (v6 : Int32), bl_Fq ho md_X9_bestLimit σ0 σ → (bl_sh[v0]? = some (9, 13) ∧ ho v0 = true) → (b_X9_bestLimit_26 k26) σ v0 v1 v2 v3 v4 v6 = some out → bl_Fq ho md_X9_bestLimit σ0 out.2 := by
  intro σ v0 v1 v2 v3 v4 v6 qσ hv0 hf
  unfold b_X9_bestLimit_26 at hf
  have h3 := bl_Fq_g qσ hv0 (k := 2) rfl (by decide)
  rcases bl_if_at hf with hf | hf
  · rw [← Option.some.inj hf]
    exact qσ
  · have h5 := bl_Fq_g qσ hv0 (k := 2) rfl (by decide)
    obtain ⟨r6, σ7, h8, hf⟩ := bl_bd_at hf
    have qσ7 := bl_Fq_call qσ (fr_X8_sortPart σ (bl_R σ v0 2) v6 0 _ qσ.1 qσ.2.1 h5.1 h8) (by decide)
    obtain ⟨r9, σ10, h11, hf⟩ := bl_bd_at hf
    have qσ10 := bl_Fq_call qσ7 (fr_X9_costByRule σ7 v0 3 r6 v1 v2 _ qσ7.1 qσ7.2.1 hv0 h11) (by decide)
    rcases bl_if_at hf with hf | hf
    · exact gw_X9_bestLimit_83 k26 gk26 σ10 v0 v1 v2 v6 r6 r9 qσ10 hv0 hf
    · rcases bl_if_at hf with hf | hf
      · rcases bl_if_at hf with hf | hf
        · exact gw_X9_bestLimit_90 k26 gk26 σ10 v0 v1 v2 v3 v4 v6 qσ10 hv0 hf
        · exact gw_X9_bestLimit_83 k26 gk26 σ10 v0 v1 v2 v6 r6 r9 qσ10 hv0 hf
      · exact gw_X9_bestLimit_90 k26 gk26 σ10 v0 v1 v2 v3 v4 v6 qσ10 hv0 hf
theorem gl_X9_bestLimit_26 {ho : Nat → Bool} {σ0 : bl_St} {out : Int32 × bl_St} (n : Nat) : ∀ (σ : bl_St) (v0 : Nat) (v1 : Int32) (v2 : Int32) (v3 : Int32) (v4 : Int64) (v6 : Int32), bl_Fq ho md_X9_bestLimit σ0 σ → (bl_sh[v0]? = some (9, 13) ∧ ho v0 = true) → (bl_fx (fun _ _ _ _ _ _ _ => none) (b_X9_bestLimit_26 ) n) σ v0 v1 v2 v3 v4 v6 = some out → bl_Fq ho md_X9_bestLimit σ0 out.2 := by
  induction n with
  | zero =>
    intro σ v0 v1 v2 v3 v4 v6 qσ hv0 hf
    cases hf
  | succ n ih => exact gw_X9_bestLimit_26  _ ih
set_option maxRecDepth 100000 in
theorem fr_X9_bestLimit {ho : Nat → Bool} (σ : bl_St) (a0 : Nat) (a1 : Int32) (a2 : Int32) (o : Int32 × bl_St) (hw : bl_WT σ) (hh : bl_WH ho σ) (ha0 : bl_sh[a0]? = some (9, 13) ∧ ho a0 = true) (hf : f_X9_bestLimit σ a0 a1 a2 = some o) : bl_Fq ho md_X9_bestLimit σ o.2 := by
  obtain ⟨σ0, hz⟩ : ∃ z, z = σ := ⟨_, rfl⟩
  suffices hgo : bl_Fq ho md_X9_bestLimit σ0 o.2 by rw [hz] at hgo; exact hgo
  have qσ : bl_Fq ho md_X9_bestLimit σ0 σ := by rw [hz]; exact ⟨hw, hh, fun _ _ => ⟨rfl, rfl, rfl⟩⟩
  unfold f_X9_bestLimit at hf
  obtain ⟨r15, σ16, h17, hf⟩ := bl_bd_at hf
  have qσ16 := bl_Fq_call qσ (fr_X9_isAsked σ a0 a1 a2 _ qσ.1 qσ.2.1 ha0.1 h17) (by decide)
  rcases bl_if_at hf with hf | hf
  · rw [← Option.some.inj hf]
    exact qσ16
  · obtain ⟨r19, σ20, h21, hf⟩ := bl_bd_at hf
    have qσ20 := bl_Fq_call qσ16 (fr_X9_costByRule σ16 a0 3 0 a1 a2 _ qσ16.1 qσ16.2.1 ha0 h21) (by decide)
    exact gl_X9_bestLimit_26  bl_fu σ20 a0 a1 a2 0 r19 0 qσ20 ha0 hf
def md_X9_worth : List (Nat × Nat) := [(3, 8), (4, 12), (20, 5), (21, 5), (21, 42), (21, 168)]
set_option maxRecDepth 100000 in
theorem fr_X9_worth {ho : Nat → Bool} (σ : bl_St) (a0 : Nat) (a1 : Int32) (a2 : Int32) (a3 : Int32) (o : Int64 × bl_St) (hw : bl_WT σ) (hh : bl_WH ho σ) (ha0 : bl_sh[a0]? = some (9, 13) ∧ ho a0 = true) (hf : f_X9_worth σ a0 a1 a2 a3 = some o) : bl_Fq ho md_X9_worth σ o.2 := by
  obtain ⟨σ0, hz⟩ : ∃ z, z = σ := ⟨_, rfl⟩
  suffices hgo : bl_Fq ho md_X9_worth σ0 o.2 by rw [hz] at hgo; exact hgo
  have qσ : bl_Fq ho md_X9_worth σ0 σ := by rw [hz]; exact ⟨hw, hh, fun _ _ => ⟨rfl, rfl, rfl⟩⟩
  unfold f_X9_worth at hf
  obtain ⟨r1, σ2, h3, hf⟩ := bl_bd_at hf
  have qσ2 := bl_Fq_call qσ (fr_X9_isAsked σ a0 a1 a2 _ qσ.1 qσ.2.1 ha0.1 h3) (by decide)
  rcases bl_if_at hf with hf | hf
  · rw [← Option.some.inj hf]
    exact qσ2
  · have h5 := bl_Fq_g qσ2 ha0 (k := 2) rfl (by decide)
    obtain ⟨r6, σ7, h8, hf⟩ := bl_bd_at hf
    have qσ7 := bl_Fq_call qσ2 (fr_X8_hasClass σ2 (bl_R σ2 a0 2) a3 _ qσ2.1 qσ2.2.1 h5.1 h8) (by decide)
    rcases bl_if_at hf with hf | hf
    · rw [← Option.some.inj hf]
      exact qσ7
    · have h10 := bl_Fq_g qσ7 ha0 (k := 7) rfl (by decide)
      obtain ⟨r11, σ12, h13, hf⟩ := bl_bd_at hf
      have qσ12 := bl_Fq_call qσ7 (fr_X4_costOf σ7 (bl_R σ7 a0 7) a1 a3 _ qσ7.1 qσ7.2.1 h10 h13) (by decide)
      have h14 := bl_Fq_g qσ12 ha0 (k := 7) rfl (by decide)
      obtain ⟨r15, σ16, h17, hf⟩ := bl_bd_at hf
      have qσ16 := bl_Fq_call qσ12 (fr_X4_costOf σ12 (bl_R σ12 a0 7) a1 a2 _ qσ12.1 qσ12.2.1 h14 h17) (by decide)
      rw [← Option.some.inj hf]
      exact qσ16
def md_X9_cheapest : List (Nat × Nat) := [(3, 8), (4, 12), (20, 5), (21, 5), (21, 42), (21, 168)]
set_option maxRecDepth 100000 in
theorem gw_X9_cheapest_50 {ho : Nat → Bool} {σ0 : bl_St} {out : Int32 × bl_St} (k15 : bl_St → Nat → Int32 → Int32 → Int32 → Option (Int32 × bl_St)) (gk15 : ∀ (σ : bl_St) (v0 : Nat) (v1 : Int32) (v2 : Int32) (v3 : Int32), bl_Fq ho md_X9_cheapest σ0 σ → (bl_sh[v0]? = some (9, 13) ∧ ho v0 = true) → k15 σ v0 v1 v2 v3 = some out → bl_Fq ho md_X9_cheapest σ0 out.2) : ∀ (σ : bl_St) (v0 : Nat) (v1 : Int32) (v2 : Int32) (v3 : Int32), bl_Fq ho md_X9_cheapest σ0 σ → (bl_sh[v0]? = some (9, 13) ∧ ho v0 = true) → (b_X9_cheapest_50 k15) σ v0 v1 v2 v3 = some out → bl_Fq ho md_X9_cheapest σ0 out.2 := by
  intro σ v0 v1 v2 v3 qσ hv0 hf
  unfold b_X9_cheapest_50 at hf
  obtain ⟨x1, e2⟩ : ∃ z : Int32, z = v3 + 1 := ⟨_, rfl⟩
  have hf := bl_let_at e2 hf
  exact gk15 σ v0 v1 v2 x1 qσ hv0 hf
set_option maxRecDepth 100000 in
theorem gw_X9_cheapest_15 {ho : Nat → Bool} {σ0 : bl_St} {out : Int32 × bl_St} (k15 : bl_St → Nat → Int32 → Int32 → Int32 → Option (Int32 × bl_St)) (gk15 : ∀ (σ : bl_St) (v0 : Nat) (v1 : Int32) (v2 : Int32) (v3 : Int32), bl_Fq ho md_X9_cheapest σ0 σ → (bl_sh[v0]? = some (9, 13) ∧ ho v0 = true) → k15 σ v0 v1 v2 v3 = some out → bl_Fq ho md_X9_cheapest σ0 out.2) : ∀ (σ : bl_St) (v0 : Nat) (v1 : Int32) (v2 : Int32) (v3 : Int32), bl_Fq ho md_X9_cheapest σ0 σ → (bl_sh[v0]? = some (9, 13) ∧ ho v0 = true) → (b_X9_cheapest_15 k15) σ v0 v1 v2 v3 = some out → bl_Fq ho md_X9_cheapest σ0 out.2 := by
  intro σ v0 v1 v2 v3 qσ hv0 hf
  unfold b_X9_cheapest_15 at hf
  have h3 := bl_Fq_g qσ hv0 (k := 2) rfl (by decide)
  rcases bl_if_at hf with hf | hf
  · rw [← Option.some.inj hf]
    exact qσ
  · have h5 := bl_Fq_g qσ hv0 (k := 7) rfl (by decide)
    obtain ⟨r6, σ7, h8, hf⟩ := bl_bd_at hf
    have qσ7 := bl_Fq_call qσ (fr_X4_costOf σ (bl_R σ v0 7) v1 v3 _ qσ.1 qσ.2.1 h5 h8) (by decide)
    have h9 := bl_Fq_g qσ7 hv0 (k := 7) rfl (by decide)
    obtain ⟨r10, σ11, h12, hf⟩ := bl_bd_at hf
    have qσ11 := bl_Fq_call qσ7 (fr_X4_costOf σ7 (bl_R σ7 v0 7) v1 v2 _ qσ7.1 qσ7.2.1 h9 h12) (by decide)
    rcases bl_if_at hf with hf | hf
    · exact gw_X9_cheapest_50 k15 gk15 σ11 v0 v1 v2 v3 qσ11 hv0 hf
    · exact gw_X9_cheapest_50 k15 gk15 σ11 v0 v1 v3 v3 qσ11 hv0 hf
theorem gl_X9_cheapest_15 {ho : Nat → Bool} {σ0 : bl_St} {out : Int32 × bl_St} (n : Nat) : ∀ (σ : bl_St) (v0 : Nat) (v1 : Int32) (v2 : Int32) (v3 : Int32), bl_Fq ho md_X9_cheapest σ0 σ → (bl_sh[v0]? = some (9, 13) ∧ ho v0 = true) → (bl_fx (fun _ _ _ _ _ => none) (b_X9_cheapest_15 ) n) σ v0 v1 v2 v3 = some out → bl_Fq ho md_X9_cheapest σ0 out.2 := by
  induction n with
  | zero =>
    intro σ v0 v1 v2 v3 qσ hv0 hf
    cases hf
  | succ n ih => exact gw_X9_cheapest_15  _ ih
set_option maxRecDepth 100000 in
theorem fr_X9_cheapest {ho : Nat → Bool} (σ : bl_St) (a0 : Nat) (a1 : Int32) (o : Int32 × bl_St) (hw : bl_WT σ) (hh : bl_WH ho σ) (ha0 : bl_sh[a0]? = some (9, 13) ∧ ho a0 = true) (hf : f_X9_cheapest σ a0 a1 = some o) : bl_Fq ho md_X9_cheapest σ o.2 := by
  obtain ⟨σ0, hz⟩ : ∃ z, z = σ := ⟨_, rfl⟩
  suffices hgo : bl_Fq ho md_X9_cheapest σ0 o.2 by rw [hz] at hgo; exact hgo
  have qσ : bl_Fq ho md_X9_cheapest σ0 σ := by rw [hz]; exact ⟨hw, hh, fun _ _ => ⟨rfl, rfl, rfl⟩⟩
  unfold f_X9_cheapest at hf
  obtain ⟨r14, σ15, h16, hf⟩ := bl_bd_at hf
  have qσ15 := bl_Fq_call qσ (fr_X9_isAsked σ a0 a1 0 _ qσ.1 qσ.2.1 ha0.1 h16) (by decide)
  rcases bl_if_at hf with hf | hf
  · rw [← Option.some.inj hf]
    exact qσ15
  · exact gl_X9_cheapest_15  bl_fu σ15 a0 a1 0 1 qσ15 ha0 hf
def md_X9_stepFrom : List (Nat × Nat) := []
set_option maxRecDepth 100000 in
theorem gw_X9_stepFrom_53 {ho : Nat → Bool} {σ0 : bl_St} {out : Int32 × bl_St} (k4 : bl_St → Nat → Int32 → Int32 → Int32 → Option (Int32 × bl_St)) (gk4 : ∀ (σ : bl_St) (v0 : Nat) (v1 : Int32) (v2 : Int32) (v3 : Int32), bl_Fq ho md_X9_stepFrom σ0 σ → (bl_sh[v0]? = some (9, 13) ∧ True) → k4 σ v0 v1 v2 v3 = some out → bl_Fq ho md_X9_stepFrom σ0 out.2) : ∀ (σ : bl_St) (v0 : Nat) (v1 : Int32) (v2 : Int32) (v3 : Int32), bl_Fq ho md_X9_stepFrom σ0 σ → (bl_sh[v0]? = some (9, 13) ∧ True) → (b_X9_stepFrom_53 k4) σ v0 v1 v2 v3 = some out → bl_Fq ho md_X9_stepFrom σ0 out.2 := by
  intro σ v0 v1 v2 v3 qσ hv0 hf
  unfold b_X9_stepFrom_53 at hf
  obtain ⟨x1, e2⟩ : ∃ z : Int32, z = v3 + 1 := ⟨_, rfl⟩
  have hf := bl_let_at e2 hf
  exact gk4 σ v0 v1 v2 x1 qσ hv0 hf
set_option maxRecDepth 100000 in
theorem gw_X9_stepFrom_26 {ho : Nat → Bool} {σ0 : bl_St} {out : Int32 × bl_St} (k4 : bl_St → Nat → Int32 → Int32 → Int32 → Option (Int32 × bl_St)) (gk4 : ∀ (σ : bl_St) (v0 : Nat) (v1 : Int32) (v2 : Int32) (v3 : Int32), bl_Fq ho md_X9_stepFrom σ0 σ → (bl_sh[v0]? = some (9, 13) ∧ True) → k4 σ v0 v1 v2 v3 = some out → bl_Fq ho md_X9_stepFrom σ0 out.2) (k26 : bl_St → Nat → Int32 → Int32 → Int32 → Int32 → Option (Int32 × bl_St)) (gk26 : ∀ (σ : bl_St) (v0 : Nat) (v1 : Int32) (v2 : Int32) (v3 : Int32) (v4 : Int32), bl_Fq ho md_X9_stepFrom σ0 σ → (bl_sh[v0]? = some (9, 13) ∧ True) → k26 σ v0 v1 v2 v3 v4 = some out → bl_Fq ho md_X9_stepFrom σ0 out.2) : ∀ (σ : bl_St) (v0 : Nat) (v1 : Int32) (v2 : Int32) (v3 : Int32) (v4 : Int32), bl_Fq ho md_X9_stepFrom σ0 σ → (bl_sh[v0]? = some (9, 13) ∧ True) → (b_X9_stepFrom_26 k4 k26) σ v0 v1 v2 v3 v4 = some out → bl_Fq ho md_X9_stepFrom σ0 out.2 := by
  intro σ v0 v1 v2 v3 v4 qσ hv0 hf
  unfold b_X9_stepFrom_26 at hf
  rcases bl_if_at hf with hf | hf
  · exact gw_X9_stepFrom_53 k4 gk4 σ v0 v1 v2 v3 qσ hv0 hf
  · have h4 := bl_Fq_gn qσ hv0 (k := 2) rfl
    obtain ⟨r5, σ6, h7, hf⟩ := bl_bd_at hf
    have qσ6 := bl_Fq_call qσ (fr_X8_next σ (bl_R σ v0 2) v3 v4 _ qσ.1 qσ.2.1 h4.1 h7) (by decide)
    obtain ⟨x8, e9⟩ : ∃ z, z = (v2 ||| (1 <<< (r5 &&& 31))) := ⟨_, rfl⟩
    have hf := bl_let_at e9 hf
    obtain ⟨x10, e11⟩ : ∃ z : Int32, z = v4 + 1 := ⟨_, rfl⟩
    have hf := bl_let_at e11 hf
    exact gk26 σ6 v0 v1 x8 v3 x10 qσ6 hv0 hf
theorem gl_X9_stepFrom_26 {ho : Nat → Bool} {σ0 : bl_St} {out : Int32 × bl_St} (k4 : bl_St → Nat → Int32 → Int32 → Int32 → Option (Int32 × bl_St)) (gk4 : ∀ (σ : bl_St) (v0 : Nat) (v1 : Int32) (v2 : Int32) (v3 : Int32), bl_Fq ho md_X9_stepFrom σ0 σ → (bl_sh[v0]? = some (9, 13) ∧ True) → k4 σ v0 v1 v2 v3 = some out → bl_Fq ho md_X9_stepFrom σ0 out.2) (n : Nat) : ∀ (σ : bl_St) (v0 : Nat) (v1 : Int32) (v2 : Int32) (v3 : Int32) (v4 : Int32), bl_Fq ho md_X9_stepFrom σ0 σ → (bl_sh[v0]? = some (9, 13) ∧ True) → (bl_fx (fun _ _ _ _ _ _ => none) (b_X9_stepFrom_26 k4) n) σ v0 v1 v2 v3 v4 = some out → bl_Fq ho md_X9_stepFrom σ0 out.2 := by
  induction n with
  | zero =>
    intro σ v0 v1 v2 v3 v4 qσ hv0 hf
    cases hf
  | succ n ih => exact gw_X9_stepFrom_26 k4 gk4 _ ih
set_option maxRecDepth 100000 in
theorem gw_X9_stepFrom_4 {ho : Nat → Bool} {σ0 : bl_St} {out : Int32 × bl_St} (k4 : bl_St → Nat → Int32 → Int32 → Int32 → Option (Int32 × bl_St)) (gk4 : ∀ (σ : bl_St) (v0 : Nat) (v1 : Int32) (v2 : Int32) (v3 : Int32), bl_Fq ho md_X9_stepFrom σ0 σ → (bl_sh[v0]? = some (9, 13) ∧ True) → k4 σ v0 v1 v2 v3 = some out → bl_Fq ho md_X9_stepFrom σ0 out.2) : ∀ (σ : bl_St) (v0 : Nat) (v1 : Int32) (v2 : Int32) (v3 : Int32), bl_Fq ho md_X9_stepFrom σ0 σ → (bl_sh[v0]? = some (9, 13) ∧ True) → (b_X9_stepFrom_4 k4) σ v0 v1 v2 v3 = some out → bl_Fq ho md_X9_stepFrom σ0 out.2 := by
  intro σ v0 v1 v2 v3 qσ hv0 hf
  unfold b_X9_stepFrom_4 at hf
  have h12 := bl_Fq_gn qσ hv0 (k := 2) rfl
  rcases bl_if_at hf with hf | hf
  · rw [← Option.some.inj hf]
    exact qσ
  · rcases bl_if_at hf with hf | hf
    · exact gw_X9_stepFrom_53 k4 gk4 σ v0 v1 v2 v3 qσ hv0 hf
    · exact gl_X9_stepFrom_26 k4 gk4 bl_fu σ v0 v1 v2 v3 0 qσ hv0 hf
theorem gl_X9_stepFrom_4 {ho : Nat → Bool} {σ0 : bl_St} {out : Int32 × bl_St} (n : Nat) : ∀ (σ : bl_St) (v0 : Nat) (v1 : Int32) (v2 : Int32) (v3 : Int32), bl_Fq ho md_X9_stepFrom σ0 σ → (bl_sh[v0]? = some (9, 13) ∧ True) → (bl_fx (fun _ _ _ _ _ => none) (b_X9_stepFrom_4 ) n) σ v0 v1 v2 v3 = some out → bl_Fq ho md_X9_stepFrom σ0 out.2 := by
  induction n with
  | zero =>
    intro σ v0 v1 v2 v3 qσ hv0 hf
    cases hf
  | succ n ih => exact gw_X9_stepFrom_4  _ ih
set_option maxRecDepth 100000 in
theorem fr_X9_stepFrom {ho : Nat → Bool} (σ : bl_St) (a0 : Nat) (a1 : Int32) (o : Int32 × bl_St) (hw : bl_WT σ) (hh : bl_WH ho σ) (ha0 : bl_sh[a0]? = some (9, 13)) (hf : f_X9_stepFrom σ a0 a1 = some o) : bl_Fq ho md_X9_stepFrom σ o.2 := by
  obtain ⟨σ0, hz⟩ : ∃ z, z = σ := ⟨_, rfl⟩
  suffices hgo : bl_Fq ho md_X9_stepFrom σ0 o.2 by rw [hz] at hgo; exact hgo
  have qσ : bl_Fq ho md_X9_stepFrom σ0 σ := by rw [hz]; exact ⟨hw, hh, fun _ _ => ⟨rfl, rfl, rfl⟩⟩
  have ha0 := And.intro ha0 trivial
  unfold f_X9_stepFrom at hf
  exact gl_X9_stepFrom_4  bl_fu σ a0 a1 0 0 qσ ha0 hf
def md_X9_reach : List (Nat × Nat) := []
set_option maxRecDepth 100000 in
theorem gw_X9_reach_19 {ho : Nat → Bool} {σ0 : bl_St} {out : Int32 × bl_St} (k19 : bl_St → Nat → Int32 → Int32 → Option (Int32 × bl_St)) (gk19 : ∀ (σ : bl_St) (v0 : Nat) (v2 : Int32) (v3 : Int32), bl_Fq ho md_X9_reach σ0 σ → (bl_sh[v0]? = some (9, 13) ∧ True) → k19 σ v0 v2 v3 = some out → bl_Fq ho md_X9_reach σ0 out.2) : ∀ (σ : bl_St) (v0 : Nat) (v2 : Int32) (v3 : Int32), bl_Fq ho md_X9_reach σ0 σ → (bl_sh[v0]? = some (9, 13) ∧ True) → (b_X9_reach_19 k19) σ v0 v2 v3 = some out → bl_Fq ho md_X9_reach σ0 out.2 := by
  intro σ v0 v2 v3 qσ hv0 hf
  unfold b_X9_reach_19 at hf
  have h1 := bl_Fq_gn qσ hv0 (k := 2) rfl
  rcases bl_if_at hf with hf | hf
  · rw [← Option.some.inj hf]
    exact qσ
  · obtain ⟨r3, σ4, h5, hf⟩ := bl_bd_at hf
    have qσ4 := bl_Fq_call qσ (fr_X9_stepFrom σ v0 v2 _ qσ.1 qσ.2.1 hv0.1 h5) (by decide)
    obtain ⟨x6, e7⟩ : ∃ z, z = (v2 ||| r3) := ⟨_, rfl⟩
    have hf := bl_let_at e7 hf
    obtain ⟨x8, e9⟩ : ∃ z : Int32, z = v3 + 1 := ⟨_, rfl⟩
    have hf := bl_let_at e9 hf
    exact gk19 σ4 v0 x6 x8 qσ4 hv0 hf
theorem gl_X9_reach_19 {ho : Nat → Bool} {σ0 : bl_St} {out : Int32 × bl_St} (n : Nat) : ∀ (σ : bl_St) (v0 : Nat) (v2 : Int32) (v3 : Int32), bl_Fq ho md_X9_reach σ0 σ → (bl_sh[v0]? = some (9, 13) ∧ True) → (bl_fx (fun _ _ _ _ => none) (b_X9_reach_19 ) n) σ v0 v2 v3 = some out → bl_Fq ho md_X9_reach σ0 out.2 := by
  induction n with
  | zero =>
    intro σ v0 v2 v3 qσ hv0 hf
    cases hf
  | succ n ih => exact gw_X9_reach_19  _ ih
set_option maxRecDepth 100000 in
theorem fr_X9_reach {ho : Nat → Bool} (σ : bl_St) (a0 : Nat) (a1 : Int32) (o : Int32 × bl_St) (hw : bl_WT σ) (hh : bl_WH ho σ) (ha0 : bl_sh[a0]? = some (9, 13)) (hf : f_X9_reach σ a0 a1 = some o) : bl_Fq ho md_X9_reach σ o.2 := by
  obtain ⟨σ0, hz⟩ : ∃ z, z = σ := ⟨_, rfl⟩
  suffices hgo : bl_Fq ho md_X9_reach σ0 o.2 by rw [hz] at hgo; exact hgo
  have qσ : bl_Fq ho md_X9_reach σ0 σ := by rw [hz]; exact ⟨hw, hh, fun _ _ => ⟨rfl, rfl, rfl⟩⟩
  have ha0 := And.intro ha0 trivial
  unfold f_X9_reach at hf
  have h10 := bl_Fq_gn qσ ha0 (k := 2) rfl
  obtain ⟨r11, σ12, h13, hf⟩ := bl_bd_at hf
  have qσ12 := bl_Fq_call qσ (fr_X8_hasClass σ (bl_R σ a0 2) a1 _ qσ.1 qσ.2.1 h10.1 h13) (by decide)
  rcases bl_if_at hf with hf | hf
  · rw [← Option.some.inj hf]
    exact qσ12
  · obtain ⟨x15, e16⟩ : ∃ z, z = (1 <<< (a1 &&& 31)) := ⟨_, rfl⟩
    have hf := bl_let_at e16 hf
    exact gl_X9_reach_19  bl_fu σ12 a0 x15 0 qσ12 ha0 hf
def md_X9_years : List (Nat × Nat) := []
set_option maxRecDepth 100000 in
theorem gw_X9_years_29 {ho : Nat → Bool} {σ0 : bl_St} {out : Int32 × bl_St} (k29 : bl_St → Nat → Int32 → Int32 → Int32 → Option (Int32 × bl_St)) (gk29 : ∀ (σ : bl_St) (v0 : Nat) (v2 : Int32) (v3 : Int32) (v4 : Int32), bl_Fq ho md_X9_years σ0 σ → (bl_sh[v0]? = some (9, 13) ∧ True) → k29 σ v0 v2 v3 v4 = some out → bl_Fq ho md_X9_years σ0 out.2) : ∀ (σ : bl_St) (v0 : Nat) (v2 : Int32) (v3 : Int32) (v4 : Int32), bl_Fq ho md_X9_years σ0 σ → (bl_sh[v0]? = some (9, 13) ∧ True) → (b_X9_years_29 k29) σ v0 v2 v3 v4 = some out → bl_Fq ho md_X9_years σ0 out.2 := by
  intro σ v0 v2 v3 v4 qσ hv0 hf
  unfold b_X9_years_29 at hf
  have h1 := bl_Fq_gn qσ hv0 (k := 2) rfl
  rcases bl_if_at hf with hf | hf
  · rw [← Option.some.inj hf]
    exact qσ
  · rcases bl_if_at hf with hf | hf
    · rw [← Option.some.inj hf]
      exact qσ
    · have h4 := bl_Fq_gn qσ hv0 (k := 2) rfl
      obtain ⟨r5, σ6, h7, hf⟩ := bl_bd_at hf
      have qσ6 := bl_Fq_call qσ (fr_X8_next σ (bl_R σ v0 2) v3 0 _ qσ.1 qσ.2.1 h4.1 h7) (by decide)
      obtain ⟨x8, e9⟩ : ∃ z : Int32, z = v4 + 1 := ⟨_, rfl⟩
      have hf := bl_let_at e9 hf
      exact gk29 σ6 v0 v2 r5 x8 qσ6 hv0 hf
theorem gl_X9_years_29 {ho : Nat → Bool} {σ0 : bl_St} {out : Int32 × bl_St} (n : Nat) : ∀ (σ : bl_St) (v0 : Nat) (v2 : Int32) (v3 : Int32) (v4 : Int32), bl_Fq ho md_X9_years σ0 σ → (bl_sh[v0]? = some (9, 13) ∧ True) → (bl_fx (fun _ _ _ _ _ => none) (b_X9_years_29 ) n) σ v0 v2 v3 v4 = some out → bl_Fq ho md_X9_years σ0 out.2 := by
  induction n with
  | zero =>
    intro σ v0 v2 v3 v4 qσ hv0 hf
    cases hf
  | succ n ih => exact gw_X9_years_29  _ ih
set_option maxRecDepth 100000 in
theorem fr_X9_years {ho : Nat → Bool} (σ : bl_St) (a0 : Nat) (a1 : Int32) (a2 : Int32) (o : Int32 × bl_St) (hw : bl_WT σ) (hh : bl_WH ho σ) (ha0 : bl_sh[a0]? = some (9, 13)) (hf : f_X9_years σ a0 a1 a2 = some o) : bl_Fq ho md_X9_years σ o.2 := by
  obtain ⟨σ0, hz⟩ : ∃ z, z = σ := ⟨_, rfl⟩
  suffices hgo : bl_Fq ho md_X9_years σ0 o.2 by rw [hz] at hgo; exact hgo
  have qσ : bl_Fq ho md_X9_years σ0 σ := by rw [hz]; exact ⟨hw, hh, fun _ _ => ⟨rfl, rfl, rfl⟩⟩
  have ha0 := And.intro ha0 trivial
  unfold f_X9_years at hf
  have h10 := bl_Fq_gn qσ ha0 (k := 2) rfl
  obtain ⟨r11, σ12, h13, hf⟩ := bl_bd_at hf
  have qσ12 := bl_Fq_call qσ (fr_X8_hasClass σ (bl_R σ a0 2) a1 _ qσ.1 qσ.2.1 h10.1 h13) (by decide)
  rcases bl_if_at hf with hf | hf
  · rw [← Option.some.inj hf]
    exact qσ12
  · have h15 := bl_Fq_gn qσ12 ha0 (k := 2) rfl
    obtain ⟨r16, σ17, h18, hf⟩ := bl_bd_at hf
    have qσ17 := bl_Fq_call qσ12 (fr_X8_hasClass σ12 (bl_R σ12 a0 2) a2 _ qσ12.1 qσ12.2.1 h15.1 h18) (by decide)
    rcases bl_if_at hf with hf | hf
    · rw [← Option.some.inj hf]
      exact qσ17
    · exact gl_X9_years_29  bl_fu σ17 a0 a2 a1 0 qσ17 ha0 hf
def md_X9_waysOf : List (Nat × Nat) := []
set_option maxRecDepth 100000 in
theorem gw_X9_waysOf_80 {ho : Nat → Bool} {σ0 : bl_St} {out : Int32 × bl_St} (k47 : bl_St → Nat → Int32 → Int32 → Int32 → Int32 → Option (Int32 × bl_St)) (gk47 : ∀ (σ : bl_St) (v0 : Nat) (v1 : Int32) (v2 : Int32) (v3 : Int32) (v4 : Int32), bl_Fq ho md_X9_waysOf σ0 σ → (bl_sh[v0]? = some (9, 13) ∧ True) → k47 σ v0 v1 v2 v3 v4 = some out → bl_Fq ho md_X9_waysOf σ0 out.2) : ∀ (σ : bl_St) (v0 : Nat) (v1 : Int32) (v2 : Int32) (v4 : Int32) (s0 : Int32) (s1 : Int32), bl_Fq ho md_X9_waysOf σ0 σ → (bl_sh[v0]? = some (9, 13) ∧ True) → (b_X9_waysOf_80 k47) σ v0 v1 v2 v4 s0 s1 = some out → bl_Fq ho md_X9_waysOf σ0 out.2 := by
  intro σ v0 v1 v2 v4 s0 s1 qσ hv0 hf
  unfold b_X9_waysOf_80 at hf
  obtain ⟨x1, e2⟩ : ∃ z, z = (s1 * s0) := ⟨_, rfl⟩
  have hf := bl_let_at e2 hf
  obtain ⟨x3, e4⟩ : ∃ z : Int32, z = v4 + 1 := ⟨_, rfl⟩
  have hf := bl_let_at e4 hf
  exact gk47 σ v0 v1 v2 x1 x3 qσ hv0 hf
set_option maxRecDepth 100000 in
theorem gw_X9_waysOf_47 {ho : Nat → Bool} {σ0 : bl_St} {out : Int32 × bl_St} (k47 : bl_St → Nat → Int32 → Int32 → Int32 → Int32 → Option (Int32 × bl_St)) (gk47 : ∀ (σ : bl_St) (v0 : Nat) (v1 : Int32) (v2 : Int32) (v3 : Int32) (v4 : Int32), bl_Fq ho md_X9_waysOf σ0 σ → (bl_sh[v0]? = some (9, 13) ∧ True) → k47 σ v0 v1 v2 v3 v4 = some out → bl_Fq ho md_X9_waysOf σ0 out.2) : ∀ (σ : bl_St) (v0 : Nat) (v1 : Int32) (v2 : Int32) (v3 : Int32) (v4 : Int32), bl_Fq ho md_X9_waysOf σ0 σ → (bl_sh[v0]? = some (9, 13) ∧ True) → (b_X9_waysOf_47 k47) σ v0 v1 v2 v3 v4 = some out → bl_Fq ho md_X9_waysOf σ0 out.2 := by
  intro σ v0 v1 v2 v3 v4 qσ hv0 hf
  unfold b_X9_waysOf_47 at hf
  rcases bl_if_at hf with hf | hf
  · rw [← Option.some.inj hf]
    exact qσ
  · rcases bl_if_at hf with hf | hf
    · have h7 := bl_Fq_gn qσ hv0 (k := 2) rfl
      obtain ⟨r8, σ9, h10, hf⟩ := bl_bd_at hf
      have qσ9 := bl_Fq_call qσ (fr_X8_odds σ (bl_R σ v0 2) _ qσ.1 qσ.2.1 h7.1 h10) (by decide)
      exact gw_X9_waysOf_80 k47 gk47 σ9 v0 v1 v2 v4 (12 - r8) v3 qσ9 hv0 hf
    · have h11 := bl_Fq_gn qσ hv0 (k := 2) rfl
      obtain ⟨r12, σ13, h14, hf⟩ := bl_bd_at hf
      have qσ13 := bl_Fq_call qσ (fr_X8_odds σ (bl_R σ v0 2) _ qσ.1 qσ.2.1 h11.1 h14) (by decide)
      exact gw_X9_waysOf_80 k47 gk47 σ13 v0 v1 v2 v4 r12 v3 qσ13 hv0 hf
theorem gl_X9_waysOf_47 {ho : Nat → Bool} {σ0 : bl_St} {out : Int32 × bl_St} (n : Nat) : ∀ (σ : bl_St) (v0 : Nat) (v1 : Int32) (v2 : Int32) (v3 : Int32) (v4 : Int32), bl_Fq ho md_X9_waysOf σ0 σ → (bl_sh[v0]? = some (9, 13) ∧ True) → (bl_fx (fun _ _ _ _ _ _ => none) (b_X9_waysOf_47 ) n) σ v0 v1 v2 v3 v4 = some out → bl_Fq ho md_X9_waysOf σ0 out.2 := by
  induction n with
  | zero =>
    intro σ v0 v1 v2 v3 v4 qσ hv0 hf
    cases hf
  | succ n ih => exact gw_X9_waysOf_47  _ ih
set_option maxRecDepth 100000 in
theorem gw_X9_waysOf_20 {ho : Nat → Bool} {σ0 : bl_St} {out : Int32 × bl_St} (k20 : bl_St → Nat → Int32 → Int32 → Int32 → Int32 → Option (Int32 × bl_St)) (gk20 : ∀ (σ : bl_St) (v0 : Nat) (v1 : Int32) (v2 : Int32) (v3 : Int32) (v4 : Int32), bl_Fq ho md_X9_waysOf σ0 σ → (bl_sh[v0]? = some (9, 13) ∧ True) → k20 σ v0 v1 v2 v3 v4 = some out → bl_Fq ho md_X9_waysOf σ0 out.2) : ∀ (σ : bl_St) (v0 : Nat) (v1 : Int32) (v2 : Int32) (v3 : Int32) (v4 : Int32), bl_Fq ho md_X9_waysOf σ0 σ → (bl_sh[v0]? = some (9, 13) ∧ True) → (b_X9_waysOf_20 k20) σ v0 v1 v2 v3 v4 = some out → bl_Fq ho md_X9_waysOf σ0 out.2 := by
  intro σ v0 v1 v2 v3 v4 qσ hv0 hf
  unfold b_X9_waysOf_20 at hf
  rcases bl_if_at hf with hf | hf
  · exact gl_X9_waysOf_47  bl_fu σ v0 v1 v2 v3 0 qσ hv0 hf
  · obtain ⟨-, hf⟩ := bl_gd_at hf
    obtain ⟨x17, e18⟩ : ∃ z, z = ((v3 * (v2 - v4)) / (v4 + 1)) := ⟨_, rfl⟩
    have hf := bl_let_at e18 hf
    obtain ⟨x19, e20⟩ : ∃ z : Int32, z = v4 + 1 := ⟨_, rfl⟩
    have hf := bl_let_at e20 hf
    exact gk20 σ v0 v1 v2 x17 x19 qσ hv0 hf
theorem gl_X9_waysOf_20 {ho : Nat → Bool} {σ0 : bl_St} {out : Int32 × bl_St} (n : Nat) : ∀ (σ : bl_St) (v0 : Nat) (v1 : Int32) (v2 : Int32) (v3 : Int32) (v4 : Int32), bl_Fq ho md_X9_waysOf σ0 σ → (bl_sh[v0]? = some (9, 13) ∧ True) → (bl_fx (fun _ _ _ _ _ _ => none) (b_X9_waysOf_20 ) n) σ v0 v1 v2 v3 v4 = some out → bl_Fq ho md_X9_waysOf σ0 out.2 := by
  induction n with
  | zero =>
    intro σ v0 v1 v2 v3 v4 qσ hv0 hf
    cases hf
  | succ n ih => exact gw_X9_waysOf_20  _ ih
set_option maxRecDepth 100000 in
theorem fr_X9_waysOf {ho : Nat → Bool} (σ : bl_St) (a0 : Nat) (a1 : Int32) (o : Int32 × bl_St) (hw : bl_WT σ) (hh : bl_WH ho σ) (ha0 : bl_sh[a0]? = some (9, 13)) (hf : f_X9_waysOf σ a0 a1 = some o) : bl_Fq ho md_X9_waysOf σ o.2 := by
  obtain ⟨σ0, hz⟩ : ∃ z, z = σ := ⟨_, rfl⟩
  suffices hgo : bl_Fq ho md_X9_waysOf σ0 o.2 by rw [hz] at hgo; exact hgo
  have qσ : bl_Fq ho md_X9_waysOf σ0 σ := by rw [hz]; exact ⟨hw, hh, fun _ _ => ⟨rfl, rfl, rfl⟩⟩
  have ha0 := And.intro ha0 trivial
  unfold f_X9_waysOf at hf
  have h21 := bl_Fq_gn qσ ha0 (k := 2) rfl
  obtain ⟨r22, σ23, h24, hf⟩ := bl_bd_at hf
  have qσ23 := bl_Fq_call qσ (fr_X8_chances σ (bl_R σ a0 2) _ qσ.1 qσ.2.1 h21.1 h24) (by decide)
  rcases bl_if_at hf with hf | hf
  · exact gl_X9_waysOf_20  bl_fu σ23 a0 a1 r22 1 0 qσ23 ha0 hf
  · rw [← Option.some.inj hf]
    exact qσ23
def md_X9_ways : List (Nat × Nat) := []
set_option maxRecDepth 100000 in
theorem fr_X9_ways {ho : Nat → Bool} (σ : bl_St) (a0 : Nat) (a1 : Int32) (o : Int32 × bl_St) (hw : bl_WT σ) (hh : bl_WH ho σ) (ha0 : bl_sh[a0]? = some (9, 13)) (hf : f_X9_ways σ a0 a1 = some o) : bl_Fq ho md_X9_ways σ o.2 := by
  obtain ⟨σ0, hz⟩ : ∃ z, z = σ := ⟨_, rfl⟩
  suffices hgo : bl_Fq ho md_X9_ways σ0 o.2 by rw [hz] at hgo; exact hgo
  have qσ : bl_Fq ho md_X9_ways σ0 σ := by rw [hz]; exact ⟨hw, hh, fun _ _ => ⟨rfl, rfl, rfl⟩⟩
  have ha0 := And.intro ha0 trivial
  unfold f_X9_ways at hf
  rcases bl_if_at hf with hf | hf
  · rw [← Option.some.inj hf]
    exact qσ
  · rcases bl_if_at hf with hf | hf
    · rw [← Option.some.inj hf]
      exact qσ
    · have h3 := bl_Fq_gn qσ ha0 (k := 2) rfl
      rcases bl_if_at hf with hf | hf
      · rw [← Option.some.inj hf]
        exact qσ
      · obtain ⟨r5, σ6, h7, hf⟩ := bl_bd_at hf
        have qσ6 := bl_Fq_call qσ (fr_X9_waysOf σ a0 a1 _ qσ.1 qσ.2.1 ha0.1 h7) (by decide)
        rw [← Option.some.inj hf]
        exact qσ6
def md_X9_moves : List (Nat × Nat) := []
set_option maxRecDepth 100000 in
theorem gw_X9_moves_64 {ho : Nat → Bool} {σ0 : bl_St} {out : Int32 × bl_St} (k29 : bl_St → Nat → Int32 → Int32 → Int32 → Int32 → Option (Int32 × bl_St)) (gk29 : ∀ (σ : bl_St) (v0 : Nat) (v1 : Int32) (v2 : Int32) (v3 : Int32) (v4 : Int32), bl_Fq ho md_X9_moves σ0 σ → (bl_sh[v0]? = some (9, 13) ∧ True) → k29 σ v0 v1 v2 v3 v4 = some out → bl_Fq ho md_X9_moves σ0 out.2) : ∀ (σ : bl_St) (v0 : Nat) (v1 : Int32) (v2 : Int32) (v3 : Int32) (v4 : Int32), bl_Fq ho md_X9_moves σ0 σ → (bl_sh[v0]? = some (9, 13) ∧ True) → (b_X9_moves_64 k29) σ v0 v1 v2 v3 v4 = some out → bl_Fq ho md_X9_moves σ0 out.2 := by
  intro σ v0 v1 v2 v3 v4 qσ hv0 hf
  unfold b_X9_moves_64 at hf
  obtain ⟨x1, e2⟩ : ∃ z : Int32, z = v4 + 1 := ⟨_, rfl⟩
  have hf := bl_let_at e2 hf
  exact gk29 σ v0 v1 v2 v3 x1 qσ hv0 hf
set_option maxRecDepth 100000 in
theorem gw_X9_moves_29 {ho : Nat → Bool} {σ0 : bl_St} {out : Int32 × bl_St} (k29 : bl_St → Nat → Int32 → Int32 → Int32 → Int32 → Option (Int32 × bl_St)) (gk29 : ∀ (σ : bl_St) (v0 : Nat) (v1 : Int32) (v2 : Int32) (v3 : Int32) (v4 : Int32), bl_Fq ho md_X9_moves σ0 σ → (bl_sh[v0]? = some (9, 13) ∧ True) → k29 σ v0 v1 v2 v3 v4 = some out → bl_Fq ho md_X9_moves σ0 out.2) : ∀ (σ : bl_St) (v0 : Nat) (v1 : Int32) (v2 : Int32) (v3 : Int32) (v4 : Int32), bl_Fq ho md_X9_moves σ0 σ → (bl_sh[v0]? = some (9, 13) ∧ True) → (b_X9_moves_29 k29) σ v0 v1 v2 v3 v4 = some out → bl_Fq ho md_X9_moves σ0 out.2 := by
  intro σ v0 v1 v2 v3 v4 qσ hv0 hf
  unfold b_X9_moves_29 at hf
  have h3 := bl_Fq_gn qσ hv0 (k := 2) rfl
  obtain ⟨r4, σ5, h6, hf⟩ := bl_bd_at hf
  have qσ5 := bl_Fq_call qσ (fr_X8_chances σ (bl_R σ v0 2) _ qσ.1 qσ.2.1 h3.1 h6) (by decide)
  rcases bl_if_at hf with hf | hf
  · rw [← Option.some.inj hf]
    exact qσ5
  · have h8 := bl_Fq_gn qσ5 hv0 (k := 2) rfl
    obtain ⟨r9, σ10, h11, hf⟩ := bl_bd_at hf
    have qσ10 := bl_Fq_call qσ5 (fr_X8_next σ5 (bl_R σ5 v0 2) v1 v4 _ qσ5.1 qσ5.2.1 h8.1 h11) (by decide)
    rcases bl_if_at hf with hf | hf
    · obtain ⟨r13, σ14, h15, hf⟩ := bl_bd_at hf
      have qσ14 := bl_Fq_call qσ10 (fr_X9_waysOf σ10 v0 v4 _ qσ10.1 qσ10.2.1 hv0.1 h15) (by decide)
      obtain ⟨x16, e17⟩ : ∃ z, z = (v3 + r13) := ⟨_, rfl⟩
      have hf := bl_let_at e17 hf
      exact gw_X9_moves_64 k29 gk29 σ14 v0 v1 v2 x16 v4 qσ14 hv0 hf
    · exact gw_X9_moves_64 k29 gk29 σ10 v0 v1 v2 v3 v4 qσ10 hv0 hf
theorem gl_X9_moves_29 {ho : Nat → Bool} {σ0 : bl_St} {out : Int32 × bl_St} (n : Nat) : ∀ (σ : bl_St) (v0 : Nat) (v1 : Int32) (v2 : Int32) (v3 : Int32) (v4 : Int32), bl_Fq ho md_X9_moves σ0 σ → (bl_sh[v0]? = some (9, 13) ∧ True) → (bl_fx (fun _ _ _ _ _ _ => none) (b_X9_moves_29 ) n) σ v0 v1 v2 v3 v4 = some out → bl_Fq ho md_X9_moves σ0 out.2 := by
  induction n with
  | zero =>
    intro σ v0 v1 v2 v3 v4 qσ hv0 hf
    cases hf
  | succ n ih => exact gw_X9_moves_29  _ ih
set_option maxRecDepth 100000 in
theorem fr_X9_moves {ho : Nat → Bool} (σ : bl_St) (a0 : Nat) (a1 : Int32) (a2 : Int32) (o : Int32 × bl_St) (hw : bl_WT σ) (hh : bl_WH ho σ) (ha0 : bl_sh[a0]? = some (9, 13)) (hf : f_X9_moves σ a0 a1 a2 = some o) : bl_Fq ho md_X9_moves σ o.2 := by
  obtain ⟨σ0, hz⟩ : ∃ z, z = σ := ⟨_, rfl⟩
  suffices hgo : bl_Fq ho md_X9_moves σ0 o.2 by rw [hz] at hgo; exact hgo
  have qσ : bl_Fq ho md_X9_moves σ0 σ := by rw [hz]; exact ⟨hw, hh, fun _ _ => ⟨rfl, rfl, rfl⟩⟩
  have ha0 := And.intro ha0 trivial
  unfold f_X9_moves at hf
  have h18 := bl_Fq_gn qσ ha0 (k := 2) rfl
  obtain ⟨r19, σ20, h21, hf⟩ := bl_bd_at hf
  have qσ20 := bl_Fq_call qσ (fr_X8_hasClass σ (bl_R σ a0 2) a1 _ qσ.1 qσ.2.1 h18.1 h21) (by decide)
  rcases bl_if_at hf with hf | hf
  · rw [← Option.some.inj hf]
    exact qσ20
  · have h23 := bl_Fq_gn qσ20 ha0 (k := 2) rfl
    obtain ⟨r24, σ25, h26, hf⟩ := bl_bd_at hf
    have qσ25 := bl_Fq_call qσ20 (fr_X8_hasClass σ20 (bl_R σ20 a0 2) a2 _ qσ20.1 qσ20.2.1 h23.1 h26) (by decide)
    rcases bl_if_at hf with hf | hf
    · rw [← Option.some.inj hf]
      exact qσ25
    · exact gl_X9_moves_29  bl_fu σ25 a0 a1 a2 0 0 qσ25 ha0 hf
def md_X9_spreadOneYear : List (Nat × Nat) := [(21, 8)]
set_option maxRecDepth 100000 in
theorem gw_X9_spreadOneYear_42 {ho : Nat → Bool} {σ0 : bl_St} {out : Unit × bl_St} (k23 : bl_St → Nat → Int32 → Option (Unit × bl_St)) (gk23 : ∀ (σ : bl_St) (v0 : Nat) (v1 : Int32), bl_Fq ho md_X9_spreadOneYear σ0 σ → (bl_sh[v0]? = some (9, 13) ∧ ho v0 = true) → k23 σ v0 v1 = some out → bl_Fq ho md_X9_spreadOneYear σ0 out.2) (k42 : bl_St → Nat → Int32 → Int32 → Int32 → Option (Unit × bl_St)) (gk42 : ∀ (σ : bl_St) (v0 : Nat) (v1 : Int32) (v2 : Int32) (v3 : Int32), bl_Fq ho md_X9_spreadOneYear σ0 σ → (bl_sh[v0]? = some (9, 13) ∧ ho v0 = true) → k42 σ v0 v1 v2 v3 = some out → bl_Fq ho md_X9_spreadOneYear σ0 out.2) : ∀ (σ : bl_St) (v0 : Nat) (v1 : Int32) (v2 : Int32) (v3 : Int32), bl_Fq ho md_X9_spreadOneYear σ0 σ → (bl_sh[v0]? = some (9, 13) ∧ ho v0 = true) → (b_X9_spreadOneYear_42 k23 k42) σ v0 v1 v2 v3 = some out → bl_Fq ho md_X9_spreadOneYear σ0 out.2 := by
  intro σ v0 v1 v2 v3 qσ hv0 hf
  unfold b_X9_spreadOneYear_42 at hf
  have h1 := bl_Fq_g qσ hv0 (k := 2) rfl (by decide)
  rcases bl_if_at hf with hf | hf
  · obtain ⟨x3, e4⟩ : ∃ z : Int32, z = v1 + 1 := ⟨_, rfl⟩
    have hf := bl_let_at e4 hf
    exact gk23 σ v0 x3 qσ hv0 hf
  · have h5 := bl_Fq_g qσ hv0 (k := 12) rfl (by decide)
    have h6 := bl_Fq_g qσ hv0 (k := 2) rfl (by decide)
    obtain ⟨r7, σ8, h9, hf⟩ := bl_bd_at hf
    have qσ8 := bl_Fq_call qσ (fr_X8_next σ (bl_R σ v0 2) v3 v1 _ qσ.1 qσ.2.1 h6.1 h9) (by decide)
    obtain ⟨-, hf⟩ := bl_gd_at hf
    have h11 := bl_Fq_g qσ8 hv0 (k := 11) rfl (by decide)
    obtain ⟨-, hf⟩ := bl_gd_at hf
    obtain ⟨-, hf⟩ := bl_gd_at hf
    obtain ⟨σ14, e15⟩ : ∃ z : bl_St, z = bl_pJ σ8 (bl_R σ v0 12) (Int32.toNatClampNeg r7) ((bl_J σ8 (bl_R σ v0 12) (Int32.toNatClampNeg r7)) + ((bl_J σ8 (bl_R σ8 v0 11) (Int32.toNatClampNeg v3)) * (Int32.toInt64 v2))) := ⟨_, rfl⟩
    have hf := bl_let_at e15 hf
    have qσ14 : bl_Fq ho md_X9_spreadOneYear σ0 σ14 := by rw [e15]; exact bl_Fq_J qσ8 (bl_al_in h5.1 (by decide) h5.2)
    obtain ⟨x16, e17⟩ : ∃ z : Int32, z = v3 + 1 := ⟨_, rfl⟩
    have hf := bl_let_at e17 hf
    exact gk42 σ14 v0 v1 v2 x16 qσ14 hv0 hf
theorem gl_X9_spreadOneYear_42 {ho : Nat → Bool} {σ0 : bl_St} {out : Unit × bl_St} (k23 : bl_St → Nat → Int32 → Option (Unit × bl_St)) (gk23 : ∀ (σ : bl_St) (v0 : Nat) (v1 : Int32), bl_Fq ho md_X9_spreadOneYear σ0 σ → (bl_sh[v0]? = some (9, 13) ∧ ho v0 = true) → k23 σ v0 v1 = some out → bl_Fq ho md_X9_spreadOneYear σ0 out.2) (n : Nat) : ∀ (σ : bl_St) (v0 : Nat) (v1 : Int32) (v2 : Int32) (v3 : Int32), bl_Fq ho md_X9_spreadOneYear σ0 σ → (bl_sh[v0]? = some (9, 13) ∧ ho v0 = true) → (bl_fx (fun _ _ _ _ _ => none) (b_X9_spreadOneYear_42 k23) n) σ v0 v1 v2 v3 = some out → bl_Fq ho md_X9_spreadOneYear σ0 out.2 := by
  induction n with
  | zero =>
    intro σ v0 v1 v2 v3 qσ hv0 hf
    cases hf
  | succ n ih => exact gw_X9_spreadOneYear_42 k23 gk23 _ ih
set_option maxRecDepth 100000 in
theorem gw_X9_spreadOneYear_23 {ho : Nat → Bool} {σ0 : bl_St} {out : Unit × bl_St} (k23 : bl_St → Nat → Int32 → Option (Unit × bl_St)) (gk23 : ∀ (σ : bl_St) (v0 : Nat) (v1 : Int32), bl_Fq ho md_X9_spreadOneYear σ0 σ → (bl_sh[v0]? = some (9, 13) ∧ ho v0 = true) → k23 σ v0 v1 = some out → bl_Fq ho md_X9_spreadOneYear σ0 out.2) : ∀ (σ : bl_St) (v0 : Nat) (v1 : Int32), bl_Fq ho md_X9_spreadOneYear σ0 σ → (bl_sh[v0]? = some (9, 13) ∧ ho v0 = true) → (b_X9_spreadOneYear_23 k23) σ v0 v1 = some out → bl_Fq ho md_X9_spreadOneYear σ0 out.2 := by
  intro σ v0 v1 qσ hv0 hf
  unfold b_X9_spreadOneYear_23 at hf
  have h18 := bl_Fq_g qσ hv0 (k := 2) rfl (by decide)
  obtain ⟨r19, σ20, h21, hf⟩ := bl_bd_at hf
  have qσ20 := bl_Fq_call qσ (fr_X8_chances σ (bl_R σ v0 2) _ qσ.1 qσ.2.1 h18.1 h21) (by decide)
  rcases bl_if_at hf with hf | hf
  · have h23 := bl_Fq_g qσ20 hv0 (k := 12) rfl (by decide)
    have h24 := bl_Fq_g qσ20 hv0 (k := 11) rfl (by decide)
    obtain ⟨σ25, e26⟩ : ∃ z : bl_St, z = bl_cJ σ20 (bl_R σ20 v0 12) (Int32.toNatClampNeg 0) (bl_R σ20 v0 11) (Int32.toNatClampNeg 0) (Int32.toNatClampNeg 8) := ⟨_, rfl⟩
    have hf := bl_let_at e26 hf
    have qσ25 : bl_Fq ho md_X9_spreadOneYear σ0 σ25 := by rw [e26]; exact bl_Fq_cJ qσ20 (bl_al_in h24.1 (by decide) h24.2)
    rw [← Option.some.inj hf]
    exact qσ25
  · obtain ⟨r27, σ28, h29, hf⟩ := bl_bd_at hf
    have qσ28 := bl_Fq_call qσ20 (fr_X9_waysOf σ20 v0 v1 _ qσ20.1 qσ20.2.1 hv0.1 h29) (by decide)
    exact gl_X9_spreadOneYear_42 k23 gk23 bl_fu σ28 v0 v1 r27 0 qσ28 hv0 hf
theorem gl_X9_spreadOneYear_23 {ho : Nat → Bool} {σ0 : bl_St} {out : Unit × bl_St} (n : Nat) : ∀ (σ : bl_St) (v0 : Nat) (v1 : Int32), bl_Fq ho md_X9_spreadOneYear σ0 σ → (bl_sh[v0]? = some (9, 13) ∧ ho v0 = true) → (bl_fx (fun _ _ _ => none) (b_X9_spreadOneYear_23 ) n) σ v0 v1 = some out → bl_Fq ho md_X9_spreadOneYear σ0 out.2 := by
  induction n with
  | zero =>
    intro σ v0 v1 qσ hv0 hf
    cases hf
  | succ n ih => exact gw_X9_spreadOneYear_23  _ ih
set_option maxRecDepth 100000 in
theorem gw_X9_spreadOneYear_2 {ho : Nat → Bool} {σ0 : bl_St} {out : Unit × bl_St} (k2 : bl_St → Nat → Int32 → Option (Unit × bl_St)) (gk2 : ∀ (σ : bl_St) (v0 : Nat) (v1 : Int32), bl_Fq ho md_X9_spreadOneYear σ0 σ → (bl_sh[v0]? = some (9, 13) ∧ ho v0 = true) → k2 σ v0 v1 = some out → bl_Fq ho md_X9_spreadOneYear σ0 out.2) : ∀ (σ : bl_St) (v0 : Nat) (v1 : Int32), bl_Fq ho md_X9_spreadOneYear σ0 σ → (bl_sh[v0]? = some (9, 13) ∧ ho v0 = true) → (b_X9_spreadOneYear_2 k2) σ v0 v1 = some out → bl_Fq ho md_X9_spreadOneYear σ0 out.2 := by
  intro σ v0 v1 qσ hv0 hf
  unfold b_X9_spreadOneYear_2 at hf
  rcases bl_if_at hf with hf | hf
  · exact gl_X9_spreadOneYear_23  bl_fu σ v0 0 qσ hv0 hf
  · have h31 := bl_Fq_g qσ hv0 (k := 12) rfl (by decide)
    obtain ⟨-, hf⟩ := bl_gd_at hf
    obtain ⟨σ33, e34⟩ : ∃ z : bl_St, z = bl_pJ σ (bl_R σ v0 12) (Int32.toNatClampNeg v1) 0 := ⟨_, rfl⟩
    have hf := bl_let_at e34 hf
    have qσ33 : bl_Fq ho md_X9_spreadOneYear σ0 σ33 := by rw [e34]; exact bl_Fq_J qσ (bl_al_in h31.1 (by decide) h31.2)
    obtain ⟨x35, e36⟩ : ∃ z : Int32, z = v1 + 1 := ⟨_, rfl⟩
    have hf := bl_let_at e36 hf
    exact gk2 σ33 v0 x35 qσ33 hv0 hf
theorem gl_X9_spreadOneYear_2 {ho : Nat → Bool} {σ0 : bl_St} {out : Unit × bl_St} (n : Nat) : ∀ (σ : bl_St) (v0 : Nat) (v1 : Int32), bl_Fq ho md_X9_spreadOneYear σ0 σ → (bl_sh[v0]? = some (9, 13) ∧ ho v0 = true) → (bl_fx (fun _ _ _ => none) (b_X9_spreadOneYear_2 ) n) σ v0 v1 = some out → bl_Fq ho md_X9_spreadOneYear σ0 out.2 := by
  induction n with
  | zero =>
    intro σ v0 v1 qσ hv0 hf
    cases hf
  | succ n ih => exact gw_X9_spreadOneYear_2  _ ih
set_option maxRecDepth 100000 in
theorem fr_X9_spreadOneYear {ho : Nat → Bool} (σ : bl_St) (a0 : Nat) (o : Unit × bl_St) (hw : bl_WT σ) (hh : bl_WH ho σ) (ha0 : bl_sh[a0]? = some (9, 13) ∧ ho a0 = true) (hf : f_X9_spreadOneYear σ a0 = some o) : bl_Fq ho md_X9_spreadOneYear σ o.2 := by
  obtain ⟨σ0, hz⟩ : ∃ z, z = σ := ⟨_, rfl⟩
  suffices hgo : bl_Fq ho md_X9_spreadOneYear σ0 o.2 by rw [hz] at hgo; exact hgo
  have qσ : bl_Fq ho md_X9_spreadOneYear σ0 σ := by rw [hz]; exact ⟨hw, hh, fun _ _ => ⟨rfl, rfl, rfl⟩⟩
  unfold f_X9_spreadOneYear at hf
  exact gl_X9_spreadOneYear_2  bl_fu σ a0 0 qσ ha0 hf
def md_X9_spread : List (Nat × Nat) := [(21, 8)]
set_option maxRecDepth 100000 in
theorem gw_X9_spread_91 {ho : Nat → Bool} {σ0 : bl_St} {out : Int64 × bl_St} (k91 : bl_St → Nat → Int32 → Int32 → Int32 → Option (Int64 × bl_St)) (gk91 : ∀ (σ : bl_St) (v0 : Nat) (v1 : Int32) (v3 : Int32) (v4 : Int32), bl_Fq ho md_X9_spread σ0 σ → (bl_sh[v0]? = some (9, 13) ∧ ho v0 = true) → k91 σ v0 v1 v3 v4 = some out → bl_Fq ho md_X9_spread σ0 out.2) : ∀ (σ : bl_St) (v0 : Nat) (v1 : Int32) (v3 : Int32) (v4 : Int32), bl_Fq ho md_X9_spread σ0 σ → (bl_sh[v0]? = some (9, 13) ∧ ho v0 = true) → (b_X9_spread_91 k91) σ v0 v1 v3 v4 = some out → bl_Fq ho md_X9_spread σ0 out.2 := by
  intro σ v0 v1 v3 v4 qσ hv0 hf
  unfold b_X9_spread_91 at hf
  rcases bl_if_at hf with hf | hf
  · have h2 := bl_Fq_g qσ hv0 (k := 11) rfl (by decide)
    obtain ⟨-, hf⟩ := bl_gd_at hf
    rw [← Option.some.inj hf]
    exact qσ
  · obtain ⟨r4, σ5, h6, hf⟩ := bl_bd_at hf
    have qσ5 := bl_Fq_call qσ (fr_X9_spreadOneYear σ v0 _ qσ.1 qσ.2.1 hv0 h6) (by decide)
    obtain ⟨x7, e8⟩ : ∃ z : Int32, z = v4 + 1 := ⟨_, rfl⟩
    have hf := bl_let_at e8 hf
    exact gk91 σ5 v0 v1 v3 x7 qσ5 hv0 hf
theorem gl_X9_spread_91 {ho : Nat → Bool} {σ0 : bl_St} {out : Int64 × bl_St} (n : Nat) : ∀ (σ : bl_St) (v0 : Nat) (v1 : Int32) (v3 : Int32) (v4 : Int32), bl_Fq ho md_X9_spread σ0 σ → (bl_sh[v0]? = some (9, 13) ∧ ho v0 = true) → (bl_fx (fun _ _ _ _ _ => none) (b_X9_spread_91 ) n) σ v0 v1 v3 v4 = some out → bl_Fq ho md_X9_spread σ0 out.2 := by
  induction n with
  | zero =>
    intro σ v0 v1 v3 v4 qσ hv0 hf
    cases hf
  | succ n ih => exact gw_X9_spread_91  _ ih
set_option maxRecDepth 100000 in
theorem gw_X9_spread_81 {ho : Nat → Bool} {σ0 : bl_St} {out : Int64 × bl_St} (k57 : bl_St → Nat → Int32 → Int32 → Int32 → Int32 → Option (Int64 × bl_St)) (gk57 : ∀ (σ : bl_St) (v0 : Nat) (v1 : Int32) (v2 : Int32) (v3 : Int32) (v4 : Int32), bl_Fq ho md_X9_spread σ0 σ → (bl_sh[v0]? = some (9, 13) ∧ ho v0 = true) → k57 σ v0 v1 v2 v3 v4 = some out → bl_Fq ho md_X9_spread σ0 out.2) : ∀ (σ : bl_St) (v0 : Nat) (v1 : Int32) (v2 : Int32) (v3 : Int32) (v4 : Int32) (s0 : Int64) (s1 : Int32) (s2 : Nat), bl_Fq ho md_X9_spread σ0 σ → (bl_sh[v0]? = some (9, 13) ∧ ho v0 = true) → (bl_sh[s2]? = some (21, 8) ∧ ho s2 = true) → (b_X9_spread_81 k57) σ v0 v1 v2 v3 v4 s0 s1 s2 = some out → bl_Fq ho md_X9_spread σ0 out.2 := by
  intro σ v0 v1 v2 v3 v4 s0 s1 s2 qσ hv0 hs2 hf
  unfold b_X9_spread_81 at hf
  obtain ⟨-, hf⟩ := bl_gd_at hf
  obtain ⟨σ10, e11⟩ : ∃ z : bl_St, z = bl_pJ σ s2 (Int32.toNatClampNeg s1) s0 := ⟨_, rfl⟩
  have hf := bl_let_at e11 hf
  have qσ10 : bl_Fq ho md_X9_spread σ0 σ10 := by rw [e11]; exact bl_Fq_J qσ (bl_al_in hs2.1 (by decide) hs2.2)
  obtain ⟨x12, e13⟩ : ∃ z : Int32, z = v4 + 1 := ⟨_, rfl⟩
  have hf := bl_let_at e13 hf
  exact gk57 σ10 v0 v1 v2 v3 x12 qσ10 hv0 hf
set_option maxRecDepth 100000 in
theorem gw_X9_spread_57 {ho : Nat → Bool} {σ0 : bl_St} {out : Int64 × bl_St} (k57 : bl_St → Nat → Int32 → Int32 → Int32 → Int32 → Option (Int64 × bl_St)) (gk57 : ∀ (σ : bl_St) (v0 : Nat) (v1 : Int32) (v2 : Int32) (v3 : Int32) (v4 : Int32), bl_Fq ho md_X9_spread σ0 σ → (bl_sh[v0]? = some (9, 13) ∧ ho v0 = true) → k57 σ v0 v1 v2 v3 v4 = some out → bl_Fq ho md_X9_spread σ0 out.2) : ∀ (σ : bl_St) (v0 : Nat) (v1 : Int32) (v2 : Int32) (v3 : Int32) (v4 : Int32), bl_Fq ho md_X9_spread σ0 σ → (bl_sh[v0]? = some (9, 13) ∧ ho v0 = true) → (b_X9_spread_57 k57) σ v0 v1 v2 v3 v4 = some out → bl_Fq ho md_X9_spread σ0 out.2 := by
  intro σ v0 v1 v2 v3 v4 qσ hv0 hf
  unfold b_X9_spread_57 at hf
  rcases bl_if_at hf with hf | hf
  · exact gl_X9_spread_91  bl_fu σ v0 v1 v3 0 qσ hv0 hf
  · have h15 := bl_Fq_g qσ hv0 (k := 11) rfl (by decide)
    rcases bl_if_at hf with hf | hf
    · exact gw_X9_spread_81 k57 gk57 σ v0 v1 v2 v3 v4 1 v4 (bl_R σ v0 11) qσ hv0 h15 hf
    · exact gw_X9_spread_81 k57 gk57 σ v0 v1 v2 v3 v4 0 v4 (bl_R σ v0 11) qσ hv0 h15 hf
theorem gl_X9_spread_57 {ho : Nat → Bool} {σ0 : bl_St} {out : Int64 × bl_St} (n : Nat) : ∀ (σ : bl_St) (v0 : Nat) (v1 : Int32) (v2 : Int32) (v3 : Int32) (v4 : Int32), bl_Fq ho md_X9_spread σ0 σ → (bl_sh[v0]? = some (9, 13) ∧ ho v0 = true) → (bl_fx (fun _ _ _ _ _ _ => none) (b_X9_spread_57 ) n) σ v0 v1 v2 v3 v4 = some out → bl_Fq ho md_X9_spread σ0 out.2 := by
  induction n with
  | zero =>
    intro σ v0 v1 v2 v3 v4 qσ hv0 hf
    cases hf
  | succ n ih => exact gw_X9_spread_57  _ ih
set_option maxRecDepth 100000 in
theorem fr_X9_spread {ho : Nat → Bool} (σ : bl_St) (a0 : Nat) (a1 : Int32) (a2 : Int32) (a3 : Int32) (o : Int64 × bl_St) (hw : bl_WT σ) (hh : bl_WH ho σ) (ha0 : bl_sh[a0]? = some (9, 13) ∧ ho a0 = true) (hf : f_X9_spread σ a0 a1 a2 a3 = some o) : bl_Fq ho md_X9_spread σ o.2 := by
  obtain ⟨σ0, hz⟩ : ∃ z, z = σ := ⟨_, rfl⟩
  suffices hgo : bl_Fq ho md_X9_spread σ0 o.2 by rw [hz] at hgo; exact hgo
  have qσ : bl_Fq ho md_X9_spread σ0 σ := by rw [hz]; exact ⟨hw, hh, fun _ _ => ⟨rfl, rfl, rfl⟩⟩
  unfold f_X9_spread at hf
  have h17 := bl_Fq_g qσ ha0 (k := 2) rfl (by decide)
  obtain ⟨r18, σ19, h20, hf⟩ := bl_bd_at hf
  have qσ19 := bl_Fq_call qσ (fr_X8_hasClass σ (bl_R σ a0 2) a2 _ qσ.1 qσ.2.1 h17.1 h20) (by decide)
  rcases bl_if_at hf with hf | hf
  · rw [← Option.some.inj hf]
    exact qσ19
  · have h22 := bl_Fq_g qσ19 ha0 (k := 2) rfl (by decide)
    obtain ⟨r23, σ24, h25, hf⟩ := bl_bd_at hf
    have qσ24 := bl_Fq_call qσ19 (fr_X8_hasClass σ19 (bl_R σ19 a0 2) a3 _ qσ19.1 qσ19.2.1 h22.1 h25) (by decide)
    rcases bl_if_at hf with hf | hf
    · rw [← Option.some.inj hf]
      exact qσ24
    · rcases bl_if_at hf with hf | hf
      · rw [← Option.some.inj hf]
        exact qσ24
      · rcases bl_if_at hf with hf | hf
        · rw [← Option.some.inj hf]
          exact qσ24
        · have h29 := bl_Fq_g qσ24 ha0 (k := 2) rfl (by decide)
          obtain ⟨r30, σ31, h32, hf⟩ := bl_bd_at hf
          have qσ31 := bl_Fq_call qσ24 (fr_X8_chances σ24 (bl_R σ24 a0 2) _ qσ24.1 qσ24.2.1 h29.1 h32) (by decide)
          rcases bl_if_at hf with hf | hf
          · exact gl_X9_spread_57  bl_fu σ31 a0 a1 a2 a3 0 qσ31 ha0 hf
          · rw [← Option.some.inj hf]
            exact qσ31
def md_X9_shared : List (Nat × Nat) := [(1, 4), (3, 8), (20, 5), (21, 5), (21, 63), (21, 64)]
set_option maxRecDepth 100000 in
theorem fr_X9_shared {ho : Nat → Bool} (σ : bl_St) (a0 : Nat) (a1 : Int32) (a2 : Int32) (a3 : Int32) (o : Int64 × bl_St) (hw : bl_WT σ) (hh : bl_WH ho σ) (ha0 : bl_sh[a0]? = some (9, 13) ∧ ho a0 = true) (hf : f_X9_shared σ a0 a1 a2 a3 = some o) : bl_Fq ho md_X9_shared σ o.2 := by
  obtain ⟨σ0, hz⟩ : ∃ z, z = σ := ⟨_, rfl⟩
  suffices hgo : bl_Fq ho md_X9_shared σ0 o.2 by rw [hz] at hgo; exact hgo
  have qσ : bl_Fq ho md_X9_shared σ0 σ := by rw [hz]; exact ⟨hw, hh, fun _ _ => ⟨rfl, rfl, rfl⟩⟩
  unfold f_X9_shared at hf
  obtain ⟨r1, σ2, h3, hf⟩ := bl_bd_at hf
  have qσ2 := bl_Fq_call qσ (fr_X9_isAsked σ a0 a1 a2 _ qσ.1 qσ.2.1 ha0.1 h3) (by decide)
  rcases bl_if_at hf with hf | hf
  · rw [← Option.some.inj hf]
    exact qσ2
  · have h5 := bl_Fq_g qσ2 ha0 (k := 2) rfl (by decide)
    obtain ⟨r6, σ7, h8, hf⟩ := bl_bd_at hf
    have qσ7 := bl_Fq_call qσ2 (fr_X8_hasClass σ2 (bl_R σ2 a0 2) a3 _ qσ2.1 qσ2.2.1 h5.1 h8) (by decide)
    rcases bl_if_at hf with hf | hf
    · rw [← Option.some.inj hf]
      exact qσ7
    · have h10 := bl_Fq_g qσ7 ha0 (k := 9) rfl (by decide)
      have h11 := bl_Fq_g qσ7 ha0 (k := 2) rfl (by decide)
      obtain ⟨r12, σ13, h14, hf⟩ := bl_bd_at hf
      have qσ13 := bl_Fq_call qσ7 (fr_X1_costOf σ7 (bl_R σ7 a0 9) (bl_R σ7 a0 2) a1 a2 a3 _ qσ7.1 qσ7.2.1 h10 h11.1 h14) (by decide)
      rw [← Option.some.inj hf]
      exact qσ13
def md_X9_joinedClass : List (Nat × Nat) := []
set_option maxRecDepth 100000 in
theorem fr_X9_joinedClass {ho : Nat → Bool} (σ : bl_St) (a0 : Nat) (a1 : Int32) (a2 : Int32) (o : Int32 × bl_St) (hw : bl_WT σ) (hh : bl_WH ho σ) (ha0 : bl_sh[a0]? = some (9, 13)) (hf : f_X9_joinedClass σ a0 a1 a2 = some o) : bl_Fq ho md_X9_joinedClass σ o.2 := by
  obtain ⟨σ0, hz⟩ : ∃ z, z = σ := ⟨_, rfl⟩
  suffices hgo : bl_Fq ho md_X9_joinedClass σ0 o.2 by rw [hz] at hgo; exact hgo
  have qσ : bl_Fq ho md_X9_joinedClass σ0 σ := by rw [hz]; exact ⟨hw, hh, fun _ _ => ⟨rfl, rfl, rfl⟩⟩
  have ha0 := And.intro ha0 trivial
  unfold f_X9_joinedClass at hf
  have h1 := bl_Fq_gn qσ ha0 (k := 2) rfl
  obtain ⟨r2, σ3, h4, hf⟩ := bl_bd_at hf
  have qσ3 := bl_Fq_call qσ (fr_X8_part σ (bl_R σ a0 2) a2 0 _ qσ.1 qσ.2.1 h1.1 h4) (by decide)
  have h5 := bl_Fq_gn qσ3 ha0 (k := 2) rfl
  obtain ⟨r6, σ7, h8, hf⟩ := bl_bd_at hf
  have qσ7 := bl_Fq_call qσ3 (fr_X8_part σ3 (bl_R σ3 a0 2) a1 0 _ qσ3.1 qσ3.2.1 h5.1 h8) (by decide)
  rcases bl_if_at hf with hf | hf
  · rw [← Option.some.inj hf]
    exact qσ7
  · rw [← Option.some.inj hf]
    exact qσ7
def md_X9_joinedCost : List (Nat × Nat) := [(3, 8), (4, 12), (20, 5), (21, 5), (21, 42), (21, 168)]
set_option maxRecDepth 100000 in
theorem fr_X9_joinedCost {ho : Nat → Bool} (σ : bl_St) (a0 : Nat) (a1 : Int32) (a2 : Int32) (a3 : Int32) (o : Int64 × bl_St) (hw : bl_WT σ) (hh : bl_WH ho σ) (ha0 : bl_sh[a0]? = some (9, 13) ∧ ho a0 = true) (hf : f_X9_joinedCost σ a0 a1 a2 a3 = some o) : bl_Fq ho md_X9_joinedCost σ o.2 := by
  obtain ⟨σ0, hz⟩ : ∃ z, z = σ := ⟨_, rfl⟩
  suffices hgo : bl_Fq ho md_X9_joinedCost σ0 o.2 by rw [hz] at hgo; exact hgo
  have qσ : bl_Fq ho md_X9_joinedCost σ0 σ := by rw [hz]; exact ⟨hw, hh, fun _ _ => ⟨rfl, rfl, rfl⟩⟩
  unfold f_X9_joinedCost at hf
  have h1 := bl_Fq_g qσ ha0 (k := 8) rfl (by decide)
  have h2 := bl_Fq_g qσ ha0 (k := 2) rfl (by decide)
  obtain ⟨r3, σ4, h5, hf⟩ := bl_bd_at hf
  have qσ4 := bl_Fq_call qσ (fr_X4_look σ (bl_R σ a0 8) (bl_R σ a0 2) 0 _ qσ.1 qσ.2.1 h1 h2.1 h5) (by decide)
  have h6 := bl_Fq_g qσ4 ha0 (k := 8) rfl (by decide)
  obtain ⟨σ7, e8⟩ : ∃ z : bl_St, z = bl_pI σ4 (bl_R σ4 a0 8) 5 2 := ⟨_, rfl⟩
  have hf := bl_let_at e8 hf
  have qσ7 : bl_Fq ho md_X9_joinedCost σ0 σ7 := by rw [e8]; exact bl_Fq_I qσ4 (bl_al_in h6.1 (by decide) h6.2)
  have h9 := bl_Fq_g qσ7 ha0 (k := 8) rfl (by decide)
  obtain ⟨σ10, e11⟩ : ∃ z : bl_St, z = bl_pI σ7 (bl_R σ7 a0 8) 6 a3 := ⟨_, rfl⟩
  have hf := bl_let_at e11 hf
  have qσ10 : bl_Fq ho md_X9_joinedCost σ0 σ10 := by rw [e11]; exact bl_Fq_I qσ7 (bl_al_in h9.1 (by decide) h9.2)
  have h12 := bl_Fq_g qσ10 ha0 (k := 8) rfl (by decide)
  obtain ⟨r13, σ14, h15, hf⟩ := bl_bd_at hf
  have qσ14 := bl_Fq_call qσ10 (fr_X4_costOf σ10 (bl_R σ10 a0 8) a1 a2 _ qσ10.1 qσ10.2.1 h12 h15) (by decide)
  rw [← Option.some.inj hf]
  exact qσ14
def md_X9_joined : List (Nat × Nat) := [(3, 8), (4, 12), (20, 5), (21, 5), (21, 42), (21, 168)]
set_option maxRecDepth 100000 in
theorem fr_X9_joined {ho : Nat → Bool} (σ : bl_St) (a0 : Nat) (a1 : Int32) (a2 : Int32) (a3 : Int32) (a4 : Int32) (o : Int64 × bl_St) (hw : bl_WT σ) (hh : bl_WH ho σ) (ha0 : bl_sh[a0]? = some (9, 13) ∧ ho a0 = true) (hf : f_X9_joined σ a0 a1 a2 a3 a4 = some o) : bl_Fq ho md_X9_joined σ o.2 := by
  obtain ⟨σ0, hz⟩ : ∃ z, z = σ := ⟨_, rfl⟩
  suffices hgo : bl_Fq ho md_X9_joined σ0 o.2 by rw [hz] at hgo; exact hgo
  have qσ : bl_Fq ho md_X9_joined σ0 σ := by rw [hz]; exact ⟨hw, hh, fun _ _ => ⟨rfl, rfl, rfl⟩⟩
  unfold f_X9_joined at hf
  obtain ⟨r1, σ2, h3, hf⟩ := bl_bd_at hf
  have qσ2 := bl_Fq_call qσ (fr_X9_isAsked σ a0 a1 a2 _ qσ.1 qσ.2.1 ha0.1 h3) (by decide)
  rcases bl_if_at hf with hf | hf
  · rw [← Option.some.inj hf]
    exact qσ2
  · have h5 := bl_Fq_g qσ2 ha0 (k := 2) rfl (by decide)
    obtain ⟨r6, σ7, h8, hf⟩ := bl_bd_at hf
    have qσ7 := bl_Fq_call qσ2 (fr_X8_hasClass σ2 (bl_R σ2 a0 2) a3 _ qσ2.1 qσ2.2.1 h5.1 h8) (by decide)
    rcases bl_if_at hf with hf | hf
    · rw [← Option.some.inj hf]
      exact qσ7
    · rcases bl_if_at hf with hf | hf
      · rw [← Option.some.inj hf]
        exact qσ7
      · rcases bl_if_at hf with hf | hf
        · obtain ⟨r12, σ13, h14, hf⟩ := bl_bd_at hf
          have qσ13 := bl_Fq_call qσ7 (fr_X9_joinedClass σ7 a0 a2 a3 _ qσ7.1 qσ7.2.1 ha0.1 h14) (by decide)
          obtain ⟨r15, σ16, h17, hf⟩ := bl_bd_at hf
          have qσ16 := bl_Fq_call qσ13 (fr_X9_joinedCost σ13 a0 a1 r12 a4 _ qσ13.1 qσ13.2.1 ha0 h17) (by decide)
          rw [← Option.some.inj hf]
          exact qσ16
        · rw [← Option.some.inj hf]
          exact qσ7
def md_X9_rebate : List (Nat × Nat) := [(3, 8), (4, 12), (20, 5), (21, 5), (21, 42), (21, 168)]
set_option maxRecDepth 100000 in
theorem gw_X9_rebate_124 {ho : Nat → Bool} {σ0 : bl_St} {out : Int32 × bl_St} (k73 : bl_St → Nat → Int32 → Int64 → Int32 → Int32 → Int32 → Int32 → Option (Int32 × bl_St)) (gk73 : ∀ (σ : bl_St) (v0 : Nat) (v1 : Int32) (v4 : Int64) (v6 : Int32) (v7 : Int32) (v8 : Int32) (v9 : Int32), bl_Fq ho md_X9_rebate σ0 σ → (bl_sh[v0]? = some (9, 13) ∧ ho v0 = true) → k73 σ v0 v1 v4 v6 v7 v8 v9 = some out → bl_Fq ho md_X9_rebate σ0 out.2) : ∀ (σ : bl_St) (v0 : Nat) (v1 : Int32) (v4 : Int64) (v6 : Int32) (v7 : Int32) (v8 : Int32) (v9 : Int32), bl_Fq ho md_X9_rebate σ0 σ → (bl_sh[v0]? = some (9, 13) ∧ ho v0 = true) → (b_X9_rebate_124 k73) σ v0 v1 v4 v6 v7 v8 v9 = some out → bl_Fq ho md_X9_rebate σ0 out.2 := by
  intro σ v0 v1 v4 v6 v7 v8 v9 qσ hv0 hf
  unfold b_X9_rebate_124 at hf
  obtain ⟨x1, e2⟩ : ∃ z : Int32, z = v9 + 1 := ⟨_, rfl⟩
  have hf := bl_let_at e2 hf
  exact gk73 σ v0 v1 v4 v6 v7 v8 x1 qσ hv0 hf
set_option maxRecDepth 100000 in
theorem gw_X9_rebate_73 {ho : Nat → Bool} {σ0 : bl_St} {out : Int32 × bl_St} (k73 : bl_St → Nat → Int32 → Int64 → Int32 → Int32 → Int32 → Int32 → Option (Int32 × bl_St)) (gk73 : ∀ (σ : bl_St) (v0 : Nat) (v1 : Int32) (v4 : Int64) (v6 : Int32) (v7 : Int32) (v8 : Int32) (v9 : Int32), bl_Fq ho md_X9_rebate σ0 σ → (bl_sh[v0]? = some (9, 13) ∧ ho v0 = true) → k73 σ v0 v1 v4 v6 v7 v8 v9 = some out → bl_Fq ho md_X9_rebate σ0 out.2) : ∀ (σ : bl_St) (v0 : Nat) (v1 : Int32) (v4 : Int64) (v6 : Int32) (v7 : Int32) (v8 : Int32) (v9 : Int32), bl_Fq ho md_X9_rebate σ0 σ → (bl_sh[v0]? = some (9, 13) ∧ ho v0 = true) → (b_X9_rebate_73 k73) σ v0 v1 v4 v6 v7 v8 v9 = some out → bl_Fq ho md_X9_rebate σ0 out.2 := by
  intro σ v0 v1 v4 v6 v7 v8 v9 qσ hv0 hf
  unfold b_X9_rebate_73 at hf
  rcases bl_if_at hf with hf | hf
  · rw [← Option.some.inj hf]
    exact qσ
  · rcases bl_if_at hf with hf | hf
    · rw [← Option.some.inj hf]
      exact qσ
    · obtain ⟨x5, e6⟩ : ∃ z, z = ((v7 + v8) / 2) := ⟨_, rfl⟩
      have hf := bl_let_at e6 hf
      obtain ⟨r7, σ8, h9, hf⟩ := bl_bd_at hf
      have qσ8 := bl_Fq_call qσ (fr_X9_joinedCost σ v0 v1 v6 x5 _ qσ.1 qσ.2.1 hv0 h9) (by decide)
      rcases bl_if_at hf with hf | hf
      · obtain ⟨x11, e12⟩ : ∃ z, z = (x5 + 1) := ⟨_, rfl⟩
        have hf := bl_let_at e12 hf
        exact gw_X9_rebate_124 k73 gk73 σ8 v0 v1 v4 v6 x11 v8 v9 qσ8 hv0 hf
      · exact gw_X9_rebate_124 k73 gk73 σ8 v0 v1 v4 v6 v7 x5 v9 qσ8 hv0 hf
theorem gl_X9_rebate_73 {ho : Nat → Bool} {σ0 : bl_St} {out : Int32 × bl_St} (n : Nat) : ∀ (σ : bl_St) (v0 : Nat) (v1 : Int32) (v4 : Int64) (v6 : Int32) (v7 : Int32) (v8 : Int32) (v9 : Int32), bl_Fq ho md_X9_rebate σ0 σ → (bl_sh[v0]? = some (9, 13) ∧ ho v0 = true) → (bl_fx (fun _ _ _ _ _ _ _ _ => none) (b_X9_rebate_73 ) n) σ v0 v1 v4 v6 v7 v8 v9 = some out → bl_Fq ho md_X9_rebate σ0 out.2 := by
  induction n with
  | zero =>
    intro σ v0 v1 v4 v6 v7 v8 v9 qσ hv0 hf
    cases hf
  | succ n ih => exact gw_X9_rebate_73  _ ih
set_option maxRecDepth 100000 in
theorem fr_X9_rebate {ho : Nat → Bool} (σ : bl_St) (a0 : Nat) (a1 : Int32) (a2 : Int32) (a3 : Int32) (o : Int32 × bl_St) (hw : bl_WT σ) (hh : bl_WH ho σ) (ha0 : bl_sh[a0]? = some (9, 13) ∧ ho a0 = true) (hf : f_X9_rebate σ a0 a1 a2 a3 = some o) : bl_Fq ho md_X9_rebate σ o.2 := by
  obtain ⟨σ0, hz⟩ : ∃ z, z = σ := ⟨_, rfl⟩
  suffices hgo : bl_Fq ho md_X9_rebate σ0 o.2 by rw [hz] at hgo; exact hgo
  have qσ : bl_Fq ho md_X9_rebate σ0 σ := by rw [hz]; exact ⟨hw, hh, fun _ _ => ⟨rfl, rfl, rfl⟩⟩
  unfold f_X9_rebate at hf
  obtain ⟨r13, σ14, h15, hf⟩ := bl_bd_at hf
  have qσ14 := bl_Fq_call qσ (fr_X9_isAsked σ a0 a1 a2 _ qσ.1 qσ.2.1 ha0.1 h15) (by decide)
  rcases bl_if_at hf with hf | hf
  · rw [← Option.some.inj hf]
    exact qσ14
  · have h17 := bl_Fq_g qσ14 ha0 (k := 2) rfl (by decide)
    obtain ⟨r18, σ19, h20, hf⟩ := bl_bd_at hf
    have qσ19 := bl_Fq_call qσ14 (fr_X8_hasClass σ14 (bl_R σ14 a0 2) a3 _ qσ14.1 qσ14.2.1 h17.1 h20) (by decide)
    rcases bl_if_at hf with hf | hf
    · rw [← Option.some.inj hf]
      exact qσ19
    · obtain ⟨r22, σ23, h24, hf⟩ := bl_bd_at hf
      have qσ23 := bl_Fq_call qσ19 (fr_X9_bareCost σ19 a0 a1 a2 _ qσ19.1 qσ19.2.1 ha0 h24) (by decide)
      obtain ⟨r25, σ26, h27, hf⟩ := bl_bd_at hf
      have qσ26 := bl_Fq_call qσ23 (fr_X9_bareCost σ23 a0 a1 a3 _ qσ23.1 qσ23.2.1 ha0 h27) (by decide)
      obtain ⟨x28, e29⟩ : ∃ z, z = (r22 + r25) := ⟨_, rfl⟩
      have hf := bl_let_at e29 hf
      obtain ⟨r30, σ31, h32, hf⟩ := bl_bd_at hf
      have qσ31 := bl_Fq_call qσ26 (fr_X9_joinedClass σ26 a0 a2 a3 _ qσ26.1 qσ26.2.1 ha0.1 h32) (by decide)
      obtain ⟨r33, σ34, h35, hf⟩ := bl_bd_at hf
      have qσ34 := bl_Fq_call qσ31 (fr_X9_joinedCost σ31 a0 a1 r30 50 _ qσ31.1 qσ31.2.1 ha0 h35) (by decide)
      rcases bl_if_at hf with hf | hf
      · exact gl_X9_rebate_73  bl_fu σ34 a0 a1 x28 r30 0 50 0 qσ34 ha0 hf
      · rw [← Option.some.inj hf]
        exact qσ34
def md_X9_advice : List (Nat × Nat) := [(3, 8), (4, 12), (20, 5), (21, 5), (21, 42), (21, 168)]
set_option maxRecDepth 100000 in
theorem fr_X9_advice {ho : Nat → Bool} (σ : bl_St) (a0 : Nat) (a1 : Int32) (a2 : Int32) (o : Int32 × bl_St) (hw : bl_WT σ) (hh : bl_WH ho σ) (ha0 : bl_sh[a0]? = some (9, 13) ∧ ho a0 = true) (hf : f_X9_advice σ a0 a1 a2 = some o) : bl_Fq ho md_X9_advice σ o.2 := by
  obtain ⟨σ0, hz⟩ : ∃ z, z = σ := ⟨_, rfl⟩
  suffices hgo : bl_Fq ho md_X9_advice σ0 o.2 by rw [hz] at hgo; exact hgo
  have qσ : bl_Fq ho md_X9_advice σ0 σ := by rw [hz]; exact ⟨hw, hh, fun _ _ => ⟨rfl, rfl, rfl⟩⟩
  unfold f_X9_advice at hf
  have h1 := bl_Fq_g qσ ha0 (k := 4) rfl (by decide)
  rcases bl_if_at hf with hf | hf
  · rw [← Option.some.inj hf]
    exact qσ
  · rcases bl_if_at hf with hf | hf
    · rw [← Option.some.inj hf]
      exact qσ
    · rcases bl_if_at hf with hf | hf
      · rw [← Option.some.inj hf]
        exact qσ
      · have h5 := bl_Fq_g qσ ha0 (k := 2) rfl (by decide)
        obtain ⟨r6, σ7, h8, hf⟩ := bl_bd_at hf
        have qσ7 := bl_Fq_call qσ (fr_X8_hasSort σ (bl_R σ a0 2) a2 _ qσ.1 qσ.2.1 h5.1 h8) (by decide)
        rcases bl_if_at hf with hf | hf
        · rw [← Option.some.inj hf]
          exact qσ7
        · have h10 := bl_Fq_g qσ7 ha0 (k := 4) rfl (by decide)
          obtain ⟨x11, e12⟩ : ∃ z, z = (if (bl_I σ7 (bl_R σ7 a0 4) 3) < 2 then (bl_I σ7 (bl_R σ7 a0 4) 3) else 2) := ⟨_, rfl⟩
          have hf := bl_let_at e12 hf
          have h13 := bl_Fq_g qσ7 ha0 (k := 7) rfl (by decide)
          obtain ⟨r14, σ15, h16, hf⟩ := bl_bd_at hf
          have qσ15 := bl_Fq_call qσ7 (fr_X4_learn σ7 (bl_R σ7 a0 7) (a1 - 1) _ qσ7.1 qσ7.2.1 h13 h16) (by decide)
          have h17 := bl_Fq_g qσ15 ha0 (k := 7) rfl (by decide)
          have h18 := bl_Fq_g qσ15 ha0 (k := 4) rfl (by decide)
          have h19 := bl_Fq_g qσ15 ha0 (k := 4) rfl (by decide)
          have h20 := bl_Fq_g qσ15 ha0 (k := 4) rfl (by decide)
          obtain ⟨r21, σ22, h23, hf⟩ := bl_bd_at hf
          have qσ22 := bl_Fq_call qσ15 (fr_X4_lookAhead σ15 (bl_R σ15 a0 7) a1 (bl_I σ15 (bl_R σ15 a0 4) 0) (bl_I σ15 (bl_R σ15 a0 4) 2) x11 (bl_I σ15 (bl_R σ15 a0 4) 4) _ qσ15.1 qσ15.2.1 h17 h23) (by decide)
          have h24 := bl_Fq_g qσ22 ha0 (k := 7) rfl (by decide)
          have h25 := bl_Fq_g qσ22 ha0 (k := 4) rfl (by decide)
          have h26 := bl_Fq_g qσ22 ha0 (k := 4) rfl (by decide)
          obtain ⟨r27, σ28, h29, hf⟩ := bl_bd_at hf
          have qσ28 := bl_Fq_call qσ22 (fr_X4_gainOf σ22 (bl_R σ22 a0 7) (bl_I σ22 (bl_R σ22 a0 4) 2) x11 (bl_I σ22 (bl_R σ22 a0 4) 4) a2 _ qσ22.1 qσ22.2.1 h24.1 h29) (by decide)
          rcases bl_if_at hf with hf | hf
          · rw [← Option.some.inj hf]
            exact qσ28
          · rw [← Option.some.inj hf]
            exact qσ28
def md_X9_rest : List (Nat × Nat) := []
set_option maxRecDepth 100000 in
theorem gw_X9_rest_20 {ho : Nat → Bool} {σ0 : bl_St} {out : Int32 × bl_St} (k20 : bl_St → Nat → Int32 → Int32 → Int32 → Option (Int32 × bl_St)) (gk20 : ∀ (σ : bl_St) (v0 : Nat) (v2 : Int32) (v3 : Int32) (v4 : Int32), bl_Fq ho md_X9_rest σ0 σ → (bl_sh[v0]? = some (9, 13) ∧ True) → k20 σ v0 v2 v3 v4 = some out → bl_Fq ho md_X9_rest σ0 out.2) : ∀ (σ : bl_St) (v0 : Nat) (v2 : Int32) (v3 : Int32) (v4 : Int32), bl_Fq ho md_X9_rest σ0 σ → (bl_sh[v0]? = some (9, 13) ∧ True) → (b_X9_rest_20 k20) σ v0 v2 v3 v4 = some out → bl_Fq ho md_X9_rest σ0 out.2 := by
  intro σ v0 v2 v3 v4 qσ hv0 hf
  unfold b_X9_rest_20 at hf
  have h1 := bl_Fq_gn qσ hv0 (k := 2) rfl
  rcases bl_if_at hf with hf | hf
  · rw [← Option.some.inj hf]
    exact qσ
  · rcases bl_if_at hf with hf | hf
    · obtain ⟨x4, e5⟩ : ∃ z, z = (v2 ||| (1 <<< (v3 &&& 31))) := ⟨_, rfl⟩
      have hf := bl_let_at e5 hf
      have h6 := bl_Fq_gn qσ hv0 (k := 2) rfl
      obtain ⟨r7, σ8, h9, hf⟩ := bl_bd_at hf
      have qσ8 := bl_Fq_call qσ (fr_X8_next σ (bl_R σ v0 2) v3 0 _ qσ.1 qσ.2.1 h6.1 h9) (by decide)
      obtain ⟨x10, e11⟩ : ∃ z : Int32, z = v4 + 1 := ⟨_, rfl⟩
      have hf := bl_let_at e11 hf
      exact gk20 σ8 v0 x4 r7 x10 qσ8 hv0 hf
    · rw [← Option.some.inj hf]
      exact qσ
theorem gl_X9_rest_20 {ho : Nat → Bool} {σ0 : bl_St} {out : Int32 × bl_St} (n : Nat) : ∀ (σ : bl_St) (v0 : Nat) (v2 : Int32) (v3 : Int32) (v4 : Int32), bl_Fq ho md_X9_rest σ0 σ → (bl_sh[v0]? = some (9, 13) ∧ True) → (bl_fx (fun _ _ _ _ _ => none) (b_X9_rest_20 ) n) σ v0 v2 v3 v4 = some out → bl_Fq ho md_X9_rest σ0 out.2 := by
  induction n with
  | zero =>
    intro σ v0 v2 v3 v4 qσ hv0 hf
    cases hf
  | succ n ih => exact gw_X9_rest_20  _ ih
set_option maxRecDepth 100000 in
theorem fr_X9_rest {ho : Nat → Bool} (σ : bl_St) (a0 : Nat) (a1 : Int32) (o : Int32 × bl_St) (hw : bl_WT σ) (hh : bl_WH ho σ) (ha0 : bl_sh[a0]? = some (9, 13)) (hf : f_X9_rest σ a0 a1 = some o) : bl_Fq ho md_X9_rest σ o.2 := by
  obtain ⟨σ0, hz⟩ : ∃ z, z = σ := ⟨_, rfl⟩
  suffices hgo : bl_Fq ho md_X9_rest σ0 o.2 by rw [hz] at hgo; exact hgo
  have qσ : bl_Fq ho md_X9_rest σ0 σ := by rw [hz]; exact ⟨hw, hh, fun _ _ => ⟨rfl, rfl, rfl⟩⟩
  have ha0 := And.intro ha0 trivial
  unfold f_X9_rest at hf
  have h12 := bl_Fq_gn qσ ha0 (k := 2) rfl
  obtain ⟨r13, σ14, h15, hf⟩ := bl_bd_at hf
  have qσ14 := bl_Fq_call qσ (fr_X8_hasClass σ (bl_R σ a0 2) a1 _ qσ.1 qσ.2.1 h12.1 h15) (by decide)
  rcases bl_if_at hf with hf | hf
  · rw [← Option.some.inj hf]
    exact qσ14
  · exact gl_X9_rest_20  bl_fu σ14 a0 0 a1 0 qσ14 ha0 hf
def md_X9_costWere : List (Nat × Nat) := [(3, 8), (4, 12), (8, 5), (20, 3), (20, 5), (20, 10), (20, 40), (21, 5), (21, 42), (21, 168)]
set_option maxRecDepth 100000 in
theorem fr_X9_costWere {ho : Nat → Bool} (σ : bl_St) (a0 : Nat) (a1 : Int32) (a2 : Int32) (a3 : Int32) (a4 : Int32) (o : Int64 × bl_St) (hw : bl_WT σ) (hh : bl_WH ho σ) (ha0 : bl_sh[a0]? = some (9, 13) ∧ ho a0 = true) (hf : f_X9_costWere σ a0 a1 a2 a3 a4 = some o) : bl_Fq ho md_X9_costWere σ o.2 := by
  obtain ⟨σ0, hz⟩ : ∃ z, z = σ := ⟨_, rfl⟩
  suffices hgo : bl_Fq ho md_X9_costWere σ0 o.2 by rw [hz] at hgo; exact hgo
  have qσ : bl_Fq ho md_X9_costWere σ0 σ := by rw [hz]; exact ⟨hw, hh, fun _ _ => ⟨rfl, rfl, rfl⟩⟩
  unfold f_X9_costWere at hf
  have h1 := bl_Fq_g qσ ha0 (k := 3) rfl (by decide)
  have h2 := bl_Fq_g qσ ha0 (k := 2) rfl (by decide)
  obtain ⟨r3, σ4, h5, hf⟩ := bl_bd_at hf
  have qσ4 := bl_Fq_call qσ (fr_X8_copy σ (bl_R σ a0 3) (bl_R σ a0 2) _ qσ.1 qσ.2.1 h1 h2.1 h5) (by decide)
  have h6 := bl_Fq_g qσ4 ha0 (k := 3) rfl (by decide)
  have h7 := bl_Fq_g qσ4 h6 (k := 4) rfl (by decide)
  obtain ⟨-, hf⟩ := bl_gd_at hf
  obtain ⟨σ9, e10⟩ : ∃ z : bl_St, z = bl_pI σ4 (bl_R σ4 (bl_R σ4 a0 3) 4) (Int32.toNatClampNeg a1) a2 := ⟨_, rfl⟩
  have hf := bl_let_at e10 hf
  have qσ9 : bl_Fq ho md_X9_costWere σ0 σ9 := by rw [e10]; exact bl_Fq_I qσ4 (bl_al_in h7.1 (by decide) h7.2)
  have h11 := bl_Fq_g qσ9 ha0 (k := 8) rfl (by decide)
  have h12 := bl_Fq_g qσ9 ha0 (k := 3) rfl (by decide)
  obtain ⟨r13, σ14, h15, hf⟩ := bl_bd_at hf
  have qσ14 := bl_Fq_call qσ9 (fr_X4_look σ9 (bl_R σ9 a0 8) (bl_R σ9 a0 3) 1 _ qσ9.1 qσ9.2.1 h11 h12.1 h15) (by decide)
  have h16 := bl_Fq_g qσ14 ha0 (k := 8) rfl (by decide)
  obtain ⟨r17, σ18, h19, hf⟩ := bl_bd_at hf
  have qσ18 := bl_Fq_call qσ14 (fr_X4_costOf σ14 (bl_R σ14 a0 8) a3 a4 _ qσ14.1 qσ14.2.1 h16 h19) (by decide)
  rw [← Option.some.inj hf]
  exact qσ18
def md_X9_were : List (Nat × Nat) := [(3, 8), (4, 12), (8, 5), (20, 3), (20, 5), (20, 10), (20, 40), (21, 5), (21, 42), (21, 168)]
set_option maxRecDepth 100000 in
theorem fr_X9_were {ho : Nat → Bool} (σ : bl_St) (a0 : Nat) (a1 : Int32) (a2 : Int32) (a3 : Int32) (a4 : Int32) (o : Int64 × bl_St) (hw : bl_WT σ) (hh : bl_WH ho σ) (ha0 : bl_sh[a0]? = some (9, 13) ∧ ho a0 = true) (hf : f_X9_were σ a0 a1 a2 a3 a4 = some o) : bl_Fq ho md_X9_were σ o.2 := by
  obtain ⟨σ0, hz⟩ : ∃ z, z = σ := ⟨_, rfl⟩
  suffices hgo : bl_Fq ho md_X9_were σ0 o.2 by rw [hz] at hgo; exact hgo
  have qσ : bl_Fq ho md_X9_were σ0 σ := by rw [hz]; exact ⟨hw, hh, fun _ _ => ⟨rfl, rfl, rfl⟩⟩
  unfold f_X9_were at hf
  obtain ⟨r1, σ2, h3, hf⟩ := bl_bd_at hf
  have qσ2 := bl_Fq_call qσ (fr_X9_isAsked σ a0 a3 a4 _ qσ.1 qσ.2.1 ha0.1 h3) (by decide)
  rcases bl_if_at hf with hf | hf
  · rw [← Option.some.inj hf]
    exact qσ2
  · obtain ⟨r5, σ6, h7, hf⟩ := bl_bd_at hf
    have qσ6 := bl_Fq_call qσ2 (fr_X9_isRule σ2 a1 a2 _ qσ2.1 qσ2.2.1  h7) (by decide)
    rcases bl_if_at hf with hf | hf
    · rw [← Option.some.inj hf]
      exact qσ6
    · obtain ⟨r9, σ10, h11, hf⟩ := bl_bd_at hf
      have qσ10 := bl_Fq_call qσ6 (fr_X9_costWere σ6 a0 a1 a2 a3 a4 _ qσ6.1 qσ6.2.1 ha0 h11) (by decide)
      rw [← Option.some.inj hf]
      exact qσ10
def md_X9_lacking : List (Nat × Nat) := [(3, 8), (4, 12), (8, 5), (20, 3), (20, 5), (20, 10), (20, 40), (21, 5), (21, 42), (21, 168)]
set_option maxRecDepth 100000 in
theorem fr_X9_lacking {ho : Nat → Bool} (σ : bl_St) (a0 : Nat) (a1 : Int32) (a2 : Int32) (a3 : Int32) (o : Int64 × bl_St) (hw : bl_WT σ) (hh : bl_WH ho σ) (ha0 : bl_sh[a0]? = some (9, 13) ∧ ho a0 = true) (hf : f_X9_lacking σ a0 a1 a2 a3 = some o) : bl_Fq ho md_X9_lacking σ o.2 := by
  obtain ⟨σ0, hz⟩ : ∃ z, z = σ := ⟨_, rfl⟩
  suffices hgo : bl_Fq ho md_X9_lacking σ0 o.2 by rw [hz] at hgo; exact hgo
  have qσ : bl_Fq ho md_X9_lacking σ0 σ := by rw [hz]; exact ⟨hw, hh, fun _ _ => ⟨rfl, rfl, rfl⟩⟩
  unfold f_X9_lacking at hf
  obtain ⟨r1, σ2, h3, hf⟩ := bl_bd_at hf
  have qσ2 := bl_Fq_call qσ (fr_X9_isAsked σ a0 a2 a3 _ qσ.1 qσ.2.1 ha0.1 h3) (by decide)
  rcases bl_if_at hf with hf | hf
  · rw [← Option.some.inj hf]
    exact qσ2
  · have h5 := bl_Fq_g qσ2 ha0 (k := 2) rfl (by decide)
    obtain ⟨r6, σ7, h8, hf⟩ := bl_bd_at hf
    have qσ7 := bl_Fq_call qσ2 (fr_X8_hasSort σ2 (bl_R σ2 a0 2) a1 _ qσ2.1 qσ2.2.1 h5.1 h8) (by decide)
    rcases bl_if_at hf with hf | hf
    · rw [← Option.some.inj hf]
      exact qσ7
    · have h10 := bl_Fq_g qσ7 ha0 (k := 2) rfl (by decide)
      rcases bl_if_at hf with hf | hf
      · rw [← Option.some.inj hf]
        exact qσ7
      · have h12 := bl_Fq_g qσ7 ha0 (k := 3) rfl (by decide)
        have h13 := bl_Fq_g qσ7 ha0 (k := 2) rfl (by decide)
        obtain ⟨r14, σ15, h16, hf⟩ := bl_bd_at hf
        have qσ15 := bl_Fq_call qσ7 (fr_X8_copy σ7 (bl_R σ7 a0 3) (bl_R σ7 a0 2) _ qσ7.1 qσ7.2.1 h12 h13.1 h16) (by decide)
        have h17 := bl_Fq_g qσ15 ha0 (k := 3) rfl (by decide)
        obtain ⟨r18, σ19, h20, hf⟩ := bl_bd_at hf
        have qσ19 := bl_Fq_call qσ15 (fr_X8_removeSort σ15 (bl_R σ15 a0 3) a1 _ qσ15.1 qσ15.2.1 h17 h20) (by decide)
        have h21 := bl_Fq_g qσ19 ha0 (k := 8) rfl (by decide)
        have h22 := bl_Fq_g qσ19 ha0 (k := 3) rfl (by decide)
        obtain ⟨r23, σ24, h25, hf⟩ := bl_bd_at hf
        have qσ24 := bl_Fq_call qσ19 (fr_X4_look σ19 (bl_R σ19 a0 8) (bl_R σ19 a0 3) 1 _ qσ19.1 qσ19.2.1 h21 h22.1 h25) (by decide)
        have h26 := bl_Fq_g qσ24 ha0 (k := 8) rfl (by decide)
        obtain ⟨r27, σ28, h29, hf⟩ := bl_bd_at hf
        have qσ28 := bl_Fq_call qσ24 (fr_X4_costOf σ24 (bl_R σ24 a0 8) a2 a3 _ qσ24.1 qσ24.2.1 h26 h29) (by decide)
        rw [← Option.some.inj hf]
        exact qσ28
def md_X9_oddsFor : List (Nat × Nat) := [(3, 8), (4, 12), (8, 5), (20, 3), (20, 5), (20, 10), (20, 40), (21, 5), (21, 42), (21, 168)]
set_option maxRecDepth 100000 in
theorem gw_X9_oddsFor_15 {ho : Nat → Bool} {σ0 : bl_St} {out : Int32 × bl_St} (k15 : bl_St → Nat → Int64 → Int32 → Int32 → Int32 → Option (Int32 × bl_St)) (gk15 : ∀ (σ : bl_St) (v0 : Nat) (v1 : Int64) (v3 : Int32) (v4 : Int32) (v5 : Int32), bl_Fq ho md_X9_oddsFor σ0 σ → (bl_sh[v0]? = some (9, 13) ∧ ho v0 = true) → k15 σ v0 v1 v3 v4 v5 = some out → bl_Fq ho md_X9_oddsFor σ0 out.2) : ∀ (σ : bl_St) (v0 : Nat) (v1 : Int64) (v3 : Int32) (v4 : Int32) (v5 : Int32), bl_Fq ho md_X9_oddsFor σ0 σ → (bl_sh[v0]? = some (9, 13) ∧ ho v0 = true) → (b_X9_oddsFor_15 k15) σ v0 v1 v3 v4 v5 = some out → bl_Fq ho md_X9_oddsFor σ0 out.2 := by
  intro σ v0 v1 v3 v4 v5 qσ hv0 hf
  unfold b_X9_oddsFor_15 at hf
  rcases bl_if_at hf with hf | hf
  · rw [← Option.some.inj hf]
    exact qσ
  · obtain ⟨r2, σ3, h4, hf⟩ := bl_bd_at hf
    have qσ3 := bl_Fq_call qσ (fr_X9_costWere σ v0 1 v5 v3 v4 _ qσ.1 qσ.2.1 hv0 h4) (by decide)
    rcases bl_if_at hf with hf | hf
    · obtain ⟨x6, e7⟩ : ∃ z : Int32, z = v5 + 1 := ⟨_, rfl⟩
      have hf := bl_let_at e7 hf
      exact gk15 σ3 v0 v1 v3 v4 x6 qσ3 hv0 hf
    · rw [← Option.some.inj hf]
      exact qσ3
theorem gl_X9_oddsFor_15 {ho : Nat → Bool} {σ0 : bl_St} {out : Int32 × bl_St} (n : Nat) : ∀ (σ : bl_St) (v0 : Nat) (v1 : Int64) (v3 : Int32) (v4 : Int32) (v5 : Int32), bl_Fq ho md_X9_oddsFor σ0 σ → (bl_sh[v0]? = some (9, 13) ∧ ho v0 = true) → (bl_fx (fun _ _ _ _ _ _ => none) (b_X9_oddsFor_15 ) n) σ v0 v1 v3 v4 v5 = some out → bl_Fq ho md_X9_oddsFor σ0 out.2 := by
  induction n with
  | zero =>
    intro σ v0 v1 v3 v4 v5 qσ hv0 hf
    cases hf
  | succ n ih => exact gw_X9_oddsFor_15  _ ih
set_option maxRecDepth 100000 in
theorem fr_X9_oddsFor {ho : Nat → Bool} (σ : bl_St) (a0 : Nat) (a1 : Int64) (a3 : Int32) (a4 : Int32) (o : Int32 × bl_St) (hw : bl_WT σ) (hh : bl_WH ho σ) (ha0 : bl_sh[a0]? = some (9, 13) ∧ ho a0 = true) (hf : f_X9_oddsFor σ a0 a1 a3 a4 = some o) : bl_Fq ho md_X9_oddsFor σ o.2 := by
  obtain ⟨σ0, hz⟩ : ∃ z, z = σ := ⟨_, rfl⟩
  suffices hgo : bl_Fq ho md_X9_oddsFor σ0 o.2 by rw [hz] at hgo; exact hgo
  have qσ : bl_Fq ho md_X9_oddsFor σ0 σ := by rw [hz]; exact ⟨hw, hh, fun _ _ => ⟨rfl, rfl, rfl⟩⟩
  unfold f_X9_oddsFor at hf
  obtain ⟨r8, σ9, h10, hf⟩ := bl_bd_at hf
  have qσ9 := bl_Fq_call qσ (fr_X9_isAsked σ a0 a3 a4 _ qσ.1 qσ.2.1 ha0.1 h10) (by decide)
  rcases bl_if_at hf with hf | hf
  · rw [← Option.some.inj hf]
    exact qσ9
  · exact gl_X9_oddsFor_15  bl_fu σ9 a0 a1 a3 a4 0 qσ9 ha0 hf
def md_X9_bestOwn : List (Nat × Nat) := [(3, 8), (4, 12), (8, 5), (20, 3), (20, 5), (20, 10), (20, 40), (21, 5), (21, 42), (21, 168)]
set_option maxRecDepth 100000 in
theorem gw_X9_bestOwn_85 {ho : Nat → Bool} {σ0 : bl_St} {out : Int32 × bl_St} (k38 : bl_St → Nat → Int32 → Int32 → Int32 → Int32 → Int64 → Int32 → Option (Int32 × bl_St)) (gk38 : ∀ (σ : bl_St) (v0 : Nat) (v1 : Int32) (v2 : Int32) (v3 : Int32) (v4 : Int32) (v5 : Int64) (v7 : Int32), bl_Fq ho md_X9_bestOwn σ0 σ → (bl_sh[v0]? = some (9, 13) ∧ ho v0 = true) → k38 σ v0 v1 v2 v3 v4 v5 v7 = some out → bl_Fq ho md_X9_bestOwn σ0 out.2) : ∀ (σ : bl_St) (v0 : Nat) (v1 : Int32) (v2 : Int32) (v3 : Int32) (v4 : Int32) (v5 : Int64) (v7 : Int32), bl_Fq ho md_X9_bestOwn σ0 σ → (bl_sh[v0]? = some (9, 13) ∧ ho v0 = true) → (b_X9_bestOwn_85 k38) σ v0 v1 v2 v3 v4 v5 v7 = some out → bl_Fq ho md_X9_bestOwn σ0 out.2 := by
  intro σ v0 v1 v2 v3 v4 v5 v7 qσ hv0 hf
  unfold b_X9_bestOwn_85 at hf
  obtain ⟨x1, e2⟩ : ∃ z : Int32, z = v7 + 1 := ⟨_, rfl⟩
  have hf := bl_let_at e2 hf
  exact gk38 σ v0 v1 v2 v3 v4 v5 x1 qσ hv0 hf
set_option maxRecDepth 100000 in
theorem gw_X9_bestOwn_38 {ho : Nat → Bool} {σ0 : bl_St} {out : Int32 × bl_St} (k38 : bl_St → Nat → Int32 → Int32 → Int32 → Int32 → Int64 → Int32 → Option (Int32 × bl_St)) (gk38 : ∀ (σ : bl_St) (v0 : Nat) (v1 : Int32) (v2 : Int32) (v3 : Int32) (v4 : Int32) (v5 : Int64) (v7 : Int32), bl_Fq ho md_X9_bestOwn σ0 σ → (bl_sh[v0]? = some (9, 13) ∧ ho v0 = true) → k38 σ v0 v1 v2 v3 v4 v5 v7 = some out → bl_Fq ho md_X9_bestOwn σ0 out.2) : ∀ (σ : bl_St) (v0 : Nat) (v1 : Int32) (v2 : Int32) (v3 : Int32) (v4 : Int32) (v5 : Int64) (v7 : Int32), bl_Fq ho md_X9_bestOwn σ0 σ → (bl_sh[v0]? = some (9, 13) ∧ ho v0 = true) → (b_X9_bestOwn_38 k38) σ v0 v1 v2 v3 v4 v5 v7 = some out → bl_Fq ho md_X9_bestOwn σ0 out.2 := by
  intro σ v0 v1 v2 v3 v4 v5 v7 qσ hv0 hf
  unfold b_X9_bestOwn_38 at hf
  rcases bl_if_at hf with hf | hf
  · rw [← Option.some.inj hf]
    exact qσ
  · obtain ⟨r6, σ7, h8, hf⟩ := bl_bd_at hf
    have qσ7 := bl_Fq_call qσ (fr_X9_costWere σ v0 2 v7 v2 v3 _ qσ.1 qσ.2.1 hv0 h8) (by decide)
    obtain ⟨x9, e10⟩ : ∃ z, z = (r6 - (((Int32.toInt64 v1) * (Int32.toInt64 v7)) * (Int32.toInt64 v2))) := ⟨_, rfl⟩
    have hf := bl_let_at e10 hf
    rcases bl_if_at hf with hf | hf
    · exact gw_X9_bestOwn_85 k38 gk38 σ7 v0 v1 v2 v3 v4 v5 v7 qσ7 hv0 hf
    · exact gw_X9_bestOwn_85 k38 gk38 σ7 v0 v1 v2 v3 v7 x9 v7 qσ7 hv0 hf
theorem gl_X9_bestOwn_38 {ho : Nat → Bool} {σ0 : bl_St} {out : Int32 × bl_St} (n : Nat) : ∀ (σ : bl_St) (v0 : Nat) (v1 : Int32) (v2 : Int32) (v3 : Int32) (v4 : Int32) (v5 : Int64) (v7 : Int32), bl_Fq ho md_X9_bestOwn σ0 σ → (bl_sh[v0]? = some (9, 13) ∧ ho v0 = true) → (bl_fx (fun _ _ _ _ _ _ _ _ => none) (b_X9_bestOwn_38 ) n) σ v0 v1 v2 v3 v4 v5 v7 = some out → bl_Fq ho md_X9_bestOwn σ0 out.2 := by
  induction n with
  | zero =>
    intro σ v0 v1 v2 v3 v4 v5 v7 qσ hv0 hf
    cases hf
  | succ n ih => exact gw_X9_bestOwn_38  _ ih
set_option maxRecDepth 100000 in
theorem fr_X9_bestOwn {ho : Nat → Bool} (σ : bl_St) (a0 : Nat) (a1 : Int32) (a2 : Int32) (a3 : Int32) (o : Int32 × bl_St) (hw : bl_WT σ) (hh : bl_WH ho σ) (ha0 : bl_sh[a0]? = some (9, 13) ∧ ho a0 = true) (hf : f_X9_bestOwn σ a0 a1 a2 a3 = some o) : bl_Fq ho md_X9_bestOwn σ o.2 := by
  obtain ⟨σ0, hz⟩ : ∃ z, z = σ := ⟨_, rfl⟩
  suffices hgo : bl_Fq ho md_X9_bestOwn σ0 o.2 by rw [hz] at hgo; exact hgo
  have qσ : bl_Fq ho md_X9_bestOwn σ0 σ := by rw [hz]; exact ⟨hw, hh, fun _ _ => ⟨rfl, rfl, rfl⟩⟩
  unfold f_X9_bestOwn at hf
  obtain ⟨r12, σ13, h14, hf⟩ := bl_bd_at hf
  have qσ13 := bl_Fq_call qσ (fr_X9_isAsked σ a0 a2 a3 _ qσ.1 qσ.2.1 ha0.1 h14) (by decide)
  rcases bl_if_at hf with hf | hf
  · rw [← Option.some.inj hf]
    exact qσ13
  · rcases bl_if_at hf with hf | hf
    · rw [← Option.some.inj hf]
      exact qσ13
    · rcases bl_if_at hf with hf | hf
      · obtain ⟨r18, σ19, h20, hf⟩ := bl_bd_at hf
        have qσ19 := bl_Fq_call qσ13 (fr_X9_costWere σ13 a0 2 0 a2 a3 _ qσ13.1 qσ13.2.1 ha0 h20) (by decide)
        exact gl_X9_bestOwn_38  bl_fu σ19 a0 a1 a2 a3 0 r18 1 qσ19 ha0 hf
      · rw [← Option.some.inj hf]
        exact qσ13
def md_X9_lifeElsewhere : List (Nat × Nat) := [(2, 15)]
set_option maxRecDepth 100000 in
theorem fr_X9_lifeElsewhere {ho : Nat → Bool} (σ : bl_St) (a0 : Nat) (o : Nat × bl_St) (hw : bl_WT σ) (hh : bl_WH ho σ) (ha0 : bl_sh[a0]? = some (9, 13) ∧ ho a0 = true) (hf : f_X9_lifeElsewhere σ a0 = some o) : bl_Fq ho md_X9_lifeElsewhere σ o.2 := by
  obtain ⟨σ0, hz⟩ : ∃ z, z = σ := ⟨_, rfl⟩
  suffices hgo : bl_Fq ho md_X9_lifeElsewhere σ0 o.2 by rw [hz] at hgo; exact hgo
  have qσ : bl_Fq ho md_X9_lifeElsewhere σ0 σ := by rw [hz]; exact ⟨hw, hh, fun _ _ => ⟨rfl, rfl, rfl⟩⟩
  unfold f_X9_lifeElsewhere at hf
  have h1 := bl_Fq_g qσ ha0 (k := 5) rfl (by decide)
  obtain ⟨r2, σ3, h4, hf⟩ := bl_bd_at hf
  have qσ3 := bl_Fq_call qσ (fr_X2_clear σ (bl_R σ a0 5) _ qσ.1 qσ.2.1 h1 h4) (by decide)
  have h5 := bl_Fq_g qσ3 ha0 (k := 5) rfl (by decide)
  have h6 := bl_Fq_g qσ3 ha0 (k := 4) rfl (by decide)
  obtain ⟨σ7, e8⟩ : ∃ z : bl_St, z = bl_pI σ3 (bl_R σ3 a0 5) 0 (bl_I σ3 (bl_R σ3 a0 4) 0) := ⟨_, rfl⟩
  have hf := bl_let_at e8 hf
  have qσ7 : bl_Fq ho md_X9_lifeElsewhere σ0 σ7 := by rw [e8]; exact bl_Fq_I qσ3 (bl_al_in h5.1 (by decide) h5.2)
  have h9 := bl_Fq_g qσ7 ha0 (k := 5) rfl (by decide)
  rw [← Option.some.inj hf]
  exact qσ7
def md_X9_would : List (Nat × Nat) := [(0, 1), (2, 15), (3, 8), (4, 12), (20, 5), (20, 48), (21, 5), (21, 42), (21, 168)]
set_option maxRecDepth 100000 in
theorem fr_X9_would {ho : Nat → Bool} (σ : bl_St) (a0 : Nat) (a1 : Int32) (a2 : Int32) (a3 : Int32) (a4 : Int32) (a5 : Int32) (o : Int32 × bl_St) (hw : bl_WT σ) (hh : bl_WH ho σ) (ha0 : bl_sh[a0]? = some (9, 13) ∧ ho a0 = true) (hf : f_X9_would σ a0 a1 a2 a3 a4 a5 = some o) : bl_Fq ho md_X9_would σ o.2 := by
  obtain ⟨σ0, hz⟩ : ∃ z, z = σ := ⟨_, rfl⟩
  suffices hgo : bl_Fq ho md_X9_would σ0 o.2 by rw [hz] at hgo; exact hgo
  have qσ : bl_Fq ho md_X9_would σ0 σ := by rw [hz]; exact ⟨hw, hh, fun _ _ => ⟨rfl, rfl, rfl⟩⟩
  unfold f_X9_would at hf
  rcases bl_if_at hf with hf | hf
  · rw [← Option.some.inj hf]
    exact qσ
  · rcases bl_if_at hf with hf | hf
    · rw [← Option.some.inj hf]
      exact qσ
    · obtain ⟨r3, σ4, h5, hf⟩ := bl_bd_at hf
      have qσ4 := bl_Fq_call qσ (fr_X9_canLive σ a0 a1 a2 a3 _ qσ.1 qσ.2.1 ha0.1 h5) (by decide)
      rcases bl_if_at hf with hf | hf
      · rw [← Option.some.inj hf]
        exact qσ4
      · obtain ⟨r7, σ8, h9, hf⟩ := bl_bd_at hf
        have qσ8 := bl_Fq_call qσ4 (fr_X9_lifeElsewhere σ4 a0 _ qσ4.1 qσ4.2.1 ha0 h9) (by decide)
        have h10 := bl_Fq_life qσ8 ha0 h9
        obtain ⟨r11, σ12, h13, hf⟩ := bl_bd_at hf
        have qσ12 := bl_Fq_call qσ8 (fr_X9_liveByDraws σ8 a0 r7 a1 a2 a3 a4 _ qσ8.1 qσ8.2.1 ha0 h10 h13) (by decide)
        rcases bl_if_at hf with hf | hf
        · rw [← Option.some.inj hf]
          exact qσ12
        rcases bl_if_at hf with hf | hf
        · have h16 := bl_Fq_g qσ12 ha0 (k := 5) rfl (by decide)
          rw [← Option.some.inj hf]
          exact qσ12
        rcases bl_if_at hf with hf | hf
        · have h18 := bl_Fq_g qσ12 ha0 (k := 5) rfl (by decide)
          rw [← Option.some.inj hf]
          exact qσ12
        have h19 := bl_Fq_g qσ12 ha0 (k := 5) rfl (by decide)
        rw [← Option.some.inj hf]
        exact qσ12
def md_X9_bestRule : List (Nat × Nat) := [(0, 1), (2, 15), (3, 8), (4, 12), (20, 5), (20, 48), (21, 5), (21, 42), (21, 168)]
set_option maxRecDepth 100000 in
theorem gw_X9_bestRule_66 {ho : Nat → Bool} {σ0 : bl_St} {out : Int32 × bl_St} (k31 : bl_St → Nat → Int32 → Int32 → Int32 → Int32 → Int32 → Option (Int32 × bl_St)) (gk31 : ∀ (σ : bl_St) (v0 : Nat) (v1 : Int32) (v2 : Int32) (v3 : Int32) (v4 : Int32) (v5 : Int32), bl_Fq ho md_X9_bestRule σ0 σ → (bl_sh[v0]? = some (9, 13) ∧ ho v0 = true) → k31 σ v0 v1 v2 v3 v4 v5 = some out → bl_Fq ho md_X9_bestRule σ0 out.2) : ∀ (σ : bl_St) (v0 : Nat) (v1 : Int32) (v2 : Int32) (v3 : Int32) (v4 : Int32) (v5 : Int32), bl_Fq ho md_X9_bestRule σ0 σ → (bl_sh[v0]? = some (9, 13) ∧ ho v0 = true) → (b_X9_bestRule_66 k31) σ v0 v1 v2 v3 v4 v5 = some out → bl_Fq ho md_X9_bestRule σ0 out.2 := by
  intro σ v0 v1 v2 v3 v4 v5 qσ hv0 hf
  unfold b_X9_bestRule_66 at hf
  obtain ⟨x1, e2⟩ : ∃ z : Int32, z = v5 + 1 := ⟨_, rfl⟩
  have hf := bl_let_at e2 hf
  exact gk31 σ v0 v1 v2 v3 v4 x1 qσ hv0 hf
set_option maxRecDepth 100000 in
theorem gw_X9_bestRule_31 {ho : Nat → Bool} {σ0 : bl_St} {out : Int32 × bl_St} (k31 : bl_St → Nat → Int32 → Int32 → Int32 → Int32 → Int32 → Option (Int32 × bl_St)) (gk31 : ∀ (σ : bl_St) (v0 : Nat) (v1 : Int32) (v2 : Int32) (v3 : Int32) (v4 : Int32) (v5 : Int32), bl_Fq ho md_X9_bestRule σ0 σ → (bl_sh[v0]? = some (9, 13) ∧ ho v0 = true) → k31 σ v0 v1 v2 v3 v4 v5 = some out → bl_Fq ho md_X9_bestRule σ0 out.2) : ∀ (σ : bl_St) (v0 : Nat) (v1 : Int32) (v2 : Int32) (v3 : Int32) (v4 : Int32) (v5 : Int32), bl_Fq ho md_X9_bestRule σ0 σ → (bl_sh[v0]? = some (9, 13) ∧ ho v0 = true) → (b_X9_bestRule_31 k31) σ v0 v1 v2 v3 v4 v5 = some out → bl_Fq ho md_X9_bestRule σ0 out.2 := by
  intro σ v0 v1 v2 v3 v4 v5 qσ hv0 hf
  unfold b_X9_bestRule_31 at hf
  rcases bl_if_at hf with hf | hf
  · rw [← Option.some.inj hf]
    exact qσ
  · obtain ⟨r4, σ5, h6, hf⟩ := bl_bd_at hf
    have qσ5 := bl_Fq_call qσ (fr_X9_lifeElsewhere σ v0 _ qσ.1 qσ.2.1 hv0 h6) (by decide)
    have h7 := bl_Fq_life qσ5 hv0 h6
    obtain ⟨r8, σ9, h10, hf⟩ := bl_bd_at hf
    have qσ9 := bl_Fq_call qσ5 (fr_X9_liveByDraws σ5 v0 r4 v1 v5 0 v2 _ qσ5.1 qσ5.2.1 hv0 h7 h10) (by decide)
    rcases bl_if_at hf with hf | hf
    · exact gw_X9_bestRule_66 k31 gk31 σ9 v0 v1 v2 v3 v4 v5 qσ9 hv0 hf
    · exact gw_X9_bestRule_66 k31 gk31 σ9 v0 v1 v2 v5 r8 v5 qσ9 hv0 hf
theorem gl_X9_bestRule_31 {ho : Nat → Bool} {σ0 : bl_St} {out : Int32 × bl_St} (n : Nat) : ∀ (σ : bl_St) (v0 : Nat) (v1 : Int32) (v2 : Int32) (v3 : Int32) (v4 : Int32) (v5 : Int32), bl_Fq ho md_X9_bestRule σ0 σ → (bl_sh[v0]? = some (9, 13) ∧ ho v0 = true) → (bl_fx (fun _ _ _ _ _ _ _ => none) (b_X9_bestRule_31 ) n) σ v0 v1 v2 v3 v4 v5 = some out → bl_Fq ho md_X9_bestRule σ0 out.2 := by
  induction n with
  | zero =>
    intro σ v0 v1 v2 v3 v4 v5 qσ hv0 hf
    cases hf
  | succ n ih => exact gw_X9_bestRule_31  _ ih
set_option maxRecDepth 100000 in
theorem fr_X9_bestRule {ho : Nat → Bool} (σ : bl_St) (a0 : Nat) (a1 : Int32) (a2 : Int32) (o : Int32 × bl_St) (hw : bl_WT σ) (hh : bl_WH ho σ) (ha0 : bl_sh[a0]? = some (9, 13) ∧ ho a0 = true) (hf : f_X9_bestRule σ a0 a1 a2 = some o) : bl_Fq ho md_X9_bestRule σ o.2 := by
  obtain ⟨σ0, hz⟩ : ∃ z, z = σ := ⟨_, rfl⟩
  suffices hgo : bl_Fq ho md_X9_bestRule σ0 o.2 by rw [hz] at hgo; exact hgo
  have qσ : bl_Fq ho md_X9_bestRule σ0 σ := by rw [hz]; exact ⟨hw, hh, fun _ _ => ⟨rfl, rfl, rfl⟩⟩
  unfold f_X9_bestRule at hf
  obtain ⟨r12, σ13, h14, hf⟩ := bl_bd_at hf
  have qσ13 := bl_Fq_call qσ (fr_X9_canLive σ a0 a1 0 0 _ qσ.1 qσ.2.1 ha0.1 h14) (by decide)
  rcases bl_if_at hf with hf | hf
  · rw [← Option.some.inj hf]
    exact qσ13
  · obtain ⟨r16, σ17, h18, hf⟩ := bl_bd_at hf
    have qσ17 := bl_Fq_call qσ13 (fr_X9_lifeElsewhere σ13 a0 _ qσ13.1 qσ13.2.1 ha0 h18) (by decide)
    have h19 := bl_Fq_life qσ17 ha0 h18
    obtain ⟨r20, σ21, h22, hf⟩ := bl_bd_at hf
    have qσ21 := bl_Fq_call qσ17 (fr_X9_liveByDraws σ17 a0 r16 a1 0 0 a2 _ qσ17.1 qσ17.2.1 ha0 h19 h22) (by decide)
    exact gl_X9_bestRule_31  bl_fu σ21 a0 a1 a2 0 r20 1 qσ21 ha0 hf
def md_X9_dearest : List (Nat × Nat) := [(3, 8), (4, 12), (8, 5), (20, 3), (20, 5), (20, 10), (20, 40), (21, 5), (21, 42), (21, 168)]
set_option maxRecDepth 100000 in
theorem gw_X9_dearest_32 {ho : Nat → Bool} {σ0 : bl_St} {out : Int32 × bl_St} (k32 : bl_St → Nat → Int32 → Int32 → Int32 → Option (Int32 × bl_St)) (gk32 : ∀ (σ : bl_St) (v0 : Nat) (v1 : Int32) (v2 : Int32) (v3 : Int32), bl_Fq ho md_X9_dearest σ0 σ → (bl_sh[v0]? = some (9, 13) ∧ ho v0 = true) → k32 σ v0 v1 v2 v3 = some out → bl_Fq ho md_X9_dearest σ0 out.2) : ∀ (σ : bl_St) (v0 : Nat) (v1 : Int32) (v2 : Int32) (v3 : Int32), bl_Fq ho md_X9_dearest σ0 σ → (bl_sh[v0]? = some (9, 13) ∧ ho v0 = true) → (b_X9_dearest_32 k32) σ v0 v1 v2 v3 = some out → bl_Fq ho md_X9_dearest σ0 out.2 := by
  intro σ v0 v1 v2 v3 qσ hv0 hf
  unfold b_X9_dearest_32 at hf
  rcases bl_if_at hf with hf | hf
  · rw [← Option.some.inj hf]
    exact qσ
  · have h2 := bl_Fq_g qσ hv0 (k := 3) rfl (by decide)
    obtain ⟨r3, σ4, h5, hf⟩ := bl_bd_at hf
    have qσ4 := bl_Fq_call qσ (fr_X8_setPart σ (bl_R σ v0 3) v2 4 v3 _ qσ.1 qσ.2.1 h2 h5) (by decide)
    have h6 := bl_Fq_g qσ4 hv0 (k := 8) rfl (by decide)
    have h7 := bl_Fq_g qσ4 hv0 (k := 3) rfl (by decide)
    obtain ⟨r8, σ9, h10, hf⟩ := bl_bd_at hf
    have qσ9 := bl_Fq_call qσ4 (fr_X4_look σ4 (bl_R σ4 v0 8) (bl_R σ4 v0 3) 1 _ qσ4.1 qσ4.2.1 h6 h7.1 h10) (by decide)
    have h11 := bl_Fq_g qσ9 hv0 (k := 8) rfl (by decide)
    obtain ⟨r12, σ13, h14, hf⟩ := bl_bd_at hf
    have qσ13 := bl_Fq_call qσ9 (fr_X4_learn σ9 (bl_R σ9 v0 8) (v1 - 1) _ qσ9.1 qσ9.2.1 h11 h14) (by decide)
    have h15 := bl_Fq_g qσ13 hv0 (k := 8) rfl (by decide)
    obtain ⟨r16, σ17, h18, hf⟩ := bl_bd_at hf
    have qσ17 := bl_Fq_call qσ13 (fr_X4_buys σ13 (bl_R σ13 v0 8) v1 v2 _ qσ13.1 qσ13.2.1 h15 h18) (by decide)
    rcases bl_if_at hf with hf | hf
    · obtain ⟨x20, e21⟩ : ∃ z : Int32, z = v3 + (-1) := ⟨_, rfl⟩
      have hf := bl_let_at e21 hf
      exact gk32 σ17 v0 v1 v2 x20 qσ17 hv0 hf
    · rw [← Option.some.inj hf]
      exact qσ17
theorem gl_X9_dearest_32 {ho : Nat → Bool} {σ0 : bl_St} {out : Int32 × bl_St} (n : Nat) : ∀ (σ : bl_St) (v0 : Nat) (v1 : Int32) (v2 : Int32) (v3 : Int32), bl_Fq ho md_X9_dearest σ0 σ → (bl_sh[v0]? = some (9, 13) ∧ ho v0 = true) → (bl_fx (fun _ _ _ _ _ => none) (b_X9_dearest_32 ) n) σ v0 v1 v2 v3 = some out → bl_Fq ho md_X9_dearest σ0 out.2 := by
  induction n with
  | zero =>
    intro σ v0 v1 v2 v3 qσ hv0 hf
    cases hf
  | succ n ih => exact gw_X9_dearest_32  _ ih
set_option maxRecDepth 100000 in
theorem fr_X9_dearest {ho : Nat → Bool} (σ : bl_St) (a0 : Nat) (a1 : Int32) (a2 : Int32) (o : Int32 × bl_St) (hw : bl_WT σ) (hh : bl_WH ho σ) (ha0 : bl_sh[a0]? = some (9, 13) ∧ ho a0 = true) (hf : f_X9_dearest σ a0 a1 a2 = some o) : bl_Fq ho md_X9_dearest σ o.2 := by
  obtain ⟨σ0, hz⟩ : ∃ z, z = σ := ⟨_, rfl⟩
  suffices hgo : bl_Fq ho md_X9_dearest σ0 o.2 by rw [hz] at hgo; exact hgo
  have qσ : bl_Fq ho md_X9_dearest σ0 σ := by rw [hz]; exact ⟨hw, hh, fun _ _ => ⟨rfl, rfl, rfl⟩⟩
  unfold f_X9_dearest at hf
  obtain ⟨r22, σ23, h24, hf⟩ := bl_bd_at hf
  have qσ23 := bl_Fq_call qσ (fr_X9_isAsked σ a0 a1 a2 _ qσ.1 qσ.2.1 ha0.1 h24) (by decide)
  rcases bl_if_at hf with hf | hf
  · rw [← Option.some.inj hf]
    exact qσ23
  · rcases bl_if_at hf with hf | hf
    · rw [← Option.some.inj hf]
      exact qσ23
    · have h27 := bl_Fq_g qσ23 ha0 (k := 3) rfl (by decide)
      have h28 := bl_Fq_g qσ23 ha0 (k := 2) rfl (by decide)
      obtain ⟨r29, σ30, h31, hf⟩ := bl_bd_at hf
      have qσ30 := bl_Fq_call qσ23 (fr_X8_copy σ23 (bl_R σ23 a0 3) (bl_R σ23 a0 2) _ qσ23.1 qσ23.2.1 h27 h28.1 h31) (by decide)
      obtain ⟨x34, e35⟩ : ∃ z, z = (bl_CH.getD (Int32.toNatClampNeg 4) 0) := ⟨_, rfl⟩
      have hf := bl_let_at e35 hf
      exact gl_X9_dearest_32  bl_fu σ30 a0 a1 a2 x34 qσ30 ha0 hf
def md_X9_spell : List (Nat × Nat) := [(5, 2), (20, 256)]
set_option maxRecDepth 100000 in
theorem gw_X9_spell_152 {ho : Nat → Bool} {σ0 : bl_St} {out : Int32 × bl_St} (k152 : bl_St → Nat → Int32 → Int32 → Option (Int32 × bl_St)) (gk152 : ∀ (σ : bl_St) (v0 : Nat) (v1 : Int32) (v2 : Int32), bl_Fq ho md_X9_spell σ0 σ → (bl_sh[v0]? = some (9, 13) ∧ ho v0 = true) → k152 σ v0 v1 v2 = some out → bl_Fq ho md_X9_spell σ0 out.2) : ∀ (σ : bl_St) (v0 : Nat) (v1 : Int32) (v2 : Int32), bl_Fq ho md_X9_spell σ0 σ → (bl_sh[v0]? = some (9, 13) ∧ ho v0 = true) → (b_X9_spell_152 k152) σ v0 v1 v2 = some out → bl_Fq ho md_X9_spell σ0 out.2 := by
  intro σ v0 v1 v2 qσ hv0 hf
  unfold b_X9_spell_152 at hf
  rcases bl_if_at hf with hf | hf
  · have h2 := bl_Fq_g qσ hv0 (k := 1) rfl (by decide)
    obtain ⟨r3, σ4, h5, hf⟩ := bl_bd_at hf
    have qσ4 := bl_Fq_call qσ (fr_X5_signAt σ (bl_R σ v0 1) v1 _ qσ.1 qσ.2.1 h2.1 h5) (by decide)
    rw [← Option.some.inj hf]
    exact qσ4
  · have h6 := bl_Fq_g qσ hv0 (k := 1) rfl (by decide)
    obtain ⟨r7, σ8, h9, hf⟩ := bl_bd_at hf
    have qσ8 := bl_Fq_call qσ (fr_X9_wordOf σ (2 + v2) _ qσ.1 qσ.2.1  h9) (by decide)
    obtain ⟨r10, σ11, h12, hf⟩ := bl_bd_at hf
    have qσ11 := bl_Fq_call qσ8 (fr_X5_putWord σ8 (bl_R σ v0 1) r7 _ qσ8.1 qσ8.2.1 h6 h12) (by decide)
    have h13 := bl_Fq_g qσ11 hv0 (k := 1) rfl (by decide)
    have h14 := bl_Fq_g qσ11 hv0 (k := 2) rfl (by decide)
    have h15 := bl_Fq_g qσ11 h14 (k := 4) rfl (by decide)
    obtain ⟨-, hf⟩ := bl_gd_at hf
    obtain ⟨r17, σ18, h19, hf⟩ := bl_bd_at hf
    have qσ18 := bl_Fq_call qσ11 (fr_X5_putNumber σ11 (bl_R σ11 v0 1) (bl_I σ11 (bl_R σ11 (bl_R σ11 v0 2) 4) (Int32.toNatClampNeg v2)) _ qσ11.1 qσ11.2.1 h13 h19) (by decide)
    have h20 := bl_Fq_g qσ18 hv0 (k := 1) rfl (by decide)
    obtain ⟨r21, σ22, h23, hf⟩ := bl_bd_at hf
    have qσ22 := bl_Fq_call qσ18 (fr_X5_endPhrase σ18 (bl_R σ18 v0 1) _ qσ18.1 qσ18.2.1 h20 h23) (by decide)
    obtain ⟨x24, e25⟩ : ∃ z : Int32, z = v2 + 1 := ⟨_, rfl⟩
    have hf := bl_let_at e25 hf
    exact gk152 σ22 v0 v1 x24 qσ22 hv0 hf
theorem gl_X9_spell_152 {ho : Nat → Bool} {σ0 : bl_St} {out : Int32 × bl_St} (n : Nat) : ∀ (σ : bl_St) (v0 : Nat) (v1 : Int32) (v2 : Int32), bl_Fq ho md_X9_spell σ0 σ → (bl_sh[v0]? = some (9, 13) ∧ ho v0 = true) → (bl_fx (fun _ _ _ _ => none) (b_X9_spell_152 ) n) σ v0 v1 v2 = some out → bl_Fq ho md_X9_spell σ0 out.2 := by
  induction n with
  | zero =>
    intro σ v0 v1 v2 qσ hv0 hf
    cases hf
  | succ n ih => exact gw_X9_spell_152  _ ih
set_option maxRecDepth 100000 in
theorem gw_X9_spell_83 {ho : Nat → Bool} {σ0 : bl_St} {out : Int32 × bl_St} (k83 : bl_St → Nat → Int32 → Int32 → Option (Int32 × bl_St)) (gk83 : ∀ (σ : bl_St) (v0 : Nat) (v1 : Int32) (v2 : Int32), bl_Fq ho md_X9_spell σ0 σ → (bl_sh[v0]? = some (9, 13) ∧ ho v0 = true) → k83 σ v0 v1 v2 = some out → bl_Fq ho md_X9_spell σ0 out.2) : ∀ (σ : bl_St) (v0 : Nat) (v1 : Int32) (v2 : Int32), bl_Fq ho md_X9_spell σ0 σ → (bl_sh[v0]? = some (9, 13) ∧ ho v0 = true) → (b_X9_spell_83 k83) σ v0 v1 v2 = some out → bl_Fq ho md_X9_spell σ0 out.2 := by
  intro σ v0 v1 v2 qσ hv0 hf
  unfold b_X9_spell_83 at hf
  have h26 := bl_Fq_g qσ hv0 (k := 2) rfl (by decide)
  rcases bl_if_at hf with hf | hf
  · exact gl_X9_spell_152  bl_fu σ v0 v1 0 qσ hv0 hf
  · have h28 := bl_Fq_g qσ hv0 (k := 1) rfl (by decide)
    obtain ⟨r29, σ30, h31, hf⟩ := bl_bd_at hf
    have qσ30 := bl_Fq_call qσ (fr_X9_wordOf σ 1 _ qσ.1 qσ.2.1  h31) (by decide)
    obtain ⟨r32, σ33, h34, hf⟩ := bl_bd_at hf
    have qσ33 := bl_Fq_call qσ30 (fr_X5_putWord σ30 (bl_R σ v0 1) r29 _ qσ30.1 qσ30.2.1 h28 h34) (by decide)
    have h35 := bl_Fq_g qσ33 hv0 (k := 1) rfl (by decide)
    have h36 := bl_Fq_g qσ33 hv0 (k := 2) rfl (by decide)
    obtain ⟨r37, σ38, h39, hf⟩ := bl_bd_at hf
    have qσ38 := bl_Fq_call qσ33 (fr_X8_sortPart σ33 (bl_R σ33 v0 2) v2 0 _ qσ33.1 qσ33.2.1 h36.1 h39) (by decide)
    obtain ⟨r40, σ41, h42, hf⟩ := bl_bd_at hf
    have qσ41 := bl_Fq_call qσ38 (fr_X5_putNumber σ38 (bl_R σ33 v0 1) r37 _ qσ38.1 qσ38.2.1 h35 h42) (by decide)
    have h43 := bl_Fq_g qσ41 hv0 (k := 1) rfl (by decide)
    have h44 := bl_Fq_g qσ41 hv0 (k := 2) rfl (by decide)
    obtain ⟨r45, σ46, h47, hf⟩ := bl_bd_at hf
    have qσ46 := bl_Fq_call qσ41 (fr_X8_sortPart σ41 (bl_R σ41 v0 2) v2 1 _ qσ41.1 qσ41.2.1 h44.1 h47) (by decide)
    obtain ⟨r48, σ49, h50, hf⟩ := bl_bd_at hf
    have qσ49 := bl_Fq_call qσ46 (fr_X5_putNumber σ46 (bl_R σ41 v0 1) r45 _ qσ46.1 qσ46.2.1 h43 h50) (by decide)
    have h51 := bl_Fq_g qσ49 hv0 (k := 1) rfl (by decide)
    obtain ⟨r52, σ53, h54, hf⟩ := bl_bd_at hf
    have qσ53 := bl_Fq_call qσ49 (fr_X5_endPhrase σ49 (bl_R σ49 v0 1) _ qσ49.1 qσ49.2.1 h51 h54) (by decide)
    obtain ⟨x55, e56⟩ : ∃ z : Int32, z = v2 + 1 := ⟨_, rfl⟩
    have hf := bl_let_at e56 hf
    exact gk83 σ53 v0 v1 x55 qσ53 hv0 hf
theorem gl_X9_spell_83 {ho : Nat → Bool} {σ0 : bl_St} {out : Int32 × bl_St} (n : Nat) : ∀ (σ : bl_St) (v0 : Nat) (v1 : Int32) (v2 : Int32), bl_Fq ho md_X9_spell σ0 σ → (bl_sh[v0]? = some (9, 13) ∧ ho v0 = true) → (bl_fx (fun _ _ _ _ => none) (b_X9_spell_83 ) n) σ v0 v1 v2 = some out → bl_Fq ho md_X9_spell σ0 out.2 := by
  induction n with
  | zero =>
    intro σ v0 v1 v2 qσ hv0 hf
    cases hf
  | succ n ih => exact gw_X9_spell_83  _ ih
set_option maxRecDepth 100000 in
theorem gw_X9_spell_41 {ho : Nat → Bool} {σ0 : bl_St} {out : Int32 × bl_St} (k17 : bl_St → Nat → Int32 → Int32 → Option (Int32 × bl_St)) (gk17 : ∀ (σ : bl_St) (v0 : Nat) (v1 : Int32) (v2 : Int32), bl_Fq ho md_X9_spell σ0 σ → (bl_sh[v0]? = some (9, 13) ∧ ho v0 = true) → k17 σ v0 v1 v2 = some out → bl_Fq ho md_X9_spell σ0 out.2) (k41 : bl_St → Nat → Int32 → Int32 → Int32 → Option (Int32 × bl_St)) (gk41 : ∀ (σ : bl_St) (v0 : Nat) (v1 : Int32) (v2 : Int32) (v3 : Int32), bl_Fq ho md_X9_spell σ0 σ → (bl_sh[v0]? = some (9, 13) ∧ ho v0 = true) → k41 σ v0 v1 v2 v3 = some out → bl_Fq ho md_X9_spell σ0 out.2) : ∀ (σ : bl_St) (v0 : Nat) (v1 : Int32) (v2 : Int32) (v3 : Int32), bl_Fq ho md_X9_spell σ0 σ → (bl_sh[v0]? = some (9, 13) ∧ ho v0 = true) → (b_X9_spell_41 k17 k41) σ v0 v1 v2 v3 = some out → bl_Fq ho md_X9_spell σ0 out.2 := by
  intro σ v0 v1 v2 v3 qσ hv0 hf
  unfold b_X9_spell_41 at hf
  rcases bl_if_at hf with hf | hf
  · have h58 := bl_Fq_g qσ hv0 (k := 1) rfl (by decide)
    obtain ⟨r59, σ60, h61, hf⟩ := bl_bd_at hf
    have qσ60 := bl_Fq_call qσ (fr_X5_endPhrase σ (bl_R σ v0 1) _ qσ.1 qσ.2.1 h58 h61) (by decide)
    obtain ⟨x62, e63⟩ : ∃ z : Int32, z = v2 + 1 := ⟨_, rfl⟩
    have hf := bl_let_at e63 hf
    exact gk17 σ60 v0 v1 x62 qσ60 hv0 hf
  · have h64 := bl_Fq_g qσ hv0 (k := 1) rfl (by decide)
    have h65 := bl_Fq_g qσ hv0 (k := 2) rfl (by decide)
    obtain ⟨r66, σ67, h68, hf⟩ := bl_bd_at hf
    have qσ67 := bl_Fq_call qσ (fr_X8_part σ (bl_R σ v0 2) v2 v3 _ qσ.1 qσ.2.1 h65.1 h68) (by decide)
    obtain ⟨r69, σ70, h71, hf⟩ := bl_bd_at hf
    have qσ70 := bl_Fq_call qσ67 (fr_X5_putNumber σ67 (bl_R σ v0 1) r66 _ qσ67.1 qσ67.2.1 h64 h71) (by decide)
    obtain ⟨x72, e73⟩ : ∃ z : Int32, z = v3 + 1 := ⟨_, rfl⟩
    have hf := bl_let_at e73 hf
    exact gk41 σ70 v0 v1 v2 x72 qσ70 hv0 hf
theorem gl_X9_spell_41 {ho : Nat → Bool} {σ0 : bl_St} {out : Int32 × bl_St} (k17 : bl_St → Nat → Int32 → Int32 → Option (Int32 × bl_St)) (gk17 : ∀ (σ : bl_St) (v0 : Nat) (v1 : Int32) (v2 : Int32), bl_Fq ho md_X9_spell σ0 σ → (bl_sh[v0]? = some (9, 13) ∧ ho v0 = true) → k17 σ v0 v1 v2 = some out → bl_Fq ho md_X9_spell σ0 out.2) (n : Nat) : ∀ (σ : bl_St) (v0 : Nat) (v1 : Int32) (v2 : Int32) (v3 : Int32), bl_Fq ho md_X9_spell σ0 σ → (bl_sh[v0]? = some (9, 13) ∧ ho v0 = true) → (bl_fx (fun _ _ _ _ _ => none) (b_X9_spell_41 k17) n) σ v0 v1 v2 v3 = some out → bl_Fq ho md_X9_spell σ0 out.2 := by
  induction n with
  | zero =>
    intro σ v0 v1 v2 v3 qσ hv0 hf
    cases hf
  | succ n ih => exact gw_X9_spell_41 k17 gk17 _ ih
set_option maxRecDepth 100000 in
theorem gw_X9_spell_17 {ho : Nat → Bool} {σ0 : bl_St} {out : Int32 × bl_St} (k17 : bl_St → Nat → Int32 → Int32 → Option (Int32 × bl_St)) (gk17 : ∀ (σ : bl_St) (v0 : Nat) (v1 : Int32) (v2 : Int32), bl_Fq ho md_X9_spell σ0 σ → (bl_sh[v0]? = some (9, 13) ∧ ho v0 = true) → k17 σ v0 v1 v2 = some out → bl_Fq ho md_X9_spell σ0 out.2) : ∀ (σ : bl_St) (v0 : Nat) (v1 : Int32) (v2 : Int32), bl_Fq ho md_X9_spell σ0 σ → (bl_sh[v0]? = some (9, 13) ∧ ho v0 = true) → (b_X9_spell_17 k17) σ v0 v1 v2 = some out → bl_Fq ho md_X9_spell σ0 out.2 := by
  intro σ v0 v1 v2 qσ hv0 hf
  unfold b_X9_spell_17 at hf
  have h74 := bl_Fq_g qσ hv0 (k := 2) rfl (by decide)
  rcases bl_if_at hf with hf | hf
  · exact gl_X9_spell_83  bl_fu σ v0 v1 0 qσ hv0 hf
  · have h76 := bl_Fq_g qσ hv0 (k := 1) rfl (by decide)
    obtain ⟨r77, σ78, h79, hf⟩ := bl_bd_at hf
    have qσ78 := bl_Fq_call qσ (fr_X9_wordOf σ 0 _ qσ.1 qσ.2.1  h79) (by decide)
    obtain ⟨r80, σ81, h82, hf⟩ := bl_bd_at hf
    have qσ81 := bl_Fq_call qσ78 (fr_X5_putWord σ78 (bl_R σ v0 1) r77 _ qσ78.1 qσ78.2.1 h76 h82) (by decide)
    exact gl_X9_spell_41 k17 gk17 bl_fu σ81 v0 v1 v2 0 qσ81 hv0 hf
theorem gl_X9_spell_17 {ho : Nat → Bool} {σ0 : bl_St} {out : Int32 × bl_St} (n : Nat) : ∀ (σ : bl_St) (v0 : Nat) (v1 : Int32) (v2 : Int32), bl_Fq ho md_X9_spell σ0 σ → (bl_sh[v0]? = some (9, 13) ∧ ho v0 = true) → (bl_fx (fun _ _ _ _ => none) (b_X9_spell_17 ) n) σ v0 v1 v2 = some out → bl_Fq ho md_X9_spell σ0 out.2 := by
  induction n with
  | zero =>
    intro σ v0 v1 v2 qσ hv0 hf
    cases hf
  | succ n ih => exact gw_X9_spell_17  _ ih
set_option maxRecDepth 100000 in
theorem fr_X9_spell {ho : Nat → Bool} (σ : bl_St) (a0 : Nat) (a1 : Int32) (o : Int32 × bl_St) (hw : bl_WT σ) (hh : bl_WH ho σ) (ha0 : bl_sh[a0]? = some (9, 13) ∧ ho a0 = true) (hf : f_X9_spell σ a0 a1 = some o) : bl_Fq ho md_X9_spell σ o.2 := by
  obtain ⟨σ0, hz⟩ : ∃ z, z = σ := ⟨_, rfl⟩
  suffices hgo : bl_Fq ho md_X9_spell σ0 o.2 by rw [hz] at hgo; exact hgo
  have qσ : bl_Fq ho md_X9_spell σ0 σ := by rw [hz]; exact ⟨hw, hh, fun _ _ => ⟨rfl, rfl, rfl⟩⟩
  unfold f_X9_spell at hf
  rcases bl_if_at hf with hf | hf
  · have h84 := bl_Fq_g qσ ha0 (k := 1) rfl (by decide)
    obtain ⟨σ85, e86⟩ : ∃ z : bl_St, z = bl_pI σ (bl_R σ a0 1) 1 0 := ⟨_, rfl⟩
    have hf := bl_let_at e86 hf
    have qσ85 : bl_Fq ho md_X9_spell σ0 σ85 := by rw [e86]; exact bl_Fq_I qσ (bl_al_in h84.1 (by decide) h84.2)
    exact gl_X9_spell_17  bl_fu σ85 a0 a1 0 qσ85 ha0 hf
  · rw [← Option.some.inj hf]
    exact qσ
def md_X9_report : List (Nat × Nat) := [(3, 8), (4, 12), (5, 2), (20, 5), (20, 256), (21, 5), (21, 42), (21, 168)]
set_option maxRecDepth 100000 in
theorem gw_X9_report_156 {ho : Nat → Bool} {σ0 : bl_St} {out : Int32 × bl_St} (k48 : bl_St → Nat → Int32 → Int32 → Int32 → Option (Int32 × bl_St)) (gk48 : ∀ (σ : bl_St) (v0 : Nat) (v1 : Int32) (v2 : Int32) (v3 : Int32), bl_Fq ho md_X9_report σ0 σ → (bl_sh[v0]? = some (9, 13) ∧ ho v0 = true) → k48 σ v0 v1 v2 v3 = some out → bl_Fq ho md_X9_report σ0 out.2) : ∀ (σ : bl_St) (v0 : Nat) (v1 : Int32) (v2 : Int32) (v3 : Int32), bl_Fq ho md_X9_report σ0 σ → (bl_sh[v0]? = some (9, 13) ∧ ho v0 = true) → (b_X9_report_156 k48) σ v0 v1 v2 v3 = some out → bl_Fq ho md_X9_report σ0 out.2 := by
  intro σ v0 v1 v2 v3 qσ hv0 hf
  unfold b_X9_report_156 at hf
  have h1 := bl_Fq_g qσ hv0 (k := 1) rfl (by decide)
  obtain ⟨r2, σ3, h4, hf⟩ := bl_bd_at hf
  have qσ3 := bl_Fq_call qσ (fr_X5_endPhrase σ (bl_R σ v0 1) _ qσ.1 qσ.2.1 h1 h4) (by decide)
  obtain ⟨x5, e6⟩ : ∃ z : Int32, z = v3 + 1 := ⟨_, rfl⟩
  have hf := bl_let_at e6 hf
  exact gk48 σ3 v0 v1 v2 x5 qσ3 hv0 hf
set_option maxRecDepth 100000 in
theorem gw_X9_report_117 {ho : Nat → Bool} {σ0 : bl_St} {out : Int32 × bl_St} (k48 : bl_St → Nat → Int32 → Int32 → Int32 → Option (Int32 × bl_St)) (gk48 : ∀ (σ : bl_St) (v0 : Nat) (v1 : Int32) (v2 : Int32) (v3 : Int32), bl_Fq ho md_X9_report σ0 σ → (bl_sh[v0]? = some (9, 13) ∧ ho v0 = true) → k48 σ v0 v1 v2 v3 = some out → bl_Fq ho md_X9_report σ0 out.2) : ∀ (σ : bl_St) (v0 : Nat) (v1 : Int32) (v2 : Int32) (v3 : Int32) (v5 : Int32), bl_Fq ho md_X9_report σ0 σ → (bl_sh[v0]? = some (9, 13) ∧ ho v0 = true) → (b_X9_report_117 k48) σ v0 v1 v2 v3 v5 = some out → bl_Fq ho md_X9_report σ0 out.2 := by
  intro σ v0 v1 v2 v3 v5 qσ hv0 hf
  unfold b_X9_report_117 at hf
  rcases bl_if_at hf with hf | hf
  · have h16 := bl_Fq_g qσ hv0 (k := 1) rfl (by decide)
    obtain ⟨r17, σ18, h19, hf⟩ := bl_bd_at hf
    have qσ18 := bl_Fq_call qσ (fr_X5_putWord σ (bl_R σ v0 1) 6 _ qσ.1 qσ.2.1 h16 h19) (by decide)
    exact gw_X9_report_156 k48 gk48 σ18 v0 v1 v2 v3 qσ18 hv0 hf
  · have h8 := bl_Fq_g qσ hv0 (k := 1) rfl (by decide)
    obtain ⟨r9, σ10, h11, hf⟩ := bl_bd_at hf
    have qσ10 := bl_Fq_call qσ (fr_X5_putWord σ (bl_R σ v0 1) 7 _ qσ.1 qσ.2.1 h8 h11) (by decide)
    have h12 := bl_Fq_g qσ10 hv0 (k := 1) rfl (by decide)
    obtain ⟨r13, σ14, h15, hf⟩ := bl_bd_at hf
    have qσ14 := bl_Fq_call qσ10 (fr_X5_putNumber σ10 (bl_R σ10 v0 1) v5 _ qσ10.1 qσ10.2.1 h12 h15) (by decide)
    exact gw_X9_report_156 k48 gk48 σ14 v0 v1 v2 v3 qσ14 hv0 hf
set_option maxRecDepth 100000 in
theorem gw_X9_report_48 {ho : Nat → Bool} {σ0 : bl_St} {out : Int32 × bl_St} (k48 : bl_St → Nat → Int32 → Int32 → Int32 → Option (Int32 × bl_St)) (gk48 : ∀ (σ : bl_St) (v0 : Nat) (v1 : Int32) (v2 : Int32) (v3 : Int32), bl_Fq ho md_X9_report σ0 σ → (bl_sh[v0]? = some (9, 13) ∧ ho v0 = true) → k48 σ v0 v1 v2 v3 = some out → bl_Fq ho md_X9_report σ0 out.2) : ∀ (σ : bl_St) (v0 : Nat) (v1 : Int32) (v2 : Int32) (v3 : Int32), bl_Fq ho md_X9_report σ0 σ → (bl_sh[v0]? = some (9, 13) ∧ ho v0 = true) → (b_X9_report_48 k48) σ v0 v1 v2 v3 = some out → bl_Fq ho md_X9_report σ0 out.2 := by
  intro σ v0 v1 v2 v3 qσ hv0 hf
  unfold b_X9_report_48 at hf
  have h20 := bl_Fq_g qσ hv0 (k := 2) rfl (by decide)
  rcases bl_if_at hf with hf | hf
  · have h22 := bl_Fq_g qσ hv0 (k := 1) rfl (by decide)
    obtain ⟨r23, σ24, h25, hf⟩ := bl_bd_at hf
    have qσ24 := bl_Fq_call qσ (fr_X5_signAt σ (bl_R σ v0 1) v2 _ qσ.1 qσ.2.1 h22.1 h25) (by decide)
    rw [← Option.some.inj hf]
    exact qσ24
  · have h26 := bl_Fq_g qσ hv0 (k := 7) rfl (by decide)
    obtain ⟨r27, σ28, h29, hf⟩ := bl_bd_at hf
    have qσ28 := bl_Fq_call qσ (fr_X4_buys σ (bl_R σ v0 7) v1 v3 _ qσ.1 qσ.2.1 h26 h29) (by decide)
    have h30 := bl_Fq_g qσ28 hv0 (k := 7) rfl (by decide)
    obtain ⟨r31, σ32, h33, hf⟩ := bl_bd_at hf
    have qσ32 := bl_Fq_call qσ28 (fr_X4_leastTold σ28 (bl_R σ28 v0 7) 0 0 r27 _ qσ28.1 qσ28.2.1 h30.1 h33) (by decide)
    have h34 := bl_Fq_g qσ32 hv0 (k := 1) rfl (by decide)
    obtain ⟨r35, σ36, h37, hf⟩ := bl_bd_at hf
    have qσ36 := bl_Fq_call qσ32 (fr_X9_wordOf σ32 0 _ qσ32.1 qσ32.2.1  h37) (by decide)
    obtain ⟨r38, σ39, h40, hf⟩ := bl_bd_at hf
    have qσ39 := bl_Fq_call qσ36 (fr_X5_putWord σ36 (bl_R σ32 v0 1) r35 _ qσ36.1 qσ36.2.1 h34 h40) (by decide)
    have h41 := bl_Fq_g qσ39 hv0 (k := 1) rfl (by decide)
    obtain ⟨r42, σ43, h44, hf⟩ := bl_bd_at hf
    have qσ43 := bl_Fq_call qσ39 (fr_X5_putNumber σ39 (bl_R σ39 v0 1) v3 _ qσ39.1 qσ39.2.1 h41 h44) (by decide)
    rcases bl_if_at hf with hf | hf
    · exact gw_X9_report_117 k48 gk48 σ43 v0 v1 v2 v3 r31 qσ43 hv0 hf
    · have h46 := bl_Fq_g qσ43 hv0 (k := 1) rfl (by decide)
      obtain ⟨r47, σ48, h49, hf⟩ := bl_bd_at hf
      have qσ48 := bl_Fq_call qσ43 (fr_X5_putWord σ43 (bl_R σ43 v0 1) 5 _ qσ43.1 qσ43.2.1 h46 h49) (by decide)
      exact gw_X9_report_117 k48 gk48 σ48 v0 v1 v2 v3 r31 qσ48 hv0 hf
theorem gl_X9_report_48 {ho : Nat → Bool} {σ0 : bl_St} {out : Int32 × bl_St} (n : Nat) : ∀ (σ : bl_St) (v0 : Nat) (v1 : Int32) (v2 : Int32) (v3 : Int32), bl_Fq ho md_X9_report σ0 σ → (bl_sh[v0]? = some (9, 13) ∧ ho v0 = true) → (bl_fx (fun _ _ _ _ _ => none) (b_X9_report_48 ) n) σ v0 v1 v2 v3 = some out → bl_Fq ho md_X9_report σ0 out.2 := by
  induction n with
  | zero =>
    intro σ v0 v1 v2 v3 qσ hv0 hf
    cases hf
  | succ n ih => exact gw_X9_report_48  _ ih
set_option maxRecDepth 100000 in
theorem fr_X9_report {ho : Nat → Bool} (σ : bl_St) (a0 : Nat) (a1 : Int32) (a2 : Int32) (o : Int32 × bl_St) (hw : bl_WT σ) (hh : bl_WH ho σ) (ha0 : bl_sh[a0]? = some (9, 13) ∧ ho a0 = true) (hf : f_X9_report σ a0 a1 a2 = some o) : bl_Fq ho md_X9_report σ o.2 := by
  obtain ⟨σ0, hz⟩ : ∃ z, z = σ := ⟨_, rfl⟩
  suffices hgo : bl_Fq ho md_X9_report σ0 o.2 by rw [hz] at hgo; exact hgo
  have qσ : bl_Fq ho md_X9_report σ0 σ := by rw [hz]; exact ⟨hw, hh, fun _ _ => ⟨rfl, rfl, rfl⟩⟩
  unfold f_X9_report at hf
  rcases bl_if_at hf with hf | hf
  · rw [← Option.some.inj hf]
    exact qσ
  · rcases bl_if_at hf with hf | hf
    · rw [← Option.some.inj hf]
      exact qσ
    · rcases bl_if_at hf with hf | hf
      · rw [← Option.some.inj hf]
        exact qσ
      · have h53 := bl_Fq_g qσ ha0 (k := 2) rfl (by decide)
        rcases bl_if_at hf with hf | hf
        · rw [← Option.some.inj hf]
          exact qσ
        · have h55 := bl_Fq_g qσ ha0 (k := 1) rfl (by decide)
          obtain ⟨σ56, e57⟩ : ∃ z : bl_St, z = bl_pI σ (bl_R σ a0 1) 1 0 := ⟨_, rfl⟩
          have hf := bl_let_at e57 hf
          have qσ56 : bl_Fq ho md_X9_report σ0 σ56 := by rw [e57]; exact bl_Fq_I qσ (bl_al_in h55.1 (by decide) h55.2)
          have h58 := bl_Fq_g qσ56 ha0 (k := 7) rfl (by decide)
          obtain ⟨r59, σ60, h61, hf⟩ := bl_bd_at hf
          have qσ60 := bl_Fq_call qσ56 (fr_X4_learn σ56 (bl_R σ56 a0 7) (a1 - 1) _ qσ56.1 qσ56.2.1 h58 h61) (by decide)
          exact gl_X9_report_48  bl_fu σ60 a0 a1 a2 0 qσ60 ha0 hf
def md_X9_count : List (Nat × Nat) := []
set_option maxRecDepth 100000 in
theorem fr_X9_count {ho : Nat → Bool} (σ : bl_St) (a0 : Nat) (a1 : Int32) (o : Int32 × bl_St) (hw : bl_WT σ) (hh : bl_WH ho σ) (ha0 : bl_sh[a0]? = some (9, 13)) (hf : f_X9_count σ a0 a1 = some o) : bl_Fq ho md_X9_count σ o.2 := by
  obtain ⟨σ0, hz⟩ : ∃ z, z = σ := ⟨_, rfl⟩
  suffices hgo : bl_Fq ho md_X9_count σ0 o.2 by rw [hz] at hgo; exact hgo
  have qσ : bl_Fq ho md_X9_count σ0 σ := by rw [hz]; exact ⟨hw, hh, fun _ _ => ⟨rfl, rfl, rfl⟩⟩
  have ha0 := And.intro ha0 trivial
  unfold f_X9_count at hf
  rcases bl_if_at hf with hf | hf
  · have h2 := bl_Fq_gn qσ ha0 (k := 2) rfl
    rw [← Option.some.inj hf]
    exact qσ
  rcases bl_if_at hf with hf | hf
  · have h4 := bl_Fq_gn qσ ha0 (k := 2) rfl
    rw [← Option.some.inj hf]
    exact qσ
  rcases bl_if_at hf with hf | hf
  · have h6 := bl_Fq_gn qσ ha0 (k := 2) rfl
    obtain ⟨r7, σ8, h9, hf⟩ := bl_bd_at hf
    have qσ8 := bl_Fq_call qσ (fr_X8_chances σ (bl_R σ a0 2) _ qσ.1 qσ.2.1 h6.1 h9) (by decide)
    rw [← Option.some.inj hf]
    exact qσ8
  rcases bl_if_at hf with hf | hf
  · have h11 := bl_Fq_gn qσ ha0 (k := 2) rfl
    obtain ⟨r12, σ13, h14, hf⟩ := bl_bd_at hf
    have qσ13 := bl_Fq_call qσ (fr_X8_odds σ (bl_R σ a0 2) _ qσ.1 qσ.2.1 h11.1 h14) (by decide)
    rw [← Option.some.inj hf]
    exact qσ13
  rcases bl_if_at hf with hf | hf
  · have h16 := bl_Fq_gn qσ ha0 (k := 2) rfl
    obtain ⟨r17, σ18, h19, hf⟩ := bl_bd_at hf
    have qσ18 := bl_Fq_call qσ (fr_X8_own σ (bl_R σ a0 2) _ qσ.1 qσ.2.1 h16.1 h19) (by decide)
    rw [← Option.some.inj hf]
    exact qσ18
  rcases bl_if_at hf with hf | hf
  · have h21 := bl_Fq_gn qσ ha0 (k := 6) rfl
    rw [← Option.some.inj hf]
    exact qσ
  rcases bl_if_at hf with hf | hf
  · have h23 := bl_Fq_gn qσ ha0 (k := 0) rfl
    rw [← Option.some.inj hf]
    exact qσ
  rcases bl_if_at hf with hf | hf
  · have h25 := bl_Fq_gn qσ ha0 (k := 2) rfl
    obtain ⟨r26, σ27, h28, hf⟩ := bl_bd_at hf
    have qσ27 := bl_Fq_call qσ (fr_X8_allWeights σ (bl_R σ a0 2) _ qσ.1 qσ.2.1 h25.1 h28) (by decide)
    rw [← Option.some.inj hf]
    exact qσ27
  rcases bl_if_at hf with hf | hf
  · have h30 := bl_Fq_gn qσ ha0 (k := 4) rfl
    have h31 := bl_Fq_gn qσ ha0 (k := 4) rfl
    rw [← Option.some.inj hf]
    exact qσ
  rcases bl_if_at hf with hf | hf
  · have h33 := bl_Fq_gn qσ ha0 (k := 4) rfl
    rw [← Option.some.inj hf]
    exact qσ
  rw [← Option.some.inj hf]
  exact qσ
def md_X10_in : List (Nat × Nat) := []
set_option maxRecDepth 100000 in
theorem fr_X10_in {ho : Nat → Bool} (σ : bl_St) (a0 : Int64) (a2 : Int64) (a4 : Int64) (o : Int32 × bl_St) (hw : bl_WT σ) (hh : bl_WH ho σ) (hf : f_X10_in σ a0 a2 a4 = some o) : bl_Fq ho md_X10_in σ o.2 := by
  obtain ⟨σ0, hz⟩ : ∃ z, z = σ := ⟨_, rfl⟩
  suffices hgo : bl_Fq ho md_X10_in σ0 o.2 by rw [hz] at hgo; exact hgo
  have qσ : bl_Fq ho md_X10_in σ0 σ := by rw [hz]; exact ⟨hw, hh, fun _ _ => ⟨rfl, rfl, rfl⟩⟩
  unfold f_X10_in at hf
  rcases bl_if_at hf with hf | hf
  · rw [← Option.some.inj hf]
    exact qσ
  · rcases bl_if_at hf with hf | hf
    · rw [← Option.some.inj hf]
      exact qσ
    · rw [← Option.some.inj hf]
      exact qσ
def md_X10_lesser : List (Nat × Nat) := []
set_option maxRecDepth 100000 in
theorem fr_X10_lesser {ho : Nat → Bool} (σ : bl_St) (a0 : Int64) (a2 : Int64) (o : Int64 × bl_St) (hw : bl_WT σ) (hh : bl_WH ho σ) (hf : f_X10_lesser σ a0 a2 = some o) : bl_Fq ho md_X10_lesser σ o.2 := by
  obtain ⟨σ0, hz⟩ : ∃ z, z = σ := ⟨_, rfl⟩
  suffices hgo : bl_Fq ho md_X10_lesser σ0 o.2 by rw [hz] at hgo; exact hgo
  have qσ : bl_Fq ho md_X10_lesser σ0 σ := by rw [hz]; exact ⟨hw, hh, fun _ _ => ⟨rfl, rfl, rfl⟩⟩
  unfold f_X10_lesser at hf
  rcases bl_if_at hf with hf | hf
  · rw [← Option.some.inj hf]
    exact qσ
  · rw [← Option.some.inj hf]
    exact qσ
def md_X10_greater : List (Nat × Nat) := []
set_option maxRecDepth 100000 in
theorem fr_X10_greater {ho : Nat → Bool} (σ : bl_St) (a0 : Int64) (a2 : Int64) (o : Int64 × bl_St) (hw : bl_WT σ) (hh : bl_WH ho σ) (hf : f_X10_greater σ a0 a2 = some o) : bl_Fq ho md_X10_greater σ o.2 := by
  obtain ⟨σ0, hz⟩ : ∃ z, z = σ := ⟨_, rfl⟩
  suffices hgo : bl_Fq ho md_X10_greater σ0 o.2 by rw [hz] at hgo; exact hgo
  have qσ : bl_Fq ho md_X10_greater σ0 σ := by rw [hz]; exact ⟨hw, hh, fun _ _ => ⟨rfl, rfl, rfl⟩⟩
  unfold f_X10_greater at hf
  rcases bl_if_at hf with hf | hf
  · rw [← Option.some.inj hf]
    exact qσ
  · rw [← Option.some.inj hf]
    exact qσ
def md_X10_starts : List (Nat × Nat) := [(20, 167)]
set_option maxRecDepth 100000 in
theorem gw_X10_starts_2 {ho : Nat → Bool} {σ0 : bl_St} {out : Unit × bl_St} (k2 : bl_St → Nat → Int32 → Option (Unit × bl_St)) (gk2 : ∀ (σ : bl_St) (v0 : Nat) (v1 : Int32), bl_Fq ho md_X10_starts σ0 σ → (bl_sh[v0]? = some (20, 167) ∧ ho v0 = true) → k2 σ v0 v1 = some out → bl_Fq ho md_X10_starts σ0 out.2) : ∀ (σ : bl_St) (v0 : Nat) (v1 : Int32), bl_Fq ho md_X10_starts σ0 σ → (bl_sh[v0]? = some (20, 167) ∧ ho v0 = true) → (b_X10_starts_2 k2) σ v0 v1 = some out → bl_Fq ho md_X10_starts σ0 out.2 := by
  intro σ v0 v1 qσ hv0 hf
  unfold b_X10_starts_2 at hf
  rcases bl_if_at hf with hf | hf
  · obtain ⟨σ2, e3⟩ : ∃ z : bl_St, z = bl_pI σ v0 2 2 := ⟨_, rfl⟩
    have hf := bl_let_at e3 hf
    have qσ2 : bl_Fq ho md_X10_starts σ0 σ2 := by rw [e3]; exact bl_Fq_I qσ (bl_al_in hv0.1 (by decide) hv0.2)
    obtain ⟨σ4, e5⟩ : ∃ z : bl_St, z = bl_pI σ2 v0 3 3 := ⟨_, rfl⟩
    have hf := bl_let_at e5 hf
    have qσ4 : bl_Fq ho md_X10_starts σ0 σ4 := by rw [e5]; exact bl_Fq_I qσ2 (bl_al_in hv0.1 (by decide) hv0.2)
    rw [← Option.some.inj hf]
    exact qσ4
  · obtain ⟨-, hf⟩ := bl_gd_at hf
    obtain ⟨σ7, e8⟩ : ∃ z : bl_St, z = bl_pI σ v0 (Int32.toNatClampNeg v1) 0 := ⟨_, rfl⟩
    have hf := bl_let_at e8 hf
    have qσ7 : bl_Fq ho md_X10_starts σ0 σ7 := by rw [e8]; exact bl_Fq_I qσ (bl_al_in hv0.1 (by decide) hv0.2)
    obtain ⟨x9, e10⟩ : ∃ z : Int32, z = v1 + 1 := ⟨_, rfl⟩
    have hf := bl_let_at e10 hf
    exact gk2 σ7 v0 x9 qσ7 hv0 hf
theorem gl_X10_starts_2 {ho : Nat → Bool} {σ0 : bl_St} {out : Unit × bl_St} (n : Nat) : ∀ (σ : bl_St) (v0 : Nat) (v1 : Int32), bl_Fq ho md_X10_starts σ0 σ → (bl_sh[v0]? = some (20, 167) ∧ ho v0 = true) → (bl_fx (fun _ _ _ => none) (b_X10_starts_2 ) n) σ v0 v1 = some out → bl_Fq ho md_X10_starts σ0 out.2 := by
  induction n with
  | zero =>
    intro σ v0 v1 qσ hv0 hf
    cases hf
  | succ n ih => exact gw_X10_starts_2  _ ih
set_option maxRecDepth 100000 in
theorem fr_X10_starts {ho : Nat → Bool} (σ : bl_St) (a0 : Nat) (o : Unit × bl_St) (hw : bl_WT σ) (hh : bl_WH ho σ) (ha0 : bl_sh[a0]? = some (20, 167) ∧ ho a0 = true) (hf : f_X10_starts σ a0 = some o) : bl_Fq ho md_X10_starts σ o.2 := by
  obtain ⟨σ0, hz⟩ : ∃ z, z = σ := ⟨_, rfl⟩
  suffices hgo : bl_Fq ho md_X10_starts σ0 o.2 by rw [hz] at hgo; exact hgo
  have qσ : bl_Fq ho md_X10_starts σ0 σ := by rw [hz]; exact ⟨hw, hh, fun _ _ => ⟨rfl, rfl, rfl⟩⟩
  unfold f_X10_starts at hf
  exact gl_X10_starts_2  bl_fu σ a0 0 qσ ha0 hf
def md_X10_copies : List (Nat × Nat) := [(20, 167)]
set_option maxRecDepth 100000 in
theorem gw_X10_copies_2 {ho : Nat → Bool} {σ0 : bl_St} {out : Unit × bl_St} (k2 : bl_St → Nat → Nat → Int32 → Option (Unit × bl_St)) (gk2 : ∀ (σ : bl_St) (v0 : Nat) (v1 : Nat) (v2 : Int32), bl_Fq ho md_X10_copies σ0 σ → (bl_sh[v0]? = some (20, 167) ∧ True) → (bl_sh[v1]? = some (20, 167) ∧ ho v1 = true) → k2 σ v0 v1 v2 = some out → bl_Fq ho md_X10_copies σ0 out.2) : ∀ (σ : bl_St) (v0 : Nat) (v1 : Nat) (v2 : Int32), bl_Fq ho md_X10_copies σ0 σ → (bl_sh[v0]? = some (20, 167) ∧ True) → (bl_sh[v1]? = some (20, 167) ∧ ho v1 = true) → (b_X10_copies_2 k2) σ v0 v1 v2 = some out → bl_Fq ho md_X10_copies σ0 out.2 := by
  intro σ v0 v1 v2 qσ hv0 hv1 hf
  unfold b_X10_copies_2 at hf
  rcases bl_if_at hf with hf | hf
  · rw [← Option.some.inj hf]
    exact qσ
  · obtain ⟨-, hf⟩ := bl_gd_at hf
    obtain ⟨-, hf⟩ := bl_gd_at hf
    obtain ⟨σ4, e5⟩ : ∃ z : bl_St, z = bl_pI σ v1 (Int32.toNatClampNeg v2) (bl_I σ v0 (Int32.toNatClampNeg v2)) := ⟨_, rfl⟩
    have hf := bl_let_at e5 hf
    have qσ4 : bl_Fq ho md_X10_copies σ0 σ4 := by rw [e5]; exact bl_Fq_I qσ (bl_al_in hv1.1 (by decide) hv1.2)
    obtain ⟨x6, e7⟩ : ∃ z : Int32, z = v2 + 1 := ⟨_, rfl⟩
    have hf := bl_let_at e7 hf
    exact gk2 σ4 v0 v1 x6 qσ4 hv0 hv1 hf
theorem gl_X10_copies_2 {ho : Nat → Bool} {σ0 : bl_St} {out : Unit × bl_St} (n : Nat) : ∀ (σ : bl_St) (v0 : Nat) (v1 : Nat) (v2 : Int32), bl_Fq ho md_X10_copies σ0 σ → (bl_sh[v0]? = some (20, 167) ∧ True) → (bl_sh[v1]? = some (20, 167) ∧ ho v1 = true) → (bl_fx (fun _ _ _ _ => none) (b_X10_copies_2 ) n) σ v0 v1 v2 = some out → bl_Fq ho md_X10_copies σ0 out.2 := by
  induction n with
  | zero =>
    intro σ v0 v1 v2 qσ hv0 hv1 hf
    cases hf
  | succ n ih => exact gw_X10_copies_2  _ ih
set_option maxRecDepth 100000 in
theorem fr_X10_copies {ho : Nat → Bool} (σ : bl_St) (a0 : Nat) (a1 : Nat) (o : Unit × bl_St) (hw : bl_WT σ) (hh : bl_WH ho σ) (ha0 : bl_sh[a0]? = some (20, 167)) (ha1 : bl_sh[a1]? = some (20, 167) ∧ ho a1 = true) (hf : f_X10_copies σ a0 a1 = some o) : bl_Fq ho md_X10_copies σ o.2 := by
  obtain ⟨σ0, hz⟩ : ∃ z, z = σ := ⟨_, rfl⟩
  suffices hgo : bl_Fq ho md_X10_copies σ0 o.2 by rw [hz] at hgo; exact hgo
  have qσ : bl_Fq ho md_X10_copies σ0 σ := by rw [hz]; exact ⟨hw, hh, fun _ _ => ⟨rfl, rfl, rfl⟩⟩
  have ha0 := And.intro ha0 trivial
  unfold f_X10_copies at hf
  exact gl_X10_copies_2  bl_fu σ a0 a1 0 qσ ha0 ha1 hf
def md_X10_keeps : List (Nat × Nat) := [(10, 28), (20, 2004)]
set_option maxRecDepth 100000 in
theorem gw_X10_keeps_54 {ho : Nat → Bool} {σ0 : bl_St} {out : Unit × bl_St} (k54 : bl_St → Nat → Int32 → Option (Unit × bl_St)) (gk54 : ∀ (σ : bl_St) (v0 : Nat) (v1 : Int32), bl_Fq ho md_X10_keeps σ0 σ → (bl_sh[v0]? = some (10, 28) ∧ ho v0 = true) → k54 σ v0 v1 = some out → bl_Fq ho md_X10_keeps σ0 out.2) : ∀ (σ : bl_St) (v0 : Nat) (v1 : Int32), bl_Fq ho md_X10_keeps σ0 σ → (bl_sh[v0]? = some (10, 28) ∧ ho v0 = true) → (b_X10_keeps_54 k54) σ v0 v1 = some out → bl_Fq ho md_X10_keeps σ0 out.2 := by
  intro σ v0 v1 qσ hv0 hf
  unfold b_X10_keeps_54 at hf
  rcases bl_if_at hf with hf | hf
  · obtain ⟨σ2, e3⟩ : ∃ z : bl_St, z = bl_pI σ v0 5 ((bl_I σ v0 5) + 1) := ⟨_, rfl⟩
    have hf := bl_let_at e3 hf
    have qσ2 : bl_Fq ho md_X10_keeps σ0 σ2 := by rw [e3]; exact bl_Fq_I qσ (bl_al_in hv0.1 (by decide) hv0.2)
    rw [← Option.some.inj hf]
    exact qσ2
  · have h4 := bl_Fq_g qσ hv0 (k := 4) rfl (by decide)
    have h5 := bl_Fq_g qσ hv0 (k := 1) rfl (by decide)
    obtain ⟨-, hf⟩ := bl_gd_at hf
    obtain ⟨-, hf⟩ := bl_gd_at hf
    obtain ⟨σ8, e9⟩ : ∃ z : bl_St, z = bl_pI σ (bl_R σ v0 4) (Int32.toNatClampNeg ((167 * (bl_I σ v0 5)) + v1)) (bl_I σ (bl_R σ v0 1) (Int32.toNatClampNeg v1)) := ⟨_, rfl⟩
    have hf := bl_let_at e9 hf
    have qσ8 : bl_Fq ho md_X10_keeps σ0 σ8 := by rw [e9]; exact bl_Fq_I qσ (bl_al_in h4.1 (by decide) h4.2)
    obtain ⟨x10, e11⟩ : ∃ z : Int32, z = v1 + 1 := ⟨_, rfl⟩
    have hf := bl_let_at e11 hf
    exact gk54 σ8 v0 x10 qσ8 hv0 hf
theorem gl_X10_keeps_54 {ho : Nat → Bool} {σ0 : bl_St} {out : Unit × bl_St} (n : Nat) : ∀ (σ : bl_St) (v0 : Nat) (v1 : Int32), bl_Fq ho md_X10_keeps σ0 σ → (bl_sh[v0]? = some (10, 28) ∧ ho v0 = true) → (bl_fx (fun _ _ _ => none) (b_X10_keeps_54 ) n) σ v0 v1 = some out → bl_Fq ho md_X10_keeps σ0 out.2 := by
  induction n with
  | zero =>
    intro σ v0 v1 qσ hv0 hf
    cases hf
  | succ n ih => exact gw_X10_keeps_54  _ ih
set_option maxRecDepth 100000 in
theorem gw_X10_keeps_52 {ho : Nat → Bool} {σ0 : bl_St} {out : Unit × bl_St} : ∀ (σ : bl_St) (v0 : Nat), bl_Fq ho md_X10_keeps σ0 σ → (bl_sh[v0]? = some (10, 28) ∧ ho v0 = true) → (b_X10_keeps_52 ) σ v0 = some out → bl_Fq ho md_X10_keeps σ0 out.2 := by
  intro σ v0 qσ hv0 hf
  unfold b_X10_keeps_52 at hf
  exact gl_X10_keeps_54  bl_fu σ v0 0 qσ hv0 hf
set_option maxRecDepth 100000 in
theorem gw_X10_keeps_13 {ho : Nat → Bool} {σ0 : bl_St} {out : Unit × bl_St} (k13 : bl_St → Nat → Int32 → Option (Unit × bl_St)) (gk13 : ∀ (σ : bl_St) (v0 : Nat) (v1 : Int32), bl_Fq ho md_X10_keeps σ0 σ → (bl_sh[v0]? = some (10, 28) ∧ ho v0 = true) → k13 σ v0 v1 = some out → bl_Fq ho md_X10_keeps σ0 out.2) : ∀ (σ : bl_St) (v0 : Nat) (v1 : Int32), bl_Fq ho md_X10_keeps σ0 σ → (bl_sh[v0]? = some (10, 28) ∧ ho v0 = true) → (b_X10_keeps_13 k13) σ v0 v1 = some out → bl_Fq ho md_X10_keeps σ0 out.2 := by
  intro σ v0 v1 qσ hv0 hf
  unfold b_X10_keeps_13 at hf
  rcases bl_if_at hf with hf | hf
  · obtain ⟨σ13, e14⟩ : ∃ z : bl_St, z = bl_pI σ v0 5 ((bl_I σ v0 5) - 1) := ⟨_, rfl⟩
    have hf := bl_let_at e14 hf
    have qσ13 : bl_Fq ho md_X10_keeps σ0 σ13 := by rw [e14]; exact bl_Fq_I qσ (bl_al_in hv0.1 (by decide) hv0.2)
    exact gw_X10_keeps_52  σ13 v0 qσ13 hv0 hf
  · have h15 := bl_Fq_g qσ hv0 (k := 4) rfl (by decide)
    have h16 := bl_Fq_g qσ hv0 (k := 4) rfl (by decide)
    obtain ⟨-, hf⟩ := bl_gd_at hf
    obtain ⟨-, hf⟩ := bl_gd_at hf
    obtain ⟨σ19, e20⟩ : ∃ z : bl_St, z = bl_pI σ (bl_R σ v0 4) (Int32.toNatClampNeg (v1 - 167)) (bl_I σ (bl_R σ v0 4) (Int32.toNatClampNeg v1)) := ⟨_, rfl⟩
    have hf := bl_let_at e20 hf
    have qσ19 : bl_Fq ho md_X10_keeps σ0 σ19 := by rw [e20]; exact bl_Fq_I qσ (bl_al_in h15.1 (by decide) h15.2)
    obtain ⟨x21, e22⟩ : ∃ z : Int32, z = v1 + 1 := ⟨_, rfl⟩
    have hf := bl_let_at e22 hf
    exact gk13 σ19 v0 x21 qσ19 hv0 hf
theorem gl_X10_keeps_13 {ho : Nat → Bool} {σ0 : bl_St} {out : Unit × bl_St} (n : Nat) : ∀ (σ : bl_St) (v0 : Nat) (v1 : Int32), bl_Fq ho md_X10_keeps σ0 σ → (bl_sh[v0]? = some (10, 28) ∧ ho v0 = true) → (bl_fx (fun _ _ _ => none) (b_X10_keeps_13 ) n) σ v0 v1 = some out → bl_Fq ho md_X10_keeps σ0 out.2 := by
  induction n with
  | zero =>
    intro σ v0 v1 qσ hv0 hf
    cases hf
  | succ n ih => exact gw_X10_keeps_13  _ ih
set_option maxRecDepth 100000 in
theorem fr_X10_keeps {ho : Nat → Bool} (σ : bl_St) (a0 : Nat) (o : Unit × bl_St) (hw : bl_WT σ) (hh : bl_WH ho σ) (ha0 : bl_sh[a0]? = some (10, 28) ∧ ho a0 = true) (hf : f_X10_keeps σ a0 = some o) : bl_Fq ho md_X10_keeps σ o.2 := by
  obtain ⟨σ0, hz⟩ : ∃ z, z = σ := ⟨_, rfl⟩
  suffices hgo : bl_Fq ho md_X10_keeps σ0 o.2 by rw [hz] at hgo; exact hgo
  have qσ : bl_Fq ho md_X10_keeps σ0 σ := by rw [hz]; exact ⟨hw, hh, fun _ _ => ⟨rfl, rfl, rfl⟩⟩
  unfold f_X10_keeps at hf
  rcases bl_if_at hf with hf | hf
  · exact gl_X10_keeps_13  bl_fu σ a0 167 qσ ha0 hf
  · exact gw_X10_keeps_52  σ a0 qσ ha0 hf
def md_X10_isClass : List (Nat × Nat) := []
set_option maxRecDepth 100000 in
theorem fr_X10_isClass {ho : Nat → Bool} (σ : bl_St) (a0 : Nat) (a1 : Int32) (o : Int32 × bl_St) (hw : bl_WT σ) (hh : bl_WH ho σ) (ha0 : bl_sh[a0]? = some (10, 28)) (hf : f_X10_isClass σ a0 a1 = some o) : bl_Fq ho md_X10_isClass σ o.2 := by
  obtain ⟨σ0, hz⟩ : ∃ z, z = σ := ⟨_, rfl⟩
  suffices hgo : bl_Fq ho md_X10_isClass σ0 o.2 by rw [hz] at hgo; exact hgo
  have qσ : bl_Fq ho md_X10_isClass σ0 σ := by rw [hz]; exact ⟨hw, hh, fun _ _ => ⟨rfl, rfl, rfl⟩⟩
  have ha0 := And.intro ha0 trivial
  unfold f_X10_isClass at hf
  have h1 := bl_Fq_gn qσ ha0 (k := 1) rfl
  obtain ⟨r2, σ3, h4, hf⟩ := bl_bd_at hf
  have qσ3 := bl_Fq_call qσ (fr_X10_in σ (Int32.toInt64 a1) 0 (Int32.toInt64 ((bl_I σ (bl_R σ a0 1) 0) - 1)) _ qσ.1 qσ.2.1  h4) (by decide)
  obtain ⟨-, hf⟩ := bl_gd_at hf
  rw [← Option.some.inj hf]
  exact qσ3
def md_X10_isSort : List (Nat × Nat) := []
set_option maxRecDepth 100000 in
theorem fr_X10_isSort {ho : Nat → Bool} (σ : bl_St) (a0 : Nat) (a1 : Int32) (o : Int32 × bl_St) (hw : bl_WT σ) (hh : bl_WH ho σ) (ha0 : bl_sh[a0]? = some (10, 28)) (hf : f_X10_isSort σ a0 a1 = some o) : bl_Fq ho md_X10_isSort σ o.2 := by
  obtain ⟨σ0, hz⟩ : ∃ z, z = σ := ⟨_, rfl⟩
  suffices hgo : bl_Fq ho md_X10_isSort σ0 o.2 by rw [hz] at hgo; exact hgo
  have qσ : bl_Fq ho md_X10_isSort σ0 σ := by rw [hz]; exact ⟨hw, hh, fun _ _ => ⟨rfl, rfl, rfl⟩⟩
  have ha0 := And.intro ha0 trivial
  unfold f_X10_isSort at hf
  have h1 := bl_Fq_gn qσ ha0 (k := 1) rfl
  obtain ⟨r2, σ3, h4, hf⟩ := bl_bd_at hf
  have qσ3 := bl_Fq_call qσ (fr_X10_in σ (Int32.toInt64 a1) 0 (Int32.toInt64 ((bl_I σ (bl_R σ a0 1) 1) - 1)) _ qσ.1 qσ.2.1  h4) (by decide)
  obtain ⟨-, hf⟩ := bl_gd_at hf
  rw [← Option.some.inj hf]
  exact qσ3
def md_X10_ofClass : List (Nat × Nat) := []
set_option maxRecDepth 100000 in
theorem fr_X10_ofClass {ho : Nat → Bool} (σ : bl_St) (a0 : Nat) (a1 : Int32) (a2 : Int32) (o : Int32 × bl_St) (hw : bl_WT σ) (hh : bl_WH ho σ) (ha0 : bl_sh[a0]? = some (10, 28)) (hf : f_X10_ofClass σ a0 a1 a2 = some o) : bl_Fq ho md_X10_ofClass σ o.2 := by
  obtain ⟨σ0, hz⟩ : ∃ z, z = σ := ⟨_, rfl⟩
  suffices hgo : bl_Fq ho md_X10_ofClass σ0 o.2 by rw [hz] at hgo; exact hgo
  have qσ : bl_Fq ho md_X10_ofClass σ0 σ := by rw [hz]; exact ⟨hw, hh, fun _ _ => ⟨rfl, rfl, rfl⟩⟩
  have ha0 := And.intro ha0 trivial
  unfold f_X10_ofClass at hf
  have h1 := bl_Fq_gn qσ ha0 (k := 1) rfl
  obtain ⟨-, hf⟩ := bl_gd_at hf
  rw [← Option.some.inj hf]
  exact qσ
def md_X10_size : List (Nat × Nat) := []
set_option maxRecDepth 100000 in
theorem fr_X10_size {ho : Nat → Bool} (σ : bl_St) (a0 : Nat) (a1 : Int32) (o : Int32 × bl_St) (hw : bl_WT σ) (hh : bl_WH ho σ) (ha0 : bl_sh[a0]? = some (10, 28)) (hf : f_X10_size σ a0 a1 = some o) : bl_Fq ho md_X10_size σ o.2 := by
  obtain ⟨σ0, hz⟩ : ∃ z, z = σ := ⟨_, rfl⟩
  suffices hgo : bl_Fq ho md_X10_size σ0 o.2 by rw [hz] at hgo; exact hgo
  have qσ : bl_Fq ho md_X10_size σ0 σ := by rw [hz]; exact ⟨hw, hh, fun _ _ => ⟨rfl, rfl, rfl⟩⟩
  have ha0 := And.intro ha0 trivial
  unfold f_X10_size at hf
  have h1 := bl_Fq_gn qσ ha0 (k := 1) rfl
  obtain ⟨-, hf⟩ := bl_gd_at hf
  rw [← Option.some.inj hf]
  exact qσ
def md_X10_weight : List (Nat × Nat) := []
set_option maxRecDepth 100000 in
theorem fr_X10_weight {ho : Nat → Bool} (σ : bl_St) (a0 : Nat) (a1 : Int32) (o : Int32 × bl_St) (hw : bl_WT σ) (hh : bl_WH ho σ) (ha0 : bl_sh[a0]? = some (10, 28)) (hf : f_X10_weight σ a0 a1 = some o) : bl_Fq ho md_X10_weight σ o.2 := by
  obtain ⟨σ0, hz⟩ : ∃ z, z = σ := ⟨_, rfl⟩
  suffices hgo : bl_Fq ho md_X10_weight σ0 o.2 by rw [hz] at hgo; exact hgo
  have qσ : bl_Fq ho md_X10_weight σ0 σ := by rw [hz]; exact ⟨hw, hh, fun _ _ => ⟨rfl, rfl, rfl⟩⟩
  have ha0 := And.intro ha0 trivial
  unfold f_X10_weight at hf
  have h1 := bl_Fq_gn qσ ha0 (k := 1) rfl
  obtain ⟨-, hf⟩ := bl_gd_at hf
  rw [← Option.some.inj hf]
  exact qσ
def md_X10_weights : List (Nat × Nat) := []
set_option maxRecDepth 100000 in
theorem gw_X10_weights_4 {ho : Nat → Bool} {σ0 : bl_St} {out : Int32 × bl_St} (k4 : bl_St → Nat → Int32 → Int32 → Option (Int32 × bl_St)) (gk4 : ∀ (σ : bl_St) (v0 : Nat) (v1 : Int32) (v2 : Int32), bl_Fq ho md_X10_weights σ0 σ → (bl_sh[v0]? = some (10, 28) ∧ True) → k4 σ v0 v1 v2 = some out → bl_Fq ho md_X10_weights σ0 out.2) : ∀ (σ : bl_St) (v0 : Nat) (v1 : Int32) (v2 : Int32), bl_Fq ho md_X10_weights σ0 σ → (bl_sh[v0]? = some (10, 28) ∧ True) → (b_X10_weights_4 k4) σ v0 v1 v2 = some out → bl_Fq ho md_X10_weights σ0 out.2 := by
  intro σ v0 v1 v2 qσ hv0 hf
  unfold b_X10_weights_4 at hf
  have h1 := bl_Fq_gn qσ hv0 (k := 1) rfl
  rcases bl_if_at hf with hf | hf
  · rw [← Option.some.inj hf]
    exact qσ
  · obtain ⟨r3, σ4, h5, hf⟩ := bl_bd_at hf
    have qσ4 := bl_Fq_call qσ (fr_X10_weight σ v0 v2 _ qσ.1 qσ.2.1 hv0.1 h5) (by decide)
    obtain ⟨x6, e7⟩ : ∃ z, z = (v1 + r3) := ⟨_, rfl⟩
    have hf := bl_let_at e7 hf
    obtain ⟨x8, e9⟩ : ∃ z : Int32, z = v2 + 1 := ⟨_, rfl⟩
    have hf := bl_let_at e9 hf
    exact gk4 σ4 v0 x6 x8 qσ4 hv0 hf
theorem gl_X10_weights_4 {ho : Nat → Bool} {σ0 : bl_St} {out : Int32 × bl_St} (n : Nat) : ∀ (σ : bl_St) (v0 : Nat) (v1 : Int32) (v2 : Int32), bl_Fq ho md_X10_weights σ0 σ → (bl_sh[v0]? = some (10, 28) ∧ True) → (bl_fx (fun _ _ _ _ => none) (b_X10_weights_4 ) n) σ v0 v1 v2 = some out → bl_Fq ho md_X10_weights σ0 out.2 := by
  induction n with
  | zero =>
    intro σ v0 v1 v2 qσ hv0 hf
    cases hf
  | succ n ih => exact gw_X10_weights_4  _ ih
set_option maxRecDepth 100000 in
theorem fr_X10_weights {ho : Nat → Bool} (σ : bl_St) (a0 : Nat) (o : Int32 × bl_St) (hw : bl_WT σ) (hh : bl_WH ho σ) (ha0 : bl_sh[a0]? = some (10, 28)) (hf : f_X10_weights σ a0 = some o) : bl_Fq ho md_X10_weights σ o.2 := by
  obtain ⟨σ0, hz⟩ : ∃ z, z = σ := ⟨_, rfl⟩
  suffices hgo : bl_Fq ho md_X10_weights σ0 o.2 by rw [hz] at hgo; exact hgo
  have qσ : bl_Fq ho md_X10_weights σ0 σ := by rw [hz]; exact ⟨hw, hh, fun _ _ => ⟨rfl, rfl, rfl⟩⟩
  have ha0 := And.intro ha0 trivial
  unfold f_X10_weights at hf
  exact gl_X10_weights_4  bl_fu σ a0 0 0 qσ ha0 hf
def md_X10_behind : List (Nat × Nat) := []
set_option maxRecDepth 100000 in
theorem fr_X10_behind {ho : Nat → Bool} (σ : bl_St) (a0 : Nat) (a1 : Int32) (a2 : Int32) (o : Int32 × bl_St) (hw : bl_WT σ) (hh : bl_WH ho σ) (ha0 : bl_sh[a0]? = some (10, 28)) (hf : f_X10_behind σ a0 a1 a2 = some o) : bl_Fq ho md_X10_behind σ o.2 := by
  obtain ⟨σ0, hz⟩ : ∃ z, z = σ := ⟨_, rfl⟩
  suffices hgo : bl_Fq ho md_X10_behind σ0 o.2 by rw [hz] at hgo; exact hgo
  have qσ : bl_Fq ho md_X10_behind σ0 σ := by rw [hz]; exact ⟨hw, hh, fun _ _ => ⟨rfl, rfl, rfl⟩⟩
  have ha0 := And.intro ha0 trivial
  unfold f_X10_behind at hf
  rcases bl_if_at hf with hf | hf
  · obtain ⟨r2, σ3, h4, hf⟩ := bl_bd_at hf
    have qσ3 := bl_Fq_call qσ (fr_X10_ofClass σ a0 a1 (1 + a2) _ qσ.1 qσ.2.1 ha0.1 h4) (by decide)
    rw [← Option.some.inj hf]
    exact qσ3
  · obtain ⟨r5, σ6, h7, hf⟩ := bl_bd_at hf
    have qσ6 := bl_Fq_call qσ (fr_X10_ofClass σ a0 a1 (1 + 2) _ qσ.1 qσ.2.1 ha0.1 h7) (by decide)
    rw [← Option.some.inj hf]
    exact qσ6
def md_X10_toldPays : List (Nat × Nat) := []
set_option maxRecDepth 100000 in
theorem fr_X10_toldPays {ho : Nat → Bool} (σ : bl_St) (a0 : Nat) (a1 : Int32) (o : Int32 × bl_St) (hw : bl_WT σ) (hh : bl_WH ho σ) (ha0 : bl_sh[a0]? = some (10, 28)) (hf : f_X10_toldPays σ a0 a1 = some o) : bl_Fq ho md_X10_toldPays σ o.2 := by
  obtain ⟨σ0, hz⟩ : ∃ z, z = σ := ⟨_, rfl⟩
  suffices hgo : bl_Fq ho md_X10_toldPays σ0 o.2 by rw [hz] at hgo; exact hgo
  have qσ : bl_Fq ho md_X10_toldPays σ0 σ := by rw [hz]; exact ⟨hw, hh, fun _ _ => ⟨rfl, rfl, rfl⟩⟩
  have ha0 := And.intro ha0 trivial
  unfold f_X10_toldPays at hf
  have h1 := bl_Fq_gn qσ ha0 (k := 1) rfl
  obtain ⟨r2, σ3, h4, hf⟩ := bl_bd_at hf
  have qσ3 := bl_Fq_call qσ (fr_X10_size σ a0 a1 _ qσ.1 qσ.2.1 ha0.1 h4) (by decide)
  rcases bl_if_at hf with hf | hf
  · obtain ⟨r6, σ7, h8, hf⟩ := bl_bd_at hf
    have qσ7 := bl_Fq_call qσ3 (fr_X10_size σ3 a0 a1 _ qσ3.1 qσ3.2.1 ha0.1 h8) (by decide)
    rw [← Option.some.inj hf]
    exact qσ7
  · have h9 := bl_Fq_gn qσ3 ha0 (k := 1) rfl
    rw [← Option.some.inj hf]
    exact qσ3
def md_X10_becomes : List (Nat × Nat) := [(10, 28), (20, 167), (20, 2004)]
set_option maxRecDepth 100000 in
theorem fr_X10_becomes {ho : Nat → Bool} (σ : bl_St) (a0 : Nat) (a1 : Int32) (a2 : Int32) (o : Int32 × bl_St) (hw : bl_WT σ) (hh : bl_WH ho σ) (ha0 : bl_sh[a0]? = some (10, 28) ∧ ho a0 = true) (hf : f_X10_becomes σ a0 a1 a2 = some o) : bl_Fq ho md_X10_becomes σ o.2 := by
  obtain ⟨σ0, hz⟩ : ∃ z, z = σ := ⟨_, rfl⟩
  suffices hgo : bl_Fq ho md_X10_becomes σ0 o.2 by rw [hz] at hgo; exact hgo
  have qσ : bl_Fq ho md_X10_becomes σ0 σ := by rw [hz]; exact ⟨hw, hh, fun _ _ => ⟨rfl, rfl, rfl⟩⟩
  unfold f_X10_becomes at hf
  have h1 := bl_Fq_g qσ ha0 (k := 1) rfl (by decide)
  obtain ⟨-, hf⟩ := bl_gd_at hf
  rcases bl_if_at hf with hf | hf
  · rw [← Option.some.inj hf]
    exact qσ
  · obtain ⟨r4, σ5, h6, hf⟩ := bl_bd_at hf
    have qσ5 := bl_Fq_call qσ (fr_X10_keeps σ a0 _ qσ.1 qσ.2.1 ha0 h6) (by decide)
    have h7 := bl_Fq_g qσ5 ha0 (k := 1) rfl (by decide)
    obtain ⟨-, hf⟩ := bl_gd_at hf
    obtain ⟨x9, e10⟩ : ∃ z, z = (bl_I σ5 (bl_R σ5 a0 1) (Int32.toNatClampNeg a1)) := ⟨_, rfl⟩
    have hf := bl_let_at e10 hf
    have h11 := bl_Fq_g qσ5 ha0 (k := 1) rfl (by decide)
    obtain ⟨-, hf⟩ := bl_gd_at hf
    obtain ⟨σ13, e14⟩ : ∃ z : bl_St, z = bl_pI σ5 (bl_R σ5 a0 1) (Int32.toNatClampNeg a1) a2 := ⟨_, rfl⟩
    have hf := bl_let_at e14 hf
    have qσ13 : bl_Fq ho md_X10_becomes σ0 σ13 := by rw [e14]; exact bl_Fq_I qσ5 (bl_al_in h11.1 (by decide) h11.2)
    rw [← Option.some.inj hf]
    exact qσ13
def md_X10_set : List (Nat × Nat) := [(10, 28), (20, 167), (20, 2004)]
set_option maxRecDepth 100000 in
theorem gw_X10_set_50 {ho : Nat → Bool} {σ0 : bl_St} {out : Int32 × bl_St} : ∀ (σ : bl_St) (v0 : Nat) (v1 : Int32) (v2 : Int32) (v3 : Int32) (s0 : Int32), bl_Fq ho md_X10_set σ0 σ → (bl_sh[v0]? = some (10, 28) ∧ ho v0 = true) → (b_X10_set_50 ) σ v0 v1 v2 v3 s0 = some out → bl_Fq ho md_X10_set σ0 out.2 := by
  intro σ v0 v1 v2 v3 s0 qσ hv0 hf
  unfold b_X10_set_50 at hf
  obtain ⟨r1, σ2, h3, hf⟩ := bl_bd_at hf
  have qσ2 := bl_Fq_call qσ (fr_X10_in σ (Int32.toInt64 v3) 0 (Int32.toInt64 s0) _ qσ.1 qσ.2.1  h3) (by decide)
  rcases bl_if_at hf with hf | hf
  · rw [← Option.some.inj hf]
    exact qσ2
  · obtain ⟨r5, σ6, h7, hf⟩ := bl_bd_at hf
    have qσ6 := bl_Fq_call qσ2 (fr_X10_becomes σ2 v0 ((5 + (5 * v1)) + v2) v3 _ qσ2.1 qσ2.2.1 hv0 h7) (by decide)
    rw [← Option.some.inj hf]
    exact qσ6
set_option maxRecDepth 100000 in
theorem fr_X10_set {ho : Nat → Bool} (σ : bl_St) (a0 : Nat) (a1 : Int32) (a2 : Int32) (a3 : Int32) (o : Int32 × bl_St) (hw : bl_WT σ) (hh : bl_WH ho σ) (ha0 : bl_sh[a0]? = some (10, 28) ∧ ho a0 = true) (hf : f_X10_set σ a0 a1 a2 a3 = some o) : bl_Fq ho md_X10_set σ o.2 := by
  obtain ⟨σ0, hz⟩ : ∃ z, z = σ := ⟨_, rfl⟩
  suffices hgo : bl_Fq ho md_X10_set σ0 o.2 by rw [hz] at hgo; exact hgo
  have qσ : bl_Fq ho md_X10_set σ0 σ := by rw [hz]; exact ⟨hw, hh, fun _ _ => ⟨rfl, rfl, rfl⟩⟩
  unfold f_X10_set at hf
  obtain ⟨r8, σ9, h10, hf⟩ := bl_bd_at hf
  have qσ9 := bl_Fq_call qσ (fr_X10_isClass σ a0 a1 _ qσ.1 qσ.2.1 ha0.1 h10) (by decide)
  rcases bl_if_at hf with hf | hf
  · rw [← Option.some.inj hf]
    exact qσ9
  · obtain ⟨r12, σ13, h14, hf⟩ := bl_bd_at hf
    have qσ13 := bl_Fq_call qσ9 (fr_X10_in σ9 (Int32.toInt64 a2) 0 4 _ qσ9.1 qσ9.2.1  h14) (by decide)
    rcases bl_if_at hf with hf | hf
    · rw [← Option.some.inj hf]
      exact qσ13
    · rcases bl_if_at hf with hf | hf
      · exact gw_X10_set_50  σ13 a0 a1 a2 a3 999 qσ13 ha0 hf
      · rcases bl_if_at hf with hf | hf
        · exact gw_X10_set_50  σ13 a0 a1 a2 a3 99 qσ13 ha0 hf
        · have h18 := bl_Fq_g qσ13 ha0 (k := 1) rfl (by decide)
          exact gw_X10_set_50  σ13 a0 a1 a2 a3 ((bl_I σ13 (bl_R σ13 a0 1) 0) - 1) qσ13 ha0 hf
def md_X10_sort : List (Nat × Nat) := [(10, 28), (20, 167), (20, 2004)]
set_option maxRecDepth 100000 in
theorem gw_X10_sort_34 {ho : Nat → Bool} {σ0 : bl_St} {out : Int32 × bl_St} : ∀ (σ : bl_St) (v0 : Nat) (v1 : Int32) (v2 : Int32) (v3 : Int32) (s0 : Int64) (s1 : Int64) (s2 : Int64), bl_Fq ho md_X10_sort σ0 σ → (bl_sh[v0]? = some (10, 28) ∧ ho v0 = true) → (b_X10_sort_34 ) σ v0 v1 v2 v3 s0 s1 s2 = some out → bl_Fq ho md_X10_sort σ0 out.2 := by
  intro σ v0 v1 v2 v3 s0 s1 s2 qσ hv0 hf
  unfold b_X10_sort_34 at hf
  obtain ⟨r1, σ2, h3, hf⟩ := bl_bd_at hf
  have qσ2 := bl_Fq_call qσ (fr_X10_in σ s2 s1 s0 _ qσ.1 qσ.2.1  h3) (by decide)
  rcases bl_if_at hf with hf | hf
  · rw [← Option.some.inj hf]
    exact qσ2
  · obtain ⟨r5, σ6, h7, hf⟩ := bl_bd_at hf
    have qσ6 := bl_Fq_call qσ2 (fr_X10_becomes σ2 v0 ((45 + (2 * v1)) + v2) v3 _ qσ2.1 qσ2.2.1 hv0 h7) (by decide)
    rw [← Option.some.inj hf]
    exact qσ6
set_option maxRecDepth 100000 in
theorem fr_X10_sort {ho : Nat → Bool} (σ : bl_St) (a0 : Nat) (a1 : Int32) (a2 : Int32) (a3 : Int32) (o : Int32 × bl_St) (hw : bl_WT σ) (hh : bl_WH ho σ) (ha0 : bl_sh[a0]? = some (10, 28) ∧ ho a0 = true) (hf : f_X10_sort σ a0 a1 a2 a3 = some o) : bl_Fq ho md_X10_sort σ o.2 := by
  obtain ⟨σ0, hz⟩ : ∃ z, z = σ := ⟨_, rfl⟩
  suffices hgo : bl_Fq ho md_X10_sort σ0 o.2 by rw [hz] at hgo; exact hgo
  have qσ : bl_Fq ho md_X10_sort σ0 σ := by rw [hz]; exact ⟨hw, hh, fun _ _ => ⟨rfl, rfl, rfl⟩⟩
  unfold f_X10_sort at hf
  obtain ⟨r8, σ9, h10, hf⟩ := bl_bd_at hf
  have qσ9 := bl_Fq_call qσ (fr_X10_isSort σ a0 a1 _ qσ.1 qσ.2.1 ha0.1 h10) (by decide)
  rcases bl_if_at hf with hf | hf
  · rw [← Option.some.inj hf]
    exact qσ9
  · obtain ⟨r12, σ13, h14, hf⟩ := bl_bd_at hf
    have qσ13 := bl_Fq_call qσ9 (fr_X10_in σ9 (Int32.toInt64 a2) 0 1 _ qσ9.1 qσ9.2.1  h14) (by decide)
    rcases bl_if_at hf with hf | hf
    · rw [← Option.some.inj hf]
      exact qσ13
    · rcases bl_if_at hf with hf | hf
      · exact gw_X10_sort_34  σ13 a0 a1 a2 a3 999 1 (Int32.toInt64 a3) qσ13 ha0 hf
      · exact gw_X10_sort_34  σ13 a0 a1 a2 a3 9 1 (Int32.toInt64 a3) qσ13 ha0 hf
def md_X10_isRule : List (Nat × Nat) := []
set_option maxRecDepth 100000 in
theorem fr_X10_isRule {ho : Nat → Bool} (σ : bl_St) (a0 : Int32) (a1 : Int32) (o : Int32 × bl_St) (hw : bl_WT σ) (hh : bl_WH ho σ) (hf : f_X10_isRule σ a0 a1 = some o) : bl_Fq ho md_X10_isRule σ o.2 := by
  obtain ⟨σ0, hz⟩ : ∃ z, z = σ := ⟨_, rfl⟩
  suffices hgo : bl_Fq ho md_X10_isRule σ0 o.2 by rw [hz] at hgo; exact hgo
  have qσ : bl_Fq ho md_X10_isRule σ0 σ := by rw [hz]; exact ⟨hw, hh, fun _ _ => ⟨rfl, rfl, rfl⟩⟩
  unfold f_X10_isRule at hf
  rcases bl_if_at hf with hf | hf
  · obtain ⟨r12, σ13, h14, hf⟩ := bl_bd_at hf
    have qσ13 := bl_Fq_call qσ (fr_X10_in σ (Int32.toInt64 a1) 1 3 _ qσ.1 qσ.2.1  h14) (by decide)
    obtain ⟨-, hf⟩ := bl_gd_at hf
    rw [← Option.some.inj hf]
    exact qσ13
  · rcases bl_if_at hf with hf | hf
    · obtain ⟨r8, σ9, h10, hf⟩ := bl_bd_at hf
      have qσ9 := bl_Fq_call qσ (fr_X10_in σ (Int32.toInt64 a1) 0 12 _ qσ.1 qσ.2.1  h10) (by decide)
      obtain ⟨-, hf⟩ := bl_gd_at hf
      rw [← Option.some.inj hf]
      exact qσ9
    · rcases bl_if_at hf with hf | hf
      · obtain ⟨r4, σ5, h6, hf⟩ := bl_bd_at hf
        have qσ5 := bl_Fq_call qσ (fr_X10_in σ (Int32.toInt64 a1) 0 99 _ qσ.1 qσ.2.1  h6) (by decide)
        rcases bl_if_at hf with hf | hf
        · rw [← Option.some.inj hf]
          exact qσ5
        · rw [← Option.some.inj hf]
          exact qσ5
      · rw [← Option.some.inj hf]
        exact qσ
def md_X10_rule : List (Nat × Nat) := [(10, 28), (20, 167), (20, 2004)]
set_option maxRecDepth 100000 in
theorem gw_X10_rule_25 {ho : Nat → Bool} {σ0 : bl_St} {out : Int32 × bl_St} : ∀ (σ : bl_St) (v0 : Nat) (v1 : Int32) (v2 : Int32), bl_Fq ho md_X10_rule σ0 σ → (bl_sh[v0]? = some (10, 28) ∧ ho v0 = true) → (b_X10_rule_25 ) σ v0 v1 v2 = some out → bl_Fq ho md_X10_rule σ0 out.2 := by
  intro σ v0 v1 v2 qσ hv0 hf
  unfold b_X10_rule_25 at hf
  obtain ⟨r1, σ2, h3, hf⟩ := bl_bd_at hf
  have qσ2 := bl_Fq_call qσ (fr_X10_becomes σ v0 (2 + v1) v2 _ qσ.1 qσ.2.1 hv0 h3) (by decide)
  rw [← Option.some.inj hf]
  exact qσ2
set_option maxRecDepth 100000 in
theorem fr_X10_rule {ho : Nat → Bool} (σ : bl_St) (a0 : Nat) (a1 : Int32) (a2 : Int32) (o : Int32 × bl_St) (hw : bl_WT σ) (hh : bl_WH ho σ) (ha0 : bl_sh[a0]? = some (10, 28) ∧ ho a0 = true) (hf : f_X10_rule σ a0 a1 a2 = some o) : bl_Fq ho md_X10_rule σ o.2 := by
  obtain ⟨σ0, hz⟩ : ∃ z, z = σ := ⟨_, rfl⟩
  suffices hgo : bl_Fq ho md_X10_rule σ0 o.2 by rw [hz] at hgo; exact hgo
  have qσ : bl_Fq ho md_X10_rule σ0 σ := by rw [hz]; exact ⟨hw, hh, fun _ _ => ⟨rfl, rfl, rfl⟩⟩
  unfold f_X10_rule at hf
  obtain ⟨r4, σ5, h6, hf⟩ := bl_bd_at hf
  have qσ5 := bl_Fq_call qσ (fr_X10_isRule σ a1 a2 _ qσ.1 qσ.2.1  h6) (by decide)
  rcases bl_if_at hf with hf | hf
  · rw [← Option.some.inj hf]
    exact qσ5
  · rcases bl_if_at hf with hf | hf
    · have h9 := bl_Fq_g qσ5 ha0 (k := 1) rfl (by decide)
      rcases bl_if_at hf with hf | hf
      · rw [← Option.some.inj hf]
        exact qσ5
      · exact gw_X10_rule_25  σ5 a0 a1 a2 qσ5 ha0 hf
    · exact gw_X10_rule_25  σ5 a0 a1 a2 qσ5 ha0 hf
