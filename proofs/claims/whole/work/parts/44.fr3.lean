def md_X10_rebate : List (Nat × Nat) := [(10, 28), (21, 42), (21, 168), (23, 168)]
set_option maxRecDepth 100000 in
theorem gw_X10_rebate_43 {ho : Nat → Bool} {σ0 : bl_St} {out : Int32 × bl_St} (k43 : bl_St → Nat → Int32 → Int32 → Int32 → Int64 → Int32 → Option (Int32 × bl_St)) (gk43 : ∀ (σ : bl_St) (v0 : Nat) (v1 : Int32) (v2 : Int32) (v3 : Int32) (v4 : Int64) (v6 : Int32), bl_Fq ho md_X10_rebate σ0 σ → (bl_sh[v0]? = some (10, 28) ∧ ho v0 = true) → k43 σ v0 v1 v2 v3 v4 v6 = some out → bl_Fq ho md_X10_rebate σ0 out.2) : ∀ (σ : bl_St) (v0 : Nat) (v1 : Int32) (v2 : Int32) (v3 : Int32) (v4 : Int64) (v6 : Int32), bl_Fq ho md_X10_rebate σ0 σ → (bl_sh[v0]? = some (10, 28) ∧ ho v0 = true) → (b_X10_rebate_43 k43) σ v0 v1 v2 v3 v4 v6 = some out → bl_Fq ho md_X10_rebate σ0 out.2 := by
  intro σ v0 v1 v2 v3 v4 v6 qσ hv0 hf
  unfold b_X10_rebate_43 at hf
  rcases bl_if_at hf with hf | hf
  · rw [← Option.some.inj hf]
    exact qσ
  · obtain ⟨r2, σ3, h4, hf⟩ := bl_bd_at hf
    have qσ3 := bl_Fq_call qσ (fr_X10_joinedCost σ v0 v1 v2 v3 v6 _ qσ.1 qσ.2.1 hv0 h4) (by decide)
    rcases bl_if_at hf with hf | hf
    · obtain ⟨x6, e7⟩ : ∃ z : Int32, z = v6 + 1 := ⟨_, rfl⟩
      have hf := bl_let_at e7 hf
      exact gk43 σ3 v0 v1 v2 v3 v4 x6 qσ3 hv0 hf
    · rw [← Option.some.inj hf]
      exact qσ3
theorem gl_X10_rebate_43 {ho : Nat → Bool} {σ0 : bl_St} {out : Int32 × bl_St} (n : Nat) : ∀ (σ : bl_St) (v0 : Nat) (v1 : Int32) (v2 : Int32) (v3 : Int32) (v4 : Int64) (v6 : Int32), bl_Fq ho md_X10_rebate σ0 σ → (bl_sh[v0]? = some (10, 28) ∧ ho v0 = true) → (bl_fx (fun _ _ _ _ _ _ _ => none) (b_X10_rebate_43 ) n) σ v0 v1 v2 v3 v4 v6 = some out → bl_Fq ho md_X10_rebate σ0 out.2 := by
  induction n with
  | zero =>
    intro σ v0 v1 v2 v3 v4 v6 qσ hv0 hf
    cases hf
  | succ n ih => exact gw_X10_rebate_43  _ ih
set_option maxRecDepth 100000 in
theorem fr_X10_rebate {ho : Nat → Bool} (σ : bl_St) (a0 : Nat) (a1 : Int32) (a2 : Int32) (a3 : Int32) (o : Int32 × bl_St) (hw : bl_WT σ) (hh : bl_WH ho σ) (ha0 : bl_sh[a0]? = some (10, 28) ∧ ho a0 = true) (hf : f_X10_rebate σ a0 a1 a2 a3 = some o) : bl_Fq ho md_X10_rebate σ o.2 := by
  obtain ⟨σ0, hz⟩ : ∃ z, z = σ := ⟨_, rfl⟩
  suffices hgo : bl_Fq ho md_X10_rebate σ0 o.2 by rw [hz] at hgo; exact hgo
  have qσ : bl_Fq ho md_X10_rebate σ0 σ := by rw [hz]; exact ⟨hw, hh, fun _ _ => ⟨rfl, rfl, rfl⟩⟩
  unfold f_X10_rebate at hf
  obtain ⟨r8, σ9, h10, hf⟩ := bl_bd_at hf
  have qσ9 := bl_Fq_call qσ (fr_X10_areYears σ a1 _ qσ.1 qσ.2.1  h10) (by decide)
  rcases bl_if_at hf with hf | hf
  · rw [← Option.some.inj hf]
    exact qσ9
  · obtain ⟨r12, σ13, h14, hf⟩ := bl_bd_at hf
    have qσ13 := bl_Fq_call qσ9 (fr_X10_isClass σ9 a0 a2 _ qσ9.1 qσ9.2.1 ha0.1 h14) (by decide)
    rcases bl_if_at hf with hf | hf
    · rw [← Option.some.inj hf]
      exact qσ13
    · obtain ⟨r16, σ17, h18, hf⟩ := bl_bd_at hf
      have qσ17 := bl_Fq_call qσ13 (fr_X10_isClass σ13 a0 a3 _ qσ13.1 qσ13.2.1 ha0.1 h18) (by decide)
      rcases bl_if_at hf with hf | hf
      · rw [← Option.some.inj hf]
        exact qσ17
      · obtain ⟨r20, σ21, h22, hf⟩ := bl_bd_at hf
        have qσ21 := bl_Fq_call qσ17 (fr_X10_bareCost σ17 a0 a1 a2 _ qσ17.1 qσ17.2.1 ha0 h22) (by decide)
        obtain ⟨r23, σ24, h25, hf⟩ := bl_bd_at hf
        have qσ24 := bl_Fq_call qσ21 (fr_X10_bareCost σ21 a0 a1 a3 _ qσ21.1 qσ21.2.1 ha0 h25) (by decide)
        obtain ⟨x26, e27⟩ : ∃ z, z = (r20 + r23) := ⟨_, rfl⟩
        have hf := bl_let_at e27 hf
        exact gl_X10_rebate_43  bl_fu σ24 a0 a1 a2 a3 x26 0 qσ24 ha0 hf
def md_X10_advice : List (Nat × Nat) := [(10, 28), (21, 42), (21, 168), (23, 168)]
set_option maxRecDepth 100000 in
theorem fr_X10_advice {ho : Nat → Bool} (σ : bl_St) (a0 : Nat) (a1 : Int32) (a2 : Int32) (o : Int32 × bl_St) (hw : bl_WT σ) (hh : bl_WH ho σ) (ha0 : bl_sh[a0]? = some (10, 28) ∧ ho a0 = true) (hf : f_X10_advice σ a0 a1 a2 = some o) : bl_Fq ho md_X10_advice σ o.2 := by
  obtain ⟨σ0, hz⟩ : ∃ z, z = σ := ⟨_, rfl⟩
  suffices hgo : bl_Fq ho md_X10_advice σ0 o.2 by rw [hz] at hgo; exact hgo
  have qσ : bl_Fq ho md_X10_advice σ0 σ := by rw [hz]; exact ⟨hw, hh, fun _ _ => ⟨rfl, rfl, rfl⟩⟩
  unfold f_X10_advice at hf
  have h1 := bl_Fq_g qσ ha0 (k := 1) rfl (by decide)
  rcases bl_if_at hf with hf | hf
  · rw [← Option.some.inj hf]
    exact qσ
  · obtain ⟨r3, σ4, h5, hf⟩ := bl_bd_at hf
    have qσ4 := bl_Fq_call qσ (fr_X10_in σ (Int32.toInt64 a1) 1 20 _ qσ.1 qσ.2.1  h5) (by decide)
    rcases bl_if_at hf with hf | hf
    · rw [← Option.some.inj hf]
      exact qσ4
    · obtain ⟨r7, σ8, h9, hf⟩ := bl_bd_at hf
      have qσ8 := bl_Fq_call qσ4 (fr_X10_isSort σ4 a0 a2 _ qσ4.1 qσ4.2.1 ha0.1 h9) (by decide)
      rcases bl_if_at hf with hf | hf
      · rw [← Option.some.inj hf]
        exact qσ8
      · obtain ⟨r11, σ12, h13, hf⟩ := bl_bd_at hf
        have qσ12 := bl_Fq_call qσ8 (fr_X10_lays σ8 a0 a1 1 0 0 _ qσ8.1 qσ8.2.1 ha0 h13) (by decide)
        have h14 := bl_Fq_g qσ12 ha0 (k := 1) rfl (by decide)
        obtain ⟨r15, σ16, h17, hf⟩ := bl_bd_at hf
        have qσ16 := bl_Fq_call qσ12 (fr_X10_laysChances σ12 a0 a1 (bl_I σ12 (bl_R σ12 a0 1) 55) _ qσ12.1 qσ12.2.1 ha0 h17) (by decide)
        have h18 := bl_Fq_g qσ16 ha0 (k := 1) rfl (by decide)
        obtain ⟨r19, σ20, h21, hf⟩ := bl_bd_at hf
        have qσ20 := bl_Fq_call qσ16 (fr_X10_countedNow σ16 a0 _ qσ16.1 qσ16.2.1 ha0.1 h21) (by decide)
        have h22 := bl_Fq_g qσ20 ha0 (k := 1) rfl (by decide)
        obtain ⟨r23, σ24, h25, hf⟩ := bl_bd_at hf
        have qσ24 := bl_Fq_call qσ20 (fr_X10_gainOf σ20 a0 a2 (bl_I σ16 (bl_R σ16 a0 1) 57) r19 (bl_I σ20 (bl_R σ20 a0 1) 59) _ qσ20.1 qσ20.2.1 ha0.1 h25) (by decide)
        rcases bl_if_at hf with hf | hf
        · rw [← Option.some.inj hf]
          exact qσ24
        · rw [← Option.some.inj hf]
          exact qσ24
def md_X10_rest : List (Nat × Nat) := []
set_option maxRecDepth 100000 in
theorem gw_X10_rest_14 {ho : Nat → Bool} {σ0 : bl_St} {out : Int32 × bl_St} (k14 : bl_St → Nat → Int32 → Int32 → Option (Int32 × bl_St)) (gk14 : ∀ (σ : bl_St) (v0 : Nat) (v2 : Int32) (v3 : Int32), bl_Fq ho md_X10_rest σ0 σ → (bl_sh[v0]? = some (10, 28) ∧ True) → k14 σ v0 v2 v3 = some out → bl_Fq ho md_X10_rest σ0 out.2) : ∀ (σ : bl_St) (v0 : Nat) (v2 : Int32) (v3 : Int32), bl_Fq ho md_X10_rest σ0 σ → (bl_sh[v0]? = some (10, 28) ∧ True) → (b_X10_rest_14 k14) σ v0 v2 v3 = some out → bl_Fq ho md_X10_rest σ0 out.2 := by
  intro σ v0 v2 v3 qσ hv0 hf
  unfold b_X10_rest_14 at hf
  rcases bl_if_at hf with hf | hf
  · obtain ⟨x2, e3⟩ : ∃ z, z = (v2 ||| (1 <<< (v3 &&& 31))) := ⟨_, rfl⟩
    have hf := bl_let_at e3 hf
    obtain ⟨r4, σ5, h6, hf⟩ := bl_bd_at hf
    have qσ5 := bl_Fq_call qσ (fr_X10_behind σ v0 v3 0 _ qσ.1 qσ.2.1 hv0.1 h6) (by decide)
    exact gk14 σ5 v0 x2 r4 qσ5 hv0 hf
  · rw [← Option.some.inj hf]
    exact qσ
theorem gl_X10_rest_14 {ho : Nat → Bool} {σ0 : bl_St} {out : Int32 × bl_St} (n : Nat) : ∀ (σ : bl_St) (v0 : Nat) (v2 : Int32) (v3 : Int32), bl_Fq ho md_X10_rest σ0 σ → (bl_sh[v0]? = some (10, 28) ∧ True) → (bl_fx (fun _ _ _ _ => none) (b_X10_rest_14 ) n) σ v0 v2 v3 = some out → bl_Fq ho md_X10_rest σ0 out.2 := by
  induction n with
  | zero =>
    intro σ v0 v2 v3 qσ hv0 hf
    cases hf
  | succ n ih => exact gw_X10_rest_14  _ ih
set_option maxRecDepth 100000 in
theorem fr_X10_rest {ho : Nat → Bool} (σ : bl_St) (a0 : Nat) (a1 : Int32) (o : Int32 × bl_St) (hw : bl_WT σ) (hh : bl_WH ho σ) (ha0 : bl_sh[a0]? = some (10, 28)) (hf : f_X10_rest σ a0 a1 = some o) : bl_Fq ho md_X10_rest σ o.2 := by
  obtain ⟨σ0, hz⟩ : ∃ z, z = σ := ⟨_, rfl⟩
  suffices hgo : bl_Fq ho md_X10_rest σ0 o.2 by rw [hz] at hgo; exact hgo
  have qσ : bl_Fq ho md_X10_rest σ0 σ := by rw [hz]; exact ⟨hw, hh, fun _ _ => ⟨rfl, rfl, rfl⟩⟩
  have ha0 := And.intro ha0 trivial
  unfold f_X10_rest at hf
  obtain ⟨r7, σ8, h9, hf⟩ := bl_bd_at hf
  have qσ8 := bl_Fq_call qσ (fr_X10_isClass σ a0 a1 _ qσ.1 qσ.2.1 ha0.1 h9) (by decide)
  rcases bl_if_at hf with hf | hf
  · rw [← Option.some.inj hf]
    exact qσ8
  · exact gl_X10_rest_14  bl_fu σ8 a0 0 a1 qσ8 ha0 hf
def md_X10_were : List (Nat × Nat) := [(10, 28), (20, 167), (21, 42), (21, 168), (23, 168)]
set_option maxRecDepth 100000 in
theorem fr_X10_were {ho : Nat → Bool} (σ : bl_St) (a0 : Nat) (a1 : Int32) (a2 : Int32) (a3 : Int32) (a4 : Int32) (o : Int64 × bl_St) (hw : bl_WT σ) (hh : bl_WH ho σ) (ha0 : bl_sh[a0]? = some (10, 28) ∧ ho a0 = true) (hf : f_X10_were σ a0 a1 a2 a3 a4 = some o) : bl_Fq ho md_X10_were σ o.2 := by
  obtain ⟨σ0, hz⟩ : ∃ z, z = σ := ⟨_, rfl⟩
  suffices hgo : bl_Fq ho md_X10_were σ0 o.2 by rw [hz] at hgo; exact hgo
  have qσ : bl_Fq ho md_X10_were σ0 σ := by rw [hz]; exact ⟨hw, hh, fun _ _ => ⟨rfl, rfl, rfl⟩⟩
  unfold f_X10_were at hf
  obtain ⟨r1, σ2, h3, hf⟩ := bl_bd_at hf
  have qσ2 := bl_Fq_call qσ (fr_X10_isRule σ a1 a2 _ qσ.1 qσ.2.1  h3) (by decide)
  rcases bl_if_at hf with hf | hf
  · rw [← Option.some.inj hf]
    exact qσ2
  · obtain ⟨r5, σ6, h7, hf⟩ := bl_bd_at hf
    have qσ6 := bl_Fq_call qσ2 (fr_X10_areYears σ2 a3 _ qσ2.1 qσ2.2.1  h7) (by decide)
    rcases bl_if_at hf with hf | hf
    · rw [← Option.some.inj hf]
      exact qσ6
    · obtain ⟨r9, σ10, h11, hf⟩ := bl_bd_at hf
      have qσ10 := bl_Fq_call qσ6 (fr_X10_isClass σ6 a0 a4 _ qσ6.1 qσ6.2.1 ha0.1 h11) (by decide)
      rcases bl_if_at hf with hf | hf
      · rw [← Option.some.inj hf]
        exact qσ10
      · have h13 := bl_Fq_g qσ10 ha0 (k := 1) rfl (by decide)
        obtain ⟨-, hf⟩ := bl_gd_at hf
        obtain ⟨x15, e16⟩ : ∃ z, z = (bl_I σ10 (bl_R σ10 a0 1) (Int32.toNatClampNeg (2 + a1))) := ⟨_, rfl⟩
        have hf := bl_let_at e16 hf
        have h17 := bl_Fq_g qσ10 ha0 (k := 1) rfl (by decide)
        obtain ⟨-, hf⟩ := bl_gd_at hf
        obtain ⟨σ19, e20⟩ : ∃ z : bl_St, z = bl_pI σ10 (bl_R σ10 a0 1) (Int32.toNatClampNeg (2 + a1)) a2 := ⟨_, rfl⟩
        have hf := bl_let_at e20 hf
        have qσ19 : bl_Fq ho md_X10_were σ0 σ19 := by rw [e20]; exact bl_Fq_I qσ10 (bl_al_in h17.1 (by decide) h17.2)
        obtain ⟨r21, σ22, h23, hf⟩ := bl_bd_at hf
        have qσ22 := bl_Fq_call qσ19 (fr_X10_bestCost σ19 a0 a3 a4 _ qσ19.1 qσ19.2.1 ha0 h23) (by decide)
        have h24 := bl_Fq_g qσ22 ha0 (k := 1) rfl (by decide)
        obtain ⟨-, hf⟩ := bl_gd_at hf
        obtain ⟨σ26, e27⟩ : ∃ z : bl_St, z = bl_pI σ22 (bl_R σ22 a0 1) (Int32.toNatClampNeg (2 + a1)) x15 := ⟨_, rfl⟩
        have hf := bl_let_at e27 hf
        have qσ26 : bl_Fq ho md_X10_were σ0 σ26 := by rw [e27]; exact bl_Fq_I qσ22 (bl_al_in h24.1 (by decide) h24.2)
        rw [← Option.some.inj hf]
        exact qσ26
def md_X10_lacking : List (Nat × Nat) := [(10, 28), (20, 167), (21, 42), (21, 168), (23, 168)]
set_option maxRecDepth 100000 in
theorem fr_X10_lacking {ho : Nat → Bool} (σ : bl_St) (a0 : Nat) (a1 : Int32) (a2 : Int32) (a3 : Int32) (o : Int64 × bl_St) (hw : bl_WT σ) (hh : bl_WH ho σ) (ha0 : bl_sh[a0]? = some (10, 28) ∧ ho a0 = true) (hf : f_X10_lacking σ a0 a1 a2 a3 = some o) : bl_Fq ho md_X10_lacking σ o.2 := by
  obtain ⟨σ0, hz⟩ : ∃ z, z = σ := ⟨_, rfl⟩
  suffices hgo : bl_Fq ho md_X10_lacking σ0 o.2 by rw [hz] at hgo; exact hgo
  have qσ : bl_Fq ho md_X10_lacking σ0 σ := by rw [hz]; exact ⟨hw, hh, fun _ _ => ⟨rfl, rfl, rfl⟩⟩
  unfold f_X10_lacking at hf
  obtain ⟨r1, σ2, h3, hf⟩ := bl_bd_at hf
  have qσ2 := bl_Fq_call qσ (fr_X10_isSort σ a0 a1 _ qσ.1 qσ.2.1 ha0.1 h3) (by decide)
  rcases bl_if_at hf with hf | hf
  · rw [← Option.some.inj hf]
    exact qσ2
  · have h5 := bl_Fq_g qσ2 ha0 (k := 1) rfl (by decide)
    rcases bl_if_at hf with hf | hf
    · rw [← Option.some.inj hf]
      exact qσ2
    · obtain ⟨r7, σ8, h9, hf⟩ := bl_bd_at hf
      have qσ8 := bl_Fq_call qσ2 (fr_X10_areYears σ2 a2 _ qσ2.1 qσ2.2.1  h9) (by decide)
      rcases bl_if_at hf with hf | hf
      · rw [← Option.some.inj hf]
        exact qσ8
      · obtain ⟨r11, σ12, h13, hf⟩ := bl_bd_at hf
        have qσ12 := bl_Fq_call qσ8 (fr_X10_isClass σ8 a0 a3 _ qσ8.1 qσ8.2.1 ha0.1 h13) (by decide)
        rcases bl_if_at hf with hf | hf
        · rw [← Option.some.inj hf]
          exact qσ12
        · have h15 := bl_Fq_g qσ12 ha0 (k := 1) rfl (by decide)
          have h16 := bl_Fq_g qσ12 ha0 (k := 3) rfl (by decide)
          obtain ⟨r17, σ18, h19, hf⟩ := bl_bd_at hf
          have qσ18 := bl_Fq_call qσ12 (fr_X10_copies σ12 (bl_R σ12 a0 1) (bl_R σ12 a0 3) _ qσ12.1 qσ12.2.1 h15.1 h16 h19) (by decide)
          obtain ⟨r20, σ21, h22, hf⟩ := bl_bd_at hf
          have qσ21 := bl_Fq_call qσ18 (fr_X10_takesOut σ18 a0 a1 _ qσ18.1 qσ18.2.1 ha0 h22) (by decide)
          obtain ⟨r23, σ24, h25, hf⟩ := bl_bd_at hf
          have qσ24 := bl_Fq_call qσ21 (fr_X10_bestCost σ21 a0 a2 a3 _ qσ21.1 qσ21.2.1 ha0 h25) (by decide)
          have h26 := bl_Fq_g qσ24 ha0 (k := 3) rfl (by decide)
          have h27 := bl_Fq_g qσ24 ha0 (k := 1) rfl (by decide)
          obtain ⟨r28, σ29, h30, hf⟩ := bl_bd_at hf
          have qσ29 := bl_Fq_call qσ24 (fr_X10_copies σ24 (bl_R σ24 a0 3) (bl_R σ24 a0 1) _ qσ24.1 qσ24.2.1 h26.1 h27 h30) (by decide)
          rw [← Option.some.inj hf]
          exact qσ29
def md_X10_oddsFor : List (Nat × Nat) := [(10, 28), (20, 167), (21, 42), (21, 168), (23, 168)]
set_option maxRecDepth 100000 in
theorem gw_X10_oddsFor_77 {ho : Nat → Bool} {σ0 : bl_St} {out : Int32 × bl_St} : ∀ (σ : bl_St) (v0 : Nat) (v5 : Int32) (v6 : Int32), bl_Fq ho md_X10_oddsFor σ0 σ → (bl_sh[v0]? = some (10, 28) ∧ ho v0 = true) → (b_X10_oddsFor_77 ) σ v0 v5 v6 = some out → bl_Fq ho md_X10_oddsFor σ0 out.2 := by
  intro σ v0 v5 v6 qσ hv0 hf
  unfold b_X10_oddsFor_77 at hf
  have h1 := bl_Fq_g qσ hv0 (k := 1) rfl (by decide)
  obtain ⟨σ2, e3⟩ : ∃ z : bl_St, z = bl_pI σ (bl_R σ v0 1) 3 v5 := ⟨_, rfl⟩
  have hf := bl_let_at e3 hf
  have qσ2 : bl_Fq ho md_X10_oddsFor σ0 σ2 := by rw [e3]; exact bl_Fq_I qσ (bl_al_in h1.1 (by decide) h1.2)
  rw [← Option.some.inj hf]
  exact qσ2
set_option maxRecDepth 100000 in
theorem gw_X10_oddsFor_71 {ho : Nat → Bool} {σ0 : bl_St} {out : Int32 × bl_St} (k33 : bl_St → Nat → Int64 → Int32 → Int32 → Int32 → Int32 → Int32 → Option (Int32 × bl_St)) (gk33 : ∀ (σ : bl_St) (v0 : Nat) (v1 : Int64) (v3 : Int32) (v4 : Int32) (v5 : Int32) (v6 : Int32) (v7 : Int32), bl_Fq ho md_X10_oddsFor σ0 σ → (bl_sh[v0]? = some (10, 28) ∧ ho v0 = true) → k33 σ v0 v1 v3 v4 v5 v6 v7 = some out → bl_Fq ho md_X10_oddsFor σ0 out.2) : ∀ (σ : bl_St) (v0 : Nat) (v1 : Int64) (v3 : Int32) (v4 : Int32) (v5 : Int32) (v6 : Int32) (v7 : Int32), bl_Fq ho md_X10_oddsFor σ0 σ → (bl_sh[v0]? = some (10, 28) ∧ ho v0 = true) → (b_X10_oddsFor_71 k33) σ v0 v1 v3 v4 v5 v6 v7 = some out → bl_Fq ho md_X10_oddsFor σ0 out.2 := by
  intro σ v0 v1 v3 v4 v5 v6 v7 qσ hv0 hf
  unfold b_X10_oddsFor_71 at hf
  obtain ⟨x4, e5⟩ : ∃ z : Int32, z = v7 + 1 := ⟨_, rfl⟩
  have hf := bl_let_at e5 hf
  exact gk33 σ v0 v1 v3 v4 v5 v6 x4 qσ hv0 hf
set_option maxRecDepth 100000 in
theorem gw_X10_oddsFor_33 {ho : Nat → Bool} {σ0 : bl_St} {out : Int32 × bl_St} (k33 : bl_St → Nat → Int64 → Int32 → Int32 → Int32 → Int32 → Int32 → Option (Int32 × bl_St)) (gk33 : ∀ (σ : bl_St) (v0 : Nat) (v1 : Int64) (v3 : Int32) (v4 : Int32) (v5 : Int32) (v6 : Int32) (v7 : Int32), bl_Fq ho md_X10_oddsFor σ0 σ → (bl_sh[v0]? = some (10, 28) ∧ ho v0 = true) → k33 σ v0 v1 v3 v4 v5 v6 v7 = some out → bl_Fq ho md_X10_oddsFor σ0 out.2) : ∀ (σ : bl_St) (v0 : Nat) (v1 : Int64) (v3 : Int32) (v4 : Int32) (v5 : Int32) (v6 : Int32) (v7 : Int32), bl_Fq ho md_X10_oddsFor σ0 σ → (bl_sh[v0]? = some (10, 28) ∧ ho v0 = true) → (b_X10_oddsFor_33 k33) σ v0 v1 v3 v4 v5 v6 v7 = some out → bl_Fq ho md_X10_oddsFor σ0 out.2 := by
  intro σ v0 v1 v3 v4 v5 v6 v7 qσ hv0 hf
  unfold b_X10_oddsFor_33 at hf
  rcases bl_if_at hf with hf | hf
  · exact gw_X10_oddsFor_77  σ v0 v5 v6 qσ hv0 hf
  · rcases bl_if_at hf with hf | hf
    · have h8 := bl_Fq_g qσ hv0 (k := 1) rfl (by decide)
      obtain ⟨σ9, e10⟩ : ∃ z : bl_St, z = bl_pI σ (bl_R σ v0 1) 3 v7 := ⟨_, rfl⟩
      have hf := bl_let_at e10 hf
      have qσ9 : bl_Fq ho md_X10_oddsFor σ0 σ9 := by rw [e10]; exact bl_Fq_I qσ (bl_al_in h8.1 (by decide) h8.2)
      obtain ⟨r11, σ12, h13, hf⟩ := bl_bd_at hf
      have qσ12 := bl_Fq_call qσ9 (fr_X10_bestCost σ9 v0 v3 v4 _ qσ9.1 qσ9.2.1 hv0 h13) (by decide)
      rcases bl_if_at hf with hf | hf
      · exact gw_X10_oddsFor_71 k33 gk33 σ12 v0 v1 v3 v4 v5 v6 v7 qσ12 hv0 hf
      · exact gw_X10_oddsFor_71 k33 gk33 σ12 v0 v1 v3 v4 v5 v7 v7 qσ12 hv0 hf
    · exact gw_X10_oddsFor_77  σ v0 v5 v6 qσ hv0 hf
theorem gl_X10_oddsFor_33 {ho : Nat → Bool} {σ0 : bl_St} {out : Int32 × bl_St} (n : Nat) : ∀ (σ : bl_St) (v0 : Nat) (v1 : Int64) (v3 : Int32) (v4 : Int32) (v5 : Int32) (v6 : Int32) (v7 : Int32), bl_Fq ho md_X10_oddsFor σ0 σ → (bl_sh[v0]? = some (10, 28) ∧ ho v0 = true) → (bl_fx (fun _ _ _ _ _ _ _ _ => none) (b_X10_oddsFor_33 ) n) σ v0 v1 v3 v4 v5 v6 v7 = some out → bl_Fq ho md_X10_oddsFor σ0 out.2 := by
  induction n with
  | zero =>
    intro σ v0 v1 v3 v4 v5 v6 v7 qσ hv0 hf
    cases hf
  | succ n ih => exact gw_X10_oddsFor_33  _ ih
set_option maxRecDepth 100000 in
theorem fr_X10_oddsFor {ho : Nat → Bool} (σ : bl_St) (a0 : Nat) (a1 : Int64) (a3 : Int32) (a4 : Int32) (o : Int32 × bl_St) (hw : bl_WT σ) (hh : bl_WH ho σ) (ha0 : bl_sh[a0]? = some (10, 28) ∧ ho a0 = true) (hf : f_X10_oddsFor σ a0 a1 a3 a4 = some o) : bl_Fq ho md_X10_oddsFor σ o.2 := by
  obtain ⟨σ0, hz⟩ : ∃ z, z = σ := ⟨_, rfl⟩
  suffices hgo : bl_Fq ho md_X10_oddsFor σ0 o.2 by rw [hz] at hgo; exact hgo
  have qσ : bl_Fq ho md_X10_oddsFor σ0 σ := by rw [hz]; exact ⟨hw, hh, fun _ _ => ⟨rfl, rfl, rfl⟩⟩
  unfold f_X10_oddsFor at hf
  obtain ⟨r15, σ16, h17, hf⟩ := bl_bd_at hf
  have qσ16 := bl_Fq_call qσ (fr_X10_areYears σ a3 _ qσ.1 qσ.2.1  h17) (by decide)
  rcases bl_if_at hf with hf | hf
  · rw [← Option.some.inj hf]
    exact qσ16
  · obtain ⟨r19, σ20, h21, hf⟩ := bl_bd_at hf
    have qσ20 := bl_Fq_call qσ16 (fr_X10_isClass σ16 a0 a4 _ qσ16.1 qσ16.2.1 ha0.1 h21) (by decide)
    rcases bl_if_at hf with hf | hf
    · rw [← Option.some.inj hf]
      exact qσ20
    · have h23 := bl_Fq_g qσ20 ha0 (k := 1) rfl (by decide)
      obtain ⟨x24, e25⟩ : ∃ z, z = (bl_I σ20 (bl_R σ20 a0 1) 3) := ⟨_, rfl⟩
      have hf := bl_let_at e25 hf
      exact gl_X10_oddsFor_33  bl_fu σ20 a0 a1 a3 a4 x24 (-2) 0 qσ20 ha0 hf
def md_X10_bestOwn : List (Nat × Nat) := [(10, 28), (20, 167), (21, 42), (21, 168), (23, 168)]
set_option maxRecDepth 100000 in
theorem gw_X10_bestOwn_104 {ho : Nat → Bool} {σ0 : bl_St} {out : Int32 × bl_St} (k46 : bl_St → Nat → Int32 → Int32 → Int32 → Int32 → Int32 → Int64 → Int32 → Option (Int32 × bl_St)) (gk46 : ∀ (σ : bl_St) (v0 : Nat) (v1 : Int32) (v2 : Int32) (v3 : Int32) (v4 : Int32) (v5 : Int32) (v6 : Int64) (v8 : Int32), bl_Fq ho md_X10_bestOwn σ0 σ → (bl_sh[v0]? = some (10, 28) ∧ ho v0 = true) → k46 σ v0 v1 v2 v3 v4 v5 v6 v8 = some out → bl_Fq ho md_X10_bestOwn σ0 out.2) : ∀ (σ : bl_St) (v0 : Nat) (v1 : Int32) (v2 : Int32) (v3 : Int32) (v4 : Int32) (v5 : Int32) (v6 : Int64) (v8 : Int32), bl_Fq ho md_X10_bestOwn σ0 σ → (bl_sh[v0]? = some (10, 28) ∧ ho v0 = true) → (b_X10_bestOwn_104 k46) σ v0 v1 v2 v3 v4 v5 v6 v8 = some out → bl_Fq ho md_X10_bestOwn σ0 out.2 := by
  intro σ v0 v1 v2 v3 v4 v5 v6 v8 qσ hv0 hf
  unfold b_X10_bestOwn_104 at hf
  obtain ⟨x1, e2⟩ : ∃ z : Int32, z = v8 + 1 := ⟨_, rfl⟩
  have hf := bl_let_at e2 hf
  exact gk46 σ v0 v1 v2 v3 v4 v5 v6 x1 qσ hv0 hf
set_option maxRecDepth 100000 in
theorem gw_X10_bestOwn_96 {ho : Nat → Bool} {σ0 : bl_St} {out : Int32 × bl_St} (k46 : bl_St → Nat → Int32 → Int32 → Int32 → Int32 → Int32 → Int64 → Int32 → Option (Int32 × bl_St)) (gk46 : ∀ (σ : bl_St) (v0 : Nat) (v1 : Int32) (v2 : Int32) (v3 : Int32) (v4 : Int32) (v5 : Int32) (v6 : Int64) (v8 : Int32), bl_Fq ho md_X10_bestOwn σ0 σ → (bl_sh[v0]? = some (10, 28) ∧ ho v0 = true) → k46 σ v0 v1 v2 v3 v4 v5 v6 v8 = some out → bl_Fq ho md_X10_bestOwn σ0 out.2) : ∀ (σ : bl_St) (v0 : Nat) (v1 : Int32) (v2 : Int32) (v3 : Int32) (v4 : Int32) (v8 : Int32) (v9 : Int64), bl_Fq ho md_X10_bestOwn σ0 σ → (bl_sh[v0]? = some (10, 28) ∧ ho v0 = true) → (b_X10_bestOwn_96 k46) σ v0 v1 v2 v3 v4 v8 v9 = some out → bl_Fq ho md_X10_bestOwn σ0 out.2 := by
  intro σ v0 v1 v2 v3 v4 v8 v9 qσ hv0 hf
  unfold b_X10_bestOwn_96 at hf
  exact gw_X10_bestOwn_104 k46 gk46 σ v0 v1 v2 v3 v4 v8 v9 v8 qσ hv0 hf
set_option maxRecDepth 100000 in
theorem gw_X10_bestOwn_46 {ho : Nat → Bool} {σ0 : bl_St} {out : Int32 × bl_St} (k46 : bl_St → Nat → Int32 → Int32 → Int32 → Int32 → Int32 → Int64 → Int32 → Option (Int32 × bl_St)) (gk46 : ∀ (σ : bl_St) (v0 : Nat) (v1 : Int32) (v2 : Int32) (v3 : Int32) (v4 : Int32) (v5 : Int32) (v6 : Int64) (v8 : Int32), bl_Fq ho md_X10_bestOwn σ0 σ → (bl_sh[v0]? = some (10, 28) ∧ ho v0 = true) → k46 σ v0 v1 v2 v3 v4 v5 v6 v8 = some out → bl_Fq ho md_X10_bestOwn σ0 out.2) : ∀ (σ : bl_St) (v0 : Nat) (v1 : Int32) (v2 : Int32) (v3 : Int32) (v4 : Int32) (v5 : Int32) (v6 : Int64) (v8 : Int32), bl_Fq ho md_X10_bestOwn σ0 σ → (bl_sh[v0]? = some (10, 28) ∧ ho v0 = true) → (b_X10_bestOwn_46 k46) σ v0 v1 v2 v3 v4 v5 v6 v8 = some out → bl_Fq ho md_X10_bestOwn σ0 out.2 := by
  intro σ v0 v1 v2 v3 v4 v5 v6 v8 qσ hv0 hf
  unfold b_X10_bestOwn_46 at hf
  rcases bl_if_at hf with hf | hf
  · have h4 := bl_Fq_g qσ hv0 (k := 1) rfl (by decide)
    obtain ⟨σ5, e6⟩ : ∃ z : bl_St, z = bl_pI σ (bl_R σ v0 1) 4 v4 := ⟨_, rfl⟩
    have hf := bl_let_at e6 hf
    have qσ5 : bl_Fq ho md_X10_bestOwn σ0 σ5 := by rw [e6]; exact bl_Fq_I qσ (bl_al_in h4.1 (by decide) h4.2)
    rw [← Option.some.inj hf]
    exact qσ5
  · have h7 := bl_Fq_g qσ hv0 (k := 1) rfl (by decide)
    obtain ⟨σ8, e9⟩ : ∃ z : bl_St, z = bl_pI σ (bl_R σ v0 1) 4 v8 := ⟨_, rfl⟩
    have hf := bl_let_at e9 hf
    have qσ8 : bl_Fq ho md_X10_bestOwn σ0 σ8 := by rw [e9]; exact bl_Fq_I qσ (bl_al_in h7.1 (by decide) h7.2)
    obtain ⟨r10, σ11, h12, hf⟩ := bl_bd_at hf
    have qσ11 := bl_Fq_call qσ8 (fr_X10_bestCost σ8 v0 v2 v3 _ qσ8.1 qσ8.2.1 hv0 h12) (by decide)
    obtain ⟨x13, e14⟩ : ∃ z, z = (r10 - (((Int32.toInt64 v1) * (Int32.toInt64 v8)) * (Int32.toInt64 v2))) := ⟨_, rfl⟩
    have hf := bl_let_at e14 hf
    rcases bl_if_at hf with hf | hf
    · exact gw_X10_bestOwn_96 k46 gk46 σ11 v0 v1 v2 v3 v4 v8 x13 qσ11 hv0 hf
    · rcases bl_if_at hf with hf | hf
      · exact gw_X10_bestOwn_96 k46 gk46 σ11 v0 v1 v2 v3 v4 v8 x13 qσ11 hv0 hf
      · exact gw_X10_bestOwn_104 k46 gk46 σ11 v0 v1 v2 v3 v4 v5 v6 v8 qσ11 hv0 hf
theorem gl_X10_bestOwn_46 {ho : Nat → Bool} {σ0 : bl_St} {out : Int32 × bl_St} (n : Nat) : ∀ (σ : bl_St) (v0 : Nat) (v1 : Int32) (v2 : Int32) (v3 : Int32) (v4 : Int32) (v5 : Int32) (v6 : Int64) (v8 : Int32), bl_Fq ho md_X10_bestOwn σ0 σ → (bl_sh[v0]? = some (10, 28) ∧ ho v0 = true) → (bl_fx (fun _ _ _ _ _ _ _ _ _ => none) (b_X10_bestOwn_46 ) n) σ v0 v1 v2 v3 v4 v5 v6 v8 = some out → bl_Fq ho md_X10_bestOwn σ0 out.2 := by
  induction n with
  | zero =>
    intro σ v0 v1 v2 v3 v4 v5 v6 v8 qσ hv0 hf
    cases hf
  | succ n ih => exact gw_X10_bestOwn_46  _ ih
set_option maxRecDepth 100000 in
theorem fr_X10_bestOwn {ho : Nat → Bool} (σ : bl_St) (a0 : Nat) (a1 : Int32) (a2 : Int32) (a3 : Int32) (o : Int32 × bl_St) (hw : bl_WT σ) (hh : bl_WH ho σ) (ha0 : bl_sh[a0]? = some (10, 28) ∧ ho a0 = true) (hf : f_X10_bestOwn σ a0 a1 a2 a3 = some o) : bl_Fq ho md_X10_bestOwn σ o.2 := by
  obtain ⟨σ0, hz⟩ : ∃ z, z = σ := ⟨_, rfl⟩
  suffices hgo : bl_Fq ho md_X10_bestOwn σ0 o.2 by rw [hz] at hgo; exact hgo
  have qσ : bl_Fq ho md_X10_bestOwn σ0 σ := by rw [hz]; exact ⟨hw, hh, fun _ _ => ⟨rfl, rfl, rfl⟩⟩
  unfold f_X10_bestOwn at hf
  obtain ⟨r17, σ18, h19, hf⟩ := bl_bd_at hf
  have qσ18 := bl_Fq_call qσ (fr_X10_in σ (Int32.toInt64 a1) 0 9999 _ qσ.1 qσ.2.1  h19) (by decide)
  rcases bl_if_at hf with hf | hf
  · rw [← Option.some.inj hf]
    exact qσ18
  · obtain ⟨r21, σ22, h23, hf⟩ := bl_bd_at hf
    have qσ22 := bl_Fq_call qσ18 (fr_X10_areYears σ18 a2 _ qσ18.1 qσ18.2.1  h23) (by decide)
    rcases bl_if_at hf with hf | hf
    · rw [← Option.some.inj hf]
      exact qσ22
    · obtain ⟨r25, σ26, h27, hf⟩ := bl_bd_at hf
      have qσ26 := bl_Fq_call qσ22 (fr_X10_isClass σ22 a0 a3 _ qσ22.1 qσ22.2.1 ha0.1 h27) (by decide)
      rcases bl_if_at hf with hf | hf
      · rw [← Option.some.inj hf]
        exact qσ26
      · have h29 := bl_Fq_g qσ26 ha0 (k := 1) rfl (by decide)
        obtain ⟨x30, e31⟩ : ∃ z, z = (bl_I σ26 (bl_R σ26 a0 1) 4) := ⟨_, rfl⟩
        have hf := bl_let_at e31 hf
        exact gl_X10_bestOwn_46  bl_fu σ26 a0 a1 a2 a3 x30 (-1) 0 0 qσ26 ha0 hf
def md_X10_tries : List (Nat × Nat) := [(10, 28), (20, 167), (21, 42), (21, 168), (23, 168)]
set_option maxRecDepth 100000 in
theorem gw_X10_tries_112 {ho : Nat → Bool} {σ0 : bl_St} {out : Int32 × bl_St} : ∀ (σ : bl_St) (v0 : Nat) (s0 : Int32), bl_Fq ho md_X10_tries σ0 σ → (bl_sh[v0]? = some (10, 28) ∧ ho v0 = true) → (b_X10_tries_112 ) σ v0 s0 = some out → bl_Fq ho md_X10_tries σ0 out.2 := by
  intro σ v0 s0 qσ hv0 hf
  unfold b_X10_tries_112 at hf
  have h1 := bl_Fq_g qσ hv0 (k := 3) rfl (by decide)
  have h2 := bl_Fq_g qσ hv0 (k := 1) rfl (by decide)
  obtain ⟨r3, σ4, h5, hf⟩ := bl_bd_at hf
  have qσ4 := bl_Fq_call qσ (fr_X10_copies σ (bl_R σ v0 3) (bl_R σ v0 1) _ qσ.1 qσ.2.1 h1.1 h2 h5) (by decide)
  rw [← Option.some.inj hf]
  exact qσ4
set_option maxRecDepth 100000 in
theorem fr_X10_tries {ho : Nat → Bool} (σ : bl_St) (a0 : Nat) (a1 : Int32) (a2 : Int32) (a3 : Int32) (a4 : Int32) (a5 : Int32) (o : Int32 × bl_St) (hw : bl_WT σ) (hh : bl_WH ho σ) (ha0 : bl_sh[a0]? = some (10, 28) ∧ ho a0 = true) (hf : f_X10_tries σ a0 a1 a2 a3 a4 a5 = some o) : bl_Fq ho md_X10_tries σ o.2 := by
  obtain ⟨σ0, hz⟩ : ∃ z, z = σ := ⟨_, rfl⟩
  suffices hgo : bl_Fq ho md_X10_tries σ0 o.2 by rw [hz] at hgo; exact hgo
  have qσ : bl_Fq ho md_X10_tries σ0 σ := by rw [hz]; exact ⟨hw, hh, fun _ _ => ⟨rfl, rfl, rfl⟩⟩
  unfold f_X10_tries at hf
  have h6 := bl_Fq_g qσ ha0 (k := 1) rfl (by decide)
  have h7 := bl_Fq_g qσ ha0 (k := 3) rfl (by decide)
  obtain ⟨r8, σ9, h10, hf⟩ := bl_bd_at hf
  have qσ9 := bl_Fq_call qσ (fr_X10_copies σ (bl_R σ a0 1) (bl_R σ a0 3) _ qσ.1 qσ.2.1 h6.1 h7 h10) (by decide)
  have h11 := bl_Fq_g qσ9 ha0 (k := 1) rfl (by decide)
  obtain ⟨σ12, e13⟩ : ∃ z : bl_St, z = bl_pI σ9 (bl_R σ9 a0 1) 56 0 := ⟨_, rfl⟩
  have hf := bl_let_at e13 hf
  have qσ12 : bl_Fq ho md_X10_tries σ0 σ12 := by rw [e13]; exact bl_Fq_I qσ9 (bl_al_in h11.1 (by decide) h11.2)
  obtain ⟨r14, σ15, h16, hf⟩ := bl_bd_at hf
  have qσ15 := bl_Fq_call qσ12 (fr_X10_allPaid σ12 a0 _ qσ12.1 qσ12.2.1 ha0.1 h16) (by decide)
  have h17 := bl_Fq_g qσ15 ha0 (k := 1) rfl (by decide)
  obtain ⟨x18, e19⟩ : ∃ z, z = (bl_I σ15 (bl_R σ15 a0 1) 65) := ⟨_, rfl⟩
  have hf := bl_let_at e19 hf
  have h20 := bl_Fq_g qσ15 ha0 (k := 1) rfl (by decide)
  obtain ⟨x21, e22⟩ : ∃ z, z = (bl_I σ15 (bl_R σ15 a0 1) 66) := ⟨_, rfl⟩
  have hf := bl_let_at e22 hf
  obtain ⟨r23, σ24, h25, hf⟩ := bl_bd_at hf
  have qσ24 := bl_Fq_call qσ15 (fr_X10_lives σ15 a0 a1 a2 a3 a4 _ qσ15.1 qσ15.2.1 ha0 h25) (by decide)
  rcases bl_if_at hf with hf | hf
  · obtain ⟨r32, σ33, h34, hf⟩ := bl_bd_at hf
    have qσ33 := bl_Fq_call qσ24 (fr_X10_allPaid σ24 a0 _ qσ24.1 qσ24.2.1 ha0.1 h34) (by decide)
    exact gw_X10_tries_112  σ33 a0 (r32 - r14) qσ33 ha0 hf
  · rcases bl_if_at hf with hf | hf
    · have h31 := bl_Fq_g qσ24 ha0 (k := 1) rfl (by decide)
      exact gw_X10_tries_112  σ24 a0 ((bl_I σ24 (bl_R σ24 a0 1) 65) - x18) qσ24 ha0 hf
    · rcases bl_if_at hf with hf | hf
      · have h30 := bl_Fq_g qσ24 ha0 (k := 1) rfl (by decide)
        exact gw_X10_tries_112  σ24 a0 ((bl_I σ24 (bl_R σ24 a0 1) 66) - x21) qσ24 ha0 hf
      · have h29 := bl_Fq_g qσ24 ha0 (k := 1) rfl (by decide)
        exact gw_X10_tries_112  σ24 a0 (bl_I σ24 (bl_R σ24 a0 1) 55) qσ24 ha0 hf
def md_X10_would : List (Nat × Nat) := [(10, 28), (20, 167), (21, 42), (21, 168), (23, 168)]
set_option maxRecDepth 100000 in
theorem fr_X10_would {ho : Nat → Bool} (σ : bl_St) (a0 : Nat) (a1 : Int32) (a2 : Int32) (a3 : Int32) (a4 : Int32) (a5 : Int32) (o : Int32 × bl_St) (hw : bl_WT σ) (hh : bl_WH ho σ) (ha0 : bl_sh[a0]? = some (10, 28) ∧ ho a0 = true) (hf : f_X10_would σ a0 a1 a2 a3 a4 a5 = some o) : bl_Fq ho md_X10_would σ o.2 := by
  obtain ⟨σ0, hz⟩ : ∃ z, z = σ := ⟨_, rfl⟩
  suffices hgo : bl_Fq ho md_X10_would σ0 o.2 by rw [hz] at hgo; exact hgo
  have qσ : bl_Fq ho md_X10_would σ0 σ := by rw [hz]; exact ⟨hw, hh, fun _ _ => ⟨rfl, rfl, rfl⟩⟩
  unfold f_X10_would at hf
  have h1 := bl_Fq_g qσ ha0 (k := 1) rfl (by decide)
  rcases bl_if_at hf with hf | hf
  · rw [← Option.some.inj hf]
    exact qσ
  · obtain ⟨r3, σ4, h5, hf⟩ := bl_bd_at hf
    have qσ4 := bl_Fq_call qσ (fr_X10_isLived σ a1 a2 a3 _ qσ.1 qσ.2.1  h5) (by decide)
    rcases bl_if_at hf with hf | hf
    · rw [← Option.some.inj hf]
      exact qσ4
    · obtain ⟨r7, σ8, h9, hf⟩ := bl_bd_at hf
      have qσ8 := bl_Fq_call qσ4 (fr_X10_in σ4 (Int32.toInt64 a5) 0 3 _ qσ4.1 qσ4.2.1  h9) (by decide)
      rcases bl_if_at hf with hf | hf
      · rw [← Option.some.inj hf]
        exact qσ8
      · obtain ⟨r11, σ12, h13, hf⟩ := bl_bd_at hf
        have qσ12 := bl_Fq_call qσ8 (fr_X10_tries σ8 a0 a1 a2 a3 a4 a5 _ qσ8.1 qσ8.2.1 ha0 h13) (by decide)
        rw [← Option.some.inj hf]
        exact qσ12
def md_X10_bestRule : List (Nat × Nat) := [(10, 28), (20, 167), (21, 42), (21, 168), (23, 168)]
set_option maxRecDepth 100000 in
theorem gw_X10_bestRule_74 {ho : Nat → Bool} {σ0 : bl_St} {out : Int32 × bl_St} (k39 : bl_St → Nat → Int32 → Int32 → Int32 → Int32 → Int32 → Option (Int32 × bl_St)) (gk39 : ∀ (σ : bl_St) (v0 : Nat) (v1 : Int32) (v2 : Int32) (v3 : Int32) (v4 : Int32) (v5 : Int32), bl_Fq ho md_X10_bestRule σ0 σ → (bl_sh[v0]? = some (10, 28) ∧ ho v0 = true) → k39 σ v0 v1 v2 v3 v4 v5 = some out → bl_Fq ho md_X10_bestRule σ0 out.2) : ∀ (σ : bl_St) (v0 : Nat) (v1 : Int32) (v2 : Int32) (v3 : Int32) (v4 : Int32) (v5 : Int32), bl_Fq ho md_X10_bestRule σ0 σ → (bl_sh[v0]? = some (10, 28) ∧ ho v0 = true) → (b_X10_bestRule_74 k39) σ v0 v1 v2 v3 v4 v5 = some out → bl_Fq ho md_X10_bestRule σ0 out.2 := by
  intro σ v0 v1 v2 v3 v4 v5 qσ hv0 hf
  unfold b_X10_bestRule_74 at hf
  obtain ⟨x1, e2⟩ : ∃ z : Int32, z = v5 + 1 := ⟨_, rfl⟩
  have hf := bl_let_at e2 hf
  exact gk39 σ v0 v1 v2 v3 v4 x1 qσ hv0 hf
set_option maxRecDepth 100000 in
theorem gw_X10_bestRule_39 {ho : Nat → Bool} {σ0 : bl_St} {out : Int32 × bl_St} (k39 : bl_St → Nat → Int32 → Int32 → Int32 → Int32 → Int32 → Option (Int32 × bl_St)) (gk39 : ∀ (σ : bl_St) (v0 : Nat) (v1 : Int32) (v2 : Int32) (v3 : Int32) (v4 : Int32) (v5 : Int32), bl_Fq ho md_X10_bestRule σ0 σ → (bl_sh[v0]? = some (10, 28) ∧ ho v0 = true) → k39 σ v0 v1 v2 v3 v4 v5 = some out → bl_Fq ho md_X10_bestRule σ0 out.2) : ∀ (σ : bl_St) (v0 : Nat) (v1 : Int32) (v2 : Int32) (v3 : Int32) (v4 : Int32) (v5 : Int32), bl_Fq ho md_X10_bestRule σ0 σ → (bl_sh[v0]? = some (10, 28) ∧ ho v0 = true) → (b_X10_bestRule_39 k39) σ v0 v1 v2 v3 v4 v5 = some out → bl_Fq ho md_X10_bestRule σ0 out.2 := by
  intro σ v0 v1 v2 v3 v4 v5 qσ hv0 hf
  unfold b_X10_bestRule_39 at hf
  rcases bl_if_at hf with hf | hf
  · rw [← Option.some.inj hf]
    exact qσ
  · obtain ⟨r4, σ5, h6, hf⟩ := bl_bd_at hf
    have qσ5 := bl_Fq_call qσ (fr_X10_tries σ v0 v1 v5 0 v2 0 _ qσ.1 qσ.2.1 hv0 h6) (by decide)
    rcases bl_if_at hf with hf | hf
    · exact gw_X10_bestRule_74 k39 gk39 σ5 v0 v1 v2 v5 r4 v5 qσ5 hv0 hf
    · exact gw_X10_bestRule_74 k39 gk39 σ5 v0 v1 v2 v3 v4 v5 qσ5 hv0 hf
theorem gl_X10_bestRule_39 {ho : Nat → Bool} {σ0 : bl_St} {out : Int32 × bl_St} (n : Nat) : ∀ (σ : bl_St) (v0 : Nat) (v1 : Int32) (v2 : Int32) (v3 : Int32) (v4 : Int32) (v5 : Int32), bl_Fq ho md_X10_bestRule σ0 σ → (bl_sh[v0]? = some (10, 28) ∧ ho v0 = true) → (bl_fx (fun _ _ _ _ _ _ _ => none) (b_X10_bestRule_39 ) n) σ v0 v1 v2 v3 v4 v5 = some out → bl_Fq ho md_X10_bestRule σ0 out.2 := by
  induction n with
  | zero =>
    intro σ v0 v1 v2 v3 v4 v5 qσ hv0 hf
    cases hf
  | succ n ih => exact gw_X10_bestRule_39  _ ih
set_option maxRecDepth 100000 in
theorem fr_X10_bestRule {ho : Nat → Bool} (σ : bl_St) (a0 : Nat) (a1 : Int32) (a2 : Int32) (o : Int32 × bl_St) (hw : bl_WT σ) (hh : bl_WH ho σ) (ha0 : bl_sh[a0]? = some (10, 28) ∧ ho a0 = true) (hf : f_X10_bestRule σ a0 a1 a2 = some o) : bl_Fq ho md_X10_bestRule σ o.2 := by
  obtain ⟨σ0, hz⟩ : ∃ z, z = σ := ⟨_, rfl⟩
  suffices hgo : bl_Fq ho md_X10_bestRule σ0 o.2 by rw [hz] at hgo; exact hgo
  have qσ : bl_Fq ho md_X10_bestRule σ0 σ := by rw [hz]; exact ⟨hw, hh, fun _ _ => ⟨rfl, rfl, rfl⟩⟩
  unfold f_X10_bestRule at hf
  have h8 := bl_Fq_g qσ ha0 (k := 1) rfl (by decide)
  rcases bl_if_at hf with hf | hf
  · rw [← Option.some.inj hf]
    exact qσ
  · obtain ⟨r10, σ11, h12, hf⟩ := bl_bd_at hf
    have qσ11 := bl_Fq_call qσ (fr_X10_in σ (Int32.toInt64 a1) 1 20 _ qσ.1 qσ.2.1  h12) (by decide)
    rcases bl_if_at hf with hf | hf
    · rw [← Option.some.inj hf]
      exact qσ11
    · obtain ⟨r14, σ15, h16, hf⟩ := bl_bd_at hf
      have qσ15 := bl_Fq_call qσ11 (fr_X10_tries σ11 a0 a1 0 0 a2 0 _ qσ11.1 qσ11.2.1 ha0 h16) (by decide)
      exact gl_X10_bestRule_39  bl_fu σ15 a0 a1 a2 0 r14 1 qσ15 ha0 hf
def md_X10_dearest : List (Nat × Nat) := [(10, 28), (20, 167), (21, 42), (21, 168), (23, 168)]
set_option maxRecDepth 100000 in
theorem gw_X10_dearest_93 {ho : Nat → Bool} {σ0 : bl_St} {out : Int32 × bl_St} : ∀ (σ : bl_St) (v0 : Nat) (v3 : Int32) (v4 : Int32) (v5 : Int32), bl_Fq ho md_X10_dearest σ0 σ → (bl_sh[v0]? = some (10, 28) ∧ ho v0 = true) → (b_X10_dearest_93 ) σ v0 v3 v4 v5 = some out → bl_Fq ho md_X10_dearest σ0 out.2 := by
  intro σ v0 v3 v4 v5 qσ hv0 hf
  unfold b_X10_dearest_93 at hf
  have h1 := bl_Fq_g qσ hv0 (k := 1) rfl (by decide)
  obtain ⟨-, hf⟩ := bl_gd_at hf
  obtain ⟨σ3, e4⟩ : ∃ z : bl_St, z = bl_pI σ (bl_R σ v0 1) (Int32.toNatClampNeg v3) v4 := ⟨_, rfl⟩
  have hf := bl_let_at e4 hf
  have qσ3 : bl_Fq ho md_X10_dearest σ0 σ3 := by rw [e4]; exact bl_Fq_I qσ (bl_al_in h1.1 (by decide) h1.2)
  rw [← Option.some.inj hf]
  exact qσ3
set_option maxRecDepth 100000 in
theorem gw_X10_dearest_87 {ho : Nat → Bool} {σ0 : bl_St} {out : Int32 × bl_St} (k46 : bl_St → Nat → Int32 → Int32 → Int32 → Int32 → Int32 → Int32 → Option (Int32 × bl_St)) (gk46 : ∀ (σ : bl_St) (v0 : Nat) (v1 : Int32) (v2 : Int32) (v3 : Int32) (v4 : Int32) (v5 : Int32) (v6 : Int32), bl_Fq ho md_X10_dearest σ0 σ → (bl_sh[v0]? = some (10, 28) ∧ ho v0 = true) → k46 σ v0 v1 v2 v3 v4 v5 v6 = some out → bl_Fq ho md_X10_dearest σ0 out.2) : ∀ (σ : bl_St) (v0 : Nat) (v1 : Int32) (v2 : Int32) (v3 : Int32) (v4 : Int32) (v5 : Int32) (v6 : Int32), bl_Fq ho md_X10_dearest σ0 σ → (bl_sh[v0]? = some (10, 28) ∧ ho v0 = true) → (b_X10_dearest_87 k46) σ v0 v1 v2 v3 v4 v5 v6 = some out → bl_Fq ho md_X10_dearest σ0 out.2 := by
  intro σ v0 v1 v2 v3 v4 v5 v6 qσ hv0 hf
  unfold b_X10_dearest_87 at hf
  obtain ⟨x5, e6⟩ : ∃ z : Int32, z = v6 + (-1) := ⟨_, rfl⟩
  have hf := bl_let_at e6 hf
  exact gk46 σ v0 v1 v2 v3 v4 v5 x5 qσ hv0 hf
set_option maxRecDepth 100000 in
theorem gw_X10_dearest_46 {ho : Nat → Bool} {σ0 : bl_St} {out : Int32 × bl_St} (k46 : bl_St → Nat → Int32 → Int32 → Int32 → Int32 → Int32 → Int32 → Option (Int32 × bl_St)) (gk46 : ∀ (σ : bl_St) (v0 : Nat) (v1 : Int32) (v2 : Int32) (v3 : Int32) (v4 : Int32) (v5 : Int32) (v6 : Int32), bl_Fq ho md_X10_dearest σ0 σ → (bl_sh[v0]? = some (10, 28) ∧ ho v0 = true) → k46 σ v0 v1 v2 v3 v4 v5 v6 = some out → bl_Fq ho md_X10_dearest σ0 out.2) : ∀ (σ : bl_St) (v0 : Nat) (v1 : Int32) (v2 : Int32) (v3 : Int32) (v4 : Int32) (v5 : Int32) (v6 : Int32), bl_Fq ho md_X10_dearest σ0 σ → (bl_sh[v0]? = some (10, 28) ∧ ho v0 = true) → (b_X10_dearest_46 k46) σ v0 v1 v2 v3 v4 v5 v6 = some out → bl_Fq ho md_X10_dearest σ0 out.2 := by
  intro σ v0 v1 v2 v3 v4 v5 v6 qσ hv0 hf
  unfold b_X10_dearest_46 at hf
  rcases bl_if_at hf with hf | hf
  · exact gw_X10_dearest_93  σ v0 v3 v4 v5 qσ hv0 hf
  · rcases bl_if_at hf with hf | hf
    · have h9 := bl_Fq_g qσ hv0 (k := 1) rfl (by decide)
      obtain ⟨-, hf⟩ := bl_gd_at hf
      obtain ⟨σ11, e12⟩ : ∃ z : bl_St, z = bl_pI σ (bl_R σ v0 1) (Int32.toNatClampNeg v3) v6 := ⟨_, rfl⟩
      have hf := bl_let_at e12 hf
      have qσ11 : bl_Fq ho md_X10_dearest σ0 σ11 := by rw [e12]; exact bl_Fq_I qσ (bl_al_in h9.1 (by decide) h9.2)
      obtain ⟨r13, σ14, h15, hf⟩ := bl_bd_at hf
      have qσ14 := bl_Fq_call qσ11 (fr_X10_lays σ11 v0 v1 1 0 0 _ qσ11.1 qσ11.2.1 hv0 h15) (by decide)
      obtain ⟨r16, σ17, h18, hf⟩ := bl_bd_at hf
      have qσ17 := bl_Fq_call qσ14 (fr_X10_isGuarded σ14 v0 v1 v2 _ qσ14.1 qσ14.2.1 hv0.1 h18) (by decide)
      rcases bl_if_at hf with hf | hf
      · exact gw_X10_dearest_87 k46 gk46 σ17 v0 v1 v2 v3 v4 v5 v6 qσ17 hv0 hf
      · exact gw_X10_dearest_87 k46 gk46 σ17 v0 v1 v2 v3 v4 v6 v6 qσ17 hv0 hf
    · exact gw_X10_dearest_93  σ v0 v3 v4 v5 qσ hv0 hf
theorem gl_X10_dearest_46 {ho : Nat → Bool} {σ0 : bl_St} {out : Int32 × bl_St} (n : Nat) : ∀ (σ : bl_St) (v0 : Nat) (v1 : Int32) (v2 : Int32) (v3 : Int32) (v4 : Int32) (v5 : Int32) (v6 : Int32), bl_Fq ho md_X10_dearest σ0 σ → (bl_sh[v0]? = some (10, 28) ∧ ho v0 = true) → (bl_fx (fun _ _ _ _ _ _ _ _ => none) (b_X10_dearest_46 ) n) σ v0 v1 v2 v3 v4 v5 v6 = some out → bl_Fq ho md_X10_dearest σ0 out.2 := by
  induction n with
  | zero =>
    intro σ v0 v1 v2 v3 v4 v5 v6 qσ hv0 hf
    cases hf
  | succ n ih => exact gw_X10_dearest_46  _ ih
set_option maxRecDepth 100000 in
theorem fr_X10_dearest {ho : Nat → Bool} (σ : bl_St) (a0 : Nat) (a1 : Int32) (a2 : Int32) (o : Int32 × bl_St) (hw : bl_WT σ) (hh : bl_WH ho σ) (ha0 : bl_sh[a0]? = some (10, 28) ∧ ho a0 = true) (hf : f_X10_dearest σ a0 a1 a2 = some o) : bl_Fq ho md_X10_dearest σ o.2 := by
  obtain ⟨σ0, hz⟩ : ∃ z, z = σ := ⟨_, rfl⟩
  suffices hgo : bl_Fq ho md_X10_dearest σ0 o.2 by rw [hz] at hgo; exact hgo
  have qσ : bl_Fq ho md_X10_dearest σ0 σ := by rw [hz]; exact ⟨hw, hh, fun _ _ => ⟨rfl, rfl, rfl⟩⟩
  unfold f_X10_dearest at hf
  obtain ⟨r20, σ21, h22, hf⟩ := bl_bd_at hf
  have qσ21 := bl_Fq_call qσ (fr_X10_in σ (Int32.toInt64 a1) 1 20 _ qσ.1 qσ.2.1  h22) (by decide)
  rcases bl_if_at hf with hf | hf
  · rw [← Option.some.inj hf]
    exact qσ21
  · obtain ⟨r24, σ25, h26, hf⟩ := bl_bd_at hf
    have qσ25 := bl_Fq_call qσ21 (fr_X10_isClass σ21 a0 a2 _ qσ21.1 qσ21.2.1 ha0.1 h26) (by decide)
    rcases bl_if_at hf with hf | hf
    · rw [← Option.some.inj hf]
      exact qσ25
    · obtain ⟨x28, e29⟩ : ∃ z, z = ((5 + (5 * a2)) + 4) := ⟨_, rfl⟩
      have hf := bl_let_at e29 hf
      have h30 := bl_Fq_g qσ25 ha0 (k := 1) rfl (by decide)
      obtain ⟨-, hf⟩ := bl_gd_at hf
      obtain ⟨x32, e33⟩ : ∃ z, z = (bl_I σ25 (bl_R σ25 a0 1) (Int32.toNatClampNeg x28)) := ⟨_, rfl⟩
      have hf := bl_let_at e33 hf
      exact gl_X10_dearest_46  bl_fu σ25 a0 a1 a2 x28 x32 (-2) 99 qσ25 ha0 hf
def md_X10_of : List (Nat × Nat) := []
set_option maxRecDepth 100000 in
theorem fr_X10_of {ho : Nat → Bool} (σ : bl_St) (a0 : Nat) (a1 : Int32) (a2 : Int32) (o : Int32 × bl_St) (hw : bl_WT σ) (hh : bl_WH ho σ) (ha0 : bl_sh[a0]? = some (10, 28)) (hf : f_X10_of σ a0 a1 a2 = some o) : bl_Fq ho md_X10_of σ o.2 := by
  obtain ⟨σ0, hz⟩ : ∃ z, z = σ := ⟨_, rfl⟩
  suffices hgo : bl_Fq ho md_X10_of σ0 o.2 by rw [hz] at hgo; exact hgo
  have qσ : bl_Fq ho md_X10_of σ0 σ := by rw [hz]; exact ⟨hw, hh, fun _ _ => ⟨rfl, rfl, rfl⟩⟩
  have ha0 := And.intro ha0 trivial
  unfold f_X10_of at hf
  obtain ⟨r1, σ2, h3, hf⟩ := bl_bd_at hf
  have qσ2 := bl_Fq_call qσ (fr_X10_isClass σ a0 a1 _ qσ.1 qσ.2.1 ha0.1 h3) (by decide)
  rcases bl_if_at hf with hf | hf
  · rw [← Option.some.inj hf]
    exact qσ2
  · obtain ⟨r5, σ6, h7, hf⟩ := bl_bd_at hf
    have qσ6 := bl_Fq_call qσ2 (fr_X10_in σ2 (Int32.toInt64 a2) 0 4 _ qσ2.1 qσ2.2.1  h7) (by decide)
    rcases bl_if_at hf with hf | hf
    · rw [← Option.some.inj hf]
      exact qσ6
    · obtain ⟨r9, σ10, h11, hf⟩ := bl_bd_at hf
      have qσ10 := bl_Fq_call qσ6 (fr_X10_ofClass σ6 a0 a1 a2 _ qσ6.1 qσ6.2.1 ha0.1 h11) (by decide)
      rw [← Option.some.inj hf]
      exact qσ10
def md_X10_ofSort : List (Nat × Nat) := []
set_option maxRecDepth 100000 in
theorem fr_X10_ofSort {ho : Nat → Bool} (σ : bl_St) (a0 : Nat) (a1 : Int32) (a2 : Int32) (o : Int32 × bl_St) (hw : bl_WT σ) (hh : bl_WH ho σ) (ha0 : bl_sh[a0]? = some (10, 28)) (hf : f_X10_ofSort σ a0 a1 a2 = some o) : bl_Fq ho md_X10_ofSort σ o.2 := by
  obtain ⟨σ0, hz⟩ : ∃ z, z = σ := ⟨_, rfl⟩
  suffices hgo : bl_Fq ho md_X10_ofSort σ0 o.2 by rw [hz] at hgo; exact hgo
  have qσ : bl_Fq ho md_X10_ofSort σ0 σ := by rw [hz]; exact ⟨hw, hh, fun _ _ => ⟨rfl, rfl, rfl⟩⟩
  have ha0 := And.intro ha0 trivial
  unfold f_X10_ofSort at hf
  obtain ⟨r1, σ2, h3, hf⟩ := bl_bd_at hf
  have qσ2 := bl_Fq_call qσ (fr_X10_isSort σ a0 a1 _ qσ.1 qσ.2.1 ha0.1 h3) (by decide)
  rcases bl_if_at hf with hf | hf
  · rw [← Option.some.inj hf]
    exact qσ2
  · rcases bl_if_at hf with hf | hf
    · obtain ⟨r15, σ16, h17, hf⟩ := bl_bd_at hf
      have qσ16 := bl_Fq_call qσ2 (fr_X10_size σ2 a0 a1 _ qσ2.1 qσ2.2.1 ha0.1 h17) (by decide)
      rw [← Option.some.inj hf]
      exact qσ16
    · rcases bl_if_at hf with hf | hf
      · obtain ⟨r12, σ13, h14, hf⟩ := bl_bd_at hf
        have qσ13 := bl_Fq_call qσ2 (fr_X10_weight σ2 a0 a1 _ qσ2.1 qσ2.2.1 ha0.1 h14) (by decide)
        rw [← Option.some.inj hf]
        exact qσ13
      · rcases bl_if_at hf with hf | hf
        · have h8 := bl_Fq_gn qσ2 ha0 (k := 1) rfl
          obtain ⟨r9, σ10, h11, hf⟩ := bl_bd_at hf
          have qσ10 := bl_Fq_call qσ2 (fr_X10_weight σ2 a0 a1 _ qσ2.1 qσ2.2.1 ha0.1 h11) (by decide)
          rw [← Option.some.inj hf]
          exact qσ10
        · rw [← Option.some.inj hf]
          exact qσ2
def md_X10_life : List (Nat × Nat) := []
set_option maxRecDepth 100000 in
theorem fr_X10_life {ho : Nat → Bool} (σ : bl_St) (a0 : Nat) (a1 : Int32) (o : Int32 × bl_St) (hw : bl_WT σ) (hh : bl_WH ho σ) (ha0 : bl_sh[a0]? = some (10, 28)) (hf : f_X10_life σ a0 a1 = some o) : bl_Fq ho md_X10_life σ o.2 := by
  obtain ⟨σ0, hz⟩ : ∃ z, z = σ := ⟨_, rfl⟩
  suffices hgo : bl_Fq ho md_X10_life σ0 o.2 by rw [hz] at hgo; exact hgo
  have qσ : bl_Fq ho md_X10_life σ0 σ := by rw [hz]; exact ⟨hw, hh, fun _ _ => ⟨rfl, rfl, rfl⟩⟩
  have ha0 := And.intro ha0 trivial
  unfold f_X10_life at hf
  rcases bl_if_at hf with hf | hf
  · have h2 := bl_Fq_gn qσ ha0 (k := 1) rfl
    rcases bl_if_at hf with hf | hf
    · rw [← Option.some.inj hf]
      exact qσ
    · have h4 := bl_Fq_gn qσ ha0 (k := 1) rfl
      rw [← Option.some.inj hf]
      exact qσ
  rcases bl_if_at hf with hf | hf
  · have h6 := bl_Fq_gn qσ ha0 (k := 1) rfl
    rw [← Option.some.inj hf]
    exact qσ
  rcases bl_if_at hf with hf | hf
  · have h8 := bl_Fq_gn qσ ha0 (k := 1) rfl
    rw [← Option.some.inj hf]
    exact qσ
  rcases bl_if_at hf with hf | hf
  · have h10 := bl_Fq_gn qσ ha0 (k := 1) rfl
    rw [← Option.some.inj hf]
    exact qσ
  rcases bl_if_at hf with hf | hf
  · have h12 := bl_Fq_gn qσ ha0 (k := 1) rfl
    rw [← Option.some.inj hf]
    exact qσ
  rcases bl_if_at hf with hf | hf
  · have h14 := bl_Fq_gn qσ ha0 (k := 1) rfl
    rw [← Option.some.inj hf]
    exact qσ
  rcases bl_if_at hf with hf | hf
  · have h16 := bl_Fq_gn qσ ha0 (k := 1) rfl
    rw [← Option.some.inj hf]
    exact qσ
  rcases bl_if_at hf with hf | hf
  · have h18 := bl_Fq_gn qσ ha0 (k := 1) rfl
    rw [← Option.some.inj hf]
    exact qσ
  rcases bl_if_at hf with hf | hf
  · have h20 := bl_Fq_gn qσ ha0 (k := 1) rfl
    rw [← Option.some.inj hf]
    exact qσ
  rcases bl_if_at hf with hf | hf
  · have h22 := bl_Fq_gn qσ ha0 (k := 1) rfl
    rw [← Option.some.inj hf]
    exact qσ
  rcases bl_if_at hf with hf | hf
  · have h24 := bl_Fq_gn qσ ha0 (k := 1) rfl
    rw [← Option.some.inj hf]
    exact qσ
  rcases bl_if_at hf with hf | hf
  · have h26 := bl_Fq_gn qσ ha0 (k := 1) rfl
    rw [← Option.some.inj hf]
    exact qσ
  rcases bl_if_at hf with hf | hf
  · obtain ⟨r28, σ29, h30, hf⟩ := bl_bd_at hf
    have qσ29 := bl_Fq_call qσ (fr_X10_allPaid σ a0 _ qσ.1 qσ.2.1 ha0.1 h30) (by decide)
    rw [← Option.some.inj hf]
    exact qσ29
  rw [← Option.some.inj hf]
  exact qσ
def md_X10_entry : List (Nat × Nat) := []
set_option maxRecDepth 100000 in
theorem fr_X10_entry {ho : Nat → Bool} (σ : bl_St) (a0 : Nat) (a1 : Int32) (a2 : Int32) (a3 : Int32) (o : Int32 × bl_St) (hw : bl_WT σ) (hh : bl_WH ho σ) (ha0 : bl_sh[a0]? = some (10, 28)) (hf : f_X10_entry σ a0 a1 a2 a3 = some o) : bl_Fq ho md_X10_entry σ o.2 := by
  obtain ⟨σ0, hz⟩ : ∃ z, z = σ := ⟨_, rfl⟩
  suffices hgo : bl_Fq ho md_X10_entry σ0 o.2 by rw [hz] at hgo; exact hgo
  have qσ : bl_Fq ho md_X10_entry σ0 σ := by rw [hz]; exact ⟨hw, hh, fun _ _ => ⟨rfl, rfl, rfl⟩⟩
  have ha0 := And.intro ha0 trivial
  unfold f_X10_entry at hf
  have h1 := bl_Fq_gn qσ ha0 (k := 1) rfl
  obtain ⟨-, hf⟩ := bl_gd_at hf
  obtain ⟨r3, σ4, h5, hf⟩ := bl_bd_at hf
  have qσ4 := bl_Fq_call qσ (fr_X10_in σ (Int32.toInt64 a2) 0 (Int32.toInt64 ((bl_I σ (bl_R σ a0 1) (Int32.toNatClampNeg a1)) - 1)) _ qσ.1 qσ.2.1  h5) (by decide)
  rcases bl_if_at hf with hf | hf
  · rw [← Option.some.inj hf]
    exact qσ4
  · obtain ⟨r7, σ8, h9, hf⟩ := bl_bd_at hf
    have qσ8 := bl_Fq_call qσ4 (fr_X10_in σ4 (Int32.toInt64 a3) 0 2 _ qσ4.1 qσ4.2.1  h9) (by decide)
    rcases bl_if_at hf with hf | hf
    · rw [← Option.some.inj hf]
      exact qσ8
    · have h11 := bl_Fq_gn qσ8 ha0 (k := 1) rfl
      have h12 := bl_Fq_gn qσ8 ha0 (k := 1) rfl
      obtain ⟨-, hf⟩ := bl_gd_at hf
      obtain ⟨-, hf⟩ := bl_gd_at hf
      rw [← Option.some.inj hf]
      exact qσ8
def md_X10_book : List (Nat × Nat) := []
set_option maxRecDepth 100000 in
theorem fr_X10_book {ho : Nat → Bool} (σ : bl_St) (a0 : Nat) (a1 : Int32) (a2 : Int32) (o : Int32 × bl_St) (hw : bl_WT σ) (hh : bl_WH ho σ) (ha0 : bl_sh[a0]? = some (10, 28)) (hf : f_X10_book σ a0 a1 a2 = some o) : bl_Fq ho md_X10_book σ o.2 := by
  obtain ⟨σ0, hz⟩ : ∃ z, z = σ := ⟨_, rfl⟩
  suffices hgo : bl_Fq ho md_X10_book σ0 o.2 by rw [hz] at hgo; exact hgo
  have qσ : bl_Fq ho md_X10_book σ0 σ := by rw [hz]; exact ⟨hw, hh, fun _ _ => ⟨rfl, rfl, rfl⟩⟩
  have ha0 := And.intro ha0 trivial
  unfold f_X10_book at hf
  obtain ⟨r1, σ2, h3, hf⟩ := bl_bd_at hf
  have qσ2 := bl_Fq_call qσ (fr_X10_entry σ a0 69 a1 a2 _ qσ.1 qσ.2.1 ha0.1 h3) (by decide)
  rw [← Option.some.inj hf]
  exact qσ2
def md_X10_ledger : List (Nat × Nat) := []
set_option maxRecDepth 100000 in
theorem fr_X10_ledger {ho : Nat → Bool} (σ : bl_St) (a0 : Nat) (a1 : Int32) (a2 : Int32) (o : Int32 × bl_St) (hw : bl_WT σ) (hh : bl_WH ho σ) (ha0 : bl_sh[a0]? = some (10, 28)) (hf : f_X10_ledger σ a0 a1 a2 = some o) : bl_Fq ho md_X10_ledger σ o.2 := by
  obtain ⟨σ0, hz⟩ : ∃ z, z = σ := ⟨_, rfl⟩
  suffices hgo : bl_Fq ho md_X10_ledger σ0 o.2 by rw [hz] at hgo; exact hgo
  have qσ : bl_Fq ho md_X10_ledger σ0 σ := by rw [hz]; exact ⟨hw, hh, fun _ _ => ⟨rfl, rfl, rfl⟩⟩
  have ha0 := And.intro ha0 trivial
  unfold f_X10_ledger at hf
  obtain ⟨r1, σ2, h3, hf⟩ := bl_bd_at hf
  have qσ2 := bl_Fq_call qσ (fr_X10_entry σ a0 118 a1 a2 _ qσ.1 qσ.2.1 ha0.1 h3) (by decide)
  rw [← Option.some.inj hf]
  exact qσ2
def md_X10_mean : List (Nat × Nat) := []
set_option maxRecDepth 100000 in
theorem gw_X10_mean_54 {ho : Nat → Bool} {σ0 : bl_St} {out : Int32 × bl_St} (k54 : bl_St → Int32 → Int32 → Int32 → Int32 → Int32 → Option (Int32 × bl_St)) (gk54 : ∀ (σ : bl_St) (v1 : Int32) (v2 : Int32) (v3 : Int32) (v4 : Int32) (v5 : Int32), bl_Fq ho md_X10_mean σ0 σ → k54 σ v1 v2 v3 v4 v5 = some out → bl_Fq ho md_X10_mean σ0 out.2) : ∀ (σ : bl_St) (v1 : Int32) (v2 : Int32) (v3 : Int32) (v4 : Int32) (v5 : Int32), bl_Fq ho md_X10_mean σ0 σ → (b_X10_mean_54 k54) σ v1 v2 v3 v4 v5 = some out → bl_Fq ho md_X10_mean σ0 out.2 := by
  intro σ v1 v2 v3 v4 v5 qσ  hf
  unfold b_X10_mean_54 at hf
  rcases bl_if_at hf with hf | hf
  · rcases bl_if_at hf with hf | hf
    · obtain ⟨-, hf⟩ := bl_gd_at hf
      rw [← Option.some.inj hf]
      exact qσ
    · obtain ⟨-, hf⟩ := bl_gd_at hf
      rw [← Option.some.inj hf]
      exact qσ
  · obtain ⟨-, hf⟩ := bl_gd_at hf
    obtain ⟨x6, e7⟩ : ∃ z, z = (v4 - v4 / v5 * v5) := ⟨_, rfl⟩
    have hf := bl_let_at e7 hf
    exact gk54 σ v1 v2 v3 v5 x6 qσ  hf
theorem gl_X10_mean_54 {ho : Nat → Bool} {σ0 : bl_St} {out : Int32 × bl_St} (n : Nat) : ∀ (σ : bl_St) (v1 : Int32) (v2 : Int32) (v3 : Int32) (v4 : Int32) (v5 : Int32), bl_Fq ho md_X10_mean σ0 σ → (bl_fx (fun _ _ _ _ _ _ => none) (b_X10_mean_54 ) n) σ v1 v2 v3 v4 v5 = some out → bl_Fq ho md_X10_mean σ0 out.2 := by
  induction n with
  | zero =>
    intro σ v1 v2 v3 v4 v5 qσ  hf
    cases hf
  | succ n ih => exact gw_X10_mean_54  _ ih
set_option maxRecDepth 100000 in
theorem gw_X10_mean_19 {ho : Nat → Bool} {σ0 : bl_St} {out : Int32 × bl_St} (k19 : bl_St → Nat → Int32 → Int32 → Int32 → Int32 → Option (Int32 × bl_St)) (gk19 : ∀ (σ : bl_St) (v0 : Nat) (v1 : Int32) (v2 : Int32) (v3 : Int32) (v4 : Int32), bl_Fq ho md_X10_mean σ0 σ → (bl_sh[v0]? = some (10, 28) ∧ True) → k19 σ v0 v1 v2 v3 v4 = some out → bl_Fq ho md_X10_mean σ0 out.2) : ∀ (σ : bl_St) (v0 : Nat) (v1 : Int32) (v2 : Int32) (v3 : Int32) (v4 : Int32), bl_Fq ho md_X10_mean σ0 σ → (bl_sh[v0]? = some (10, 28) ∧ True) → (b_X10_mean_19 k19) σ v0 v1 v2 v3 v4 = some out → bl_Fq ho md_X10_mean σ0 out.2 := by
  intro σ v0 v1 v2 v3 v4 qσ hv0 hf
  unfold b_X10_mean_19 at hf
  rcases bl_if_at hf with hf | hf
  · exact gl_X10_mean_54  bl_fu σ v1 v2 v3 v3 v2 qσ  hf
  · have h9 := bl_Fq_gn qσ hv0 (k := 1) rfl
    obtain ⟨-, hf⟩ := bl_gd_at hf
    obtain ⟨x11, e12⟩ : ∃ z, z = (v3 + (bl_I σ (bl_R σ v0 1) (Int32.toNatClampNeg ((119 + (3 * v4)) + 1)))) := ⟨_, rfl⟩
    have hf := bl_let_at e12 hf
    obtain ⟨x13, e14⟩ : ∃ z : Int32, z = v4 + 1 := ⟨_, rfl⟩
    have hf := bl_let_at e14 hf
    exact gk19 σ v0 v1 v2 x11 x13 qσ hv0 hf
theorem gl_X10_mean_19 {ho : Nat → Bool} {σ0 : bl_St} {out : Int32 × bl_St} (n : Nat) : ∀ (σ : bl_St) (v0 : Nat) (v1 : Int32) (v2 : Int32) (v3 : Int32) (v4 : Int32), bl_Fq ho md_X10_mean σ0 σ → (bl_sh[v0]? = some (10, 28) ∧ True) → (bl_fx (fun _ _ _ _ _ _ => none) (b_X10_mean_19 ) n) σ v0 v1 v2 v3 v4 = some out → bl_Fq ho md_X10_mean σ0 out.2 := by
  induction n with
  | zero =>
    intro σ v0 v1 v2 v3 v4 qσ hv0 hf
    cases hf
  | succ n ih => exact gw_X10_mean_19  _ ih
set_option maxRecDepth 100000 in
theorem fr_X10_mean {ho : Nat → Bool} (σ : bl_St) (a0 : Nat) (a1 : Int32) (o : Int32 × bl_St) (hw : bl_WT σ) (hh : bl_WH ho σ) (ha0 : bl_sh[a0]? = some (10, 28)) (hf : f_X10_mean σ a0 a1 = some o) : bl_Fq ho md_X10_mean σ o.2 := by
  obtain ⟨σ0, hz⟩ : ∃ z, z = σ := ⟨_, rfl⟩
  suffices hgo : bl_Fq ho md_X10_mean σ0 o.2 by rw [hz] at hgo; exact hgo
  have qσ : bl_Fq ho md_X10_mean σ0 σ := by rw [hz]; exact ⟨hw, hh, fun _ _ => ⟨rfl, rfl, rfl⟩⟩
  have ha0 := And.intro ha0 trivial
  unfold f_X10_mean at hf
  have h15 := bl_Fq_gn qσ ha0 (k := 1) rfl
  obtain ⟨x16, e17⟩ : ∃ z, z = (bl_I σ (bl_R σ a0 1) 118) := ⟨_, rfl⟩
  have hf := bl_let_at e17 hf
  rcases bl_if_at hf with hf | hf
  · rw [← Option.some.inj hf]
    exact qσ
  · exact gl_X10_mean_19  bl_fu σ a0 a1 x16 0 0 qσ ha0 hf
def md_X10_writesSign : List (Nat × Nat) := [(10, 28), (20, 400)]
set_option maxRecDepth 100000 in
theorem fr_X10_writesSign {ho : Nat → Bool} (σ : bl_St) (a0 : Nat) (a1 : Int32) (o : Unit × bl_St) (hw : bl_WT σ) (hh : bl_WH ho σ) (ha0 : bl_sh[a0]? = some (10, 28) ∧ ho a0 = true) (hf : f_X10_writesSign σ a0 a1 = some o) : bl_Fq ho md_X10_writesSign σ o.2 := by
  obtain ⟨σ0, hz⟩ : ∃ z, z = σ := ⟨_, rfl⟩
  suffices hgo : bl_Fq ho md_X10_writesSign σ0 o.2 by rw [hz] at hgo; exact hgo
  have qσ : bl_Fq ho md_X10_writesSign σ0 σ := by rw [hz]; exact ⟨hw, hh, fun _ _ => ⟨rfl, rfl, rfl⟩⟩
  unfold f_X10_writesSign at hf
  have h1 := bl_Fq_g qσ ha0 (k := 18) rfl (by decide)
  obtain ⟨-, hf⟩ := bl_gd_at hf
  obtain ⟨σ3, e4⟩ : ∃ z : bl_St, z = bl_pI σ (bl_R σ a0 18) (Int32.toNatClampNeg (bl_I σ a0 19)) a1 := ⟨_, rfl⟩
  have hf := bl_let_at e4 hf
  have qσ3 : bl_Fq ho md_X10_writesSign σ0 σ3 := by rw [e4]; exact bl_Fq_I qσ (bl_al_in h1.1 (by decide) h1.2)
  obtain ⟨σ5, e6⟩ : ∃ z : bl_St, z = bl_pI σ3 a0 19 ((bl_I σ3 a0 19) + 1) := ⟨_, rfl⟩
  have hf := bl_let_at e6 hf
  have qσ5 : bl_Fq ho md_X10_writesSign σ0 σ5 := by rw [e6]; exact bl_Fq_I qσ3 (bl_al_in ha0.1 (by decide) ha0.2)
  rw [← Option.some.inj hf]
  exact qσ5
def md_X10_wordFrom : List (Nat × Nat) := []
set_option maxRecDepth 100000 in
theorem gw_X10_wordFrom_20 {ho : Nat → Bool} {σ0 : bl_St} {out : Int32 × bl_St} (k4 : bl_St → Nat → Int32 → Int32 → Option (Int32 × bl_St)) (gk4 : ∀ (σ : bl_St) (v0 : Nat) (v2 : Int32) (v3 : Int32), bl_Fq ho md_X10_wordFrom σ0 σ → (bl_sh[v0]? = some (10, 28) ∧ True) → k4 σ v0 v2 v3 = some out → bl_Fq ho md_X10_wordFrom σ0 out.2) : ∀ (σ : bl_St) (v0 : Nat) (v2 : Int32) (v3 : Int32), bl_Fq ho md_X10_wordFrom σ0 σ → (bl_sh[v0]? = some (10, 28) ∧ True) → (b_X10_wordFrom_20 k4) σ v0 v2 v3 = some out → bl_Fq ho md_X10_wordFrom σ0 out.2 := by
  intro σ v0 v2 v3 qσ hv0 hf
  unfold b_X10_wordFrom_20 at hf
  obtain ⟨x1, e2⟩ : ∃ z : Int32, z = v2 + 1 := ⟨_, rfl⟩
  have hf := bl_let_at e2 hf
  exact gk4 σ v0 x1 v3 qσ hv0 hf
set_option maxRecDepth 100000 in
theorem gw_X10_wordFrom_4 {ho : Nat → Bool} {σ0 : bl_St} {out : Int32 × bl_St} (k4 : bl_St → Nat → Int32 → Int32 → Option (Int32 × bl_St)) (gk4 : ∀ (σ : bl_St) (v0 : Nat) (v2 : Int32) (v3 : Int32), bl_Fq ho md_X10_wordFrom σ0 σ → (bl_sh[v0]? = some (10, 28) ∧ True) → k4 σ v0 v2 v3 = some out → bl_Fq ho md_X10_wordFrom σ0 out.2) : ∀ (σ : bl_St) (v0 : Nat) (v2 : Int32) (v3 : Int32), bl_Fq ho md_X10_wordFrom σ0 σ → (bl_sh[v0]? = some (10, 28) ∧ True) → (b_X10_wordFrom_4 k4) σ v0 v2 v3 = some out → bl_Fq ho md_X10_wordFrom σ0 out.2 := by
  intro σ v0 v2 v3 qσ hv0 hf
  unfold b_X10_wordFrom_4 at hf
  rcases bl_if_at hf with hf | hf
  · rw [← Option.some.inj hf]
    exact qσ
  · have h4 := bl_Fq_gn qσ hv0 (k := 22) rfl
    obtain ⟨-, hf⟩ := bl_gd_at hf
    rcases bl_if_at hf with hf | hf
    · obtain ⟨x7, e8⟩ : ∃ z : Int32, z = v3 + (-1) := ⟨_, rfl⟩
      have hf := bl_let_at e8 hf
      exact gw_X10_wordFrom_20 k4 gk4 σ v0 v2 x7 qσ hv0 hf
    · exact gw_X10_wordFrom_20 k4 gk4 σ v0 v2 v3 qσ hv0 hf
theorem gl_X10_wordFrom_4 {ho : Nat → Bool} {σ0 : bl_St} {out : Int32 × bl_St} (n : Nat) : ∀ (σ : bl_St) (v0 : Nat) (v2 : Int32) (v3 : Int32), bl_Fq ho md_X10_wordFrom σ0 σ → (bl_sh[v0]? = some (10, 28) ∧ True) → (bl_fx (fun _ _ _ _ => none) (b_X10_wordFrom_4 ) n) σ v0 v2 v3 = some out → bl_Fq ho md_X10_wordFrom σ0 out.2 := by
  induction n with
  | zero =>
    intro σ v0 v2 v3 qσ hv0 hf
    cases hf
  | succ n ih => exact gw_X10_wordFrom_4  _ ih
set_option maxRecDepth 100000 in
theorem fr_X10_wordFrom {ho : Nat → Bool} (σ : bl_St) (a0 : Nat) (a1 : Int32) (o : Int32 × bl_St) (hw : bl_WT σ) (hh : bl_WH ho σ) (ha0 : bl_sh[a0]? = some (10, 28)) (hf : f_X10_wordFrom σ a0 a1 = some o) : bl_Fq ho md_X10_wordFrom σ o.2 := by
  obtain ⟨σ0, hz⟩ : ∃ z, z = σ := ⟨_, rfl⟩
  suffices hgo : bl_Fq ho md_X10_wordFrom σ0 o.2 by rw [hz] at hgo; exact hgo
  have qσ : bl_Fq ho md_X10_wordFrom σ0 σ := by rw [hz]; exact ⟨hw, hh, fun _ _ => ⟨rfl, rfl, rfl⟩⟩
  have ha0 := And.intro ha0 trivial
  unfold f_X10_wordFrom at hf
  exact gl_X10_wordFrom_4  bl_fu σ a0 0 a1 qσ ha0 hf
def md_X10_writesWord : List (Nat × Nat) := [(10, 28), (20, 400)]
set_option maxRecDepth 100000 in
theorem gw_X10_writesWord_6 {ho : Nat → Bool} {σ0 : bl_St} {out : Unit × bl_St} (k6 : bl_St → Nat → Int32 → Option (Unit × bl_St)) (gk6 : ∀ (σ : bl_St) (v0 : Nat) (v2 : Int32), bl_Fq ho md_X10_writesWord σ0 σ → (bl_sh[v0]? = some (10, 28) ∧ ho v0 = true) → k6 σ v0 v2 = some out → bl_Fq ho md_X10_writesWord σ0 out.2) : ∀ (σ : bl_St) (v0 : Nat) (v2 : Int32), bl_Fq ho md_X10_writesWord σ0 σ → (bl_sh[v0]? = some (10, 28) ∧ ho v0 = true) → (b_X10_writesWord_6 k6) σ v0 v2 = some out → bl_Fq ho md_X10_writesWord σ0 out.2 := by
  intro σ v0 v2 qσ hv0 hf
  unfold b_X10_writesWord_6 at hf
  have h1 := bl_Fq_g qσ hv0 (k := 22) rfl (by decide)
  obtain ⟨-, hf⟩ := bl_gd_at hf
  rcases bl_if_at hf with hf | hf
  · rw [← Option.some.inj hf]
    exact qσ
  · have h4 := bl_Fq_g qσ hv0 (k := 22) rfl (by decide)
    obtain ⟨-, hf⟩ := bl_gd_at hf
    obtain ⟨r6, σ7, h8, hf⟩ := bl_bd_at hf
    have qσ7 := bl_Fq_call qσ (fr_X10_writesSign σ v0 (bl_I σ (bl_R σ v0 22) (Int32.toNatClampNeg v2)) _ qσ.1 qσ.2.1 hv0 h8) (by decide)
    obtain ⟨x9, e10⟩ : ∃ z : Int32, z = v2 + 1 := ⟨_, rfl⟩
    have hf := bl_let_at e10 hf
    exact gk6 σ7 v0 x9 qσ7 hv0 hf
theorem gl_X10_writesWord_6 {ho : Nat → Bool} {σ0 : bl_St} {out : Unit × bl_St} (n : Nat) : ∀ (σ : bl_St) (v0 : Nat) (v2 : Int32), bl_Fq ho md_X10_writesWord σ0 σ → (bl_sh[v0]? = some (10, 28) ∧ ho v0 = true) → (bl_fx (fun _ _ _ => none) (b_X10_writesWord_6 ) n) σ v0 v2 = some out → bl_Fq ho md_X10_writesWord σ0 out.2 := by
  induction n with
  | zero =>
    intro σ v0 v2 qσ hv0 hf
    cases hf
  | succ n ih => exact gw_X10_writesWord_6  _ ih
set_option maxRecDepth 100000 in
theorem fr_X10_writesWord {ho : Nat → Bool} (σ : bl_St) (a0 : Nat) (a1 : Int32) (o : Unit × bl_St) (hw : bl_WT σ) (hh : bl_WH ho σ) (ha0 : bl_sh[a0]? = some (10, 28) ∧ ho a0 = true) (hf : f_X10_writesWord σ a0 a1 = some o) : bl_Fq ho md_X10_writesWord σ o.2 := by
  obtain ⟨σ0, hz⟩ : ∃ z, z = σ := ⟨_, rfl⟩
  suffices hgo : bl_Fq ho md_X10_writesWord σ0 o.2 by rw [hz] at hgo; exact hgo
  have qσ : bl_Fq ho md_X10_writesWord σ0 σ := by rw [hz]; exact ⟨hw, hh, fun _ _ => ⟨rfl, rfl, rfl⟩⟩
  unfold f_X10_writesWord at hf
  obtain ⟨r11, σ12, h13, hf⟩ := bl_bd_at hf
  have qσ12 := bl_Fq_call qσ (fr_X10_wordFrom σ a0 a1 _ qσ.1 qσ.2.1 ha0.1 h13) (by decide)
  exact gl_X10_writesWord_6  bl_fu σ12 a0 r11 qσ12 ha0 hf
def md_X10_writesNumber : List (Nat × Nat) := [(10, 28), (20, 400)]
set_option maxRecDepth 100000 in
theorem gw_X10_writesNumber_24 {ho : Nat → Bool} {σ0 : bl_St} {out : Unit × bl_St} (k24 : bl_St → Nat → Int32 → Int32 → Option (Unit × bl_St)) (gk24 : ∀ (σ : bl_St) (v0 : Nat) (v1 : Int32) (v2 : Int32), bl_Fq ho md_X10_writesNumber σ0 σ → (bl_sh[v0]? = some (10, 28) ∧ ho v0 = true) → k24 σ v0 v1 v2 = some out → bl_Fq ho md_X10_writesNumber σ0 out.2) : ∀ (σ : bl_St) (v0 : Nat) (v1 : Int32) (v2 : Int32), bl_Fq ho md_X10_writesNumber σ0 σ → (bl_sh[v0]? = some (10, 28) ∧ ho v0 = true) → (b_X10_writesNumber_24 k24) σ v0 v1 v2 = some out → bl_Fq ho md_X10_writesNumber σ0 out.2 := by
  intro σ v0 v1 v2 qσ hv0 hf
  unfold b_X10_writesNumber_24 at hf
  rcases bl_if_at hf with hf | hf
  · rw [← Option.some.inj hf]
    exact qσ
  · obtain ⟨-, hf⟩ := bl_gd_at hf
    obtain ⟨r3, σ4, h5, hf⟩ := bl_bd_at hf
    have qσ4 := bl_Fq_call qσ (fr_X10_writesSign σ v0 (48 + ((v1 / v2) - (v1 / v2) / 10 * 10)) _ qσ.1 qσ.2.1 hv0 h5) (by decide)
    obtain ⟨x6, e7⟩ : ∃ z, z = (v2 / 10) := ⟨_, rfl⟩
    have hf := bl_let_at e7 hf
    exact gk24 σ4 v0 v1 x6 qσ4 hv0 hf
theorem gl_X10_writesNumber_24 {ho : Nat → Bool} {σ0 : bl_St} {out : Unit × bl_St} (n : Nat) : ∀ (σ : bl_St) (v0 : Nat) (v1 : Int32) (v2 : Int32), bl_Fq ho md_X10_writesNumber σ0 σ → (bl_sh[v0]? = some (10, 28) ∧ ho v0 = true) → (bl_fx (fun _ _ _ _ => none) (b_X10_writesNumber_24 ) n) σ v0 v1 v2 = some out → bl_Fq ho md_X10_writesNumber σ0 out.2 := by
  induction n with
  | zero =>
    intro σ v0 v1 v2 qσ hv0 hf
    cases hf
  | succ n ih => exact gw_X10_writesNumber_24  _ ih
set_option maxRecDepth 100000 in
theorem gw_X10_writesNumber_8 {ho : Nat → Bool} {σ0 : bl_St} {out : Unit × bl_St} (k8 : bl_St → Nat → Int32 → Int32 → Option (Unit × bl_St)) (gk8 : ∀ (σ : bl_St) (v0 : Nat) (v1 : Int32) (v2 : Int32), bl_Fq ho md_X10_writesNumber σ0 σ → (bl_sh[v0]? = some (10, 28) ∧ ho v0 = true) → k8 σ v0 v1 v2 = some out → bl_Fq ho md_X10_writesNumber σ0 out.2) : ∀ (σ : bl_St) (v0 : Nat) (v1 : Int32) (v2 : Int32), bl_Fq ho md_X10_writesNumber σ0 σ → (bl_sh[v0]? = some (10, 28) ∧ ho v0 = true) → (b_X10_writesNumber_8 k8) σ v0 v1 v2 = some out → bl_Fq ho md_X10_writesNumber σ0 out.2 := by
  intro σ v0 v1 v2 qσ hv0 hf
  unfold b_X10_writesNumber_8 at hf
  obtain ⟨-, hf⟩ := bl_gd_at hf
  rcases bl_if_at hf with hf | hf
  · exact gl_X10_writesNumber_24  bl_fu σ v0 v1 v2 qσ hv0 hf
  · obtain ⟨x10, e11⟩ : ∃ z, z = (v2 * 10) := ⟨_, rfl⟩
    have hf := bl_let_at e11 hf
    exact gk8 σ v0 v1 x10 qσ hv0 hf
theorem gl_X10_writesNumber_8 {ho : Nat → Bool} {σ0 : bl_St} {out : Unit × bl_St} (n : Nat) : ∀ (σ : bl_St) (v0 : Nat) (v1 : Int32) (v2 : Int32), bl_Fq ho md_X10_writesNumber σ0 σ → (bl_sh[v0]? = some (10, 28) ∧ ho v0 = true) → (bl_fx (fun _ _ _ _ => none) (b_X10_writesNumber_8 ) n) σ v0 v1 v2 = some out → bl_Fq ho md_X10_writesNumber σ0 out.2 := by
  induction n with
  | zero =>
    intro σ v0 v1 v2 qσ hv0 hf
    cases hf
  | succ n ih => exact gw_X10_writesNumber_8  _ ih
set_option maxRecDepth 100000 in
theorem fr_X10_writesNumber {ho : Nat → Bool} (σ : bl_St) (a0 : Nat) (a1 : Int32) (o : Unit × bl_St) (hw : bl_WT σ) (hh : bl_WH ho σ) (ha0 : bl_sh[a0]? = some (10, 28) ∧ ho a0 = true) (hf : f_X10_writesNumber σ a0 a1 = some o) : bl_Fq ho md_X10_writesNumber σ o.2 := by
  obtain ⟨σ0, hz⟩ : ∃ z, z = σ := ⟨_, rfl⟩
  suffices hgo : bl_Fq ho md_X10_writesNumber σ0 o.2 by rw [hz] at hgo; exact hgo
  have qσ : bl_Fq ho md_X10_writesNumber σ0 σ := by rw [hz]; exact ⟨hw, hh, fun _ _ => ⟨rfl, rfl, rfl⟩⟩
  unfold f_X10_writesNumber at hf
  obtain ⟨r12, σ13, h14, hf⟩ := bl_bd_at hf
  have qσ13 := bl_Fq_call qσ (fr_X10_writesSign σ a0 32 _ qσ.1 qσ.2.1 ha0 h14) (by decide)
  exact gl_X10_writesNumber_8  bl_fu σ13 a0 a1 1 qσ13 ha0 hf
def md_X10_toldText : List (Nat × Nat) := []
set_option maxRecDepth 100000 in
theorem fr_X10_toldText {ho : Nat → Bool} (σ : bl_St) (a0 : Nat) (a1 : Int32) (o : Int32 × bl_St) (hw : bl_WT σ) (hh : bl_WH ho σ) (ha0 : bl_sh[a0]? = some (10, 28)) (hf : f_X10_toldText σ a0 a1 = some o) : bl_Fq ho md_X10_toldText σ o.2 := by
  obtain ⟨σ0, hz⟩ : ∃ z, z = σ := ⟨_, rfl⟩
  suffices hgo : bl_Fq ho md_X10_toldText σ0 o.2 by rw [hz] at hgo; exact hgo
  have qσ : bl_Fq ho md_X10_toldText σ0 σ := by rw [hz]; exact ⟨hw, hh, fun _ _ => ⟨rfl, rfl, rfl⟩⟩
  have ha0 := And.intro ha0 trivial
  unfold f_X10_toldText at hf
  rcases bl_if_at hf with hf | hf
  · rw [← Option.some.inj hf]
    exact qσ
  · rcases bl_if_at hf with hf | hf
    · rw [← Option.some.inj hf]
      exact qσ
    · have h3 := bl_Fq_gn qσ ha0 (k := 18) rfl
      obtain ⟨-, hf⟩ := bl_gd_at hf
      rw [← Option.some.inj hf]
      exact qσ
def md_X10_writesRow : List (Nat × Nat) := [(10, 28), (20, 400)]
set_option maxRecDepth 100000 in
theorem gw_X10_writesRow_8 {ho : Nat → Bool} {σ0 : bl_St} {out : Unit × bl_St} (k8 : bl_St → Nat → Int32 → Int32 → Int32 → Option (Unit × bl_St)) (gk8 : ∀ (σ : bl_St) (v0 : Nat) (v2 : Int32) (v3 : Int32) (v4 : Int32), bl_Fq ho md_X10_writesRow σ0 σ → (bl_sh[v0]? = some (10, 28) ∧ ho v0 = true) → k8 σ v0 v2 v3 v4 = some out → bl_Fq ho md_X10_writesRow σ0 out.2) : ∀ (σ : bl_St) (v0 : Nat) (v2 : Int32) (v3 : Int32) (v4 : Int32), bl_Fq ho md_X10_writesRow σ0 σ → (bl_sh[v0]? = some (10, 28) ∧ ho v0 = true) → (b_X10_writesRow_8 k8) σ v0 v2 v3 v4 = some out → bl_Fq ho md_X10_writesRow σ0 out.2 := by
  intro σ v0 v2 v3 v4 qσ hv0 hf
  unfold b_X10_writesRow_8 at hf
  rcases bl_if_at hf with hf | hf
  · obtain ⟨r2, σ3, h4, hf⟩ := bl_bd_at hf
    have qσ3 := bl_Fq_call qσ (fr_X10_writesSign σ v0 59 _ qσ.1 qσ.2.1 hv0 h4) (by decide)
    rw [← Option.some.inj hf]
    exact qσ3
  · have h5 := bl_Fq_g qσ hv0 (k := 1) rfl (by decide)
    obtain ⟨-, hf⟩ := bl_gd_at hf
    obtain ⟨r7, σ8, h9, hf⟩ := bl_bd_at hf
    have qσ8 := bl_Fq_call qσ (fr_X10_writesNumber σ v0 (bl_I σ (bl_R σ v0 1) (Int32.toNatClampNeg (v2 + v4))) _ qσ.1 qσ.2.1 hv0 h9) (by decide)
    obtain ⟨x10, e11⟩ : ∃ z : Int32, z = v4 + 1 := ⟨_, rfl⟩
    have hf := bl_let_at e11 hf
    exact gk8 σ8 v0 v2 v3 x10 qσ8 hv0 hf
theorem gl_X10_writesRow_8 {ho : Nat → Bool} {σ0 : bl_St} {out : Unit × bl_St} (n : Nat) : ∀ (σ : bl_St) (v0 : Nat) (v2 : Int32) (v3 : Int32) (v4 : Int32), bl_Fq ho md_X10_writesRow σ0 σ → (bl_sh[v0]? = some (10, 28) ∧ ho v0 = true) → (bl_fx (fun _ _ _ _ _ => none) (b_X10_writesRow_8 ) n) σ v0 v2 v3 v4 = some out → bl_Fq ho md_X10_writesRow σ0 out.2 := by
  induction n with
  | zero =>
    intro σ v0 v2 v3 v4 qσ hv0 hf
    cases hf
  | succ n ih => exact gw_X10_writesRow_8  _ ih
set_option maxRecDepth 100000 in
theorem fr_X10_writesRow {ho : Nat → Bool} (σ : bl_St) (a0 : Nat) (a1 : Int32) (a2 : Int32) (a3 : Int32) (o : Unit × bl_St) (hw : bl_WT σ) (hh : bl_WH ho σ) (ha0 : bl_sh[a0]? = some (10, 28) ∧ ho a0 = true) (hf : f_X10_writesRow σ a0 a1 a2 a3 = some o) : bl_Fq ho md_X10_writesRow σ o.2 := by
  obtain ⟨σ0, hz⟩ : ∃ z, z = σ := ⟨_, rfl⟩
  suffices hgo : bl_Fq ho md_X10_writesRow σ0 o.2 by rw [hz] at hgo; exact hgo
  have qσ : bl_Fq ho md_X10_writesRow σ0 σ := by rw [hz]; exact ⟨hw, hh, fun _ _ => ⟨rfl, rfl, rfl⟩⟩
  unfold f_X10_writesRow at hf
  obtain ⟨r12, σ13, h14, hf⟩ := bl_bd_at hf
  have qσ13 := bl_Fq_call qσ (fr_X10_writesWord σ a0 a1 _ qσ.1 qσ.2.1 ha0 h14) (by decide)
  exact gl_X10_writesRow_8  bl_fu σ13 a0 a2 a3 0 qσ13 ha0 hf
def md_X10_spell : List (Nat × Nat) := [(10, 28), (20, 400)]
set_option maxRecDepth 100000 in
theorem gw_X10_spell_43 {ho : Nat → Bool} {σ0 : bl_St} {out : Int32 × bl_St} (k43 : bl_St → Nat → Int32 → Int32 → Option (Int32 × bl_St)) (gk43 : ∀ (σ : bl_St) (v0 : Nat) (v1 : Int32) (v2 : Int32), bl_Fq ho md_X10_spell σ0 σ → (bl_sh[v0]? = some (10, 28) ∧ ho v0 = true) → k43 σ v0 v1 v2 = some out → bl_Fq ho md_X10_spell σ0 out.2) : ∀ (σ : bl_St) (v0 : Nat) (v1 : Int32) (v2 : Int32), bl_Fq ho md_X10_spell σ0 σ → (bl_sh[v0]? = some (10, 28) ∧ ho v0 = true) → (b_X10_spell_43 k43) σ v0 v1 v2 = some out → bl_Fq ho md_X10_spell σ0 out.2 := by
  intro σ v0 v1 v2 qσ hv0 hf
  unfold b_X10_spell_43 at hf
  have h1 := bl_Fq_g qσ hv0 (k := 1) rfl (by decide)
  rcases bl_if_at hf with hf | hf
  · obtain ⟨r3, σ4, h5, hf⟩ := bl_bd_at hf
    have qσ4 := bl_Fq_call qσ (fr_X10_writesRow σ v0 2 2 1 _ qσ.1 qσ.2.1 hv0 h5) (by decide)
    obtain ⟨r6, σ7, h8, hf⟩ := bl_bd_at hf
    have qσ7 := bl_Fq_call qσ4 (fr_X10_writesRow σ4 v0 3 3 1 _ qσ4.1 qσ4.2.1 hv0 h8) (by decide)
    obtain ⟨r9, σ10, h11, hf⟩ := bl_bd_at hf
    have qσ10 := bl_Fq_call qσ7 (fr_X10_writesRow σ7 v0 4 4 1 _ qσ7.1 qσ7.2.1 hv0 h11) (by decide)
    obtain ⟨r12, σ13, h14, hf⟩ := bl_bd_at hf
    have qσ13 := bl_Fq_call qσ10 (fr_X10_toldText σ10 v0 v1 _ qσ10.1 qσ10.2.1 hv0.1 h14) (by decide)
    rw [← Option.some.inj hf]
    exact qσ13
  · obtain ⟨r15, σ16, h17, hf⟩ := bl_bd_at hf
    have qσ16 := bl_Fq_call qσ (fr_X10_writesRow σ v0 1 (45 + (2 * v2)) 2 _ qσ.1 qσ.2.1 hv0 h17) (by decide)
    obtain ⟨x18, e19⟩ : ∃ z : Int32, z = v2 + 1 := ⟨_, rfl⟩
    have hf := bl_let_at e19 hf
    exact gk43 σ16 v0 v1 x18 qσ16 hv0 hf
theorem gl_X10_spell_43 {ho : Nat → Bool} {σ0 : bl_St} {out : Int32 × bl_St} (n : Nat) : ∀ (σ : bl_St) (v0 : Nat) (v1 : Int32) (v2 : Int32), bl_Fq ho md_X10_spell σ0 σ → (bl_sh[v0]? = some (10, 28) ∧ ho v0 = true) → (bl_fx (fun _ _ _ _ => none) (b_X10_spell_43 ) n) σ v0 v1 v2 = some out → bl_Fq ho md_X10_spell σ0 out.2 := by
  induction n with
  | zero =>
    intro σ v0 v1 v2 qσ hv0 hf
    cases hf
  | succ n ih => exact gw_X10_spell_43  _ ih
set_option maxRecDepth 100000 in
theorem gw_X10_spell_14 {ho : Nat → Bool} {σ0 : bl_St} {out : Int32 × bl_St} (k14 : bl_St → Nat → Int32 → Int32 → Option (Int32 × bl_St)) (gk14 : ∀ (σ : bl_St) (v0 : Nat) (v1 : Int32) (v2 : Int32), bl_Fq ho md_X10_spell σ0 σ → (bl_sh[v0]? = some (10, 28) ∧ ho v0 = true) → k14 σ v0 v1 v2 = some out → bl_Fq ho md_X10_spell σ0 out.2) : ∀ (σ : bl_St) (v0 : Nat) (v1 : Int32) (v2 : Int32), bl_Fq ho md_X10_spell σ0 σ → (bl_sh[v0]? = some (10, 28) ∧ ho v0 = true) → (b_X10_spell_14 k14) σ v0 v1 v2 = some out → bl_Fq ho md_X10_spell σ0 out.2 := by
  intro σ v0 v1 v2 qσ hv0 hf
  unfold b_X10_spell_14 at hf
  have h20 := bl_Fq_g qσ hv0 (k := 1) rfl (by decide)
  rcases bl_if_at hf with hf | hf
  · exact gl_X10_spell_43  bl_fu σ v0 v1 0 qσ hv0 hf
  · obtain ⟨r22, σ23, h24, hf⟩ := bl_bd_at hf
    have qσ23 := bl_Fq_call qσ (fr_X10_writesRow σ v0 0 (5 + (5 * v2)) 5 _ qσ.1 qσ.2.1 hv0 h24) (by decide)
    obtain ⟨x25, e26⟩ : ∃ z : Int32, z = v2 + 1 := ⟨_, rfl⟩
    have hf := bl_let_at e26 hf
    exact gk14 σ23 v0 v1 x25 qσ23 hv0 hf
theorem gl_X10_spell_14 {ho : Nat → Bool} {σ0 : bl_St} {out : Int32 × bl_St} (n : Nat) : ∀ (σ : bl_St) (v0 : Nat) (v1 : Int32) (v2 : Int32), bl_Fq ho md_X10_spell σ0 σ → (bl_sh[v0]? = some (10, 28) ∧ ho v0 = true) → (bl_fx (fun _ _ _ _ => none) (b_X10_spell_14 ) n) σ v0 v1 v2 = some out → bl_Fq ho md_X10_spell σ0 out.2 := by
  induction n with
  | zero =>
    intro σ v0 v1 v2 qσ hv0 hf
    cases hf
  | succ n ih => exact gw_X10_spell_14  _ ih
set_option maxRecDepth 100000 in
theorem fr_X10_spell {ho : Nat → Bool} (σ : bl_St) (a0 : Nat) (a1 : Int32) (o : Int32 × bl_St) (hw : bl_WT σ) (hh : bl_WH ho σ) (ha0 : bl_sh[a0]? = some (10, 28) ∧ ho a0 = true) (hf : f_X10_spell σ a0 a1 = some o) : bl_Fq ho md_X10_spell σ o.2 := by
  obtain ⟨σ0, hz⟩ : ∃ z, z = σ := ⟨_, rfl⟩
  suffices hgo : bl_Fq ho md_X10_spell σ0 o.2 by rw [hz] at hgo; exact hgo
  have qσ : bl_Fq ho md_X10_spell σ0 σ := by rw [hz]; exact ⟨hw, hh, fun _ _ => ⟨rfl, rfl, rfl⟩⟩
  unfold f_X10_spell at hf
  rcases bl_if_at hf with hf | hf
  · obtain ⟨σ28, e29⟩ : ∃ z : bl_St, z = bl_pI σ a0 19 0 := ⟨_, rfl⟩
    have hf := bl_let_at e29 hf
    have qσ28 : bl_Fq ho md_X10_spell σ0 σ28 := by rw [e29]; exact bl_Fq_I qσ (bl_al_in ha0.1 (by decide) ha0.2)
    exact gl_X10_spell_14  bl_fu σ28 a0 a1 0 qσ28 ha0 hf
  · rw [← Option.some.inj hf]
    exact qσ
def md_X10_writesAdvice : List (Nat × Nat) := [(10, 28), (20, 400), (21, 42)]
set_option maxRecDepth 100000 in
theorem gw_X10_writesAdvice_76 {ho : Nat → Bool} {σ0 : bl_St} {out : Unit × bl_St} : ∀ (σ : bl_St) (v0 : Nat) (v4 : Int32) (s0 : Int32) (s1 : Nat), bl_Fq ho md_X10_writesAdvice σ0 σ → (bl_sh[v0]? = some (10, 28) ∧ ho v0 = true) → (bl_sh[s1]? = some (10, 28) ∧ ho s1 = true) → (b_X10_writesAdvice_76 ) σ v0 v4 s0 s1 = some out → bl_Fq ho md_X10_writesAdvice σ0 out.2 := by
  intro σ v0 v4 s0 s1 qσ hv0 hs1 hf
  unfold b_X10_writesAdvice_76 at hf
  obtain ⟨r1, σ2, h3, hf⟩ := bl_bd_at hf
  have qσ2 := bl_Fq_call qσ (fr_X10_writesWord σ s1 s0 _ qσ.1 qσ.2.1 hs1 h3) (by decide)
  rcases bl_if_at hf with hf | hf
  · obtain ⟨r5, σ6, h7, hf⟩ := bl_bd_at hf
    have qσ6 := bl_Fq_call qσ2 (fr_X10_writesSign σ2 v0 59 _ qσ2.1 qσ2.2.1 hv0 h7) (by decide)
    rw [← Option.some.inj hf]
    exact qσ6
  · obtain ⟨r8, σ9, h10, hf⟩ := bl_bd_at hf
    have qσ9 := bl_Fq_call qσ2 (fr_X10_writesNumber σ2 v0 v4 _ qσ2.1 qσ2.2.1 hv0 h10) (by decide)
    obtain ⟨r11, σ12, h13, hf⟩ := bl_bd_at hf
    have qσ12 := bl_Fq_call qσ9 (fr_X10_writesSign σ9 v0 59 _ qσ9.1 qσ9.2.1 hv0 h13) (by decide)
    rw [← Option.some.inj hf]
    exact qσ12
set_option maxRecDepth 100000 in
theorem gw_X10_writesAdvice_50 {ho : Nat → Bool} {σ0 : bl_St} {out : Unit × bl_St} : ∀ (σ : bl_St) (v0 : Nat) (s0 : Int32) (s1 : Int32) (s2 : Int32) (s3 : Nat), bl_Fq ho md_X10_writesAdvice σ0 σ → (bl_sh[v0]? = some (10, 28) ∧ ho v0 = true) → (bl_sh[s3]? = some (10, 28) ∧ ho s3 = true) → (b_X10_writesAdvice_50 ) σ v0 s0 s1 s2 s3 = some out → bl_Fq ho md_X10_writesAdvice σ0 out.2 := by
  intro σ v0 s0 s1 s2 s3 qσ hv0 hs3 hf
  unfold b_X10_writesAdvice_50 at hf
  obtain ⟨r14, σ15, h16, hf⟩ := bl_bd_at hf
  have qσ15 := bl_Fq_call qσ (fr_X10_leastSize σ s3 s2 s1 s0 _ qσ.1 qσ.2.1 hs3.1 h16) (by decide)
  obtain ⟨r17, σ18, h19, hf⟩ := bl_bd_at hf
  have qσ18 := bl_Fq_call qσ15 (fr_X10_writesSign σ15 v0 32 _ qσ15.1 qσ15.2.1 hv0 h19) (by decide)
  rcases bl_if_at hf with hf | hf
  · exact gw_X10_writesAdvice_76  σ18 v0 r14 7 v0 qσ18 hv0 hv0 hf
  · exact gw_X10_writesAdvice_76  σ18 v0 r14 6 v0 qσ18 hv0 hv0 hf
set_option maxRecDepth 100000 in
theorem gw_X10_writesAdvice_32 {ho : Nat → Bool} {σ0 : bl_St} {out : Unit × bl_St} : ∀ (σ : bl_St) (v0 : Nat) (v1 : Int32) (v2 : Int32) (v3 : Int32), bl_Fq ho md_X10_writesAdvice σ0 σ → (bl_sh[v0]? = some (10, 28) ∧ ho v0 = true) → (b_X10_writesAdvice_32 ) σ v0 v1 v2 v3 = some out → bl_Fq ho md_X10_writesAdvice σ0 out.2 := by
  intro σ v0 v1 v2 v3 qσ hv0 hf
  unfold b_X10_writesAdvice_32 at hf
  obtain ⟨r21, σ22, h23, hf⟩ := bl_bd_at hf
  have qσ22 := bl_Fq_call qσ (fr_X10_laysChances σ v0 v1 v2 _ qσ.1 qσ.2.1 hv0 h23) (by decide)
  rcases bl_if_at hf with hf | hf
  · exact gw_X10_writesAdvice_50  σ22 v0 0 0 0 v0 qσ22 hv0 hv0 hf
  · exact gw_X10_writesAdvice_50  σ22 v0 1 0 0 v0 qσ22 hv0 hv0 hf
set_option maxRecDepth 100000 in
theorem fr_X10_writesAdvice {ho : Nat → Bool} (σ : bl_St) (a0 : Nat) (a1 : Int32) (a2 : Int32) (o : Unit × bl_St) (hw : bl_WT σ) (hh : bl_WH ho σ) (ha0 : bl_sh[a0]? = some (10, 28) ∧ ho a0 = true) (hf : f_X10_writesAdvice σ a0 a1 a2 = some o) : bl_Fq ho md_X10_writesAdvice σ o.2 := by
  obtain ⟨σ0, hz⟩ : ∃ z, z = σ := ⟨_, rfl⟩
  suffices hgo : bl_Fq ho md_X10_writesAdvice σ0 o.2 by rw [hz] at hgo; exact hgo
  have qσ : bl_Fq ho md_X10_writesAdvice σ0 σ := by rw [hz]; exact ⟨hw, hh, fun _ _ => ⟨rfl, rfl, rfl⟩⟩
  unfold f_X10_writesAdvice at hf
  obtain ⟨r25, σ26, h27, hf⟩ := bl_bd_at hf
  have qσ26 := bl_Fq_call qσ (fr_X10_writesWord σ a0 0 _ qσ.1 qσ.2.1 ha0 h27) (by decide)
  obtain ⟨r28, σ29, h30, hf⟩ := bl_bd_at hf
  have qσ29 := bl_Fq_call qσ26 (fr_X10_writesNumber σ26 a0 a2 _ qσ26.1 qσ26.2.1 ha0 h30) (by decide)
  obtain ⟨r31, σ32, h33, hf⟩ := bl_bd_at hf
  have qσ32 := bl_Fq_call qσ29 (fr_X10_isGuarded σ29 a0 a1 a2 _ qσ29.1 qσ29.2.1 ha0.1 h33) (by decide)
  rcases bl_if_at hf with hf | hf
  · exact gw_X10_writesAdvice_32  σ32 a0 a1 a2 r31 qσ32 ha0 hf
  · obtain ⟨r35, σ36, h37, hf⟩ := bl_bd_at hf
    have qσ36 := bl_Fq_call qσ32 (fr_X10_writesSign σ32 a0 32 _ qσ32.1 qσ32.2.1 ha0 h37) (by decide)
    obtain ⟨r38, σ39, h40, hf⟩ := bl_bd_at hf
    have qσ39 := bl_Fq_call qσ36 (fr_X10_writesWord σ36 a0 5 _ qσ36.1 qσ36.2.1 ha0 h40) (by decide)
    exact gw_X10_writesAdvice_32  σ39 a0 a1 a2 r31 qσ39 ha0 hf
def md_X10_report : List (Nat × Nat) := [(10, 28), (20, 400), (21, 42), (21, 168), (23, 168)]
set_option maxRecDepth 100000 in
theorem gw_X10_report_43 {ho : Nat → Bool} {σ0 : bl_St} {out : Int32 × bl_St} (k43 : bl_St → Nat → Int32 → Int32 → Int32 → Option (Int32 × bl_St)) (gk43 : ∀ (σ : bl_St) (v0 : Nat) (v1 : Int32) (v2 : Int32) (v3 : Int32), bl_Fq ho md_X10_report σ0 σ → (bl_sh[v0]? = some (10, 28) ∧ ho v0 = true) → k43 σ v0 v1 v2 v3 = some out → bl_Fq ho md_X10_report σ0 out.2) : ∀ (σ : bl_St) (v0 : Nat) (v1 : Int32) (v2 : Int32) (v3 : Int32), bl_Fq ho md_X10_report σ0 σ → (bl_sh[v0]? = some (10, 28) ∧ ho v0 = true) → (b_X10_report_43 k43) σ v0 v1 v2 v3 = some out → bl_Fq ho md_X10_report σ0 out.2 := by
  intro σ v0 v1 v2 v3 qσ hv0 hf
  unfold b_X10_report_43 at hf
  have h1 := bl_Fq_g qσ hv0 (k := 1) rfl (by decide)
  rcases bl_if_at hf with hf | hf
  · obtain ⟨r3, σ4, h5, hf⟩ := bl_bd_at hf
    have qσ4 := bl_Fq_call qσ (fr_X10_toldText σ v0 v2 _ qσ.1 qσ.2.1 hv0.1 h5) (by decide)
    rw [← Option.some.inj hf]
    exact qσ4
  · obtain ⟨r6, σ7, h8, hf⟩ := bl_bd_at hf
    have qσ7 := bl_Fq_call qσ (fr_X10_writesAdvice σ v0 v1 v3 _ qσ.1 qσ.2.1 hv0 h8) (by decide)
    obtain ⟨x9, e10⟩ : ∃ z : Int32, z = v3 + 1 := ⟨_, rfl⟩
    have hf := bl_let_at e10 hf
    exact gk43 σ7 v0 v1 v2 x9 qσ7 hv0 hf
theorem gl_X10_report_43 {ho : Nat → Bool} {σ0 : bl_St} {out : Int32 × bl_St} (n : Nat) : ∀ (σ : bl_St) (v0 : Nat) (v1 : Int32) (v2 : Int32) (v3 : Int32), bl_Fq ho md_X10_report σ0 σ → (bl_sh[v0]? = some (10, 28) ∧ ho v0 = true) → (bl_fx (fun _ _ _ _ _ => none) (b_X10_report_43 ) n) σ v0 v1 v2 v3 = some out → bl_Fq ho md_X10_report σ0 out.2 := by
  induction n with
  | zero =>
    intro σ v0 v1 v2 v3 qσ hv0 hf
    cases hf
  | succ n ih => exact gw_X10_report_43  _ ih
set_option maxRecDepth 100000 in
theorem fr_X10_report {ho : Nat → Bool} (σ : bl_St) (a0 : Nat) (a1 : Int32) (a2 : Int32) (o : Int32 × bl_St) (hw : bl_WT σ) (hh : bl_WH ho σ) (ha0 : bl_sh[a0]? = some (10, 28) ∧ ho a0 = true) (hf : f_X10_report σ a0 a1 a2 = some o) : bl_Fq ho md_X10_report σ o.2 := by
  obtain ⟨σ0, hz⟩ : ∃ z, z = σ := ⟨_, rfl⟩
  suffices hgo : bl_Fq ho md_X10_report σ0 o.2 by rw [hz] at hgo; exact hgo
  have qσ : bl_Fq ho md_X10_report σ0 σ := by rw [hz]; exact ⟨hw, hh, fun _ _ => ⟨rfl, rfl, rfl⟩⟩
  unfold f_X10_report at hf
  obtain ⟨r11, σ12, h13, hf⟩ := bl_bd_at hf
  have qσ12 := bl_Fq_call qσ (fr_X10_in σ (Int32.toInt64 a1) 1 20 _ qσ.1 qσ.2.1  h13) (by decide)
  rcases bl_if_at hf with hf | hf
  · rw [← Option.some.inj hf]
    exact qσ12
  · rcases bl_if_at hf with hf | hf
    · rw [← Option.some.inj hf]
      exact qσ12
    · have h16 := bl_Fq_g qσ12 ha0 (k := 1) rfl (by decide)
      rcases bl_if_at hf with hf | hf
      · rw [← Option.some.inj hf]
        exact qσ12
      · obtain ⟨σ18, e19⟩ : ∃ z : bl_St, z = bl_pI σ12 a0 19 0 := ⟨_, rfl⟩
        have hf := bl_let_at e19 hf
        have qσ18 : bl_Fq ho md_X10_report σ0 σ18 := by rw [e19]; exact bl_Fq_I qσ12 (bl_al_in ha0.1 (by decide) ha0.2)
        obtain ⟨r20, σ21, h22, hf⟩ := bl_bd_at hf
        have qσ21 := bl_Fq_call qσ18 (fr_X10_lays σ18 a0 a1 1 0 0 _ qσ18.1 qσ18.2.1 ha0 h22) (by decide)
        exact gl_X10_report_43  bl_fu σ21 a0 a1 a2 0 qσ21 ha0 hf
def md_X10_count : List (Nat × Nat) := []
set_option maxRecDepth 100000 in
theorem fr_X10_count {ho : Nat → Bool} (σ : bl_St) (a0 : Nat) (a1 : Int32) (o : Int32 × bl_St) (hw : bl_WT σ) (hh : bl_WH ho σ) (ha0 : bl_sh[a0]? = some (10, 28)) (hf : f_X10_count σ a0 a1 = some o) : bl_Fq ho md_X10_count σ o.2 := by
  obtain ⟨σ0, hz⟩ : ∃ z, z = σ := ⟨_, rfl⟩
  suffices hgo : bl_Fq ho md_X10_count σ0 o.2 by rw [hz] at hgo; exact hgo
  have qσ : bl_Fq ho md_X10_count σ0 σ := by rw [hz]; exact ⟨hw, hh, fun _ _ => ⟨rfl, rfl, rfl⟩⟩
  have ha0 := And.intro ha0 trivial
  unfold f_X10_count at hf
  rcases bl_if_at hf with hf | hf
  · have h2 := bl_Fq_gn qσ ha0 (k := 1) rfl
    rw [← Option.some.inj hf]
    exact qσ
  rcases bl_if_at hf with hf | hf
  · have h4 := bl_Fq_gn qσ ha0 (k := 1) rfl
    rw [← Option.some.inj hf]
    exact qσ
  rcases bl_if_at hf with hf | hf
  · have h6 := bl_Fq_gn qσ ha0 (k := 1) rfl
    rw [← Option.some.inj hf]
    exact qσ
  rcases bl_if_at hf with hf | hf
  · have h8 := bl_Fq_gn qσ ha0 (k := 1) rfl
    rw [← Option.some.inj hf]
    exact qσ
  rcases bl_if_at hf with hf | hf
  · have h10 := bl_Fq_gn qσ ha0 (k := 1) rfl
    rw [← Option.some.inj hf]
    exact qσ
  rcases bl_if_at hf with hf | hf
  · rw [← Option.some.inj hf]
    exact qσ
  rcases bl_if_at hf with hf | hf
  · rw [← Option.some.inj hf]
    exact qσ
  rcases bl_if_at hf with hf | hf
  · obtain ⟨r14, σ15, h16, hf⟩ := bl_bd_at hf
    have qσ15 := bl_Fq_call qσ (fr_X10_weights σ a0 _ qσ.1 qσ.2.1 ha0.1 h16) (by decide)
    rw [← Option.some.inj hf]
    exact qσ15
  rcases bl_if_at hf with hf | hf
  · have h18 := bl_Fq_gn qσ ha0 (k := 1) rfl
    rw [← Option.some.inj hf]
    exact qσ
  rcases bl_if_at hf with hf | hf
  · have h20 := bl_Fq_gn qσ ha0 (k := 1) rfl
    rw [← Option.some.inj hf]
    exact qσ
  rw [← Option.some.inj hf]
  exact qσ
def md_X10_feed : List (Nat × Nat) := [(10, 28), (20, 400)]
set_option maxRecDepth 100000 in
theorem gw_X10_feed_71 {ho : Nat → Bool} {σ0 : bl_St} {out : Int32 × bl_St} (k18 : bl_St → Nat → Int32 → Int32 → Int32 → Int32 → Int32 → Int32 → Option (Int32 × bl_St)) (gk18 : ∀ (σ : bl_St) (v0 : Nat) (v1 : Int32) (v2 : Int32) (v3 : Int32) (v4 : Int32) (v5 : Int32) (v6 : Int32), bl_Fq ho md_X10_feed σ0 σ → (bl_sh[v0]? = some (10, 28) ∧ ho v0 = true) → k18 σ v0 v1 v2 v3 v4 v5 v6 = some out → bl_Fq ho md_X10_feed σ0 out.2) : ∀ (σ : bl_St) (v0 : Nat) (v1 : Int32) (v2 : Int32) (v3 : Int32) (v4 : Int32) (v5 : Int32) (v6 : Int32) (s0 : Int32), bl_Fq ho md_X10_feed σ0 σ → (bl_sh[v0]? = some (10, 28) ∧ ho v0 = true) → (b_X10_feed_71 k18) σ v0 v1 v2 v3 v4 v5 v6 s0 = some out → bl_Fq ho md_X10_feed σ0 out.2 := by
  intro σ v0 v1 v2 v3 v4 v5 v6 s0 qσ hv0 hf
  unfold b_X10_feed_71 at hf
  have h1 := bl_Fq_g qσ hv0 (k := 20) rfl (by decide)
  obtain ⟨-, hf⟩ := bl_gd_at hf
  obtain ⟨σ3, e4⟩ : ∃ z : bl_St, z = bl_pI σ (bl_R σ v0 20) (Int32.toNatClampNeg (bl_I σ v0 21)) ((s0 >>> ((24 - (8 * (v6 - v6 / 4 * 4))) &&& 31)) &&& 255) := ⟨_, rfl⟩
  have hf := bl_let_at e4 hf
  have qσ3 : bl_Fq ho md_X10_feed σ0 σ3 := by rw [e4]; exact bl_Fq_I qσ (bl_al_in h1.1 (by decide) h1.2)
  obtain ⟨σ5, e6⟩ : ∃ z : bl_St, z = bl_pI σ3 v0 21 ((bl_I σ3 v0 21) + 1) := ⟨_, rfl⟩
  have hf := bl_let_at e6 hf
  have qσ5 : bl_Fq ho md_X10_feed σ0 σ5 := by rw [e6]; exact bl_Fq_I qσ3 (bl_al_in hv0.1 (by decide) hv0.2)
  obtain ⟨x7, e8⟩ : ∃ z : Int32, z = v6 + 1 := ⟨_, rfl⟩
  have hf := bl_let_at e8 hf
  exact gk18 σ5 v0 v1 v2 v3 v4 v5 x7 qσ5 hv0 hf
set_option maxRecDepth 100000 in
theorem gw_X10_feed_18 {ho : Nat → Bool} {σ0 : bl_St} {out : Int32 × bl_St} (k18 : bl_St → Nat → Int32 → Int32 → Int32 → Int32 → Int32 → Int32 → Option (Int32 × bl_St)) (gk18 : ∀ (σ : bl_St) (v0 : Nat) (v1 : Int32) (v2 : Int32) (v3 : Int32) (v4 : Int32) (v5 : Int32) (v6 : Int32), bl_Fq ho md_X10_feed σ0 σ → (bl_sh[v0]? = some (10, 28) ∧ ho v0 = true) → k18 σ v0 v1 v2 v3 v4 v5 v6 = some out → bl_Fq ho md_X10_feed σ0 out.2) : ∀ (σ : bl_St) (v0 : Nat) (v1 : Int32) (v2 : Int32) (v3 : Int32) (v4 : Int32) (v5 : Int32) (v6 : Int32), bl_Fq ho md_X10_feed σ0 σ → (bl_sh[v0]? = some (10, 28) ∧ ho v0 = true) → (b_X10_feed_18 k18) σ v0 v1 v2 v3 v4 v5 v6 = some out → bl_Fq ho md_X10_feed σ0 out.2 := by
  intro σ v0 v1 v2 v3 v4 v5 v6 qσ hv0 hf
  unfold b_X10_feed_18 at hf
  rcases bl_if_at hf with hf | hf
  · rw [← Option.some.inj hf]
    exact qσ
  · rcases bl_if_at hf with hf | hf
    · rcases bl_if_at hf with hf | hf
      · rcases bl_if_at hf with hf | hf
        · rcases bl_if_at hf with hf | hf
          · exact gw_X10_feed_71 k18 gk18 σ v0 v1 v2 v3 v4 v5 v6 v5 qσ hv0 hf
          · exact gw_X10_feed_71 k18 gk18 σ v0 v1 v2 v3 v4 v5 v6 v4 qσ hv0 hf
        · exact gw_X10_feed_71 k18 gk18 σ v0 v1 v2 v3 v4 v5 v6 v3 qσ hv0 hf
      · exact gw_X10_feed_71 k18 gk18 σ v0 v1 v2 v3 v4 v5 v6 v2 qσ hv0 hf
    · exact gw_X10_feed_71 k18 gk18 σ v0 v1 v2 v3 v4 v5 v6 v1 qσ hv0 hf
theorem gl_X10_feed_18 {ho : Nat → Bool} {σ0 : bl_St} {out : Int32 × bl_St} (n : Nat) : ∀ (σ : bl_St) (v0 : Nat) (v1 : Int32) (v2 : Int32) (v3 : Int32) (v4 : Int32) (v5 : Int32) (v6 : Int32), bl_Fq ho md_X10_feed σ0 σ → (bl_sh[v0]? = some (10, 28) ∧ ho v0 = true) → (bl_fx (fun _ _ _ _ _ _ _ _ => none) (b_X10_feed_18 ) n) σ v0 v1 v2 v3 v4 v5 v6 = some out → bl_Fq ho md_X10_feed σ0 out.2 := by
  induction n with
  | zero =>
    intro σ v0 v1 v2 v3 v4 v5 v6 qσ hv0 hf
    cases hf
  | succ n ih => exact gw_X10_feed_18  _ ih
set_option maxRecDepth 100000 in
theorem fr_X10_feed {ho : Nat → Bool} (σ : bl_St) (a0 : Nat) (a1 : Int32) (a2 : Int32) (a3 : Int32) (a4 : Int32) (a5 : Int32) (o : Int32 × bl_St) (hw : bl_WT σ) (hh : bl_WH ho σ) (ha0 : bl_sh[a0]? = some (10, 28) ∧ ho a0 = true) (hf : f_X10_feed σ a0 a1 a2 a3 a4 a5 = some o) : bl_Fq ho md_X10_feed σ o.2 := by
  obtain ⟨σ0, hz⟩ : ∃ z, z = σ := ⟨_, rfl⟩
  suffices hgo : bl_Fq ho md_X10_feed σ0 o.2 by rw [hz] at hgo; exact hgo
  have qσ : bl_Fq ho md_X10_feed σ0 σ := by rw [hz]; exact ⟨hw, hh, fun _ _ => ⟨rfl, rfl, rfl⟩⟩
  unfold f_X10_feed at hf
  rcases bl_if_at hf with hf | hf
  · exact gl_X10_feed_18  bl_fu σ a0 a1 a2 a3 a4 a5 0 qσ ha0 hf
  · rw [← Option.some.inj hf]
    exact qσ
def md_X10_back : List (Nat × Nat) := [(10, 28)]
set_option maxRecDepth 100000 in
theorem fr_X10_back {ho : Nat → Bool} (σ : bl_St) (a0 : Nat) (a1 : Int32) (o : Int32 × bl_St) (hw : bl_WT σ) (hh : bl_WH ho σ) (ha0 : bl_sh[a0]? = some (10, 28) ∧ ho a0 = true) (hf : f_X10_back σ a0 a1 = some o) : bl_Fq ho md_X10_back σ o.2 := by
  obtain ⟨σ0, hz⟩ : ∃ z, z = σ := ⟨_, rfl⟩
  suffices hgo : bl_Fq ho md_X10_back σ0 o.2 by rw [hz] at hgo; exact hgo
  have qσ : bl_Fq ho md_X10_back σ0 σ := by rw [hz]; exact ⟨hw, hh, fun _ _ => ⟨rfl, rfl, rfl⟩⟩
  unfold f_X10_back at hf
  obtain ⟨r1, σ2, h3, hf⟩ := bl_bd_at hf
  have qσ2 := bl_Fq_call qσ (fr_X10_in σ (Int32.toInt64 a1) 0 (Int32.toInt64 (bl_I σ a0 21)) _ qσ.1 qσ.2.1  h3) (by decide)
  rcases bl_if_at hf with hf | hf
  · rw [← Option.some.inj hf]
    exact qσ2
  · obtain ⟨σ5, e6⟩ : ∃ z : bl_St, z = bl_pI σ2 a0 21 ((bl_I σ2 a0 21) - a1) := ⟨_, rfl⟩
    have hf := bl_let_at e6 hf
    have qσ5 : bl_Fq ho md_X10_back σ0 σ5 := by rw [e6]; exact bl_Fq_I qσ2 (bl_al_in ha0.1 (by decide) ha0.2)
    rw [← Option.some.inj hf]
    exact qσ5
def md_X10_here : List (Nat × Nat) := []
set_option maxRecDepth 100000 in
theorem fr_X10_here {ho : Nat → Bool} (σ : bl_St) (a0 : Nat) (o : Int32 × bl_St) (hw : bl_WT σ) (hh : bl_WH ho σ) (ha0 : bl_sh[a0]? = some (10, 28)) (hf : f_X10_here σ a0 = some o) : bl_Fq ho md_X10_here σ o.2 := by
  obtain ⟨σ0, hz⟩ : ∃ z, z = σ := ⟨_, rfl⟩
  suffices hgo : bl_Fq ho md_X10_here σ0 o.2 by rw [hz] at hgo; exact hgo
  have qσ : bl_Fq ho md_X10_here σ0 σ := by rw [hz]; exact ⟨hw, hh, fun _ _ => ⟨rfl, rfl, rfl⟩⟩
  have ha0 := And.intro ha0 trivial
  unfold f_X10_here at hf
  rcases bl_if_at hf with hf | hf
  · rw [← Option.some.inj hf]
    exact qσ
  · have h2 := bl_Fq_gn qσ ha0 (k := 20) rfl
    obtain ⟨-, hf⟩ := bl_gd_at hf
    rw [← Option.some.inj hf]
    exact qσ
def md_X10_goesOn : List (Nat × Nat) := [(10, 28)]
set_option maxRecDepth 100000 in
theorem gw_X10_goesOn_223 {ho : Nat → Bool} {σ0 : bl_St} {out : Unit × bl_St} (k174 : bl_St → Nat → Int32 → Option (Unit × bl_St)) (gk174 : ∀ (σ : bl_St) (v0 : Nat) (v3 : Int32), bl_Fq ho md_X10_goesOn σ0 σ → (bl_sh[v0]? = some (10, 28) ∧ ho v0 = true) → k174 σ v0 v3 = some out → bl_Fq ho md_X10_goesOn σ0 out.2) : ∀ (σ : bl_St) (v0 : Nat) (v3 : Int32), bl_Fq ho md_X10_goesOn σ0 σ → (bl_sh[v0]? = some (10, 28) ∧ ho v0 = true) → (b_X10_goesOn_223 k174) σ v0 v3 = some out → bl_Fq ho md_X10_goesOn σ0 out.2 := by
  intro σ v0 v3 qσ hv0 hf
  unfold b_X10_goesOn_223 at hf
  obtain ⟨σ1, e2⟩ : ∃ z : bl_St, z = bl_pI σ v0 23 ((bl_I σ v0 23) + 1) := ⟨_, rfl⟩
  have hf := bl_let_at e2 hf
  have qσ1 : bl_Fq ho md_X10_goesOn σ0 σ1 := by rw [e2]; exact bl_Fq_I qσ (bl_al_in hv0.1 (by decide) hv0.2)
  exact gk174 σ1 v0 v3 qσ1 hv0 hf
set_option maxRecDepth 100000 in
theorem gw_X10_goesOn_174 {ho : Nat → Bool} {σ0 : bl_St} {out : Unit × bl_St} (k174 : bl_St → Nat → Int32 → Option (Unit × bl_St)) (gk174 : ∀ (σ : bl_St) (v0 : Nat) (v3 : Int32), bl_Fq ho md_X10_goesOn σ0 σ → (bl_sh[v0]? = some (10, 28) ∧ ho v0 = true) → k174 σ v0 v3 = some out → bl_Fq ho md_X10_goesOn σ0 out.2) : ∀ (σ : bl_St) (v0 : Nat) (v3 : Int32), bl_Fq ho md_X10_goesOn σ0 σ → (bl_sh[v0]? = some (10, 28) ∧ ho v0 = true) → (b_X10_goesOn_174 k174) σ v0 v3 = some out → bl_Fq ho md_X10_goesOn σ0 out.2 := by
  intro σ v0 v3 qσ hv0 hf
  unfold b_X10_goesOn_174 at hf
  obtain ⟨r3, σ4, h5, hf⟩ := bl_bd_at hf
  have qσ4 := bl_Fq_call qσ (fr_X10_here σ v0 _ qσ.1 qσ.2.1 hv0.1 h5) (by decide)
  obtain ⟨r6, σ7, h8, hf⟩ := bl_bd_at hf
  have qσ7 := bl_Fq_call qσ4 (fr_X10_in σ4 (Int32.toInt64 r3) 48 57 _ qσ4.1 qσ4.2.1  h8) (by decide)
  rcases bl_if_at hf with hf | hf
  · rcases bl_if_at hf with hf | hf
    · rcases bl_if_at hf with hf | hf
      · obtain ⟨σ14, e15⟩ : ∃ z : bl_St, z = bl_pI σ7 v0 24 2 := ⟨_, rfl⟩
        have hf := bl_let_at e15 hf
        have qσ14 : bl_Fq ho md_X10_goesOn σ0 σ14 := by rw [e15]; exact bl_Fq_I qσ7 (bl_al_in hv0.1 (by decide) hv0.2)
        rw [← Option.some.inj hf]
        exact qσ14
      · obtain ⟨σ16, e17⟩ : ∃ z : bl_St, z = bl_pI σ7 v0 24 4 := ⟨_, rfl⟩
        have hf := bl_let_at e17 hf
        have qσ16 : bl_Fq ho md_X10_goesOn σ0 σ16 := by rw [e17]; exact bl_Fq_I qσ7 (bl_al_in hv0.1 (by decide) hv0.2)
        rw [← Option.some.inj hf]
        exact qσ16
    · obtain ⟨σ11, e12⟩ : ∃ z : bl_St, z = bl_pI σ7 v0 24 4 := ⟨_, rfl⟩
      have hf := bl_let_at e12 hf
      have qσ11 : bl_Fq ho md_X10_goesOn σ0 σ11 := by rw [e12]; exact bl_Fq_I qσ7 (bl_al_in hv0.1 (by decide) hv0.2)
      rw [← Option.some.inj hf]
      exact qσ11
  · rcases bl_if_at hf with hf | hf
    · exact gw_X10_goesOn_223 k174 gk174 σ7 v0 v3 qσ7 hv0 hf
    · obtain ⟨r19, σ20, h21, hf⟩ := bl_bd_at hf
      have qσ20 := bl_Fq_call qσ7 (fr_X10_here σ7 v0 _ qσ7.1 qσ7.2.1 hv0.1 h21) (by decide)
      obtain ⟨σ22, e23⟩ : ∃ z : bl_St, z = bl_pI σ20 v0 26 (((10 * (bl_I σ7 v0 26)) + r19) - 48) := ⟨_, rfl⟩
      have hf := bl_let_at e23 hf
      have qσ22 : bl_Fq ho md_X10_goesOn σ0 σ22 := by rw [e23]; exact bl_Fq_I qσ20 (bl_al_in hv0.1 (by decide) hv0.2)
      exact gw_X10_goesOn_223 k174 gk174 σ22 v0 v3 qσ22 hv0 hf
theorem gl_X10_goesOn_174 {ho : Nat → Bool} {σ0 : bl_St} {out : Unit × bl_St} (n : Nat) : ∀ (σ : bl_St) (v0 : Nat) (v3 : Int32), bl_Fq ho md_X10_goesOn σ0 σ → (bl_sh[v0]? = some (10, 28) ∧ ho v0 = true) → (bl_fx (fun _ _ _ => none) (b_X10_goesOn_174 ) n) σ v0 v3 = some out → bl_Fq ho md_X10_goesOn σ0 out.2 := by
  induction n with
  | zero =>
    intro σ v0 v3 qσ hv0 hf
    cases hf
  | succ n ih => exact gw_X10_goesOn_174  _ ih
set_option maxRecDepth 100000 in
theorem gw_X10_goesOn_108 {ho : Nat → Bool} {σ0 : bl_St} {out : Unit × bl_St} (k108 : bl_St → Nat → Int32 → Option (Unit × bl_St)) (gk108 : ∀ (σ : bl_St) (v0 : Nat) (v3 : Int32), bl_Fq ho md_X10_goesOn σ0 σ → (bl_sh[v0]? = some (10, 28) ∧ ho v0 = true) → k108 σ v0 v3 = some out → bl_Fq ho md_X10_goesOn σ0 out.2) : ∀ (σ : bl_St) (v0 : Nat) (v3 : Int32), bl_Fq ho md_X10_goesOn σ0 σ → (bl_sh[v0]? = some (10, 28) ∧ ho v0 = true) → (b_X10_goesOn_108 k108) σ v0 v3 = some out → bl_Fq ho md_X10_goesOn σ0 out.2 := by
  intro σ v0 v3 qσ hv0 hf
  unfold b_X10_goesOn_108 at hf
  obtain ⟨r24, σ25, h26, hf⟩ := bl_bd_at hf
  have qσ25 := bl_Fq_call qσ (fr_X10_here σ v0 _ qσ.1 qσ.2.1 hv0.1 h26) (by decide)
  obtain ⟨r27, σ28, h29, hf⟩ := bl_bd_at hf
  have qσ28 := bl_Fq_call qσ25 (fr_X10_in σ25 (Int32.toInt64 r24) 97 122 _ qσ25.1 qσ25.2.1  h29) (by decide)
  rcases bl_if_at hf with hf | hf
  · rcases bl_if_at hf with hf | hf
    · obtain ⟨σ32, e33⟩ : ∃ z : bl_St, z = bl_pI σ28 v0 24 1 := ⟨_, rfl⟩
      have hf := bl_let_at e33 hf
      have qσ32 : bl_Fq ho md_X10_goesOn σ0 σ32 := by rw [e33]; exact bl_Fq_I qσ28 (bl_al_in hv0.1 (by decide) hv0.2)
      rw [← Option.some.inj hf]
      exact qσ32
    · obtain ⟨σ34, e35⟩ : ∃ z : bl_St, z = bl_pI σ28 v0 24 4 := ⟨_, rfl⟩
      have hf := bl_let_at e35 hf
      have qσ34 : bl_Fq ho md_X10_goesOn σ0 σ34 := by rw [e35]; exact bl_Fq_I qσ28 (bl_al_in hv0.1 (by decide) hv0.2)
      rw [← Option.some.inj hf]
      exact qσ34
  · obtain ⟨σ36, e37⟩ : ∃ z : bl_St, z = bl_pI σ28 v0 23 ((bl_I σ28 v0 23) + 1) := ⟨_, rfl⟩
    have hf := bl_let_at e37 hf
    have qσ36 : bl_Fq ho md_X10_goesOn σ0 σ36 := by rw [e37]; exact bl_Fq_I qσ28 (bl_al_in hv0.1 (by decide) hv0.2)
    exact gk108 σ36 v0 v3 qσ36 hv0 hf
theorem gl_X10_goesOn_108 {ho : Nat → Bool} {σ0 : bl_St} {out : Unit × bl_St} (n : Nat) : ∀ (σ : bl_St) (v0 : Nat) (v3 : Int32), bl_Fq ho md_X10_goesOn σ0 σ → (bl_sh[v0]? = some (10, 28) ∧ ho v0 = true) → (bl_fx (fun _ _ _ => none) (b_X10_goesOn_108 ) n) σ v0 v3 = some out → bl_Fq ho md_X10_goesOn σ0 out.2 := by
  induction n with
  | zero =>
    intro σ v0 v3 qσ hv0 hf
    cases hf
  | succ n ih => exact gw_X10_goesOn_108  _ ih
set_option maxRecDepth 100000 in
theorem gw_X10_goesOn_72 {ho : Nat → Bool} {σ0 : bl_St} {out : Unit × bl_St} : ∀ (σ : bl_St) (v0 : Nat) (s0 : Int32), bl_Fq ho md_X10_goesOn σ0 σ → (bl_sh[v0]? = some (10, 28) ∧ ho v0 = true) → (b_X10_goesOn_72 ) σ v0 s0 = some out → bl_Fq ho md_X10_goesOn σ0 out.2 := by
  intro σ v0 s0 qσ hv0 hf
  unfold b_X10_goesOn_72 at hf
  obtain ⟨r38, σ39, h40, hf⟩ := bl_bd_at hf
  have qσ39 := bl_Fq_call qσ (fr_X10_here σ v0 _ qσ.1 qσ.2.1 hv0.1 h40) (by decide)
  rcases bl_if_at hf with hf | hf
  · obtain ⟨σ59, e60⟩ : ∃ z : bl_St, z = bl_pI σ39 v0 24 0 := ⟨_, rfl⟩
    have hf := bl_let_at e60 hf
    have qσ59 : bl_Fq ho md_X10_goesOn σ0 σ59 := by rw [e60]; exact bl_Fq_I qσ39 (bl_al_in hv0.1 (by decide) hv0.2)
    rw [← Option.some.inj hf]
    exact qσ59
  · obtain ⟨r42, σ43, h44, hf⟩ := bl_bd_at hf
    have qσ43 := bl_Fq_call qσ39 (fr_X10_in σ39 (Int32.toInt64 r38) 97 122 _ qσ39.1 qσ39.2.1  h44) (by decide)
    rcases bl_if_at hf with hf | hf
    · obtain ⟨r46, σ47, h48, hf⟩ := bl_bd_at hf
      have qσ47 := bl_Fq_call qσ43 (fr_X10_in σ43 (Int32.toInt64 r38) 48 57 _ qσ43.1 qσ43.2.1  h48) (by decide)
      rcases bl_if_at hf with hf | hf
      · obtain ⟨σ50, e51⟩ : ∃ z : bl_St, z = bl_pI σ47 v0 23 ((bl_I σ47 v0 23) + 1) := ⟨_, rfl⟩
        have hf := bl_let_at e51 hf
        have qσ50 : bl_Fq ho md_X10_goesOn σ0 σ50 := by rw [e51]; exact bl_Fq_I qσ47 (bl_al_in hv0.1 (by decide) hv0.2)
        rcases bl_if_at hf with hf | hf
        · obtain ⟨σ55, e56⟩ : ∃ z : bl_St, z = bl_pI σ50 v0 24 3 := ⟨_, rfl⟩
          have hf := bl_let_at e56 hf
          have qσ55 : bl_Fq ho md_X10_goesOn σ0 σ55 := by rw [e56]; exact bl_Fq_I qσ50 (bl_al_in hv0.1 (by decide) hv0.2)
          rw [← Option.some.inj hf]
          exact qσ55
        · obtain ⟨σ53, e54⟩ : ∃ z : bl_St, z = bl_pI σ50 v0 24 4 := ⟨_, rfl⟩
          have hf := bl_let_at e54 hf
          have qσ53 : bl_Fq ho md_X10_goesOn σ0 σ53 := by rw [e54]; exact bl_Fq_I qσ50 (bl_al_in hv0.1 (by decide) hv0.2)
          rw [← Option.some.inj hf]
          exact qσ53
      · obtain ⟨σ57, e58⟩ : ∃ z : bl_St, z = bl_pI σ47 v0 26 0 := ⟨_, rfl⟩
        have hf := bl_let_at e58 hf
        have qσ57 : bl_Fq ho md_X10_goesOn σ0 σ57 := by rw [e58]; exact bl_Fq_I qσ47 (bl_al_in hv0.1 (by decide) hv0.2)
        exact gl_X10_goesOn_174  bl_fu σ57 v0 s0 qσ57 hv0 hf
    · exact gl_X10_goesOn_108  bl_fu σ43 v0 s0 qσ43 hv0 hf
set_option maxRecDepth 100000 in
theorem gw_X10_goesOn_71 {ho : Nat → Bool} {σ0 : bl_St} {out : Unit × bl_St} : ∀ (σ : bl_St) (v0 : Nat), bl_Fq ho md_X10_goesOn σ0 σ → (bl_sh[v0]? = some (10, 28) ∧ ho v0 = true) → (b_X10_goesOn_71 ) σ v0 = some out → bl_Fq ho md_X10_goesOn σ0 out.2 := by
  intro σ v0 qσ hv0 hf
  unfold b_X10_goesOn_71 at hf
  exact gw_X10_goesOn_72  σ v0 0 qσ hv0 hf
set_option maxRecDepth 100000 in
theorem gw_X10_goesOn_67 {ho : Nat → Bool} {σ0 : bl_St} {out : Unit × bl_St} : ∀ (σ : bl_St) (v0 : Nat), bl_Fq ho md_X10_goesOn σ0 σ → (bl_sh[v0]? = some (10, 28) ∧ ho v0 = true) → (b_X10_goesOn_67 ) σ v0 = some out → bl_Fq ho md_X10_goesOn σ0 out.2 := by
  intro σ v0 qσ hv0 hf
  unfold b_X10_goesOn_67 at hf
  exact gw_X10_goesOn_72  σ v0 1 qσ hv0 hf
set_option maxRecDepth 100000 in
theorem gw_X10_goesOn_28 {ho : Nat → Bool} {σ0 : bl_St} {out : Unit × bl_St} (k10 : bl_St → Nat → Int32 → Int32 → Option (Unit × bl_St)) (gk10 : ∀ (σ : bl_St) (v0 : Nat) (v1 : Int32) (v2 : Int32), bl_Fq ho md_X10_goesOn σ0 σ → (bl_sh[v0]? = some (10, 28) ∧ ho v0 = true) → k10 σ v0 v1 v2 = some out → bl_Fq ho md_X10_goesOn σ0 out.2) : ∀ (σ : bl_St) (v0 : Nat) (v1 : Int32) (v2 : Int32), bl_Fq ho md_X10_goesOn σ0 σ → (bl_sh[v0]? = some (10, 28) ∧ ho v0 = true) → (b_X10_goesOn_28 k10) σ v0 v1 v2 = some out → bl_Fq ho md_X10_goesOn σ0 out.2 := by
  intro σ v0 v1 v2 qσ hv0 hf
  unfold b_X10_goesOn_28 at hf
  obtain ⟨σ61, e62⟩ : ∃ z : bl_St, z = bl_pI σ v0 23 ((bl_I σ v0 23) + 1) := ⟨_, rfl⟩
  have hf := bl_let_at e62 hf
  have qσ61 : bl_Fq ho md_X10_goesOn σ0 σ61 := by rw [e62]; exact bl_Fq_I qσ (bl_al_in hv0.1 (by decide) hv0.2)
  exact gk10 σ61 v0 v1 v2 qσ61 hv0 hf
set_option maxRecDepth 100000 in
theorem gw_X10_goesOn_10 {ho : Nat → Bool} {σ0 : bl_St} {out : Unit × bl_St} (k10 : bl_St → Nat → Int32 → Int32 → Option (Unit × bl_St)) (gk10 : ∀ (σ : bl_St) (v0 : Nat) (v1 : Int32) (v2 : Int32), bl_Fq ho md_X10_goesOn σ0 σ → (bl_sh[v0]? = some (10, 28) ∧ ho v0 = true) → k10 σ v0 v1 v2 = some out → bl_Fq ho md_X10_goesOn σ0 out.2) : ∀ (σ : bl_St) (v0 : Nat) (v1 : Int32) (v2 : Int32), bl_Fq ho md_X10_goesOn σ0 σ → (bl_sh[v0]? = some (10, 28) ∧ ho v0 = true) → (b_X10_goesOn_10 k10) σ v0 v1 v2 = some out → bl_Fq ho md_X10_goesOn σ0 out.2 := by
  intro σ v0 v1 v2 qσ hv0 hf
  unfold b_X10_goesOn_10 at hf
  obtain ⟨r63, σ64, h65, hf⟩ := bl_bd_at hf
  have qσ64 := bl_Fq_call qσ (fr_X10_here σ v0 _ qσ.1 qσ.2.1 hv0.1 h65) (by decide)
  rcases bl_if_at hf with hf | hf
  · exact gw_X10_goesOn_28 k10 gk10 σ64 v0 v1 v2 qσ64 hv0 hf
  · obtain ⟨r67, σ68, h69, hf⟩ := bl_bd_at hf
    have qσ68 := bl_Fq_call qσ64 (fr_X10_here σ64 v0 _ qσ64.1 qσ64.2.1 hv0.1 h69) (by decide)
    rcases bl_if_at hf with hf | hf
    · exact gw_X10_goesOn_28 k10 gk10 σ68 v0 v1 v2 qσ68 hv0 hf
    · obtain ⟨σ71, e72⟩ : ∃ z : bl_St, z = bl_pI σ68 v0 25 (bl_I σ68 v0 23) := ⟨_, rfl⟩
      have hf := bl_let_at e72 hf
      have qσ71 : bl_Fq ho md_X10_goesOn σ0 σ71 := by rw [e72]; exact bl_Fq_I qσ68 (bl_al_in hv0.1 (by decide) hv0.2)
      rcases bl_if_at hf with hf | hf
      · rcases bl_if_at hf with hf | hf
        · exact gw_X10_goesOn_67  σ71 v0 qσ71 hv0 hf
        · rcases bl_if_at hf with hf | hf
          · exact gw_X10_goesOn_67  σ71 v0 qσ71 hv0 hf
          · exact gw_X10_goesOn_71  σ71 v0 qσ71 hv0 hf
      · exact gw_X10_goesOn_71  σ71 v0 qσ71 hv0 hf
theorem gl_X10_goesOn_10 {ho : Nat → Bool} {σ0 : bl_St} {out : Unit × bl_St} (n : Nat) : ∀ (σ : bl_St) (v0 : Nat) (v1 : Int32) (v2 : Int32), bl_Fq ho md_X10_goesOn σ0 σ → (bl_sh[v0]? = some (10, 28) ∧ ho v0 = true) → (bl_fx (fun _ _ _ _ => none) (b_X10_goesOn_10 ) n) σ v0 v1 v2 = some out → bl_Fq ho md_X10_goesOn σ0 out.2 := by
  induction n with
  | zero =>
    intro σ v0 v1 v2 qσ hv0 hf
    cases hf
  | succ n ih => exact gw_X10_goesOn_10  _ ih
set_option maxRecDepth 100000 in
theorem fr_X10_goesOn {ho : Nat → Bool} (σ : bl_St) (a0 : Nat) (o : Unit × bl_St) (hw : bl_WT σ) (hh : bl_WH ho σ) (ha0 : bl_sh[a0]? = some (10, 28) ∧ ho a0 = true) (hf : f_X10_goesOn σ a0 = some o) : bl_Fq ho md_X10_goesOn σ o.2 := by
  obtain ⟨σ0, hz⟩ : ∃ z, z = σ := ⟨_, rfl⟩
  suffices hgo : bl_Fq ho md_X10_goesOn σ0 o.2 by rw [hz] at hgo; exact hgo
  have qσ : bl_Fq ho md_X10_goesOn σ0 σ := by rw [hz]; exact ⟨hw, hh, fun _ _ => ⟨rfl, rfl, rfl⟩⟩
  unfold f_X10_goesOn at hf
  obtain ⟨x76, e77⟩ : ∃ z, z = (bl_I σ a0 24) := ⟨_, rfl⟩
  have hf := bl_let_at e77 hf
  obtain ⟨x78, e79⟩ : ∃ z, z = (bl_I σ a0 23) := ⟨_, rfl⟩
  have hf := bl_let_at e79 hf
  exact gl_X10_goesOn_10  bl_fu σ a0 x76 x78 qσ ha0 hf
def md_X10_takesWord : List (Nat × Nat) := [(10, 28)]
set_option maxRecDepth 100000 in
theorem gw_X10_takesWord_66 {ho : Nat → Bool} {σ0 : bl_St} {out : Int32 × bl_St} : ∀ (σ : bl_St) (v0 : Nat) (v2 : Int32) (v3 : Int32), bl_Fq ho md_X10_takesWord σ0 σ → (bl_sh[v0]? = some (10, 28) ∧ ho v0 = true) → (b_X10_takesWord_66 ) σ v0 v2 v3 = some out → bl_Fq ho md_X10_takesWord σ0 out.2 := by
  intro σ v0 v2 v3 qσ hv0 hf
  unfold b_X10_takesWord_66 at hf
  rcases bl_if_at hf with hf | hf
  · have h2 := bl_Fq_g qσ hv0 (k := 22) rfl (by decide)
    obtain ⟨-, hf⟩ := bl_gd_at hf
    rcases bl_if_at hf with hf | hf
    · obtain ⟨r5, σ6, h7, hf⟩ := bl_bd_at hf
      have qσ6 := bl_Fq_call qσ (fr_X10_goesOn σ v0 _ qσ.1 qσ.2.1 hv0 h7) (by decide)
      rw [← Option.some.inj hf]
      exact qσ6
    · rw [← Option.some.inj hf]
      exact qσ
  · rw [← Option.some.inj hf]
    exact qσ
set_option maxRecDepth 100000 in
theorem gw_X10_takesWord_25 {ho : Nat → Bool} {σ0 : bl_St} {out : Int32 × bl_St} (k25 : bl_St → Nat → Int32 → Int32 → Option (Int32 × bl_St)) (gk25 : ∀ (σ : bl_St) (v0 : Nat) (v2 : Int32) (v3 : Int32), bl_Fq ho md_X10_takesWord σ0 σ → (bl_sh[v0]? = some (10, 28) ∧ ho v0 = true) → k25 σ v0 v2 v3 = some out → bl_Fq ho md_X10_takesWord σ0 out.2) : ∀ (σ : bl_St) (v0 : Nat) (v2 : Int32) (v3 : Int32), bl_Fq ho md_X10_takesWord σ0 σ → (bl_sh[v0]? = some (10, 28) ∧ ho v0 = true) → (b_X10_takesWord_25 k25) σ v0 v2 v3 = some out → bl_Fq ho md_X10_takesWord σ0 out.2 := by
  intro σ v0 v2 v3 qσ hv0 hf
  unfold b_X10_takesWord_25 at hf
  rcases bl_if_at hf with hf | hf
  · exact gw_X10_takesWord_66  σ v0 v2 v3 qσ hv0 hf
  · have h9 := bl_Fq_g qσ hv0 (k := 22) rfl (by decide)
    obtain ⟨-, hf⟩ := bl_gd_at hf
    have h11 := bl_Fq_g qσ hv0 (k := 20) rfl (by decide)
    obtain ⟨-, hf⟩ := bl_gd_at hf
    rcases bl_if_at hf with hf | hf
    · obtain ⟨x14, e15⟩ : ∃ z : Int32, z = v3 + 1 := ⟨_, rfl⟩
      have hf := bl_let_at e15 hf
      exact gk25 σ v0 v2 x14 qσ hv0 hf
    · exact gw_X10_takesWord_66  σ v0 v2 v3 qσ hv0 hf
theorem gl_X10_takesWord_25 {ho : Nat → Bool} {σ0 : bl_St} {out : Int32 × bl_St} (n : Nat) : ∀ (σ : bl_St) (v0 : Nat) (v2 : Int32) (v3 : Int32), bl_Fq ho md_X10_takesWord σ0 σ → (bl_sh[v0]? = some (10, 28) ∧ ho v0 = true) → (bl_fx (fun _ _ _ _ => none) (b_X10_takesWord_25 ) n) σ v0 v2 v3 = some out → bl_Fq ho md_X10_takesWord σ0 out.2 := by
  induction n with
  | zero =>
    intro σ v0 v2 v3 qσ hv0 hf
    cases hf
  | succ n ih => exact gw_X10_takesWord_25  _ ih
set_option maxRecDepth 100000 in
theorem fr_X10_takesWord {ho : Nat → Bool} (σ : bl_St) (a0 : Nat) (a1 : Int32) (o : Int32 × bl_St) (hw : bl_WT σ) (hh : bl_WH ho σ) (ha0 : bl_sh[a0]? = some (10, 28) ∧ ho a0 = true) (hf : f_X10_takesWord σ a0 a1 = some o) : bl_Fq ho md_X10_takesWord σ o.2 := by
  obtain ⟨σ0, hz⟩ : ∃ z, z = σ := ⟨_, rfl⟩
  suffices hgo : bl_Fq ho md_X10_takesWord σ0 o.2 by rw [hz] at hgo; exact hgo
  have qσ : bl_Fq ho md_X10_takesWord σ0 σ := by rw [hz]; exact ⟨hw, hh, fun _ _ => ⟨rfl, rfl, rfl⟩⟩
  unfold f_X10_takesWord at hf
  rcases bl_if_at hf with hf | hf
  · rcases bl_if_at hf with hf | hf
    · obtain ⟨r18, σ19, h20, hf⟩ := bl_bd_at hf
      have qσ19 := bl_Fq_call qσ (fr_X10_wordFrom σ a0 a1 _ qσ.1 qσ.2.1 ha0.1 h20) (by decide)
      exact gl_X10_takesWord_25  bl_fu σ19 a0 r18 0 qσ19 ha0 hf
    · rw [← Option.some.inj hf]
      exact qσ
  · rw [← Option.some.inj hf]
    exact qσ
def md_X10_needsNumber : List (Nat × Nat) := [(10, 28)]
set_option maxRecDepth 100000 in
theorem fr_X10_needsNumber {ho : Nat → Bool} (σ : bl_St) (a0 : Nat) (a1 : Int32) (a2 : Int32) (o : Int32 × bl_St) (hw : bl_WT σ) (hh : bl_WH ho σ) (ha0 : bl_sh[a0]? = some (10, 28) ∧ ho a0 = true) (hf : f_X10_needsNumber σ a0 a1 a2 = some o) : bl_Fq ho md_X10_needsNumber σ o.2 := by
  obtain ⟨σ0, hz⟩ : ∃ z, z = σ := ⟨_, rfl⟩
  suffices hgo : bl_Fq ho md_X10_needsNumber σ0 o.2 by rw [hz] at hgo; exact hgo
  have qσ : bl_Fq ho md_X10_needsNumber σ0 σ := by rw [hz]; exact ⟨hw, hh, fun _ _ => ⟨rfl, rfl, rfl⟩⟩
  unfold f_X10_needsNumber at hf
  rcases bl_if_at hf with hf | hf
  · rcases bl_if_at hf with hf | hf
    · obtain ⟨r7, σ8, h9, hf⟩ := bl_bd_at hf
      have qσ8 := bl_Fq_call qσ (fr_X10_in σ (Int32.toInt64 (bl_I σ a0 26)) (Int32.toInt64 a1) (Int32.toInt64 a2) _ qσ.1 qσ.2.1  h9) (by decide)
      rcases bl_if_at hf with hf | hf
      · obtain ⟨σ16, e17⟩ : ∃ z : bl_St, z = bl_pI σ8 a0 27 1 := ⟨_, rfl⟩
        have hf := bl_let_at e17 hf
        have qσ16 : bl_Fq ho md_X10_needsNumber σ0 σ16 := by rw [e17]; exact bl_Fq_I qσ8 (bl_al_in ha0.1 (by decide) ha0.2)
        rw [← Option.some.inj hf]
        exact qσ16
      · obtain ⟨x11, e12⟩ : ∃ z, z = (bl_I σ8 a0 26) := ⟨_, rfl⟩
        have hf := bl_let_at e12 hf
        obtain ⟨r13, σ14, h15, hf⟩ := bl_bd_at hf
        have qσ14 := bl_Fq_call qσ8 (fr_X10_goesOn σ8 a0 _ qσ8.1 qσ8.2.1 ha0 h15) (by decide)
        rw [← Option.some.inj hf]
        exact qσ14
    · obtain ⟨σ5, e6⟩ : ∃ z : bl_St, z = bl_pI σ a0 27 1 := ⟨_, rfl⟩
      have hf := bl_let_at e6 hf
      have qσ5 : bl_Fq ho md_X10_needsNumber σ0 σ5 := by rw [e6]; exact bl_Fq_I qσ (bl_al_in ha0.1 (by decide) ha0.2)
      rw [← Option.some.inj hf]
      exact qσ5
  · obtain ⟨σ2, e3⟩ : ∃ z : bl_St, z = bl_pI σ a0 27 1 := ⟨_, rfl⟩
    have hf := bl_let_at e3 hf
    have qσ2 : bl_Fq ho md_X10_needsNumber σ0 σ2 := by rw [e3]; exact bl_Fq_I qσ (bl_al_in ha0.1 (by decide) ha0.2)
    rw [← Option.some.inj hf]
    exact qσ2
def md_X10_isRoom : List (Nat × Nat) := [(10, 28)]
set_option maxRecDepth 100000 in
theorem fr_X10_isRoom {ho : Nat → Bool} (σ : bl_St) (a0 : Nat) (a1 : Int32) (a2 : Int32) (a3 : Int32) (o : Int32 × bl_St) (hw : bl_WT σ) (hh : bl_WH ho σ) (ha0 : bl_sh[a0]? = some (10, 28) ∧ ho a0 = true) (hf : f_X10_isRoom σ a0 a1 a2 a3 = some o) : bl_Fq ho md_X10_isRoom σ o.2 := by
  obtain ⟨σ0, hz⟩ : ∃ z, z = σ := ⟨_, rfl⟩
  suffices hgo : bl_Fq ho md_X10_isRoom σ0 o.2 by rw [hz] at hgo; exact hgo
  have qσ : bl_Fq ho md_X10_isRoom σ0 σ := by rw [hz]; exact ⟨hw, hh, fun _ _ => ⟨rfl, rfl, rfl⟩⟩
  unfold f_X10_isRoom at hf
  have h1 := bl_Fq_g qσ ha0 (k := 2) rfl (by decide)
  obtain ⟨-, hf⟩ := bl_gd_at hf
  rcases bl_if_at hf with hf | hf
  · obtain ⟨σ4, e5⟩ : ∃ z : bl_St, z = bl_pI σ a0 25 a3 := ⟨_, rfl⟩
    have hf := bl_let_at e5 hf
    have qσ4 : bl_Fq ho md_X10_isRoom σ0 σ4 := by rw [e5]; exact bl_Fq_I qσ (bl_al_in ha0.1 (by decide) ha0.2)
    obtain ⟨σ6, e7⟩ : ∃ z : bl_St, z = bl_pI σ4 a0 27 1 := ⟨_, rfl⟩
    have hf := bl_let_at e7 hf
    have qσ6 : bl_Fq ho md_X10_isRoom σ0 σ6 := by rw [e7]; exact bl_Fq_I qσ4 (bl_al_in ha0.1 (by decide) ha0.2)
    rw [← Option.some.inj hf]
    exact qσ6
  · rw [← Option.some.inj hf]
    exact qσ
def md_X10_readsClass : List (Nat × Nat) := [(10, 28), (20, 167)]
set_option maxRecDepth 100000 in
theorem gw_X10_readsClass_59 {ho : Nat → Bool} {σ0 : bl_St} {out : Unit × bl_St} (k14 : bl_St → Nat → Int32 → Option (Unit × bl_St)) (gk14 : ∀ (σ : bl_St) (v0 : Nat) (v2 : Int32), bl_Fq ho md_X10_readsClass σ0 σ → (bl_sh[v0]? = some (10, 28) ∧ ho v0 = true) → k14 σ v0 v2 = some out → bl_Fq ho md_X10_readsClass σ0 out.2) : ∀ (σ : bl_St) (v0 : Nat) (v2 : Int32) (s0 : Int32) (s1 : Int32) (s2 : Nat) (s3 : Int32) (s4 : Nat), bl_Fq ho md_X10_readsClass σ0 σ → (bl_sh[v0]? = some (10, 28) ∧ ho v0 = true) → (bl_sh[s2]? = some (10, 28) ∧ ho s2 = true) → (bl_sh[s4]? = some (20, 167) ∧ ho s4 = true) → (b_X10_readsClass_59 k14) σ v0 v2 s0 s1 s2 s3 s4 = some out → bl_Fq ho md_X10_readsClass σ0 out.2 := by
  intro σ v0 v2 s0 s1 s2 s3 s4 qσ hv0 hs2 hs4 hf
  unfold b_X10_readsClass_59 at hf
  obtain ⟨r1, σ2, h3, hf⟩ := bl_bd_at hf
  have qσ2 := bl_Fq_call qσ (fr_X10_needsNumber σ s2 s1 s0 _ qσ.1 qσ.2.1 hs2 h3) (by decide)
  obtain ⟨-, hf⟩ := bl_gd_at hf
  obtain ⟨σ5, e6⟩ : ∃ z : bl_St, z = bl_pI σ2 s4 (Int32.toNatClampNeg s3) r1 := ⟨_, rfl⟩
  have hf := bl_let_at e6 hf
  have qσ5 : bl_Fq ho md_X10_readsClass σ0 σ5 := by rw [e6]; exact bl_Fq_I qσ2 (bl_al_in hs4.1 (by decide) hs4.2)
  obtain ⟨x7, e8⟩ : ∃ z : Int32, z = v2 + 1 := ⟨_, rfl⟩
  have hf := bl_let_at e8 hf
  exact gk14 σ5 v0 x7 qσ5 hv0 hf
set_option maxRecDepth 100000 in
theorem gw_X10_readsClass_14 {ho : Nat → Bool} {σ0 : bl_St} {out : Unit × bl_St} (k14 : bl_St → Nat → Int32 → Option (Unit × bl_St)) (gk14 : ∀ (σ : bl_St) (v0 : Nat) (v2 : Int32), bl_Fq ho md_X10_readsClass σ0 σ → (bl_sh[v0]? = some (10, 28) ∧ ho v0 = true) → k14 σ v0 v2 = some out → bl_Fq ho md_X10_readsClass σ0 out.2) : ∀ (σ : bl_St) (v0 : Nat) (v2 : Int32), bl_Fq ho md_X10_readsClass σ0 σ → (bl_sh[v0]? = some (10, 28) ∧ ho v0 = true) → (b_X10_readsClass_14 k14) σ v0 v2 = some out → bl_Fq ho md_X10_readsClass σ0 out.2 := by
  intro σ v0 v2 qσ hv0 hf
  unfold b_X10_readsClass_14 at hf
  rcases bl_if_at hf with hf | hf
  · have h10 := bl_Fq_g qσ hv0 (k := 2) rfl (by decide)
    obtain ⟨σ11, e12⟩ : ∃ z : bl_St, z = bl_pI σ (bl_R σ v0 2) 0 ((bl_I σ (bl_R σ v0 2) 0) + 1) := ⟨_, rfl⟩
    have hf := bl_let_at e12 hf
    have qσ11 : bl_Fq ho md_X10_readsClass σ0 σ11 := by rw [e12]; exact bl_Fq_I qσ (bl_al_in h10.1 (by decide) h10.2)
    rw [← Option.some.inj hf]
    exact qσ11
  · have h13 := bl_Fq_g qσ hv0 (k := 2) rfl (by decide)
    have h14 := bl_Fq_g qσ hv0 (k := 2) rfl (by decide)
    rcases bl_if_at hf with hf | hf
    · exact gw_X10_readsClass_59 k14 gk14 σ v0 v2 999 0 v0 ((5 + (5 * (bl_I σ (bl_R σ v0 2) 0))) + v2) (bl_R σ v0 2) qσ hv0 hv0 h13 hf
    · rcases bl_if_at hf with hf | hf
      · exact gw_X10_readsClass_59 k14 gk14 σ v0 v2 99 0 v0 ((5 + (5 * (bl_I σ (bl_R σ v0 2) 0))) + v2) (bl_R σ v0 2) qσ hv0 hv0 h13 hf
      · exact gw_X10_readsClass_59 k14 gk14 σ v0 v2 7 0 v0 ((5 + (5 * (bl_I σ (bl_R σ v0 2) 0))) + v2) (bl_R σ v0 2) qσ hv0 hv0 h13 hf
theorem gl_X10_readsClass_14 {ho : Nat → Bool} {σ0 : bl_St} {out : Unit × bl_St} (n : Nat) : ∀ (σ : bl_St) (v0 : Nat) (v2 : Int32), bl_Fq ho md_X10_readsClass σ0 σ → (bl_sh[v0]? = some (10, 28) ∧ ho v0 = true) → (bl_fx (fun _ _ _ => none) (b_X10_readsClass_14 ) n) σ v0 v2 = some out → bl_Fq ho md_X10_readsClass σ0 out.2 := by
  induction n with
  | zero =>
    intro σ v0 v2 qσ hv0 hf
    cases hf
  | succ n ih => exact gw_X10_readsClass_14  _ ih
set_option maxRecDepth 100000 in
theorem fr_X10_readsClass {ho : Nat → Bool} (σ : bl_St) (a0 : Nat) (a1 : Int32) (o : Unit × bl_St) (hw : bl_WT σ) (hh : bl_WH ho σ) (ha0 : bl_sh[a0]? = some (10, 28) ∧ ho a0 = true) (hf : f_X10_readsClass σ a0 a1 = some o) : bl_Fq ho md_X10_readsClass σ o.2 := by
  obtain ⟨σ0, hz⟩ : ∃ z, z = σ := ⟨_, rfl⟩
  suffices hgo : bl_Fq ho md_X10_readsClass σ0 o.2 by rw [hz] at hgo; exact hgo
  have qσ : bl_Fq ho md_X10_readsClass σ0 σ := by rw [hz]; exact ⟨hw, hh, fun _ _ => ⟨rfl, rfl, rfl⟩⟩
  unfold f_X10_readsClass at hf
  obtain ⟨r17, σ18, h19, hf⟩ := bl_bd_at hf
  have qσ18 := bl_Fq_call qσ (fr_X10_isRoom σ a0 0 8 a1 _ qσ.1 qσ.2.1 ha0 h19) (by decide)
  rcases bl_if_at hf with hf | hf
  · rw [← Option.some.inj hf]
    exact qσ18
  · exact gl_X10_readsClass_14  bl_fu σ18 a0 0 qσ18 ha0 hf
def md_X10_readsLoss : List (Nat × Nat) := [(10, 28), (20, 167)]
set_option maxRecDepth 100000 in
theorem gw_X10_readsLoss_49 {ho : Nat → Bool} {σ0 : bl_St} {out : Unit × bl_St} (k13 : bl_St → Nat → Int32 → Option (Unit × bl_St)) (gk13 : ∀ (σ : bl_St) (v0 : Nat) (v2 : Int32), bl_Fq ho md_X10_readsLoss σ0 σ → (bl_sh[v0]? = some (10, 28) ∧ ho v0 = true) → k13 σ v0 v2 = some out → bl_Fq ho md_X10_readsLoss σ0 out.2) : ∀ (σ : bl_St) (v0 : Nat) (v2 : Int32) (s0 : Int32) (s1 : Int32) (s2 : Nat) (s3 : Int32) (s4 : Nat), bl_Fq ho md_X10_readsLoss σ0 σ → (bl_sh[v0]? = some (10, 28) ∧ ho v0 = true) → (bl_sh[s2]? = some (10, 28) ∧ ho s2 = true) → (bl_sh[s4]? = some (20, 167) ∧ ho s4 = true) → (b_X10_readsLoss_49 k13) σ v0 v2 s0 s1 s2 s3 s4 = some out → bl_Fq ho md_X10_readsLoss σ0 out.2 := by
  intro σ v0 v2 s0 s1 s2 s3 s4 qσ hv0 hs2 hs4 hf
  unfold b_X10_readsLoss_49 at hf
  obtain ⟨r1, σ2, h3, hf⟩ := bl_bd_at hf
  have qσ2 := bl_Fq_call qσ (fr_X10_needsNumber σ s2 s1 s0 _ qσ.1 qσ.2.1 hs2 h3) (by decide)
  obtain ⟨-, hf⟩ := bl_gd_at hf
  obtain ⟨σ5, e6⟩ : ∃ z : bl_St, z = bl_pI σ2 s4 (Int32.toNatClampNeg s3) r1 := ⟨_, rfl⟩
  have hf := bl_let_at e6 hf
  have qσ5 : bl_Fq ho md_X10_readsLoss σ0 σ5 := by rw [e6]; exact bl_Fq_I qσ2 (bl_al_in hs4.1 (by decide) hs4.2)
  obtain ⟨x7, e8⟩ : ∃ z : Int32, z = v2 + 1 := ⟨_, rfl⟩
  have hf := bl_let_at e8 hf
  exact gk13 σ5 v0 x7 qσ5 hv0 hf
set_option maxRecDepth 100000 in
theorem gw_X10_readsLoss_13 {ho : Nat → Bool} {σ0 : bl_St} {out : Unit × bl_St} (k13 : bl_St → Nat → Int32 → Option (Unit × bl_St)) (gk13 : ∀ (σ : bl_St) (v0 : Nat) (v2 : Int32), bl_Fq ho md_X10_readsLoss σ0 σ → (bl_sh[v0]? = some (10, 28) ∧ ho v0 = true) → k13 σ v0 v2 = some out → bl_Fq ho md_X10_readsLoss σ0 out.2) : ∀ (σ : bl_St) (v0 : Nat) (v2 : Int32), bl_Fq ho md_X10_readsLoss σ0 σ → (bl_sh[v0]? = some (10, 28) ∧ ho v0 = true) → (b_X10_readsLoss_13 k13) σ v0 v2 = some out → bl_Fq ho md_X10_readsLoss σ0 out.2 := by
  intro σ v0 v2 qσ hv0 hf
  unfold b_X10_readsLoss_13 at hf
  rcases bl_if_at hf with hf | hf
  · have h10 := bl_Fq_g qσ hv0 (k := 2) rfl (by decide)
    obtain ⟨σ11, e12⟩ : ∃ z : bl_St, z = bl_pI σ (bl_R σ v0 2) 1 ((bl_I σ (bl_R σ v0 2) 1) + 1) := ⟨_, rfl⟩
    have hf := bl_let_at e12 hf
    have qσ11 : bl_Fq ho md_X10_readsLoss σ0 σ11 := by rw [e12]; exact bl_Fq_I qσ (bl_al_in h10.1 (by decide) h10.2)
    rw [← Option.some.inj hf]
    exact qσ11
  · have h13 := bl_Fq_g qσ hv0 (k := 2) rfl (by decide)
    have h14 := bl_Fq_g qσ hv0 (k := 2) rfl (by decide)
    rcases bl_if_at hf with hf | hf
    · exact gw_X10_readsLoss_49 k13 gk13 σ v0 v2 999 1 v0 ((45 + (2 * (bl_I σ (bl_R σ v0 2) 1))) + v2) (bl_R σ v0 2) qσ hv0 hv0 h13 hf
    · exact gw_X10_readsLoss_49 k13 gk13 σ v0 v2 9 1 v0 ((45 + (2 * (bl_I σ (bl_R σ v0 2) 1))) + v2) (bl_R σ v0 2) qσ hv0 hv0 h13 hf
theorem gl_X10_readsLoss_13 {ho : Nat → Bool} {σ0 : bl_St} {out : Unit × bl_St} (n : Nat) : ∀ (σ : bl_St) (v0 : Nat) (v2 : Int32), bl_Fq ho md_X10_readsLoss σ0 σ → (bl_sh[v0]? = some (10, 28) ∧ ho v0 = true) → (bl_fx (fun _ _ _ => none) (b_X10_readsLoss_13 ) n) σ v0 v2 = some out → bl_Fq ho md_X10_readsLoss σ0 out.2 := by
  induction n with
  | zero =>
    intro σ v0 v2 qσ hv0 hf
    cases hf
  | succ n ih => exact gw_X10_readsLoss_13  _ ih
set_option maxRecDepth 100000 in
theorem fr_X10_readsLoss {ho : Nat → Bool} (σ : bl_St) (a0 : Nat) (a1 : Int32) (o : Unit × bl_St) (hw : bl_WT σ) (hh : bl_WH ho σ) (ha0 : bl_sh[a0]? = some (10, 28) ∧ ho a0 = true) (hf : f_X10_readsLoss σ a0 a1 = some o) : bl_Fq ho md_X10_readsLoss σ o.2 := by
  obtain ⟨σ0, hz⟩ : ∃ z, z = σ := ⟨_, rfl⟩
  suffices hgo : bl_Fq ho md_X10_readsLoss σ0 o.2 by rw [hz] at hgo; exact hgo
  have qσ : bl_Fq ho md_X10_readsLoss σ0 σ := by rw [hz]; exact ⟨hw, hh, fun _ _ => ⟨rfl, rfl, rfl⟩⟩
  unfold f_X10_readsLoss at hf
  obtain ⟨r16, σ17, h18, hf⟩ := bl_bd_at hf
  have qσ17 := bl_Fq_call qσ (fr_X10_isRoom σ a0 1 5 a1 _ qσ.1 qσ.2.1 ha0 h18) (by decide)
  rcases bl_if_at hf with hf | hf
  · rw [← Option.some.inj hf]
    exact qσ17
  · exact gl_X10_readsLoss_13  bl_fu σ17 a0 0 qσ17 ha0 hf
def md_X10_readsOne : List (Nat × Nat) := [(10, 28), (20, 167)]
set_option maxRecDepth 100000 in
theorem gw_X10_readsOne_113 {ho : Nat → Bool} {σ0 : bl_St} {out : Unit × bl_St} : ∀ (σ : bl_St) (v0 : Nat), bl_Fq ho md_X10_readsOne σ0 σ → (bl_sh[v0]? = some (10, 28) ∧ ho v0 = true) → (b_X10_readsOne_113 ) σ v0 = some out → bl_Fq ho md_X10_readsOne σ0 out.2 := by
  intro σ v0 qσ hv0 hf
  unfold b_X10_readsOne_113 at hf
  rcases bl_if_at hf with hf | hf
  · rcases bl_if_at hf with hf | hf
    · obtain ⟨r5, σ6, h7, hf⟩ := bl_bd_at hf
      have qσ6 := bl_Fq_call qσ (fr_X10_goesOn σ v0 _ qσ.1 qσ.2.1 hv0 h7) (by decide)
      rw [← Option.some.inj hf]
      exact qσ6
    · obtain ⟨σ3, e4⟩ : ∃ z : bl_St, z = bl_pI σ v0 27 1 := ⟨_, rfl⟩
      have hf := bl_let_at e4 hf
      have qσ3 : bl_Fq ho md_X10_readsOne σ0 σ3 := by rw [e4]; exact bl_Fq_I qσ (bl_al_in hv0.1 (by decide) hv0.2)
      rw [← Option.some.inj hf]
      exact qσ3
  · rw [← Option.some.inj hf]
    exact qσ
set_option maxRecDepth 100000 in
theorem fr_X10_readsOne {ho : Nat → Bool} (σ : bl_St) (a0 : Nat) (o : Unit × bl_St) (hw : bl_WT σ) (hh : bl_WH ho σ) (ha0 : bl_sh[a0]? = some (10, 28) ∧ ho a0 = true) (hf : f_X10_readsOne σ a0 = some o) : bl_Fq ho md_X10_readsOne σ o.2 := by
  obtain ⟨σ0, hz⟩ : ∃ z, z = σ := ⟨_, rfl⟩
  suffices hgo : bl_Fq ho md_X10_readsOne σ0 o.2 by rw [hz] at hgo; exact hgo
  have qσ : bl_Fq ho md_X10_readsOne σ0 σ := by rw [hz]; exact ⟨hw, hh, fun _ _ => ⟨rfl, rfl, rfl⟩⟩
  unfold f_X10_readsOne at hf
  obtain ⟨x8, e9⟩ : ∃ z, z = (bl_I σ a0 25) := ⟨_, rfl⟩
  have hf := bl_let_at e9 hf
  obtain ⟨r10, σ11, h12, hf⟩ := bl_bd_at hf
  have qσ11 := bl_Fq_call qσ (fr_X10_takesWord σ a0 0 _ qσ.1 qσ.2.1 ha0 h12) (by decide)
  rcases bl_if_at hf with hf | hf
  · obtain ⟨r14, σ15, h16, hf⟩ := bl_bd_at hf
    have qσ15 := bl_Fq_call qσ11 (fr_X10_takesWord σ11 a0 1 _ qσ11.1 qσ11.2.1 ha0 h16) (by decide)
    rcases bl_if_at hf with hf | hf
    · obtain ⟨r18, σ19, h20, hf⟩ := bl_bd_at hf
      have qσ19 := bl_Fq_call qσ15 (fr_X10_takesWord σ15 a0 2 _ qσ15.1 qσ15.2.1 ha0 h20) (by decide)
      rcases bl_if_at hf with hf | hf
      · obtain ⟨r22, σ23, h24, hf⟩ := bl_bd_at hf
        have qσ23 := bl_Fq_call qσ19 (fr_X10_takesWord σ19 a0 3 _ qσ19.1 qσ19.2.1 ha0 h24) (by decide)
        rcases bl_if_at hf with hf | hf
        · obtain ⟨r26, σ27, h28, hf⟩ := bl_bd_at hf
          have qσ27 := bl_Fq_call qσ23 (fr_X10_takesWord σ23 a0 4 _ qσ23.1 qσ23.2.1 ha0 h28) (by decide)
          rcases bl_if_at hf with hf | hf
          · obtain ⟨σ30, e31⟩ : ∃ z : bl_St, z = bl_pI σ27 a0 27 1 := ⟨_, rfl⟩
            have hf := bl_let_at e31 hf
            have qσ30 : bl_Fq ho md_X10_readsOne σ0 σ30 := by rw [e31]; exact bl_Fq_I qσ27 (bl_al_in ha0.1 (by decide) ha0.2)
            exact gw_X10_readsOne_113  σ30 a0 qσ30 ha0 hf
          · have h32 := bl_Fq_g qσ27 ha0 (k := 2) rfl (by decide)
            obtain ⟨r33, σ34, h35, hf⟩ := bl_bd_at hf
            have qσ34 := bl_Fq_call qσ27 (fr_X10_needsNumber σ27 a0 0 99 _ qσ27.1 qσ27.2.1 ha0 h35) (by decide)
            obtain ⟨σ36, e37⟩ : ∃ z : bl_St, z = bl_pI σ34 (bl_R σ27 a0 2) 4 r33 := ⟨_, rfl⟩
            have hf := bl_let_at e37 hf
            have qσ36 : bl_Fq ho md_X10_readsOne σ0 σ36 := by rw [e37]; exact bl_Fq_I qσ34 (bl_al_in h32.1 (by decide) h32.2)
            exact gw_X10_readsOne_113  σ36 a0 qσ36 ha0 hf
        · have h38 := bl_Fq_g qσ23 ha0 (k := 2) rfl (by decide)
          obtain ⟨r39, σ40, h41, hf⟩ := bl_bd_at hf
          have qσ40 := bl_Fq_call qσ23 (fr_X10_needsNumber σ23 a0 0 12 _ qσ23.1 qσ23.2.1 ha0 h41) (by decide)
          obtain ⟨σ42, e43⟩ : ∃ z : bl_St, z = bl_pI σ40 (bl_R σ23 a0 2) 3 r39 := ⟨_, rfl⟩
          have hf := bl_let_at e43 hf
          have qσ42 : bl_Fq ho md_X10_readsOne σ0 σ42 := by rw [e43]; exact bl_Fq_I qσ40 (bl_al_in h38.1 (by decide) h38.2)
          exact gw_X10_readsOne_113  σ42 a0 qσ42 ha0 hf
      · have h44 := bl_Fq_g qσ19 ha0 (k := 2) rfl (by decide)
        obtain ⟨r45, σ46, h47, hf⟩ := bl_bd_at hf
        have qσ46 := bl_Fq_call qσ19 (fr_X10_needsNumber σ19 a0 1 3 _ qσ19.1 qσ19.2.1 ha0 h47) (by decide)
        obtain ⟨σ48, e49⟩ : ∃ z : bl_St, z = bl_pI σ46 (bl_R σ19 a0 2) 2 r45 := ⟨_, rfl⟩
        have hf := bl_let_at e49 hf
        have qσ48 : bl_Fq ho md_X10_readsOne σ0 σ48 := by rw [e49]; exact bl_Fq_I qσ46 (bl_al_in h44.1 (by decide) h44.2)
        exact gw_X10_readsOne_113  σ48 a0 qσ48 ha0 hf
    · obtain ⟨r50, σ51, h52, hf⟩ := bl_bd_at hf
      have qσ51 := bl_Fq_call qσ15 (fr_X10_readsLoss σ15 a0 x8 _ qσ15.1 qσ15.2.1 ha0 h52) (by decide)
      exact gw_X10_readsOne_113  σ51 a0 qσ51 ha0 hf
  · obtain ⟨r53, σ54, h55, hf⟩ := bl_bd_at hf
    have qσ54 := bl_Fq_call qσ11 (fr_X10_readsClass σ11 a0 x8 _ qσ11.1 qσ11.2.1 ha0 h55) (by decide)
    exact gw_X10_readsOne_113  σ54 a0 qσ54 ha0 hf
def md_X10_looksOver : List (Nat × Nat) := [(10, 28)]
set_option maxRecDepth 100000 in
theorem gw_X10_looksOver_80 {ho : Nat → Bool} {σ0 : bl_St} {out : Unit × bl_St} (k41 : bl_St → Nat → Int32 → Int32 → Option (Unit × bl_St)) (gk41 : ∀ (σ : bl_St) (v0 : Nat) (v1 : Int32) (v2 : Int32), bl_Fq ho md_X10_looksOver σ0 σ → (bl_sh[v0]? = some (10, 28) ∧ ho v0 = true) → k41 σ v0 v1 v2 = some out → bl_Fq ho md_X10_looksOver σ0 out.2) : ∀ (σ : bl_St) (v0 : Nat) (v1 : Int32) (v2 : Int32) (s0 : Int32) (s1 : Nat), bl_Fq ho md_X10_looksOver σ0 σ → (bl_sh[v0]? = some (10, 28) ∧ ho v0 = true) → (bl_sh[s1]? = some (10, 28) ∧ ho s1 = true) → (b_X10_looksOver_80 k41) σ v0 v1 v2 s0 s1 = some out → bl_Fq ho md_X10_looksOver σ0 out.2 := by
  intro σ v0 v1 v2 s0 s1 qσ hv0 hs1 hf
  unfold b_X10_looksOver_80 at hf
  obtain ⟨-, hf⟩ := bl_gd_at hf
  obtain ⟨σ2, e3⟩ : ∃ z : bl_St, z = bl_pI σ s1 27 s0 := ⟨_, rfl⟩
  have hf := bl_let_at e3 hf
  have qσ2 : bl_Fq ho md_X10_looksOver σ0 σ2 := by rw [e3]; exact bl_Fq_I qσ (bl_al_in hs1.1 (by decide) hs1.2)
  obtain ⟨x4, e5⟩ : ∃ z : Int32, z = v2 + 1 := ⟨_, rfl⟩
  have hf := bl_let_at e5 hf
  exact gk41 σ2 v0 v1 x4 qσ2 hv0 hf
set_option maxRecDepth 100000 in
theorem gw_X10_looksOver_75 {ho : Nat → Bool} {σ0 : bl_St} {out : Unit × bl_St} (k41 : bl_St → Nat → Int32 → Int32 → Option (Unit × bl_St)) (gk41 : ∀ (σ : bl_St) (v0 : Nat) (v1 : Int32) (v2 : Int32), bl_Fq ho md_X10_looksOver σ0 σ → (bl_sh[v0]? = some (10, 28) ∧ ho v0 = true) → k41 σ v0 v1 v2 = some out → bl_Fq ho md_X10_looksOver σ0 out.2) : ∀ (σ : bl_St) (v0 : Nat) (v1 : Int32) (v2 : Int32) (s0 : Nat), bl_Fq ho md_X10_looksOver σ0 σ → (bl_sh[v0]? = some (10, 28) ∧ ho v0 = true) → (bl_sh[s0]? = some (10, 28) ∧ ho s0 = true) → (b_X10_looksOver_75 k41) σ v0 v1 v2 s0 = some out → bl_Fq ho md_X10_looksOver σ0 out.2 := by
  intro σ v0 v1 v2 s0 qσ hv0 hs0 hf
  unfold b_X10_looksOver_75 at hf
  exact gw_X10_looksOver_80 k41 gk41 σ v0 v1 v2 1 s0 qσ hv0 hs0 hf
set_option maxRecDepth 100000 in
theorem gw_X10_looksOver_41 {ho : Nat → Bool} {σ0 : bl_St} {out : Unit × bl_St} (k29 : bl_St → Nat → Int32 → Option (Unit × bl_St)) (gk29 : ∀ (σ : bl_St) (v0 : Nat) (v1 : Int32), bl_Fq ho md_X10_looksOver σ0 σ → (bl_sh[v0]? = some (10, 28) ∧ ho v0 = true) → k29 σ v0 v1 = some out → bl_Fq ho md_X10_looksOver σ0 out.2) (k41 : bl_St → Nat → Int32 → Int32 → Option (Unit × bl_St)) (gk41 : ∀ (σ : bl_St) (v0 : Nat) (v1 : Int32) (v2 : Int32), bl_Fq ho md_X10_looksOver σ0 σ → (bl_sh[v0]? = some (10, 28) ∧ ho v0 = true) → k41 σ v0 v1 v2 = some out → bl_Fq ho md_X10_looksOver σ0 out.2) : ∀ (σ : bl_St) (v0 : Nat) (v1 : Int32) (v2 : Int32), bl_Fq ho md_X10_looksOver σ0 σ → (bl_sh[v0]? = some (10, 28) ∧ ho v0 = true) → (b_X10_looksOver_41 k29 k41) σ v0 v1 v2 = some out → bl_Fq ho md_X10_looksOver σ0 out.2 := by
  intro σ v0 v1 v2 qσ hv0 hf
  unfold b_X10_looksOver_41 at hf
  rcases bl_if_at hf with hf | hf
  · obtain ⟨x7, e8⟩ : ∃ z : Int32, z = v1 + 1 := ⟨_, rfl⟩
    have hf := bl_let_at e8 hf
    exact gk29 σ v0 x7 qσ hv0 hf
  · rcases bl_if_at hf with hf | hf
    · have h10 := bl_Fq_g qσ hv0 (k := 2) rfl (by decide)
      obtain ⟨-, hf⟩ := bl_gd_at hf
      have h12 := bl_Fq_g qσ hv0 (k := 2) rfl (by decide)
      rcases bl_if_at hf with hf | hf
      · exact gw_X10_looksOver_80 k41 gk41 σ v0 v1 v2 0 v0 qσ hv0 hv0 hf
      · exact gw_X10_looksOver_75 k41 gk41 σ v0 v1 v2 v0 qσ hv0 hv0 hf
    · exact gw_X10_looksOver_75 k41 gk41 σ v0 v1 v2 v0 qσ hv0 hv0 hf
theorem gl_X10_looksOver_41 {ho : Nat → Bool} {σ0 : bl_St} {out : Unit × bl_St} (k29 : bl_St → Nat → Int32 → Option (Unit × bl_St)) (gk29 : ∀ (σ : bl_St) (v0 : Nat) (v1 : Int32), bl_Fq ho md_X10_looksOver σ0 σ → (bl_sh[v0]? = some (10, 28) ∧ ho v0 = true) → k29 σ v0 v1 = some out → bl_Fq ho md_X10_looksOver σ0 out.2) (n : Nat) : ∀ (σ : bl_St) (v0 : Nat) (v1 : Int32) (v2 : Int32), bl_Fq ho md_X10_looksOver σ0 σ → (bl_sh[v0]? = some (10, 28) ∧ ho v0 = true) → (bl_fx (fun _ _ _ _ => none) (b_X10_looksOver_41 k29) n) σ v0 v1 v2 = some out → bl_Fq ho md_X10_looksOver σ0 out.2 := by
  induction n with
  | zero =>
    intro σ v0 v1 v2 qσ hv0 hf
    cases hf
  | succ n ih => exact gw_X10_looksOver_41 k29 gk29 _ ih
set_option maxRecDepth 100000 in
theorem gw_X10_looksOver_29 {ho : Nat → Bool} {σ0 : bl_St} {out : Unit × bl_St} (k29 : bl_St → Nat → Int32 → Option (Unit × bl_St)) (gk29 : ∀ (σ : bl_St) (v0 : Nat) (v1 : Int32), bl_Fq ho md_X10_looksOver σ0 σ → (bl_sh[v0]? = some (10, 28) ∧ ho v0 = true) → k29 σ v0 v1 = some out → bl_Fq ho md_X10_looksOver σ0 out.2) : ∀ (σ : bl_St) (v0 : Nat) (v1 : Int32), bl_Fq ho md_X10_looksOver σ0 σ → (bl_sh[v0]? = some (10, 28) ∧ ho v0 = true) → (b_X10_looksOver_29 k29) σ v0 v1 = some out → bl_Fq ho md_X10_looksOver σ0 out.2 := by
  intro σ v0 v1 qσ hv0 hf
  unfold b_X10_looksOver_29 at hf
  have h14 := bl_Fq_g qσ hv0 (k := 2) rfl (by decide)
  rcases bl_if_at hf with hf | hf
  · rw [← Option.some.inj hf]
    exact qσ
  · exact gl_X10_looksOver_41 k29 gk29 bl_fu σ v0 v1 1 qσ hv0 hf
theorem gl_X10_looksOver_29 {ho : Nat → Bool} {σ0 : bl_St} {out : Unit × bl_St} (n : Nat) : ∀ (σ : bl_St) (v0 : Nat) (v1 : Int32), bl_Fq ho md_X10_looksOver σ0 σ → (bl_sh[v0]? = some (10, 28) ∧ ho v0 = true) → (bl_fx (fun _ _ _ => none) (b_X10_looksOver_29 ) n) σ v0 v1 = some out → bl_Fq ho md_X10_looksOver σ0 out.2 := by
  induction n with
  | zero =>
    intro σ v0 v1 qσ hv0 hf
    cases hf
  | succ n ih => exact gw_X10_looksOver_29  _ ih
set_option maxRecDepth 100000 in
theorem gw_X10_looksOver_24 {ho : Nat → Bool} {σ0 : bl_St} {out : Unit × bl_St} : ∀ (σ : bl_St) (v0 : Nat) (s0 : Int32) (s1 : Nat), bl_Fq ho md_X10_looksOver σ0 σ → (bl_sh[v0]? = some (10, 28) ∧ ho v0 = true) → (bl_sh[s1]? = some (10, 28) ∧ ho s1 = true) → (b_X10_looksOver_24 ) σ v0 s0 s1 = some out → bl_Fq ho md_X10_looksOver σ0 out.2 := by
  intro σ v0 s0 s1 qσ hv0 hs1 hf
  unfold b_X10_looksOver_24 at hf
  obtain ⟨-, hf⟩ := bl_gd_at hf
  obtain ⟨σ17, e18⟩ : ∃ z : bl_St, z = bl_pI σ s1 27 s0 := ⟨_, rfl⟩
  have hf := bl_let_at e18 hf
  have qσ17 : bl_Fq ho md_X10_looksOver σ0 σ17 := by rw [e18]; exact bl_Fq_I qσ (bl_al_in hs1.1 (by decide) hs1.2)
  exact gl_X10_looksOver_29  bl_fu σ17 v0 0 qσ17 hv0 hf
set_option maxRecDepth 100000 in
theorem gw_X10_looksOver_19 {ho : Nat → Bool} {σ0 : bl_St} {out : Unit × bl_St} : ∀ (σ : bl_St) (v0 : Nat) (s0 : Nat), bl_Fq ho md_X10_looksOver σ0 σ → (bl_sh[v0]? = some (10, 28) ∧ ho v0 = true) → (bl_sh[s0]? = some (10, 28) ∧ ho s0 = true) → (b_X10_looksOver_19 ) σ v0 s0 = some out → bl_Fq ho md_X10_looksOver σ0 out.2 := by
  intro σ v0 s0 qσ hv0 hs0 hf
  unfold b_X10_looksOver_19 at hf
  exact gw_X10_looksOver_24  σ v0 1 s0 qσ hv0 hs0 hf
set_option maxRecDepth 100000 in
theorem fr_X10_looksOver {ho : Nat → Bool} (σ : bl_St) (a0 : Nat) (o : Unit × bl_St) (hw : bl_WT σ) (hh : bl_WH ho σ) (ha0 : bl_sh[a0]? = some (10, 28) ∧ ho a0 = true) (hf : f_X10_looksOver σ a0 = some o) : bl_Fq ho md_X10_looksOver σ o.2 := by
  obtain ⟨σ0, hz⟩ : ∃ z, z = σ := ⟨_, rfl⟩
  suffices hgo : bl_Fq ho md_X10_looksOver σ0 o.2 by rw [hz] at hgo; exact hgo
  have qσ : bl_Fq ho md_X10_looksOver σ0 σ := by rw [hz]; exact ⟨hw, hh, fun _ _ => ⟨rfl, rfl, rfl⟩⟩
  unfold f_X10_looksOver at hf
  have h19 := bl_Fq_g qσ ha0 (k := 2) rfl (by decide)
  rcases bl_if_at hf with hf | hf
  · exact gw_X10_looksOver_19  σ a0 a0 qσ ha0 ha0 hf
  · have h21 := bl_Fq_g qσ ha0 (k := 2) rfl (by decide)
    rcases bl_if_at hf with hf | hf
    · exact gw_X10_looksOver_19  σ a0 a0 qσ ha0 ha0 hf
    · exact gw_X10_looksOver_24  σ a0 0 a0 qσ ha0 ha0 hf
def md_X10_text : List (Nat × Nat) := [(10, 28), (20, 167)]
set_option maxRecDepth 100000 in
theorem gw_X10_text_58 {ho : Nat → Bool} {σ0 : bl_St} {out : Int32 × bl_St} : ∀ (σ : bl_St) (v0 : Nat), bl_Fq ho md_X10_text σ0 σ → (bl_sh[v0]? = some (10, 28) ∧ ho v0 = true) → (b_X10_text_58 ) σ v0 = some out → bl_Fq ho md_X10_text σ0 out.2 := by
  intro σ v0 qσ hv0 hf
  unfold b_X10_text_58 at hf
  obtain ⟨σ1, e2⟩ : ∃ z : bl_St, z = bl_pI σ v0 21 0 := ⟨_, rfl⟩
  have hf := bl_let_at e2 hf
  have qσ1 : bl_Fq ho md_X10_text σ0 σ1 := by rw [e2]; exact bl_Fq_I qσ (bl_al_in hv0.1 (by decide) hv0.2)
  rcases bl_if_at hf with hf | hf
  · have h4 := bl_Fq_g qσ1 hv0 (k := 2) rfl (by decide)
    have h5 := bl_Fq_g qσ1 hv0 (k := 1) rfl (by decide)
    obtain ⟨r6, σ7, h8, hf⟩ := bl_bd_at hf
    have qσ7 := bl_Fq_call qσ1 (fr_X10_copies σ1 (bl_R σ1 v0 2) (bl_R σ1 v0 1) _ qσ1.1 qσ1.2.1 h4.1 h5 h8) (by decide)
    obtain ⟨σ9, e10⟩ : ∃ z : bl_St, z = bl_pI σ7 v0 5 0 := ⟨_, rfl⟩
    have hf := bl_let_at e10 hf
    have qσ9 : bl_Fq ho md_X10_text σ0 σ9 := by rw [e10]; exact bl_Fq_I qσ7 (bl_al_in hv0.1 (by decide) hv0.2)
    have h11 := bl_Fq_g qσ9 hv0 (k := 1) rfl (by decide)
    rw [← Option.some.inj hf]
    exact qσ9
  · rw [← Option.some.inj hf]
    exact qσ1
set_option maxRecDepth 100000 in
theorem gw_X10_text_47 {ho : Nat → Bool} {σ0 : bl_St} {out : Int32 × bl_St} : ∀ (σ : bl_St) (v0 : Nat), bl_Fq ho md_X10_text σ0 σ → (bl_sh[v0]? = some (10, 28) ∧ ho v0 = true) → (b_X10_text_47 ) σ v0 = some out → bl_Fq ho md_X10_text σ0 out.2 := by
  intro σ v0 qσ hv0 hf
  unfold b_X10_text_47 at hf
  rcases bl_if_at hf with hf | hf
  · obtain ⟨r13, σ14, h15, hf⟩ := bl_bd_at hf
    have qσ14 := bl_Fq_call qσ (fr_X10_looksOver σ v0 _ qσ.1 qσ.2.1 hv0 h15) (by decide)
    exact gw_X10_text_58  σ14 v0 qσ14 hv0 hf
  · exact gw_X10_text_58  σ v0 qσ hv0 hf
set_option maxRecDepth 100000 in
theorem gw_X10_text_26 {ho : Nat → Bool} {σ0 : bl_St} {out : Int32 × bl_St} (k26 : bl_St → Nat → Option (Int32 × bl_St)) (gk26 : ∀ (σ : bl_St) (v0 : Nat), bl_Fq ho md_X10_text σ0 σ → (bl_sh[v0]? = some (10, 28) ∧ ho v0 = true) → k26 σ v0 = some out → bl_Fq ho md_X10_text σ0 out.2) : ∀ (σ : bl_St) (v0 : Nat), bl_Fq ho md_X10_text σ0 σ → (bl_sh[v0]? = some (10, 28) ∧ ho v0 = true) → (b_X10_text_26 k26) σ v0 = some out → bl_Fq ho md_X10_text σ0 out.2 := by
  intro σ v0 qσ hv0 hf
  unfold b_X10_text_26 at hf
  rcases bl_if_at hf with hf | hf
  · rcases bl_if_at hf with hf | hf
    · exact gw_X10_text_47  σ v0 qσ hv0 hf
    · obtain ⟨r18, σ19, h20, hf⟩ := bl_bd_at hf
      have qσ19 := bl_Fq_call qσ (fr_X10_readsOne σ v0 _ qσ.1 qσ.2.1 hv0 h20) (by decide)
      exact gk26 σ19 v0 qσ19 hv0 hf
  · exact gw_X10_text_47  σ v0 qσ hv0 hf
theorem gl_X10_text_26 {ho : Nat → Bool} {σ0 : bl_St} {out : Int32 × bl_St} (n : Nat) : ∀ (σ : bl_St) (v0 : Nat), bl_Fq ho md_X10_text σ0 σ → (bl_sh[v0]? = some (10, 28) ∧ ho v0 = true) → (bl_fx (fun _ _ => none) (b_X10_text_26 ) n) σ v0 = some out → bl_Fq ho md_X10_text σ0 out.2 := by
  induction n with
  | zero =>
    intro σ v0 qσ hv0 hf
    cases hf
  | succ n ih => exact gw_X10_text_26  _ ih
set_option maxRecDepth 100000 in
theorem fr_X10_text {ho : Nat → Bool} (σ : bl_St) (a0 : Nat) (o : Int32 × bl_St) (hw : bl_WT σ) (hh : bl_WH ho σ) (ha0 : bl_sh[a0]? = some (10, 28) ∧ ho a0 = true) (hf : f_X10_text σ a0 = some o) : bl_Fq ho md_X10_text σ o.2 := by
  obtain ⟨σ0, hz⟩ : ∃ z, z = σ := ⟨_, rfl⟩
  suffices hgo : bl_Fq ho md_X10_text σ0 o.2 by rw [hz] at hgo; exact hgo
  have qσ : bl_Fq ho md_X10_text σ0 σ := by rw [hz]; exact ⟨hw, hh, fun _ _ => ⟨rfl, rfl, rfl⟩⟩
  unfold f_X10_text at hf
  have h21 := bl_Fq_g qσ ha0 (k := 2) rfl (by decide)
  obtain ⟨r22, σ23, h24, hf⟩ := bl_bd_at hf
  have qσ23 := bl_Fq_call qσ (fr_X10_starts σ (bl_R σ a0 2) _ qσ.1 qσ.2.1 h21 h24) (by decide)
  obtain ⟨σ25, e26⟩ : ∃ z : bl_St, z = bl_pI σ23 a0 23 0 := ⟨_, rfl⟩
  have hf := bl_let_at e26 hf
  have qσ25 : bl_Fq ho md_X10_text σ0 σ25 := by rw [e26]; exact bl_Fq_I qσ23 (bl_al_in ha0.1 (by decide) ha0.2)
  obtain ⟨σ27, e28⟩ : ∃ z : bl_St, z = bl_pI σ25 a0 24 3 := ⟨_, rfl⟩
  have hf := bl_let_at e28 hf
  have qσ27 : bl_Fq ho md_X10_text σ0 σ27 := by rw [e28]; exact bl_Fq_I qσ25 (bl_al_in ha0.1 (by decide) ha0.2)
  obtain ⟨σ29, e30⟩ : ∃ z : bl_St, z = bl_pI σ27 a0 27 0 := ⟨_, rfl⟩
  have hf := bl_let_at e30 hf
  have qσ29 : bl_Fq ho md_X10_text σ0 σ29 := by rw [e30]; exact bl_Fq_I qσ27 (bl_al_in ha0.1 (by decide) ha0.2)
  obtain ⟨r31, σ32, h33, hf⟩ := bl_bd_at hf
  have qσ32 := bl_Fq_call qσ29 (fr_X10_goesOn σ29 a0 _ qσ29.1 qσ29.2.1 ha0 h33) (by decide)
  exact gl_X10_text_26  bl_fu σ32 a0 qσ32 ha0 hf
