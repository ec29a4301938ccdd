def md_X10_begins : List (Nat × Nat) := [(20, 167)]
set_option maxRecDepth 100000 in
theorem gw_X10_begins_92 {ho : Nat → Bool} {σ0 : bl_St} {out : Unit × bl_St} : ∀ (σ : bl_St) (v0 : Nat) (v1 : Int32) (s0 : Int32) (s1 : Int32) (s2 : Int32) (s3 : Nat), bl_Fq ho md_X10_begins σ0 σ → (bl_sh[v0]? = some (10, 28) ∧ ho v0 = true) → (bl_sh[s3]? = some (20, 167) ∧ ho s3 = true) → (b_X10_begins_92 ) σ v0 v1 s0 s1 s2 s3 = some out → bl_Fq ho md_X10_begins σ0 out.2 := by
  intro σ v0 v1 s0 s1 s2 s3 qσ hv0 hs3 hf
  unfold b_X10_begins_92 at hf
  obtain ⟨-, hf⟩ := bl_gd_at hf
  obtain ⟨σ2, e3⟩ : ∃ z : bl_St, z = bl_pI σ s3 (Int32.toNatClampNeg s2) (s1 + s0) := ⟨_, rfl⟩
  have hf := bl_let_at e3 hf
  have qσ2 : bl_Fq ho md_X10_begins σ0 σ2 := by rw [e3]; exact bl_Fq_I qσ (bl_al_in hs3.1 (by decide) hs3.2)
  have h4 := bl_Fq_g qσ2 hv0 (k := 1) rfl (by decide)
  have h5 := bl_Fq_g qσ2 hv0 (k := 1) rfl (by decide)
  obtain ⟨r6, σ7, h8, hf⟩ := bl_bd_at hf
  have qσ7 := bl_Fq_call qσ2 (fr_X10_ofClass σ2 v0 (bl_I σ2 (bl_R σ2 v0 1) 55) 0 _ qσ2.1 qσ2.2.1 hv0.1 h8) (by decide)
  obtain ⟨σ9, e10⟩ : ∃ z : bl_St, z = bl_pI σ7 (bl_R σ2 v0 1) 61 ((bl_I σ2 (bl_R σ2 v0 1) 61) + r6) := ⟨_, rfl⟩
  have hf := bl_let_at e10 hf
  have qσ9 : bl_Fq ho md_X10_begins σ0 σ9 := by rw [e10]; exact bl_Fq_I qσ7 (bl_al_in h4.1 (by decide) h4.2)
  have h11 := bl_Fq_g qσ9 hv0 (k := 1) rfl (by decide)
  rcases bl_if_at hf with hf | hf
  · obtain ⟨σ13, e14⟩ : ∃ z : bl_St, z = bl_pI σ9 (bl_R σ9 v0 1) 62 ((bl_I σ9 (bl_R σ9 v0 1) 62) + 0) := ⟨_, rfl⟩
    have hf := bl_let_at e14 hf
    have qσ13 : bl_Fq ho md_X10_begins σ0 σ13 := by rw [e14]; exact bl_Fq_I qσ9 (bl_al_in h11.1 (by decide) h11.2)
    rw [← Option.some.inj hf]
    exact qσ13
  · have h15 := bl_Fq_g qσ9 hv0 (k := 1) rfl (by decide)
    obtain ⟨r16, σ17, h18, hf⟩ := bl_bd_at hf
    have qσ17 := bl_Fq_call qσ9 (fr_X10_ofClass σ9 v0 (bl_I σ9 (bl_R σ9 v0 1) 55) 4 _ qσ9.1 qσ9.2.1 hv0.1 h18) (by decide)
    obtain ⟨σ19, e20⟩ : ∃ z : bl_St, z = bl_pI σ17 (bl_R σ9 v0 1) 62 ((bl_I σ9 (bl_R σ9 v0 1) 62) + r16) := ⟨_, rfl⟩
    have hf := bl_let_at e20 hf
    have qσ19 : bl_Fq ho md_X10_begins σ0 σ19 := by rw [e20]; exact bl_Fq_I qσ17 (bl_al_in h11.1 (by decide) h11.2)
    rw [← Option.some.inj hf]
    exact qσ19
set_option maxRecDepth 100000 in
theorem gw_X10_begins_39 {ho : Nat → Bool} {σ0 : bl_St} {out : Unit × bl_St} : ∀ (σ : bl_St) (v0 : Nat) (v1 : Int32) (s0 : Int32) (s1 : Int32) (s2 : Nat), bl_Fq ho md_X10_begins σ0 σ → (bl_sh[v0]? = some (10, 28) ∧ ho v0 = true) → (bl_sh[s2]? = some (20, 167) ∧ ho s2 = true) → (b_X10_begins_39 ) σ v0 v1 s0 s1 s2 = some out → bl_Fq ho md_X10_begins σ0 out.2 := by
  intro σ v0 v1 s0 s1 s2 qσ hv0 hs2 hf
  unfold b_X10_begins_39 at hf
  obtain ⟨-, hf⟩ := bl_gd_at hf
  obtain ⟨σ22, e23⟩ : ∃ z : bl_St, z = bl_pI σ s2 (Int32.toNatClampNeg s1) s0 := ⟨_, rfl⟩
  have hf := bl_let_at e23 hf
  have qσ22 : bl_Fq ho md_X10_begins σ0 σ22 := by rw [e23]; exact bl_Fq_I qσ (bl_al_in hs2.1 (by decide) hs2.2)
  have h24 := bl_Fq_g qσ22 hv0 (k := 1) rfl (by decide)
  have h25 := bl_Fq_g qσ22 hv0 (k := 1) rfl (by decide)
  obtain ⟨σ26, e27⟩ : ∃ z : bl_St, z = bl_pI σ22 (bl_R σ22 v0 1) 68 (bl_I σ22 (bl_R σ22 v0 1) 55) := ⟨_, rfl⟩
  have hf := bl_let_at e27 hf
  have qσ26 : bl_Fq ho md_X10_begins σ0 σ26 := by rw [e27]; exact bl_Fq_I qσ22 (bl_al_in h24.1 (by decide) h24.2)
  have h28 := bl_Fq_g qσ26 hv0 (k := 1) rfl (by decide)
  have h29 := bl_Fq_g qσ26 hv0 (k := 1) rfl (by decide)
  obtain ⟨r30, σ31, h32, hf⟩ := bl_bd_at hf
  have qσ31 := bl_Fq_call qσ26 (fr_X10_ofClass σ26 v0 (bl_I σ26 (bl_R σ26 v0 1) 55) 0 _ qσ26.1 qσ26.2.1 hv0.1 h32) (by decide)
  rcases bl_if_at hf with hf | hf
  · exact gw_X10_begins_92  σ31 v0 v1 0 r30 67 (bl_R σ26 v0 1) qσ31 hv0 h28 hf
  · have h34 := bl_Fq_g qσ31 hv0 (k := 1) rfl (by decide)
    obtain ⟨r35, σ36, h37, hf⟩ := bl_bd_at hf
    have qσ36 := bl_Fq_call qσ31 (fr_X10_ofClass σ31 v0 (bl_I σ31 (bl_R σ31 v0 1) 55) 4 _ qσ31.1 qσ31.2.1 hv0.1 h37) (by decide)
    exact gw_X10_begins_92  σ36 v0 v1 r35 r30 67 (bl_R σ26 v0 1) qσ36 hv0 h28 hf
set_option maxRecDepth 100000 in
theorem fr_X10_begins {ho : Nat → Bool} (σ : bl_St) (a0 : Nat) (a1 : Int32) (o : Unit × bl_St) (hw : bl_WT σ) (hh : bl_WH ho σ) (ha0 : bl_sh[a0]? = some (10, 28) ∧ ho a0 = true) (hf : f_X10_begins σ a0 a1 = some o) : bl_Fq ho md_X10_begins σ o.2 := by
  obtain ⟨σ0, hz⟩ : ∃ z, z = σ := ⟨_, rfl⟩
  suffices hgo : bl_Fq ho md_X10_begins σ0 o.2 by rw [hz] at hgo; exact hgo
  have qσ : bl_Fq ho md_X10_begins σ0 σ := by rw [hz]; exact ⟨hw, hh, fun _ _ => ⟨rfl, rfl, rfl⟩⟩
  unfold f_X10_begins at hf
  have h38 := bl_Fq_g qσ ha0 (k := 1) rfl (by decide)
  obtain ⟨σ39, e40⟩ : ∃ z : bl_St, z = bl_pI σ (bl_R σ a0 1) 56 1 := ⟨_, rfl⟩
  have hf := bl_let_at e40 hf
  have qσ39 : bl_Fq ho md_X10_begins σ0 σ39 := by rw [e40]; exact bl_Fq_I qσ (bl_al_in h38.1 (by decide) h38.2)
  have h41 := bl_Fq_g qσ39 ha0 (k := 1) rfl (by decide)
  obtain ⟨σ42, e43⟩ : ∃ z : bl_St, z = bl_pI σ39 (bl_R σ39 a0 1) 57 0 := ⟨_, rfl⟩
  have hf := bl_let_at e43 hf
  have qσ42 : bl_Fq ho md_X10_begins σ0 σ42 := by rw [e43]; exact bl_Fq_I qσ39 (bl_al_in h41.1 (by decide) h41.2)
  have h44 := bl_Fq_g qσ42 ha0 (k := 1) rfl (by decide)
  obtain ⟨σ45, e46⟩ : ∃ z : bl_St, z = bl_pI σ42 (bl_R σ42 a0 1) 58 0 := ⟨_, rfl⟩
  have hf := bl_let_at e46 hf
  have qσ45 : bl_Fq ho md_X10_begins σ0 σ45 := by rw [e46]; exact bl_Fq_I qσ42 (bl_al_in h44.1 (by decide) h44.2)
  have h47 := bl_Fq_g qσ45 ha0 (k := 1) rfl (by decide)
  rcases bl_if_at hf with hf | hf
  · exact gw_X10_begins_39  σ45 a0 a1 0 59 (bl_R σ45 a0 1) qσ45 ha0 h47 hf
  · exact gw_X10_begins_39  σ45 a0 a1 1 59 (bl_R σ45 a0 1) qσ45 ha0 h47 hf
def md_X10_begin : List (Nat × Nat) := [(10, 28), (20, 167), (20, 2004)]
set_option maxRecDepth 100000 in
theorem fr_X10_begin {ho : Nat → Bool} (σ : bl_St) (a0 : Nat) (a1 : Int32) (o : Int32 × bl_St) (hw : bl_WT σ) (hh : bl_WH ho σ) (ha0 : bl_sh[a0]? = some (10, 28) ∧ ho a0 = true) (hf : f_X10_begin σ a0 a1 = some o) : bl_Fq ho md_X10_begin σ o.2 := by
  obtain ⟨σ0, hz⟩ : ∃ z, z = σ := ⟨_, rfl⟩
  suffices hgo : bl_Fq ho md_X10_begin σ0 o.2 by rw [hz] at hgo; exact hgo
  have qσ : bl_Fq ho md_X10_begin σ0 σ := by rw [hz]; exact ⟨hw, hh, fun _ _ => ⟨rfl, rfl, rfl⟩⟩
  unfold f_X10_begin at hf
  have h1 := bl_Fq_g qσ ha0 (k := 1) rfl (by decide)
  rcases bl_if_at hf with hf | hf
  · rw [← Option.some.inj hf]
    exact qσ
  · have h3 := bl_Fq_g qσ ha0 (k := 1) rfl (by decide)
    rcases bl_if_at hf with hf | hf
    · rw [← Option.some.inj hf]
      exact qσ
    · obtain ⟨r5, σ6, h7, hf⟩ := bl_bd_at hf
      have qσ6 := bl_Fq_call qσ (fr_X10_keeps σ a0 _ qσ.1 qσ.2.1 ha0 h7) (by decide)
      obtain ⟨r8, σ9, h10, hf⟩ := bl_bd_at hf
      have qσ9 := bl_Fq_call qσ6 (fr_X10_begins σ6 a0 a1 _ qσ6.1 qσ6.2.1 ha0 h10) (by decide)
      have h11 := bl_Fq_g qσ9 ha0 (k := 1) rfl (by decide)
      rw [← Option.some.inj hf]
      exact qσ9
def md_X10_writes : List (Nat × Nat) := [(20, 167)]
set_option maxRecDepth 100000 in
theorem gw_X10_writes_61 {ho : Nat → Bool} {σ0 : bl_St} {out : Unit × bl_St} : ∀ (σ : bl_St) (v0 : Nat) (v1 : Int32) (v2 : Int32) (v3 : Int32) (v4 : Int32), bl_Fq ho md_X10_writes σ0 σ → (bl_sh[v0]? = some (10, 28) ∧ ho v0 = true) → (b_X10_writes_61 ) σ v0 v1 v2 v3 v4 = some out → bl_Fq ho md_X10_writes σ0 out.2 := by
  intro σ v0 v1 v2 v3 v4 qσ hv0 hf
  unfold b_X10_writes_61 at hf
  have h1 := bl_Fq_g qσ hv0 (k := 1) rfl (by decide)
  obtain ⟨-, hf⟩ := bl_gd_at hf
  obtain ⟨x3, e4⟩ : ∃ z, z = ((v1 + 1) + (3 * (bl_I σ (bl_R σ v0 1) (Int32.toNatClampNeg v1)))) := ⟨_, rfl⟩
  have hf := bl_let_at e4 hf
  have h5 := bl_Fq_g qσ hv0 (k := 1) rfl (by decide)
  obtain ⟨-, hf⟩ := bl_gd_at hf
  obtain ⟨σ7, e8⟩ : ∃ z : bl_St, z = bl_pI σ (bl_R σ v0 1) (Int32.toNatClampNeg x3) v2 := ⟨_, rfl⟩
  have hf := bl_let_at e8 hf
  have qσ7 : bl_Fq ho md_X10_writes σ0 σ7 := by rw [e8]; exact bl_Fq_I qσ (bl_al_in h5.1 (by decide) h5.2)
  have h9 := bl_Fq_g qσ7 hv0 (k := 1) rfl (by decide)
  obtain ⟨-, hf⟩ := bl_gd_at hf
  obtain ⟨σ11, e12⟩ : ∃ z : bl_St, z = bl_pI σ7 (bl_R σ7 v0 1) (Int32.toNatClampNeg (x3 + 1)) v3 := ⟨_, rfl⟩
  have hf := bl_let_at e12 hf
  have qσ11 : bl_Fq ho md_X10_writes σ0 σ11 := by rw [e12]; exact bl_Fq_I qσ7 (bl_al_in h9.1 (by decide) h9.2)
  have h13 := bl_Fq_g qσ11 hv0 (k := 1) rfl (by decide)
  obtain ⟨-, hf⟩ := bl_gd_at hf
  obtain ⟨σ15, e16⟩ : ∃ z : bl_St, z = bl_pI σ11 (bl_R σ11 v0 1) (Int32.toNatClampNeg (x3 + 2)) v4 := ⟨_, rfl⟩
  have hf := bl_let_at e16 hf
  have qσ15 : bl_Fq ho md_X10_writes σ0 σ15 := by rw [e16]; exact bl_Fq_I qσ11 (bl_al_in h13.1 (by decide) h13.2)
  have h17 := bl_Fq_g qσ15 hv0 (k := 1) rfl (by decide)
  obtain ⟨-, hf⟩ := bl_gd_at hf
  obtain ⟨-, hf⟩ := bl_gd_at hf
  obtain ⟨σ20, e21⟩ : ∃ z : bl_St, z = bl_pI σ15 (bl_R σ15 v0 1) (Int32.toNatClampNeg v1) ((bl_I σ15 (bl_R σ15 v0 1) (Int32.toNatClampNeg v1)) + 1) := ⟨_, rfl⟩
  have hf := bl_let_at e21 hf
  have qσ20 : bl_Fq ho md_X10_writes σ0 σ20 := by rw [e21]; exact bl_Fq_I qσ15 (bl_al_in h17.1 (by decide) h17.2)
  rw [← Option.some.inj hf]
  exact qσ20
set_option maxRecDepth 100000 in
theorem gw_X10_writes_14 {ho : Nat → Bool} {σ0 : bl_St} {out : Unit × bl_St} (k14 : bl_St → Nat → Int32 → Int32 → Int32 → Int32 → Int32 → Option (Unit × bl_St)) (gk14 : ∀ (σ : bl_St) (v0 : Nat) (v1 : Int32) (v2 : Int32) (v3 : Int32) (v4 : Int32) (v5 : Int32), bl_Fq ho md_X10_writes σ0 σ → (bl_sh[v0]? = some (10, 28) ∧ ho v0 = true) → k14 σ v0 v1 v2 v3 v4 v5 = some out → bl_Fq ho md_X10_writes σ0 out.2) : ∀ (σ : bl_St) (v0 : Nat) (v1 : Int32) (v2 : Int32) (v3 : Int32) (v4 : Int32) (v5 : Int32), bl_Fq ho md_X10_writes σ0 σ → (bl_sh[v0]? = some (10, 28) ∧ ho v0 = true) → (b_X10_writes_14 k14) σ v0 v1 v2 v3 v4 v5 = some out → bl_Fq ho md_X10_writes σ0 out.2 := by
  intro σ v0 v1 v2 v3 v4 v5 qσ hv0 hf
  unfold b_X10_writes_14 at hf
  rcases bl_if_at hf with hf | hf
  · have h23 := bl_Fq_g qσ hv0 (k := 1) rfl (by decide)
    obtain ⟨-, hf⟩ := bl_gd_at hf
    obtain ⟨-, hf⟩ := bl_gd_at hf
    obtain ⟨σ26, e27⟩ : ∃ z : bl_St, z = bl_pI σ (bl_R σ v0 1) (Int32.toNatClampNeg v1) ((bl_I σ (bl_R σ v0 1) (Int32.toNatClampNeg v1)) - 1) := ⟨_, rfl⟩
    have hf := bl_let_at e27 hf
    have qσ26 : bl_Fq ho md_X10_writes σ0 σ26 := by rw [e27]; exact bl_Fq_I qσ (bl_al_in h23.1 (by decide) h23.2)
    exact gw_X10_writes_61  σ26 v0 v1 v2 v3 v4 qσ26 hv0 hf
  · have h28 := bl_Fq_g qσ hv0 (k := 1) rfl (by decide)
    have h29 := bl_Fq_g qσ hv0 (k := 1) rfl (by decide)
    obtain ⟨-, hf⟩ := bl_gd_at hf
    obtain ⟨-, hf⟩ := bl_gd_at hf
    obtain ⟨σ32, e33⟩ : ∃ z : bl_St, z = bl_pI σ (bl_R σ v0 1) (Int32.toNatClampNeg (((v1 + 1) + v5) - 3)) (bl_I σ (bl_R σ v0 1) (Int32.toNatClampNeg ((v1 + 1) + v5))) := ⟨_, rfl⟩
    have hf := bl_let_at e33 hf
    have qσ32 : bl_Fq ho md_X10_writes σ0 σ32 := by rw [e33]; exact bl_Fq_I qσ (bl_al_in h28.1 (by decide) h28.2)
    obtain ⟨x34, e35⟩ : ∃ z : Int32, z = v5 + 1 := ⟨_, rfl⟩
    have hf := bl_let_at e35 hf
    exact gk14 σ32 v0 v1 v2 v3 v4 x34 qσ32 hv0 hf
theorem gl_X10_writes_14 {ho : Nat → Bool} {σ0 : bl_St} {out : Unit × bl_St} (n : Nat) : ∀ (σ : bl_St) (v0 : Nat) (v1 : Int32) (v2 : Int32) (v3 : Int32) (v4 : Int32) (v5 : Int32), bl_Fq ho md_X10_writes σ0 σ → (bl_sh[v0]? = some (10, 28) ∧ ho v0 = true) → (bl_fx (fun _ _ _ _ _ _ _ => none) (b_X10_writes_14 ) n) σ v0 v1 v2 v3 v4 v5 = some out → bl_Fq ho md_X10_writes σ0 out.2 := by
  induction n with
  | zero =>
    intro σ v0 v1 v2 v3 v4 v5 qσ hv0 hf
    cases hf
  | succ n ih => exact gw_X10_writes_14  _ ih
set_option maxRecDepth 100000 in
theorem fr_X10_writes {ho : Nat → Bool} (σ : bl_St) (a0 : Nat) (a1 : Int32) (a2 : Int32) (a3 : Int32) (a4 : Int32) (o : Unit × bl_St) (hw : bl_WT σ) (hh : bl_WH ho σ) (ha0 : bl_sh[a0]? = some (10, 28) ∧ ho a0 = true) (hf : f_X10_writes σ a0 a1 a2 a3 a4 = some o) : bl_Fq ho md_X10_writes σ o.2 := by
  obtain ⟨σ0, hz⟩ : ∃ z, z = σ := ⟨_, rfl⟩
  suffices hgo : bl_Fq ho md_X10_writes σ0 o.2 by rw [hz] at hgo; exact hgo
  have qσ : bl_Fq ho md_X10_writes σ0 σ := by rw [hz]; exact ⟨hw, hh, fun _ _ => ⟨rfl, rfl, rfl⟩⟩
  unfold f_X10_writes at hf
  have h36 := bl_Fq_g qσ ha0 (k := 1) rfl (by decide)
  obtain ⟨-, hf⟩ := bl_gd_at hf
  rcases bl_if_at hf with hf | hf
  · exact gl_X10_writes_14  bl_fu σ a0 a1 a2 a3 a4 3 qσ ha0 hf
  · exact gw_X10_writes_61  σ a0 a1 a2 a3 a4 qσ ha0 hf
def md_X10_goesBy : List (Nat × Nat) := [(20, 167)]
set_option maxRecDepth 100000 in
theorem fr_X10_goesBy {ho : Nat → Bool} (σ : bl_St) (a0 : Nat) (o : Unit × bl_St) (hw : bl_WT σ) (hh : bl_WH ho σ) (ha0 : bl_sh[a0]? = some (10, 28) ∧ ho a0 = true) (hf : f_X10_goesBy σ a0 = some o) : bl_Fq ho md_X10_goesBy σ o.2 := by
  obtain ⟨σ0, hz⟩ : ∃ z, z = σ := ⟨_, rfl⟩
  suffices hgo : bl_Fq ho md_X10_goesBy σ0 o.2 by rw [hz] at hgo; exact hgo
  have qσ : bl_Fq ho md_X10_goesBy σ0 σ := by rw [hz]; exact ⟨hw, hh, fun _ _ => ⟨rfl, rfl, rfl⟩⟩
  unfold f_X10_goesBy at hf
  have h1 := bl_Fq_g qσ ha0 (k := 1) rfl (by decide)
  obtain ⟨σ2, e3⟩ : ∃ z : bl_St, z = bl_pI σ (bl_R σ a0 1) 57 ((bl_I σ (bl_R σ a0 1) 57) + 1) := ⟨_, rfl⟩
  have hf := bl_let_at e3 hf
  have qσ2 : bl_Fq ho md_X10_goesBy σ0 σ2 := by rw [e3]; exact bl_Fq_I qσ (bl_al_in h1.1 (by decide) h1.2)
  have h4 := bl_Fq_g qσ2 ha0 (k := 1) rfl (by decide)
  have h5 := bl_Fq_g qσ2 ha0 (k := 1) rfl (by decide)
  rcases bl_if_at hf with hf | hf
  · have h7 := bl_Fq_g qσ2 ha0 (k := 1) rfl (by decide)
    have h8 := bl_Fq_g qσ2 ha0 (k := 1) rfl (by decide)
    have h9 := bl_Fq_g qσ2 ha0 (k := 1) rfl (by decide)
    obtain ⟨r10, σ11, h12, hf⟩ := bl_bd_at hf
    have qσ11 := bl_Fq_call qσ2 (fr_X10_writes σ2 a0 118 (bl_I σ2 (bl_R σ2 a0 1) 68) (bl_I σ2 (bl_R σ2 a0 1) 67) (bl_I σ2 (bl_R σ2 a0 1) 58) _ qσ2.1 qσ2.2.1 ha0 h12) (by decide)
    have h13 := bl_Fq_g qσ11 ha0 (k := 1) rfl (by decide)
    have h14 := bl_Fq_g qσ11 ha0 (k := 1) rfl (by decide)
    have h15 := bl_Fq_g qσ11 ha0 (k := 1) rfl (by decide)
    obtain ⟨r16, σ17, h18, hf⟩ := bl_bd_at hf
    have qσ17 := bl_Fq_call qσ11 (fr_X10_behind σ11 a0 (bl_I σ11 (bl_R σ11 a0 1) 55) (bl_I σ11 (bl_R σ11 a0 1) 58) _ qσ11.1 qσ11.2.1 ha0.1 h18) (by decide)
    obtain ⟨σ19, e20⟩ : ∃ z : bl_St, z = bl_pI σ17 (bl_R σ11 a0 1) 55 r16 := ⟨_, rfl⟩
    have hf := bl_let_at e20 hf
    have qσ19 : bl_Fq ho md_X10_goesBy σ0 σ19 := by rw [e20]; exact bl_Fq_I qσ17 (bl_al_in h13.1 (by decide) h13.2)
    have h21 := bl_Fq_g qσ19 ha0 (k := 1) rfl (by decide)
    obtain ⟨σ22, e23⟩ : ∃ z : bl_St, z = bl_pI σ19 (bl_R σ19 a0 1) 60 ((bl_I σ19 (bl_R σ19 a0 1) 60) + 1) := ⟨_, rfl⟩
    have hf := bl_let_at e23 hf
    have qσ22 : bl_Fq ho md_X10_goesBy σ0 σ22 := by rw [e23]; exact bl_Fq_I qσ19 (bl_al_in h21.1 (by decide) h21.2)
    have h24 := bl_Fq_g qσ22 ha0 (k := 1) rfl (by decide)
    obtain ⟨σ25, e26⟩ : ∃ z : bl_St, z = bl_pI σ22 (bl_R σ22 a0 1) 56 0 := ⟨_, rfl⟩
    have hf := bl_let_at e26 hf
    have qσ25 : bl_Fq ho md_X10_goesBy σ0 σ25 := by rw [e26]; exact bl_Fq_I qσ22 (bl_al_in h24.1 (by decide) h24.2)
    have h27 := bl_Fq_g qσ25 ha0 (k := 1) rfl (by decide)
    obtain ⟨σ28, e29⟩ : ∃ z : bl_St, z = bl_pI σ25 (bl_R σ25 a0 1) 57 0 := ⟨_, rfl⟩
    have hf := bl_let_at e29 hf
    have qσ28 : bl_Fq ho md_X10_goesBy σ0 σ28 := by rw [e29]; exact bl_Fq_I qσ25 (bl_al_in h27.1 (by decide) h27.2)
    have h30 := bl_Fq_g qσ28 ha0 (k := 1) rfl (by decide)
    obtain ⟨σ31, e32⟩ : ∃ z : bl_St, z = bl_pI σ28 (bl_R σ28 a0 1) 58 0 := ⟨_, rfl⟩
    have hf := bl_let_at e32 hf
    have qσ31 : bl_Fq ho md_X10_goesBy σ0 σ31 := by rw [e32]; exact bl_Fq_I qσ28 (bl_al_in h30.1 (by decide) h30.2)
    have h33 := bl_Fq_g qσ31 ha0 (k := 1) rfl (by decide)
    obtain ⟨σ34, e35⟩ : ∃ z : bl_St, z = bl_pI σ31 (bl_R σ31 a0 1) 59 0 := ⟨_, rfl⟩
    have hf := bl_let_at e35 hf
    have qσ34 : bl_Fq ho md_X10_goesBy σ0 σ34 := by rw [e35]; exact bl_Fq_I qσ31 (bl_al_in h33.1 (by decide) h33.2)
    rw [← Option.some.inj hf]
    exact qσ34
  · rw [← Option.some.inj hf]
    exact qσ2
def md_X10_quiet : List (Nat × Nat) := [(10, 28), (20, 167), (20, 2004)]
set_option maxRecDepth 100000 in
theorem fr_X10_quiet {ho : Nat → Bool} (σ : bl_St) (a0 : Nat) (o : Int32 × bl_St) (hw : bl_WT σ) (hh : bl_WH ho σ) (ha0 : bl_sh[a0]? = some (10, 28) ∧ ho a0 = true) (hf : f_X10_quiet σ a0 = some o) : bl_Fq ho md_X10_quiet σ o.2 := by
  obtain ⟨σ0, hz⟩ : ∃ z, z = σ := ⟨_, rfl⟩
  suffices hgo : bl_Fq ho md_X10_quiet σ0 o.2 by rw [hz] at hgo; exact hgo
  have qσ : bl_Fq ho md_X10_quiet σ0 σ := by rw [hz]; exact ⟨hw, hh, fun _ _ => ⟨rfl, rfl, rfl⟩⟩
  unfold f_X10_quiet at hf
  have h1 := bl_Fq_g qσ ha0 (k := 1) rfl (by decide)
  rcases bl_if_at hf with hf | hf
  · rw [← Option.some.inj hf]
    exact qσ
  · obtain ⟨r3, σ4, h5, hf⟩ := bl_bd_at hf
    have qσ4 := bl_Fq_call qσ (fr_X10_keeps σ a0 _ qσ.1 qσ.2.1 ha0 h5) (by decide)
    have h6 := bl_Fq_g qσ4 ha0 (k := 1) rfl (by decide)
    have h7 := bl_Fq_g qσ4 ha0 (k := 1) rfl (by decide)
    obtain ⟨x8, e9⟩ : ∃ z, z = (((bl_I σ4 (bl_R σ4 a0 1) 2) - (bl_I σ4 (bl_R σ4 a0 1) 57)) - 1) := ⟨_, rfl⟩
    have hf := bl_let_at e9 hf
    obtain ⟨r10, σ11, h12, hf⟩ := bl_bd_at hf
    have qσ11 := bl_Fq_call qσ4 (fr_X10_goesBy σ4 a0 _ qσ4.1 qσ4.2.1 ha0 h12) (by decide)
    rw [← Option.some.inj hf]
    exact qσ11
def md_X10_loses : List (Nat × Nat) := [(20, 167)]
set_option maxRecDepth 100000 in
theorem gw_X10_loses_38 {ho : Nat → Bool} {σ0 : bl_St} {out : Int32 × bl_St} : ∀ (σ : bl_St) (v0 : Nat) (v2 : Int32) (v3 : Int32) (s0 : Int32) (s1 : Int32) (s2 : Int32) (s3 : Int32) (s4 : Nat), bl_Fq ho md_X10_loses σ0 σ → (bl_sh[v0]? = some (10, 28) ∧ ho v0 = true) → (bl_sh[s4]? = some (10, 28) ∧ ho s4 = true) → (b_X10_loses_38 ) σ v0 v2 v3 s0 s1 s2 s3 s4 = some out → bl_Fq ho md_X10_loses σ0 out.2 := by
  intro σ v0 v2 v3 s0 s1 s2 s3 s4 qσ hv0 hs4 hf
  unfold b_X10_loses_38 at hf
  obtain ⟨r1, σ2, h3, hf⟩ := bl_bd_at hf
  have qσ2 := bl_Fq_call qσ (fr_X10_writes σ s4 s3 s2 s1 s0 _ qσ.1 qσ.2.1 hs4 h3) (by decide)
  have h4 := bl_Fq_g qσ2 hv0 (k := 1) rfl (by decide)
  obtain ⟨σ5, e6⟩ : ∃ z : bl_St, z = bl_pI σ2 (bl_R σ2 v0 1) 67 ((bl_I σ2 (bl_R σ2 v0 1) 67) + v3) := ⟨_, rfl⟩
  have hf := bl_let_at e6 hf
  have qσ5 : bl_Fq ho md_X10_loses σ0 σ5 := by rw [e6]; exact bl_Fq_I qσ2 (bl_al_in h4.1 (by decide) h4.2)
  rcases bl_if_at hf with hf | hf
  · have h8 := bl_Fq_g qσ5 hv0 (k := 1) rfl (by decide)
    obtain ⟨σ9, e10⟩ : ∃ z : bl_St, z = bl_pI σ5 (bl_R σ5 v0 1) 66 ((bl_I σ5 (bl_R σ5 v0 1) 66) + 1) := ⟨_, rfl⟩
    have hf := bl_let_at e10 hf
    have qσ9 : bl_Fq ho md_X10_loses σ0 σ9 := by rw [e10]; exact bl_Fq_I qσ5 (bl_al_in h8.1 (by decide) h8.2)
    have h11 := bl_Fq_g qσ9 hv0 (k := 1) rfl (by decide)
    obtain ⟨σ12, e13⟩ : ∃ z : bl_St, z = bl_pI σ9 (bl_R σ9 v0 1) 64 ((bl_I σ9 (bl_R σ9 v0 1) 64) + v3) := ⟨_, rfl⟩
    have hf := bl_let_at e13 hf
    have qσ12 : bl_Fq ho md_X10_loses σ0 σ12 := by rw [e13]; exact bl_Fq_I qσ9 (bl_al_in h11.1 (by decide) h11.2)
    obtain ⟨r14, σ15, h16, hf⟩ := bl_bd_at hf
    have qσ15 := bl_Fq_call qσ12 (fr_X10_goesBy σ12 v0 _ qσ12.1 qσ12.2.1 hv0 h16) (by decide)
    rw [← Option.some.inj hf]
    exact qσ15
  · have h17 := bl_Fq_g qσ5 hv0 (k := 1) rfl (by decide)
    obtain ⟨σ18, e19⟩ : ∃ z : bl_St, z = bl_pI σ5 (bl_R σ5 v0 1) 65 ((bl_I σ5 (bl_R σ5 v0 1) 65) + 1) := ⟨_, rfl⟩
    have hf := bl_let_at e19 hf
    have qσ18 : bl_Fq ho md_X10_loses σ0 σ18 := by rw [e19]; exact bl_Fq_I qσ5 (bl_al_in h17.1 (by decide) h17.2)
    have h20 := bl_Fq_g qσ18 hv0 (k := 1) rfl (by decide)
    obtain ⟨σ21, e22⟩ : ∃ z : bl_St, z = bl_pI σ18 (bl_R σ18 v0 1) 63 ((bl_I σ18 (bl_R σ18 v0 1) 63) + v3) := ⟨_, rfl⟩
    have hf := bl_let_at e22 hf
    have qσ21 : bl_Fq ho md_X10_loses σ0 σ21 := by rw [e22]; exact bl_Fq_I qσ18 (bl_al_in h20.1 (by decide) h20.2)
    have h23 := bl_Fq_g qσ21 hv0 (k := 1) rfl (by decide)
    rcases bl_if_at hf with hf | hf
    · have h31 := bl_Fq_g qσ21 hv0 (k := 1) rfl (by decide)
      obtain ⟨σ32, e33⟩ : ∃ z : bl_St, z = bl_pI σ21 (bl_R σ21 v0 1) 59 0 := ⟨_, rfl⟩
      have hf := bl_let_at e33 hf
      have qσ32 : bl_Fq ho md_X10_loses σ0 σ32 := by rw [e33]; exact bl_Fq_I qσ21 (bl_al_in h31.1 (by decide) h31.2)
      obtain ⟨r34, σ35, h36, hf⟩ := bl_bd_at hf
      have qσ35 := bl_Fq_call qσ32 (fr_X10_goesBy σ32 v0 _ qσ32.1 qσ32.2.1 hv0 h36) (by decide)
      rw [← Option.some.inj hf]
      exact qσ35
    · have h25 := bl_Fq_g qσ21 hv0 (k := 1) rfl (by decide)
      obtain ⟨σ26, e27⟩ : ∃ z : bl_St, z = bl_pI σ21 (bl_R σ21 v0 1) 58 ((bl_I σ21 (bl_R σ21 v0 1) 58) + 1) := ⟨_, rfl⟩
      have hf := bl_let_at e27 hf
      have qσ26 : bl_Fq ho md_X10_loses σ0 σ26 := by rw [e27]; exact bl_Fq_I qσ21 (bl_al_in h25.1 (by decide) h25.2)
      obtain ⟨r28, σ29, h30, hf⟩ := bl_bd_at hf
      have qσ29 := bl_Fq_call qσ26 (fr_X10_goesBy σ26 v0 _ qσ26.1 qσ26.2.1 hv0 h30) (by decide)
      rw [← Option.some.inj hf]
      exact qσ29
set_option maxRecDepth 100000 in
theorem gw_X10_loses_17 {ho : Nat → Bool} {σ0 : bl_St} {out : Int32 × bl_St} : ∀ (σ : bl_St) (v0 : Nat) (v1 : Int32) (v2 : Int32) (s0 : Int32), bl_Fq ho md_X10_loses σ0 σ → (bl_sh[v0]? = some (10, 28) ∧ ho v0 = true) → (b_X10_loses_17 ) σ v0 v1 v2 s0 = some out → bl_Fq ho md_X10_loses σ0 out.2 := by
  intro σ v0 v1 v2 s0 qσ hv0 hf
  unfold b_X10_loses_17 at hf
  have h37 := bl_Fq_g qσ hv0 (k := 1) rfl (by decide)
  rcases bl_if_at hf with hf | hf
  · exact gw_X10_loses_38  σ v0 v2 s0 0 v1 (bl_I σ (bl_R σ v0 1) 60) 69 v0 qσ hv0 hv0 hf
  · exact gw_X10_loses_38  σ v0 v2 s0 1 v1 (bl_I σ (bl_R σ v0 1) 60) 69 v0 qσ hv0 hv0 hf
set_option maxRecDepth 100000 in
theorem fr_X10_loses {ho : Nat → Bool} (σ : bl_St) (a0 : Nat) (a1 : Int32) (a2 : Int32) (o : Int32 × bl_St) (hw : bl_WT σ) (hh : bl_WH ho σ) (ha0 : bl_sh[a0]? = some (10, 28) ∧ ho a0 = true) (hf : f_X10_loses σ a0 a1 a2 = some o) : bl_Fq ho md_X10_loses σ o.2 := by
  obtain ⟨σ0, hz⟩ : ∃ z, z = σ := ⟨_, rfl⟩
  suffices hgo : bl_Fq ho md_X10_loses σ0 o.2 by rw [hz] at hgo; exact hgo
  have qσ : bl_Fq ho md_X10_loses σ0 σ := by rw [hz]; exact ⟨hw, hh, fun _ _ => ⟨rfl, rfl, rfl⟩⟩
  unfold f_X10_loses at hf
  rcases bl_if_at hf with hf | hf
  · obtain ⟨r40, σ41, h42, hf⟩ := bl_bd_at hf
    have qσ41 := bl_Fq_call qσ (fr_X10_size σ a0 a1 _ qσ.1 qσ.2.1 ha0.1 h42) (by decide)
    exact gw_X10_loses_17  σ41 a0 a1 a2 r40 qσ41 ha0 hf
  · obtain ⟨r43, σ44, h45, hf⟩ := bl_bd_at hf
    have qσ44 := bl_Fq_call qσ (fr_X10_toldPays σ a0 a1 _ qσ.1 qσ.2.1 ha0.1 h45) (by decide)
    exact gw_X10_loses_17  σ44 a0 a1 a2 r43 qσ44 ha0 hf
def md_X10_loss : List (Nat × Nat) := [(10, 28), (20, 167), (20, 2004)]
set_option maxRecDepth 100000 in
theorem fr_X10_loss {ho : Nat → Bool} (σ : bl_St) (a0 : Nat) (a1 : Int32) (a2 : Int32) (o : Int32 × bl_St) (hw : bl_WT σ) (hh : bl_WH ho σ) (ha0 : bl_sh[a0]? = some (10, 28) ∧ ho a0 = true) (hf : f_X10_loss σ a0 a1 a2 = some o) : bl_Fq ho md_X10_loss σ o.2 := by
  obtain ⟨σ0, hz⟩ : ∃ z, z = σ := ⟨_, rfl⟩
  suffices hgo : bl_Fq ho md_X10_loss σ0 o.2 by rw [hz] at hgo; exact hgo
  have qσ : bl_Fq ho md_X10_loss σ0 σ := by rw [hz]; exact ⟨hw, hh, fun _ _ => ⟨rfl, rfl, rfl⟩⟩
  unfold f_X10_loss at hf
  have h1 := bl_Fq_g qσ ha0 (k := 1) rfl (by decide)
  rcases bl_if_at hf with hf | hf
  · rw [← Option.some.inj hf]
    exact qσ
  · obtain ⟨r3, σ4, h5, hf⟩ := bl_bd_at hf
    have qσ4 := bl_Fq_call qσ (fr_X10_isSort σ a0 a1 _ qσ.1 qσ.2.1 ha0.1 h5) (by decide)
    rcases bl_if_at hf with hf | hf
    · rw [← Option.some.inj hf]
      exact qσ4
    · obtain ⟨r7, σ8, h9, hf⟩ := bl_bd_at hf
      have qσ8 := bl_Fq_call qσ4 (fr_X10_keeps σ4 a0 _ qσ4.1 qσ4.2.1 ha0 h9) (by decide)
      obtain ⟨r10, σ11, h12, hf⟩ := bl_bd_at hf
      have qσ11 := bl_Fq_call qσ8 (fr_X10_loses σ8 a0 a1 a2 _ qσ8.1 qσ8.2.1 ha0 h12) (by decide)
      rw [← Option.some.inj hf]
      exact qσ11
def md_X10_allPaid : List (Nat × Nat) := []
set_option maxRecDepth 100000 in
theorem fr_X10_allPaid {ho : Nat → Bool} (σ : bl_St) (a0 : Nat) (o : Int32 × bl_St) (hw : bl_WT σ) (hh : bl_WH ho σ) (ha0 : bl_sh[a0]? = some (10, 28)) (hf : f_X10_allPaid σ a0 = some o) : bl_Fq ho md_X10_allPaid σ o.2 := by
  obtain ⟨σ0, hz⟩ : ∃ z, z = σ := ⟨_, rfl⟩
  suffices hgo : bl_Fq ho md_X10_allPaid σ0 o.2 by rw [hz] at hgo; exact hgo
  have qσ : bl_Fq ho md_X10_allPaid σ0 σ := by rw [hz]; exact ⟨hw, hh, fun _ _ => ⟨rfl, rfl, rfl⟩⟩
  have ha0 := And.intro ha0 trivial
  unfold f_X10_allPaid at hf
  have h1 := bl_Fq_gn qσ ha0 (k := 1) rfl
  have h2 := bl_Fq_gn qσ ha0 (k := 1) rfl
  have h3 := bl_Fq_gn qσ ha0 (k := 1) rfl
  have h4 := bl_Fq_gn qσ ha0 (k := 1) rfl
  rw [← Option.some.inj hf]
  exact qσ
def md_X10_draws : List (Nat × Nat) := [(10, 28)]
set_option maxRecDepth 100000 in
theorem fr_X10_draws {ho : Nat → Bool} (σ : bl_St) (a0 : Nat) (a1 : Int32) (o : Int32 × bl_St) (hw : bl_WT σ) (hh : bl_WH ho σ) (ha0 : bl_sh[a0]? = some (10, 28) ∧ ho a0 = true) (hf : f_X10_draws σ a0 a1 = some o) : bl_Fq ho md_X10_draws σ o.2 := by
  obtain ⟨σ0, hz⟩ : ∃ z, z = σ := ⟨_, rfl⟩
  suffices hgo : bl_Fq ho md_X10_draws σ0 o.2 by rw [hz] at hgo; exact hgo
  have qσ : bl_Fq ho md_X10_draws σ0 σ := by rw [hz]; exact ⟨hw, hh, fun _ _ => ⟨rfl, rfl, rfl⟩⟩
  unfold f_X10_draws at hf
  obtain ⟨σ1, e2⟩ : ∃ z : bl_St, z = bl_pI σ a0 6 (((bl_I σ a0 6) * 1103515245) + 12345) := ⟨_, rfl⟩
  have hf := bl_let_at e2 hf
  have qσ1 : bl_Fq ho md_X10_draws σ0 σ1 := by rw [e2]; exact bl_Fq_I qσ (bl_al_in ha0.1 (by decide) ha0.2)
  obtain ⟨-, hf⟩ := bl_gd_at hf
  rw [← Option.some.inj hf]
  exact qσ1
def md_X10_sortDrawn : List (Nat × Nat) := [(10, 28)]
set_option maxRecDepth 100000 in
theorem gw_X10_sortDrawn_11 {ho : Nat → Bool} {σ0 : bl_St} {out : Int32 × bl_St} (k11 : bl_St → Nat → Int32 → Int32 → Option (Int32 × bl_St)) (gk11 : ∀ (σ : bl_St) (v0 : Nat) (v1 : Int32) (v2 : Int32), bl_Fq ho md_X10_sortDrawn σ0 σ → (bl_sh[v0]? = some (10, 28) ∧ ho v0 = true) → k11 σ v0 v1 v2 = some out → bl_Fq ho md_X10_sortDrawn σ0 out.2) : ∀ (σ : bl_St) (v0 : Nat) (v1 : Int32) (v2 : Int32), bl_Fq ho md_X10_sortDrawn σ0 σ → (bl_sh[v0]? = some (10, 28) ∧ ho v0 = true) → (b_X10_sortDrawn_11 k11) σ v0 v1 v2 = some out → bl_Fq ho md_X10_sortDrawn σ0 out.2 := by
  intro σ v0 v1 v2 qσ hv0 hf
  unfold b_X10_sortDrawn_11 at hf
  obtain ⟨r1, σ2, h3, hf⟩ := bl_bd_at hf
  have qσ2 := bl_Fq_call qσ (fr_X10_weight σ v0 v2 _ qσ.1 qσ.2.1 hv0.1 h3) (by decide)
  rcases bl_if_at hf with hf | hf
  · rw [← Option.some.inj hf]
    exact qσ2
  · obtain ⟨r5, σ6, h7, hf⟩ := bl_bd_at hf
    have qσ6 := bl_Fq_call qσ2 (fr_X10_weight σ2 v0 v2 _ qσ2.1 qσ2.2.1 hv0.1 h7) (by decide)
    obtain ⟨x8, e9⟩ : ∃ z, z = (v1 - r5) := ⟨_, rfl⟩
    have hf := bl_let_at e9 hf
    obtain ⟨x10, e11⟩ : ∃ z : Int32, z = v2 + 1 := ⟨_, rfl⟩
    have hf := bl_let_at e11 hf
    exact gk11 σ6 v0 x8 x10 qσ6 hv0 hf
theorem gl_X10_sortDrawn_11 {ho : Nat → Bool} {σ0 : bl_St} {out : Int32 × bl_St} (n : Nat) : ∀ (σ : bl_St) (v0 : Nat) (v1 : Int32) (v2 : Int32), bl_Fq ho md_X10_sortDrawn σ0 σ → (bl_sh[v0]? = some (10, 28) ∧ ho v0 = true) → (bl_fx (fun _ _ _ _ => none) (b_X10_sortDrawn_11 ) n) σ v0 v1 v2 = some out → bl_Fq ho md_X10_sortDrawn σ0 out.2 := by
  induction n with
  | zero =>
    intro σ v0 v1 v2 qσ hv0 hf
    cases hf
  | succ n ih => exact gw_X10_sortDrawn_11  _ ih
set_option maxRecDepth 100000 in
theorem fr_X10_sortDrawn {ho : Nat → Bool} (σ : bl_St) (a0 : Nat) (o : Int32 × bl_St) (hw : bl_WT σ) (hh : bl_WH ho σ) (ha0 : bl_sh[a0]? = some (10, 28) ∧ ho a0 = true) (hf : f_X10_sortDrawn σ a0 = some o) : bl_Fq ho md_X10_sortDrawn σ o.2 := by
  obtain ⟨σ0, hz⟩ : ∃ z, z = σ := ⟨_, rfl⟩
  suffices hgo : bl_Fq ho md_X10_sortDrawn σ0 o.2 by rw [hz] at hgo; exact hgo
  have qσ : bl_Fq ho md_X10_sortDrawn σ0 σ := by rw [hz]; exact ⟨hw, hh, fun _ _ => ⟨rfl, rfl, rfl⟩⟩
  unfold f_X10_sortDrawn at hf
  obtain ⟨r12, σ13, h14, hf⟩ := bl_bd_at hf
  have qσ13 := bl_Fq_call qσ (fr_X10_weights σ a0 _ qσ.1 qσ.2.1 ha0.1 h14) (by decide)
  obtain ⟨r15, σ16, h17, hf⟩ := bl_bd_at hf
  have qσ16 := bl_Fq_call qσ13 (fr_X10_draws σ13 a0 r12 _ qσ13.1 qσ13.2.1 ha0 h17) (by decide)
  exact gl_X10_sortDrawn_11  bl_fu σ16 a0 r15 0 qσ16 ha0 hf
def md_X10_countedNow : List (Nat × Nat) := []
set_option maxRecDepth 100000 in
theorem fr_X10_countedNow {ho : Nat → Bool} (σ : bl_St) (a0 : Nat) (o : Int32 × bl_St) (hw : bl_WT σ) (hh : bl_WH ho σ) (ha0 : bl_sh[a0]? = some (10, 28)) (hf : f_X10_countedNow σ a0 = some o) : bl_Fq ho md_X10_countedNow σ o.2 := by
  obtain ⟨σ0, hz⟩ : ∃ z, z = σ := ⟨_, rfl⟩
  suffices hgo : bl_Fq ho md_X10_countedNow σ0 o.2 by rw [hz] at hgo; exact hgo
  have qσ : bl_Fq ho md_X10_countedNow σ0 σ := by rw [hz]; exact ⟨hw, hh, fun _ _ => ⟨rfl, rfl, rfl⟩⟩
  have ha0 := And.intro ha0 trivial
  unfold f_X10_countedNow at hf
  have h1 := bl_Fq_gn qσ ha0 (k := 1) rfl
  rcases bl_if_at hf with hf | hf
  · have h3 := bl_Fq_gn qσ ha0 (k := 1) rfl
    rw [← Option.some.inj hf]
    exact qσ
  · rw [← Option.some.inj hf]
    exact qσ
def md_X10_slot : List (Nat × Nat) := []
set_option maxRecDepth 100000 in
theorem fr_X10_slot {ho : Nat → Bool} (σ : bl_St) (a0 : Int32) (a1 : Int32) (a2 : Int32) (o : Int32 × bl_St) (hw : bl_WT σ) (hh : bl_WH ho σ) (hf : f_X10_slot σ a0 a1 a2 = some o) : bl_Fq ho md_X10_slot σ o.2 := by
  obtain ⟨σ0, hz⟩ : ∃ z, z = σ := ⟨_, rfl⟩
  suffices hgo : bl_Fq ho md_X10_slot σ0 o.2 by rw [hz] at hgo; exact hgo
  have qσ : bl_Fq ho md_X10_slot σ0 σ := by rw [hz]; exact ⟨hw, hh, fun _ _ => ⟨rfl, rfl, rfl⟩⟩
  unfold f_X10_slot at hf
  rw [← Option.some.inj hf]
  exact qσ
def md_X10_borneCost : List (Nat × Nat) := []
set_option maxRecDepth 100000 in
theorem fr_X10_borneCost {ho : Nat → Bool} (σ : bl_St) (a0 : Nat) (a1 : Int32) (a2 : Int32) (a3 : Int32) (a4 : Int32) (o : Int64 × bl_St) (hw : bl_WT σ) (hh : bl_WH ho σ) (ha0 : bl_sh[a0]? = some (10, 28)) (hf : f_X10_borneCost σ a0 a1 a2 a3 a4 = some o) : bl_Fq ho md_X10_borneCost σ o.2 := by
  obtain ⟨σ0, hz⟩ : ∃ z, z = σ := ⟨_, rfl⟩
  suffices hgo : bl_Fq ho md_X10_borneCost σ0 o.2 by rw [hz] at hgo; exact hgo
  have qσ : bl_Fq ho md_X10_borneCost σ0 σ := by rw [hz]; exact ⟨hw, hh, fun _ _ => ⟨rfl, rfl, rfl⟩⟩
  have ha0 := And.intro ha0 trivial
  unfold f_X10_borneCost at hf
  obtain ⟨r1, σ2, h3, hf⟩ := bl_bd_at hf
  have qσ2 := bl_Fq_call qσ (fr_X10_size σ a0 a1 _ qσ.1 qσ.2.1 ha0.1 h3) (by decide)
  have h4 := bl_Fq_gn qσ2 ha0 (k := 9) rfl
  obtain ⟨r5, σ6, h7, hf⟩ := bl_bd_at hf
  have qσ6 := bl_Fq_call qσ2 (fr_X10_slot σ2 (a2 + 1) a3 a4 _ qσ2.1 qσ2.2.1  h7) (by decide)
  obtain ⟨-, hf⟩ := bl_gd_at hf
  rw [← Option.some.inj hf]
  exact qσ6
def md_X10_toldCost : List (Nat × Nat) := []
set_option maxRecDepth 100000 in
theorem gw_X10_toldCost_22 {ho : Nat → Bool} {σ0 : bl_St} {out : Int64 × bl_St} : ∀ (σ : bl_St) (v0 : Nat) (v1 : Int32) (v2 : Int32) (s0 : Int32), bl_Fq ho md_X10_toldCost σ0 σ → (bl_sh[v0]? = some (10, 28) ∧ True) → (b_X10_toldCost_22 ) σ v0 v1 v2 s0 = some out → bl_Fq ho md_X10_toldCost σ0 out.2 := by
  intro σ v0 v1 v2 s0 qσ hv0 hf
  unfold b_X10_toldCost_22 at hf
  obtain ⟨r1, σ2, h3, hf⟩ := bl_bd_at hf
  have qσ2 := bl_Fq_call qσ (fr_X10_toldPays σ v0 v1 _ qσ.1 qσ.2.1 hv0.1 h3) (by decide)
  have h4 := bl_Fq_gn qσ2 hv0 (k := 9) rfl
  obtain ⟨r5, σ6, h7, hf⟩ := bl_bd_at hf
  have qσ6 := bl_Fq_call qσ2 (fr_X10_slot σ2 (v2 + 1) s0 0 _ qσ2.1 qσ2.2.1  h7) (by decide)
  obtain ⟨-, hf⟩ := bl_gd_at hf
  rw [← Option.some.inj hf]
  exact qσ6
set_option maxRecDepth 100000 in
theorem fr_X10_toldCost {ho : Nat → Bool} (σ : bl_St) (a0 : Nat) (a1 : Int32) (a2 : Int32) (a3 : Int32) (a4 : Int32) (o : Int64 × bl_St) (hw : bl_WT σ) (hh : bl_WH ho σ) (ha0 : bl_sh[a0]? = some (10, 28)) (hf : f_X10_toldCost σ a0 a1 a2 a3 a4 = some o) : bl_Fq ho md_X10_toldCost σ o.2 := by
  obtain ⟨σ0, hz⟩ : ∃ z, z = σ := ⟨_, rfl⟩
  suffices hgo : bl_Fq ho md_X10_toldCost σ0 o.2 by rw [hz] at hgo; exact hgo
  have qσ : bl_Fq ho md_X10_toldCost σ0 σ := by rw [hz]; exact ⟨hw, hh, fun _ _ => ⟨rfl, rfl, rfl⟩⟩
  have ha0 := And.intro ha0 trivial
  unfold f_X10_toldCost at hf
  rcases bl_if_at hf with hf | hf
  · exact gw_X10_toldCost_22  σ a0 a1 a2 a3 qσ ha0 hf
  · rcases bl_if_at hf with hf | hf
    · exact gw_X10_toldCost_22  σ a0 a1 a2 2 qσ ha0 hf
    · exact gw_X10_toldCost_22  σ a0 a1 a2 (a3 + 1) qσ ha0 hf
def md_X10_gainOf : List (Nat × Nat) := []
set_option maxRecDepth 100000 in
theorem fr_X10_gainOf {ho : Nat → Bool} (σ : bl_St) (a0 : Nat) (a1 : Int32) (a2 : Int32) (a3 : Int32) (a4 : Int32) (o : Int64 × bl_St) (hw : bl_WT σ) (hh : bl_WH ho σ) (ha0 : bl_sh[a0]? = some (10, 28)) (hf : f_X10_gainOf σ a0 a1 a2 a3 a4 = some o) : bl_Fq ho md_X10_gainOf σ o.2 := by
  obtain ⟨σ0, hz⟩ : ∃ z, z = σ := ⟨_, rfl⟩
  suffices hgo : bl_Fq ho md_X10_gainOf σ0 o.2 by rw [hz] at hgo; exact hgo
  have qσ : bl_Fq ho md_X10_gainOf σ0 σ := by rw [hz]; exact ⟨hw, hh, fun _ _ => ⟨rfl, rfl, rfl⟩⟩
  have ha0 := And.intro ha0 trivial
  unfold f_X10_gainOf at hf
  obtain ⟨r1, σ2, h3, hf⟩ := bl_bd_at hf
  have qσ2 := bl_Fq_call qσ (fr_X10_borneCost σ a0 a1 a2 a3 a4 _ qσ.1 qσ.2.1 ha0.1 h3) (by decide)
  obtain ⟨r4, σ5, h6, hf⟩ := bl_bd_at hf
  have qσ5 := bl_Fq_call qσ2 (fr_X10_toldCost σ2 a0 a1 a2 a3 a4 _ qσ2.1 qσ2.2.1 ha0.1 h6) (by decide)
  rw [← Option.some.inj hf]
  exact qσ5
def md_X10_isGuarded : List (Nat × Nat) := []
set_option maxRecDepth 100000 in
theorem fr_X10_isGuarded {ho : Nat → Bool} (σ : bl_St) (a0 : Nat) (a1 : Int32) (a2 : Int32) (o : Int32 × bl_St) (hw : bl_WT σ) (hh : bl_WH ho σ) (ha0 : bl_sh[a0]? = some (10, 28)) (hf : f_X10_isGuarded σ a0 a1 a2 = some o) : bl_Fq ho md_X10_isGuarded σ o.2 := by
  obtain ⟨σ0, hz⟩ : ∃ z, z = σ := ⟨_, rfl⟩
  suffices hgo : bl_Fq ho md_X10_isGuarded σ0 o.2 by rw [hz] at hgo; exact hgo
  have qσ : bl_Fq ho md_X10_isGuarded σ0 σ := by rw [hz]; exact ⟨hw, hh, fun _ _ => ⟨rfl, rfl, rfl⟩⟩
  have ha0 := And.intro ha0 trivial
  unfold f_X10_isGuarded at hf
  have h1 := bl_Fq_gn qσ ha0 (k := 8) rfl
  obtain ⟨-, hf⟩ := bl_gd_at hf
  obtain ⟨-, hf⟩ := bl_gd_at hf
  rw [← Option.some.inj hf]
  exact qσ
def md_X10_lossCost : List (Nat × Nat) := []
set_option maxRecDepth 100000 in
theorem gw_X10_lossCost_78 {ho : Nat → Bool} {σ0 : bl_St} {out : Int64 × bl_St} : ∀ (σ : bl_St) (v5 : Int64) (v7 : Int64) (s0 : Int32), bl_Fq ho md_X10_lossCost σ0 σ → (b_X10_lossCost_78 ) σ v5 v7 s0 = some out → bl_Fq ho md_X10_lossCost σ0 out.2 := by
  intro σ v5 v7 s0 qσ  hf
  unfold b_X10_lossCost_78 at hf
  rcases bl_if_at hf with hf | hf
  · rw [← Option.some.inj hf]
    exact qσ
  · rw [← Option.some.inj hf]
    exact qσ
set_option maxRecDepth 100000 in
theorem gw_X10_lossCost_77 {ho : Nat → Bool} {σ0 : bl_St} {out : Int64 × bl_St} : ∀ (σ : bl_St) (v5 : Int64) (v7 : Int64), bl_Fq ho md_X10_lossCost σ0 σ → (b_X10_lossCost_77 ) σ v5 v7 = some out → bl_Fq ho md_X10_lossCost σ0 out.2 := by
  intro σ v5 v7 qσ  hf
  unfold b_X10_lossCost_77 at hf
  exact gw_X10_lossCost_78  σ v5 v7 0 qσ  hf
set_option maxRecDepth 100000 in
theorem gw_X10_lossCost_73 {ho : Nat → Bool} {σ0 : bl_St} {out : Int64 × bl_St} : ∀ (σ : bl_St) (v5 : Int64) (v7 : Int64), bl_Fq ho md_X10_lossCost σ0 σ → (b_X10_lossCost_73 ) σ v5 v7 = some out → bl_Fq ho md_X10_lossCost σ0 out.2 := by
  intro σ v5 v7 qσ  hf
  unfold b_X10_lossCost_73 at hf
  exact gw_X10_lossCost_78  σ v5 v7 1 qσ  hf
set_option maxRecDepth 100000 in
theorem fr_X10_lossCost {ho : Nat → Bool} (σ : bl_St) (a0 : Nat) (a1 : Int32) (a2 : Int32) (a3 : Int32) (a4 : Int32) (o : Int64 × bl_St) (hw : bl_WT σ) (hh : bl_WH ho σ) (ha0 : bl_sh[a0]? = some (10, 28)) (hf : f_X10_lossCost σ a0 a1 a2 a3 a4 = some o) : bl_Fq ho md_X10_lossCost σ o.2 := by
  obtain ⟨σ0, hz⟩ : ∃ z, z = σ := ⟨_, rfl⟩
  suffices hgo : bl_Fq ho md_X10_lossCost σ0 o.2 by rw [hz] at hgo; exact hgo
  have qσ : bl_Fq ho md_X10_lossCost σ0 σ := by rw [hz]; exact ⟨hw, hh, fun _ _ => ⟨rfl, rfl, rfl⟩⟩
  have ha0 := And.intro ha0 trivial
  unfold f_X10_lossCost at hf
  obtain ⟨r2, σ3, h4, hf⟩ := bl_bd_at hf
  have qσ3 := bl_Fq_call qσ (fr_X10_toldCost σ a0 a1 a2 a3 a4 _ qσ.1 qσ.2.1 ha0.1 h4) (by decide)
  obtain ⟨r5, σ6, h7, hf⟩ := bl_bd_at hf
  have qσ6 := bl_Fq_call qσ3 (fr_X10_borneCost σ3 a0 a1 a2 a3 a4 _ qσ3.1 qσ3.2.1 ha0.1 h7) (by decide)
  rcases bl_if_at hf with hf | hf
  · rcases bl_if_at hf with hf | hf
    · exact gw_X10_lossCost_78  σ6 r2 r5 0 qσ6  hf
    · exact gw_X10_lossCost_78  σ6 r2 r5 1 qσ6  hf
  · rcases bl_if_at hf with hf | hf
    · exact gw_X10_lossCost_73  σ6 r2 r5 qσ6  hf
    · rcases bl_if_at hf with hf | hf
      · obtain ⟨r11, σ12, h13, hf⟩ := bl_bd_at hf
        have qσ12 := bl_Fq_call qσ6 (fr_X10_size σ6 a0 a1 _ qσ6.1 qσ6.2.1 ha0.1 h13) (by decide)
        rcases bl_if_at hf with hf | hf
        · exact gw_X10_lossCost_77  σ12 r2 r5 qσ12  hf
        · exact gw_X10_lossCost_73  σ12 r2 r5 qσ12  hf
      · exact gw_X10_lossCost_77  σ6 r2 r5 qσ6  hf
def md_X10_chanceCost : List (Nat × Nat) := []
set_option maxRecDepth 100000 in
theorem gw_X10_chanceCost_118 {ho : Nat → Bool} {σ0 : bl_St} {out : Int64 × bl_St} (k118 : bl_St → Nat → Int32 → Int32 → Int32 → Int32 → Int64 → Int32 → Option (Int64 × bl_St)) (gk118 : ∀ (σ : bl_St) (v0 : Nat) (v1 : Int32) (v2 : Int32) (v3 : Int32) (v6 : Int32) (v7 : Int64) (v9 : Int32), bl_Fq ho md_X10_chanceCost σ0 σ → (bl_sh[v0]? = some (10, 28) ∧ True) → k118 σ v0 v1 v2 v3 v6 v7 v9 = some out → bl_Fq ho md_X10_chanceCost σ0 out.2) : ∀ (σ : bl_St) (v0 : Nat) (v1 : Int32) (v2 : Int32) (v3 : Int32) (v6 : Int32) (v7 : Int64) (v9 : Int32), bl_Fq ho md_X10_chanceCost σ0 σ → (bl_sh[v0]? = some (10, 28) ∧ True) → (b_X10_chanceCost_118 k118) σ v0 v1 v2 v3 v6 v7 v9 = some out → bl_Fq ho md_X10_chanceCost σ0 out.2 := by
  intro σ v0 v1 v2 v3 v6 v7 v9 qσ hv0 hf
  unfold b_X10_chanceCost_118 at hf
  have h1 := bl_Fq_gn qσ hv0 (k := 1) rfl
  rcases bl_if_at hf with hf | hf
  · obtain ⟨-, hf⟩ := bl_gd_at hf
    rw [← Option.some.inj hf]
    exact qσ
  · have h4 := bl_Fq_gn qσ hv0 (k := 1) rfl
    obtain ⟨r5, σ6, h7, hf⟩ := bl_bd_at hf
    have qσ6 := bl_Fq_call qσ (fr_X10_weight σ v0 v9 _ qσ.1 qσ.2.1 hv0.1 h7) (by decide)
    obtain ⟨r8, σ9, h10, hf⟩ := bl_bd_at hf
    have qσ9 := bl_Fq_call qσ6 (fr_X10_lossCost σ6 v0 v9 v1 v2 v3 _ qσ6.1 qσ6.2.1 hv0.1 h10) (by decide)
    obtain ⟨x11, e12⟩ : ∃ z, z = (v7 + ((Int32.toInt64 ((bl_I σ (bl_R σ v0 1) 3) * r5)) * r8)) := ⟨_, rfl⟩
    have hf := bl_let_at e12 hf
    obtain ⟨x13, e14⟩ : ∃ z : Int32, z = v9 + 1 := ⟨_, rfl⟩
    have hf := bl_let_at e14 hf
    exact gk118 σ9 v0 v1 v2 v3 v6 x11 x13 qσ9 hv0 hf
theorem gl_X10_chanceCost_118 {ho : Nat → Bool} {σ0 : bl_St} {out : Int64 × bl_St} (n : Nat) : ∀ (σ : bl_St) (v0 : Nat) (v1 : Int32) (v2 : Int32) (v3 : Int32) (v6 : Int32) (v7 : Int64) (v9 : Int32), bl_Fq ho md_X10_chanceCost σ0 σ → (bl_sh[v0]? = some (10, 28) ∧ True) → (bl_fx (fun _ _ _ _ _ _ _ _ => none) (b_X10_chanceCost_118 ) n) σ v0 v1 v2 v3 v6 v7 v9 = some out → bl_Fq ho md_X10_chanceCost σ0 out.2 := by
  induction n with
  | zero =>
    intro σ v0 v1 v2 v3 v6 v7 v9 qσ hv0 hf
    cases hf
  | succ n ih => exact gw_X10_chanceCost_118  _ ih
set_option maxRecDepth 100000 in
theorem gw_X10_chanceCost_46 {ho : Nat → Bool} {σ0 : bl_St} {out : Int64 × bl_St} (k46 : bl_St → Nat → Int32 → Int32 → Int32 → Int64 → Int32 → Option (Int64 × bl_St)) (gk46 : ∀ (σ : bl_St) (v0 : Nat) (v1 : Int32) (v2 : Int32) (v3 : Int32) (v6 : Int64) (v8 : Int32), bl_Fq ho md_X10_chanceCost σ0 σ → (bl_sh[v0]? = some (10, 28) ∧ True) → k46 σ v0 v1 v2 v3 v6 v8 = some out → bl_Fq ho md_X10_chanceCost σ0 out.2) : ∀ (σ : bl_St) (v0 : Nat) (v1 : Int32) (v2 : Int32) (v3 : Int32) (v6 : Int64) (v8 : Int32), bl_Fq ho md_X10_chanceCost σ0 σ → (bl_sh[v0]? = some (10, 28) ∧ True) → (b_X10_chanceCost_46 k46) σ v0 v1 v2 v3 v6 v8 = some out → bl_Fq ho md_X10_chanceCost σ0 out.2 := by
  intro σ v0 v1 v2 v3 v6 v8 qσ hv0 hf
  unfold b_X10_chanceCost_46 at hf
  have h15 := bl_Fq_gn qσ hv0 (k := 1) rfl
  rcases bl_if_at hf with hf | hf
  · rw [← Option.some.inj hf]
    exact qσ
  · have h17 := bl_Fq_gn qσ hv0 (k := 1) rfl
    rcases bl_if_at hf with hf | hf
    · rw [← Option.some.inj hf]
      exact qσ
    · obtain ⟨r19, σ20, h21, hf⟩ := bl_bd_at hf
      have qσ20 := bl_Fq_call qσ (fr_X10_lossCost σ v0 v8 v1 v2 v3 _ qσ.1 qσ.2.1 hv0.1 h21) (by decide)
      obtain ⟨r22, σ23, h24, hf⟩ := bl_bd_at hf
      have qσ23 := bl_Fq_call qσ20 (fr_X10_greater σ20 v6 r19 _ qσ20.1 qσ20.2.1  h24) (by decide)
      obtain ⟨x25, e26⟩ : ∃ z : Int32, z = v8 + 1 := ⟨_, rfl⟩
      have hf := bl_let_at e26 hf
      exact gk46 σ23 v0 v1 v2 v3 r22 x25 qσ23 hv0 hf
theorem gl_X10_chanceCost_46 {ho : Nat → Bool} {σ0 : bl_St} {out : Int64 × bl_St} (n : Nat) : ∀ (σ : bl_St) (v0 : Nat) (v1 : Int32) (v2 : Int32) (v3 : Int32) (v6 : Int64) (v8 : Int32), bl_Fq ho md_X10_chanceCost σ0 σ → (bl_sh[v0]? = some (10, 28) ∧ True) → (bl_fx (fun _ _ _ _ _ _ _ => none) (b_X10_chanceCost_46 ) n) σ v0 v1 v2 v3 v6 v8 = some out → bl_Fq ho md_X10_chanceCost σ0 out.2 := by
  induction n with
  | zero =>
    intro σ v0 v1 v2 v3 v6 v8 qσ hv0 hf
    cases hf
  | succ n ih => exact gw_X10_chanceCost_46  _ ih
set_option maxRecDepth 100000 in
theorem gw_X10_chanceCost_41 {ho : Nat → Bool} {σ0 : bl_St} {out : Int64 × bl_St} : ∀ (σ : bl_St) (v0 : Nat) (v1 : Int32) (v2 : Int32) (v3 : Int32) (s0 : Int64), bl_Fq ho md_X10_chanceCost σ0 σ → (bl_sh[v0]? = some (10, 28) ∧ True) → (b_X10_chanceCost_41 ) σ v0 v1 v2 v3 s0 = some out → bl_Fq ho md_X10_chanceCost σ0 out.2 := by
  intro σ v0 v1 v2 v3 s0 qσ hv0 hf
  unfold b_X10_chanceCost_41 at hf
  exact gl_X10_chanceCost_46  bl_fu σ v0 v1 v2 v3 s0 0 qσ hv0 hf
set_option maxRecDepth 100000 in
theorem fr_X10_chanceCost {ho : Nat → Bool} (σ : bl_St) (a0 : Nat) (a1 : Int32) (a2 : Int32) (a3 : Int32) (o : Int64 × bl_St) (hw : bl_WT σ) (hh : bl_WH ho σ) (ha0 : bl_sh[a0]? = some (10, 28)) (hf : f_X10_chanceCost σ a0 a1 a2 a3 = some o) : bl_Fq ho md_X10_chanceCost σ o.2 := by
  obtain ⟨σ0, hz⟩ : ∃ z, z = σ := ⟨_, rfl⟩
  suffices hgo : bl_Fq ho md_X10_chanceCost σ0 o.2 by rw [hz] at hgo; exact hgo
  have qσ : bl_Fq ho md_X10_chanceCost σ0 σ := by rw [hz]; exact ⟨hw, hh, fun _ _ => ⟨rfl, rfl, rfl⟩⟩
  have ha0 := And.intro ha0 trivial
  unfold f_X10_chanceCost at hf
  have h27 := bl_Fq_gn qσ ha0 (k := 9) rfl
  obtain ⟨r28, σ29, h30, hf⟩ := bl_bd_at hf
  have qσ29 := bl_Fq_call qσ (fr_X10_slot σ (a1 + 1) a2 a3 _ qσ.1 qσ.2.1  h30) (by decide)
  obtain ⟨-, hf⟩ := bl_gd_at hf
  obtain ⟨x32, e33⟩ : ∃ z, z = (bl_J σ29 (bl_R σ a0 9) (Int32.toNatClampNeg r28)) := ⟨_, rfl⟩
  have hf := bl_let_at e33 hf
  rcases bl_if_at hf with hf | hf
  · obtain ⟨r35, σ36, h37, hf⟩ := bl_bd_at hf
    have qσ36 := bl_Fq_call qσ29 (fr_X10_weights σ29 a0 _ qσ29.1 qσ29.2.1 ha0.1 h37) (by decide)
    have h38 := bl_Fq_gn qσ36 ha0 (k := 1) rfl
    obtain ⟨x39, e40⟩ : ∃ z, z = ((Int32.toInt64 ((12 - (bl_I σ36 (bl_R σ36 a0 1) 3)) * r35)) * x32) := ⟨_, rfl⟩
    have hf := bl_let_at e40 hf
    exact gl_X10_chanceCost_118  bl_fu σ36 a0 a1 a2 a3 r35 x39 0 qσ36 ha0 hf
  · have h41 := bl_Fq_gn qσ29 ha0 (k := 1) rfl
    rcases bl_if_at hf with hf | hf
    · exact gw_X10_chanceCost_41  σ29 a0 a1 a2 a3 (-9223372036854775808) qσ29 ha0 hf
    · exact gw_X10_chanceCost_41  σ29 a0 a1 a2 a3 x32 qσ29 ha0 hf
def md_X10_costAt : List (Nat × Nat) := []
set_option maxRecDepth 100000 in
theorem fr_X10_costAt {ho : Nat → Bool} (σ : bl_St) (a0 : Nat) (a1 : Int32) (a2 : Int32) (o : Int64 × bl_St) (hw : bl_WT σ) (hh : bl_WH ho σ) (ha0 : bl_sh[a0]? = some (10, 28)) (hf : f_X10_costAt σ a0 a1 a2 = some o) : bl_Fq ho md_X10_costAt σ o.2 := by
  obtain ⟨σ0, hz⟩ : ∃ z, z = σ := ⟨_, rfl⟩
  suffices hgo : bl_Fq ho md_X10_costAt σ0 o.2 by rw [hz] at hgo; exact hgo
  have qσ : bl_Fq ho md_X10_costAt σ0 σ := by rw [hz]; exact ⟨hw, hh, fun _ _ => ⟨rfl, rfl, rfl⟩⟩
  have ha0 := And.intro ha0 trivial
  unfold f_X10_costAt at hf
  have h1 := bl_Fq_gn qσ ha0 (k := 7) rfl
  obtain ⟨-, hf⟩ := bl_gd_at hf
  rw [← Option.some.inj hf]
  exact qσ
def md_X10_laysChances : List (Nat × Nat) := [(21, 42)]
set_option maxRecDepth 100000 in
theorem gw_X10_laysChances_83 {ho : Nat → Bool} {σ0 : bl_St} {out : Unit × bl_St} (k74 : bl_St → Nat → Int32 → Int32 → Option (Unit × bl_St)) (gk74 : ∀ (σ : bl_St) (v0 : Nat) (v3 : Int32) (v4 : Int32), bl_Fq ho md_X10_laysChances σ0 σ → (bl_sh[v0]? = some (10, 28) ∧ ho v0 = true) → k74 σ v0 v3 v4 = some out → bl_Fq ho md_X10_laysChances σ0 out.2) (k83 : bl_St → Nat → Int32 → Int32 → Int32 → Option (Unit × bl_St)) (gk83 : ∀ (σ : bl_St) (v0 : Nat) (v3 : Int32) (v4 : Int32) (v5 : Int32), bl_Fq ho md_X10_laysChances σ0 σ → (bl_sh[v0]? = some (10, 28) ∧ ho v0 = true) → k83 σ v0 v3 v4 v5 = some out → bl_Fq ho md_X10_laysChances σ0 out.2) : ∀ (σ : bl_St) (v0 : Nat) (v3 : Int32) (v4 : Int32) (v5 : Int32), bl_Fq ho md_X10_laysChances σ0 σ → (bl_sh[v0]? = some (10, 28) ∧ ho v0 = true) → (b_X10_laysChances_83 k74 k83) σ v0 v3 v4 v5 = some out → bl_Fq ho md_X10_laysChances σ0 out.2 := by
  intro σ v0 v3 v4 v5 qσ hv0 hf
  unfold b_X10_laysChances_83 at hf
  rcases bl_if_at hf with hf | hf
  · obtain ⟨x2, e3⟩ : ∃ z : Int32, z = v4 + 1 := ⟨_, rfl⟩
    have hf := bl_let_at e3 hf
    exact gk74 σ v0 v3 x2 qσ hv0 hf
  · have h4 := bl_Fq_g qσ hv0 (k := 9) rfl (by decide)
    obtain ⟨r5, σ6, h7, hf⟩ := bl_bd_at hf
    have qσ6 := bl_Fq_call qσ (fr_X10_slot σ v3 v4 v5 _ qσ.1 qσ.2.1  h7) (by decide)
    obtain ⟨r8, σ9, h10, hf⟩ := bl_bd_at hf
    have qσ9 := bl_Fq_call qσ6 (fr_X10_chanceCost σ6 v0 v3 v4 v5 _ qσ6.1 qσ6.2.1 hv0.1 h10) (by decide)
    obtain ⟨-, hf⟩ := bl_gd_at hf
    obtain ⟨σ12, e13⟩ : ∃ z : bl_St, z = bl_pJ σ9 (bl_R σ v0 9) (Int32.toNatClampNeg r5) r8 := ⟨_, rfl⟩
    have hf := bl_let_at e13 hf
    have qσ12 : bl_Fq ho md_X10_laysChances σ0 σ12 := by rw [e13]; exact bl_Fq_J qσ9 (bl_al_in h4.1 (by decide) h4.2)
    obtain ⟨x14, e15⟩ : ∃ z : Int32, z = v5 + 1 := ⟨_, rfl⟩
    have hf := bl_let_at e15 hf
    exact gk83 σ12 v0 v3 v4 x14 qσ12 hv0 hf
theorem gl_X10_laysChances_83 {ho : Nat → Bool} {σ0 : bl_St} {out : Unit × bl_St} (k74 : bl_St → Nat → Int32 → Int32 → Option (Unit × bl_St)) (gk74 : ∀ (σ : bl_St) (v0 : Nat) (v3 : Int32) (v4 : Int32), bl_Fq ho md_X10_laysChances σ0 σ → (bl_sh[v0]? = some (10, 28) ∧ ho v0 = true) → k74 σ v0 v3 v4 = some out → bl_Fq ho md_X10_laysChances σ0 out.2) (n : Nat) : ∀ (σ : bl_St) (v0 : Nat) (v3 : Int32) (v4 : Int32) (v5 : Int32), bl_Fq ho md_X10_laysChances σ0 σ → (bl_sh[v0]? = some (10, 28) ∧ ho v0 = true) → (bl_fx (fun _ _ _ _ _ => none) (b_X10_laysChances_83 k74) n) σ v0 v3 v4 v5 = some out → bl_Fq ho md_X10_laysChances σ0 out.2 := by
  induction n with
  | zero =>
    intro σ v0 v3 v4 v5 qσ hv0 hf
    cases hf
  | succ n ih => exact gw_X10_laysChances_83 k74 gk74 _ ih
set_option maxRecDepth 100000 in
theorem gw_X10_laysChances_74 {ho : Nat → Bool} {σ0 : bl_St} {out : Unit × bl_St} (k67 : bl_St → Nat → Int32 → Option (Unit × bl_St)) (gk67 : ∀ (σ : bl_St) (v0 : Nat) (v3 : Int32), bl_Fq ho md_X10_laysChances σ0 σ → (bl_sh[v0]? = some (10, 28) ∧ ho v0 = true) → k67 σ v0 v3 = some out → bl_Fq ho md_X10_laysChances σ0 out.2) (k74 : bl_St → Nat → Int32 → Int32 → Option (Unit × bl_St)) (gk74 : ∀ (σ : bl_St) (v0 : Nat) (v3 : Int32) (v4 : Int32), bl_Fq ho md_X10_laysChances σ0 σ → (bl_sh[v0]? = some (10, 28) ∧ ho v0 = true) → k74 σ v0 v3 v4 = some out → bl_Fq ho md_X10_laysChances σ0 out.2) : ∀ (σ : bl_St) (v0 : Nat) (v3 : Int32) (v4 : Int32), bl_Fq ho md_X10_laysChances σ0 σ → (bl_sh[v0]? = some (10, 28) ∧ ho v0 = true) → (b_X10_laysChances_74 k67 k74) σ v0 v3 v4 = some out → bl_Fq ho md_X10_laysChances σ0 out.2 := by
  intro σ v0 v3 v4 qσ hv0 hf
  unfold b_X10_laysChances_74 at hf
  rcases bl_if_at hf with hf | hf
  · obtain ⟨x17, e18⟩ : ∃ z : Int32, z = v3 + (-1) := ⟨_, rfl⟩
    have hf := bl_let_at e18 hf
    exact gk67 σ v0 x17 qσ hv0 hf
  · exact gl_X10_laysChances_83 k74 gk74 bl_fu σ v0 v3 v4 0 qσ hv0 hf
theorem gl_X10_laysChances_74 {ho : Nat → Bool} {σ0 : bl_St} {out : Unit × bl_St} (k67 : bl_St → Nat → Int32 → Option (Unit × bl_St)) (gk67 : ∀ (σ : bl_St) (v0 : Nat) (v3 : Int32), bl_Fq ho md_X10_laysChances σ0 σ → (bl_sh[v0]? = some (10, 28) ∧ ho v0 = true) → k67 σ v0 v3 = some out → bl_Fq ho md_X10_laysChances σ0 out.2) (n : Nat) : ∀ (σ : bl_St) (v0 : Nat) (v3 : Int32) (v4 : Int32), bl_Fq ho md_X10_laysChances σ0 σ → (bl_sh[v0]? = some (10, 28) ∧ ho v0 = true) → (bl_fx (fun _ _ _ _ => none) (b_X10_laysChances_74 k67) n) σ v0 v3 v4 = some out → bl_Fq ho md_X10_laysChances σ0 out.2 := by
  induction n with
  | zero =>
    intro σ v0 v3 v4 qσ hv0 hf
    cases hf
  | succ n ih => exact gw_X10_laysChances_74 k67 gk67 _ ih
set_option maxRecDepth 100000 in
theorem gw_X10_laysChances_67 {ho : Nat → Bool} {σ0 : bl_St} {out : Unit × bl_St} (k67 : bl_St → Nat → Int32 → Option (Unit × bl_St)) (gk67 : ∀ (σ : bl_St) (v0 : Nat) (v3 : Int32), bl_Fq ho md_X10_laysChances σ0 σ → (bl_sh[v0]? = some (10, 28) ∧ ho v0 = true) → k67 σ v0 v3 = some out → bl_Fq ho md_X10_laysChances σ0 out.2) : ∀ (σ : bl_St) (v0 : Nat) (v3 : Int32), bl_Fq ho md_X10_laysChances σ0 σ → (bl_sh[v0]? = some (10, 28) ∧ ho v0 = true) → (b_X10_laysChances_67 k67) σ v0 v3 = some out → bl_Fq ho md_X10_laysChances σ0 out.2 := by
  intro σ v0 v3 qσ hv0 hf
  unfold b_X10_laysChances_67 at hf
  rcases bl_if_at hf with hf | hf
  · rw [← Option.some.inj hf]
    exact qσ
  · exact gl_X10_laysChances_74 k67 gk67 bl_fu σ v0 v3 0 qσ hv0 hf
theorem gl_X10_laysChances_67 {ho : Nat → Bool} {σ0 : bl_St} {out : Unit × bl_St} (n : Nat) : ∀ (σ : bl_St) (v0 : Nat) (v3 : Int32), bl_Fq ho md_X10_laysChances σ0 σ → (bl_sh[v0]? = some (10, 28) ∧ ho v0 = true) → (bl_fx (fun _ _ _ => none) (b_X10_laysChances_67 ) n) σ v0 v3 = some out → bl_Fq ho md_X10_laysChances σ0 out.2 := by
  induction n with
  | zero =>
    intro σ v0 v3 qσ hv0 hf
    cases hf
  | succ n ih => exact gw_X10_laysChances_67  _ ih
set_option maxRecDepth 100000 in
theorem gw_X10_laysChances_2 {ho : Nat → Bool} {σ0 : bl_St} {out : Unit × bl_St} (k2 : bl_St → Nat → Int32 → Int32 → Int32 → Option (Unit × bl_St)) (gk2 : ∀ (σ : bl_St) (v0 : Nat) (v1 : Int32) (v2 : Int32) (v3 : Int32), bl_Fq ho md_X10_laysChances σ0 σ → (bl_sh[v0]? = some (10, 28) ∧ ho v0 = true) → k2 σ v0 v1 v2 v3 = some out → bl_Fq ho md_X10_laysChances σ0 out.2) : ∀ (σ : bl_St) (v0 : Nat) (v1 : Int32) (v2 : Int32) (v3 : Int32), bl_Fq ho md_X10_laysChances σ0 σ → (bl_sh[v0]? = some (10, 28) ∧ ho v0 = true) → (b_X10_laysChances_2 k2) σ v0 v1 v2 v3 = some out → bl_Fq ho md_X10_laysChances σ0 out.2 := by
  intro σ v0 v1 v2 v3 qσ hv0 hf
  unfold b_X10_laysChances_2 at hf
  rcases bl_if_at hf with hf | hf
  · obtain ⟨x21, e22⟩ : ∃ z, z = ((bl_I σ v0 10) - 1) := ⟨_, rfl⟩
    have hf := bl_let_at e22 hf
    exact gl_X10_laysChances_67  bl_fu σ v0 x21 qσ hv0 hf
  · obtain ⟨r23, σ24, h25, hf⟩ := bl_bd_at hf
    have qσ24 := bl_Fq_call qσ (fr_X10_behind σ v0 v2 v3 _ qσ.1 qσ.2.1 hv0.1 h25) (by decide)
    obtain ⟨r26, σ27, h28, hf⟩ := bl_bd_at hf
    have qσ27 := bl_Fq_call qσ24 (fr_X10_costAt σ24 v0 (v1 - 1) r23 _ qσ24.1 qσ24.2.1 hv0.1 h28) (by decide)
    have h29 := bl_Fq_g qσ27 hv0 (k := 9) rfl (by decide)
    obtain ⟨r30, σ31, h32, hf⟩ := bl_bd_at hf
    have qσ31 := bl_Fq_call qσ27 (fr_X10_slot σ27 (bl_I σ27 v0 10) v3 0 _ qσ27.1 qσ27.2.1  h32) (by decide)
    obtain ⟨-, hf⟩ := bl_gd_at hf
    obtain ⟨σ34, e35⟩ : ∃ z : bl_St, z = bl_pJ σ31 (bl_R σ27 v0 9) (Int32.toNatClampNeg r30) r26 := ⟨_, rfl⟩
    have hf := bl_let_at e35 hf
    have qσ34 : bl_Fq ho md_X10_laysChances σ0 σ34 := by rw [e35]; exact bl_Fq_J qσ31 (bl_al_in h29.1 (by decide) h29.2)
    have h36 := bl_Fq_g qσ34 hv0 (k := 9) rfl (by decide)
    obtain ⟨r37, σ38, h39, hf⟩ := bl_bd_at hf
    have qσ38 := bl_Fq_call qσ34 (fr_X10_slot σ34 (bl_I σ34 v0 10) v3 1 _ qσ34.1 qσ34.2.1  h39) (by decide)
    obtain ⟨-, hf⟩ := bl_gd_at hf
    obtain ⟨σ41, e42⟩ : ∃ z : bl_St, z = bl_pJ σ38 (bl_R σ34 v0 9) (Int32.toNatClampNeg r37) r26 := ⟨_, rfl⟩
    have hf := bl_let_at e42 hf
    have qσ41 : bl_Fq ho md_X10_laysChances σ0 σ41 := by rw [e42]; exact bl_Fq_J qσ38 (bl_al_in h36.1 (by decide) h36.2)
    obtain ⟨x43, e44⟩ : ∃ z : Int32, z = v3 + 1 := ⟨_, rfl⟩
    have hf := bl_let_at e44 hf
    exact gk2 σ41 v0 v1 v2 x43 qσ41 hv0 hf
theorem gl_X10_laysChances_2 {ho : Nat → Bool} {σ0 : bl_St} {out : Unit × bl_St} (n : Nat) : ∀ (σ : bl_St) (v0 : Nat) (v1 : Int32) (v2 : Int32) (v3 : Int32), bl_Fq ho md_X10_laysChances σ0 σ → (bl_sh[v0]? = some (10, 28) ∧ ho v0 = true) → (bl_fx (fun _ _ _ _ _ => none) (b_X10_laysChances_2 ) n) σ v0 v1 v2 v3 = some out → bl_Fq ho md_X10_laysChances σ0 out.2 := by
  induction n with
  | zero =>
    intro σ v0 v1 v2 v3 qσ hv0 hf
    cases hf
  | succ n ih => exact gw_X10_laysChances_2  _ ih
set_option maxRecDepth 100000 in
theorem fr_X10_laysChances {ho : Nat → Bool} (σ : bl_St) (a0 : Nat) (a1 : Int32) (a2 : Int32) (o : Unit × bl_St) (hw : bl_WT σ) (hh : bl_WH ho σ) (ha0 : bl_sh[a0]? = some (10, 28) ∧ ho a0 = true) (hf : f_X10_laysChances σ a0 a1 a2 = some o) : bl_Fq ho md_X10_laysChances σ o.2 := by
  obtain ⟨σ0, hz⟩ : ∃ z, z = σ := ⟨_, rfl⟩
  suffices hgo : bl_Fq ho md_X10_laysChances σ0 o.2 by rw [hz] at hgo; exact hgo
  have qσ : bl_Fq ho md_X10_laysChances σ0 σ := by rw [hz]; exact ⟨hw, hh, fun _ _ => ⟨rfl, rfl, rfl⟩⟩
  unfold f_X10_laysChances at hf
  exact gl_X10_laysChances_2  bl_fu σ a0 a1 a2 0 qσ ha0 hf
def md_X10_laysYears : List (Nat × Nat) := [(10, 28), (21, 42), (21, 168), (23, 168)]
set_option maxRecDepth 100000 in
theorem gw_X10_laysYears_182 {ho : Nat → Bool} {σ0 : bl_St} {out : Unit × bl_St} (k41 : bl_St → Nat → Int32 → Int32 → Int32 → Int32 → Int32 → Int32 → Option (Unit × bl_St)) (gk41 : ∀ (σ : bl_St) (v0 : Nat) (v1 : Int32) (v2 : Int32) (v4 : Int32) (v5 : Int32) (v6 : Int32) (v7 : Int32), bl_Fq ho md_X10_laysYears σ0 σ → (bl_sh[v0]? = some (10, 28) ∧ ho v0 = true) → k41 σ v0 v1 v2 v4 v5 v6 v7 = some out → bl_Fq ho md_X10_laysYears σ0 out.2) : ∀ (σ : bl_St) (v0 : Nat) (v1 : Int32) (v2 : Int32) (v4 : Int32) (v5 : Int32) (v6 : Int32) (v7 : Int32) (s0 : Int64) (s1 : Int32) (s2 : Nat), bl_Fq ho md_X10_laysYears σ0 σ → (bl_sh[v0]? = some (10, 28) ∧ ho v0 = true) → (bl_sh[s2]? = some (21, 168) ∧ ho s2 = true) → (b_X10_laysYears_182 k41) σ v0 v1 v2 v4 v5 v6 v7 s0 s1 s2 = some out → bl_Fq ho md_X10_laysYears σ0 out.2 := by
  intro σ v0 v1 v2 v4 v5 v6 v7 s0 s1 s2 qσ hv0 hs2 hf
  unfold b_X10_laysYears_182 at hf
  obtain ⟨-, hf⟩ := bl_gd_at hf
  obtain ⟨σ2, e3⟩ : ∃ z : bl_St, z = bl_pJ σ s2 (Int32.toNatClampNeg s1) s0 := ⟨_, rfl⟩
  have hf := bl_let_at e3 hf
  have qσ2 : bl_Fq ho md_X10_laysYears σ0 σ2 := by rw [e3]; exact bl_Fq_J qσ (bl_al_in hs2.1 (by decide) hs2.2)
  obtain ⟨x4, e5⟩ : ∃ z : Int32, z = v7 + 1 := ⟨_, rfl⟩
  have hf := bl_let_at e5 hf
  exact gk41 σ2 v0 v1 v2 v4 v5 v6 x4 qσ2 hv0 hf
set_option maxRecDepth 100000 in
theorem gw_X10_laysYears_141 {ho : Nat → Bool} {σ0 : bl_St} {out : Unit × bl_St} (k41 : bl_St → Nat → Int32 → Int32 → Int32 → Int32 → Int32 → Int32 → Option (Unit × bl_St)) (gk41 : ∀ (σ : bl_St) (v0 : Nat) (v1 : Int32) (v2 : Int32) (v4 : Int32) (v5 : Int32) (v6 : Int32) (v7 : Int32), bl_Fq ho md_X10_laysYears σ0 σ → (bl_sh[v0]? = some (10, 28) ∧ ho v0 = true) → k41 σ v0 v1 v2 v4 v5 v6 v7 = some out → bl_Fq ho md_X10_laysYears σ0 out.2) : ∀ (σ : bl_St) (v0 : Nat) (v1 : Int32) (v2 : Int32) (v4 : Int32) (v5 : Int32) (v6 : Int32) (v7 : Int32) (v10 : Int64) (v12 : Int64) (s0 : Int32), bl_Fq ho md_X10_laysYears σ0 σ → (bl_sh[v0]? = some (10, 28) ∧ ho v0 = true) → (b_X10_laysYears_141 k41) σ v0 v1 v2 v4 v5 v6 v7 v10 v12 s0 = some out → bl_Fq ho md_X10_laysYears σ0 out.2 := by
  intro σ v0 v1 v2 v4 v5 v6 v7 v10 v12 s0 qσ hv0 hf
  unfold b_X10_laysYears_141 at hf
  have h6 := bl_Fq_g qσ hv0 (k := 8) rfl (by decide)
  obtain ⟨-, hf⟩ := bl_gd_at hf
  obtain ⟨σ8, e9⟩ : ∃ z : bl_St, z = bl_pI σ (bl_R σ v0 8) (Int32.toNatClampNeg ((8 * v6) + v7)) (bl_nz s0) := ⟨_, rfl⟩
  have hf := bl_let_at e9 hf
  have qσ8 : bl_Fq ho md_X10_laysYears σ0 σ8 := by rw [e9]; exact bl_Fq_I qσ (bl_al_in h6.1 (by decide) h6.2)
  have h10 := bl_Fq_g qσ8 hv0 (k := 7) rfl (by decide)
  rcases bl_if_at hf with hf | hf
  · exact gw_X10_laysYears_182 k41 gk41 σ8 v0 v1 v2 v4 v5 v6 v7 v10 ((8 * v6) + v7) (bl_R σ8 v0 7) qσ8 hv0 h10 hf
  · exact gw_X10_laysYears_182 k41 gk41 σ8 v0 v1 v2 v4 v5 v6 v7 v12 ((8 * v6) + v7) (bl_R σ8 v0 7) qσ8 hv0 h10 hf
set_option maxRecDepth 100000 in
theorem gw_X10_laysYears_140 {ho : Nat → Bool} {σ0 : bl_St} {out : Unit × bl_St} (k41 : bl_St → Nat → Int32 → Int32 → Int32 → Int32 → Int32 → Int32 → Option (Unit × bl_St)) (gk41 : ∀ (σ : bl_St) (v0 : Nat) (v1 : Int32) (v2 : Int32) (v4 : Int32) (v5 : Int32) (v6 : Int32) (v7 : Int32), bl_Fq ho md_X10_laysYears σ0 σ → (bl_sh[v0]? = some (10, 28) ∧ ho v0 = true) → k41 σ v0 v1 v2 v4 v5 v6 v7 = some out → bl_Fq ho md_X10_laysYears σ0 out.2) : ∀ (σ : bl_St) (v0 : Nat) (v1 : Int32) (v2 : Int32) (v4 : Int32) (v5 : Int32) (v6 : Int32) (v7 : Int32) (v10 : Int64) (v12 : Int64), bl_Fq ho md_X10_laysYears σ0 σ → (bl_sh[v0]? = some (10, 28) ∧ ho v0 = true) → (b_X10_laysYears_140 k41) σ v0 v1 v2 v4 v5 v6 v7 v10 v12 = some out → bl_Fq ho md_X10_laysYears σ0 out.2 := by
  intro σ v0 v1 v2 v4 v5 v6 v7 v10 v12 qσ hv0 hf
  unfold b_X10_laysYears_140 at hf
  exact gw_X10_laysYears_141 k41 gk41 σ v0 v1 v2 v4 v5 v6 v7 v10 v12 0 qσ hv0 hf
set_option maxRecDepth 100000 in
theorem gw_X10_laysYears_41 {ho : Nat → Bool} {σ0 : bl_St} {out : Unit × bl_St} (k32 : bl_St → Nat → Int32 → Int32 → Int32 → Int32 → Int32 → Option (Unit × bl_St)) (gk32 : ∀ (σ : bl_St) (v0 : Nat) (v1 : Int32) (v2 : Int32) (v4 : Int32) (v5 : Int32) (v6 : Int32), bl_Fq ho md_X10_laysYears σ0 σ → (bl_sh[v0]? = some (10, 28) ∧ ho v0 = true) → k32 σ v0 v1 v2 v4 v5 v6 = some out → bl_Fq ho md_X10_laysYears σ0 out.2) (k41 : bl_St → Nat → Int32 → Int32 → Int32 → Int32 → Int32 → Int32 → Option (Unit × bl_St)) (gk41 : ∀ (σ : bl_St) (v0 : Nat) (v1 : Int32) (v2 : Int32) (v4 : Int32) (v5 : Int32) (v6 : Int32) (v7 : Int32), bl_Fq ho md_X10_laysYears σ0 σ → (bl_sh[v0]? = some (10, 28) ∧ ho v0 = true) → k41 σ v0 v1 v2 v4 v5 v6 v7 = some out → bl_Fq ho md_X10_laysYears σ0 out.2) : ∀ (σ : bl_St) (v0 : Nat) (v1 : Int32) (v2 : Int32) (v4 : Int32) (v5 : Int32) (v6 : Int32) (v7 : Int32), bl_Fq ho md_X10_laysYears σ0 σ → (bl_sh[v0]? = some (10, 28) ∧ ho v0 = true) → (b_X10_laysYears_41 k32 k41) σ v0 v1 v2 v4 v5 v6 v7 = some out → bl_Fq ho md_X10_laysYears σ0 out.2 := by
  intro σ v0 v1 v2 v4 v5 v6 v7 qσ hv0 hf
  unfold b_X10_laysYears_41 at hf
  have h12 := bl_Fq_g qσ hv0 (k := 1) rfl (by decide)
  rcases bl_if_at hf with hf | hf
  · obtain ⟨x14, e15⟩ : ∃ z : Int32, z = v6 + 1 := ⟨_, rfl⟩
    have hf := bl_let_at e15 hf
    exact gk32 σ v0 v1 v2 v4 v5 x14 qσ hv0 hf
  · obtain ⟨r16, σ17, h18, hf⟩ := bl_bd_at hf
    have qσ17 := bl_Fq_call qσ (fr_X10_laysChances σ v0 v6 v7 _ qσ.1 qσ.2.1 hv0 h18) (by decide)
    obtain ⟨r19, σ20, h21, hf⟩ := bl_bd_at hf
    have qσ20 := bl_Fq_call qσ17 (fr_X10_ofClass σ17 v0 v7 0 _ qσ17.1 qσ17.2.1 hv0.1 h21) (by decide)
    obtain ⟨x22, e23⟩ : ∃ z, z = (((Int32.toInt64 v4) * (Int32.toInt64 r19)) * 1000) := ⟨_, rfl⟩
    have hf := bl_let_at e23 hf
    have h24 := bl_Fq_g qσ20 hv0 (k := 9) rfl (by decide)
    obtain ⟨x25, e26⟩ : ∃ z, z = ((x22 - ((x22 * (Int32.toInt64 v5)) / 100)) + (bl_J σ20 (bl_R σ20 v0 9) 0)) := ⟨_, rfl⟩
    have hf := bl_let_at e26 hf
    obtain ⟨r27, σ28, h29, hf⟩ := bl_bd_at hf
    have qσ28 := bl_Fq_call qσ20 (fr_X10_ofClass σ20 v0 v7 4 _ qσ20.1 qσ20.2.1 hv0.1 h29) (by decide)
    have h30 := bl_Fq_g qσ28 hv0 (k := 9) rfl (by decide)
    obtain ⟨x31, e32⟩ : ∃ z, z = ((x22 + ((Int32.toInt64 r27) * 1000)) + (bl_J σ28 (bl_R σ28 v0 9) 1)) := ⟨_, rfl⟩
    have hf := bl_let_at e32 hf
    rcases bl_if_at hf with hf | hf
    · exact gw_X10_laysYears_140 k41 gk41 σ28 v0 v1 v2 v4 v5 v6 v7 x25 x31 qσ28 hv0 hf
    · rcases bl_if_at hf with hf | hf
      · exact gw_X10_laysYears_140 k41 gk41 σ28 v0 v1 v2 v4 v5 v6 v7 x25 x31 qσ28 hv0 hf
      · exact gw_X10_laysYears_141 k41 gk41 σ28 v0 v1 v2 v4 v5 v6 v7 x25 x31 1 qσ28 hv0 hf
theorem gl_X10_laysYears_41 {ho : Nat → Bool} {σ0 : bl_St} {out : Unit × bl_St} (k32 : bl_St → Nat → Int32 → Int32 → Int32 → Int32 → Int32 → Option (Unit × bl_St)) (gk32 : ∀ (σ : bl_St) (v0 : Nat) (v1 : Int32) (v2 : Int32) (v4 : Int32) (v5 : Int32) (v6 : Int32), bl_Fq ho md_X10_laysYears σ0 σ → (bl_sh[v0]? = some (10, 28) ∧ ho v0 = true) → k32 σ v0 v1 v2 v4 v5 v6 = some out → bl_Fq ho md_X10_laysYears σ0 out.2) (n : Nat) : ∀ (σ : bl_St) (v0 : Nat) (v1 : Int32) (v2 : Int32) (v4 : Int32) (v5 : Int32) (v6 : Int32) (v7 : Int32), bl_Fq ho md_X10_laysYears σ0 σ → (bl_sh[v0]? = some (10, 28) ∧ ho v0 = true) → (bl_fx (fun _ _ _ _ _ _ _ _ => none) (b_X10_laysYears_41 k32) n) σ v0 v1 v2 v4 v5 v6 v7 = some out → bl_Fq ho md_X10_laysYears σ0 out.2 := by
  induction n with
  | zero =>
    intro σ v0 v1 v2 v4 v5 v6 v7 qσ hv0 hf
    cases hf
  | succ n ih => exact gw_X10_laysYears_41 k32 gk32 _ ih
set_option maxRecDepth 100000 in
theorem gw_X10_laysYears_32 {ho : Nat → Bool} {σ0 : bl_St} {out : Unit × bl_St} (k32 : bl_St → Nat → Int32 → Int32 → Int32 → Int32 → Int32 → Option (Unit × bl_St)) (gk32 : ∀ (σ : bl_St) (v0 : Nat) (v1 : Int32) (v2 : Int32) (v4 : Int32) (v5 : Int32) (v6 : Int32), bl_Fq ho md_X10_laysYears σ0 σ → (bl_sh[v0]? = some (10, 28) ∧ ho v0 = true) → k32 σ v0 v1 v2 v4 v5 v6 = some out → bl_Fq ho md_X10_laysYears σ0 out.2) : ∀ (σ : bl_St) (v0 : Nat) (v1 : Int32) (v2 : Int32) (v4 : Int32) (v5 : Int32) (v6 : Int32), bl_Fq ho md_X10_laysYears σ0 σ → (bl_sh[v0]? = some (10, 28) ∧ ho v0 = true) → (b_X10_laysYears_32 k32) σ v0 v1 v2 v4 v5 v6 = some out → bl_Fq ho md_X10_laysYears σ0 out.2 := by
  intro σ v0 v1 v2 v4 v5 v6 qσ hv0 hf
  unfold b_X10_laysYears_32 at hf
  rcases bl_if_at hf with hf | hf
  · rw [← Option.some.inj hf]
    exact qσ
  · exact gl_X10_laysYears_41 k32 gk32 bl_fu σ v0 v1 v2 v4 v5 v6 0 qσ hv0 hf
theorem gl_X10_laysYears_32 {ho : Nat → Bool} {σ0 : bl_St} {out : Unit × bl_St} (n : Nat) : ∀ (σ : bl_St) (v0 : Nat) (v1 : Int32) (v2 : Int32) (v4 : Int32) (v5 : Int32) (v6 : Int32), bl_Fq ho md_X10_laysYears σ0 σ → (bl_sh[v0]? = some (10, 28) ∧ ho v0 = true) → (bl_fx (fun _ _ _ _ _ _ _ => none) (b_X10_laysYears_32 ) n) σ v0 v1 v2 v4 v5 v6 = some out → bl_Fq ho md_X10_laysYears σ0 out.2 := by
  induction n with
  | zero =>
    intro σ v0 v1 v2 v4 v5 v6 qσ hv0 hf
    cases hf
  | succ n ih => exact gw_X10_laysYears_32  _ ih
set_option maxRecDepth 100000 in
theorem gw_X10_laysYears_8 {ho : Nat → Bool} {σ0 : bl_St} {out : Unit × bl_St} (k8 : bl_St → Nat → Int32 → Int32 → Int32 → Int32 → Int32 → Option (Unit × bl_St)) (gk8 : ∀ (σ : bl_St) (v0 : Nat) (v1 : Int32) (v2 : Int32) (v4 : Int32) (v5 : Int32) (v6 : Int32), bl_Fq ho md_X10_laysYears σ0 σ → (bl_sh[v0]? = some (10, 28) ∧ ho v0 = true) → k8 σ v0 v1 v2 v4 v5 v6 = some out → bl_Fq ho md_X10_laysYears σ0 out.2) : ∀ (σ : bl_St) (v0 : Nat) (v1 : Int32) (v2 : Int32) (v4 : Int32) (v5 : Int32) (v6 : Int32), bl_Fq ho md_X10_laysYears σ0 σ → (bl_sh[v0]? = some (10, 28) ∧ ho v0 = true) → (b_X10_laysYears_8 k8) σ v0 v1 v2 v4 v5 v6 = some out → bl_Fq ho md_X10_laysYears σ0 out.2 := by
  intro σ v0 v1 v2 v4 v5 v6 qσ hv0 hf
  unfold b_X10_laysYears_8 at hf
  rcases bl_if_at hf with hf | hf
  · exact gl_X10_laysYears_32  bl_fu σ v0 v1 v2 v4 v5 1 qσ hv0 hf
  · have h37 := bl_Fq_g qσ hv0 (k := 7) rfl (by decide)
    obtain ⟨-, hf⟩ := bl_gd_at hf
    obtain ⟨σ39, e40⟩ : ∃ z : bl_St, z = bl_pJ σ (bl_R σ v0 7) (Int32.toNatClampNeg v6) 0 := ⟨_, rfl⟩
    have hf := bl_let_at e40 hf
    have qσ39 : bl_Fq ho md_X10_laysYears σ0 σ39 := by rw [e40]; exact bl_Fq_J qσ (bl_al_in h37.1 (by decide) h37.2)
    obtain ⟨x41, e42⟩ : ∃ z : Int32, z = v6 + 1 := ⟨_, rfl⟩
    have hf := bl_let_at e42 hf
    exact gk8 σ39 v0 v1 v2 v4 v5 x41 qσ39 hv0 hf
theorem gl_X10_laysYears_8 {ho : Nat → Bool} {σ0 : bl_St} {out : Unit × bl_St} (n : Nat) : ∀ (σ : bl_St) (v0 : Nat) (v1 : Int32) (v2 : Int32) (v4 : Int32) (v5 : Int32) (v6 : Int32), bl_Fq ho md_X10_laysYears σ0 σ → (bl_sh[v0]? = some (10, 28) ∧ ho v0 = true) → (bl_fx (fun _ _ _ _ _ _ _ => none) (b_X10_laysYears_8 ) n) σ v0 v1 v2 v4 v5 v6 = some out → bl_Fq ho md_X10_laysYears σ0 out.2 := by
  induction n with
  | zero =>
    intro σ v0 v1 v2 v4 v5 v6 qσ hv0 hf
    cases hf
  | succ n ih => exact gw_X10_laysYears_8  _ ih
set_option maxRecDepth 100000 in
theorem fr_X10_laysYears {ho : Nat → Bool} (σ : bl_St) (a0 : Nat) (a1 : Int32) (a2 : Int32) (a3 : Int32) (a4 : Int32) (a5 : Int32) (o : Unit × bl_St) (hw : bl_WT σ) (hh : bl_WH ho σ) (ha0 : bl_sh[a0]? = some (10, 28) ∧ ho a0 = true) (hf : f_X10_laysYears σ a0 a1 a2 a3 a4 a5 = some o) : bl_Fq ho md_X10_laysYears σ o.2 := by
  obtain ⟨σ0, hz⟩ : ∃ z, z = σ := ⟨_, rfl⟩
  suffices hgo : bl_Fq ho md_X10_laysYears σ0 o.2 by rw [hz] at hgo; exact hgo
  have qσ : bl_Fq ho md_X10_laysYears σ0 σ := by rw [hz]; exact ⟨hw, hh, fun _ _ => ⟨rfl, rfl, rfl⟩⟩
  unfold f_X10_laysYears at hf
  obtain ⟨σ43, e44⟩ : ∃ z : bl_St, z = bl_pI σ a0 10 a3 := ⟨_, rfl⟩
  have hf := bl_let_at e44 hf
  have qσ43 : bl_Fq ho md_X10_laysYears σ0 σ43 := by rw [e44]; exact bl_Fq_I qσ (bl_al_in ha0.1 (by decide) ha0.2)
  exact gl_X10_laysYears_8  bl_fu σ43 a0 a1 a2 a4 a5 0 qσ43 ha0 hf
def md_X10_lays : List (Nat × Nat) := [(10, 28), (21, 42), (21, 168), (23, 168)]
set_option maxRecDepth 100000 in
theorem fr_X10_lays {ho : Nat → Bool} (σ : bl_St) (a0 : Nat) (a1 : Int32) (a2 : Int32) (a3 : Int32) (a4 : Int32) (o : Unit × bl_St) (hw : bl_WT σ) (hh : bl_WH ho σ) (ha0 : bl_sh[a0]? = some (10, 28) ∧ ho a0 = true) (hf : f_X10_lays σ a0 a1 a2 a3 a4 = some o) : bl_Fq ho md_X10_lays σ o.2 := by
  obtain ⟨σ0, hz⟩ : ∃ z, z = σ := ⟨_, rfl⟩
  suffices hgo : bl_Fq ho md_X10_lays σ0 o.2 by rw [hz] at hgo; exact hgo
  have qσ : bl_Fq ho md_X10_lays σ0 σ := by rw [hz]; exact ⟨hw, hh, fun _ _ => ⟨rfl, rfl, rfl⟩⟩
  unfold f_X10_lays at hf
  obtain ⟨σ1, e2⟩ : ∃ z : bl_St, z = bl_pI σ a0 11 a3 := ⟨_, rfl⟩
  have hf := bl_let_at e2 hf
  have qσ1 : bl_Fq ho md_X10_lays σ0 σ1 := by rw [e2]; exact bl_Fq_I qσ (bl_al_in ha0.1 (by decide) ha0.2)
  obtain ⟨σ3, e4⟩ : ∃ z : bl_St, z = bl_pI σ1 a0 12 a4 := ⟨_, rfl⟩
  have hf := bl_let_at e4 hf
  have qσ3 : bl_Fq ho md_X10_lays σ0 σ3 := by rw [e4]; exact bl_Fq_I qσ1 (bl_al_in ha0.1 (by decide) ha0.2)
  obtain ⟨σ5, e6⟩ : ∃ z : bl_St, z = bl_pI σ3 a0 13 0 := ⟨_, rfl⟩
  have hf := bl_let_at e6 hf
  have qσ5 : bl_Fq ho md_X10_lays σ0 σ5 := by rw [e6]; exact bl_Fq_I qσ3 (bl_al_in ha0.1 (by decide) ha0.2)
  have h7 := bl_Fq_g qσ5 ha0 (k := 1) rfl (by decide)
  obtain ⟨r8, σ9, h10, hf⟩ := bl_bd_at hf
  have qσ9 := bl_Fq_call qσ5 (fr_X10_laysYears σ5 a0 a1 a2 (bl_I σ5 (bl_R σ5 a0 1) 2) 1 0 _ qσ5.1 qσ5.2.1 ha0 h10) (by decide)
  rw [← Option.some.inj hf]
  exact qσ9
def md_X10_lives : List (Nat × Nat) := [(10, 28), (20, 167), (21, 42), (21, 168), (23, 168)]
set_option maxRecDepth 100000 in
theorem gw_X10_lives_186 {ho : Nat → Bool} {σ0 : bl_St} {out : Unit × bl_St} (k66 : bl_St → Nat → Int32 → Int32 → Int32 → Int32 → Int32 → Option (Unit × bl_St)) (gk66 : ∀ (σ : bl_St) (v0 : Nat) (v2 : Int32) (v3 : Int32) (v5 : Int32) (v6 : Int32) (v7 : Int32), bl_Fq ho md_X10_lives σ0 σ → (bl_sh[v0]? = some (10, 28) ∧ ho v0 = true) → k66 σ v0 v2 v3 v5 v6 v7 = some out → bl_Fq ho md_X10_lives σ0 out.2) : ∀ (σ : bl_St) (v0 : Nat) (v2 : Int32) (v3 : Int32) (v5 : Int32) (v6 : Int32) (v7 : Int32), bl_Fq ho md_X10_lives σ0 σ → (bl_sh[v0]? = some (10, 28) ∧ ho v0 = true) → (b_X10_lives_186 k66) σ v0 v2 v3 v5 v6 v7 = some out → bl_Fq ho md_X10_lives σ0 out.2 := by
  intro σ v0 v2 v3 v5 v6 v7 qσ hv0 hf
  unfold b_X10_lives_186 at hf
  obtain ⟨x1, e2⟩ : ∃ z : Int32, z = v7 + 1 := ⟨_, rfl⟩
  have hf := bl_let_at e2 hf
  exact gk66 σ v0 v2 v3 v5 v6 x1 qσ hv0 hf
set_option maxRecDepth 100000 in
theorem gw_X10_lives_176 {ho : Nat → Bool} {σ0 : bl_St} {out : Unit × bl_St} (k66 : bl_St → Nat → Int32 → Int32 → Int32 → Int32 → Int32 → Option (Unit × bl_St)) (gk66 : ∀ (σ : bl_St) (v0 : Nat) (v2 : Int32) (v3 : Int32) (v5 : Int32) (v6 : Int32) (v7 : Int32), bl_Fq ho md_X10_lives σ0 σ → (bl_sh[v0]? = some (10, 28) ∧ ho v0 = true) → k66 σ v0 v2 v3 v5 v6 v7 = some out → bl_Fq ho md_X10_lives σ0 out.2) : ∀ (σ : bl_St) (v0 : Nat) (v2 : Int32) (v3 : Int32) (v5 : Int32) (v6 : Int32) (v7 : Int32) (v8 : Int32) (v9 : Int32), bl_Fq ho md_X10_lives σ0 σ → (bl_sh[v0]? = some (10, 28) ∧ ho v0 = true) → (b_X10_lives_176 k66) σ v0 v2 v3 v5 v6 v7 v8 v9 = some out → bl_Fq ho md_X10_lives σ0 out.2 := by
  intro σ v0 v2 v3 v5 v6 v7 v8 v9 qσ hv0 hf
  unfold b_X10_lives_176 at hf
  obtain ⟨r3, σ4, h5, hf⟩ := bl_bd_at hf
  have qσ4 := bl_Fq_call qσ (fr_X10_loses σ v0 v8 v9 _ qσ.1 qσ.2.1 hv0 h5) (by decide)
  exact gw_X10_lives_186 k66 gk66 σ4 v0 v2 v3 v5 v6 v7 qσ4 hv0 hf
set_option maxRecDepth 100000 in
theorem gw_X10_lives_174 {ho : Nat → Bool} {σ0 : bl_St} {out : Unit × bl_St} (k66 : bl_St → Nat → Int32 → Int32 → Int32 → Int32 → Int32 → Option (Unit × bl_St)) (gk66 : ∀ (σ : bl_St) (v0 : Nat) (v2 : Int32) (v3 : Int32) (v5 : Int32) (v6 : Int32) (v7 : Int32), bl_Fq ho md_X10_lives σ0 σ → (bl_sh[v0]? = some (10, 28) ∧ ho v0 = true) → k66 σ v0 v2 v3 v5 v6 v7 = some out → bl_Fq ho md_X10_lives σ0 out.2) : ∀ (σ : bl_St) (v0 : Nat) (v2 : Int32) (v3 : Int32) (v5 : Int32) (v6 : Int32) (v7 : Int32) (v8 : Int32) (s0 : Int32), bl_Fq ho md_X10_lives σ0 σ → (bl_sh[v0]? = some (10, 28) ∧ ho v0 = true) → (b_X10_lives_174 k66) σ v0 v2 v3 v5 v6 v7 v8 s0 = some out → bl_Fq ho md_X10_lives σ0 out.2 := by
  intro σ v0 v2 v3 v5 v6 v7 v8 s0 qσ hv0 hf
  unfold b_X10_lives_174 at hf
  exact gw_X10_lives_176 k66 gk66 σ v0 v2 v3 v5 v6 v7 v8 s0 qσ hv0 hf
set_option maxRecDepth 100000 in
theorem gw_X10_lives_126 {ho : Nat → Bool} {σ0 : bl_St} {out : Unit × bl_St} (k66 : bl_St → Nat → Int32 → Int32 → Int32 → Int32 → Int32 → Option (Unit × bl_St)) (gk66 : ∀ (σ : bl_St) (v0 : Nat) (v2 : Int32) (v3 : Int32) (v5 : Int32) (v6 : Int32) (v7 : Int32), bl_Fq ho md_X10_lives σ0 σ → (bl_sh[v0]? = some (10, 28) ∧ ho v0 = true) → k66 σ v0 v2 v3 v5 v6 v7 = some out → bl_Fq ho md_X10_lives σ0 out.2) : ∀ (σ : bl_St) (v0 : Nat) (v2 : Int32) (v3 : Int32) (v5 : Int32) (v6 : Int32) (v7 : Int32) (v8 : Int32) (s0 : Int32), bl_Fq ho md_X10_lives σ0 σ → (bl_sh[v0]? = some (10, 28) ∧ ho v0 = true) → (b_X10_lives_126 k66) σ v0 v2 v3 v5 v6 v7 v8 s0 = some out → bl_Fq ho md_X10_lives σ0 out.2 := by
  intro σ v0 v2 v3 v5 v6 v7 v8 s0 qσ hv0 hf
  unfold b_X10_lives_126 at hf
  rcases bl_if_at hf with hf | hf
  · have h7 := bl_Fq_g qσ hv0 (k := 1) rfl (by decide)
    obtain ⟨r8, σ9, h10, hf⟩ := bl_bd_at hf
    have qσ9 := bl_Fq_call qσ (fr_X10_laysChances σ v0 v5 (bl_I σ (bl_R σ v0 1) 55) _ qσ.1 qσ.2.1 hv0 h10) (by decide)
    obtain ⟨r11, σ12, h13, hf⟩ := bl_bd_at hf
    have qσ12 := bl_Fq_call qσ9 (fr_X10_countedNow σ9 v0 _ qσ9.1 qσ9.2.1 hv0.1 h13) (by decide)
    have h14 := bl_Fq_g qσ12 hv0 (k := 1) rfl (by decide)
    obtain ⟨r15, σ16, h17, hf⟩ := bl_bd_at hf
    have qσ16 := bl_Fq_call qσ12 (fr_X10_gainOf σ12 v0 v8 v7 r11 (bl_I σ12 (bl_R σ12 v0 1) 59) _ qσ12.1 qσ12.2.1 hv0.1 h17) (by decide)
    rcases bl_if_at hf with hf | hf
    · exact gw_X10_lives_174 k66 gk66 σ16 v0 v2 v3 v5 v6 v7 v8 0 qσ16 hv0 hf
    · exact gw_X10_lives_174 k66 gk66 σ16 v0 v2 v3 v5 v6 v7 v8 1 qσ16 hv0 hf
  · exact gw_X10_lives_176 k66 gk66 σ v0 v2 v3 v5 v6 v7 v8 s0 qσ hv0 hf
set_option maxRecDepth 100000 in
theorem gw_X10_lives_125 {ho : Nat → Bool} {σ0 : bl_St} {out : Unit × bl_St} (k66 : bl_St → Nat → Int32 → Int32 → Int32 → Int32 → Int32 → Option (Unit × bl_St)) (gk66 : ∀ (σ : bl_St) (v0 : Nat) (v2 : Int32) (v3 : Int32) (v5 : Int32) (v6 : Int32) (v7 : Int32), bl_Fq ho md_X10_lives σ0 σ → (bl_sh[v0]? = some (10, 28) ∧ ho v0 = true) → k66 σ v0 v2 v3 v5 v6 v7 = some out → bl_Fq ho md_X10_lives σ0 out.2) : ∀ (σ : bl_St) (v0 : Nat) (v2 : Int32) (v3 : Int32) (v5 : Int32) (v6 : Int32) (v7 : Int32) (v8 : Int32), bl_Fq ho md_X10_lives σ0 σ → (bl_sh[v0]? = some (10, 28) ∧ ho v0 = true) → (b_X10_lives_125 k66) σ v0 v2 v3 v5 v6 v7 v8 = some out → bl_Fq ho md_X10_lives σ0 out.2 := by
  intro σ v0 v2 v3 v5 v6 v7 v8 qσ hv0 hf
  unfold b_X10_lives_125 at hf
  exact gw_X10_lives_126 k66 gk66 σ v0 v2 v3 v5 v6 v7 v8 0 qσ hv0 hf
set_option maxRecDepth 100000 in
theorem gw_X10_lives_121 {ho : Nat → Bool} {σ0 : bl_St} {out : Unit × bl_St} (k66 : bl_St → Nat → Int32 → Int32 → Int32 → Int32 → Int32 → Option (Unit × bl_St)) (gk66 : ∀ (σ : bl_St) (v0 : Nat) (v2 : Int32) (v3 : Int32) (v5 : Int32) (v6 : Int32) (v7 : Int32), bl_Fq ho md_X10_lives σ0 σ → (bl_sh[v0]? = some (10, 28) ∧ ho v0 = true) → k66 σ v0 v2 v3 v5 v6 v7 = some out → bl_Fq ho md_X10_lives σ0 out.2) : ∀ (σ : bl_St) (v0 : Nat) (v2 : Int32) (v3 : Int32) (v5 : Int32) (v6 : Int32) (v7 : Int32) (v8 : Int32), bl_Fq ho md_X10_lives σ0 σ → (bl_sh[v0]? = some (10, 28) ∧ ho v0 = true) → (b_X10_lives_121 k66) σ v0 v2 v3 v5 v6 v7 v8 = some out → bl_Fq ho md_X10_lives σ0 out.2 := by
  intro σ v0 v2 v3 v5 v6 v7 v8 qσ hv0 hf
  unfold b_X10_lives_121 at hf
  exact gw_X10_lives_126 k66 gk66 σ v0 v2 v3 v5 v6 v7 v8 1 qσ hv0 hf
set_option maxRecDepth 100000 in
theorem gw_X10_lives_66 {ho : Nat → Bool} {σ0 : bl_St} {out : Unit × bl_St} (k21 : bl_St → Nat → Int32 → Int32 → Int32 → Option (Unit × bl_St)) (gk21 : ∀ (σ : bl_St) (v0 : Nat) (v2 : Int32) (v3 : Int32) (v5 : Int32), bl_Fq ho md_X10_lives σ0 σ → (bl_sh[v0]? = some (10, 28) ∧ ho v0 = true) → k21 σ v0 v2 v3 v5 = some out → bl_Fq ho md_X10_lives σ0 out.2) (k66 : bl_St → Nat → Int32 → Int32 → Int32 → Int32 → Int32 → Option (Unit × bl_St)) (gk66 : ∀ (σ : bl_St) (v0 : Nat) (v2 : Int32) (v3 : Int32) (v5 : Int32) (v6 : Int32) (v7 : Int32), bl_Fq ho md_X10_lives σ0 σ → (bl_sh[v0]? = some (10, 28) ∧ ho v0 = true) → k66 σ v0 v2 v3 v5 v6 v7 = some out → bl_Fq ho md_X10_lives σ0 out.2) : ∀ (σ : bl_St) (v0 : Nat) (v2 : Int32) (v3 : Int32) (v5 : Int32) (v6 : Int32) (v7 : Int32), bl_Fq ho md_X10_lives σ0 σ → (bl_sh[v0]? = some (10, 28) ∧ ho v0 = true) → (b_X10_lives_66 k21 k66) σ v0 v2 v3 v5 v6 v7 = some out → bl_Fq ho md_X10_lives σ0 out.2 := by
  intro σ v0 v2 v3 v5 v6 v7 qσ hv0 hf
  unfold b_X10_lives_66 at hf
  rcases bl_if_at hf with hf | hf
  · obtain ⟨x20, e21⟩ : ∃ z : Int32, z = v5 + (-1) := ⟨_, rfl⟩
    have hf := bl_let_at e21 hf
    exact gk21 σ v0 v2 v3 x20 qσ hv0 hf
  · obtain ⟨r22, σ23, h24, hf⟩ := bl_bd_at hf
    have qσ23 := bl_Fq_call qσ (fr_X10_draws σ v0 12 _ qσ.1 qσ.2.1 hv0 h24) (by decide)
    have h25 := bl_Fq_g qσ23 hv0 (k := 1) rfl (by decide)
    rcases bl_if_at hf with hf | hf
    · obtain ⟨r27, σ28, h29, hf⟩ := bl_bd_at hf
      have qσ28 := bl_Fq_call qσ23 (fr_X10_sortDrawn σ23 v0 _ qσ23.1 qσ23.2.1 hv0 h29) (by decide)
      rcases bl_if_at hf with hf | hf
      · exact gw_X10_lives_121 k66 gk66 σ28 v0 v2 v3 v5 v6 v7 r27 qσ28 hv0 hf
      · rcases bl_if_at hf with hf | hf
        · obtain ⟨r32, σ33, h34, hf⟩ := bl_bd_at hf
          have qσ33 := bl_Fq_call qσ28 (fr_X10_size σ28 v0 r27 _ qσ28.1 qσ28.2.1 hv0.1 h34) (by decide)
          rcases bl_if_at hf with hf | hf
          · exact gw_X10_lives_125 k66 gk66 σ33 v0 v2 v3 v5 v6 v7 r27 qσ33 hv0 hf
          · exact gw_X10_lives_121 k66 gk66 σ33 v0 v2 v3 v5 v6 v7 r27 qσ33 hv0 hf
        · exact gw_X10_lives_125 k66 gk66 σ28 v0 v2 v3 v5 v6 v7 r27 qσ28 hv0 hf
    · obtain ⟨r36, σ37, h38, hf⟩ := bl_bd_at hf
      have qσ37 := bl_Fq_call qσ23 (fr_X10_goesBy σ23 v0 _ qσ23.1 qσ23.2.1 hv0 h38) (by decide)
      exact gw_X10_lives_186 k66 gk66 σ37 v0 v2 v3 v5 v6 v7 qσ37 hv0 hf
theorem gl_X10_lives_66 {ho : Nat → Bool} {σ0 : bl_St} {out : Unit × bl_St} (k21 : bl_St → Nat → Int32 → Int32 → Int32 → Option (Unit × bl_St)) (gk21 : ∀ (σ : bl_St) (v0 : Nat) (v2 : Int32) (v3 : Int32) (v5 : Int32), bl_Fq ho md_X10_lives σ0 σ → (bl_sh[v0]? = some (10, 28) ∧ ho v0 = true) → k21 σ v0 v2 v3 v5 = some out → bl_Fq ho md_X10_lives σ0 out.2) (n : Nat) : ∀ (σ : bl_St) (v0 : Nat) (v2 : Int32) (v3 : Int32) (v5 : Int32) (v6 : Int32) (v7 : Int32), bl_Fq ho md_X10_lives σ0 σ → (bl_sh[v0]? = some (10, 28) ∧ ho v0 = true) → (bl_fx (fun _ _ _ _ _ _ _ => none) (b_X10_lives_66 k21) n) σ v0 v2 v3 v5 v6 v7 = some out → bl_Fq ho md_X10_lives σ0 out.2 := by
  induction n with
  | zero =>
    intro σ v0 v2 v3 v5 v6 v7 qσ hv0 hf
    cases hf
  | succ n ih => exact gw_X10_lives_66 k21 gk21 _ ih
set_option maxRecDepth 100000 in
theorem gw_X10_lives_52 {ho : Nat → Bool} {σ0 : bl_St} {out : Unit × bl_St} (k21 : bl_St → Nat → Int32 → Int32 → Int32 → Option (Unit × bl_St)) (gk21 : ∀ (σ : bl_St) (v0 : Nat) (v2 : Int32) (v3 : Int32) (v5 : Int32), bl_Fq ho md_X10_lives σ0 σ → (bl_sh[v0]? = some (10, 28) ∧ ho v0 = true) → k21 σ v0 v2 v3 v5 = some out → bl_Fq ho md_X10_lives σ0 out.2) : ∀ (σ : bl_St) (v0 : Nat) (v2 : Int32) (v3 : Int32) (v5 : Int32) (s0 : Int32) (s1 : Nat), bl_Fq ho md_X10_lives σ0 σ → (bl_sh[v0]? = some (10, 28) ∧ ho v0 = true) → (bl_sh[s1]? = some (10, 28) ∧ ho s1 = true) → (b_X10_lives_52 k21) σ v0 v2 v3 v5 s0 s1 = some out → bl_Fq ho md_X10_lives σ0 out.2 := by
  intro σ v0 v2 v3 v5 s0 s1 qσ hv0 hs1 hf
  unfold b_X10_lives_52 at hf
  obtain ⟨r39, σ40, h41, hf⟩ := bl_bd_at hf
  have qσ40 := bl_Fq_call qσ (fr_X10_begins σ s1 s0 _ qσ.1 qσ.2.1 hs1 h41) (by decide)
  have h42 := bl_Fq_g qσ40 hv0 (k := 1) rfl (by decide)
  obtain ⟨x43, e44⟩ : ∃ z, z = (bl_I σ40 (bl_R σ40 v0 1) 2) := ⟨_, rfl⟩
  have hf := bl_let_at e44 hf
  exact gl_X10_lives_66 k21 gk21 bl_fu σ40 v0 v2 v3 v5 x43 0 qσ40 hv0 hf
set_option maxRecDepth 100000 in
theorem gw_X10_lives_51 {ho : Nat → Bool} {σ0 : bl_St} {out : Unit × bl_St} (k21 : bl_St → Nat → Int32 → Int32 → Int32 → Option (Unit × bl_St)) (gk21 : ∀ (σ : bl_St) (v0 : Nat) (v2 : Int32) (v3 : Int32) (v5 : Int32), bl_Fq ho md_X10_lives σ0 σ → (bl_sh[v0]? = some (10, 28) ∧ ho v0 = true) → k21 σ v0 v2 v3 v5 = some out → bl_Fq ho md_X10_lives σ0 out.2) : ∀ (σ : bl_St) (v0 : Nat) (v2 : Int32) (v3 : Int32) (v5 : Int32) (s0 : Nat), bl_Fq ho md_X10_lives σ0 σ → (bl_sh[v0]? = some (10, 28) ∧ ho v0 = true) → (bl_sh[s0]? = some (10, 28) ∧ ho s0 = true) → (b_X10_lives_51 k21) σ v0 v2 v3 v5 s0 = some out → bl_Fq ho md_X10_lives σ0 out.2 := by
  intro σ v0 v2 v3 v5 s0 qσ hv0 hs0 hf
  unfold b_X10_lives_51 at hf
  exact gw_X10_lives_52 k21 gk21 σ v0 v2 v3 v5 0 s0 qσ hv0 hs0 hf
set_option maxRecDepth 100000 in
theorem gw_X10_lives_21 {ho : Nat → Bool} {σ0 : bl_St} {out : Unit × bl_St} (k21 : bl_St → Nat → Int32 → Int32 → Int32 → Option (Unit × bl_St)) (gk21 : ∀ (σ : bl_St) (v0 : Nat) (v2 : Int32) (v3 : Int32) (v5 : Int32), bl_Fq ho md_X10_lives σ0 σ → (bl_sh[v0]? = some (10, 28) ∧ ho v0 = true) → k21 σ v0 v2 v3 v5 = some out → bl_Fq ho md_X10_lives σ0 out.2) : ∀ (σ : bl_St) (v0 : Nat) (v2 : Int32) (v3 : Int32) (v5 : Int32), bl_Fq ho md_X10_lives σ0 σ → (bl_sh[v0]? = some (10, 28) ∧ ho v0 = true) → (b_X10_lives_21 k21) σ v0 v2 v3 v5 = some out → bl_Fq ho md_X10_lives σ0 out.2 := by
  intro σ v0 v2 v3 v5 qσ hv0 hf
  unfold b_X10_lives_21 at hf
  rcases bl_if_at hf with hf | hf
  · rw [← Option.some.inj hf]
    exact qσ
  · rcases bl_if_at hf with hf | hf
    · have h47 := bl_Fq_g qσ hv0 (k := 1) rfl (by decide)
      obtain ⟨r48, σ49, h50, hf⟩ := bl_bd_at hf
      have qσ49 := bl_Fq_call qσ (fr_X10_isGuarded σ v0 v5 (bl_I σ (bl_R σ v0 1) 55) _ qσ.1 qσ.2.1 hv0.1 h50) (by decide)
      rcases bl_if_at hf with hf | hf
      · exact gw_X10_lives_51 k21 gk21 σ49 v0 v2 v3 v5 v0 qσ49 hv0 hv0 hf
      · exact gw_X10_lives_52 k21 gk21 σ49 v0 v2 v3 v5 1 v0 qσ49 hv0 hv0 hf
    · exact gw_X10_lives_51 k21 gk21 σ v0 v2 v3 v5 v0 qσ hv0 hv0 hf
theorem gl_X10_lives_21 {ho : Nat → Bool} {σ0 : bl_St} {out : Unit × bl_St} (n : Nat) : ∀ (σ : bl_St) (v0 : Nat) (v2 : Int32) (v3 : Int32) (v5 : Int32), bl_Fq ho md_X10_lives σ0 σ → (bl_sh[v0]? = some (10, 28) ∧ ho v0 = true) → (bl_fx (fun _ _ _ _ _ => none) (b_X10_lives_21 ) n) σ v0 v2 v3 v5 = some out → bl_Fq ho md_X10_lives σ0 out.2 := by
  induction n with
  | zero =>
    intro σ v0 v2 v3 v5 qσ hv0 hf
    cases hf
  | succ n ih => exact gw_X10_lives_21  _ ih
set_option maxRecDepth 100000 in
theorem gw_X10_lives_18 {ho : Nat → Bool} {σ0 : bl_St} {out : Unit × bl_St} : ∀ (σ : bl_St) (v0 : Nat) (v1 : Int32) (v2 : Int32) (v3 : Int32), bl_Fq ho md_X10_lives σ0 σ → (bl_sh[v0]? = some (10, 28) ∧ ho v0 = true) → (b_X10_lives_18 ) σ v0 v1 v2 v3 = some out → bl_Fq ho md_X10_lives σ0 out.2 := by
  intro σ v0 v1 v2 v3 qσ hv0 hf
  unfold b_X10_lives_18 at hf
  exact gl_X10_lives_21  bl_fu σ v0 v2 v3 v1 qσ hv0 hf
set_option maxRecDepth 100000 in
theorem fr_X10_lives {ho : Nat → Bool} (σ : bl_St) (a0 : Nat) (a1 : Int32) (a2 : Int32) (a3 : Int32) (a4 : Int32) (o : Unit × bl_St) (hw : bl_WT σ) (hh : bl_WH ho σ) (ha0 : bl_sh[a0]? = some (10, 28) ∧ ho a0 = true) (hf : f_X10_lives σ a0 a1 a2 a3 a4 = some o) : bl_Fq ho md_X10_lives σ o.2 := by
  obtain ⟨σ0, hz⟩ : ∃ z, z = σ := ⟨_, rfl⟩
  suffices hgo : bl_Fq ho md_X10_lives σ0 o.2 by rw [hz] at hgo; exact hgo
  have qσ : bl_Fq ho md_X10_lives σ0 σ := by rw [hz]; exact ⟨hw, hh, fun _ _ => ⟨rfl, rfl, rfl⟩⟩
  unfold f_X10_lives at hf
  obtain ⟨σ52, e53⟩ : ∃ z : bl_St, z = bl_pI σ a0 6 a4 := ⟨_, rfl⟩
  have hf := bl_let_at e53 hf
  have qσ52 : bl_Fq ho md_X10_lives σ0 σ52 := by rw [e53]; exact bl_Fq_I qσ (bl_al_in ha0.1 (by decide) ha0.2)
  rcases bl_if_at hf with hf | hf
  · obtain ⟨r55, σ56, h57, hf⟩ := bl_bd_at hf
    have qσ56 := bl_Fq_call qσ52 (fr_X10_lays σ52 a0 a1 1 0 0 _ qσ52.1 qσ52.2.1 ha0 h57) (by decide)
    exact gw_X10_lives_18  σ56 a0 a1 a2 a3 qσ56 ha0 hf
  · exact gw_X10_lives_18  σ52 a0 a1 a2 a3 qσ52 ha0 hf
def md_X10_isLived : List (Nat × Nat) := []
set_option maxRecDepth 100000 in
theorem gw_X10_isLived_39 {ho : Nat → Bool} {σ0 : bl_St} {out : Int32 × bl_St} : ∀ (σ : bl_St) (s0 : Int64) (s1 : Int64) (s2 : Int64), bl_Fq ho md_X10_isLived σ0 σ → (b_X10_isLived_39 ) σ s0 s1 s2 = some out → bl_Fq ho md_X10_isLived σ0 out.2 := by
  intro σ s0 s1 s2 qσ  hf
  unfold b_X10_isLived_39 at hf
  obtain ⟨r1, σ2, h3, hf⟩ := bl_bd_at hf
  have qσ2 := bl_Fq_call qσ (fr_X10_in σ s2 s1 s0 _ qσ.1 qσ.2.1  h3) (by decide)
  rcases bl_if_at hf with hf | hf
  · rw [← Option.some.inj hf]
    exact qσ2
  · rw [← Option.some.inj hf]
    exact qσ2
set_option maxRecDepth 100000 in
theorem fr_X10_isLived {ho : Nat → Bool} (σ : bl_St) (a0 : Int32) (a1 : Int32) (a2 : Int32) (o : Int32 × bl_St) (hw : bl_WT σ) (hh : bl_WH ho σ) (hf : f_X10_isLived σ a0 a1 a2 = some o) : bl_Fq ho md_X10_isLived σ o.2 := by
  obtain ⟨σ0, hz⟩ : ∃ z, z = σ := ⟨_, rfl⟩
  suffices hgo : bl_Fq ho md_X10_isLived σ0 o.2 by rw [hz] at hgo; exact hgo
  have qσ : bl_Fq ho md_X10_isLived σ0 σ := by rw [hz]; exact ⟨hw, hh, fun _ _ => ⟨rfl, rfl, rfl⟩⟩
  unfold f_X10_isLived at hf
  obtain ⟨r5, σ6, h7, hf⟩ := bl_bd_at hf
  have qσ6 := bl_Fq_call qσ (fr_X10_in σ (Int32.toInt64 a0) 1 20 _ qσ.1 qσ.2.1  h7) (by decide)
  rcases bl_if_at hf with hf | hf
  · rw [← Option.some.inj hf]
    exact qσ6
  · obtain ⟨r9, σ10, h11, hf⟩ := bl_bd_at hf
    have qσ10 := bl_Fq_call qσ6 (fr_X10_in σ6 (Int32.toInt64 a1) 0 3 _ qσ6.1 qσ6.2.1  h11) (by decide)
    rcases bl_if_at hf with hf | hf
    · rw [← Option.some.inj hf]
      exact qσ10
    · rcases bl_if_at hf with hf | hf
      · exact gw_X10_isLived_39  σ10 999 0 (Int32.toInt64 a2) qσ10  hf
      · exact gw_X10_isLived_39  σ10 0 0 (Int32.toInt64 a2) qσ10  hf
def md_X10_live : List (Nat × Nat) := [(10, 28), (20, 167), (20, 2004), (21, 42), (21, 168), (23, 168)]
set_option maxRecDepth 100000 in
theorem fr_X10_live {ho : Nat → Bool} (σ : bl_St) (a0 : Nat) (a1 : Int32) (a2 : Int32) (a3 : Int32) (a4 : Int32) (o : Int32 × bl_St) (hw : bl_WT σ) (hh : bl_WH ho σ) (ha0 : bl_sh[a0]? = some (10, 28) ∧ ho a0 = true) (hf : f_X10_live σ a0 a1 a2 a3 a4 = some o) : bl_Fq ho md_X10_live σ o.2 := by
  obtain ⟨σ0, hz⟩ : ∃ z, z = σ := ⟨_, rfl⟩
  suffices hgo : bl_Fq ho md_X10_live σ0 o.2 by rw [hz] at hgo; exact hgo
  have qσ : bl_Fq ho md_X10_live σ0 σ := by rw [hz]; exact ⟨hw, hh, fun _ _ => ⟨rfl, rfl, rfl⟩⟩
  unfold f_X10_live at hf
  have h1 := bl_Fq_g qσ ha0 (k := 1) rfl (by decide)
  rcases bl_if_at hf with hf | hf
  · rw [← Option.some.inj hf]
    exact qσ
  · have h3 := bl_Fq_g qσ ha0 (k := 1) rfl (by decide)
    rcases bl_if_at hf with hf | hf
    · rw [← Option.some.inj hf]
      exact qσ
    · obtain ⟨r5, σ6, h7, hf⟩ := bl_bd_at hf
      have qσ6 := bl_Fq_call qσ (fr_X10_isLived σ a1 a2 a3 _ qσ.1 qσ.2.1  h7) (by decide)
      rcases bl_if_at hf with hf | hf
      · rw [← Option.some.inj hf]
        exact qσ6
      · obtain ⟨r9, σ10, h11, hf⟩ := bl_bd_at hf
        have qσ10 := bl_Fq_call qσ6 (fr_X10_keeps σ6 a0 _ qσ6.1 qσ6.2.1 ha0 h11) (by decide)
        obtain ⟨r12, σ13, h14, hf⟩ := bl_bd_at hf
        have qσ13 := bl_Fq_call qσ10 (fr_X10_allPaid σ10 a0 _ qσ10.1 qσ10.2.1 ha0.1 h14) (by decide)
        obtain ⟨r15, σ16, h17, hf⟩ := bl_bd_at hf
        have qσ16 := bl_Fq_call qσ13 (fr_X10_lives σ13 a0 a1 a2 a3 a4 _ qσ13.1 qσ13.2.1 ha0 h17) (by decide)
        obtain ⟨r18, σ19, h20, hf⟩ := bl_bd_at hf
        have qσ19 := bl_Fq_call qσ16 (fr_X10_allPaid σ16 a0 _ qσ16.1 qσ16.2.1 ha0.1 h20) (by decide)
        rw [← Option.some.inj hf]
        exact qσ19
def md_X10_come : List (Nat × Nat) := [(10, 28), (20, 167), (20, 2004)]
set_option maxRecDepth 100000 in
theorem fr_X10_come {ho : Nat → Bool} (σ : bl_St) (a0 : Nat) (a1 : Int32) (a2 : Int32) (o : Int32 × bl_St) (hw : bl_WT σ) (hh : bl_WH ho σ) (ha0 : bl_sh[a0]? = some (10, 28) ∧ ho a0 = true) (hf : f_X10_come σ a0 a1 a2 = some o) : bl_Fq ho md_X10_come σ o.2 := by
  obtain ⟨σ0, hz⟩ : ∃ z, z = σ := ⟨_, rfl⟩
  suffices hgo : bl_Fq ho md_X10_come σ0 o.2 by rw [hz] at hgo; exact hgo
  have qσ : bl_Fq ho md_X10_come σ0 σ := by rw [hz]; exact ⟨hw, hh, fun _ _ => ⟨rfl, rfl, rfl⟩⟩
  unfold f_X10_come at hf
  have h1 := bl_Fq_g qσ ha0 (k := 1) rfl (by decide)
  rcases bl_if_at hf with hf | hf
  · rw [← Option.some.inj hf]
    exact qσ
  · obtain ⟨r3, σ4, h5, hf⟩ := bl_bd_at hf
    have qσ4 := bl_Fq_call qσ (fr_X10_in σ (Int32.toInt64 a1) 1 999 _ qσ.1 qσ.2.1  h5) (by decide)
    rcases bl_if_at hf with hf | hf
    · rw [← Option.some.inj hf]
      exact qσ4
    · obtain ⟨r7, σ8, h9, hf⟩ := bl_bd_at hf
      have qσ8 := bl_Fq_call qσ4 (fr_X10_in σ4 (Int32.toInt64 a2) 1 9 _ qσ4.1 qσ4.2.1  h9) (by decide)
      rcases bl_if_at hf with hf | hf
      · rw [← Option.some.inj hf]
        exact qσ8
      · have h11 := bl_Fq_g qσ8 ha0 (k := 1) rfl (by decide)
        rcases bl_if_at hf with hf | hf
        · rw [← Option.some.inj hf]
          exact qσ8
        · obtain ⟨r13, σ14, h15, hf⟩ := bl_bd_at hf
          have qσ14 := bl_Fq_call qσ8 (fr_X10_keeps σ8 a0 _ qσ8.1 qσ8.2.1 ha0 h15) (by decide)
          have h16 := bl_Fq_g qσ14 ha0 (k := 1) rfl (by decide)
          have h17 := bl_Fq_g qσ14 ha0 (k := 1) rfl (by decide)
          obtain ⟨-, hf⟩ := bl_gd_at hf
          obtain ⟨σ19, e20⟩ : ∃ z : bl_St, z = bl_pI σ14 (bl_R σ14 a0 1) (Int32.toNatClampNeg (45 + (2 * (bl_I σ14 (bl_R σ14 a0 1) 1)))) a1 := ⟨_, rfl⟩
          have hf := bl_let_at e20 hf
          have qσ19 : bl_Fq ho md_X10_come σ0 σ19 := by rw [e20]; exact bl_Fq_I qσ14 (bl_al_in h16.1 (by decide) h16.2)
          have h21 := bl_Fq_g qσ19 ha0 (k := 1) rfl (by decide)
          have h22 := bl_Fq_g qσ19 ha0 (k := 1) rfl (by decide)
          obtain ⟨-, hf⟩ := bl_gd_at hf
          obtain ⟨σ24, e25⟩ : ∃ z : bl_St, z = bl_pI σ19 (bl_R σ19 a0 1) (Int32.toNatClampNeg ((45 + (2 * (bl_I σ19 (bl_R σ19 a0 1) 1))) + 1)) a2 := ⟨_, rfl⟩
          have hf := bl_let_at e25 hf
          have qσ24 : bl_Fq ho md_X10_come σ0 σ24 := by rw [e25]; exact bl_Fq_I qσ19 (bl_al_in h21.1 (by decide) h21.2)
          have h26 := bl_Fq_g qσ24 ha0 (k := 1) rfl (by decide)
          obtain ⟨σ27, e28⟩ : ∃ z : bl_St, z = bl_pI σ24 (bl_R σ24 a0 1) 1 ((bl_I σ24 (bl_R σ24 a0 1) 1) + 1) := ⟨_, rfl⟩
          have hf := bl_let_at e28 hf
          have qσ27 : bl_Fq ho md_X10_come σ0 σ27 := by rw [e28]; exact bl_Fq_I qσ24 (bl_al_in h26.1 (by decide) h26.2)
          have h29 := bl_Fq_g qσ27 ha0 (k := 1) rfl (by decide)
          rw [← Option.some.inj hf]
          exact qσ27
def md_X10_takesOut : List (Nat × Nat) := [(20, 167)]
set_option maxRecDepth 100000 in
theorem gw_X10_takesOut_7 {ho : Nat → Bool} {σ0 : bl_St} {out : Unit × bl_St} (k7 : bl_St → Nat → Int32 → Option (Unit × bl_St)) (gk7 : ∀ (σ : bl_St) (v0 : Nat) (v2 : Int32), bl_Fq ho md_X10_takesOut σ0 σ → (bl_sh[v0]? = some (10, 28) ∧ ho v0 = true) → k7 σ v0 v2 = some out → bl_Fq ho md_X10_takesOut σ0 out.2) : ∀ (σ : bl_St) (v0 : Nat) (v2 : Int32), bl_Fq ho md_X10_takesOut σ0 σ → (bl_sh[v0]? = some (10, 28) ∧ ho v0 = true) → (b_X10_takesOut_7 k7) σ v0 v2 = some out → bl_Fq ho md_X10_takesOut σ0 out.2 := by
  intro σ v0 v2 qσ hv0 hf
  unfold b_X10_takesOut_7 at hf
  have h1 := bl_Fq_g qσ hv0 (k := 1) rfl (by decide)
  rcases bl_if_at hf with hf | hf
  · have h3 := bl_Fq_g qσ hv0 (k := 1) rfl (by decide)
    obtain ⟨σ4, e5⟩ : ∃ z : bl_St, z = bl_pI σ (bl_R σ v0 1) 1 ((bl_I σ (bl_R σ v0 1) 1) - 1) := ⟨_, rfl⟩
    have hf := bl_let_at e5 hf
    have qσ4 : bl_Fq ho md_X10_takesOut σ0 σ4 := by rw [e5]; exact bl_Fq_I qσ (bl_al_in h3.1 (by decide) h3.2)
    rw [← Option.some.inj hf]
    exact qσ4
  · have h6 := bl_Fq_g qσ hv0 (k := 1) rfl (by decide)
    have h7 := bl_Fq_g qσ hv0 (k := 1) rfl (by decide)
    obtain ⟨-, hf⟩ := bl_gd_at hf
    obtain ⟨-, hf⟩ := bl_gd_at hf
    obtain ⟨σ10, e11⟩ : ∃ z : bl_St, z = bl_pI σ (bl_R σ v0 1) (Int32.toNatClampNeg v2) (bl_I σ (bl_R σ v0 1) (Int32.toNatClampNeg (v2 + 2))) := ⟨_, rfl⟩
    have hf := bl_let_at e11 hf
    have qσ10 : bl_Fq ho md_X10_takesOut σ0 σ10 := by rw [e11]; exact bl_Fq_I qσ (bl_al_in h6.1 (by decide) h6.2)
    obtain ⟨x12, e13⟩ : ∃ z : Int32, z = v2 + 1 := ⟨_, rfl⟩
    have hf := bl_let_at e13 hf
    exact gk7 σ10 v0 x12 qσ10 hv0 hf
theorem gl_X10_takesOut_7 {ho : Nat → Bool} {σ0 : bl_St} {out : Unit × bl_St} (n : Nat) : ∀ (σ : bl_St) (v0 : Nat) (v2 : Int32), bl_Fq ho md_X10_takesOut σ0 σ → (bl_sh[v0]? = some (10, 28) ∧ ho v0 = true) → (bl_fx (fun _ _ _ => none) (b_X10_takesOut_7 ) n) σ v0 v2 = some out → bl_Fq ho md_X10_takesOut σ0 out.2 := by
  induction n with
  | zero =>
    intro σ v0 v2 qσ hv0 hf
    cases hf
  | succ n ih => exact gw_X10_takesOut_7  _ ih
set_option maxRecDepth 100000 in
theorem fr_X10_takesOut {ho : Nat → Bool} (σ : bl_St) (a0 : Nat) (a1 : Int32) (o : Unit × bl_St) (hw : bl_WT σ) (hh : bl_WH ho σ) (ha0 : bl_sh[a0]? = some (10, 28) ∧ ho a0 = true) (hf : f_X10_takesOut σ a0 a1 = some o) : bl_Fq ho md_X10_takesOut σ o.2 := by
  obtain ⟨σ0, hz⟩ : ∃ z, z = σ := ⟨_, rfl⟩
  suffices hgo : bl_Fq ho md_X10_takesOut σ0 o.2 by rw [hz] at hgo; exact hgo
  have qσ : bl_Fq ho md_X10_takesOut σ0 σ := by rw [hz]; exact ⟨hw, hh, fun _ _ => ⟨rfl, rfl, rfl⟩⟩
  unfold f_X10_takesOut at hf
  obtain ⟨x14, e15⟩ : ∃ z, z = (45 + (2 * a1)) := ⟨_, rfl⟩
  have hf := bl_let_at e15 hf
  exact gl_X10_takesOut_7  bl_fu σ a0 x14 qσ ha0 hf
def md_X10_drop : List (Nat × Nat) := [(10, 28), (20, 167), (20, 2004)]
set_option maxRecDepth 100000 in
theorem fr_X10_drop {ho : Nat → Bool} (σ : bl_St) (a0 : Nat) (a1 : Int32) (o : Int32 × bl_St) (hw : bl_WT σ) (hh : bl_WH ho σ) (ha0 : bl_sh[a0]? = some (10, 28) ∧ ho a0 = true) (hf : f_X10_drop σ a0 a1 = some o) : bl_Fq ho md_X10_drop σ o.2 := by
  obtain ⟨σ0, hz⟩ : ∃ z, z = σ := ⟨_, rfl⟩
  suffices hgo : bl_Fq ho md_X10_drop σ0 o.2 by rw [hz] at hgo; exact hgo
  have qσ : bl_Fq ho md_X10_drop σ0 σ := by rw [hz]; exact ⟨hw, hh, fun _ _ => ⟨rfl, rfl, rfl⟩⟩
  unfold f_X10_drop at hf
  obtain ⟨r1, σ2, h3, hf⟩ := bl_bd_at hf
  have qσ2 := bl_Fq_call qσ (fr_X10_isSort σ a0 a1 _ qσ.1 qσ.2.1 ha0.1 h3) (by decide)
  rcases bl_if_at hf with hf | hf
  · rw [← Option.some.inj hf]
    exact qσ2
  · have h5 := bl_Fq_g qσ2 ha0 (k := 1) rfl (by decide)
    rcases bl_if_at hf with hf | hf
    · rw [← Option.some.inj hf]
      exact qσ2
    · obtain ⟨r7, σ8, h9, hf⟩ := bl_bd_at hf
      have qσ8 := bl_Fq_call qσ2 (fr_X10_keeps σ2 a0 _ qσ2.1 qσ2.2.1 ha0 h9) (by decide)
      obtain ⟨r10, σ11, h12, hf⟩ := bl_bd_at hf
      have qσ11 := bl_Fq_call qσ8 (fr_X10_takesOut σ8 a0 a1 _ qσ8.1 qσ8.2.1 ha0 h12) (by decide)
      have h13 := bl_Fq_g qσ11 ha0 (k := 1) rfl (by decide)
      rw [← Option.some.inj hf]
      exact qσ11
def md_X10_move : List (Nat × Nat) := [(10, 28), (20, 167), (20, 2004)]
set_option maxRecDepth 100000 in
theorem fr_X10_move {ho : Nat → Bool} (σ : bl_St) (a0 : Nat) (a1 : Int32) (o : Int32 × bl_St) (hw : bl_WT σ) (hh : bl_WH ho σ) (ha0 : bl_sh[a0]? = some (10, 28) ∧ ho a0 = true) (hf : f_X10_move σ a0 a1 = some o) : bl_Fq ho md_X10_move σ o.2 := by
  obtain ⟨σ0, hz⟩ : ∃ z, z = σ := ⟨_, rfl⟩
  suffices hgo : bl_Fq ho md_X10_move σ0 o.2 by rw [hz] at hgo; exact hgo
  have qσ : bl_Fq ho md_X10_move σ0 σ := by rw [hz]; exact ⟨hw, hh, fun _ _ => ⟨rfl, rfl, rfl⟩⟩
  unfold f_X10_move at hf
  obtain ⟨r1, σ2, h3, hf⟩ := bl_bd_at hf
  have qσ2 := bl_Fq_call qσ (fr_X10_isClass σ a0 a1 _ qσ.1 qσ.2.1 ha0.1 h3) (by decide)
  rcases bl_if_at hf with hf | hf
  · rw [← Option.some.inj hf]
    exact qσ2
  · have h5 := bl_Fq_g qσ2 ha0 (k := 1) rfl (by decide)
    rcases bl_if_at hf with hf | hf
    · obtain ⟨r7, σ8, h9, hf⟩ := bl_bd_at hf
      have qσ8 := bl_Fq_call qσ2 (fr_X10_becomes σ2 a0 55 a1 _ qσ2.1 qσ2.2.1 ha0 h9) (by decide)
      rw [← Option.some.inj hf]
      exact qσ8
    · rw [← Option.some.inj hf]
      exact qσ2
def md_X10_anew : List (Nat × Nat) := [(10, 28), (20, 167), (20, 2004)]
set_option maxRecDepth 100000 in
theorem gw_X10_anew_15 {ho : Nat → Bool} {σ0 : bl_St} {out : Int32 × bl_St} (k15 : bl_St → Nat → Int32 → Int32 → Option (Int32 × bl_St)) (gk15 : ∀ (σ : bl_St) (v0 : Nat) (v1 : Int32) (v2 : Int32), bl_Fq ho md_X10_anew σ0 σ → (bl_sh[v0]? = some (10, 28) ∧ ho v0 = true) → k15 σ v0 v1 v2 = some out → bl_Fq ho md_X10_anew σ0 out.2) : ∀ (σ : bl_St) (v0 : Nat) (v1 : Int32) (v2 : Int32), bl_Fq ho md_X10_anew σ0 σ → (bl_sh[v0]? = some (10, 28) ∧ ho v0 = true) → (b_X10_anew_15 k15) σ v0 v1 v2 = some out → bl_Fq ho md_X10_anew σ0 out.2 := by
  intro σ v0 v1 v2 qσ hv0 hf
  unfold b_X10_anew_15 at hf
  rcases bl_if_at hf with hf | hf
  · rw [← Option.some.inj hf]
    exact qσ
  · have h2 := bl_Fq_g qσ hv0 (k := 1) rfl (by decide)
    obtain ⟨-, hf⟩ := bl_gd_at hf
    obtain ⟨σ4, e5⟩ : ∃ z : bl_St, z = bl_pI σ (bl_R σ v0 1) (Int32.toNatClampNeg v2) 0 := ⟨_, rfl⟩
    have hf := bl_let_at e5 hf
    have qσ4 : bl_Fq ho md_X10_anew σ0 σ4 := by rw [e5]; exact bl_Fq_I qσ (bl_al_in h2.1 (by decide) h2.2)
    obtain ⟨x6, e7⟩ : ∃ z : Int32, z = v2 + 1 := ⟨_, rfl⟩
    have hf := bl_let_at e7 hf
    exact gk15 σ4 v0 v1 x6 qσ4 hv0 hf
theorem gl_X10_anew_15 {ho : Nat → Bool} {σ0 : bl_St} {out : Int32 × bl_St} (n : Nat) : ∀ (σ : bl_St) (v0 : Nat) (v1 : Int32) (v2 : Int32), bl_Fq ho md_X10_anew σ0 σ → (bl_sh[v0]? = some (10, 28) ∧ ho v0 = true) → (bl_fx (fun _ _ _ _ => none) (b_X10_anew_15 ) n) σ v0 v1 v2 = some out → bl_Fq ho md_X10_anew σ0 out.2 := by
  induction n with
  | zero =>
    intro σ v0 v1 v2 qσ hv0 hf
    cases hf
  | succ n ih => exact gw_X10_anew_15  _ ih
set_option maxRecDepth 100000 in
theorem fr_X10_anew {ho : Nat → Bool} (σ : bl_St) (a0 : Nat) (o : Int32 × bl_St) (hw : bl_WT σ) (hh : bl_WH ho σ) (ha0 : bl_sh[a0]? = some (10, 28) ∧ ho a0 = true) (hf : f_X10_anew σ a0 = some o) : bl_Fq ho md_X10_anew σ o.2 := by
  obtain ⟨σ0, hz⟩ : ∃ z, z = σ := ⟨_, rfl⟩
  suffices hgo : bl_Fq ho md_X10_anew σ0 o.2 by rw [hz] at hgo; exact hgo
  have qσ : bl_Fq ho md_X10_anew σ0 σ := by rw [hz]; exact ⟨hw, hh, fun _ _ => ⟨rfl, rfl, rfl⟩⟩
  unfold f_X10_anew at hf
  obtain ⟨r8, σ9, h10, hf⟩ := bl_bd_at hf
  have qσ9 := bl_Fq_call qσ (fr_X10_keeps σ a0 _ qσ.1 qσ.2.1 ha0 h10) (by decide)
  have h11 := bl_Fq_g qσ9 ha0 (k := 1) rfl (by decide)
  obtain ⟨x12, e13⟩ : ∃ z, z = (bl_I σ9 (bl_R σ9 a0 1) 60) := ⟨_, rfl⟩
  have hf := bl_let_at e13 hf
  exact gl_X10_anew_15  bl_fu σ9 a0 x12 55 qσ9 ha0 hf
def md_X10_undo : List (Nat × Nat) := [(10, 28), (20, 167)]
set_option maxRecDepth 100000 in
theorem gw_X10_undo_21 {ho : Nat → Bool} {σ0 : bl_St} {out : Int32 × bl_St} (k21 : bl_St → Nat → Int32 → Option (Int32 × bl_St)) (gk21 : ∀ (σ : bl_St) (v0 : Nat) (v1 : Int32), bl_Fq ho md_X10_undo σ0 σ → (bl_sh[v0]? = some (10, 28) ∧ ho v0 = true) → k21 σ v0 v1 = some out → bl_Fq ho md_X10_undo σ0 out.2) : ∀ (σ : bl_St) (v0 : Nat) (v1 : Int32), bl_Fq ho md_X10_undo σ0 σ → (bl_sh[v0]? = some (10, 28) ∧ ho v0 = true) → (b_X10_undo_21 k21) σ v0 v1 = some out → bl_Fq ho md_X10_undo σ0 out.2 := by
  intro σ v0 v1 qσ hv0 hf
  unfold b_X10_undo_21 at hf
  rcases bl_if_at hf with hf | hf
  · rw [← Option.some.inj hf]
    exact qσ
  · have h2 := bl_Fq_g qσ hv0 (k := 1) rfl (by decide)
    have h3 := bl_Fq_g qσ hv0 (k := 4) rfl (by decide)
    obtain ⟨-, hf⟩ := bl_gd_at hf
    obtain ⟨-, hf⟩ := bl_gd_at hf
    obtain ⟨σ6, e7⟩ : ∃ z : bl_St, z = bl_pI σ (bl_R σ v0 1) (Int32.toNatClampNeg v1) (bl_I σ (bl_R σ v0 4) (Int32.toNatClampNeg ((167 * (bl_I σ v0 5)) + v1))) := ⟨_, rfl⟩
    have hf := bl_let_at e7 hf
    have qσ6 : bl_Fq ho md_X10_undo σ0 σ6 := by rw [e7]; exact bl_Fq_I qσ (bl_al_in h2.1 (by decide) h2.2)
    obtain ⟨x8, e9⟩ : ∃ z : Int32, z = v1 + 1 := ⟨_, rfl⟩
    have hf := bl_let_at e9 hf
    exact gk21 σ6 v0 x8 qσ6 hv0 hf
theorem gl_X10_undo_21 {ho : Nat → Bool} {σ0 : bl_St} {out : Int32 × bl_St} (n : Nat) : ∀ (σ : bl_St) (v0 : Nat) (v1 : Int32), bl_Fq ho md_X10_undo σ0 σ → (bl_sh[v0]? = some (10, 28) ∧ ho v0 = true) → (bl_fx (fun _ _ _ => none) (b_X10_undo_21 ) n) σ v0 v1 = some out → bl_Fq ho md_X10_undo σ0 out.2 := by
  induction n with
  | zero =>
    intro σ v0 v1 qσ hv0 hf
    cases hf
  | succ n ih => exact gw_X10_undo_21  _ ih
set_option maxRecDepth 100000 in
theorem fr_X10_undo {ho : Nat → Bool} (σ : bl_St) (a0 : Nat) (o : Int32 × bl_St) (hw : bl_WT σ) (hh : bl_WH ho σ) (ha0 : bl_sh[a0]? = some (10, 28) ∧ ho a0 = true) (hf : f_X10_undo σ a0 = some o) : bl_Fq ho md_X10_undo σ o.2 := by
  obtain ⟨σ0, hz⟩ : ∃ z, z = σ := ⟨_, rfl⟩
  suffices hgo : bl_Fq ho md_X10_undo σ0 o.2 by rw [hz] at hgo; exact hgo
  have qσ : bl_Fq ho md_X10_undo σ0 σ := by rw [hz]; exact ⟨hw, hh, fun _ _ => ⟨rfl, rfl, rfl⟩⟩
  unfold f_X10_undo at hf
  rcases bl_if_at hf with hf | hf
  · rw [← Option.some.inj hf]
    exact qσ
  · obtain ⟨σ11, e12⟩ : ∃ z : bl_St, z = bl_pI σ a0 5 ((bl_I σ a0 5) - 1) := ⟨_, rfl⟩
    have hf := bl_let_at e12 hf
    have qσ11 : bl_Fq ho md_X10_undo σ0 σ11 := by rw [e12]; exact bl_Fq_I qσ (bl_al_in ha0.1 (by decide) ha0.2)
    exact gl_X10_undo_21  bl_fu σ11 a0 0 qσ11 ha0 hf
def md_X10_areYears : List (Nat × Nat) := []
set_option maxRecDepth 100000 in
theorem fr_X10_areYears {ho : Nat → Bool} (σ : bl_St) (a0 : Int32) (o : Int32 × bl_St) (hw : bl_WT σ) (hh : bl_WH ho σ) (hf : f_X10_areYears σ a0 = some o) : bl_Fq ho md_X10_areYears σ o.2 := by
  obtain ⟨σ0, hz⟩ : ∃ z, z = σ := ⟨_, rfl⟩
  suffices hgo : bl_Fq ho md_X10_areYears σ0 o.2 by rw [hz] at hgo; exact hgo
  have qσ : bl_Fq ho md_X10_areYears σ0 σ := by rw [hz]; exact ⟨hw, hh, fun _ _ => ⟨rfl, rfl, rfl⟩⟩
  unfold f_X10_areYears at hf
  obtain ⟨r1, σ2, h3, hf⟩ := bl_bd_at hf
  have qσ2 := bl_Fq_call qσ (fr_X10_in σ (Int32.toInt64 a0) 0 20 _ qσ.1 qσ.2.1  h3) (by decide)
  obtain ⟨-, hf⟩ := bl_gd_at hf
  rw [← Option.some.inj hf]
  exact qσ2
def md_X10_bestCost : List (Nat × Nat) := [(10, 28), (21, 42), (21, 168), (23, 168)]
set_option maxRecDepth 100000 in
theorem fr_X10_bestCost {ho : Nat → Bool} (σ : bl_St) (a0 : Nat) (a1 : Int32) (a2 : Int32) (o : Int64 × bl_St) (hw : bl_WT σ) (hh : bl_WH ho σ) (ha0 : bl_sh[a0]? = some (10, 28) ∧ ho a0 = true) (hf : f_X10_bestCost σ a0 a1 a2 = some o) : bl_Fq ho md_X10_bestCost σ o.2 := by
  obtain ⟨σ0, hz⟩ : ∃ z, z = σ := ⟨_, rfl⟩
  suffices hgo : bl_Fq ho md_X10_bestCost σ0 o.2 by rw [hz] at hgo; exact hgo
  have qσ : bl_Fq ho md_X10_bestCost σ0 σ := by rw [hz]; exact ⟨hw, hh, fun _ _ => ⟨rfl, rfl, rfl⟩⟩
  unfold f_X10_bestCost at hf
  obtain ⟨r1, σ2, h3, hf⟩ := bl_bd_at hf
  have qσ2 := bl_Fq_call qσ (fr_X10_lays σ a0 a1 1 0 0 _ qσ.1 qσ.2.1 ha0 h3) (by decide)
  obtain ⟨r4, σ5, h6, hf⟩ := bl_bd_at hf
  have qσ5 := bl_Fq_call qσ2 (fr_X10_costAt σ2 a0 a1 a2 _ qσ2.1 qσ2.2.1 ha0.1 h6) (by decide)
  rw [← Option.some.inj hf]
  exact qσ5
def md_X10_bareCost : List (Nat × Nat) := [(10, 28), (21, 42), (21, 168), (23, 168)]
set_option maxRecDepth 100000 in
theorem fr_X10_bareCost {ho : Nat → Bool} (σ : bl_St) (a0 : Nat) (a1 : Int32) (a2 : Int32) (o : Int64 × bl_St) (hw : bl_WT σ) (hh : bl_WH ho σ) (ha0 : bl_sh[a0]? = some (10, 28) ∧ ho a0 = true) (hf : f_X10_bareCost σ a0 a1 a2 = some o) : bl_Fq ho md_X10_bareCost σ o.2 := by
  obtain ⟨σ0, hz⟩ : ∃ z, z = σ := ⟨_, rfl⟩
  suffices hgo : bl_Fq ho md_X10_bareCost σ0 o.2 by rw [hz] at hgo; exact hgo
  have qσ : bl_Fq ho md_X10_bareCost σ0 σ := by rw [hz]; exact ⟨hw, hh, fun _ _ => ⟨rfl, rfl, rfl⟩⟩
  unfold f_X10_bareCost at hf
  obtain ⟨r1, σ2, h3, hf⟩ := bl_bd_at hf
  have qσ2 := bl_Fq_call qσ (fr_X10_lays σ a0 a1 0 0 0 _ qσ.1 qσ.2.1 ha0 h3) (by decide)
  obtain ⟨r4, σ5, h6, hf⟩ := bl_bd_at hf
  have qσ5 := bl_Fq_call qσ2 (fr_X10_costAt σ2 a0 a1 a2 _ qσ2.1 qσ2.2.1 ha0.1 h6) (by decide)
  rw [← Option.some.inj hf]
  exact qσ5
def md_X10_cost : List (Nat × Nat) := [(10, 28), (21, 42), (21, 168), (23, 168)]
set_option maxRecDepth 100000 in
theorem fr_X10_cost {ho : Nat → Bool} (σ : bl_St) (a0 : Nat) (a1 : Int32) (a2 : Int32) (o : Int64 × bl_St) (hw : bl_WT σ) (hh : bl_WH ho σ) (ha0 : bl_sh[a0]? = some (10, 28) ∧ ho a0 = true) (hf : f_X10_cost σ a0 a1 a2 = some o) : bl_Fq ho md_X10_cost σ o.2 := by
  obtain ⟨σ0, hz⟩ : ∃ z, z = σ := ⟨_, rfl⟩
  suffices hgo : bl_Fq ho md_X10_cost σ0 o.2 by rw [hz] at hgo; exact hgo
  have qσ : bl_Fq ho md_X10_cost σ0 σ := by rw [hz]; exact ⟨hw, hh, fun _ _ => ⟨rfl, rfl, rfl⟩⟩
  unfold f_X10_cost at hf
  obtain ⟨r1, σ2, h3, hf⟩ := bl_bd_at hf
  have qσ2 := bl_Fq_call qσ (fr_X10_areYears σ a1 _ qσ.1 qσ.2.1  h3) (by decide)
  rcases bl_if_at hf with hf | hf
  · rw [← Option.some.inj hf]
    exact qσ2
  · obtain ⟨r5, σ6, h7, hf⟩ := bl_bd_at hf
    have qσ6 := bl_Fq_call qσ2 (fr_X10_isClass σ2 a0 a2 _ qσ2.1 qσ2.2.1 ha0.1 h7) (by decide)
    rcases bl_if_at hf with hf | hf
    · rw [← Option.some.inj hf]
      exact qσ6
    · obtain ⟨r9, σ10, h11, hf⟩ := bl_bd_at hf
      have qσ10 := bl_Fq_call qσ6 (fr_X10_bestCost σ6 a0 a1 a2 _ qσ6.1 qσ6.2.1 ha0 h11) (by decide)
      rw [← Option.some.inj hf]
      exact qσ10
def md_X10_guards : List (Nat × Nat) := [(10, 28), (21, 42), (21, 168), (23, 168)]
set_option maxRecDepth 100000 in
theorem fr_X10_guards {ho : Nat → Bool} (σ : bl_St) (a0 : Nat) (a1 : Int32) (a2 : Int32) (o : Int32 × bl_St) (hw : bl_WT σ) (hh : bl_WH ho σ) (ha0 : bl_sh[a0]? = some (10, 28) ∧ ho a0 = true) (hf : f_X10_guards σ a0 a1 a2 = some o) : bl_Fq ho md_X10_guards σ o.2 := by
  obtain ⟨σ0, hz⟩ : ∃ z, z = σ := ⟨_, rfl⟩
  suffices hgo : bl_Fq ho md_X10_guards σ0 o.2 by rw [hz] at hgo; exact hgo
  have qσ : bl_Fq ho md_X10_guards σ0 σ := by rw [hz]; exact ⟨hw, hh, fun _ _ => ⟨rfl, rfl, rfl⟩⟩
  unfold f_X10_guards at hf
  obtain ⟨r1, σ2, h3, hf⟩ := bl_bd_at hf
  have qσ2 := bl_Fq_call qσ (fr_X10_areYears σ a1 _ qσ.1 qσ.2.1  h3) (by decide)
  rcases bl_if_at hf with hf | hf
  · rw [← Option.some.inj hf]
    exact qσ2
  · obtain ⟨r5, σ6, h7, hf⟩ := bl_bd_at hf
    have qσ6 := bl_Fq_call qσ2 (fr_X10_isClass σ2 a0 a2 _ qσ2.1 qσ2.2.1 ha0.1 h7) (by decide)
    rcases bl_if_at hf with hf | hf
    · rw [← Option.some.inj hf]
      exact qσ6
    · obtain ⟨r9, σ10, h11, hf⟩ := bl_bd_at hf
      have qσ10 := bl_Fq_call qσ6 (fr_X10_lays σ6 a0 a1 1 0 0 _ qσ6.1 qσ6.2.1 ha0 h11) (by decide)
      rcases bl_if_at hf with hf | hf
      · rw [← Option.some.inj hf]
        exact qσ10
      · obtain ⟨r13, σ14, h15, hf⟩ := bl_bd_at hf
        have qσ14 := bl_Fq_call qσ10 (fr_X10_isGuarded σ10 a0 a1 a2 _ qσ10.1 qσ10.2.1 ha0.1 h15) (by decide)
        rcases bl_if_at hf with hf | hf
        · rw [← Option.some.inj hf]
          exact qσ14
        · rw [← Option.some.inj hf]
          exact qσ14
def md_X10_isChance : List (Nat × Nat) := [(10, 28), (21, 42), (21, 168), (23, 168)]
set_option maxRecDepth 100000 in
theorem fr_X10_isChance {ho : Nat → Bool} (σ : bl_St) (a0 : Nat) (a1 : Int32) (a2 : Int32) (a3 : Int32) (a4 : Int32) (a5 : Int32) (o : Int32 × bl_St) (hw : bl_WT σ) (hh : bl_WH ho σ) (ha0 : bl_sh[a0]? = some (10, 28) ∧ ho a0 = true) (hf : f_X10_isChance σ a0 a1 a2 a3 a4 a5 = some o) : bl_Fq ho md_X10_isChance σ o.2 := by
  obtain ⟨σ0, hz⟩ : ∃ z, z = σ := ⟨_, rfl⟩
  suffices hgo : bl_Fq ho md_X10_isChance σ0 o.2 by rw [hz] at hgo; exact hgo
  have qσ : bl_Fq ho md_X10_isChance σ0 σ := by rw [hz]; exact ⟨hw, hh, fun _ _ => ⟨rfl, rfl, rfl⟩⟩
  unfold f_X10_isChance at hf
  obtain ⟨r1, σ2, h3, hf⟩ := bl_bd_at hf
  have qσ2 := bl_Fq_call qσ (fr_X10_in σ (Int32.toInt64 a1) 1 20 _ qσ.1 qσ.2.1  h3) (by decide)
  rcases bl_if_at hf with hf | hf
  · rw [← Option.some.inj hf]
    exact qσ2
  · obtain ⟨r5, σ6, h7, hf⟩ := bl_bd_at hf
    have qσ6 := bl_Fq_call qσ2 (fr_X10_isClass σ2 a0 a2 _ qσ2.1 qσ2.2.1 ha0.1 h7) (by decide)
    rcases bl_if_at hf with hf | hf
    · rw [← Option.some.inj hf]
      exact qσ6
    · obtain ⟨r9, σ10, h11, hf⟩ := bl_bd_at hf
      have qσ10 := bl_Fq_call qσ6 (fr_X10_in σ6 (Int32.toInt64 a3) 0 (Int32.toInt64 a5) _ qσ6.1 qσ6.2.1  h11) (by decide)
      rcases bl_if_at hf with hf | hf
      · rw [← Option.some.inj hf]
        exact qσ10
      · obtain ⟨r13, σ14, h15, hf⟩ := bl_bd_at hf
        have qσ14 := bl_Fq_call qσ10 (fr_X10_in σ10 (Int32.toInt64 a4) 0 2 _ qσ10.1 qσ10.2.1  h15) (by decide)
        rcases bl_if_at hf with hf | hf
        · rw [← Option.some.inj hf]
          exact qσ14
        · obtain ⟨r17, σ18, h19, hf⟩ := bl_bd_at hf
          have qσ18 := bl_Fq_call qσ14 (fr_X10_lays σ14 a0 a1 1 0 0 _ qσ14.1 qσ14.2.1 ha0 h19) (by decide)
          obtain ⟨r20, σ21, h22, hf⟩ := bl_bd_at hf
          have qσ21 := bl_Fq_call qσ18 (fr_X10_laysChances σ18 a0 a1 a2 _ qσ18.1 qσ18.2.1 ha0 h22) (by decide)
          rw [← Option.some.inj hf]
          exact qσ21
def md_X10_ahead : List (Nat × Nat) := [(10, 28), (21, 42), (21, 168), (23, 168)]
set_option maxRecDepth 100000 in
theorem fr_X10_ahead {ho : Nat → Bool} (σ : bl_St) (a0 : Nat) (a1 : Int32) (a2 : Int32) (a3 : Int32) (a4 : Int32) (a5 : Int32) (o : Int64 × bl_St) (hw : bl_WT σ) (hh : bl_WH ho σ) (ha0 : bl_sh[a0]? = some (10, 28) ∧ ho a0 = true) (hf : f_X10_ahead σ a0 a1 a2 a3 a4 a5 = some o) : bl_Fq ho md_X10_ahead σ o.2 := by
  obtain ⟨σ0, hz⟩ : ∃ z, z = σ := ⟨_, rfl⟩
  suffices hgo : bl_Fq ho md_X10_ahead σ0 o.2 by rw [hz] at hgo; exact hgo
  have qσ : bl_Fq ho md_X10_ahead σ0 σ := by rw [hz]; exact ⟨hw, hh, fun _ _ => ⟨rfl, rfl, rfl⟩⟩
  unfold f_X10_ahead at hf
  have h1 := bl_Fq_g qσ ha0 (k := 1) rfl (by decide)
  obtain ⟨r2, σ3, h4, hf⟩ := bl_bd_at hf
  have qσ3 := bl_Fq_call qσ (fr_X10_isChance σ a0 a1 a2 a3 a4 (bl_I σ (bl_R σ a0 1) 2) _ qσ.1 qσ.2.1 ha0 h4) (by decide)
  rcases bl_if_at hf with hf | hf
  · rw [← Option.some.inj hf]
    exact qσ3
  · have h6 := bl_Fq_g qσ3 ha0 (k := 9) rfl (by decide)
    rcases bl_if_at hf with hf | hf
    · obtain ⟨r8, σ9, h10, hf⟩ := bl_bd_at hf
      have qσ9 := bl_Fq_call qσ3 (fr_X10_slot σ3 a3 a4 0 _ qσ3.1 qσ3.2.1  h10) (by decide)
      obtain ⟨-, hf⟩ := bl_gd_at hf
      rw [← Option.some.inj hf]
      exact qσ9
    · obtain ⟨r12, σ13, h14, hf⟩ := bl_bd_at hf
      have qσ13 := bl_Fq_call qσ3 (fr_X10_slot σ3 a3 a4 1 _ qσ3.1 qσ3.2.1  h14) (by decide)
      obtain ⟨-, hf⟩ := bl_gd_at hf
      rw [← Option.some.inj hf]
      exact qσ13
def md_X10_leastSize : List (Nat × Nat) := []
set_option maxRecDepth 100000 in
theorem gw_X10_leastSize_89 {ho : Nat → Bool} {σ0 : bl_St} {out : Int32 × bl_St} (k57 : bl_St → Nat → Int64 → Int64 → Int32 → Option (Int32 × bl_St)) (gk57 : ∀ (σ : bl_St) (v0 : Nat) (v5 : Int64) (v7 : Int64) (v9 : Int32), bl_Fq ho md_X10_leastSize σ0 σ → (bl_sh[v0]? = some (10, 28) ∧ True) → k57 σ v0 v5 v7 v9 = some out → bl_Fq ho md_X10_leastSize σ0 out.2) : ∀ (σ : bl_St) (v0 : Nat) (v5 : Int64) (v7 : Int64) (v9 : Int32) (s0 : Int64), bl_Fq ho md_X10_leastSize σ0 σ → (bl_sh[v0]? = some (10, 28) ∧ True) → (b_X10_leastSize_89 k57) σ v0 v5 v7 v9 s0 = some out → bl_Fq ho md_X10_leastSize σ0 out.2 := by
  intro σ v0 v5 v7 v9 s0 qσ hv0 hf
  unfold b_X10_leastSize_89 at hf
  rcases bl_if_at hf with hf | hf
  · obtain ⟨x2, e3⟩ : ∃ z : Int32, z = v9 + 1 := ⟨_, rfl⟩
    have hf := bl_let_at e3 hf
    exact gk57 σ v0 v5 v7 x2 qσ hv0 hf
  · rw [← Option.some.inj hf]
    exact qσ
set_option maxRecDepth 100000 in
theorem gw_X10_leastSize_57 {ho : Nat → Bool} {σ0 : bl_St} {out : Int32 × bl_St} (k57 : bl_St → Nat → Int64 → Int64 → Int32 → Option (Int32 × bl_St)) (gk57 : ∀ (σ : bl_St) (v0 : Nat) (v5 : Int64) (v7 : Int64) (v9 : Int32), bl_Fq ho md_X10_leastSize σ0 σ → (bl_sh[v0]? = some (10, 28) ∧ True) → k57 σ v0 v5 v7 v9 = some out → bl_Fq ho md_X10_leastSize σ0 out.2) : ∀ (σ : bl_St) (v0 : Nat) (v5 : Int64) (v7 : Int64) (v9 : Int32), bl_Fq ho md_X10_leastSize σ0 σ → (bl_sh[v0]? = some (10, 28) ∧ True) → (b_X10_leastSize_57 k57) σ v0 v5 v7 v9 = some out → bl_Fq ho md_X10_leastSize σ0 out.2 := by
  intro σ v0 v5 v7 v9 qσ hv0 hf
  unfold b_X10_leastSize_57 at hf
  rcases bl_if_at hf with hf | hf
  · rw [← Option.some.inj hf]
    exact qσ
  · have h5 := bl_Fq_gn qσ hv0 (k := 1) rfl
    rcases bl_if_at hf with hf | hf
    · exact gw_X10_leastSize_89 k57 gk57 σ v0 v5 v7 v9 (Int32.toInt64 v9) qσ hv0 hf
    · have h7 := bl_Fq_gn qσ hv0 (k := 1) rfl
      exact gw_X10_leastSize_89 k57 gk57 σ v0 v5 v7 v9 (Int32.toInt64 (bl_I σ (bl_R σ v0 1) 4)) qσ hv0 hf
theorem gl_X10_leastSize_57 {ho : Nat → Bool} {σ0 : bl_St} {out : Int32 × bl_St} (n : Nat) : ∀ (σ : bl_St) (v0 : Nat) (v5 : Int64) (v7 : Int64) (v9 : Int32), bl_Fq ho md_X10_leastSize σ0 σ → (bl_sh[v0]? = some (10, 28) ∧ True) → (bl_fx (fun _ _ _ _ _ => none) (b_X10_leastSize_57 ) n) σ v0 v5 v7 v9 = some out → bl_Fq ho md_X10_leastSize σ0 out.2 := by
  induction n with
  | zero =>
    intro σ v0 v5 v7 v9 qσ hv0 hf
    cases hf
  | succ n ih => exact gw_X10_leastSize_57  _ ih
set_option maxRecDepth 100000 in
theorem gw_X10_leastSize_21 {ho : Nat → Bool} {σ0 : bl_St} {out : Int32 × bl_St} : ∀ (σ : bl_St) (v0 : Nat) (v1 : Int32) (v2 : Int32) (v3 : Int32) (s0 : Int32), bl_Fq ho md_X10_leastSize σ0 σ → (bl_sh[v0]? = some (10, 28) ∧ True) → (b_X10_leastSize_21 ) σ v0 v1 v2 v3 s0 = some out → bl_Fq ho md_X10_leastSize σ0 out.2 := by
  intro σ v0 v1 v2 v3 s0 qσ hv0 hf
  unfold b_X10_leastSize_21 at hf
  have h8 := bl_Fq_gn qσ hv0 (k := 9) rfl
  obtain ⟨r9, σ10, h11, hf⟩ := bl_bd_at hf
  have qσ10 := bl_Fq_call qσ (fr_X10_slot σ (v1 + 1) s0 0 _ qσ.1 qσ.2.1  h11) (by decide)
  obtain ⟨-, hf⟩ := bl_gd_at hf
  obtain ⟨x13, e14⟩ : ∃ z, z = (bl_J σ10 (bl_R σ v0 9) (Int32.toNatClampNeg r9)) := ⟨_, rfl⟩
  have hf := bl_let_at e14 hf
  have h15 := bl_Fq_gn qσ10 hv0 (k := 9) rfl
  obtain ⟨r16, σ17, h18, hf⟩ := bl_bd_at hf
  have qσ17 := bl_Fq_call qσ10 (fr_X10_slot σ10 (v1 + 1) v2 v3 _ qσ10.1 qσ10.2.1  h18) (by decide)
  obtain ⟨-, hf⟩ := bl_gd_at hf
  obtain ⟨x20, e21⟩ : ∃ z, z = (bl_J σ17 (bl_R σ10 v0 9) (Int32.toNatClampNeg r16)) := ⟨_, rfl⟩
  have hf := bl_let_at e21 hf
  exact gl_X10_leastSize_57  bl_fu σ17 v0 x13 x20 1 qσ17 hv0 hf
set_option maxRecDepth 100000 in
theorem fr_X10_leastSize {ho : Nat → Bool} (σ : bl_St) (a0 : Nat) (a1 : Int32) (a2 : Int32) (a3 : Int32) (o : Int32 × bl_St) (hw : bl_WT σ) (hh : bl_WH ho σ) (ha0 : bl_sh[a0]? = some (10, 28)) (hf : f_X10_leastSize σ a0 a1 a2 a3 = some o) : bl_Fq ho md_X10_leastSize σ o.2 := by
  obtain ⟨σ0, hz⟩ : ∃ z, z = σ := ⟨_, rfl⟩
  suffices hgo : bl_Fq ho md_X10_leastSize σ0 o.2 by rw [hz] at hgo; exact hgo
  have qσ : bl_Fq ho md_X10_leastSize σ0 σ := by rw [hz]; exact ⟨hw, hh, fun _ _ => ⟨rfl, rfl, rfl⟩⟩
  have ha0 := And.intro ha0 trivial
  unfold f_X10_leastSize at hf
  rcases bl_if_at hf with hf | hf
  · exact gw_X10_leastSize_21  σ a0 a1 a2 a3 a2 qσ ha0 hf
  · rcases bl_if_at hf with hf | hf
    · exact gw_X10_leastSize_21  σ a0 a1 a2 a3 2 qσ ha0 hf
    · exact gw_X10_leastSize_21  σ a0 a1 a2 a3 (a2 + 1) qσ ha0 hf
def md_X10_least : List (Nat × Nat) := [(10, 28), (21, 42), (21, 168), (23, 168)]
set_option maxRecDepth 100000 in
theorem fr_X10_least {ho : Nat → Bool} (σ : bl_St) (a0 : Nat) (a1 : Int32) (a2 : Int32) (a3 : Int32) (a4 : Int32) (a5 : Int32) (o : Int32 × bl_St) (hw : bl_WT σ) (hh : bl_WH ho σ) (ha0 : bl_sh[a0]? = some (10, 28) ∧ ho a0 = true) (hf : f_X10_least σ a0 a1 a2 a3 a4 a5 = some o) : bl_Fq ho md_X10_least σ o.2 := by
  obtain ⟨σ0, hz⟩ : ∃ z, z = σ := ⟨_, rfl⟩
  suffices hgo : bl_Fq ho md_X10_least σ0 o.2 by rw [hz] at hgo; exact hgo
  have qσ : bl_Fq ho md_X10_least σ0 σ := by rw [hz]; exact ⟨hw, hh, fun _ _ => ⟨rfl, rfl, rfl⟩⟩
  unfold f_X10_least at hf
  have h1 := bl_Fq_g qσ ha0 (k := 1) rfl (by decide)
  obtain ⟨r2, σ3, h4, hf⟩ := bl_bd_at hf
  have qσ3 := bl_Fq_call qσ (fr_X10_isChance σ a0 a1 a2 a3 a4 ((bl_I σ (bl_R σ a0 1) 2) - 1) _ qσ.1 qσ.2.1 ha0 h4) (by decide)
  rcases bl_if_at hf with hf | hf
  · rw [← Option.some.inj hf]
    exact qσ3
  · rcases bl_if_at hf with hf | hf
    · obtain ⟨r7, σ8, h9, hf⟩ := bl_bd_at hf
      have qσ8 := bl_Fq_call qσ3 (fr_X10_leastSize σ3 a0 a3 a4 0 _ qσ3.1 qσ3.2.1 ha0.1 h9) (by decide)
      rw [← Option.some.inj hf]
      exact qσ8
    · obtain ⟨r10, σ11, h12, hf⟩ := bl_bd_at hf
      have qσ11 := bl_Fq_call qσ3 (fr_X10_leastSize σ3 a0 a3 a4 1 _ qσ3.1 qσ3.2.1 ha0.1 h12) (by decide)
      rw [← Option.some.inj hf]
      exact qσ11
def md_X10_tells : List (Nat × Nat) := [(10, 28), (21, 42), (21, 168), (23, 168)]
set_option maxRecDepth 100000 in
theorem gw_X10_tells_72 {ho : Nat → Bool} {σ0 : bl_St} {out : Int32 × bl_St} (k28 : bl_St → Nat → Int32 → Int32 → Int32 → Int32 → Int32 → Option (Int32 × bl_St)) (gk28 : ∀ (σ : bl_St) (v0 : Nat) (v3 : Int32) (v4 : Int32) (v5 : Int32) (v6 : Int32) (v7 : Int32), bl_Fq ho md_X10_tells σ0 σ → (bl_sh[v0]? = some (10, 28) ∧ ho v0 = true) → k28 σ v0 v3 v4 v5 v6 v7 = some out → bl_Fq ho md_X10_tells σ0 out.2) : ∀ (σ : bl_St) (v0 : Nat) (v3 : Int32) (v4 : Int32) (v5 : Int32) (v6 : Int32) (v7 : Int32), bl_Fq ho md_X10_tells σ0 σ → (bl_sh[v0]? = some (10, 28) ∧ ho v0 = true) → (b_X10_tells_72 k28) σ v0 v3 v4 v5 v6 v7 = some out → bl_Fq ho md_X10_tells σ0 out.2 := by
  intro σ v0 v3 v4 v5 v6 v7 qσ hv0 hf
  unfold b_X10_tells_72 at hf
  obtain ⟨x1, e2⟩ : ∃ z : Int32, z = v7 + 1 := ⟨_, rfl⟩
  have hf := bl_let_at e2 hf
  exact gk28 σ v0 v3 v4 v5 v6 x1 qσ hv0 hf
set_option maxRecDepth 100000 in
theorem gw_X10_tells_55 {ho : Nat → Bool} {σ0 : bl_St} {out : Int32 × bl_St} (k28 : bl_St → Nat → Int32 → Int32 → Int32 → Int32 → Int32 → Option (Int32 × bl_St)) (gk28 : ∀ (σ : bl_St) (v0 : Nat) (v3 : Int32) (v4 : Int32) (v5 : Int32) (v6 : Int32) (v7 : Int32), bl_Fq ho md_X10_tells σ0 σ → (bl_sh[v0]? = some (10, 28) ∧ ho v0 = true) → k28 σ v0 v3 v4 v5 v6 v7 = some out → bl_Fq ho md_X10_tells σ0 out.2) : ∀ (σ : bl_St) (v0 : Nat) (v3 : Int32) (v4 : Int32) (v5 : Int32) (v6 : Int32) (v7 : Int32) (s0 : Int32) (s1 : Int32) (s2 : Int32) (s3 : Int32) (s4 : Nat), bl_Fq ho md_X10_tells σ0 σ → (bl_sh[v0]? = some (10, 28) ∧ ho v0 = true) → (bl_sh[s4]? = some (10, 28) ∧ ho s4 = true) → (b_X10_tells_55 k28) σ v0 v3 v4 v5 v6 v7 s0 s1 s2 s3 s4 = some out → bl_Fq ho md_X10_tells σ0 out.2 := by
  intro σ v0 v3 v4 v5 v6 v7 s0 s1 s2 s3 s4 qσ hv0 hs4 hf
  unfold b_X10_tells_55 at hf
  obtain ⟨r3, σ4, h5, hf⟩ := bl_bd_at hf
  have qσ4 := bl_Fq_call qσ (fr_X10_gainOf σ s4 s3 s2 s1 s0 _ qσ.1 qσ.2.1 hs4.1 h5) (by decide)
  rcases bl_if_at hf with hf | hf
  · exact gw_X10_tells_72 k28 gk28 σ4 v0 v3 v4 v5 v6 v7 qσ4 hv0 hf
  · obtain ⟨x7, e8⟩ : ∃ z, z = (v6 ||| (1 <<< (v7 &&& 31))) := ⟨_, rfl⟩
    have hf := bl_let_at e8 hf
    exact gw_X10_tells_72 k28 gk28 σ4 v0 v3 v4 v5 x7 v7 qσ4 hv0 hf
set_option maxRecDepth 100000 in
theorem gw_X10_tells_28 {ho : Nat → Bool} {σ0 : bl_St} {out : Int32 × bl_St} (k28 : bl_St → Nat → Int32 → Int32 → Int32 → Int32 → Int32 → Option (Int32 × bl_St)) (gk28 : ∀ (σ : bl_St) (v0 : Nat) (v3 : Int32) (v4 : Int32) (v5 : Int32) (v6 : Int32) (v7 : Int32), bl_Fq ho md_X10_tells σ0 σ → (bl_sh[v0]? = some (10, 28) ∧ ho v0 = true) → k28 σ v0 v3 v4 v5 v6 v7 = some out → bl_Fq ho md_X10_tells σ0 out.2) : ∀ (σ : bl_St) (v0 : Nat) (v3 : Int32) (v4 : Int32) (v5 : Int32) (v6 : Int32) (v7 : Int32), bl_Fq ho md_X10_tells σ0 σ → (bl_sh[v0]? = some (10, 28) ∧ ho v0 = true) → (b_X10_tells_28 k28) σ v0 v3 v4 v5 v6 v7 = some out → bl_Fq ho md_X10_tells σ0 out.2 := by
  intro σ v0 v3 v4 v5 v6 v7 qσ hv0 hf
  unfold b_X10_tells_28 at hf
  have h9 := bl_Fq_g qσ hv0 (k := 1) rfl (by decide)
  rcases bl_if_at hf with hf | hf
  · rw [← Option.some.inj hf]
    exact qσ
  · rcases bl_if_at hf with hf | hf
    · exact gw_X10_tells_55 k28 gk28 σ v0 v3 v4 v5 v6 v7 0 v4 v3 v7 v0 qσ hv0 hv0 hf
    · exact gw_X10_tells_55 k28 gk28 σ v0 v3 v4 v5 v6 v7 1 v4 v3 v7 v0 qσ hv0 hv0 hf
theorem gl_X10_tells_28 {ho : Nat → Bool} {σ0 : bl_St} {out : Int32 × bl_St} (n : Nat) : ∀ (σ : bl_St) (v0 : Nat) (v3 : Int32) (v4 : Int32) (v5 : Int32) (v6 : Int32) (v7 : Int32), bl_Fq ho md_X10_tells σ0 σ → (bl_sh[v0]? = some (10, 28) ∧ ho v0 = true) → (bl_fx (fun _ _ _ _ _ _ _ => none) (b_X10_tells_28 ) n) σ v0 v3 v4 v5 v6 v7 = some out → bl_Fq ho md_X10_tells σ0 out.2 := by
  induction n with
  | zero =>
    intro σ v0 v3 v4 v5 v6 v7 qσ hv0 hf
    cases hf
  | succ n ih => exact gw_X10_tells_28  _ ih
set_option maxRecDepth 100000 in
theorem fr_X10_tells {ho : Nat → Bool} (σ : bl_St) (a0 : Nat) (a1 : Int32) (a2 : Int32) (a3 : Int32) (a4 : Int32) (a5 : Int32) (o : Int32 × bl_St) (hw : bl_WT σ) (hh : bl_WH ho σ) (ha0 : bl_sh[a0]? = some (10, 28) ∧ ho a0 = true) (hf : f_X10_tells σ a0 a1 a2 a3 a4 a5 = some o) : bl_Fq ho md_X10_tells σ o.2 := by
  obtain ⟨σ0, hz⟩ : ∃ z, z = σ := ⟨_, rfl⟩
  suffices hgo : bl_Fq ho md_X10_tells σ0 o.2 by rw [hz] at hgo; exact hgo
  have qσ : bl_Fq ho md_X10_tells σ0 σ := by rw [hz]; exact ⟨hw, hh, fun _ _ => ⟨rfl, rfl, rfl⟩⟩
  unfold f_X10_tells at hf
  have h12 := bl_Fq_g qσ ha0 (k := 1) rfl (by decide)
  obtain ⟨r13, σ14, h15, hf⟩ := bl_bd_at hf
  have qσ14 := bl_Fq_call qσ (fr_X10_isChance σ a0 a1 a2 a3 a4 ((bl_I σ (bl_R σ a0 1) 2) - 1) _ qσ.1 qσ.2.1 ha0 h15) (by decide)
  rcases bl_if_at hf with hf | hf
  · rw [← Option.some.inj hf]
    exact qσ14
  · exact gl_X10_tells_28  bl_fu σ14 a0 a3 a4 a5 0 0 qσ14 ha0 hf
def md_X10_gain : List (Nat × Nat) := [(10, 28), (21, 42), (21, 168), (23, 168)]
set_option maxRecDepth 100000 in
theorem fr_X10_gain {ho : Nat → Bool} (σ : bl_St) (a0 : Nat) (a1 : Int32) (a2 : Int32) (a3 : Int32) (a4 : Int32) (a5 : Int32) (a6 : Int32) (o : Int64 × bl_St) (hw : bl_WT σ) (hh : bl_WH ho σ) (ha0 : bl_sh[a0]? = some (10, 28) ∧ ho a0 = true) (hf : f_X10_gain σ a0 a1 a2 a3 a4 a5 a6 = some o) : bl_Fq ho md_X10_gain σ o.2 := by
  obtain ⟨σ0, hz⟩ : ∃ z, z = σ := ⟨_, rfl⟩
  suffices hgo : bl_Fq ho md_X10_gain σ0 o.2 by rw [hz] at hgo; exact hgo
  have qσ : bl_Fq ho md_X10_gain σ0 σ := by rw [hz]; exact ⟨hw, hh, fun _ _ => ⟨rfl, rfl, rfl⟩⟩
  unfold f_X10_gain at hf
  obtain ⟨r1, σ2, h3, hf⟩ := bl_bd_at hf
  have qσ2 := bl_Fq_call qσ (fr_X10_isSort σ a0 a6 _ qσ.1 qσ.2.1 ha0.1 h3) (by decide)
  rcases bl_if_at hf with hf | hf
  · rw [← Option.some.inj hf]
    exact qσ2
  · have h5 := bl_Fq_g qσ2 ha0 (k := 1) rfl (by decide)
    obtain ⟨r6, σ7, h8, hf⟩ := bl_bd_at hf
    have qσ7 := bl_Fq_call qσ2 (fr_X10_isChance σ2 a0 a1 a2 a3 a4 ((bl_I σ2 (bl_R σ2 a0 1) 2) - 1) _ qσ2.1 qσ2.2.1 ha0 h8) (by decide)
    rcases bl_if_at hf with hf | hf
    · rw [← Option.some.inj hf]
      exact qσ7
    · rcases bl_if_at hf with hf | hf
      · obtain ⟨r11, σ12, h13, hf⟩ := bl_bd_at hf
        have qσ12 := bl_Fq_call qσ7 (fr_X10_gainOf σ7 a0 a6 a3 a4 0 _ qσ7.1 qσ7.2.1 ha0.1 h13) (by decide)
        rw [← Option.some.inj hf]
        exact qσ12
      · obtain ⟨r14, σ15, h16, hf⟩ := bl_bd_at hf
        have qσ15 := bl_Fq_call qσ7 (fr_X10_gainOf σ7 a0 a6 a3 a4 1 _ qσ7.1 qσ7.2.1 ha0.1 h16) (by decide)
        rw [← Option.some.inj hf]
        exact qσ15
def md_X10_patience : List (Nat × Nat) := [(10, 28), (21, 42), (21, 168), (23, 168)]
set_option maxRecDepth 100000 in
theorem gw_X10_patience_29 {ho : Nat → Bool} {σ0 : bl_St} {out : Int32 × bl_St} (k29 : bl_St → Nat → Int32 → Int32 → Int32 → Option (Int32 × bl_St)) (gk29 : ∀ (σ : bl_St) (v0 : Nat) (v1 : Int32) (v2 : Int32) (v3 : Int32), bl_Fq ho md_X10_patience σ0 σ → (bl_sh[v0]? = some (10, 28) ∧ ho v0 = true) → k29 σ v0 v1 v2 v3 = some out → bl_Fq ho md_X10_patience σ0 out.2) : ∀ (σ : bl_St) (v0 : Nat) (v1 : Int32) (v2 : Int32) (v3 : Int32), bl_Fq ho md_X10_patience σ0 σ → (bl_sh[v0]? = some (10, 28) ∧ ho v0 = true) → (b_X10_patience_29 k29) σ v0 v1 v2 v3 = some out → bl_Fq ho md_X10_patience σ0 out.2 := by
  intro σ v0 v1 v2 v3 qσ hv0 hf
  unfold b_X10_patience_29 at hf
  rcases bl_if_at hf with hf | hf
  · rw [← Option.some.inj hf]
    exact qσ
  · obtain ⟨r2, σ3, h4, hf⟩ := bl_bd_at hf
    have qσ3 := bl_Fq_call qσ (fr_X10_laysChances σ v0 v3 v1 _ qσ.1 qσ.2.1 hv0 h4) (by decide)
    obtain ⟨r5, σ6, h7, hf⟩ := bl_bd_at hf
    have qσ6 := bl_Fq_call qσ3 (fr_X10_gainOf σ3 v0 v2 0 0 0 _ qσ3.1 qσ3.2.1 hv0.1 h7) (by decide)
    rcases bl_if_at hf with hf | hf
    · obtain ⟨x9, e10⟩ : ∃ z : Int32, z = v3 + 1 := ⟨_, rfl⟩
      have hf := bl_let_at e10 hf
      exact gk29 σ6 v0 v1 v2 x9 qσ6 hv0 hf
    · rw [← Option.some.inj hf]
      exact qσ6
theorem gl_X10_patience_29 {ho : Nat → Bool} {σ0 : bl_St} {out : Int32 × bl_St} (n : Nat) : ∀ (σ : bl_St) (v0 : Nat) (v1 : Int32) (v2 : Int32) (v3 : Int32), bl_Fq ho md_X10_patience σ0 σ → (bl_sh[v0]? = some (10, 28) ∧ ho v0 = true) → (bl_fx (fun _ _ _ _ _ => none) (b_X10_patience_29 ) n) σ v0 v1 v2 v3 = some out → bl_Fq ho md_X10_patience σ0 out.2 := by
  induction n with
  | zero =>
    intro σ v0 v1 v2 v3 qσ hv0 hf
    cases hf
  | succ n ih => exact gw_X10_patience_29  _ ih
set_option maxRecDepth 100000 in
theorem fr_X10_patience {ho : Nat → Bool} (σ : bl_St) (a0 : Nat) (a1 : Int32) (a2 : Int32) (o : Int32 × bl_St) (hw : bl_WT σ) (hh : bl_WH ho σ) (ha0 : bl_sh[a0]? = some (10, 28) ∧ ho a0 = true) (hf : f_X10_patience σ a0 a1 a2 = some o) : bl_Fq ho md_X10_patience σ o.2 := by
  obtain ⟨σ0, hz⟩ : ∃ z, z = σ := ⟨_, rfl⟩
  suffices hgo : bl_Fq ho md_X10_patience σ0 o.2 by rw [hz] at hgo; exact hgo
  have qσ : bl_Fq ho md_X10_patience σ0 σ := by rw [hz]; exact ⟨hw, hh, fun _ _ => ⟨rfl, rfl, rfl⟩⟩
  unfold f_X10_patience at hf
  obtain ⟨r11, σ12, h13, hf⟩ := bl_bd_at hf
  have qσ12 := bl_Fq_call qσ (fr_X10_isClass σ a0 a1 _ qσ.1 qσ.2.1 ha0.1 h13) (by decide)
  rcases bl_if_at hf with hf | hf
  · rw [← Option.some.inj hf]
    exact qσ12
  · obtain ⟨r15, σ16, h17, hf⟩ := bl_bd_at hf
    have qσ16 := bl_Fq_call qσ12 (fr_X10_isSort σ12 a0 a2 _ qσ12.1 qσ12.2.1 ha0.1 h17) (by decide)
    rcases bl_if_at hf with hf | hf
    · rw [← Option.some.inj hf]
      exact qσ16
    · obtain ⟨r19, σ20, h21, hf⟩ := bl_bd_at hf
      have qσ20 := bl_Fq_call qσ16 (fr_X10_lays σ16 a0 20 1 0 0 _ qσ16.1 qσ16.2.1 ha0 h21) (by decide)
      exact gl_X10_patience_29  bl_fu σ20 a0 a1 a2 1 qσ20 ha0 hf
def md_X10_worst : List (Nat × Nat) := [(10, 28), (21, 42), (21, 168), (23, 168)]
set_option maxRecDepth 100000 in
theorem fr_X10_worst {ho : Nat → Bool} (σ : bl_St) (a0 : Nat) (a1 : Int32) (a2 : Int32) (o : Int64 × bl_St) (hw : bl_WT σ) (hh : bl_WH ho σ) (ha0 : bl_sh[a0]? = some (10, 28) ∧ ho a0 = true) (hf : f_X10_worst σ a0 a1 a2 = some o) : bl_Fq ho md_X10_worst σ o.2 := by
  obtain ⟨σ0, hz⟩ : ∃ z, z = σ := ⟨_, rfl⟩
  suffices hgo : bl_Fq ho md_X10_worst σ0 o.2 by rw [hz] at hgo; exact hgo
  have qσ : bl_Fq ho md_X10_worst σ0 σ := by rw [hz]; exact ⟨hw, hh, fun _ _ => ⟨rfl, rfl, rfl⟩⟩
  unfold f_X10_worst at hf
  obtain ⟨r1, σ2, h3, hf⟩ := bl_bd_at hf
  have qσ2 := bl_Fq_call qσ (fr_X10_areYears σ a1 _ qσ.1 qσ.2.1  h3) (by decide)
  rcases bl_if_at hf with hf | hf
  · rw [← Option.some.inj hf]
    exact qσ2
  · obtain ⟨r5, σ6, h7, hf⟩ := bl_bd_at hf
    have qσ6 := bl_Fq_call qσ2 (fr_X10_isClass σ2 a0 a2 _ qσ2.1 qσ2.2.1 ha0.1 h7) (by decide)
    rcases bl_if_at hf with hf | hf
    · rw [← Option.some.inj hf]
      exact qσ6
    · obtain ⟨σ9, e10⟩ : ∃ z : bl_St, z = bl_pI σ6 a0 11 0 := ⟨_, rfl⟩
      have hf := bl_let_at e10 hf
      have qσ9 : bl_Fq ho md_X10_worst σ0 σ9 := by rw [e10]; exact bl_Fq_I qσ6 (bl_al_in ha0.1 (by decide) ha0.2)
      obtain ⟨σ11, e12⟩ : ∃ z : bl_St, z = bl_pI σ9 a0 13 1 := ⟨_, rfl⟩
      have hf := bl_let_at e12 hf
      have qσ11 : bl_Fq ho md_X10_worst σ0 σ11 := by rw [e12]; exact bl_Fq_I qσ9 (bl_al_in ha0.1 (by decide) ha0.2)
      have h13 := bl_Fq_g qσ11 ha0 (k := 1) rfl (by decide)
      obtain ⟨r14, σ15, h16, hf⟩ := bl_bd_at hf
      have qσ15 := bl_Fq_call qσ11 (fr_X10_laysYears σ11 a0 a1 0 (bl_I σ11 (bl_R σ11 a0 1) 2) 1 0 _ qσ11.1 qσ11.2.1 ha0 h16) (by decide)
      obtain ⟨σ17, e18⟩ : ∃ z : bl_St, z = bl_pI σ15 a0 13 0 := ⟨_, rfl⟩
      have hf := bl_let_at e18 hf
      have qσ17 : bl_Fq ho md_X10_worst σ0 σ17 := by rw [e18]; exact bl_Fq_I qσ15 (bl_al_in ha0.1 (by decide) ha0.2)
      obtain ⟨r19, σ20, h21, hf⟩ := bl_bd_at hf
      have qσ20 := bl_Fq_call qσ17 (fr_X10_costAt σ17 a0 a1 a2 _ qσ17.1 qσ17.2.1 ha0.1 h21) (by decide)
      rw [← Option.some.inj hf]
      exact qσ20
def md_X10_bare : List (Nat × Nat) := [(10, 28), (21, 42), (21, 168), (23, 168)]
set_option maxRecDepth 100000 in
theorem fr_X10_bare {ho : Nat → Bool} (σ : bl_St) (a0 : Nat) (a1 : Int32) (a2 : Int32) (o : Int64 × bl_St) (hw : bl_WT σ) (hh : bl_WH ho σ) (ha0 : bl_sh[a0]? = some (10, 28) ∧ ho a0 = true) (hf : f_X10_bare σ a0 a1 a2 = some o) : bl_Fq ho md_X10_bare σ o.2 := by
  obtain ⟨σ0, hz⟩ : ∃ z, z = σ := ⟨_, rfl⟩
  suffices hgo : bl_Fq ho md_X10_bare σ0 o.2 by rw [hz] at hgo; exact hgo
  have qσ : bl_Fq ho md_X10_bare σ0 σ := by rw [hz]; exact ⟨hw, hh, fun _ _ => ⟨rfl, rfl, rfl⟩⟩
  unfold f_X10_bare at hf
  obtain ⟨r1, σ2, h3, hf⟩ := bl_bd_at hf
  have qσ2 := bl_Fq_call qσ (fr_X10_areYears σ a1 _ qσ.1 qσ.2.1  h3) (by decide)
  rcases bl_if_at hf with hf | hf
  · rw [← Option.some.inj hf]
    exact qσ2
  · obtain ⟨r5, σ6, h7, hf⟩ := bl_bd_at hf
    have qσ6 := bl_Fq_call qσ2 (fr_X10_isClass σ2 a0 a2 _ qσ2.1 qσ2.2.1 ha0.1 h7) (by decide)
    rcases bl_if_at hf with hf | hf
    · rw [← Option.some.inj hf]
      exact qσ6
    · obtain ⟨r9, σ10, h11, hf⟩ := bl_bd_at hf
      have qσ10 := bl_Fq_call qσ6 (fr_X10_bareCost σ6 a0 a1 a2 _ qσ6.1 qσ6.2.1 ha0 h11) (by decide)
      rw [← Option.some.inj hf]
      exact qσ10
def md_X10_by : List (Nat × Nat) := [(10, 28), (21, 42), (21, 168), (23, 168)]
set_option maxRecDepth 100000 in
theorem gw_X10_by_27 {ho : Nat → Bool} {σ0 : bl_St} {out : Int64 × bl_St} : ∀ (σ : bl_St) (v0 : Nat) (v1 : Int32) (v2 : Int32) (v3 : Int32) (v4 : Int32) (s0 : Int64) (s1 : Int64) (s2 : Int64), bl_Fq ho md_X10_by σ0 σ → (bl_sh[v0]? = some (10, 28) ∧ ho v0 = true) → (b_X10_by_27 ) σ v0 v1 v2 v3 v4 s0 s1 s2 = some out → bl_Fq ho md_X10_by σ0 out.2 := by
  intro σ v0 v1 v2 v3 v4 s0 s1 s2 qσ hv0 hf
  unfold b_X10_by_27 at hf
  obtain ⟨r1, σ2, h3, hf⟩ := bl_bd_at hf
  have qσ2 := bl_Fq_call qσ (fr_X10_in σ s2 s1 s0 _ qσ.1 qσ.2.1  h3) (by decide)
  rcases bl_if_at hf with hf | hf
  · rw [← Option.some.inj hf]
    exact qσ2
  · obtain ⟨r5, σ6, h7, hf⟩ := bl_bd_at hf
    have qσ6 := bl_Fq_call qσ2 (fr_X10_areYears σ2 v3 _ qσ2.1 qσ2.2.1  h7) (by decide)
    rcases bl_if_at hf with hf | hf
    · rw [← Option.some.inj hf]
      exact qσ6
    · obtain ⟨r9, σ10, h11, hf⟩ := bl_bd_at hf
      have qσ10 := bl_Fq_call qσ6 (fr_X10_isClass σ6 v0 v4 _ qσ6.1 qσ6.2.1 hv0.1 h11) (by decide)
      rcases bl_if_at hf with hf | hf
      · rw [← Option.some.inj hf]
        exact qσ10
      · obtain ⟨r13, σ14, h15, hf⟩ := bl_bd_at hf
        have qσ14 := bl_Fq_call qσ10 (fr_X10_lays σ10 v0 v3 0 v1 v2 _ qσ10.1 qσ10.2.1 hv0 h15) (by decide)
        obtain ⟨r16, σ17, h18, hf⟩ := bl_bd_at hf
        have qσ17 := bl_Fq_call qσ14 (fr_X10_costAt σ14 v0 v3 v4 _ qσ14.1 qσ14.2.1 hv0.1 h18) (by decide)
        rw [← Option.some.inj hf]
        exact qσ17
set_option maxRecDepth 100000 in
theorem fr_X10_by {ho : Nat → Bool} (σ : bl_St) (a0 : Nat) (a1 : Int32) (a2 : Int32) (a3 : Int32) (a4 : Int32) (o : Int64 × bl_St) (hw : bl_WT σ) (hh : bl_WH ho σ) (ha0 : bl_sh[a0]? = some (10, 28) ∧ ho a0 = true) (hf : f_X10_by σ a0 a1 a2 a3 a4 = some o) : bl_Fq ho md_X10_by σ o.2 := by
  obtain ⟨σ0, hz⟩ : ∃ z, z = σ := ⟨_, rfl⟩
  suffices hgo : bl_Fq ho md_X10_by σ0 o.2 by rw [hz] at hgo; exact hgo
  have qσ : bl_Fq ho md_X10_by σ0 σ := by rw [hz]; exact ⟨hw, hh, fun _ _ => ⟨rfl, rfl, rfl⟩⟩
  unfold f_X10_by at hf
  obtain ⟨r19, σ20, h21, hf⟩ := bl_bd_at hf
  have qσ20 := bl_Fq_call qσ (fr_X10_in σ (Int32.toInt64 a1) 0 3 _ qσ.1 qσ.2.1  h21) (by decide)
  rcases bl_if_at hf with hf | hf
  · rw [← Option.some.inj hf]
    exact qσ20
  · rcases bl_if_at hf with hf | hf
    · exact gw_X10_by_27  σ20 a0 a1 a2 a3 a4 999 0 (Int32.toInt64 a2) qσ20 ha0 hf
    · exact gw_X10_by_27  σ20 a0 a1 a2 a3 a4 0 0 (Int32.toInt64 a2) qσ20 ha0 hf
def md_X10_bestLimit : List (Nat × Nat) := [(10, 28), (21, 42), (21, 168), (23, 168)]
set_option maxRecDepth 100000 in
theorem gw_X10_bestLimit_136 {ho : Nat → Bool} {σ0 : bl_St} {out : Int32 × bl_St} (k25 : bl_St → Nat → Int32 → Int32 → Int32 → Int64 → Int32 → Option (Int32 × bl_St)) (gk25 : ∀ (σ : bl_St) (v0 : Nat) (v1 : Int32) (v2 : Int32) (v3 : Int32) (v4 : Int64) (v6 : Int32), bl_Fq ho md_X10_bestLimit σ0 σ → (bl_sh[v0]? = some (10, 28) ∧ ho v0 = true) → k25 σ v0 v1 v2 v3 v4 v6 = some out → bl_Fq ho md_X10_bestLimit σ0 out.2) : ∀ (σ : bl_St) (v0 : Nat) (v1 : Int32) (v2 : Int32) (v3 : Int32) (v4 : Int64) (v6 : Int32), bl_Fq ho md_X10_bestLimit σ0 σ → (bl_sh[v0]? = some (10, 28) ∧ ho v0 = true) → (b_X10_bestLimit_136 k25) σ v0 v1 v2 v3 v4 v6 = some out → bl_Fq ho md_X10_bestLimit σ0 out.2 := by
  intro σ v0 v1 v2 v3 v4 v6 qσ hv0 hf
  unfold b_X10_bestLimit_136 at hf
  obtain ⟨x1, e2⟩ : ∃ z : Int32, z = v6 + 1 := ⟨_, rfl⟩
  have hf := bl_let_at e2 hf
  exact gk25 σ v0 v1 v2 v3 v4 x1 qσ hv0 hf
set_option maxRecDepth 100000 in
theorem gw_X10_bestLimit_125 {ho : Nat → Bool} {σ0 : bl_St} {out : Int32 × bl_St} (k25 : bl_St → Nat → Int32 → Int32 → Int32 → Int64 → Int32 → Option (Int32 × bl_St)) (gk25 : ∀ (σ : bl_St) (v0 : Nat) (v1 : Int32) (v2 : Int32) (v3 : Int32) (v4 : Int64) (v6 : Int32), bl_Fq ho md_X10_bestLimit σ0 σ → (bl_sh[v0]? = some (10, 28) ∧ ho v0 = true) → k25 σ v0 v1 v2 v3 v4 v6 = some out → bl_Fq ho md_X10_bestLimit σ0 out.2) : ∀ (σ : bl_St) (v0 : Nat) (v1 : Int32) (v2 : Int32) (v6 : Int32), bl_Fq ho md_X10_bestLimit σ0 σ → (bl_sh[v0]? = some (10, 28) ∧ ho v0 = true) → (b_X10_bestLimit_125 k25) σ v0 v1 v2 v6 = some out → bl_Fq ho md_X10_bestLimit σ0 out.2 := by
  intro σ v0 v1 v2 v6 qσ hv0 hf
  unfold b_X10_bestLimit_125 at hf
  obtain ⟨r3, σ4, h5, hf⟩ := bl_bd_at hf
  have qσ4 := bl_Fq_call qσ (fr_X10_costAt σ v0 v1 v2 _ qσ.1 qσ.2.1 hv0.1 h5) (by decide)
  exact gw_X10_bestLimit_136 k25 gk25 σ4 v0 v1 v2 v6 r3 v6 qσ4 hv0 hf
set_option maxRecDepth 100000 in
theorem gw_X10_bestLimit_80 {ho : Nat → Bool} {σ0 : bl_St} {out : Int32 × bl_St} (k48 : bl_St → Nat → Int32 → Int32 → Int32 → Int64 → Int32 → Int32 → Int32 → Option (Int32 × bl_St)) (gk48 : ∀ (σ : bl_St) (v0 : Nat) (v1 : Int32) (v2 : Int32) (v3 : Int32) (v4 : Int64) (v6 : Int32) (v7 : Int32) (v8 : Int32), bl_Fq ho md_X10_bestLimit σ0 σ → (bl_sh[v0]? = some (10, 28) ∧ ho v0 = true) → k48 σ v0 v1 v2 v3 v4 v6 v7 v8 = some out → bl_Fq ho md_X10_bestLimit σ0 out.2) : ∀ (σ : bl_St) (v0 : Nat) (v1 : Int32) (v2 : Int32) (v3 : Int32) (v4 : Int64) (v6 : Int32) (v8 : Int32) (s0 : Int32), bl_Fq ho md_X10_bestLimit σ0 σ → (bl_sh[v0]? = some (10, 28) ∧ ho v0 = true) → (b_X10_bestLimit_80 k48) σ v0 v1 v2 v3 v4 v6 v8 s0 = some out → bl_Fq ho md_X10_bestLimit σ0 out.2 := by
  intro σ v0 v1 v2 v3 v4 v6 v8 s0 qσ hv0 hf
  unfold b_X10_bestLimit_80 at hf
  obtain ⟨x6, e7⟩ : ∃ z : Int32, z = v8 + 1 := ⟨_, rfl⟩
  have hf := bl_let_at e7 hf
  exact gk48 σ v0 v1 v2 v3 v4 v6 s0 x6 qσ hv0 hf
set_option maxRecDepth 100000 in
theorem gw_X10_bestLimit_75 {ho : Nat → Bool} {σ0 : bl_St} {out : Int32 × bl_St} (k48 : bl_St → Nat → Int32 → Int32 → Int32 → Int64 → Int32 → Int32 → Int32 → Option (Int32 × bl_St)) (gk48 : ∀ (σ : bl_St) (v0 : Nat) (v1 : Int32) (v2 : Int32) (v3 : Int32) (v4 : Int64) (v6 : Int32) (v7 : Int32) (v8 : Int32), bl_Fq ho md_X10_bestLimit σ0 σ → (bl_sh[v0]? = some (10, 28) ∧ ho v0 = true) → k48 σ v0 v1 v2 v3 v4 v6 v7 v8 = some out → bl_Fq ho md_X10_bestLimit σ0 out.2) : ∀ (σ : bl_St) (v0 : Nat) (v1 : Int32) (v2 : Int32) (v3 : Int32) (v4 : Int64) (v6 : Int32) (v8 : Int32), bl_Fq ho md_X10_bestLimit σ0 σ → (bl_sh[v0]? = some (10, 28) ∧ ho v0 = true) → (b_X10_bestLimit_75 k48) σ v0 v1 v2 v3 v4 v6 v8 = some out → bl_Fq ho md_X10_bestLimit σ0 out.2 := by
  intro σ v0 v1 v2 v3 v4 v6 v8 qσ hv0 hf
  unfold b_X10_bestLimit_75 at hf
  exact gw_X10_bestLimit_80 k48 gk48 σ v0 v1 v2 v3 v4 v6 v8 1 qσ hv0 hf
set_option maxRecDepth 100000 in
theorem gw_X10_bestLimit_48 {ho : Nat → Bool} {σ0 : bl_St} {out : Int32 × bl_St} (k25 : bl_St → Nat → Int32 → Int32 → Int32 → Int64 → Int32 → Option (Int32 × bl_St)) (gk25 : ∀ (σ : bl_St) (v0 : Nat) (v1 : Int32) (v2 : Int32) (v3 : Int32) (v4 : Int64) (v6 : Int32), bl_Fq ho md_X10_bestLimit σ0 σ → (bl_sh[v0]? = some (10, 28) ∧ ho v0 = true) → k25 σ v0 v1 v2 v3 v4 v6 = some out → bl_Fq ho md_X10_bestLimit σ0 out.2) (k48 : bl_St → Nat → Int32 → Int32 → Int32 → Int64 → Int32 → Int32 → Int32 → Option (Int32 × bl_St)) (gk48 : ∀ (σ : bl_St) (v0 : Nat) (v1 : Int32) (v2 : Int32) (v3 : Int32) (v4 : Int64) (v6 : Int32) (v7 : Int32) (v8 : Int32), bl_Fq ho md_X10_bestLimit σ0 σ → (bl_sh[v0]? = some (10, 28) ∧ ho v0 = true) → k48 σ v0 v1 v2 v3 v4 v6 v7 v8 = some out → bl_Fq ho md_X10_bestLimit σ0 out.2) : ∀ (σ : bl_St) (v0 : Nat) (v1 : Int32) (v2 : Int32) (v3 : Int32) (v4 : Int64) (v6 : Int32) (v7 : Int32) (v8 : Int32), bl_Fq ho md_X10_bestLimit σ0 σ → (bl_sh[v0]? = some (10, 28) ∧ ho v0 = true) → (b_X10_bestLimit_48 k25 k48) σ v0 v1 v2 v3 v4 v6 v7 v8 = some out → bl_Fq ho md_X10_bestLimit σ0 out.2 := by
  intro σ v0 v1 v2 v3 v4 v6 v7 v8 qσ hv0 hf
  unfold b_X10_bestLimit_48 at hf
  have h8 := bl_Fq_g qσ hv0 (k := 1) rfl (by decide)
  rcases bl_if_at hf with hf | hf
  · rcases bl_if_at hf with hf | hf
    · exact gw_X10_bestLimit_136 k25 gk25 σ v0 v1 v2 v3 v4 v6 qσ hv0 hf
    · obtain ⟨r11, σ12, h13, hf⟩ := bl_bd_at hf
      have qσ12 := bl_Fq_call qσ (fr_X10_lays σ v0 v1 0 3 v6 _ qσ.1 qσ.2.1 hv0 h13) (by decide)
      rcases bl_if_at hf with hf | hf
      · exact gw_X10_bestLimit_125 k25 gk25 σ12 v0 v1 v2 v6 qσ12 hv0 hf
      · obtain ⟨r15, σ16, h17, hf⟩ := bl_bd_at hf
        have qσ16 := bl_Fq_call qσ12 (fr_X10_costAt σ12 v0 v1 v2 _ qσ12.1 qσ12.2.1 hv0.1 h17) (by decide)
        rcases bl_if_at hf with hf | hf
        · exact gw_X10_bestLimit_125 k25 gk25 σ16 v0 v1 v2 v6 qσ16 hv0 hf
        · exact gw_X10_bestLimit_136 k25 gk25 σ16 v0 v1 v2 v3 v4 v6 qσ16 hv0 hf
  · rcases bl_if_at hf with hf | hf
    · obtain ⟨r20, σ21, h22, hf⟩ := bl_bd_at hf
      have qσ21 := bl_Fq_call qσ (fr_X10_size σ v0 v8 _ qσ.1 qσ.2.1 hv0.1 h22) (by decide)
      rcases bl_if_at hf with hf | hf
      · exact gw_X10_bestLimit_75 k48 gk48 σ21 v0 v1 v2 v3 v4 v6 v8 qσ21 hv0 hf
      · exact gw_X10_bestLimit_80 k48 gk48 σ21 v0 v1 v2 v3 v4 v6 v8 0 qσ21 hv0 hf
    · exact gw_X10_bestLimit_75 k48 gk48 σ v0 v1 v2 v3 v4 v6 v8 qσ hv0 hf
theorem gl_X10_bestLimit_48 {ho : Nat → Bool} {σ0 : bl_St} {out : Int32 × bl_St} (k25 : bl_St → Nat → Int32 → Int32 → Int32 → Int64 → Int32 → Option (Int32 × bl_St)) (gk25 : ∀ (σ : bl_St) (v0 : Nat) (v1 : Int32) (v2 : Int32) (v3 : Int32) (v4 : Int64) (v6 : Int32), bl_Fq ho md_X10_bestLimit σ0 σ → (bl_sh[v0]? = some (10, 28) ∧ ho v0 = true) → k25 σ v0 v1 v2 v3 v4 v6 = some out → bl_Fq ho md_X10_bestLimit σ0 out.2) (n : Nat) : ∀ (σ : bl_St) (v0 : Nat) (v1 : Int32) (v2 : Int32) (v3 : Int32) (v4 : Int64) (v6 : Int32) (v7 : Int32) (v8 : Int32), bl_Fq ho md_X10_bestLimit σ0 σ → (bl_sh[v0]? = some (10, 28) ∧ ho v0 = true) → (bl_fx (fun _ _ _ _ _ _ _ _ _ => none) (b_X10_bestLimit_48 k25) n) σ v0 v1 v2 v3 v4 v6 v7 v8 = some out → bl_Fq ho md_X10_bestLimit σ0 out.2 := by
  induction n with
  | zero =>
    intro σ v0 v1 v2 v3 v4 v6 v7 v8 qσ hv0 hf
    cases hf
  | succ n ih => exact gw_X10_bestLimit_48 k25 gk25 _ ih
set_option maxRecDepth 100000 in
theorem gw_X10_bestLimit_43 {ho : Nat → Bool} {σ0 : bl_St} {out : Int32 × bl_St} (k25 : bl_St → Nat → Int32 → Int32 → Int32 → Int64 → Int32 → Option (Int32 × bl_St)) (gk25 : ∀ (σ : bl_St) (v0 : Nat) (v1 : Int32) (v2 : Int32) (v3 : Int32) (v4 : Int64) (v6 : Int32), bl_Fq ho md_X10_bestLimit σ0 σ → (bl_sh[v0]? = some (10, 28) ∧ ho v0 = true) → k25 σ v0 v1 v2 v3 v4 v6 = some out → bl_Fq ho md_X10_bestLimit σ0 out.2) : ∀ (σ : bl_St) (v0 : Nat) (v1 : Int32) (v2 : Int32) (v3 : Int32) (v4 : Int64) (v6 : Int32) (s0 : Int32), bl_Fq ho md_X10_bestLimit σ0 σ → (bl_sh[v0]? = some (10, 28) ∧ ho v0 = true) → (b_X10_bestLimit_43 k25) σ v0 v1 v2 v3 v4 v6 s0 = some out → bl_Fq ho md_X10_bestLimit σ0 out.2 := by
  intro σ v0 v1 v2 v3 v4 v6 s0 qσ hv0 hf
  unfold b_X10_bestLimit_43 at hf
  exact gl_X10_bestLimit_48 k25 gk25 bl_fu σ v0 v1 v2 v3 v4 v6 s0 0 qσ hv0 hf
set_option maxRecDepth 100000 in
theorem gw_X10_bestLimit_25 {ho : Nat → Bool} {σ0 : bl_St} {out : Int32 × bl_St} (k25 : bl_St → Nat → Int32 → Int32 → Int32 → Int64 → Int32 → Option (Int32 × bl_St)) (gk25 : ∀ (σ : bl_St) (v0 : Nat) (v1 : Int32) (v2 : Int32) (v3 : Int32) (v4 : Int64) (v6 : Int32), bl_Fq ho md_X10_bestLimit σ0 σ → (bl_sh[v0]? = some (10, 28) ∧ ho v0 = true) → k25 σ v0 v1 v2 v3 v4 v6 = some out → bl_Fq ho md_X10_bestLimit σ0 out.2) : ∀ (σ : bl_St) (v0 : Nat) (v1 : Int32) (v2 : Int32) (v3 : Int32) (v4 : Int64) (v6 : Int32), bl_Fq ho md_X10_bestLimit σ0 σ → (bl_sh[v0]? = some (10, 28) ∧ ho v0 = true) → (b_X10_bestLimit_25 k25) σ v0 v1 v2 v3 v4 v6 = some out → bl_Fq ho md_X10_bestLimit σ0 out.2 := by
  intro σ v0 v1 v2 v3 v4 v6 qσ hv0 hf
  unfold b_X10_bestLimit_25 at hf
  rcases bl_if_at hf with hf | hf
  · rw [← Option.some.inj hf]
    exact qσ
  · rcases bl_if_at hf with hf | hf
    · exact gw_X10_bestLimit_43 k25 gk25 σ v0 v1 v2 v3 v4 v6 1 qσ hv0 hf
    · exact gw_X10_bestLimit_43 k25 gk25 σ v0 v1 v2 v3 v4 v6 0 qσ hv0 hf
theorem gl_X10_bestLimit_25 {ho : Nat → Bool} {σ0 : bl_St} {out : Int32 × bl_St} (n : Nat) : ∀ (σ : bl_St) (v0 : Nat) (v1 : Int32) (v2 : Int32) (v3 : Int32) (v4 : Int64) (v6 : Int32), bl_Fq ho md_X10_bestLimit σ0 σ → (bl_sh[v0]? = some (10, 28) ∧ ho v0 = true) → (bl_fx (fun _ _ _ _ _ _ _ => none) (b_X10_bestLimit_25 ) n) σ v0 v1 v2 v3 v4 v6 = some out → bl_Fq ho md_X10_bestLimit σ0 out.2 := by
  induction n with
  | zero =>
    intro σ v0 v1 v2 v3 v4 v6 qσ hv0 hf
    cases hf
  | succ n ih => exact gw_X10_bestLimit_25  _ ih
set_option maxRecDepth 100000 in
theorem fr_X10_bestLimit {ho : Nat → Bool} (σ : bl_St) (a0 : Nat) (a1 : Int32) (a2 : Int32) (o : Int32 × bl_St) (hw : bl_WT σ) (hh : bl_WH ho σ) (ha0 : bl_sh[a0]? = some (10, 28) ∧ ho a0 = true) (hf : f_X10_bestLimit σ a0 a1 a2 = some o) : bl_Fq ho md_X10_bestLimit σ o.2 := by
  obtain ⟨σ0, hz⟩ : ∃ z, z = σ := ⟨_, rfl⟩
  suffices hgo : bl_Fq ho md_X10_bestLimit σ0 o.2 by rw [hz] at hgo; exact hgo
  have qσ : bl_Fq ho md_X10_bestLimit σ0 σ := by rw [hz]; exact ⟨hw, hh, fun _ _ => ⟨rfl, rfl, rfl⟩⟩
  unfold f_X10_bestLimit at hf
  obtain ⟨r26, σ27, h28, hf⟩ := bl_bd_at hf
  have qσ27 := bl_Fq_call qσ (fr_X10_areYears σ a1 _ qσ.1 qσ.2.1  h28) (by decide)
  rcases bl_if_at hf with hf | hf
  · rw [← Option.some.inj hf]
    exact qσ27
  · obtain ⟨r30, σ31, h32, hf⟩ := bl_bd_at hf
    have qσ31 := bl_Fq_call qσ27 (fr_X10_isClass σ27 a0 a2 _ qσ27.1 qσ27.2.1 ha0.1 h32) (by decide)
    rcases bl_if_at hf with hf | hf
    · rw [← Option.some.inj hf]
      exact qσ31
    · exact gl_X10_bestLimit_25  bl_fu σ31 a0 a1 a2 (-1) 0 0 qσ31 ha0 hf
def md_X10_worth : List (Nat × Nat) := [(10, 28), (21, 42), (21, 168), (23, 168)]
set_option maxRecDepth 100000 in
theorem fr_X10_worth {ho : Nat → Bool} (σ : bl_St) (a0 : Nat) (a1 : Int32) (a2 : Int32) (a3 : Int32) (o : Int64 × bl_St) (hw : bl_WT σ) (hh : bl_WH ho σ) (ha0 : bl_sh[a0]? = some (10, 28) ∧ ho a0 = true) (hf : f_X10_worth σ a0 a1 a2 a3 = some o) : bl_Fq ho md_X10_worth σ o.2 := by
  obtain ⟨σ0, hz⟩ : ∃ z, z = σ := ⟨_, rfl⟩
  suffices hgo : bl_Fq ho md_X10_worth σ0 o.2 by rw [hz] at hgo; exact hgo
  have qσ : bl_Fq ho md_X10_worth σ0 σ := by rw [hz]; exact ⟨hw, hh, fun _ _ => ⟨rfl, rfl, rfl⟩⟩
  unfold f_X10_worth at hf
  obtain ⟨r1, σ2, h3, hf⟩ := bl_bd_at hf
  have qσ2 := bl_Fq_call qσ (fr_X10_areYears σ a1 _ qσ.1 qσ.2.1  h3) (by decide)
  rcases bl_if_at hf with hf | hf
  · rw [← Option.some.inj hf]
    exact qσ2
  · obtain ⟨r5, σ6, h7, hf⟩ := bl_bd_at hf
    have qσ6 := bl_Fq_call qσ2 (fr_X10_isClass σ2 a0 a2 _ qσ2.1 qσ2.2.1 ha0.1 h7) (by decide)
    rcases bl_if_at hf with hf | hf
    · rw [← Option.some.inj hf]
      exact qσ6
    · obtain ⟨r9, σ10, h11, hf⟩ := bl_bd_at hf
      have qσ10 := bl_Fq_call qσ6 (fr_X10_isClass σ6 a0 a3 _ qσ6.1 qσ6.2.1 ha0.1 h11) (by decide)
      rcases bl_if_at hf with hf | hf
      · rw [← Option.some.inj hf]
        exact qσ10
      · obtain ⟨r13, σ14, h15, hf⟩ := bl_bd_at hf
        have qσ14 := bl_Fq_call qσ10 (fr_X10_lays σ10 a0 a1 1 0 0 _ qσ10.1 qσ10.2.1 ha0 h15) (by decide)
        obtain ⟨r16, σ17, h18, hf⟩ := bl_bd_at hf
        have qσ17 := bl_Fq_call qσ14 (fr_X10_costAt σ14 a0 a1 a3 _ qσ14.1 qσ14.2.1 ha0.1 h18) (by decide)
        obtain ⟨r19, σ20, h21, hf⟩ := bl_bd_at hf
        have qσ20 := bl_Fq_call qσ17 (fr_X10_costAt σ17 a0 a1 a2 _ qσ17.1 qσ17.2.1 ha0.1 h21) (by decide)
        rw [← Option.some.inj hf]
        exact qσ20
def md_X10_cheapest : List (Nat × Nat) := [(10, 28), (21, 42), (21, 168), (23, 168)]
set_option maxRecDepth 100000 in
theorem gw_X10_cheapest_58 {ho : Nat → Bool} {σ0 : bl_St} {out : Int32 × bl_St} (k30 : bl_St → Nat → Int32 → Int32 → Int32 → Option (Int32 × bl_St)) (gk30 : ∀ (σ : bl_St) (v0 : Nat) (v1 : Int32) (v2 : Int32) (v3 : Int32), bl_Fq ho md_X10_cheapest σ0 σ → (bl_sh[v0]? = some (10, 28) ∧ ho v0 = true) → k30 σ v0 v1 v2 v3 = some out → bl_Fq ho md_X10_cheapest σ0 out.2) : ∀ (σ : bl_St) (v0 : Nat) (v1 : Int32) (v2 : Int32) (v3 : Int32), bl_Fq ho md_X10_cheapest σ0 σ → (bl_sh[v0]? = some (10, 28) ∧ ho v0 = true) → (b_X10_cheapest_58 k30) σ v0 v1 v2 v3 = some out → bl_Fq ho md_X10_cheapest σ0 out.2 := by
  intro σ v0 v1 v2 v3 qσ hv0 hf
  unfold b_X10_cheapest_58 at hf
  obtain ⟨x1, e2⟩ : ∃ z : Int32, z = v3 + 1 := ⟨_, rfl⟩
  have hf := bl_let_at e2 hf
  exact gk30 σ v0 v1 v2 x1 qσ hv0 hf
set_option maxRecDepth 100000 in
theorem gw_X10_cheapest_30 {ho : Nat → Bool} {σ0 : bl_St} {out : Int32 × bl_St} (k30 : bl_St → Nat → Int32 → Int32 → Int32 → Option (Int32 × bl_St)) (gk30 : ∀ (σ : bl_St) (v0 : Nat) (v1 : Int32) (v2 : Int32) (v3 : Int32), bl_Fq ho md_X10_cheapest σ0 σ → (bl_sh[v0]? = some (10, 28) ∧ ho v0 = true) → k30 σ v0 v1 v2 v3 = some out → bl_Fq ho md_X10_cheapest σ0 out.2) : ∀ (σ : bl_St) (v0 : Nat) (v1 : Int32) (v2 : Int32) (v3 : Int32), bl_Fq ho md_X10_cheapest σ0 σ → (bl_sh[v0]? = some (10, 28) ∧ ho v0 = true) → (b_X10_cheapest_30 k30) σ v0 v1 v2 v3 = some out → bl_Fq ho md_X10_cheapest σ0 out.2 := by
  intro σ v0 v1 v2 v3 qσ hv0 hf
  unfold b_X10_cheapest_30 at hf
  have h3 := bl_Fq_g qσ hv0 (k := 1) rfl (by decide)
  rcases bl_if_at hf with hf | hf
  · rw [← Option.some.inj hf]
    exact qσ
  · obtain ⟨r5, σ6, h7, hf⟩ := bl_bd_at hf
    have qσ6 := bl_Fq_call qσ (fr_X10_costAt σ v0 v1 v3 _ qσ.1 qσ.2.1 hv0.1 h7) (by decide)
    obtain ⟨r8, σ9, h10, hf⟩ := bl_bd_at hf
    have qσ9 := bl_Fq_call qσ6 (fr_X10_costAt σ6 v0 v1 v2 _ qσ6.1 qσ6.2.1 hv0.1 h10) (by decide)
    rcases bl_if_at hf with hf | hf
    · exact gw_X10_cheapest_58 k30 gk30 σ9 v0 v1 v2 v3 qσ9 hv0 hf
    · exact gw_X10_cheapest_58 k30 gk30 σ9 v0 v1 v3 v3 qσ9 hv0 hf
theorem gl_X10_cheapest_30 {ho : Nat → Bool} {σ0 : bl_St} {out : Int32 × bl_St} (n : Nat) : ∀ (σ : bl_St) (v0 : Nat) (v1 : Int32) (v2 : Int32) (v3 : Int32), bl_Fq ho md_X10_cheapest σ0 σ → (bl_sh[v0]? = some (10, 28) ∧ ho v0 = true) → (bl_fx (fun _ _ _ _ _ => none) (b_X10_cheapest_30 ) n) σ v0 v1 v2 v3 = some out → bl_Fq ho md_X10_cheapest σ0 out.2 := by
  induction n with
  | zero =>
    intro σ v0 v1 v2 v3 qσ hv0 hf
    cases hf
  | succ n ih => exact gw_X10_cheapest_30  _ ih
set_option maxRecDepth 100000 in
theorem fr_X10_cheapest {ho : Nat → Bool} (σ : bl_St) (a0 : Nat) (a1 : Int32) (o : Int32 × bl_St) (hw : bl_WT σ) (hh : bl_WH ho σ) (ha0 : bl_sh[a0]? = some (10, 28) ∧ ho a0 = true) (hf : f_X10_cheapest σ a0 a1 = some o) : bl_Fq ho md_X10_cheapest σ o.2 := by
  obtain ⟨σ0, hz⟩ : ∃ z, z = σ := ⟨_, rfl⟩
  suffices hgo : bl_Fq ho md_X10_cheapest σ0 o.2 by rw [hz] at hgo; exact hgo
  have qσ : bl_Fq ho md_X10_cheapest σ0 σ := by rw [hz]; exact ⟨hw, hh, fun _ _ => ⟨rfl, rfl, rfl⟩⟩
  unfold f_X10_cheapest at hf
  obtain ⟨r12, σ13, h14, hf⟩ := bl_bd_at hf
  have qσ13 := bl_Fq_call qσ (fr_X10_areYears σ a1 _ qσ.1 qσ.2.1  h14) (by decide)
  rcases bl_if_at hf with hf | hf
  · rw [← Option.some.inj hf]
    exact qσ13
  · have h16 := bl_Fq_g qσ13 ha0 (k := 1) rfl (by decide)
    rcases bl_if_at hf with hf | hf
    · rw [← Option.some.inj hf]
      exact qσ13
    · obtain ⟨r18, σ19, h20, hf⟩ := bl_bd_at hf
      have qσ19 := bl_Fq_call qσ13 (fr_X10_lays σ13 a0 a1 1 0 0 _ qσ13.1 qσ13.2.1 ha0 h20) (by decide)
      exact gl_X10_cheapest_30  bl_fu σ19 a0 a1 0 1 qσ19 ha0 hf
def md_X10_reach : List (Nat × Nat) := []
set_option maxRecDepth 100000 in
theorem gw_X10_reach_76 {ho : Nat → Bool} {σ0 : bl_St} {out : Int32 × bl_St} (k25 : bl_St → Nat → Int32 → Int32 → Int32 → Option (Int32 × bl_St)) (gk25 : ∀ (σ : bl_St) (v0 : Nat) (v2 : Int32) (v3 : Int32) (v4 : Int32), bl_Fq ho md_X10_reach σ0 σ → (bl_sh[v0]? = some (10, 28) ∧ True) → k25 σ v0 v2 v3 v4 = some out → bl_Fq ho md_X10_reach σ0 out.2) : ∀ (σ : bl_St) (v0 : Nat) (v2 : Int32) (v3 : Int32) (v4 : Int32), bl_Fq ho md_X10_reach σ0 σ → (bl_sh[v0]? = some (10, 28) ∧ True) → (b_X10_reach_76 k25) σ v0 v2 v3 v4 = some out → bl_Fq ho md_X10_reach σ0 out.2 := by
  intro σ v0 v2 v3 v4 qσ hv0 hf
  unfold b_X10_reach_76 at hf
  obtain ⟨x1, e2⟩ : ∃ z : Int32, z = v4 + 1 := ⟨_, rfl⟩
  have hf := bl_let_at e2 hf
  exact gk25 σ v0 v2 v3 x1 qσ hv0 hf
set_option maxRecDepth 100000 in
theorem gw_X10_reach_51 {ho : Nat → Bool} {σ0 : bl_St} {out : Int32 × bl_St} (k25 : bl_St → Nat → Int32 → Int32 → Int32 → Option (Int32 × bl_St)) (gk25 : ∀ (σ : bl_St) (v0 : Nat) (v2 : Int32) (v3 : Int32) (v4 : Int32), bl_Fq ho md_X10_reach σ0 σ → (bl_sh[v0]? = some (10, 28) ∧ True) → k25 σ v0 v2 v3 v4 = some out → bl_Fq ho md_X10_reach σ0 out.2) (k51 : bl_St → Nat → Int32 → Int32 → Int32 → Int32 → Option (Int32 × bl_St)) (gk51 : ∀ (σ : bl_St) (v0 : Nat) (v2 : Int32) (v3 : Int32) (v4 : Int32) (v5 : Int32), bl_Fq ho md_X10_reach σ0 σ → (bl_sh[v0]? = some (10, 28) ∧ True) → k51 σ v0 v2 v3 v4 v5 = some out → bl_Fq ho md_X10_reach σ0 out.2) : ∀ (σ : bl_St) (v0 : Nat) (v2 : Int32) (v3 : Int32) (v4 : Int32) (v5 : Int32), bl_Fq ho md_X10_reach σ0 σ → (bl_sh[v0]? = some (10, 28) ∧ True) → (b_X10_reach_51 k25 k51) σ v0 v2 v3 v4 v5 = some out → bl_Fq ho md_X10_reach σ0 out.2 := by
  intro σ v0 v2 v3 v4 v5 qσ hv0 hf
  unfold b_X10_reach_51 at hf
  rcases bl_if_at hf with hf | hf
  · exact gw_X10_reach_76 k25 gk25 σ v0 v2 v3 v4 qσ hv0 hf
  · obtain ⟨r4, σ5, h6, hf⟩ := bl_bd_at hf
    have qσ5 := bl_Fq_call qσ (fr_X10_behind σ v0 v4 v5 _ qσ.1 qσ.2.1 hv0.1 h6) (by decide)
    obtain ⟨x7, e8⟩ : ∃ z, z = (v2 ||| (1 <<< (r4 &&& 31))) := ⟨_, rfl⟩
    have hf := bl_let_at e8 hf
    obtain ⟨x9, e10⟩ : ∃ z : Int32, z = v5 + 1 := ⟨_, rfl⟩
    have hf := bl_let_at e10 hf
    exact gk51 σ5 v0 x7 v3 v4 x9 qσ5 hv0 hf
theorem gl_X10_reach_51 {ho : Nat → Bool} {σ0 : bl_St} {out : Int32 × bl_St} (k25 : bl_St → Nat → Int32 → Int32 → Int32 → Option (Int32 × bl_St)) (gk25 : ∀ (σ : bl_St) (v0 : Nat) (v2 : Int32) (v3 : Int32) (v4 : Int32), bl_Fq ho md_X10_reach σ0 σ → (bl_sh[v0]? = some (10, 28) ∧ True) → k25 σ v0 v2 v3 v4 = some out → bl_Fq ho md_X10_reach σ0 out.2) (n : Nat) : ∀ (σ : bl_St) (v0 : Nat) (v2 : Int32) (v3 : Int32) (v4 : Int32) (v5 : Int32), bl_Fq ho md_X10_reach σ0 σ → (bl_sh[v0]? = some (10, 28) ∧ True) → (bl_fx (fun _ _ _ _ _ _ => none) (b_X10_reach_51 k25) n) σ v0 v2 v3 v4 v5 = some out → bl_Fq ho md_X10_reach σ0 out.2 := by
  induction n with
  | zero =>
    intro σ v0 v2 v3 v4 v5 qσ hv0 hf
    cases hf
  | succ n ih => exact gw_X10_reach_51 k25 gk25 _ ih
set_option maxRecDepth 100000 in
theorem gw_X10_reach_25 {ho : Nat → Bool} {σ0 : bl_St} {out : Int32 × bl_St} (k16 : bl_St → Nat → Int32 → Int32 → Option (Int32 × bl_St)) (gk16 : ∀ (σ : bl_St) (v0 : Nat) (v2 : Int32) (v3 : Int32), bl_Fq ho md_X10_reach σ0 σ → (bl_sh[v0]? = some (10, 28) ∧ True) → k16 σ v0 v2 v3 = some out → bl_Fq ho md_X10_reach σ0 out.2) (k25 : bl_St → Nat → Int32 → Int32 → Int32 → Option (Int32 × bl_St)) (gk25 : ∀ (σ : bl_St) (v0 : Nat) (v2 : Int32) (v3 : Int32) (v4 : Int32), bl_Fq ho md_X10_reach σ0 σ → (bl_sh[v0]? = some (10, 28) ∧ True) → k25 σ v0 v2 v3 v4 = some out → bl_Fq ho md_X10_reach σ0 out.2) : ∀ (σ : bl_St) (v0 : Nat) (v2 : Int32) (v3 : Int32) (v4 : Int32), bl_Fq ho md_X10_reach σ0 σ → (bl_sh[v0]? = some (10, 28) ∧ True) → (b_X10_reach_25 k16 k25) σ v0 v2 v3 v4 = some out → bl_Fq ho md_X10_reach σ0 out.2 := by
  intro σ v0 v2 v3 v4 qσ hv0 hf
  unfold b_X10_reach_25 at hf
  have h11 := bl_Fq_gn qσ hv0 (k := 1) rfl
  rcases bl_if_at hf with hf | hf
  · obtain ⟨x13, e14⟩ : ∃ z : Int32, z = v3 + 1 := ⟨_, rfl⟩
    have hf := bl_let_at e14 hf
    exact gk16 σ v0 v2 x13 qσ hv0 hf
  · rcases bl_if_at hf with hf | hf
    · exact gw_X10_reach_76 k25 gk25 σ v0 v2 v3 v4 qσ hv0 hf
    · exact gl_X10_reach_51 k25 gk25 bl_fu σ v0 v2 v3 v4 0 qσ hv0 hf
theorem gl_X10_reach_25 {ho : Nat → Bool} {σ0 : bl_St} {out : Int32 × bl_St} (k16 : bl_St → Nat → Int32 → Int32 → Option (Int32 × bl_St)) (gk16 : ∀ (σ : bl_St) (v0 : Nat) (v2 : Int32) (v3 : Int32), bl_Fq ho md_X10_reach σ0 σ → (bl_sh[v0]? = some (10, 28) ∧ True) → k16 σ v0 v2 v3 = some out → bl_Fq ho md_X10_reach σ0 out.2) (n : Nat) : ∀ (σ : bl_St) (v0 : Nat) (v2 : Int32) (v3 : Int32) (v4 : Int32), bl_Fq ho md_X10_reach σ0 σ → (bl_sh[v0]? = some (10, 28) ∧ True) → (bl_fx (fun _ _ _ _ _ => none) (b_X10_reach_25 k16) n) σ v0 v2 v3 v4 = some out → bl_Fq ho md_X10_reach σ0 out.2 := by
  induction n with
  | zero =>
    intro σ v0 v2 v3 v4 qσ hv0 hf
    cases hf
  | succ n ih => exact gw_X10_reach_25 k16 gk16 _ ih
set_option maxRecDepth 100000 in
theorem gw_X10_reach_16 {ho : Nat → Bool} {σ0 : bl_St} {out : Int32 × bl_St} (k16 : bl_St → Nat → Int32 → Int32 → Option (Int32 × bl_St)) (gk16 : ∀ (σ : bl_St) (v0 : Nat) (v2 : Int32) (v3 : Int32), bl_Fq ho md_X10_reach σ0 σ → (bl_sh[v0]? = some (10, 28) ∧ True) → k16 σ v0 v2 v3 = some out → bl_Fq ho md_X10_reach σ0 out.2) : ∀ (σ : bl_St) (v0 : Nat) (v2 : Int32) (v3 : Int32), bl_Fq ho md_X10_reach σ0 σ → (bl_sh[v0]? = some (10, 28) ∧ True) → (b_X10_reach_16 k16) σ v0 v2 v3 = some out → bl_Fq ho md_X10_reach σ0 out.2 := by
  intro σ v0 v2 v3 qσ hv0 hf
  unfold b_X10_reach_16 at hf
  rcases bl_if_at hf with hf | hf
  · rw [← Option.some.inj hf]
    exact qσ
  · exact gl_X10_reach_25 k16 gk16 bl_fu σ v0 v2 v3 0 qσ hv0 hf
theorem gl_X10_reach_16 {ho : Nat → Bool} {σ0 : bl_St} {out : Int32 × bl_St} (n : Nat) : ∀ (σ : bl_St) (v0 : Nat) (v2 : Int32) (v3 : Int32), bl_Fq ho md_X10_reach σ0 σ → (bl_sh[v0]? = some (10, 28) ∧ True) → (bl_fx (fun _ _ _ _ => none) (b_X10_reach_16 ) n) σ v0 v2 v3 = some out → bl_Fq ho md_X10_reach σ0 out.2 := by
  induction n with
  | zero =>
    intro σ v0 v2 v3 qσ hv0 hf
    cases hf
  | succ n ih => exact gw_X10_reach_16  _ ih
set_option maxRecDepth 100000 in
theorem fr_X10_reach {ho : Nat → Bool} (σ : bl_St) (a0 : Nat) (a1 : Int32) (o : Int32 × bl_St) (hw : bl_WT σ) (hh : bl_WH ho σ) (ha0 : bl_sh[a0]? = some (10, 28)) (hf : f_X10_reach σ a0 a1 = some o) : bl_Fq ho md_X10_reach σ o.2 := by
  obtain ⟨σ0, hz⟩ : ∃ z, z = σ := ⟨_, rfl⟩
  suffices hgo : bl_Fq ho md_X10_reach σ0 o.2 by rw [hz] at hgo; exact hgo
  have qσ : bl_Fq ho md_X10_reach σ0 σ := by rw [hz]; exact ⟨hw, hh, fun _ _ => ⟨rfl, rfl, rfl⟩⟩
  have ha0 := And.intro ha0 trivial
  unfold f_X10_reach at hf
  obtain ⟨r17, σ18, h19, hf⟩ := bl_bd_at hf
  have qσ18 := bl_Fq_call qσ (fr_X10_isClass σ a0 a1 _ qσ.1 qσ.2.1 ha0.1 h19) (by decide)
  rcases bl_if_at hf with hf | hf
  · rw [← Option.some.inj hf]
    exact qσ18
  · obtain ⟨x21, e22⟩ : ∃ z, z = (1 <<< (a1 &&& 31)) := ⟨_, rfl⟩
    have hf := bl_let_at e22 hf
    exact gl_X10_reach_16  bl_fu σ18 a0 x21 0 qσ18 ha0 hf
def md_X10_years : List (Nat × Nat) := []
set_option maxRecDepth 100000 in
theorem gw_X10_years_23 {ho : Nat → Bool} {σ0 : bl_St} {out : Int32 × bl_St} (k23 : bl_St → Nat → Int32 → Int32 → Int32 → Option (Int32 × bl_St)) (gk23 : ∀ (σ : bl_St) (v0 : Nat) (v2 : Int32) (v3 : Int32) (v4 : Int32), bl_Fq ho md_X10_years σ0 σ → (bl_sh[v0]? = some (10, 28) ∧ True) → k23 σ v0 v2 v3 v4 = some out → bl_Fq ho md_X10_years σ0 out.2) : ∀ (σ : bl_St) (v0 : Nat) (v2 : Int32) (v3 : Int32) (v4 : Int32), bl_Fq ho md_X10_years σ0 σ → (bl_sh[v0]? = some (10, 28) ∧ True) → (b_X10_years_23 k23) σ v0 v2 v3 v4 = some out → bl_Fq ho md_X10_years σ0 out.2 := by
  intro σ v0 v2 v3 v4 qσ hv0 hf
  unfold b_X10_years_23 at hf
  rcases bl_if_at hf with hf | hf
  · rw [← Option.some.inj hf]
    exact qσ
  · rcases bl_if_at hf with hf | hf
    · rw [← Option.some.inj hf]
      exact qσ
    · obtain ⟨r3, σ4, h5, hf⟩ := bl_bd_at hf
      have qσ4 := bl_Fq_call qσ (fr_X10_behind σ v0 v3 0 _ qσ.1 qσ.2.1 hv0.1 h5) (by decide)
      obtain ⟨x6, e7⟩ : ∃ z : Int32, z = v4 + 1 := ⟨_, rfl⟩
      have hf := bl_let_at e7 hf
      exact gk23 σ4 v0 v2 r3 x6 qσ4 hv0 hf
theorem gl_X10_years_23 {ho : Nat → Bool} {σ0 : bl_St} {out : Int32 × bl_St} (n : Nat) : ∀ (σ : bl_St) (v0 : Nat) (v2 : Int32) (v3 : Int32) (v4 : Int32), bl_Fq ho md_X10_years σ0 σ → (bl_sh[v0]? = some (10, 28) ∧ True) → (bl_fx (fun _ _ _ _ _ => none) (b_X10_years_23 ) n) σ v0 v2 v3 v4 = some out → bl_Fq ho md_X10_years σ0 out.2 := by
  induction n with
  | zero =>
    intro σ v0 v2 v3 v4 qσ hv0 hf
    cases hf
  | succ n ih => exact gw_X10_years_23  _ ih
set_option maxRecDepth 100000 in
theorem fr_X10_years {ho : Nat → Bool} (σ : bl_St) (a0 : Nat) (a1 : Int32) (a2 : Int32) (o : Int32 × bl_St) (hw : bl_WT σ) (hh : bl_WH ho σ) (ha0 : bl_sh[a0]? = some (10, 28)) (hf : f_X10_years σ a0 a1 a2 = some o) : bl_Fq ho md_X10_years σ o.2 := by
  obtain ⟨σ0, hz⟩ : ∃ z, z = σ := ⟨_, rfl⟩
  suffices hgo : bl_Fq ho md_X10_years σ0 o.2 by rw [hz] at hgo; exact hgo
  have qσ : bl_Fq ho md_X10_years σ0 σ := by rw [hz]; exact ⟨hw, hh, fun _ _ => ⟨rfl, rfl, rfl⟩⟩
  have ha0 := And.intro ha0 trivial
  unfold f_X10_years at hf
  obtain ⟨r8, σ9, h10, hf⟩ := bl_bd_at hf
  have qσ9 := bl_Fq_call qσ (fr_X10_isClass σ a0 a1 _ qσ.1 qσ.2.1 ha0.1 h10) (by decide)
  rcases bl_if_at hf with hf | hf
  · rw [← Option.some.inj hf]
    exact qσ9
  · obtain ⟨r12, σ13, h14, hf⟩ := bl_bd_at hf
    have qσ13 := bl_Fq_call qσ9 (fr_X10_isClass σ9 a0 a2 _ qσ9.1 qσ9.2.1 ha0.1 h14) (by decide)
    rcases bl_if_at hf with hf | hf
    · rw [← Option.some.inj hf]
      exact qσ13
    · exact gl_X10_years_23  bl_fu σ13 a0 a2 a1 0 qσ13 ha0 hf
def md_X10_power : List (Nat × Nat) := []
set_option maxRecDepth 100000 in
theorem gw_X10_power_5 {ho : Nat → Bool} {σ0 : bl_St} {out : Int64 × bl_St} (k5 : bl_St → Int64 → Int32 → Int64 → Int32 → Option (Int64 × bl_St)) (gk5 : ∀ (σ : bl_St) (v0 : Int64) (v2 : Int32) (v3 : Int64) (v5 : Int32), bl_Fq ho md_X10_power σ0 σ → k5 σ v0 v2 v3 v5 = some out → bl_Fq ho md_X10_power σ0 out.2) : ∀ (σ : bl_St) (v0 : Int64) (v2 : Int32) (v3 : Int64) (v5 : Int32), bl_Fq ho md_X10_power σ0 σ → (b_X10_power_5 k5) σ v0 v2 v3 v5 = some out → bl_Fq ho md_X10_power σ0 out.2 := by
  intro σ v0 v2 v3 v5 qσ  hf
  unfold b_X10_power_5 at hf
  rcases bl_if_at hf with hf | hf
  · rw [← Option.some.inj hf]
    exact qσ
  · obtain ⟨x2, e3⟩ : ∃ z, z = (v3 * v0) := ⟨_, rfl⟩
    have hf := bl_let_at e3 hf
    obtain ⟨x4, e5⟩ : ∃ z : Int32, z = v5 + 1 := ⟨_, rfl⟩
    have hf := bl_let_at e5 hf
    exact gk5 σ v0 v2 x2 x4 qσ  hf
theorem gl_X10_power_5 {ho : Nat → Bool} {σ0 : bl_St} {out : Int64 × bl_St} (n : Nat) : ∀ (σ : bl_St) (v0 : Int64) (v2 : Int32) (v3 : Int64) (v5 : Int32), bl_Fq ho md_X10_power σ0 σ → (bl_fx (fun _ _ _ _ _ => none) (b_X10_power_5 ) n) σ v0 v2 v3 v5 = some out → bl_Fq ho md_X10_power σ0 out.2 := by
  induction n with
  | zero =>
    intro σ v0 v2 v3 v5 qσ  hf
    cases hf
  | succ n ih => exact gw_X10_power_5  _ ih
set_option maxRecDepth 100000 in
theorem fr_X10_power {ho : Nat → Bool} (σ : bl_St) (a0 : Int64) (a2 : Int32) (o : Int64 × bl_St) (hw : bl_WT σ) (hh : bl_WH ho σ) (hf : f_X10_power σ a0 a2 = some o) : bl_Fq ho md_X10_power σ o.2 := by
  obtain ⟨σ0, hz⟩ : ∃ z, z = σ := ⟨_, rfl⟩
  suffices hgo : bl_Fq ho md_X10_power σ0 o.2 by rw [hz] at hgo; exact hgo
  have qσ : bl_Fq ho md_X10_power σ0 σ := by rw [hz]; exact ⟨hw, hh, fun _ _ => ⟨rfl, rfl, rfl⟩⟩
  unfold f_X10_power at hf
  exact gl_X10_power_5  bl_fu σ a0 a2 1 0 qσ  hf
def md_X10_waysOf : List (Nat × Nat) := []
set_option maxRecDepth 100000 in
theorem gw_X10_waysOf_29 {ho : Nat → Bool} {σ0 : bl_St} {out : Int64 × bl_St} : ∀ (σ : bl_St) (v0 : Nat) (v1 : Int32) (v2 : Int32) (s0 : Int64), bl_Fq ho md_X10_waysOf σ0 σ → (bl_sh[v0]? = some (10, 28) ∧ True) → (b_X10_waysOf_29 ) σ v0 v1 v2 s0 = some out → bl_Fq ho md_X10_waysOf σ0 out.2 := by
  intro σ v0 v1 v2 s0 qσ hv0 hf
  unfold b_X10_waysOf_29 at hf
  have h1 := bl_Fq_gn qσ hv0 (k := 1) rfl
  obtain ⟨r2, σ3, h4, hf⟩ := bl_bd_at hf
  have qσ3 := bl_Fq_call qσ (fr_X10_power σ (Int32.toInt64 (bl_I σ (bl_R σ v0 1) 3)) v1 _ qσ.1 qσ.2.1  h4) (by decide)
  have h5 := bl_Fq_gn qσ3 hv0 (k := 1) rfl
  obtain ⟨r6, σ7, h8, hf⟩ := bl_bd_at hf
  have qσ7 := bl_Fq_call qσ3 (fr_X10_power σ3 (Int32.toInt64 (12 - (bl_I σ3 (bl_R σ3 v0 1) 3))) (v2 - v1) _ qσ3.1 qσ3.2.1  h8) (by decide)
  rw [← Option.some.inj hf]
  exact qσ7
set_option maxRecDepth 100000 in
theorem gw_X10_waysOf_23 {ho : Nat → Bool} {σ0 : bl_St} {out : Int64 × bl_St} : ∀ (σ : bl_St) (v0 : Nat) (v1 : Int32) (v2 : Int32), bl_Fq ho md_X10_waysOf σ0 σ → (bl_sh[v0]? = some (10, 28) ∧ True) → (b_X10_waysOf_23 ) σ v0 v1 v2 = some out → bl_Fq ho md_X10_waysOf σ0 out.2 := by
  intro σ v0 v1 v2 qσ hv0 hf
  unfold b_X10_waysOf_23 at hf
  exact gw_X10_waysOf_29  σ v0 v1 v2 1 qσ hv0 hf
set_option maxRecDepth 100000 in
theorem fr_X10_waysOf {ho : Nat → Bool} (σ : bl_St) (a0 : Nat) (a1 : Int32) (o : Int64 × bl_St) (hw : bl_WT σ) (hh : bl_WH ho σ) (ha0 : bl_sh[a0]? = some (10, 28)) (hf : f_X10_waysOf σ a0 a1 = some o) : bl_Fq ho md_X10_waysOf σ o.2 := by
  obtain ⟨σ0, hz⟩ : ∃ z, z = σ := ⟨_, rfl⟩
  suffices hgo : bl_Fq ho md_X10_waysOf σ0 o.2 by rw [hz] at hgo; exact hgo
  have qσ : bl_Fq ho md_X10_waysOf σ0 σ := by rw [hz]; exact ⟨hw, hh, fun _ _ => ⟨rfl, rfl, rfl⟩⟩
  have ha0 := And.intro ha0 trivial
  unfold f_X10_waysOf at hf
  have h9 := bl_Fq_gn qσ ha0 (k := 1) rfl
  obtain ⟨x10, e11⟩ : ∃ z, z = (bl_I σ (bl_R σ a0 1) 2) := ⟨_, rfl⟩
  have hf := bl_let_at e11 hf
  rcases bl_if_at hf with hf | hf
  · rcases bl_if_at hf with hf | hf
    · exact gw_X10_waysOf_23  σ a0 a1 x10 qσ ha0 hf
    · rcases bl_if_at hf with hf | hf
      · exact gw_X10_waysOf_23  σ a0 a1 x10 qσ ha0 hf
      · exact gw_X10_waysOf_29  σ a0 a1 x10 (Int32.toInt64 x10) qσ ha0 hf
  · rw [← Option.some.inj hf]
    exact qσ
def md_X10_ways : List (Nat × Nat) := []
set_option maxRecDepth 100000 in
theorem fr_X10_ways {ho : Nat → Bool} (σ : bl_St) (a0 : Nat) (a1 : Int32) (o : Int32 × bl_St) (hw : bl_WT σ) (hh : bl_WH ho σ) (ha0 : bl_sh[a0]? = some (10, 28)) (hf : f_X10_ways σ a0 a1 = some o) : bl_Fq ho md_X10_ways σ o.2 := by
  obtain ⟨σ0, hz⟩ : ∃ z, z = σ := ⟨_, rfl⟩
  suffices hgo : bl_Fq ho md_X10_ways σ0 o.2 by rw [hz] at hgo; exact hgo
  have qσ : bl_Fq ho md_X10_ways σ0 σ := by rw [hz]; exact ⟨hw, hh, fun _ _ => ⟨rfl, rfl, rfl⟩⟩
  have ha0 := And.intro ha0 trivial
  unfold f_X10_ways at hf
  have h1 := bl_Fq_gn qσ ha0 (k := 1) rfl
  rcases bl_if_at hf with hf | hf
  · rw [← Option.some.inj hf]
    exact qσ
  · obtain ⟨r3, σ4, h5, hf⟩ := bl_bd_at hf
    have qσ4 := bl_Fq_call qσ (fr_X10_in σ (Int32.toInt64 a1) 0 3 _ qσ.1 qσ.2.1  h5) (by decide)
    rcases bl_if_at hf with hf | hf
    · rw [← Option.some.inj hf]
      exact qσ4
    · obtain ⟨r7, σ8, h9, hf⟩ := bl_bd_at hf
      have qσ8 := bl_Fq_call qσ4 (fr_X10_waysOf σ4 a0 a1 _ qσ4.1 qσ4.2.1 ha0.1 h9) (by decide)
      rw [← Option.some.inj hf]
      exact qσ8
def md_X10_movesOf : List (Nat × Nat) := []
set_option maxRecDepth 100000 in
theorem gw_X10_movesOf_31 {ho : Nat → Bool} {σ0 : bl_St} {out : Int64 × bl_St} (k5 : bl_St → Nat → Int32 → Int32 → Int64 → Int32 → Option (Int64 × bl_St)) (gk5 : ∀ (σ : bl_St) (v0 : Nat) (v1 : Int32) (v2 : Int32) (v3 : Int64) (v5 : Int32), bl_Fq ho md_X10_movesOf σ0 σ → (bl_sh[v0]? = some (10, 28) ∧ True) → k5 σ v0 v1 v2 v3 v5 = some out → bl_Fq ho md_X10_movesOf σ0 out.2) : ∀ (σ : bl_St) (v0 : Nat) (v1 : Int32) (v2 : Int32) (v3 : Int64) (v5 : Int32), bl_Fq ho md_X10_movesOf σ0 σ → (bl_sh[v0]? = some (10, 28) ∧ True) → (b_X10_movesOf_31 k5) σ v0 v1 v2 v3 v5 = some out → bl_Fq ho md_X10_movesOf σ0 out.2 := by
  intro σ v0 v1 v2 v3 v5 qσ hv0 hf
  unfold b_X10_movesOf_31 at hf
  obtain ⟨x1, e2⟩ : ∃ z : Int32, z = v5 + 1 := ⟨_, rfl⟩
  have hf := bl_let_at e2 hf
  exact gk5 σ v0 v1 v2 v3 x1 qσ hv0 hf
set_option maxRecDepth 100000 in
theorem gw_X10_movesOf_5 {ho : Nat → Bool} {σ0 : bl_St} {out : Int64 × bl_St} (k5 : bl_St → Nat → Int32 → Int32 → Int64 → Int32 → Option (Int64 × bl_St)) (gk5 : ∀ (σ : bl_St) (v0 : Nat) (v1 : Int32) (v2 : Int32) (v3 : Int64) (v5 : Int32), bl_Fq ho md_X10_movesOf σ0 σ → (bl_sh[v0]? = some (10, 28) ∧ True) → k5 σ v0 v1 v2 v3 v5 = some out → bl_Fq ho md_X10_movesOf σ0 out.2) : ∀ (σ : bl_St) (v0 : Nat) (v1 : Int32) (v2 : Int32) (v3 : Int64) (v5 : Int32), bl_Fq ho md_X10_movesOf σ0 σ → (bl_sh[v0]? = some (10, 28) ∧ True) → (b_X10_movesOf_5 k5) σ v0 v1 v2 v3 v5 = some out → bl_Fq ho md_X10_movesOf σ0 out.2 := by
  intro σ v0 v1 v2 v3 v5 qσ hv0 hf
  unfold b_X10_movesOf_5 at hf
  rcases bl_if_at hf with hf | hf
  · rw [← Option.some.inj hf]
    exact qσ
  · obtain ⟨r4, σ5, h6, hf⟩ := bl_bd_at hf
    have qσ5 := bl_Fq_call qσ (fr_X10_behind σ v0 v1 v5 _ qσ.1 qσ.2.1 hv0.1 h6) (by decide)
    rcases bl_if_at hf with hf | hf
    · obtain ⟨r8, σ9, h10, hf⟩ := bl_bd_at hf
      have qσ9 := bl_Fq_call qσ5 (fr_X10_waysOf σ5 v0 v5 _ qσ5.1 qσ5.2.1 hv0.1 h10) (by decide)
      obtain ⟨x11, e12⟩ : ∃ z, z = (v3 + r8) := ⟨_, rfl⟩
      have hf := bl_let_at e12 hf
      exact gw_X10_movesOf_31 k5 gk5 σ9 v0 v1 v2 x11 v5 qσ9 hv0 hf
    · exact gw_X10_movesOf_31 k5 gk5 σ5 v0 v1 v2 v3 v5 qσ5 hv0 hf
theorem gl_X10_movesOf_5 {ho : Nat → Bool} {σ0 : bl_St} {out : Int64 × bl_St} (n : Nat) : ∀ (σ : bl_St) (v0 : Nat) (v1 : Int32) (v2 : Int32) (v3 : Int64) (v5 : Int32), bl_Fq ho md_X10_movesOf σ0 σ → (bl_sh[v0]? = some (10, 28) ∧ True) → (bl_fx (fun _ _ _ _ _ _ => none) (b_X10_movesOf_5 ) n) σ v0 v1 v2 v3 v5 = some out → bl_Fq ho md_X10_movesOf σ0 out.2 := by
  induction n with
  | zero =>
    intro σ v0 v1 v2 v3 v5 qσ hv0 hf
    cases hf
  | succ n ih => exact gw_X10_movesOf_5  _ ih
set_option maxRecDepth 100000 in
theorem fr_X10_movesOf {ho : Nat → Bool} (σ : bl_St) (a0 : Nat) (a1 : Int32) (a2 : Int32) (o : Int64 × bl_St) (hw : bl_WT σ) (hh : bl_WH ho σ) (ha0 : bl_sh[a0]? = some (10, 28)) (hf : f_X10_movesOf σ a0 a1 a2 = some o) : bl_Fq ho md_X10_movesOf σ o.2 := by
  obtain ⟨σ0, hz⟩ : ∃ z, z = σ := ⟨_, rfl⟩
  suffices hgo : bl_Fq ho md_X10_movesOf σ0 o.2 by rw [hz] at hgo; exact hgo
  have qσ : bl_Fq ho md_X10_movesOf σ0 σ := by rw [hz]; exact ⟨hw, hh, fun _ _ => ⟨rfl, rfl, rfl⟩⟩
  have ha0 := And.intro ha0 trivial
  unfold f_X10_movesOf at hf
  exact gl_X10_movesOf_5  bl_fu σ a0 a1 a2 0 0 qσ ha0 hf
def md_X10_moves : List (Nat × Nat) := []
set_option maxRecDepth 100000 in
theorem fr_X10_moves {ho : Nat → Bool} (σ : bl_St) (a0 : Nat) (a1 : Int32) (a2 : Int32) (o : Int32 × bl_St) (hw : bl_WT σ) (hh : bl_WH ho σ) (ha0 : bl_sh[a0]? = some (10, 28)) (hf : f_X10_moves σ a0 a1 a2 = some o) : bl_Fq ho md_X10_moves σ o.2 := by
  obtain ⟨σ0, hz⟩ : ∃ z, z = σ := ⟨_, rfl⟩
  suffices hgo : bl_Fq ho md_X10_moves σ0 o.2 by rw [hz] at hgo; exact hgo
  have qσ : bl_Fq ho md_X10_moves σ0 σ := by rw [hz]; exact ⟨hw, hh, fun _ _ => ⟨rfl, rfl, rfl⟩⟩
  have ha0 := And.intro ha0 trivial
  unfold f_X10_moves at hf
  obtain ⟨r1, σ2, h3, hf⟩ := bl_bd_at hf
  have qσ2 := bl_Fq_call qσ (fr_X10_isClass σ a0 a1 _ qσ.1 qσ.2.1 ha0.1 h3) (by decide)
  rcases bl_if_at hf with hf | hf
  · rw [← Option.some.inj hf]
    exact qσ2
  · obtain ⟨r5, σ6, h7, hf⟩ := bl_bd_at hf
    have qσ6 := bl_Fq_call qσ2 (fr_X10_isClass σ2 a0 a2 _ qσ2.1 qσ2.2.1 ha0.1 h7) (by decide)
    rcases bl_if_at hf with hf | hf
    · rw [← Option.some.inj hf]
      exact qσ6
    · obtain ⟨r9, σ10, h11, hf⟩ := bl_bd_at hf
      have qσ10 := bl_Fq_call qσ6 (fr_X10_movesOf σ6 a0 a1 a2 _ qσ6.1 qσ6.2.1 ha0.1 h11) (by decide)
      rw [← Option.some.inj hf]
      exact qσ10
def md_X10_spread : List (Nat × Nat) := [(21, 8)]
set_option maxRecDepth 100000 in
theorem gw_X10_spread_175 {ho : Nat → Bool} {σ0 : bl_St} {out : Int64 × bl_St} (k76 : bl_St → Nat → Int32 → Int32 → Int32 → Option (Int64 × bl_St)) (gk76 : ∀ (σ : bl_St) (v0 : Nat) (v1 : Int32) (v3 : Int32) (v4 : Int32), bl_Fq ho md_X10_spread σ0 σ → (bl_sh[v0]? = some (10, 28) ∧ ho v0 = true) → k76 σ v0 v1 v3 v4 = some out → bl_Fq ho md_X10_spread σ0 out.2) (k175 : bl_St → Nat → Int32 → Int32 → Int32 → Int32 → Option (Int64 × bl_St)) (gk175 : ∀ (σ : bl_St) (v0 : Nat) (v1 : Int32) (v3 : Int32) (v4 : Int32) (v5 : Int32), bl_Fq ho md_X10_spread σ0 σ → (bl_sh[v0]? = some (10, 28) ∧ ho v0 = true) → k175 σ v0 v1 v3 v4 v5 = some out → bl_Fq ho md_X10_spread σ0 out.2) : ∀ (σ : bl_St) (v0 : Nat) (v1 : Int32) (v3 : Int32) (v4 : Int32) (v5 : Int32), bl_Fq ho md_X10_spread σ0 σ → (bl_sh[v0]? = some (10, 28) ∧ ho v0 = true) → (b_X10_spread_175 k76 k175) σ v0 v1 v3 v4 v5 = some out → bl_Fq ho md_X10_spread σ0 out.2 := by
  intro σ v0 v1 v3 v4 v5 qσ hv0 hf
  unfold b_X10_spread_175 at hf
  rcases bl_if_at hf with hf | hf
  · obtain ⟨x2, e3⟩ : ∃ z : Int32, z = v4 + 1 := ⟨_, rfl⟩
    have hf := bl_let_at e3 hf
    exact gk76 σ v0 v1 v3 x2 qσ hv0 hf
  · have h4 := bl_Fq_g qσ hv0 (k := 14) rfl (by decide)
    have h5 := bl_Fq_g qσ hv0 (k := 15) rfl (by decide)
    obtain ⟨-, hf⟩ := bl_gd_at hf
    obtain ⟨-, hf⟩ := bl_gd_at hf
    obtain ⟨σ8, e9⟩ : ∃ z : bl_St, z = bl_pJ σ (bl_R σ v0 14) (Int32.toNatClampNeg v5) (bl_J σ (bl_R σ v0 15) (Int32.toNatClampNeg v5)) := ⟨_, rfl⟩
    have hf := bl_let_at e9 hf
    have qσ8 : bl_Fq ho md_X10_spread σ0 σ8 := by rw [e9]; exact bl_Fq_J qσ (bl_al_in h4.1 (by decide) h4.2)
    obtain ⟨x10, e11⟩ : ∃ z : Int32, z = v5 + 1 := ⟨_, rfl⟩
    have hf := bl_let_at e11 hf
    exact gk175 σ8 v0 v1 v3 v4 x10 qσ8 hv0 hf
theorem gl_X10_spread_175 {ho : Nat → Bool} {σ0 : bl_St} {out : Int64 × bl_St} (k76 : bl_St → Nat → Int32 → Int32 → Int32 → Option (Int64 × bl_St)) (gk76 : ∀ (σ : bl_St) (v0 : Nat) (v1 : Int32) (v3 : Int32) (v4 : Int32), bl_Fq ho md_X10_spread σ0 σ → (bl_sh[v0]? = some (10, 28) ∧ ho v0 = true) → k76 σ v0 v1 v3 v4 = some out → bl_Fq ho md_X10_spread σ0 out.2) (n : Nat) : ∀ (σ : bl_St) (v0 : Nat) (v1 : Int32) (v3 : Int32) (v4 : Int32) (v5 : Int32), bl_Fq ho md_X10_spread σ0 σ → (bl_sh[v0]? = some (10, 28) ∧ ho v0 = true) → (bl_fx (fun _ _ _ _ _ _ => none) (b_X10_spread_175 k76) n) σ v0 v1 v3 v4 v5 = some out → bl_Fq ho md_X10_spread σ0 out.2 := by
  induction n with
  | zero =>
    intro σ v0 v1 v3 v4 v5 qσ hv0 hf
    cases hf
  | succ n ih => exact gw_X10_spread_175 k76 gk76 _ ih
set_option maxRecDepth 100000 in
theorem gw_X10_spread_123 {ho : Nat → Bool} {σ0 : bl_St} {out : Int64 × bl_St} (k109 : bl_St → Nat → Int32 → Int32 → Int32 → Int32 → Option (Int64 × bl_St)) (gk109 : ∀ (σ : bl_St) (v0 : Nat) (v1 : Int32) (v3 : Int32) (v4 : Int32) (v5 : Int32), bl_Fq ho md_X10_spread σ0 σ → (bl_sh[v0]? = some (10, 28) ∧ ho v0 = true) → k109 σ v0 v1 v3 v4 v5 = some out → bl_Fq ho md_X10_spread σ0 out.2) (k123 : bl_St → Nat → Int32 → Int32 → Int32 → Int32 → Int32 → Option (Int64 × bl_St)) (gk123 : ∀ (σ : bl_St) (v0 : Nat) (v1 : Int32) (v3 : Int32) (v4 : Int32) (v5 : Int32) (v6 : Int32), bl_Fq ho md_X10_spread σ0 σ → (bl_sh[v0]? = some (10, 28) ∧ ho v0 = true) → k123 σ v0 v1 v3 v4 v5 v6 = some out → bl_Fq ho md_X10_spread σ0 out.2) : ∀ (σ : bl_St) (v0 : Nat) (v1 : Int32) (v3 : Int32) (v4 : Int32) (v5 : Int32) (v6 : Int32), bl_Fq ho md_X10_spread σ0 σ → (bl_sh[v0]? = some (10, 28) ∧ ho v0 = true) → (b_X10_spread_123 k109 k123) σ v0 v1 v3 v4 v5 v6 = some out → bl_Fq ho md_X10_spread σ0 out.2 := by
  intro σ v0 v1 v3 v4 v5 v6 qσ hv0 hf
  unfold b_X10_spread_123 at hf
  have h12 := bl_Fq_g qσ hv0 (k := 1) rfl (by decide)
  rcases bl_if_at hf with hf | hf
  · obtain ⟨x14, e15⟩ : ∃ z : Int32, z = v5 + 1 := ⟨_, rfl⟩
    have hf := bl_let_at e15 hf
    exact gk109 σ v0 v1 v3 v4 x14 qσ hv0 hf
  · have h16 := bl_Fq_g qσ hv0 (k := 15) rfl (by decide)
    obtain ⟨-, hf⟩ := bl_gd_at hf
    have h18 := bl_Fq_g qσ hv0 (k := 14) rfl (by decide)
    obtain ⟨-, hf⟩ := bl_gd_at hf
    obtain ⟨r20, σ21, h22, hf⟩ := bl_bd_at hf
    have qσ21 := bl_Fq_call qσ (fr_X10_movesOf σ v0 v5 v6 _ qσ.1 qσ.2.1 hv0.1 h22) (by decide)
    obtain ⟨-, hf⟩ := bl_gd_at hf
    obtain ⟨σ24, e25⟩ : ∃ z : bl_St, z = bl_pJ σ21 (bl_R σ v0 15) (Int32.toNatClampNeg v6) ((bl_J σ (bl_R σ v0 15) (Int32.toNatClampNeg v6)) + ((bl_J σ (bl_R σ v0 14) (Int32.toNatClampNeg v5)) * r20)) := ⟨_, rfl⟩
    have hf := bl_let_at e25 hf
    have qσ24 : bl_Fq ho md_X10_spread σ0 σ24 := by rw [e25]; exact bl_Fq_J qσ21 (bl_al_in h16.1 (by decide) h16.2)
    obtain ⟨x26, e27⟩ : ∃ z : Int32, z = v6 + 1 := ⟨_, rfl⟩
    have hf := bl_let_at e27 hf
    exact gk123 σ24 v0 v1 v3 v4 v5 x26 qσ24 hv0 hf
theorem gl_X10_spread_123 {ho : Nat → Bool} {σ0 : bl_St} {out : Int64 × bl_St} (k109 : bl_St → Nat → Int32 → Int32 → Int32 → Int32 → Option (Int64 × bl_St)) (gk109 : ∀ (σ : bl_St) (v0 : Nat) (v1 : Int32) (v3 : Int32) (v4 : Int32) (v5 : Int32), bl_Fq ho md_X10_spread σ0 σ → (bl_sh[v0]? = some (10, 28) ∧ ho v0 = true) → k109 σ v0 v1 v3 v4 v5 = some out → bl_Fq ho md_X10_spread σ0 out.2) (n : Nat) : ∀ (σ : bl_St) (v0 : Nat) (v1 : Int32) (v3 : Int32) (v4 : Int32) (v5 : Int32) (v6 : Int32), bl_Fq ho md_X10_spread σ0 σ → (bl_sh[v0]? = some (10, 28) ∧ ho v0 = true) → (bl_fx (fun _ _ _ _ _ _ _ => none) (b_X10_spread_123 k109) n) σ v0 v1 v3 v4 v5 v6 = some out → bl_Fq ho md_X10_spread σ0 out.2 := by
  induction n with
  | zero =>
    intro σ v0 v1 v3 v4 v5 v6 qσ hv0 hf
    cases hf
  | succ n ih => exact gw_X10_spread_123 k109 gk109 _ ih
set_option maxRecDepth 100000 in
theorem gw_X10_spread_109 {ho : Nat → Bool} {σ0 : bl_St} {out : Int64 × bl_St} (k76 : bl_St → Nat → Int32 → Int32 → Int32 → Option (Int64 × bl_St)) (gk76 : ∀ (σ : bl_St) (v0 : Nat) (v1 : Int32) (v3 : Int32) (v4 : Int32), bl_Fq ho md_X10_spread σ0 σ → (bl_sh[v0]? = some (10, 28) ∧ ho v0 = true) → k76 σ v0 v1 v3 v4 = some out → bl_Fq ho md_X10_spread σ0 out.2) (k109 : bl_St → Nat → Int32 → Int32 → Int32 → Int32 → Option (Int64 × bl_St)) (gk109 : ∀ (σ : bl_St) (v0 : Nat) (v1 : Int32) (v3 : Int32) (v4 : Int32) (v5 : Int32), bl_Fq ho md_X10_spread σ0 σ → (bl_sh[v0]? = some (10, 28) ∧ ho v0 = true) → k109 σ v0 v1 v3 v4 v5 = some out → bl_Fq ho md_X10_spread σ0 out.2) : ∀ (σ : bl_St) (v0 : Nat) (v1 : Int32) (v3 : Int32) (v4 : Int32) (v5 : Int32), bl_Fq ho md_X10_spread σ0 σ → (bl_sh[v0]? = some (10, 28) ∧ ho v0 = true) → (b_X10_spread_109 k76 k109) σ v0 v1 v3 v4 v5 = some out → bl_Fq ho md_X10_spread σ0 out.2 := by
  intro σ v0 v1 v3 v4 v5 qσ hv0 hf
  unfold b_X10_spread_109 at hf
  have h28 := bl_Fq_g qσ hv0 (k := 1) rfl (by decide)
  rcases bl_if_at hf with hf | hf
  · exact gl_X10_spread_175 k76 gk76 bl_fu σ v0 v1 v3 v4 0 qσ hv0 hf
  · exact gl_X10_spread_123 k109 gk109 bl_fu σ v0 v1 v3 v4 v5 0 qσ hv0 hf
theorem gl_X10_spread_109 {ho : Nat → Bool} {σ0 : bl_St} {out : Int64 × bl_St} (k76 : bl_St → Nat → Int32 → Int32 → Int32 → Option (Int64 × bl_St)) (gk76 : ∀ (σ : bl_St) (v0 : Nat) (v1 : Int32) (v3 : Int32) (v4 : Int32), bl_Fq ho md_X10_spread σ0 σ → (bl_sh[v0]? = some (10, 28) ∧ ho v0 = true) → k76 σ v0 v1 v3 v4 = some out → bl_Fq ho md_X10_spread σ0 out.2) (n : Nat) : ∀ (σ : bl_St) (v0 : Nat) (v1 : Int32) (v3 : Int32) (v4 : Int32) (v5 : Int32), bl_Fq ho md_X10_spread σ0 σ → (bl_sh[v0]? = some (10, 28) ∧ ho v0 = true) → (bl_fx (fun _ _ _ _ _ _ => none) (b_X10_spread_109 k76) n) σ v0 v1 v3 v4 v5 = some out → bl_Fq ho md_X10_spread σ0 out.2 := by
  induction n with
  | zero =>
    intro σ v0 v1 v3 v4 v5 qσ hv0 hf
    cases hf
  | succ n ih => exact gw_X10_spread_109 k76 gk76 _ ih
set_option maxRecDepth 100000 in
theorem gw_X10_spread_85 {ho : Nat → Bool} {σ0 : bl_St} {out : Int64 × bl_St} (k76 : bl_St → Nat → Int32 → Int32 → Int32 → Option (Int64 × bl_St)) (gk76 : ∀ (σ : bl_St) (v0 : Nat) (v1 : Int32) (v3 : Int32) (v4 : Int32), bl_Fq ho md_X10_spread σ0 σ → (bl_sh[v0]? = some (10, 28) ∧ ho v0 = true) → k76 σ v0 v1 v3 v4 = some out → bl_Fq ho md_X10_spread σ0 out.2) (k85 : bl_St → Nat → Int32 → Int32 → Int32 → Int32 → Option (Int64 × bl_St)) (gk85 : ∀ (σ : bl_St) (v0 : Nat) (v1 : Int32) (v3 : Int32) (v4 : Int32) (v5 : Int32), bl_Fq ho md_X10_spread σ0 σ → (bl_sh[v0]? = some (10, 28) ∧ ho v0 = true) → k85 σ v0 v1 v3 v4 v5 = some out → bl_Fq ho md_X10_spread σ0 out.2) : ∀ (σ : bl_St) (v0 : Nat) (v1 : Int32) (v3 : Int32) (v4 : Int32) (v5 : Int32), bl_Fq ho md_X10_spread σ0 σ → (bl_sh[v0]? = some (10, 28) ∧ ho v0 = true) → (b_X10_spread_85 k76 k85) σ v0 v1 v3 v4 v5 = some out → bl_Fq ho md_X10_spread σ0 out.2 := by
  intro σ v0 v1 v3 v4 v5 qσ hv0 hf
  unfold b_X10_spread_85 at hf
  rcases bl_if_at hf with hf | hf
  · exact gl_X10_spread_109 k76 gk76 bl_fu σ v0 v1 v3 v4 0 qσ hv0 hf
  · have h31 := bl_Fq_g qσ hv0 (k := 15) rfl (by decide)
    obtain ⟨-, hf⟩ := bl_gd_at hf
    obtain ⟨σ33, e34⟩ : ∃ z : bl_St, z = bl_pJ σ (bl_R σ v0 15) (Int32.toNatClampNeg v5) 0 := ⟨_, rfl⟩
    have hf := bl_let_at e34 hf
    have qσ33 : bl_Fq ho md_X10_spread σ0 σ33 := by rw [e34]; exact bl_Fq_J qσ (bl_al_in h31.1 (by decide) h31.2)
    obtain ⟨x35, e36⟩ : ∃ z : Int32, z = v5 + 1 := ⟨_, rfl⟩
    have hf := bl_let_at e36 hf
    exact gk85 σ33 v0 v1 v3 v4 x35 qσ33 hv0 hf
theorem gl_X10_spread_85 {ho : Nat → Bool} {σ0 : bl_St} {out : Int64 × bl_St} (k76 : bl_St → Nat → Int32 → Int32 → Int32 → Option (Int64 × bl_St)) (gk76 : ∀ (σ : bl_St) (v0 : Nat) (v1 : Int32) (v3 : Int32) (v4 : Int32), bl_Fq ho md_X10_spread σ0 σ → (bl_sh[v0]? = some (10, 28) ∧ ho v0 = true) → k76 σ v0 v1 v3 v4 = some out → bl_Fq ho md_X10_spread σ0 out.2) (n : Nat) : ∀ (σ : bl_St) (v0 : Nat) (v1 : Int32) (v3 : Int32) (v4 : Int32) (v5 : Int32), bl_Fq ho md_X10_spread σ0 σ → (bl_sh[v0]? = some (10, 28) ∧ ho v0 = true) → (bl_fx (fun _ _ _ _ _ _ => none) (b_X10_spread_85 k76) n) σ v0 v1 v3 v4 v5 = some out → bl_Fq ho md_X10_spread σ0 out.2 := by
  induction n with
  | zero =>
    intro σ v0 v1 v3 v4 v5 qσ hv0 hf
    cases hf
  | succ n ih => exact gw_X10_spread_85 k76 gk76 _ ih
set_option maxRecDepth 100000 in
theorem gw_X10_spread_76 {ho : Nat → Bool} {σ0 : bl_St} {out : Int64 × bl_St} (k76 : bl_St → Nat → Int32 → Int32 → Int32 → Option (Int64 × bl_St)) (gk76 : ∀ (σ : bl_St) (v0 : Nat) (v1 : Int32) (v3 : Int32) (v4 : Int32), bl_Fq ho md_X10_spread σ0 σ → (bl_sh[v0]? = some (10, 28) ∧ ho v0 = true) → k76 σ v0 v1 v3 v4 = some out → bl_Fq ho md_X10_spread σ0 out.2) : ∀ (σ : bl_St) (v0 : Nat) (v1 : Int32) (v3 : Int32) (v4 : Int32), bl_Fq ho md_X10_spread σ0 σ → (bl_sh[v0]? = some (10, 28) ∧ ho v0 = true) → (b_X10_spread_76 k76) σ v0 v1 v3 v4 = some out → bl_Fq ho md_X10_spread σ0 out.2 := by
  intro σ v0 v1 v3 v4 qσ hv0 hf
  unfold b_X10_spread_76 at hf
  rcases bl_if_at hf with hf | hf
  · have h38 := bl_Fq_g qσ hv0 (k := 14) rfl (by decide)
    obtain ⟨-, hf⟩ := bl_gd_at hf
    rw [← Option.some.inj hf]
    exact qσ
  · exact gl_X10_spread_85 k76 gk76 bl_fu σ v0 v1 v3 v4 0 qσ hv0 hf
theorem gl_X10_spread_76 {ho : Nat → Bool} {σ0 : bl_St} {out : Int64 × bl_St} (n : Nat) : ∀ (σ : bl_St) (v0 : Nat) (v1 : Int32) (v3 : Int32) (v4 : Int32), bl_Fq ho md_X10_spread σ0 σ → (bl_sh[v0]? = some (10, 28) ∧ ho v0 = true) → (bl_fx (fun _ _ _ _ _ => none) (b_X10_spread_76 ) n) σ v0 v1 v3 v4 = some out → bl_Fq ho md_X10_spread σ0 out.2 := by
  induction n with
  | zero =>
    intro σ v0 v1 v3 v4 qσ hv0 hf
    cases hf
  | succ n ih => exact gw_X10_spread_76  _ ih
set_option maxRecDepth 100000 in
theorem gw_X10_spread_66 {ho : Nat → Bool} {σ0 : bl_St} {out : Int64 × bl_St} (k42 : bl_St → Nat → Int32 → Int32 → Int32 → Int32 → Option (Int64 × bl_St)) (gk42 : ∀ (σ : bl_St) (v0 : Nat) (v1 : Int32) (v2 : Int32) (v3 : Int32) (v4 : Int32), bl_Fq ho md_X10_spread σ0 σ → (bl_sh[v0]? = some (10, 28) ∧ ho v0 = true) → k42 σ v0 v1 v2 v3 v4 = some out → bl_Fq ho md_X10_spread σ0 out.2) : ∀ (σ : bl_St) (v0 : Nat) (v1 : Int32) (v2 : Int32) (v3 : Int32) (v4 : Int32) (s0 : Int64) (s1 : Int32) (s2 : Nat), bl_Fq ho md_X10_spread σ0 σ → (bl_sh[v0]? = some (10, 28) ∧ ho v0 = true) → (bl_sh[s2]? = some (21, 8) ∧ ho s2 = true) → (b_X10_spread_66 k42) σ v0 v1 v2 v3 v4 s0 s1 s2 = some out → bl_Fq ho md_X10_spread σ0 out.2 := by
  intro σ v0 v1 v2 v3 v4 s0 s1 s2 qσ hv0 hs2 hf
  unfold b_X10_spread_66 at hf
  obtain ⟨-, hf⟩ := bl_gd_at hf
  obtain ⟨σ41, e42⟩ : ∃ z : bl_St, z = bl_pJ σ s2 (Int32.toNatClampNeg s1) s0 := ⟨_, rfl⟩
  have hf := bl_let_at e42 hf
  have qσ41 : bl_Fq ho md_X10_spread σ0 σ41 := by rw [e42]; exact bl_Fq_J qσ (bl_al_in hs2.1 (by decide) hs2.2)
  obtain ⟨x43, e44⟩ : ∃ z : Int32, z = v4 + 1 := ⟨_, rfl⟩
  have hf := bl_let_at e44 hf
  exact gk42 σ41 v0 v1 v2 v3 x43 qσ41 hv0 hf
set_option maxRecDepth 100000 in
theorem gw_X10_spread_42 {ho : Nat → Bool} {σ0 : bl_St} {out : Int64 × bl_St} (k42 : bl_St → Nat → Int32 → Int32 → Int32 → Int32 → Option (Int64 × bl_St)) (gk42 : ∀ (σ : bl_St) (v0 : Nat) (v1 : Int32) (v2 : Int32) (v3 : Int32) (v4 : Int32), bl_Fq ho md_X10_spread σ0 σ → (bl_sh[v0]? = some (10, 28) ∧ ho v0 = true) → k42 σ v0 v1 v2 v3 v4 = some out → bl_Fq ho md_X10_spread σ0 out.2) : ∀ (σ : bl_St) (v0 : Nat) (v1 : Int32) (v2 : Int32) (v3 : Int32) (v4 : Int32), bl_Fq ho md_X10_spread σ0 σ → (bl_sh[v0]? = some (10, 28) ∧ ho v0 = true) → (b_X10_spread_42 k42) σ v0 v1 v2 v3 v4 = some out → bl_Fq ho md_X10_spread σ0 out.2 := by
  intro σ v0 v1 v2 v3 v4 qσ hv0 hf
  unfold b_X10_spread_42 at hf
  rcases bl_if_at hf with hf | hf
  · exact gl_X10_spread_76  bl_fu σ v0 v1 v3 0 qσ hv0 hf
  · have h46 := bl_Fq_g qσ hv0 (k := 14) rfl (by decide)
    rcases bl_if_at hf with hf | hf
    · exact gw_X10_spread_66 k42 gk42 σ v0 v1 v2 v3 v4 1 v4 (bl_R σ v0 14) qσ hv0 h46 hf
    · exact gw_X10_spread_66 k42 gk42 σ v0 v1 v2 v3 v4 0 v4 (bl_R σ v0 14) qσ hv0 h46 hf
theorem gl_X10_spread_42 {ho : Nat → Bool} {σ0 : bl_St} {out : Int64 × bl_St} (n : Nat) : ∀ (σ : bl_St) (v0 : Nat) (v1 : Int32) (v2 : Int32) (v3 : Int32) (v4 : Int32), bl_Fq ho md_X10_spread σ0 σ → (bl_sh[v0]? = some (10, 28) ∧ ho v0 = true) → (bl_fx (fun _ _ _ _ _ _ => none) (b_X10_spread_42 ) n) σ v0 v1 v2 v3 v4 = some out → bl_Fq ho md_X10_spread σ0 out.2 := by
  induction n with
  | zero =>
    intro σ v0 v1 v2 v3 v4 qσ hv0 hf
    cases hf
  | succ n ih => exact gw_X10_spread_42  _ ih
set_option maxRecDepth 100000 in
theorem fr_X10_spread {ho : Nat → Bool} (σ : bl_St) (a0 : Nat) (a1 : Int32) (a2 : Int32) (a3 : Int32) (o : Int64 × bl_St) (hw : bl_WT σ) (hh : bl_WH ho σ) (ha0 : bl_sh[a0]? = some (10, 28) ∧ ho a0 = true) (hf : f_X10_spread σ a0 a1 a2 a3 = some o) : bl_Fq ho md_X10_spread σ o.2 := by
  obtain ⟨σ0, hz⟩ : ∃ z, z = σ := ⟨_, rfl⟩
  suffices hgo : bl_Fq ho md_X10_spread σ0 o.2 by rw [hz] at hgo; exact hgo
  have qσ : bl_Fq ho md_X10_spread σ0 σ := by rw [hz]; exact ⟨hw, hh, fun _ _ => ⟨rfl, rfl, rfl⟩⟩
  unfold f_X10_spread at hf
  obtain ⟨r48, σ49, h50, hf⟩ := bl_bd_at hf
  have qσ49 := bl_Fq_call qσ (fr_X10_isClass σ a0 a2 _ qσ.1 qσ.2.1 ha0.1 h50) (by decide)
  rcases bl_if_at hf with hf | hf
  · rw [← Option.some.inj hf]
    exact qσ49
  · obtain ⟨r52, σ53, h54, hf⟩ := bl_bd_at hf
    have qσ53 := bl_Fq_call qσ49 (fr_X10_isClass σ49 a0 a3 _ qσ49.1 qσ49.2.1 ha0.1 h54) (by decide)
    rcases bl_if_at hf with hf | hf
    · rw [← Option.some.inj hf]
      exact qσ53
    · have h56 := bl_Fq_g qσ53 ha0 (k := 1) rfl (by decide)
      obtain ⟨-, hf⟩ := bl_gd_at hf
      obtain ⟨r58, σ59, h60, hf⟩ := bl_bd_at hf
      have qσ59 := bl_Fq_call qσ53 (fr_X10_in σ53 (Int32.toInt64 a1) 0 (Int32.toInt64 (16 / (bl_I σ53 (bl_R σ53 a0 1) 2))) _ qσ53.1 qσ53.2.1  h60) (by decide)
      rcases bl_if_at hf with hf | hf
      · rw [← Option.some.inj hf]
        exact qσ59
      · exact gl_X10_spread_42  bl_fu σ59 a0 a1 a2 a3 0 qσ59 ha0 hf
def md_X10_slotOf : List (Nat × Nat) := []
set_option maxRecDepth 100000 in
theorem fr_X10_slotOf {ho : Nat → Bool} (σ : bl_St) (a0 : Int32) (a1 : Int32) (a2 : Int32) (o : Int32 × bl_St) (hw : bl_WT σ) (hh : bl_WH ho σ) (hf : f_X10_slotOf σ a0 a1 a2 = some o) : bl_Fq ho md_X10_slotOf σ o.2 := by
  obtain ⟨σ0, hz⟩ : ∃ z, z = σ := ⟨_, rfl⟩
  suffices hgo : bl_Fq ho md_X10_slotOf σ0 o.2 by rw [hz] at hgo; exact hgo
  have qσ : bl_Fq ho md_X10_slotOf σ0 σ := by rw [hz]; exact ⟨hw, hh, fun _ _ => ⟨rfl, rfl, rfl⟩⟩
  unfold f_X10_slotOf at hf
  rw [← Option.some.inj hf]
  exact qσ
def md_X10_more : List (Nat × Nat) := []
set_option maxRecDepth 100000 in
theorem fr_X10_more {ho : Nat → Bool} (σ : bl_St) (a0 : Int32) (o : Int32 × bl_St) (hw : bl_WT σ) (hh : bl_WH ho σ) (hf : f_X10_more σ a0 = some o) : bl_Fq ho md_X10_more σ o.2 := by
  obtain ⟨σ0, hz⟩ : ∃ z, z = σ := ⟨_, rfl⟩
  suffices hgo : bl_Fq ho md_X10_more σ0 o.2 by rw [hz] at hgo; exact hgo
  have qσ : bl_Fq ho md_X10_more σ0 σ := by rw [hz]; exact ⟨hw, hh, fun _ _ => ⟨rfl, rfl, rfl⟩⟩
  unfold f_X10_more at hf
  rcases bl_if_at hf with hf | hf
  · rw [← Option.some.inj hf]
    exact qσ
  · rw [← Option.some.inj hf]
    exact qσ
def md_X10_bothChance : List (Nat × Nat) := []
set_option maxRecDepth 100000 in
theorem gw_X10_bothChance_42 {ho : Nat → Bool} {σ0 : bl_St} {out : Int64 × bl_St} (k42 : bl_St → Nat → Int32 → Int32 → Int32 → Int32 → Int64 → Int64 → Int32 → Option (Int64 × bl_St)) (gk42 : ∀ (σ : bl_St) (v0 : Nat) (v1 : Int32) (v2 : Int32) (v3 : Int32) (v4 : Int32) (v5 : Int64) (v7 : Int64) (v9 : Int32), bl_Fq ho md_X10_bothChance σ0 σ → (bl_sh[v0]? = some (10, 28) ∧ True) → k42 σ v0 v1 v2 v3 v4 v5 v7 v9 = some out → bl_Fq ho md_X10_bothChance σ0 out.2) : ∀ (σ : bl_St) (v0 : Nat) (v1 : Int32) (v2 : Int32) (v3 : Int32) (v4 : Int32) (v5 : Int64) (v7 : Int64) (v9 : Int32), bl_Fq ho md_X10_bothChance σ0 σ → (bl_sh[v0]? = some (10, 28) ∧ True) → (b_X10_bothChance_42 k42) σ v0 v1 v2 v3 v4 v5 v7 v9 = some out → bl_Fq ho md_X10_bothChance σ0 out.2 := by
  intro σ v0 v1 v2 v3 v4 v5 v7 v9 qσ hv0 hf
  unfold b_X10_bothChance_42 at hf
  have h1 := bl_Fq_gn qσ hv0 (k := 1) rfl
  rcases bl_if_at hf with hf | hf
  · obtain ⟨-, hf⟩ := bl_gd_at hf
    rw [← Option.some.inj hf]
    exact qσ
  · obtain ⟨r4, σ5, h6, hf⟩ := bl_bd_at hf
    have qσ5 := bl_Fq_call qσ (fr_X10_toldPays σ v0 v9 _ qσ.1 qσ.2.1 hv0.1 h6) (by decide)
    obtain ⟨x7, e8⟩ : ∃ z, z = ((Int32.toInt64 r4) * 1000) := ⟨_, rfl⟩
    have hf := bl_let_at e8 hf
    have h9 := bl_Fq_gn qσ5 hv0 (k := 17) rfl
    obtain ⟨r10, σ11, h12, hf⟩ := bl_bd_at hf
    have qσ11 := bl_Fq_call qσ5 (fr_X10_more σ5 v2 _ qσ5.1 qσ5.2.1  h12) (by decide)
    obtain ⟨r13, σ14, h15, hf⟩ := bl_bd_at hf
    have qσ14 := bl_Fq_call qσ11 (fr_X10_slotOf σ11 (v1 + 1) r10 v3 _ qσ11.1 qσ11.2.1  h15) (by decide)
    obtain ⟨-, hf⟩ := bl_gd_at hf
    have h17 := bl_Fq_gn qσ14 hv0 (k := 17) rfl
    obtain ⟨r18, σ19, h20, hf⟩ := bl_bd_at hf
    have qσ19 := bl_Fq_call qσ14 (fr_X10_more σ14 v3 _ qσ14.1 qσ14.2.1  h20) (by decide)
    obtain ⟨r21, σ22, h23, hf⟩ := bl_bd_at hf
    have qσ22 := bl_Fq_call qσ19 (fr_X10_slotOf σ19 (v1 + 1) v2 r18 _ qσ19.1 qσ19.2.1  h23) (by decide)
    obtain ⟨-, hf⟩ := bl_gd_at hf
    obtain ⟨r25, σ26, h27, hf⟩ := bl_bd_at hf
    have qσ26 := bl_Fq_call qσ22 (fr_X10_lesser σ22 (x7 + (bl_J σ14 (bl_R σ5 v0 17) (Int32.toNatClampNeg r13))) (x7 + (bl_J σ22 (bl_R σ14 v0 17) (Int32.toNatClampNeg r21))) _ qσ22.1 qσ22.2.1  h27) (by decide)
    have h28 := bl_Fq_gn qσ26 hv0 (k := 1) rfl
    obtain ⟨r29, σ30, h31, hf⟩ := bl_bd_at hf
    have qσ30 := bl_Fq_call qσ26 (fr_X10_weight σ26 v0 v9 _ qσ26.1 qσ26.2.1 hv0.1 h31) (by decide)
    obtain ⟨r32, σ33, h34, hf⟩ := bl_bd_at hf
    have qσ33 := bl_Fq_call qσ30 (fr_X10_size σ30 v0 v9 _ qσ30.1 qσ30.2.1 hv0.1 h34) (by decide)
    obtain ⟨r35, σ36, h37, hf⟩ := bl_bd_at hf
    have qσ36 := bl_Fq_call qσ33 (fr_X10_lesser σ33 r25 (((Int32.toInt64 r32) * 1000) + v5) _ qσ33.1 qσ33.2.1  h37) (by decide)
    obtain ⟨x38, e39⟩ : ∃ z, z = (v7 + ((Int32.toInt64 ((bl_I σ26 (bl_R σ26 v0 1) 3) * r29)) * r35)) := ⟨_, rfl⟩
    have hf := bl_let_at e39 hf
    obtain ⟨x40, e41⟩ : ∃ z : Int32, z = v9 + 1 := ⟨_, rfl⟩
    have hf := bl_let_at e41 hf
    exact gk42 σ36 v0 v1 v2 v3 v4 v5 x38 x40 qσ36 hv0 hf
theorem gl_X10_bothChance_42 {ho : Nat → Bool} {σ0 : bl_St} {out : Int64 × bl_St} (n : Nat) : ∀ (σ : bl_St) (v0 : Nat) (v1 : Int32) (v2 : Int32) (v3 : Int32) (v4 : Int32) (v5 : Int64) (v7 : Int64) (v9 : Int32), bl_Fq ho md_X10_bothChance σ0 σ → (bl_sh[v0]? = some (10, 28) ∧ True) → (bl_fx (fun _ _ _ _ _ _ _ _ _ => none) (b_X10_bothChance_42 ) n) σ v0 v1 v2 v3 v4 v5 v7 v9 = some out → bl_Fq ho md_X10_bothChance σ0 out.2 := by
  induction n with
  | zero =>
    intro σ v0 v1 v2 v3 v4 v5 v7 v9 qσ hv0 hf
    cases hf
  | succ n ih => exact gw_X10_bothChance_42  _ ih
set_option maxRecDepth 100000 in
theorem fr_X10_bothChance {ho : Nat → Bool} (σ : bl_St) (a0 : Nat) (a1 : Int32) (a2 : Int32) (a3 : Int32) (o : Int64 × bl_St) (hw : bl_WT σ) (hh : bl_WH ho σ) (ha0 : bl_sh[a0]? = some (10, 28)) (hf : f_X10_bothChance σ a0 a1 a2 a3 = some o) : bl_Fq ho md_X10_bothChance σ o.2 := by
  obtain ⟨σ0, hz⟩ : ∃ z, z = σ := ⟨_, rfl⟩
  suffices hgo : bl_Fq ho md_X10_bothChance σ0 o.2 by rw [hz] at hgo; exact hgo
  have qσ : bl_Fq ho md_X10_bothChance σ0 σ := by rw [hz]; exact ⟨hw, hh, fun _ _ => ⟨rfl, rfl, rfl⟩⟩
  have ha0 := And.intro ha0 trivial
  unfold f_X10_bothChance at hf
  obtain ⟨r42, σ43, h44, hf⟩ := bl_bd_at hf
  have qσ43 := bl_Fq_call qσ (fr_X10_weights σ a0 _ qσ.1 qσ.2.1 ha0.1 h44) (by decide)
  have h45 := bl_Fq_gn qσ43 ha0 (k := 17) rfl
  obtain ⟨r46, σ47, h48, hf⟩ := bl_bd_at hf
  have qσ47 := bl_Fq_call qσ43 (fr_X10_slotOf σ43 (a1 + 1) a2 a3 _ qσ43.1 qσ43.2.1  h48) (by decide)
  obtain ⟨-, hf⟩ := bl_gd_at hf
  obtain ⟨x50, e51⟩ : ∃ z, z = (bl_J σ47 (bl_R σ43 a0 17) (Int32.toNatClampNeg r46)) := ⟨_, rfl⟩
  have hf := bl_let_at e51 hf
  have h52 := bl_Fq_gn qσ47 ha0 (k := 1) rfl
  obtain ⟨x53, e54⟩ : ∃ z, z = ((Int32.toInt64 ((12 - (bl_I σ47 (bl_R σ47 a0 1) 3)) * r42)) * x50) := ⟨_, rfl⟩
  have hf := bl_let_at e54 hf
  exact gl_X10_bothChance_42  bl_fu σ47 a0 a1 a2 a3 r42 x50 x53 0 qσ47 ha0 hf
def md_X10_bothYear : List (Nat × Nat) := [(21, 63)]
set_option maxRecDepth 100000 in
theorem gw_X10_bothYear_107 {ho : Nat → Bool} {σ0 : bl_St} {out : Int64 × bl_St} (k98 : bl_St → Nat → Int32 → Int32 → Int32 → Int32 → Option (Int64 × bl_St)) (gk98 : ∀ (σ : bl_St) (v0 : Nat) (v2 : Int32) (v3 : Int32) (v5 : Int32) (v6 : Int32), bl_Fq ho md_X10_bothYear σ0 σ → (bl_sh[v0]? = some (10, 28) ∧ ho v0 = true) → k98 σ v0 v2 v3 v5 v6 = some out → bl_Fq ho md_X10_bothYear σ0 out.2) (k107 : bl_St → Nat → Int32 → Int32 → Int32 → Int32 → Int32 → Option (Int64 × bl_St)) (gk107 : ∀ (σ : bl_St) (v0 : Nat) (v2 : Int32) (v3 : Int32) (v5 : Int32) (v6 : Int32) (v7 : Int32), bl_Fq ho md_X10_bothYear σ0 σ → (bl_sh[v0]? = some (10, 28) ∧ ho v0 = true) → k107 σ v0 v2 v3 v5 v6 v7 = some out → bl_Fq ho md_X10_bothYear σ0 out.2) : ∀ (σ : bl_St) (v0 : Nat) (v2 : Int32) (v3 : Int32) (v5 : Int32) (v6 : Int32) (v7 : Int32), bl_Fq ho md_X10_bothYear σ0 σ → (bl_sh[v0]? = some (10, 28) ∧ ho v0 = true) → (b_X10_bothYear_107 k98 k107) σ v0 v2 v3 v5 v6 v7 = some out → bl_Fq ho md_X10_bothYear σ0 out.2 := by
  intro σ v0 v2 v3 v5 v6 v7 qσ hv0 hf
  unfold b_X10_bothYear_107 at hf
  rcases bl_if_at hf with hf | hf
  · obtain ⟨x2, e3⟩ : ∃ z : Int32, z = v6 + 1 := ⟨_, rfl⟩
    have hf := bl_let_at e3 hf
    exact gk98 σ v0 v2 v3 v5 x2 qσ hv0 hf
  · have h4 := bl_Fq_g qσ hv0 (k := 17) rfl (by decide)
    obtain ⟨r5, σ6, h7, hf⟩ := bl_bd_at hf
    have qσ6 := bl_Fq_call qσ (fr_X10_slotOf σ v5 v6 v7 _ qσ.1 qσ.2.1  h7) (by decide)
    obtain ⟨r8, σ9, h10, hf⟩ := bl_bd_at hf
    have qσ9 := bl_Fq_call qσ6 (fr_X10_bothChance σ6 v0 v5 v6 v7 _ qσ6.1 qσ6.2.1 hv0.1 h10) (by decide)
    obtain ⟨-, hf⟩ := bl_gd_at hf
    obtain ⟨σ12, e13⟩ : ∃ z : bl_St, z = bl_pJ σ9 (bl_R σ v0 17) (Int32.toNatClampNeg r5) r8 := ⟨_, rfl⟩
    have hf := bl_let_at e13 hf
    have qσ12 : bl_Fq ho md_X10_bothYear σ0 σ12 := by rw [e13]; exact bl_Fq_J qσ9 (bl_al_in h4.1 (by decide) h4.2)
    obtain ⟨x14, e15⟩ : ∃ z : Int32, z = v7 + 1 := ⟨_, rfl⟩
    have hf := bl_let_at e15 hf
    exact gk107 σ12 v0 v2 v3 v5 v6 x14 qσ12 hv0 hf
theorem gl_X10_bothYear_107 {ho : Nat → Bool} {σ0 : bl_St} {out : Int64 × bl_St} (k98 : bl_St → Nat → Int32 → Int32 → Int32 → Int32 → Option (Int64 × bl_St)) (gk98 : ∀ (σ : bl_St) (v0 : Nat) (v2 : Int32) (v3 : Int32) (v5 : Int32) (v6 : Int32), bl_Fq ho md_X10_bothYear σ0 σ → (bl_sh[v0]? = some (10, 28) ∧ ho v0 = true) → k98 σ v0 v2 v3 v5 v6 = some out → bl_Fq ho md_X10_bothYear σ0 out.2) (n : Nat) : ∀ (σ : bl_St) (v0 : Nat) (v2 : Int32) (v3 : Int32) (v5 : Int32) (v6 : Int32) (v7 : Int32), bl_Fq ho md_X10_bothYear σ0 σ → (bl_sh[v0]? = some (10, 28) ∧ ho v0 = true) → (bl_fx (fun _ _ _ _ _ _ _ => none) (b_X10_bothYear_107 k98) n) σ v0 v2 v3 v5 v6 v7 = some out → bl_Fq ho md_X10_bothYear σ0 out.2 := by
  induction n with
  | zero =>
    intro σ v0 v2 v3 v5 v6 v7 qσ hv0 hf
    cases hf
  | succ n ih => exact gw_X10_bothYear_107 k98 gk98 _ ih
set_option maxRecDepth 100000 in
theorem gw_X10_bothYear_98 {ho : Nat → Bool} {σ0 : bl_St} {out : Int64 × bl_St} (k90 : bl_St → Nat → Int32 → Int32 → Int32 → Option (Int64 × bl_St)) (gk90 : ∀ (σ : bl_St) (v0 : Nat) (v2 : Int32) (v3 : Int32) (v5 : Int32), bl_Fq ho md_X10_bothYear σ0 σ → (bl_sh[v0]? = some (10, 28) ∧ ho v0 = true) → k90 σ v0 v2 v3 v5 = some out → bl_Fq ho md_X10_bothYear σ0 out.2) (k98 : bl_St → Nat → Int32 → Int32 → Int32 → Int32 → Option (Int64 × bl_St)) (gk98 : ∀ (σ : bl_St) (v0 : Nat) (v2 : Int32) (v3 : Int32) (v5 : Int32) (v6 : Int32), bl_Fq ho md_X10_bothYear σ0 σ → (bl_sh[v0]? = some (10, 28) ∧ ho v0 = true) → k98 σ v0 v2 v3 v5 v6 = some out → bl_Fq ho md_X10_bothYear σ0 out.2) : ∀ (σ : bl_St) (v0 : Nat) (v2 : Int32) (v3 : Int32) (v5 : Int32) (v6 : Int32), bl_Fq ho md_X10_bothYear σ0 σ → (bl_sh[v0]? = some (10, 28) ∧ ho v0 = true) → (b_X10_bothYear_98 k90 k98) σ v0 v2 v3 v5 v6 = some out → bl_Fq ho md_X10_bothYear σ0 out.2 := by
  intro σ v0 v2 v3 v5 v6 qσ hv0 hf
  unfold b_X10_bothYear_98 at hf
  rcases bl_if_at hf with hf | hf
  · obtain ⟨x17, e18⟩ : ∃ z : Int32, z = v5 + (-1) := ⟨_, rfl⟩
    have hf := bl_let_at e18 hf
    exact gk90 σ v0 v2 v3 x17 qσ hv0 hf
  · exact gl_X10_bothYear_107 k98 gk98 bl_fu σ v0 v2 v3 v5 v6 0 qσ hv0 hf
theorem gl_X10_bothYear_98 {ho : Nat → Bool} {σ0 : bl_St} {out : Int64 × bl_St} (k90 : bl_St → Nat → Int32 → Int32 → Int32 → Option (Int64 × bl_St)) (gk90 : ∀ (σ : bl_St) (v0 : Nat) (v2 : Int32) (v3 : Int32) (v5 : Int32), bl_Fq ho md_X10_bothYear σ0 σ → (bl_sh[v0]? = some (10, 28) ∧ ho v0 = true) → k90 σ v0 v2 v3 v5 = some out → bl_Fq ho md_X10_bothYear σ0 out.2) (n : Nat) : ∀ (σ : bl_St) (v0 : Nat) (v2 : Int32) (v3 : Int32) (v5 : Int32) (v6 : Int32), bl_Fq ho md_X10_bothYear σ0 σ → (bl_sh[v0]? = some (10, 28) ∧ ho v0 = true) → (bl_fx (fun _ _ _ _ _ _ => none) (b_X10_bothYear_98 k90) n) σ v0 v2 v3 v5 v6 = some out → bl_Fq ho md_X10_bothYear σ0 out.2 := by
  induction n with
  | zero =>
    intro σ v0 v2 v3 v5 v6 qσ hv0 hf
    cases hf
  | succ n ih => exact gw_X10_bothYear_98 k90 gk90 _ ih
set_option maxRecDepth 100000 in
theorem gw_X10_bothYear_90 {ho : Nat → Bool} {σ0 : bl_St} {out : Int64 × bl_St} (k90 : bl_St → Nat → Int32 → Int32 → Int32 → Option (Int64 × bl_St)) (gk90 : ∀ (σ : bl_St) (v0 : Nat) (v2 : Int32) (v3 : Int32) (v5 : Int32), bl_Fq ho md_X10_bothYear σ0 σ → (bl_sh[v0]? = some (10, 28) ∧ ho v0 = true) → k90 σ v0 v2 v3 v5 = some out → bl_Fq ho md_X10_bothYear σ0 out.2) : ∀ (σ : bl_St) (v0 : Nat) (v2 : Int32) (v3 : Int32) (v5 : Int32), bl_Fq ho md_X10_bothYear σ0 σ → (bl_sh[v0]? = some (10, 28) ∧ ho v0 = true) → (b_X10_bothYear_90 k90) σ v0 v2 v3 v5 = some out → bl_Fq ho md_X10_bothYear σ0 out.2 := by
  intro σ v0 v2 v3 v5 qσ hv0 hf
  unfold b_X10_bothYear_90 at hf
  rcases bl_if_at hf with hf | hf
  · obtain ⟨r20, σ21, h22, hf⟩ := bl_bd_at hf
    have qσ21 := bl_Fq_call qσ (fr_X10_ofClass σ v0 v2 0 _ qσ.1 qσ.2.1 hv0.1 h22) (by decide)
    obtain ⟨r23, σ24, h25, hf⟩ := bl_bd_at hf
    have qσ24 := bl_Fq_call qσ21 (fr_X10_ofClass σ21 v0 v3 0 _ qσ21.1 qσ21.2.1 hv0.1 h25) (by decide)
    have h26 := bl_Fq_g qσ24 hv0 (k := 17) rfl (by decide)
    rw [← Option.some.inj hf]
    exact qσ24
  · exact gl_X10_bothYear_98 k90 gk90 bl_fu σ v0 v2 v3 v5 0 qσ hv0 hf
theorem gl_X10_bothYear_90 {ho : Nat → Bool} {σ0 : bl_St} {out : Int64 × bl_St} (n : Nat) : ∀ (σ : bl_St) (v0 : Nat) (v2 : Int32) (v3 : Int32) (v5 : Int32), bl_Fq ho md_X10_bothYear σ0 σ → (bl_sh[v0]? = some (10, 28) ∧ ho v0 = true) → (bl_fx (fun _ _ _ _ _ => none) (b_X10_bothYear_90 ) n) σ v0 v2 v3 v5 = some out → bl_Fq ho md_X10_bothYear σ0 out.2 := by
  induction n with
  | zero =>
    intro σ v0 v2 v3 v5 qσ hv0 hf
    cases hf
  | succ n ih => exact gw_X10_bothYear_90  _ ih
set_option maxRecDepth 100000 in
theorem gw_X10_bothYear_22 {ho : Nat → Bool} {σ0 : bl_St} {out : Int64 × bl_St} (k13 : bl_St → Nat → Int32 → Int32 → Int32 → Int32 → Int32 → Option (Int64 × bl_St)) (gk13 : ∀ (σ : bl_St) (v0 : Nat) (v1 : Int32) (v2 : Int32) (v3 : Int32) (v4 : Int32) (v5 : Int32), bl_Fq ho md_X10_bothYear σ0 σ → (bl_sh[v0]? = some (10, 28) ∧ ho v0 = true) → k13 σ v0 v1 v2 v3 v4 v5 = some out → bl_Fq ho md_X10_bothYear σ0 out.2) (k22 : bl_St → Nat → Int32 → Int32 → Int32 → Int32 → Int32 → Int32 → Option (Int64 × bl_St)) (gk22 : ∀ (σ : bl_St) (v0 : Nat) (v1 : Int32) (v2 : Int32) (v3 : Int32) (v4 : Int32) (v5 : Int32) (v6 : Int32), bl_Fq ho md_X10_bothYear σ0 σ → (bl_sh[v0]? = some (10, 28) ∧ ho v0 = true) → k22 σ v0 v1 v2 v3 v4 v5 v6 = some out → bl_Fq ho md_X10_bothYear σ0 out.2) : ∀ (σ : bl_St) (v0 : Nat) (v1 : Int32) (v2 : Int32) (v3 : Int32) (v4 : Int32) (v5 : Int32) (v6 : Int32), bl_Fq ho md_X10_bothYear σ0 σ → (bl_sh[v0]? = some (10, 28) ∧ ho v0 = true) → (b_X10_bothYear_22 k13 k22) σ v0 v1 v2 v3 v4 v5 v6 = some out → bl_Fq ho md_X10_bothYear σ0 out.2 := by
  intro σ v0 v1 v2 v3 v4 v5 v6 qσ hv0 hf
  unfold b_X10_bothYear_22 at hf
  rcases bl_if_at hf with hf | hf
  · obtain ⟨x28, e29⟩ : ∃ z : Int32, z = v5 + 1 := ⟨_, rfl⟩
    have hf := bl_let_at e29 hf
    exact gk13 σ v0 v1 v2 v3 v4 x28 qσ hv0 hf
  · have h30 := bl_Fq_g qσ hv0 (k := 17) rfl (by decide)
    obtain ⟨r31, σ32, h33, hf⟩ := bl_bd_at hf
    have qσ32 := bl_Fq_call qσ (fr_X10_slotOf σ v4 v5 v6 _ qσ.1 qσ.2.1  h33) (by decide)
    have h34 := bl_Fq_g qσ32 hv0 (k := 16) rfl (by decide)
    obtain ⟨r35, σ36, h37, hf⟩ := bl_bd_at hf
    have qσ36 := bl_Fq_call qσ32 (fr_X10_behind σ32 v0 v2 v5 _ qσ32.1 qσ32.2.1 hv0.1 h37) (by decide)
    obtain ⟨r38, σ39, h40, hf⟩ := bl_bd_at hf
    have qσ39 := bl_Fq_call qσ36 (fr_X10_behind σ36 v0 v3 v6 _ qσ36.1 qσ36.2.1 hv0.1 h40) (by decide)
    obtain ⟨-, hf⟩ := bl_gd_at hf
    obtain ⟨-, hf⟩ := bl_gd_at hf
    obtain ⟨σ43, e44⟩ : ∃ z : bl_St, z = bl_pJ σ39 (bl_R σ v0 17) (Int32.toNatClampNeg r31) (bl_J σ39 (bl_R σ32 v0 16) (Int32.toNatClampNeg (((64 * (v1 - 1)) + (8 * r35)) + r38))) := ⟨_, rfl⟩
    have hf := bl_let_at e44 hf
    have qσ43 : bl_Fq ho md_X10_bothYear σ0 σ43 := by rw [e44]; exact bl_Fq_J qσ39 (bl_al_in h30.1 (by decide) h30.2)
    obtain ⟨x45, e46⟩ : ∃ z : Int32, z = v6 + 1 := ⟨_, rfl⟩
    have hf := bl_let_at e46 hf
    exact gk22 σ43 v0 v1 v2 v3 v4 v5 x45 qσ43 hv0 hf
theorem gl_X10_bothYear_22 {ho : Nat → Bool} {σ0 : bl_St} {out : Int64 × bl_St} (k13 : bl_St → Nat → Int32 → Int32 → Int32 → Int32 → Int32 → Option (Int64 × bl_St)) (gk13 : ∀ (σ : bl_St) (v0 : Nat) (v1 : Int32) (v2 : Int32) (v3 : Int32) (v4 : Int32) (v5 : Int32), bl_Fq ho md_X10_bothYear σ0 σ → (bl_sh[v0]? = some (10, 28) ∧ ho v0 = true) → k13 σ v0 v1 v2 v3 v4 v5 = some out → bl_Fq ho md_X10_bothYear σ0 out.2) (n : Nat) : ∀ (σ : bl_St) (v0 : Nat) (v1 : Int32) (v2 : Int32) (v3 : Int32) (v4 : Int32) (v5 : Int32) (v6 : Int32), bl_Fq ho md_X10_bothYear σ0 σ → (bl_sh[v0]? = some (10, 28) ∧ ho v0 = true) → (bl_fx (fun _ _ _ _ _ _ _ _ => none) (b_X10_bothYear_22 k13) n) σ v0 v1 v2 v3 v4 v5 v6 = some out → bl_Fq ho md_X10_bothYear σ0 out.2 := by
  induction n with
  | zero =>
    intro σ v0 v1 v2 v3 v4 v5 v6 qσ hv0 hf
    cases hf
  | succ n ih => exact gw_X10_bothYear_22 k13 gk13 _ ih
set_option maxRecDepth 100000 in
theorem gw_X10_bothYear_13 {ho : Nat → Bool} {σ0 : bl_St} {out : Int64 × bl_St} (k13 : bl_St → Nat → Int32 → Int32 → Int32 → Int32 → Int32 → Option (Int64 × bl_St)) (gk13 : ∀ (σ : bl_St) (v0 : Nat) (v1 : Int32) (v2 : Int32) (v3 : Int32) (v4 : Int32) (v5 : Int32), bl_Fq ho md_X10_bothYear σ0 σ → (bl_sh[v0]? = some (10, 28) ∧ ho v0 = true) → k13 σ v0 v1 v2 v3 v4 v5 = some out → bl_Fq ho md_X10_bothYear σ0 out.2) : ∀ (σ : bl_St) (v0 : Nat) (v1 : Int32) (v2 : Int32) (v3 : Int32) (v4 : Int32) (v5 : Int32), bl_Fq ho md_X10_bothYear σ0 σ → (bl_sh[v0]? = some (10, 28) ∧ ho v0 = true) → (b_X10_bothYear_13 k13) σ v0 v1 v2 v3 v4 v5 = some out → bl_Fq ho md_X10_bothYear σ0 out.2 := by
  intro σ v0 v1 v2 v3 v4 v5 qσ hv0 hf
  unfold b_X10_bothYear_13 at hf
  rcases bl_if_at hf with hf | hf
  · obtain ⟨x48, e49⟩ : ∃ z, z = (v4 - 1) := ⟨_, rfl⟩
    have hf := bl_let_at e49 hf
    exact gl_X10_bothYear_90  bl_fu σ v0 v2 v3 x48 qσ hv0 hf
  · exact gl_X10_bothYear_22 k13 gk13 bl_fu σ v0 v1 v2 v3 v4 v5 0 qσ hv0 hf
theorem gl_X10_bothYear_13 {ho : Nat → Bool} {σ0 : bl_St} {out : Int64 × bl_St} (n : Nat) : ∀ (σ : bl_St) (v0 : Nat) (v1 : Int32) (v2 : Int32) (v3 : Int32) (v4 : Int32) (v5 : Int32), bl_Fq ho md_X10_bothYear σ0 σ → (bl_sh[v0]? = some (10, 28) ∧ ho v0 = true) → (bl_fx (fun _ _ _ _ _ _ _ => none) (b_X10_bothYear_13 ) n) σ v0 v1 v2 v3 v4 v5 = some out → bl_Fq ho md_X10_bothYear σ0 out.2 := by
  induction n with
  | zero =>
    intro σ v0 v1 v2 v3 v4 v5 qσ hv0 hf
    cases hf
  | succ n ih => exact gw_X10_bothYear_13  _ ih
set_option maxRecDepth 100000 in
theorem fr_X10_bothYear {ho : Nat → Bool} (σ : bl_St) (a0 : Nat) (a1 : Int32) (a2 : Int32) (a3 : Int32) (o : Int64 × bl_St) (hw : bl_WT σ) (hh : bl_WH ho σ) (ha0 : bl_sh[a0]? = some (10, 28) ∧ ho a0 = true) (hf : f_X10_bothYear σ a0 a1 a2 a3 = some o) : bl_Fq ho md_X10_bothYear σ o.2 := by
  obtain ⟨σ0, hz⟩ : ∃ z, z = σ := ⟨_, rfl⟩
  suffices hgo : bl_Fq ho md_X10_bothYear σ0 o.2 by rw [hz] at hgo; exact hgo
  have qσ : bl_Fq ho md_X10_bothYear σ0 σ := by rw [hz]; exact ⟨hw, hh, fun _ _ => ⟨rfl, rfl, rfl⟩⟩
  unfold f_X10_bothYear at hf
  have h50 := bl_Fq_g qσ ha0 (k := 1) rfl (by decide)
  obtain ⟨x51, e52⟩ : ∃ z, z = (2 * (bl_I σ (bl_R σ a0 1) 2)) := ⟨_, rfl⟩
  have hf := bl_let_at e52 hf
  exact gl_X10_bothYear_13  bl_fu σ a0 a1 a2 a3 x51 0 qσ ha0 hf
def md_X10_shared : List (Nat × Nat) := [(21, 63), (21, 1344)]
set_option maxRecDepth 100000 in
theorem gw_X10_shared_77 {ho : Nat → Bool} {σ0 : bl_St} {out : Int64 × bl_St} (k63 : bl_St → Nat → Int32 → Int32 → Int32 → Int32 → Int32 → Option (Int64 × bl_St)) (gk63 : ∀ (σ : bl_St) (v0 : Nat) (v1 : Int32) (v2 : Int32) (v3 : Int32) (v4 : Int32) (v5 : Int32), bl_Fq ho md_X10_shared σ0 σ → (bl_sh[v0]? = some (10, 28) ∧ ho v0 = true) → k63 σ v0 v1 v2 v3 v4 v5 = some out → bl_Fq ho md_X10_shared σ0 out.2) (k77 : bl_St → Nat → Int32 → Int32 → Int32 → Int32 → Int32 → Int32 → Option (Int64 × bl_St)) (gk77 : ∀ (σ : bl_St) (v0 : Nat) (v1 : Int32) (v2 : Int32) (v3 : Int32) (v4 : Int32) (v5 : Int32) (v6 : Int32), bl_Fq ho md_X10_shared σ0 σ → (bl_sh[v0]? = some (10, 28) ∧ ho v0 = true) → k77 σ v0 v1 v2 v3 v4 v5 v6 = some out → bl_Fq ho md_X10_shared σ0 out.2) : ∀ (σ : bl_St) (v0 : Nat) (v1 : Int32) (v2 : Int32) (v3 : Int32) (v4 : Int32) (v5 : Int32) (v6 : Int32), bl_Fq ho md_X10_shared σ0 σ → (bl_sh[v0]? = some (10, 28) ∧ ho v0 = true) → (b_X10_shared_77 k63 k77) σ v0 v1 v2 v3 v4 v5 v6 = some out → bl_Fq ho md_X10_shared σ0 out.2 := by
  intro σ v0 v1 v2 v3 v4 v5 v6 qσ hv0 hf
  unfold b_X10_shared_77 at hf
  have h1 := bl_Fq_g qσ hv0 (k := 1) rfl (by decide)
  rcases bl_if_at hf with hf | hf
  · obtain ⟨x3, e4⟩ : ∃ z : Int32, z = v5 + 1 := ⟨_, rfl⟩
    have hf := bl_let_at e4 hf
    exact gk63 σ v0 v1 v2 v3 v4 x3 qσ hv0 hf
  · have h5 := bl_Fq_g qσ hv0 (k := 16) rfl (by decide)
    obtain ⟨r6, σ7, h8, hf⟩ := bl_bd_at hf
    have qσ7 := bl_Fq_call qσ (fr_X10_bothYear σ v0 v4 v5 v6 _ qσ.1 qσ.2.1 hv0 h8) (by decide)
    obtain ⟨-, hf⟩ := bl_gd_at hf
    obtain ⟨σ10, e11⟩ : ∃ z : bl_St, z = bl_pJ σ7 (bl_R σ v0 16) (Int32.toNatClampNeg (((64 * v4) + (8 * v5)) + v6)) r6 := ⟨_, rfl⟩
    have hf := bl_let_at e11 hf
    have qσ10 : bl_Fq ho md_X10_shared σ0 σ10 := by rw [e11]; exact bl_Fq_J qσ7 (bl_al_in h5.1 (by decide) h5.2)
    obtain ⟨x12, e13⟩ : ∃ z : Int32, z = v6 + 1 := ⟨_, rfl⟩
    have hf := bl_let_at e13 hf
    exact gk77 σ10 v0 v1 v2 v3 v4 v5 x12 qσ10 hv0 hf
theorem gl_X10_shared_77 {ho : Nat → Bool} {σ0 : bl_St} {out : Int64 × bl_St} (k63 : bl_St → Nat → Int32 → Int32 → Int32 → Int32 → Int32 → Option (Int64 × bl_St)) (gk63 : ∀ (σ : bl_St) (v0 : Nat) (v1 : Int32) (v2 : Int32) (v3 : Int32) (v4 : Int32) (v5 : Int32), bl_Fq ho md_X10_shared σ0 σ → (bl_sh[v0]? = some (10, 28) ∧ ho v0 = true) → k63 σ v0 v1 v2 v3 v4 v5 = some out → bl_Fq ho md_X10_shared σ0 out.2) (n : Nat) : ∀ (σ : bl_St) (v0 : Nat) (v1 : Int32) (v2 : Int32) (v3 : Int32) (v4 : Int32) (v5 : Int32) (v6 : Int32), bl_Fq ho md_X10_shared σ0 σ → (bl_sh[v0]? = some (10, 28) ∧ ho v0 = true) → (bl_fx (fun _ _ _ _ _ _ _ _ => none) (b_X10_shared_77 k63) n) σ v0 v1 v2 v3 v4 v5 v6 = some out → bl_Fq ho md_X10_shared σ0 out.2 := by
  induction n with
  | zero =>
    intro σ v0 v1 v2 v3 v4 v5 v6 qσ hv0 hf
    cases hf
  | succ n ih => exact gw_X10_shared_77 k63 gk63 _ ih
set_option maxRecDepth 100000 in
theorem gw_X10_shared_63 {ho : Nat → Bool} {σ0 : bl_St} {out : Int64 × bl_St} (k54 : bl_St → Nat → Int32 → Int32 → Int32 → Int32 → Option (Int64 × bl_St)) (gk54 : ∀ (σ : bl_St) (v0 : Nat) (v1 : Int32) (v2 : Int32) (v3 : Int32) (v4 : Int32), bl_Fq ho md_X10_shared σ0 σ → (bl_sh[v0]? = some (10, 28) ∧ ho v0 = true) → k54 σ v0 v1 v2 v3 v4 = some out → bl_Fq ho md_X10_shared σ0 out.2) (k63 : bl_St → Nat → Int32 → Int32 → Int32 → Int32 → Int32 → Option (Int64 × bl_St)) (gk63 : ∀ (σ : bl_St) (v0 : Nat) (v1 : Int32) (v2 : Int32) (v3 : Int32) (v4 : Int32) (v5 : Int32), bl_Fq ho md_X10_shared σ0 σ → (bl_sh[v0]? = some (10, 28) ∧ ho v0 = true) → k63 σ v0 v1 v2 v3 v4 v5 = some out → bl_Fq ho md_X10_shared σ0 out.2) : ∀ (σ : bl_St) (v0 : Nat) (v1 : Int32) (v2 : Int32) (v3 : Int32) (v4 : Int32) (v5 : Int32), bl_Fq ho md_X10_shared σ0 σ → (bl_sh[v0]? = some (10, 28) ∧ ho v0 = true) → (b_X10_shared_63 k54 k63) σ v0 v1 v2 v3 v4 v5 = some out → bl_Fq ho md_X10_shared σ0 out.2 := by
  intro σ v0 v1 v2 v3 v4 v5 qσ hv0 hf
  unfold b_X10_shared_63 at hf
  have h14 := bl_Fq_g qσ hv0 (k := 1) rfl (by decide)
  rcases bl_if_at hf with hf | hf
  · obtain ⟨x16, e17⟩ : ∃ z : Int32, z = v4 + 1 := ⟨_, rfl⟩
    have hf := bl_let_at e17 hf
    exact gk54 σ v0 v1 v2 v3 x16 qσ hv0 hf
  · exact gl_X10_shared_77 k63 gk63 bl_fu σ v0 v1 v2 v3 v4 v5 0 qσ hv0 hf
theorem gl_X10_shared_63 {ho : Nat → Bool} {σ0 : bl_St} {out : Int64 × bl_St} (k54 : bl_St → Nat → Int32 → Int32 → Int32 → Int32 → Option (Int64 × bl_St)) (gk54 : ∀ (σ : bl_St) (v0 : Nat) (v1 : Int32) (v2 : Int32) (v3 : Int32) (v4 : Int32), bl_Fq ho md_X10_shared σ0 σ → (bl_sh[v0]? = some (10, 28) ∧ ho v0 = true) → k54 σ v0 v1 v2 v3 v4 = some out → bl_Fq ho md_X10_shared σ0 out.2) (n : Nat) : ∀ (σ : bl_St) (v0 : Nat) (v1 : Int32) (v2 : Int32) (v3 : Int32) (v4 : Int32) (v5 : Int32), bl_Fq ho md_X10_shared σ0 σ → (bl_sh[v0]? = some (10, 28) ∧ ho v0 = true) → (bl_fx (fun _ _ _ _ _ _ _ => none) (b_X10_shared_63 k54) n) σ v0 v1 v2 v3 v4 v5 = some out → bl_Fq ho md_X10_shared σ0 out.2 := by
  induction n with
  | zero =>
    intro σ v0 v1 v2 v3 v4 v5 qσ hv0 hf
    cases hf
  | succ n ih => exact gw_X10_shared_63 k54 gk54 _ ih
set_option maxRecDepth 100000 in
theorem gw_X10_shared_54 {ho : Nat → Bool} {σ0 : bl_St} {out : Int64 × bl_St} (k54 : bl_St → Nat → Int32 → Int32 → Int32 → Int32 → Option (Int64 × bl_St)) (gk54 : ∀ (σ : bl_St) (v0 : Nat) (v1 : Int32) (v2 : Int32) (v3 : Int32) (v4 : Int32), bl_Fq ho md_X10_shared σ0 σ → (bl_sh[v0]? = some (10, 28) ∧ ho v0 = true) → k54 σ v0 v1 v2 v3 v4 = some out → bl_Fq ho md_X10_shared σ0 out.2) : ∀ (σ : bl_St) (v0 : Nat) (v1 : Int32) (v2 : Int32) (v3 : Int32) (v4 : Int32), bl_Fq ho md_X10_shared σ0 σ → (bl_sh[v0]? = some (10, 28) ∧ ho v0 = true) → (b_X10_shared_54 k54) σ v0 v1 v2 v3 v4 = some out → bl_Fq ho md_X10_shared σ0 out.2 := by
  intro σ v0 v1 v2 v3 v4 qσ hv0 hf
  unfold b_X10_shared_54 at hf
  rcases bl_if_at hf with hf | hf
  · have h19 := bl_Fq_g qσ hv0 (k := 16) rfl (by decide)
    obtain ⟨-, hf⟩ := bl_gd_at hf
    rw [← Option.some.inj hf]
    exact qσ
  · exact gl_X10_shared_63 k54 gk54 bl_fu σ v0 v1 v2 v3 v4 0 qσ hv0 hf
theorem gl_X10_shared_54 {ho : Nat → Bool} {σ0 : bl_St} {out : Int64 × bl_St} (n : Nat) : ∀ (σ : bl_St) (v0 : Nat) (v1 : Int32) (v2 : Int32) (v3 : Int32) (v4 : Int32), bl_Fq ho md_X10_shared σ0 σ → (bl_sh[v0]? = some (10, 28) ∧ ho v0 = true) → (bl_fx (fun _ _ _ _ _ _ => none) (b_X10_shared_54 ) n) σ v0 v1 v2 v3 v4 = some out → bl_Fq ho md_X10_shared σ0 out.2 := by
  induction n with
  | zero =>
    intro σ v0 v1 v2 v3 v4 qσ hv0 hf
    cases hf
  | succ n ih => exact gw_X10_shared_54  _ ih
set_option maxRecDepth 100000 in
theorem gw_X10_shared_30 {ho : Nat → Bool} {σ0 : bl_St} {out : Int64 × bl_St} (k30 : bl_St → Nat → Int32 → Int32 → Int32 → Int32 → Option (Int64 × bl_St)) (gk30 : ∀ (σ : bl_St) (v0 : Nat) (v1 : Int32) (v2 : Int32) (v3 : Int32) (v4 : Int32), bl_Fq ho md_X10_shared σ0 σ → (bl_sh[v0]? = some (10, 28) ∧ ho v0 = true) → k30 σ v0 v1 v2 v3 v4 = some out → bl_Fq ho md_X10_shared σ0 out.2) : ∀ (σ : bl_St) (v0 : Nat) (v1 : Int32) (v2 : Int32) (v3 : Int32) (v4 : Int32), bl_Fq ho md_X10_shared σ0 σ → (bl_sh[v0]? = some (10, 28) ∧ ho v0 = true) → (b_X10_shared_30 k30) σ v0 v1 v2 v3 v4 = some out → bl_Fq ho md_X10_shared σ0 out.2 := by
  intro σ v0 v1 v2 v3 v4 qσ hv0 hf
  unfold b_X10_shared_30 at hf
  rcases bl_if_at hf with hf | hf
  · exact gl_X10_shared_54  bl_fu σ v0 v1 v2 v3 1 qσ hv0 hf
  · have h22 := bl_Fq_g qσ hv0 (k := 16) rfl (by decide)
    obtain ⟨-, hf⟩ := bl_gd_at hf
    obtain ⟨σ24, e25⟩ : ∃ z : bl_St, z = bl_pJ σ (bl_R σ v0 16) (Int32.toNatClampNeg v4) 0 := ⟨_, rfl⟩
    have hf := bl_let_at e25 hf
    have qσ24 : bl_Fq ho md_X10_shared σ0 σ24 := by rw [e25]; exact bl_Fq_J qσ (bl_al_in h22.1 (by decide) h22.2)
    obtain ⟨x26, e27⟩ : ∃ z : Int32, z = v4 + 1 := ⟨_, rfl⟩
    have hf := bl_let_at e27 hf
    exact gk30 σ24 v0 v1 v2 v3 x26 qσ24 hv0 hf
theorem gl_X10_shared_30 {ho : Nat → Bool} {σ0 : bl_St} {out : Int64 × bl_St} (n : Nat) : ∀ (σ : bl_St) (v0 : Nat) (v1 : Int32) (v2 : Int32) (v3 : Int32) (v4 : Int32), bl_Fq ho md_X10_shared σ0 σ → (bl_sh[v0]? = some (10, 28) ∧ ho v0 = true) → (bl_fx (fun _ _ _ _ _ _ => none) (b_X10_shared_30 ) n) σ v0 v1 v2 v3 v4 = some out → bl_Fq ho md_X10_shared σ0 out.2 := by
  induction n with
  | zero =>
    intro σ v0 v1 v2 v3 v4 qσ hv0 hf
    cases hf
  | succ n ih => exact gw_X10_shared_30  _ ih
set_option maxRecDepth 100000 in
theorem fr_X10_shared {ho : Nat → Bool} (σ : bl_St) (a0 : Nat) (a1 : Int32) (a2 : Int32) (a3 : Int32) (o : Int64 × bl_St) (hw : bl_WT σ) (hh : bl_WH ho σ) (ha0 : bl_sh[a0]? = some (10, 28) ∧ ho a0 = true) (hf : f_X10_shared σ a0 a1 a2 a3 = some o) : bl_Fq ho md_X10_shared σ o.2 := by
  obtain ⟨σ0, hz⟩ : ∃ z, z = σ := ⟨_, rfl⟩
  suffices hgo : bl_Fq ho md_X10_shared σ0 o.2 by rw [hz] at hgo; exact hgo
  have qσ : bl_Fq ho md_X10_shared σ0 σ := by rw [hz]; exact ⟨hw, hh, fun _ _ => ⟨rfl, rfl, rfl⟩⟩
  unfold f_X10_shared at hf
  obtain ⟨r28, σ29, h30, hf⟩ := bl_bd_at hf
  have qσ29 := bl_Fq_call qσ (fr_X10_areYears σ a1 _ qσ.1 qσ.2.1  h30) (by decide)
  rcases bl_if_at hf with hf | hf
  · rw [← Option.some.inj hf]
    exact qσ29
  · obtain ⟨r32, σ33, h34, hf⟩ := bl_bd_at hf
    have qσ33 := bl_Fq_call qσ29 (fr_X10_isClass σ29 a0 a2 _ qσ29.1 qσ29.2.1 ha0.1 h34) (by decide)
    rcases bl_if_at hf with hf | hf
    · rw [← Option.some.inj hf]
      exact qσ33
    · obtain ⟨r36, σ37, h38, hf⟩ := bl_bd_at hf
      have qσ37 := bl_Fq_call qσ33 (fr_X10_isClass σ33 a0 a3 _ qσ33.1 qσ33.2.1 ha0.1 h38) (by decide)
      rcases bl_if_at hf with hf | hf
      · rw [← Option.some.inj hf]
        exact qσ37
      · exact gl_X10_shared_30  bl_fu σ37 a0 a1 a2 a3 0 qσ37 ha0 hf
def md_X10_joinedCost : List (Nat × Nat) := [(10, 28), (21, 42), (21, 168), (23, 168)]
set_option maxRecDepth 100000 in
theorem fr_X10_joinedCost {ho : Nat → Bool} (σ : bl_St) (a0 : Nat) (a1 : Int32) (a2 : Int32) (a3 : Int32) (a4 : Int32) (o : Int64 × bl_St) (hw : bl_WT σ) (hh : bl_WH ho σ) (ha0 : bl_sh[a0]? = some (10, 28) ∧ ho a0 = true) (hf : f_X10_joinedCost σ a0 a1 a2 a3 a4 = some o) : bl_Fq ho md_X10_joinedCost σ o.2 := by
  obtain ⟨σ0, hz⟩ : ∃ z, z = σ := ⟨_, rfl⟩
  suffices hgo : bl_Fq ho md_X10_joinedCost σ0 o.2 by rw [hz] at hgo; exact hgo
  have qσ : bl_Fq ho md_X10_joinedCost σ0 σ := by rw [hz]; exact ⟨hw, hh, fun _ _ => ⟨rfl, rfl, rfl⟩⟩
  unfold f_X10_joinedCost at hf
  obtain ⟨σ1, e2⟩ : ∃ z : bl_St, z = bl_pI σ a0 11 0 := ⟨_, rfl⟩
  have hf := bl_let_at e2 hf
  have qσ1 : bl_Fq ho md_X10_joinedCost σ0 σ1 := by rw [e2]; exact bl_Fq_I qσ (bl_al_in ha0.1 (by decide) ha0.2)
  obtain ⟨σ3, e4⟩ : ∃ z : bl_St, z = bl_pI σ1 a0 13 0 := ⟨_, rfl⟩
  have hf := bl_let_at e4 hf
  have qσ3 : bl_Fq ho md_X10_joinedCost σ0 σ3 := by rw [e4]; exact bl_Fq_I qσ1 (bl_al_in ha0.1 (by decide) ha0.2)
  have h5 := bl_Fq_g qσ3 ha0 (k := 1) rfl (by decide)
  obtain ⟨r6, σ7, h8, hf⟩ := bl_bd_at hf
  have qσ7 := bl_Fq_call qσ3 (fr_X10_laysYears σ3 a0 a1 0 (2 * (bl_I σ3 (bl_R σ3 a0 1) 2)) 2 a4 _ qσ3.1 qσ3.2.1 ha0 h8) (by decide)
  obtain ⟨r9, σ10, h11, hf⟩ := bl_bd_at hf
  have qσ10 := bl_Fq_call qσ7 (fr_X10_ofClass σ7 a0 a3 0 _ qσ7.1 qσ7.2.1 ha0.1 h11) (by decide)
  obtain ⟨r12, σ13, h14, hf⟩ := bl_bd_at hf
  have qσ13 := bl_Fq_call qσ10 (fr_X10_ofClass σ10 a0 a2 0 _ qσ10.1 qσ10.2.1 ha0.1 h14) (by decide)
  rcases bl_if_at hf with hf | hf
  · obtain ⟨r16, σ17, h18, hf⟩ := bl_bd_at hf
    have qσ17 := bl_Fq_call qσ13 (fr_X10_costAt σ13 a0 a1 a2 _ qσ13.1 qσ13.2.1 ha0.1 h18) (by decide)
    rw [← Option.some.inj hf]
    exact qσ17
  · obtain ⟨r19, σ20, h21, hf⟩ := bl_bd_at hf
    have qσ20 := bl_Fq_call qσ13 (fr_X10_costAt σ13 a0 a1 a3 _ qσ13.1 qσ13.2.1 ha0.1 h21) (by decide)
    rw [← Option.some.inj hf]
    exact qσ20
def md_X10_joined : List (Nat × Nat) := [(10, 28), (21, 42), (21, 168), (23, 168)]
set_option maxRecDepth 100000 in
theorem fr_X10_joined {ho : Nat → Bool} (σ : bl_St) (a0 : Nat) (a1 : Int32) (a2 : Int32) (a3 : Int32) (a4 : Int32) (o : Int64 × bl_St) (hw : bl_WT σ) (hh : bl_WH ho σ) (ha0 : bl_sh[a0]? = some (10, 28) ∧ ho a0 = true) (hf : f_X10_joined σ a0 a1 a2 a3 a4 = some o) : bl_Fq ho md_X10_joined σ o.2 := by
  obtain ⟨σ0, hz⟩ : ∃ z, z = σ := ⟨_, rfl⟩
  suffices hgo : bl_Fq ho md_X10_joined σ0 o.2 by rw [hz] at hgo; exact hgo
  have qσ : bl_Fq ho md_X10_joined σ0 σ := by rw [hz]; exact ⟨hw, hh, fun _ _ => ⟨rfl, rfl, rfl⟩⟩
  unfold f_X10_joined at hf
  obtain ⟨r1, σ2, h3, hf⟩ := bl_bd_at hf
  have qσ2 := bl_Fq_call qσ (fr_X10_areYears σ a1 _ qσ.1 qσ.2.1  h3) (by decide)
  rcases bl_if_at hf with hf | hf
  · rw [← Option.some.inj hf]
    exact qσ2
  · obtain ⟨r5, σ6, h7, hf⟩ := bl_bd_at hf
    have qσ6 := bl_Fq_call qσ2 (fr_X10_isClass σ2 a0 a2 _ qσ2.1 qσ2.2.1 ha0.1 h7) (by decide)
    rcases bl_if_at hf with hf | hf
    · rw [← Option.some.inj hf]
      exact qσ6
    · obtain ⟨r9, σ10, h11, hf⟩ := bl_bd_at hf
      have qσ10 := bl_Fq_call qσ6 (fr_X10_isClass σ6 a0 a3 _ qσ6.1 qσ6.2.1 ha0.1 h11) (by decide)
      rcases bl_if_at hf with hf | hf
      · rw [← Option.some.inj hf]
        exact qσ10
      · obtain ⟨r13, σ14, h15, hf⟩ := bl_bd_at hf
        have qσ14 := bl_Fq_call qσ10 (fr_X10_in σ10 (Int32.toInt64 a4) 0 50 _ qσ10.1 qσ10.2.1  h15) (by decide)
        rcases bl_if_at hf with hf | hf
        · rw [← Option.some.inj hf]
          exact qσ14
        · obtain ⟨r17, σ18, h19, hf⟩ := bl_bd_at hf
          have qσ18 := bl_Fq_call qσ14 (fr_X10_joinedCost σ14 a0 a1 a2 a3 a4 _ qσ14.1 qσ14.2.1 ha0 h19) (by decide)
          rw [← Option.some.inj hf]
          exact qσ18
