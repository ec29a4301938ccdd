/-! ===== which cells a function leaves as they are ===== -/
def bl_wr (hf : Nat → Bool) (md : List (Nat × Nat)) (i : Nat) : Bool := hf i && (match bl_sh[i]? with | some q => md.contains q | none => false)
def bl_WH (hf : Nat → Bool) (σ : bl_St) : Prop :=
  (∀ (i ci N k : Nat) (t : Nat × Nat), bl_sh[i]? = some (ci, N) → (bl_rt.getD ci [])[k]? = some (some t) → (ci, k) ≠ (4, 0) → hf i = true → hf (bl_R σ i k) = true) ∧
  (∀ i n k : Nat, bl_sh[i]? = some (24, n) → k < n → hf i = true → hf (bl_R σ i k) = true) ∧
  (∀ i n k : Nat, bl_sh[i]? = some (25, n) → k < n → hf i = true → hf (bl_R σ i k) = true)
def bl_Fq (hf : Nat → Bool) (md : List (Nat × Nat)) (σ0 σ : bl_St) : Prop := bl_WT σ ∧ bl_WH hf σ ∧ ∀ i, bl_wr hf md i = false → bl_I σ i = bl_I σ0 i ∧ bl_J σ i = bl_J σ0 i ∧ bl_R σ i = bl_R σ0 i
theorem bl_if_at {α : Type} {P : Prop} {d : Decidable P} {a b o : α} (hf : @ite α P d a b = o) : a = o ∨ b = o := by
  by_cases h : P
  · rw [if_pos h] at hf; exact Or.inl hf
  · rw [if_neg h] at hf; exact Or.inr hf
section BLF
variable {hf : Nat → Bool} {md : List (Nat × Nat)} {σ0 σ : bl_St} {i k : Nat}
theorem bl_al_in {t : Nat × Nat} (hs : bl_sh[i]? = some t) (hm : t ∈ md) (hh : hf i = true) : bl_wr hf md i = true := by
  unfold bl_wr
  rw [hh, hs]
  simpa using hm
theorem bl_Fq_ne {j : Nat} (h : bl_wr hf md i = true) (hj : bl_wr hf md j = false) : j ≠ i := fun z => by rw [z, h] at hj; cases hj
theorem bl_Fq_I {v : Int32} (q : bl_Fq hf md σ0 σ) (h : bl_wr hf md i = true) : bl_Fq hf md σ0 (bl_pI σ i k v) :=
  ⟨q.1, q.2.1, fun j hj => ⟨(bl_u_ne (bl_Fq_ne h hj)).trans (q.2.2 j hj).1, (q.2.2 j hj).2⟩⟩
theorem bl_Fq_J {v : Int64} (q : bl_Fq hf md σ0 σ) (h : bl_wr hf md i = true) : bl_Fq hf md σ0 (bl_pJ σ i k v) :=
  ⟨q.1, q.2.1, fun j hj => ⟨(q.2.2 j hj).1, (bl_u_ne (bl_Fq_ne h hj)).trans (q.2.2 j hj).2.1, (q.2.2 j hj).2.2⟩⟩
theorem bl_Fq_S {f : Nat → Int32} {sp dp cn : Nat} (q : bl_Fq hf md σ0 σ) (h : bl_wr hf md i = true) : bl_Fq hf md σ0 (bl_cS σ f sp i dp cn) :=
  ⟨q.1, q.2.1, fun j hj => ⟨(bl_row_ne (bl_Fq_ne h hj)).trans (q.2.2 j hj).1, (q.2.2 j hj).2⟩⟩
theorem bl_Fq_cI {si sp dp cn : Nat} (q : bl_Fq hf md σ0 σ) (h : bl_wr hf md i = true) : bl_Fq hf md σ0 (bl_cI σ si sp i dp cn) :=
  ⟨q.1, q.2.1, fun j hj => ⟨(bl_row_ne (bl_Fq_ne h hj)).trans (q.2.2 j hj).1, (q.2.2 j hj).2⟩⟩
theorem bl_Fq_cJ {si sp dp cn : Nat} (q : bl_Fq hf md σ0 σ) (h : bl_wr hf md i = true) : bl_Fq hf md σ0 (bl_cJ σ si sp i dp cn) :=
  ⟨q.1, q.2.1, fun j hj => ⟨(q.2.2 j hj).1, (bl_row_ne (bl_Fq_ne h hj)).trans (q.2.2 j hj).2.1, (q.2.2 j hj).2.2⟩⟩
theorem bl_Fq_R {v ci N : Nat} {t : Nat × Nat} (q : bl_Fq hf md σ0 σ) (h : bl_wr hf md i = true) (hs : bl_sh[i]? = some (ci, N)) (hc : ci < 11) (ht : (bl_rt.getD ci [])[k]? = some (some t)) (hv : bl_sh[v]? = some t) (h0 : t ≠ (9, 13)) (hh : hf v = true ∨ (ci, k) = (4, 0)) : bl_Fq hf md σ0 (bl_pR σ i k v) := by
  refine ⟨bl_WT_pR q.1 hs hc ht hv (bl_ne0 hv h0), ⟨fun i' ci' N' k' t' h1 h2 h4 h3 => ?_, fun i' n' k' h1 h2 h3 => ?_, fun i' n' k' h1 h2 h3 => ?_⟩, fun j hj => ⟨(q.2.2 j hj).1, (q.2.2 j hj).2.1, (bl_u_ne (bl_Fq_ne h hj)).trans (q.2.2 j hj).2.2⟩⟩
  · by_cases hi : i' = i
    · subst hi
      by_cases hk : k' = k
      · subst hk
        show hf (bl_u σ.2.2 i' k' v i' k') = true
        simp only [bl_u, if_true]
        rw [hs] at h1
        cases h1
        exact hh.resolve_right h4
      · show hf (bl_u σ.2.2 i' k v i' k') = true
        simp only [bl_u, if_true, if_neg hk]
        exact q.2.1.1 i' ci' N' k' t' h1 h2 h4 h3
    · show hf (bl_u σ.2.2 i k v i' k') = true
      rw [bl_u_ne hi]
      exact q.2.1.1 i' ci' N' k' t' h1 h2 h4 h3
  · have hi : i' ≠ i := fun z => by rw [z, hs] at h1; cases h1; omega
    show hf (bl_u σ.2.2 i k v i' k') = true
    rw [bl_u_ne hi]
    exact q.2.1.2.1 i' n' k' h1 h2 h3
  · have hi : i' ≠ i := fun z => by rw [z, hs] at h1; cases h1; omega
    show hf (bl_u σ.2.2 i k v i' k') = true
    rw [bl_u_ne hi]
    exact q.2.1.2.2 i' n' k' h1 h2 h3
theorem bl_Fq_g {ci N : Nat} {t : Nat × Nat} (q : bl_Fq hf md σ0 σ) (hs : bl_sh[i]? = some (ci, N) ∧ hf i = true) (ht : (bl_rt.getD ci [])[k]? = some (some t)) (h4 : (ci, k) ≠ (4, 0)) : bl_sh[bl_R σ i k]? = some t ∧ hf (bl_R σ i k) = true := ⟨(q.1.1 i ci N k t hs.1 ht).2, q.2.1.1 i ci N k t hs.1 ht h4 hs.2⟩
theorem bl_Fq_gn {ci N : Nat} {t : Nat × Nat} {P : Prop} (q : bl_Fq hf md σ0 σ) (hs : bl_sh[i]? = some (ci, N) ∧ P) (ht : (bl_rt.getD ci [])[k]? = some (some t)) : bl_sh[bl_R σ i k]? = some t ∧ True := ⟨(q.1.1 i ci N k t hs.1 ht).2, trivial⟩
theorem bl_Fq_24 {n : Nat} (q : bl_Fq hf md σ0 σ) (hs : bl_sh[i]? = some (24, n) ∧ hf i = true) (hk : k < n) : bl_sh[bl_R σ i k]? = some (8, 5) ∧ hf (bl_R σ i k) = true := ⟨(q.1.2.1 i n k hs.1 hk).2, q.2.1.2.1 i n k hs.1 hk hs.2⟩
theorem bl_Fq_25 {n : Nat} (q : bl_Fq hf md σ0 σ) (hs : bl_sh[i]? = some (25, n) ∧ hf i = true) (hk : k < n) : bl_sh[bl_R σ i k]? = some (2, 15) ∧ hf (bl_R σ i k) = true := ⟨(q.1.2.2 i n k hs.1 hk).2, q.2.1.2.2 i n k hs.1 hk hs.2⟩
theorem bl_wr_sub {md2 : List (Nat × Nat)} (h : ∀ x ∈ md2, x ∈ md) {j : Nat} (hj : bl_wr hf md j = false) : bl_wr hf md2 j = false := by
  cases h2 : bl_wr hf md2 j with
  | false => rfl
  | true =>
    unfold bl_wr at h2 hj
    cases hs : bl_sh[j]? with
    | none => rw [hs] at h2; simp at h2
    | some q =>
      rw [hs] at h2 hj
      simp only [Bool.and_eq_true, List.contains_iff_mem] at h2
      have := h q h2.2
      rw [h2.1] at hj
      simp [this] at hj
theorem bl_Fq_call {md2 : List (Nat × Nat)} {σ1 : bl_St} (q : bl_Fq hf md σ0 σ) (q2 : bl_Fq hf md2 σ σ1) (h : ∀ x ∈ md2, x ∈ md) : bl_Fq hf md σ0 σ1 :=
  ⟨q2.1, q2.2.1, fun j hj => by
    obtain ⟨a1, a2, a3⟩ := q.2.2 j hj
    obtain ⟨b1, b2, b3⟩ := q2.2.2 j (bl_wr_sub h hj)
    exact ⟨b1.trans a1, b2.trans a2, b3.trans a3⟩⟩
end BLF
theorem z_J0_length_8abf5 {σ σ1 : bl_St} {j : Nat} {r : Int32} (h : f_J0_length_8abf5 σ j = some (r, σ1)) : σ = σ1 := by
  have := (bl_gd_at h).2
  cases this
  rfl
theorem z_J0_charAt_5068e {σ σ1 : bl_St} {j : Nat} {i r : Int32} (h : f_J0_charAt_5068e σ j i = some (r, σ1)) : σ = σ1 := by
  have := (bl_gd_at h).2
  cases this
  rfl
theorem bl_Fq_life {hf : Nat → Bool} {md : List (Nat × Nat)} {σ0 σ σ1 : bl_St} {a0 r : Nat} (q : bl_Fq hf md σ0 σ1) (ha0 : bl_sh[a0]? = some (9, 13) ∧ hf a0 = true) (hc : f_X9_lifeElsewhere σ a0 = some (r, σ1)) : bl_sh[r]? = some (2, 15) ∧ hf r = true := by
  refine ⟨s_X9_lifeElsewhere q.1 ha0.1 hc, ?_⟩
  unfold f_X9_lifeElsewhere at hc
  obtain ⟨_, σa, -, hc⟩ := bl_bd_at hc
  have hc := bl_let_at rfl hc
  cases hc
  exact q.2.1.1 a0 9 13 5 (2, 15) ha0.1 rfl (by decide) ha0.2
