/-! the class's copies, past, outlook anew -/
def lZero : lf_V := ((0, 0, 0, 0, 0), (0, 0, 0, 0), (0, 0, 0, 0), (fun _ _ => 0), (fun _ _ => 0))
/-- a life that is nothing but a place -/
def lAt (p : Nat) : lf_V := ((p, 0, 0, 0, 0), (0, 0, 0, 0), (0, 0, 0, 0), (fun _ _ => 0), (fun _ _ => 0))
theorem Ring.zero (f : Nat → Int32) (bk : Nat → Nat → Nat) : Ring f 0 bk := fun k w hk _ => absurd hk (by simp)
theorem Shelf.zero (f : Nat → Int32) (bk : Nat → Nat → Nat) : Shelf f 0 bk := fun k w hk _ => absurd hk (by simp)
section XPS
variable {σ : bl_St} {v : tm_V} {l : lf_V} {a t : Nat}
theorem x_clear (hR : bl_R σ a 13 = a + 1 ∧ bl_R σ a 14 = a + 2) : ∃ σ1, f_X2_clear σ a = some ((), σ1) ∧ Kq (fun i => i = a) σ σ1 ∧ bl_R σ1 = bl_R σ ∧ LX σ1 a lZero := by
  obtain ⟨σ1, e1⟩ : ∃ z, z = bl_pI (bl_pI (bl_pI (bl_pI (bl_pI (bl_pI (bl_pI (bl_pI (bl_pI (bl_pI (bl_pI (bl_pI (bl_pI σ a 0 0) a 6 0) a 7 0) a 8 0) a 9 0) a 10 0) a 11 0) a 12 0) a 1 0) a 2 0) a 3 0) a 4 0) a 5 0 := ⟨_, rfl⟩
  refine ⟨σ1, by rw [e1]; rfl, ?_, by rw [e1]; rfl, ?_⟩
  · rw [e1]
    exact (((((((((((((Kq.rf (fun i => i = a) σ).pI rfl _ _).pI rfl _ _).pI rfl _ _).pI rfl _ _).pI rfl _ _).pI rfl _ _).pI rfl _ _).pI rfl _ _).pI rfl _ _).pI rfl _ _).pI rfl _ _).pI rfl _ _).pI rfl _ _
  · have hR1 : bl_R σ1 = bl_R σ := by rw [e1]; rfl
    refine ⟨by rw [hR1]; exact hR, ?_, fun h => absurd h (by decide), ?_, Ring.zero _ _, Ring.zero _ _⟩
    · rw [e1]
      simp [I_pI, lZero]
      rfl
    · rw [e1]
      simp [I_pI, lZero]
      rfl
theorem x_lcopy {d : Nat} (hX : LX σ a l) (hU : lO l < 2 ∧ lU l < 2) (hR : bl_R σ d 13 = d + 1 ∧ bl_R σ d 14 = d + 2) (hsep : a + 2 < d ∨ d + 2 < a) : ∃ σ1, f_X2_copy σ d a = some ((), σ1) ∧ Kq (fun i => d ≤ i ∧ i ≤ d + 2) σ σ1 ∧ bl_R σ1 = bl_R σ ∧ LX σ1 d l := by
  obtain ⟨⟨r1, r2⟩, ⟨a0, a1, a2, a3, a4⟩, b, ⟨c1, c2, c3, c4, c5, c6, c7⟩, d1, d2⟩ := hX
  obtain ⟨σ2, e2⟩ : ∃ z, z = bl_pI (bl_pI (bl_pI (bl_pI (bl_pI (bl_pI (bl_pI (bl_pI (bl_pI (bl_pI (bl_pI (bl_pI (bl_pI σ d 0 (bl_I σ a 0)) d 1 (bl_I σ a 1)) d 2 (bl_I σ a 2)) d 3 (bl_I σ a 3)) d 4 (bl_I σ a 4)) d 5 (bl_I σ a 5)) d 6 (bl_I σ a 6)) d 7 (bl_I σ a 7)) d 8 (bl_I σ a 8)) d 9 (bl_I σ a 9)) d 10 (bl_I σ a 10)) d 11 (bl_I σ a 11)) d 12 (bl_I σ a 12) := ⟨_, rfl⟩
  have hne : a ≠ d := by omega
  have R2 : bl_R σ2 = bl_R σ := by rw [e2]; rfl
  obtain ⟨σ3, e3⟩ : ∃ z, z = bl_cI (bl_cI σ2 (a + 1) 0 (d + 1) 0 48) (a + 2) 0 (d + 2) 0 48 := ⟨_, rfl⟩
  have k2 : Kq (fun i => d ≤ i ∧ i ≤ d + 2) σ σ2 := by
    rw [e2]
    exact (((((((((((((Kq.rf (fun i => d ≤ i ∧ i ≤ d + 2) σ).pI (by omega) _ _).pI (by omega) _ _).pI (by omega) _ _).pI (by omega) _ _).pI (by omega) _ _).pI (by omega) _ _).pI (by omega) _ _).pI (by omega) _ _).pI (by omega) _ _).pI (by omega) _ _).pI (by omega) _ _).pI (by omega) _ _).pI (by omega) _ _
  have R3 : bl_R σ3 = bl_R σ := by rw [e3]; exact R2
  refine ⟨σ3, ?_, by rw [e3]; exact (k2.cI (by omega) _ _ _ _).cI (by omega) _ _ _ _, R3, ?_⟩
  · unfold f_X2_copy
    simp only [let_eq]
    have hb1 : bl_bo (bl_I (bl_pI σ d 0 (bl_I σ a 0)) a 1) = true := by rw [I_pI_o hne, a1]; exact bo_lt hU.1
    rw [gd_of hb1]
    simp only [I_pI_o hne, R_pI]
    rw [gd_of (by rw [a4]; exact bo_lt hU.2), ← e2, r1, hR.1]
    have R2' : bl_R (bl_cI σ2 (a + 1) (Int32.toNatClampNeg 0) (d + 1) (Int32.toNatClampNeg 0) (Int32.toNatClampNeg 48)) = bl_R σ := R2
    rw [R2', r2, hR.2, e3]
    rfl
  · have i3 : ∀ k, k < 13 → bl_I σ3 d k = bl_I σ a k := by
      intro k hk
      rw [e3, I_cI, if_neg (by omega), I_cI, if_neg (by omega), e2]
      rcases (show k = 0 ∨ k = 1 ∨ k = 2 ∨ k = 3 ∨ k = 4 ∨ k = 5 ∨ k = 6 ∨ k = 7 ∨ k = 8 ∨ k = 9 ∨ k = 10 ∨ k = 11 ∨ k = 12 by omega) with rfl | rfl | rfl | rfl | rfl | rfl | rfl | rfl | rfl | rfl | rfl | rfl | rfl <;> simp [I_pI]
    have s1 : ∀ j, j < 48 → bl_I σ3 (d + 1) j = bl_I σ (a + 1) j := by
      intro j hj
      rw [e3, I_cI, if_neg (by omega), I_cI, if_pos (by omega), (k2 (a + 1) (by omega)).1]
      congr 1
      omega
    have s2 : ∀ j, j < 48 → bl_I σ3 (d + 2) j = bl_I σ (a + 2) j := by
      intro j hj
      rw [e3, I_cI, if_pos (by omega), I_cI, if_neg (by omega), (k2 (a + 2) (by omega)).1]
      congr 1
      omega
    refine ⟨by rw [R3]; exact hR, ?_, fun h => by rw [i3 5 (by decide)]; exact b h, ?_, fun k w hk hw => ?_, fun k w hk hw => ?_⟩
    · rw [i3 0 (by decide), i3 1 (by decide), i3 2 (by decide), i3 3 (by decide), i3 4 (by decide)]
      exact ⟨a0, a1, a2, a3, a4⟩
    · rw [i3 6 (by decide), i3 7 (by decide), i3 8 (by decide), i3 9 (by decide), i3 10 (by decide), i3 11 (by decide), i3 12 (by decide)]
      exact ⟨c1, c2, c3, c4, c5, c6, c7⟩
    · rw [s1 _ (by omega)]
      exact d1 k w hk hw
    · rw [s2 _ (by omega)]
      exact d2 k w hk hw
theorem x_tcopy {d : Nat} (hT : TX σ t v) (ok : TOk v) (hR : bl_R σ d 2 = d + 1 ∧ bl_R σ d 3 = d + 2 ∧ bl_R σ d 4 = d + 3) (hsep : t + 3 < d ∨ d + 3 < t) : ∃ σ1, f_X8_copy σ d t = some ((), σ1) ∧ Kq (fun i => d ≤ i ∧ i ≤ d + 3) σ σ1 ∧ bl_R σ1 = bl_R σ ∧ TX σ1 d v := by
  have h8 := ok.n8
  have h5 := ok.k5
  obtain ⟨⟨r1, r2, r3⟩, ⟨a0, a1⟩, c1, c2, ⟨b0, b1, b2⟩⟩ := hT
  obtain ⟨σ2, e2⟩ : ∃ z, z = bl_pI (bl_pI σ d 0 (bl_I σ t 0)) d 1 (bl_I σ t 1) := ⟨_, rfl⟩
  have hne : t ≠ d := by omega
  have R2 : bl_R σ2 = bl_R σ := by rw [e2]; rfl
  obtain ⟨σ3, e3⟩ : ∃ z, z = bl_cI (bl_cI (bl_cI σ2 (t + 1) 0 (d + 1) 0 40) (t + 2) 0 (d + 2) 0 10) (t + 3) 0 (d + 3) 0 3 := ⟨_, rfl⟩
  have k2 : Kq (fun i => d ≤ i ∧ i ≤ d + 3) σ σ2 := by
    rw [e2]
    exact ((Kq.rf (fun i => d ≤ i ∧ i ≤ d + 3) σ).pI (by omega) _ _).pI (by omega) _ _
  have R3 : bl_R σ3 = bl_R σ := by rw [e3]; exact R2
  refine ⟨σ3, ?_, by rw [e3]; exact ((k2.cI (by omega) _ _ _ _).cI (by omega) _ _ _ _).cI (by omega) _ _ _ _, R3, ?_⟩
  · unfold f_X8_copy
    simp only [let_eq]
    simp only [I_pI_o hne]
    rw [← e2]
    have q1 : bl_R (bl_cI σ2 (bl_R σ2 t 2) (Int32.toNatClampNeg 0) (bl_R σ2 d 2) (Int32.toNatClampNeg 0) (Int32.toNatClampNeg 40)) = bl_R σ := R2
    have q2 : bl_R (bl_cI (bl_cI σ2 (bl_R σ2 t 2) (Int32.toNatClampNeg 0) (bl_R σ2 d 2) (Int32.toNatClampNeg 0) (Int32.toNatClampNeg 40)) (bl_R σ t 3) (Int32.toNatClampNeg 0) (bl_R σ d 3) (Int32.toNatClampNeg 0) (Int32.toNatClampNeg 10)) = bl_R σ := R2
    rw [q1, q2, R2, r1, r2, r3, hR.1, hR.2.1, hR.2.2, e3]
    rfl
  · have i3 : ∀ k, k < 2 → bl_I σ3 d k = bl_I σ t k := by
      intro k hk
      rw [e3, I_cI, if_neg (by omega), I_cI, if_neg (by omega), I_cI, if_neg (by omega), e2]
      rcases (show k = 0 ∨ k = 1 by omega) with rfl | rfl <;> simp [I_pI]
    have s1 : ∀ j, j < 40 → bl_I σ3 (d + 1) j = bl_I σ (t + 1) j := by
      intro j hj
      rw [e3, I_cI, if_neg (by omega), I_cI, if_neg (by omega), I_cI, if_pos (by omega), (k2 (t + 1) (by omega)).1]
      congr 1
      omega
    have s2 : ∀ j, j < 10 → bl_I σ3 (d + 2) j = bl_I σ (t + 2) j := by
      intro j hj
      rw [e3, I_cI, if_neg (by omega), I_cI, if_pos (by omega), I_cI, if_neg (by omega), (k2 (t + 2) (by omega)).1]
      congr 1
      omega
    have s3 : ∀ j, j < 3 → bl_I σ3 (d + 3) j = bl_I σ (t + 3) j := by
      intro j hj
      rw [e3, I_cI, if_pos (by omega), I_cI, if_neg (by omega), I_cI, if_neg (by omega), (k2 (t + 3) (by omega)).1]
      congr 1
      omega
    refine ⟨by rw [R3]; exact hR, ⟨(i3 0 (by decide)).trans a0, (i3 1 (by decide)).trans a1⟩, fun i hi => (s1 i (by omega)).trans (c1 i hi), fun i hi => (s2 i (by omega)).trans (c2 i hi), (s3 0 (by decide)).trans b0, (s3 1 (by decide)).trans b1, (s3 2 (by decide)).trans b2⟩
/-- an outlook's own wires -/
def OR (σ : bl_St) (o : Nat) : Prop := ((bl_R σ o 9 = o + 1 ∧ bl_R σ o 10 = o + 6 ∧ bl_R σ o 11 = o + 7) ∧ (bl_R σ (o + 1) 4 = o + 1 + 1 ∧ bl_R σ (o + 1) 5 = o + 1 + 2 ∧ bl_R σ (o + 1) 6 = o + 1 + 3 ∧ bl_R σ (o + 1) 7 = o + 1 + 4)) ∧ ∀ d, d < 8 → bl_J σ (o + 6) d = 0
theorem OR.kq {S : Nat → Prop} {σ σ1 : bl_St} {o : Nat} (h : OR σ o) (k : Kq S σ σ1) (hs : ∀ i, o ≤ i → i ≤ o + 7 → ¬ S i) : OR σ1 o := by
  have e0 := (k o (hs o (by omega) (by omega))).2.2
  have e1 := (k (o + 1) (hs (o + 1) (by omega) (by omega))).2.2
  have e6 := (k (o + 6) (hs (o + 6) (by omega) (by omega))).2.1
  unfold OR at *
  rw [e0, e1, e6]
  exact h
theorem OX.or {o t : Nat} {v : tm_V} {rl lm : Nat} {w gd : Bool} {cars hu kn : Nat} (h : OX σ o t v rl lm w gd cars hu kn) : OR σ o := ⟨⟨h.1.1.2, h.1.2⟩, h.2.2.2.1⟩
theorem OX.kq {S : Nat → Prop} {σ σ1 : bl_St} {o t : Nat} {v : tm_V} {rl lm : Nat} {w gd : Bool} {cars hu kn : Nat} (h : OX σ o t v rl lm w gd cars hu kn) (k : Kq S σ σ1) (h1 : ∀ i, o ≤ i → i ≤ o + 7 → ¬ S i) (h2 : ∀ i, t ≤ i → i ≤ t + 3 → ¬ S i) : OX σ1 o t v rl lm w gd cars hu kn := by
  have T := h.2.1.kq k h2
  obtain ⟨i0, j0, e0⟩ := k o (h1 o (by omega) (by omega))
  obtain ⟨i1, j1, e1⟩ := k (o + 1) (h1 (o + 1) (by omega) (by omega))
  obtain ⟨-, j2, -⟩ := k (o + 1 + 1) (h1 (o + 2) (by omega) (by omega))
  obtain ⟨-, j3, -⟩ := k (o + 1 + 2) (h1 (o + 3) (by omega) (by omega))
  obtain ⟨-, j4, -⟩ := k (o + 1 + 3) (h1 (o + 4) (by omega) (by omega))
  obtain ⟨i5, -, -⟩ := k (o + 1 + 4) (h1 (o + 5) (by omega) (by omega))
  obtain ⟨-, j6, -⟩ := k (o + 6) (h1 (o + 6) (by omega) (by omega))
  refine ⟨by rw [e0, e1]; exact h.1, T, by rw [i0]; exact h.2.2.1, by rw [j6]; exact h.2.2.2.1, h.2.2.2.2.1, fun z => ?_⟩
  have q := h.2.2.2.2.2 z
  refine ⟨⟨?_, by rw [i0]; exact q.1.2⟩, by rw [j6]; exact q.2⟩
  unfold XLs at *
  rw [e1, i1, j1, j2, j3, j4, i5]
  exact q.1.1
/-- Outlook.look -/
theorem x_look {o : Nat} (h : OR σ o) (hT : TX σ t v) (gd : Bool) (hsep : t + 3 < o ∨ o + 7 < t) : ∃ σ1, f_X4_look σ o t (gI gd) = some ((), σ1) ∧ Kq (fun i => i = o) σ σ1 ∧ OX σ1 o t v 0 0 false gd 1 0 0 := by
  obtain ⟨σ1, e1⟩ : ∃ z, z = bl_pI (bl_pI (bl_pI (bl_pI (bl_pI (bl_pI (bl_pI (bl_pR σ o 0 t) o 1 (gI gd)) o 2 0) o 3 0) o 4 0) o 5 1) o 6 0) o 7 0 := ⟨_, rfl⟩
  have k1 : Kq (fun i => i = o) σ σ1 := by
    rw [e1]
    exact ((((((((Kq.rf (fun i => i = o) σ).pR rfl _ _).pI rfl _ _).pI rfl _ _).pI rfl _ _).pI rfl _ _).pI rfl _ _).pI rfl _ _).pI rfl _ _
  have hRo : ∀ k, k ≠ 0 → bl_R σ1 o k = bl_R σ o k := by
    intro k hk
    rw [e1]
    show bl_u σ.2.2 o 0 t o k = _
    simp [bl_u, hk]
  have hR0 : bl_R σ1 o 0 = t := by
    rw [e1]
    show bl_u σ.2.2 o 0 t o 0 = _
    simp [bl_u]
  refine ⟨σ1, ?_, k1, ⟨⟨⟨hR0, by rw [hRo 9 (by decide), hRo 10 (by decide), hRo 11 (by decide)]; exact h.1.1⟩, by rw [(k1 (o + 1) (by omega)).2.2]; exact h.1.2⟩, hT.kq k1 (fun i a b c => by omega), ?_, by rw [(k1 (o + 6) (by omega)).2.1]; exact h.2, by decide, fun z => absurd z (by decide)⟩⟩
  · unfold f_X4_look
    have : bl_bo (gI gd) = true := by cases gd <;> rfl
    simp only [let_eq]
    rw [gd_of this, e1]
  · rw [e1]
    simp [I_pI]
    exact ⟨rfl, rfl, rfl⟩
end XPS
