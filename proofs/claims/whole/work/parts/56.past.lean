/-! ===== the past ===== -/
def pcs (x : tm_V × lf_V) (p : Nat → tm_V × lf_V) : Nat → tm_V × lf_V
  | 0 => x
  | k + 1 => p k
/-- the wires of the class's past -/
def PR (σ : bl_St) : Prop := (bl_R σ 24 0 = 25 ∧ bl_R σ 24 1 = 26) ∧ ∀ i, i < 12 → (bl_R σ 25 i = 27 + 7 * i ∧ bl_R σ 26 i = 31 + 7 * i) ∧ (bl_R σ (27 + 7 * i) 2 = 27 + 7 * i + 1 ∧ bl_R σ (27 + 7 * i) 3 = 27 + 7 * i + 2 ∧ bl_R σ (27 + 7 * i) 4 = 27 + 7 * i + 3) ∧ (bl_R σ (31 + 7 * i) 13 = 31 + 7 * i + 1 ∧ bl_R σ (31 + 7 * i) 14 = 31 + 7 * i + 2)
def PX (σ : bl_St) (nx kp : Nat) (p : Nat → tm_V × lf_V) : Prop :=
  PR σ ∧ (bl_I σ 24 2 = nI nx ∧ bl_I σ 24 3 = nI kp) ∧ (nx < 12 ∧ kp ≤ 12) ∧ ∀ j, j < kp → TX σ (27 + 7 * ((nx + 11 - j) % 12)) (p j).1 ∧ LX σ (31 + 7 * ((nx + 11 - j) % 12)) (p j).2
theorem PX.kq {S : Nat → Prop} {σ σ1 : bl_St} {nx kp : Nat} {p : Nat → tm_V × lf_V} (h : PX σ nx kp p) (k : Kq S σ σ1) (hs : ∀ i, 24 ≤ i → i ≤ 110 → ¬ S i) : PX σ1 nx kp p := by
  have hR : ∀ i, 24 ≤ i → i ≤ 110 → bl_R σ1 i = bl_R σ i := fun i a b => (k i (hs i a b)).2.2
  refine ⟨⟨?_, fun i hi => ?_⟩, by rw [(k 24 (hs 24 (by decide) (by decide))).1]; exact h.2.1, h.2.2.1, fun j hj => ⟨(h.2.2.2 j hj).1.kq k (fun i a b => hs i (by omega) (by omega)), (h.2.2.2 j hj).2.kq k (fun i a b => hs i (by omega) (by omega))⟩⟩
  · rw [hR 24 (by decide) (by decide)]
    exact h.1.1
  · rw [hR 25 (by decide) (by decide), hR 26 (by decide) (by decide), hR (27 + 7 * i) (by omega) (by omega), hR (31 + 7 * i) (by omega) (by omega)]
    exact h.1.2 i hi
theorem nI_mod12 {a : Nat} (ha : a < 2 ^ 31) : nI a - nI a / 12 * 12 = nI (a % 12) := nI_mod ha (show 12 < 2 ^ 31 by decide)
/-- Past.keep -/
theorem x_keep {σ : bl_St} {nx kp : Nat} {p : Nat → tm_V × lf_V} {v : tm_V} {l : lf_V} {n t a : Nat} (h : PX σ nx kp p) (hT : TX σ t v) (ok : TOk v) (hL : LX σ a l) (lk : LOk v l n) (ht : t + 3 < 24) (ha : a + 2 < 24) :
    ∃ σ1, f_X6_keep σ 24 t a = some ((), σ1) ∧ Kq (fun i => 24 ≤ i ∧ i ≤ 110) σ σ1 ∧ PX σ1 ((nx + 1) % 12) (min 12 (kp + 1)) (pcs (v, l) p) := by
  obtain ⟨hR, ⟨i2, i3⟩, ⟨hnx, hkp⟩, hp⟩ := h
  have r := hR.2 nx hnx
  obtain ⟨σa, ea, ka, Ra, Ta⟩ := x_tcopy (d := 27 + 7 * nx) hT ok r.2.1 (by omega)
  obtain ⟨σb, eb, kb, Rb, Lb⟩ := x_lcopy (d := 31 + 7 * nx) (hL.kq ka (fun i h1 h2 h3 => by omega)) ⟨by have := lk.2.1.1; omega, by have := lk.2.1.2.2; omega⟩ (by rw [Ra]; exact r.2.2) (by omega)
  have i2a : bl_I σa 24 2 = nI nx := by rw [(ka 24 (by omega)).1]; exact i2
  have i2b : bl_I σb 24 2 = nI nx := by rw [(kb 24 (by omega)).1]; exact i2a
  have i3b : bl_I σb 24 3 = nI kp := by rw [(kb 24 (by omega)).1, (ka 24 (by omega)).1]; exact i3
  obtain ⟨σ1, e1⟩ : ∃ z, z = bl_pI (bl_pI σb 24 2 (nI ((nx + 1) % 12))) 24 3 (nI (min 12 (kp + 1))) := ⟨_, rfl⟩
  have R1 : bl_R σ1 = bl_R σ := by rw [e1]; exact Rb.trans Ra
  have k1 : Kq (fun i => (27 + 7 * nx ≤ i ∧ i ≤ 27 + 7 * nx + 6) ∨ i = 24) σ σ1 := by
    rw [e1]
    exact ((((ka.mono (fun i hi => by omega)).tr (kb.mono (fun i hi => by omega)))).pI (Or.inr rfl) _ _).pI (Or.inr rfl) _ _
  have k24 : Kq (fun i => i = 24) σb σ1 := by
    rw [e1]
    exact ((Kq.rf (fun i => i = 24) σb).pI rfl _ _).pI rfl _ _
  refine ⟨σ1, ?_, k1.mono (fun i hi => by omega), ⟨?_, ⟨?_, ?_⟩, ⟨Nat.mod_lt _ (by decide), by omega⟩, fun j hj => ?_⟩⟩
  · unfold f_X6_keep
    rw [i2, in_nI hnx (by decide), gd_true, hR.1.1, nI_clamp (by omega), r.1.1, ea, bd_some, i2a, in_nI hnx (by decide), gd_true, Ra, hR.1.2, nI_clamp (by omega), r.1.2, eb, bd_some, let_eq, let_eq, i2b, nI_1, nI_mod12 (by omega)]
    have q3 : bl_I (bl_pI σb 24 2 (nI ((nx + 1) % 12))) 24 3 = nI kp := by rw [I_pI_ne (by decide)]; exact i3b
    rw [q3, nI_1]
    have q4 : (if nI (kp + 1) < 12 then nI (kp + 1) else 12) = nI (min 12 (kp + 1)) := by
      show (if nI (kp + 1) < nI 12 then nI (kp + 1) else nI 12) = _
      by_cases hk : kp + 1 < 12
      · rw [if_pos (show nI (kp + 1) < nI 12 from nI_lt hk (by decide)), Nat.min_eq_right (by omega)]
      · rw [if_neg (show ¬ nI (kp + 1) < nI 12 from nI_nlt (by omega) (by omega)), Nat.min_eq_left (by omega)]
    rw [q4, e1]
  · unfold PR
    rw [R1]
    exact hR
  · rw [e1]; simp [I_pI]
  · rw [e1]; simp [I_pI]
  · cases j with
    | zero =>
      rw [show ((nx + 1) % 12 + 11 - 0) % 12 = nx by omega]
      exact ⟨(Ta.kq kb (fun i h1 h2 h3 => by omega)).kq k24 (fun i h1 h2 h3 => by omega), Lb.kq k24 (fun i h1 h2 h3 => by omega)⟩
    | succ j =>
      have e : ((nx + 1) % 12 + 11 - (j + 1)) % 12 = (nx + 11 - j) % 12 := by omega
      rw [e]
      have q := hp j (by omega)
      have hne : (nx + 11 - j) % 12 ≠ nx := by omega
      have hlt : (nx + 11 - j) % 12 < 12 := Nat.mod_lt _ (by decide)
      generalize (nx + 11 - j) % 12 = z at *
      exact ⟨q.1.kq k1 (fun i h1 h2 h3 => by omega), q.2.kq k1 (fun i h1 h2 h3 => by omega)⟩
/-- Past.takeBack -/
theorem x_takeBack {σ : bl_St} {nx kp : Nat} {p : Nat → tm_V × lf_V} {v : tm_V} {l : lf_V} {n t a : Nat} (h : PX σ nx (kp + 1) p) (hT : TX σ t v) (hL : LX σ a l) (ok : TOk (p 0).1) (lk : LOk (p 0).1 (p 0).2 n) (ht : t + 3 < a) (ha : a + 2 < 24) :
    ∃ σ1, f_X6_takeBack σ 24 t a = some (1, σ1) ∧ Kq (fun i => i = 24 ∨ (t ≤ i ∧ i ≤ t + 3) ∨ (a ≤ i ∧ i ≤ a + 2)) σ σ1 ∧ PX σ1 ((nx + 11) % 12) kp (fun j => p (j + 1)) ∧ TX σ1 t (p 0).1 ∧ LX σ1 a (p 0).2 := by
  obtain ⟨hR, ⟨i2, i3⟩, ⟨hnx, hkp⟩, hp⟩ := h
  have hq : (nx + 11) % 12 < 12 := Nat.mod_lt _ (by decide)
  have r := hR.2 _ hq
  have p0 := hp 0 (by omega)
  rw [show nx + 11 - 0 = nx + 11 by omega] at p0
  obtain ⟨q, hqe⟩ : ∃ q, q = (nx + 11) % 12 := ⟨_, rfl⟩
  rw [← hqe] at r p0 hq
  obtain ⟨σc, ec⟩ : ∃ z, z = bl_pI (bl_pI σ 24 2 (nI q)) 24 3 (nI kp) := ⟨_, rfl⟩
  have kc : Kq (fun i => i = 24) σ σc := by rw [ec]; exact ((Kq.rf (fun i => i = 24) σ).pI rfl _ _).pI rfl _ _
  have Rc : bl_R σc = bl_R σ := by rw [ec]; rfl
  obtain ⟨σa, ea, ka, Ra, Ta⟩ := x_tcopy (d := t) (p0.1.kq kc (fun i h1 h2 h3 => by omega)) ok (by rw [Rc]; exact hT.1) (by omega)
  obtain ⟨σb, eb, kb, Rb, Lb⟩ := x_lcopy (d := a) ((p0.2.kq kc (fun i h1 h2 h3 => by omega)).kq ka (fun i h1 h2 h3 => by omega)) ⟨by have := lk.2.1.1; omega, by have := lk.2.1.2.2; omega⟩ (by rw [Ra, Rc]; exact hL.1) (by omega)
  have i2c : bl_I σc 24 2 = nI q := by rw [ec]; simp [I_pI]
  have i3c : bl_I σc 24 3 = nI kp := by rw [ec]; simp [I_pI]
  have i2a : bl_I σa 24 2 = nI q := by rw [(ka 24 (by omega)).1]; exact i2c
  have kk : Kq (fun i => i = 24 ∨ (t ≤ i ∧ i ≤ t + 3) ∨ (a ≤ i ∧ i ≤ a + 2)) σ σb := ((kc.mono (fun i hi => Or.inl hi)).tr (ka.mono (fun i hi => Or.inr (Or.inl hi)))).tr (kb.mono (fun i hi => Or.inr (Or.inr hi)))
  refine ⟨σb, ?_, kk, ⟨?_, ⟨?_, ?_⟩, ⟨by rw [← hqe]; exact hq, by omega⟩, fun j hj => ?_⟩, Ta.kq kb (fun i h1 h2 h3 => by omega), Lb⟩
  · unfold f_X6_takeBack
    have hne : ¬ nI (kp + 1) = 0 := nI_ne0 (by omega) (by omega)
    rw [i3, if_neg hne, let_eq, let_eq, i2, nI_lit 12, nI_add, nI_lit 1, nI_sub (by omega), show nx + 12 - 1 = nx + 11 by omega, show nI (nx + 11) - nI (nx + 11) / nI 12 * nI 12 = nI ((nx + 11) % 12) from nI_mod12 (by omega), ← hqe]
    have q3 : bl_I (bl_pI σ 24 2 (nI q)) 24 3 = nI (kp + 1) := by rw [I_pI_ne (by decide)]; exact i3
    rw [q3, nI_sub (by omega), show kp + 1 - 1 = kp by omega, ← ec, i2c, in_nI hq (by decide), gd_true, Rc, hR.1.1, nI_clamp (by omega), r.1.1, ea, bd_some, i2a, in_nI hq (by decide), gd_true, Ra, Rc, hR.1.2, nI_clamp (by omega), r.1.2, eb, bd_some]
  · unfold PR
    rw [Rb, Ra, Rc]
    exact hR
  · rw [(kb 24 (by omega)).1, i2a, hqe]
  · rw [(kb 24 (by omega)).1, (ka 24 (by omega)).1]; exact i3c
  · have w := hp (j + 1) (by omega)
    rw [show (nx + 11) % 12 + 11 - j = (nx + 11) % 12 + 11 - j from rfl, show ((nx + 11) % 12 + 11 - j) % 12 = (nx + 11 - (j + 1)) % 12 by omega]
    have hlt : (nx + 11 - (j + 1)) % 12 < 12 := Nat.mod_lt _ (by decide)
    generalize (nx + 11 - (j + 1)) % 12 = z at *
    exact ⟨w.1.kq kk (fun i h1 h2 h3 => by omega), w.2.kq kk (fun i h1 h2 h3 => by omega)⟩
/-! the reference's -/
def PM (σ : bl_St) (kp : Nat) (p : Nat → tm_V × lf_V) : Prop := kp ≤ 12 ∧ ∀ j, j < kp → TM σ 143 (167 * (kp - 1 - j)) (p j).1 ∧ LM σ 143 (167 * (kp - 1 - j)) (p j).2
section MPS
variable {σ : bl_St}
theorem m_k13 (hR4 : bl_R σ 139 4 = 143) : ∀ (r k n : Nat) (τ : bl_St), k + r = 2004 → 167 ≤ k → r < n → bl_R τ = bl_R σ → (∀ i, i ≠ 143 → bl_I τ i = bl_I σ i) → (∀ j, bl_I τ 143 j = if j < k - 167 then bl_I σ 143 (j + 167) else bl_I σ 143 j) → ∃ σ1, bl_fx (fun _ _ _ => none) (b_X10_keeps_13) n τ 139 (nI k) = b_X10_keeps_52 (bl_pI σ1 139 5 (bl_I σ 139 5 - 1)) 139 ∧ bl_R σ1 = bl_R σ ∧ bl_J σ1 = bl_J τ ∧ (∀ i, i ≠ 143 → bl_I σ1 i = bl_I σ i) ∧ ∀ j, j < 1837 → bl_I σ1 143 j = bl_I σ 143 (j + 167) := by
  intro r
  induction r with
  | zero =>
    intro k n τ hk h1 hn hR hI hs
    obtain ⟨n, rfl⟩ : ∃ m, n = m + 1 := ⟨n - 1, by omega⟩
    have hk : k = 2004 := by omega
    subst hk
    refine ⟨τ, ?_, hR, rfl, hI, fun j hj => by rw [hs j, if_pos (by omega)]⟩
    rw [fx_succ]
    show (if (2004 : Int32) ≤ nI 2004 then _ else _) = _
    rw [if_pos (by decide), let_eq, hI 139 (by decide)]
  | succ r ih =>
    intro k n τ hk h1 hn hR hI hs
    obtain ⟨n, rfl⟩ : ∃ m, n = m + 1 := ⟨n - 1, by omega⟩
    obtain ⟨σ1, e1, e2, e3, e4, e5⟩ := ih (k + 1) n (bl_pI τ 143 (k - 167) (bl_I τ 143 k)) (by omega) (by omega) (by omega) hR (fun i hi => by rw [I_pI_o hi]; exact hI i hi) (fun j => by
      rw [I_pI]
      by_cases hj : j = k - 167
      · have e1 : bl_I τ 143 k = bl_I σ 143 k := by rw [hs k, if_neg (by omega)]
        have e2 : j + 167 = k := by omega
        rw [if_pos ⟨rfl, hj⟩, if_pos (show j < k + 1 - 167 by omega), e1, e2]
      · rw [if_neg (fun z => hj z.2), hs j]
        by_cases hj2 : j < k - 167
        · rw [if_pos hj2, if_pos (by omega)]
        · rw [if_neg hj2, if_neg (by omega)])
    refine ⟨σ1, ?_, e2, e3, e4, e5⟩
    rw [fx_succ]
    have hb : b_X10_keeps_13 (bl_fx (fun _ _ _ => none) (b_X10_keeps_13) n) τ 139 (nI k) = bl_fx (fun _ _ _ => none) (b_X10_keeps_13) n (bl_pI τ 143 (k - 167) (bl_I τ 143 k)) 139 (nI (k + 1)) := by
      show (if (2004 : Int32) ≤ nI k then _ else _) = _
      rw [if_neg (show ¬ (2004 : Int32) ≤ nI k from nI_ge (a := k) (b := 2004) (by omega) (by decide)), in_nI (by omega) (by decide), gd_true, show (167 : Int32) = nI 167 from rfl, nI_sub h1, in_nI (by omega) (by decide), gd_true, let_eq, let_eq, nI_clamp (by omega), nI_clamp (by omega), nI_1, hR, hR4]
    rw [hb]
    exact e1
theorem m_k54 {kp : Nat} (hkp : kp < 12) (hR4 : bl_R σ 139 4 = 143) (hR1 : bl_R σ 139 1 = 140) (h5 : bl_I σ 139 5 = nI kp) : ∀ (r k n : Nat) (τ : bl_St), k + r = 167 → r < n → bl_R τ = bl_R σ → (∀ i, i ≠ 143 → bl_I τ i = bl_I σ i) → (∀ j, bl_I τ 143 j = if 167 * kp ≤ j ∧ j < 167 * kp + k then bl_I σ 140 (j - 167 * kp) else bl_I σ 143 j) → ∃ σ1, bl_fx (fun _ _ _ => none) (b_X10_keeps_54) n τ 139 (nI k) = some ((), bl_pI σ1 139 5 (nI (kp + 1))) ∧ bl_R σ1 = bl_R σ ∧ bl_J σ1 = bl_J τ ∧ (∀ i, i ≠ 143 → bl_I σ1 i = bl_I σ i) ∧ ∀ j, bl_I σ1 143 j = if 167 * kp ≤ j ∧ j < 167 * kp + 167 then bl_I σ 140 (j - 167 * kp) else bl_I σ 143 j := by
  intro r
  induction r with
  | zero =>
    intro k n τ hk hn hR hI hs
    obtain ⟨n, rfl⟩ : ∃ m, n = m + 1 := ⟨n - 1, by omega⟩
    have hk : k = 167 := by omega
    subst hk
    refine ⟨τ, ?_, hR, rfl, hI, hs⟩
    rw [fx_succ]
    show (if (167 : Int32) ≤ nI 167 then _ else _) = _
    rw [if_pos (by decide), let_eq, hI 139 (by decide), h5, nI_1]
  | succ r ih =>
    intro k n τ hk hn hR hI hs
    obtain ⟨n, rfl⟩ : ∃ m, n = m + 1 := ⟨n - 1, by omega⟩
    obtain ⟨σ1, e1, e2, e3, e4, e5⟩ := ih (k + 1) n (bl_pI τ 143 (167 * kp + k) (bl_I σ 140 k)) (by omega) (by omega) hR (fun i hi => by rw [I_pI_o hi]; exact hI i hi) (fun j => by
      rw [I_pI]
      by_cases hj : j = 167 * kp + k
      · subst hj
        rw [if_pos ⟨rfl, rfl⟩, if_pos (by omega), show 167 * kp + k - 167 * kp = k by omega]
      · rw [if_neg (fun z => hj z.2), hs j]
        by_cases hj2 : 167 * kp ≤ j ∧ j < 167 * kp + k
        · rw [if_pos hj2, if_pos (by omega)]
        · rw [if_neg hj2, if_neg (by omega)])
    refine ⟨σ1, ?_, e2, e3, e4, e5⟩
    rw [fx_succ]
    have hb : b_X10_keeps_54 (bl_fx (fun _ _ _ => none) (b_X10_keeps_54) n) τ 139 (nI k) = bl_fx (fun _ _ _ => none) (b_X10_keeps_54) n (bl_pI τ 143 (167 * kp + k) (bl_I σ 140 k)) 139 (nI (k + 1)) := by
      show (if (167 : Int32) ≤ nI k then _ else _) = _
      rw [if_neg (show ¬ (167 : Int32) ≤ nI k from nI_ge (a := k) (b := 167) (by omega) (by decide)), in_nI (by omega) (by decide), gd_true, hI 139 (by decide), h5, show (167 : Int32) = nI 167 from rfl, nI_mul, nI_add, in_nI (by omega) (by decide), gd_true, let_eq, let_eq, nI_clamp (by omega), nI_clamp (by omega), nI_1, hR, hR4, hR1, hI 140 (by decide)]
    rw [hb]
    exact e1
/-- what keeps() leaves -/
theorem m_keeps {kp : Nat} {p : Nat → tm_V × lf_V} {v : tm_V} {l : lf_V} {n : Nat} (hR4 : bl_R σ 139 4 = 143) (hR1 : bl_R σ 139 1 = 140) (h5 : bl_I σ 139 5 = nI kp) (hp : PM σ kp p) (hok : ∀ j, j < kp → TOk (p j).1) (hT : TM σ 140 0 v) (ok : TOk v) (hL : LM σ 140 0 l) :
    ∃ σ1, f_X10_keeps σ 139 = some ((), σ1) ∧ bl_R σ1 = bl_R σ ∧ bl_J σ1 = bl_J σ ∧ (∀ i, i ≠ 143 → i ≠ 139 → bl_I σ1 i = bl_I σ i) ∧ (∀ k, k ≠ 5 → bl_I σ1 139 k = bl_I σ 139 k) ∧ bl_I σ1 139 5 = nI (min 12 (kp + 1)) ∧ PM σ1 (min 12 (kp + 1)) (pcs (v, l) p) := by
  have go : ∀ (τ : bl_St) (kq : Nat), kq < 12 → bl_R τ = bl_R σ → bl_J τ = bl_J σ → bl_I τ 139 5 = nI kq → (∀ i, i ≠ 143 → i ≠ 139 → bl_I τ i = bl_I σ i) → (∀ k, k ≠ 5 → bl_I τ 139 k = bl_I σ 139 k) → kq + 1 = min 12 (kp + 1) → (∀ j, j < kq → TM τ 143 (167 * (kq - 1 - j)) (p j).1 ∧ LM τ 143 (167 * (kq - 1 - j)) (p j).2) →
      ∃ σ1, b_X10_keeps_52 τ 139 = some ((), σ1) ∧ bl_R σ1 = bl_R σ ∧ bl_J σ1 = bl_J σ ∧ (∀ i, i ≠ 143 → i ≠ 139 → bl_I σ1 i = bl_I σ i) ∧ (∀ k, k ≠ 5 → bl_I σ1 139 k = bl_I σ 139 k) ∧ bl_I σ1 139 5 = nI (min 12 (kp + 1)) ∧ PM σ1 (min 12 (kp + 1)) (pcs (v, l) p) := by
    intro τ kq hkq hR hJ h5' hI hI9 hk1 hq
    obtain ⟨σ1, e1, e2, e3, e4, e5⟩ := m_k54 (σ := τ) hkq (by rw [hR]; exact hR4) (by rw [hR]; exact hR1) h5' 167 0 bl_fu τ (by omega) (by unfold bl_fu; omega) rfl (fun _ _ => rfl) (fun j => by rw [if_neg (by omega)])
    refine ⟨bl_pI σ1 139 5 (nI (kq + 1)), e1, e2.trans hR, e3.trans hJ, fun i h1 h2 => by rw [I_pI_o h2, e4 i h1, hI i h1 h2], fun k hk => by rw [I_pI_ne hk, e4 139 (by decide), hI9 k hk], by rw [I_pI_self, hk1], ⟨by omega, fun j hj => ?_⟩⟩
    rw [← hk1] at hj ⊢
    have A : ∀ j, bl_I (bl_pI σ1 139 5 (nI (kq + 1))) 143 j = bl_I σ1 143 j := fun j => by rw [I_pI_o (by decide)]
    cases j with
    | zero =>
      rw [show 167 * (kq + 1 - 1 - 0) = 167 * kq by omega]
      have cp : ∀ j, j < 167 → bl_I (bl_pI σ1 139 5 (nI (kq + 1))) 143 (167 * kq + j) = bl_I σ 140 (0 + j) := fun j hj => by
        rw [A, e5, if_pos (by omega), hI 140 (by decide) (by decide), show 167 * kq + j - 167 * kq = 0 + j by omega]
      exact ⟨hT.cp ok cp, hL.cp (fun j _ hj => cp j hj)⟩
    | succ j =>
      rw [show 167 * (kq + 1 - 1 - (j + 1)) = 167 * (kq - 1 - j) by omega]
      have q := hq j (by omega)
      have cp : ∀ i, i < 167 → bl_I (bl_pI σ1 139 5 (nI (kq + 1))) 143 (167 * (kq - 1 - j) + i) = bl_I τ 143 (167 * (kq - 1 - j) + i) := fun i hi => by
        rw [A, e5, if_neg (by omega)]
      exact ⟨q.1.cp (hok j (by omega)) cp, q.2.cp (fun i _ hi => cp i hi)⟩
  obtain ⟨hkp, hp⟩ := hp
  unfold f_X10_keeps
  rw [h5]
  by_cases h12 : kp = 12
  · subst h12
    rw [if_pos (by rfl)]
    obtain ⟨σ1, e1, e2, e3, e4, e5⟩ := m_k13 (σ := σ) hR4 1837 167 bl_fu σ (by omega) (by omega) (by unfold bl_fu; omega) rfl (fun _ _ => rfl) (fun j => by rw [if_neg (by omega)])
    rw [show (167 : Int32) = nI 167 from rfl, e1, h5]
    refine go _ 11 (by decide) e2 e3 (by rw [I_pI_self]; decide) (fun i h1 h2 => by rw [I_pI_o h2]; exact e4 i h1) (fun k hk => by rw [I_pI_ne hk, e4 139 (by decide)]) (by decide) (fun j hj => ?_)
    have q := hp j (by omega)
    have cp : ∀ i, i < 167 → bl_I (bl_pI σ1 139 5 (nI 12 - 1)) 143 (167 * (11 - 1 - j) + i) = bl_I σ 143 (167 * (12 - 1 - j) + i) := fun i hi => by
      rw [I_pI_o (by decide), e5 _ (by omega), show 167 * (11 - 1 - j) + i + 167 = 167 * (12 - 1 - j) + i by omega]
    exact ⟨q.1.cp (hok j (by omega)) cp, q.2.cp (fun i _ hi => cp i hi)⟩
  · rw [if_neg (show ¬ nI kp = 12 from fun z => h12 (nI_inj (by omega) (by decide) z))]
    exact go σ kp (by omega) rfl rfl h5 (fun _ _ _ => rfl) (fun _ _ => rfl) (by omega) hp
end MPS
