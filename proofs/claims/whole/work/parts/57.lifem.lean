/-! ===== the reference's life ===== -/
/-- only the row now differs -/
def Mo (σ σ1 : bl_St) : Prop := bl_R σ1 = bl_R σ ∧ bl_J σ1 = bl_J σ ∧ ∀ i, i ≠ 140 → bl_I σ1 i = bl_I σ i
theorem Mo.rf (σ : bl_St) : Mo σ σ := ⟨rfl, rfl, fun _ _ => rfl⟩
theorem Mo.tr {σ σ1 σ2 : bl_St} (h : Mo σ σ1) (h2 : Mo σ1 σ2) : Mo σ σ2 := ⟨h2.1.trans h.1, h2.2.1.trans h.2.1, fun i hi => (h2.2.2 i hi).trans (h.2.2 i hi)⟩
theorem Mo.pI {σ σ1 : bl_St} (h : Mo σ σ1) (k : Nat) (x : Int32) : Mo σ (bl_pI σ1 140 k x) := ⟨h.1, h.2.1, fun i hi => by rw [I_pI_o hi]; exact h.2.2 i hi⟩
section MLF
variable {σ : bl_St} {v : tm_V} {l : lf_V}
theorem m_w61 {q m : Nat} (hR : bl_R σ 139 1 = 140) (hq : q + 48 < 167) (hm : m < 16) (h : bl_I σ 140 q = nI m) (x y z : Int32) : b_X10_writes_61 σ 139 (nI q) x y z = some ((), bl_pI (bl_pI (bl_pI (bl_pI σ 140 (q + 1 + 3 * m) x) 140 (q + 1 + 3 * m + 1) y) 140 (q + 1 + 3 * m + 2) z) 140 q (nI (m + 1))) := by
  unfold b_X10_writes_61
  simp only [R_pI, hR, let_eq]
  rw [in_nI (show q < 167 by omega) (by decide), gd_true, nI_clamp (show q < 2 ^ 31 by omega), h, nI_1, show (3 : Int32) = nI 3 from rfl, nI_mul, nI_add, in_nI (by omega) (by decide), gd_true, nI_1, in_nI (by omega) (by decide), gd_true, show (2 : Int32) = nI 2 from rfl, nI_add, in_nI (by omega) (by decide), gd_true, gd_true, gd_true, nI_clamp (by omega), nI_clamp (by omega), nI_clamp (by omega)]
  have e : bl_I (bl_pI (bl_pI (bl_pI σ 140 (q + 1 + 3 * m) x) 140 (q + 1 + 3 * m + 1) y) 140 (q + 1 + 3 * m + 2) z) 140 q = nI m := by
    rw [I_pI_ne (by omega), I_pI_ne (by omega), I_pI_ne (by omega), h]
  rw [e, nI_1]
theorem m_w14 {q : Nat} (hR : bl_R σ 139 1 = 140) (hq : q + 48 < 167) (h : bl_I σ 140 q = nI 16) (x y z : Int32) : ∀ (r k n : Nat) (τ : bl_St), k + r = 48 → 3 ≤ k → r < n → Mo σ τ → (∀ j, bl_I τ 140 j = if q + 1 ≤ j ∧ j < q + 1 + (k - 3) then bl_I σ 140 (j + 3) else bl_I σ 140 j) → ∃ σ1, bl_fx (fun _ _ _ _ _ _ _ => none) (b_X10_writes_14) n τ 139 (nI q) x y z (nI k) = b_X10_writes_61 (bl_pI σ1 140 q (nI 15)) 139 (nI q) x y z ∧ Mo σ σ1 ∧ ∀ j, bl_I σ1 140 j = if q + 1 ≤ j ∧ j < q + 46 then bl_I σ 140 (j + 3) else bl_I σ 140 j := by
  intro r
  induction r with
  | zero =>
    intro k n τ hk h3 hn M hs
    obtain ⟨n, rfl⟩ : ∃ m, n = m + 1 := ⟨n - 1, by omega⟩
    have hk : k = 48 := by omega
    subst hk
    refine ⟨τ, ?_, M, fun j => by rw [hs j]⟩
    rw [fx_succ]
    unfold b_X10_writes_14
    have hq0 : bl_I τ 140 q = nI 16 := by rw [hs q, if_neg (by omega)]; exact h
    rw [if_pos (show (48 : Int32) ≤ nI 48 by decide), in_nI (by omega) (by decide), gd_true, gd_true, let_eq, M.1, hR, nI_clamp (by omega), hq0, show (nI 16 : Int32) - 1 = nI 15 by decide]
  | succ r ih =>
    intro k n τ hk h3 hn M hs
    obtain ⟨n, rfl⟩ : ∃ m, n = m + 1 := ⟨n - 1, by omega⟩
    obtain ⟨σ1, e1, e2, e3⟩ := ih (k + 1) n (bl_pI τ 140 (q + 1 + k - 3) (bl_I τ 140 (q + 1 + k))) (by omega) (by omega) (by omega) (M.pI _ _) (fun j => by
      have e1 : bl_I τ 140 (q + 1 + k) = bl_I σ 140 (q + 1 + k) := by rw [hs, if_neg (by omega)]
      rw [I_pI, e1]
      by_cases hj : j = q + 1 + k - 3
      · rw [if_pos ⟨rfl, hj⟩, if_pos (by omega), show j + 3 = q + 1 + k by omega]
      · rw [if_neg (fun z => hj z.2), hs j]
        by_cases hj2 : q + 1 ≤ j ∧ j < q + 1 + (k - 3)
        · rw [if_pos hj2, if_pos (by omega)]
        · rw [if_neg hj2, if_neg (by omega)])
    refine ⟨σ1, ?_, e2, e3⟩
    rw [fx_succ]
    have hb : b_X10_writes_14 (bl_fx (fun _ _ _ _ _ _ _ => none) (b_X10_writes_14) n) τ 139 (nI q) x y z (nI k) = bl_fx (fun _ _ _ _ _ _ _ => none) (b_X10_writes_14) n (bl_pI τ 140 (q + 1 + k - 3) (bl_I τ 140 (q + 1 + k))) 139 (nI q) x y z (nI (k + 1)) := by
      show (if (48 : Int32) ≤ nI k then _ else _) = _
      rw [if_neg (show ¬ (48 : Int32) ≤ nI k from nI_ge (a := k) (b := 48) (by omega) (by decide)), nI_1, nI_add, in_nI (by omega) (by decide), gd_true, show (3 : Int32) = nI 3 from rfl, nI_sub (by omega), in_nI (by omega) (by decide), gd_true, let_eq, let_eq, nI_clamp (by omega), nI_clamp (by omega), nI_1, M.1, hR]
    rw [hb]
    exact e1
theorem m_writes {q all : Nat} {bk : Nat → Nat → Nat} (hR : bl_R σ 139 1 = 140) (hq : q + 48 < 167) (h : bl_I σ 140 q = nI (min 16 all)) (hs : Shelf (fun j => bl_I σ 140 (q + 1 + j)) all bk) (x y z : Nat) :
    ∃ σ1, f_X10_writes σ 139 (nI q) (nI x) (nI y) (nI z) = some ((), σ1) ∧ Mo σ σ1 ∧ (∀ j, (j < q ∨ q + 48 < j) → bl_I σ1 140 j = bl_I σ 140 j) ∧ bl_I σ1 140 q = nI (min 16 (all + 1)) ∧ Shelf (fun j => bl_I σ1 140 (q + 1 + j)) (all + 1) (cns x y z bk) := by
  have fin : ∀ (τ : bl_St) (m : Nat), m < 16 → m + 1 = min 16 (all + 1) → Mo σ τ → bl_I τ 140 q = nI m → (∀ j, (j < q ∨ q + 48 < j) → bl_I τ 140 j = bl_I σ 140 j) → (∀ k w, k < m → w < 3 → bl_I τ 140 (q + 1 + (3 * (m - 1 - k) + w)) = nI (bk k w)) →
      ∃ σ1, b_X10_writes_61 τ 139 (nI q) (nI x) (nI y) (nI z) = some ((), σ1) ∧ Mo σ σ1 ∧ (∀ j, (j < q ∨ q + 48 < j) → bl_I σ1 140 j = bl_I σ 140 j) ∧ bl_I σ1 140 q = nI (min 16 (all + 1)) ∧ Shelf (fun j => bl_I σ1 140 (q + 1 + j)) (all + 1) (cns x y z bk) := by
    intro τ m hm hm1 M h0 ho he
    refine ⟨_, m_w61 (by rw [M.1]; exact hR) hq hm h0 (nI x) (nI y) (nI z), (((M.pI _ _).pI _ _).pI _ _).pI _ _, fun j hj => ?_, by rw [I_pI_self, hm1], fun k w hk hw => ?_⟩
    · rw [I_pI_ne (by omega), I_pI_ne (by omega), I_pI_ne (by omega), I_pI_ne (by omega)]
      exact ho j hj
    · rw [← hm1] at hk ⊢
      show bl_I (bl_pI _ 140 q _) 140 (q + 1 + (3 * (m + 1 - 1 - k) + w)) = _
      rw [I_pI_ne (by omega)]
      cases k with
      | zero =>
        rcases (show w = 0 ∨ w = 1 ∨ w = 2 by omega) with rfl | rfl | rfl
        · rw [I_pI_ne (by omega), I_pI_ne (by omega), show q + 1 + (3 * (m + 1 - 1 - 0) + 0) = q + 1 + 3 * m by omega, I_pI_self]
          rfl
        · rw [I_pI_ne (by omega), show q + 1 + (3 * (m + 1 - 1 - 0) + 1) = q + 1 + 3 * m + 1 by omega, I_pI_self]
          rfl
        · rw [show q + 1 + (3 * (m + 1 - 1 - 0) + 2) = q + 1 + 3 * m + 2 by omega, I_pI_self]
          rfl
      | succ k =>
        rw [I_pI_ne (by omega), I_pI_ne (by omega), I_pI_ne (by omega), show q + 1 + (3 * (m + 1 - 1 - (k + 1)) + w) = q + 1 + (3 * (m - 1 - k) + w) by omega]
        exact he k w (by omega) hw
  unfold f_X10_writes
  rw [in_nI (by omega) (by decide), gd_true, hR, nI_clamp (by omega), h]
  by_cases h16 : 16 ≤ all
  · rw [Nat.min_eq_left h16, if_pos (by rfl)]
    rw [Nat.min_eq_left h16] at h
    obtain ⟨σ1, e1, e2, e3⟩ := m_w14 hR hq h (nI x) (nI y) (nI z) 45 3 bl_fu σ (by omega) (by omega) (by unfold bl_fu; omega) (Mo.rf σ) (fun j => by rw [if_neg (by omega)])
    rw [show (3 : Int32) = nI 3 from rfl, e1]
    refine fin _ 15 (by decide) (by omega) (e2.pI _ _) (I_pI_self _ _ _ _) (fun j hj => ?_) (fun k w hk hw => ?_)
    · rw [I_pI_ne (by omega), e3, if_neg (by omega)]
    · rw [I_pI_ne (by omega), e3, if_pos (by omega)]
      have := hs k w (by omega) hw
      rw [Nat.min_eq_left h16] at this
      rw [← this]
      show bl_I σ 140 _ = bl_I σ 140 _
      rw [show q + 1 + (3 * (15 - 1 - k) + w) + 3 = q + 1 + (3 * (16 - 1 - k) + w) by omega]
  · rw [if_neg (show ¬ nI (min 16 all) = 16 from fun z => absurd (nI_inj (a := min 16 all) (b := 16) (by omega) (by decide) z) (by omega))]
    refine fin σ (min 16 all) (by omega) (by omega) (Mo.rf σ) h (fun _ _ => rfl) (fun k w hk hw => hs k w hk hw)
/-- without what stands on the year -/
def LW (σ : bl_St) (a o : Nat) (l : lf_V) : Prop :=
  bl_I σ a (o + 55) = nI (lP l) ∧ (bl_I σ a (o + 60) = nI (lE l) ∧ bl_I σ a (o + 61) = lpp l ∧ bl_I σ a (o + 62) = lpg l ∧ bl_I σ a (o + 63) = lpt l ∧ bl_I σ a (o + 64) = lpb l ∧ bl_I σ a (o + 65) = nI (lT l) ∧ bl_I σ a (o + 66) = nI (lB l)) ∧
  (bl_I σ a (o + 69) = nI (min 16 (lT l + lB l)) ∧ bl_I σ a (o + 118) = nI (min 16 (lE l))) ∧
  Shelf (fun j => bl_I σ a (o + 70 + j)) (lT l + lB l) (lBk l) ∧ Shelf (fun j => bl_I σ a (o + 119 + j)) (lE l) (lLg l)
theorem LM.lw {a o : Nat} (h : LM σ a o l) : LW σ a o l := ⟨h.1.1, h.2.2.1, h.2.2.2.1, h.2.2.2.2⟩
theorem TM.hi {σ1 : bl_St} (h : TM σ 140 0 v) (ok : TOk v) (e : ∀ j, j < 55 → bl_I σ1 140 j = bl_I σ 140 j) : TM σ1 140 0 v := by
  have h8 := ok.n8
  have h5 := ok.k5
  refine ⟨⟨(e 0 (by decide)).trans h.1.1, (e 1 (by decide)).trans h.1.2⟩, ⟨(e 2 (by decide)).trans h.2.1.1, (e 3 (by decide)).trans h.2.1.2.1, (e 4 (by decide)).trans h.2.1.2.2⟩, fun i hi => (e (0 + 5 + i) (by omega)).trans (h.2.2.1 i hi), fun i hi => (e (0 + 45 + i) (by omega)).trans (h.2.2.2 i hi)⟩
theorem m_begins (hR : bl_R σ 139 1 = 140) (hT : TM σ 140 0 v) (ok : TOk v) (hL : LW σ 140 0 l) (hP : lP l < tN v) {g : Nat} (hg : g < 2) :
    ∃ σ1, f_X10_begins σ 139 (nI g) = some ((), σ1) ∧ Mo σ σ1 ∧ TM σ1 140 0 v ∧ LM σ1 140 0 (lBegin v l g) := by
  obtain ⟨a0, ⟨c1, c2, c3, c4, c5, c6, c7⟩, ⟨m1, m2⟩, d1, d2⟩ := hL
  simp only [Nat.zero_add] at a0 c1 c2 c3 c4 c5 c6 c7 m1 m2
  obtain ⟨σ3, e3⟩ : ∃ z, z = bl_pI (bl_pI (bl_pI (bl_pI (bl_pI σ 140 56 1) 140 57 0) 140 58 0) 140 59 (nI g)) 140 68 (nI (lP l)) := ⟨_, rfl⟩
  have M3 : Mo σ σ3 := by rw [e3]; exact (((((Mo.rf σ).pI _ _).pI _ _).pI _ _).pI _ _).pI _ _
  have lo3 : ∀ j, j < 56 → bl_I σ3 140 j = bl_I σ 140 j := fun j hj => by
    rw [e3, I_pI_ne (by omega), I_pI_ne (by omega), I_pI_ne (by omega), I_pI_ne (by omega), I_pI_ne (by omega)]
  have T3 := hT.hi ok (fun j hj => lo3 j (by omega))
  have R3 : bl_R σ3 139 1 = 140 := by rw [M3.1]; exact hR
  have p3 : bl_I σ3 140 55 = nI (lP l) := by rw [lo3 55 (by decide)]; exact a0
  obtain ⟨σ4, e4⟩ : ∃ z, z = bl_pI σ3 140 67 (nI (tC v (5 * lP l) + g * tC v (5 * lP l + 4))) := ⟨_, rfl⟩
  have M4 : Mo σ σ4 := by rw [e4]; exact M3.pI _ _
  have lo4 : ∀ j, j < 56 → bl_I σ4 140 j = bl_I σ 140 j := fun j hj => by rw [e4, I_pI_ne (by omega)]; exact lo3 j hj
  have T4 := hT.hi ok (fun j hj => lo4 j (by omega))
  have R4 : bl_R σ4 139 1 = 140 := by rw [M4.1]; exact hR
  have p4 : bl_I σ4 140 55 = nI (lP l) := by rw [lo4 55 (by decide)]; exact a0
  have c4' : bl_I σ4 140 61 = lpp l := by rw [e4, e3]; simp [I_pI, c2]
  have c5' : bl_I σ4 140 62 = lpg l := by rw [e4, e3]; simp [I_pI, c3]
  obtain ⟨σ5, e5⟩ : ∃ z, z = bl_pI σ4 140 61 (lpp l + nI (tC v (5 * lP l))) := ⟨_, rfl⟩
  have M5 : Mo σ σ5 := by rw [e5]; exact M4.pI _ _
  have lo5 : ∀ j, j < 56 → bl_I σ5 140 j = bl_I σ 140 j := fun j hj => by rw [e5, I_pI_ne (by omega)]; exact lo4 j hj
  have T5 := hT.hi ok (fun j hj => lo5 j (by omega))
  have R5 : bl_R σ5 139 1 = 140 := by rw [M5.1]; exact hR
  have p5 : bl_I σ5 140 55 = nI (lP l) := by rw [lo5 55 (by decide)]; exact a0
  have q5 : bl_I σ5 140 62 = lpg l := by rw [e5, I_pI_ne (by decide)]; exact c5'
  obtain ⟨σ6, e6⟩ : ∃ z, z = bl_pI σ5 140 62 (lpg l + nI (g * tC v (5 * lP l + 4))) := ⟨_, rfl⟩
  have M6 : Mo σ σ6 := by rw [e6]; exact M5.pI _ _
  have lo6 : ∀ j, j < 56 → bl_I σ6 140 j = bl_I σ 140 j := fun j hj => by rw [e6, I_pI_ne (by omega)]; exact lo5 j hj
  have hi6 : ∀ j, 69 ≤ j → bl_I σ6 140 j = bl_I σ 140 j := fun j hj => by
    rw [e6, I_pI_ne (by omega), e5, I_pI_ne (by omega), e4, I_pI_ne (by omega), e3, I_pI_ne (by omega), I_pI_ne (by omega), I_pI_ne (by omega), I_pI_ne (by omega), I_pI_ne (by omega)]
  refine ⟨σ6, ?_, M6, hT.hi ok (fun j hj => lo6 j (by omega)), ?_⟩
  · have key : f_X10_begins σ 139 (nI g) = b_X10_begins_39 (bl_pI (bl_pI (bl_pI σ 140 56 1) 140 57 0) 140 58 0) 139 (nI g) (nI g) 59 140 := by
      unfold f_X10_begins
      simp only [let_eq, R_pI, hR]
      rcases (show g = 0 ∨ g = 1 by omega) with rfl | rfl
      · rw [if_pos (by rfl)]; rfl
      · rw [if_neg (by decide)]; rfl
    rw [key]
    unfold b_X10_begins_39
    rw [show bl_in (59 : Int32) 167 = true by decide, gd_true]
    simp only [let_eq, R_pI, hR]
    have e3' : bl_pI (bl_pI (bl_pI (bl_pI (bl_pI σ 140 56 1) 140 57 0) 140 58 0) 140 (Int32.toNatClampNeg 59) (nI g)) 140 68 (bl_I (bl_pI (bl_pI (bl_pI (bl_pI σ 140 56 1) 140 57 0) 140 58 0) 140 (Int32.toNatClampNeg 59) (nI g)) 140 55) = σ3 := by
      rw [e3, show Int32.toNatClampNeg 59 = 59 by decide]
      simp [I_pI, a0]
    rw [e3', p3, show (0 : Int32) = nI 0 from rfl, m_ofClass R3 T3 ok hP (by decide), bd_some, Nat.add_zero]
    have k92 : ∀ s0, s0 = nI (g * tC v (5 * lP l + 4)) → b_X10_begins_92 σ3 139 (nI g) s0 (nI (tC v (5 * lP l))) 67 140 = some ((), σ6) := by
      intro s0 hs0
      unfold b_X10_begins_92
      rw [show bl_in (67 : Int32) 167 = true by decide, gd_true, let_eq, hs0, nI_add, show Int32.toNatClampNeg 67 = 67 by decide, ← e4, R4, p4, show (0 : Int32) = nI 0 from rfl, m_ofClass R4 T4 ok hP (by decide), bd_some, let_eq, c4', Nat.add_zero, ← e5, R5]
      rcases (show g = 0 ∨ g = 1 by omega) with rfl | rfl
      · rw [if_pos rfl, let_eq, q5, e6]
        simp
      · rw [if_neg (by decide), p5, show (4 : Int32) = nI 4 from rfl, m_ofClass R5 T5 ok hP (by decide), bd_some, let_eq, q5, e6]
        simp
    rcases (show g = 0 ∨ g = 1 by omega) with rfl | rfl
    · rw [if_pos rfl]
      exact k92 _ (by simp)
    · rw [if_neg (by decide), R3, p3, show (4 : Int32) = nI 4 from rfl, m_ofClass R3 T3 ok hP (by decide), bd_some]
      exact k92 _ (by simp)
  · refine ⟨⟨by simp only [Nat.zero_add]; rw [lo6 55 (by decide)]; exact a0, ?_⟩, fun _ => ?_, ?_, ⟨by simp only [Nat.zero_add]; rw [hi6 69 (by decide)]; exact m1, by simp only [Nat.zero_add]; rw [hi6 118 (by decide)]; exact m2⟩, fun k w hk hw => by show bl_I σ6 140 (0 + 70 + _) = _; rw [hi6 _ (by omega)]; exact d1 k w hk hw, fun k w hk hw => by show bl_I σ6 140 (0 + 119 + _) = _; rw [hi6 _ (by omega)]; exact d2 k w hk hw⟩
    · rw [e6, e5, e4, e3]
      simp [I_pI, lBegin]
      exact ⟨rfl, rfl⟩
    · rw [e6, e5, e4, e3]
      simp [I_pI, lBegin]
    · rw [e6, e5, e4, e3]
      simp [I_pI, lBegin, c1, c4, c5, c6, c7]
theorem m_goesBy {n : Nat} (hR : bl_R σ 139 1 = 140) (hT : TM σ 140 0 v) (ok : TOk v) (hL : LM σ 140 0 l) (hN : 0 < tN v) (hP : lP l < tN v) (ho : lO l = 1) (hC : lC l ≤ 4) (hG : lG l < 100) :
    ∃ σ1, f_X10_goesBy σ 139 = some ((), σ1) ∧ Mo σ σ1 ∧ TM σ1 140 0 v ∧ LM σ1 140 0 (lPass v l) := by
  have hH := ok.2.2.2.1
  obtain ⟨⟨a0, a1, a2, a3, a4⟩, b, ⟨c1, c2, c3, c4, c5, c6, c7⟩, ⟨m1, m2⟩, d1, d2⟩ := hL
  have b := b ho
  have eH := hT.2.1.1
  simp only [Nat.zero_add] at a0 a1 a2 a3 a4 b c1 c2 c3 c4 c5 c6 c7 m1 m2 eH
  obtain ⟨σ2, e2⟩ : ∃ z, z = bl_pI σ 140 57 (nI (lG l + 1)) := ⟨_, rfl⟩
  have M2 : Mo σ σ2 := by rw [e2]; exact (Mo.rf σ).pI _ _
  have o2 : ∀ j, j ≠ 57 → bl_I σ2 140 j = bl_I σ 140 j := fun j hj => by rw [e2, I_pI_ne hj]
  have T2 := hT.hi ok (fun j hj => o2 j (by omega))
  have i57 : bl_I σ2 140 57 = nI (lG l + 1) := by rw [e2, I_pI_self]
  have R2 : bl_R σ2 139 1 = 140 := by rw [M2.1]; exact hR
  unfold f_X10_goesBy lPass
  rw [hR, let_eq, a2, nI_1, ← e2, R2, o2 2 (by decide), eH, i57]
  by_cases hlt : lG l + 1 < tH v
  · rw [if_neg (nI_ge hlt (by omega)), if_pos hlt]
    refine ⟨σ2, rfl, M2, T2, ?_⟩
    refine ⟨?_, fun _ => ?_, ?_, ?_, fun k w hk hw => by show bl_I σ2 140 (0 + 70 + _) = _; rw [o2 _ (by omega)]; exact d1 k w hk hw, fun k w hk hw => by show bl_I σ2 140 (0 + 119 + _) = _; rw [o2 _ (by omega)]; exact d2 k w hk hw⟩
    · simp only [Nat.zero_add]
      rw [o2 55 (by decide), o2 56 (by decide), o2 58 (by decide), o2 59 (by decide)]
      exact ⟨a0, a1, i57, a3, a4⟩
    · simp only [Nat.zero_add]
      rw [o2 67 (by decide), o2 68 (by decide)]
      exact b
    · simp only [Nat.zero_add]
      rw [o2 60 (by decide), o2 61 (by decide), o2 62 (by decide), o2 63 (by decide), o2 64 (by decide), o2 65 (by decide), o2 66 (by decide)]
      exact ⟨c1, c2, c3, c4, c5, c6, c7⟩
    · simp only [Nat.zero_add]
      rw [o2 69 (by decide), o2 118 (by decide)]
      exact ⟨m1, m2⟩
  · rw [if_pos (nI_le (by omega) (by omega)), if_neg hlt, o2 68 (by decide), o2 67 (by decide), o2 58 (by decide), b.1, b.2, a3]
    obtain ⟨σ3, e3, M3, p1, p2, p3⟩ := m_writes (q := 118) (all := lE l) (bk := lLg l) R2 (by decide) (by rw [o2 118 (by decide)]; exact m2) (fun k w hk hw => by
      show bl_I σ2 140 (118 + 1 + _) = _
      rw [o2 _ (by omega)]
      have := d2 k w hk hw
      simp only [Nat.zero_add] at this
      exact this) (lP l) (lY l) (lC l)
    have T3 := T2.hi ok (fun j hj => p1 j (by omega))
    have R3 : bl_R σ3 139 1 = 140 := by rw [M3.1]; exact R2
    have f1 : bl_I σ3 140 55 = nI (lP l) := by rw [p1 55 (by omega), o2 55 (by decide)]; exact a0
    have f2 : bl_I σ3 140 58 = nI (lC l) := by rw [p1 58 (by omega), o2 58 (by decide)]; exact a3
    have f3 : bl_I σ3 140 60 = nI (lE l) := by rw [p1 60 (by omega), o2 60 (by decide)]; exact c1
    obtain ⟨σ4, e4⟩ : ∃ z, z = bl_pI (bl_pI (bl_pI (bl_pI (bl_pI (bl_pI σ3 140 55 (nI (tB v (lP l) (lC l)))) 140 60 (nI (lE l + 1))) 140 56 0) 140 57 0) 140 58 0) 140 59 0 := ⟨_, rfl⟩
    have M4 : Mo σ σ4 := by rw [e4]; exact ((((((M2.tr M3).pI _ _).pI _ _).pI _ _).pI _ _).pI _ _).pI _ _
    have o4 : ∀ j, (j < 55 ∨ 60 < j) → bl_I σ4 140 j = bl_I σ3 140 j := fun j hj => by
      rw [e4, I_pI_ne (by omega), I_pI_ne (by omega), I_pI_ne (by omega), I_pI_ne (by omega), I_pI_ne (by omega), I_pI_ne (by omega)]
    have o5 : ∀ j, 60 < j → j < 118 → bl_I σ4 140 j = bl_I σ 140 j := fun j h1 h2 => by
      rw [o4 j (by omega), p1 j (by omega), o2 j (by omega)]
    refine ⟨σ4, ?_, M4, T3.hi ok (fun j hj => o4 j (by omega)), ?_⟩
    · rw [show (118 : Int32) = nI 118 from rfl, e3, bd_some, R3, f1, f2, m_behind R3 T3 ok hP (by omega), bd_some]
      simp only [let_eq, R_pI, R3]
      rw [I_pI_ne (by decide), f3, nI_1, e4]
    · refine ⟨?_, fun h => absurd h (by simp [lEnd]), ?_, ?_, fun k w hk hw => ?_, fun k w hk hw => ?_⟩
      · rw [e4]
        simp [I_pI, lEnd]
        rfl
      · simp only [Nat.zero_add]
        rw [o5 61 (by decide) (by decide), o5 62 (by decide) (by decide), o5 63 (by decide) (by decide), o5 64 (by decide) (by decide), o5 65 (by decide) (by decide), o5 66 (by decide) (by decide)]
        refine ⟨?_, c2, c3, c4, c5, c6, c7⟩
        rw [e4]
        simp [I_pI, lEnd]
      · simp only [Nat.zero_add]
        rw [o5 69 (by decide) (by decide), o4 118 (by omega)]
        exact ⟨m1, p2⟩
      · show bl_I σ4 140 (0 + 70 + _) = _
        rw [o5 _ (by omega) (by have : k < min 16 (lT l + lB l) := hk; show 0 + 70 + (3 * (min 16 (lT l + lB l) - 1 - k) + w) < 118; omega)]
        exact d1 k w hk hw
      · show bl_I σ4 140 (0 + 119 + _) = _
        rw [o4 _ (by omega)]
        exact p3 k w hk hw
theorem m_loses {s d : Nat} (hR : bl_R σ 139 1 = 140) (hT : TM σ 140 0 v) (ok : TOk v) (hL : LM σ 140 0 l) (hN : 0 < tN v) (hP : lP l < tN v) (ho : lO l = 1) (hU : lU l ≤ 1) (hC : lC l ≤ 3) (hG : lG l < 100) (hs : s < tK v) (hd : d < 2) :
    ∃ σ1, f_X10_loses σ 139 (nI s) (nI d) = some (nI (lPaid v s d), σ1) ∧ Mo σ σ1 ∧ TM σ1 140 0 v ∧ LM σ1 140 0 (lPass v (lLoss v l s d)) := by
  obtain ⟨⟨a0, a1, a2, a3, a4⟩, b, ⟨c1, c2, c3, c4, c5, c6, c7⟩, ⟨m1, m2⟩, d1, d2⟩ := hL
  have b := b ho
  simp only [Nat.zero_add] at a0 a1 a2 a3 a4 b c1 c2 c3 c4 c5 c6 c7 m1 m2
  obtain ⟨σ3, e3, M3, p1, p2, p3⟩ := m_writes (q := 69) (all := lT l + lB l) (bk := lBk l) hR (by decide) m1 (fun k w hk hw => by
      have := d1 k w hk hw
      simp only [Nat.zero_add] at this
      exact this) (lE l) s d
  have T3 := hT.hi ok (fun j hj => p1 j (by omega))
  have R3 : bl_R σ3 139 1 = 140 := by rw [M3.1]; exact hR
  have key : f_X10_loses σ 139 (nI s) (nI d) = b_X10_loses_38 σ 139 (nI d) (nI (lPaid v s d)) (nI d) (nI s) (nI (lE l)) (nI 69) 139 := by
    unfold f_X10_loses b_X10_loses_17
    rcases (show d = 0 ∨ d = 1 by omega) with rfl | rfl
    · rw [if_pos (by rfl), m_size hR hT ok hs, bd_some, if_pos (by rfl), hR, c1]
      rfl
    · rw [if_neg (by decide), m_toldPays hR hT ok hs, bd_some, if_neg (by decide), hR, c1]
      rfl
  rw [key]
  unfold b_X10_loses_38
  rw [e3, bd_some]
  simp only [let_eq, R_pI, R3]
  have lft : ∀ j, j < 69 → bl_I σ3 140 j = bl_I σ 140 j := fun j hj => p1 j (by omega)
  -- what is true of the row ahead of goesBy
  have fin : ∀ (τ : bl_St), Mo σ τ → (∀ j, (j < 56 ∨ 68 ≤ j) → bl_I τ 140 j = bl_I σ3 140 j) → ((bl_I τ 140 56 = nI 1 ∧ bl_I τ 140 57 = nI (lG l) ∧ bl_I τ 140 58 = nI (lC (lLoss v l s d)) ∧ bl_I τ 140 59 = nI (lU (lLoss v l s d))) ∧ bl_I τ 140 67 = nI (lY (lLoss v l s d)) ∧ bl_I τ 140 60 = nI (lE l) ∧ bl_I τ 140 61 = lpp l ∧ bl_I τ 140 62 = lpg l ∧ bl_I τ 140 63 = lpt (lLoss v l s d) ∧ bl_I τ 140 64 = lpb (lLoss v l s d) ∧ bl_I τ 140 65 = nI (lT (lLoss v l s d)) ∧ bl_I τ 140 66 = nI (lB (lLoss v l s d))) →
      ∃ σ1, (bl_bd (f_X10_goesBy τ 139) fun _ σ15 => some (nI (lPaid v s d), σ15)) = some (nI (lPaid v s d), σ1) ∧ Mo σ σ1 ∧ TM σ1 140 0 v ∧ LM σ1 140 0 (lPass v (lLoss v l s d)) := by
    intro τ M o5 ⟨⟨q56, q57, q58, q59⟩, q67, q60, q61, q62, q63, q64, q65, q66⟩
    have all1 : lT (lLoss v l s d) + lB (lLoss v l s d) = lT l + lB l + 1 := by
      unfold lLoss
      split
      · show lT l + 1 + lB l = _
        omega
      · show lT l + (lB l + 1) = _
        omega
    have eP : lP (lLoss v l s d) = lP l := by unfold lLoss; split <;> rfl
    have eO : lO (lLoss v l s d) = 1 := by unfold lLoss; split <;> exact ho
    have eG : lG (lLoss v l s d) = lG l := by unfold lLoss; split <;> rfl
    have eE : lE (lLoss v l s d) = lE l := by unfold lLoss; split <;> rfl
    have epp : lpp (lLoss v l s d) = lpp l := by unfold lLoss; split <;> rfl
    have epg : lpg (lLoss v l s d) = lpg l := by unfold lLoss; split <;> rfl
    have eLg : lLg (lLoss v l s d) = lLg l := by unfold lLoss; split <;> rfl
    have eBk : lBk (lLoss v l s d) = cns (lE l) s d (lBk l) := by
      unfold lLoss
      rcases (show d = 0 ∨ d = 1 by omega) with rfl | rfl <;> rfl
    have eC : lC (lLoss v l s d) ≤ 4 := by
      unfold lLoss
      split
      · show (if lU l = 1 then lC l else lC l + 1) ≤ 4
        split <;> omega
      · show lC l ≤ 4
        omega
    have LT : LM τ 140 0 (lLoss v l s d) := by
      refine ⟨?_, fun _ => ?_, ?_, ?_, fun k w hk hw => ?_, fun k w hk hw => ?_⟩
      · simp only [Nat.zero_add]
        rw [eP, eO, eG]
        exact ⟨by rw [o5 55 (by omega), lft 55 (by omega)]; exact a0, q56, q57, q58, q59⟩
      · simp only [Nat.zero_add]
        rw [eP]
        exact ⟨q67, by rw [o5 68 (by omega), lft 68 (by omega)]; exact b.2⟩
      · simp only [Nat.zero_add]
        rw [eE, epp, epg]
        exact ⟨q60, q61, q62, q63, q64, q65, q66⟩
      · simp only [Nat.zero_add]
        rw [all1, eE]
        exact ⟨by rw [o5 69 (by omega)]; exact p2, by rw [o5 118 (by omega), p1 118 (by omega)]; exact m2⟩
      · rw [all1] at hk ⊢
        rw [eBk]
        show bl_I τ 140 (0 + 70 + _) = _
        rw [o5 _ (by omega)]
        have := p3 k w hk hw
        rw [← this]
      · rw [eE] at hk ⊢
        rw [eLg]
        show bl_I τ 140 (0 + 119 + _) = _
        rw [o5 _ (by omega), p1 _ (by omega)]
        exact d2 k w hk hw
    obtain ⟨σ1, z1, z2, z3, z4⟩ := m_goesBy (n := 0) (by rw [M.1]; exact hR) (T3.hi ok (fun j hj => o5 j (by omega))) ok LT hN (by rw [eP]; exact hP) eO eC (by rw [eG]; exact hG)
    exact ⟨σ1, by rw [z1, bd_some], M.tr z2, z3, z4⟩
  rcases (show d = 0 ∨ d = 1 by omega) with rfl | rfl
  · rw [if_pos (by rfl)]
    refine fin _ (((M3.pI _ _).pI _ _).pI _ _) (fun j hj => by rw [I_pI_ne (by omega), I_pI_ne (by omega), I_pI_ne (by omega)]) ?_
    have el : lLoss v l s 0 = ((lP l, lO l, lG l, lC l, lU l), (lY l + tS v (2 * s), lE l, lT l, lB l + 1), (lpp l, lpg l, lpt l, lpb l + nI (tS v (2 * s))), cns (lE l) s 0 (lBk l), lLg l) := rfl
    rw [el]
    simp [I_pI, lft, a1, a2, a3, a4, b.1, c1, c2, c3, c4, c5, c6, c7, ho, nI_add, nI_1, lPaid]
  · rw [if_neg (by decide)]
    have g59 : bl_I (bl_pI (bl_pI (bl_pI σ3 140 67 (bl_I σ3 140 67 + nI (lPaid v s 1))) 140 65 (bl_I (bl_pI σ3 140 67 (bl_I σ3 140 67 + nI (lPaid v s 1))) 140 65 + 1)) 140 63 (bl_I (bl_pI (bl_pI σ3 140 67 (bl_I σ3 140 67 + nI (lPaid v s 1))) 140 65 (bl_I (bl_pI σ3 140 67 (bl_I σ3 140 67 + nI (lPaid v s 1))) 140 65 + 1)) 140 63 + nI (lPaid v s 1))) 140 59 = nI (lU l) := by
      rw [I_pI_ne (by decide), I_pI_ne (by decide), I_pI_ne (by decide), lft 59 (by decide)]
      exact a4
    rw [g59]
    have el : lLoss v l s 1 = ((lP l, lO l, lG l, (if lU l = 1 then lC l else lC l + 1), 0), (lY l + tP v s, lE l, lT l + 1, lB l), (lpp l, lpg l, lpt l + nI (tP v s), lpb l), cns (lE l) s 1 (lBk l), lLg l) := rfl
    rcases (show lU l = 0 ∨ lU l = 1 by omega) with hu | hu
    · rw [if_neg (show ¬ nI (lU l) = 1 by rw [hu]; decide)]
      refine fin _ ((((M3.pI _ _).pI _ _).pI _ _).pI _ _) (fun j hj => by rw [I_pI_ne (by omega), I_pI_ne (by omega), I_pI_ne (by omega), I_pI_ne (by omega)]) ?_
      rw [el]
      simp [I_pI, lft, a1, a2, a3, a4, b.1, c1, c2, c3, c4, c5, c6, c7, ho, hu, nI_add, nI_1, lPaid]
    · rw [if_pos (show nI (lU l) = 1 by rw [hu]; rfl)]
      refine fin _ ((((M3.pI _ _).pI _ _).pI _ _).pI _ _) (fun j hj => by rw [I_pI_ne (by omega), I_pI_ne (by omega), I_pI_ne (by omega), I_pI_ne (by omega)]) ?_
      rw [el]
      simp [I_pI, lft, a1, a2, a3, a4, b.1, c1, c2, c3, c4, c5, c6, c7, ho, hu, nI_add, nI_1, lPaid]
      rfl
end MLF
