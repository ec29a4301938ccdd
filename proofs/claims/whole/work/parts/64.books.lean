/-! ===== book, ledger, mean ===== -/
theorem n16 {a : Nat} (ha : a < 2 ^ 31) : (if nI a < 16 then nI a else 16) = nI (min 16 a) := by
  show (if nI a < nI 16 then nI a else nI 16) = _
  by_cases h : a < 16
  · rw [if_pos (nI_lt h (by decide)), Nat.min_eq_right (by omega)]
  · rw [if_neg (nI_nlt (by omega) ha), Nat.min_eq_left (by omega)]
theorem x_entry {σ : bl_St} {a all : Nat} {bk : Nat → Nat → Nat} (h : Ring (bl_I σ a) all bk) (ha : all < 2 ^ 31 - 1) (k w : Int32) : f_X9_entry σ a (nI all) k w = some (if vC k (min 16 all) ∧ vC w 3 then nI (bk (Int32.toNatClampNeg k) (Int32.toNatClampNeg w)) else (-1), σ) := by
  unfold f_X9_entry
  rw [n16 (by omega)]
  by_cases h1 : k < 0
  · rw [if_pos h1, if_neg (fun z => by rw [lt0_iff] at h1; have := z.1.1; omega)]
  rw [if_neg h1]
  by_cases h2 : nI (min 16 all) ≤ k
  · rw [if_pos h2, if_neg (fun z => by rw [leN_iff k (by omega)] at h2; have := z.1.2; omega)]
  rw [if_neg h2]
  have hk : vC k (min 16 all) := ⟨by rw [lt0_iff] at h1; omega, by rw [leN_iff k (by omega)] at h2; omega⟩
  obtain ⟨q, hq, rfl⟩ := vC_of (by omega) hk
  by_cases h3 : w < 0
  · rw [if_pos h3, if_neg (fun z => by rw [lt0_iff] at h3; have := z.2.1; omega)]
  rw [if_neg h3]
  by_cases h4 : w < 3
  · have hw : vC w 3 := ⟨by rw [lt0_iff] at h3; omega, by rw [show (3 : Int32) = nI 3 from rfl, ltN_iff w (by decide)] at h4; exact h4⟩
    obtain ⟨j, hj, rfl⟩ := vC_of (by decide) hw
    have hm : (all - 1 - q) % 16 < 16 := Nat.mod_lt _ (by decide)
    rw [if_pos h4, if_pos ⟨hk, hw⟩, show (1 : Int32) = nI 1 from rfl, nI_sub (by omega), nI_sub (by omega), nI_mod16 (by omega), show (3 : Int32) = nI 3 from rfl, nI_mul, nI_add, in_nI (by omega) (by decide), gd_true, nI_clamp (by omega), nI_clamp (by omega), nI_clamp (by omega), h q j hq hj]
  · rw [if_neg h4, if_neg (fun z => h4 (by rw [show (3 : Int32) = nI 3 from rfl, ltN_iff w (by decide)]; exact z.2.2))]
theorem m_entry {σ : bl_St} {q all : Nat} {bk : Nat → Nat → Nat} (hR : bl_R σ 139 1 = 140) (hq : q + 48 < 167) (h0 : bl_I σ 140 q = nI (min 16 all)) (h : Shelf (fun j => bl_I σ 140 (q + 1 + j)) all bk) (k w : Int32) : f_X10_entry σ 139 (nI q) k w = some (if vC k (min 16 all) ∧ vC w 3 then nI (bk (Int32.toNatClampNeg k) (Int32.toNatClampNeg w)) else (-1), σ) := by
  unfold f_X10_entry
  rw [in_nI (by omega) (by decide), gd_true, m_in, bd_some, hR, nI_clamp (show q < 2 ^ 31 by omega), h0, i2l_toInt, i2l_toInt, sub1_toInt (by omega)]
  have e0 : (0 : Int64).toInt = 0 := rfl
  rw [e0]
  by_cases hk : vC k (min 16 all)
  · rw [if_pos (show 0 ≤ k.toInt ∧ k.toInt ≤ ((min 16 all : Nat) : Int) - 1 by unfold vC at hk; omega), if_neg (by decide)]
    obtain ⟨p, hp, rfl⟩ := vC_of (by omega) hk
    rw [m_in, bd_some, i2l_toInt, e0, show (2 : Int64).toInt = 2 from rfl]
    by_cases hw : vC w 3
    · rw [if_pos (show 0 ≤ w.toInt ∧ w.toInt ≤ 2 by unfold vC at hw; omega), if_neg (by decide)]
      obtain ⟨j, hj, rfl⟩ := vC_of (by decide) hw
      have hsh := h p j hp hj
      simp only at hsh
      rw [gd_true, hR, h0, nI_1, show (1 : Int32) = nI 1 from rfl, nI_sub (by omega), nI_sub (by omega), show (3 : Int32) = nI 3 from rfl, nI_mul, nI_add, nI_add, in_nI (by omega) (by decide), gd_true, nI_clamp (by omega), if_pos ⟨hk, hw⟩, nI_clamp (by omega), nI_clamp (by omega), Nat.add_assoc (q + 1), hsh]
    · rw [if_neg (show ¬ (0 ≤ w.toInt ∧ w.toInt ≤ 2) by unfold vC at hw; omega), if_pos rfl, if_neg (fun z => hw z.2)]
  · rw [if_neg (show ¬ (0 ≤ k.toInt ∧ k.toInt ≤ ((min 16 all : Nat) : Int) - 1) by unfold vC at hk; omega), if_pos rfl, if_neg (fun z => hk z.1)]
/-- sums -/
def sm (f : Nat → Nat) : Nat → Nat
  | 0 => 0
  | n + 1 => sm f n + f n
theorem sm_front (f : Nat → Nat) : ∀ n, sm f (n + 1) = f 0 + sm (fun i => f (i + 1)) n
  | 0 => by simp [sm]
  | n + 1 => by
    show sm f (n + 1) + f (n + 1) = f 0 + (sm (fun i => f (i + 1)) n + f (n + 1))
    rw [sm_front f n, Nat.add_assoc]
theorem sm_congr {f g : Nat → Nat} : ∀ n, (∀ i, i < n → f i = g i) → sm f n = sm g n
  | 0, _ => rfl
  | n + 1, h => by
    show sm f n + f n = sm g n + g n
    rw [sm_congr n (fun i hi => h i (by omega)), h n (by omega)]
theorem sm_rev (f : Nat → Nat) : ∀ n, sm (fun i => f (n - 1 - i)) n = sm f n
  | 0 => rfl
  | n + 1 => by
    rw [sm_front]
    show f (n + 1 - 1 - 0) + sm (fun i => f (n + 1 - 1 - (i + 1))) n = sm f n + f n
    rw [← sm_rev f n, Nat.add_comm]
    congr 1
    exact sm_congr n (fun i hi => by congr 1; omega)
theorem sm_le {f : Nat → Nat} {B : Nat} : ∀ n, (∀ i, i < n → f i ≤ B) → sm f n ≤ B * n
  | 0, _ => Nat.zero_le _
  | n + 1, h => by
    have h1 := sm_le n (fun i hi => h i (by omega))
    have h2 := h n (by omega)
    show sm f n + f n ≤ B * (n + 1)
    rw [Nat.mul_add]
    omega
theorem x_gcd (σ : bl_St) : ∀ (B a b c m : Nat), b ≤ B → B ≤ 16 → c + B < 64 → a < 2 ^ 31 → (0 < a ∨ 0 < b) → B < m → bl_fx (fun _ _ _ _ => none) (b_X9_commonDivisor_7) m σ (nI a) (nI b) (nI c) = some (nI (Nat.gcd a b), σ) := by
  intro B
  induction B with
  | zero =>
    intro a b c m hb h16 hc ha hpos hm
    obtain ⟨m, rfl⟩ : ∃ q, m = q + 1 := ⟨m - 1, by omega⟩
    have hb : b = 0 := by omega
    subst hb
    rw [fx_succ]
    unfold b_X9_commonDivisor_7
    rw [if_neg (show ¬ (64 : Int32) ≤ nI c from nI_ge (a := c) (b := 64) (by omega) (by decide)), if_pos (by rfl), Nat.gcd_zero_right]
    by_cases h1 : 1 < a
    · rw [if_pos (show (1 : Int32) < nI a from nI_lt (a := 1) h1 ha)]
    · rw [if_neg (show ¬ (1 : Int32) < nI a from nI_nlt (a := 1) (b := a) (by omega) (by decide)), show a = 1 by omega]; rfl
  | succ B ih =>
    intro a b c m hb h16 hc ha hpos hm
    rcases Nat.eq_zero_or_pos b with h0 | hp
    · subst h0
      obtain ⟨m, rfl⟩ : ∃ q, m = q + 1 := ⟨m - 1, by omega⟩
      rw [fx_succ]
      unfold b_X9_commonDivisor_7
      rw [if_neg (show ¬ (64 : Int32) ≤ nI c from nI_ge (a := c) (b := 64) (by omega) (by decide)), if_pos (by rfl), Nat.gcd_zero_right]
      by_cases h1 : 1 < a
      · rw [if_pos (show (1 : Int32) < nI a from nI_lt (a := 1) h1 ha)]
      · rw [if_neg (show ¬ (1 : Int32) < nI a from nI_nlt (a := 1) (b := a) (by omega) (by decide)), show a = 1 by omega]; rfl
    · obtain ⟨m, rfl⟩ : ∃ q, m = q + 1 := ⟨m - 1, by omega⟩
      have hlt := Nat.mod_lt a hp
      have key := ih b (a % b) (c + 1) m (by omega) (by omega) (by omega) (by omega) (Or.inl hp) (by omega)
      rw [fx_succ]
      have hb2 : b_X9_commonDivisor_7 (bl_fx (fun _ _ _ _ => none) (b_X9_commonDivisor_7) m) σ (nI a) (nI b) (nI c) = bl_fx (fun _ _ _ _ => none) (b_X9_commonDivisor_7) m σ (nI b) (nI (a % b)) (nI (c + 1)) := by
        have hz : ¬ nI b = 0 := nI_ne0 hp (by omega)
        show (if (64 : Int32) ≤ nI c then _ else _) = _
        rw [if_neg (show ¬ (64 : Int32) ≤ nI c from nI_ge (a := c) (b := 64) (by omega) (by decide)), if_neg hz, gd_of (by simp [hz]), let_eq, let_eq, nI_mod ha (by omega), nI_1]
      rw [hb2, key, show Nat.gcd b (a % b) = Nat.gcd a b by rw [Nat.gcd_comm b (a % b), ← Nat.gcd_rec, Nat.gcd_comm]]
theorem m_gcd (σ : bl_St) (v1 v2 v3 : Int32) : ∀ (B a b m : Nat), b ≤ B → B ≤ 16 → a < 2 ^ 31 → (0 < a ∨ 0 < b) → B < m → bl_fx (fun _ _ _ _ _ _ => none) (b_X10_mean_54) m σ v1 v2 v3 (nI a) (nI b) = some (if v1 = 0 then v3 / nI (Nat.gcd a b) else v2 / nI (Nat.gcd a b), σ) := by
  have base : ∀ a k, a < 2 ^ 31 → 0 < a → b_X10_mean_54 k σ v1 v2 v3 (nI a) (nI 0) = some (if v1 = 0 then v3 / nI (Nat.gcd a 0) else v2 / nI (Nat.gcd a 0), σ) := by
    intro a k ha hp
    have hz : ¬ nI a = 0 := nI_ne0 hp ha
    unfold b_X10_mean_54
    rw [if_pos (by rfl), gd_of (by simp [hz]), gd_of (by simp [hz]), Nat.gcd_zero_right]
    simp only [ite_some]
  intro B
  induction B with
  | zero =>
    intro a b m hb h16 ha hpos hm
    obtain ⟨m, rfl⟩ : ∃ q, m = q + 1 := ⟨m - 1, by omega⟩
    have hb : b = 0 := by omega
    subst hb
    rw [fx_succ]
    exact base a _ ha (by omega)
  | succ B ih =>
    intro a b m hb h16 ha hpos hm
    obtain ⟨m, rfl⟩ : ∃ q, m = q + 1 := ⟨m - 1, by omega⟩
    rcases Nat.eq_zero_or_pos b with h0 | hp
    · subst h0
      rw [fx_succ]
      exact base a _ ha (by omega)
    · have hlt := Nat.mod_lt a hp
      have key := ih b (a % b) m (by omega) (by omega) (by omega) (Or.inl hp) (by omega)
      have hz : ¬ nI b = 0 := nI_ne0 hp (by omega)
      rw [fx_succ]
      have hb2 : b_X10_mean_54 (bl_fx (fun _ _ _ _ _ _ => none) (b_X10_mean_54) m) σ v1 v2 v3 (nI a) (nI b) = bl_fx (fun _ _ _ _ _ _ => none) (b_X10_mean_54) m σ v1 v2 v3 (nI b) (nI (a % b)) := by
        show (if nI b = 0 then _ else _) = _
        rw [if_neg hz, gd_of (by simp [hz]), let_eq, nI_mod ha (by omega)]
      rw [hb2, key, show Nat.gcd b (a % b) = Nat.gcd a b by rw [Nat.gcd_comm b (a % b), ← Nat.gcd_rec, Nat.gcd_comm]]
section BKS
variable {s : st_V} {n : Nat}
theorem op_book (ok : SOk s n) (hn : n ≤ 600) (k w : Int32) : Both n s (fun σ => f_X9_book σ 0 k w) (fun τ => f_X10_book τ 139 k w) := by
  have hE := ok.2.1.2.2.2.2.1
  refine Both.same ok (if vC k (min 16 (lT (sl s) + lB (sl s))) ∧ vC w 3 then nI (lBk (sl s) (Int32.toNatClampNeg k) (Int32.toNatClampNeg w)) else (-1)) (fun σ hx => ⟨σ, ?_, hx⟩) (fun τ hm => ⟨τ, ?_, hm⟩)
  · show f_X9_book σ 0 k w = _
    obtain ⟨⟨r1, r2⟩, -, -, ⟨c1, c2, c3, c4, c5, c6, c7⟩, d1, d2⟩ := hx.2.2.1
    unfold f_X9_book
    rw [hx.1.1.1.2.2.2.2.1, r1, c6, c7, nI_add, x_entry d1 (by omega), bd_some]
  · show f_X10_book τ 139 k w = _
    obtain ⟨-, -, -, ⟨m1, m2⟩, d1, d2⟩ := hm.2.2.1
    simp only [Nat.zero_add] at m1 m2 d1
    unfold f_X10_book
    rw [show (69 : Int32) = nI 69 from rfl, m_entry hm.1.1.1.1.1 (by decide) m1 d1, bd_some]
theorem op_ledger (ok : SOk s n) (hn : n ≤ 600) (k w : Int32) : Both n s (fun σ => f_X9_ledger σ 0 k w) (fun τ => f_X10_ledger τ 139 k w) := by
  have hE := ok.2.1.2.2.2.2.1
  refine Both.same ok (if vC k (min 16 (lE (sl s))) ∧ vC w 3 then nI (lLg (sl s) (Int32.toNatClampNeg k) (Int32.toNatClampNeg w)) else (-1)) (fun σ hx => ⟨σ, ?_, hx⟩) (fun τ hm => ⟨τ, ?_, hm⟩)
  · show f_X9_ledger σ 0 k w = _
    obtain ⟨⟨r1, r2⟩, -, -, ⟨c1, c2, c3, c4, c5, c6, c7⟩, d1, d2⟩ := hx.2.2.1
    unfold f_X9_ledger
    rw [hx.1.1.1.2.2.2.2.1, r2, c1, x_entry d2 (by omega), bd_some]
  · show f_X10_ledger τ 139 k w = _
    obtain ⟨-, -, -, ⟨m1, m2⟩, d1, d2⟩ := hm.2.2.1
    simp only [Nat.zero_add] at m1 m2 d2
    unfold f_X10_ledger
    rw [show (118 : Int32) = nI 118 from rfl, m_entry hm.1.1.1.1.1 (by decide) m2 d2, bd_some]
theorem op_mean (ok : SOk s n) (hn : n ≤ 600) (g : Int32) : Both n s (fun σ => f_X9_mean σ 0 g) (fun τ => f_X10_mean τ 139 g) := by
  have hE := ok.2.1.2.2.2.2.1
  have hLg := ok.2.1.2.2.2.2.2
  obtain ⟨M, hM⟩ : ∃ M, M = min 16 (lE (sl s)) := ⟨_, rfl⟩
  rw [← hM] at hLg
  rcases Nat.eq_zero_or_pos M with h0 | hp
  · refine Both.same ok (-1) (fun σ hx => ⟨σ, ?_, hx⟩) (fun τ hm => ⟨τ, ?_, hm⟩)
    · show f_X9_mean σ 0 g = _
      obtain ⟨-, -, -, ⟨c1, -⟩, -⟩ := hx.2.2.1
      unfold f_X9_mean
      rw [hx.1.1.1.2.2.2.2.1, c1, n16 (by omega), ← hM, h0, let_eq, if_neg (show ¬ (0 : Int32) < nI 0 by decide)]
    · show f_X10_mean τ 139 g = _
      obtain ⟨-, -, -, ⟨m1, m2⟩, -⟩ := hm.2.2.1
      simp only [Nat.zero_add] at m2
      unfold f_X10_mean
      rw [hm.1.1.1.1.1, m2, ← hM, h0, let_eq, if_pos (by rfl)]
  have hz : ¬ nI M = 0 := nI_ne0 hp (by omega)
  obtain ⟨f, hf⟩ : ∃ f, f = (fun i => lLg (sl s) i 1) := ⟨_, rfl⟩
  have hsum : ∀ j, j ≤ M → sm f j ≤ 4095 * j := fun j hj => sm_le j (fun i hi => by rw [hf]; exact hLg i (by omega))
  have hsum2 : ∀ j, j ≤ M → sm (fun i => f (M - 1 - i)) j ≤ 4095 * j := fun j hj => sm_le j (fun i hi => by rw [hf]; exact hLg (M - 1 - i) (by omega))
  have hS := hsum M (Nat.le_refl _)
  have hg0 : 0 < Nat.gcd (sm f M) M := Nat.gcd_pos_of_pos_right _ hp
  have hgle : Nat.gcd (sm f M) M ≤ M := Nat.le_of_dvd hp (Nat.gcd_dvd_right _ _)
  have hgz : ¬ nI (Nat.gcd (sm f M) M) = 0 := nI_ne0 hg0 (by omega)
  refine Both.same ok (if g = 0 then nI (sm f M) / nI (Nat.gcd (sm f M) M) else nI M / nI (Nat.gcd (sm f M) M)) (fun σ hx => ⟨σ, ?_, hx⟩) (fun τ hm => ⟨τ, ?_, hm⟩)
  · show f_X9_mean σ 0 g = _
    obtain ⟨⟨r1, r2⟩, -, -, ⟨c1, -⟩, d1, d2⟩ := hx.2.2.1
    have loop : ∀ (r j m : Nat), j + r = M → r < m → bl_fx (fun _ _ _ _ _ _ => none) (b_X9_mean_24) m σ 0 g (nI M) (nI (sm f j)) (nI j) = some (if g = 0 then nI (sm f M) / nI (Nat.gcd (sm f M) M) else nI M / nI (Nat.gcd (sm f M) M), σ) := by
      intro r
      induction r with
      | zero =>
        intro j m hj hm
        obtain ⟨m, rfl⟩ : ∃ q, m = q + 1 := ⟨m - 1, by omega⟩
        have hj : j = M := by omega
        subst hj
        rw [fx_succ]
        unfold b_X9_mean_24 f_X9_commonDivisor
        rw [if_pos (nI_le (Nat.le_refl _) (by omega)), show (0 : Int32) = nI 0 from rfl, x_gcd σ j (sm f j) j 0 bl_fu (Nat.le_refl _) (by omega) (by omega) (by omega) (Or.inr hp) (by unfold bl_fu; omega), bd_some, show nI 0 = (0 : Int32) from rfl, gd_of (by simp [hgz]), gd_of (by simp [hgz])]
        simp only [ite_some]
      | succ r ih =>
        intro j m hj hm
        obtain ⟨m, rfl⟩ : ∃ q, m = q + 1 := ⟨m - 1, by omega⟩
        have := ih (j + 1) m (by omega) (by omega)
        rw [fx_succ]
        unfold b_X9_mean_24
        rw [if_neg (nI_ge (by omega) (by omega)), hx.1.1.1.2.2.2.2.1, r2, c1, x_entry d2 (by omega), bd_some, ← hM, if_pos ⟨vC_nI (by omega) (by omega), by decide⟩, let_eq, let_eq, nI_clamp (by omega), show Int32.toNatClampNeg 1 = 1 from rfl, nI_add, nI_1]
        have e : sm f j + lLg (sl s) j 1 = sm f (j + 1) := by
          show _ = sm f j + f j
          rw [hf]
        rw [e]
        exact this
    unfold f_X9_mean
    rw [hx.1.1.1.2.2.2.2.1, c1, n16 (by omega), ← hM, let_eq, if_pos (show (0 : Int32) < nI M from nI_lt (a := 0) hp (by omega))]
    exact loop M 0 bl_fu (by omega) (by unfold bl_fu; omega)
  · show f_X10_mean τ 139 g = _
    obtain ⟨-, -, -, ⟨m1, m2⟩, d1, d2⟩ := hm.2.2.1
    simp only [Nat.zero_add] at m2 d2
    have erev : sm (fun i => f (M - 1 - i)) M = sm f M := sm_rev f M
    have loop : ∀ (r j m : Nat), j + r = M → r < m → bl_fx (fun _ _ _ _ _ _ => none) (b_X10_mean_19) m τ 139 g (nI M) (nI (sm (fun i => f (M - 1 - i)) j)) (nI j) = some (if g = 0 then nI (sm f M) / nI (Nat.gcd (sm f M) M) else nI M / nI (Nat.gcd (sm f M) M), τ) := by
      intro r
      induction r with
      | zero =>
        intro j m hj hm2
        obtain ⟨m, rfl⟩ : ∃ q, m = q + 1 := ⟨m - 1, by omega⟩
        have hj : j = M := by omega
        rw [hj, fx_succ, erev]
        unfold b_X10_mean_19
        rw [if_pos (nI_le (Nat.le_refl _) (by omega))]
        exact m_gcd τ g (nI M) (nI (sm f M)) M (sm f M) M bl_fu (Nat.le_refl _) (by omega) (by omega) (Or.inr hp) (by unfold bl_fu; omega)
      | succ r ih =>
        intro j m hj hm2
        obtain ⟨m, rfl⟩ : ∃ q, m = q + 1 := ⟨m - 1, by omega⟩
        have := ih (j + 1) m (by omega) (by omega)
        have hd := d2 (M - 1 - j) 1 (by omega) (by decide)
        simp only at hd
        rw [fx_succ]
        unfold b_X10_mean_19
        rw [if_neg (nI_ge (by omega) (by omega)), show (119 : Int32) = nI 119 from rfl, show (3 : Int32) = nI 3 from rfl, nI_mul, nI_add, nI_1, in_nI (by omega) (by decide), gd_true, let_eq, let_eq, hm.1.1.1.1.1, nI_clamp (by omega), nI_1]
        have e2 : bl_I τ 140 (119 + 3 * j + 1) = nI (f (M - 1 - j)) := by
          rw [hf]
          rw [← hM] at hd
          rw [show 119 + 3 * j + 1 = 119 + (3 * (M - 1 - (M - 1 - j)) + 1) by omega]
          exact hd
        rw [e2, nI_add]
        exact this
    unfold f_X10_mean
    rw [hm.1.1.1.1.1, m2, ← hM, let_eq, if_neg hz]
    exact loop M 0 bl_fu (by omega) (by unfold bl_fu; omega)
end BKS
