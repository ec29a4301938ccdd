section PHN
variable {τ : bl_St} {b : Nat → Nat} {ln p q : Nat} {v : tm_V}
/-- what a phrase came to -/
abbrev bdM (τ : bl_St) (f : Nat) (o : Option (Unit × bl_St)) : Prop := ∃ τ1, o = some ((), τ1) ∧ Mf τ τ1 ∧ bl_I τ1 139 27 = 1 ∧ bl_I τ1 139 25 = nI f
theorem m_clsW {f N : Nat} (hN : N < 8) (hR : bl_R τ 139 2 = 141) : ∀ (r k m : Nat) (ρ : bl_St), k + r = 5 → r < m → Mf τ ρ → bl_I ρ 141 0 = nI N → bl_I ρ 139 27 = 1 → bl_I ρ 139 25 = nI f → bdM τ f (bl_fx (fun _ _ _ => none) (b_X10_readsClass_14) m ρ 139 (nI k)) := by
  intro r
  induction r with
  | zero =>
    intro k m ρ hk hm M h0 h27 h25
    obtain ⟨m, rfl⟩ : ∃ z, m = z + 1 := ⟨m - 1, by omega⟩
    refine ⟨_, ?_, M.r 0 (nI (N + 1)), by rw [I_pI_o (by decide)]; exact h27, by rw [I_pI_o (by decide)]; exact h25⟩
    rw [fx_succ]
    unfold b_X10_readsClass_14
    rw [if_pos (show (4 : Int32) < nI k from nI_lt (a := 4) (by omega) (by omega)), let_eq, M.1, hR, h0, nI_1]
  | succ r ih =>
    intro k m ρ hk hm M h0 h27 h25
    obtain ⟨m, rfl⟩ : ∃ z, m = z + 1 := ⟨m - 1, by omega⟩
    have k59 : ∀ hi : Int32, bdM τ f (b_X10_readsClass_59 (bl_fx (fun _ _ _ => none) (b_X10_readsClass_14) m) ρ 139 (nI k) hi 0 139 (nI (5 + 5 * N + k)) 141) := fun hi => by
      obtain ⟨τ1, e1, q⟩ := ih (k + 1) m (bl_pI (bl_pI ρ 139 27 1) 141 (5 + 5 * N + k) 0) (by omega) (by omega) ((M.w 1).r _ _) (by rw [I_pI_ne (by omega), I_pI_o (by decide)]; exact h0) (by rw [I_pI_o (by decide), I_pI_self]) (by rw [I_pI_o (by decide), I_pI_ne (by decide)]; exact h25)
      refine ⟨τ1, ?_, q⟩
      unfold b_X10_readsClass_59
      rw [m_needsW h27, bd_some, in_nI (by omega) (by decide), gd_true, let_eq, let_eq, nI_clamp (by omega), nI_1]
      exact e1
    rw [fx_succ]
    show bdM τ f (if (4 : Int32) < nI k then _ else _)
    rw [if_neg (show ¬ (4 : Int32) < nI k from nI_nlt (a := 4) (by omega) (by decide)), M.1, hR, h0, show (5 : Int32) + 5 * nI N + nI k = nI (5 + 5 * N + k) by rw [show (5 : Int32) = nI 5 from rfl, nI_mul, nI_add, nI_add]]
    split
    · exact k59 999
    · split
      · exact k59 99
      · exact k59 7
theorem RM.cls (h : RM τ v) (P : POk v) (hN : tN v < 8) {x : Nat → Nat} (hx : ∀ k, k < 5 → bl_I τ 141 (5 + 5 * tN v + k) = nI (x k)) : RM (bl_pI τ 141 0 (nI (tN v + 1))) (takeV 0 v x) := by
  obtain ⟨⟨⟨a1, a2⟩, a3, a4, a5⟩, a6⟩ := h
  simp only [Nat.zero_add] at a1 a2 a3 a4 a5
  unfold takeV
  rw [if_pos rfl]
  refine ⟨⟨⟨I_pI_self _ _ _ _, by rw [I_pI_ne (by decide)]; exact a2⟩, ?_, fun i hi => ?_, fun i hi => ?_⟩, fun j h1 h2 => by rw [I_pI_ne (by omega)]; exact a6 j h1 h2⟩
  · simp only [Nat.zero_add]
    rw [I_pI_ne (by decide), I_pI_ne (by decide), I_pI_ne (by decide)]
    exact a3
  · have hi : i < 5 * (tN v + 1) := hi
    simp only [Nat.zero_add]
    rw [I_pI_ne (by omega)]
    show _ = nI (if 5 * tN v ≤ i then x (i - 5 * tN v) else tC v i)
    by_cases c : 5 * tN v ≤ i
    · rw [if_pos c, ← hx (i - 5 * tN v) (by omega)]
      congr 1
      omega
    · rw [if_neg c]
      exact a4 i (by omega)
  · simp only [Nat.zero_add]
    rw [I_pI_ne (by omega)]
    exact a5 i hi
theorem RM.los (h : RM τ v) (P : POk v) (hK : tK v < 5) {x : Nat → Nat} (hx : ∀ k, k < 2 → bl_I τ 141 (45 + 2 * tK v + k) = nI (x k)) : RM (bl_pI τ 141 1 (nI (tK v + 1))) (takeV 1 v x) := by
  have p1 := P.1
  obtain ⟨⟨⟨a1, a2⟩, a3, a4, a5⟩, a6⟩ := h
  simp only [Nat.zero_add] at a1 a2 a3 a4 a5
  unfold takeV
  rw [if_neg (by decide), if_pos rfl]
  refine ⟨⟨⟨by rw [I_pI_ne (by decide)]; exact a1, I_pI_self _ _ _ _⟩, ?_, fun i hi => ?_, fun i hi => ?_⟩, fun j h1 h2 => by rw [I_pI_ne (by omega)]; exact a6 j h1 h2⟩
  · simp only [Nat.zero_add]
    rw [I_pI_ne (by decide), I_pI_ne (by decide), I_pI_ne (by decide)]
    exact a3
  · simp only [Nat.zero_add]
    rw [I_pI_ne (by omega)]
    exact a4 i hi
  · have hi : i < 2 * (tK v + 1) := hi
    simp only [Nat.zero_add]
    rw [I_pI_ne (by omega)]
    show _ = nI (if 2 * tK v ≤ i then x (i - 2 * tK v) else tS v i)
    by_cases c : 2 * tK v ≤ i
    · rw [if_pos c, ← hx (i - 2 * tK v) (by omega)]
      congr 1
      omega
    · rw [if_neg c]
      exact a5 i (by omega)
/-- a write behind what is read keeps it -/
theorem RM.put (h : RM τ v) {k : Nat} (h1 : (5 + 5 * tN v ≤ k ∧ k < 45) ∨ (45 + 2 * tK v ≤ k ∧ k < 55)) (P : POk v) (x : Int32) : RM (bl_pI τ 141 k x) v := by
  have p1 := P.1
  obtain ⟨⟨⟨a1, a2⟩, a3, a4, a5⟩, a6⟩ := h
  simp only [Nat.zero_add] at a1 a2 a3 a4 a5
  refine ⟨⟨⟨by rw [I_pI_ne (by omega)]; exact a1, by rw [I_pI_ne (by omega)]; exact a2⟩, ?_, fun i hi => ?_, fun i hi => ?_⟩, fun j h1 h2 => by rw [I_pI_ne (by omega)]; exact a6 j h1 h2⟩
  · simp only [Nat.zero_add]
    rw [I_pI_ne (by omega), I_pI_ne (by omega), I_pI_ne (by omega)]
    exact a3
  · simp only [Nat.zero_add]
    rw [I_pI_ne (by omega)]
    exact a4 i hi
  · simp only [Nat.zero_add]
    rw [I_pI_ne (by omega)]
    exact a5 i hi
/-- a class's numbers -/
theorem m_cls (w : WM τ b ln) (P : POk v) (hN : tN v < 8) {en : Nat} (hen : en ≤ ln) : ∀ (r k m : Nat) (ρ : bl_St) (was : Nat), k + r = 5 → r < m → Mf τ ρ → (was = 1 ∨ was = 2) → (k = 0 ∨ was = 2) → TKN ρ b ln (qI b ln en k) was → bl_I ρ 139 27 = 0 → RM ρ v → (∀ i, i < k → bl_I ρ 141 (5 + 5 * tN v + i) = nI (nV b ln (qI b ln en i))) →
    (∀ f, nrun b ln 0 (pHi 0) r k (qI b ln en k) = .inl f → bdM τ f (bl_fx (fun _ _ _ => none) (b_X10_readsClass_14) m ρ 139 (nI k))) ∧
    (∀ z, nrun b ln 0 (pHi 0) r k (qI b ln en k) = .inr z → ∃ τ1, bl_fx (fun _ _ _ => none) (b_X10_readsClass_14) m ρ 139 (nI k) = some ((), τ1) ∧ Mf τ τ1 ∧ bl_I τ1 139 27 = 0 ∧ TKN τ1 b ln z 2 ∧ RM τ1 (takeV 0 v (fun i => nV b ln (qI b ln en i)))) := by
  intro r
  induction r with
  | zero =>
    intro k m ρ was hk hm M hw hw2 T h27 R hx
    obtain ⟨m, rfl⟩ : ∃ z, m = z + 1 := ⟨m - 1, by omega⟩
    have h0 := R.1.1.1
    refine ⟨fun f z => (by rw [nrun_0] at z; cases z), fun z hz => ?_⟩
    rw [nrun_0] at hz
    have hz := Sum.inr.inj hz
    have hwas : was = 2 := by omega
    refine ⟨_, ?_, M.r 0 (nI (tN v + 1)), by rw [I_pI_o (by decide)]; exact h27, ?_, R.cls P hN (fun i hi => hx i (by omega))⟩
    · rw [fx_succ]
      unfold b_X10_readsClass_14
      rw [if_pos (show (4 : Int32) < nI k from nI_lt (a := 4) (by omega) (by omega)), let_eq, M.1, w.1.1, h0, nI_1]
    · rw [← hz, ← hwas]
      exact T.r _ _
  | succ r ih =>
    intro k m ρ was hk hm M hw hw2 T h27 R hx
    obtain ⟨m, rfl⟩ : ∃ z, m = z + 1 := ⟨m - 1, by omega⟩
    have h0 := R.1.1.1
    have W := w.mf M
    have hh := pHi_le 0 k
    have hq := qI_le (b := b) hen k
    obtain ⟨g1, g2⟩ := m_needs W hw T h27 hq (lo := 0) (hi := pHi 0 k) (by omega) hh
    have e0 : bl_fx (fun _ _ _ => none) (b_X10_readsClass_14) (m + 1) ρ 139 (nI k) = b_X10_readsClass_59 (bl_fx (fun _ _ _ => none) (b_X10_readsClass_14) m) ρ 139 (nI k) (nI (pHi 0 k)) (nI 0) 139 (nI (5 + 5 * tN v + k)) 141 := by
      rw [fx_succ]
      show (if (4 : Int32) < nI k then _ else _) = _
      rw [if_neg (show ¬ (4 : Int32) < nI k from nI_nlt (a := 4) (by omega) (by decide)), M.1, w.1.1, h0, show (5 : Int32) + 5 * nI (tN v) + nI k = nI (5 + 5 * tN v + k) by rw [show (5 : Int32) = nI 5 from rfl, nI_mul, nI_add, nI_add]]
      rcases (show k = 0 ∨ k = 1 ∨ k = 2 ∨ k = 3 ∨ k = 4 by omega) with rfl | rfl | rfl | rfl | rfl
      · rw [if_pos (by rfl)]; rfl
      · rw [if_neg (by decide), if_neg (by decide)]; rfl
      · rw [if_neg (by decide), if_neg (by decide)]; rfl
      · rw [if_neg (by decide), if_neg (by decide)]; rfl
      · rw [if_neg (by decide), if_pos (by rfl)]; rfl
    rw [e0, nrun_1]
    unfold b_X10_readsClass_59
    by_cases c : nOk b ln (qI b ln en k) 0 (pHi 0 k)
    · obtain ⟨ρa, ea, ga, ta⟩ := g1 c
      have Ra : RM ρa v := R.e (ga.2.2.2 141 (by decide))
      rw [if_pos c, ea, bd_some, in_nI (by omega) (by decide), gd_true, let_eq, let_eq, nI_clamp (by omega), nI_1]
      exact ih (k + 1) m (bl_pI ρa 141 (5 + 5 * tN v + k) (nI (nV b ln (qI b ln en k)))) 2 (by omega) (by omega) ((M.tr ga.mf).r _ _) (Or.inr rfl) (Or.inr rfl) (ta.r _ _) (by rw [I_pI_o (by decide), ga.2.2.1 27 (by decide) (by decide) (by decide) (by decide)]; exact h27) (Ra.put (Or.inl ⟨by omega, by omega⟩) P _) (fun i hi => by
        by_cases he : i = k
        · rw [he, I_pI_self]
        · rw [I_pI_ne (by omega), ga.2.2.2 141 (by decide)]
          exact hx i (by omega))
    · rw [if_neg c, g2 c, bd_some, in_nI (by omega) (by decide), gd_true, let_eq, let_eq, nI_clamp (by omega), nI_1]
      refine ⟨fun f z => ?_, fun q z => (by cases z)⟩
      have z := Sum.inl.inj z
      rw [← z]
      exact m_clsW hN w.1.1 r (k + 1) m _ (by omega) (by omega) ((M.w 1).r _ _) (by rw [I_pI_ne (by omega), I_pI_o (by decide)]; exact h0) (by rw [I_pI_o (by decide), I_pI_self]) (by rw [I_pI_o (by decide), I_pI_ne (by decide)]; exact T.1)
theorem m_losW {f N : Nat} (hN : N < 5) (hR : bl_R τ 139 2 = 141) : ∀ (r k m : Nat) (ρ : bl_St), k + r = 2 → r < m → Mf τ ρ → bl_I ρ 141 1 = nI N → bl_I ρ 139 27 = 1 → bl_I ρ 139 25 = nI f → bdM τ f (bl_fx (fun _ _ _ => none) (b_X10_readsLoss_13) m ρ 139 (nI k)) := by
  intro r
  induction r with
  | zero =>
    intro k m ρ hk hm M h0 h27 h25
    obtain ⟨m, rfl⟩ : ∃ z, m = z + 1 := ⟨m - 1, by omega⟩
    refine ⟨_, ?_, M.r 1 (nI (N + 1)), by rw [I_pI_o (by decide)]; exact h27, by rw [I_pI_o (by decide)]; exact h25⟩
    rw [fx_succ]
    unfold b_X10_readsLoss_13
    rw [if_pos (show (2 : Int32) ≤ nI k from nI_le (a := 2) (by omega) (by omega)), let_eq, M.1, hR, h0, nI_1]
  | succ r ih =>
    intro k m ρ hk hm M h0 h27 h25
    obtain ⟨m, rfl⟩ : ∃ z, m = z + 1 := ⟨m - 1, by omega⟩
    have k59 : ∀ hi : Int32, bdM τ f (b_X10_readsLoss_49 (bl_fx (fun _ _ _ => none) (b_X10_readsLoss_13) m) ρ 139 (nI k) hi 1 139 (nI (45 + 2 * N + k)) 141) := fun hi => by
      obtain ⟨τ1, e1, q⟩ := ih (k + 1) m (bl_pI (bl_pI ρ 139 27 1) 141 (45 + 2 * N + k) 1) (by omega) (by omega) ((M.w 1).r _ _) (by rw [I_pI_ne (by omega), I_pI_o (by decide)]; exact h0) (by rw [I_pI_o (by decide), I_pI_self]) (by rw [I_pI_o (by decide), I_pI_ne (by decide)]; exact h25)
      refine ⟨τ1, ?_, q⟩
      unfold b_X10_readsLoss_49
      rw [m_needsW h27, bd_some, in_nI (by omega) (by decide), gd_true, let_eq, let_eq, nI_clamp (by omega), nI_1]
      exact e1
    rw [fx_succ]
    show bdM τ f (if (2 : Int32) ≤ nI k then _ else _)
    rw [if_neg (show ¬ (2 : Int32) ≤ nI k from nI_ge (b := 2) (by omega) (by decide)), M.1, hR, h0, show (45 : Int32) + 2 * nI N + nI k = nI (45 + 2 * N + k) by rw [show (2 : Int32) = nI 2 from rfl, show (45 : Int32) = nI 45 from rfl, nI_mul, nI_add, nI_add]]
    split
    · exact k59 999
    · exact k59 9
/-- a loss's numbers -/
theorem m_los (w : WM τ b ln) (P : POk v) (hN : tK v < 5) {en : Nat} (hen : en ≤ ln) : ∀ (r k m : Nat) (ρ : bl_St) (was : Nat), k + r = 2 → r < m → Mf τ ρ → (was = 1 ∨ was = 2) → (k = 0 ∨ was = 2) → TKN ρ b ln (qI b ln en k) was → bl_I ρ 139 27 = 0 → RM ρ v → (∀ i, i < k → bl_I ρ 141 (45 + 2 * tK v + i) = nI (nV b ln (qI b ln en i))) →
    (∀ f, nrun b ln 1 (pHi 1) r k (qI b ln en k) = .inl f → bdM τ f (bl_fx (fun _ _ _ => none) (b_X10_readsLoss_13) m ρ 139 (nI k))) ∧
    (∀ z, nrun b ln 1 (pHi 1) r k (qI b ln en k) = .inr z → ∃ τ1, bl_fx (fun _ _ _ => none) (b_X10_readsLoss_13) m ρ 139 (nI k) = some ((), τ1) ∧ Mf τ τ1 ∧ bl_I τ1 139 27 = 0 ∧ TKN τ1 b ln z 2 ∧ RM τ1 (takeV 1 v (fun i => nV b ln (qI b ln en i)))) := by
  intro r
  induction r with
  | zero =>
    intro k m ρ was hk hm M hw hw2 T h27 R hx
    obtain ⟨m, rfl⟩ : ∃ z, m = z + 1 := ⟨m - 1, by omega⟩
    have h0 := R.1.1.2
    rw [Nat.zero_add] at h0
    refine ⟨fun f z => (by rw [nrun_0] at z; cases z), fun z hz => ?_⟩
    rw [nrun_0] at hz
    have hz := Sum.inr.inj hz
    have hwas : was = 2 := by omega
    refine ⟨_, ?_, M.r 1 (nI (tK v + 1)), by rw [I_pI_o (by decide)]; exact h27, ?_, R.los P hN (fun i hi => hx i (by omega))⟩
    · rw [fx_succ]
      unfold b_X10_readsLoss_13
      rw [if_pos (show (2 : Int32) ≤ nI k from nI_le (a := 2) (by omega) (by omega)), let_eq, M.1, w.1.1, h0, nI_1]
    · rw [← hz, ← hwas]
      exact T.r _ _
  | succ r ih =>
    intro k m ρ was hk hm M hw hw2 T h27 R hx
    obtain ⟨m, rfl⟩ : ∃ z, m = z + 1 := ⟨m - 1, by omega⟩
    have h0 := R.1.1.2
    rw [Nat.zero_add] at h0
    have W := w.mf M
    have hh := pHi_le 1 k
    have hq := qI_le (b := b) hen k
    obtain ⟨g1, g2⟩ := m_needs W hw T h27 hq (lo := 1) (hi := pHi 1 k) (by omega) hh
    have e0 : bl_fx (fun _ _ _ => none) (b_X10_readsLoss_13) (m + 1) ρ 139 (nI k) = b_X10_readsLoss_49 (bl_fx (fun _ _ _ => none) (b_X10_readsLoss_13) m) ρ 139 (nI k) (nI (pHi 1 k)) (nI 1) 139 (nI (45 + 2 * tK v + k)) 141 := by
      rw [fx_succ]
      show (if (2 : Int32) ≤ nI k then _ else _) = _
      rw [if_neg (show ¬ (2 : Int32) ≤ nI k from nI_ge (b := 2) (by omega) (by decide)), M.1, w.1.1, h0, show (45 : Int32) + 2 * nI (tK v) + nI k = nI (45 + 2 * tK v + k) by rw [show (2 : Int32) = nI 2 from rfl, show (45 : Int32) = nI 45 from rfl, nI_mul, nI_add, nI_add]]
      rcases (show k = 0 ∨ k = 1 by omega) with rfl | rfl
      · rw [if_pos (by rfl)]; rfl
      · rw [if_neg (by decide)]; rfl
    rw [e0, nrun_1]
    unfold b_X10_readsLoss_49
    by_cases c : nOk b ln (qI b ln en k) 1 (pHi 1 k)
    · obtain ⟨ρa, ea, ga, ta⟩ := g1 c
      have Ra : RM ρa v := R.e (ga.2.2.2 141 (by decide))
      rw [if_pos c, ea, bd_some, in_nI (by omega) (by decide), gd_true, let_eq, let_eq, nI_clamp (by omega), nI_1]
      exact ih (k + 1) m (bl_pI ρa 141 (45 + 2 * tK v + k) (nI (nV b ln (qI b ln en k)))) 2 (by omega) (by omega) ((M.tr ga.mf).r _ _) (Or.inr rfl) (Or.inr rfl) (ta.r _ _) (by rw [I_pI_o (by decide), ga.2.2.1 27 (by decide) (by decide) (by decide) (by decide)]; exact h27) (Ra.put (Or.inr ⟨by omega, by omega⟩) P _) (fun i hi => by
        by_cases he : i = k
        · rw [he, I_pI_self]
        · rw [I_pI_ne (by omega), ga.2.2.2 141 (by decide)]
          exact hx i (by omega))
    · rw [if_neg c, g2 c, bd_some, in_nI (by omega) (by decide), gd_true, let_eq, let_eq, nI_clamp (by omega), nI_1]
      refine ⟨fun f z => ?_, fun q z => (by cases z)⟩
      have z := Sum.inl.inj z
      rw [← z]
      exact m_losW hN w.1.1 r (k + 1) m _ (by omega) (by omega) ((M.w 1).r _ _) (by rw [I_pI_ne (by omega), I_pI_o (by decide)]; exact h0) (by rw [I_pI_o (by decide), I_pI_self]) (by rw [I_pI_o (by decide), I_pI_ne (by decide)]; exact T.1)
end PHN
