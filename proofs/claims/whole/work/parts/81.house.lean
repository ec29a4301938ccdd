/-! ===== two cars apart: in numbers ===== -/
def hA (v : tm_V) (V : Nat → Nat → Nat) (a b : Nat) : Nat → Nat → Nat → Nat
  | 0, t, u => V (tB v a t) (tB v b u)
  | r + 1, t, u => cCh v false 0 0 (hA v V a b r t u) (min (hA v V a b r (min 2 (t + 1)) u) (hA v V a b r t (min 2 (u + 1))))
def hY (v : tm_V) : Nat → Nat → Nat → Nat
  | 0, _, _ => 0
  | L + 1, a, b => (tC v (5 * a) + tC v (5 * b)) * 1000 + hA v (hY v L) a b (2 * tH v) 0 0
theorem hA_1 (v : tm_V) (V : Nat → Nat → Nat) (a b r t u : Nat) : hA v V a b (r + 1) t u = cCh v false 0 0 (hA v V a b r t u) (min (hA v V a b r (min 2 (t + 1)) u) (hA v V a b r t (min 2 (u + 1)))) := rfl
theorem hY_1 (v : tm_V) (L a b : Nat) : hY v (L + 1) a b = (tC v (5 * a) + tC v (5 * b)) * 1000 + hA v (hY v L) a b (2 * tH v) 0 0 := rfl
theorem hA_sym (v : tm_V) {V : Nat → Nat → Nat} (hV : ∀ x y, V x y = V y x) (a b : Nat) : ∀ r t u, hA v V a b r t u = hA v V b a r u t
  | 0, t, u => hV _ _
  | r + 1, t, u => by
    rw [hA_1, hA_1, hA_sym v hV a b r t u, hA_sym v hV a b r (min 2 (t + 1)) u, hA_sym v hV a b r t (min 2 (u + 1)), Nat.min_comm]
theorem hY_sym (v : tm_V) : ∀ L a b, hY v L a b = hY v L b a
  | 0, _, _ => rfl
  | L + 1, a, b => by
    rw [hY_1, hY_1, hA_sym v (hY_sym v L) a b, Nat.add_comm (tC v (5 * a))]
theorem hA_le {v : tm_V} (ok : TOk v) (hK : 0 < tK v) {V : Nat → Nat → Nat} {a b B : Nat} (ha : a < tN v) (hb : b < tN v) (hV : ∀ x y, x < tN v → y < tN v → V x y ≤ B) : ∀ r t u, hA v V a b r t u ≤ 999000 * r + B
  | 0, t, u => by
    have := hV _ _ (tB_lt ok t ha) (tB_lt ok u hb)
    show V (tB v a t) (tB v b u) ≤ 999000 * 0 + B
    omega
  | r + 1, t, u => by
    rw [hA_1]
    have h1 := hA_le ok hK ha hb hV r t u
    have h2 := hA_le ok hK ha hb hV r (min 2 (t + 1)) u
    have := cCh_le ok hK false 0 0 h1 (show min (hA v V a b r (min 2 (t + 1)) u) (hA v V a b r t (min 2 (u + 1))) ≤ 999000 * r + B from Nat.le_trans (Nat.min_le_left _ _) h2)
    exact Nat.le_trans this (by omega)
theorem hY_le {v : tm_V} (ok : TOk v) (hK : 0 < tK v) : ∀ L a b, a < tN v → b < tN v → hY v L a b ≤ 8000000 * L
  | 0, _, _, _, _ => Nat.le_refl 0
  | L + 1, a, b, ha, hb => by
    rw [hY_1]
    have h1 := hA_le ok hK ha hb (fun x y hx hy => hY_le ok hK L x y hx hy) (2 * tH v) 0 0
    have h2 := (ok.2.1 a ha).1
    have h3 := (ok.2.1 b hb).1
    have h4 := ok.2.2.2.1.2
    omega
/-! the class's -/
def HC (σ : bl_St) (v : tm_V) (nw th : Nat) : Prop := (bl_R σ 127 0 = nw ∧ bl_R σ 127 1 = th ∧ bl_R σ 127 2 = 130 ∧ bl_R σ 127 3 = 131) ∧ TX σ 10 v ∧ XLs σ 131 v 0 0 false
section HSX
variable {σ σ1 : bl_St} {v : tm_V} {nw th : Nat}
theorem HC.jo {S : Nat → Prop} (h : HC σ v nw th) (j : Jo S σ σ1) (hs : ∀ i, 131 ≤ i → i ≤ 135 → ¬ S i) : HC σ1 v nw th := by
  have k := j.ko
  have T := h.2.1
  have Ie : bl_I σ1 = bl_I σ := j.1
  have Re : bl_R σ1 = bl_R σ := j.2.1
  refine ⟨by rw [Re]; exact h.1, ?_, h.2.2.ko k hs⟩
  unfold TX at *
  rw [Ie, Re]
  exact T
theorem x_hidx (σ : bl_St) (k t u : Nat) : f_X1_index σ (nI k) (nI t) (nI u) = some (nI (9 * k + 3 * t + u), σ) := by
  unfold f_X1_index
  rw [show (3 : Int32) = nI 3 from rfl, nI_mul, nI_add, nI_mul, nI_add]
  congr 3
  omega
theorem x_htold (hR : bl_R σ 127 2 = 130) {k t u A B : Nat} (hk : k < 6) (ht : t ≤ 2) (hu : u ≤ 2) (hA : bl_J σ 130 (9 * (k + 1) + 3 * min 2 (t + 1) + u) = lN A) (hB : bl_J σ 130 (9 * (k + 1) + 3 * t + min 2 (u + 1)) = lN B) (bA : A ≤ 2 ^ 40) (bB : B ≤ 2 ^ 40) : f_X1_toldCost σ 127 (nI k) (nI t) (nI u) = some (lN (min A B), σ) := by
  unfold f_X1_toldCost
  rw [nI_1, nI_1, nI_1, show (2 : Int32) = nI 2 from rfl, nI_min2 (by omega), nI_min2 (by omega), x_hidx, bd_some, in_nI (by omega) (by decide), gd_true, let_eq, x_hidx, bd_some, in_nI (by omega) (by decide), gd_true, let_eq, hR, nI_clamp (by omega), nI_clamp (by omega), hA, hB]
  by_cases h : B < A
  · rw [if_pos ((lN_ltI (by omega) (by omega)).mpr h), Nat.min_eq_right (by omega)]
  · rw [if_neg (fun z => h ((lN_ltI (by omega) (by omega)).mp z)), Nat.min_eq_left (by omega)]
def LvH (σ : bl_St) (F : Nat → Nat → Nat → Nat) (k : Nat) : Prop := ∀ t u, t ≤ 2 → u ≤ 2 → t + u ≤ k → bl_J σ 130 (9 * k + 3 * t + u) = lN (F k t u)
def PtH (σ : bl_St) (F : Nat → Nat → Nat → Nat) (k t u : Nat) : Prop := ∀ t' u', t' ≤ 2 → u' ≤ 2 → t' + u' ≤ k → (t' < t ∨ (t' = t ∧ u' < u)) → bl_J σ 130 (9 * k + 3 * t' + u') = lN (F k t' u')
theorem x_hcb {V : Nat → Nat → Nat} {a b : Nat} (C : HC σ v nw th) (hth : th = 128 ∨ th = 129) (ok : TOk v) (hK : 0 < tK v) (ha : a < tN v) (hb : b < tN v) (hV : ∀ x y, x < tN v → y < tN v → bl_J σ th (8 * x + y) = lN (V x y)) (hB : ∀ x y, x < tN v → y < tN v → V x y ≤ 2 ^ 39) : ∃ σ1, f_X1_costBehindPremiums σ 127 10 (nI a) (nI b) = some (lN (hA v V a b (2 * tH v) 0 0), σ1) ∧ Jo (fun i => i = 130) σ σ1 := by
  have h8 := ok.n8
  have hH := ok.2.2.2.1
  obtain ⟨H, eH⟩ : ∃ H, H = 2 * tH v := ⟨_, rfl⟩
  obtain ⟨F, eF⟩ : ∃ F : Nat → Nat → Nat → Nat, F = fun k t u => hA v V a b (H - k) t u := ⟨_, rfl⟩
  have hF : ∀ k t u, k < H → F k t u = cCh v false 0 0 (F (k + 1) t u) (min (F (k + 1) (min 2 (t + 1)) u) (F (k + 1) t (min 2 (u + 1)))) := fun k t u hk => by
    rw [eF]
    show hA v V a b (H - k) t u = _
    rw [show H - k = (H - (k + 1)) + 1 by omega, hA_1]
  have bF : ∀ k t u, F k t u ≤ 2 ^ 40 := fun k t u => by
    rw [eF]
    have := hA_le ok hK ha hb hB (H - k) t u
    show hA v V a b (H - k) t u ≤ 2 ^ 40
    omega
  have F0 : ∀ t u, F H t u = V (tB v a t) (tB v b u) := fun t u => by
    rw [eF]
    show hA v V a b (H - H) t u = _
    rw [Nat.sub_self]
    rfl
  have hc : ∀ τ, Jo (fun i => i = 130) σ τ → HC τ v nw th := fun τ j => C.jo j (fun i a b c => by omega)
  have l103 : ∀ (k : Nat), k < H → ∀ (t : Nat), t ≤ 2 → t ≤ k → ∀ (k89 : bl_St → Nat → Int32 → Int32 → Option (Int64 × bl_St)) (r u m : Nat) (τ : bl_St), u + r = min 2 (k - t) + 1 → r < m → Jo (fun i => i = 130) σ τ → LvH τ F (k + 1) → PtH τ F k t u → ∃ τ1, bl_fx (fun _ _ _ _ _ => none) (b_X1_costBehindPremiums_103 k89) m τ 127 (nI k) (nI t) (nI u) = k89 τ1 127 (nI k) (nI (t + 1)) ∧ Jo (fun i => i = 130) σ τ1 ∧ LvH τ1 F (k + 1) ∧ PtH τ1 F k (t + 1) 0 := by
    intro k hk t ht htk k89 r
    induction r with
    | zero =>
      intro u m τ hu hm J hL hP
      obtain ⟨m, rfl⟩ : ∃ z, m = z + 1 := ⟨m - 1, by omega⟩
      refine ⟨τ, ?_, J, hL, fun t' u' h1 h2 h3 h4 => hP t' u' h1 h2 h3 (by omega)⟩
      rw [fx_succ]
      show (if (if nI k - nI t < 2 then nI k - nI t else 2) < nI u then _ else _) = _
      rw [nI_sub htk, show (if nI (k - t) < 2 then nI (k - t) else 2) = nI (min 2 (k - t)) from nI_min2 (by omega), if_pos (nI_lt (by omega) (by omega)), let_eq, nI_1]
    | succ r ih =>
      intro u m τ hu hm J hL hP
      obtain ⟨m, rfl⟩ : ∃ z, m = z + 1 := ⟨m - 1, by omega⟩
      have D := hc τ J
      have hu2 : u ≤ 2 := by omega
      have htu : t + u ≤ k := by omega
      have q1 := hL t u ht hu2 (by omega)
      have q2 := hL (min 2 (t + 1)) u (by omega) hu2 (by omega)
      have q3 := hL t (min 2 (u + 1)) ht (by omega) (by omega)
      obtain ⟨τ1, e1, q⟩ := ih (u + 1) m (bl_pJ τ 130 (9 * k + 3 * t + u) (lN (F k t u))) (by omega) (by omega) (J.pJ rfl _ _) (fun t' u' h1 h2 h3 => by rw [J_pJ_ne (by omega)]; exact hL t' u' h1 h2 h3) (fun t' u' h1 h2 h3 h4 => by
        by_cases he : t' = t ∧ u' = u
        · rw [he.1, he.2, J_pJ_self]
        · rw [J_pJ_ne (by omega)]
          exact hP t' u' h1 h2 h3 (by omega))
      refine ⟨τ1, ?_, q⟩
      rw [fx_succ]
      show (if (if nI k - nI t < 2 then nI k - nI t else 2) < nI u then _ else _) = _
      rw [nI_sub htk, show (if nI (k - t) < 2 then nI (k - t) else 2) = nI (min 2 (k - t)) from nI_min2 (by omega), if_neg (nI_nlt (by omega) (by omega)), x_hidx, bd_some, nI_1, x_hidx, bd_some, in_nI (by omega) (by decide), gd_true, x_htold D.1.2.2.1 (by omega) ht hu2 q2 q3 (bF _ _ _) (bF _ _ _), bd_some, D.1.2.2.1, D.1.2.2.2, nI_clamp (by omega), q1, x_chance D.2.2 ok hK (by decide) (bF _ _ _) (Nat.le_trans (Nat.min_le_left _ _) (bF _ _ _)), bd_some, in_nI (by omega) (by decide), gd_true, let_eq, let_eq, nI_clamp (by omega), nI_1, ← hF k t u hk]
      exact e1
  have l89 : ∀ (k : Nat), k < H → ∀ (k81 : bl_St → Nat → Int32 → Option (Int64 × bl_St)) (r t m : Nat) (τ : bl_St), t + r = min 2 k + 1 → r < m → Jo (fun i => i = 130) σ τ → LvH τ F (k + 1) → PtH τ F k t 0 → ∃ τ1, bl_fx (fun _ _ _ _ => none) (b_X1_costBehindPremiums_89 k81) m τ 127 (nI k) (nI t) = k81 τ1 127 (nI k + (-1)) ∧ Jo (fun i => i = 130) σ τ1 ∧ LvH τ1 F k := by
    intro k hk k81 r
    induction r with
    | zero =>
      intro t m τ ht hm J hL hP
      obtain ⟨m, rfl⟩ : ∃ z, m = z + 1 := ⟨m - 1, by omega⟩
      refine ⟨τ, ?_, J, fun t' u' h1 h2 h3 => hP t' u' h1 h2 h3 (by omega)⟩
      rw [fx_succ]
      show (if (if nI k < 2 then nI k else 2) < nI t then _ else _) = _
      rw [show (if nI k < 2 then nI k else 2) = nI (min 2 k) from nI_min2 (by omega), if_pos (nI_lt (by omega) (by omega)), let_eq]
    | succ r ih =>
      intro t m τ ht hm J hL hP
      obtain ⟨m, rfl⟩ : ∃ z, m = z + 1 := ⟨m - 1, by omega⟩
      obtain ⟨τa, ea, Ja, La, Pa⟩ := l103 k hk t (by omega) (by omega) (bl_fx (fun _ _ _ _ => none) (b_X1_costBehindPremiums_89 k81) m) (min 2 (k - t) + 1) 0 bl_fu τ (by omega) (by unfold bl_fu; omega) J hL hP
      obtain ⟨τ1, e1, q⟩ := ih (t + 1) m τa (by omega) (by omega) Ja La Pa
      refine ⟨τ1, ?_, q⟩
      rw [fx_succ]
      show (if (if nI k < 2 then nI k else 2) < nI t then _ else _) = _
      rw [show (if nI k < 2 then nI k else 2) = nI (min 2 k) from nI_min2 (by omega), if_neg (nI_nlt (by omega) (by omega))]
      exact ea.trans e1
  have l81 : ∀ (k m : Nat) (τ : bl_St) (x : Int32), k ≤ H → k < m → x = nI k + (-1) → Jo (fun i => i = 130) σ τ → LvH τ F k → ∃ τ1, bl_fx (fun _ _ _ => none) (b_X1_costBehindPremiums_81) m τ 127 x = some (lN (F 0 0 0), τ1) ∧ Jo (fun i => i = 130) σ τ1 := by
    intro k
    induction k with
    | zero =>
      intro m τ x hk hm hx J hL
      obtain ⟨m, rfl⟩ : ∃ z, m = z + 1 := ⟨m - 1, by omega⟩
      have D := hc τ J
      refine ⟨τ, ?_, J⟩
      rw [fx_succ, hx]
      show (if nI 0 + (-1) < 0 then _ else _) = _
      have q := hL 0 0 (by decide) (by decide) (by decide)
      rw [if_pos (by decide), show f_X1_index τ 0 0 0 = _ from x_hidx τ 0 0 0, bd_some, in_nI (by omega) (by decide), gd_true, D.1.2.2.1, nI_clamp (by omega), q]
    | succ k ih =>
      intro m τ x hk hm hx J hL
      obtain ⟨m, rfl⟩ : ∃ z, m = z + 1 := ⟨m - 1, by omega⟩
      obtain ⟨τa, ea, Ja, La⟩ := l89 k (by omega) (bl_fx (fun _ _ _ => none) (b_X1_costBehindPremiums_81) m) (min 2 k + 1) 0 bl_fu τ (by omega) (by unfold bl_fu; omega) J hL (fun t' u' h1 h2 h3 h4 => by omega)
      obtain ⟨τ1, e1, q⟩ := ih m τa _ (by omega) (by omega) rfl Ja La
      refine ⟨τ1, ?_, q⟩
      rw [fx_succ, hx, nI_m1]
      show (if nI k < 0 then _ else _) = _
      rw [if_neg (nI_pos (by omega))]
      exact ea.trans e1
  have l20 : ∀ (t : Nat), t ≤ 2 → ∀ (k11 : bl_St → Nat → Nat → Int32 → Int32 → Int32 → Int32 → Option (Int64 × bl_St)) (r u m : Nat) (τ : bl_St), u + r = 3 → r < m → Jo (fun i => i = 130) σ τ → (∀ t' u', t' ≤ 2 → u' ≤ 2 → 3 * t' + u' < 3 * t + u → bl_J τ 130 (9 * H + 3 * t' + u') = lN (F H t' u')) → ∃ τ1, bl_fx (fun _ _ _ _ _ _ _ _ => none) (b_X1_costBehindPremiums_20 k11) m τ 127 10 (nI a) (nI b) (nI H) (nI t) (nI u) = k11 τ1 127 10 (nI a) (nI b) (nI H) (nI (t + 1)) ∧ Jo (fun i => i = 130) σ τ1 ∧ (∀ t' u', t' ≤ 2 → u' ≤ 2 → 3 * t' + u' < 3 * (t + 1) → bl_J τ1 130 (9 * H + 3 * t' + u') = lN (F H t' u')) := by
    intro t ht k11 r
    induction r with
    | zero =>
      intro u m τ hu hm J hP
      obtain ⟨m, rfl⟩ : ∃ z, m = z + 1 := ⟨m - 1, by omega⟩
      refine ⟨τ, ?_, J, fun t' u' h1 h2 h3 => hP t' u' h1 h2 (by omega)⟩
      rw [fx_succ, show u = 3 by omega]
      show (if (3 : Int32) ≤ nI 3 then _ else _) = _
      rw [if_pos (by decide), let_eq, nI_1]
    | succ r ih =>
      intro u m τ hu hm J hP
      obtain ⟨m, rfl⟩ : ∃ z, m = z + 1 := ⟨m - 1, by omega⟩
      have D := hc τ J
      have ba := tB_lt ok t ha
      have bb := tB_lt ok u hb
      have q := hV _ _ ba bb
      rw [← J.2.2 th (by omega)] at q
      obtain ⟨τ1, e1, z⟩ := ih (u + 1) m (bl_pJ τ 130 (9 * H + 3 * t + u) (lN (F H t u))) (by omega) (by omega) (J.pJ rfl _ _) (fun t' u' h1 h2 h3 => by
        by_cases he : t' = t ∧ u' = u
        · rw [he.1, he.2, J_pJ_self]
        · rw [J_pJ_ne (by omega)]
          exact hP t' u' h1 h2 (by omega))
      refine ⟨τ1, ?_, z⟩
      rw [fx_succ]
      show (if (3 : Int32) ≤ nI u then _ else _) = _
      rw [if_neg (show ¬ (3 : Int32) ≤ nI u from nI_ge (b := 3) (by omega) (by decide)), x_hidx, bd_some, x_next D.2.1 ok ha (by omega), bd_some, x_next D.2.1 ok hb (by omega), bd_some, show (8 : Int32) = nI 8 from rfl, nI_mul, nI_add, in_nI (by omega) (by decide), gd_true, in_nI (by omega) (by decide), gd_true, let_eq, let_eq, D.1.2.2.1, D.1.2.1, nI_clamp (by omega), nI_clamp (by omega), Nat.mul_comm (tB v a t) 8, q, nI_1, ← F0]
      exact e1
  have l11 : ∀ (r t m : Nat) (τ : bl_St), t + r = 3 → r < m → Jo (fun i => i = 130) σ τ → (∀ t' u', t' ≤ 2 → u' ≤ 2 → 3 * t' + u' < 3 * t → bl_J τ 130 (9 * H + 3 * t' + u') = lN (F H t' u')) → ∃ τ1, bl_fx (fun _ _ _ _ _ _ _ => none) (b_X1_costBehindPremiums_11) m τ 127 10 (nI a) (nI b) (nI H) (nI t) = some (lN (F 0 0 0), τ1) ∧ Jo (fun i => i = 130) σ τ1 := by
    intro r
    induction r with
    | zero =>
      intro t m τ ht hm J hP
      obtain ⟨m, rfl⟩ : ∃ z, m = z + 1 := ⟨m - 1, by omega⟩
      obtain ⟨τ1, e1, q⟩ := l81 H bl_fu τ (nI H - 1) (Nat.le_refl _) (by unfold bl_fu; omega) (Int32.sub_eq_add_neg _ _) J (fun t' u' h1 h2 h3 => hP t' u' h1 h2 (by omega))
      refine ⟨τ1, ?_, q⟩
      rw [fx_succ, show t = 3 by omega]
      show (if (3 : Int32) ≤ nI 3 then _ else _) = _
      rw [if_pos (by decide), let_eq]
      exact e1
    | succ r ih =>
      intro t m τ ht hm J hP
      obtain ⟨m, rfl⟩ : ∃ z, m = z + 1 := ⟨m - 1, by omega⟩
      obtain ⟨τa, ea, Ja, Pa⟩ := l20 t (by omega) (bl_fx (fun _ _ _ _ _ _ _ => none) (b_X1_costBehindPremiums_11) m) 3 0 bl_fu τ (by omega) (by unfold bl_fu; omega) J hP
      obtain ⟨τ1, e1, q⟩ := ih (t + 1) m τa (by omega) (by omega) Ja Pa
      refine ⟨τ1, ?_, q⟩
      rw [fx_succ]
      show (if (3 : Int32) ≤ nI t then _ else _) = _
      rw [if_neg (show ¬ (3 : Int32) ≤ nI t from nI_ge (b := 3) (by omega) (by decide))]
      exact ea.trans e1
  obtain ⟨σ1, e1, J1⟩ := l11 3 0 bl_fu σ (by omega) (by unfold bl_fu; omega) (Jo.rf _ σ) (fun t' u' h1 h2 h3 => by omega)
  refine ⟨σ1, ?_, J1⟩
  have e0 : F 0 0 0 = hA v V a b (2 * tH v) 0 0 := by rw [eF, eH]; rfl
  unfold f_X1_costBehindPremiums
  rw [x_chances C.2.1, bd_some, let_eq, show (2 : Int32) = nI 2 from rfl, nI_mul, ← eH]
  rw [e0, ← eH] at e1
  exact e1
abbrev hsS (nw i : Nat) : Prop := i = nw ∨ i = 130
def PF (σ : bl_St) (v : tm_V) (nw : Nat) (W : Nat → Nat → Nat) (a b : Nat) : Prop := ∀ x y, x < tN v → y < tN v → (min x y < a ∨ (min x y = a ∧ max x y < b)) → bl_J σ nw (8 * x + y) = lN (W x y)
/-- a year's pairs -/
theorem x_fill (C : HC σ v nw th) (hth : th = 128 ∧ nw = 129 ∨ th = 129 ∧ nw = 128) (ok : TOk v) (hK : 0 < tK v) {L : Nat} (hL : L ≤ 20) (hV : ∀ x y, x < tN v → y < tN v → bl_J σ th (8 * x + y) = lN (hY v L x y)) : ∃ σ1, f_X1_fillPairs σ 127 10 = some ((), σ1) ∧ Jo (hsS nw) σ σ1 ∧ ∀ x y, x < tN v → y < tN v → bl_J σ1 nw (8 * x + y) = lN (hY v (L + 1) x y) := by
  have h8 := ok.n8
  have hc : ∀ τ, Jo (hsS nw) σ τ → HC τ v nw th := fun τ j => C.jo j (fun i a b c => by unfold hsS at c; omega)
  have l12 : ∀ (a : Nat), a < tN v → ∀ (k2 : bl_St → Nat → Nat → Int32 → Option (Unit × bl_St)) (r b m : Nat) (τ : bl_St), a ≤ b → b + r = tN v → r < m → Jo (hsS nw) σ τ → PF τ v nw (hY v (L + 1)) a b → ∃ τ1, bl_fx (fun _ _ _ _ _ => none) (b_X1_fillPairs_12 k2) m τ 127 10 (nI a) (nI b) = k2 τ1 127 10 (nI (a + 1)) ∧ Jo (hsS nw) σ τ1 ∧ PF τ1 v nw (hY v (L + 1)) (a + 1) (a + 1) := by
    intro a ha k2 r
    induction r with
    | zero =>
      intro b m τ hab hb hm J hP
      obtain ⟨m, rfl⟩ : ∃ z, m = z + 1 := ⟨m - 1, by omega⟩
      have D := hc τ J
      refine ⟨τ, ?_, J, fun x y hx hy h => hP x y hx hy (by omega)⟩
      rw [fx_succ]
      show (if bl_I τ 10 0 ≤ nI b then _ else _) = _
      rw [D.2.1.2.1.1, if_pos (nI_le (by omega) (by omega)), let_eq, nI_1]
    | succ r ih =>
      intro b m τ hab hb hm J hP
      obtain ⟨m, rfl⟩ : ∃ z, m = z + 1 := ⟨m - 1, by omega⟩
      have D := hc τ J
      have hbN : b < tN v := by omega
      have p1 := (ok.2.1 a ha).1
      have p2 := (ok.2.1 b hbN).1
      obtain ⟨τa, ea, ja⟩ := x_hcb (V := hY v L) D (by omega) ok hK ha hbN (fun x y hx hy => by rw [J.2.2 th (by unfold hsS; omega)]; exact hV x y hx hy) (fun x y hx hy => by have := hY_le ok hK L x y hx hy; omega)
      have Ja : Jo (hsS nw) σ τa := J.tr (ja.mono (fun i hi => Or.inr hi))
      have Da := hc τa Ja
      have Pa : PF τa v nw (hY v (L + 1)) a b := fun x y hx hy h => by rw [ja.2.2 nw (by omega)]; exact hP x y hx hy h
      obtain ⟨w, hw⟩ : ∃ w, w = hY v (L + 1) a b := ⟨_, rfl⟩
      have hw2 : w = hY v (L + 1) b a := by rw [hw, hY_sym]
      obtain ⟨τ1, e1, q⟩ := ih (b + 1) m (bl_pJ (bl_pJ τa nw (8 * a + b) (lN w)) nw (8 * b + a) (lN w)) (by omega) (by omega) (by omega) ((Ja.pJ (Or.inl rfl) _ _).pJ (Or.inl rfl) _ _) (fun x y hx hy h => by
        by_cases h1 : x = b ∧ y = a
        · rw [h1.1, h1.2, J_pJ_self, hw2]
        · rw [J_pJ_ne (by omega)]
          by_cases h2 : x = a ∧ y = b
          · rw [h2.1, h2.2, J_pJ_self, hw]
          · rw [J_pJ_ne (by omega)]
            exact Pa x y hx hy (by omega))
      refine ⟨τ1, ?_, q⟩
      have hs : (1000 : Int64) * Int32.toInt64 (nI (tC v (5 * a)) + nI (tC v (5 * b))) + lN (hA v (hY v L) a b (2 * tH v) 0 0) = lN w := by
        rw [nI_add, nI_l (by omega), show (1000 : Int64) = lN 1000 from rfl, lN_mul, lN_add, hw, hY_1, Nat.mul_comm 1000]
      rw [fx_succ]
      show (if bl_I τ 10 0 ≤ nI b then _ else _) = _
      rw [D.2.1.2.1.1, if_neg (nI_ge (by omega) (by omega)), show (0 : Int32) = nI 0 from rfl, x_part D.2.1 ok ha (by decide), bd_some, x_part D.2.1 ok hbN (by decide), bd_some, let_eq, ea, bd_some, let_eq, Nat.add_zero, Nat.add_zero, hs, show (8 : Int32) = nI 8 from rfl, nI_mul, nI_add, in_nI (by omega) (by decide), gd_true, let_eq, nI_mul, nI_add, in_nI (by omega) (by decide), gd_true, let_eq, let_eq, Da.1.1, nI_clamp (by omega), nI_clamp (by omega), Nat.mul_comm a 8, Nat.mul_comm b 8, nI_1]
      have R1 : bl_R (bl_pJ τa nw (8 * a + b) (lN w)) 127 0 = nw := Da.1.1
      rw [R1]
      exact e1
  have l2 : ∀ (r a m : Nat) (τ : bl_St), a + r = tN v → r < m → Jo (hsS nw) σ τ → PF τ v nw (hY v (L + 1)) a a → ∃ τ1, bl_fx (fun _ _ _ _ => none) (b_X1_fillPairs_2) m τ 127 10 (nI a) = some ((), τ1) ∧ Jo (hsS nw) σ τ1 ∧ ∀ x y, x < tN v → y < tN v → bl_J τ1 nw (8 * x + y) = lN (hY v (L + 1) x y) := by
    intro r
    induction r with
    | zero =>
      intro a m τ ha hm J hP
      obtain ⟨m, rfl⟩ : ∃ z, m = z + 1 := ⟨m - 1, by omega⟩
      have D := hc τ J
      refine ⟨τ, ?_, J, fun x y hx hy => hP x y hx hy (by omega)⟩
      rw [fx_succ]
      show (if bl_I τ 10 0 ≤ nI a then _ else _) = _
      rw [D.2.1.2.1.1, if_pos (nI_le (by omega) (by omega))]
    | succ r ih =>
      intro a m τ ha hm J hP
      obtain ⟨m, rfl⟩ : ∃ z, m = z + 1 := ⟨m - 1, by omega⟩
      have D := hc τ J
      obtain ⟨τa, ea, Ja, Pa⟩ := l12 a (by omega) (bl_fx (fun _ _ _ _ => none) (b_X1_fillPairs_2) m) (tN v - a) a bl_fu τ (Nat.le_refl _) (by omega) (by unfold bl_fu; omega) J hP
      obtain ⟨τ1, e1, q⟩ := ih (a + 1) m τa (by omega) (by omega) Ja Pa
      refine ⟨τ1, ?_, q⟩
      rw [fx_succ]
      show (if bl_I τ 10 0 ≤ nI a then _ else _) = _
      rw [D.2.1.2.1.1, if_neg (nI_ge (by omega) (by omega))]
      exact ea.trans e1
  exact l2 (tN v) 0 bl_fu σ (by omega) (by unfold bl_fu; omega) (Jo.rf _ σ) (fun x y hx hy h => by omega)
end HSX
