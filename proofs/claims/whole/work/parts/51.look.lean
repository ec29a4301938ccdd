/-! ===== the class's outlook ===== -/
/-- an Outlook at o on the terms at t, once what a chance may bring is taken -/
def CX (σ : bl_St) (o t : Nat) (v : tm_V) (rl lm : Nat) (w : Bool) (many : Nat) : Prop :=
  (bl_R σ o 0 = t ∧ bl_R σ o 9 = o + 1 ∧ bl_R σ o 10 = o + 6 ∧ bl_R σ o 11 = o + 7) ∧ TX σ t v ∧ XLs σ (o + 1) v rl lm w ∧ bl_I σ o 8 = nI many
theorem CX.ko {S : Nat → Prop} {σ σ1 : bl_St} {o t : Nat} {v : tm_V} {rl lm : Nat} {w : Bool} {many : Nat} (C : CX σ o t v rl lm w many) (k : Ko S σ σ1) (h1 : ∀ i, o ≤ i → i ≤ o + 5 → ¬ S i) (h2 : ∀ i, t ≤ i → i ≤ t + 3 → ¬ S i) : CX σ1 o t v rl lm w many := by
  have eR : bl_R σ1 = bl_R σ := k.1
  refine ⟨by rw [eR]; exact C.1, C.2.1.ko k h2, C.2.2.1.ko k (fun i a b => h1 i (by omega) (by omega)), ?_⟩
  rw [(k.2 o (h1 o (by omega) (by omega))).1]
  exact C.2.2.2
section XO
variable {σ : bl_St} {o t0 : Nat} {v : tm_V} {rl lm : Nat} {w : Bool} {many : Nat}
theorem x_index (σ : bl_St) {k t g : Nat} (hg : g < 2) : f_X4_index σ (nI k) (nI t) (nI g) = some (nI (6 * k + 2 * t + g), σ) := by
  unfold f_X4_index
  rcases (show g = 0 ∨ g = 1 by omega) with rfl | rfl
  · rw [if_pos (by rfl), nI_lit 3, nI_lit 2, nI_lit 0, nI_mul, nI_add, nI_mul, nI_add]
    congr 3
    omega
  · rw [if_neg (by decide), nI_lit 3, nI_lit 2, nI_lit 1, nI_mul, nI_add, nI_mul, nI_add]
    congr 3
    omega
theorem x_toldIndex (σ : bl_St) {k t g : Nat} (ht : t < 3) (hg : g < 2) : f_X4_toldIndex σ (nI k) (nI t) (nI g) = some (nI (6 * (k + 1) + 2 * tn t g + 0), σ) := by
  unfold f_X4_toldIndex
  rcases (show g = 0 ∨ g = 1 by omega) with rfl | rfl
  · rw [if_pos (by rfl), nI_1, nI_1, nI_lit 2, nI_min2 (by omega), nI_lit 0, x_index σ (by decide), bd_some]
    rfl
  · rw [if_neg (by decide), nI_1, nI_lit 0, x_index σ (by decide), bd_some]
    rfl
/-- reckoning one place -/
theorem x_one (C : CX σ o t0 v rl lm w many) (ok : TOk v) (hK : 0 < tK v) (hrl : rl ≤ 3) {k t g st td : Nat} (hk : k < 6) (ht : t < 3) (hg : g < 2) (h1 : bl_J σ (o + 7) (6 * (k + 1) + 2 * t + g) = lN st) (h2 : bl_J σ (o + 7) (6 * (k + 1) + 2 * tn t g + 0) = lN td) (b1 : st ≤ 2 ^ 40) (b2 : td ≤ 2 ^ 40) :
    f_X3_chanceCost σ (bl_R σ o 9) (bl_J σ (bl_R σ o 11) (6 * (k + 1) + 2 * t + g)) (bl_J σ (bl_R σ o 11) (6 * (k + 1) + 2 * tn t g + 0)) = some (lN (cCh v w rl lm st td), σ) := by
  rw [C.1.2.1, C.1.2.2.2, h1, h2]
  exact x_chance C.2.2.1 ok hK hrl b1 b2
/-- which places of a level are reckoned -/
abbrev rg (fK fT k t : Nat) : Prop := fT ≤ t ∧ t ≤ 2 ∧ t ≤ fT + (k - fK)
def LvX (σ : bl_St) (a fK fT gd : Nat) (F : Nat → Nat → Nat → Nat) (k : Nat) : Prop := (∀ t, rg fK fT k t → bl_J σ a (6 * k + 2 * t + 0) = lN (F k t 0)) ∧ (gd = 1 → bl_J σ a (6 * k + 2 * fT + 1) = lN (F k fT 1))
theorem x_la104 {F : Nat → Nat → Nat → Nat} (ok : TOk v) (hK : 0 < tK v) (hrl : rl ≤ 3) {k fK fT gd : Nat} (hk : k < 6) (hfk : fK ≤ k) (hft : fT ≤ 2) (hgd : gd < 2) (hsep : t0 + 3 < o + 7 ∨ o + 7 < t0) (hF : ∀ t g, t < 3 → g < 2 → F k t g = cCh v w rl lm (F (k + 1) t g) (F (k + 1) (tn t g) 0)) (hB : ∀ t g, t < 3 → g < 2 → F (k + 1) t g ≤ 2 ^ 40) (k81 : bl_St → Nat → Int32 → Int32 → Int32 → Int32 → Option (Unit × bl_St)) :
    ∀ (r t n : Nat) (σ : bl_St), t + r = min 2 (fT + (k - fK)) + 1 → fT ≤ t → r < n → CX σ o t0 v rl lm w many → LvX σ (o + 7) fK fT gd F (k + 1) → (∀ u, fT ≤ u → u < t → bl_J σ (o + 7) (6 * k + 2 * u + 0) = lN (F k u 0)) →
    ∃ σ1, bl_fx (fun _ _ _ _ _ _ _ _ => none) (b_X4_lookAhead_104 k81) n σ o (nI fK) (nI fT) (nI gd) (nI k) (nI (min 2 (fT + (k - fK)))) (nI t) = k81 σ1 o (nI fK) (nI fT) (nI gd) (nI k + (-1)) ∧ Jo (fun i => i = o + 7) σ σ1 ∧ LvX σ1 (o + 7) fK fT gd F k ∧ ∀ j, (j < 6 * k ∨ 6 * k + 6 ≤ j) → bl_J σ1 (o + 7) j = bl_J σ (o + 7) j := by
  intro r
  induction r with
  | zero =>
    intro t n σ ht hft2 hn C hL hD
    obtain ⟨n, rfl⟩ : ∃ m, n = m + 1 := ⟨n - 1, by omega⟩
    rw [fx_succ]
    have hb : b_X4_lookAhead_104 k81 (bl_fx (fun _ _ _ _ _ _ _ _ => none) (b_X4_lookAhead_104 k81) n) σ o (nI fK) (nI fT) (nI gd) (nI k) (nI (min 2 (fT + (k - fK)))) (nI t) = (if nI gd = 0 then b_X4_lookAhead_218 k81 σ o (nI fK) (nI fT) (nI gd) (nI k) else b_X4_lookAhead_218 k81 (bl_pJ σ (o + 7) (6 * k + 2 * fT + 1) (lN (F k fT 1))) o (nI fK) (nI fT) (nI gd) (nI k)) := by
      show (if nI (min 2 (fT + (k - fK))) < nI t then _ else _) = _
      rw [if_pos (nI_lt (by omega) (by omega))]
      rcases (show gd = 0 ∨ gd = 1 by omega) with rfl | rfl
      · rw [if_pos (by rfl), if_pos (by rfl)]
      · rw [if_neg (by decide), if_neg (by decide), nI_lit 1, x_index σ (by decide), bd_some, nI_add, x_index σ (by decide), bd_some, in_nI (by omega) (by omega), gd_true, x_toldIndex σ (by omega) (by decide), bd_some, in_nI (show 6 * (k + 1) + 2 * tn fT 1 + 0 < 42 by show 6 * (k + 1) + 2 * fT + 0 < 42; omega) (by omega), gd_true, nI_clamp (by omega), nI_clamp (show 6 * (k + 1) + 2 * tn fT 1 + 0 < 2 ^ 31 by show 6 * (k + 1) + 2 * fT + 0 < _; omega)]
        have q1 := hL.2 rfl
        have q2 := hL.1 fT ⟨Nat.le_refl _, hft, by omega⟩
        rw [x_one C ok hK hrl hk (show fT < 3 by omega) (by decide) q1 q2 (hB fT 1 (by omega) (by decide)) (hB fT 0 (by omega) (by decide)), bd_some, in_nI (by omega) (by omega), gd_true, let_eq, nI_clamp (by omega), C.1.2.2.2]
        have e := hF fT 1 (by omega) (by decide)
        rw [show tn fT 1 = fT from rfl] at e
        rw [e]
    rw [hb]
    rcases (show gd = 0 ∨ gd = 1 by omega) with rfl | rfl
    · rw [if_pos (by rfl)]
      refine ⟨σ, ?_, Jo.rf _ σ, ⟨fun u hu => hD u hu.1 (by omega), fun h => absurd h (by decide)⟩, fun _ _ => rfl⟩
      unfold b_X4_lookAhead_218
      rw [let_eq]
    · rw [if_neg (by decide)]
      refine ⟨_, ?_, (Jo.rf (fun i => i = o + 7) σ).pJ rfl (6 * k + 2 * fT + 1) (lN (F k fT 1)), ⟨fun u hu => ?_, fun _ => J_pJ_self _ _ _ _⟩, fun j hj => J_pJ_ne (by omega)⟩
      · unfold b_X4_lookAhead_218
        rw [let_eq]
      · rw [J_pJ_ne (by omega)]
        exact hD u hu.1 (by omega)
  | succ r ih =>
    intro t n σ ht hft2 hn C hL hD
    obtain ⟨n, rfl⟩ : ∃ m, n = m + 1 := ⟨n - 1, by omega⟩
    have ht2 : t ≤ 2 := by omega
    have q1 := hL.1 t ⟨hft2, ht2, by omega⟩
    have q2 := hL.1 (tn t 0) ⟨by show fT ≤ min 2 (t + 1); omega, by show min 2 (t + 1) ≤ 2; omega, by show min 2 (t + 1) ≤ _; omega⟩
    have hb : b_X4_lookAhead_104 k81 (bl_fx (fun _ _ _ _ _ _ _ _ => none) (b_X4_lookAhead_104 k81) n) σ o (nI fK) (nI fT) (nI gd) (nI k) (nI (min 2 (fT + (k - fK)))) (nI t) = bl_fx (fun _ _ _ _ _ _ _ _ => none) (b_X4_lookAhead_104 k81) n (bl_pJ σ (o + 7) (6 * k + 2 * t + 0) (lN (F k t 0))) o (nI fK) (nI fT) (nI gd) (nI k) (nI (min 2 (fT + (k - fK)))) (nI (t + 1)) := by
      show (if nI (min 2 (fT + (k - fK))) < nI t then _ else _) = _
      rw [if_neg (nI_nlt (by omega) (by omega)), nI_lit 0, x_index σ (by decide), bd_some, nI_1, x_index σ (by decide), bd_some, in_nI (by omega) (by omega), gd_true, x_toldIndex σ (by omega) (by decide), bd_some, in_nI (show 6 * (k + 1) + 2 * tn t 0 + 0 < 42 by show 6 * (k + 1) + 2 * min 2 (t + 1) + 0 < 42; omega) (by omega), gd_true, nI_clamp (by omega), nI_clamp (show 6 * (k + 1) + 2 * tn t 0 + 0 < 2 ^ 31 by show 6 * (k + 1) + 2 * min 2 (t + 1) + 0 < _; omega)]
      rw [x_one C ok hK hrl hk (show t < 3 by omega) (by decide) q1 q2 (hB t 0 (by omega) (by decide)) (hB (tn t 0) 0 (by show min 2 (t + 1) < 3; omega) (by decide)), bd_some, in_nI (by omega) (by omega), gd_true, let_eq, let_eq, nI_clamp (by omega), C.1.2.2.2, nI_1, ← hF t 0 (by omega) (by decide)]
    have jb : Jo (fun i => i = o + 7) σ (bl_pJ σ (o + 7) (6 * k + 2 * t + 0) (lN (F k t 0))) := (Jo.rf (fun i => i = o + 7) σ).pJ rfl _ _
    obtain ⟨σ1, e1, j1, l1, o1⟩ := ih (t + 1) n (bl_pJ σ (o + 7) (6 * k + 2 * t + 0) (lN (F k t 0))) (by omega) (by omega) (by omega) (C.ko jb.ko (fun i a b c => by omega) (fun i a b c => by omega)) ⟨fun u hu => by rw [J_pJ_ne (by omega)]; exact hL.1 u hu, fun h => by rw [J_pJ_ne (by omega)]; exact hL.2 h⟩ (fun u h1 h2 => by
      by_cases hu : u = t
      · subst hu; exact J_pJ_self _ _ _ _
      · rw [J_pJ_ne (by omega)]; exact hD u h1 (by omega))
    refine ⟨σ1, ?_, jb.tr j1, l1, fun j hj => (o1 j hj).trans (J_pJ_ne (by omega))⟩
    rw [fx_succ, hb]
    exact e1
theorem x_la81 {F : Nat → Nat → Nat → Nat} (ok : TOk v) (hK : 0 < tK v) (hrl : rl ≤ 3) {fK fT gd : Nat} (hm : many ≤ 6) (hfm : fK ≤ many) (hft : fT ≤ 2) (hgd : gd < 2) (hsep : t0 + 3 < o + 7 ∨ o + 7 < t0) (hF : ∀ k t g, k < many → t < 3 → g < 2 → F k t g = cCh v w rl lm (F (k + 1) t g) (F (k + 1) (tn t g) 0)) (hB : ∀ k t g, k ≤ many → t < 3 → g < 2 → F k t g ≤ 2 ^ 40) :
    ∀ (r n : Nat) (σ : bl_St) (x : Int32), fK + r ≤ many → r < n → nI (fK + r) = x + 1 → CX σ o t0 v rl lm w many → (∀ k, fK + r ≤ k → k ≤ many → LvX σ (o + 7) fK fT gd F k) → ∃ σ1, bl_fx (fun _ _ _ _ _ _ => none) (b_X4_lookAhead_81) n σ o (nI fK) (nI fT) (nI gd) x = some ((), σ1) ∧ Jo (fun i => i = o + 7) σ σ1 ∧ ∀ k, fK ≤ k → k ≤ many → LvX σ1 (o + 7) fK fT gd F k := by
  intro r
  induction r with
  | zero =>
    intro n σ x hr hn hx C hL
    obtain ⟨n, rfl⟩ : ∃ m, n = m + 1 := ⟨n - 1, by omega⟩
    refine ⟨σ, ?_, Jo.rf _ σ, fun k h1 h2 => hL k (by omega) h2⟩
    rw [fx_succ]
    show (if x < nI fK then _ else _) = _
    have hx' : x.toInt = (fK : Int) - 1 := by
      have e : x = nI fK - 1 := by
        have : x + 1 + (-1) = nI fK + (-1) := by rw [← hx]; rfl
        rw [Int32.add_assoc] at this
        rw [Int32.sub_eq_add_neg]
        simpa using this
      rw [e, sub1_toInt (by omega)]
    rw [if_pos ((ltN_iff x (by omega)).mpr (by omega))]
  | succ r ih =>
    intro n σ x hr hn hx C hL
    obtain ⟨n, rfl⟩ : ∃ m, n = m + 1 := ⟨n - 1, by omega⟩
    have hx : x = nI (fK + r) := by
      have : x + 1 + (-1) = nI (fK + r + 1) + (-1) := by rw [← hx]; rfl
      rw [nI_m1, Int32.add_assoc] at this
      simpa using this
    obtain ⟨σ6, e6, j6, l6, o6⟩ := x_la104 (F := F) (o := o) (t0 := t0) (w := w) ok hK hrl (show fK + r < 6 by omega) (by omega) hft hgd hsep (fun t g => hF (fK + r) t g (by omega)) (fun t g => hB (fK + r + 1) t g (by omega)) (bl_fx (fun _ _ _ _ _ _ => none) (b_X4_lookAhead_81) n) (min 2 (fT + (fK + r - fK)) + 1 - fT) fT bl_fu σ (by omega) (Nat.le_refl _) (by unfold bl_fu; omega) C (hL (fK + r + 1) (by omega) (by omega)) (fun u h1 h2 => absurd h2 (by omega))
    obtain ⟨σ1, e1, j1, l1⟩ := ih n σ6 (nI (fK + r) + (-1)) (by omega) (by omega) (by rw [Int32.add_assoc]; simp) (C.ko j6.ko (fun i a b c => by omega) (fun i a b c => by omega)) (fun k h1 h2 => by
      by_cases hk : k = fK + r
      · rw [hk]; exact l6
      · have hh := hL k (by omega) h2
        exact ⟨fun u hu => by rw [o6 _ (by omega)]; exact hh.1 u hu, fun hg => by rw [o6 _ (by omega)]; exact hh.2 hg⟩)
    refine ⟨σ1, ?_, j6.tr j1, l1⟩
    rw [fx_succ, hx]
    show (if nI (fK + r) < nI fK then _ else _) = _
    rw [if_neg (nI_nlt (by omega) (by omega)), let_eq, nI_add, nI_sub (by omega), nI_lit 2, nI_min2 (by omega)]
    rw [show fT + (fK + r) - fK = fT + (fK + r - fK) by omega]
    exact e6.trans e1
/-- Outlook.lookAhead -/
theorem x_lookAhead {σ : bl_St} {L c fK fT gd : Nat} {V : Nat → Nat} (C : CX σ o t0 v rl lm w many) (ok : TOk v) (hK : 0 < tK v) (hrl : rl ≤ 3) (hm : many ≤ 6) (hfm : fK ≤ many) (hft : fT ≤ 2) (hgd : gd < 2) (hsep : t0 + 3 < o ∨ o + 7 < t0) (hL1 : 1 ≤ L) (hL : L ≤ 20) (hc : c < tN v) (hV : ∀ d, d < tN v → bl_J σ (o + 6) (8 * (L - 1) + d) = lN (V d)) (hBV : ∀ d, d < tN v → V d ≤ 2 ^ 39) :
    ∃ σ1, f_X4_lookAhead σ o (nI L) (nI c) (nI fK) (nI fT) (nI gd) = some ((), σ1) ∧ Jo (fun i => i = o + 7) σ σ1 ∧ ∀ k, fK ≤ k → k ≤ many → LvX σ1 (o + 7) fK fT gd (fun k t g => cAh v w rl lm V c (many - k) t g) k := by
  have h8 := ok.n8
  have hbd := cAh_le ok hK w rl lm hc hBV
  have step : ∀ (τ : bl_St) (t : Nat) (k3 : bl_St → Nat → Int32 → Int32 → Int32 → Int32 → Int32 → Int32 → Option (Unit × bl_St)), t < 3 → CX τ o t0 v rl lm w many → (∀ d, d < tN v → bl_J τ (o + 6) (8 * (L - 1) + d) = lN (V d)) → b_X4_lookAhead_3 k3 τ o (nI L) (nI c) (nI fK) (nI fT) (nI gd) (nI t) = k3 (bl_pJ (bl_pJ τ (o + 7) (6 * many + 2 * t + 0) (lN (V (tB v c t)))) (o + 7) (6 * many + 2 * t + 1) (lN (V (tB v c t)))) o (nI L) (nI c) (nI fK) (nI fT) (nI gd) (nI (t + 1)) := by
    intro τ t k3 ht D hW
    have hb := tB_lt ok t hc
    unfold b_X4_lookAhead_3
    rw [if_neg (show ¬ (3 : Int32) ≤ nI t from nI_ge (a := t) (b := 3) ht (by decide)), D.1.1, x_next D.2.1 ok hc (by omega), bd_some, show (1 : Int32) = nI 1 from rfl, nI_sub hL1, nI_lit 8, nI_mul, nI_add, in_nI (by omega) (by omega), gd_true, let_eq, D.1.2.2.1, nI_clamp (by omega), Nat.mul_comm (L - 1) 8, hW _ hb, D.2.2.2, show (0 : Int32) = nI 0 from rfl, x_index τ (by decide), bd_some, in_nI (by omega) (by omega), gd_true, let_eq, nI_clamp (by omega), D.1.2.2.2]
    have e8 : bl_I (bl_pJ τ (o + 7) (6 * many + 2 * t + 0) (lN (V (tB v c t)))) o 8 = nI many := D.2.2.2
    have e11 : bl_R (bl_pJ τ (o + 7) (6 * many + 2 * t + 0) (lN (V (tB v c t)))) o 11 = o + 7 := D.1.2.2.2
    rw [e8, x_index _ (by decide), bd_some, in_nI (by omega) (by omega), gd_true, let_eq, nI_clamp (by omega), e11, let_eq, nI_add]
  have jp : ∀ (τ : bl_St) (t : Nat), Jo (fun i => i = o + 7) τ (bl_pJ (bl_pJ τ (o + 7) (6 * many + 2 * t + 0) (lN (V (tB v c t)))) (o + 7) (6 * many + 2 * t + 1) (lN (V (tB v c t)))) := fun τ t => ((Jo.rf (fun i => i = o + 7) τ).pJ rfl _ _).pJ rfl _ _
  obtain ⟨s1, hs1⟩ : ∃ z, z = bl_pJ (bl_pJ σ (o + 7) (6 * many + 2 * 0 + 0) (lN (V (tB v c 0)))) (o + 7) (6 * many + 2 * 0 + 1) (lN (V (tB v c 0))) := ⟨_, rfl⟩
  obtain ⟨s2, hs2⟩ : ∃ z, z = bl_pJ (bl_pJ s1 (o + 7) (6 * many + 2 * 1 + 0) (lN (V (tB v c 1)))) (o + 7) (6 * many + 2 * 1 + 1) (lN (V (tB v c 1))) := ⟨_, rfl⟩
  obtain ⟨s3, hs3⟩ : ∃ z, z = bl_pJ (bl_pJ s2 (o + 7) (6 * many + 2 * 2 + 0) (lN (V (tB v c 2)))) (o + 7) (6 * many + 2 * 2 + 1) (lN (V (tB v c 2))) := ⟨_, rfl⟩
  have j1 : Jo (fun i => i = o + 7) σ s1 := by rw [hs1]; exact jp σ 0
  have j2 : Jo (fun i => i = o + 7) σ s2 := by rw [hs2]; exact j1.tr (jp s1 1)
  have j3 : Jo (fun i => i = o + 7) σ s3 := by rw [hs3]; exact j2.tr (jp s2 2)
  have up : ∀ {τ : bl_St}, Jo (fun i => i = o + 7) σ τ → CX τ o t0 v rl lm w many ∧ ∀ d, d < tN v → bl_J τ (o + 6) (8 * (L - 1) + d) = lN (V d) := fun {τ} j => ⟨C.ko j.ko (fun i a b c => by omega) (fun i a b c => by omega), fun d hd => by rw [j.2.2 (o + 6) (by omega)]; exact hV d hd⟩
  have lv : ∀ t g, t < 3 → g < 2 → bl_J s3 (o + 7) (6 * many + 2 * t + g) = lN (V (tB v c t)) := by
    intro t g ht hg
    rcases (show t = 0 ∨ t = 1 ∨ t = 2 by omega) with rfl | rfl | rfl <;> rcases (show g = 0 ∨ g = 1 by omega) with rfl | rfl
    · rw [hs3, J_pJ_ne (by omega), J_pJ_ne (by omega), hs2, J_pJ_ne (by omega), J_pJ_ne (by omega), hs1, J_pJ_ne (by omega), J_pJ_self]
    · rw [hs3, J_pJ_ne (by omega), J_pJ_ne (by omega), hs2, J_pJ_ne (by omega), J_pJ_ne (by omega), hs1, J_pJ_self]
    · rw [hs3, J_pJ_ne (by omega), J_pJ_ne (by omega), hs2, J_pJ_ne (by omega), J_pJ_self]
    · rw [hs3, J_pJ_ne (by omega), J_pJ_ne (by omega), hs2, J_pJ_self]
    · rw [hs3, J_pJ_ne (by omega), J_pJ_self]
    · rw [hs3, J_pJ_self]
  obtain ⟨σ1, e1, j4, l1⟩ := x_la81 (F := fun k t g => cAh v w rl lm V c (many - k) t g) (o := o) (t0 := t0) (w := w) ok hK hrl hm hfm hft hgd (by omega) (fun k t g hk ht hg => by
      show cAh v w rl lm V c (many - k) t g = _
      rw [show many - k = (many - (k + 1)) + 1 by omega]
      rfl) (fun k t g hk _ _ => by have := hbd (many - k) t g; omega) (many - fK) bl_fu s3 (nI many - 1) (by omega) (by unfold bl_fu; omega) (by rw [Int32.sub_eq_add_neg, Int32.add_assoc]; simp; congr 1; omega) (up j3).1 (fun k h1 h2 => by
      have hk : k = many := by omega
      subst hk
      refine ⟨fun t ht => ?_, fun hg => ?_⟩
      · show _ = lN (cAh v w rl lm V c (k - k) t 0)
        rw [Nat.sub_self]
        exact lv t 0 (by omega) (by decide)
      · show _ = lN (cAh v w rl lm V c (k - k) fT 1)
        rw [Nat.sub_self]
        exact lv fT 1 (by omega) (by decide))
  refine ⟨σ1, ?_, j3.tr j4, l1⟩
  unfold f_X4_lookAhead
  rw [show bl_fu = 19996 + 1 + 1 + 1 + 1 from rfl, fx_succ, fx_succ, fx_succ, fx_succ, show (0 : Int32) = nI 0 from rfl]
  rw [step σ 0 _ (by decide) C hV, ← hs1, step s1 (0 + 1) _ (by decide) (up j1).1 (up j1).2, ← hs2, step s2 (0 + 1 + 1) _ (by decide) (up j2).1 (up j2).2, ← hs3]
  unfold b_X4_lookAhead_3
  rw [if_pos (by decide), let_eq, (up j3).1.2.2.2]
  exact e1
end XO
