/-! ===== what an outlook has learnt ===== -/
def OX (σ : bl_St) (o t : Nat) (v : tm_V) (rl lm : Nat) (w gd : Bool) (cars hu kn : Nat) : Prop :=
  ((bl_R σ o 0 = t ∧ bl_R σ o 9 = o + 1 ∧ bl_R σ o 10 = o + 6 ∧ bl_R σ o 11 = o + 7) ∧ (bl_R σ (o + 1) 4 = o + 1 + 1 ∧ bl_R σ (o + 1) 5 = o + 1 + 2 ∧ bl_R σ (o + 1) 6 = o + 1 + 3 ∧ bl_R σ (o + 1) 7 = o + 1 + 4)) ∧ TX σ t v ∧
  (bl_I σ o 1 = gI gd ∧ bl_I σ o 2 = nI rl ∧ bl_I σ o 3 = nI lm ∧ bl_I σ o 4 = (if w = true then 1 else 0) ∧ bl_I σ o 5 = nI cars ∧ bl_I σ o 6 = nI hu ∧ bl_I σ o 7 = nI kn) ∧
  (∀ d, d < 8 → bl_J σ (o + 6) d = 0) ∧ kn ≤ 20 ∧
  (0 < kn → (XLs σ (o + 1) v rl lm w ∧ bl_I σ o 8 = nI (tH v * cars)) ∧ ∀ y, 1 ≤ y → y ≤ kn → ∀ d, d < tN v → bl_J σ (o + 6) (8 * y + d) = lN (cCo v w rl lm gd cars hu y d))
theorem OX.row0 {σ : bl_St} {o t : Nat} {v : tm_V} {rl lm : Nat} {w gd : Bool} {cars hu kn : Nat} (h : OX σ o t v rl lm w gd cars hu kn) (ok : TOk v) {y : Nat} (hy : y ≤ kn) {d : Nat} (hd : d < tN v) : bl_J σ (o + 6) (8 * y + d) = lN (cCo v w rl lm gd cars hu y d) := by
  have h8 := ok.n8
  rcases Nat.eq_zero_or_pos y with rfl | hy1
  · rw [show 8 * 0 + d = d by omega, h.2.2.2.1 d (by omega)]
    rfl
  · exact (h.2.2.2.2.2 (by omega)).2 y hy1 hy d hd
section XLN
variable {o t : Nat} {v : tm_V} {rl lm : Nat} {w gd : Bool} {cars hu : Nat}
theorem x_premiumPaid {σ : bl_St} (hR : bl_R σ o 0 = t) (hT : TX σ t v) (h5 : bl_I σ o 5 = nI cars) (h6 : bl_I σ o 6 = nI hu) (ok : TOk v) (hca : cars ≤ 2) (hhu : hu ≤ 50) {c : Nat} (hc : c < tN v) : f_X4_premiumPaid σ o (nI c) = some (lN (cPr v cars hu c), σ) := by
  have hp := (ok.2.1 c hc).1
  have hq : cars * tC v (5 * c) ≤ 2 * 999 := Nat.mul_le_mul hca hp
  have hq2 : cars * tC v (5 * c) * 1000 * hu ≤ 1998000 * 50 := Nat.mul_le_mul (by omega) hhu
  have hd : cars * tC v (5 * c) * 1000 * hu / 100 ≤ cars * tC v (5 * c) * 1000 := Nat.div_le_of_le_mul (Nat.le_trans (Nat.mul_le_mul_left _ hhu) (by omega))
  unfold f_X4_premiumPaid cPr
  rw [hR, show (0 : Int32) = nI 0 from rfl, x_part hT ok hc (by decide), bd_some, let_eq, h5, h6, Nat.add_zero, nI_l (by omega), nI_l (show tC v (5 * c) < 2 ^ 31 by omega), nI_l (show hu < 2 ^ 31 by omega), lN_lit 1000, lN_lit 100, lN_mul, lN_mul, lN_mul]
  rw [show 1000 * cars * tC v (5 * c) = cars * tC v (5 * c) * 1000 by rw [Nat.mul_assoc, Nat.mul_comm]]
  rw [lN_div (by omega) (by omega), lN_sub hd]
theorem x_guardPays {σ : bl_St} {a0 a1 : Nat} (hR : bl_R σ o 0 = t) (hR2 : bl_R σ o 11 = o + 7) (hT : TX σ t v) (ok : TOk v) {c : Nat} (hc : c < tN v) (h0 : bl_J σ (o + 7) 0 = lN a0) (h1 : bl_J σ (o + 7) 1 = lN a1) (b0 : a0 ≤ 2 ^ 40) (b1 : a1 ≤ 2 ^ 40) : f_X4_guardPays σ o (nI c) = some (if tC v (5 * c + 4) * 1000 + a1 < a0 then 1 else 0, σ) := by
  have hf := (ok.2.1 c hc).2.2
  unfold f_X4_guardPays
  rw [hR, show (4 : Int32) = nI 4 from rfl, x_part hT ok hc (by decide), bd_some]
  have i1 : f_X4_index σ 0 0 1 = some (nI 1, σ) := x_index σ (k := 0) (t := 0) (g := 1) (by decide)
  have i0 : f_X4_index σ 0 0 0 = some (nI 0, σ) := x_index σ (k := 0) (t := 0) (g := 0) (by decide)
  rw [i1, bd_some, in_nI (by decide) (by decide), gd_true, i0, bd_some, in_nI (by decide) (by decide), gd_true, hR2, nI_clamp (by decide), nI_clamp (by decide), h0, h1, nI_l (by omega), lN_lit 1000, lN_mul, lN_add]
  have g0 : a0 < 2 ^ 63 := by omega
  have g1 : 1000 * tC v (5 * c + 4) + a1 < 2 ^ 63 := by omega
  by_cases hx : tC v (5 * c + 4) * 1000 + a1 < a0
  · rw [if_neg (fun z => by have := (lN_leI g0 g1).mp z; omega), if_pos hx]
  · rw [if_pos ((lN_leI g0 g1).mpr (by omega)), if_neg hx]
theorem x_cbp {σ : bl_St} {a0 a1 : Nat} (hR : bl_R σ o 0 = t) (hR2 : bl_R σ o 11 = o + 7) (hT : TX σ t v) (hg : bl_I σ o 1 = gI gd) (ok : TOk v) {c : Nat} (hc : c < tN v) (h0 : bl_J σ (o + 7) 0 = lN a0) (h1 : gd = true → bl_J σ (o + 7) 1 = lN a1) (b0 : a0 ≤ 2 ^ 40) (b1 : a1 ≤ 2 ^ 40) : f_X4_costBehindPremium σ o (nI c) = some (lN (if gd = true ∧ tC v (5 * c + 4) * 1000 + a1 < a0 then tC v (5 * c + 4) * 1000 + a1 else a0), σ) := by
  have hf := (ok.2.1 c hc).2.2
  have i1 : f_X4_index σ 0 0 1 = some (nI 1, σ) := x_index σ (k := 0) (t := 0) (g := 1) (by decide)
  have i0 : f_X4_index σ 0 0 0 = some (nI 0, σ) := x_index σ (k := 0) (t := 0) (g := 0) (by decide)
  have e42 : b_X4_costBehindPremium_42 σ o = some (lN a0, σ) := by
    unfold b_X4_costBehindPremium_42
    rw [i0, bd_some, in_nI (by decide) (by decide), gd_true, hR2, nI_clamp (by decide), h0]
  unfold f_X4_costBehindPremium
  rw [hg]
  cases gd with
  | false =>
    rw [if_pos (show gI false = 0 from rfl), e42]
    simp
  | true =>
    rw [if_neg (by decide), x_guardPays hR hR2 hT ok hc h0 (h1 rfl) b0 b1, bd_some]
    by_cases hx : tC v (5 * c + 4) * 1000 + a1 < a0
    · rw [if_pos hx, if_neg (by decide), if_pos ⟨rfl, hx⟩, hR, show (4 : Int32) = nI 4 from rfl, x_part hT ok hc (by decide), bd_some, i1, bd_some, in_nI (by decide) (by decide), gd_true, hR2, nI_clamp (by decide), h1 rfl, nI_l (by omega), lN_lit 1000, lN_mul, lN_add]
      congr 3
      omega
    · rw [if_neg hx, if_pos rfl, if_neg (fun z => hx z.2), e42]
theorem gI_nI (gd : Bool) : gI gd = nI (if gd = true then 1 else 0) := by cases gd <;> rfl
/-- the classes of one year -/
theorem x_ln60 (ok : TOk v) (hK : 0 < tK v) (hrl : rl ≤ 3) (hca : cars ≤ 2) (hhu : hu ≤ 50) (hsep : t + 3 < o ∨ o + 7 < t) {Y y : Nat} (hy : 1 ≤ y) (hy20 : y ≤ 20) (k53 : bl_St → Nat → Int32 → Int32 → Option (Unit × bl_St)) :
    ∀ (r c n : Nat) (σ : bl_St), c + r = tN v → r < n → CX σ o t v rl lm w (tH v * cars) → (bl_I σ o 1 = gI gd ∧ bl_I σ o 5 = nI cars ∧ bl_I σ o 6 = nI hu) → (∀ d, d < tN v → bl_J σ (o + 6) (8 * (y - 1) + d) = lN (cCo v w rl lm gd cars hu (y - 1) d)) → (∀ d, d < c → bl_J σ (o + 6) (8 * y + d) = lN (cCo v w rl lm gd cars hu y d)) →
    ∃ σ1, bl_fx (fun _ _ _ _ _ => none) (b_X4_learn_60 k53) n σ o (nI Y) (nI y) (nI c) = k53 (bl_pI σ1 o 7 (nI y)) o (nI Y) (nI (y + 1)) ∧ Jo (fun i => i = o + 6 ∨ i = o + 7) σ σ1 ∧ (∀ d, d < tN v → bl_J σ1 (o + 6) (8 * y + d) = lN (cCo v w rl lm gd cars hu y d)) ∧ ∀ j, j < 8 * y → bl_J σ1 (o + 6) j = bl_J σ (o + 6) j := by
  have h8 := ok.n8
  have h3 := ok.2.2.2.1.2
  have h4 : tH v * cars ≤ 6 := Nat.le_trans (Nat.mul_le_mul h3 hca) (by decide)
  have hcb := fun d hd => cCo_le ok hK w rl lm gd cars hu hca (y - 1) d hd
  intro r
  induction r with
  | zero =>
    intro c n σ hc hn C hf hV hD
    obtain ⟨n, rfl⟩ : ∃ m, n = m + 1 := ⟨n - 1, by omega⟩
    have hc : c = tN v := by omega
    subst hc
    refine ⟨σ, ?_, Jo.rf _ σ, hD, fun _ _ => rfl⟩
    rw [fx_succ]
    unfold b_X4_learn_60
    rw [C.1.1, C.2.1.2.1.1, if_pos (nI_le (Nat.le_refl _) (by omega)), let_eq, let_eq, nI_1]
  | succ r ih =>
    intro c n σ hc hn C hf hV hD
    obtain ⟨n, rfl⟩ : ∃ m, n = m + 1 := ⟨n - 1, by omega⟩
    have hcN : c < tN v := by omega
    obtain ⟨σa, ea, ja, la⟩ := x_lookAhead (gd := if gd = true then 1 else 0) (fK := 0) (fT := 0) (L := y) C ok hK hrl h4 (Nat.zero_le _) (by decide) (by split <;> decide) hsep hy hy20 hcN hV (fun d hd => by have := hcb d hd; omega)
    have Ca := C.ko ja.ko (fun i a b c => by omega) (fun i a b c => by omega)
    have Ia : bl_I σa = bl_I σ := ja.1
    have l0 := la 0 (Nat.le_refl _) (Nat.zero_le _)
    have q0 := l0.1 0 ⟨Nat.le_refl _, by decide, by decide⟩
    simp only [Nat.sub_zero] at q0
    have q1 : gd = true → bl_J σa (o + 7) 1 = lN (cAh v w rl lm (cCo v w rl lm gd cars hu (y - 1)) c (tH v * cars) 0 1) := fun hg => by
      have := l0.2 (by rw [hg]; rfl)
      simp only [Nat.sub_zero] at this
      exact this
    have ha0 := cAh_le ok hK w rl lm hcN hcb (tH v * cars) 0 0
    have ha1 := cAh_le ok hK w rl lm hcN hcb (tH v * cars) 0 1
    have ecost : cPr v cars hu c + (if gd = true ∧ tC v (5 * c + 4) * 1000 + cAh v w rl lm (cCo v w rl lm gd cars hu (y - 1)) c (tH v * cars) 0 1 < cAh v w rl lm (cCo v w rl lm gd cars hu (y - 1)) c (tH v * cars) 0 0 then tC v (5 * c + 4) * 1000 + cAh v w rl lm (cCo v w rl lm gd cars hu (y - 1)) c (tH v * cars) 0 1 else cAh v w rl lm (cCo v w rl lm gd cars hu (y - 1)) c (tH v * cars) 0 0) = cCo v w rl lm gd cars hu y c := by
      obtain ⟨y', rfl⟩ : ∃ y', y = y' + 1 := ⟨y - 1, by omega⟩
      simp only [Nat.add_sub_cancel, cCo]
      split <;> rfl
    have jb : Jo (fun i => i = o + 6 ∨ i = o + 7) σ (bl_pJ σa (o + 6) (8 * y + c) (lN (cCo v w rl lm gd cars hu y c))) := Jo.pJ (S := fun i => i = o + 6 ∨ i = o + 7) (ja.mono (fun i hi => Or.inr hi)) (i := o + 6) (Or.inl rfl) _ _
    have Jb : ∀ j, j ≠ 8 * y + c → bl_J (bl_pJ σa (o + 6) (8 * y + c) (lN (cCo v w rl lm gd cars hu y c))) (o + 6) j = bl_J σ (o + 6) j := fun j hj => by
      rw [J_pJ_ne hj, ja.2.2 (o + 6) (by omega)]
    obtain ⟨σ1, e1, j1, f1, o1⟩ := ih (c + 1) n (bl_pJ σa (o + 6) (8 * y + c) (lN (cCo v w rl lm gd cars hu y c))) (by omega) (by omega) (C.ko jb.ko (fun i a b c => by omega) (fun i a b c => by omega)) (by show bl_I σa o 1 = _ ∧ bl_I σa o 5 = _ ∧ bl_I σa o 6 = _; rw [Ia]; exact hf) (fun d hd => by rw [Jb _ (by omega)]; exact hV d hd) (fun d hd => by
      by_cases hdc : d = c
      · subst hdc; exact J_pJ_self _ _ _ _
      · rw [Jb _ (by omega)]; exact hD d (by omega))
    refine ⟨σ1, ?_, jb.tr j1, f1, fun j hj => (o1 j hj).trans (Jb j (by omega))⟩
    rw [fx_succ]
    have hb : b_X4_learn_60 k53 (bl_fx (fun _ _ _ _ _ => none) (b_X4_learn_60 k53) n) σ o (nI Y) (nI y) (nI c) = bl_fx (fun _ _ _ _ _ => none) (b_X4_learn_60 k53) n (bl_pJ σa (o + 6) (8 * y + c) (lN (cCo v w rl lm gd cars hu y c))) o (nI Y) (nI y) (nI (c + 1)) := by
      show (if bl_I σ (bl_R σ o 0) 0 ≤ nI c then _ else _) = _
      rw [C.1.1, C.2.1.2.1.1, if_neg (nI_ge (by omega) (by omega)), hf.1, gI_nI, show (0 : Int32) = nI 0 from rfl, ea, bd_some, x_premiumPaid Ca.1.1 Ca.2.1 (by rw [Ia]; exact hf.2.1) (by rw [Ia]; exact hf.2.2) ok hca hhu hcN, bd_some, x_cbp Ca.1.1 Ca.1.2.2.2 Ca.2.1 (by rw [Ia]; exact hf.1) ok hcN q0 q1 (by omega) (by omega), bd_some, nI_lit 8, nI_mul, nI_add, in_nI (by omega) (by omega), gd_true, let_eq, let_eq, lN_add, ecost, Ca.1.2.2.1, nI_clamp (by omega), Nat.mul_comm y 8, nI_1]
    rw [hb]
    exact e1
theorem x_ln53 (ok : TOk v) (hK : 0 < tK v) (hrl : rl ≤ 3) (hca : cars ≤ 2) (hhu : hu ≤ 50) (hsep : t + 3 < o ∨ o + 7 < t) {Y : Nat} (hY : Y ≤ 20) :
    ∀ (r kn n : Nat) (σ : bl_St), kn + r = max kn Y → r < n → OX σ o t v rl lm w gd cars hu kn → XLs σ (o + 1) v rl lm w ∧ bl_I σ o 8 = nI (tH v * cars) →
    ∃ σ1, bl_fx (fun _ _ _ _ => none) (b_X4_learn_53) n σ o (nI Y) (nI (kn + 1)) = some ((), σ1) ∧ Ko (fun i => i = o ∨ i = o + 6 ∨ i = o + 7) σ σ1 ∧ OX σ1 o t v rl lm w gd cars hu (max kn Y) ∧ (XLs σ1 (o + 1) v rl lm w ∧ bl_I σ1 o 8 = nI (tH v * cars)) ∧ ∀ k, k ≠ 7 → bl_I σ1 o k = bl_I σ o k := by
  have h8 := ok.n8
  intro r
  induction r with
  | zero =>
    intro kn n σ hkn hn h hx
    obtain ⟨n, rfl⟩ : ∃ m, n = m + 1 := ⟨n - 1, by omega⟩
    have hk20 := h.2.2.2.2.1
    refine ⟨σ, ?_, Ko.rf _ σ, by rw [← hkn, Nat.add_zero]; exact h, hx, fun _ _ => rfl⟩
    rw [fx_succ]
    show (if nI Y < nI (kn + 1) then _ else _) = _
    rw [if_pos (nI_lt (by omega) (by omega))]
  | succ r ih =>
    intro kn n σ hkn hn h hx
    obtain ⟨n, rfl⟩ : ∃ m, n = m + 1 := ⟨n - 1, by omega⟩
    have hk20 := h.2.2.2.2.1
    have hkY : kn < Y := by omega
    have C : CX σ o t v rl lm w (tH v * cars) := ⟨h.1.1, h.2.1, hx.1, hx.2⟩
    obtain ⟨σa, ea, ja, fa, oa⟩ := x_ln60 (o := o) (t := t) (w := w) (gd := gd) (cars := cars) (hu := hu) (lm := lm) ok hK hrl hca hhu hsep (Y := Y) (y := kn + 1) (by omega) (by omega) (bl_fx (fun _ _ _ _ => none) (b_X4_learn_53) n) (tN v) 0 bl_fu σ (by omega) (by unfold bl_fu; omega) C ⟨h.2.2.1.1, h.2.2.1.2.2.2.2.1, h.2.2.1.2.2.2.2.2.1⟩ (fun d hd => by rw [Nat.add_sub_cancel]; exact h.row0 ok (Nat.le_refl _) hd) (fun d hd => absurd hd (Nat.not_lt_zero d))
    have ka : Ko (fun i => i = o ∨ i = o + 6 ∨ i = o + 7) σ (bl_pI σa o 7 (nI (kn + 1))) := Ko.pI (S := fun i => i = o ∨ i = o + 6 ∨ i = o + 7) (ja.ko.mono (fun i hi => Or.inr hi)) (i := o) (Or.inl rfl) 7 _
    have Ia : ∀ k, k ≠ 7 → bl_I (bl_pI σa o 7 (nI (kn + 1))) o k = bl_I σ o k := fun k hk => by
      rw [I_pI_ne hk]
      show σa.1 o k = σ.1 o k
      rw [ja.1]
    have hb : OX (bl_pI σa o 7 (nI (kn + 1))) o t v rl lm w gd cars hu (kn + 1) := by
      have eR : bl_R (bl_pI σa o 7 (nI (kn + 1))) = bl_R σ := ka.1
      refine ⟨by rw [eR]; exact h.1, h.2.1.ko ka (fun i a b c => by omega), ?_, ?_, by omega, fun _ => ⟨⟨hx.1.ko ka (fun i a b c => by omega), by rw [Ia 8 (by decide)]; exact hx.2⟩, ?_⟩⟩
      · rw [Ia 1 (by decide), Ia 2 (by decide), Ia 3 (by decide), Ia 4 (by decide), Ia 5 (by decide), Ia 6 (by decide), I_pI_self]
        exact ⟨h.2.2.1.1, h.2.2.1.2.1, h.2.2.1.2.2.1, h.2.2.1.2.2.2.1, h.2.2.1.2.2.2.2.1, h.2.2.1.2.2.2.2.2.1, rfl⟩
      · intro d hd
        show bl_J σa (o + 6) d = 0
        rw [oa d (by omega)]
        exact h.2.2.2.1 d hd
      · intro y hy1 hy2 d hd
        show bl_J σa (o + 6) (8 * y + d) = _
        by_cases hyk : y = kn + 1
        · subst hyk; exact fa d hd
        · rw [oa _ (by omega)]
          exact h.row0 ok (by omega) hd
    obtain ⟨σ1, e1, k1, h1, x1, i1⟩ := ih (kn + 1) n (bl_pI σa o 7 (nI (kn + 1))) (by omega) (by omega) hb ⟨hx.1.ko ka (fun i a b c => by omega), by rw [Ia 8 (by decide)]; exact hx.2⟩
    refine ⟨σ1, ?_, ka.tr k1, by rw [show max kn Y = max (kn + 1) Y by omega]; exact h1, x1, fun k hk => (i1 k hk).trans (Ia k hk)⟩
    rw [fx_succ]
    show (if nI Y < nI (kn + 1) then _ else _) = _
    rw [if_neg (nI_nlt (by omega) (by omega))]
    exact ea.trans e1
/-- Outlook.learn -/
theorem x_learn {σ : bl_St} {kn Y : Nat} (h : OX σ o t v rl lm w gd cars hu kn) (ok : TOk v) (hK : 0 < tK v) (hrl : rl ≤ 3) (hlm : lm ≤ 999) (hca : cars ≤ 2) (hhu : hu ≤ 50) (hsep : t + 3 < o ∨ o + 7 < t) (hY : Y ≤ 20) :
    ∃ σ1, f_X4_learn σ o (nI Y) = some ((), σ1) ∧ Ko (fun i => o ≤ i ∧ i ≤ o + 7) σ σ1 ∧ OX σ1 o t v rl lm w gd cars hu (max kn Y) ∧ CX σ1 o t v rl lm w (tH v * cars) := by
  have h8 := ok.n8
  have h3 := ok.2.2.2.1.2
  have h4 : tH v * cars ≤ 6 := Nat.le_trans (Nat.mul_le_mul h3 hca) (by decide)
  have hk20 := h.2.2.2.2.1
  have tail : ∀ (τ : bl_St), OX τ o t v rl lm w gd cars hu kn → XLs τ (o + 1) v rl lm w ∧ bl_I τ o 8 = nI (tH v * cars) → ∃ σ1, b_X4_learn_46 τ o (nI Y) = some ((), σ1) ∧ Ko (fun i => o ≤ i ∧ i ≤ o + 7) τ σ1 ∧ OX σ1 o t v rl lm w gd cars hu (max kn Y) ∧ CX σ1 o t v rl lm w (tH v * cars) := by
    intro τ hτ hx
    obtain ⟨σ1, e1, k1, h1, x1, i1⟩ := x_ln53 ok hK hrl hca hhu hsep hY (max kn Y - kn) kn bl_fu τ (by omega) (by unfold bl_fu; omega) hτ hx
    refine ⟨σ1, ?_, k1.mono (fun i hi => by omega), h1, ⟨h1.1.1, h1.2.1, x1.1, x1.2⟩⟩
    unfold b_X4_learn_46
    rw [let_eq, hτ.2.2.1.2.2.2.2.2.2, nI_1]
    exact e1
  unfold f_X4_learn
  rw [h.2.2.1.2.2.2.2.2.2]
  rcases Nat.eq_zero_or_pos kn with hz | hp
  · subst hz
    rw [if_pos (by rfl), h.1.1.1, x_chances h.2.1, bd_some, let_eq, h.2.2.1.2.2.2.2.1, nI_mul]
    obtain ⟨σa, ea⟩ : ∃ z, z = bl_pI σ o 8 (nI (tH v * cars)) := ⟨_, rfl⟩
    rw [← ea]
    have ka : Ko (fun i => o ≤ i ∧ i ≤ o + 7) σ σa := by rw [ea]; exact (Ko.rf _ σ).pI (by omega) 8 _
    have Ra : bl_R σa = bl_R σ := ka.1
    have Ia : ∀ k, k ≠ 8 → bl_I σa o k = bl_I σ o k := fun k hk => by rw [ea, I_pI_ne hk]
    obtain ⟨σb, eb, kb, lb⟩ := x_take (q := o + 1) (w := w) (rl := rl) (lm := lm) ok hrl hlm (by omega) (h.2.1.ko ka (fun i a b c => by omega)) (by rw [Ra]; exact h.1.2)
    rw [Ra, h.1.1.1, h.1.1.2.1, Ia 2 (by decide), Ia 3 (by decide), Ia 4 (by decide), h.2.2.1.2.1, h.2.2.1.2.2.1, h.2.2.1.2.2.2.1, eb, bd_some]
    have kab : Ko (fun i => o ≤ i ∧ i ≤ o + 7) σ σb := ka.tr (kb.mono (fun i hi => by omega))
    have Ib : ∀ k, bl_I σb o k = bl_I σa o k := fun k => by rw [(kb.2 o (by omega)).1]
    have Jb : bl_J σb (o + 6) = bl_J σ (o + 6) := by
      rw [(kb.2 (o + 6) (by omega)).2, ea]
      rfl
    obtain ⟨σ1, e1, k1, h1, c1⟩ := tail σb ⟨by have : bl_R σb = bl_R σ := kab.1; rw [this]; exact h.1, h.2.1.ko kab (fun i a b c => by omega), by
      rw [Ib, Ib, Ib, Ib, Ib, Ib, Ib, Ia 1 (by decide), Ia 2 (by decide), Ia 3 (by decide), Ia 4 (by decide), Ia 5 (by decide), Ia 6 (by decide), Ia 7 (by decide)]
      exact h.2.2.1, by rw [Jb]; exact h.2.2.2.1, by omega, fun z => absurd z (by decide)⟩ ⟨lb, by rw [Ib, ea, I_pI_self]⟩
    exact ⟨σ1, e1, kab.tr k1, h1, c1⟩
  · rw [if_neg (nI_ne0 hp (by omega))]
    exact tail σ h (h.2.2.2.2.2 hp).1
/-- Outlook.costOf -/
theorem x_costOf {σ : bl_St} {kn Y c : Nat} (h : OX σ o t v rl lm w gd cars hu kn) (ok : TOk v) (hK : 0 < tK v) (hrl : rl ≤ 3) (hlm : lm ≤ 999) (hca : cars ≤ 2) (hhu : hu ≤ 50) (hsep : t + 3 < o ∨ o + 7 < t) (hY : Y ≤ 20) (hc : c < tN v) :
    ∃ σ1, f_X4_costOf σ o (nI Y) (nI c) = some (lN (cCo v w rl lm gd cars hu Y c), σ1) ∧ Ko (fun i => o ≤ i ∧ i ≤ o + 7) σ σ1 ∧ OX σ1 o t v rl lm w gd cars hu (max kn Y) := by
  have h8 := ok.n8
  obtain ⟨σ1, e1, k1, h1, c1⟩ := x_learn h ok hK hrl hlm hca hhu hsep hY
  refine ⟨σ1, ?_, k1, h1⟩
  unfold f_X4_costOf
  rw [e1, bd_some, nI_lit 8, nI_mul, nI_add, in_nI (by omega) (by omega), gd_true, h1.1.1.2.2.1, nI_clamp (by omega), Nat.mul_comm Y 8, h1.row0 ok (by omega) hc]
end XLN
