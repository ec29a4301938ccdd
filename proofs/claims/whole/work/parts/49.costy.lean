/-! the reference's years -/
def Ko (S : Nat → Prop) (σ σ1 : bl_St) : Prop := σ1.2.2 = σ.2.2 ∧ ∀ i, ¬ S i → bl_I σ1 i = bl_I σ i ∧ bl_J σ1 i = bl_J σ i
theorem Ko.rf (S : Nat → Prop) (σ : bl_St) : Ko S σ σ := ⟨rfl, fun _ _ => ⟨rfl, rfl⟩⟩
theorem Ko.tr {S : Nat → Prop} {σ σ1 σ2 : bl_St} (h : Ko S σ σ1) (h2 : Ko S σ1 σ2) : Ko S σ σ2 := ⟨h2.1.trans h.1, fun j hj => ⟨(h2.2 j hj).1.trans (h.2 j hj).1, (h2.2 j hj).2.trans (h.2 j hj).2⟩⟩
theorem Ko.mono {S S2 : Nat → Prop} {σ σ1 : bl_St} (h : Ko S σ σ1) (hs : ∀ i, S i → S2 i) : Ko S2 σ σ1 := ⟨h.1, fun j hj => h.2 j (fun z => hj (hs j z))⟩
theorem Ko.pJ {S : Nat → Prop} {σ σ1 : bl_St} (h : Ko S σ σ1) {i : Nat} (hi : S i) (k : Nat) (x : Int64) : Ko S σ (bl_pJ σ1 i k x) :=
  ⟨h.1, fun j hj => ⟨(h.2 j hj).1, (bl_u_ne (fun z => hj (by rw [z]; exact hi))).trans (h.2 j hj).2⟩⟩
theorem Ko.pI {S : Nat → Prop} {σ σ1 : bl_St} (h : Ko S σ σ1) {i : Nat} (hi : S i) (k : Nat) (x : Int32) : Ko S σ (bl_pI σ1 i k x) :=
  ⟨h.1, fun j hj => ⟨(bl_u_ne (fun z => hj (by rw [z]; exact hi))).trans (h.2 j hj).1, (h.2 j hj).2⟩⟩
theorem Jo.ko {S : Nat → Prop} {σ σ1 : bl_St} (h : Jo S σ σ1) : Ko S σ σ1 := ⟨h.2.1, fun j hj => ⟨by show σ1.1 j = σ.1 j; rw [h.1], h.2.2 j hj⟩⟩
theorem CM.ko {S : Nat → Prop} {σ σ1 : bl_St} {v : tm_V} {rl lm : Nat} {w : Bool} {many : Nat} (C : CM σ v rl lm w many) (h : Ko S σ σ1) (h1 : ¬ S 139) (h2 : ¬ S 140) : CM σ1 v rl lm w many := by
  have e1 := (h.2 139 h1).1
  have e2 := (h.2 140 h2).1
  have e3 : bl_R σ1 = bl_R σ := h.1
  unfold CM TM at *
  rw [e1, e2, e3]
  exact C
theorem I_pI_self (σ : bl_St) (i k : Nat) (x : Int32) : bl_I (bl_pI σ i k x) i k = x := by
  show bl_u σ.1 i k x i k = x
  simp [bl_u]
theorem I_pI_ne {σ : bl_St} {i k j : Nat} {x : Int32} (h : j ≠ k) : bl_I (bl_pI σ i k x) i j = bl_I σ i j := by
  show bl_u σ.1 i k x i j = σ.1 i j
  simp [bl_u, h]
theorem I_pI_o {σ : bl_St} {i k i2 : Nat} {x : Int32} (h : i2 ≠ i) : bl_I (bl_pI σ i k x) i2 = bl_I σ i2 := bl_u_ne h
/-- whether a guard is bought -/
def cGd (v : tm_V) (w : Bool) (rl lm : Nat) (gd : Bool) (cars hu : Nat) (L c : Nat) : Nat :=
  if gd = true ∧ tC v (5 * c + 4) * 1000 + cAh v w rl lm (cCo v w rl lm gd cars hu L) c (tH v * cars) 0 1 < cAh v w rl lm (cCo v w rl lm gd cars hu L) c (tH v * cars) 0 0 then 1 else 0
theorem nz_lt {g : Nat} (h : g < 2) : bl_nz (nI g) = nI g := by
  rcases (show g = 0 ∨ g = 1 by omega) with rfl | rfl <;> decide
section CMY
variable {v : tm_V} {rl lm : Nat} {w gd : Bool} {cars hu : Nat}
abbrev gI (gd : Bool) : Int32 := if gd = true then 1 else 0
/-- one class of a year -/
theorem m_ly1 {σ : bl_St} {Y y c : Nat} (C : CM σ v rl lm w (tH v * cars)) (ok : TOk v) (hK : 0 < tK v) (hrl : rl ≤ 3) (hlm : rl = 3 → lm ≤ 999) (hca : cars ≤ 2) (hhu : hu ≤ 50) (hgd : gd = true → hu = 0) (hy : 1 ≤ y) (hy20 : y ≤ 20) (hc : c < tN v) (hV : ∀ d, d < tN v → bl_J σ 144 (8 * (y - 1) + d) = lN (cCo v w rl lm gd cars hu (y - 1) d)) (k32 : bl_St → Nat → Int32 → Int32 → Int32 → Int32 → Int32 → Option (Unit × bl_St)) (k41 : bl_St → Nat → Int32 → Int32 → Int32 → Int32 → Int32 → Int32 → Option (Unit × bl_St)) :
    ∃ σ1, b_X10_laysYears_41 k32 k41 σ 139 (nI Y) (gI gd) (nI cars) (nI hu) (nI y) (nI c) = k41 (bl_pJ (bl_pI σ1 145 (8 * y + c) (nI (cGd v w rl lm gd cars hu (y - 1) c))) 144 (8 * y + c) (lN (cCo v w rl lm gd cars hu y c))) 139 (nI Y) (gI gd) (nI cars) (nI hu) (nI y) (nI (c + 1)) ∧ Jo (fun i => i = 146) σ σ1 := by
  have h8 := ok.n8
  have h3 := ok.2.2.2.1.2
  have h4 : tH v * cars ≤ 6 := Nat.le_trans (Nat.mul_le_mul h3 hca) (by decide)
  have hcb := fun d hd => cCo_le ok hK w rl lm gd cars hu hca (y - 1) d hd
  obtain ⟨σ1, e1, j1, l1⟩ := m_laysChances C ok hK hrl hlm h4 hy hy20 hc hV (fun d hd => by have := hcb d hd; omega)
  have D : CM σ1 v rl lm w (tH v * cars) := C.jo j1
  refine ⟨σ1, ?_, j1⟩
  have hl0 := l1 0 (Nat.zero_le _) 0 0 (by decide) (by decide)
  have hl1 := l1 0 (Nat.zero_le _) 0 1 (by decide) (by decide)
  simp only [Nat.sub_zero] at hl0 hl1
  have ha0 := cAh_le ok hK w rl lm hc hcb (tH v * cars) 0 0
  have ha1 := cAh_le ok hK w rl lm hc hcb (tH v * cars) 0 1
  have hp := (ok.2.1 c hc).1
  have hfee := (ok.2.1 c hc).2.2
  have ecost : cCo v w rl lm gd cars hu y c = if gd = true ∧ tC v (5 * c + 4) * 1000 + cAh v w rl lm (cCo v w rl lm gd cars hu (y - 1)) c (tH v * cars) 0 1 < cAh v w rl lm (cCo v w rl lm gd cars hu (y - 1)) c (tH v * cars) 0 0 then cPr v cars hu c + (tC v (5 * c + 4) * 1000 + cAh v w rl lm (cCo v w rl lm gd cars hu (y - 1)) c (tH v * cars) 0 1) else cPr v cars hu c + cAh v w rl lm (cCo v w rl lm gd cars hu (y - 1)) c (tH v * cars) 0 0 := by
    obtain ⟨y', rfl⟩ : ∃ y', y = y' + 1 := ⟨y - 1, by omega⟩
    rfl
  unfold cGd
  rw [ecost]
  generalize hA0 : cAh v w rl lm (cCo v w rl lm gd cars hu (y - 1)) c (tH v * cars) 0 0 = A0 at *
  generalize hA1 : cAh v w rl lm (cCo v w rl lm gd cars hu (y - 1)) c (tH v * cars) 0 1 = A1 at *
  have hq : cars * tC v (5 * c) ≤ 2 * 999 := Nat.mul_le_mul hca hp
  have hq2 : cars * tC v (5 * c) * 1000 * hu ≤ 1998000 * 50 := Nat.mul_le_mul (by omega) hhu
  have e0 : (bl_I σ (bl_R σ 139 1) 0) = nI (tN v) := by rw [C.1.1]; exact C.2.1.1.1
  unfold b_X10_laysYears_41
  rw [e0, if_neg (nI_ge (by omega) (by omega)), e1, bd_some, show (0 : Int32) = nI 0 from rfl, m_ofClass D.1.1 D.2.1 ok hc (by decide), bd_some, let_eq, let_eq, show (4 : Int32) = nI 4 from rfl, m_ofClass D.1.1 D.2.1 ok hc (by decide), bd_some, let_eq, D.1.2.2.2]
  rw [Nat.add_zero, nI_l (by omega), nI_l (show tC v (5 * c) < 2 ^ 31 by omega), nI_l (show hu < 2 ^ 31 by omega), nI_l (show tC v (5 * c + 4) < 2 ^ 31 by omega)]
  rw [show bl_J σ1 146 0 = lN A0 from hl0, show bl_J σ1 146 1 = lN A1 from hl1]
  simp only [lN_lit 1000, lN_lit 100, lN_mul, lN_add]
  have hd : cars * tC v (5 * c) * 1000 * hu / 100 ≤ cars * tC v (5 * c) * 1000 := Nat.div_le_of_le_mul (Nat.le_trans (Nat.mul_le_mul_left _ hhu) (by omega))
  rw [lN_div (by omega) (by omega), lN_sub hd, lN_add]
  unfold cPr
  have hP1 : cars * tC v (5 * c) * 1000 ≤ 1998000 := by omega
  obtain ⟨P, hP⟩ : ∃ P, P = cars * tC v (5 * c) * 1000 := ⟨_, rfl⟩
  simp only [← hP] at hd hP1 hq2 ⊢
  clear hq hP
  have key : ∀ (f : Nat) (x : Nat), f < 2 → (if f = 1 then P + tC v (5 * c + 4) * 1000 + A1 else P - P * hu / 100 + A0) = x → b_X10_laysYears_141 k41 σ1 139 (nI Y) (gI gd) (nI cars) (nI hu) (nI y) (nI c) (lN (P - P * hu / 100 + A0)) (lN (P + tC v (5 * c + 4) * 1000 + A1)) (nI f) = k41 (bl_pJ (bl_pI σ1 145 (8 * y + c) (nI f)) 144 (8 * y + c) (lN x)) 139 (nI Y) (gI gd) (nI cars) (nI hu) (nI y) (nI (c + 1)) := by
    intro f x hf hx
    unfold b_X10_laysYears_141
    rw [nI_lit 8, nI_mul, nI_add, in_nI (by omega) (by omega), gd_true, let_eq, nI_clamp (by omega), D.1.2.2.1, nz_lt hf]
    have e7 : bl_R (bl_pI σ1 145 (8 * y + c) (nI f)) 139 7 = 144 := D.1.2.1
    rw [e7]
    unfold b_X10_laysYears_182
    rw [in_nI (by omega) (by omega), gd_true, gd_true, let_eq, let_eq, let_eq, let_eq, nI_clamp (by omega), nI_1]
    rcases (show f = 0 ∨ f = 1 by omega) with rfl | rfl
    · rw [if_pos (by rfl), ← hx]; rfl
    · rw [if_neg (by decide), ← hx]; rfl
  cases gd with
  | false =>
    rw [if_pos (by decide)]
    unfold b_X10_laysYears_140
    rw [show (0 : Int32) = nI 0 from rfl, key 0 _ (by decide) rfl]
    simp
  | true =>
    have hu0 := hgd rfl
    subst hu0
    rw [if_neg (by decide)]
    have e00 : P * 0 / 100 = 0 := by simp
    by_cases hx : tC v (5 * c + 4) * 1000 + A1 < A0
    · rw [if_neg (show ¬ lN (P - P * 0 / 100 + A0) ≤ lN (P + tC v (5 * c + 4) * 1000 + A1) from fun z => absurd ((lN_leI (by omega) (by omega)).mp z) (by omega)), show (1 : Int32) = nI 1 from rfl, key 1 _ (by decide) rfl]
      simp only [hx, and_self, if_true]
      rw [e00]
      simp [Nat.add_assoc]
    · rw [if_pos ((lN_leI (by omega) (by omega)).mpr (by omega))]
      unfold b_X10_laysYears_140
      rw [show (0 : Int32) = nI 0 from rfl, key 0 _ (by decide) rfl]
      simp [hx]
theorem m_ly41 {Y y : Nat} (ok : TOk v) (hK : 0 < tK v) (hrl : rl ≤ 3) (hlm : rl = 3 → lm ≤ 999) (hca : cars ≤ 2) (hhu : hu ≤ 50) (hgd : gd = true → hu = 0) (hy : 1 ≤ y) (hy20 : y ≤ 20) (k32 : bl_St → Nat → Int32 → Int32 → Int32 → Int32 → Int32 → Option (Unit × bl_St)) :
    ∀ (r c n : Nat) (σ : bl_St), c + r = tN v → r < n → CM σ v rl lm w (tH v * cars) → (∀ d, d < tN v → bl_J σ 144 (8 * (y - 1) + d) = lN (cCo v w rl lm gd cars hu (y - 1) d)) → (∀ d, d < c → bl_J σ 144 (8 * y + d) = lN (cCo v w rl lm gd cars hu y d) ∧ bl_I σ 145 (8 * y + d) = nI (cGd v w rl lm gd cars hu (y - 1) d)) →
    ∃ σ1, bl_fx (fun _ _ _ _ _ _ _ _ => none) (b_X10_laysYears_41 k32) n σ 139 (nI Y) (gI gd) (nI cars) (nI hu) (nI y) (nI c) = k32 σ1 139 (nI Y) (gI gd) (nI cars) (nI hu) (nI (y + 1)) ∧ Ko (fun i => 144 ≤ i ∧ i ≤ 146) σ σ1 ∧ (∀ d, d < tN v → bl_J σ1 144 (8 * y + d) = lN (cCo v w rl lm gd cars hu y d) ∧ bl_I σ1 145 (8 * y + d) = nI (cGd v w rl lm gd cars hu (y - 1) d)) ∧ ∀ j, j < 8 * y → bl_J σ1 144 j = bl_J σ 144 j ∧ bl_I σ1 145 j = bl_I σ 145 j := by
  have h8 := ok.n8
  intro r
  induction r with
  | zero =>
    intro c n σ hc hn C hV hD
    obtain ⟨n, rfl⟩ : ∃ m, n = m + 1 := ⟨n - 1, by omega⟩
    have hc : c = tN v := by omega
    subst hc
    refine ⟨σ, ?_, Ko.rf _ σ, hD, fun j _ => ⟨rfl, rfl⟩⟩
    have e0 : (bl_I σ (bl_R σ 139 1) 0) = nI (tN v) := by rw [C.1.1]; exact C.2.1.1.1
    rw [fx_succ]
    unfold b_X10_laysYears_41
    rw [e0, if_pos (nI_le (Nat.le_refl _) (by omega)), let_eq, nI_1]
  | succ r ih =>
    intro c n σ hc hn C hV hD
    obtain ⟨n, rfl⟩ : ∃ m, n = m + 1 := ⟨n - 1, by omega⟩
    obtain ⟨σa, ea, ja⟩ := m_ly1 (Y := Y) C ok hK hrl hlm hca hhu hgd hy hy20 (show c < tN v by omega) hV k32 (bl_fx (fun _ _ _ _ _ _ _ _ => none) (b_X10_laysYears_41 k32) n)
    have kb : Ko (fun i => 144 ≤ i ∧ i ≤ 146) σ (bl_pJ (bl_pI σa 145 (8 * y + c) (nI (cGd v w rl lm gd cars hu (y - 1) c))) 144 (8 * y + c) (lN (cCo v w rl lm gd cars hu y c))) := ((ja.ko.mono (fun i hi => by omega)).pI (by decide) _ _).pJ (by decide) _ _
    have J144 : bl_J σa 144 = bl_J σ 144 := ja.2.2 144 (by decide)
    have I145 : bl_I σa 145 = bl_I σ 145 := by show σa.1 145 = σ.1 145; rw [ja.1]
    have A1 : ∀ j, j ≠ 8 * y + c → bl_J (bl_pJ (bl_pI σa 145 (8 * y + c) (nI (cGd v w rl lm gd cars hu (y - 1) c))) 144 (8 * y + c) (lN (cCo v w rl lm gd cars hu y c))) 144 j = bl_J σ 144 j := fun j hj => by
      rw [J_pJ_ne hj, ← J144]
      rfl
    have A2 : ∀ j, j ≠ 8 * y + c → bl_I (bl_pJ (bl_pI σa 145 (8 * y + c) (nI (cGd v w rl lm gd cars hu (y - 1) c))) 144 (8 * y + c) (lN (cCo v w rl lm gd cars hu y c))) 145 j = bl_I σ 145 j := fun j hj => by
      show bl_I (bl_pI σa 145 (8 * y + c) _) 145 j = _
      rw [I_pI_ne hj, I145]
    obtain ⟨σ1, e1, k1, f1, o1⟩ := ih (c + 1) n _ (by omega) (by omega) (C.ko kb (by omega) (by omega)) (fun d hd => by rw [A1 _ (by omega)]; exact hV d hd) (fun d hd => by
      by_cases hdc : d = c
      · subst hdc
        refine ⟨J_pJ_self _ _ _ _, ?_⟩
        show bl_I (bl_pI σa 145 (8 * y + d) _) 145 (8 * y + d) = _
        rw [I_pI_self]
      · rw [A1 _ (by omega), A2 _ (by omega)]
        exact hD d (by omega))
    refine ⟨σ1, ?_, kb.tr k1, f1, fun j hj => ⟨(o1 j hj).1.trans (A1 j (by omega)), (o1 j hj).2.trans (A2 j (by omega))⟩⟩
    rw [fx_succ, ea]
    exact e1
theorem m_ly32 {Y : Nat} (ok : TOk v) (hK : 0 < tK v) (hrl : rl ≤ 3) (hlm : rl = 3 → lm ≤ 999) (hca : cars ≤ 2) (hhu : hu ≤ 50) (hgd : gd = true → hu = 0) (hY : Y ≤ 20) :
    ∀ (r y n : Nat) (σ : bl_St), y + r = Y + 1 → 1 ≤ y → r < n → CM σ v rl lm w (tH v * cars) → (∀ z, z < y → ∀ d, d < tN v → bl_J σ 144 (8 * z + d) = lN (cCo v w rl lm gd cars hu z d) ∧ (1 ≤ z → bl_I σ 145 (8 * z + d) = nI (cGd v w rl lm gd cars hu (z - 1) d))) →
    ∃ σ1, bl_fx (fun _ _ _ _ _ _ _ => none) (b_X10_laysYears_32) n σ 139 (nI Y) (gI gd) (nI cars) (nI hu) (nI y) = some ((), σ1) ∧ Ko (fun i => 144 ≤ i ∧ i ≤ 146) σ σ1 ∧ (∀ z, z ≤ Y → ∀ d, d < tN v → bl_J σ1 144 (8 * z + d) = lN (cCo v w rl lm gd cars hu z d) ∧ (1 ≤ z → bl_I σ1 145 (8 * z + d) = nI (cGd v w rl lm gd cars hu (z - 1) d))) := by
  have h8 := ok.n8
  intro r
  induction r with
  | zero =>
    intro y n σ hy hy1 hn C hD
    obtain ⟨n, rfl⟩ : ∃ m, n = m + 1 := ⟨n - 1, by omega⟩
    refine ⟨σ, ?_, Ko.rf _ σ, fun z hz => hD z (by omega)⟩
    rw [fx_succ]
    show (if nI Y < nI y then _ else _) = _
    rw [if_pos (nI_lt (by omega) (by omega))]
  | succ r ih =>
    intro y n σ hy hy1 hn C hD
    obtain ⟨n, rfl⟩ : ∃ m, n = m + 1 := ⟨n - 1, by omega⟩
    obtain ⟨σa, ea, ka, fa, oa⟩ := m_ly41 (Y := Y) ok hK hrl hlm hca hhu hgd hy1 (show y ≤ 20 by omega) (bl_fx (fun _ _ _ _ _ _ _ => none) (b_X10_laysYears_32) n) (tN v) 0 bl_fu σ (by omega) (by unfold bl_fu; omega) C (fun d hd => (hD (y - 1) (by omega) d hd).1) (fun d hd => absurd hd (Nat.not_lt_zero d))
    obtain ⟨σ1, e1, k1, f1⟩ := ih (y + 1) n σa (by omega) (by omega) (by omega) (C.ko ka (by omega) (by omega)) (fun z hz d hd => by
      by_cases hzy : z = y
      · subst hzy
        exact ⟨(fa d hd).1, fun _ => (fa d hd).2⟩
      · rw [(oa (8 * z + d) (by omega)).1, (oa (8 * z + d) (by omega)).2]
        exact hD z (by omega) d hd)
    refine ⟨σ1, ?_, ka.tr k1, f1⟩
    rw [fx_succ]
    show (if nI Y < nI y then _ else _) = _
    rw [if_neg (nI_nlt (by omega) (by omega))]
    exact ea.trans e1
theorem m_ly8 : ∀ (r q n : Nat) (σ : bl_St) (a2 a4 a5 a1 : Int32), q + r = 8 → r < n → bl_R σ 139 7 = 144 → (∀ d, d < q → bl_J σ 144 d = 0) → ∃ σ1, bl_fx (fun _ _ _ _ _ _ _ => none) (b_X10_laysYears_8) n σ 139 a1 a2 a4 a5 (nI q) = bl_fx (fun _ _ _ _ _ _ _ => none) (b_X10_laysYears_32) bl_fu σ1 139 a1 a2 a4 a5 1 ∧ Jo (fun i => i = 144) σ σ1 ∧ ∀ d, d < 8 → bl_J σ1 144 d = 0 := by
  intro r
  induction r with
  | zero =>
    intro q n σ a2 a4 a5 a1 hq hn hR hD
    obtain ⟨n, rfl⟩ : ∃ m, n = m + 1 := ⟨n - 1, by omega⟩
    have hq : q = 8 := by omega
    subst hq
    refine ⟨σ, ?_, Jo.rf _ σ, hD⟩
    rw [fx_succ]
    show (if (8 : Int32) ≤ nI 8 then _ else _) = _
    rw [if_pos (by decide)]
  | succ r ih =>
    intro q n σ a2 a4 a5 a1 hq hn hR hD
    obtain ⟨n, rfl⟩ : ∃ m, n = m + 1 := ⟨n - 1, by omega⟩
    obtain ⟨σ1, e1, j1, f1⟩ := ih (q + 1) n (bl_pJ σ 144 q 0) a2 a4 a5 a1 (by omega) (by omega) hR (fun d hd => by
      by_cases hdq : d = q
      · subst hdq; exact J_pJ_self _ _ _ _
      · rw [J_pJ_ne hdq]; exact hD d (by omega))
    refine ⟨σ1, ?_, ((Jo.rf (fun i => i = 144) σ).pJ rfl q 0).tr j1, f1⟩
    rw [fx_succ]
    unfold b_X10_laysYears_8
    rw [if_neg (show ¬ (8 : Int32) ≤ nI q from nI_ge (a := q) (b := 8) (by omega) (by decide)), in_nI (by omega) (by omega), gd_true, let_eq, let_eq, hR, nI_clamp (by omega), nI_1]
    exact e1
/-- the reference's years, all -/
theorem m_laysYears {σ : bl_St} {Y : Nat} (hR : bl_R σ 139 1 = 140 ∧ bl_R σ 139 7 = 144 ∧ bl_R σ 139 8 = 145 ∧ bl_R σ 139 9 = 146) (hT : TM σ 140 0 v) (h11 : bl_I σ 139 11 = nI rl) (h12 : bl_I σ 139 12 = nI lm) (h13 : bl_I σ 139 13 = (if w = true then 1 else 0)) (ok : TOk v) (hK : 0 < tK v) (hrl : rl ≤ 3) (hlm : rl = 3 → lm ≤ 999) (hca : cars ≤ 2) (hhu : hu ≤ 50) (hgd : gd = true → hu = 0) (hY : Y ≤ 20) :
    ∃ σ1, f_X10_laysYears σ 139 (nI Y) (gI gd) (nI (tH v * cars)) (nI cars) (nI hu) = some ((), σ1) ∧ Ko (fun i => i = 139 ∨ (144 ≤ i ∧ i ≤ 146)) σ σ1 ∧ CM σ1 v rl lm w (tH v * cars) ∧ (∀ k, k ≠ 10 → bl_I σ1 139 k = bl_I σ 139 k) ∧ (∀ z, z ≤ Y → ∀ d, d < tN v → bl_J σ1 144 (8 * z + d) = lN (cCo v w rl lm gd cars hu z d) ∧ (1 ≤ z → bl_I σ1 145 (8 * z + d) = nI (cGd v w rl lm gd cars hu (z - 1) d))) := by
  have h8 := ok.n8
  have C0 : CM (bl_pI σ 139 10 (nI (tH v * cars))) v rl lm w (tH v * cars) := by
    refine ⟨hR, ?_, ?_, ?_, ?_, I_pI_self _ _ _ _⟩
    · unfold TM
      rw [I_pI_o (by decide)]
      exact hT
    · rw [I_pI_ne (by decide)]; exact h11
    · rw [I_pI_ne (by decide)]; exact h12
    · rw [I_pI_ne (by decide)]; exact h13
  obtain ⟨σa, ea, ja, fa⟩ := m_ly8 8 0 bl_fu (bl_pI σ 139 10 (nI (tH v * cars))) (gI gd) (nI cars) (nI hu) (nI Y) (by omega) (by unfold bl_fu; omega) hR.2.1 (fun d hd => absurd hd (Nat.not_lt_zero d))
  have Ca := C0.jo ja
  obtain ⟨σ1, e1, k1, f1⟩ := m_ly32 (w := w) (rl := rl) (lm := lm) (gd := gd) (cars := cars) (hu := hu) ok hK hrl hlm hca hhu hgd hY Y 1 bl_fu σa (by omega) (by decide) (by unfold bl_fu; omega) Ca (fun z hz d hd => by
    have hz : z = 0 := by omega
    subst hz
    refine ⟨?_, fun h => absurd h (by decide)⟩
    rw [show 8 * 0 + d = d by omega, fa d (by omega)]
    rfl)
  have kk : Ko (fun i => i = 139 ∨ (144 ≤ i ∧ i ≤ 146)) σ σa := ((Ko.rf (fun i => i = 139 ∨ (144 ≤ i ∧ i ≤ 146)) σ).pI (Or.inl rfl) 10 (nI (tH v * cars))).tr (ja.ko.mono (fun i hi => by omega))
  refine ⟨σ1, ?_, kk.tr (k1.mono (fun i hi => Or.inr hi)), Ca.ko k1 (by omega) (by omega), fun k hk => ?_, f1⟩
  · unfold f_X10_laysYears
    rw [let_eq]
    exact ea.trans e1
  · rw [(k1.2 139 (by omega)).1]
    have : bl_I σa = bl_I (bl_pI σ 139 10 (nI (tH v * cars))) := ja.1
    rw [this, I_pI_ne hk]
end CMY
