/-! ===== costs in numbers ===== -/
/-- a loss of a sort, by what comes behind it: rule rl, limit lm -/
def cL (v : tm_V) (rl lm s still told : Nat) : Nat :=
  if rl = 0 then min (tP v s * 1000 + told) (tS v (2 * s) * 1000 + still)
  else if rl = 1 then tP v s * 1000 + told
  else if rl = 2 then tS v (2 * s) * 1000 + still
  else if lm < tS v (2 * s) then tP v s * 1000 + told else tS v (2 * s) * 1000 + still
def cSum (v : tm_V) (rl lm still told : Nat) : Nat → Nat
  | 0 => 0
  | s + 1 => cSum v rl lm still told s + tS v (2 * s + 1) * cL v rl lm s still told
def cMax (v : tm_V) (rl lm still told base : Nat) : Nat → Nat
  | 0 => base
  | s + 1 => max (cMax v rl lm still told base s) (cL v rl lm s still told)
def cCh (v : tm_V) (w : Bool) (rl lm still told : Nat) : Nat :=
  if w = true then (if tO v = 0 then still else cMax v rl lm still told (if tO v = 12 then 0 else still) (tK v))
  else ((12 - tO v) * tA v * still + tO v * cSum v rl lm still told (tK v)) / (12 * tA v)
def cAh (v : tm_V) (w : Bool) (rl lm : Nat) (V : Nat → Nat) (c : Nat) : Nat → Nat → Nat → Nat
  | 0, t, _ => V (tB v c t)
  | r + 1, t, g => cCh v w rl lm (cAh v w rl lm V c r t g) (cAh v w rl lm V c r (if g = 1 then t else min 2 (t + 1)) 0)
def cPr (v : tm_V) (cars hu c : Nat) : Nat := cars * tC v (5 * c) * 1000 - cars * tC v (5 * c) * 1000 * hu / 100
/-- costs with years to go; gd: guards are sold -/
def cCo (v : tm_V) (w : Bool) (rl lm : Nat) (gd : Bool) (cars hu : Nat) : Nat → Nat → Nat
  | 0, _ => 0
  | L + 1, c =>
    if gd = true ∧ tC v (5 * c + 4) * 1000 + cAh v w rl lm (cCo v w rl lm gd cars hu L) c (tH v * cars) 0 1 < cAh v w rl lm (cCo v w rl lm gd cars hu L) c (tH v * cars) 0 0
    then cPr v cars hu c + (tC v (5 * c + 4) * 1000 + cAh v w rl lm (cCo v w rl lm gd cars hu L) c (tH v * cars) 0 1)
    else cPr v cars hu c + cAh v w rl lm (cCo v w rl lm gd cars hu L) c (tH v * cars) 0 0
section CST
variable {v : tm_V}
theorem tP_le (v : tm_V) (s : Nat) : tP v s ≤ tS v (2 * s) := Nat.min_le_right _ _
theorem cL_le (ok : TOk v) (rl lm : Nat) {s still told B : Nat} (hs : s < tK v) (h1 : still ≤ B) (h2 : told ≤ B) : cL v rl lm s still told ≤ 999000 + B := by
  have h3 := (ok.2.2.1 s hs).1.2
  have h4 := tP_le v s
  unfold cL
  split
  · exact Nat.le_trans (Nat.min_le_right _ _) (by omega)
  · split
    · omega
    · split
      · omega
      · split <;> omega
theorem cSum_le (ok : TOk v) (rl lm : Nat) {still told B : Nat} (h1 : still ≤ B) (h2 : told ≤ B) : ∀ s, s ≤ tK v → cSum v rl lm still told s ≤ tm_A v s * (999000 + B)
  | 0, _ => Nat.zero_le _
  | s + 1, hs => by
    have h3 := cSum_le ok rl lm h1 h2 s (by omega)
    have h4 := Nat.mul_le_mul_left (tS v (2 * s + 1)) (cL_le ok rl lm (s := s) (by omega) h1 h2)
    show cSum v rl lm still told s + tS v (2 * s + 1) * cL v rl lm s still told ≤ (tm_A v s + tS v (2 * s + 1)) * (999000 + B)
    rw [Nat.add_mul]
    omega
theorem cMax_le (ok : TOk v) (rl lm : Nat) {still told B base : Nat} (h0 : base ≤ 999000 + B) (h1 : still ≤ B) (h2 : told ≤ B) : ∀ s, s ≤ tK v → cMax v rl lm still told base s ≤ 999000 + B
  | 0, _ => h0
  | s + 1, hs => Nat.max_le.mpr ⟨cMax_le ok rl lm h0 h1 h2 s (by omega), cL_le ok rl lm (by omega) h1 h2⟩
theorem cCh_le (ok : TOk v) (hk : 0 < tK v) (w : Bool) (rl lm : Nat) {still told B : Nat} (h1 : still ≤ B) (h2 : told ≤ B) : cCh v w rl lm still told ≤ 999000 + B := by
  have hA : 0 < tA v := Nat.lt_of_lt_of_le hk (tm_A_ge ok (tK v) (Nat.le_refl _))
  have h12 := ok.2.2.2.2.1
  unfold cCh
  split
  · split
    · omega
    · exact cMax_le ok rl lm (by split <;> omega) h1 h2 _ (Nat.le_refl _)
  · have h3 := cSum_le ok rl lm h1 h2 (tK v) (Nat.le_refl _)
    apply Nat.div_le_of_le_mul
    have h4 : (12 - tO v) * tA v * still ≤ (12 - tO v) * tA v * (999000 + B) := Nat.mul_le_mul_left _ (by omega)
    have h5 : tO v * cSum v rl lm still told (tK v) ≤ tO v * (tA v * (999000 + B)) := Nat.mul_le_mul_left _ h3
    have h6 : (12 - tO v) * tA v * (999000 + B) + tO v * (tA v * (999000 + B)) = 12 * tA v * (999000 + B) := by
      rw [← Nat.mul_assoc, ← Nat.add_mul, ← Nat.add_mul]
      congr 2
      omega
    omega
theorem cAh_le (ok : TOk v) (hk : 0 < tK v) (w : Bool) (rl lm : Nat) {V : Nat → Nat} {c B : Nat} (hc : c < tN v) (hV : ∀ d, d < tN v → V d ≤ B) : ∀ r t g, cAh v w rl lm V c r t g ≤ 999000 * r + B
  | 0, t, g => by
    show V (tB v c t) ≤ _
    have := hV _ (tB_lt ok t hc)
    omega
  | r + 1, t, g => by
    have h1 := cAh_le ok hk w rl lm hc hV r t g
    have h2 := cAh_le ok hk w rl lm hc hV r (if g = 1 then t else min 2 (t + 1)) 0
    have h3 := cCh_le ok hk w rl lm h1 h2
    show cCh v w rl lm _ _ ≤ _
    omega
theorem cPr_le (ok : TOk v) (cars hu : Nat) {c : Nat} (hc : c < tN v) : cPr v cars hu c ≤ cars * 999000 := by
  have h1 := (ok.2.1 c hc).1
  have h2 : cars * tC v (5 * c) ≤ cars * 999 := Nat.mul_le_mul_left _ h1
  unfold cPr
  omega
theorem cCo_le (ok : TOk v) (hk : 0 < tK v) (w : Bool) (rl lm : Nat) (gd : Bool) (cars hu : Nat) (hcars : cars ≤ 2) : ∀ L c, c < tN v → cCo v w rl lm gd cars hu L c ≤ 8100000 * L
  | 0, c, _ => Nat.zero_le _
  | L + 1, c, hc => by
    have hV := fun d hd => cCo_le ok hk w rl lm gd cars hu hcars L d hd
    have h0 := cAh_le ok hk w rl lm hc hV (tH v * cars) 0 0
    have h3 := ok.2.2.2.1.2
    have h4 : tH v * cars ≤ 6 := Nat.le_trans (Nat.mul_le_mul h3 hcars) (by decide)
    have h5 := cPr_le ok cars hu hc
    have h6 : cars * 999000 ≤ 1998000 := by omega
    simp only [cCo]
    split
    · omega
    · omega
end CST
/-! the reference's chances -/
/-- what the reference's reckoning stands on -/
def CM (σ : bl_St) (v : tm_V) (rl lm : Nat) (w : Bool) (many : Nat) : Prop :=
  (bl_R σ 139 1 = 140 ∧ bl_R σ 139 7 = 144 ∧ bl_R σ 139 8 = 145 ∧ bl_R σ 139 9 = 146) ∧ TM σ 140 0 v ∧ bl_I σ 139 11 = nI rl ∧ bl_I σ 139 12 = nI lm ∧ bl_I σ 139 13 = (if w = true then 1 else 0) ∧ bl_I σ 139 10 = nI many
section CMS
variable {σ : bl_St} {v : tm_V} {rl lm : Nat} {w : Bool} {many k t g s st td : Nat}
theorem CM.pJ (h : CM σ v rl lm w many) (i j : Nat) (x : Int64) : CM (bl_pJ σ i j x) v rl lm w many := h
theorem m_slot (σ : bl_St) (k t g : Nat) : f_X10_slot σ (nI k) (nI t) (nI g) = some (nI (6 * k + 2 * t + g), σ) := by
  unfold f_X10_slot
  rw [nI_lit 6, nI_lit 2, nI_mul, nI_mul, nI_add, nI_add]
/-- where one stands behind a told loss -/
abbrev tn (t g : Nat) : Nat := if g = 1 then t else min 2 (t + 1)
theorem m_toldCost (C : CM σ v rl lm w many) (ok : TOk v) (hs : s < tK v) (hk : k < 6) (ht : t < 3) (hg : g < 2) (h : bl_J σ 146 (6 * (k + 1) + 2 * tn t g + 0) = lN td) : f_X10_toldCost σ 139 (nI s) (nI k) (nI t) (nI g) = some (lN (tP v s * 1000 + td), σ) := by
  have hp := tP_le v s
  have hs2 := (ok.2.2.1 s hs).1.2
  have key : ∀ q, q = tn t g → b_X10_toldCost_22 σ 139 (nI s) (nI k) (nI q) = some (lN (tP v s * 1000 + td), σ) := by
    intro q hq
    have hq2 : q < 3 := by rw [hq]; unfold tn; split <;> omega
    rw [← hq] at h
    unfold b_X10_toldCost_22
    rw [m_toldPays C.1.1 C.2.1 ok hs, bd_some, nI_1, show (0 : Int32) = nI 0 from rfl, m_slot, bd_some, in_nI (by omega) (by omega), gd_true, nI_clamp (by omega), C.1.2.2.2, h, nI_l (by omega), lN_lit 1000, lN_mul, lN_add]
  unfold f_X10_toldCost
  rcases (show g = 0 ∨ g = 1 by omega) with rfl | rfl
  · rw [if_neg (by decide)]
    by_cases h2 : 2 ≤ t
    · rw [nI_lit 2, if_pos (nI_le h2 (by omega))]
      exact key 2 (by show 2 = min 2 (t + 1); omega)
    · rw [nI_lit 2, if_neg (nI_ge (by omega) (by omega)), nI_1]
      exact key (t + 1) (by show t + 1 = min 2 (t + 1); omega)
  · rw [if_pos (by rfl)]
    exact key t rfl
theorem m_borneCost (C : CM σ v rl lm w many) (ok : TOk v) (hs : s < tK v) (hk : k < 6) (ht : t < 3) (hg : g < 2) (h : bl_J σ 146 (6 * (k + 1) + 2 * t + g) = lN st) : f_X10_borneCost σ 139 (nI s) (nI k) (nI t) (nI g) = some (lN (tS v (2 * s) * 1000 + st), σ) := by
  have hs2 := (ok.2.2.1 s hs).1.2
  unfold f_X10_borneCost
  rw [m_size C.1.1 C.2.1 ok hs, bd_some, nI_1, m_slot, bd_some, in_nI (by omega) (by omega), gd_true, nI_clamp (by omega), C.1.2.2.2, h, nI_l (by omega), lN_lit 1000, lN_mul, lN_add]
theorem m_lossCost (C : CM σ v rl lm w many) (ok : TOk v) (hrl : rl ≤ 3) (hlm : rl = 3 → lm ≤ 999) (hs : s < tK v) (hk : k < 6) (ht : t < 3) (hg : g < 2) (h : bl_J σ 146 (6 * (k + 1) + 2 * t + g) = lN st) (h' : bl_J σ 146 (6 * (k + 1) + 2 * tn t g + 0) = lN td) (b1 : st ≤ 2 ^ 40) (b2 : td ≤ 2 ^ 40) : f_X10_lossCost σ 139 (nI s) (nI k) (nI t) (nI g) = some (lN (cL v rl lm s st td), σ) := by
  have hp := tP_le v s
  have hs2 := (ok.2.2.1 s hs).1.2
  unfold f_X10_lossCost cL
  rw [m_toldCost C ok hs hk ht hg h', bd_some, m_borneCost C ok hs hk ht hg h, bd_some, C.2.2.1]
  rcases (show rl = 0 ∨ rl = 1 ∨ rl = 2 ∨ rl = 3 by omega) with rfl | rfl | rfl | rfl
  · rw [if_pos (by rfl), if_pos rfl]
    by_cases h2 : tS v (2 * s) * 1000 + st ≤ tP v s * 1000 + td
    · rw [if_pos ((lN_leI (by omega) (by omega)).mpr h2), Nat.min_eq_right h2]
      rfl
    · rw [if_neg (fun z => h2 ((lN_leI (by omega) (by omega)).mp z)), Nat.min_eq_left (by omega)]
      rfl
  · rfl
  · rfl
  · have hlm := hlm rfl
    rw [if_neg (show ¬ nI 3 = 0 by decide), if_neg (show ¬ nI 3 = 1 by decide), if_pos (show nI 3 = 3 from rfl), m_size C.1.1 C.2.1 ok hs, bd_some, C.2.2.2.1]
    show _ = some (lN (if lm < tS v (2 * s) then tP v s * 1000 + td else tS v (2 * s) * 1000 + st), σ)
    by_cases h2 : tS v (2 * s) ≤ lm
    · rw [if_pos (nI_le h2 (by omega)), if_neg (by omega)]
      rfl
    · rw [if_neg (nI_ge (by omega) (by omega)), if_pos (by omega)]
      rfl
theorem m_chSum (C : CM σ v rl lm w many) (ok : TOk v) (hrl : rl ≤ 3) (hlm : rl = 3 → lm ≤ 999) (hk : k < 6) (ht : t < 3) (hg : g < 2) (h : bl_J σ 146 (6 * (k + 1) + 2 * t + g) = lN st) (h' : bl_J σ 146 (6 * (k + 1) + 2 * tn t g + 0) = lN td) (b1 : st ≤ 2 ^ 40) (b2 : td ≤ 2 ^ 40) (hK : 0 < tK v) (acc : Nat) (hacc : acc ≤ 2 ^ 60) :
    ∀ (r s : Nat), s + r = tK v → ∀ n, r < n → bl_fx (fun _ _ _ _ _ _ _ _ => none) (b_X10_chanceCost_118) n σ 139 (nI k) (nI t) (nI g) (nI (tA v)) (lN (acc + tO v * cSum v rl lm st td s)) (nI s) = some (lN ((acc + tO v * cSum v rl lm st td (tK v)) / (12 * tA v)), σ) := by
  have h5 := ok.k5
  have hA1 : tK v ≤ tA v := tm_A_ge ok (tK v) (Nat.le_refl _)
  have hA2 : tA v ≤ 9 * tK v := tm_A_le ok (tK v) (Nat.le_refl _)
  have h12 := ok.2.2.2.2.1
  have e1 := C.2.1.1.2
  have e3 := C.2.1.2.1.2.1
  rw [Nat.zero_add] at e1 e3
  intro r
  induction r with
  | zero =>
    intro s hs n hn
    obtain ⟨n, rfl⟩ : ∃ m, n = m + 1 := ⟨n - 1, by omega⟩
    have hs : s = tK v := by omega
    subst hs
    have hb : tO v * cSum v rl lm st td (tK v) ≤ 12 * (45 * (999000 + 2 ^ 40)) := Nat.mul_le_mul h12 (Nat.le_trans (cSum_le ok rl lm b1 b2 _ (Nat.le_refl _)) (Nat.mul_le_mul_right _ (by show tA v ≤ 45; omega)))
    rw [fx_succ]
    unfold b_X10_chanceCost_118
    rw [C.1.1, e1, if_pos (nI_le (Nat.le_refl _) (by omega)), nI_lit 12, nI_mul, nI_l (by omega)]
    have hz : ¬ lN (12 * tA v) = 0 := fun z => by
      rw [show (0 : Int64) = lN 0 from rfl, lN_eqI (by omega) (by omega)] at z
      omega
    rw [gd_of (by simp [hz]), lN_div (by omega) (by omega)]
  | succ r ih =>
    intro s hs n hn
    obtain ⟨n, rfl⟩ : ∃ m, n = m + 1 := ⟨n - 1, by omega⟩
    have hw9 := (ok.2.2.1 s (by omega)).2.2
    have hb : tO v * tS v (2 * s + 1) ≤ 12 * 9 := Nat.mul_le_mul h12 hw9
    rw [fx_succ]
    unfold b_X10_chanceCost_118
    rw [C.1.1, e1, if_neg (nI_ge (by omega) (by omega)), m_weight C.1.1 C.2.1 ok (by omega), bd_some, m_lossCost C ok hrl hlm (by omega) hk ht hg h h' b1 b2, bd_some, let_eq, let_eq, e3, nI_mul, nI_l (by omega), lN_mul, lN_add, nI_1]
    have e : acc + tO v * cSum v rl lm st td s + tO v * tS v (2 * s + 1) * cL v rl lm s st td = acc + tO v * cSum v rl lm st td (s + 1) := by
      show _ = acc + tO v * (cSum v rl lm st td s + tS v (2 * s + 1) * cL v rl lm s st td)
      rw [Nat.mul_add, Nat.mul_assoc, Nat.add_assoc]
    rw [e]
    exact ih (s + 1) (by omega) n (by omega)
theorem m_greater (σ : bl_St) {a b : Nat} (ha : a < 2 ^ 63) (hb : b < 2 ^ 63) : f_X10_greater σ (lN a) (lN b) = some (lN (max a b), σ) := by
  unfold f_X10_greater
  by_cases h : a ≤ b
  · rw [if_pos ((lN_leI ha hb).mpr h), Nat.max_eq_right h]
  · rw [if_neg (fun z => h ((lN_leI ha hb).mp z)), Nat.max_eq_left (by omega)]
theorem m_chMax (C : CM σ v rl lm w many) (ok : TOk v) (hrl : rl ≤ 3) (hlm : rl = 3 → lm ≤ 999) (hk : k < 6) (ht : t < 3) (hg : g < 2) (h : bl_J σ 146 (6 * (k + 1) + 2 * t + g) = lN st) (h' : bl_J σ 146 (6 * (k + 1) + 2 * tn t g + 0) = lN td) (b1 : st ≤ 2 ^ 40) (b2 : td ≤ 2 ^ 40) (ho : 0 < tO v) (base : Nat) (hb : base ≤ 2 ^ 40) :
    ∀ (r s : Nat), s + r = tK v → ∀ n, r < n → bl_fx (fun _ _ _ _ _ _ _ => none) (b_X10_chanceCost_46) n σ 139 (nI k) (nI t) (nI g) (lN (cMax v rl lm st td base s)) (nI s) = some (lN (cMax v rl lm st td base (tK v)), σ) := by
  have h5 := ok.k5
  have h12 := ok.2.2.2.2.1
  have e1 := C.2.1.1.2
  have e3 := C.2.1.2.1.2.1
  rw [Nat.zero_add] at e1 e3
  intro r
  induction r with
  | zero =>
    intro s hs n hn
    obtain ⟨n, rfl⟩ : ∃ m, n = m + 1 := ⟨n - 1, by omega⟩
    have hs : s = tK v := by omega
    subst hs
    rw [fx_succ]
    unfold b_X10_chanceCost_46
    rw [C.1.1, e1, if_pos (nI_le (Nat.le_refl _) (by omega))]
  | succ r ih =>
    intro s hs n hn
    obtain ⟨n, rfl⟩ : ∃ m, n = m + 1 := ⟨n - 1, by omega⟩
    have q1 := cMax_le ok rl lm (base := base) (B := 2 ^ 40) (by omega) b1 b2 s (by omega)
    have q2 := cL_le ok rl lm (s := s) (by omega) b1 b2
    rw [fx_succ]
    unfold b_X10_chanceCost_46
    rw [C.1.1, e1, e3, if_neg (nI_ge (by omega) (by omega)), if_neg (nI_nle ho (by omega)), m_lossCost C ok hrl hlm (by omega) hk ht hg h h' b1 b2, bd_some, m_greater σ (by omega) (by omega), bd_some, let_eq, nI_1]
    exact ih (s + 1) (by omega) n (by omega)
end CMS
