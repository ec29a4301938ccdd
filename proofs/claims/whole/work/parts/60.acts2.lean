/-! acts on the terms -/
def vSetC (v : tm_V) (i y : Nat) : tm_V := (v.1, (fun j => if j = i then y else tC v j), v.2.2)
def vSetS (v : tm_V) (i y : Nat) : tm_V := (v.1, tC v, (fun j => if j = i then y else tS v j), v.2.2.2)
def vRule (v : tm_V) (k y : Nat) : tm_V := (v.1, tC v, tS v, ((if k = 0 then y else tH v), (if k = 1 then y else tO v), (if k = 2 then y else tW v)))
section TAC
variable {σ : bl_St} {v : tm_V} {t : Nat}
theorem TX.setC (h : TX σ t v) (i y : Nat) : TX (bl_pI σ (t + 1) i (nI y)) t (vSetC v i y) := by
  obtain ⟨r, ⟨a0, a1⟩, c1, c2, ⟨b0, b1, b2⟩⟩ := h
  have o0 : bl_I (bl_pI σ (t + 1) i (nI y)) t = bl_I σ t := I_pI_o (by omega)
  have o2 : bl_I (bl_pI σ (t + 1) i (nI y)) (t + 2) = bl_I σ (t + 2) := I_pI_o (by omega)
  have o3 : bl_I (bl_pI σ (t + 1) i (nI y)) (t + 3) = bl_I σ (t + 3) := I_pI_o (by omega)
  refine ⟨r, by rw [o0]; exact ⟨a0, a1⟩, fun j hj => ?_, by rw [o2]; exact c2, by rw [o3]; exact ⟨b0, b1, b2⟩⟩
  rw [I_pI]
  by_cases hji : j = i
  · rw [if_pos ⟨rfl, hji⟩]
    show _ = nI (if j = i then y else tC v j)
    rw [if_pos hji]
  · rw [if_neg (fun z => hji z.2), c1 j hj]
    show _ = nI (if j = i then y else tC v j)
    rw [if_neg hji]
theorem TX.setS (h : TX σ t v) (i y : Nat) : TX (bl_pI σ (t + 2) i (nI y)) t (vSetS v i y) := by
  obtain ⟨r, ⟨a0, a1⟩, c1, c2, ⟨b0, b1, b2⟩⟩ := h
  have o0 : bl_I (bl_pI σ (t + 2) i (nI y)) t = bl_I σ t := I_pI_o (by omega)
  have o2 : bl_I (bl_pI σ (t + 2) i (nI y)) (t + 1) = bl_I σ (t + 1) := I_pI_o (by omega)
  have o3 : bl_I (bl_pI σ (t + 2) i (nI y)) (t + 3) = bl_I σ (t + 3) := I_pI_o (by omega)
  refine ⟨r, by rw [o0]; exact ⟨a0, a1⟩, by rw [o2]; exact c1, fun j hj => ?_, by rw [o3]; exact ⟨b0, b1, b2⟩⟩
  rw [I_pI]
  by_cases hji : j = i
  · rw [if_pos ⟨rfl, hji⟩]
    show _ = nI (if j = i then y else tS v j)
    rw [if_pos hji]
  · rw [if_neg (fun z => hji z.2), c2 j hj]
    show _ = nI (if j = i then y else tS v j)
    rw [if_neg hji]
theorem TX.rule (h : TX σ t v) {k : Nat} (hk : k < 3) (y : Nat) : TX (bl_pI σ (t + 3) k (nI y)) t (vRule v k y) := by
  obtain ⟨r, ⟨a0, a1⟩, c1, c2, ⟨b0, b1, b2⟩⟩ := h
  have o0 : bl_I (bl_pI σ (t + 3) k (nI y)) t = bl_I σ t := I_pI_o (by omega)
  have o2 : bl_I (bl_pI σ (t + 3) k (nI y)) (t + 1) = bl_I σ (t + 1) := I_pI_o (by omega)
  have o3 : bl_I (bl_pI σ (t + 3) k (nI y)) (t + 2) = bl_I σ (t + 2) := I_pI_o (by omega)
  refine ⟨r, by rw [o0]; exact ⟨a0, a1⟩, by rw [o2]; exact c1, by rw [o3]; exact c2, ?_⟩
  rcases (show k = 0 ∨ k = 1 ∨ k = 2 by omega) with rfl | rfl | rfl <;> simp [I_pI, vRule, b0, b1, b2]
theorem TM.setC (h : TM σ 140 0 v) (ok : TOk v) {i : Nat} (hi : i < 40) (y : Nat) : TM (bl_pI σ 140 (5 + i) (nI y)) 140 0 (vSetC v i y) := by
  have h8 := ok.n8
  obtain ⟨⟨a0, a1⟩, ⟨b0, b1, b2⟩, c1, c2⟩ := h
  refine ⟨⟨by rw [I_pI_ne (by omega)]; exact a0, by rw [I_pI_ne (by omega)]; exact a1⟩, ⟨by rw [I_pI_ne (by omega)]; exact b0, by rw [I_pI_ne (by omega)]; exact b1, by rw [I_pI_ne (by omega)]; exact b2⟩, fun j hj => ?_, fun j hj => by rw [I_pI_ne (by omega)]; exact c2 j hj⟩
  rw [I_pI]
  by_cases hji : j = i
  · rw [if_pos ⟨rfl, by omega⟩]
    show _ = nI (if j = i then y else tC v j)
    rw [if_pos hji]
  · rw [if_neg (fun z => hji (by omega)), c1 j hj]
    show _ = nI (if j = i then y else tC v j)
    rw [if_neg hji]
theorem TM.setS (h : TM σ 140 0 v) (ok : TOk v) {i : Nat} (hi : i < 10) (y : Nat) : TM (bl_pI σ 140 (45 + i) (nI y)) 140 0 (vSetS v i y) := by
  have h8 := ok.n8
  obtain ⟨⟨a0, a1⟩, ⟨b0, b1, b2⟩, c1, c2⟩ := h
  refine ⟨⟨by rw [I_pI_ne (by omega)]; exact a0, by rw [I_pI_ne (by omega)]; exact a1⟩, ⟨by rw [I_pI_ne (by omega)]; exact b0, by rw [I_pI_ne (by omega)]; exact b1, by rw [I_pI_ne (by omega)]; exact b2⟩, fun j hj => by have hj : j < 5 * tN v := hj; rw [I_pI_ne (by omega)]; exact c1 j hj, fun j hj => ?_⟩
  rw [I_pI]
  by_cases hji : j = i
  · rw [if_pos ⟨rfl, by omega⟩]
    show _ = nI (if j = i then y else tS v j)
    rw [if_pos hji]
  · rw [if_neg (fun z => hji (by omega)), c2 j hj]
    show _ = nI (if j = i then y else tS v j)
    rw [if_neg hji]
theorem TM.rule (h : TM σ 140 0 v) {k : Nat} (hk : k < 3) (y : Nat) : TM (bl_pI σ 140 (2 + k) (nI y)) 140 0 (vRule v k y) := by
  obtain ⟨⟨a0, a1⟩, ⟨b0, b1, b2⟩, c1, c2⟩ := h
  refine ⟨⟨by rw [I_pI_ne (by omega)]; exact a0, by rw [I_pI_ne (by omega)]; exact a1⟩, ?_, fun j hj => by rw [I_pI_ne (by omega)]; exact c1 j hj, fun j hj => by rw [I_pI_ne (by omega)]; exact c2 j hj⟩
  simp only [Nat.zero_add] at b0 b1 b2
  rcases (show k = 0 ∨ k = 1 ∨ k = 2 by omega) with rfl | rfl | rfl <;> simp [I_pI, vRule, b0, b1, b2]
theorem LM.lo {l : lf_V} (h : LM σ 140 0 l) {q : Nat} (hq : q < 55) (x : Int32) : LM (bl_pI σ 140 q x) 140 0 l := h.cp (fun j h1 _ => by rw [I_pI_ne (by omega)])
theorem m_becomes {s : st_V} {n q old : Nat} (hm : MI σ s) (ok : SOk s n) (hq : q < 167) (h : bl_I σ 140 q = nI old) (x : Int32) : (nI old = x → f_X10_becomes σ 139 (nI q) x = some (-1, σ)) ∧ (nI old ≠ x → ∃ σa, f_X10_becomes σ 139 (nI q) x = some (nI old, bl_pI σa 140 q x) ∧ MI σa (pushed s)) := by
  refine ⟨fun e => ?_, fun e => ?_⟩
  · unfold f_X10_becomes
    rw [in_nI hq (by decide), gd_true, hm.1.1.1.1.1, nI_clamp (by omega), h, if_pos e]
  · obtain ⟨σa, ea, ma⟩ := m_kfu hm ok
    have ha : bl_I σa 140 q = nI old := by
      have f := (fr_X10_keeps (ho := fun i => decide (139 ≤ i)) σ 139 ((), σa))
      -- the row now is as it was: by the copies' own words
      obtain ⟨⟨hw, hd⟩, hT, hL, ⟨h5, hP⟩, h21, hB⟩ := hm
      obtain ⟨σ1, e1, R1, J1, I1, I9, I5, P1⟩ := m_keeps (n := n) hw.1.1.2.2.2 hw.1.1.1 h5 hP (fun j hj => (ok.2.2.1.2 j hj).1) hT ok.1 hL
      rw [ea] at e1
      cases e1
      rw [I1 140 (by decide) (by decide)]
      exact h
    refine ⟨σa, ?_, ma⟩
    unfold f_X10_becomes
    simp only [in_nI hq (show (167 : Nat) ≤ 2 ^ 31 by decide), gd_true]
    rw [hm.1.1.1.1.1, nI_clamp (by omega), h, if_neg e, ea, bd_some, let_eq, let_eq, ma.1.1.1.1.1, ha]
theorem tOk_setC (ok : TOk v) {c w y : Nat} (hc : c < tN v) (hw : w < 5) (hy : y ≤ (if w = 0 then 999 else if w = 4 then 99 else tN v - 1)) : TOk (vSetC v (5 * c + w) y) := by
  refine ⟨ok.1, fun d hd => ?_, ok.2.2⟩
  have hd : d < tN v := hd
  obtain ⟨h1, h2, h3⟩ := ok.2.1 d hd
  have go : ∀ e, tC (vSetC v (5 * c + w) y) e = if e = 5 * c + w then y else tC v e := fun e => rfl
  have hN8 := ok.n8
  refine ⟨?_, fun j hj => ?_, ?_⟩
  · rw [go]
    split
    · rw [if_pos (by omega)] at hy; exact hy
    · exact h1
  · rw [go]
    split
    · rw [if_neg (by omega), if_neg (by omega)] at hy
      show y < tN v
      omega
    · exact h2 j hj
  · rw [go]
    split
    · rw [if_neg (by omega), if_pos (by omega)] at hy; exact hy
    · exact h3
theorem tOk_setS (ok : TOk v) {c w y : Nat} (hw : w < 2) (hy : 1 ≤ y ∧ y ≤ (if w = 0 then 999 else 9)) : TOk (vSetS v (2 * c + w) y) := by
  refine ⟨ok.1, ok.2.1, fun d hd => ?_, ok.2.2.2⟩
  obtain ⟨h1, h2⟩ := ok.2.2.1 d hd
  have go : ∀ e, tS (vSetS v (2 * c + w) y) e = if e = 2 * c + w then y else tS v e := fun e => rfl
  refine ⟨?_, ?_⟩
  · rw [go]
    split
    · rw [if_pos (by omega)] at hy; exact hy
    · exact h1
  · rw [go]
    split
    · rw [if_neg (by omega)] at hy; exact hy
    · exact h2
abbrev rLo (k : Nat) : Nat := if k = 0 then 1 else 0
abbrev rHi (k : Nat) : Nat := if k = 0 then 3 else if k = 1 then 12 else 99
theorem tOk_rule (ok : TOk v) {k y : Nat} (hk : k < 3) (hy : rLo k ≤ y ∧ y ≤ rHi k) : TOk (vRule v k y) := by
  refine ⟨ok.1, ok.2.1, ok.2.2.1, ?_⟩
  obtain ⟨h1, h2, h3⟩ := ok.2.2.2
  rcases (show k = 0 ∨ k = 1 ∨ k = 2 by omega) with rfl | rfl | rfl
  · exact ⟨hy, h2, h3⟩
  · exact ⟨h1, hy.2, h3⟩
  · exact ⟨h1, h2, hy.2⟩
variable {s : st_V} {n : Nat}
/-- of ints: low and high -/
abbrev vR (x : Int32) (a b : Nat) : Prop := (a : Int) ≤ x.toInt ∧ x.toInt ≤ (b : Int)
theorem vR_of {x : Int32} {a b : Nat} (hb : b < 2 ^ 31) (h : vR x a b) : ∃ k, x = nI k ∧ a ≤ k ∧ k ≤ b := by
  obtain ⟨k, hk, rfl⟩ := vC_of (n := b + 1) (c := x) (by omega) ⟨by have := h.1; omega, by have := h.2; omega⟩
  have h1 := h.1
  rw [nI_toInt (by omega)] at h1
  exact ⟨k, rfl, by omega, by omega⟩
theorem m_inN (σ : bl_St) (x : Int32) {a b : Nat} (ha : a < 2 ^ 31) (hb : b < 2 ^ 31) : f_X10_in σ (Int32.toInt64 x) (lN a) (lN b) = some (if vR x a b then 1 else 0, σ) := by
  rw [m_in, i2l_toInt, lN_toI (by omega), lN_toI (by omega)]
theorem i2l_nI {a : Nat} (ha : a < 2 ^ 31) : Int32.toInt64 (nI a) = lN a := nI_l ha
/-- set -/
theorem op_set (ok : SOk s n) (c w x : Int32) : Both n s (fun σ => f_X9_set σ 0 c w x) (fun τ => f_X10_set τ 139 c w x) := by
  have h8 := ok.1.n8
  rcases (Classical.em (vC c (tN (sv s)))).symm with hc | hc
  · refine Both.same ok (-1) (fun σ hx => ⟨σ, ?_, hx⟩) (fun τ hm => ⟨τ, ?_, hm⟩)
    · show f_X9_set σ 0 c w x = _
      unfold f_X9_set
      rw [hx.1.1.1.2.2.1, x_hasClass hx.2.1 ok.1, bd_some, if_neg hc, if_pos rfl]
    · show f_X10_set τ 139 c w x = _
      unfold f_X10_set
      rw [m_isClass hm.1.1.1.1.1 hm.2.1 ok.1, bd_some, if_neg hc, if_pos rfl]
  rcases (Classical.em (vC w 5)).symm with hw | hw
  · refine Both.same ok (-1) (fun σ hx => ⟨σ, ?_, hx⟩) (fun τ hm => ⟨τ, ?_, hm⟩)
    · show f_X9_set σ 0 c w x = _
      unfold f_X9_set
      rw [hx.1.1.1.2.2.1, x_hasClass hx.2.1 ok.1, bd_some, if_pos hc, if_neg (by decide)]
      by_cases h1 : w < 0
      · rw [if_pos h1]
      · rw [if_neg h1, if_pos (show (5 : Int32) ≤ w by
          rw [show (5 : Int32) = nI 5 from rfl, leN_iff w (by decide)]
          rw [lt0_iff] at h1
          omega)]
    · show f_X10_set τ 139 c w x = _
      unfold f_X10_set
      rw [m_isClass hm.1.1.1.1.1 hm.2.1 ok.1, bd_some, if_pos hc, if_neg (by decide), show (0 : Int64) = lN 0 from rfl, show (4 : Int64) = lN 4 from rfl, m_inN τ w (by decide) (by decide), bd_some, if_neg (show ¬ vR w 0 4 by unfold vC at hw; unfold vR; omega), if_pos rfl]
  obtain ⟨k, hk, rfl⟩ := vC_of (by omega) hc
  obtain ⟨j, hj, rfl⟩ := vC_of (by decide) hw
  obtain ⟨B, hB⟩ : ∃ B, B = (if j = 0 then 999 else if j = 4 then 99 else tN (sv s) - 1) := ⟨_, rfl⟩
  have hB9 : B ≤ 999 := by rw [hB]; split <;> (try split) <;> omega
  have xh : ∀ σ, XI σ s → f_X9_highestPart σ 0 (nI j) = some (nI B, σ) := by
    intro σ hx
    unfold f_X9_highestPart
    rw [hx.1.1.1.2.2.1, hx.2.1.2.1.1, show (1 : Int32) = nI 1 from rfl, nI_sub (show 1 ≤ tN (sv s) by omega)]
    rcases (show j = 0 ∨ j = 4 ∨ (1 ≤ j ∧ j ≤ 3) by omega) with rfl | rfl | hh
    · rw [if_pos (by decide), hB]; rfl
    · rw [if_neg (by decide), if_pos (by decide), hB]; rfl
    · rw [if_neg (nI_nlt (by omega) (by omega)), if_neg (show ¬ (3 : Int32) < nI j from nI_nlt (a := 3) (b := j) (by omega) (by omega)), hB, if_neg (by omega), if_neg (by omega)]
  have mh : ∀ τ, MI τ s → f_X10_set τ 139 (nI k) (nI j) x = bl_bd (f_X10_in τ (Int32.toInt64 x) 0 (lN B)) (fun r1 σ2 => if r1 = 0 then some ((-1), σ2) else bl_bd (f_X10_becomes σ2 139 (nI (5 + (5 * k + j))) x) fun r5 σ6 => some (r5, σ6)) := by
    intro τ hm
    unfold f_X10_set
    rw [m_isClass hm.1.1.1.1.1 hm.2.1 ok.1, bd_some, if_pos hc, if_neg (by decide), show (0 : Int64) = lN 0 from rfl, show (4 : Int64) = lN 4 from rfl, m_inN τ (nI j) (by decide) (by decide), bd_some, if_pos (show vR (nI j) 0 4 by unfold vC at hw; unfold vR; omega), if_neg (by decide)]
    have e50 : ∀ B', b_X10_set_50 τ 139 (nI k) (nI j) x (nI B') = bl_bd (f_X10_in τ (Int32.toInt64 x) 0 (Int32.toInt64 (nI B'))) (fun r1 σ2 => if r1 = 0 then some ((-1), σ2) else bl_bd (f_X10_becomes σ2 139 (nI (5 + (5 * k + j))) x) fun r5 σ6 => some (r5, σ6)) := by
      intro B'
      unfold b_X10_set_50
      rw [nI_lit 5, nI_mul, nI_add, nI_add, Nat.add_assoc]
    rw [hm.1.1.1.1.1, hm.2.1.1.1]
    rcases (show j = 0 ∨ j = 4 ∨ (1 ≤ j ∧ j ≤ 3) by omega) with rfl | rfl | hh
    · rw [if_pos (by rfl), show (999 : Int32) = nI 999 from rfl, e50, hB, i2l_nI (by decide)]; rfl
    · rw [if_neg (by decide), if_pos (by rfl), show (99 : Int32) = nI 99 from rfl, e50, hB, i2l_nI (by decide)]; rfl
    · rw [if_neg (nI_ne0 (by omega) (by omega)), if_neg (show ¬ nI j = 4 from fun z => by have := nI_inj (b := 4) (by omega) (by decide) z; omega), show (1 : Int32) = nI 1 from rfl, nI_sub (show 1 ≤ tN (sv s) by omega), e50, i2l_nI (by omega), hB, if_neg (by omega), if_neg (by omega)]; rfl
  have xstart : ∀ σ, XI σ s → f_X9_set σ 0 (nI k) (nI j) x = (if x < 0 then some ((-1), σ) else if x ≤ nI B then (if nI (tC (sv s) (5 * k + j)) = x then some ((-1), σ) else bl_bd (f_X9_keepForUndo σ 0) fun _ σ19 => bl_bd (f_X8_setPart σ19 (bl_R σ19 0 2) (nI k) (nI j) x) fun _ σ23 => some (nI (tC (sv s) (5 * k + j)), σ23)) else some ((-1), σ)) := by
    intro σ hx
    unfold f_X9_set
    rw [hx.1.1.1.2.2.1, x_hasClass hx.2.1 ok.1, bd_some, if_pos hc, if_neg (by decide), if_neg (nI_pos (by omega)), if_neg (show ¬ (5 : Int32) ≤ nI j from nI_ge (a := j) (b := 5) hj (by decide)), xh σ hx, bd_some, hx.1.1.1.2.2.1, x_part hx.2.1 ok.1 hk hj, bd_some]
  rcases (Classical.em (vR x 0 B)).symm with hxr | hxr
  · refine Both.same ok (-1) (fun σ hx => ⟨σ, ?_, hx⟩) (fun τ hm => ⟨τ, ?_, hm⟩)
    · show f_X9_set σ 0 (nI k) (nI j) x = _
      rw [xstart σ hx]
      by_cases h1 : x < 0
      · rw [if_pos h1]
      · rw [if_neg h1, if_neg (fun z => by
          rw [leN_iff' x (by omega)] at z
          rw [lt0_iff] at h1
          unfold vR at hxr
          omega)]
    · show f_X10_set τ 139 (nI k) (nI j) x = _
      rw [mh τ hm, show (0 : Int64) = lN 0 from rfl, m_inN τ x (by decide) (by omega), bd_some, if_neg hxr, if_pos rfl]
  obtain ⟨y, rfl, -, hy⟩ := vR_of (by omega) hxr
  have xs2 : ∀ σ, XI σ s → f_X9_set σ 0 (nI k) (nI j) (nI y) = (if nI (tC (sv s) (5 * k + j)) = nI y then some ((-1), σ) else bl_bd (f_X9_keepForUndo σ 0) fun _ σ19 => bl_bd (f_X8_setPart σ19 (bl_R σ19 0 2) (nI k) (nI j) (nI y)) fun _ σ23 => some (nI (tC (sv s) (5 * k + j)), σ23)) := fun σ hx => by
    rw [xstart σ hx, if_neg (nI_pos (by omega)), if_pos (nI_le hy (by omega))]
  have ms2 : ∀ τ, MI τ s → f_X10_set τ 139 (nI k) (nI j) (nI y) = bl_bd (f_X10_becomes τ 139 (nI (5 + (5 * k + j))) (nI y)) (fun r5 σ6 => some (r5, σ6)) := fun τ hm => by
    rw [mh τ hm, show (0 : Int64) = lN 0 from rfl, m_inN τ (nI y) (by decide) (by omega), bd_some, if_pos hxr, if_neg (by decide)]
  have hold : ∀ τ, MI τ s → bl_I τ 140 (5 + (5 * k + j)) = nI (tC (sv s) (5 * k + j)) := fun τ hm => by
    have := hm.2.1.2.2.1 (5 * k + j) (by omega)
    rw [Nat.zero_add] at this
    exact this
  by_cases he : nI (tC (sv s) (5 * k + j)) = nI y
  · refine Both.same ok (-1) (fun σ hx => ⟨σ, ?_, hx⟩) (fun τ hm => ⟨τ, ?_, hm⟩)
    · show f_X9_set σ 0 (nI k) (nI j) (nI y) = _
      rw [xs2 σ hx, if_pos he]
    · show f_X10_set τ 139 (nI k) (nI j) (nI y) = _
      rw [ms2 τ hm, (m_becomes hm ok (by omega) (hold τ hm) (nI y)).1 he, bd_some]
  · have okv := tOk_setC ok.1 hk hj (y := y) (by rw [← hB]; exact hy)
    refine Both.to (nI (tC (sv s) (5 * k + j))) ((vSetC (sv s) (5 * k + j) y, sl s), (pushed s).2) ⟨okv, ok.2.1.up, ok.pushed.up.2.2⟩ (fun σ hx => ?_) (fun τ hm => ?_)
    · obtain ⟨σa, ea, xa, oa⟩ := x_kfu hx ok
      refine ⟨bl_pI σa (10 + 1) (5 * k + j) (nI y), ?_, xa.newT oa ((Kq.rf _ σa).pI (by decide) _ _) (xa.2.1.setC (5 * k + j) y)⟩
      show f_X9_set σ 0 (nI k) (nI j) (nI y) = _
      rw [xs2 σ hx, if_neg he, ea, bd_some]
      unfold f_X8_setPart
      rw [nI_lit 5, nI_mul, nI_add, in_nI (by omega) (by decide), gd_true, let_eq, bd_some, xa.1.1.1.2.2.1, xa.2.1.1.1, nI_clamp (by omega), Nat.mul_comm k 5]
    · obtain ⟨τa, ea, ma⟩ := (m_becomes hm ok (by omega) (hold τ hm) (nI y)).2 he
      refine ⟨_, ?_, ma.now ((Mo.rf τa).pI _ _) (ma.2.1.setC ok.1 (i := 5 * k + j) (by omega) y) (ma.2.2.1.lo (by omega) _)⟩
      show f_X10_set τ 139 (nI k) (nI j) (nI y) = _
      rw [ms2 τ hm, ea, bd_some]
end TAC
