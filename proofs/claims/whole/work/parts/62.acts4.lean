/-- come: one sort more -/
def vCome (v : tm_V) (x y : Nat) : tm_V := ((tN v, tK v + 1), tC v, (fun j => if j = 2 * tK v then x else if j = 2 * tK v + 1 then y else tS v j), v.2.2.2)
/-- drop: without a sort -/
def vDrop (v : tm_V) (s : Nat) : tm_V := ((tN v, tK v - 1), tC v, (fun j => if j < 2 * s then tS v j else tS v (j + 2)), v.2.2.2)
section TAE
variable {s : st_V} {n : Nat}
theorem op_come (ok : SOk s n) (x y : Int32) : Both n s (fun σ => f_X9_come σ 0 x y) (fun τ => f_X10_come τ 139 x y) := by
  have h8 := ok.1.n8
  have h5 := ok.1.k5
  rcases (Classical.em (vR x 1 999 ∧ vR y 1 9 ∧ tK (sv s) < 5 ∧ 0 < tN (sv s))).symm with hb | hb
  · refine Both.same ok (-1) (fun σ hx => ⟨σ, ?_, hx⟩) (fun τ hm => ⟨τ, ?_, hm⟩)
    · show f_X9_come σ 0 x y = _
      unfold f_X9_come
      rw [hx.1.1.1.2.2.1, hx.2.1.2.1.1, hx.2.1.2.1.2, show bl_SH.getD (Int32.toNatClampNeg 0) 0 = nI 999 from rfl, show bl_SH.getD (Int32.toNatClampNeg 1) 0 = nI 9 from rfl, show (1 : Int32) = nI 1 from rfl, show (5 : Int32) = nI 5 from rfl]
      by_cases h1 : x < nI 1
      · rw [if_pos h1]
      rw [if_neg h1]
      by_cases h2 : nI 999 < x
      · rw [if_pos h2]
      rw [if_neg h2]
      by_cases h3 : y < nI 1
      · rw [if_pos h3]
      rw [if_neg h3]
      by_cases h4 : y ≤ nI 9
      · rw [if_pos h4]
        by_cases h6 : nI 5 ≤ nI (tK (sv s))
        · rw [if_pos h6]
        · rw [if_neg h6]
          by_cases h7 : nI (tN (sv s)) = 0
          · rw [if_pos h7]
          · exfalso
            apply hb
            rw [ltN_iff x (by decide)] at h1
            rw [Nlt_iff x (by decide)] at h2
            rw [ltN_iff y (by decide)] at h3
            rw [leN_iff' y (by decide)] at h4
            rw [nI_is0 (by omega)] at h7
            refine ⟨⟨by omega, by omega⟩, ⟨by omega, by omega⟩, ?_, by omega⟩
            rcases Nat.lt_or_ge (tK (sv s)) 5 with z | z
            · exact z
            · exact absurd (nI_le z (by omega)) h6
      · rw [if_neg h4]
    · show f_X10_come τ 139 x y = _
      unfold f_X10_come
      have e0 := hm.2.1.1.1
      have e1 := hm.2.1.1.2
      simp only [Nat.zero_add] at e1
      rw [hm.1.1.1.1.1, e0]
      by_cases h1 : nI (tN (sv s)) = 0
      · rw [if_pos h1]
      rw [if_neg h1, show (1 : Int64) = lN 1 from rfl, show (999 : Int64) = lN 999 from rfl, m_inN τ x (by decide) (by decide), bd_some]
      by_cases h2 : vR x 1 999
      · rw [if_pos h2, if_neg (by decide), show (9 : Int64) = lN 9 from rfl, m_inN τ y (by decide) (by decide), bd_some]
        by_cases h3 : vR y 1 9
        · rw [if_pos h3, if_neg (by decide), hm.1.1.1.1.1, e1]
          rw [nI_is0 (by omega)] at h1
          have : tK (sv s) = 5 := by
            rcases Nat.lt_or_ge (tK (sv s)) 5 with z | z
            · exact absurd ⟨h2, h3, z, by omega⟩ hb
            · omega
          rw [this, if_pos (by rfl)]
        · rw [if_neg h3, if_pos rfl]
      · rw [if_neg h2, if_pos rfl]
  obtain ⟨hx9, hy9, hK, hN⟩ := hb
  obtain ⟨a, rfl, ha1, ha2⟩ := vR_of (by decide) hx9
  obtain ⟨b, rfl, hb1, hb2⟩ := vR_of (by decide) hy9
  have okv : TOk (vCome (sv s) a b) := by
    refine ⟨⟨h8, by show tK (sv s) + 1 ≤ 5; omega, by show tN (sv s) = 0 ↔ tK (sv s) + 1 = 0; omega⟩, ok.1.2.1, fun d hd => ?_, ok.1.2.2.2⟩
    have hd : d < tK (sv s) + 1 := hd
    have go : ∀ e, tS (vCome (sv s) a b) e = if e = 2 * tK (sv s) then a else if e = 2 * tK (sv s) + 1 then b else tS (sv s) e := fun e => rfl
    rw [go, go]
    by_cases hdk : d = tK (sv s)
    · rw [if_pos (by omega), if_neg (by omega), if_pos (by omega)]
      exact ⟨⟨ha1, ha2⟩, hb1, hb2⟩
    · rw [if_neg (by omega), if_neg (by omega), if_neg (by omega), if_neg (by omega)]
      exact ok.1.2.2.1 d (by omega)
  refine Both.to (nI (tK (sv s))) ((vCome (sv s) a b, sl s), (pushed s).2) ⟨okv, ok.2.1.up, ok.pushed.up.2.2⟩ (fun σ hx => ?_) (fun τ hm => ?_)
  · obtain ⟨σa, ea, xa, oa⟩ := x_kfu hx ok
    obtain ⟨r, ⟨a0, a1⟩, c1, c2, b3⟩ := xa.2.1
    have a0 : bl_I σa 10 0 = nI (tN (sv s)) := a0
    have a1 : bl_I σa 10 1 = nI (tK (sv s)) := a1
    have wr := xa.1.1.1.2.2.1
    have r2 : bl_R σa 10 3 = 12 := r.2.1
    obtain ⟨σb, eb⟩ : ∃ z, z = bl_pI (bl_pI (bl_pI σa 12 (2 * tK (sv s)) (nI a)) 12 (2 * tK (sv s) + 1) (nI b)) 10 1 (nI (tK (sv s) + 1)) := ⟨_, rfl⟩
    have kb : Kq (fun i => 10 ≤ i ∧ i ≤ 13) σa σb := by rw [eb]; exact (((Kq.rf (fun i => 10 ≤ i ∧ i ≤ 13) σa).pI (by decide) _ _).pI (by decide) _ _).pI (by decide) _ _
    have o0 : bl_I σb 10 0 = bl_I σa 10 0 := by rw [eb]; simp [I_pI]
    have o1 : bl_I σb 10 1 = nI (tK (sv s) + 1) := by rw [eb]; simp [I_pI]
    have o11 : bl_I σb 11 = bl_I σa 11 := by rw [eb]; funext j; simp [I_pI]
    have o13 : bl_I σb 13 = bl_I σa 13 := by rw [eb]; funext j; simp [I_pI]
    have oR : bl_R σb = bl_R σa := by rw [eb]; rfl
    refine ⟨σb, ?_, xa.newT oa kb ⟨by rw [oR]; exact r, ⟨by rw [o0]; exact a0, o1⟩, fun i hi => by show bl_I σb 11 i = _; rw [o11]; exact c1 i hi, fun i hi => ?_, by show bl_I σb 13 0 = _ ∧ bl_I σb 13 1 = _ ∧ bl_I σb 13 2 = _; rw [o13]; exact b3⟩⟩
    · show f_X9_come σ 0 (nI a) (nI b) = _
      unfold f_X9_come
      rw [hx.1.1.1.2.2.1, hx.2.1.2.1.1, hx.2.1.2.1.2, show bl_SH.getD (Int32.toNatClampNeg 0) 0 = nI 999 from rfl, show bl_SH.getD (Int32.toNatClampNeg 1) 0 = nI 9 from rfl, show (1 : Int32) = nI 1 from rfl, show (5 : Int32) = nI 5 from rfl]
      rw [if_neg (nI_nlt ha1 (by omega)), if_neg (nI_nlt ha2 (by omega)), if_neg (nI_nlt hb1 (by omega)), if_pos (nI_le hb2 (by omega)), if_neg (nI_ge hK (by omega)), if_neg (fun z => by rw [nI_is0 (by omega)] at z; omega), ea, bd_some]
      unfold f_X8_addSort f_X8_setSortPart
      simp only [wr, a1]
      rw [show (2 : Int32) = nI 2 from rfl, nI_mul, show (0 : Int32) = nI 0 from rfl, nI_add, in_nI (by omega) (by decide), gd_true, let_eq, bd_some]
      simp only [R_pI, r2]
      rw [I_pI_o (by decide), a1, nI_mul, show (1 : Int32) = nI 1 from rfl, nI_add, in_nI (by omega) (by decide), gd_true, let_eq, bd_some, let_eq, I_pI_o (by decide), I_pI_o (by decide), a1, nI_add, nI_clamp (by omega), nI_clamp (by omega), bd_some]
      rw [show tK (sv s) * 2 + 0 = 2 * tK (sv s) by omega, show tK (sv s) * 2 + 1 = 2 * tK (sv s) + 1 by omega, ← eb, oR, wr, o1, nI_sub (by omega)]
      rfl
    · have hi : i < 2 * (tK (sv s) + 1) := hi
      show bl_I σb 12 i = nI (if i = 2 * tK (sv s) then a else if i = 2 * tK (sv s) + 1 then b else tS (sv s) i)
      rw [eb, I_pI_o (by decide), I_pI, I_pI]
      by_cases h1 : i = 2 * tK (sv s)
      · rw [if_neg (by omega), if_pos ⟨rfl, h1⟩, if_pos h1]
      · by_cases h2 : i = 2 * tK (sv s) + 1
        · rw [if_pos ⟨rfl, h2⟩, if_neg h1, if_pos h2]
        · rw [if_neg (fun z => h2 z.2), if_neg (fun z => h1 z.2), if_neg h1, if_neg h2]
          exact c2 i (show i < 2 * tK (sv s) by omega)
  · obtain ⟨τa, ea, ma⟩ := m_kfu hm ok
    have e0 := hm.2.1.1.1
    have e1 := hm.2.1.1.2
    have f1 := ma.2.1.1.2
    simp only [Nat.zero_add] at e1 f1
    have f1 : bl_I τa 140 1 = nI (tK (sv s)) := f1
    have wr := ma.1.1.1.1.1
    obtain ⟨τb, eb⟩ : ∃ z, z = bl_pI (bl_pI (bl_pI τa 140 (45 + 2 * tK (sv s)) (nI a)) 140 (45 + 2 * tK (sv s) + 1) (nI b)) 140 1 (nI (tK (sv s) + 1)) := ⟨_, rfl⟩
    have mb : Mo τa τb := by rw [eb]; exact (((Mo.rf τa).pI _ _).pI _ _).pI _ _
    have io : ∀ j, j ≠ 1 → (j < 45 ∨ 55 ≤ j) → bl_I τb 140 j = bl_I τa 140 j := fun j h1 h2 => by
      rw [eb, I_pI_ne h1, I_pI_ne (by omega), I_pI_ne (by omega)]
    have i1 : bl_I τb 140 1 = nI (tK (sv s) + 1) := by rw [eb, I_pI_self]
    refine ⟨τb, ?_, ma.now mb ?_ (ma.2.2.1.cp (fun j h1 h2 => io _ (by omega) (by omega)))⟩
    · show f_X10_come τ 139 (nI a) (nI b) = _
      unfold f_X10_come
      rw [hm.1.1.1.1.1, e0, if_neg (fun z => by rw [nI_is0 (by omega)] at z; omega), show (1 : Int64) = lN 1 from rfl, show (999 : Int64) = lN 999 from rfl, m_inN τ (nI a) (by decide) (by decide), bd_some, if_pos hx9, if_neg (by decide), show (9 : Int64) = lN 9 from rfl, m_inN τ (nI b) (by decide) (by decide), bd_some, if_pos hy9, if_neg (by decide), hm.1.1.1.1.1, e1, if_neg (show ¬ nI (tK (sv s)) = 5 from fun z => by have := nI_inj (b := 5) (by omega) (by decide) z; omega), ea, bd_some]
      simp only [R_pI, wr, f1]
      rw [show (45 : Int32) = nI 45 from rfl, show (2 : Int32) = nI 2 from rfl, nI_mul, nI_add, in_nI (by omega) (by decide), gd_true, let_eq]
      simp only [R_pI, wr]
      rw [nI_clamp (show 45 + 2 * tK (sv s) < 2 ^ 31 by omega), I_pI_ne (show 1 ≠ 45 + 2 * tK (sv s) by omega), f1, nI_mul, nI_add, nI_1, in_nI (by omega) (by decide), gd_true]
      simp only [let_eq, R_pI, wr]
      rw [nI_clamp (by omega), I_pI_ne (show 1 ≠ 45 + 2 * tK (sv s) + 1 by omega), I_pI_ne (show 1 ≠ 45 + 2 * tK (sv s) by omega), f1, nI_1, ← eb, i1, show (1 : Int32) = nI 1 from rfl, nI_sub (by omega)]
      rfl
    · obtain ⟨⟨a0, a1⟩, ⟨b0, b1, b2⟩, c1, c2⟩ := ma.2.1
      refine ⟨⟨by rw [io _ (by omega) (by omega)]; exact a0, i1⟩, ⟨by rw [io _ (by omega) (by omega)]; exact b0, by rw [io _ (by omega) (by omega)]; exact b1, by rw [io _ (by omega) (by omega)]; exact b2⟩, fun j hj => by have hj : j < 5 * tN (sv s) := hj; rw [io _ (by omega) (by omega)]; exact c1 j hj, fun i hi => ?_⟩
      have hi : i < 2 * (tK (sv s) + 1) := hi
      show bl_I τb 140 (0 + 45 + i) = nI (if i = 2 * tK (sv s) then a else if i = 2 * tK (sv s) + 1 then b else tS (sv s) i)
      rw [eb, I_pI_ne (by omega), I_pI, I_pI]
      by_cases h1 : i = 2 * tK (sv s)
      · rw [if_neg (by omega), if_pos ⟨rfl, by omega⟩, if_pos h1]
      · by_cases h2 : i = 2 * tK (sv s) + 1
        · rw [if_pos ⟨rfl, by omega⟩, if_neg h1, if_pos h2]
        · rw [if_neg (fun z => h2 (by omega)), if_neg (fun z => h1 (by omega)), if_neg h1, if_neg h2]
          exact c2 i (show i < 2 * tK (sv s) by omega)
/-- removeSort, of any Terms -/
theorem x_removeSort {σ : bl_St} {t : Nat} {v : tm_V} (hT : TX σ t v) (ok : TOk v) {k : Nat} (hk : k < tK v) : ∃ σ1, f_X8_removeSort σ t (nI k) = some ((), σ1) ∧ Kq (fun i => i = t ∨ i = t + 2) σ σ1 ∧ bl_R σ1 = bl_R σ ∧ TX σ1 t (vDrop v k) := by
  have h5 := ok.k5
  have loop : ∀ (r a m : Nat) (τ : bl_St), a + r = tK v → k < a → r < m → bl_R τ = bl_R σ → (∀ i, i ≠ t + 2 → bl_I τ i = bl_I σ i) → (∀ i, bl_J τ i = bl_J σ i) → (∀ j, j < 2 * tK v → bl_I τ (t + 2) j = nI (if 2 * k ≤ j ∧ j < 2 * (a - 1) then tS v (j + 2) else tS v j)) → ∃ σ1, bl_fx (fun _ _ _ => none) (b_X8_removeSort_4) m τ t (nI a) = some ((), bl_pI σ1 t 1 (nI (tK v - 1))) ∧ bl_R σ1 = bl_R σ ∧ (∀ i, i ≠ t + 2 → bl_I σ1 i = bl_I σ i) ∧ (∀ i, bl_J σ1 i = bl_J σ i) ∧ (∀ j, j < 2 * (tK v - 1) → bl_I σ1 (t + 2) j = nI (if j < 2 * k then tS v j else tS v (j + 2))) := by
    intro r
    induction r with
    | zero =>
      intro a m τ ha hka hm hR hI hJ hs
      obtain ⟨m, rfl⟩ : ∃ q, m = q + 1 := ⟨m - 1, by omega⟩
      have ha : a = tK v := by omega
      subst ha
      refine ⟨τ, ?_, hR, hI, hJ, fun j hj => ?_⟩
      · rw [fx_succ]
        unfold b_X8_removeSort_4
        rw [hI t (by omega), hT.2.1.2, if_pos (nI_le (Nat.le_refl _) (by omega)), let_eq, show (1 : Int32) = nI 1 from rfl, nI_sub (by omega)]
      · rw [hs j (by omega)]
        by_cases hj2 : j < 2 * k
        · rw [if_neg (by omega), if_pos hj2]
        · rw [if_pos (by omega), if_neg hj2]
    | succ r ih =>
      intro a m τ ha hka hm hR hI hJ hs
      obtain ⟨m, rfl⟩ : ∃ q, m = q + 1 := ⟨m - 1, by omega⟩
      have va : bl_I τ (t + 2) (2 * a) = nI (tS v (2 * a)) := by rw [hs _ (by omega), if_neg (by omega)]
      have vb : bl_I τ (t + 2) (2 * a + 1) = nI (tS v (2 * a + 1)) := by rw [hs _ (by omega), if_neg (by omega)]
      have r3 : bl_R τ t 3 = t + 2 := by rw [hR]; exact hT.1.2.1
      obtain ⟨σ1, e1, e2, e3, e4, e5⟩ := ih (a + 1) m (bl_pI (bl_pI τ (t + 2) (2 * (a - 1)) (nI (tS v (2 * a)))) (t + 2) (2 * (a - 1) + 1) (nI (tS v (2 * a + 1)))) (by omega) (by omega) (by omega) hR (fun i hi => by rw [I_pI_o hi, I_pI_o hi]; exact hI i hi) hJ (fun j hj => by
        rw [I_pI, I_pI]
        by_cases h1 : j = 2 * (a - 1) + 1
        · rw [if_pos ⟨rfl, h1⟩, if_pos (by omega), show j + 2 = 2 * a + 1 by omega]
        · rw [if_neg (fun z => h1 z.2)]
          by_cases h2 : j = 2 * (a - 1)
          · rw [if_pos ⟨rfl, h2⟩, if_pos (by omega), show j + 2 = 2 * a by omega]
          · rw [if_neg (fun z => h2 z.2), hs j hj]
            by_cases h3 : 2 * k ≤ j ∧ j < 2 * (a - 1)
            · rw [if_pos h3, if_pos (by omega)]
            · rw [if_neg h3, if_neg (by omega)])
      refine ⟨σ1, ?_, e2, e3, e4, e5⟩
      rw [fx_succ]
      have hb : b_X8_removeSort_4 (bl_fx (fun _ _ _ => none) (b_X8_removeSort_4) m) τ t (nI a) = bl_fx (fun _ _ _ => none) (b_X8_removeSort_4) m (bl_pI (bl_pI τ (t + 2) (2 * (a - 1)) (nI (tS v (2 * a)))) (t + 2) (2 * (a - 1) + 1) (nI (tS v (2 * a + 1)))) t (nI (a + 1)) := by
        show (if bl_I τ t 1 ≤ nI a then _ else _) = _
        rw [hI t (by omega), hT.2.1.2, if_neg (nI_ge (by omega) (by omega))]
        unfold f_X8_sortPart f_X8_setSortPart
        simp only [R_pI, r3, let_eq]
        rw [show (2 : Int32) = nI 2 from rfl, nI_mul, show (0 : Int32) = nI 0 from rfl, nI_add, in_nI (by omega) (by decide), gd_true, bd_some, show (1 : Int32) = nI 1 from rfl, nI_sub (show 1 ≤ a by omega), nI_mul, nI_add, in_nI (by omega) (by decide), gd_true, bd_some]
        simp only [R_pI, r3]
        rw [nI_add, in_nI (by omega) (by decide), gd_true, bd_some, nI_add, in_nI (by omega) (by decide), gd_true, bd_some]
        simp only [R_pI, r3]
        rw [nI_clamp (by omega), nI_clamp (by omega), nI_clamp (by omega), nI_clamp (by omega), I_pI_ne (by omega), show a * 2 + 0 = 2 * a by omega, show a * 2 + 1 = 2 * a + 1 by omega, va, vb, nI_add, show (a - 1) * 2 + 0 = 2 * (a - 1) by omega, show (a - 1) * 2 + 1 = 2 * (a - 1) + 1 by omega]
      rw [hb]
      exact e1
  obtain ⟨σ1, e1, e2, e3, e4, e5⟩ := loop (tK v - (k + 1)) (k + 1) bl_fu σ (by omega) (by omega) (by unfold bl_fu; omega) rfl (fun _ _ => rfl) (fun _ => rfl) (fun j hj => by rw [hT.2.2.2.1 j hj, if_neg (by omega)])
  refine ⟨bl_pI σ1 t 1 (nI (tK v - 1)), ?_, fun i hi => ⟨by rw [I_pI_o (by omega)]; exact e3 i (by omega), by show bl_J σ1 i = _; rw [e4], by show bl_R σ1 i = _; rw [e2]⟩, e2, ?_⟩
  · unfold f_X8_removeSort
    rw [let_eq, nI_1]
    exact e1
  · refine ⟨by show bl_R σ1 t 2 = _ ∧ bl_R σ1 t 3 = _ ∧ bl_R σ1 t 4 = _; rw [e2]; exact hT.1, ⟨by rw [I_pI_ne (by decide), e3 t (by omega)]; exact hT.2.1.1, I_pI_self _ _ _ _⟩, fun i hi => by rw [I_pI_o (by omega), e3 (t + 1) (by omega)]; exact hT.2.2.1 i hi, fun i hi => by rw [I_pI_o (by omega)]; exact e5 i hi, by rw [I_pI_o (by omega), e3 (t + 3) (by omega)]; exact hT.2.2.2.2⟩
theorem m_takesOut {σ : bl_St} {v : tm_V} {l : lf_V} (hR : bl_R σ 139 1 = 140) (hT : TM σ 140 0 v) (ok : TOk v) (hL : LM σ 140 0 l) {k : Nat} (hk : k < tK v) : ∃ σ1, f_X10_takesOut σ 139 (nI k) = some ((), σ1) ∧ Mo σ σ1 ∧ TM σ1 140 0 (vDrop v k) ∧ LM σ1 140 0 l := by
  have h5 := ok.k5
  have h8 := ok.n8
  have e1 := hT.1.2
  rw [Nat.zero_add] at e1
  have loop : ∀ (r a m : Nat) (τ : bl_St), a + r = 2 * (tK v - 1) → 2 * k ≤ a → r < m → Mo σ τ → (∀ j, bl_I τ 140 j = if 45 + 2 * k ≤ j ∧ j < 45 + a then bl_I σ 140 (j + 2) else bl_I σ 140 j) → ∃ σ1, bl_fx (fun _ _ _ => none) (b_X10_takesOut_7) m τ 139 (nI (45 + a)) = some ((), bl_pI σ1 140 1 (nI (tK v - 1))) ∧ Mo σ σ1 ∧ ∀ j, bl_I σ1 140 j = if 45 + 2 * k ≤ j ∧ j < 45 + 2 * (tK v - 1) then bl_I σ 140 (j + 2) else bl_I σ 140 j := by
    intro r
    induction r with
    | zero =>
      intro a m τ ha hka hm M hs
      obtain ⟨m, rfl⟩ : ∃ q, m = q + 1 := ⟨m - 1, by omega⟩
      have ha : a = 2 * (tK v - 1) := by omega
      subst ha
      refine ⟨τ, ?_, M, hs⟩
      rw [fx_succ]
      unfold b_X10_takesOut_7
      have i1 : bl_I τ 140 1 = nI (tK v) := by rw [hs 1, if_neg (by omega)]; exact e1
      rw [M.1, hR, i1, show (45 : Int32) = nI 45 from rfl, show (2 : Int32) = nI 2 from rfl, nI_mul, nI_add, nI_sub (by omega), if_pos (nI_le (by omega) (by omega)), let_eq, show (1 : Int32) = nI 1 from rfl, nI_sub (by omega)]
    | succ r ih =>
      intro a m τ ha hka hm M hs
      obtain ⟨m, rfl⟩ : ∃ q, m = q + 1 := ⟨m - 1, by omega⟩
      have i1 : bl_I τ 140 1 = nI (tK v) := by rw [hs 1, if_neg (by omega)]; exact e1
      obtain ⟨σ1, q1, q2, q3⟩ := ih (a + 1) m (bl_pI τ 140 (45 + a) (bl_I τ 140 (45 + a + 2))) (by omega) (by omega) (by omega) (M.pI _ _) (fun j => by
        have z1 : bl_I τ 140 (45 + a + 2) = bl_I σ 140 (45 + a + 2) := by rw [hs, if_neg (by omega)]
        rw [I_pI, z1]
        by_cases hj : j = 45 + a
        · rw [if_pos ⟨rfl, hj⟩, if_pos (by omega), hj]
        · rw [if_neg (fun z => hj z.2), hs j]
          by_cases hj2 : 45 + 2 * k ≤ j ∧ j < 45 + a
          · rw [if_pos hj2, if_pos (by omega)]
          · rw [if_neg hj2, if_neg (by omega)])
      refine ⟨σ1, ?_, q2, q3⟩
      rw [fx_succ]
      have hb : b_X10_takesOut_7 (bl_fx (fun _ _ _ => none) (b_X10_takesOut_7) m) τ 139 (nI (45 + a)) = bl_fx (fun _ _ _ => none) (b_X10_takesOut_7) m (bl_pI τ 140 (45 + a) (bl_I τ 140 (45 + a + 2))) 139 (nI (45 + (a + 1))) := by
        unfold b_X10_takesOut_7
        rw [M.1, hR, i1, show (45 : Int32) = nI 45 from rfl, show (2 : Int32) = nI 2 from rfl, nI_mul, nI_add, nI_sub (by omega), if_neg (nI_ge (by omega) (by omega)), nI_add, in_nI (by omega) (by decide), gd_true, in_nI (by omega) (by decide), gd_true, let_eq, let_eq, nI_clamp (by omega), nI_clamp (by omega), nI_1]
        rfl
      rw [hb]
      exact q1
  obtain ⟨σ1, q1, q2, q3⟩ := loop (2 * (tK v - 1) - 2 * k) (2 * k) bl_fu σ (by omega) (Nat.le_refl _) (by unfold bl_fu; omega) (Mo.rf σ) (fun j => by rw [if_neg (by omega)])
  have io : ∀ j, j ≠ 1 → (j < 45 ∨ 55 ≤ j) → bl_I (bl_pI σ1 140 1 (nI (tK v - 1))) 140 j = bl_I σ 140 j := fun j h1 h2 => by
    rw [I_pI_ne h1, q3, if_neg (by omega)]
  refine ⟨_, ?_, q2.pI _ _, ?_, hL.cp (fun j h1 h2 => io _ (by omega) (by omega))⟩
  · unfold f_X10_takesOut
    rw [show (45 : Int32) = nI 45 from rfl, show (2 : Int32) = nI 2 from rfl, nI_mul, nI_add, let_eq]
    exact q1
  · obtain ⟨⟨a0, a1⟩, ⟨b0, b1, b2⟩, c1, c2⟩ := hT
    refine ⟨⟨by rw [io _ (by omega) (by omega)]; exact a0, I_pI_self _ _ _ _⟩, ⟨by rw [io _ (by omega) (by omega)]; exact b0, by rw [io _ (by omega) (by omega)]; exact b1, by rw [io _ (by omega) (by omega)]; exact b2⟩, fun j hj => by have hj : j < 5 * tN v := hj; rw [io _ (by omega) (by omega)]; exact c1 j hj, fun i hi => ?_⟩
    have hi : i < 2 * (tK v - 1) := hi
    show bl_I _ 140 (0 + 45 + i) = nI (if i < 2 * k then tS v i else tS v (i + 2))
    rw [I_pI_ne (by omega), q3]
    by_cases h1 : i < 2 * k
    · rw [if_neg (by omega), if_pos h1]
      exact c2 i (by omega)
    · rw [if_pos (by omega), if_neg h1]
      exact c2 (i + 2) (by omega)
theorem tOk_drop {v : tm_V} (ok : TOk v) {k : Nat} (hk : k < tK v) (h2 : 1 < tK v) : TOk (vDrop v k) := by
  have q := ok.1
  refine ⟨⟨q.1, by show tK v - 1 ≤ 5; omega, by show tN v = 0 ↔ tK v - 1 = 0; omega⟩, ok.2.1, fun d hd => ?_, ok.2.2.2⟩
  have hd : d < tK v - 1 := hd
  have go : ∀ e, tS (vDrop v k) e = if e < 2 * k then tS v e else tS v (e + 2) := fun e => rfl
  rw [go, go]
  by_cases h1 : d < k
  · rw [if_pos (by omega), if_pos (by omega)]
    exact ok.2.2.1 d (by omega)
  · rw [if_neg (by omega), if_neg (by omega)]
    exact ok.2.2.1 (d + 1) (by omega)
theorem op_drop (ok : SOk s n) (c : Int32) : Both n s (fun σ => f_X9_drop σ 0 c) (fun τ => f_X10_drop τ 139 c) := by
  have h5 := ok.1.k5
  rcases (Classical.em (vC c (tK (sv s)) ∧ tK (sv s) ≠ 1)).symm with hb | hb
  · refine Both.same ok (-1) (fun σ hx => ⟨σ, ?_, hx⟩) (fun τ hm => ⟨τ, ?_, hm⟩)
    · show f_X9_drop σ 0 c = _
      unfold f_X9_drop
      rw [hx.1.1.1.2.2.1, x_hasSort hx.2.1 ok.1, bd_some, hx.1.1.1.2.2.1, hx.2.1.2.1.2]
      by_cases h1 : vC c (tK (sv s))
      · rw [if_pos h1, if_neg (by decide), show tK (sv s) = 1 from Classical.not_not.mp (fun z => hb ⟨h1, z⟩), if_pos (by rfl)]
      · rw [if_neg h1, if_pos rfl]
    · show f_X10_drop τ 139 c = _
      unfold f_X10_drop
      have e1 := hm.2.1.1.2
      rw [m_isSort hm.1.1.1.1.1 hm.2.1 ok.1, bd_some, hm.1.1.1.1.1, e1]
      by_cases h1 : vC c (tK (sv s))
      · rw [if_pos h1, if_neg (by decide), show tK (sv s) = 1 from Classical.not_not.mp (fun z => hb ⟨h1, z⟩), if_pos (by rfl)]
      · rw [if_neg h1, if_pos rfl]
  obtain ⟨hc, h1⟩ := hb
  obtain ⟨k, hk, rfl⟩ := vC_of (by omega) hc
  refine Both.to (nI (tK (sv s) - 1)) ((vDrop (sv s) k, sl s), (pushed s).2) ⟨tOk_drop ok.1 hk (by omega), ok.2.1.up, ok.pushed.up.2.2⟩ (fun σ hx => ?_) (fun τ hm => ?_)
  · obtain ⟨σa, ea, xa, oa⟩ := x_kfu hx ok
    obtain ⟨σb, eb, kb, Rb, tb⟩ := x_removeSort xa.2.1 ok.1 hk
    have xb := xa.newT oa (kb.mono (fun i hi => by omega)) tb
    refine ⟨σb, ?_, xb⟩
    show f_X9_drop σ 0 (nI k) = _
    unfold f_X9_drop
    rw [hx.1.1.1.2.2.1, x_hasSort hx.2.1 ok.1, bd_some, hx.1.1.1.2.2.1, hx.2.1.2.1.2, if_pos hc, if_neg (by decide), if_neg (show ¬ nI (tK (sv s)) = 1 from fun z => h1 (nI_inj (b := 1) (by omega) (by decide) z)), ea, bd_some, xa.1.1.1.2.2.1, eb, bd_some, xb.1.1.1.2.2.1, xb.2.1.2.1.2]
    rfl
  · obtain ⟨τa, ea, ma⟩ := m_kfu hm ok
    obtain ⟨τb, eb, mb, tb, lb⟩ := m_takesOut ma.1.1.1.1.1 ma.2.1 ok.1 ma.2.2.1 hk
    have mb2 := ma.now mb tb lb
    refine ⟨τb, ?_, mb2⟩
    show f_X10_drop τ 139 (nI k) = _
    unfold f_X10_drop
    have e1 := hm.2.1.1.2
    have e2 := mb2.2.1.1.2
    simp only [Nat.zero_add] at e1 e2
    rw [m_isSort hm.1.1.1.1.1 hm.2.1 ok.1, bd_some, hm.1.1.1.1.1, e1, if_pos hc, if_neg (by decide), if_neg (show ¬ nI (tK (sv s)) = 1 from fun z => h1 (nI_inj (b := 1) (by omega) (by decide) z)), ea, bd_some, eb, bd_some, mb2.1.1.1.1.1, e2]
    rfl
end TAE
