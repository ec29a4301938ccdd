/-! ===== phrases: in numbers; the class's ===== -/
abbrev wd5 (j : Nat) : List Int32 := bl_tc.getD j []
abbrev wM (b : Nat → Nat) (p e j : Nat) : Prop := e - p = (wd5 j).length ∧ ∀ i, i < (wd5 j).length → nI (b (p + i)) = (wd5 j).getD i 0
def kd (b : Nat → Nat) (p e : Nat) : Nat := if wM b p e 0 then 0 else if wM b p e 1 then 1 else if wM b p e 2 then 2 else if wM b p e 3 then 3 else if wM b p e 4 then 4 else 5
theorem kd_le (b : Nat → Nat) (p e : Nat) : kd b p e ≤ 5 := by
  unfold kd
  split; omega; split; omega; split; omega; split; omega; split <;> omega
def pLo (j : Nat) : Nat := if j = 1 then 1 else if j = 2 then 1 else 0
def pHi (j i : Nat) : Nat := if j = 0 then (if i = 0 then 999 else if i = 4 then 99 else 7) else if j = 1 then (if i = 0 then 999 else 9) else if j = 2 then 3 else if j = 3 then 12 else 99
def pAm (j : Nat) : Nat := if j = 0 then 5 else if j = 1 then 2 else 1
theorem pLo_le (j : Nat) : pLo j ≤ 1 := by unfold pLo; split; omega; split <;> omega
theorem pHi_le (j i : Nat) : pHi j i ≤ 999 := by
  unfold pHi
  split
  · split; omega; split <;> omega
  · split
    · split <;> omega
    · split; omega; split <;> omega
def qI (b : Nat → Nat) (ln e : Nat) : Nat → Nat
  | 0 => e
  | i + 1 => nE b ln (qI b ln e i)
def nrun (b : Nat → Nat) (ln lo : Nat) (hi : Nat → Nat) : Nat → Nat → Nat → Sum Nat Nat
  | 0, _, p => .inr p
  | r + 1, i, p => if nOk b ln p lo (hi i) then nrun b ln lo hi r (i + 1) (nE b ln p) else .inl (nB b ln p)
theorem nrun_0 (b : Nat → Nat) (ln lo : Nat) (hi : Nat → Nat) (i p : Nat) : nrun b ln lo hi 0 i p = .inr p := rfl
theorem nrun_1 (b : Nat → Nat) (ln lo : Nat) (hi : Nat → Nat) (r i p : Nat) : nrun b ln lo hi (r + 1) i p = if nOk b ln p lo (hi i) then nrun b ln lo hi r (i + 1) (nE b ln p) else .inl (nB b ln p) := rfl
def full (j : Nat) (v : tm_V) : Prop := (j = 0 ∧ 8 ≤ tN v) ∨ (j = 1 ∧ 5 ≤ tK v)
def takeV (j : Nat) (v : tm_V) (x : Nat → Nat) : tm_V :=
  if j = 0 then ((tN v + 1, tK v), (fun i => if 5 * tN v ≤ i then x (i - 5 * tN v) else tC v i), v.2.2)
  else if j = 1 then ((tN v, tK v + 1), tC v, (fun i => if 2 * tK v ≤ i then x (i - 2 * tK v) else tS v i), v.2.2.2)
  else vRule v (j - 2) (x 0)
noncomputable def phr (b : Nat → Nat) (ln p : Nat) (v : tm_V) : Sum Nat (Nat × tm_V) :=
  if kd b p (rn b ln isL p) = 5 then .inl p
  else @ite _ (full (kd b p (rn b ln isL p)) v) (Classical.propDecidable _) (.inl p)
    (match nrun b ln (pLo (kd b p (rn b ln isL p))) (pHi (kd b p (rn b ln isL p))) (pAm (kd b p (rn b ln isL p))) 0 (rn b ln isL p) with
    | .inl f => .inl f
    | .inr q => if nB b ln q < ln ∧ b (nB b ln q) = 59 then .inr (nB b ln q + 1, takeV (kd b p (rn b ln isL p)) v (fun i => nV b ln (qI b ln (rn b ln isL p) i))) else .inl (nB b ln q))
/-- what a text has told so far -/
def POk (v : tm_V) : Prop :=
  (tN v ≤ 8 ∧ tK v ≤ 5) ∧ (∀ c, c < tN v → tC v (5 * c) ≤ 999 ∧ (∀ j, j < 3 → tC v (5 * c + 1 + j) ≤ 7) ∧ tC v (5 * c + 4) ≤ 99) ∧
  (∀ s, s < tK v → (1 ≤ tS v (2 * s) ∧ tS v (2 * s) ≤ 999) ∧ 1 ≤ tS v (2 * s + 1) ∧ tS v (2 * s + 1) ≤ 9) ∧ (1 ≤ tH v ∧ tH v ≤ 3) ∧ tO v ≤ 12 ∧ tW v ≤ 99
section PHR
variable {b : Nat → Nat} {ln p e : Nat} {v : tm_V}
theorem qI_ge (b : Nat → Nat) (ln e : Nat) : ∀ i, e ≤ qI b ln e i
  | 0 => Nat.le_refl e
  | i + 1 => by
    have h1 := qI_ge b ln e i
    have h2 : qI b ln e i ≤ nB b ln (qI b ln e i) := rn_ge _ _ _ _
    have h3 : nB b ln (qI b ln e i) ≤ nE b ln (qI b ln e i) := rn_ge _ _ _ _
    show e ≤ nE b ln (qI b ln e i)
    omega
theorem qI_le (he : e ≤ ln) : ∀ i, qI b ln e i ≤ ln
  | 0 => he
  | i + 1 => rn_le (rn_le (qI_le he i))
theorem nrun_ok {lo : Nat} {hi : Nat → Nat} : ∀ (r i q : Nat), nrun b ln lo hi r i (qI b ln e i) = .inr q → q = qI b ln e (i + r) ∧ ∀ k, i ≤ k → k < i + r → nOk b ln (qI b ln e k) lo (hi k)
  | 0, i, q, h => by
    rw [nrun_0] at h
    exact ⟨(Sum.inr.inj h).symm, fun k h1 h2 => by omega⟩
  | r + 1, i, q, h => by
    rw [nrun_1] at h
    by_cases c : nOk b ln (qI b ln e i) lo (hi i)
    · rw [if_pos c] at h
      obtain ⟨h1, h2⟩ := nrun_ok r (i + 1) q h
      refine ⟨by rw [h1]; congr 1; omega, fun k h3 h4 => ?_⟩
      by_cases hk : k = i
      · rw [hk]; exact c
      · exact h2 k (by omega) (by omega)
    · rw [if_neg c] at h
      cases h
theorem phr_bad5 (h : kd b p (rn b ln isL p) = 5) : phr b ln p v = .inl p := by unfold phr; rw [if_pos h]
theorem phr_full (h : kd b p (rn b ln isL p) ≠ 5) (h2 : full (kd b p (rn b ln isL p)) v) : phr b ln p v = .inl p := by unfold phr; rw [if_neg h, if_pos h2]
theorem phr_num {f : Nat} (h : kd b p (rn b ln isL p) ≠ 5) (h2 : ¬ full (kd b p (rn b ln isL p)) v) (h3 : nrun b ln (pLo (kd b p (rn b ln isL p))) (pHi (kd b p (rn b ln isL p))) (pAm (kd b p (rn b ln isL p))) 0 (rn b ln isL p) = .inl f) : phr b ln p v = .inl f := by unfold phr; rw [if_neg h, if_neg h2, h3]
theorem phr_end {q : Nat} (h : kd b p (rn b ln isL p) ≠ 5) (h2 : ¬ full (kd b p (rn b ln isL p)) v) (h3 : nrun b ln (pLo (kd b p (rn b ln isL p))) (pHi (kd b p (rn b ln isL p))) (pAm (kd b p (rn b ln isL p))) 0 (rn b ln isL p) = .inr q) : phr b ln p v = if nB b ln q < ln ∧ b (nB b ln q) = 59 then .inr (nB b ln q + 1, takeV (kd b p (rn b ln isL p)) v (fun i => nV b ln (qI b ln (rn b ln isL p) i))) else .inl (nB b ln q) := by unfold phr; rw [if_neg h, if_neg h2, h3]
/-- where it goes on, what is told -/
theorem phr_go {q : Nat} {v' : tm_V} (hp : p ≤ ln) (P : POk v) (h : phr b ln p v = .inr (q, v')) : p < q ∧ q ≤ ln ∧ POk v' := by
  have hk5 := kd_le b p (rn b ln isL p)
  by_cases c1 : kd b p (rn b ln isL p) = 5
  · rw [phr_bad5 c1] at h; cases h
  rcases Classical.em (full (kd b p (rn b ln isL p)) v) with c2 | c2
  · rw [phr_full c1 c2] at h; cases h
  have hge : p ≤ rn b ln isL p := rn_ge _ _ _ _
  have hle : rn b ln isL p ≤ ln := rn_le hp
  cases h3 : nrun b ln (pLo (kd b p (rn b ln isL p))) (pHi (kd b p (rn b ln isL p))) (pAm (kd b p (rn b ln isL p))) 0 (rn b ln isL p) with
  | inl f => rw [phr_num c1 c2 h3] at h; cases h
  | inr z =>
    rw [phr_end c1 c2 h3] at h
    obtain ⟨q1, q2⟩ := nrun_ok (e := rn b ln isL p) _ 0 z h3
    have g1 := qI_ge b ln (rn b ln isL p) (0 + pAm (kd b p (rn b ln isL p)))
    have g2 : z ≤ nB b ln z := rn_ge _ _ _ _
    by_cases c4 : nB b ln z < ln ∧ b (nB b ln z) = 59
    · rw [if_pos c4] at h
      have h := Sum.inr.inj h
      have e1 : nB b ln z + 1 = q := congrArg Prod.fst h
      have e2 : takeV (kd b p (rn b ln isL p)) v (fun i => nV b ln (qI b ln (rn b ln isL p) i)) = v' := congrArg Prod.snd h
      refine ⟨by omega, by omega, ?_⟩
      rw [← e2]
      obtain ⟨x, hx⟩ : ∃ x : Nat → Nat, x = fun i => nV b ln (qI b ln (rn b ln isL p) i) := ⟨_, rfl⟩
      rw [← hx]
      have hv : ∀ k, k < pAm (kd b p (rn b ln isL p)) → pLo (kd b p (rn b ln isL p)) ≤ x k ∧ x k ≤ pHi (kd b p (rn b ln isL p)) k := fun k hk => by
        have := q2 k (by omega) (by omega)
        rw [hx]
        exact ⟨this.2.2.2.2.1, this.2.2.2.2.2⟩
      generalize kd b p (rn b ln isL p) = j at *
      obtain ⟨p1, p2, p3, p4, p5, p6⟩ := P
      unfold full at c2
      unfold takeV
      rcases (show j = 0 ∨ j = 1 ∨ j = 2 ∨ j = 3 ∨ j = 4 by omega) with rfl | rfl | rfl | rfl | rfl
      · rw [if_pos rfl]
        refine ⟨⟨by show tN v + 1 ≤ 8; omega, p1.2⟩, fun c hc => ?_, p3, p4, p5, p6⟩
        have hc : c < tN v + 1 := hc
        by_cases hcN : c = tN v
        · subst hcN
          have x0 := hv 0 (by decide)
          have x1 := hv 1 (by decide)
          have x2 := hv 2 (by decide)
          have x3 := hv 3 (by decide)
          have x4 := hv 4 (by decide)
          refine ⟨?_, fun k hk => ?_, ?_⟩
          · show (if 5 * tN v ≤ 5 * tN v then x (5 * tN v - 5 * tN v) else _) ≤ 999
            rw [if_pos (Nat.le_refl _), Nat.sub_self]
            exact x0.2
          · show (if 5 * tN v ≤ 5 * tN v + 1 + k then x (5 * tN v + 1 + k - 5 * tN v) else _) ≤ 7
            rw [if_pos (by omega), show 5 * tN v + 1 + k - 5 * tN v = 1 + k by omega]
            rcases (show k = 0 ∨ k = 1 ∨ k = 2 by omega) with rfl | rfl | rfl
            · exact x1.2
            · exact x2.2
            · exact x3.2
          · show (if 5 * tN v ≤ 5 * tN v + 4 then x (5 * tN v + 4 - 5 * tN v) else _) ≤ 99
            rw [if_pos (by omega), show 5 * tN v + 4 - 5 * tN v = 4 by omega]
            exact x4.2
        · obtain ⟨r1, r2, r3⟩ := p2 c (by omega)
          refine ⟨?_, fun k hk => ?_, ?_⟩
          · show (if 5 * tN v ≤ 5 * c then _ else tC v (5 * c)) ≤ 999
            rw [if_neg (by omega)]; exact r1
          · show (if 5 * tN v ≤ 5 * c + 1 + k then _ else tC v (5 * c + 1 + k)) ≤ 7
            rw [if_neg (by omega)]; exact r2 k hk
          · show (if 5 * tN v ≤ 5 * c + 4 then _ else tC v (5 * c + 4)) ≤ 99
            rw [if_neg (by omega)]; exact r3
      · rw [if_neg (by decide), if_pos rfl]
        refine ⟨⟨p1.1, by show tK v + 1 ≤ 5; omega⟩, p2, fun c hc => ?_, p4, p5, p6⟩
        have hc : c < tK v + 1 := hc
        by_cases hcN : c = tK v
        · subst hcN
          have x0 := hv 0 (by decide)
          have x1 := hv 1 (by decide)
          show (1 ≤ (if 2 * tK v ≤ 2 * tK v then x (2 * tK v - 2 * tK v) else _) ∧ (if 2 * tK v ≤ 2 * tK v then x (2 * tK v - 2 * tK v) else _) ≤ 999) ∧ 1 ≤ (if 2 * tK v ≤ 2 * tK v + 1 then x (2 * tK v + 1 - 2 * tK v) else _) ∧ (if 2 * tK v ≤ 2 * tK v + 1 then x (2 * tK v + 1 - 2 * tK v) else _) ≤ 9
          rw [if_pos (Nat.le_refl _), if_pos (by omega), Nat.sub_self, show 2 * tK v + 1 - 2 * tK v = 1 by omega]
          exact ⟨x0, x1⟩
        · have r := p3 c (by omega)
          show (1 ≤ (if 2 * tK v ≤ 2 * c then _ else tS v (2 * c)) ∧ (if 2 * tK v ≤ 2 * c then _ else tS v (2 * c)) ≤ 999) ∧ 1 ≤ (if 2 * tK v ≤ 2 * c + 1 then _ else tS v (2 * c + 1)) ∧ (if 2 * tK v ≤ 2 * c + 1 then _ else tS v (2 * c + 1)) ≤ 9
          rw [if_neg (by omega), if_neg (by omega)]
          exact r
      · rw [if_neg (by decide), if_neg (by decide)]
        exact ⟨p1, p2, p3, hv 0 (by decide), p5, p6⟩
      · rw [if_neg (by decide), if_neg (by decide)]
        exact ⟨p1, p2, p3, p4, (hv 0 (by decide)).2, p6⟩
      · rw [if_neg (by decide), if_neg (by decide)]
        exact ⟨p1, p2, p3, p4, p5, (hv 0 (by decide)).2⟩
    · rw [if_neg c4] at h
      cases h
variable {σ0 σ : bl_St} {f : Int32}
theorem x_isWord (w : WX σ0 b ln) (h : XS σ0 σ ln p f) {st en j : Nat} (hj : j < 5) (hse : st ≤ en) (hen : en ≤ ln) : f_X7_isWord σ 1 j (nI st) (nI en) = some (if wM b st en j then 1 else 0, σ) := by
  have h4 := w.2.2.1
  have hl : bl_tl.getD j 0 = (wd5 j).length := tl_len j (by omega)
  have h10 : ∀ j, j < 5 → (wd5 j).length ≤ 10 := by decide
  have hl10 := h10 j hj
  have eln : f_J0_length_8abf5 σ j = some (nI (wd5 j).length, σ) := by
    unfold f_J0_length_8abf5
    rw [gd_of (by simpa using (show j < 8 by omega)), hl]
  unfold f_X7_isWord
  rw [eln, bd_some, nI_sub hse]
  by_cases c : en - st = (wd5 j).length
  · rw [if_pos (show nI (en - st) = nI (wd5 j).length by rw [c])]
    have l15 : ∀ (r i m : Nat), i + r = (wd5 j).length → r < m → (∀ k, k < i → nI (b (st + k)) = (wd5 j).getD k 0) → bl_fx (fun _ _ _ _ _ => none) (b_X7_isWord_15) m σ 1 j (nI st) (nI i) = some (if wM b st en j then 1 else 0, σ) := by
      intro r
      induction r with
      | zero =>
        intro i m hi hm hk
        obtain ⟨m, rfl⟩ : ∃ z, m = z + 1 := ⟨m - 1, by omega⟩
        rw [fx_succ]
        unfold b_X7_isWord_15
        rw [eln, bd_some, if_pos (nI_le (by omega) (by omega)), if_pos ⟨c, fun k hkk => hk k (by omega)⟩]
      | succ r ih =>
        intro i m hi hm hk
        obtain ⟨m, rfl⟩ : ∃ z, m = z + 1 := ⟨m - 1, by omega⟩
        have ec : f_J0_charAt_5068e σ j (nI i) = some ((wd5 j).getD i 0, σ) := by
          unfold f_J0_charAt_5068e
          rw [gd_of (by rw [hl, in_nI (by omega) (by omega)]; simpa using (show j < 8 by omega)), nI_clamp (by omega)]
        rw [fx_succ]
        show (bl_bd (f_J0_length_8abf5 σ j) _) = _
        rw [eln, bd_some, if_neg (nI_ge (by omega) (by omega)), nI_add, in_nI (by omega) (by decide), gd_true, ec, bd_some, nI_clamp (by omega), h.byte w (by omega)]
        by_cases q : nI (b (st + i)) = (wd5 j).getD i 0
        · rw [if_pos q, let_eq, nI_1]
          exact ih (i + 1) m (by omega) (by omega) (fun k hkk => by
            by_cases he : k = i
            · rw [he]; exact q
            · exact hk k (by omega))
        · rw [if_neg q, if_neg (fun z => q (z.2 i (by omega)))]
    exact l15 (wd5 j).length 0 bl_fu (by omega) (by unfold bl_fu; omega) (fun k hk => absurd hk (Nat.not_lt_zero k))
  · rw [if_neg (show ¬ nI (en - st) = nI (wd5 j).length from fun z => c (nI_inj (by omega) (by omega) z)), if_neg (fun z => c z.1)]
theorem x_kindOf (w : WX σ0 b ln) (h : XS σ0 σ ln p f) {st en : Nat} (hse : st ≤ en) (hen : en ≤ ln) : f_X7_kindOf σ 1 (nI st) (nI en) = some (if kd b st en = 5 then (-1) else nI (kd b st en), σ) := by
  have step : ∀ (j m : Nat), j < 5 → bl_fx (fun _ _ _ _ _ => none) (b_X7_kindOf_2) (m + 1) σ 1 (nI st) (nI en) (nI j) = if wM b st en j then some (nI j, σ) else bl_fx (fun _ _ _ _ _ => none) (b_X7_kindOf_2) m σ 1 (nI st) (nI en) (nI (j + 1)) := fun j m hj => by
    rw [fx_succ]
    show (if (5 : Int32) ≤ nI j then _ else _) = _
    rw [if_neg (show ¬ (5 : Int32) ≤ nI j from nI_ge (b := 5) hj (by decide)), x_word_of σ hj, bd_some, x_isWord w h hj hse hen, bd_some]
    by_cases c : wM b st en j
    · rw [if_pos c, if_neg (by decide), if_pos c]
    · rw [if_neg c, if_pos rfl, let_eq, nI_1, if_neg c]
  unfold f_X7_kindOf
  show bl_fx (fun _ _ _ _ _ => none) (b_X7_kindOf_2) (19999 + 1) σ 1 (nI st) (nI en) (nI 0) = _
  rw [step 0 19999 (by decide)]
  unfold kd
  by_cases c0 : wM b st en 0
  · rw [if_pos c0, if_pos c0, if_neg (by decide)]
  rw [if_neg c0, if_neg c0]
  show bl_fx (fun _ _ _ _ _ => none) (b_X7_kindOf_2) (19998 + 1) σ 1 (nI st) (nI en) (nI 1) = _
  rw [step 1 19998 (by decide)]
  by_cases c1 : wM b st en 1
  · rw [if_pos c1, if_pos c1, if_neg (by decide)]
  rw [if_neg c1, if_neg c1]
  show bl_fx (fun _ _ _ _ _ => none) (b_X7_kindOf_2) (19997 + 1) σ 1 (nI st) (nI en) (nI 2) = _
  rw [step 2 19997 (by decide)]
  by_cases c2 : wM b st en 2
  · rw [if_pos c2, if_pos c2, if_neg (by decide)]
  rw [if_neg c2, if_neg c2]
  show bl_fx (fun _ _ _ _ _ => none) (b_X7_kindOf_2) (19996 + 1) σ 1 (nI st) (nI en) (nI 3) = _
  rw [step 3 19996 (by decide)]
  by_cases c3 : wM b st en 3
  · rw [if_pos c3, if_pos c3, if_neg (by decide)]
  rw [if_neg c3, if_neg c3]
  show bl_fx (fun _ _ _ _ _ => none) (b_X7_kindOf_2) (19995 + 1) σ 1 (nI st) (nI en) (nI 4) = _
  rw [step 4 19995 (by decide)]
  by_cases c4 : wM b st en 4
  · rw [if_pos c4, if_pos c4, if_neg (by decide)]
  rw [if_neg c4, if_neg c4, if_pos rfl]
  show bl_fx (fun _ _ _ _ _ => none) (b_X7_kindOf_2) (19994 + 1) σ 1 (nI st) (nI en) (nI 5) = _
  rw [fx_succ]
  unfold b_X7_kindOf_2
  rw [if_pos (by decide)]
theorem x_amount (σ : bl_St) {j : Nat} (hj : j < 5) : f_X7_amountOf σ (nI j) = some (nI (pAm j), σ) := by
  rcases (show j = 0 ∨ j = 1 ∨ j = 2 ∨ j = 3 ∨ j = 4 by omega) with rfl | rfl | rfl | rfl | rfl <;> rfl
theorem x_lowest (σ : bl_St) {j : Nat} (hj : j < 5) : f_X7_lowest σ (nI j) = some (nI (pLo j), σ) := by
  rcases (show j = 0 ∨ j = 1 ∨ j = 2 ∨ j = 3 ∨ j = 4 by omega) with rfl | rfl | rfl | rfl | rfl <;> rfl
theorem x_highest (σ : bl_St) {j i : Nat} (hj : j < 5) (hi : i < pAm j) : f_X7_highest σ (nI j) (nI i) = some (nI (pHi j i), σ) := by
  rcases (show j = 0 ∨ j = 1 ∨ j = 2 ∨ j = 3 ∨ j = 4 by omega) with rfl | rfl | rfl | rfl | rfl
  · have hi : i < 5 := hi
    rcases (show i = 0 ∨ i = 1 ∨ i = 2 ∨ i = 3 ∨ i = 4 by omega) with rfl | rfl | rfl | rfl | rfl <;> rfl
  · have hi : i < 2 := hi
    rcases (show i = 0 ∨ i = 1 by omega) with rfl | rfl <;> rfl
  · rfl
  · rfl
  · rfl
theorem x_isFull (h : XS σ0 σ ln p f) (w : WX σ0 b ln) (T : TX σ 4 v) (P : POk v) {j : Nat} (hj : j < 5) : f_X7_isFull σ 1 (nI j) = some (@ite _ (full j v) (Classical.propDecidable _) 1 0, σ) := by
  have p1 := P.1
  have hR : bl_R σ 1 2 = 4 := by rw [h.2.1]; exact w.1.2.2
  unfold f_X7_isFull b_X7_isFull_16
  rw [hR, T.2.1.1, T.2.1.2]
  rcases (show j = 0 ∨ j = 1 ∨ j ≥ 2 by omega) with rfl | rfl | h2
  · rw [if_pos (by rfl)]
    by_cases c : 8 ≤ tN v
    · rw [if_pos (show (8 : Int32) ≤ nI (tN v) from nI_le (a := 8) c (by omega)), if_pos (show full 0 v from Or.inl ⟨rfl, c⟩)]
    · rw [if_neg (show ¬ (8 : Int32) ≤ nI (tN v) from nI_ge (b := 8) (by omega) (by decide)), if_neg (by decide), if_neg (fun z => by unfold full at z; omega)]
  · rw [if_neg (by decide), if_pos (by rfl)]
    by_cases c : 5 ≤ tK v
    · rw [if_neg (show ¬ nI (tK v) < 5 from nI_nlt (b := 5) c (by omega)), if_pos (show full 1 v from Or.inr ⟨rfl, c⟩)]
    · rw [if_pos (show nI (tK v) < 5 from nI_lt (b := 5) (by omega) (by decide)), if_neg (fun z => by unfold full at z; omega)]
  · rw [if_neg (show ¬ nI j = 0 from nI_ne0 (by omega) (by omega)), if_neg (show ¬ nI j = 1 from fun z => by have := nI_inj (b := 1) (by omega) (by decide) z; omega), if_neg (fun z => by unfold full at z; omega)]
end PHR
