/-- is it told -/
def tld (v : tm_V) (rl lm L : Nat) (l : lf_V) (s : Nat) : Nat :=
  if rl = 1 then 1 else if rl = 2 then 0 else if rl = 3 then (if tS v (2 * s) ≤ lm then 0 else 1) else (if cG v L (lP l) (lG l) (min 2 (lC l)) (lU l) s ≤ 0 then 0 else 1)
theorem tld_lt (v : tm_V) (rl lm L : Nat) (l : lf_V) (s : Nat) : tld v rl lm L l s < 2 := by
  unfold tld
  split
  · omega
  · split
    · omega
    · split
      · split <;> omega
      · split <;> omega
/-- the sort that is drawn -/
def dsr (v : tm_V) (x : Int32) : Nat := pkS v (tK v - 1) (dS x % tA v) 0
theorem dsr_lt (v : tm_V) (hK : 0 < tK v) (x : Int32) : dsr v x < tK v := by
  have := pkS_le v (tK v - 1) (dS x % tA v) 0
  unfold dsr
  omega
/-- a chance by draws -/
def chn (v : tm_V) (rl lm L : Nat) (q : lf_V × Int32) : lf_V × Int32 :=
  if dS (dNx q.2) % 12 < tO v then (lPass v (lLoss v q.1 (dsr v (dNx (dNx q.2))) (tld v rl lm L q.1 (dsr v (dNx (dNx q.2))))), dNx (dNx q.2)) else (lPass v q.1, dNx q.2)
def itF {α : Type} (f : Nat → α → α) : Nat → α → α
  | 0, q => q
  | r + 1, q => itF f r (f (r + 1) q)
theorem itF_0 {α : Type} (f : Nat → α → α) (q : α) : itF f 0 q = q := rfl
theorem itF_1 {α : Type} (f : Nat → α → α) (r : Nat) (q : α) : itF f (r + 1) q = itF f r (f (r + 1) q) := rfl
def chs (v : tm_V) (rl lm L r : Nat) (q : lf_V × Int32) : lf_V × Int32 := itF (fun _ => chn v rl lm L) r q
def yrg (v : tm_V) (rl L : Nat) (l : lf_V) : Nat := if rl = 0 then cGd v false 0 0 true 1 0 (L - 1) (lP l) else 0
theorem yrg_lt (v : tm_V) (rl L : Nat) (l : lf_V) : yrg v rl L l < 2 := by
  unfold yrg
  split
  · exact cGd_lt _ _ _ _ _ _ _ _ _
  · omega
def yr (v : tm_V) (rl lm L : Nat) (q : lf_V × Int32) : lf_V × Int32 := chs v rl lm L (tH v) (lBegin v q.1 (yrg v rl L q.1), q.2)
def yrs (v : tm_V) (rl lm L : Nat) (q : lf_V × Int32) : lf_V × Int32 := itF (yr v rl lm) L q
/-- within a year, at its beginning -/
def YI (v : tm_V) (m L c : Nat) (l : lf_V) (k : Nat) : Prop := LOk v l m ∧ (lO l = 1 ∧ lG l = k ∧ lP l = c) ∧ (lU l = 1 → lC l = 0) ∧ lE l + L ≤ 20 * m ∧ lT l + lB l + 3 * L ≤ 60 * m + k
def YE (v : tm_V) (m L : Nat) (l : lf_V) : Prop := LOk v l m ∧ lO l = 0 ∧ lE l + L ≤ 20 * m ∧ lT l + lB l + 3 * L ≤ 60 * m
def YS (v : tm_V) (m L c : Nat) (l : lf_V) (k : Nat) : Prop := (k < tH v → YI v m L c l k) ∧ (k = tH v → YE v m (L - 1) l)
section YRS
variable {v : tm_V} {m L c k : Nat} {l : lf_V}
theorem yi_begin (h : YE v m L l) (ok : TOk v) (hN : 0 < tN v) {g : Nat} (hg : g < 2) : YI v m L (lP l) (lBegin v l g) 0 :=
  ⟨lOk_begin h.1 ok hN hg, ⟨rfl, rfl, rfl⟩, fun _ => rfl, h.2.2.1, h.2.2.2⟩
theorem lLoss_f (v : tm_V) (l : lf_V) (s d : Nat) : lP (lLoss v l s d) = lP l ∧ lO (lLoss v l s d) = lO l ∧ lG (lLoss v l s d) = lG l ∧ lE (lLoss v l s d) = lE l ∧ lT (lLoss v l s d) + lB (lLoss v l s d) = lT l + lB l + 1 ∧ ((lU l = 1 → lC l = 0) → lU (lLoss v l s d) = 1 → lC (lLoss v l s d) = 0) := by
  unfold lLoss
  split
  · exact ⟨rfl, rfl, rfl, rfl, by show lT l + 1 + lB l = _; omega, fun _ z => absurd z (by show ¬ 0 = 1; decide)⟩
  · exact ⟨rfl, rfl, rfl, rfl, by show lT l + (lB l + 1) = _; omega, fun h z => h z⟩
theorem ys_pass (w : WOk v l m) (ok : TOk v) (hk : lG l = k) (hc : lP l = c) (hU : lU l = 1 → lC l = 0) (hE : lE l + L ≤ 20 * m) (hB : lT l + lB l + 3 * L ≤ 60 * m + (k + 1)) (hL : 1 ≤ L) : YS v m L c (lPass v l) (k + 1) := by
  have hH := ok.2.2.2.1
  have q := lOk_pass w ok (show lE l + 1 ≤ 20 * m by omega)
  unfold lPass at *
  by_cases hlt : lG l + 1 < tH v
  · rw [if_pos hlt] at *
    exact ⟨fun _ => ⟨q, ⟨w.2.1, by show lG l + 1 = k + 1; omega, hc⟩, hU, hE, hB⟩, fun z => by omega⟩
  · rw [if_neg hlt] at *
    refine ⟨fun z => by omega, fun z => ⟨q, rfl, by show lE l + 1 + (L - 1) ≤ 20 * m; omega, by show lT l + lB l + 3 * (L - 1) ≤ 60 * m; omega⟩⟩
theorem ys_chn {q : lf_V × Int32} (y : YI v m L c q.1 k) (ok : TOk v) (hK : 0 < tK v) (hL : 1 ≤ L) (rl lm : Nat) : YS v m L c (chn v rl lm L q).1 (k + 1) := by
  have hH := ok.2.2.2.1
  obtain ⟨l, x⟩ := q
  have y : YI v m L c l k := y
  obtain ⟨hl, ⟨ho, hg, hp⟩, hU, hE, hB⟩ := y
  have w := hl.wk ok ho
  have hG := w.2.2.1
  unfold chn
  split
  · obtain ⟨s, hs⟩ : ∃ s, s = dsr v (dNx (dNx x)) := ⟨_, rfl⟩
    have hsl : s < tK v := by rw [hs]; exact dsr_lt v hK _
    obtain ⟨d, hd⟩ : ∃ d, d = tld v rl lm L l s := ⟨_, rfl⟩
    show YS v m L c (lPass v (lLoss v l (dsr v (dNx (dNx x))) (tld v rl lm L l (dsr v (dNx (dNx x)))))) (k + 1)
    rw [← hs, ← hd]
    obtain ⟨f1, f2, f3, f4, f5, f6⟩ := lLoss_f v l s d
    exact ys_pass (wOk_loss hl ok ho hsl (by omega)) ok (by rw [f3]; exact hg) (by rw [f1]; exact hp) (f6 hU) (by rw [f4]; exact hE) (by rw [f5]; omega) hL
  · show YS v m L c (lPass v l) (k + 1)
    have hB' : lT l + lB l + 3 * L ≤ 60 * m + (k + 1) := by omega
    exact ys_pass w ok hg hp hU hE hB' hL
theorem chs_0 (v : tm_V) (rl lm L : Nat) (q : lf_V × Int32) : chs v rl lm L 0 q = q := by unfold chs; exact itF_0 _ _
theorem chs_1 (v : tm_V) (rl lm L r : Nat) (q : lf_V × Int32) : chs v rl lm L (r + 1) q = chs v rl lm L r (chn v rl lm L q) := by unfold chs; exact itF_1 _ _ _
theorem yrs_0 (v : tm_V) (rl lm : Nat) (q : lf_V × Int32) : yrs v rl lm 0 q = q := by unfold yrs; exact itF_0 _ _
theorem yrs_1 (v : tm_V) (rl lm L : Nat) (q : lf_V × Int32) : yrs v rl lm (L + 1) q = yrs v rl lm L (yr v rl lm (L + 1) q) := by unfold yrs; exact itF_1 _ _ _
theorem ys_chs (ok : TOk v) (hK : 0 < tK v) (hL : 1 ≤ L) (rl lm : Nat) : ∀ (r k : Nat) (q : lf_V × Int32), k + r = tH v → YS v m L c q.1 k → YE v m (L - 1) (chs v rl lm L r q).1 := by
  intro r
  induction r with
  | zero => intro k q hk y; rw [chs_0]; exact y.2 (by omega)
  | succ r ih => intro k q hk y; rw [chs_1]; exact ih (k + 1) _ (by omega) (ys_chn (y.1 (by omega)) ok hK hL rl lm)
theorem ye_yr {q : lf_V × Int32} (h : YE v m L q.1) (ok : TOk v) (hN : 0 < tN v) (hK : 0 < tK v) (hL : 1 ≤ L) (rl lm : Nat) : YE v m (L - 1) (yr v rl lm L q).1 := by
  have hH := ok.2.2.2.1
  unfold yr
  exact ys_chs (c := lP q.1) ok hK hL rl lm (tH v) 0 _ (by omega) ⟨fun _ => yi_begin h ok hN (yrg_lt v rl L q.1), fun z => by omega⟩
theorem ye_yrs (ok : TOk v) (hN : 0 < tN v) (hK : 0 < tK v) (rl lm : Nat) : ∀ (L : Nat) (q : lf_V × Int32), YE v m L q.1 → YE v m 0 (yrs v rl lm L q).1 := by
  intro L
  induction L with
  | zero => intro q h; rw [yrs_0]; exact h
  | succ L ih => intro q h; rw [yrs_1]; exact ih _ (ye_yr h ok hN hK (by omega) rl lm)
/-! two lives that differ by what was before -/
abbrev ofs : Type := (Nat × Nat) × Int32 × Int32 × Int32 × Int32
def SIM (e : ofs) (l l' : lf_V) : Prop := (lP l' = lP l ∧ lO l' = lO l ∧ lG l' = lG l ∧ lC l' = lC l ∧ lU l' = lU l) ∧ (lT l' = lT l + e.1.1 ∧ lB l' = lB l + e.1.2) ∧ lpp l' = lpp l + e.2.1 ∧ lpg l' = lpg l + e.2.2.1 ∧ lpt l' = lpt l + e.2.2.2.1 ∧ lpb l' = lpb l + e.2.2.2.2
variable {e : ofs} {l' : lf_V}
theorem i3 (a b c : Int32) : a + b + c = a + c + b := by ac_rfl
theorem sim_begin (h : SIM e l l') (g : Nat) : SIM e (lBegin v l g) (lBegin v l' g) := by
  obtain ⟨⟨h1, h2, h3, h4, h5⟩, ⟨h6, h7⟩, h8, h9, h10, h11⟩ := h
  refine ⟨⟨h1, rfl, rfl, rfl, rfl⟩, ⟨h6, h7⟩, ?_, ?_, h10, h11⟩
  · show lpp l' + nI (tC v (5 * lP l')) = lpp l + nI (tC v (5 * lP l)) + e.2.1
    rw [h1, h8, i3]
  · show lpg l' + nI (g * tC v (5 * lP l' + 4)) = lpg l + nI (g * tC v (5 * lP l + 4)) + e.2.2.1
    rw [h1, h9, i3]
theorem sim_pass (h : SIM e l l') : SIM e (lPass v l) (lPass v l') := by
  obtain ⟨⟨h1, h2, h3, h4, h5⟩, ⟨h6, h7⟩, h8, h9, h10, h11⟩ := h
  unfold lPass
  rw [h3]
  split
  · exact ⟨⟨h1, h2, by show lG l + 1 = lG l + 1; rfl, h4, h5⟩, ⟨h6, h7⟩, h8, h9, h10, h11⟩
  · refine ⟨⟨?_, rfl, rfl, rfl, rfl⟩, ⟨h6, h7⟩, h8, h9, h10, h11⟩
    show tB v (lP l') (lC l') = tB v (lP l) (lC l)
    rw [h1, h4]
theorem sim_loss (h : SIM e l l') (s d : Nat) : SIM e (lLoss v l s d) (lLoss v l' s d) := by
  obtain ⟨⟨h1, h2, h3, h4, h5⟩, ⟨h6, h7⟩, h8, h9, h10, h11⟩ := h
  unfold lLoss
  split
  · refine ⟨⟨h1, h2, h3, ?_, rfl⟩, ⟨?_, h7⟩, h8, h9, ?_, h11⟩
    · show (if lU l' = 1 then lC l' else lC l' + 1) = if lU l = 1 then lC l else lC l + 1
      rw [h4, h5]
    · show lT l' + 1 = lT l + 1 + e.1.1
      omega
    · show lpt l' + nI (tP v s) = lpt l + nI (tP v s) + e.2.2.2.1
      rw [h10, i3]
  · refine ⟨⟨h1, h2, h3, h4, h5⟩, ⟨h6, ?_⟩, h8, h9, h10, ?_⟩
    · show lB l' + 1 = lB l + 1 + e.1.2
      omega
    · show lpb l' + nI (tS v (2 * s)) = lpb l + nI (tS v (2 * s)) + e.2.2.2.2
      rw [h11, i3]
theorem sim_chn {q q' : lf_V × Int32} (h : SIM e q.1 q'.1) (hx : q'.2 = q.2) (rl lm L : Nat) : SIM e (chn v rl lm L q).1 (chn v rl lm L q').1 ∧ (chn v rl lm L q').2 = (chn v rl lm L q).2 := by
  unfold chn
  have et : ∀ s, tld v rl lm L q'.1 s = tld v rl lm L q.1 s := fun s => by
    unfold tld
    rw [h.1.1, h.1.2.2.1, h.1.2.2.2.1, h.1.2.2.2.2]
  rw [hx, et]
  split
  · exact ⟨sim_pass (sim_loss h _ _), rfl⟩
  · exact ⟨sim_pass h, rfl⟩
theorem sim_chs (rl lm L : Nat) : ∀ (r : Nat) (q q' : lf_V × Int32), SIM e q.1 q'.1 → q'.2 = q.2 → SIM e (chs v rl lm L r q).1 (chs v rl lm L r q').1 ∧ (chs v rl lm L r q').2 = (chs v rl lm L r q).2 := by
  intro r
  induction r with
  | zero => intro q q' h hx; rw [chs_0, chs_0]; exact ⟨h, hx⟩
  | succ r ih =>
    intro q q' h hx
    obtain ⟨a, b⟩ := sim_chn (v := v) h hx rl lm L
    rw [chs_1, chs_1]
    exact ih _ _ a b
theorem sim_yr {q q' : lf_V × Int32} (h : SIM e q.1 q'.1) (hx : q'.2 = q.2) (rl lm L : Nat) : SIM e (yr v rl lm L q).1 (yr v rl lm L q').1 ∧ (yr v rl lm L q').2 = (yr v rl lm L q).2 := by
  have eg : yrg v rl L q'.1 = yrg v rl L q.1 := by unfold yrg; rw [h.1.1]
  unfold yr
  rw [eg, hx]
  exact sim_chs rl lm L (tH v) _ _ (sim_begin h _) rfl
theorem sim_yrs (rl lm : Nat) : ∀ (L : Nat) (q q' : lf_V × Int32), SIM e q.1 q'.1 → q'.2 = q.2 → SIM e (yrs v rl lm L q).1 (yrs v rl lm L q').1 := by
  intro L
  induction L with
  | zero => intro q q' h hx; rw [yrs_0, yrs_0]; exact h
  | succ L ih =>
    intro q q' h hx
    obtain ⟨a, b⟩ := sim_yr (v := v) h hx rl lm (L + 1)
    rw [yrs_1, yrs_1]
    exact ih _ _ a b
end YRS
