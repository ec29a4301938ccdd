/-! ===== a life by draws: what is drawn, what becomes of the life ===== -/
def dNx (x : Int32) : Int32 := x * 1103515245 + 12345
def dS (x : Int32) : Nat := (((Int32.toUInt32 x) >>> ((Int32.toUInt32 8) &&& Int32.toUInt32 31)).toInt32).toBitVec.toNat
theorem dS_lt (x : Int32) : dS x < 2 ^ 24 := by
  have h : dS x = (x.toBitVec >>> 8).toNat := rfl
  rw [h, BitVec.toNat_ushiftRight, Nat.shiftRight_eq_div_pow]
  have := x.toBitVec.isLt
  omega
theorem dS_e (x : Int32) : ((Int32.toUInt32 x) >>> ((Int32.toUInt32 8) &&& Int32.toUInt32 31)).toInt32 = nI (dS x) := (nI_self _).symm
theorem nI_subneg {a b : Nat} (h : a < b) (hb : b < 2 ^ 31) : ¬ (0 : Int32) ≤ nI a - nI b := by
  rw [Int32.le_iff_toInt_le, Int32.toInt_sub, nI_toInt (by omega), nI_toInt hb, Int.bmod_eq_of_le (by omega) (by omega)]
  have e : (0 : Int32).toInt = 0 := rfl
  rw [e]
  omega
def pk (v : tm_V) : Nat → Nat → Nat → Nat
  | 0, _, s => s
  | f + 1, r, s => if r < tS v (2 * s + 1) then s else pk v f (r - tS v (2 * s + 1)) (s + 1)
theorem pk_le (v : tm_V) : ∀ f r s, pk v f r s ≤ s + f
  | 0, _, s => Nat.le_refl s
  | f + 1, r, s => by
    unfold pk
    split
    · omega
    · have := pk_le v f (r - tS v (2 * s + 1)) (s + 1)
      omega
section DRW
variable {σ τ : bl_St} {v : tm_V} {x : Int32}
theorem x_dnext (h : bl_I σ 136 0 = x) {b : Nat} (hb : 0 < b) (hb2 : b < 2 ^ 31) : f_X0_next σ 136 (nI b) = some (nI (dS (dNx x) % b), bl_pI σ 136 0 (dNx x)) := by
  have hd := dS_lt (dNx x)
  unfold f_X0_next
  rw [let_eq, h, if_neg (nI_nle hb hb2), gd_of (by simp [nI_ne0 hb hb2]), show x * 1103515245 + 12345 = dNx x from rfl, I_pI_self, dS_e, nI_mod (by omega) hb2]
theorem m_dnext (h : bl_I τ 139 6 = x) {b : Nat} (hb : 0 < b) (hb2 : b < 2 ^ 31) : f_X10_draws τ 139 (nI b) = some (nI (dS (dNx x) % b), bl_pI τ 139 6 (dNx x)) := by
  have hd := dS_lt (dNx x)
  unfold f_X10_draws
  rw [let_eq, h, gd_of (by simp [nI_ne0 hb hb2]), show x * 1103515245 + 12345 = dNx x from rfl, I_pI_self, dS_e, nI_mod (by omega) hb2]
theorem x_pick {t : Nat} (hT : TX σ t v) (ok : TOk v) (hK : 0 < tK v) : ∀ (f s r m : Nat), s + f = tK v - 1 → r < 2 ^ 24 → f < m → bl_fx (fun _ _ _ _ _ => none) (b_X0_nextSort_19) m σ t (nI r) (nI (tK v - 1)) (nI s) = some (nI (pk v f r s), σ) := by
  have h5 := ok.k5
  intro f
  induction f with
  | zero =>
    intro s r m hs hr hm
    obtain ⟨m, rfl⟩ : ∃ z, m = z + 1 := ⟨m - 1, by omega⟩
    rw [fx_succ]
    unfold b_X0_nextSort_19
    rw [if_pos (nI_le (by omega) (by omega)), show tK v - 1 = s by omega]
    rfl
  | succ f ih =>
    intro s r m hs hr hm
    obtain ⟨m, rfl⟩ : ∃ z, m = z + 1 := ⟨m - 1, by omega⟩
    have hw := (ok.2.2.1 s (by omega)).2
    have ep : pk v (f + 1) r s = if r < tS v (2 * s + 1) then s else pk v f (r - tS v (2 * s + 1)) (s + 1) := rfl
    rw [fx_succ, ep]
    show (if nI (tK v - 1) ≤ nI s then _ else _) = _
    rw [if_neg (nI_ge (by omega) (by omega)), show (1 : Int32) = nI 1 from rfl, x_sortPart hT ok (by omega) (by decide), bd_some, let_eq]
    by_cases h : r < tS v (2 * s + 1)
    · rw [if_pos h, if_neg (nI_subneg h (by omega))]
    · rw [if_neg h, nI_sub (by omega), if_pos (nI_pos' (by omega)), let_eq, nI_add]
      exact ih (s + 1) (r - tS v (2 * s + 1)) m (by omega) (by omega) (by omega)
theorem x_nextSort (hT : TX σ 10 v) (ok : TOk v) (hK : 0 < tK v) (h : bl_I σ 136 0 = x) : f_X0_nextSort σ 136 10 = some (nI (pk v (tK v - 1) (dS (dNx x) % tA v) 0), bl_pI σ 136 0 (dNx x)) := by
  have h5 := ok.k5
  have hA := tm_A_ge ok (tK v) (Nat.le_refl _)
  have hA2 := tm_A_le ok (tK v) (Nat.le_refl _)
  have hd := dS_lt (dNx x)
  have hr := Nat.mod_le (dS (dNx x)) (tA v)
  unfold f_X0_nextSort
  rw [x_allWeights hT ok, bd_some, x_dnext h (by omega) (by omega), bd_some, let_eq]
  have hT1 : TX (bl_pI σ 136 0 (dNx x)) 10 v := hT.kq ((Kq.rf (fun i => i = 136) σ).pI rfl _ _) (fun i a b c => by omega)
  rw [hT1.2.1.2, show (1 : Int32) = nI 1 from rfl, nI_sub hK]
  exact x_pick hT1 ok hK (tK v - 1) 0 _ bl_fu (by omega) (by omega) (by unfold bl_fu; omega)
theorem m_pick (hR : bl_R τ 139 1 = 140) (hT : TM τ 140 0 v) (ok : TOk v) (hK : 0 < tK v) : ∀ (f s r m : Nat), s + f = tK v - 1 → r + tm_A v s < tA v → f < m → bl_fx (fun _ _ _ _ => none) (b_X10_sortDrawn_11) m τ 139 (nI r) (nI s) = some (nI (pk v f r s), τ) := by
  have h5 := ok.k5
  have hA2 := tm_A_le ok (tK v) (Nat.le_refl _)
  intro f
  induction f with
  | zero =>
    intro s r m hs hr hm
    obtain ⟨m, rfl⟩ : ∃ z, m = z + 1 := ⟨m - 1, by omega⟩
    have hw := (ok.2.2.1 s (by omega)).2
    have ea : tA v = tm_A v s + tS v (2 * s + 1) := by
      show tm_A v (tK v) = _
      rw [show tK v = s + 1 by omega]
      rfl
    rw [fx_succ]
    unfold b_X10_sortDrawn_11
    rw [m_weight hR hT ok (by omega), bd_some, if_pos (nI_lt (by omega) (by omega))]
    rfl
  | succ f ih =>
    intro s r m hs hr hm
    obtain ⟨m, rfl⟩ : ∃ z, m = z + 1 := ⟨m - 1, by omega⟩
    have hw := (ok.2.2.1 s (by omega)).2
    have ep : pk v (f + 1) r s = if r < tS v (2 * s + 1) then s else pk v f (r - tS v (2 * s + 1)) (s + 1) := rfl
    have ea : tm_A v (s + 1) = tm_A v s + tS v (2 * s + 1) := rfl
    rw [fx_succ, ep]
    show (bl_bd (f_X10_weight τ 139 (nI s)) _) = _
    rw [m_weight hR hT ok (by omega), bd_some]
    by_cases h : r < tS v (2 * s + 1)
    · rw [if_pos h, if_pos (nI_lt h (by omega))]
    · rw [if_neg h, if_neg (nI_nlt (by omega) (by omega)), m_weight hR hT ok (by omega), bd_some, let_eq, let_eq, nI_sub (by omega), nI_1]
      exact ih (s + 1) (r - tS v (2 * s + 1)) m (by omega) (by omega) (by omega)
theorem m_sortDrawn (hR : bl_R τ 139 1 = 140) (hT : TM τ 140 0 v) (ok : TOk v) (hK : 0 < tK v) (h : bl_I τ 139 6 = x) : f_X10_sortDrawn τ 139 = some (nI (pk v (tK v - 1) (dS (dNx x) % tA v) 0), bl_pI τ 139 6 (dNx x)) := by
  have h5 := ok.k5
  have hA := tm_A_ge ok (tK v) (Nat.le_refl _)
  have hA2 := tm_A_le ok (tK v) (Nat.le_refl _)
  have hr := Nat.mod_lt (dS (dNx x)) (show 0 < tA v by omega)
  have z : tm_A v 0 = 0 := rfl
  unfold f_X10_sortDrawn
  rw [m_weights hR hT ok, bd_some, m_dnext h (by omega) (by omega), bd_some]
  have hT1 : TM (bl_pI τ 139 6 (dNx x)) 140 0 v := by
    unfold TM at *
    rw [I_pI_o (by decide)]
    exact hT
  exact m_pick hR hT1 ok hK (tK v - 1) 0 _ bl_fu (by omega) (by omega) (by unfold bl_fu; omega)
end DRW
/-- is it told -/
def tld (v : tm_V) (rl lm L : Nat) (l : lf_V) (s : Nat) : Nat :=
  if rl = 1 then 1 else if rl = 2 then 0 else if rl = 3 then (if tS v (2 * s) ≤ lm then 0 else 1) else (if cG v L (lP l) (lG l) (min 2 (lC l)) (lU l) s ≤ 0 then 0 else 1)
theorem tld_lt (v : tm_V) (rl lm L : Nat) (l : lf_V) (s : Nat) : tld v rl lm L l s < 2 := by
  unfold tld
  split
  · omega
  · split
    · omega
    · split
      · split <;> omega
      · split <;> omega
/-- the sort that is drawn -/
def dsr (v : tm_V) (x : Int32) : Nat := pk v (tK v - 1) (dS x % tA v) 0
theorem dsr_lt (v : tm_V) (hK : 0 < tK v) (x : Int32) : dsr v x < tK v := by
  have := pk_le v (tK v - 1) (dS x % tA v) 0
  unfold dsr
  omega
/-- a chance by draws -/
def chn (v : tm_V) (rl lm L : Nat) (q : lf_V × Int32) : lf_V × Int32 :=
  if dS (dNx q.2) % 12 < tO v then (lPass v (lLoss v q.1 (dsr v (dNx (dNx q.2))) (tld v rl lm L q.1 (dsr v (dNx (dNx q.2))))), dNx (dNx q.2)) else (lPass v q.1, dNx q.2)
def chs (v : tm_V) (rl lm L : Nat) : Nat → lf_V × Int32 → lf_V × Int32
  | 0, q => q
  | r + 1, q => chs v rl lm L r (chn v rl lm L q)
def yrg (v : tm_V) (rl L : Nat) (l : lf_V) : Nat := if rl = 0 then cGd v false 0 0 true 1 0 (L - 1) (lP l) else 0
theorem yrg_lt (v : tm_V) (rl L : Nat) (l : lf_V) : yrg v rl L l < 2 := by
  unfold yrg
  split
  · exact cGd_lt _ _ _ _ _ _ _ _ _
  · omega
def yr (v : tm_V) (rl lm L : Nat) (q : lf_V × Int32) : lf_V × Int32 := chs v rl lm L (tH v) (lBegin v q.1 (yrg v rl L q.1), q.2)
def yrs (v : tm_V) (rl lm : Nat) : Nat → lf_V × Int32 → lf_V × Int32
  | 0, q => q
  | L + 1, q => yrs v rl lm L (yr v rl lm (L + 1) q)
/-- within a year, at its beginning -/
def YI (v : tm_V) (m L c : Nat) (l : lf_V) (k : Nat) : Prop := LOk v l m ∧ (lO l = 1 ∧ lG l = k ∧ lP l = c) ∧ (lU l = 1 → lC l = 0) ∧ lE l + L ≤ 20 * m ∧ lT l + lB l + 3 * L ≤ 60 * m + k
def YE (v : tm_V) (m L : Nat) (l : lf_V) : Prop := LOk v l m ∧ lO l = 0 ∧ lE l + L ≤ 20 * m ∧ lT l + lB l + 3 * L ≤ 60 * m
def YS (v : tm_V) (m L c : Nat) (l : lf_V) (k : Nat) : Prop := (k < tH v → YI v m L c l k) ∧ (k = tH v → YE v m (L - 1) l)
section YRS
variable {v : tm_V} {m L c k : Nat} {l : lf_V}
theorem yi_begin (h : YE v m L l) (ok : TOk v) (hN : 0 < tN v) {g : Nat} (hg : g < 2) : YI v m L (lP l) (lBegin v l g) 0 :=
  ⟨lOk_begin h.1 ok hN hg, ⟨rfl, rfl, rfl⟩, fun _ => rfl, h.2.2.1, h.2.2.2⟩
theorem lLoss_f (v : tm_V) (l : lf_V) (s d : Nat) : lP (lLoss v l s d) = lP l ∧ lO (lLoss v l s d) = lO l ∧ lG (lLoss v l s d) = lG l ∧ lE (lLoss v l s d) = lE l ∧ lT (lLoss v l s d) + lB (lLoss v l s d) = lT l + lB l + 1 ∧ ((lU l = 1 → lC l = 0) → lU (lLoss v l s d) = 1 → lC (lLoss v l s d) = 0) := by
  unfold lLoss
  split
  · exact ⟨rfl, rfl, rfl, rfl, by show lT l + 1 + lB l = _; omega, fun _ z => absurd z (by show ¬ 0 = 1; decide)⟩
  · exact ⟨rfl, rfl, rfl, rfl, by show lT l + (lB l + 1) = _; omega, fun h z => h z⟩
theorem ys_pass (w : WOk v l m) (ok : TOk v) (hk : lG l = k) (hc : lP l = c) (hU : lU l = 1 → lC l = 0) (hE : lE l + L ≤ 20 * m) (hB : lT l + lB l + 3 * L ≤ 60 * m + (k + 1)) (hL : 1 ≤ L) : YS v m L c (lPass v l) (k + 1) := by
  have hH := ok.2.2.2.1
  have q := lOk_pass w ok (show lE l + 1 ≤ 20 * m by omega)
  unfold lPass at *
  by_cases hlt : lG l + 1 < tH v
  · rw [if_pos hlt] at *
    exact ⟨fun _ => ⟨q, ⟨w.2.1, by show lG l + 1 = k + 1; omega, hc⟩, hU, hE, hB⟩, fun z => by omega⟩
  · rw [if_neg hlt] at *
    refine ⟨fun z => by omega, fun z => ⟨q, rfl, by show lE l + 1 + (L - 1) ≤ 20 * m; omega, by show lT l + lB l + 3 * (L - 1) ≤ 60 * m; omega⟩⟩
theorem ys_chn (y : YI v m L c l k) (ok : TOk v) (hK : 0 < tK v) (hL : 1 ≤ L) (rl lm : Nat) (x : Int32) : YS v m L c (chn v rl lm L (l, x)).1 (k + 1) := by
  have hH := ok.2.2.2.1
  obtain ⟨hl, ⟨ho, hg, hp⟩, hU, hE, hB⟩ := y
  have w := hl.wk ok ho
  have hG := w.2.2.1
  unfold chn
  split
  · obtain ⟨s, hs⟩ : ∃ s, s = dsr v (dNx (dNx x)) := ⟨_, rfl⟩
    have hsl : s < tK v := by rw [hs]; exact dsr_lt v hK _
    obtain ⟨d, hd⟩ : ∃ d, d = tld v rl lm L l s := ⟨_, rfl⟩
    show YS v m L c (lPass v (lLoss v l (dsr v (dNx (dNx x))) (tld v rl lm L l (dsr v (dNx (dNx x)))))) (k + 1)
    rw [← hs, ← hd]
    obtain ⟨f1, f2, f3, f4, f5, f6⟩ := lLoss_f v l s d
    exact ys_pass (wOk_loss hl ok ho hsl (by omega)) ok (by rw [f3]; exact hg) (by rw [f1]; exact hp) (f6 hU) (by rw [f4]; exact hE) (by rw [f5]; omega) hL
  · exact ys_pass w ok hg hp hU hE (by omega) hL
theorem ys_chs (ok : TOk v) (hK : 0 < tK v) (hL : 1 ≤ L) (rl lm : Nat) : ∀ (r k : Nat) (q : lf_V × Int32), k + r = tH v → YS v m L c q.1 k → YE v m (L - 1) (chs v rl lm L r q).1 := by
  intro r
  induction r with
  | zero => intro k q hk y; exact y.2 (by omega)
  | succ r ih => intro k q hk y; exact ih (k + 1) _ (by omega) (ys_chn (y.1 (by omega)) ok hK hL rl lm q.2)
theorem ye_yr (h : YE v m L l) (ok : TOk v) (hN : 0 < tN v) (hK : 0 < tK v) (hL : 1 ≤ L) (rl lm : Nat) (x : Int32) : YE v m (L - 1) (yr v rl lm L (l, x)).1 := by
  have hH := ok.2.2.2.1
  exact ys_chs ok hK hL rl lm (tH v) 0 _ (by omega) ⟨fun _ => yi_begin h ok hN (yrg_lt v rl L l), fun z => by omega⟩
theorem ye_yrs (ok : TOk v) (hN : 0 < tN v) (hK : 0 < tK v) (rl lm : Nat) : ∀ (L : Nat) (q : lf_V × Int32), YE v m L q.1 → YE v m 0 (yrs v rl lm L q).1 := by
  intro L
  induction L with
  | zero => intro q h; exact h
  | succ L ih => intro q h; exact ih _ (ye_yr h ok hN hK (by omega) rl lm q.2)
/-! two lives that differ by what was before -/
abbrev ofs : Type := (Nat × Nat) × Int32 × Int32 × Int32 × Int32
def SIM (e : ofs) (l l' : lf_V) : Prop := (lP l' = lP l ∧ lO l' = lO l ∧ lG l' = lG l ∧ lC l' = lC l ∧ lU l' = lU l) ∧ (lT l' = lT l + e.1.1 ∧ lB l' = lB l + e.1.2) ∧ lpp l' = lpp l + e.2.1 ∧ lpg l' = lpg l + e.2.2.1 ∧ lpt l' = lpt l + e.2.2.2.1 ∧ lpb l' = lpb l + e.2.2.2.2
variable {e : ofs} {l' : lf_V}
theorem i3 (a b c : Int32) : a + b + c = a + c + b := by ac_rfl
theorem sim_begin (h : SIM e l l') (g : Nat) : SIM e (lBegin v l g) (lBegin v l' g) := by
  obtain ⟨⟨h1, h2, h3, h4, h5⟩, ⟨h6, h7⟩, h8, h9, h10, h11⟩ := h
  refine ⟨⟨h1, rfl, rfl, rfl, rfl⟩, ⟨h6, h7⟩, ?_, ?_, h10, h11⟩
  · show lpp l' + nI (tC v (5 * lP l')) = lpp l + nI (tC v (5 * lP l)) + e.2.1
    rw [h1, h8, i3]
  · show lpg l' + nI (g * tC v (5 * lP l' + 4)) = lpg l + nI (g * tC v (5 * lP l + 4)) + e.2.2.1
    rw [h1, h9, i3]
theorem sim_pass (h : SIM e l l') : SIM e (lPass v l) (lPass v l') := by
  obtain ⟨⟨h1, h2, h3, h4, h5⟩, ⟨h6, h7⟩, h8, h9, h10, h11⟩ := h
  unfold lPass
  rw [h3]
  split
  · exact ⟨⟨h1, h2, by show lG l + 1 = lG l + 1; rfl, h4, h5⟩, ⟨h6, h7⟩, h8, h9, h10, h11⟩
  · refine ⟨⟨?_, rfl, rfl, rfl, rfl⟩, ⟨h6, h7⟩, h8, h9, h10, h11⟩
    show tB v (lP l') (lC l') = tB v (lP l) (lC l)
    rw [h1, h4]
theorem sim_loss (h : SIM e l l') (s d : Nat) : SIM e (lLoss v l s d) (lLoss v l' s d) := by
  obtain ⟨⟨h1, h2, h3, h4, h5⟩, ⟨h6, h7⟩, h8, h9, h10, h11⟩ := h
  unfold lLoss
  split
  · refine ⟨⟨h1, h2, h3, ?_, rfl⟩, ⟨?_, h7⟩, h8, h9, ?_, h11⟩
    · show (if lU l' = 1 then lC l' else lC l' + 1) = if lU l = 1 then lC l else lC l + 1
      rw [h4, h5]
    · show lT l' + 1 = lT l + 1 + e.1.1
      omega
    · show lpt l' + nI (tP v s) = lpt l + nI (tP v s) + e.2.2.2.1
      rw [h10, i3]
  · refine ⟨⟨h1, h2, h3, h4, h5⟩, ⟨h6, ?_⟩, h8, h9, h10, ?_⟩
    · show lB l' + 1 = lB l + 1 + e.1.2
      omega
    · show lpb l' + nI (tS v (2 * s)) = lpb l + nI (tS v (2 * s)) + e.2.2.2.2
      rw [h11, i3]
theorem sim_chn (h : SIM e l l') (rl lm L : Nat) (x : Int32) : SIM e (chn v rl lm L (l, x)).1 (chn v rl lm L (l', x)).1 ∧ (chn v rl lm L (l', x)).2 = (chn v rl lm L (l, x)).2 := by
  unfold chn
  have et : ∀ s, tld v rl lm L l' s = tld v rl lm L l s := fun s => by
    unfold tld
    rw [h.1.1, h.1.2.2.1, h.1.2.2.2.1, h.1.2.2.2.2]
  simp only [et]
  split
  · exact ⟨sim_pass (sim_loss h _ _), rfl⟩
  · exact ⟨sim_pass h, rfl⟩
theorem sim_chs (rl lm L : Nat) : ∀ (r : Nat) (l l' : lf_V) (x : Int32), SIM e l l' → SIM e (chs v rl lm L r (l, x)).1 (chs v rl lm L r (l', x)).1 ∧ (chs v rl lm L r (l', x)).2 = (chs v rl lm L r (l, x)).2 := by
  intro r
  induction r with
  | zero => intro l l' x h; exact ⟨h, rfl⟩
  | succ r ih =>
    intro l l' x h
    obtain ⟨a, b⟩ := sim_chn h rl lm L x
    have := ih _ _ (chn v rl lm L (l, x)).2 a
    show SIM e (chs v rl lm L r (chn v rl lm L (l, x))).1 (chs v rl lm L r (chn v rl lm L (l', x))).1 ∧ (chs v rl lm L r (chn v rl lm L (l', x))).2 = (chs v rl lm L r (chn v rl lm L (l, x))).2
    rw [show chn v rl lm L (l', x) = ((chn v rl lm L (l', x)).1, (chn v rl lm L (l, x)).2) by rw [← b]]
    exact this
theorem sim_yr (h : SIM e l l') (rl lm L : Nat) (x : Int32) : SIM e (yr v rl lm L (l, x)).1 (yr v rl lm L (l', x)).1 ∧ (yr v rl lm L (l', x)).2 = (yr v rl lm L (l, x)).2 := by
  have eg : yrg v rl L l' = yrg v rl L l := by unfold yrg; rw [h.1.1]
  unfold yr
  simp only [eg]
  exact sim_chs rl lm L (tH v) _ _ x (sim_begin h _)
theorem sim_yrs (rl lm : Nat) : ∀ (L : Nat) (l l' : lf_V) (x : Int32), SIM e l l' → SIM e (yrs v rl lm L (l, x)).1 (yrs v rl lm L (l', x)).1 := by
  intro L
  induction L with
  | zero => intro l l' x h; exact h
  | succ L ih =>
    intro l l' x h
    obtain ⟨a, b⟩ := sim_yr h rl lm (L + 1) x
    have := ih _ _ (yr v rl lm (L + 1) (l, x)).2 a
    show SIM e (yrs v rl lm L (yr v rl lm (L + 1) (l, x))).1 (yrs v rl lm L (yr v rl lm (L + 1) (l', x))).1
    rw [show yr v rl lm (L + 1) (l', x) = ((yr v rl lm (L + 1) (l', x)).1, (yr v rl lm (L + 1) (l, x)).2) by rw [← b]]
    exact this
end YRS
