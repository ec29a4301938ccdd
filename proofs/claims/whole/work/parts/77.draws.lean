/-! ===== a life by draws: what is drawn, what becomes of the life ===== -/
def dNx (x : Int32) : Int32 := x * 1103515245 + 12345
def dS (x : Int32) : Nat := (((Int32.toUInt32 x) >>> ((Int32.toUInt32 8) &&& Int32.toUInt32 31)).toInt32).toBitVec.toNat
theorem dS_lt (x : Int32) : dS x < 2 ^ 24 := by
  have h : (((Int32.toUInt32 x) >>> ((Int32.toUInt32 8) &&& Int32.toUInt32 31)).toInt32).toBitVec = x.toBitVec >>> 8 := rfl
  unfold dS
  rw [h, BitVec.toNat_ushiftRight, Nat.shiftRight_eq_div_pow]
  have := x.toBitVec.isLt
  omega
theorem dS_e (x : Int32) : ((Int32.toUInt32 x) >>> ((Int32.toUInt32 8) &&& Int32.toUInt32 31)).toInt32 = nI (dS x) := (nI_self _).symm
theorem nI_subneg {a b : Nat} (h : a < b) (hb : b < 2 ^ 31) : ¬ (0 : Int32) ≤ nI a - nI b := by
  rw [Int32.le_iff_toInt_le, Int32.toInt_sub, nI_toInt (by omega), nI_toInt hb, Int.bmod_eq_of_le (by omega) (by omega)]
  have e : (0 : Int32).toInt = 0 := rfl
  rw [e]
  omega
def pkS (v : tm_V) : Nat → Nat → Nat → Nat
  | 0, _, s => s
  | f + 1, r, s => if r < tS v (2 * s + 1) then s else pkS v f (r - tS v (2 * s + 1)) (s + 1)
theorem pkS_le (v : tm_V) : ∀ f r s, pkS v f r s ≤ s + f
  | 0, _, s => Nat.le_refl s
  | f + 1, r, s => by
    unfold pkS
    split
    · omega
    · have := pkS_le v f (r - tS v (2 * s + 1)) (s + 1)
      omega
section DRW
variable {σ τ : bl_St} {v : tm_V} {x : Int32}
theorem x_dnext (h : bl_I σ 136 0 = x) {b : Nat} (hb : 0 < b) (hb2 : b < 2 ^ 31) : f_X0_next σ 136 (nI b) = some (nI (dS (dNx x) % b), bl_pI σ 136 0 (dNx x)) := by
  have hd := dS_lt (dNx x)
  unfold f_X0_next
  rw [let_eq, h, if_neg (nI_nle hb hb2), gd_of (by simp [nI_ne0 hb hb2]), show x * 1103515245 + 12345 = dNx x from rfl, I_pI_self, dS_e, nI_mod (by omega) hb2]
theorem m_dnext (h : bl_I τ 139 6 = x) {b : Nat} (hb : 0 < b) (hb2 : b < 2 ^ 31) : f_X10_draws τ 139 (nI b) = some (nI (dS (dNx x) % b), bl_pI τ 139 6 (dNx x)) := by
  have hd := dS_lt (dNx x)
  unfold f_X10_draws
  rw [let_eq, h, gd_of (by simp [nI_ne0 hb hb2]), show x * 1103515245 + 12345 = dNx x from rfl, I_pI_self, dS_e, nI_mod (by omega) hb2]
theorem x_pick {t : Nat} (hT : TX σ t v) (ok : TOk v) (hK : 0 < tK v) : ∀ (f s r m : Nat), s + f = tK v - 1 → r < 2 ^ 24 → f < m → bl_fx (fun _ _ _ _ _ => none) (b_X0_nextSort_19) m σ t (nI r) (nI (tK v - 1)) (nI s) = some (nI (pkS v f r s), σ) := by
  have h5 := ok.k5
  intro f
  induction f with
  | zero =>
    intro s r m hs hr hm
    obtain ⟨m, rfl⟩ : ∃ z, m = z + 1 := ⟨m - 1, by omega⟩
    rw [fx_succ]
    unfold b_X0_nextSort_19
    rw [if_pos (nI_le (by omega) (by omega)), show tK v - 1 = s by omega]
    rfl
  | succ f ih =>
    intro s r m hs hr hm
    obtain ⟨m, rfl⟩ : ∃ z, m = z + 1 := ⟨m - 1, by omega⟩
    have hw := (ok.2.2.1 s (by omega)).2
    have ep : pkS v (f + 1) r s = if r < tS v (2 * s + 1) then s else pkS v f (r - tS v (2 * s + 1)) (s + 1) := rfl
    rw [fx_succ, ep]
    show (if nI (tK v - 1) ≤ nI s then _ else _) = _
    rw [if_neg (nI_ge (by omega) (by omega)), show (1 : Int32) = nI 1 from rfl, x_sortPart hT ok (by omega) (by decide), bd_some, let_eq]
    by_cases h : r < tS v (2 * s + 1)
    · rw [if_pos h, if_neg (nI_subneg h (by omega))]
    · rw [if_neg h, nI_sub (by omega), if_pos (nI_pos' (by omega)), let_eq, nI_add]
      exact ih (s + 1) (r - tS v (2 * s + 1)) m (by omega) (by omega) (by omega)
theorem x_nextSort (hT : TX σ 10 v) (ok : TOk v) (hK : 0 < tK v) (h : bl_I σ 136 0 = x) : f_X0_nextSort σ 136 10 = some (nI (pkS v (tK v - 1) (dS (dNx x) % tA v) 0), bl_pI σ 136 0 (dNx x)) := by
  have h5 := ok.k5
  have hA : tK v ≤ tA v := tm_A_ge ok (tK v) (Nat.le_refl _)
  have hA2 : tA v ≤ 9 * tK v := tm_A_le ok (tK v) (Nat.le_refl _)
  have hd := dS_lt (dNx x)
  have hr := Nat.mod_le (dS (dNx x)) (tA v)
  unfold f_X0_nextSort
  rw [x_allWeights hT ok, bd_some, x_dnext h (by omega) (by omega), bd_some, let_eq]
  have hT1 : TX (bl_pI σ 136 0 (dNx x)) 10 v := hT.kq ((Kq.rf (fun i => i = 136) σ).pI rfl _ _) (fun i a b c => by omega)
  rw [hT1.2.1.2, show (1 : Int32) = nI 1 from rfl, nI_sub hK]
  exact x_pick hT1 ok hK (tK v - 1) 0 _ bl_fu (by omega) (by omega) (by unfold bl_fu; omega)
theorem m_pick (hR : bl_R τ 139 1 = 140) (hT : TM τ 140 0 v) (ok : TOk v) (hK : 0 < tK v) : ∀ (f s r m : Nat), s + f = tK v - 1 → r + tm_A v s < tA v → f < m → bl_fx (fun _ _ _ _ => none) (b_X10_sortDrawn_11) m τ 139 (nI r) (nI s) = some (nI (pkS v f r s), τ) := by
  have h5 := ok.k5
  have hA2 : tA v ≤ 9 * tK v := tm_A_le ok (tK v) (Nat.le_refl _)
  intro f
  induction f with
  | zero =>
    intro s r m hs hr hm
    obtain ⟨m, rfl⟩ : ∃ z, m = z + 1 := ⟨m - 1, by omega⟩
    have hw := (ok.2.2.1 s (by omega)).2
    have ea : tA v = tm_A v s + tS v (2 * s + 1) := by
      show tm_A v (tK v) = _
      rw [show tK v = s + 1 by omega]
      rfl
    rw [fx_succ]
    unfold b_X10_sortDrawn_11
    rw [m_weight hR hT ok (by omega), bd_some, if_pos (nI_lt (by omega) (by omega))]
    rfl
  | succ f ih =>
    intro s r m hs hr hm
    obtain ⟨m, rfl⟩ : ∃ z, m = z + 1 := ⟨m - 1, by omega⟩
    have hw := (ok.2.2.1 s (by omega)).2
    have ep : pkS v (f + 1) r s = if r < tS v (2 * s + 1) then s else pkS v f (r - tS v (2 * s + 1)) (s + 1) := rfl
    have ea : tm_A v (s + 1) = tm_A v s + tS v (2 * s + 1) := rfl
    rw [fx_succ, ep]
    show (bl_bd (f_X10_weight τ 139 (nI s)) _) = _
    rw [m_weight hR hT ok (by omega), bd_some]
    by_cases h : r < tS v (2 * s + 1)
    · rw [if_pos h, if_pos (nI_lt h (by omega))]
    · rw [if_neg h, if_neg (nI_nlt (by omega) (by omega)), m_weight hR hT ok (by omega), bd_some, let_eq, let_eq, nI_sub (by omega), nI_1]
      exact ih (s + 1) (r - tS v (2 * s + 1)) m (by omega) (by omega) (by omega)
theorem m_sortDrawn (hR : bl_R τ 139 1 = 140) (hT : TM τ 140 0 v) (ok : TOk v) (hK : 0 < tK v) (h : bl_I τ 139 6 = x) : f_X10_sortDrawn τ 139 = some (nI (pkS v (tK v - 1) (dS (dNx x) % tA v) 0), bl_pI τ 139 6 (dNx x)) := by
  have h5 := ok.k5
  have hA : tK v ≤ tA v := tm_A_ge ok (tK v) (Nat.le_refl _)
  have hA2 : tA v ≤ 9 * tK v := tm_A_le ok (tK v) (Nat.le_refl _)
  have hr := Nat.mod_lt (dS (dNx x)) (show 0 < tA v by omega)
  have z : tm_A v 0 = 0 := rfl
  unfold f_X10_sortDrawn
  rw [m_weights hR hT ok, bd_some, m_dnext h (by omega) (by omega), bd_some]
  have hT1 : TM (bl_pI τ 139 6 (dNx x)) 140 0 v := by
    unfold TM at *
    rw [I_pI_o (by decide)]
    exact hT
  exact m_pick (τ := bl_pI τ 139 6 (dNx x)) hR hT1 ok hK (tK v - 1) 0 (dS (dNx x) % tA v) bl_fu (by omega) (by omega) (by unfold bl_fu; omega)
end DRW
