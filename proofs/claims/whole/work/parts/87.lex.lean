/-! ===== texts that are told: signs, words, numbers ===== -/
def run (P : Nat → Bool) : Nat → Nat → Nat
  | 0, p => p
  | r + 1, p => if P p = true then run P r (p + 1) else p
theorem run_ge (P : Nat → Bool) : ∀ r p, p ≤ run P r p
  | 0, p => Nat.le_refl p
  | r + 1, p => by
    unfold run
    split
    · have := run_ge P r (p + 1); omega
    · omega
theorem run_le (P : Nat → Bool) : ∀ r p, run P r p ≤ p + r
  | 0, p => Nat.le_refl p
  | r + 1, p => by
    unfold run
    split
    · have := run_le P r (p + 1); omega
    · omega
theorem run_in (P : Nat → Bool) : ∀ r p i, p ≤ i → i < run P r p → P i = true
  | 0, p, i, h1, h2 => absurd h2 (by show ¬ i < p; omega)
  | r + 1, p, i, h1, h2 => by
    unfold run at h2
    by_cases h : P p = true
    · rw [if_pos h] at h2
      by_cases he : i = p
      · rw [he]; exact h
      · exact run_in P r (p + 1) i (by omega) h2
    · rw [if_neg h] at h2
      omega
theorem run_end (P : Nat → Bool) : ∀ r p, run P r p < p + r → ¬ P (run P r p) = true
  | 0, p, h => absurd h (by show ¬ p < p + 0; omega)
  | r + 1, p, h => by
    unfold run at h ⊢
    by_cases hp : P p = true
    · rw [if_pos hp] at h ⊢
      exact run_end P r (p + 1) (by omega)
    · rw [if_neg hp] at h ⊢
      exact hp
abbrev rn (b : Nat → Nat) (ln : Nat) (Q : Nat → Bool) (p : Nat) : Nat := run (fun i => Q (b i)) (ln - p) p
def isB (c : Nat) : Bool := c == 32 || c == 10
def isL (c : Nat) : Bool := decide (97 ≤ c) && decide (c ≤ 122)
def isD (c : Nat) : Bool := decide (48 ≤ c) && decide (c ≤ 57)
section RUN
variable {b : Nat → Nat} {ln p : Nat} {Q : Nat → Bool}
theorem rn_step (h : p < ln) (hq : Q (b p) = true) : rn b ln Q p = rn b ln Q (p + 1) := by
  show run _ (ln - p) p = run _ (ln - (p + 1)) (p + 1)
  rw [show ln - p = (ln - (p + 1)) + 1 by omega]
  show (if Q (b p) = true then _ else _) = _
  rw [if_pos hq]
theorem rn_stop (h : ¬ (p < ln ∧ Q (b p) = true)) : rn b ln Q p = p := by
  show run _ (ln - p) p = p
  by_cases hl : p < ln
  · rw [show ln - p = (ln - (p + 1)) + 1 by omega]
    show (if Q (b p) = true then _ else _) = _
    rw [if_neg (fun z => h ⟨hl, z⟩)]
  · rw [show ln - p = 0 by omega]
    rfl
theorem rn_ge (b : Nat → Nat) (ln : Nat) (Q : Nat → Bool) (p : Nat) : p ≤ rn b ln Q p := run_ge _ _ _
theorem rn_le (hp : p ≤ ln) : rn b ln Q p ≤ ln := Nat.le_trans (run_le _ _ _) (by omega)
theorem rn_in {i : Nat} (h1 : p ≤ i) (h2 : i < rn b ln Q p) : Q (b i) = true := run_in (fun i => Q (b i)) _ _ i h1 h2
theorem rn_end (hp : p ≤ ln) (h : rn b ln Q p < ln) : ¬ Q (b (rn b ln Q p)) = true := run_end (fun i => Q (b i)) _ _ (by show rn b ln Q p < p + (ln - p); omega)
end RUN
theorem isB_iff (c : Nat) : isB c = true ↔ c = 32 ∨ c = 10 := by unfold isB; simp
theorem isL_iff (c : Nat) : isL c = true ↔ 97 ≤ c ∧ c ≤ 122 := by unfold isL; simp
theorem isD_iff (c : Nat) : isD c = true ↔ 48 ≤ c ∧ c ≤ 57 := by unfold isD; simp
/-- a number's value by its digits -/
def vl (b : Nat → Nat) (p : Nat) : Nat → Nat
  | 0 => 0
  | k + 1 => 10 * vl b p k + (b (p + k) - 48)
theorem vl_lt {b : Nat → Nat} {p : Nat} : ∀ k, (∀ i, i < k → b (p + i) ≤ 57) → vl b p k < 10 ^ k
  | 0, _ => by show (0 : Nat) < 10 ^ 0; decide
  | k + 1, h => by
    have h1 := vl_lt k (fun i hi => h i (by omega))
    have h2 := h k (by omega)
    show 10 * vl b p k + (b (p + k) - 48) < 10 ^ (k + 1)
    rw [Nat.pow_succ]
    omega
theorem vl_3 {b : Nat → Nat} {p k : Nat} (hk : k ≤ 3) (h : ∀ i, i < k → b (p + i) ≤ 57) : vl b p k ≤ 999 := by
  have h1 := vl_lt k h
  have h2 : 10 ^ k ≤ 10 ^ 3 := Nat.pow_le_pow_right (by decide) hk
  have h3 : 10 ^ 3 = 1000 := by decide
  omega
abbrev nB (b : Nat → Nat) (ln p : Nat) : Nat := rn b ln isB p
abbrev nE (b : Nat → Nat) (ln p : Nat) : Nat := rn b ln isD (nB b ln p)
abbrev nV (b : Nat → Nat) (ln p : Nat) : Nat := vl b (nB b ln p) (nE b ln p - nB b ln p)
abbrev nOk (b : Nat → Nat) (ln p lo hi : Nat) : Prop := p < nB b ln p ∧ nB b ln p < ln ∧ isD (b (nB b ln p)) = true ∧ nE b ln p - nB b ln p ≤ 3 ∧ lo ≤ nV b ln p ∧ nV b ln p ≤ hi
/-! the class's -/
abbrev S7 (i : Nat) : Prop := i = 1 ∨ (3 ≤ i ∧ i ≤ 7)
def WX (σ : bl_St) (b : Nat → Nat) (ln : Nat) : Prop := (bl_R σ 1 0 = 2 ∧ bl_R σ 1 1 = 3 ∧ bl_R σ 1 2 = 4) ∧ (∀ i, i < ln → bl_I σ 2 i = nI (b i)) ∧ ln ≤ 400 ∧ ∀ i, i < ln → b i < 256
def XS (σ0 σ : bl_St) (ln p : Nat) (f : Int32) : Prop := Kq S7 σ0 σ ∧ bl_R σ = bl_R σ0 ∧ bl_I σ 1 3 = nI ln ∧ bl_I σ 1 4 = nI p ∧ bl_I σ 1 5 = f
section LEX
variable {σ0 σ : bl_St} {b : Nat → Nat} {ln p : Nat} {f : Int32}
theorem XS.go (h : XS σ0 σ ln p f) (q : Nat) : XS σ0 (bl_pI σ 1 4 (nI q)) ln q f :=
  ⟨h.1.pI (Or.inl rfl) _ _, h.2.1, by rw [I_pI_ne (by decide)]; exact h.2.2.1, I_pI_self _ _ _ _, by rw [I_pI_ne (by decide)]; exact h.2.2.2.2⟩
theorem XS.flt (h : XS σ0 σ ln p f) (g : Int32) : XS σ0 (bl_pI σ 1 5 g) ln p g :=
  ⟨h.1.pI (Or.inl rfl) _ _, h.2.1, by rw [I_pI_ne (by decide)]; exact h.2.2.1, by rw [I_pI_ne (by decide)]; exact h.2.2.2.1, I_pI_self _ _ _ _⟩
theorem XS.byte (h : XS σ0 σ ln p f) (w : WX σ0 b ln) {i : Nat} (hi : i < ln) : bl_I σ (bl_R σ 1 0) i = nI (b i) := by
  rw [h.2.1, w.1.1, (h.1 2 (by decide)).1]
  exact w.2.1 i hi
abbrev k1 (i : Nat) : Prop := i = 1
theorem x_skip (w : WX σ0 b ln) : ∀ (r p m : Nat) (σ : bl_St), p + r = ln → r < m → XS σ0 σ ln p f → ∃ σ1, bl_fx (fun _ _ => none) (b_X7_skipBlanks_0) m σ 1 = some ((), σ1) ∧ XS σ0 σ1 ln (nB b ln p) f ∧ Kq k1 σ σ1 := by
  have h4 := w.2.2.1
  intro r
  induction r with
  | zero =>
    intro p m σ hp hm h
    obtain ⟨m, rfl⟩ : ∃ z, m = z + 1 := ⟨m - 1, by omega⟩
    refine ⟨σ, ?_, by rw [show nB b ln p = p from rn_stop (by omega)]; exact h, Kq.rf _ σ⟩
    rw [fx_succ]
    unfold b_X7_skipBlanks_0
    rw [h.2.2.1, h.2.2.2.1, if_pos (nI_le (by omega) (by omega))]
  | succ r ih =>
    intro p m σ hp hm h
    obtain ⟨m, rfl⟩ : ∃ z, m = z + 1 := ⟨m - 1, by omega⟩
    have hb := w.2.2.2 p (by omega)
    have hby := h.byte w (show p < ln by omega)
    have go : isB (b p) = true → ∃ σ1, b_X7_skipBlanks_39 (bl_fx (fun _ _ => none) (b_X7_skipBlanks_0) m) σ 1 = some ((), σ1) ∧ XS σ0 σ1 ln (nB b ln p) f ∧ Kq k1 σ σ1 := fun hq => by
      obtain ⟨σ1, e1, x1, q1⟩ := ih (p + 1) m _ (by omega) (by omega) (h.go (p + 1))
      refine ⟨σ1, ?_, by rw [show nB b ln p = nB b ln (p + 1) from rn_step (by omega) hq]; exact x1, ((Kq.rf k1 σ).pI rfl _ _).tr q1⟩
      unfold b_X7_skipBlanks_39
      rw [let_eq, h.2.2.2.1, nI_1]
      exact e1
    rw [fx_succ]
    unfold b_X7_skipBlanks_0
    rw [h.2.2.1, h.2.2.2.1, if_neg (nI_ge (by omega) (by omega)), in_nI (by omega) (by decide), gd_true, nI_clamp (by omega), hby]
    by_cases h32 : b p = 32
    · rw [if_pos (show nI (b p) = 32 by rw [h32]; rfl)]
      exact go ((isB_iff _).mpr (Or.inl h32))
    · rw [if_neg (show ¬ nI (b p) = 32 from fun z => h32 (nI_inj (by omega) (by decide) z)), gd_true]
      by_cases h10 : b p = 10
      · rw [if_pos (show nI (b p) = 10 by rw [h10]; rfl)]
        exact go ((isB_iff _).mpr (Or.inr h10))
      · rw [if_neg (show ¬ nI (b p) = 10 from fun z => h10 (nI_inj (by omega) (by decide) z))]
        exact ⟨σ, rfl, by rw [show nB b ln p = p from rn_stop (fun z => by rcases (isB_iff _).mp z.2 with q | q <;> omega)]; exact h, Kq.rf _ σ⟩
theorem x_skipB (w : WX σ0 b ln) (h : XS σ0 σ ln p f) (hp : p ≤ ln) : ∃ σ1, f_X7_skipBlanks σ 1 = some ((), σ1) ∧ XS σ0 σ1 ln (nB b ln p) f ∧ Kq k1 σ σ1 :=
  x_skip w (ln - p) p bl_fu σ (by omega) (by have := w.2.2.1; unfold bl_fu; omega) h
theorem x_isLetter (σ : bl_St) {c : Nat} (hc : c < 256) : f_X7_isLetter σ (nI c) = some (if isL c = true then 1 else 0, σ) := by
  unfold f_X7_isLetter
  by_cases h1 : c < 97
  · rw [if_pos (show nI c < 97 from nI_lt (b := 97) h1 (by decide)), if_neg (fun z => by have := (isL_iff c).mp z; omega)]
  rw [if_neg (show ¬ nI c < 97 from nI_nlt (b := 97) (by omega) (by omega))]
  by_cases h2 : 122 < c
  · rw [if_pos (show (122 : Int32) < nI c from nI_lt (a := 122) h2 (by omega)), if_neg (fun z => by have := (isL_iff c).mp z; omega)]
  · rw [if_neg (show ¬ (122 : Int32) < nI c from nI_nlt (a := 122) (by omega) (by decide)), if_pos ((isL_iff c).mpr (by omega))]
theorem x_isDigit (σ : bl_St) {c : Nat} (hc : c < 256) : f_X7_isDigit σ (nI c) = some (if isD c = true then 1 else 0, σ) := by
  unfold f_X7_isDigit
  by_cases h1 : c < 48
  · rw [if_pos (show nI c < 48 from nI_lt (b := 48) h1 (by decide)), if_neg (fun z => by have := (isD_iff c).mp z; omega)]
  rw [if_neg (show ¬ nI c < 48 from nI_nlt (b := 48) (by omega) (by omega))]
  by_cases h2 : 57 < c
  · rw [if_pos (show (57 : Int32) < nI c from nI_lt (a := 57) h2 (by omega)), if_neg (fun z => by have := (isD_iff c).mp z; omega)]
  · rw [if_neg (show ¬ (57 : Int32) < nI c from nI_nlt (a := 57) (by omega) (by decide)), if_pos ((isD_iff c).mpr (by omega))]
/-- letters -/
theorem x_word (w : WX σ0 b ln) (st : Int32) : ∀ (r p m : Nat) (σ : bl_St), p + r = ln → r < m → XS σ0 σ ln p f → ∃ σ1, bl_fx (fun _ _ _ => none) (b_X7_readPhrase_5) m σ 1 st = b_X7_readPhrase_44 σ1 1 st ∧ XS σ0 σ1 ln (rn b ln isL p) f ∧ Kq k1 σ σ1 := by
  have h4 := w.2.2.1
  intro r
  induction r with
  | zero =>
    intro p m σ hp hm h
    obtain ⟨m, rfl⟩ : ∃ z, m = z + 1 := ⟨m - 1, by omega⟩
    refine ⟨σ, ?_, by rw [show rn b ln isL p = p from rn_stop (by omega)]; exact h, Kq.rf _ σ⟩
    rw [fx_succ]
    show (if bl_I σ 1 3 ≤ bl_I σ 1 4 then _ else _) = _
    rw [h.2.2.1, h.2.2.2.1, if_pos (nI_le (by omega) (by omega))]
  | succ r ih =>
    intro p m σ hp hm h
    obtain ⟨m, rfl⟩ : ∃ z, m = z + 1 := ⟨m - 1, by omega⟩
    have hb := w.2.2.2 p (by omega)
    have hby := h.byte w (show p < ln by omega)
    rw [fx_succ]
    show ∃ σ1, (if bl_I σ 1 3 ≤ bl_I σ 1 4 then _ else _) = _ ∧ _
    rw [h.2.2.1, h.2.2.2.1, if_neg (nI_ge (by omega) (by omega)), in_nI (by omega) (by decide), gd_true, nI_clamp (by omega), hby, x_isLetter σ hb, bd_some]
    by_cases hq : isL (b p) = true
    · obtain ⟨σ1, e1, x1, q1⟩ := ih (p + 1) m _ (by omega) (by omega) (h.go (p + 1))
      refine ⟨σ1, ?_, by rw [show rn b ln isL p = rn b ln isL (p + 1) from rn_step (by omega) hq]; exact x1, ((Kq.rf k1 σ).pI rfl _ _).tr q1⟩
      rw [if_pos hq, if_neg (by decide), let_eq, h.2.2.2.1, nI_1]
      exact e1
    · refine ⟨σ, ?_, by rw [show rn b ln isL p = p from rn_stop (fun z => hq z.2)]; exact h, Kq.rf _ σ⟩
      rw [if_neg hq, if_pos rfl]
/-- digits -/
theorem x_digs (w : WX σ0 b ln) {st : Nat} (v1 v2 v3 : Int32) : ∀ (r p m : Nat) (σ : bl_St) (x : Nat), p + r = ln → st ≤ p → r < m → XS σ0 σ ln p f → (∀ i, st ≤ i → i < p → isD (b i) = true) → x ≤ 9999 → (p - st ≤ 3 → x = vl b st (p - st)) → ∃ σ1 y, bl_fx (fun _ _ _ _ _ _ _ => none) (b_X7_readNumber_63) m σ 1 v1 v2 v3 (nI st) (nI x) = b_X7_readNumber_128 σ1 1 v1 v2 v3 (nI st) (nI y) ∧ XS σ0 σ1 ln (rn b ln isD p) f ∧ Kq k1 σ σ1 ∧ y ≤ 9999 ∧ (rn b ln isD p - st ≤ 3 → y = vl b st (rn b ln isD p - st)) := by
  have h4 := w.2.2.1
  intro r
  induction r with
  | zero =>
    intro p m σ x hp hs hm h hd hx hv
    obtain ⟨m, rfl⟩ : ∃ z, m = z + 1 := ⟨m - 1, by omega⟩
    have e : rn b ln isD p = p := rn_stop (by omega)
    rw [e]
    refine ⟨σ, x, ?_, h, Kq.rf _ σ, hx, hv⟩
    rw [fx_succ]
    show (if bl_I σ 1 3 ≤ bl_I σ 1 4 then _ else _) = _
    rw [h.2.2.1, h.2.2.2.1, if_pos (nI_le (by omega) (by omega))]
  | succ r ih =>
    intro p m σ x hp hs hm h hd hx hv
    obtain ⟨m, rfl⟩ : ∃ z, m = z + 1 := ⟨m - 1, by omega⟩
    have hb := w.2.2.2 p (by omega)
    have hby := h.byte w (show p < ln by omega)
    rw [fx_succ]
    show ∃ σ1 y, (if bl_I σ 1 3 ≤ bl_I σ 1 4 then _ else _) = _ ∧ _
    rw [h.2.2.1, h.2.2.2.1, if_neg (nI_ge (by omega) (by omega)), in_nI (by omega) (by decide), gd_true, nI_clamp (by omega), hby, x_isDigit σ hb, bd_some]
    by_cases hq : isD (b p) = true
    · have hc := (isD_iff _).mp hq
      obtain ⟨y, hy⟩ : ∃ y, y = min 9999 (x * 10 + b p - 48) := ⟨_, rfl⟩
      have ey : (if nI x * 10 + nI (b p) - 48 < 9999 then nI x * 10 + nI (b p) - 48 else 9999) = nI y := by
        rw [show (10 : Int32) = nI 10 from rfl, nI_mul, nI_add, show (48 : Int32) = nI 48 from rfl, nI_sub (by omega), hy]
        by_cases hlt : x * 10 + b p - 48 < 9999
        · rw [if_pos (show nI (x * 10 + b p - 48) < 9999 from nI_lt (b := 9999) hlt (by decide)), Nat.min_eq_right (by omega)]
        · rw [if_neg (show ¬ nI (x * 10 + b p - 48) < 9999 from nI_nlt (b := 9999) (by omega) (by omega)), Nat.min_eq_left (by omega)]
          rfl
      have hvy : p + 1 - st ≤ 3 → y = vl b st (p + 1 - st) := fun z => by
        have h1 := hv (by omega)
        have h2 : vl b st (p - st) ≤ 999 := vl_3 (by omega) (fun i hi => ((isD_iff _).mp (hd (st + i) (by omega) (by omega))).2)
        rw [show p + 1 - st = (p - st) + 1 by omega]
        show y = 10 * vl b st (p - st) + (b (st + (p - st)) - 48)
        rw [show st + (p - st) = p by omega, hy]
        omega
      obtain ⟨σ1, z, e1, x1, q1, r1, r2⟩ := ih (p + 1) m _ y (by omega) (by omega) (by omega) (h.go (p + 1)) (fun i h1 h2 => by
        by_cases he : i = p
        · rw [he]; exact hq
        · exact hd i h1 (by omega)) (by omega) hvy
      rw [show rn b ln isD p = rn b ln isD (p + 1) from rn_step (by omega) hq]
      refine ⟨σ1, z, ?_, x1, ((Kq.rf k1 σ).pI rfl _ _).tr q1, r1, r2⟩
      rw [if_pos hq, if_neg (by decide), h.2.2.2.1, in_nI (by omega) (by decide), gd_true, nI_clamp (by omega), hby, ey, let_eq, let_eq, nI_1]
      exact e1
    · rw [show rn b ln isD p = p from rn_stop (fun z => hq z.2)]
      refine ⟨σ, x, ?_, h, Kq.rf _ σ, hx, hv⟩
      rw [if_neg hq, if_pos rfl]
abbrev k13 (i : Nat) : Prop := i = 1 ∨ i = 3
theorem x_readNumber (w : WX σ0 b ln) (h : XS σ0 σ ln p (-1)) (hp : p ≤ ln) {i lo hi : Nat} (hi5 : i < 5) (hlo : lo ≤ 9999) (hhi : hi ≤ 9999) : (nOk b ln p lo hi → ∃ σ1, f_X7_readNumber σ 1 (nI i) (nI lo) (nI hi) = some ((), σ1) ∧ XS σ0 σ1 ln (nE b ln p) (-1) ∧ Kq k13 σ σ1 ∧ ∀ j, bl_I σ1 3 j = if j = i then nI (nV b ln p) else bl_I σ 3 j) ∧ (¬ nOk b ln p lo hi → ∃ σ1 q, f_X7_readNumber σ 1 (nI i) (nI lo) (nI hi) = some ((), σ1) ∧ XS σ0 σ1 ln q (nI (nB b ln p)) ∧ q ≤ ln ∧ Kq k13 σ σ1) := by
  have h4 := w.2.2.1
  obtain ⟨σa, ea, xa, ka⟩ := x_skipB w h hp
  have hge : p ≤ nB b ln p := rn_ge b ln isB p
  have hle : nB b ln p ≤ ln := rn_le hp
  have ka3 : Kq k13 σ σa := ka.mono (fun i hi => Or.inl hi)
  have bad : ∀ {q : Nat} (ρ : bl_St), XS σ0 ρ ln q (-1) → q ≤ ln → Kq k13 σ ρ → ∃ σ1 q, (some ((), bl_pI ρ 1 5 (nI (nB b ln p))) : Option (Unit × bl_St)) = some ((), σ1) ∧ XS σ0 σ1 ln q (nI (nB b ln p)) ∧ q ≤ ln ∧ Kq k13 σ σ1 := fun ρ X hq K => ⟨_, _, rfl, X.flt _, hq, K.pI (Or.inl rfl) _ _⟩
  unfold f_X7_readNumber
  rw [let_eq, ea, bd_some, xa.2.2.2.1, h.2.2.2.1]
  by_cases c1 : nB b ln p = p
  · rw [if_pos (show nI (nB b ln p) = nI p by rw [c1])]
    exact ⟨fun z => by have := z.1; omega, fun _ => by rw [let_eq]; exact bad σa xa hle ka3⟩
  rw [if_neg (show ¬ nI (nB b ln p) = nI p from fun z => c1 (nI_inj (by omega) (by omega) z)), xa.2.2.1]
  by_cases c2 : ln ≤ nB b ln p
  · rw [if_pos (nI_le c2 (by omega))]
    exact ⟨fun z => by have := z.2.1; omega, fun _ => by rw [let_eq]; exact bad σa xa hle ka3⟩
  have hlt : nB b ln p < ln := by omega
  rw [if_neg (nI_ge (by omega) (by omega)), in_nI (by omega) (by decide), gd_true, nI_clamp (by omega), xa.byte w hlt, x_isDigit σa (w.2.2.2 _ hlt), bd_some, xa.2.2.2.1]
  rcases (Classical.em (isD (b (nB b ln p)) = true)).symm with c3 | c3
  · rw [if_neg c3, if_pos rfl]
    exact ⟨fun z => absurd z.2.2.1 c3, fun _ => by rw [let_eq]; exact bad σa xa hle ka3⟩
  rw [if_pos c3, if_neg (by decide), let_eq]
  obtain ⟨σb, y, eb, xb, kb, hy, hv⟩ := x_digs (st := nB b ln p) w (nI i) (nI lo) (nI hi) (ln - nB b ln p) (nB b ln p) bl_fu σa 0 (by omega) (Nat.le_refl _) (by unfold bl_fu; omega) xa (fun i h1 h2 => by omega) (by omega) (fun _ => by rw [Nat.sub_self]; rfl)
  have hge2 : nB b ln p ≤ nE b ln p := rn_ge b ln isD (nB b ln p)
  have hle2 : nE b ln p ≤ ln := rn_le hle
  have kb3 : Kq k13 σ σb := ka3.tr (kb.mono (fun i hi => Or.inl hi))
  have go : ∀ {A : Prop}, (A ↔ True) → A := fun h => h.mpr trivial
  have eb' : bl_fx (fun _ _ _ _ _ _ _ => none) (b_X7_readNumber_63) bl_fu σa 1 (nI i) (nI lo) (nI hi) (nI (nB b ln p)) 0 = b_X7_readNumber_128 σb 1 (nI i) (nI lo) (nI hi) (nI (nB b ln p)) (nI y) := eb
  rw [eb']
  unfold b_X7_readNumber_128
  rw [xb.2.2.2.1, nI_sub hge2]
  rcases (Classical.em (nE b ln p - nB b ln p ≤ 3)).symm with c4 | c4
  · rw [if_pos (show (3 : Int32) < nI (nE b ln p - nB b ln p) from nI_lt (a := 3) (by omega) (by omega))]
    exact ⟨fun z => absurd z.2.2.2.1 c4, fun _ => by rw [let_eq]; exact bad σb xb hle2 kb3⟩
  rw [if_neg (show ¬ (3 : Int32) < nI (nE b ln p - nB b ln p) from nI_nlt (a := 3) c4 (by decide))]
  have ey : y = nV b ln p := hv c4
  rw [ey] at hy ⊢
  by_cases c5 : nV b ln p < lo
  · rw [if_pos (nI_lt c5 (by omega))]
    exact ⟨fun z => by have := z.2.2.2.2.1; omega, fun _ => by rw [let_eq]; exact bad σb xb hle2 kb3⟩
  rw [if_neg (nI_nlt (by omega) (by omega))]
  by_cases c6 : nV b ln p ≤ hi
  · rw [if_pos (nI_le c6 (by omega)), in_nI hi5 (by decide), gd_true, let_eq, xb.2.1, w.1.2.1, nI_clamp (by omega)]
    refine ⟨fun _ => ⟨_, rfl, ⟨xb.1.pI (by decide) _ _, xb.2.1, by rw [I_pI_o (by decide)]; exact xb.2.2.1, by rw [I_pI_o (by decide)]; exact xb.2.2.2.1, by rw [I_pI_o (by decide)]; exact xb.2.2.2.2⟩, kb3.pI (Or.inr rfl) _ _, fun j => ?_⟩, fun z => absurd ⟨by omega, hlt, c3, c4, by omega, c6⟩ z⟩
    by_cases hj : j = i
    · rw [hj, if_pos rfl, I_pI_self]
    · rw [if_neg hj, I_pI_ne hj, (kb 3 (by decide)).1, (ka 3 (by decide)).1]
  · rw [if_neg (nI_ge (by omega) (by omega))]
    exact ⟨fun z => absurd z.2.2.2.2.2 c6, fun _ => by rw [let_eq]; exact bad σb xb hle2 kb3⟩
theorem x_readEnd (w : WX σ0 b ln) (h : XS σ0 σ ln p (-1)) (hp : p ≤ ln) : (nB b ln p < ln ∧ b (nB b ln p) = 59 → ∃ σ1, f_X7_readEnd σ 1 = some ((), σ1) ∧ XS σ0 σ1 ln (nB b ln p + 1) (-1) ∧ Kq k1 σ σ1) ∧ (¬ (nB b ln p < ln ∧ b (nB b ln p) = 59) → ∃ σ1, f_X7_readEnd σ 1 = some ((), σ1) ∧ XS σ0 σ1 ln (nB b ln p) (nI (nB b ln p)) ∧ Kq k1 σ σ1) := by
  have h4 := w.2.2.1
  obtain ⟨σa, ea, xa, ka⟩ := x_skipB w h hp
  have hle : nB b ln p ≤ ln := rn_le hp
  unfold f_X7_readEnd
  rw [ea, bd_some, xa.2.2.1, xa.2.2.2.1]
  by_cases c2 : ln ≤ nB b ln p
  · rw [if_pos (nI_le c2 (by omega))]
    exact ⟨fun z => by have := z.1; omega, fun _ => ⟨_, rfl, xa.flt _, ka.pI rfl _ _⟩⟩
  have hlt : nB b ln p < ln := by omega
  rw [if_neg (nI_ge (by omega) (by omega)), in_nI (by omega) (by decide), gd_true, nI_clamp (by omega), xa.byte w hlt]
  have hb := w.2.2.2 _ hlt
  by_cases c3 : b (nB b ln p) = 59
  · rw [if_pos (show nI (b (nB b ln p)) = 59 by rw [c3]; rfl), let_eq, nI_1]
    exact ⟨fun _ => ⟨_, rfl, xa.go _, ka.pI rfl _ _⟩, fun z => absurd ⟨hlt, c3⟩ z⟩
  · rw [if_neg (show ¬ nI (b (nB b ln p)) = 59 from fun z => c3 (nI_inj (by omega) (by decide) z))]
    exact ⟨fun z => absurd z.2 c3, fun _ => ⟨_, rfl, xa.flt _, ka.pI rfl _ _⟩⟩
end LEX
