/-! ===== pages ===== -/
def PG (σ : bl_St) (xs : List Int32) : Prop := (bl_R σ 8 0 = 9 ∧ bl_I σ 8 1 = nI xs.length) ∧ ∀ i c, xs[i]? = some c → bl_I σ 9 i = c
def PM9 (τ : bl_St) (xs : List Int32) : Prop := (bl_R τ 139 18 = 151 ∧ bl_I τ 139 19 = nI xs.length) ∧ ∀ i c, xs[i]? = some c → bl_I τ 151 i = c
abbrev pgS (i : Nat) : Prop := i = 8 ∨ i = 9
/-- the reference's text alone differs -/
def Tx (τ τ1 : bl_St) : Prop := bl_R τ1 = bl_R τ ∧ bl_J τ1 = bl_J τ ∧ (∀ k, k ≠ 19 → bl_I τ1 139 k = bl_I τ 139 k) ∧ ∀ i, i ≠ 139 → i ≠ 151 → bl_I τ1 i = bl_I τ i
theorem Tx.rf (τ : bl_St) : Tx τ τ := ⟨rfl, rfl, fun _ _ => rfl, fun _ _ _ => rfl⟩
theorem Tx.tr {τ τ1 τ2 : bl_St} (h : Tx τ τ1) (h2 : Tx τ1 τ2) : Tx τ τ2 := ⟨h2.1.trans h.1, h2.2.1.trans h.2.1, fun k hk => (h2.2.2.1 k hk).trans (h.2.2.1 k hk), fun i a b => (h2.2.2.2 i a b).trans (h.2.2.2 i a b)⟩
theorem MI.tx {s : st_V} {τ τ1 : bl_St} (h : MI τ s) (x : Tx τ τ1) : MI τ1 s :=
  h.scr x.1 (x.2.2.1 5 (by decide)) (x.2.2.1 21 (by decide)) (x.2.2.2 140 (by decide) (by decide)) (x.2.2.2 143 (by decide) (by decide)) (x.2.2.2 152 (by decide) (by decide)) (x.2.2.2 153 (by decide) (by decide))
theorem XI.pg {s : st_V} {σ σ1 : bl_St} (h : XI σ s) (k : Kq pgS σ σ1) (hR : bl_R σ1 = bl_R σ) : XI σ1 s :=
  h.scr k (fun i hi => Or.inl hi) (h.1.ko hR (fun d hd => by rw [(k 125 (by decide)).2.1]; exact h.1.2.2.2.2.2.1.2 d hd))
theorem app_at {xs : List Int32} {c d : Int32} {i : Nat} (h : (xs ++ [c])[i]? = some d) : (i = xs.length ∧ d = c) ∨ (i ≠ xs.length ∧ xs[i]? = some d) := by
  by_cases hi : i < xs.length
  · rw [List.getElem?_append_left hi] at h
    exact Or.inr ⟨by omega, h⟩
  · rw [List.getElem?_append_right (by omega)] at h
    by_cases he : i = xs.length
    · subst he
      rw [Nat.sub_self] at h
      have h : some c = some d := h
      exact Or.inl ⟨rfl, (Option.some.inj h).symm⟩
    · rw [List.getElem?_eq_none (by show 1 ≤ i - xs.length; omega)] at h
      cases h
/-- the digits -/
def dgt (v u : Nat) : Int32 := nI (48 + v / u % 10)
def dK (v : Nat) : Nat → List Int32
  | 0 => [dgt v 1]
  | k + 1 => dgt v (10 ^ (k + 1)) :: dK v k
def nd (v : Nat) : Nat := if v < 10 then 0 else if v < 100 then 1 else if v < 1000 then 2 else 3
def num (v : Nat) : List Int32 := dK v (nd v)
theorem dK_len (v : Nat) : ∀ k, (dK v k).length = k + 1
  | 0 => rfl
  | k + 1 => by
    show (dK v k).length + 1 = k + 1 + 1
    rw [dK_len v k]
theorem num_len (v : Nat) : (num v).length = nd v + 1 := dK_len v (nd v)
theorem nd_le (v : Nat) : nd v ≤ 3 := by unfold nd; split; omega; split; omega; split <;> omega
theorem nd_iff {v j : Nat} (hv : v ≤ 9999) (hj : j ≤ 3) : v / 10 ^ j < 10 ↔ nd v ≤ j := by
  unfold nd
  rcases (show j = 0 ∨ j = 1 ∨ j = 2 ∨ j = 3 by omega) with rfl | rfl | rfl | rfl
  · split
    · omega
    · split
      · omega
      · split <;> omega
  · split
    · omega
    · split
      · omega
      · split <;> omega
  · split
    · omega
    · split
      · omega
      · split <;> omega
  · split
    · omega
    · split
      · omega
      · split <;> omega
theorem p10 : ∀ j, j ≤ 4 → 0 < 10 ^ j ∧ 10 ^ j ≤ 10000 := by decide
theorem p10d : ∀ j, j ≤ 3 → 10 ^ (j + 1) / 10 = 10 ^ j := by decide
theorem dgt_e {v u : Nat} (hv : v ≤ 9999) (hu : 0 < u) (hu2 : u < 2 ^ 31) : (48 : Int32) + (nI v / nI u - nI v / nI u / 10 * 10) = dgt v u := by
  have := Nat.div_le_self v u
  rw [nI_div (by omega) hu2, show (10 : Int32) = nI 10 from rfl, nI_mod (by omega) (by decide), show (48 : Int32) = nI 48 from rfl, nI_add]
  rfl
/-- a phrase begins, goes on -/
def Sta (xs : List Int32) : Prop := xs = [] ∨ xs.getLast? = some 59
def Mid (xs : List Int32) : Prop := ∃ c, xs.getLast? = some c ∧ c ≠ 59
theorem Mid.app {xs ys : List Int32} (h : Mid ys) : Mid (xs ++ ys) := by
  obtain ⟨c, h1, h2⟩ := h
  exact ⟨c, by rw [List.getLast?_append, h1]; rfl, h2⟩
theorem Sta.end1 (xs : List Int32) : Sta (xs ++ [59]) := Or.inr (by rw [List.getLast?_append]; rfl)
theorem mid_wrd : ∀ j, j < 8 → ∃ c, (bl_tc.getD j []).getLast? = some c ∧ c ≠ 59 := by
  intro j hj
  rcases (show j = 0 ∨ j = 1 ∨ j = 2 ∨ j = 3 ∨ j = 4 ∨ j = 5 ∨ j = 6 ∨ j = 7 by omega) with rfl | rfl | rfl | rfl | rfl | rfl | rfl | rfl
  · exact ⟨115, rfl, by decide⟩
  · exact ⟨115, rfl, by decide⟩
  · exact ⟨115, rfl, by decide⟩
  · exact ⟨115, rfl, by decide⟩
  · exact ⟨110, rfl, by decide⟩
  · exact ⟨100, rfl, by decide⟩
  · exact ⟨101, rfl, by decide⟩
  · exact ⟨116, rfl, by decide⟩
theorem dgt_ne {v u : Nat} : dgt v u ≠ 59 := fun z => by
  have h := Nat.mod_lt (v / u) (show 0 < 10 by decide)
  have := nI_inj (a := 48 + v / u % 10) (b := 59) (by omega) (by decide) z
  omega
theorem mid_dK (v : Nat) : ∀ k, Mid (dK v k)
  | 0 => ⟨dgt v 1, rfl, dgt_ne⟩
  | k + 1 => by
    show Mid ([dgt v (10 ^ (k + 1))] ++ dK v k)
    exact (mid_dK v k).app
theorem mid_num (v : Nat) : Mid (num v) := mid_dK v _
section PGX
variable {σ : bl_St} {xs : List Int32}
theorem x_put (h : PG σ xs) (hl : xs.length < 256) (c : Int32) : ∃ σ1, f_X5_put σ 8 c = some ((), σ1) ∧ PG σ1 (xs ++ [c]) ∧ Kq pgS σ σ1 ∧ bl_R σ1 = bl_R σ := by
  refine ⟨bl_pI (bl_pI σ 9 xs.length c) 8 1 (nI (xs.length + 1)), ?_, ⟨⟨h.1.1, ?_⟩, fun i d hi => ?_⟩, ((Kq.rf pgS σ).pI (Or.inr rfl) _ _).pI (Or.inl rfl) _ _, rfl⟩
  · unfold f_X5_put
    rw [h.1.2, if_neg (show ¬ (256 : Int32) ≤ nI xs.length from nI_ge (b := 256) hl (by decide)), in_nI hl (by decide), gd_true, let_eq, let_eq, h.1.1, nI_clamp (by omega), I_pI_o (show 8 ≠ 9 by decide), h.1.2, nI_1]
  · rw [I_pI_self, List.length_append]
    rfl
  · rw [I_pI_o (show 9 ≠ 8 by decide)]
    rcases app_at hi with ⟨h1, h2⟩ | ⟨h1, h2⟩
    · rw [h1, h2, I_pI_self]
    · rw [I_pI_ne h1]
      exact h.2 i d h2
theorem x_blank0 (h : PG σ xs) (hl : xs.length ≤ 256) (hs : Sta xs) : f_X5_putBlank σ 8 = some ((), σ) := by
  unfold f_X5_putBlank
  rw [h.1.2]
  rcases hs with rfl | hs
  · rw [if_pos (by decide)]
  · have hp : 0 < xs.length := by
      cases xs with
      | nil => cases hs
      | cons a b => exact Nat.succ_pos _
    rw [List.getLast?_eq_getElem?] at hs
    rw [if_neg (nI_nle hp (by omega)), show (1 : Int32) = nI 1 from rfl, nI_sub hp, in_nI (by omega) (by decide), gd_true, h.1.1, nI_clamp (by omega), h.2 _ _ hs, if_pos rfl]
theorem x_blank1 (h : PG σ xs) (hl : xs.length < 256) (hs : Mid xs) : ∃ σ1, f_X5_putBlank σ 8 = some ((), σ1) ∧ PG σ1 (xs ++ [32]) ∧ Kq pgS σ σ1 ∧ bl_R σ1 = bl_R σ := by
  obtain ⟨c, h1, h2⟩ := hs
  have hp : 0 < xs.length := by
    cases xs with
    | nil => cases h1
    | cons a b => exact Nat.succ_pos _
  rw [List.getLast?_eq_getElem?] at h1
  obtain ⟨σ1, e1, q⟩ := x_put h hl 32
  refine ⟨σ1, ?_, q⟩
  unfold f_X5_putBlank
  rw [h.1.2, if_neg (nI_nle hp (by omega)), show (1 : Int32) = nI 1 from rfl, nI_sub hp, in_nI (by omega) (by decide), gd_true, h.1.1, nI_clamp (by omega), h.2 _ _ h1, if_neg h2, e1, bd_some]
theorem tl_len : ∀ j, j < 8 → bl_tl.getD j 0 = (bl_tc.getD j []).length := by decide
theorem x_chars {j : Nat} (hj : j < 8) : ∀ (r i m : Nat) (σ : bl_St), i + r = (bl_tc.getD j []).length → r < m → PG σ (xs ++ (bl_tc.getD j []).take i) → xs.length + (bl_tc.getD j []).length ≤ 256 → ∃ σ1, bl_fx (fun _ _ _ _ => none) (b_X5_putWord_6) m σ 8 j (nI i) = some ((), σ1) ∧ PG σ1 (xs ++ bl_tc.getD j []) ∧ Kq pgS σ σ1 ∧ bl_R σ1 = bl_R σ := by
  have hl := tl_len j hj
  obtain ⟨w, hw⟩ : ∃ w, bl_tc.getD j [] = w := ⟨_, rfl⟩
  rw [hw] at hl ⊢
  intro r
  induction r with
  | zero =>
    intro i m σ hi hm h hle
    obtain ⟨m, rfl⟩ : ∃ z, m = z + 1 := ⟨m - 1, by omega⟩
    refine ⟨σ, ?_, ?_, Kq.rf _ σ, rfl⟩
    · rw [fx_succ]
      show (bl_bd (f_J0_length_8abf5 σ j) _) = _
      unfold f_J0_length_8abf5
      rw [gd_of (by simpa using hj), bd_some, hl, if_pos (nI_le (by omega) (by omega))]
    · rw [List.take_of_length_le (by omega)] at h
      exact h
  | succ r ih =>
    intro i m σ hi hm h hle
    obtain ⟨m, rfl⟩ : ∃ z, m = z + 1 := ⟨m - 1, by omega⟩
    have hil : i < w.length := by omega
    have hlt : (xs ++ w.take i).length < 256 := by rw [List.length_append, List.length_take]; omega
    obtain ⟨c, hc⟩ : ∃ c, w[i]? = some c := ⟨w[i], List.getElem?_eq_getElem hil⟩
    obtain ⟨σa, ea, pa, ka, ra⟩ := x_put h hlt c
    rw [List.append_assoc, show w.take i ++ [c] = w.take (i + 1) by rw [List.take_add_one, hc]; rfl] at pa
    obtain ⟨σ1, e1, p1, k1, r1⟩ := ih (i + 1) m σa (by omega) (by omega) pa hle
    refine ⟨σ1, ?_, p1, ka.tr k1, r1.trans ra⟩
    rw [fx_succ]
    show (bl_bd (f_J0_length_8abf5 σ j) _) = _
    have e2 : f_J0_charAt_5068e σ j (nI i) = some (c, σ) := by
      unfold f_J0_charAt_5068e
      rw [gd_of (by rw [hl, in_nI hil (by omega)]; simpa using hj), nI_clamp (by omega), hw, List.getD_eq_getElem?_getD, hc]
      rfl
    unfold f_J0_length_8abf5
    rw [gd_of (by simpa using hj), bd_some, hl, if_neg (nI_ge hil (by omega)), e2, bd_some, ea, bd_some, let_eq, nI_1]
    exact e1
theorem x_word0 {j : Nat} (h : PG σ xs) (hj : j < 8) (hs : Sta xs) (hl : xs.length + (bl_tc.getD j []).length ≤ 256) : ∃ σ1, f_X5_putWord σ 8 j = some ((), σ1) ∧ PG σ1 (xs ++ bl_tc.getD j []) ∧ Kq pgS σ σ1 ∧ bl_R σ1 = bl_R σ := by
  have h10 : ∀ j, j < 8 → (bl_tc.getD j []).length ≤ 10 := by decide
  have := h10 j hj
  obtain ⟨σ1, e1, q⟩ := x_chars (xs := xs) hj (bl_tc.getD j []).length 0 bl_fu σ (by omega) (by unfold bl_fu; omega) (by rw [List.take_zero, List.append_nil]; exact h) hl
  refine ⟨σ1, ?_, q⟩
  unfold f_X5_putWord
  rw [x_blank0 h (by omega) hs, bd_some]
  exact e1
theorem x_word1 {j : Nat} (h : PG σ xs) (hj : j < 8) (hs : Mid xs) (hl : xs.length + 1 + (bl_tc.getD j []).length ≤ 256) : ∃ σ1, f_X5_putWord σ 8 j = some ((), σ1) ∧ PG σ1 (xs ++ 32 :: bl_tc.getD j []) ∧ Kq pgS σ σ1 ∧ bl_R σ1 = bl_R σ := by
  have h10 : ∀ j, j < 8 → (bl_tc.getD j []).length ≤ 10 ∧ 1 ≤ (bl_tc.getD j []).length := by decide
  have := h10 j hj
  obtain ⟨σa, ea, pa, ka, ra⟩ := x_blank1 h (by omega) hs
  obtain ⟨σ1, e1, p1, k1, r1⟩ := x_chars (xs := xs ++ [32]) hj (bl_tc.getD j []).length 0 bl_fu σa (by omega) (by unfold bl_fu; omega) (by rw [List.take_zero, List.append_nil]; exact pa) (by rw [List.length_append]; show xs.length + 1 + _ ≤ 256; omega)
  rw [List.append_assoc] at p1
  refine ⟨σ1, ?_, p1, ka.tr k1, r1.trans ra⟩
  unfold f_X5_putWord
  rw [ea, bd_some]
  exact e1
theorem x_digits {v : Nat} (hv : v ≤ 9999) : ∀ (k i m : Nat) (σ : bl_St) (xs : List Int32), k ≤ 3 → i + k < 9 → k + 1 < m → PG σ xs → xs.length + k + 1 ≤ 256 → ∃ σ1, bl_fx (fun _ _ _ _ _ => none) (b_X5_putNumber_35) m σ 8 (nI v) (nI (10 ^ k)) (nI i) = some ((), σ1) ∧ PG σ1 (xs ++ dK v k) ∧ Kq pgS σ σ1 ∧ bl_R σ1 = bl_R σ := by
  intro k
  induction k with
  | zero =>
    intro i m σ xs hk hi hm h hl
    obtain ⟨m, rfl⟩ : ∃ z, m = z + 2 := ⟨m - 2, by omega⟩
    obtain ⟨σa, ea, pa, ka, ra⟩ := x_put h (by omega) (dgt v 1)
    refine ⟨σa, ?_, pa, ka, ra⟩
    rw [show m + 2 = (m + 1) + 1 from rfl, fx_succ]
    show (if (10 : Int32) ≤ nI i then _ else _) = _
    rw [if_neg (show ¬ (10 : Int32) ≤ nI i from nI_ge (b := 10) (by omega) (by decide)), if_neg (show ¬ nI (10 ^ 0) ≤ 0 by decide), gd_of (by decide), show (48 : Int32) + (nI v / nI (10 ^ 0) - nI v / nI (10 ^ 0) / 10 * 10) = dgt v 1 from dgt_e (u := 1) hv (by decide) (by decide), ea, bd_some, let_eq, let_eq, fx_succ, nI_1]
    show (if (10 : Int32) ≤ nI (i + 1) then _ else _) = _
    rw [if_neg (show ¬ (10 : Int32) ≤ nI (i + 1) from nI_ge (b := 10) (by omega) (by decide)), if_pos (by decide)]
  | succ k ih =>
    intro i m σ xs hk hi hm h hl
    obtain ⟨m, rfl⟩ : ∃ z, m = z + 1 := ⟨m - 1, by omega⟩
    have hp := p10 (k + 1) (by omega)
    obtain ⟨σa, ea, pa, ka, ra⟩ := x_put h (by omega) (dgt v (10 ^ (k + 1)))
    obtain ⟨σ1, e1, p1, k1, r1⟩ := ih (i + 1) m σa _ (by omega) (by omega) (by omega) pa (by rw [List.length_append]; show xs.length + 1 + k + 1 ≤ 256; omega)
    rw [List.append_assoc] at p1
    refine ⟨σ1, ?_, p1, ka.tr k1, r1.trans ra⟩
    rw [fx_succ]
    show (if (10 : Int32) ≤ nI i then _ else _) = _
    rw [if_neg (show ¬ (10 : Int32) ≤ nI i from nI_ge (b := 10) (by omega) (by decide)), if_neg (nI_nle hp.1 (by omega)), gd_of (by simp [nI_ne0 hp.1 (by omega)]), dgt_e hv hp.1 (by omega), ea, bd_some, let_eq, let_eq, show (10 : Int32) = nI 10 from rfl, nI_div (by omega) (by decide), p10d k (by omega), nI_1]
    exact e1
theorem x_units {v : Nat} (hv : v ≤ 9999) : ∀ (r j m : Nat), j + r = nd v → r < m → bl_fx (fun _ _ _ _ _ => none) (b_X5_putNumber_8) m σ 8 (nI v) (nI (10 ^ j)) (nI j) = b_X5_putNumber_33 σ 8 (nI v) (nI (10 ^ nd v)) := by
  have h3 := nd_le v
  intro r
  induction r with
  | zero =>
    intro j m hj hm
    obtain ⟨m, rfl⟩ : ∃ z, m = z + 1 := ⟨m - 1, by omega⟩
    have hp := p10 j (by omega)
    have hq := (nd_iff (j := j) hv (by omega)).mpr (by omega)
    rw [fx_succ]
    unfold b_X5_putNumber_8
    rw [if_neg (show ¬ (9 : Int32) ≤ nI j from nI_ge (b := 9) (by omega) (by decide)), gd_of (by simp [nI_ne0 hp.1 (by omega)]), nI_div (by omega) (by omega), if_pos (show nI (v / 10 ^ j) < 10 from nI_lt (b := 10) hq (by decide)), show j = nd v by omega]
  | succ r ih =>
    intro j m hj hm
    obtain ⟨m, rfl⟩ : ∃ z, m = z + 1 := ⟨m - 1, by omega⟩
    have hp := p10 j (by omega)
    have hq : ¬ v / 10 ^ j < 10 := fun z => by have := (nd_iff (j := j) hv (by omega)).mp z; omega
    have hd := Nat.div_le_self v (10 ^ j)
    rw [fx_succ]
    unfold b_X5_putNumber_8
    rw [if_neg (show ¬ (9 : Int32) ≤ nI j from nI_ge (b := 9) (by omega) (by decide)), gd_of (by simp [nI_ne0 hp.1 (by omega)]), nI_div (by omega) (by omega), if_neg (show ¬ nI (v / 10 ^ j) < 10 from nI_nlt (b := 10) (by omega) (by omega)), let_eq, let_eq, show (10 : Int32) = nI 10 from rfl, nI_mul, ← Nat.pow_succ, nI_1]
    exact ih (j + 1) m (by omega) (by omega)
theorem x_num {v : Nat} (h : PG σ xs) (hv : v ≤ 9999) (hs : Mid xs) (hl : xs.length + 1 + (num v).length ≤ 256) : ∃ σ1, f_X5_putNumber σ 8 (nI v) = some ((), σ1) ∧ PG σ1 (xs ++ 32 :: num v) ∧ Kq pgS σ σ1 ∧ bl_R σ1 = bl_R σ := by
  have h3 := nd_le v
  rw [num_len] at hl
  obtain ⟨σa, ea, pa, ka, ra⟩ := x_blank1 h (by omega) hs
  obtain ⟨σ1, e1, p1, k1, r1⟩ := x_digits hv (nd v) 0 bl_fu σa _ h3 (by omega) (by unfold bl_fu; omega) pa (by rw [List.length_append]; show xs.length + 1 + nd v + 1 ≤ 256; omega)
  rw [List.append_assoc] at p1
  refine ⟨σ1, ?_, p1, ka.tr k1, r1.trans ra⟩
  unfold f_X5_putNumber
  rw [ea, bd_some]
  refine (x_units hv (nd v) 0 bl_fu (by omega) (by unfold bl_fu; omega)).trans ?_
  unfold b_X5_putNumber_33
  exact e1
theorem x_end (h : PG σ xs) (hl : xs.length < 256) : ∃ σ1, f_X5_endPhrase σ 8 = some ((), σ1) ∧ PG σ1 (xs ++ [59]) ∧ Kq pgS σ σ1 ∧ bl_R σ1 = bl_R σ := by
  obtain ⟨σ1, e1, q⟩ := x_put h hl 59
  exact ⟨σ1, by unfold f_X5_endPhrase; rw [e1, bd_some], q⟩
/-- what is asked of a text -/
def txA (xs : List Int32) (i : Int32) : Int32 := if i < 0 then nI xs.length else (xs[i.toNatClampNeg]?).getD (-2)
theorem x_sign (h : PG σ xs) (hl : xs.length ≤ 256) (i : Int32) : f_X5_signAt σ 8 i = some (txA xs i, σ) := by
  unfold f_X5_signAt txA
  by_cases h0 : i < 0
  · rw [if_pos h0, if_neg (show ¬ (0 : Int32) ≤ i by rw [lt0_iff] at h0; rw [Int32.le_iff_toInt_le]; have : (0 : Int32).toInt = 0 := rfl; omega), h.1.2]
  · obtain ⟨k, hk, rfl⟩ := nI_of h0
    rw [if_neg h0, if_pos (nI_pos' hk), h.1.2, nI_clamp hk]
    by_cases hx : k < xs.length
    · rw [if_neg (nI_ge hx (by omega)), if_neg (show ¬ (256 : Int32) ≤ nI k from nI_ge (b := 256) (by omega) (by decide)), in_nI (by omega) (by decide), gd_true, h.1.1, h.2 k _ (List.getElem?_eq_getElem hx), List.getElem?_eq_getElem hx]
      rfl
    · rw [if_pos (nI_le (by omega) hk), List.getElem?_eq_none (by omega)]
      rfl
end PGX
