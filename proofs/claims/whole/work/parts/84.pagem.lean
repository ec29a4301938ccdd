/-! ===== pages: the reference; rows of texts ===== -/
def wfn : Nat → Nat → Nat → Option Nat
  | 0, _, _ => none
  | f + 1, a, o => if o = 0 then some a else if a < 45 then (if bl_wd.getD a 0 = 0 then wfn f (a + 1) (o - 1) else wfn f (a + 1) o) else none
def pw : List Nat := [0, 6, 11, 19, 24, 28, 34, 40]
/-- the reference's words are the class's, least and none in another order -/
def mx (w : Nat) : Nat := if w = 6 then 7 else if w = 7 then 6 else w
abbrev mwd (w : Nat) : List Int32 := bl_tc.getD (mx w) []
theorem wf_at : ∀ w, w < 8 → wfn 50 0 w = some (pw.getD w 0) := by decide +kernel
theorem wd_at : ∀ w, w < 8 → ∀ i, i < (mwd w).length → bl_wd.getD (pw.getD w 0 + i) 0 = (mwd w).getD i 0 ∧ (mwd w).getD i 0 ≠ 0 := by decide +kernel
theorem wd_end : ∀ w, w < 8 → bl_wd.getD (pw.getD w 0 + (mwd w).length) 0 = 0 ∧ pw.getD w 0 + (mwd w).length < 45 ∧ (mwd w).length ≤ 10 := by decide +kernel
/-- the reference's words are there -/
def WD (τ : bl_St) : Prop := bl_R τ 139 22 = 153 ∧ ∀ j, j < 45 → bl_I τ 153 j = bl_wd.getD j 0
theorem MI.wd {s : st_V} {τ : bl_St} (h : MI τ s) : WD τ := ⟨h.1.1.2.2.2.2, h.1.2⟩
theorem WD.tx {τ τ1 : bl_St} (h : WD τ) (x : Tx τ τ1) : WD τ1 := ⟨by rw [x.1]; exact h.1, by rw [x.2.2.2 153 (by decide) (by decide)]; exact h.2⟩
section PGM
variable {τ : bl_St} {xs : List Int32}
theorem m_sign1 (h : PM9 τ xs) (hl : xs.length < 400) (c : Int32) : ∃ τ1, f_X10_writesSign τ 139 c = some ((), τ1) ∧ PM9 τ1 (xs ++ [c]) ∧ Tx τ τ1 := by
  refine ⟨bl_pI (bl_pI τ 151 xs.length c) 139 19 (nI (xs.length + 1)), ?_, ⟨⟨h.1.1, ?_⟩, fun i d hi => ?_⟩, rfl, rfl, fun k hk => by rw [I_pI_ne hk, I_pI_o (by decide)], fun i h1 h2 => by rw [I_pI_o h1, I_pI_o h2]⟩
  · unfold f_X10_writesSign
    rw [h.1.2, in_nI hl (by decide), gd_true, let_eq, let_eq, h.1.1, nI_clamp (by omega), I_pI_o (show 139 ≠ 151 by decide), h.1.2, nI_1]
  · rw [I_pI_self, List.length_append]
    rfl
  · rw [I_pI_o (show 151 ≠ 139 by decide)]
    rcases app_at hi with ⟨h1, h2⟩ | ⟨h1, h2⟩
    · rw [h1, h2, I_pI_self]
    · rw [I_pI_ne h1]
      exact h.2 i d h2
theorem m_wfrom (hw : WD τ) : ∀ (f a o p m : Nat), wfn f a o = some p → f ≤ m → a + f < 2 ^ 31 → o < 2 ^ 31 → bl_fx (fun _ _ _ _ => none) (b_X10_wordFrom_4) m τ 139 (nI a) (nI o) = some (nI p, τ) := by
  intro f
  induction f with
  | zero => intro a o p m h; cases h
  | succ f ih =>
    intro a o p m h hm ha ho
    obtain ⟨m, rfl⟩ : ∃ z, m = z + 1 := ⟨m - 1, by omega⟩
    unfold wfn at h
    rw [fx_succ]
    unfold b_X10_wordFrom_4
    by_cases h0 : o = 0
    · rw [if_pos h0] at h
      cases h
      rw [h0, if_pos (by decide)]
    · rw [if_neg h0] at h
      rw [if_neg (nI_nle (by omega) ho)]
      by_cases h1 : a < 45
      · rw [if_pos h1] at h
        rw [in_nI h1 (by decide), gd_true, hw.1, nI_clamp (by omega), hw.2 a h1]
        by_cases h2 : bl_wd.getD a 0 = 0
        · rw [if_pos h2] at h
          rw [if_pos h2, let_eq]
          unfold b_X10_wordFrom_20
          obtain ⟨q, rfl⟩ : ∃ q, o = q + 1 := ⟨o - 1, by omega⟩
          rw [let_eq, nI_m1, nI_1]
          exact ih (a + 1) q p m h (by omega) (by omega) (by omega)
        · rw [if_neg h2] at h
          rw [if_neg h2]
          unfold b_X10_wordFrom_20
          rw [let_eq, nI_1]
          exact ih (a + 1) o p m h (by omega) (by omega) ho
      · rw [if_neg h1] at h
        cases h
theorem m_wordFrom (hw : WD τ) {w : Nat} (h : w < 8) : f_X10_wordFrom τ 139 (nI w) = some (nI (pw.getD w 0), τ) := by
  unfold f_X10_wordFrom
  exact m_wfrom hw 50 0 w _ bl_fu (wf_at w h) (by unfold bl_fu; omega) (by decide) (by omega)
theorem m_chars {w : Nat} (h8 : w < 8) : ∀ (r i m : Nat) (τ : bl_St), i + r = (mwd w).length → r < m → WD τ → PM9 τ (xs ++ (mwd w).take i) → xs.length + (mwd w).length ≤ 400 → ∃ τ1, bl_fx (fun _ _ _ => none) (b_X10_writesWord_6) m τ 139 (nI (pw.getD w 0 + i)) = some ((), τ1) ∧ PM9 τ1 (xs ++ mwd w) ∧ Tx τ τ1 := by
  have hat := wd_at w h8
  have hen := wd_end w h8
  obtain ⟨l, hl⟩ : ∃ l, mwd w = l := ⟨_, rfl⟩
  rw [hl] at hat hen ⊢
  intro r
  induction r with
  | zero =>
    intro i m τ hi hm hw h hle
    obtain ⟨m, rfl⟩ : ∃ z, m = z + 1 := ⟨m - 1, by omega⟩
    refine ⟨τ, ?_, ?_, Tx.rf τ⟩
    · rw [fx_succ]
      unfold b_X10_writesWord_6
      rw [show i = l.length by omega, in_nI hen.2.1 (by decide), gd_true, hw.1, nI_clamp (by omega), hw.2 _ hen.2.1, hen.1, if_pos rfl]
    · rw [List.take_of_length_le (by omega)] at h
      exact h
  | succ r ih =>
    intro i m τ hi hm hw h hle
    obtain ⟨m, rfl⟩ : ∃ z, m = z + 1 := ⟨m - 1, by omega⟩
    have hil : i < l.length := by omega
    have hlt : (xs ++ l.take i).length < 400 := by rw [List.length_append, List.length_take]; omega
    obtain ⟨c, hc⟩ : ∃ c, l[i]? = some c := ⟨l[i], List.getElem?_eq_getElem hil⟩
    have hq := hat i hil
    have ec : l.getD i 0 = c := by rw [List.getD_eq_getElem?_getD, hc]; rfl
    rw [ec] at hq
    obtain ⟨τa, ea, pa, xa⟩ := m_sign1 h hlt c
    rw [List.append_assoc, show l.take i ++ [c] = l.take (i + 1) by rw [List.take_add_one, hc]; rfl] at pa
    obtain ⟨τ1, e1, p1, x1⟩ := ih (i + 1) m τa (by omega) (by omega) (hw.tx xa) pa hle
    refine ⟨τ1, ?_, p1, xa.tr x1⟩
    rw [fx_succ]
    unfold b_X10_writesWord_6
    rw [in_nI (show pw.getD w 0 + i < 45 by omega) (by decide), gd_true, hw.1, nI_clamp (by omega), hw.2 _ (by omega), hq.1, if_neg hq.2, gd_true, ea, bd_some, let_eq, nI_1]
    exact e1
theorem m_word {w : Nat} (h : PM9 τ xs) (hw : WD τ) (h8 : w < 8) (hl : xs.length + (mwd w).length ≤ 400) : ∃ τ1, f_X10_writesWord τ 139 (nI w) = some ((), τ1) ∧ PM9 τ1 (xs ++ mwd w) ∧ Tx τ τ1 := by
  have hen := wd_end w h8
  obtain ⟨τ1, e1, q⟩ := m_chars (xs := xs) h8 (mwd w).length 0 bl_fu τ (by omega) (by unfold bl_fu; omega) hw (by rw [List.take_zero, List.append_nil]; exact h) hl
  refine ⟨τ1, ?_, q⟩
  unfold f_X10_writesWord
  rw [m_wordFrom hw h8, bd_some]
  exact e1
theorem m_digits {v : Nat} (hv : v ≤ 9999) : ∀ (k m : Nat) (τ : bl_St) (xs : List Int32), k ≤ 3 → k + 1 < m → PM9 τ xs → xs.length + k + 1 ≤ 400 → ∃ τ1, bl_fx (fun _ _ _ _ => none) (b_X10_writesNumber_24) m τ 139 (nI v) (nI (10 ^ k)) = some ((), τ1) ∧ PM9 τ1 (xs ++ dK v k) ∧ Tx τ τ1 := by
  intro k
  induction k with
  | zero =>
    intro m τ xs hk hm h hl
    obtain ⟨m, rfl⟩ : ∃ z, m = z + 2 := ⟨m - 2, by omega⟩
    obtain ⟨τa, ea, pa, xa⟩ := m_sign1 h (by omega) (dgt v 1)
    refine ⟨τa, ?_, pa, xa⟩
    rw [show m + 2 = (m + 1) + 1 from rfl, fx_succ]
    show (if nI (10 ^ 0) ≤ 0 then _ else _) = _
    rw [if_neg (show ¬ nI (10 ^ 0) ≤ 0 by decide), gd_of (by decide), show (48 : Int32) + (nI v / nI (10 ^ 0) - nI v / nI (10 ^ 0) / 10 * 10) = dgt v 1 from dgt_e (u := 1) hv (by decide) (by decide), ea, bd_some, let_eq, fx_succ]
    show (if nI (10 ^ 0) / 10 ≤ 0 then _ else _) = _
    rw [if_pos (by decide)]
  | succ k ih =>
    intro m τ xs hk hm h hl
    obtain ⟨m, rfl⟩ : ∃ z, m = z + 1 := ⟨m - 1, by omega⟩
    have hp := p10 (k + 1) (by omega)
    obtain ⟨τa, ea, pa, xa⟩ := m_sign1 h (by omega) (dgt v (10 ^ (k + 1)))
    obtain ⟨τ1, e1, p1, x1⟩ := ih m τa _ (by omega) (by omega) pa (by rw [List.length_append]; show xs.length + 1 + k + 1 ≤ 400; omega)
    rw [List.append_assoc] at p1
    refine ⟨τ1, ?_, p1, xa.tr x1⟩
    rw [fx_succ]
    show (if nI (10 ^ (k + 1)) ≤ 0 then _ else _) = _
    rw [if_neg (nI_nle hp.1 (by omega)), gd_of (by simp [nI_ne0 hp.1 (by omega)]), dgt_e hv hp.1 (by omega), ea, bd_some, let_eq, show (10 : Int32) = nI 10 from rfl, nI_div (by omega) (by decide), p10d k (by omega)]
    exact e1
theorem m_units {v : Nat} (hv : v ≤ 9999) : ∀ (r j m : Nat), j + r = nd v → r < m → bl_fx (fun _ _ _ _ => none) (b_X10_writesNumber_8) m τ 139 (nI v) (nI (10 ^ j)) = bl_fx (fun _ _ _ _ => none) (b_X10_writesNumber_24) bl_fu τ 139 (nI v) (nI (10 ^ nd v)) := by
  have h3 := nd_le v
  intro r
  induction r with
  | zero =>
    intro j m hj hm
    obtain ⟨m, rfl⟩ : ∃ z, m = z + 1 := ⟨m - 1, by omega⟩
    have hp := p10 j (by omega)
    have hq := (nd_iff (j := j) hv (by omega)).mpr (by omega)
    rw [fx_succ]
    show (bl_gd _ (if nI v / nI (10 ^ j) ≤ 9 then _ else _)) = _
    rw [gd_of (by simp [nI_ne0 hp.1 (by omega)]), nI_div (by omega) (by omega), if_pos (show nI (v / 10 ^ j) ≤ 9 from nI_le (b := 9) (by omega) (by decide)), show j = nd v by omega]
  | succ r ih =>
    intro j m hj hm
    obtain ⟨m, rfl⟩ : ∃ z, m = z + 1 := ⟨m - 1, by omega⟩
    have hp := p10 j (by omega)
    have hq : ¬ v / 10 ^ j < 10 := fun z => by have := (nd_iff (j := j) hv (by omega)).mp z; omega
    have hd := Nat.div_le_self v (10 ^ j)
    rw [fx_succ]
    show (bl_gd _ (if nI v / nI (10 ^ j) ≤ 9 then _ else _)) = _
    rw [gd_of (by simp [nI_ne0 hp.1 (by omega)]), nI_div (by omega) (by omega), if_neg (show ¬ nI (v / 10 ^ j) ≤ 9 from nI_ge (a := 9) (by omega) (by omega)), let_eq, show (10 : Int32) = nI 10 from rfl, nI_mul, ← Nat.pow_succ]
    exact ih (j + 1) m (by omega) (by omega)
theorem m_num {v : Nat} (h : PM9 τ xs) (hv : v ≤ 9999) (hl : xs.length + 1 + (num v).length ≤ 400) : ∃ τ1, f_X10_writesNumber τ 139 (nI v) = some ((), τ1) ∧ PM9 τ1 (xs ++ 32 :: num v) ∧ Tx τ τ1 := by
  have h3 := nd_le v
  rw [num_len] at hl
  obtain ⟨τa, ea, pa, xa⟩ := m_sign1 h (by omega) 32
  obtain ⟨τ1, e1, p1, x1⟩ := m_digits hv (nd v) bl_fu τa _ h3 (by unfold bl_fu; omega) pa (by rw [List.length_append]; show xs.length + 1 + nd v + 1 ≤ 400; omega)
  rw [List.append_assoc] at p1
  refine ⟨τ1, ?_, p1, xa.tr x1⟩
  unfold f_X10_writesNumber
  rw [ea, bd_some]
  exact (m_units hv (nd v) 0 bl_fu (by omega) (by unfold bl_fu; omega)).trans e1
theorem m_told (h : PM9 τ xs) (hl : xs.length ≤ 400) {i : Int32} (hi : (-1 : Int32) ≤ i) : f_X10_toldText τ 139 i = some (txA xs i, τ) := by
  have hm1 : (-1 : Int32).toInt = -1 := rfl
  unfold f_X10_toldText txA
  by_cases h0 : i < 0
  · have he : i = -1 := by
      rw [lt0_iff] at h0
      rw [Int32.le_iff_toInt_le, hm1] at hi
      apply Int32.toInt_inj.mp
      rw [hm1]
      omega
    rw [if_pos h0, if_pos he, h.1.2]
  · obtain ⟨k, hk, rfl⟩ := nI_of h0
    rw [if_neg h0, if_neg (fun z => by rw [z] at h0; exact h0 (by decide)), h.1.2, nI_clamp hk]
    by_cases hx : k < xs.length
    · rw [if_neg (nI_ge hx (by omega)), in_nI (by omega) (by decide), gd_true, h.1.1, h.2 k _ (List.getElem?_eq_getElem hx), List.getElem?_eq_getElem hx]
      rfl
    · rw [if_pos (nI_le (by omega) hk), List.getElem?_eq_none (by omega)]
      rfl
end PGM
/-! rows -/
def nms (f : Nat → Nat) : Nat → List Int32
  | 0 => []
  | k + 1 => nms f k ++ 32 :: num (f k)
def rowT (j : Nat) (f : Nat → Nat) (n : Nat) : List Int32 := bl_tc.getD j [] ++ nms f n ++ [59]
def catT (g : Nat → List Int32) : Nat → List Int32
  | 0 => []
  | k + 1 => catT g k ++ g k
theorem catT_len {g : Nat → List Int32} {B : Nat} : ∀ n, (∀ k, k < n → (g k).length ≤ B) → (catT g n).length ≤ B * n
  | 0, _ => Nat.zero_le _
  | n + 1, h => by
    have h1 := catT_len n (fun k hk => h k (by omega))
    have h2 := h n (by omega)
    show (catT g n ++ g n).length ≤ B * (n + 1)
    rw [List.length_append, Nat.mul_succ]
    omega
theorem mid_nms {ys : List Int32} (h : Mid ys) (f : Nat → Nat) : ∀ k, Mid (ys ++ nms f k)
  | 0 => by
    show Mid (ys ++ [])
    rw [List.append_nil]
    exact h
  | k + 1 => by
    show Mid (ys ++ (nms f k ++ 32 :: num (f k)))
    rw [← List.append_assoc]
    have : Mid ([32] ++ num (f k)) := (mid_num (f k)).app
    exact this.app
theorem sta_row (xs : List Int32) (j : Nat) (f : Nat → Nat) (n : Nat) : Sta (xs ++ rowT j f n) := by
  unfold rowT
  rw [← List.append_assoc]
  exact Sta.end1 _
theorem sta_cat {ys : List Int32} (h : Sta ys) (j : Nat → Nat) (f : Nat → Nat → Nat) (n : Nat) : ∀ k, Sta (ys ++ catT (fun i => rowT (j i) (f i) n) k)
  | 0 => by
    show Sta (ys ++ [])
    rw [List.append_nil]
    exact h
  | k + 1 => by
    show Sta (ys ++ (catT (fun i => rowT (j i) (f i) n) k ++ rowT (j k) (f k) n))
    rw [← List.append_assoc]
    exact sta_row _ _ _ _
theorem nms_len (f : Nat → Nat) (k : Nat) : (nms f (k + 1)).length = (nms f k).length + (nd (f k) + 2) := by
  show (nms f k ++ 32 :: num (f k)).length = _
  rw [List.length_append]
  show (nms f k).length + ((num (f k)).length + 1) = _
  rw [num_len]
theorem row_len (j : Nat) (f : Nat → Nat) (n : Nat) : (rowT j f n).length = (bl_tc.getD j []).length + (nms f n).length + 1 := by
  unfold rowT
  rw [List.length_append, List.length_append]
  rfl
theorem nd1 {v : Nat} (h : v < 10) : nd v = 0 := by unfold nd; rw [if_pos h]
theorem nd2 {v : Nat} (h : v < 100) : nd v ≤ 1 := by unfold nd; split; omega; omega
theorem nd3 {v : Nat} (h : v < 1000) : nd v ≤ 2 := by unfold nd; split; omega; split; omega; omega
section ROW
variable {σ τ : bl_St} {xs : List Int32}
theorem m_row {w n a : Nat} {f : Nat → Nat} (h : PM9 τ xs) (hw : WD τ) (hR : bl_R τ 139 1 = 140) (hw5 : w < 5) (hf : ∀ k, k < n → bl_I τ 140 (a + k) = nI (f k) ∧ f k ≤ 9999) (ha : a + n ≤ 167) (hl : xs.length + (rowT w f n).length ≤ 400) : ∃ τ1, f_X10_writesRow τ 139 (nI w) (nI a) (nI n) = some ((), τ1) ∧ PM9 τ1 (xs ++ rowT w f n) ∧ Tx τ τ1 := by
  have em : mwd w = bl_tc.getD w [] := by
    show bl_tc.getD (mx w) [] = _
    unfold mx
    rw [if_neg (by omega), if_neg (by omega)]
  have mono : ∀ k, k ≤ n → (nms f k).length ≤ (nms f n).length := by
    intro k hk
    obtain ⟨d, rfl⟩ : ∃ d, n = k + d := ⟨n - k, by omega⟩
    clear hf ha hl hk
    induction d with
    | zero => exact Nat.le_refl _
    | succ d ih => rw [← Nat.add_assoc, nms_len]; omega
  rw [row_len] at hl
  obtain ⟨τa, ea, pa, xa⟩ := m_word h hw (show w < 8 by omega) (by rw [em]; omega)
  rw [em] at pa
  have l8 : ∀ (r k m : Nat) (ρ : bl_St), k + r = n → r < m → Tx τ ρ → PM9 ρ (xs ++ bl_tc.getD w [] ++ nms f k) → ∃ τ1, bl_fx (fun _ _ _ _ _ => none) (b_X10_writesRow_8) m ρ 139 (nI a) (nI n) (nI k) = some ((), τ1) ∧ PM9 τ1 (xs ++ rowT w f n) ∧ Tx τ τ1 := by
    intro r
    induction r with
    | zero =>
      intro k m ρ hk hm X P
      obtain ⟨m, rfl⟩ : ∃ z, m = z + 1 := ⟨m - 1, by omega⟩
      have hkn : k = n := by omega
      obtain ⟨τ1, e1, p1, x1⟩ := m_sign1 P (by rw [List.length_append, List.length_append, hkn]; omega) 59
      refine ⟨τ1, ?_, ?_, X.tr x1⟩
      · rw [fx_succ]
        unfold b_X10_writesRow_8
        rw [if_pos (nI_le (by omega) (by omega)), e1, bd_some]
      · unfold rowT
        rw [hkn] at p1
        rw [List.append_assoc, List.append_assoc] at p1
        rw [List.append_assoc]
        exact p1
    | succ r ih =>
      intro k m ρ hk hm X P
      obtain ⟨m, rfl⟩ : ∃ z, m = z + 1 := ⟨m - 1, by omega⟩
      have q := hf k (by omega)
      have hml := mono (k + 1) (by omega)
      rw [nms_len] at hml
      obtain ⟨τb, eb, pb, xb⟩ := m_num (v := f k) P q.2 (by rw [List.length_append, List.length_append, num_len]; omega)
      rw [List.append_assoc] at pb
      obtain ⟨τ1, e1, z⟩ := ih (k + 1) m τb (by omega) (by omega) (X.tr xb) pb
      refine ⟨τ1, ?_, z⟩
      have i140 := X.2.2.2 140 (by decide) (by decide)
      rw [fx_succ]
      show (if nI n ≤ nI k then _ else _) = _
      rw [if_neg (nI_ge (by omega) (by omega)), nI_add, in_nI (by omega) (by decide), gd_true, X.1, hR, nI_clamp (by omega), i140, q.1, eb, bd_some, let_eq, nI_1]
      exact e1
  obtain ⟨τ1, e1, q⟩ := l8 n 0 bl_fu τa (by omega) (by unfold bl_fu; omega) xa (by show PM9 τa (xs ++ bl_tc.getD w [] ++ []); rw [List.append_nil]; exact pa)
  refine ⟨τ1, ?_, q⟩
  unfold f_X10_writesRow
  rw [ea, bd_some]
  exact e1
end ROW
