/-! ===== lives in numbers ===== -/
/-- cells kept outside a set -/
def Kq (S : Nat → Prop) (σ σ1 : bl_St) : Prop := ∀ i, ¬ S i → bl_I σ1 i = bl_I σ i ∧ bl_J σ1 i = bl_J σ i ∧ bl_R σ1 i = bl_R σ i
theorem Kq.rf (S : Nat → Prop) (σ : bl_St) : Kq S σ σ := fun _ _ => ⟨rfl, rfl, rfl⟩
theorem Kq.tr {S : Nat → Prop} {σ σ1 σ2 : bl_St} (h : Kq S σ σ1) (h2 : Kq S σ1 σ2) : Kq S σ σ2 := fun i hi => ⟨(h2 i hi).1.trans (h i hi).1, (h2 i hi).2.1.trans (h i hi).2.1, (h2 i hi).2.2.trans (h i hi).2.2⟩
theorem Kq.mono {S S2 : Nat → Prop} {σ σ1 : bl_St} (h : Kq S σ σ1) (hs : ∀ i, S i → S2 i) : Kq S2 σ σ1 := fun i hi => h i (fun z => hi (hs i z))
theorem Ko.kq {S : Nat → Prop} {σ σ1 : bl_St} (h : Ko S σ σ1) : Kq S σ σ1 := fun i hi => ⟨(h.2 i hi).1, (h.2 i hi).2, by show σ1.2.2 i = σ.2.2 i; rw [h.1]⟩
theorem Kq.pI {S : Nat → Prop} {σ σ1 : bl_St} (h : Kq S σ σ1) {i : Nat} (hi : S i) (k : Nat) (x : Int32) : Kq S σ (bl_pI σ1 i k x) :=
  fun j hj => ⟨(bl_u_ne (fun z => hj (by rw [z]; exact hi))).trans (h j hj).1, (h j hj).2⟩
theorem Kq.pR {S : Nat → Prop} {σ σ1 : bl_St} (h : Kq S σ σ1) {i : Nat} (hi : S i) (k : Nat) (x : Nat) : Kq S σ (bl_pR σ1 i k x) :=
  fun j hj => ⟨(h j hj).1, (h j hj).2.1, (bl_u_ne (fun z => hj (by rw [z]; exact hi))).trans (h j hj).2.2⟩
theorem Kq.cI {S : Nat → Prop} {σ σ1 : bl_St} (h : Kq S σ σ1) {d : Nat} (hi : S d) (si sp dp n : Nat) : Kq S σ (bl_cI σ1 si sp d dp n) :=
  fun j hj => ⟨(bl_row_ne (fun z => hj (by rw [z]; exact hi))).trans (h j hj).1, (h j hj).2⟩
theorem Kq.cS {S : Nat → Prop} {σ σ1 : bl_St} (h : Kq S σ σ1) {d : Nat} (hi : S d) (f : Nat → Int32) (sp dp n : Nat) : Kq S σ (bl_cS σ1 f sp d dp n) :=
  fun j hj => ⟨(bl_row_ne (fun z => hj (by rw [z]; exact hi))).trans (h j hj).1, (h j hj).2⟩
theorem I_pI (σ : bl_St) (i k : Nat) (x : Int32) (a b : Nat) : bl_I (bl_pI σ i k x) a b = if a = i ∧ b = k then x else bl_I σ a b := by
  show bl_u σ.1 i k x a b = _
  unfold bl_u
  by_cases h1 : a = i <;> by_cases h2 : b = k <;> simp [h1, h2]
theorem R_pI (σ : bl_St) (i k : Nat) (x : Int32) : bl_R (bl_pI σ i k x) = bl_R σ := rfl
theorem J_pI (σ : bl_St) (i k : Nat) (x : Int32) : bl_J (bl_pI σ i k x) = bl_J σ := rfl
theorem I_cI (σ : bl_St) (si sp d dp n a b : Nat) : bl_I (bl_cI σ si sp d dp n) a b = if a = d ∧ dp ≤ b ∧ b < dp + n then bl_I σ si (sp + (b - dp)) else bl_I σ a b := by
  show bl_row σ.1 d (va_cpy (σ.1 si) (σ.1 d) sp dp n) a b = _
  unfold bl_row va_cpy
  by_cases h1 : a = d
  · subst h1
    by_cases h2 : dp ≤ b ∧ b < dp + n <;> simp [h2]
  · simp [h1]
theorem I_cS (σ : bl_St) (f : Nat → Int32) (sp d dp n a b : Nat) : bl_I (bl_cS σ f sp d dp n) a b = if a = d ∧ dp ≤ b ∧ b < dp + n then f (sp + (b - dp)) else bl_I σ a b := by
  show bl_row σ.1 d (va_cpy f (σ.1 d) sp dp n) a b = _
  unfold bl_row va_cpy
  by_cases h1 : a = d
  · subst h1
    by_cases h2 : dp ≤ b ∧ b < dp + n <;> simp [h2]
  · simp [h1]
theorem TX.kq {S : Nat → Prop} {σ σ1 : bl_St} {t : Nat} {v : tm_V} (h : TX σ t v) (k : Kq S σ σ1) (hs : ∀ i, t ≤ i → i ≤ t + 3 → ¬ S i) : TX σ1 t v := by
  obtain ⟨e0, -, e4⟩ := k t (hs t (by omega) (by omega))
  have e1 := (k (t + 1) (hs (t + 1) (by omega) (by omega))).1
  have e2 := (k (t + 2) (hs (t + 2) (by omega) (by omega))).1
  have e3 := (k (t + 3) (hs (t + 3) (by omega) (by omega))).1
  unfold TX at *
  rw [e0, e1, e2, e3, e4]
  exact h
/-- place, on, gone, counted, guard; in year, ended, told, borne; paid; book; ledger, the latest first -/
abbrev lf_V : Type := (Nat × Nat × Nat × Nat × Nat) × (Nat × Nat × Nat × Nat) × (Int32 × Int32 × Int32 × Int32) × (Nat → Nat → Nat) × (Nat → Nat → Nat)
abbrev lP (l : lf_V) : Nat := l.1.1
abbrev lO (l : lf_V) : Nat := l.1.2.1
abbrev lG (l : lf_V) : Nat := l.1.2.2.1
abbrev lC (l : lf_V) : Nat := l.1.2.2.2.1
abbrev lU (l : lf_V) : Nat := l.1.2.2.2.2
abbrev lY (l : lf_V) : Nat := l.2.1.1
abbrev lE (l : lf_V) : Nat := l.2.1.2.1
abbrev lT (l : lf_V) : Nat := l.2.1.2.2.1
abbrev lB (l : lf_V) : Nat := l.2.1.2.2.2
abbrev lpp (l : lf_V) : Int32 := l.2.2.1.1
abbrev lpg (l : lf_V) : Int32 := l.2.2.1.2.1
abbrev lpt (l : lf_V) : Int32 := l.2.2.1.2.2.1
abbrev lpb (l : lf_V) : Int32 := l.2.2.1.2.2.2
abbrev lBk (l : lf_V) : Nat → Nat → Nat := l.2.2.2.1
abbrev lLg (l : lf_V) : Nat → Nat → Nat := l.2.2.2.2
def LOk (v : tm_V) (l : lf_V) (n : Nat) : Prop :=
  ((tN v = 0 → lP l = 0 ∧ lO l = 0) ∧ (0 < tN v → lP l < tN v)) ∧ (lO l ≤ 1 ∧ lC l ≤ 3 ∧ lU l ≤ 1) ∧ (lO l = 0 → lG l = 0 ∧ lC l = 0 ∧ lU l = 0) ∧ (lO l = 1 → lG l < tH v ∧ lC l ≤ lG l ∧ lY l ≤ 1098 + 999 * lG l) ∧ (lE l ≤ 20 * n ∧ lT l + lB l ≤ 60 * n) ∧ ∀ k, k < min 16 (lE l) → lLg l k 1 ≤ 4095
/-- a ring of 16 -/
def Ring (f : Nat → Int32) (all : Nat) (bk : Nat → Nat → Nat) : Prop := ∀ k w, k < min 16 all → w < 3 → f ((all - 1 - k) % 16 * 3 + w) = nI (bk k w)
/-- a book of 16, the latest last -/
def Shelf (f : Nat → Int32) (all : Nat) (bk : Nat → Nat → Nat) : Prop := ∀ k w, k < min 16 all → w < 3 → f (3 * (min 16 all - 1 - k) + w) = nI (bk k w)
def cns (x y z : Nat) (bk : Nat → Nat → Nat) : Nat → Nat → Nat
  | 0, w => if w = 0 then x else if w = 1 then y else z
  | k + 1, w => bk k w
def LX (σ : bl_St) (a : Nat) (l : lf_V) : Prop :=
  (bl_R σ a 13 = a + 1 ∧ bl_R σ a 14 = a + 2) ∧ (bl_I σ a 0 = nI (lP l) ∧ bl_I σ a 1 = nI (lO l) ∧ bl_I σ a 2 = nI (lG l) ∧ bl_I σ a 3 = nI (lC l) ∧ bl_I σ a 4 = nI (lU l)) ∧ (lO l = 1 → bl_I σ a 5 = nI (lY l)) ∧
  (bl_I σ a 6 = nI (lE l) ∧ bl_I σ a 7 = lpp l ∧ bl_I σ a 8 = lpg l ∧ bl_I σ a 9 = lpt l ∧ bl_I σ a 10 = lpb l ∧ bl_I σ a 11 = nI (lT l) ∧ bl_I σ a 12 = nI (lB l)) ∧
  Ring (bl_I σ (a + 1)) (lT l + lB l) (lBk l) ∧ Ring (bl_I σ (a + 2)) (lE l) (lLg l)
def LM (σ : bl_St) (a o : Nat) (l : lf_V) : Prop :=
  (bl_I σ a (o + 55) = nI (lP l) ∧ bl_I σ a (o + 56) = nI (lO l) ∧ bl_I σ a (o + 57) = nI (lG l) ∧ bl_I σ a (o + 58) = nI (lC l) ∧ bl_I σ a (o + 59) = nI (lU l)) ∧ (lO l = 1 → bl_I σ a (o + 67) = nI (lY l) ∧ bl_I σ a (o + 68) = nI (lP l)) ∧
  (bl_I σ a (o + 60) = nI (lE l) ∧ bl_I σ a (o + 61) = lpp l ∧ bl_I σ a (o + 62) = lpg l ∧ bl_I σ a (o + 63) = lpt l ∧ bl_I σ a (o + 64) = lpb l ∧ bl_I σ a (o + 65) = nI (lT l) ∧ bl_I σ a (o + 66) = nI (lB l)) ∧
  (bl_I σ a (o + 69) = nI (min 16 (lT l + lB l)) ∧ bl_I σ a (o + 118) = nI (min 16 (lE l))) ∧
  Shelf (fun j => bl_I σ a (o + 70 + j)) (lT l + lB l) (lBk l) ∧ Shelf (fun j => bl_I σ a (o + 119 + j)) (lE l) (lLg l)
theorem LX.kq {S : Nat → Prop} {σ σ1 : bl_St} {t : Nat} {l : lf_V} (h : LX σ t l) (k : Kq S σ σ1) (hs : ∀ i, t ≤ i → i ≤ t + 2 → ¬ S i) : LX σ1 t l := by
  obtain ⟨e0, -, e4⟩ := k t (hs t (by omega) (by omega))
  have e1 := (k (t + 1) (hs (t + 1) (by omega) (by omega))).1
  have e2 := (k (t + 2) (hs (t + 2) (by omega) (by omega))).1
  unfold LX at *
  rw [e0, e1, e2, e4]
  exact h
theorem TM.cp {σ σ1 : bl_St} {a o a1 o1 : Nat} {v : tm_V} (h : TM σ a o v) (ok : TOk v) (e : ∀ j, j < 167 → bl_I σ1 a1 (o1 + j) = bl_I σ a (o + j)) : TM σ1 a1 o1 v := by
  have h8 := ok.n8
  have h5 := ok.k5
  refine ⟨⟨(e 0 (by decide)).trans h.1.1, (e 1 (by decide)).trans h.1.2⟩, ⟨(e 2 (by decide)).trans h.2.1.1, (e 3 (by decide)).trans h.2.1.2.1, (e 4 (by decide)).trans h.2.1.2.2⟩, fun i hi => ?_, fun i hi => ?_⟩
  · rw [Nat.add_assoc, e (5 + i) (by omega), ← Nat.add_assoc]
    exact h.2.2.1 i hi
  · rw [Nat.add_assoc, e (45 + i) (by omega), ← Nat.add_assoc]
    exact h.2.2.2 i hi
theorem LM.cp {σ σ1 : bl_St} {a o a1 o1 : Nat} {l : lf_V} (h : LM σ a o l) (e : ∀ j, 55 ≤ j → j < 167 → bl_I σ1 a1 (o1 + j) = bl_I σ a (o + j)) : LM σ1 a1 o1 l := by
  obtain ⟨⟨a1, a2, a3, a4, a5⟩, b, ⟨c1, c2, c3, c4, c5, c6, c7⟩, ⟨d1, d2⟩, f1, f2⟩ := h
  refine ⟨⟨(e 55 (by decide) (by decide)).trans a1, (e 56 (by decide) (by decide)).trans a2, (e 57 (by decide) (by decide)).trans a3, (e 58 (by decide) (by decide)).trans a4, (e 59 (by decide) (by decide)).trans a5⟩, fun z => ⟨(e 67 (by decide) (by decide)).trans (b z).1, (e 68 (by decide) (by decide)).trans (b z).2⟩, ⟨(e 60 (by decide) (by decide)).trans c1, (e 61 (by decide) (by decide)).trans c2, (e 62 (by decide) (by decide)).trans c3, (e 63 (by decide) (by decide)).trans c4, (e 64 (by decide) (by decide)).trans c5, (e 65 (by decide) (by decide)).trans c6, (e 66 (by decide) (by decide)).trans c7⟩, ⟨(e 69 (by decide) (by decide)).trans d1, (e 118 (by decide) (by decide)).trans d2⟩, fun k w hk hw => ?_, fun k w hk hw => ?_⟩
  · rw [← f1 k w hk hw]
    show bl_I σ1 _ (o1 + 70 + (3 * (min 16 (lT l + lB l) - 1 - k) + w)) = bl_I σ a (o + 70 + (3 * (min 16 (lT l + lB l) - 1 - k) + w))
    rw [Nat.add_assoc, e _ (by omega) (by omega), ← Nat.add_assoc]
  · rw [← f2 k w hk hw]
    show bl_I σ1 _ (o1 + 119 + (3 * (min 16 (lE l) - 1 - k) + w)) = bl_I σ a (o + 119 + (3 * (min 16 (lE l) - 1 - k) + w))
    rw [Nat.add_assoc, e _ (by omega) (by omega), ← Nat.add_assoc]
theorem nI_mod16 {a : Nat} (ha : a < 2 ^ 31) : nI a - nI a / 16 * 16 = nI (a % 16) := nI_mod ha (show 16 < 2 ^ 31 by decide)
theorem xor16_nn {a : Nat} (ha : a < 2 ^ 31) : (0 : Int32) ≤ nI a ^^^ 16 := by
  have h : (nI a).toBitVec.msb = false := by
    rw [BitVec.msb_eq_toInt, Int32.toInt_toBitVec, nI_toInt ha]
    exact decide_eq_false (by omega)
  have h2 : (nI a ^^^ 16).toBitVec.msb = false := by
    rw [Int32.toBitVec_xor, BitVec.msb_xor, h]
    rfl
  rw [Int32.le_iff_toInt_le]
  exact BitVec.toInt_nonneg_of_msb_false h2
/-- the remainder by 16 of what is not below 0 -/
theorem x_floorMod16 (σ : bl_St) {a : Nat} (ha : a < 2 ^ 31) : f_J9_floorMod_7cf53 σ (nI a) 16 = some (nI (a % 16), σ) := by
  unfold f_J9_floorMod_7cf53
  rw [gd_of (by decide), let_eq, if_pos (xor16_nn ha), nI_mod16 ha]
/-- one more entry of a ring -/
theorem x_putEntry {σ : bl_St} {a n : Nat} {bk : Nat → Nat → Nat} (h : Ring (bl_I σ a) n bk) (hn : n < 2 ^ 31 - 1) (x y z : Nat) : ∃ σ1, f_X2_putEntry σ a (nI n) (nI x) (nI y) (nI z) = some ((), σ1) ∧ Kq (fun i => i = a) σ σ1 ∧ (bl_R σ1 = bl_R σ) ∧ Ring (bl_I σ1 a) (n + 1) (cns x y z bk) := by
  have hm : n % 16 < 16 := Nat.mod_lt _ (by decide)
  refine ⟨bl_pI (bl_pI (bl_pI σ a (n % 16 * 3) (nI x)) a (n % 16 * 3 + 1) (nI y)) a (n % 16 * 3 + 2) (nI z), ?_, (((Kq.rf (fun i => i = a) σ).pI rfl _ _).pI rfl _ _).pI rfl _ _, rfl, ?_⟩
  · unfold f_X2_putEntry
    rw [x_floorMod16 σ (by omega), bd_some, nI_lit 3, nI_mul, let_eq, in_nI (by omega) (by decide), gd_true, let_eq, nI_lit 1, nI_add, in_nI (by omega) (by decide), gd_true, let_eq, nI_lit 2, nI_add, in_nI (by omega) (by decide), gd_true, let_eq, nI_clamp (by omega), nI_clamp (by omega), nI_clamp (by omega)]
  · intro k w hk hw
    simp only [I_pI]
    cases k with
    | zero =>
      rw [show n + 1 - 1 - 0 = n by omega]
      rcases (show w = 0 ∨ w = 1 ∨ w = 2 by omega) with rfl | rfl | rfl <;> simp [cns]
    | succ k =>
      have e : (n + 1 - 1 - (k + 1)) = n - 1 - k := by omega
      rw [e]
      have hne : (n - 1 - k) % 16 ≠ n % 16 := by omega
      have ht := h k w (by omega) hw
      generalize (n - 1 - k) % 16 = p at *
      rw [if_neg (by omega), if_neg (by omega), if_neg (by omega)]
      exact ht
section XLF
variable {σ : bl_St} {v : tm_V} {l : lf_V} {a t : Nat}
/-- a year begins -/
def lBegin (v : tm_V) (l : lf_V) (g : Nat) : lf_V :=
  ((lP l, 1, 0, 0, g), (tC v (5 * lP l) + g * tC v (5 * lP l + 4), lE l, lT l, lB l), (lpp l + nI (tC v (5 * lP l)), lpg l + nI (g * tC v (5 * lP l + 4)), lpt l, lpb l), lBk l, lLg l)
/-- the year ends -/
def lEnd (v : tm_V) (l : lf_V) : lf_V :=
  ((tB v (lP l) (lC l), 0, 0, 0, 0), (0, lE l + 1, lT l, lB l), l.2.2.1, lBk l, cns (lP l) (lY l) (lC l) (lLg l))
/-- a chance goes -/
def lPass (v : tm_V) (l : lf_V) : lf_V := if lG l + 1 < tH v then ((lP l, lO l, lG l + 1, lC l, lU l), l.2) else lEnd v l
/-- a loss comes: told (1) or borne (0) -/
def lLoss (v : tm_V) (l : lf_V) (s d : Nat) : lf_V :=
  if d = 1 then ((lP l, lO l, lG l, (if lU l = 1 then lC l else lC l + 1), 0), (lY l + tP v s, lE l, lT l + 1, lB l), (lpp l, lpg l, lpt l + nI (tP v s), lpb l), cns (lE l) s 1 (lBk l), lLg l)
  else ((lP l, lO l, lG l, lC l, lU l), (lY l + tS v (2 * s), lE l, lT l, lB l + 1), (lpp l, lpg l, lpt l, lpb l + nI (tS v (2 * s))), cns (lE l) s 0 (lBk l), lLg l)
abbrev lPaid (v : tm_V) (s d : Nat) : Nat := if d = 1 then tP v s else tS v (2 * s)
theorem bo_lt {g : Nat} (h : g < 2) : bl_bo (nI g) = true := by
  rcases (show g = 0 ∨ g = 1 by omega) with rfl | rfl <;> rfl
theorem x_startYear (hT : TX σ t v) (ok : TOk v) (hX : LX σ a l) (hP : lP l < tN v) (h0 : lG l = 0 ∧ lC l = 0) {g : Nat} (hg : g < 2) (hsep : t + 3 < a ∨ a + 2 < t) :
    ∃ σ1, f_X2_startYear σ a t (nI g) = some (nI (lY (lBegin v l g)), σ1) ∧ Kq (fun i => i = a) σ σ1 ∧ LX σ1 a (lBegin v l g) := by
  have hp := (ok.2.1 _ hP).1
  have hf := (ok.2.1 _ hP).2.2
  obtain ⟨g0, c0⟩ := h0
  obtain ⟨⟨r1, r2⟩, ⟨a0, a1, a2, a3, a4⟩, b, ⟨c1, c2, c3, c4, c5, c6, c7⟩, d1, d2⟩ := hX
  obtain ⟨σ1, e1⟩ : ∃ z, z = bl_pI (bl_pI (bl_pI (bl_pI (bl_pI σ a 7 (bl_I σ a 7 + nI (tC v (5 * lP l)))) a 8 (bl_I σ a 8 + nI (g * tC v (5 * lP l + 4)))) a 1 1) a 4 (nI g)) a 5 (nI (tC v (5 * lP l)) + nI (g * tC v (5 * lP l + 4))) := ⟨_, rfl⟩
  refine ⟨σ1, ?_, by rw [e1]; exact (((((Kq.rf (fun i => i = a) σ).pI rfl _ _).pI rfl _ _).pI rfl _ _).pI rfl _ _).pI rfl _ _, ?_⟩
  · have key : b_X2_startYear_27 σ a (nI g) (nI (tC v (5 * lP l))) (nI (g * tC v (5 * lP l + 4))) = some (nI (lY (lBegin v l g)), σ1) := by
      unfold b_X2_startYear_27
      rw [let_eq, let_eq, let_eq, gd_of (bo_lt hg), let_eq, let_eq, e1]
      simp only [I_pI]
      simp [lBegin, lY, nI_add]
    unfold f_X2_startYear
    rw [a0, show (0 : Int32) = nI 0 from rfl, x_part hT ok hP (by decide), bd_some, Nat.add_zero]
    rcases (show g = 0 ∨ g = 1 by omega) with rfl | rfl
    · rw [if_pos (by rfl)]
      simpa using key
    · rw [if_neg (by decide), a0, show (4 : Int32) = nI 4 from rfl, x_part hT ok hP (by decide), bd_some]
      simpa using key
  · have hR : bl_R σ1 = bl_R σ := by rw [e1]; rfl
    have o1 : bl_I σ1 (a + 1) = bl_I σ (a + 1) := by rw [e1]; funext b; simp [I_pI]
    have o2 : bl_I σ1 (a + 2) = bl_I σ (a + 2) := by rw [e1]; funext b; simp [I_pI]
    refine ⟨⟨by rw [hR]; exact r1, by rw [hR]; exact r2⟩, ?_, ?_, ?_, by rw [o1]; exact d1, by rw [o2]; exact d2⟩
    · rw [e1]
      simp only [I_pI]
      simp [lBegin, a0, a2, a3, g0, c0]
      rfl
    · intro _
      rw [e1]
      simp only [I_pI]
      simp [lBegin, nI_add]
    · rw [e1]
      simp only [I_pI]
      simp [lBegin, c1, c2, c3, c4, c5, c6, c7]
end XLF
