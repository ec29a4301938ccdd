/-! ===== what can be reached ===== -/
def bsub (A B : Nat) : Prop := ∀ d, Nat.testBit A d = true → Nat.testBit B d = true
theorem bsub.rf (A : Nat) : bsub A A := fun _ h => h
theorem bsub.tr {A B C : Nat} (h : bsub A B) (h2 : bsub B C) : bsub A C := fun d z => h2 d (h d z)
theorem bsub.eq {A B : Nat} (h : bsub A B) (h2 : bsub B A) : A = B := Nat.eq_of_testBit_eq (fun d => by
  cases ha : Nat.testBit A d with
  | true => rw [h d ha]
  | false =>
    cases hb : Nat.testBit B d with
    | true => rw [h2 d hb] at ha; cases ha
    | false => rfl)
def bcnt (N A : Nat) : Nat := sm (fun k => if Nat.testBit A k = true then 1 else 0) N
theorem bcnt_le (N A : Nat) : bcnt N A ≤ N := by
  have := sm_le (f := fun k => if Nat.testBit A k = true then 1 else 0) (B := 1) N (fun i _ => by show (if _ then 1 else 0) ≤ 1; split <;> omega)
  unfold bcnt
  omega
theorem bcnt_mono {A B : Nat} (h : bsub A B) : ∀ N, bcnt N A ≤ bcnt N B
  | 0 => Nat.le_refl _
  | N + 1 => by
    have := bcnt_mono h N
    show bcnt N A + (if Nat.testBit A N = true then 1 else 0) ≤ bcnt N B + (if Nat.testBit B N = true then 1 else 0)
    by_cases ha : Nat.testBit A N = true
    · rw [if_pos ha, if_pos (h N ha)]; omega
    · rw [if_neg ha]; omega
theorem bcnt_lt {A B : Nat} (h : bsub A B) : ∀ N, (∃ d, d < N ∧ Nat.testBit B d = true ∧ Nat.testBit A d = false) → bcnt N A < bcnt N B
  | 0, ⟨d, hd, _⟩ => absurd hd (Nat.not_lt_zero _)
  | N + 1, ⟨d, hd, h1, h2⟩ => by
    show bcnt N A + (if Nat.testBit A N = true then 1 else 0) < bcnt N B + (if Nat.testBit B N = true then 1 else 0)
    by_cases hdN : d = N
    · subst hdN
      have := bcnt_mono h d
      rw [if_neg (by rw [h2]; decide), if_pos h1]; omega
    · have := bcnt_lt h N ⟨d, by omega, h1, h2⟩
      by_cases ha : Nat.testBit A N = true
      · rw [if_pos ha, if_pos (h N ha)]; omega
      · rw [if_neg ha]; omega
def itr (f : Nat → Nat) : Nat → Nat → Nat
  | 0, M => M
  | n + 1, M => itr f n (f M)
/-- a growing f that keeps within N is still after N times -/
theorem itr_fix {f : Nat → Nat} {N : Nat} (hin : ∀ A, (∀ d, Nat.testBit A d = true → d < N) → bsub A (f A) ∧ ∀ d, Nat.testBit (f A) d = true → d < N) : ∀ (r A : Nat), (∀ d, Nat.testBit A d = true → d < N) → N < bcnt N A + r + 1 → f (itr f r A) = itr f r A := by
  intro r
  induction r with
  | zero =>
    intro A hA hc
    obtain ⟨h1, h2⟩ := hin A hA
    refine (bsub.eq (fun d hd => ?_) h1)
    show Nat.testBit A d = true
    cases ha : Nat.testBit A d with
    | true => rfl
    | false =>
      have := bcnt_lt h1 N ⟨d, h2 d hd, hd, ha⟩
      have := bcnt_le N (f A)
      omega
  | succ r ih =>
    intro A hA hc
    obtain ⟨h1, h2⟩ := hin A hA
    show f (itr f r (f A)) = itr f r (f A)
    by_cases he : f A = A
    · have : ∀ r, itr f r A = A := by
        intro r
        induction r with
        | zero => rfl
        | succ r ih2 => show itr f r (f A) = A; rw [he]; exact ih2
      rw [he, this r, he]
    · apply ih (f A) h2
      have hne : ∃ d, d < N ∧ Nat.testBit (f A) d = true ∧ Nat.testBit A d = false := by
        apply Classical.byContradiction
        intro hn
        apply he
        refine bsub.eq (fun d hd => ?_) h1
        cases ha : Nat.testBit A d with
        | true => rfl
        | false => exact absurd ⟨d, h2 d hd, hd, ha⟩ hn
      have := bcnt_lt h1 N hne
      omega
theorem itr_sub {f : Nat → Nat} {Q : Nat} (h : ∀ A, bsub A Q → bsub (f A) Q) : ∀ r A, bsub A Q → bsub (itr f r A) Q
  | 0, _, hA => hA
  | r + 1, A, hA => itr_sub h r (f A) (h A hA)
theorem itr_up {f : Nat → Nat} {N : Nat} (hin : ∀ A, (∀ d, Nat.testBit A d = true → d < N) → bsub A (f A) ∧ ∀ d, Nat.testBit (f A) d = true → d < N) : ∀ r A, (∀ d, Nat.testBit A d = true → d < N) → bsub A (itr f r A) ∧ ∀ d, Nat.testBit (itr f r A) d = true → d < N
  | 0, A, hA => ⟨bsub.rf A, hA⟩
  | r + 1, A, hA => ⟨(hin A hA).1.tr (itr_up hin r (f A) (hin A hA).2).1, (itr_up hin r (f A) (hin A hA).2).2⟩
theorem itr_lt {f : Nat → Nat} (h : ∀ A, A < 256 → f A < 256) : ∀ r A, A < 256 → itr f r A < 256
  | 0, _, hA => hA
  | r + 1, A, hA => itr_lt h r (f A) (h A hA)
/-- with all that lie behind a class -/
def bAd (v : tm_V) (L c : Nat) : Nat := ((L ||| 2 ^ tB v c 0) ||| 2 ^ tB v c 1) ||| 2 ^ tB v c 2
theorem bAd_at (v : tm_V) (L c d : Nat) : Nat.testBit (bAd v L c) d = true ↔ Nat.testBit L d = true ∨ ∃ t, t < 3 ∧ tB v c t = d := by
  unfold bAd
  simp only [Nat.testBit_or, Nat.testBit_two_pow, Bool.or_eq_true, decide_eq_true_eq]
  constructor
  · rintro (((h | h) | h) | h)
    · exact Or.inl h
    · exact Or.inr ⟨0, by decide, h⟩
    · exact Or.inr ⟨1, by decide, h⟩
    · exact Or.inr ⟨2, by decide, h⟩
  · rintro (h | ⟨t, ht, h⟩)
    · exact Or.inl (Or.inl (Or.inl h))
    · rcases (show t = 0 ∨ t = 1 ∨ t = 2 by omega) with rfl | rfl | rfl
      · exact Or.inl (Or.inl (Or.inr h))
      · exact Or.inl (Or.inr h)
      · exact Or.inr h
theorem bAd_lt {v : tm_V} (ok : TOk v) {L c : Nat} (hL : L < 256) (hc : c < tN v) : bAd v L c < 256 := by
  have h8 := ok.n8
  have h0 := tB_lt ok 0 hc
  have h1 := tB_lt ok 1 hc
  have h2 := tB_lt ok 2 hc
  exact or_lt8 (or_lt8 (or_lt8 hL (p2_lt (by omega))) (p2_lt (by omega))) (p2_lt (by omega))
def bSg (v : tm_V) (M : Nat) : Nat → Nat
  | 0 => 0
  | c + 1 => if Nat.testBit M c = true then bAd v (bSg v M c) c else bSg v M c
def bRd (v : tm_V) (M : Nat) : Nat → Nat
  | 0 => M
  | c + 1 => if Nat.testBit (bRd v M c) c = true then bAd v (bRd v M c) c else bRd v M c
def bCl (v : tm_V) (Q : Nat) : Prop := ∀ c, c < tN v → Nat.testBit Q c = true → ∀ t, t < 3 → Nat.testBit Q (tB v c t) = true
section BRX
variable {v : tm_V}
theorem bSg_at (M d : Nat) : ∀ c, Nat.testBit (bSg v M c) d = true ↔ ∃ a, a < c ∧ Nat.testBit M a = true ∧ ∃ t, t < 3 ∧ tB v a t = d
  | 0 => by simp [bSg]
  | c + 1 => by
    unfold bSg
    by_cases h : Nat.testBit M c = true
    · rw [if_pos h, bAd_at, bSg_at M d c]
      constructor
      · rintro (⟨a, h1, h2⟩ | h2)
        · exact ⟨a, by omega, h2⟩
        · exact ⟨c, by omega, h, h2⟩
      · rintro ⟨a, h1, h2, h3⟩
        by_cases hac : a = c
        · subst hac; exact Or.inr h3
        · exact Or.inl ⟨a, by omega, h2, h3⟩
    · rw [if_neg h, bSg_at M d c]
      constructor
      · rintro ⟨a, h1, h2⟩
        exact ⟨a, by omega, h2⟩
      · rintro ⟨a, h1, h2, h3⟩
        by_cases hac : a = c
        · subst hac; exact absurd h2 h
        · exact ⟨a, by omega, h2, h3⟩
theorem bRd_up (M : Nat) : ∀ c, bsub M (bRd v M c)
  | 0 => bsub.rf M
  | c + 1 => fun d hd => by
    have := bRd_up M c d hd
    unfold bRd
    split
    · exact (bAd_at v _ c d).mpr (Or.inl this)
    · exact this
theorem bRd_sub {Q : Nat} (hQ : bCl v Q) (M : Nat) (hM : bsub M Q) : ∀ c, c ≤ tN v → bsub (bRd v M c) Q
  | 0, _ => hM
  | c + 1, hc => fun d hd => by
    have ih := bRd_sub hQ M hM c (by omega)
    unfold bRd at hd
    split at hd
    · rename_i h
      rcases (bAd_at v _ c d).mp hd with z | ⟨t, ht, rfl⟩
      · exact ih d z
      · exact hQ c (by omega) (ih c h) t ht
    · exact ih d hd
theorem bRd_cl (M : Nat) : ∀ c, c ≤ tN v → ∀ a, a < c → Nat.testBit M a = true → ∀ t, t < 3 → Nat.testBit (bRd v M c) (tB v a t) = true
  | 0, _, _, h, _, _, _ => absurd h (Nat.not_lt_zero _)
  | c + 1, hc, a, ha, hM, t, ht => by
    unfold bRd
    by_cases hac : a = c
    · subst hac
      rw [if_pos (bRd_up M a a hM)]
      exact (bAd_at v _ a _).mpr (Or.inr ⟨t, ht, rfl⟩)
    · have := bRd_cl M c (by omega) a (by omega) hM t ht
      split
      · exact (bAd_at v _ c _).mpr (Or.inl this)
      · exact this
theorem bSg_lt (ok : TOk v) (M : Nat) : ∀ c, c ≤ tN v → bSg v M c < 256
  | 0, _ => by show 0 < 256; decide
  | c + 1, hc => by
    have := bSg_lt ok M c (by omega)
    unfold bSg
    split
    · exact bAd_lt ok this (by omega)
    · exact this
theorem bRd_lt (ok : TOk v) {M : Nat} (hM : M < 256) : ∀ c, c ≤ tN v → bRd v M c < 256
  | 0, _ => hM
  | c + 1, hc => by
    have := bRd_lt ok hM c (by omega)
    unfold bRd
    split
    · exact bAd_lt ok this (by omega)
    · exact this
def bXr (v : tm_V) (M : Nat) : Nat := M ||| bSg v M (tN v)
def bMr (v : tm_V) (M : Nat) : Nat := bRd v M (tN v)
theorem bXr_at (M d : Nat) : Nat.testBit (bXr v M) d = true ↔ Nat.testBit M d = true ∨ ∃ a, a < tN v ∧ Nat.testBit M a = true ∧ ∃ t, t < 3 ∧ tB v a t = d := by
  unfold bXr
  rw [Nat.testBit_or, Bool.or_eq_true, bSg_at]
theorem bXr_in (ok : TOk v) : ∀ A, (∀ d, Nat.testBit A d = true → d < tN v) → bsub A (bXr v A) ∧ ∀ d, Nat.testBit (bXr v A) d = true → d < tN v := by
  intro A hA
  refine ⟨fun d hd => (bXr_at A d).mpr (Or.inl hd), fun d hd => ?_⟩
  rcases (bXr_at A d).mp hd with h | ⟨a, ha, h1, t, ht, rfl⟩
  · exact hA d h
  · exact tB_lt ok t ha
theorem bMr_in (ok : TOk v) : ∀ A, (∀ d, Nat.testBit A d = true → d < tN v) → bsub A (bMr v A) ∧ ∀ d, Nat.testBit (bMr v A) d = true → d < tN v := by
  intro A hA
  refine ⟨bRd_up A (tN v), ?_⟩
  have go : ∀ c, c ≤ tN v → ∀ d, Nat.testBit (bRd v A c) d = true → d < tN v := by
    intro c
    induction c with
    | zero => intro _ d hd; exact hA d hd
    | succ c ih =>
      intro hc d hd
      unfold bRd at hd
      split at hd
      · rcases (bAd_at v _ c d).mp hd with z | ⟨t, ht, rfl⟩
        · exact ih (by omega) d z
        · exact tB_lt ok t (by omega)
      · exact ih (by omega) d hd
  exact go (tN v) (Nat.le_refl _)
/-- both come to the same -/
theorem reach_eq (ok : TOk v) {k : Nat} (hk : k < tN v) : itr (bXr v) (tN v) (2 ^ k) = itr (bMr v) 8 (2 ^ k) := by
  have h8 := ok.n8
  have h0 : ∀ d, Nat.testBit (2 ^ k) d = true → d < tN v := fun d hd => by
    rw [Nat.testBit_two_pow] at hd
    simp only [decide_eq_true_eq] at hd
    omega
  have hX := itr_fix (bXr_in ok) (tN v) (2 ^ k) h0 (by omega)
  have hM := itr_fix (bMr_in ok) 8 (2 ^ k) h0 (by omega)
  have cX : bCl v (itr (bXr v) (tN v) (2 ^ k)) := fun c hc hb t ht => by
    rw [← hX]
    exact (bXr_at _ _).mpr (Or.inr ⟨c, hc, hb, t, ht, rfl⟩)
  have cM : bCl v (itr (bMr v) 8 (2 ^ k)) := fun c hc hb t ht => by
    rw [← hM]
    exact bRd_cl _ (tN v) (Nat.le_refl _) c hc hb t ht
  have sX : ∀ Q, bCl v Q → bsub (2 ^ k) Q → bsub (itr (bXr v) (tN v) (2 ^ k)) Q := fun Q hQ hs => itr_sub (fun A hA d hd => by
    rcases (bXr_at A d).mp hd with h | ⟨a, ha, h1, t, ht, rfl⟩
    · exact hA d h
    · exact hQ a ha (hA a h1) t ht) _ _ hs
  have sM : ∀ Q, bCl v Q → bsub (2 ^ k) Q → bsub (itr (bMr v) 8 (2 ^ k)) Q := fun Q hQ hs => itr_sub (fun A hA => bRd_sub hQ A hA (tN v) (Nat.le_refl _)) _ _ hs
  exact bsub.eq (sX _ cM (itr_up (bMr_in ok) 8 _ h0).1) (sM _ cX (itr_up (bXr_in ok) (tN v) _ h0).1)
end BRX
section RCH
variable {s : st_V} {n : Nat}
theorem x_stepFrom {σ : bl_St} (hx : XI σ s) (ok : TOk (sv s)) {M : Nat} (hM : M < 256) : f_X9_stepFrom σ 0 (nI M) = some (nI (bSg (sv s) M (tN (sv s))), σ) := by
  have h8 := ok.n8
  have loop : ∀ (r c m : Nat), c + r = tN (sv s) → r < m → bl_fx (fun _ _ _ _ _ => none) (b_X9_stepFrom_4) m σ 0 (nI M) (nI (bSg (sv s) M c)) (nI c) = some (nI (bSg (sv s) M (tN (sv s))), σ) := by
    intro r
    induction r with
    | zero =>
      intro c m hc hm
      obtain ⟨m, rfl⟩ : ∃ q, m = q + 1 := ⟨m - 1, by omega⟩
      have hc : c = tN (sv s) := by omega
      rw [hc, fx_succ]
      show (if bl_I σ (bl_R σ 0 2) 0 ≤ nI (tN (sv s)) then _ else _) = _
      rw [hx.1.1.1.2.2.1, hx.2.1.2.1.1, if_pos (nI_le (Nat.le_refl _) (by omega))]
    | succ r ih =>
      intro c m hc hm
      obtain ⟨m, rfl⟩ : ∃ q, m = q + 1 := ⟨m - 1, by omega⟩
      have hcN : c < tN (sv s) := by omega
      have := ih (c + 1) m (by omega) (by omega)
      have hL := bSg_lt ok M c (by omega)
      have hb := bit_at M hM c (by omega)
      rw [fx_succ]
      show (if bl_I σ (bl_R σ 0 2) 0 ≤ nI c then _ else _) = _
      rw [hx.1.1.1.2.2.1, hx.2.1.2.1.1, if_neg (nI_ge hcN (by omega))]
      by_cases ht : Nat.testBit M c = true
      · rw [if_neg (fun z => by rw [hb.mp z] at ht; cases ht)]
        have e : bSg (sv s) M (c + 1) = bAd (sv s) (bSg (sv s) M c) c := by
          show (if Nat.testBit M c = true then _ else _) = _
          rw [if_pos ht]
        rw [e] at this
        have nx := fun t (h : t < 3) => x_next hx.2.1 ok hcN (k := t) (by omega)
        have nl := fun t => tB_lt ok t hcN
        have l1 : bSg (sv s) M c ||| 2 ^ tB (sv s) c 0 < 256 := or_lt8 hL (p2_lt (by have := nl 0; omega))
        have l2 : (bSg (sv s) M c ||| 2 ^ tB (sv s) c 0) ||| 2 ^ tB (sv s) c 1 < 256 := or_lt8 l1 (p2_lt (by have := nl 1; omega))
        rw [show bl_fu = 19996 + 1 + 1 + 1 + 1 from rfl, fx_succ, fx_succ, fx_succ, fx_succ]
        unfold b_X9_stepFrom_26
        rw [if_neg (by decide), hx.1.1.1.2.2.1, show (0 : Int32) = nI 0 from rfl, nx 0 (by decide), bd_some, let_eq, let_eq, bit_or _ hL _ (by have := nl 0; omega), nI_1, if_neg (by decide), hx.1.1.1.2.2.1, nx (0 + 1) (by decide), bd_some, let_eq, let_eq, bit_or _ l1 _ (by have := nl (0 + 1); omega), nI_1, if_neg (by decide), hx.1.1.1.2.2.1, nx (0 + 1 + 1) (by decide), bd_some, let_eq, let_eq, bit_or _ l2 _ (by have := nl (0 + 1 + 1); omega), nI_1, if_pos (by decide)]
        unfold b_X9_stepFrom_53
        rw [let_eq, nI_1]
        exact this
      · rw [if_pos (hb.mpr (by simpa using ht))]
        have e : bSg (sv s) M (c + 1) = bSg (sv s) M c := by
          show (if Nat.testBit M c = true then _ else _) = _
          rw [if_neg ht]
        rw [e] at this
        unfold b_X9_stepFrom_53
        rw [let_eq, nI_1]
        exact this
  unfold f_X9_stepFrom
  exact loop (tN (sv s)) 0 bl_fu (by omega) (by unfold bl_fu; omega)
theorem op_reach (ok : SOk s n) (c : Int32) : Both n s (fun σ => f_X9_reach σ 0 c) (fun τ => f_X10_reach τ 139 c) := by
  have h8 := ok.1.n8
  rcases (Classical.em (vC c (tN (sv s)))).symm with hc | hc
  · refine Both.same ok (-1) (fun σ hx => ⟨σ, ?_, hx⟩) (fun τ hm => ⟨τ, ?_, hm⟩)
    · show f_X9_reach σ 0 c = _
      unfold f_X9_reach
      rw [hx.1.1.1.2.2.1, x_hasClass hx.2.1 ok.1, bd_some, if_neg hc, if_pos rfl]
    · show f_X10_reach τ 139 c = _
      unfold f_X10_reach
      rw [m_isClass hm.1.1.1.1.1 hm.2.1 ok.1, bd_some, if_neg hc, if_pos rfl]
  obtain ⟨k, hk, rfl⟩ := vC_of (by omega) hc
  have hX256 : ∀ A, A < 256 → bXr (sv s) A < 256 := fun A hA => or_lt8 hA (bSg_lt ok.1 A _ (Nat.le_refl _))
  have hM256 : ∀ A, A < 256 → bMr (sv s) A < 256 := fun A hA => bRd_lt ok.1 hA _ (Nat.le_refl _)
  refine Both.same ok (nI (itr (bMr (sv s)) 8 (2 ^ k))) (fun σ hx => ⟨σ, ?_, hx⟩) (fun τ hm => ⟨τ, ?_, hm⟩)
  · show f_X9_reach σ 0 (nI k) = _
    rw [← reach_eq ok.1 hk]
    have loop : ∀ (r i m A : Nat), i + r = tN (sv s) → r < m → A < 256 → bl_fx (fun _ _ _ _ => none) (b_X9_reach_19) m σ 0 (nI A) (nI i) = some (nI (itr (bXr (sv s)) r A), σ) := by
      intro r
      induction r with
      | zero =>
        intro i m A hi hm hA
        obtain ⟨m, rfl⟩ : ∃ q, m = q + 1 := ⟨m - 1, by omega⟩
        rw [fx_succ]
        show (if bl_I σ (bl_R σ 0 2) 0 ≤ nI i then _ else _) = _
        rw [hx.1.1.1.2.2.1, hx.2.1.2.1.1, if_pos (nI_le (by omega) (by omega))]
        rfl
      | succ r ih =>
        intro i m A hi hm hA
        obtain ⟨m, rfl⟩ : ∃ q, m = q + 1 := ⟨m - 1, by omega⟩
        rw [fx_succ]
        show (if bl_I σ (bl_R σ 0 2) 0 ≤ nI i then _ else _) = _
        rw [hx.1.1.1.2.2.1, hx.2.1.2.1.1, if_neg (nI_ge (by omega) (by omega)), x_stepFrom hx ok.1 hA, bd_some, let_eq, let_eq, bit_or0, nI_1]
        exact ih (i + 1) m (bXr (sv s) A) (by omega) (by omega) (hX256 A hA)
    unfold f_X9_reach
    rw [hx.1.1.1.2.2.1, x_hasClass hx.2.1 ok.1, bd_some, if_pos hc, if_neg (by decide), let_eq, bit_1 k (by omega)]
    exact loop (tN (sv s)) 0 bl_fu (2 ^ k) (by omega) (by unfold bl_fu; omega) (p2_lt (by omega))
  · show f_X10_reach τ 139 (nI k) = _
    have round : ∀ (k16 : bl_St → Nat → Int32 → Int32 → Option (Int32 × bl_St)) (A i : Nat), A < 256 → ∀ (r a m : Nat), a + r = tN (sv s) → r < m → bl_fx (fun _ _ _ _ _ => none) (b_X10_reach_25 k16) m τ 139 (nI (bRd (sv s) A a)) (nI i) (nI a) = k16 τ 139 (nI (bMr (sv s) A)) (nI (i + 1)) := by
      intro k16 A i hA r
      induction r with
      | zero =>
        intro a m ha hm2
        obtain ⟨m, rfl⟩ : ∃ q, m = q + 1 := ⟨m - 1, by omega⟩
        have ha : a = tN (sv s) := by omega
        rw [ha, fx_succ]
        show (if bl_I τ (bl_R τ 139 1) 0 ≤ nI (tN (sv s)) then _ else _) = _
        have e0 := hm.2.1.1.1
        rw [hm.1.1.1.1.1, e0, if_pos (nI_le (Nat.le_refl _) (by omega)), let_eq, nI_1]
        rfl
      | succ r ih =>
        intro a m ha hm2
        obtain ⟨m, rfl⟩ : ∃ q, m = q + 1 := ⟨m - 1, by omega⟩
        have haN : a < tN (sv s) := by omega
        have key := ih (a + 1) m (by omega) (by omega)
        have hL := bRd_lt ok.1 hA a (by omega)
        have hb := bit_at _ hL a (by omega)
        have e0 := hm.2.1.1.1
        rw [fx_succ]
        show (if bl_I τ (bl_R τ 139 1) 0 ≤ nI a then _ else _) = _
        rw [hm.1.1.1.1.1, e0, if_neg (nI_ge haN (by omega))]
        by_cases ht : Nat.testBit (bRd (sv s) A a) a = true
        · rw [if_neg (fun z => by rw [hb.mp z] at ht; cases ht)]
          have e : bRd (sv s) A (a + 1) = bAd (sv s) (bRd (sv s) A a) a := by
            show (if Nat.testBit (bRd (sv s) A a) a = true then _ else _) = _
            rw [if_pos ht]
          rw [e] at key
          have nx := fun t (h : t < 3) => m_behind hm.1.1.1.1.1 hm.2.1 ok.1 haN (k := t) (by omega)
          have nl := fun t => tB_lt ok.1 t haN
          have l1 : bRd (sv s) A a ||| 2 ^ tB (sv s) a 0 < 256 := or_lt8 hL (p2_lt (by have := nl 0; omega))
          have l2 : (bRd (sv s) A a ||| 2 ^ tB (sv s) a 0) ||| 2 ^ tB (sv s) a 1 < 256 := or_lt8 l1 (p2_lt (by have := nl 1; omega))
          rw [show bl_fu = 19996 + 1 + 1 + 1 + 1 from rfl, fx_succ, fx_succ, fx_succ, fx_succ]
          unfold b_X10_reach_51
          rw [if_neg (by decide), show (0 : Int32) = nI 0 from rfl, nx 0 (by decide), bd_some, let_eq, let_eq, bit_or _ hL _ (by have := nl 0; omega), nI_1, if_neg (by decide), nx (0 + 1) (by decide), bd_some, let_eq, let_eq, bit_or _ l1 _ (by have := nl (0 + 1); omega), nI_1, if_neg (by decide), nx (0 + 1 + 1) (by decide), bd_some, let_eq, let_eq, bit_or _ l2 _ (by have := nl (0 + 1 + 1); omega), nI_1, if_pos (by decide)]
          unfold b_X10_reach_76
          rw [let_eq, nI_1]
          exact key
        · rw [if_pos (hb.mpr (by simpa using ht))]
          have e : bRd (sv s) A (a + 1) = bRd (sv s) A a := by
            show (if Nat.testBit (bRd (sv s) A a) a = true then _ else _) = _
            rw [if_neg ht]
          rw [e] at key
          unfold b_X10_reach_76
          rw [let_eq, nI_1]
          exact key
    have loop : ∀ (r i m A : Nat), i + r = 8 → r < m → A < 256 → bl_fx (fun _ _ _ _ => none) (b_X10_reach_16) m τ 139 (nI A) (nI i) = some (nI (itr (bMr (sv s)) r A), τ) := by
      intro r
      induction r with
      | zero =>
        intro i m A hi hm2 hA
        obtain ⟨m, rfl⟩ : ∃ q, m = q + 1 := ⟨m - 1, by omega⟩
        have hi : i = 8 := by omega
        rw [hi, fx_succ]
        show (if (8 : Int32) ≤ nI 8 then _ else _) = _
        rw [if_pos (by decide)]
        rfl
      | succ r ih =>
        intro i m A hi hm2 hA
        obtain ⟨m, rfl⟩ : ∃ q, m = q + 1 := ⟨m - 1, by omega⟩
        rw [fx_succ]
        show (if (8 : Int32) ≤ nI i then _ else _) = _
        rw [if_neg (show ¬ (8 : Int32) ≤ nI i from nI_ge (a := i) (b := 8) (by omega) (by decide))]
        have q := round (bl_fx (fun _ _ _ _ => none) (b_X10_reach_16) m) A i hA (tN (sv s)) 0 bl_fu (by omega) (by unfold bl_fu; omega)
        exact q.trans (ih (i + 1) m (bMr (sv s) A) (by omega) (by omega) (hM256 A hA))
    unfold f_X10_reach
    rw [m_isClass hm.1.1.1.1.1 hm.2.1 ok.1, bd_some, if_pos hc, if_neg (by decide), let_eq, bit_1 k (by omega)]
    exact loop 8 0 bl_fu (2 ^ k) (by omega) (by unfold bl_fu; omega) (p2_lt (by omega))
end RCH
