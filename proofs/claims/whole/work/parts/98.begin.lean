/-! ===== the beginning ===== -/
def bl_ckR (i k : Nat) (t : Nat × Nat) : Bool := (bl_R bl_s1 i k != 0) && decide (bl_sh[bl_R bl_s1 i k]? = some t) && (decide (i < 139) == decide (bl_R bl_s1 i k < 139))
def bl_ck1 (i k : Nat) : Bool := match bl_sh[i]? with
  | some q => (match (bl_rt.getD q.1 [])[k]? with
    | some (some t) => bl_ckR i k t
    | _ => true) && (if q.1 = 24 then (if k < q.2 then bl_ckR i k (8, 5) else true) else true) && (if q.1 = 25 then (if k < q.2 then bl_ckR i k (2, 15) else true) else true)
  | none => true
set_option maxRecDepth 100000 in
theorem bl_ck_all : ∀ i, i < 154 → ∀ k, k < 28 → bl_ck1 i k = true := by decide +kernel
theorem bl_rt_len : ∀ ci, (bl_rt.getD ci []).length ≤ 28 := by
  intro ci
  have h : ∀ c, c < 11 → (bl_rt.getD c []).length ≤ 28 := by decide
  by_cases hc : ci < 11
  · exact h ci hc
  · have hl : bl_rt.length = 11 := by decide
    rw [List.getD_eq_getElem?_getD, List.getElem?_eq_none (by omega)]
    show ([] : List (Option (Nat × Nat))).length ≤ 28
    decide
theorem bl_ckR_at {i k : Nat} {t : Nat × Nat} (h : bl_ckR i k t = true) : (bl_R bl_s1 i k ≠ 0 ∧ bl_sh[bl_R bl_s1 i k]? = some t) ∧ (i < 139 ↔ bl_R bl_s1 i k < 139) := by
  unfold bl_ckR at h
  simp only [Bool.and_eq_true, bne_iff_ne, decide_eq_true_eq, beq_iff_eq, decide_eq_decide] at h
  exact ⟨⟨h.1.1, h.1.2⟩, h.2⟩
theorem bl_ck_rt {i ci N k : Nat} {t : Nat × Nat} (h1 : bl_sh[i]? = some (ci, N)) (h2 : (bl_rt.getD ci [])[k]? = some (some t)) : bl_ckR i k t = true := by
  have hk : k < 28 := Nat.lt_of_lt_of_le (List.getElem?_eq_some_iff.mp h2).1 (bl_rt_len ci)
  have h := bl_ck_all i (bl_lt h1) k hk
  unfold bl_ck1 at h
  rw [h1] at h
  simp only [h2, Bool.and_eq_true] at h
  exact h.1.1
theorem bl_ck_24 {i n k : Nat} (h1 : bl_sh[i]? = some (24, n)) (hk : k < n) : bl_ckR i k (8, 5) = true := by
  have hn : ∀ i, i < 154 → ∀ q, bl_sh[i]? = some q → q.1 = 24 → q.2 ≤ 12 := by
    intro i hi q hq h24
    have h : ∀ i, i < 154 → (bl_sh.getD i (0, 0)).1 = 24 → (bl_sh.getD i (0, 0)).2 ≤ 12 := by decide +kernel
    have e : bl_sh.getD i (0, 0) = q := by rw [List.getD_eq_getElem?_getD, hq]; rfl
    have := h i hi
    rw [e] at this
    exact this h24
  have hn12 := hn i (bl_lt h1) (24, n) h1 rfl
  have h := bl_ck_all i (bl_lt h1) k (by have : n ≤ 12 := hn12; omega)
  unfold bl_ck1 at h
  rw [h1] at h
  simp only [Bool.and_eq_true, if_true, if_pos hk] at h
  exact h.1.2
theorem bl_ck_25 {i n k : Nat} (h1 : bl_sh[i]? = some (25, n)) (hk : k < n) : bl_ckR i k (2, 15) = true := by
  have hn : ∀ i, i < 154 → ∀ q, bl_sh[i]? = some q → q.1 = 25 → q.2 ≤ 12 := by
    intro i hi q hq h24
    have h : ∀ i, i < 154 → (bl_sh.getD i (0, 0)).1 = 25 → (bl_sh.getD i (0, 0)).2 ≤ 12 := by decide +kernel
    have e : bl_sh.getD i (0, 0) = q := by rw [List.getD_eq_getElem?_getD, hq]; rfl
    have := h i hi
    rw [e] at this
    exact this h24
  have hn12 := hn i (bl_lt h1) (25, n) h1 rfl
  have h := bl_ck_all i (bl_lt h1) k (by have : n ≤ 12 := hn12; omega)
  unfold bl_ck1 at h
  rw [h1] at h
  simp only [Bool.and_eq_true, if_true, if_pos hk] at h
  exact h.2
theorem bl_WT1 : bl_WT bl_s1 :=
  ⟨fun i ci N k t h1 h2 => (bl_ckR_at (bl_ck_rt h1 h2)).1, fun i n k h1 hk => (bl_ckR_at (bl_ck_24 h1 hk)).1, fun i n k h1 hk => (bl_ckR_at (bl_ck_25 h1 hk)).1⟩
theorem bl_WX1 : bl_WH hX bl_s1 := by
  have g : ∀ {i k t}, bl_ckR i k t = true → hX i = true → hX (bl_R bl_s1 i k) = true := fun h hi => by
    unfold hX at *
    simp only [decide_eq_true_eq] at *
    exact (bl_ckR_at h).2.mp hi
  exact ⟨fun i ci N k t h1 h2 _ h4 => g (bl_ck_rt h1 h2) h4, fun i n k h1 hk h3 => g (bl_ck_24 h1 hk) h3, fun i n k h1 hk h3 => g (bl_ck_25 h1 hk) h3⟩
theorem bl_WM1 : bl_WH hM bl_s1 := by
  have g : ∀ {i k t}, bl_ckR i k t = true → hM i = true → hM (bl_R bl_s1 i k) = true := fun h hi => by
    unfold hM at *
    simp only [decide_eq_true_eq] at *
    have := (bl_ckR_at h).2
    omega
  exact ⟨fun i ci N k t h1 h2 _ h4 => g (bl_ck_rt h1 h2) h4, fun i n k h1 hk h3 => g (bl_ck_24 h1 hk) h3, fun i n k h1 hk h3 => g (bl_ck_25 h1 hk) h3⟩
def st0 : st_V := ((v0, lZero), (0, fun _ => (v0, lZero)), (0, fun _ => 0))
theorem st0_ok : SOk st0 0 :=
  ⟨⟨⟨by decide, by decide, by decide⟩, fun c hc => absurd hc (Nat.not_lt_zero c), fun c hc => absurd hc (Nat.not_lt_zero c), ⟨by decide, by decide⟩, by decide, by decide⟩, lOk_zero _ _, ⟨by decide, fun j hj => absurd hj (Nat.not_lt_zero j)⟩, by decide, fun i hi => absurd hi (Nat.not_lt_zero i)⟩
theorem sw1 : SW bl_s1 := by unfold SW OR; decide +kernel
theorem tx1 : TX bl_s1 10 v0 := ⟨by decide +kernel, by decide +kernel, fun i hi => absurd hi (Nat.not_lt_zero i), fun i hi => absurd hi (Nat.not_lt_zero i), by decide +kernel⟩
theorem lx1 : LX bl_s1 18 lZero := ⟨by decide +kernel, by decide +kernel, fun z => absurd z (by show ¬ 0 = 1; decide), by decide +kernel, Ring.zero _ _, Ring.zero _ _⟩
theorem px1 : PX bl_s1 0 0 (fun _ => (v0, lZero)) := ⟨by unfold PR; decide +kernel, by decide +kernel, by decide, fun j hj => absurd hj (Nat.not_lt_zero j)⟩
theorem ox1 : OX bl_s1 111 10 v0 0 0 false true 1 0 0 := ⟨by decide +kernel, tx1, by decide +kernel, by decide +kernel, by decide, fun z => absurd z (by decide)⟩
theorem xi1 : XI bl_s1 st0 := ⟨sw1, tx1, lx1, ⟨0, px1⟩, ⟨0, ox1⟩, by show bl_I bl_s1 1 3 = nI 0; decide +kernel, fun i hi => absurd hi (Nat.not_lt_zero i)⟩
theorem mw1 : MW bl_s1 ∧ ∀ j, j < 45 → bl_I bl_s1 153 j = bl_wd.getD j 0 := ⟨by unfold MW; decide +kernel, by decide +kernel⟩
theorem mi1 {τ : bl_St} (R : bl_R τ = bl_R bl_s1) (I : ∀ i, i ≠ 140 → bl_I τ i = bl_I bl_s1 i) (Z : ∀ j, j < 167 → bl_I τ 140 j = if j = 2 then 2 else if j = 3 then 3 else 0) : MI τ st0 := by
  have h5 : bl_I bl_s1 139 5 = nI 0 := by decide +kernel
  have h21 : bl_I bl_s1 139 21 = nI 0 := by decide +kernel
  refine ⟨⟨by unfold MW; rw [R]; exact mw1.1, by rw [I 153 (by decide)]; exact mw1.2⟩, ⟨⟨?_, ?_⟩, ⟨?_, ?_, ?_⟩, fun i hi => absurd hi (Nat.not_lt_zero i), fun i hi => absurd hi (Nat.not_lt_zero i)⟩, LM.zero (fun j h1 h2 => by rw [Nat.zero_add, Z j h2, if_neg (by omega), if_neg (by omega)]), ⟨by rw [I 139 (by decide)]; exact h5, Nat.zero_le _, fun j hj => absurd hj (Nat.not_lt_zero j)⟩, by rw [I 139 (by decide)]; exact h21, fun i hi => absurd hi (Nat.not_lt_zero i)⟩
  · rw [Z 0 (by decide)]; rfl
  · rw [Z 1 (by decide)]; rfl
  · rw [Z 2 (by decide)]; rfl
  · rw [Z 3 (by decide)]; rfl
  · rw [Z 4 (by decide)]; rfl
theorem bl_pure : bl_Pure := by
  obtain ⟨σ1, e1, R, J, I, Z⟩ := m_starts bl_s1 140
  refine ⟨bl_WT1, σ1, e1, fun xs L hL => ?_⟩
  have k1 : Kq (fun i => 139 ≤ i) bl_s1 σ1 := fun i hi => ⟨I i (by omega), by rw [J], by rw [R]⟩
  have wt : bl_WT σ1 := by
    have h := bl_WT1
    unfold bl_WT at *
    rw [R]
    exact h
  have G : GI σ1 st0 0 := ⟨⟨wt, wh_o bl_WX1 (fun i _ => by rw [R]), wh_o bl_WM1 (fun i _ => by rw [R])⟩, xi1.all k1, mi1 R I Z, st0_ok⟩
  exact law_run xs L hL 512 0 bl_fu σ1 st0 (by omega) (by unfold bl_fu; omega) (by decide) G
theorem whole_start {p : Program} {e : Env} {s : State} {m : MethodId} {below : List Frame} {meth : Method} {c : Code} (l : Launch) (hflags : l.flags = flags0) {b L : Nat} {xs : Nat → Int32} (hL3 : L ≤ 3584) (C0 : lw_At p s m meth c b L xs) : W p l e room_1 s m #[Value.ref b] below meth c s.heap [] 0 0 (lw_Z below #[Value.ref b] s) (entryFrame m ([Value.ref b] : List Value).toArray 4) := whole_open bl_pure l hL3 C0
