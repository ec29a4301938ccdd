/-! ===== the tape: feed, back ===== -/
theorem nI_self (x : Int32) : nI x.toBitVec.toNat = x := by
  apply Int32.toBitVec_inj.mp
  simp [nI, Int32.toBitVec_ofNat']
/-- a byte of four -/
def byt (a sh : Int32) : Nat := ((a >>> (sh &&& 31)) &&& 255).toBitVec.toNat
theorem byt_lt (a sh : Int32) : byt a sh < 256 := by
  unfold byt
  rw [Int32.toBitVec_and, BitVec.toNat_and]
  exact Nat.lt_of_le_of_lt Nat.and_le_right (by decide)
theorem byt_m (a sh : Int32) : (a >>> (sh &&& 31)) &&& 255 = nI (byt a sh) := (nI_self _).symm
theorem byt_bv (x : BitVec 32) (k : Nat) (hk : k ≤ 24) : (x >>> k) &&& 255#32 = (x.sshiftRight k) &&& 255#32 := by
  apply BitVec.eq_of_getLsbD_eq
  intro i hi
  rw [BitVec.getLsbD_and, BitVec.getLsbD_and, BitVec.getLsbD_ushiftRight, BitVec.getLsbD_sshiftRight]
  by_cases h8 : i < 8
  · have h1 : ¬ 32 ≤ i := by omega
    have h2 : k + i < 32 := by omega
    simp [h1, h2]
  · have : (255#32).getLsbD i = false := by
      rw [BitVec.getLsbD_ofNat]
      have : (255 : Nat).testBit i = false := Nat.testBit_lt_two_pow (Nat.lt_of_lt_of_le (show 255 < 2 ^ 8 by decide) (Nat.pow_le_pow_right (by decide) (by omega)))
      simp [this]
    rw [this, Bool.and_false, Bool.and_false]
theorem byt_x (a : Int32) {sh : Int32} (h : sh = 24 ∨ sh = 16 ∨ sh = 8 ∨ sh = 0) : (((Int32.toUInt32 a) >>> ((Int32.toUInt32 sh) &&& Int32.toUInt32 31)).toInt32 &&& 255) = nI (byt a sh) := by
  rw [← byt_m]
  apply Int32.toBitVec_inj.mp
  rcases h with rfl | rfl | rfl | rfl
  · exact byt_bv a.toBitVec 24 (by decide)
  · exact byt_bv a.toBitVec 16 (by decide)
  · exact byt_bv a.toBitVec 8 (by decide)
  · exact byt_bv a.toBitVec 0 (by decide)
/-- the tape behind one more byte -/
def tpa (b : Nat → Nat) (n x : Nat) : Nat → Nat := fun i => if i = n then x else b i
def ap4 (b : Nat → Nat) (n : Nat) (a : Int32) : Nat → Nat := tpa (tpa (tpa (tpa b n (byt a 24)) (n + 1) (byt a 16)) (n + 2) (byt a 8)) (n + 3) (byt a 0)
def ap20 (b : Nat → Nat) (n : Nat) (a1 a2 a3 a4 a5 : Int32) : Nat → Nat := ap4 (ap4 (ap4 (ap4 (ap4 b n a1) (n + 4) a2) (n + 8) a3) (n + 12) a4) (n + 16) a5
section FED
variable {s : st_V} {n : Nat} {σ σ1 τ τ1 : bl_St}
theorem TPx.put {m : Nat} {b : Nat → Nat} (h : TPx σ m b) (x : Nat) : TPx (bl_pI (bl_pI σ 2 m (nI x)) 1 3 (nI (m + 1))) (m + 1) (tpa b m x) := by
  refine ⟨I_pI_self _ _ _ _, fun i hi => ?_⟩
  rw [I_pI_o (show 2 ≠ 1 by decide)]
  unfold tpa
  by_cases he : i = m
  · rw [he, I_pI_self, if_pos rfl]
  · rw [I_pI_ne he, if_neg he]
    exact h.2 i (by omega)
abbrev fdS (i : Nat) : Prop := i = 1 ∨ i = 2
theorem x_app1 {m : Nat} {b : Nat → Nat} (h : TPx σ m b) (hR : bl_R σ 1 0 = 2) (hm : m < 400) (k : Nat) (a : Int32) {sh : Int32} (hs : sh = 24 ∨ sh = 16 ∨ sh = 8 ∨ sh = 0) : ∃ σ1, bl_fx (fun _ _ _ _ => none) (b_X7_append_3) (k + 1) σ 1 a sh = bl_fx (fun _ _ _ _ => none) (b_X7_append_3) k σ1 1 a (sh + (-8)) ∧ Kq fdS σ σ1 ∧ bl_R σ1 = bl_R σ ∧ TPx σ1 (m + 1) (tpa b m (byt a sh)) := by
  refine ⟨_, ?_, ((Kq.rf fdS σ).pI (Or.inr rfl) _ _).pI (Or.inl rfl) _ _, rfl, h.put (byt a sh)⟩
  rw [fx_succ]
  unfold b_X7_append_3
  rw [if_neg (by rcases hs with rfl | rfl | rfl | rfl <;> decide), h.1, if_neg (show ¬ (400 : Int32) ≤ nI m from nI_ge (b := 400) hm (by decide)), in_nI hm (by decide), gd_true, let_eq, let_eq, let_eq, hR, nI_clamp (by omega), byt_x a hs, I_pI_o (show 1 ≠ 2 by decide), h.1, nI_1]
theorem x_append {m : Nat} {b : Nat → Nat} (h : TPx σ m b) (hR : bl_R σ 1 0 = 2) (hm : m + 4 ≤ 400) (a : Int32) : ∃ σ1, f_X7_append σ 1 a = some ((), σ1) ∧ Kq fdS σ σ1 ∧ bl_R σ1 = bl_R σ ∧ TPx σ1 (m + 4) (ap4 b m a) := by
  obtain ⟨σ1, e1, k1, r1, t1⟩ := x_app1 h hR (by omega) 19999 a (sh := 24) (Or.inl rfl)
  obtain ⟨σ2, e2, k2, r2, t2⟩ := x_app1 t1 (by rw [r1]; exact hR) (by omega) 19998 a (sh := 16) (by decide)
  obtain ⟨σ3, e3, k3, r3, t3⟩ := x_app1 t2 (by rw [r2, r1]; exact hR) (by omega) 19997 a (sh := 8) (by decide)
  obtain ⟨σ4, e4, k4, r4, t4⟩ := x_app1 t3 (by rw [r3, r2, r1]; exact hR) (by omega) 19996 a (sh := 0) (by decide)
  refine ⟨σ4, ?_, ((k1.tr k2).tr k3).tr k4, by rw [r4, r3, r2, r1], t4⟩
  unfold f_X7_append
  show bl_fx (fun _ _ _ _ => none) (b_X7_append_3) (19999 + 1) σ 1 a 24 = _
  rw [e1]
  show bl_fx (fun _ _ _ _ => none) (b_X7_append_3) (19998 + 1) σ1 1 a 16 = _
  rw [e2]
  show bl_fx (fun _ _ _ _ => none) (b_X7_append_3) (19997 + 1) σ2 1 a 8 = _
  rw [e3]
  show bl_fx (fun _ _ _ _ => none) (b_X7_append_3) (19996 + 1) σ3 1 a 0 = _
  rw [e4]
  show bl_fx (fun _ _ _ _ => none) (b_X7_append_3) (19995 + 1) σ4 1 a (0 + -8) = _
  rw [fx_succ]
  unfold b_X7_append_3
  rw [if_pos (by decide)]
/-- the tape alone differs -/
theorem XI.tp {m : Nat} {b : Nat → Nat} (h : XI σ s) (k : Kq fdS σ σ1) (hR : bl_R σ1 = bl_R σ) (t : TPx σ1 m b) : XI σ1 (s.1, s.2.1, (m, b)) :=
  ⟨h.1.ko hR (fun d hd => by rw [(k 125 (by decide)).2.1]; exact h.1.2.2.2.2.2.1.2 d hd), h.2.1.kq k (fun i a b c => by unfold fdS at c; omega), h.2.2.1.kq k (fun i a b c => by unfold fdS at c; omega), ⟨_, h.2.2.2.1.choose_spec.kq k (fun i a b c => by unfold fdS at c; omega)⟩, ⟨_, h.2.2.2.2.1.choose_spec.kq k (fun i a b c => by unfold fdS at c; omega) (fun i a b c => by unfold fdS at c; omega)⟩, t⟩
theorem MI.tp {m : Nat} {b : Nat → Nat} (h : MI τ s) (hR : bl_R τ1 = bl_R τ) (hI : ∀ i, i ≠ 139 → i ≠ 152 → bl_I τ1 i = bl_I τ i) (h5 : bl_I τ1 139 5 = bl_I τ 139 5) (h21 : bl_I τ1 139 21 = nI m) (h152 : ∀ i, i < m → bl_I τ1 152 i = nI (b i)) : MI τ1 (s.1, s.2.1, (m, b)) := by
  obtain ⟨⟨hw, hd⟩, hT, hL, ⟨g5, hP⟩, -, -⟩ := h
  refine ⟨⟨by unfold MW; rw [hR]; exact hw, by rw [hI 153 (by decide) (by decide)]; exact hd⟩, by unfold TM at *; rw [hI 140 (by decide) (by decide)]; exact hT, by unfold LM at *; rw [hI 140 (by decide) (by decide)]; exact hL, ⟨by rw [h5]; exact g5, hP.1, fun j hj => ?_⟩, h21, h152⟩
  have q := hP.2 j hj
  unfold TM LM at *
  rw [hI 143 (by decide) (by decide)]
  exact q
/-- the reference's loop -/
abbrev fdI (σ τ : bl_St) (m : Nat) (b : Nat → Nat) : Prop := bl_R τ = bl_R σ ∧ (∀ i, i ≠ 139 → i ≠ 152 → bl_I τ i = bl_I σ i) ∧ bl_I τ 139 5 = bl_I σ 139 5 ∧ bl_I τ 139 21 = nI m ∧ ∀ i, i < m → bl_I τ 152 i = nI (b i)
theorem fd_arg (k18 : bl_St → Nat → Int32 → Int32 → Int32 → Int32 → Int32 → Int32 → Option (Int32 × bl_St)) (τ : bl_St) (a1 a2 a3 a4 a5 : Int32) {k : Nat} (hk : k < 20) : b_X10_feed_18 k18 τ 139 a1 a2 a3 a4 a5 (nI k) = b_X10_feed_71 k18 τ 139 a1 a2 a3 a4 a5 (nI k) (if k < 4 then a1 else if k < 8 then a2 else if k < 12 then a3 else if k < 16 then a4 else a5) := by
  unfold b_X10_feed_18
  rw [if_neg (show ¬ (20 : Int32) ≤ nI k from nI_ge (b := 20) hk (by decide))]
  by_cases h4 : k < 4
  · rw [if_neg (show ¬ (4 : Int32) ≤ nI k from nI_ge (b := 4) h4 (by decide)), if_pos h4]
  rw [if_pos (show (4 : Int32) ≤ nI k from nI_le (a := 4) (by omega) (by omega)), if_neg h4]
  by_cases h8 : k < 8
  · rw [if_neg (show ¬ (8 : Int32) ≤ nI k from nI_ge (b := 8) h8 (by decide)), if_pos h8]
  rw [if_pos (show (8 : Int32) ≤ nI k from nI_le (a := 8) (by omega) (by omega)), if_neg h8]
  by_cases h12 : k < 12
  · rw [if_neg (show ¬ (12 : Int32) ≤ nI k from nI_ge (b := 12) h12 (by decide)), if_pos h12]
  rw [if_pos (show (12 : Int32) ≤ nI k from nI_le (a := 12) (by omega) (by omega)), if_neg h12]
  by_cases h16 : k < 16
  · rw [if_neg (show ¬ (16 : Int32) ≤ nI k from nI_ge (b := 16) h16 (by decide)), if_pos h16]
  rw [if_pos (show (16 : Int32) ≤ nI k from nI_le (a := 16) (by omega) (by omega)), if_neg h16]
theorem sh_k : ∀ k, k < 20 → (24 - (8 * (nI k - nI k / 4 * 4)) : Int32) = (if k % 4 = 0 then 24 else if k % 4 = 1 then 16 else if k % 4 = 2 then 8 else 0) := by decide +kernel
theorem m_fd1 {m : Nat} {b : Nat → Nat} (hR : bl_R σ 139 20 = 152) (h : fdI σ τ m b) (hm : m < 400) (q : Nat) (a1 a2 a3 a4 a5 : Int32) {k : Nat} (hk : k < 20) (a sh : Int32) (ha : (if k < 4 then a1 else if k < 8 then a2 else if k < 12 then a3 else if k < 16 then a4 else a5) = a) (hsh : (if k % 4 = 0 then 24 else if k % 4 = 1 then 16 else if k % 4 = 2 then 8 else 0 : Int32) = sh) : ∃ τ1, bl_fx (fun _ _ _ _ _ _ _ _ => none) (b_X10_feed_18) (q + 1) τ 139 a1 a2 a3 a4 a5 (nI k) = bl_fx (fun _ _ _ _ _ _ _ _ => none) (b_X10_feed_18) q τ1 139 a1 a2 a3 a4 a5 (nI (k + 1)) ∧ fdI σ τ1 (m + 1) (tpa b m (byt a sh)) := by
  refine ⟨bl_pI (bl_pI τ 152 m (nI (byt a sh))) 139 21 (nI (m + 1)), ?_, ⟨h.1, fun i h1 h2 => by rw [I_pI_o h1, I_pI_o h2]; exact h.2.1 i h1 h2, by rw [I_pI_ne (by decide), I_pI_o (by decide)]; exact h.2.2.1, I_pI_self _ _ _ _, fun i hi => ?_⟩⟩
  · rw [fx_succ, fd_arg _ _ _ _ _ _ _ hk]
    unfold b_X10_feed_71
    rw [sh_k k hk, ha, hsh, byt_m, h.2.2.2.1, in_nI hm (by decide), gd_true, let_eq, let_eq, let_eq, h.1, hR, nI_clamp (by omega), I_pI_o (show 139 ≠ 152 by decide), h.2.2.2.1, nI_1, nI_1]
  · rw [I_pI_o (show 152 ≠ 139 by decide)]
    unfold tpa
    by_cases he : i = m
    · rw [he, I_pI_self, if_pos rfl]
    · rw [I_pI_ne he, if_neg he]
      exact h.2.2.2.2 i (by omega)
theorem m_fd4 {m : Nat} {b : Nat → Nat} (hR : bl_R σ 139 20 = 152) (h : fdI σ τ m b) (hm : m + 4 ≤ 400) (q : Nat) (a1 a2 a3 a4 a5 : Int32) {k : Nat} (hk : k < 5) (a : Int32) (ha : ∀ j, j < 4 → (if 4 * k + j < 4 then a1 else if 4 * k + j < 8 then a2 else if 4 * k + j < 12 then a3 else if 4 * k + j < 16 then a4 else a5) = a) : ∃ τ1, bl_fx (fun _ _ _ _ _ _ _ _ => none) (b_X10_feed_18) (q + 4) τ 139 a1 a2 a3 a4 a5 (nI (4 * k)) = bl_fx (fun _ _ _ _ _ _ _ _ => none) (b_X10_feed_18) q τ1 139 a1 a2 a3 a4 a5 (nI (4 * (k + 1))) ∧ fdI σ τ1 (m + 4) (ap4 b m a) := by
  obtain ⟨τ1, e1, i1⟩ := m_fd1 hR h (by omega) (q + 3) a1 a2 a3 a4 a5 (k := 4 * k) (by omega) a 24 (ha 0 (by decide)) (by rw [if_pos (by omega)])
  obtain ⟨τ2, e2, i2⟩ := m_fd1 hR i1 (by omega) (q + 2) a1 a2 a3 a4 a5 (k := 4 * k + 1) (by omega) a 16 (ha 1 (by decide)) (by rw [if_neg (by omega), if_pos (by omega)])
  obtain ⟨τ3, e3, i3⟩ := m_fd1 hR i2 (by omega) (q + 1) a1 a2 a3 a4 a5 (k := 4 * k + 2) (by omega) a 8 (ha 2 (by decide)) (by rw [if_neg (by omega), if_neg (by omega), if_pos (by omega)])
  obtain ⟨τ4, e4, i4⟩ := m_fd1 hR i3 (by omega) q a1 a2 a3 a4 a5 (k := 4 * k + 3) (by omega) a 0 (ha 3 (by decide)) (by rw [if_neg (by omega), if_neg (by omega), if_neg (by omega)])
  exact ⟨τ4, by rw [e1, e2, e3, e4]; rfl, i4⟩
theorem ap20_lt {b : Nat → Nat} {m : Nat} (h : ∀ i, i < m → b i < 256) (a1 a2 a3 a4 a5 : Int32) : ∀ i, i < m + 20 → ap20 b m a1 a2 a3 a4 a5 i < 256 := by
  have t : ∀ (b : Nat → Nat) (m : Nat) (a sh : Int32), (∀ i, i < m → b i < 256) → ∀ i, i < m + 1 → tpa b m (byt a sh) i < 256 := fun b m a sh h i hi => by
    unfold tpa
    split
    · exact byt_lt a sh
    · exact h i (by omega)
  have f : ∀ (b : Nat → Nat) (m : Nat) (a : Int32), (∀ i, i < m → b i < 256) → ∀ i, i < m + 4 → ap4 b m a i < 256 := fun b m a h => t _ (m + 3) a 0 (t _ (m + 2) a 8 (t _ (m + 1) a 16 (t _ m a 24 h)))
  exact f _ (m + 16) a5 (f _ (m + 12) a4 (f _ (m + 8) a3 (f _ (m + 4) a2 (f _ m a1 h))))
theorem op_feed (ok : SOk s n) (a1 a2 a3 a4 a5 : Int32) : Both n s (fun σ => f_X9_feed σ 0 a1 a2 a3 a4 a5) (fun τ => f_X10_feed τ 139 a1 a2 a3 a4 a5) := by
  have hb := ok.2.2.2.1
  by_cases hl : sn s + 20 ≤ 400
  · refine Both.to (nI (sn s + 20)) (s.1, s.2.1, (sn s + 20, ap20 (sb s) (sn s) a1 a2 a3 a4 a5)) ⟨ok.up.1, ok.up.2.1, ok.up.2.2.1, hl, ap20_lt ok.2.2.2.2 a1 a2 a3 a4 a5⟩ (fun σ hx => ?_) (fun τ hm => ?_)
    · have hR : bl_R σ 1 0 = 2 := hx.1.2.1.1.1
      obtain ⟨σ1, e1, k1, r1, t1⟩ := x_append hx.2.2.2.2.2 hR (by omega) a1
      obtain ⟨σ2, e2, k2, r2, t2⟩ := x_append t1 (by rw [r1]; exact hR) (by omega) a2
      obtain ⟨σ3, e3, k3, r3, t3⟩ := x_append t2 (by rw [r2, r1]; exact hR) (by omega) a3
      obtain ⟨σ4, e4, k4, r4, t4⟩ := x_append t3 (by rw [r3, r2, r1]; exact hR) (by omega) a4
      obtain ⟨σ5, e5, k5, r5, t5⟩ := x_append t4 (by rw [r4, r3, r2, r1]; exact hR) (by omega) a5
      refine ⟨σ5, ?_, hx.tp ((((k1.tr k2).tr k3).tr k4).tr k5) (by rw [r5, r4, r3, r2, r1]) t5⟩
      show f_X9_feed σ 0 a1 a2 a3 a4 a5 = _
      unfold f_X9_feed
      rw [hx.1.1.1.1, hx.2.2.2.2.2.1, show (20 : Int32) = nI 20 from rfl, nI_add, if_pos (show nI (sn s + 20) ≤ 400 from nI_le (b := 400) hl (by decide)), e1, bd_some, r1, hx.1.1.1.1, e2, bd_some, r2, r1, hx.1.1.1.1, e3, bd_some, r3, r2, r1, hx.1.1.1.1, e4, bd_some, r4, r3, r2, r1, hx.1.1.1.1, e5, bd_some, r5, r4, r3, r2, r1, hx.1.1.1.1, t5.1]
    · have hR : bl_R τ 139 20 = 152 := hm.1.1.2.2.2.1
      have h0 : fdI τ τ (sn s) (sb s) := ⟨rfl, fun _ _ _ => rfl, rfl, hm.2.2.2.2.1, hm.2.2.2.2.2⟩
      obtain ⟨τ1, e1, i1⟩ := m_fd4 hR h0 (by omega) 19996 a1 a2 a3 a4 a5 (k := 0) (by decide) a1 (fun j hj => by rw [if_pos (by omega)])
      obtain ⟨τ2, e2, i2⟩ := m_fd4 hR i1 (by omega) 19992 a1 a2 a3 a4 a5 (k := 1) (by decide) a2 (fun j hj => by rw [if_neg (by omega), if_pos (by omega)])
      obtain ⟨τ3, e3, i3⟩ := m_fd4 hR i2 (by omega) 19988 a1 a2 a3 a4 a5 (k := 2) (by decide) a3 (fun j hj => by rw [if_neg (by omega), if_neg (by omega), if_pos (by omega)])
      obtain ⟨τ4, e4, i4⟩ := m_fd4 hR i3 (by omega) 19984 a1 a2 a3 a4 a5 (k := 3) (by decide) a4 (fun j hj => by rw [if_neg (by omega), if_neg (by omega), if_neg (by omega), if_pos (by omega)])
      obtain ⟨τ5, e5, i5⟩ := m_fd4 hR i4 (by omega) 19980 a1 a2 a3 a4 a5 (k := 4) (by decide) a5 (fun j hj => by rw [if_neg (by omega), if_neg (by omega), if_neg (by omega), if_neg (by omega)])
      refine ⟨τ5, ?_, hm.tp i5.1 i5.2.1 i5.2.2.1 i5.2.2.2.1 i5.2.2.2.2⟩
      show f_X10_feed τ 139 a1 a2 a3 a4 a5 = _
      unfold f_X10_feed
      rw [hm.2.2.2.2.1, show (20 : Int32) = nI 20 from rfl, nI_add, if_pos (show nI (sn s + 20) ≤ 400 from nI_le (b := 400) hl (by decide))]
      show bl_fx (fun _ _ _ _ _ _ _ _ => none) (b_X10_feed_18) (19996 + 4) τ 139 a1 a2 a3 a4 a5 (nI (4 * 0)) = _
      rw [e1]
      show bl_fx (fun _ _ _ _ _ _ _ _ => none) (b_X10_feed_18) (19992 + 4) τ1 139 a1 a2 a3 a4 a5 (nI (4 * 1)) = _
      rw [e2]
      show bl_fx (fun _ _ _ _ _ _ _ _ => none) (b_X10_feed_18) (19988 + 4) τ2 139 a1 a2 a3 a4 a5 (nI (4 * 2)) = _
      rw [e3]
      show bl_fx (fun _ _ _ _ _ _ _ _ => none) (b_X10_feed_18) (19984 + 4) τ3 139 a1 a2 a3 a4 a5 (nI (4 * 3)) = _
      rw [e4]
      show bl_fx (fun _ _ _ _ _ _ _ _ => none) (b_X10_feed_18) (19980 + 4) τ4 139 a1 a2 a3 a4 a5 (nI (4 * 4)) = _
      rw [e5]
      show bl_fx (fun _ _ _ _ _ _ _ _ => none) (b_X10_feed_18) (19979 + 1) τ5 139 a1 a2 a3 a4 a5 (nI 20) = _
      rw [fx_succ]
      unfold b_X10_feed_18
      rw [if_pos (by decide), i5.2.2.2.1]
  · refine Both.same ok (-1) (fun σ hx => ⟨σ, ?_, hx⟩) (fun τ hm => ⟨τ, ?_, hm⟩)
    · show f_X9_feed σ 0 a1 a2 a3 a4 a5 = _
      unfold f_X9_feed
      rw [hx.1.1.1.1, hx.2.2.2.2.2.1, show (20 : Int32) = nI 20 from rfl, nI_add, if_neg (show ¬ nI (sn s + 20) ≤ 400 from nI_ge (a := 400) (by omega) (by omega))]
    · show f_X10_feed τ 139 a1 a2 a3 a4 a5 = _
      unfold f_X10_feed
      rw [hm.2.2.2.2.1, show (20 : Int32) = nI 20 from rfl, nI_add, if_neg (show ¬ nI (sn s + 20) ≤ 400 from nI_ge (a := 400) (by omega) (by omega))]
theorem op_back (ok : SOk s n) (x : Int32) : Both n s (fun σ => f_X9_back σ 0 x) (fun τ => f_X10_back τ 139 x) := by
  have hb := ok.2.2.2.1
  rcases (Classical.em (vR x 0 (sn s))) with h | h
  · obtain ⟨k, rfl, -, hk⟩ := vR_of (by omega) h
    refine Both.to (nI (sn s - k)) (s.1, s.2.1, (sn s - k, sb s)) ⟨ok.up.1, ok.up.2.1, ok.up.2.2.1, by show sn s - k ≤ 400; omega, fun i hi => ok.2.2.2.2 i (by have hi : i < sn s - k := hi; omega)⟩ (fun σ hx => ?_) (fun τ hm => ?_)
    · have t := hx.2.2.2.2.2
      refine ⟨bl_pI σ 1 3 (nI (sn s - k)), ?_, hx.tp ((Kq.rf fdS σ).pI (Or.inl rfl) _ _) rfl ⟨I_pI_self _ _ _ _, fun i hi => by rw [I_pI_o (by decide)]; exact t.2 i (by omega)⟩⟩
      show f_X9_back σ 0 (nI k) = _
      unfold f_X9_back
      rw [if_neg (nI_pos (by omega)), hx.1.1.1.1, t.1, if_pos (nI_le hk (by omega)), let_eq, nI_sub hk, R_pI, hx.1.1.1.1, I_pI_self]
    · have t := hm.2.2.2.2
      refine ⟨bl_pI τ 139 21 (nI (sn s - k)), ?_, hm.tp rfl (fun i h1 _ => by rw [I_pI_o h1]) (by rw [I_pI_ne (by decide)]) (I_pI_self _ _ _ _) (fun i hi => by rw [I_pI_o (by decide)]; exact t.2 i (by omega))⟩
      show f_X10_back τ 139 (nI k) = _
      unfold f_X10_back
      rw [t.1, i2l_nI (a := sn s) (by omega), show (0 : Int64) = lN 0 from rfl, m_inN τ (nI k) (by decide) (by omega), bd_some, if_pos h, if_neg (by decide), let_eq, t.1, nI_sub hk, I_pI_self]
  · refine Both.same ok (-1) (fun σ hx => ⟨σ, ?_, hx⟩) (fun τ hm => ⟨τ, ?_, hm⟩)
    · show f_X9_back σ 0 x = _
      unfold f_X9_back
      by_cases h0 : x < 0
      · rw [if_pos h0]
      rw [if_neg h0, hx.1.1.1.1, hx.2.2.2.2.2.1, if_neg (fun z => h ⟨by rw [lt0_iff] at h0; omega, by rw [leN_iff' x (by omega)] at z; exact z⟩)]
    · show f_X10_back τ 139 x = _
      unfold f_X10_back
      rw [hm.2.2.2.2.1, i2l_nI (a := sn s) (by omega), show (0 : Int64) = lN 0 from rfl, m_inN τ x (by decide) (by omega), bd_some, if_neg h, if_pos rfl]
end FED
