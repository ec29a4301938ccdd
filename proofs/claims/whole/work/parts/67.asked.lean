/-! ===== looked at from the end: both sides ===== -/
abbrev cB (v : tm_V) (L c : Nat) : Nat := cCo v false 0 0 true 1 0 L c
/-- what lies ahead of a chance -/
abbrev cA (v : tm_V) (L c k t g : Nat) : Nat := cAh v false 0 0 (cCo v false 0 0 true 1 0 (L - 1)) c (tH v * 1 - k) t g
theorem SOk.hK {s : st_V} {n : Nat} (ok : SOk s n) (hN : 0 < tN (sv s)) : 0 < tK (sv s) := by
  have := ok.1.1.2.2
  omega
theorem tH1 {v : tm_V} (ok : TOk v) : tH v * 1 ≤ 3 := by have := ok.2.2.2.1.2; omega
section CXS
variable {s : st_V} {n : Nat} {σ : bl_St}
theorem cA_le (ok : SOk s n) {L c : Nat} (hc : c < tN (sv s)) (hL : L ≤ 20) (k t g : Nat) : cA (sv s) L c k t g ≤ 2 ^ 40 := by
  have hK := ok.hK (by omega)
  have h := cAh_le ok.1 hK false 0 0 (V := cCo (sv s) false 0 0 true 1 0 (L - 1)) hc (fun d hd => cCo_le ok.1 hK false 0 0 true 1 0 (by decide) (L - 1) d hd) (tH (sv s) * 1 - k) t g
  have := tH1 ok.1
  exact Nat.le_trans h (by omega)
theorem x_cost (hx : XI σ s) (ok : SOk s n) {L c : Nat} (hL : L ≤ 20) (hc : c < tN (sv s)) : ∃ σ1, f_X4_costOf σ 111 (nI L) (nI c) = some (lN (cB (sv s) L c), σ1) ∧ XI σ1 s := by
  obtain ⟨kn, hO⟩ := hx.2.2.2.2.1
  obtain ⟨σ1, e1, k1, o1⟩ := x_costOf hO ok.1 (ok.hK (by omega)) (by decide) (by decide) (by decide) (by decide) (by decide) hL hc
  exact ⟨σ1, e1, hx.out k1.kq o1⟩
theorem x_lrn (hx : XI σ s) (ok : SOk s n) (hN : 0 < tN (sv s)) {Y : Nat} (hY : Y ≤ 20) : ∃ σ1, f_X4_learn σ 111 (nI Y) = some ((), σ1) ∧ XI σ1 s ∧ CX σ1 111 10 (sv s) 0 0 false (tH (sv s) * 1) ∧ ∃ kn, Y ≤ kn ∧ OX σ1 111 10 (sv s) 0 0 false true 1 0 kn := by
  obtain ⟨kn, hO⟩ := hx.2.2.2.2.1
  obtain ⟨σ1, e1, k1, o1, c1⟩ := x_learn hO ok.1 (ok.hK hN) (by decide) (by decide) (by decide) (by decide) (by decide) hY
  exact ⟨σ1, e1, hx.out k1.kq o1, c1, max kn Y, by omega, o1⟩
theorem x_lka (hx : XI σ s) (ok : SOk s n) (C : CX σ 111 10 (sv s) 0 0 false (tH (sv s) * 1)) {kn L c k t g : Nat} (hO : OX σ 111 10 (sv s) 0 0 false true 1 0 kn) (hkn : L - 1 ≤ kn) (hL1 : 1 ≤ L) (hL : L ≤ 20) (hc : c < tN (sv s)) (hk : k ≤ tH (sv s)) (ht : t ≤ 2) (hg : g < 2) :
    ∃ σ1, f_X4_lookAhead σ 111 (nI L) (nI c) (nI k) (nI t) (nI g) = some ((), σ1) ∧ XI σ1 s ∧ CX σ1 111 10 (sv s) 0 0 false (tH (sv s) * 1) ∧ OX σ1 111 10 (sv s) 0 0 false true 1 0 kn ∧ ∀ j, k ≤ j → j ≤ tH (sv s) * 1 → LvX σ1 118 k t g (fun k t g => cA (sv s) L c k t g) j := by
  have hK := ok.hK (by omega)
  obtain ⟨σ1, e1, j1, l1⟩ := x_lookAhead (fK := k) (fT := t) (gd := g) (V := cCo (sv s) false 0 0 true 1 0 (L - 1)) C ok.1 hK (by decide) (by have := tH1 ok.1; omega) (by omega) ht hg (by decide) hL1 hL hc (fun d hd => hO.row0 ok.1 hkn hd) (fun d hd => by have := cCo_le ok.1 hK false 0 0 true 1 0 (by decide) (L - 1) d hd; omega)
  have kq : Kq (fun i => i = 118) σ σ1 := j1.ko.kq
  have o1 : OX σ1 111 10 (sv s) 0 0 false true 1 0 kn := by
    obtain ⟨q1, q2, q3, q4, q5, q6⟩ := hO
    refine ⟨by have : bl_R σ1 = bl_R σ := j1.2.1; rw [this]; exact q1, q2.kq kq (fun i a b c => by omega), by have : bl_I σ1 = bl_I σ := j1.1; rw [this]; exact q3, by rw [j1.2.2 (111 + 6) (by decide)]; exact q4, q5, fun z => ⟨⟨(q6 z).1.1.ko j1.ko (fun i a b c => by omega), by have : bl_I σ1 = bl_I σ := j1.1; rw [this]; exact (q6 z).1.2⟩, by rw [j1.2.2 (111 + 6) (by decide)]; exact (q6 z).2⟩⟩
  exact ⟨σ1, e1, hx.out (kq.mono (fun i hi => by omega)) o1, C.ko j1.ko (fun i a b c => by omega) (fun i a b c => by omega), o1, l1⟩
/-- the two behind a chance -/
theorem x_two {L c k t g : Nat} (l : ∀ j, k ≤ j → j ≤ tH (sv s) * 1 → LvX σ 118 k t g (fun k t g => cA (sv s) L c k t g) j) (hk : k < tH (sv s)) (ht : t ≤ 2) (hg : g < 2) : bl_J σ 118 (6 * (k + 1) + 2 * t + g) = lN (cA (sv s) L c (k + 1) t g) ∧ bl_J σ 118 (6 * (k + 1) + 2 * tn t g + 0) = lN (cA (sv s) L c (k + 1) (tn t g) 0) := by
  have q := l (k + 1) (by omega) (by omega)
  refine ⟨?_, q.1 (tn t g) ?_⟩
  · rcases (show g = 0 ∨ g = 1 by omega) with rfl | rfl
    · exact q.1 t ⟨Nat.le_refl _, ht, by omega⟩
    · exact q.2 rfl
  · unfold rg tn
    split <;> omega
theorem x_dearer {L c k t g : Nat} (hR : bl_R σ 111 11 = 118) (h1 : bl_J σ 118 (6 * (k + 1) + 2 * t + g) = lN (cA (sv s) L c (k + 1) t g)) (h2 : bl_J σ 118 (6 * (k + 1) + 2 * tn t g + 0) = lN (cA (sv s) L c (k + 1) (tn t g) 0)) (hk : k < 6) (ht : t ≤ 2) (hg : g < 2) : f_X4_dearerIfTold σ 111 (nI k) (nI t) (nI g) = some (lN (cA (sv s) L c (k + 1) (tn t g) 0) - lN (cA (sv s) L c (k + 1) t g), σ) := by
  have htn : tn t g ≤ 2 := by unfold tn; split <;> omega
  unfold f_X4_dearerIfTold
  rw [x_toldIndex σ (by omega) hg, bd_some, in_nI (by omega) (by decide), gd_true, nI_1, x_index σ hg, bd_some, in_nI (by omega) (by decide), gd_true, hR, nI_clamp (by omega), nI_clamp (by omega), h1, h2]
theorem gv4 (a p t b : Int64) : (a - p) - (t - b) = (a + b) - (p + t) := by
  simp only [Int64.sub_eq_add_neg, Int64.neg_add, Int64.neg_neg]
  ac_rfl
/-- what is gained by telling -/
abbrev cG (v : tm_V) (L c k t g d : Nat) : Int64 := lN (tS v (2 * d) * 1000 + cA v L c (k + 1) t g) - lN (tP v d * 1000 + cA v L c (k + 1) (tn t g) 0)
theorem x_gainOf {L c k t g d : Nat} (C : CX σ 111 10 (sv s) 0 0 false (tH (sv s) * 1)) (ok : SOk s n) (l : ∀ j, k ≤ j → j ≤ tH (sv s) * 1 → LvX σ 118 k t g (fun k t g => cA (sv s) L c k t g) j) (hk : k < tH (sv s)) (ht : t ≤ 2) (hg : g < 2) (hd : d < tK (sv s)) : f_X4_gainOf σ 111 (nI k) (nI t) (nI g) (nI d) = some (cG (sv s) L c k t g d, σ) := by
  have h3 := ok.1.2.2.2.1.2
  obtain ⟨h1, h2⟩ := x_two l hk ht hg
  unfold f_X4_gainOf
  rw [C.1.2.1, x_saved C.2.2.1 ok.1 hd, bd_some, x_dearer C.1.2.2.2 h1 h2 (by omega) ht hg, bd_some, gv4, lN_add, lN_add, Nat.mul_comm 1000, Nat.mul_comm 1000]
/-! the reference's -/
variable {τ : bl_St}
theorem int_nat (x : Int32) : ∃ k, x = nI k := ⟨x.toBitVec.toNat, by
  apply Int32.toBitVec_inj.mp
  simp [nI, Int32.toBitVec_ofNat']⟩
/-- laysYears with any wishes -/
theorem m_lyT (hm : MI τ s) (ok : TOk (sv s)) (hK : 0 < tK (sv s)) {Y rl lm cars hu : Nat} {w gd : Bool} (h11 : bl_I τ 139 11 = nI rl) (h12 : bl_I τ 139 12 = nI lm) (h13 : bl_I τ 139 13 = (if w = true then 1 else 0)) (hY : Y ≤ 20) (hrl : rl ≤ 3) (hlm : rl = 3 → lm ≤ 999) (hca : cars ≤ 2) (hhu : hu ≤ 50) (hgd : gd = true → hu = 0) : ∃ τ1, f_X10_laysYears τ 139 (nI Y) (gI gd) (nI (tH (sv s) * cars)) (nI cars) (nI hu) = some ((), τ1) ∧ MI τ1 s ∧ Kq (fun i => i = 139 ∨ (144 ≤ i ∧ i ≤ 146)) τ τ1 ∧ CM τ1 (sv s) rl lm w (tH (sv s) * cars) ∧ (∀ k, k ≠ 10 → bl_I τ1 139 k = bl_I τ 139 k) ∧ ∀ z, z ≤ Y → ∀ d, d < tN (sv s) → bl_J τ1 144 (8 * z + d) = lN (cCo (sv s) w rl lm gd cars hu z d) ∧ (1 ≤ z → bl_I τ1 145 (8 * z + d) = nI (cGd (sv s) w rl lm gd cars hu (z - 1) d)) := by
  have wr := hm.1.1
  obtain ⟨τ1, e1, k1, c1, i1, f1⟩ := m_laysYears (v := sv s) (rl := rl) (lm := lm) (w := w) (gd := gd) (cars := cars) (hu := hu) (σ := τ) (Y := Y) ⟨wr.1.1.1, wr.1.2.1, wr.1.2.2.1, wr.1.2.2.2⟩ hm.2.1 h11 h12 h13 ok hK hrl hlm hca hhu hgd hY
  exact ⟨τ1, e1, hm.scr k1.1 (i1 5 (by decide)) (i1 21 (by decide)) (k1.2 140 (by omega)).1 (k1.2 143 (by omega)).1 (k1.2 152 (by omega)).1 (k1.2 153 (by omega)).1, k1.kq, c1, i1, f1⟩
/-- fields of the reference that no answer shows -/
theorem MI.f9 (hm : MI τ s) {k : Nat} (h5 : k ≠ 5) (h21 : k ≠ 21) (x : Int32) : MI (bl_pI τ 139 k x) s :=
  hm.scr rfl (I_pI_ne (Ne.symm h5)) (I_pI_ne (Ne.symm h21)) (I_pI_o (by decide)) (I_pI_o (by decide)) (I_pI_o (by decide)) (I_pI_o (by decide))
theorem m_laysT (hm : MI τ s) (ok : TOk (sv s)) (hK : 0 < tK (sv s)) {Y rl lm : Nat} (gd : Bool) (hY : Y ≤ 20) (hrl : rl ≤ 3) (hlm : rl = 3 → lm ≤ 999) : ∃ τ1, f_X10_lays τ 139 (nI Y) (gI gd) (nI rl) (nI lm) = some ((), τ1) ∧ MI τ1 s ∧ Kq (fun i => i = 139 ∨ (144 ≤ i ∧ i ≤ 146)) τ τ1 ∧ CM τ1 (sv s) rl lm false (tH (sv s) * 1) ∧ ∀ z, z ≤ Y → ∀ d, d < tN (sv s) → bl_J τ1 144 (8 * z + d) = lN (cCo (sv s) false rl lm gd 1 0 z d) ∧ (1 ≤ z → bl_I τ1 145 (8 * z + d) = nI (cGd (sv s) false rl lm gd 1 0 (z - 1) d)) := by
  obtain ⟨τa, ea⟩ : ∃ z, z = bl_pI (bl_pI (bl_pI τ 139 11 (nI rl)) 139 12 (nI lm)) 139 13 0 := ⟨_, rfl⟩
  have ma : MI τa s := by rw [ea]; exact ((hm.f9 (by decide) (by decide) _).f9 (by decide) (by decide) _).f9 (by decide) (by decide) _
  have ka : Kq (fun i => i = 139 ∨ (144 ≤ i ∧ i ≤ 146)) τ τa := by rw [ea]; exact (((Kq.rf (fun i => i = 139 ∨ (144 ≤ i ∧ i ≤ 146)) τ).pI (Or.inl rfl) _ _).pI (Or.inl rfl) _ _).pI (Or.inl rfl) _ _
  obtain ⟨τ1, e1, m1, k1, c1, i1, f1⟩ := m_lyT (w := false) (gd := gd) (cars := 1) (hu := 0) (rl := rl) (lm := lm) (Y := Y) ma ok hK (by rw [ea]; simp [I_pI]) (by rw [ea]; simp [I_pI]) (by rw [ea]; simp [I_pI]) hY hrl hlm (by decide) (by decide) (fun _ => rfl)
  refine ⟨τ1, ?_, m1, ka.tr k1, c1, f1⟩
  have eH := ma.2.1.2.1.1
  simp only [Nat.zero_add] at eH
  unfold f_X10_lays
  simp only [let_eq]
  rw [← ea, ma.1.1.1.1.1, eH]
  have q : f_X10_laysYears τa 139 (nI Y) (gI gd) (nI (tH (sv s))) 1 0 = some ((), τ1) := by
    have := e1
    rw [Nat.mul_one] at this
    exact this
  rw [q, bd_some]
theorem m_lays (hm : MI τ s) (ok : SOk s n) (hN : 0 < tN (sv s)) {Y rl lm : Nat} (gd : Bool) (hY : Y ≤ 20) (hrl : rl ≤ 3) (hlm : lm ≤ 999) : ∃ τ1, f_X10_lays τ 139 (nI Y) (gI gd) (nI rl) (nI lm) = some ((), τ1) ∧ MI τ1 s ∧ CM τ1 (sv s) rl lm false (tH (sv s) * 1) ∧ ∀ z, z ≤ Y → ∀ d, d < tN (sv s) → bl_J τ1 144 (8 * z + d) = lN (cCo (sv s) false rl lm gd 1 0 z d) ∧ (1 ≤ z → bl_I τ1 145 (8 * z + d) = nI (cGd (sv s) false rl lm gd 1 0 (z - 1) d)) := by
  obtain ⟨τ1, e1, m1, k1, c1, f1⟩ := m_laysT hm ok.1 (ok.hK hN) gd hY hrl (fun _ => hlm)
  exact ⟨τ1, e1, m1, c1, f1⟩
theorem m_costAt (hm : MI τ s) {L c : Nat} {x : Int64} (hL : L ≤ 20) (hc : c < 8) (h : bl_J τ 144 (8 * L + c) = x) : f_X10_costAt τ 139 (nI L) (nI c) = some (x, τ) := by
  unfold f_X10_costAt
  rw [show (8 : Int32) = nI 8 from rfl, nI_mul, nI_add, in_nI (by omega) (by decide), gd_true, hm.1.1.1.2.1, nI_clamp (by omega), h]
theorem cGd_lt (v : tm_V) (w : Bool) (rl lm : Nat) (gd : Bool) (cars hu L c : Nat) : cGd v w rl lm gd cars hu L c < 2 := by unfold cGd; split <;> omega
theorem m_isGuarded (hm : MI τ s) {L c x : Nat} (hL : L ≤ 20) (hc : c < 8) (hx : x < 2) (h : bl_I τ 145 (8 * L + c) = nI x) : f_X10_isGuarded τ 139 (nI L) (nI c) = some (nI x, τ) := by
  unfold f_X10_isGuarded
  rw [show (8 : Int32) = nI 8 from rfl, nI_mul, nI_add, in_nI (by omega) (by decide), gd_true, hm.1.1.1.2.2.1, nI_clamp (by omega), h, gd_of (bo_lt hx)]
theorem m_bestCost (hm : MI τ s) (ok : SOk s n) {L c : Nat} (hL : L ≤ 20) (hc : c < tN (sv s)) : ∃ τ1, f_X10_bestCost τ 139 (nI L) (nI c) = some (lN (cB (sv s) L c), τ1) ∧ MI τ1 s := by
  have h8 := ok.1.n8
  obtain ⟨τ1, e1, m1, c1, f1⟩ := m_lays (rl := 0) (lm := 0) hm ok (by omega) true hL (by decide) (by decide)
  refine ⟨τ1, ?_, m1⟩
  unfold f_X10_bestCost
  have e1' : f_X10_lays τ 139 (nI L) 1 0 0 = some ((), τ1) := e1
  rw [e1', bd_some, m_costAt m1 hL (by omega) (f1 L (Nat.le_refl _) c hc).1, bd_some]
/-- a class's chances, once years are laid -/
theorem m_lch (hm : MI τ s) (ok : SOk s n) {Y L c : Nat} (C : CM τ (sv s) 0 0 false (tH (sv s) * 1)) (hf : ∀ z, z ≤ Y → ∀ d, d < tN (sv s) → bl_J τ 144 (8 * z + d) = lN (cCo (sv s) false 0 0 true 1 0 z d) ∧ (1 ≤ z → bl_I τ 145 (8 * z + d) = nI (cGd (sv s) false 0 0 true 1 0 (z - 1) d))) (hL1 : 1 ≤ L) (hLY : L ≤ Y) (hY : Y ≤ 20) (hc : c < tN (sv s)) :
    ∃ τ1, f_X10_laysChances τ 139 (nI L) (nI c) = some ((), τ1) ∧ MI τ1 s ∧ CM τ1 (sv s) 0 0 false (tH (sv s) * 1) ∧ (∀ k, k ≤ tH (sv s) * 1 → Lv τ1 146 (fun k t g => cA (sv s) L c k t g) k) ∧ ∀ z, z ≤ Y → ∀ d, d < tN (sv s) → bl_J τ1 144 (8 * z + d) = lN (cCo (sv s) false 0 0 true 1 0 z d) ∧ (1 ≤ z → bl_I τ1 145 (8 * z + d) = nI (cGd (sv s) false 0 0 true 1 0 (z - 1) d)) := by
  have hK := ok.hK (by omega)
  obtain ⟨τ1, e1, j1, l1⟩ := m_laysChances (V := cCo (sv s) false 0 0 true 1 0 (L - 1)) C ok.1 hK (by decide) (by decide) (by have := tH1 ok.1; omega) hL1 (show L ≤ 20 by omega) hc (fun d hd => (hf (L - 1) (by omega) d hd).1) (fun d hd => by have := cCo_le ok.1 hK false 0 0 true 1 0 (by decide) (L - 1) d hd; omega)
  have Ie : bl_I τ1 = bl_I τ := j1.1
  refine ⟨τ1, e1, hm.scr j1.2.1 (by rw [Ie]) (by rw [Ie]) (by rw [Ie]) (by rw [Ie]) (by rw [Ie]) (by rw [Ie]), C.jo j1, l1, fun z hz d hd => ?_⟩
  rw [j1.2.2 144 (by decide), Ie]
  exact hf z hz d hd
theorem m_two {L c k t g : Nat} (l : ∀ k, k ≤ tH (sv s) * 1 → Lv τ 146 (fun k t g => cA (sv s) L c k t g) k) (hk : k < tH (sv s)) (ht : t ≤ 2) (hg : g < 2) : bl_J τ 146 (6 * (k + 1) + 2 * t + g) = lN (cA (sv s) L c (k + 1) t g) ∧ bl_J τ 146 (6 * (k + 1) + 2 * tn t g + 0) = lN (cA (sv s) L c (k + 1) (tn t g) 0) := by
  have q := l (k + 1) (by omega)
  exact ⟨q t g (by omega) hg, q (tn t g) 0 (by unfold tn; split <;> omega) (by decide)⟩
theorem m_gainOf {L c k t g d : Nat} (C : CM τ (sv s) 0 0 false (tH (sv s) * 1)) (ok : SOk s n) (l : ∀ k, k ≤ tH (sv s) * 1 → Lv τ 146 (fun k t g => cA (sv s) L c k t g) k) (hk : k < tH (sv s)) (ht : t ≤ 2) (hg : g < 2) (hd : d < tK (sv s)) : f_X10_gainOf τ 139 (nI d) (nI k) (nI t) (nI g) = some (cG (sv s) L c k t g d, τ) := by
  have h3 := ok.1.2.2.2.1.2
  obtain ⟨h1, h2⟩ := m_two l hk ht hg
  unfold f_X10_gainOf
  rw [m_borneCost C ok.1 hd (by omega) (by omega) hg h1, bd_some, m_toldCost C ok.1 hd (by omega) (by omega) hg h2, bd_some]
/-! arguments -/
abbrev vY (l : Int32) : Prop := vR l 0 20
theorem x_isAsked (hx : XI σ s) (ok : SOk s n) (l c : Int32) : f_X9_isAsked σ 0 l c = some (if vY l ∧ vC c (tN (sv s)) then 1 else 0, σ) := by
  unfold f_X9_isAsked
  rw [hx.1.1.1.2.2.1, x_hasClass hx.2.1 ok.1, bd_some]
  by_cases h1 : l < 0
  · rw [if_pos h1, if_neg (fun z => by rw [lt0_iff] at h1; have := z.1.1; omega)]
  rw [if_neg h1]
  by_cases h2 : (20 : Int32) < l
  · rw [if_pos h2, if_neg (fun z => by rw [show (20 : Int32) = nI 20 from rfl, Nlt_iff l (by decide)] at h2; have := z.1.2; omega)]
  rw [if_neg h2]
  have hv : vY l := ⟨by rw [lt0_iff] at h1; omega, by rw [show (20 : Int32) = nI 20 from rfl, Nlt_iff l (by decide)] at h2; omega⟩
  by_cases h3 : vC c (tN (sv s))
  · rw [if_pos h3, if_neg (by decide), if_pos ⟨hv, h3⟩]
  · rw [if_neg h3, if_pos rfl, if_neg (fun z => h3 z.2)]
theorem m_areYears (τ : bl_St) (l : Int32) : f_X10_areYears τ l = some (if vY l then 1 else 0, τ) := by
  unfold f_X10_areYears
  rw [show (0 : Int64) = lN 0 from rfl, show (20 : Int64) = lN 20 from rfl, m_inN τ l (by decide) (by decide), bd_some, gd_of bo_if]
/-- cost -/
theorem op_cost (ok : SOk s n) (l c : Int32) : Both n s (fun σ => f_X9_cost σ 0 l c) (fun τ => f_X10_cost τ 139 l c) := by
  have h8 := ok.1.n8
  rcases (Classical.em (vY l ∧ vC c (tN (sv s)))).symm with hb | hb
  · refine Both.same ok (-1) (fun σ hx => ⟨σ, ?_, hx⟩) (fun τ hm => ⟨τ, ?_, hm⟩)
    · show f_X9_cost σ 0 l c = _
      unfold f_X9_cost
      rw [x_isAsked hx ok, bd_some, if_neg hb, if_pos rfl]
    · show f_X10_cost τ 139 l c = _
      unfold f_X10_cost
      rw [m_areYears, bd_some]
      by_cases h1 : vY l
      · rw [if_pos h1, if_neg (by decide), m_isClass hm.1.1.1.1.1 hm.2.1 ok.1, bd_some, if_neg (show ¬ vC c (tN (sv s)) from fun z => hb ⟨h1, z⟩), if_pos rfl]
      · rw [if_neg h1, if_pos rfl]
  obtain ⟨hl, hc⟩ := id hb
  obtain ⟨L, rfl, -, hL⟩ := vR_of (by decide) hl
  obtain ⟨k, hk, rfl⟩ := vC_of (by omega) hc
  refine Both.same ok (lN (cB (sv s) L k)) (fun σ hx => ?_) (fun τ hm => ?_)
  · obtain ⟨σ1, e1, x1⟩ := x_cost hx ok hL hk
    refine ⟨σ1, ?_, x1⟩
    show f_X9_cost σ 0 (nI L) (nI k) = _
    unfold f_X9_cost
    rw [x_isAsked hx ok, bd_some, if_pos hb, if_neg (by decide), hx.1.1.2.1, e1, bd_some]
  · obtain ⟨τ1, e1, m1⟩ := m_bestCost hm ok hL hk
    refine ⟨τ1, ?_, m1⟩
    show f_X10_cost τ 139 (nI L) (nI k) = _
    unfold f_X10_cost
    rw [m_areYears, bd_some, if_pos hl, if_neg (by decide), m_isClass hm.1.1.1.1.1 hm.2.1 ok.1, bd_some, if_pos hc, if_neg (by decide), e1, bd_some]
/-- whether a guard is bought -/
theorem x_buys (hx : XI σ s) (ok : SOk s n) (C : CX σ 111 10 (sv s) 0 0 false (tH (sv s) * 1)) {kn L c : Nat} (hO : OX σ 111 10 (sv s) 0 0 false true 1 0 kn) (hkn : L - 1 ≤ kn) (hL1 : 1 ≤ L) (hL : L ≤ 20) (hc : c < tN (sv s)) :
    ∃ σ1, f_X4_buys σ 111 (nI L) (nI c) = some (nI (cGd (sv s) false 0 0 true 1 0 (L - 1) c), σ1) ∧ XI σ1 s ∧ CX σ1 111 10 (sv s) 0 0 false (tH (sv s) * 1) ∧ OX σ1 111 10 (sv s) 0 0 false true 1 0 kn ∧ ∀ j, j ≤ tH (sv s) * 1 → LvX σ1 118 0 0 1 (fun k t g => cA (sv s) L c k t g) j := by
  obtain ⟨σ1, e1, x1, c1, o1, l1⟩ := x_lka (k := 0) (t := 0) (g := 1) hx ok C hO hkn hL1 hL hc (Nat.zero_le _) (by decide) (by decide)
  refine ⟨σ1, ?_, x1, c1, o1, fun j hj => l1 j (Nat.zero_le _) hj⟩
  unfold f_X4_buys
  have e1' : f_X4_lookAhead σ 111 (nI L) (nI c) 0 0 1 = some ((), σ1) := e1
  have q := l1 0 (Nat.le_refl _) (Nat.zero_le _)
  have q0 : bl_J σ1 (111 + 7) 0 = lN (cA (sv s) L c 0 0 0) := q.1 0 ⟨Nat.le_refl _, by decide, by decide⟩
  have q1 : bl_J σ1 (111 + 7) 1 = lN (cA (sv s) L c 0 0 1) := q.2 rfl
  rw [e1', bd_some, x_guardPays c1.1.1 c1.1.2.2.2 c1.2.1 ok.1 hc q0 q1 (cA_le ok hc hL 0 0 0) (cA_le ok hc hL 0 0 1), bd_some, gd_of bo_if]
  unfold cGd
  simp only [true_and]
  by_cases h : tC (sv s) (5 * c + 4) * 1000 + cA (sv s) L c 0 0 1 < cA (sv s) L c 0 0 0
  · rw [if_pos h, if_pos (show tC (sv s) (5 * c + 4) * 1000 + cAh (sv s) false 0 0 (cCo (sv s) false 0 0 true 1 0 (L - 1)) c (tH (sv s) * 1) 0 1 < cAh (sv s) false 0 0 (cCo (sv s) false 0 0 true 1 0 (L - 1)) c (tH (sv s) * 1) 0 0 from h)]
    rfl
  · rw [if_neg h, if_neg (show ¬ tC (sv s) (5 * c + 4) * 1000 + cAh (sv s) false 0 0 (cCo (sv s) false 0 0 true 1 0 (L - 1)) c (tH (sv s) * 1) 0 1 < cAh (sv s) false 0 0 (cCo (sv s) false 0 0 true 1 0 (L - 1)) c (tH (sv s) * 1) 0 0 from h)]
    rfl
theorem op_guards (ok : SOk s n) (l c : Int32) : Both n s (fun σ => f_X9_guards σ 0 l c) (fun τ => f_X10_guards τ 139 l c) := by
  have h8 := ok.1.n8
  rcases (Classical.em (vY l ∧ vC c (tN (sv s)))).symm with hb | hb
  · refine Both.same ok (-1) (fun σ hx => ⟨σ, ?_, hx⟩) (fun τ hm => ⟨τ, ?_, hm⟩)
    · show f_X9_guards σ 0 l c = _
      unfold f_X9_guards
      rw [x_isAsked hx ok, bd_some, if_neg hb, if_pos rfl]
    · show f_X10_guards τ 139 l c = _
      unfold f_X10_guards
      rw [m_areYears, bd_some]
      by_cases h1 : vY l
      · rw [if_pos h1, if_neg (by decide), m_isClass hm.1.1.1.1.1 hm.2.1 ok.1, bd_some, if_neg (show ¬ vC c (tN (sv s)) from fun z => hb ⟨h1, z⟩), if_pos rfl]
      · rw [if_neg h1, if_pos rfl]
  obtain ⟨hl, hc⟩ := id hb
  obtain ⟨L, rfl, -, hL⟩ := vR_of (by decide) hl
  obtain ⟨k, hk, rfl⟩ := vC_of (by omega) hc
  have hg2 := cGd_lt (sv s) false 0 0 true 1 0 (L - 1) k
  refine Both.same ok (nI (if L = 0 then 0 else cGd (sv s) false 0 0 true 1 0 (L - 1) k)) (fun σ hx => ?_) (fun τ hm => ?_)
  · rcases Nat.eq_zero_or_pos L with h0 | hp
    · refine ⟨σ, ?_, hx⟩
      show f_X9_guards σ 0 (nI L) (nI k) = _
      unfold f_X9_guards
      rw [x_isAsked hx ok, bd_some, if_pos hb, if_neg (by decide), h0, if_pos (by rfl)]
      rfl
    · obtain ⟨σ1, e1, x1, c1, kn, hkn, o1⟩ := x_lrn (Y := L - 1) hx ok (by omega) (by omega)
      obtain ⟨σ2, e2, x2, -, -, -⟩ := x_buys x1 ok c1 o1 hkn hp hL hk
      refine ⟨σ2, ?_, x2⟩
      show f_X9_guards σ 0 (nI L) (nI k) = _
      unfold f_X9_guards
      rw [x_isAsked hx ok, bd_some, if_pos hb, if_neg (by decide), if_neg (nI_ne0 hp (by omega)), hx.1.1.2.1, show (1 : Int32) = nI 1 from rfl, nI_sub hp, e1, bd_some, x1.1.1.2.1, e2, bd_some, if_neg (show ¬ L = 0 by omega)]
      rcases (show cGd (sv s) false 0 0 true 1 0 (L - 1) k = 0 ∨ cGd (sv s) false 0 0 true 1 0 (L - 1) k = 1 by omega) with h | h
      · rw [h, if_pos (by rfl)]; rfl
      · rw [h, if_neg (by decide)]
  · obtain ⟨τ1, e1, m1, c1, f1⟩ := m_lays (rl := 0) (lm := 0) hm ok (by omega) true hL (by decide) (by decide)
    refine ⟨τ1, ?_, m1⟩
    have e1' : f_X10_lays τ 139 (nI L) 1 0 0 = some ((), τ1) := e1
    show f_X10_guards τ 139 (nI L) (nI k) = _
    unfold f_X10_guards
    rw [m_areYears, bd_some, if_pos hl, if_neg (by decide), m_isClass hm.1.1.1.1.1 hm.2.1 ok.1, bd_some, if_pos hc, if_neg (by decide), e1', bd_some]
    rcases Nat.eq_zero_or_pos L with h0 | hp
    · rw [h0, if_pos (by decide)]
      rfl
    · rw [if_neg (show ¬ nI L ≤ 0 from nI_nle hp (by omega)), m_isGuarded m1 hL (by omega) hg2 ((f1 L (Nat.le_refl _) k hk).2 hp), bd_some, if_neg (show ¬ L = 0 by omega)]
      rcases (show cGd (sv s) false 0 0 true 1 0 (L - 1) k = 0 ∨ cGd (sv s) false 0 0 true 1 0 (L - 1) k = 1 by omega) with h | h
      · rw [h, if_pos (by rfl)]; rfl
      · rw [h, if_neg (by decide)]; rfl
end CXS
