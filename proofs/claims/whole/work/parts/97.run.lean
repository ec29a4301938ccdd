/-! ===== both sides in one state: a call of each ===== -/
def hX (i : Nat) : Bool := decide (i < 139)
def hM (i : Nat) : Bool := decide (139 ≤ i)
def GI (σ : bl_St) (s : st_V) (n : Nat) : Prop := (bl_WT σ ∧ bl_WH hX σ ∧ bl_WH hM σ) ∧ XI σ s ∧ MI σ s ∧ SOk s n
theorem XI.all {σ σ1 : bl_St} {s : st_V} (h : XI σ s) (k : Kq (fun i => 139 ≤ i) σ σ1) : XI σ1 s :=
  ⟨h.1.kq k (fun i hi => by omega), h.2.1.kq k (fun i a b c => by omega), h.2.2.1.kq k (fun i a b c => by omega), ⟨_, h.2.2.2.1.choose_spec.kq k (fun i a b c => by omega)⟩, ⟨_, h.2.2.2.2.1.choose_spec.kq k (fun i a b c => by omega) (fun i a b c => by omega)⟩, h.2.2.2.2.2.kq k (by omega) (by omega)⟩
theorem MI.all {σ σ1 : bl_St} {s : st_V} (h : MI σ s) (k : Kq (fun i => i < 139) σ σ1) : MI σ1 s := by
  have r9 := (k 139 (by decide)).2.2
  have i9 := (k 139 (by decide)).1
  have i0 := (k 140 (by decide)).1
  have i3 := (k 143 (by decide)).1
  have i2 := (k 152 (by decide)).1
  have i5 := (k 153 (by decide)).1
  unfold MI MW PM TM LM at *
  rw [r9, i9, i0, i3, i2, i5]
  exact h
theorem wh_o {h : Nat → Bool} {σ σ1 : bl_St} (w : bl_WH h σ) (e : ∀ i, h i = true → bl_R σ1 i = bl_R σ i) : bl_WH h σ1 :=
  ⟨fun i ci N k t h1 h2 h3 h4 => by rw [e i h4]; exact w.1 i ci N k t h1 h2 h3 h4, fun i n k h1 h2 h3 => by rw [e i h3]; exact w.2.1 i n k h1 h2 h3, fun i n k h1 h2 h3 => by rw [e i h3]; exact w.2.2 i n k h1 h2 h3⟩
theorem hX_no {md : List (Nat × Nat)} {i : Nat} (h : 139 ≤ i) : bl_wr hX md i = false := by
  have : hX i = false := by unfold hX; simp; omega
  unfold bl_wr
  rw [this]
  rfl
theorem hM_no {md : List (Nat × Nat)} {i : Nat} (h : i < 139) : bl_wr hM md i = false := by
  have : hM i = false := by unfold hM; simp; omega
  unfold bl_wr
  rw [this]
  rfl
theorem glue {α : Type} {n : Nat} {s : st_V} {fX fM : bl_St → Option (α × bl_St)} (B : Both n s fX fM) (FX : ∀ σ o, bl_WT σ → bl_WH hX σ → fX σ = some o → ∃ md, bl_Fq hX md σ o.2) (FM : ∀ σ o, bl_WT σ → bl_WH hM σ → fM σ = some o → ∃ md, bl_Fq hM md σ o.2) {σ : bl_St} (G : GI σ s n) : ∃ r σ1 σ2 s', fX σ = some (r, σ1) ∧ fM σ1 = some (r, σ2) ∧ GI σ2 s' (n + 1) := by
  obtain ⟨⟨w, wx, wm⟩, hx, hm, ok⟩ := G
  obtain ⟨r0, s0, σ1, τ0, e1, -, -, -, -⟩ := B σ σ hx hm
  obtain ⟨md, q1⟩ := FX σ _ w wx e1
  have k1 : Kq (fun i => i < 139) σ σ1 := fun i hi => q1.2.2 i (hX_no (by omega))
  have wm1 : bl_WH hM σ1 := wh_o wm (fun i hi => (k1 i (by unfold hM at hi; simp at hi; omega)).2.2)
  obtain ⟨r, s', σ1', σ2, f1, f2, x1, m2, ok2⟩ := B σ σ1 hx (hm.all k1)
  have es : σ1' = σ1 := by
    have := f1.symm.trans e1
    have := Option.some.inj this
    exact congrArg Prod.snd this
  rw [es] at f1 x1
  obtain ⟨md2, q2⟩ := FM σ1 _ q1.1 wm1 f2
  have k2 : Kq (fun i => 139 ≤ i) σ1 σ2 := fun i hi => q2.2.2 i (hM_no (by omega))
  have wx2 : bl_WH hX σ2 := wh_o (σ := σ1) q1.2.1 (fun i hi => (k2 i (by unfold hX at hi; simp at hi; omega)).2.2)
  exact ⟨r, σ1, σ2, s', f1, f2, ⟨q2.1, wx2, q2.2.1⟩, x1.all k2, m2, ok2⟩
theorem law_next (xs : Nat → Int32) (L : Nat) (k18 : bl_St → Nat → Nat → Int32 → Option (Int32 × bl_St)) (σ : bl_St) (i : Nat) : b_L_law_2362 xs L k18 σ 0 139 (nI i) = k18 σ 0 139 (nI (i + 7)) := by
  unfold b_L_law_2362
  rw [let_eq, show (7 : Int32) = nI 7 from rfl, nI_add]
theorem GI.up {σ : bl_St} {s : st_V} {n : Nat} (G : GI σ s n) : GI σ s (n + 1) := ⟨G.1, G.2.1, G.2.2.1, G.2.2.2.up⟩
set_option maxHeartbeats 8000000 in
set_option maxRecDepth 100000 in
theorem law_step (xs : Nat → Int32) (L : Nat) (k18 : bl_St → Nat → Nat → Int32 → Option (Int32 × bl_St)) {σ : bl_St} {s : st_V} {n i : Nat} (hn : n ≤ 600) (hL : L ≤ 3584) (hi : i + 7 ≤ L) (G : GI σ s n) : ∃ σ2 s', b_L_law_18 xs L k18 σ 0 139 (nI i) = k18 σ2 0 139 (nI (i + 7)) ∧ GI σ2 s' (n + 1) := by
  have hend : ¬ (Int32.ofNat L - 7 : Int32) < nI i := by
    show ¬ (nI L - nI 7) < nI i
    rw [nI_sub (by omega)]
    exact nI_nlt (by omega) (by omega)
  have g0 : bl_in (nI i) L = true := in_nI (by omega) (by omega)
  have g1 : bl_in (nI i + 1) L = true := by rw [nI_1]; exact in_nI (by omega) (by omega)
  have g2 : bl_in (nI i + 2) L = true := by rw [show (2 : Int32) = nI 2 from rfl, nI_add]; exact in_nI (by omega) (by omega)
  have g3 : bl_in (nI i + 3) L = true := by rw [show (3 : Int32) = nI 3 from rfl, nI_add]; exact in_nI (by omega) (by omega)
  have g4 : bl_in (nI i + 4) L = true := by rw [show (4 : Int32) = nI 4 from rfl, nI_add]; exact in_nI (by omega) (by omega)
  have g5 : bl_in (nI i + 5) L = true := by rw [show (5 : Int32) = nI 5 from rfl, nI_add]; exact in_nI (by omega) (by omega)
  have g6 : bl_in (nI i + 6) L = true := by rw [show (6 : Int32) = nI 6 from rfl, nI_add]; exact in_nI (by omega) (by omega)
  obtain ⟨a1, A1⟩ : ∃ a, xs (Int32.toNatClampNeg (nI i + 1)) = a := ⟨_, rfl⟩
  obtain ⟨a2, A2⟩ : ∃ a, xs (Int32.toNatClampNeg (nI i + 2)) = a := ⟨_, rfl⟩
  obtain ⟨a3, A3⟩ : ∃ a, xs (Int32.toNatClampNeg (nI i + 3)) = a := ⟨_, rfl⟩
  obtain ⟨a4, A4⟩ : ∃ a, xs (Int32.toNatClampNeg (nI i + 4)) = a := ⟨_, rfl⟩
  obtain ⟨a5, A5⟩ : ∃ a, xs (Int32.toNatClampNeg (nI i + 5)) = a := ⟨_, rfl⟩
  obtain ⟨a6, A6⟩ : ∃ a, xs (Int32.toNatClampNeg (nI i + 6)) = a := ⟨_, rfl⟩
  have ok := G.2.2.2
  unfold b_L_law_18
  rw [if_neg hend, g0, gd_true]
  obtain ⟨op, hop⟩ : ∃ o, xs (Int32.toNatClampNeg (nI i)) &&& 63 = o := ⟨_, rfl⟩
  rw [hop]
  by_cases h0 : op = 0
  · rw [if_pos h0]
    obtain ⟨r, σ1, σ2, s', e1, e2, G2⟩ := glue (op_feed ok a1 a2 a3 a4 a5) (fun σ o w h e => ⟨_, fr_X9_feed σ 0 _ _ _ _ _ o w h (by first | exact ⟨rfl, rfl⟩ | exact rfl) e⟩) (fun σ o w h e => ⟨_, fr_X10_feed σ 139 _ _ _ _ _ o w h (by first | exact ⟨rfl, rfl⟩ | exact rfl) e⟩) G
    have e1 : f_X9_feed σ 0 a1 a2 a3 a4 a5 = some (r, σ1) := e1
    have e2 : f_X10_feed σ1 139 a1 a2 a3 a4 a5 = some (r, σ2) := e2
    refine ⟨σ2, s', ?_, G2⟩
    simp only [g1, g2, g3, g4, g5, g6, A1, A2, A3, A4, A5, A6, gd_true]
    rw [e1, bd_some, e2, bd_some, if_pos rfl, law_next]
  rw [if_neg h0]
  by_cases h1 : op = 1
  · rw [if_pos h1]
    obtain ⟨r, σ1, σ2, s', e1, e2, G2⟩ := glue (op_back ok a1) (fun σ o w h e => ⟨_, fr_X9_back σ 0 _ o w h (by first | exact ⟨rfl, rfl⟩ | exact rfl) e⟩) (fun σ o w h e => ⟨_, fr_X10_back σ 139 _ o w h (by first | exact ⟨rfl, rfl⟩ | exact rfl) e⟩) G
    have e1 : f_X9_back σ 0 a1 = some (r, σ1) := e1
    have e2 : f_X10_back σ1 139 a1 = some (r, σ2) := e2
    refine ⟨σ2, s', ?_, G2⟩
    simp only [g1, g2, g3, g4, g5, g6, A1, A2, A3, A4, A5, A6, gd_true]
    rw [e1, bd_some, e2, bd_some, if_pos rfl, law_next]
  rw [if_neg h1]
  by_cases h2 : op = 2
  · rw [if_pos h2]
    obtain ⟨r, σ1, σ2, s', e1, e2, G2⟩ := glue (op_text ok ) (fun σ o w h e => ⟨_, fr_X9_text σ 0  o w h (by first | exact ⟨rfl, rfl⟩ | exact rfl) e⟩) (fun σ o w h e => ⟨_, fr_X10_text σ 139  o w h (by first | exact ⟨rfl, rfl⟩ | exact rfl) e⟩) G
    have e1 : f_X9_text σ 0  = some (r, σ1) := e1
    have e2 : f_X10_text σ1 139  = some (r, σ2) := e2
    refine ⟨σ2, s', ?_, G2⟩
    skip
    rw [e1, bd_some, e2, bd_some, if_pos rfl, law_next]
  rw [if_neg h2]
  by_cases h3 : op = 3
  · rw [if_pos h3]
    obtain ⟨r, σ1, σ2, s', e1, e2, G2⟩ := glue (op_set ok a1 a2 a3) (fun σ o w h e => ⟨_, fr_X9_set σ 0 _ _ _ o w h (by first | exact ⟨rfl, rfl⟩ | exact rfl) e⟩) (fun σ o w h e => ⟨_, fr_X10_set σ 139 _ _ _ o w h (by first | exact ⟨rfl, rfl⟩ | exact rfl) e⟩) G
    have e1 : f_X9_set σ 0 a1 a2 a3 = some (r, σ1) := e1
    have e2 : f_X10_set σ1 139 a1 a2 a3 = some (r, σ2) := e2
    refine ⟨σ2, s', ?_, G2⟩
    simp only [g1, g2, g3, g4, g5, g6, A1, A2, A3, A4, A5, A6, gd_true]
    rw [e1, bd_some, e2, bd_some, if_pos rfl, law_next]
  rw [if_neg h3]
  by_cases h4 : op = 4
  · rw [if_pos h4]
    obtain ⟨r, σ1, σ2, s', e1, e2, G2⟩ := glue (op_sort ok a1 a2 a3) (fun σ o w h e => ⟨_, fr_X9_sort σ 0 _ _ _ o w h (by first | exact ⟨rfl, rfl⟩ | exact rfl) e⟩) (fun σ o w h e => ⟨_, fr_X10_sort σ 139 _ _ _ o w h (by first | exact ⟨rfl, rfl⟩ | exact rfl) e⟩) G
    have e1 : f_X9_sort σ 0 a1 a2 a3 = some (r, σ1) := e1
    have e2 : f_X10_sort σ1 139 a1 a2 a3 = some (r, σ2) := e2
    refine ⟨σ2, s', ?_, G2⟩
    simp only [g1, g2, g3, g4, g5, g6, A1, A2, A3, A4, A5, A6, gd_true]
    rw [e1, bd_some, e2, bd_some, if_pos rfl, law_next]
  rw [if_neg h4]
  by_cases h5 : op = 5
  · rw [if_pos h5]
    obtain ⟨r, σ1, σ2, s', e1, e2, G2⟩ := glue (op_rule ok a1 a2) (fun σ o w h e => ⟨_, fr_X9_rule σ 0 _ _ o w h (by first | exact ⟨rfl, rfl⟩ | exact rfl) e⟩) (fun σ o w h e => ⟨_, fr_X10_rule σ 139 _ _ o w h (by first | exact ⟨rfl, rfl⟩ | exact rfl) e⟩) G
    have e1 : f_X9_rule σ 0 a1 a2 = some (r, σ1) := e1
    have e2 : f_X10_rule σ1 139 a1 a2 = some (r, σ2) := e2
    refine ⟨σ2, s', ?_, G2⟩
    simp only [g1, g2, g3, g4, g5, g6, A1, A2, A3, A4, A5, A6, gd_true]
    rw [e1, bd_some, e2, bd_some, if_pos rfl, law_next]
  rw [if_neg h5]
  by_cases h6 : op = 6
  · rw [if_pos h6]
    simp only [g1, g2, g3, g4, g5, g6, A1, A2, A3, A4, A5, A6, gd_true]
    by_cases hb : a1 = 0
    · rw [if_pos hb]
      obtain ⟨r, σ1, σ2, s', e1, e2, G2⟩ := glue (op_begin ok hn (g := 0) (by decide)) (fun σ o w h e => ⟨_, fr_X9_begin σ 0 _ o w h (by first | exact ⟨rfl, rfl⟩ | exact rfl) e⟩) (fun σ o w h e => ⟨_, fr_X10_begin σ 139 _ o w h (by first | exact ⟨rfl, rfl⟩ | exact rfl) e⟩) G
      have e1 : f_X9_begin σ 0 0 = some (r, σ1) := e1
      have e2 : f_X10_begin σ1 139 0 = some (r, σ2) := e2
      refine ⟨σ2, s', ?_, G2⟩
      unfold b_L_law_496
      simp only [g1, g2, g3, g4, g5, g6, A1, A2, A3, A4, A5, A6, gd_true]
      rw [e1, bd_some, if_pos hb]
      unfold b_L_law_513
      rw [e2, bd_some, if_pos rfl, law_next]
    · rw [if_neg hb]
      obtain ⟨r, σ1, σ2, s', e1, e2, G2⟩ := glue (op_begin ok hn (g := 1) (by decide)) (fun σ o w h e => ⟨_, fr_X9_begin σ 0 _ o w h (by first | exact ⟨rfl, rfl⟩ | exact rfl) e⟩) (fun σ o w h e => ⟨_, fr_X10_begin σ 139 _ o w h (by first | exact ⟨rfl, rfl⟩ | exact rfl) e⟩) G
      have e1 : f_X9_begin σ 0 1 = some (r, σ1) := e1
      have e2 : f_X10_begin σ1 139 1 = some (r, σ2) := e2
      refine ⟨σ2, s', ?_, G2⟩
      unfold b_L_law_496
      simp only [g1, g2, g3, g4, g5, g6, A1, A2, A3, A4, A5, A6, gd_true]
      rw [e1, bd_some, if_neg hb]
      unfold b_L_law_513
      rw [e2, bd_some, if_pos rfl, law_next]
  rw [if_neg h6]
  by_cases h7 : op = 7
  · rw [if_pos h7]
    obtain ⟨r, σ1, σ2, s', e1, e2, G2⟩ := glue (op_quiet ok hn ) (fun σ o w h e => ⟨_, fr_X9_quiet σ 0  o w h (by first | exact ⟨rfl, rfl⟩ | exact rfl) e⟩) (fun σ o w h e => ⟨_, fr_X10_quiet σ 139  o w h (by first | exact ⟨rfl, rfl⟩ | exact rfl) e⟩) G
    have e1 : f_X9_quiet σ 0  = some (r, σ1) := e1
    have e2 : f_X10_quiet σ1 139  = some (r, σ2) := e2
    refine ⟨σ2, s', ?_, G2⟩
    skip
    rw [e1, bd_some, e2, bd_some, if_pos rfl, law_next]
  rw [if_neg h7]
  by_cases h8 : op = 8
  · rw [if_pos h8]
    simp only [g1, g2, g3, g4, g5, g6, A1, A2, A3, A4, A5, A6, gd_true]
    by_cases hb : a2 = 0
    · rw [if_pos hb]
      obtain ⟨r, σ1, σ2, s', e1, e2, G2⟩ := glue (op_loss ok hn a1 (d := 0) (by decide)) (fun σ o w h e => ⟨_, fr_X9_loss σ 0 _ _ o w h (by first | exact ⟨rfl, rfl⟩ | exact rfl) e⟩) (fun σ o w h e => ⟨_, fr_X10_loss σ 139 _ _ o w h (by first | exact ⟨rfl, rfl⟩ | exact rfl) e⟩) G
      have e1 : f_X9_loss σ 0 a1 0 = some (r, σ1) := e1
      have e2 : f_X10_loss σ1 139 a1 0 = some (r, σ2) := e2
      refine ⟨σ2, s', ?_, G2⟩
      unfold b_L_law_553
      simp only [g1, g2, g3, g4, g5, g6, A1, A2, A3, A4, A5, A6, gd_true]
      rw [e1, bd_some, if_pos hb]
      unfold b_L_law_575
      rw [e2, bd_some, if_pos rfl, law_next]
    · rw [if_neg hb]
      obtain ⟨r, σ1, σ2, s', e1, e2, G2⟩ := glue (op_loss ok hn a1 (d := 1) (by decide)) (fun σ o w h e => ⟨_, fr_X9_loss σ 0 _ _ o w h (by first | exact ⟨rfl, rfl⟩ | exact rfl) e⟩) (fun σ o w h e => ⟨_, fr_X10_loss σ 139 _ _ o w h (by first | exact ⟨rfl, rfl⟩ | exact rfl) e⟩) G
      have e1 : f_X9_loss σ 0 a1 1 = some (r, σ1) := e1
      have e2 : f_X10_loss σ1 139 a1 1 = some (r, σ2) := e2
      refine ⟨σ2, s', ?_, G2⟩
      unfold b_L_law_553
      simp only [g1, g2, g3, g4, g5, g6, A1, A2, A3, A4, A5, A6, gd_true]
      rw [e1, bd_some, if_neg hb]
      unfold b_L_law_575
      rw [e2, bd_some, if_pos rfl, law_next]
  rw [if_neg h8]
  by_cases h9 : op = 9
  · rw [if_pos h9]
    obtain ⟨r, σ1, σ2, s', e1, e2, G2⟩ := glue (op_live ok hn a1 a2 a3 a4) (fun σ o w h e => ⟨_, fr_X9_live σ 0 _ _ _ _ o w h (by first | exact ⟨rfl, rfl⟩ | exact rfl) e⟩) (fun σ o w h e => ⟨_, fr_X10_live σ 139 _ _ _ _ o w h (by first | exact ⟨rfl, rfl⟩ | exact rfl) e⟩) G
    have e1 : f_X9_live σ 0 a1 a2 a3 a4 = some (r, σ1) := e1
    have e2 : f_X10_live σ1 139 a1 a2 a3 a4 = some (r, σ2) := e2
    refine ⟨σ2, s', ?_, G2⟩
    simp only [g1, g2, g3, g4, g5, g6, A1, A2, A3, A4, A5, A6, gd_true]
    rw [e1, bd_some, e2, bd_some, if_pos rfl, law_next]
  rw [if_neg h9]
  by_cases h10 : op = 10
  · rw [if_pos h10]
    obtain ⟨r, σ1, σ2, s', e1, e2, G2⟩ := glue (op_come ok a1 a2) (fun σ o w h e => ⟨_, fr_X9_come σ 0 _ _ o w h (by first | exact ⟨rfl, rfl⟩ | exact rfl) e⟩) (fun σ o w h e => ⟨_, fr_X10_come σ 139 _ _ o w h (by first | exact ⟨rfl, rfl⟩ | exact rfl) e⟩) G
    have e1 : f_X9_come σ 0 a1 a2 = some (r, σ1) := e1
    have e2 : f_X10_come σ1 139 a1 a2 = some (r, σ2) := e2
    refine ⟨σ2, s', ?_, G2⟩
    simp only [g1, g2, g3, g4, g5, g6, A1, A2, A3, A4, A5, A6, gd_true]
    rw [e1, bd_some, e2, bd_some, if_pos rfl, law_next]
  rw [if_neg h10]
  by_cases h11 : op = 11
  · rw [if_pos h11]
    obtain ⟨r, σ1, σ2, s', e1, e2, G2⟩ := glue (op_drop ok a1) (fun σ o w h e => ⟨_, fr_X9_drop σ 0 _ o w h (by first | exact ⟨rfl, rfl⟩ | exact rfl) e⟩) (fun σ o w h e => ⟨_, fr_X10_drop σ 139 _ o w h (by first | exact ⟨rfl, rfl⟩ | exact rfl) e⟩) G
    have e1 : f_X9_drop σ 0 a1 = some (r, σ1) := e1
    have e2 : f_X10_drop σ1 139 a1 = some (r, σ2) := e2
    refine ⟨σ2, s', ?_, G2⟩
    simp only [g1, g2, g3, g4, g5, g6, A1, A2, A3, A4, A5, A6, gd_true]
    rw [e1, bd_some, e2, bd_some, if_pos rfl, law_next]
  rw [if_neg h11]
  by_cases h12 : op = 12
  · rw [if_pos h12]
    obtain ⟨r, σ1, σ2, s', e1, e2, G2⟩ := glue (op_move ok a1) (fun σ o w h e => ⟨_, fr_X9_move σ 0 _ o w h (by first | exact ⟨rfl, rfl⟩ | exact rfl) e⟩) (fun σ o w h e => ⟨_, fr_X10_move σ 139 _ o w h (by first | exact ⟨rfl, rfl⟩ | exact rfl) e⟩) G
    have e1 : f_X9_move σ 0 a1 = some (r, σ1) := e1
    have e2 : f_X10_move σ1 139 a1 = some (r, σ2) := e2
    refine ⟨σ2, s', ?_, G2⟩
    simp only [g1, g2, g3, g4, g5, g6, A1, A2, A3, A4, A5, A6, gd_true]
    rw [e1, bd_some, e2, bd_some, if_pos rfl, law_next]
  rw [if_neg h12]
  by_cases h13 : op = 13
  · rw [if_pos h13]
    obtain ⟨r, σ1, σ2, s', e1, e2, G2⟩ := glue (op_anew ok ) (fun σ o w h e => ⟨_, fr_X9_anew σ 0  o w h (by first | exact ⟨rfl, rfl⟩ | exact rfl) e⟩) (fun σ o w h e => ⟨_, fr_X10_anew σ 139  o w h (by first | exact ⟨rfl, rfl⟩ | exact rfl) e⟩) G
    have e1 : f_X9_anew σ 0  = some (r, σ1) := e1
    have e2 : f_X10_anew σ1 139  = some (r, σ2) := e2
    refine ⟨σ2, s', ?_, G2⟩
    skip
    rw [e1, bd_some, e2, bd_some, if_pos rfl, law_next]
  rw [if_neg h13]
  by_cases h14 : op = 14
  · rw [if_pos h14]
    obtain ⟨r, σ1, σ2, s', e1, e2, G2⟩ := glue (op_undo ok ) (fun σ o w h e => ⟨_, fr_X9_undo σ 0  o w h (by first | exact ⟨rfl, rfl⟩ | exact rfl) e⟩) (fun σ o w h e => ⟨_, fr_X10_undo σ 139  o w h (by first | exact ⟨rfl, rfl⟩ | exact rfl) e⟩) G
    have e1 : f_X9_undo σ 0  = some (r, σ1) := e1
    have e2 : f_X10_undo σ1 139  = some (r, σ2) := e2
    refine ⟨σ2, s', ?_, G2⟩
    skip
    rw [e1, bd_some, e2, bd_some, if_pos rfl, law_next]
  rw [if_neg h14]
  by_cases h15 : op = 15
  · rw [if_pos h15]
    obtain ⟨r, σ1, σ2, s', e1, e2, G2⟩ := glue (op_of ok a1 a2) (fun σ o w h e => ⟨_, fr_X9_of σ 0 _ _ o w h (by first | exact ⟨rfl, rfl⟩ | exact rfl) e⟩) (fun σ o w h e => ⟨_, fr_X10_of σ 139 _ _ o w h (by first | exact ⟨rfl, rfl⟩ | exact rfl) e⟩) G
    have e1 : f_X9_of σ 0 a1 a2 = some (r, σ1) := e1
    have e2 : f_X10_of σ1 139 a1 a2 = some (r, σ2) := e2
    refine ⟨σ2, s', ?_, G2⟩
    simp only [g1, g2, g3, g4, g5, g6, A1, A2, A3, A4, A5, A6, gd_true]
    rw [e1, bd_some, e2, bd_some, if_pos rfl, law_next]
  rw [if_neg h15]
  by_cases h16 : op = 16
  · rw [if_pos h16]
    obtain ⟨r, σ1, σ2, s', e1, e2, G2⟩ := glue (op_ofSort ok a1 a2) (fun σ o w h e => ⟨_, fr_X9_ofSort σ 0 _ _ o w h (by first | exact ⟨rfl, rfl⟩ | exact rfl) e⟩) (fun σ o w h e => ⟨_, fr_X10_ofSort σ 139 _ _ o w h (by first | exact ⟨rfl, rfl⟩ | exact rfl) e⟩) G
    have e1 : f_X9_ofSort σ 0 a1 a2 = some (r, σ1) := e1
    have e2 : f_X10_ofSort σ1 139 a1 a2 = some (r, σ2) := e2
    refine ⟨σ2, s', ?_, G2⟩
    simp only [g1, g2, g3, g4, g5, g6, A1, A2, A3, A4, A5, A6, gd_true]
    rw [e1, bd_some, e2, bd_some, if_pos rfl, law_next]
  rw [if_neg h16]
  by_cases h17 : op = 17
  · rw [if_pos h17]
    obtain ⟨r, σ1, σ2, s', e1, e2, G2⟩ := glue (op_life ok a1) (fun σ o w h e => ⟨_, fr_X9_life σ 0 _ o w h (by first | exact ⟨rfl, rfl⟩ | exact rfl) e⟩) (fun σ o w h e => ⟨_, fr_X10_life σ 139 _ o w h (by first | exact ⟨rfl, rfl⟩ | exact rfl) e⟩) G
    have e1 : f_X9_life σ 0 a1 = some (r, σ1) := e1
    have e2 : f_X10_life σ1 139 a1 = some (r, σ2) := e2
    refine ⟨σ2, s', ?_, G2⟩
    simp only [g1, g2, g3, g4, g5, g6, A1, A2, A3, A4, A5, A6, gd_true]
    rw [e1, bd_some, e2, bd_some, if_pos rfl, law_next]
  rw [if_neg h17]
  by_cases h18 : op = 18
  · rw [if_pos h18]
    obtain ⟨r, σ1, σ2, s', e1, e2, G2⟩ := glue (op_book ok hn a1 a2) (fun σ o w h e => ⟨_, fr_X9_book σ 0 _ _ o w h (by first | exact ⟨rfl, rfl⟩ | exact rfl) e⟩) (fun σ o w h e => ⟨_, fr_X10_book σ 139 _ _ o w h (by first | exact ⟨rfl, rfl⟩ | exact rfl) e⟩) G
    have e1 : f_X9_book σ 0 a1 a2 = some (r, σ1) := e1
    have e2 : f_X10_book σ1 139 a1 a2 = some (r, σ2) := e2
    refine ⟨σ2, s', ?_, G2⟩
    simp only [g1, g2, g3, g4, g5, g6, A1, A2, A3, A4, A5, A6, gd_true]
    rw [e1, bd_some, e2, bd_some, if_pos rfl, law_next]
  rw [if_neg h18]
  by_cases h19 : op = 19
  · rw [if_pos h19]
    obtain ⟨r, σ1, σ2, s', e1, e2, G2⟩ := glue (op_ledger ok hn a1 a2) (fun σ o w h e => ⟨_, fr_X9_ledger σ 0 _ _ o w h (by first | exact ⟨rfl, rfl⟩ | exact rfl) e⟩) (fun σ o w h e => ⟨_, fr_X10_ledger σ 139 _ _ o w h (by first | exact ⟨rfl, rfl⟩ | exact rfl) e⟩) G
    have e1 : f_X9_ledger σ 0 a1 a2 = some (r, σ1) := e1
    have e2 : f_X10_ledger σ1 139 a1 a2 = some (r, σ2) := e2
    refine ⟨σ2, s', ?_, G2⟩
    simp only [g1, g2, g3, g4, g5, g6, A1, A2, A3, A4, A5, A6, gd_true]
    rw [e1, bd_some, e2, bd_some, if_pos rfl, law_next]
  rw [if_neg h19]
  by_cases h20 : op = 20
  · rw [if_pos h20]
    simp only [g1, g2, g3, g4, g5, g6, A1, A2, A3, A4, A5, A6, gd_true]
    by_cases hb : a1 = 0
    · rw [if_pos hb]
      obtain ⟨r, σ1, σ2, s', e1, e2, G2⟩ := glue (op_mean ok hn 0) (fun σ o w h e => ⟨_, fr_X9_mean σ 0 _ o w h (by first | exact ⟨rfl, rfl⟩ | exact rfl) e⟩) (fun σ o w h e => ⟨_, fr_X10_mean σ 139 _ o w h (by first | exact ⟨rfl, rfl⟩ | exact rfl) e⟩) G
      have e1 : f_X9_mean σ 0 0 = some (r, σ1) := e1
      have e2 : f_X10_mean σ1 139 0 = some (r, σ2) := e2
      refine ⟨σ2, s', ?_, G2⟩
      unfold b_L_law_910
      simp only [g1, g2, g3, g4, g5, g6, A1, A2, A3, A4, A5, A6, gd_true]
      rw [e1, bd_some, if_pos hb]
      unfold b_L_law_927
      rw [e2, bd_some, if_pos rfl, law_next]
    · rw [if_neg hb]
      obtain ⟨r, σ1, σ2, s', e1, e2, G2⟩ := glue (op_mean ok hn 1) (fun σ o w h e => ⟨_, fr_X9_mean σ 0 _ o w h (by first | exact ⟨rfl, rfl⟩ | exact rfl) e⟩) (fun σ o w h e => ⟨_, fr_X10_mean σ 139 _ o w h (by first | exact ⟨rfl, rfl⟩ | exact rfl) e⟩) G
      have e1 : f_X9_mean σ 0 1 = some (r, σ1) := e1
      have e2 : f_X10_mean σ1 139 1 = some (r, σ2) := e2
      refine ⟨σ2, s', ?_, G2⟩
      unfold b_L_law_910
      simp only [g1, g2, g3, g4, g5, g6, A1, A2, A3, A4, A5, A6, gd_true]
      rw [e1, bd_some, if_neg hb]
      unfold b_L_law_927
      rw [e2, bd_some, if_pos rfl, law_next]
  rw [if_neg h20]
  by_cases h21 : op = 21
  · rw [if_pos h21]
    obtain ⟨r, σ1, σ2, s', e1, e2, G2⟩ := glue (op_cost ok a1 a2) (fun σ o w h e => ⟨_, fr_X9_cost σ 0 _ _ o w h (by first | exact ⟨rfl, rfl⟩ | exact rfl) e⟩) (fun σ o w h e => ⟨_, fr_X10_cost σ 139 _ _ o w h (by first | exact ⟨rfl, rfl⟩ | exact rfl) e⟩) G
    have e1 : f_X9_cost σ 0 a1 a2 = some (r, σ1) := e1
    have e2 : f_X10_cost σ1 139 a1 a2 = some (r, σ2) := e2
    refine ⟨σ2, s', ?_, G2⟩
    simp only [g1, g2, g3, g4, g5, g6, A1, A2, A3, A4, A5, A6, gd_true]
    rw [e1, bd_some, e2, bd_some, if_pos rfl, law_next]
  rw [if_neg h21]
  by_cases h22 : op = 22
  · rw [if_pos h22]
    obtain ⟨r, σ1, σ2, s', e1, e2, G2⟩ := glue (op_guards ok a1 a2) (fun σ o w h e => ⟨_, fr_X9_guards σ 0 _ _ o w h (by first | exact ⟨rfl, rfl⟩ | exact rfl) e⟩) (fun σ o w h e => ⟨_, fr_X10_guards σ 139 _ _ o w h (by first | exact ⟨rfl, rfl⟩ | exact rfl) e⟩) G
    have e1 : f_X9_guards σ 0 a1 a2 = some (r, σ1) := e1
    have e2 : f_X10_guards σ1 139 a1 a2 = some (r, σ2) := e2
    refine ⟨σ2, s', ?_, G2⟩
    simp only [g1, g2, g3, g4, g5, g6, A1, A2, A3, A4, A5, A6, gd_true]
    rw [e1, bd_some, e2, bd_some, if_pos rfl, law_next]
  rw [if_neg h22]
  by_cases h23 : op = 23
  · rw [if_pos h23]
    simp only [g1, g2, g3, g4, g5, g6, A1, A2, A3, A4, A5, A6, gd_true]
    by_cases hb : a5 = 0
    · rw [if_pos hb]
      obtain ⟨r, σ1, σ2, s', e1, e2, G2⟩ := glue (op_ahead ok a1 a2 a3 a4 (g := 0) (by decide)) (fun σ o w h e => ⟨_, fr_X9_ahead σ 0 _ _ _ _ _ o w h (by first | exact ⟨rfl, rfl⟩ | exact rfl) e⟩) (fun σ o w h e => ⟨_, fr_X10_ahead σ 139 _ _ _ _ _ o w h (by first | exact ⟨rfl, rfl⟩ | exact rfl) e⟩) G
      have e1 : f_X9_ahead σ 0 a1 a2 a3 a4 0 = some (r, σ1) := e1
      have e2 : f_X10_ahead σ1 139 a1 a2 a3 a4 0 = some (r, σ2) := e2
      refine ⟨σ2, s', ?_, G2⟩
      unfold b_L_law_1036
      simp only [g1, g2, g3, g4, g5, g6, A1, A2, A3, A4, A5, A6, gd_true]
      rw [e1, bd_some, if_pos hb]
      unfold b_L_law_1073
      rw [e2, bd_some, if_pos rfl, law_next]
    · rw [if_neg hb]
      obtain ⟨r, σ1, σ2, s', e1, e2, G2⟩ := glue (op_ahead ok a1 a2 a3 a4 (g := 1) (by decide)) (fun σ o w h e => ⟨_, fr_X9_ahead σ 0 _ _ _ _ _ o w h (by first | exact ⟨rfl, rfl⟩ | exact rfl) e⟩) (fun σ o w h e => ⟨_, fr_X10_ahead σ 139 _ _ _ _ _ o w h (by first | exact ⟨rfl, rfl⟩ | exact rfl) e⟩) G
      have e1 : f_X9_ahead σ 0 a1 a2 a3 a4 1 = some (r, σ1) := e1
      have e2 : f_X10_ahead σ1 139 a1 a2 a3 a4 1 = some (r, σ2) := e2
      refine ⟨σ2, s', ?_, G2⟩
      unfold b_L_law_1036
      simp only [g1, g2, g3, g4, g5, g6, A1, A2, A3, A4, A5, A6, gd_true]
      rw [e1, bd_some, if_neg hb]
      unfold b_L_law_1073
      rw [e2, bd_some, if_pos rfl, law_next]
  rw [if_neg h23]
  by_cases h24 : op = 24
  · rw [if_pos h24]
    simp only [g1, g2, g3, g4, g5, g6, A1, A2, A3, A4, A5, A6, gd_true]
    by_cases hb : a5 = 0
    · rw [if_pos hb]
      obtain ⟨r, σ1, σ2, s', e1, e2, G2⟩ := glue (op_least ok a1 a2 a3 a4 (g := 0) (by decide)) (fun σ o w h e => ⟨_, fr_X9_least σ 0 _ _ _ _ _ o w h (by first | exact ⟨rfl, rfl⟩ | exact rfl) e⟩) (fun σ o w h e => ⟨_, fr_X10_least σ 139 _ _ _ _ _ o w h (by first | exact ⟨rfl, rfl⟩ | exact rfl) e⟩) G
      have e1 : f_X9_least σ 0 a1 a2 a3 a4 0 = some (r, σ1) := e1
      have e2 : f_X10_least σ1 139 a1 a2 a3 a4 0 = some (r, σ2) := e2
      refine ⟨σ2, s', ?_, G2⟩
      unfold b_L_law_1116
      simp only [g1, g2, g3, g4, g5, g6, A1, A2, A3, A4, A5, A6, gd_true]
      rw [e1, bd_some, if_pos hb]
      unfold b_L_law_1153
      rw [e2, bd_some, if_pos rfl, law_next]
    · rw [if_neg hb]
      obtain ⟨r, σ1, σ2, s', e1, e2, G2⟩ := glue (op_least ok a1 a2 a3 a4 (g := 1) (by decide)) (fun σ o w h e => ⟨_, fr_X9_least σ 0 _ _ _ _ _ o w h (by first | exact ⟨rfl, rfl⟩ | exact rfl) e⟩) (fun σ o w h e => ⟨_, fr_X10_least σ 139 _ _ _ _ _ o w h (by first | exact ⟨rfl, rfl⟩ | exact rfl) e⟩) G
      have e1 : f_X9_least σ 0 a1 a2 a3 a4 1 = some (r, σ1) := e1
      have e2 : f_X10_least σ1 139 a1 a2 a3 a4 1 = some (r, σ2) := e2
      refine ⟨σ2, s', ?_, G2⟩
      unfold b_L_law_1116
      simp only [g1, g2, g3, g4, g5, g6, A1, A2, A3, A4, A5, A6, gd_true]
      rw [e1, bd_some, if_neg hb]
      unfold b_L_law_1153
      rw [e2, bd_some, if_pos rfl, law_next]
  rw [if_neg h24]
  by_cases h25 : op = 25
  · rw [if_pos h25]
    simp only [g1, g2, g3, g4, g5, g6, A1, A2, A3, A4, A5, A6, gd_true]
    by_cases hb : a5 = 0
    · rw [if_pos hb]
      obtain ⟨r, σ1, σ2, s', e1, e2, G2⟩ := glue (op_tells ok a1 a2 a3 a4 (g := 0) (by decide)) (fun σ o w h e => ⟨_, fr_X9_tells σ 0 _ _ _ _ _ o w h (by first | exact ⟨rfl, rfl⟩ | exact rfl) e⟩) (fun σ o w h e => ⟨_, fr_X10_tells σ 139 _ _ _ _ _ o w h (by first | exact ⟨rfl, rfl⟩ | exact rfl) e⟩) G
      have e1 : f_X9_tells σ 0 a1 a2 a3 a4 0 = some (r, σ1) := e1
      have e2 : f_X10_tells σ1 139 a1 a2 a3 a4 0 = some (r, σ2) := e2
      refine ⟨σ2, s', ?_, G2⟩
      unfold b_L_law_1195
      simp only [g1, g2, g3, g4, g5, g6, A1, A2, A3, A4, A5, A6, gd_true]
      rw [e1, bd_some, if_pos hb]
      unfold b_L_law_1232
      rw [e2, bd_some, if_pos rfl, law_next]
    · rw [if_neg hb]
      obtain ⟨r, σ1, σ2, s', e1, e2, G2⟩ := glue (op_tells ok a1 a2 a3 a4 (g := 1) (by decide)) (fun σ o w h e => ⟨_, fr_X9_tells σ 0 _ _ _ _ _ o w h (by first | exact ⟨rfl, rfl⟩ | exact rfl) e⟩) (fun σ o w h e => ⟨_, fr_X10_tells σ 139 _ _ _ _ _ o w h (by first | exact ⟨rfl, rfl⟩ | exact rfl) e⟩) G
      have e1 : f_X9_tells σ 0 a1 a2 a3 a4 1 = some (r, σ1) := e1
      have e2 : f_X10_tells σ1 139 a1 a2 a3 a4 1 = some (r, σ2) := e2
      refine ⟨σ2, s', ?_, G2⟩
      unfold b_L_law_1195
      simp only [g1, g2, g3, g4, g5, g6, A1, A2, A3, A4, A5, A6, gd_true]
      rw [e1, bd_some, if_neg hb]
      unfold b_L_law_1232
      rw [e2, bd_some, if_pos rfl, law_next]
  rw [if_neg h25]
  by_cases h26 : op = 26
  · rw [if_pos h26]
    simp only [g1, g2, g3, g4, g5, g6, A1, A2, A3, A4, A5, A6, gd_true]
    by_cases hb : a5 = 0
    · rw [if_pos hb]
      obtain ⟨r, σ1, σ2, s', e1, e2, G2⟩ := glue (op_gain ok a1 a2 a3 a4 (g := 0) (by decide) a6) (fun σ o w h e => ⟨_, fr_X9_gain σ 0 _ _ _ _ _ _ o w h (by first | exact ⟨rfl, rfl⟩ | exact rfl) e⟩) (fun σ o w h e => ⟨_, fr_X10_gain σ 139 _ _ _ _ _ _ o w h (by first | exact ⟨rfl, rfl⟩ | exact rfl) e⟩) G
      have e1 : f_X9_gain σ 0 a1 a2 a3 a4 0 a6 = some (r, σ1) := e1
      have e2 : f_X10_gain σ1 139 a1 a2 a3 a4 0 a6 = some (r, σ2) := e2
      refine ⟨σ2, s', ?_, G2⟩
      unfold b_L_law_1274
      simp only [g1, g2, g3, g4, g5, g6, A1, A2, A3, A4, A5, A6, gd_true]
      rw [e1, bd_some, if_pos hb]
      unfold b_L_law_1317
      simp only [g1, g2, g3, g4, g5, g6, A1, A2, A3, A4, A5, A6, gd_true]
      rw [e2, bd_some, if_pos rfl, law_next]
    · rw [if_neg hb]
      obtain ⟨r, σ1, σ2, s', e1, e2, G2⟩ := glue (op_gain ok a1 a2 a3 a4 (g := 1) (by decide) a6) (fun σ o w h e => ⟨_, fr_X9_gain σ 0 _ _ _ _ _ _ o w h (by first | exact ⟨rfl, rfl⟩ | exact rfl) e⟩) (fun σ o w h e => ⟨_, fr_X10_gain σ 139 _ _ _ _ _ _ o w h (by first | exact ⟨rfl, rfl⟩ | exact rfl) e⟩) G
      have e1 : f_X9_gain σ 0 a1 a2 a3 a4 1 a6 = some (r, σ1) := e1
      have e2 : f_X10_gain σ1 139 a1 a2 a3 a4 1 a6 = some (r, σ2) := e2
      refine ⟨σ2, s', ?_, G2⟩
      unfold b_L_law_1274
      simp only [g1, g2, g3, g4, g5, g6, A1, A2, A3, A4, A5, A6, gd_true]
      rw [e1, bd_some, if_neg hb]
      unfold b_L_law_1317
      simp only [g1, g2, g3, g4, g5, g6, A1, A2, A3, A4, A5, A6, gd_true]
      rw [e2, bd_some, if_pos rfl, law_next]
  rw [if_neg h26]
  by_cases h27 : op = 27
  · rw [if_pos h27]
    obtain ⟨r, σ1, σ2, s', e1, e2, G2⟩ := glue (op_patience ok a1 a2) (fun σ o w h e => ⟨_, fr_X9_patience σ 0 _ _ o w h (by first | exact ⟨rfl, rfl⟩ | exact rfl) e⟩) (fun σ o w h e => ⟨_, fr_X10_patience σ 139 _ _ o w h (by first | exact ⟨rfl, rfl⟩ | exact rfl) e⟩) G
    have e1 : f_X9_patience σ 0 a1 a2 = some (r, σ1) := e1
    have e2 : f_X10_patience σ1 139 a1 a2 = some (r, σ2) := e2
    refine ⟨σ2, s', ?_, G2⟩
    simp only [g1, g2, g3, g4, g5, g6, A1, A2, A3, A4, A5, A6, gd_true]
    rw [e1, bd_some, e2, bd_some, if_pos rfl, law_next]
  rw [if_neg h27]
  by_cases h28 : op = 28
  · rw [if_pos h28]
    obtain ⟨r, σ1, σ2, s', e1, e2, G2⟩ := glue (op_worst ok a1 a2) (fun σ o w h e => ⟨_, fr_X9_worst σ 0 _ _ o w h (by first | exact ⟨rfl, rfl⟩ | exact rfl) e⟩) (fun σ o w h e => ⟨_, fr_X10_worst σ 139 _ _ o w h (by first | exact ⟨rfl, rfl⟩ | exact rfl) e⟩) G
    have e1 : f_X9_worst σ 0 a1 a2 = some (r, σ1) := e1
    have e2 : f_X10_worst σ1 139 a1 a2 = some (r, σ2) := e2
    refine ⟨σ2, s', ?_, G2⟩
    simp only [g1, g2, g3, g4, g5, g6, A1, A2, A3, A4, A5, A6, gd_true]
    rw [e1, bd_some, e2, bd_some, if_pos rfl, law_next]
  rw [if_neg h28]
  by_cases h29 : op = 29
  · rw [if_pos h29]
    obtain ⟨r, σ1, σ2, s', e1, e2, G2⟩ := glue (op_bare ok a1 a2) (fun σ o w h e => ⟨_, fr_X9_bare σ 0 _ _ o w h (by first | exact ⟨rfl, rfl⟩ | exact rfl) e⟩) (fun σ o w h e => ⟨_, fr_X10_bare σ 139 _ _ o w h (by first | exact ⟨rfl, rfl⟩ | exact rfl) e⟩) G
    have e1 : f_X9_bare σ 0 a1 a2 = some (r, σ1) := e1
    have e2 : f_X10_bare σ1 139 a1 a2 = some (r, σ2) := e2
    refine ⟨σ2, s', ?_, G2⟩
    simp only [g1, g2, g3, g4, g5, g6, A1, A2, A3, A4, A5, A6, gd_true]
    rw [e1, bd_some, e2, bd_some, if_pos rfl, law_next]
  rw [if_neg h29]
  by_cases h30 : op = 30
  · rw [if_pos h30]
    obtain ⟨r, σ1, σ2, s', e1, e2, G2⟩ := glue (op_by ok a1 a2 a3 a4) (fun σ o w h e => ⟨_, fr_X9_by σ 0 _ _ _ _ o w h (by first | exact ⟨rfl, rfl⟩ | exact rfl) e⟩) (fun σ o w h e => ⟨_, fr_X10_by σ 139 _ _ _ _ o w h (by first | exact ⟨rfl, rfl⟩ | exact rfl) e⟩) G
    have e1 : f_X9_by σ 0 a1 a2 a3 a4 = some (r, σ1) := e1
    have e2 : f_X10_by σ1 139 a1 a2 a3 a4 = some (r, σ2) := e2
    refine ⟨σ2, s', ?_, G2⟩
    simp only [g1, g2, g3, g4, g5, g6, A1, A2, A3, A4, A5, A6, gd_true]
    rw [e1, bd_some, e2, bd_some, if_pos rfl, law_next]
  rw [if_neg h30]
  by_cases h31 : op = 31
  · rw [if_pos h31]
    obtain ⟨r, σ1, σ2, s', e1, e2, G2⟩ := glue (op_bestLimit ok a1 a2) (fun σ o w h e => ⟨_, fr_X9_bestLimit σ 0 _ _ o w h (by first | exact ⟨rfl, rfl⟩ | exact rfl) e⟩) (fun σ o w h e => ⟨_, fr_X10_bestLimit σ 139 _ _ o w h (by first | exact ⟨rfl, rfl⟩ | exact rfl) e⟩) G
    have e1 : f_X9_bestLimit σ 0 a1 a2 = some (r, σ1) := e1
    have e2 : f_X10_bestLimit σ1 139 a1 a2 = some (r, σ2) := e2
    refine ⟨σ2, s', ?_, G2⟩
    simp only [g1, g2, g3, g4, g5, g6, A1, A2, A3, A4, A5, A6, gd_true]
    rw [e1, bd_some, e2, bd_some, if_pos rfl, law_next]
  rw [if_neg h31]
  by_cases h32 : op = 32
  · rw [if_pos h32]
    obtain ⟨r, σ1, σ2, s', e1, e2, G2⟩ := glue (op_worth ok a1 a2 a3) (fun σ o w h e => ⟨_, fr_X9_worth σ 0 _ _ _ o w h (by first | exact ⟨rfl, rfl⟩ | exact rfl) e⟩) (fun σ o w h e => ⟨_, fr_X10_worth σ 139 _ _ _ o w h (by first | exact ⟨rfl, rfl⟩ | exact rfl) e⟩) G
    have e1 : f_X9_worth σ 0 a1 a2 a3 = some (r, σ1) := e1
    have e2 : f_X10_worth σ1 139 a1 a2 a3 = some (r, σ2) := e2
    refine ⟨σ2, s', ?_, G2⟩
    simp only [g1, g2, g3, g4, g5, g6, A1, A2, A3, A4, A5, A6, gd_true]
    rw [e1, bd_some, e2, bd_some, if_pos rfl, law_next]
  rw [if_neg h32]
  by_cases h33 : op = 33
  · rw [if_pos h33]
    obtain ⟨r, σ1, σ2, s', e1, e2, G2⟩ := glue (op_cheapest ok a1) (fun σ o w h e => ⟨_, fr_X9_cheapest σ 0 _ o w h (by first | exact ⟨rfl, rfl⟩ | exact rfl) e⟩) (fun σ o w h e => ⟨_, fr_X10_cheapest σ 139 _ o w h (by first | exact ⟨rfl, rfl⟩ | exact rfl) e⟩) G
    have e1 : f_X9_cheapest σ 0 a1 = some (r, σ1) := e1
    have e2 : f_X10_cheapest σ1 139 a1 = some (r, σ2) := e2
    refine ⟨σ2, s', ?_, G2⟩
    simp only [g1, g2, g3, g4, g5, g6, A1, A2, A3, A4, A5, A6, gd_true]
    rw [e1, bd_some, e2, bd_some, if_pos rfl, law_next]
  rw [if_neg h33]
  by_cases h34 : op = 34
  · rw [if_pos h34]
    obtain ⟨r, σ1, σ2, s', e1, e2, G2⟩ := glue (op_reach ok a1) (fun σ o w h e => ⟨_, fr_X9_reach σ 0 _ o w h (by first | exact ⟨rfl, rfl⟩ | exact rfl) e⟩) (fun σ o w h e => ⟨_, fr_X10_reach σ 139 _ o w h (by first | exact ⟨rfl, rfl⟩ | exact rfl) e⟩) G
    have e1 : f_X9_reach σ 0 a1 = some (r, σ1) := e1
    have e2 : f_X10_reach σ1 139 a1 = some (r, σ2) := e2
    refine ⟨σ2, s', ?_, G2⟩
    simp only [g1, g2, g3, g4, g5, g6, A1, A2, A3, A4, A5, A6, gd_true]
    rw [e1, bd_some, e2, bd_some, if_pos rfl, law_next]
  rw [if_neg h34]
  by_cases h35 : op = 35
  · rw [if_pos h35]
    obtain ⟨r, σ1, σ2, s', e1, e2, G2⟩ := glue (op_years ok a1 a2) (fun σ o w h e => ⟨_, fr_X9_years σ 0 _ _ o w h (by first | exact ⟨rfl, rfl⟩ | exact rfl) e⟩) (fun σ o w h e => ⟨_, fr_X10_years σ 139 _ _ o w h (by first | exact ⟨rfl, rfl⟩ | exact rfl) e⟩) G
    have e1 : f_X9_years σ 0 a1 a2 = some (r, σ1) := e1
    have e2 : f_X10_years σ1 139 a1 a2 = some (r, σ2) := e2
    refine ⟨σ2, s', ?_, G2⟩
    simp only [g1, g2, g3, g4, g5, g6, A1, A2, A3, A4, A5, A6, gd_true]
    rw [e1, bd_some, e2, bd_some, if_pos rfl, law_next]
  rw [if_neg h35]
  by_cases h36 : op = 36
  · rw [if_pos h36]
    obtain ⟨r, σ1, σ2, s', e1, e2, G2⟩ := glue (op_ways ok a1) (fun σ o w h e => ⟨_, fr_X9_ways σ 0 _ o w h (by first | exact ⟨rfl, rfl⟩ | exact rfl) e⟩) (fun σ o w h e => ⟨_, fr_X10_ways σ 139 _ o w h (by first | exact ⟨rfl, rfl⟩ | exact rfl) e⟩) G
    have e1 : f_X9_ways σ 0 a1 = some (r, σ1) := e1
    have e2 : f_X10_ways σ1 139 a1 = some (r, σ2) := e2
    refine ⟨σ2, s', ?_, G2⟩
    simp only [g1, g2, g3, g4, g5, g6, A1, A2, A3, A4, A5, A6, gd_true]
    rw [e1, bd_some, e2, bd_some, if_pos rfl, law_next]
  rw [if_neg h36]
  by_cases h37 : op = 37
  · rw [if_pos h37]
    obtain ⟨r, σ1, σ2, s', e1, e2, G2⟩ := glue (op_moves ok a1 a2) (fun σ o w h e => ⟨_, fr_X9_moves σ 0 _ _ o w h (by first | exact ⟨rfl, rfl⟩ | exact rfl) e⟩) (fun σ o w h e => ⟨_, fr_X10_moves σ 139 _ _ o w h (by first | exact ⟨rfl, rfl⟩ | exact rfl) e⟩) G
    have e1 : f_X9_moves σ 0 a1 a2 = some (r, σ1) := e1
    have e2 : f_X10_moves σ1 139 a1 a2 = some (r, σ2) := e2
    refine ⟨σ2, s', ?_, G2⟩
    simp only [g1, g2, g3, g4, g5, g6, A1, A2, A3, A4, A5, A6, gd_true]
    rw [e1, bd_some, e2, bd_some, if_pos rfl, law_next]
  rw [if_neg h37]
  by_cases h38 : op = 38
  · rw [if_pos h38]
    obtain ⟨r, σ1, σ2, s', e1, e2, G2⟩ := glue (op_spread ok a1 a2 a3) (fun σ o w h e => ⟨_, fr_X9_spread σ 0 _ _ _ o w h (by first | exact ⟨rfl, rfl⟩ | exact rfl) e⟩) (fun σ o w h e => ⟨_, fr_X10_spread σ 139 _ _ _ o w h (by first | exact ⟨rfl, rfl⟩ | exact rfl) e⟩) G
    have e1 : f_X9_spread σ 0 a1 a2 a3 = some (r, σ1) := e1
    have e2 : f_X10_spread σ1 139 a1 a2 a3 = some (r, σ2) := e2
    refine ⟨σ2, s', ?_, G2⟩
    simp only [g1, g2, g3, g4, g5, g6, A1, A2, A3, A4, A5, A6, gd_true]
    rw [e1, bd_some, e2, bd_some, if_pos rfl, law_next]
  rw [if_neg h38]
  by_cases h39 : op = 39
  · rw [if_pos h39]
    obtain ⟨r, σ1, σ2, s', e1, e2, G2⟩ := glue (op_shared ok a1 a2 a3) (fun σ o w h e => ⟨_, fr_X9_shared σ 0 _ _ _ o w h (by first | exact ⟨rfl, rfl⟩ | exact rfl) e⟩) (fun σ o w h e => ⟨_, fr_X10_shared σ 139 _ _ _ o w h (by first | exact ⟨rfl, rfl⟩ | exact rfl) e⟩) G
    have e1 : f_X9_shared σ 0 a1 a2 a3 = some (r, σ1) := e1
    have e2 : f_X10_shared σ1 139 a1 a2 a3 = some (r, σ2) := e2
    refine ⟨σ2, s', ?_, G2⟩
    simp only [g1, g2, g3, g4, g5, g6, A1, A2, A3, A4, A5, A6, gd_true]
    rw [e1, bd_some, e2, bd_some, if_pos rfl, law_next]
  rw [if_neg h39]
  by_cases h40 : op = 40
  · rw [if_pos h40]
    obtain ⟨r, σ1, σ2, s', e1, e2, G2⟩ := glue (op_joined ok a1 a2 a3 a4) (fun σ o w h e => ⟨_, fr_X9_joined σ 0 _ _ _ _ o w h (by first | exact ⟨rfl, rfl⟩ | exact rfl) e⟩) (fun σ o w h e => ⟨_, fr_X10_joined σ 139 _ _ _ _ o w h (by first | exact ⟨rfl, rfl⟩ | exact rfl) e⟩) G
    have e1 : f_X9_joined σ 0 a1 a2 a3 a4 = some (r, σ1) := e1
    have e2 : f_X10_joined σ1 139 a1 a2 a3 a4 = some (r, σ2) := e2
    refine ⟨σ2, s', ?_, G2⟩
    simp only [g1, g2, g3, g4, g5, g6, A1, A2, A3, A4, A5, A6, gd_true]
    rw [e1, bd_some, e2, bd_some, if_pos rfl, law_next]
  rw [if_neg h40]
  by_cases h41 : op = 41
  · rw [if_pos h41]
    obtain ⟨r, σ1, σ2, s', e1, e2, G2⟩ := glue (op_rebate ok a1 a2 a3) (fun σ o w h e => ⟨_, fr_X9_rebate σ 0 _ _ _ o w h (by first | exact ⟨rfl, rfl⟩ | exact rfl) e⟩) (fun σ o w h e => ⟨_, fr_X10_rebate σ 139 _ _ _ o w h (by first | exact ⟨rfl, rfl⟩ | exact rfl) e⟩) G
    have e1 : f_X9_rebate σ 0 a1 a2 a3 = some (r, σ1) := e1
    have e2 : f_X10_rebate σ1 139 a1 a2 a3 = some (r, σ2) := e2
    refine ⟨σ2, s', ?_, G2⟩
    simp only [g1, g2, g3, g4, g5, g6, A1, A2, A3, A4, A5, A6, gd_true]
    rw [e1, bd_some, e2, bd_some, if_pos rfl, law_next]
  rw [if_neg h41]
  by_cases h42 : op = 42
  · rw [if_pos h42]
    obtain ⟨r, σ1, σ2, s', e1, e2, G2⟩ := glue (op_advice ok a1 a2) (fun σ o w h e => ⟨_, fr_X9_advice σ 0 _ _ o w h (by first | exact ⟨rfl, rfl⟩ | exact rfl) e⟩) (fun σ o w h e => ⟨_, fr_X10_advice σ 139 _ _ o w h (by first | exact ⟨rfl, rfl⟩ | exact rfl) e⟩) G
    have e1 : f_X9_advice σ 0 a1 a2 = some (r, σ1) := e1
    have e2 : f_X10_advice σ1 139 a1 a2 = some (r, σ2) := e2
    refine ⟨σ2, s', ?_, G2⟩
    simp only [g1, g2, g3, g4, g5, g6, A1, A2, A3, A4, A5, A6, gd_true]
    rw [e1, bd_some, e2, bd_some, if_pos rfl, law_next]
  rw [if_neg h42]
  by_cases h43 : op = 43
  · rw [if_pos h43]
    obtain ⟨r, σ1, σ2, s', e1, e2, G2⟩ := glue (op_rest ok a1) (fun σ o w h e => ⟨_, fr_X9_rest σ 0 _ o w h (by first | exact ⟨rfl, rfl⟩ | exact rfl) e⟩) (fun σ o w h e => ⟨_, fr_X10_rest σ 139 _ o w h (by first | exact ⟨rfl, rfl⟩ | exact rfl) e⟩) G
    have e1 : f_X9_rest σ 0 a1 = some (r, σ1) := e1
    have e2 : f_X10_rest σ1 139 a1 = some (r, σ2) := e2
    refine ⟨σ2, s', ?_, G2⟩
    simp only [g1, g2, g3, g4, g5, g6, A1, A2, A3, A4, A5, A6, gd_true]
    rw [e1, bd_some, e2, bd_some, if_pos rfl, law_next]
  rw [if_neg h43]
  by_cases h44 : op = 44
  · rw [if_pos h44]
    obtain ⟨r, σ1, σ2, s', e1, e2, G2⟩ := glue (op_were ok a1 a2 a3 a4) (fun σ o w h e => ⟨_, fr_X9_were σ 0 _ _ _ _ o w h (by first | exact ⟨rfl, rfl⟩ | exact rfl) e⟩) (fun σ o w h e => ⟨_, fr_X10_were σ 139 _ _ _ _ o w h (by first | exact ⟨rfl, rfl⟩ | exact rfl) e⟩) G
    have e1 : f_X9_were σ 0 a1 a2 a3 a4 = some (r, σ1) := e1
    have e2 : f_X10_were σ1 139 a1 a2 a3 a4 = some (r, σ2) := e2
    refine ⟨σ2, s', ?_, G2⟩
    simp only [g1, g2, g3, g4, g5, g6, A1, A2, A3, A4, A5, A6, gd_true]
    rw [e1, bd_some, e2, bd_some, if_pos rfl, law_next]
  rw [if_neg h44]
  by_cases h45 : op = 45
  · rw [if_pos h45]
    obtain ⟨r, σ1, σ2, s', e1, e2, G2⟩ := glue (op_lacking ok a1 a2 a3) (fun σ o w h e => ⟨_, fr_X9_lacking σ 0 _ _ _ o w h (by first | exact ⟨rfl, rfl⟩ | exact rfl) e⟩) (fun σ o w h e => ⟨_, fr_X10_lacking σ 139 _ _ _ o w h (by first | exact ⟨rfl, rfl⟩ | exact rfl) e⟩) G
    have e1 : f_X9_lacking σ 0 a1 a2 a3 = some (r, σ1) := e1
    have e2 : f_X10_lacking σ1 139 a1 a2 a3 = some (r, σ2) := e2
    refine ⟨σ2, s', ?_, G2⟩
    simp only [g1, g2, g3, g4, g5, g6, A1, A2, A3, A4, A5, A6, gd_true]
    rw [e1, bd_some, e2, bd_some, if_pos rfl, law_next]
  rw [if_neg h45]
  by_cases h46 : op = 46
  · rw [if_pos h46]
    obtain ⟨r, σ1, σ2, s', e1, e2, G2⟩ := glue (op_oddsFor ok (((Int32.toInt64 a1) <<< ((Int32.toInt64 32) &&& 63)) ||| ((Int32.toInt64 a2) &&& 4294967295)) a3 a4) (fun σ o w h e => ⟨_, fr_X9_oddsFor σ 0 _ _ _ o w h (by first | exact ⟨rfl, rfl⟩ | exact rfl) e⟩) (fun σ o w h e => ⟨_, fr_X10_oddsFor σ 139 _ _ _ o w h (by first | exact ⟨rfl, rfl⟩ | exact rfl) e⟩) G
    have e1 : f_X9_oddsFor σ 0 (((Int32.toInt64 a1) <<< ((Int32.toInt64 32) &&& 63)) ||| ((Int32.toInt64 a2) &&& 4294967295)) a3 a4 = some (r, σ1) := e1
    have e2 : f_X10_oddsFor σ1 139 (((Int32.toInt64 a1) <<< ((Int32.toInt64 32) &&& 63)) ||| ((Int32.toInt64 a2) &&& 4294967295)) a3 a4 = some (r, σ2) := e2
    refine ⟨σ2, s', ?_, G2⟩
    simp only [g1, g2, g3, g4, g5, g6, A1, A2, A3, A4, A5, A6, gd_true]
    rw [e1, bd_some, e2, bd_some, if_pos rfl, law_next]
  rw [if_neg h46]
  by_cases h47 : op = 47
  · rw [if_pos h47]
    obtain ⟨r, σ1, σ2, s', e1, e2, G2⟩ := glue (op_bestOwn ok a1 a2 a3) (fun σ o w h e => ⟨_, fr_X9_bestOwn σ 0 _ _ _ o w h (by first | exact ⟨rfl, rfl⟩ | exact rfl) e⟩) (fun σ o w h e => ⟨_, fr_X10_bestOwn σ 139 _ _ _ o w h (by first | exact ⟨rfl, rfl⟩ | exact rfl) e⟩) G
    have e1 : f_X9_bestOwn σ 0 a1 a2 a3 = some (r, σ1) := e1
    have e2 : f_X10_bestOwn σ1 139 a1 a2 a3 = some (r, σ2) := e2
    refine ⟨σ2, s', ?_, G2⟩
    simp only [g1, g2, g3, g4, g5, g6, A1, A2, A3, A4, A5, A6, gd_true]
    rw [e1, bd_some, e2, bd_some, if_pos rfl, law_next]
  rw [if_neg h47]
  by_cases h48 : op = 48
  · rw [if_pos h48]
    obtain ⟨r, σ1, σ2, s', e1, e2, G2⟩ := glue (op_would ok hn a1 a2 a3 a4 a5) (fun σ o w h e => ⟨_, fr_X9_would σ 0 _ _ _ _ _ o w h (by first | exact ⟨rfl, rfl⟩ | exact rfl) e⟩) (fun σ o w h e => ⟨_, fr_X10_would σ 139 _ _ _ _ _ o w h (by first | exact ⟨rfl, rfl⟩ | exact rfl) e⟩) G
    have e1 : f_X9_would σ 0 a1 a2 a3 a4 a5 = some (r, σ1) := e1
    have e2 : f_X10_would σ1 139 a1 a2 a3 a4 a5 = some (r, σ2) := e2
    refine ⟨σ2, s', ?_, G2⟩
    simp only [g1, g2, g3, g4, g5, g6, A1, A2, A3, A4, A5, A6, gd_true]
    rw [e1, bd_some, e2, bd_some, if_pos rfl, law_next]
  rw [if_neg h48]
  by_cases h49 : op = 49
  · rw [if_pos h49]
    obtain ⟨r, σ1, σ2, s', e1, e2, G2⟩ := glue (op_bestRule ok hn a1 a2) (fun σ o w h e => ⟨_, fr_X9_bestRule σ 0 _ _ o w h (by first | exact ⟨rfl, rfl⟩ | exact rfl) e⟩) (fun σ o w h e => ⟨_, fr_X10_bestRule σ 139 _ _ o w h (by first | exact ⟨rfl, rfl⟩ | exact rfl) e⟩) G
    have e1 : f_X9_bestRule σ 0 a1 a2 = some (r, σ1) := e1
    have e2 : f_X10_bestRule σ1 139 a1 a2 = some (r, σ2) := e2
    refine ⟨σ2, s', ?_, G2⟩
    simp only [g1, g2, g3, g4, g5, g6, A1, A2, A3, A4, A5, A6, gd_true]
    rw [e1, bd_some, e2, bd_some, if_pos rfl, law_next]
  rw [if_neg h49]
  by_cases h50 : op = 50
  · rw [if_pos h50]
    obtain ⟨r, σ1, σ2, s', e1, e2, G2⟩ := glue (op_dearest ok a1 a2) (fun σ o w h e => ⟨_, fr_X9_dearest σ 0 _ _ o w h (by first | exact ⟨rfl, rfl⟩ | exact rfl) e⟩) (fun σ o w h e => ⟨_, fr_X10_dearest σ 139 _ _ o w h (by first | exact ⟨rfl, rfl⟩ | exact rfl) e⟩) G
    have e1 : f_X9_dearest σ 0 a1 a2 = some (r, σ1) := e1
    have e2 : f_X10_dearest σ1 139 a1 a2 = some (r, σ2) := e2
    refine ⟨σ2, s', ?_, G2⟩
    simp only [g1, g2, g3, g4, g5, g6, A1, A2, A3, A4, A5, A6, gd_true]
    rw [e1, bd_some, e2, bd_some, if_pos rfl, law_next]
  rw [if_neg h50]
  by_cases h51 : op = 51
  · rw [if_pos h51]
    obtain ⟨r, σ1, σ2, s', e1, e2, G2⟩ := glue (op_spell ok a1) (fun σ o w h e => ⟨_, fr_X9_spell σ 0 _ o w h (by first | exact ⟨rfl, rfl⟩ | exact rfl) e⟩) (fun σ o w h e => ⟨_, fr_X10_spell σ 139 _ o w h (by first | exact ⟨rfl, rfl⟩ | exact rfl) e⟩) G
    have e1 : f_X9_spell σ 0 a1 = some (r, σ1) := e1
    have e2 : f_X10_spell σ1 139 a1 = some (r, σ2) := e2
    refine ⟨σ2, s', ?_, G2⟩
    simp only [g1, g2, g3, g4, g5, g6, A1, A2, A3, A4, A5, A6, gd_true]
    rw [e1, bd_some, e2, bd_some, if_pos rfl, law_next]
  rw [if_neg h51]
  by_cases h52 : op = 52
  · rw [if_pos h52]
    obtain ⟨r, σ1, σ2, s', e1, e2, G2⟩ := glue (op_report ok a1 a2) (fun σ o w h e => ⟨_, fr_X9_report σ 0 _ _ o w h (by first | exact ⟨rfl, rfl⟩ | exact rfl) e⟩) (fun σ o w h e => ⟨_, fr_X10_report σ 139 _ _ o w h (by first | exact ⟨rfl, rfl⟩ | exact rfl) e⟩) G
    have e1 : f_X9_report σ 0 a1 a2 = some (r, σ1) := e1
    have e2 : f_X10_report σ1 139 a1 a2 = some (r, σ2) := e2
    refine ⟨σ2, s', ?_, G2⟩
    simp only [g1, g2, g3, g4, g5, g6, A1, A2, A3, A4, A5, A6, gd_true]
    rw [e1, bd_some, e2, bd_some, if_pos rfl, law_next]
  rw [if_neg h52]
  by_cases h53 : op = 53
  · rw [if_pos h53]
    obtain ⟨r, σ1, σ2, s', e1, e2, G2⟩ := glue (op_count ok hn a1) (fun σ o w h e => ⟨_, fr_X9_count σ 0 _ o w h (by first | exact ⟨rfl, rfl⟩ | exact rfl) e⟩) (fun σ o w h e => ⟨_, fr_X10_count σ 139 _ o w h (by first | exact ⟨rfl, rfl⟩ | exact rfl) e⟩) G
    have e1 : f_X9_count σ 0 a1 = some (r, σ1) := e1
    have e2 : f_X10_count σ1 139 a1 = some (r, σ2) := e2
    refine ⟨σ2, s', ?_, G2⟩
    simp only [g1, g2, g3, g4, g5, g6, A1, A2, A3, A4, A5, A6, gd_true]
    rw [e1, bd_some, e2, bd_some, if_pos rfl, law_next]
  rw [if_neg h53]
  exact ⟨σ, s, law_next xs L k18 σ i, G.up⟩
theorem law_run (xs : Nat → Int32) (L : Nat) (hL : L ≤ 3584) : ∀ (r n m : Nat) (σ : bl_St) (s : st_V), L < 7 * n + 7 * (r + 1) → r < m → n + r ≤ 520 → GI σ s n → ∃ σ2, bl_fx (fun _ _ _ _ => none) (b_L_law_18 xs L) m σ 0 139 (nI (7 * n)) = some (1, σ2) := by
  have stop : ∀ (n m : Nat) (σ : bl_St), n ≤ 520 → L < 7 * n + 7 → bl_fx (fun _ _ _ _ => none) (b_L_law_18 xs L) (m + 1) σ 0 139 (nI (7 * n)) = some (1, σ) := by
    intro n m σ hn h
    have he : (Int32.ofNat L - 7 : Int32) < nI (7 * n) := by
      show (nI L - nI 7) < nI (7 * n)
      rw [Int32.lt_iff_toInt_lt, Int32.toInt_sub, nI_toInt (by omega), nI_toInt (by decide), nI_toInt (by omega), Int.bmod_eq_of_le (by omega) (by omega)]
      omega
    rw [fx_succ]
    unfold b_L_law_18
    rw [if_pos he]
  intro r
  induction r with
  | zero =>
    intro n m σ s h hm hn G
    obtain ⟨m, rfl⟩ : ∃ z, m = z + 1 := ⟨m - 1, by omega⟩
    exact ⟨σ, stop n m σ (by omega) (by omega)⟩
  | succ r ih =>
    intro n m σ s h hm hn G
    obtain ⟨m, rfl⟩ : ∃ z, m = z + 1 := ⟨m - 1, by omega⟩
    by_cases c : L < 7 * n + 7
    · exact ⟨σ, stop n m σ (by omega) c⟩
    · obtain ⟨σa, s', ea, Ga⟩ := law_step xs L (bl_fx (fun _ _ _ _ => none) (b_L_law_18 xs L) m) (i := 7 * n) (show n ≤ 600 by omega) hL (by omega) G
      obtain ⟨σ2, e2⟩ := ih (n + 1) m σa s' (by omega) (by omega) (by omega) Ga
      refine ⟨σ2, ?_⟩
      rw [fx_succ, ea, show 7 * n + 7 = 7 * (n + 1) by omega]
      exact e2
