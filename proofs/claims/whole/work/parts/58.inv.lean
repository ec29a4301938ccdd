/-! ===== what holds between two calls ===== -/
abbrev st_V : Type := (tm_V × lf_V) × (Nat × (Nat → tm_V × lf_V)) × (Nat × (Nat → Nat))
abbrev sv (s : st_V) : tm_V := s.1.1
abbrev sl (s : st_V) : lf_V := s.1.2
abbrev sk (s : st_V) : Nat := s.2.1.1
abbrev sp (s : st_V) : Nat → tm_V × lf_V := s.2.1.2
abbrev sn (s : st_V) : Nat := s.2.2.1
abbrev sb (s : st_V) : Nat → Nat := s.2.2.2
def SOk (s : st_V) (n : Nat) : Prop :=
  TOk (sv s) ∧ LOk (sv s) (sl s) n ∧ (sk s ≤ 12 ∧ ∀ j, j < sk s → TOk (sp s j).1 ∧ LOk (sp s j).1 (sp s j).2 n) ∧ sn s ≤ 400 ∧ ∀ i, i < sn s → sb s i < 256
/-- the class's wires, its scratch's too -/
def SW (σ : bl_St) : Prop :=
  ((bl_R σ 0 0 = 1 ∧ bl_R σ 0 1 = 8 ∧ bl_R σ 0 2 = 10 ∧ bl_R σ 0 3 = 14 ∧ bl_R σ 0 4 = 18 ∧ bl_R σ 0 5 = 21 ∧ bl_R σ 0 6 = 24) ∧ (bl_R σ 0 7 = 111 ∧ bl_R σ 0 8 = 119 ∧ bl_R σ 0 9 = 127 ∧ bl_R σ 0 10 = 136 ∧ bl_R σ 0 11 = 137 ∧ bl_R σ 0 12 = 138)) ∧
  ((bl_R σ 1 0 = 2 ∧ bl_R σ 1 1 = 3 ∧ bl_R σ 1 2 = 4) ∧ (bl_R σ 4 2 = 5 ∧ bl_R σ 4 3 = 6 ∧ bl_R σ 4 4 = 7)) ∧ bl_R σ 8 0 = 9 ∧ (bl_R σ 14 2 = 15 ∧ bl_R σ 14 3 = 16 ∧ bl_R σ 14 4 = 17) ∧ (bl_R σ 21 13 = 22 ∧ bl_R σ 21 14 = 23) ∧ OR σ 119 ∧
  ((bl_R σ 127 2 = 130 ∧ bl_R σ 127 3 = 131) ∧ (bl_R σ 131 4 = 131 + 1 ∧ bl_R σ 131 5 = 131 + 2 ∧ bl_R σ 131 6 = 131 + 3 ∧ bl_R σ 131 7 = 131 + 4) ∧ (bl_R σ 127 0 = 128 ∧ bl_R σ 127 1 = 129 ∨ bl_R σ 127 0 = 129 ∧ bl_R σ 127 1 = 128))
def TPx (σ : bl_St) (n : Nat) (b : Nat → Nat) : Prop := bl_I σ 1 3 = nI n ∧ ∀ i, i < n → bl_I σ 2 i = nI (b i)
def XI (σ : bl_St) (s : st_V) : Prop := SW σ ∧ TX σ 10 (sv s) ∧ LX σ 18 (sl s) ∧ (∃ nx, PX σ nx (sk s) (sp s)) ∧ (∃ kn, OX σ 111 10 (sv s) 0 0 false true 1 0 kn) ∧ TPx σ (sn s) (sb s)
def bl_wd : List Int32 := [99, 108, 97, 115, 115, 0, 108, 111, 115, 115, 0, 99, 104, 97, 110, 99, 101, 115, 0, 111, 100, 100, 115, 0, 111, 119, 110, 0, 103, 117, 97, 114, 100, 0, 108, 101, 97, 115, 116, 0, 110, 111, 110, 101, 0]
/-- the reference's wires -/
def MW (σ : bl_St) : Prop :=
  ((bl_R σ 139 1 = 140 ∧ bl_R σ 139 2 = 141 ∧ bl_R σ 139 3 = 142 ∧ bl_R σ 139 4 = 143) ∧ (bl_R σ 139 7 = 144 ∧ bl_R σ 139 8 = 145 ∧ bl_R σ 139 9 = 146)) ∧ (bl_R σ 139 14 = 147 ∧ bl_R σ 139 15 = 148 ∧ bl_R σ 139 16 = 149 ∧ bl_R σ 139 17 = 150) ∧ (bl_R σ 139 18 = 151 ∧ bl_R σ 139 20 = 152 ∧ bl_R σ 139 22 = 153)
def MI (σ : bl_St) (s : st_V) : Prop := (MW σ ∧ ∀ j, j < 45 → bl_I σ 153 j = bl_wd.getD j 0) ∧ TM σ 140 0 (sv s) ∧ LM σ 140 0 (sl s) ∧ (bl_I σ 139 5 = nI (sk s) ∧ PM σ (sk s) (sp s)) ∧ bl_I σ 139 21 = nI (sn s) ∧ ∀ i, i < sn s → bl_I σ 152 i = nI (sb s i)
theorem LOk.up {v : tm_V} {l : lf_V} {n : Nat} (h : LOk v l n) : LOk v l (n + 1) := ⟨h.1, h.2.1, h.2.2.1, h.2.2.2.1, ⟨by have := h.2.2.2.2.1.1; omega, by have := h.2.2.2.2.1.2; omega⟩, h.2.2.2.2.2⟩
theorem SOk.up {s : st_V} {n : Nat} (h : SOk s n) : SOk s (n + 1) := ⟨h.1, h.2.1.up, ⟨h.2.2.1.1, fun j hj => ⟨(h.2.2.1.2 j hj).1, (h.2.2.1.2 j hj).2.up⟩⟩, h.2.2.2⟩
/-- a call: both answer alike and keep what holds -/
def Both {α : Type} (n : Nat) (s : st_V) (fX fM : bl_St → Option (α × bl_St)) : Prop := ∀ σ τ, XI σ s → MI τ s → ∃ r s' σ1 τ1, fX σ = some (r, σ1) ∧ fM τ = some (r, τ1) ∧ XI σ1 s' ∧ MI τ1 s' ∧ SOk s' (n + 1)
theorem Both.same {α : Type} {n : Nat} {s : st_V} {fX fM : bl_St → Option (α × bl_St)} (ok : SOk s n) (r : α) (hX : ∀ σ, XI σ s → ∃ σ1, fX σ = some (r, σ1) ∧ XI σ1 s) (hM : ∀ τ, MI τ s → ∃ τ1, fM τ = some (r, τ1) ∧ MI τ1 s) : Both n s fX fM := by
  intro σ τ hx hm
  obtain ⟨σ1, a, b⟩ := hX σ hx
  obtain ⟨τ1, c, d⟩ := hM τ hm
  exact ⟨r, s, σ1, τ1, a, c, b, d, ok.up⟩
theorem Both.to {α : Type} {n : Nat} {s : st_V} {fX fM : bl_St → Option (α × bl_St)} (r : α) (s' : st_V) (ok : SOk s' (n + 1)) (hX : ∀ σ, XI σ s → ∃ σ1, fX σ = some (r, σ1) ∧ XI σ1 s') (hM : ∀ τ, MI τ s → ∃ τ1, fM τ = some (r, τ1) ∧ MI τ1 s') : Both n s fX fM := by
  intro σ τ hx hm
  obtain ⟨σ1, a, b⟩ := hX σ hx
  obtain ⟨τ1, c, d⟩ := hM τ hm
  exact ⟨r, s', σ1, τ1, a, c, b, d, ok⟩
section INV
variable {σ σ1 : bl_St} {s : st_V} {S : Nat → Prop}
theorem TPx.kq {n : Nat} {b : Nat → Nat} (h : TPx σ n b) (k : Kq S σ σ1) (h1 : ¬ S 1) (h2 : ¬ S 2) : TPx σ1 n b := by
  unfold TPx at *
  rw [(k 1 h1).1, (k 2 h2).1]
  exact h
theorem SW.kq (h : SW σ) (k : Kq S σ σ1) (hs : ∀ i, (i = 0 ∨ i = 1 ∨ i = 4 ∨ i = 8 ∨ i = 14 ∨ i = 21 ∨ i = 119 ∨ i = 120 ∨ i = 125 ∨ i = 127 ∨ i = 131) → ¬ S i) : SW σ1 := by
  have e0 := (k 0 (hs 0 (by decide))).2.2
  have e1 := (k 1 (hs 1 (by decide))).2.2
  have e4 := (k 4 (hs 4 (by decide))).2.2
  have e8 := (k 8 (hs 8 (by decide))).2.2
  have e14 := (k 14 (hs 14 (by decide))).2.2
  have e21 := (k 21 (hs 21 (by decide))).2.2
  have e119 := (k 119 (hs 119 (by decide))).2.2
  have e120 := (k 120 (hs 120 (by decide))).2.2
  have e125 := (k 125 (hs 125 (by decide))).2.1
  have e127 := (k 127 (hs 127 (by decide))).2.2
  have e131 := (k 131 (hs 131 (by decide))).2.2
  unfold SW OR at *
  rw [e0, e1, e4, e8, e14, e21, e119, e120, e125, e127, e131]
  exact h
/-- wires and the outlook's first row alone -/
theorem SW.ko (h : SW σ) (hR : bl_R σ1 = bl_R σ) (hJ : ∀ d, d < 8 → bl_J σ1 125 d = 0) : SW σ1 := by
  unfold SW OR at *
  rw [hR]
  exact ⟨h.1, h.2.1, h.2.2.1, h.2.2.2.1, h.2.2.2.2.1, ⟨h.2.2.2.2.2.1.1, hJ⟩, h.2.2.2.2.2.2⟩
/-- only scratch differs -/
theorem XI.scr (h : XI σ s) (k : Kq S σ σ1) (hs : ∀ i, S i → (i = 8 ∨ i = 9) ∨ (14 ≤ i ∧ i ≤ 17) ∨ (21 ≤ i ∧ i ≤ 23) ∨ (119 ≤ i ∧ i ≤ 138)) (w : SW σ1) : XI σ1 s :=
  ⟨w, h.2.1.kq k (fun i a b c => by have := hs i c; omega), h.2.2.1.kq k (fun i a b c => by have := hs i c; omega), ⟨_, h.2.2.2.1.choose_spec.kq k (fun i a b c => by have := hs i c; omega)⟩, ⟨_, h.2.2.2.2.1.choose_spec.kq k (fun i a b c => by have := hs i c; omega) (fun i a b c => by have := hs i c; omega)⟩, h.2.2.2.2.2.kq k (fun c => by have := hs _ c; omega) (fun c => by have := hs _ c; omega)⟩
/-- only the outlook on the terms differs -/
theorem XI.out (h : XI σ s) (k : Kq (fun i => 111 ≤ i ∧ i ≤ 118) σ σ1) {kn : Nat} (o : OX σ1 111 10 (sv s) 0 0 false true 1 0 kn) : XI σ1 s :=
  ⟨h.1.kq k (fun i hi => by omega), h.2.1.kq k (fun i a b c => by omega), h.2.2.1.kq k (fun i a b c => by omega), ⟨_, h.2.2.2.1.choose_spec.kq k (fun i a b c => by omega)⟩, ⟨kn, o⟩, h.2.2.2.2.2.kq k (by omega) (by omega)⟩
theorem OX.nv {o t : Nat} {v v' : tm_V} {rl lm : Nat} {w gd : Bool} {cars hu : Nat} (h : OX σ o t v rl lm w gd cars hu 0) (k : Kq S σ σ1) (h1 : ∀ i, o ≤ i → i ≤ o + 7 → ¬ S i) (T : TX σ1 t v') : OX σ1 o t v' rl lm w gd cars hu 0 := by
  obtain ⟨i0, j0, e0⟩ := k o (h1 o (by omega) (by omega))
  obtain ⟨i1, j1, e1⟩ := k (o + 1) (h1 (o + 1) (by omega) (by omega))
  obtain ⟨-, j6, -⟩ := k (o + 6) (h1 (o + 6) (by omega) (by omega))
  exact ⟨by rw [e0, e1]; exact h.1, T, by rw [i0]; exact h.2.2.1, by rw [j6]; exact h.2.2.2.1, h.2.2.2.2.1, fun z => absurd z (by decide)⟩
/-- ahead of an act -/
def pushed (s : st_V) : st_V := (s.1, (min 12 (sk s + 1), pcs (sv s, sl s) (sp s)), s.2.2)
theorem x_kfu {n : Nat} (h : XI σ s) (ok : SOk s n) : ∃ σ1, f_X9_keepForUndo σ 0 = some ((), σ1) ∧ XI σ1 (pushed s) ∧ OX σ1 111 10 (sv s) 0 0 false true 1 0 0 := by
  obtain ⟨hw, hT, hL, ⟨nx, hP⟩, ⟨kn, hO⟩, hB⟩ := h
  obtain ⟨σa, ea, ka, Pa⟩ := x_keep hP hT ok.1 hL ok.2.1 (by decide) (by decide)
  have Ta := hT.kq ka (fun i a b c => by omega)
  have wa := hw.kq ka (fun i hi => by omega)
  obtain ⟨σb, eb, kb, Ob⟩ := x_look (hO.or.kq ka (fun i a b c => by omega)) Ta true (by decide)
  refine ⟨σb, ?_, ⟨wa.kq kb (fun i hi => by omega), Ta.kq kb (fun i a b c => by omega), (hL.kq ka (fun i a b c => by omega)).kq kb (fun i a b c => by omega), ⟨_, Pa.kq kb (fun i a b c => by omega)⟩, ⟨0, Ob⟩, (hB.kq ka (by omega) (by omega)).kq kb (by omega) (by omega)⟩, Ob⟩
  unfold f_X9_keepForUndo
  rw [hw.1.1.2.2.2.2.2.2, hw.1.1.2.2.1, hw.1.1.2.2.2.2.1, ea, bd_some, wa.1.2.1, wa.1.1.2.2.1]
  rw [show (1 : Int32) = gI true from rfl, eb, bd_some]
/-- the class's terms changed by an act -/
theorem XI.newT {v' : tm_V} (h : XI σ s) (O : OX σ 111 10 (sv s) 0 0 false true 1 0 0) (k : Kq (fun i => 10 ≤ i ∧ i ≤ 13) σ σ1) (T : TX σ1 10 v') : XI σ1 ((v', sl s), s.2) :=
  ⟨h.1.kq k (fun i hi => by omega), T, h.2.2.1.kq k (fun i a b c => by omega), ⟨_, h.2.2.2.1.choose_spec.kq k (fun i a b c => by omega)⟩, ⟨0, O.nv k (fun i a b c => by omega) T⟩, h.2.2.2.2.2.kq k (by omega) (by omega)⟩
/-- the class's life changed by an act -/
theorem XI.newL {l' : lf_V} (h : XI σ s) (k : Kq (fun i => 18 ≤ i ∧ i ≤ 20) σ σ1) (L : LX σ1 18 l') : XI σ1 ((sv s, l'), s.2) :=
  ⟨h.1.kq k (fun i hi => by omega), h.2.1.kq k (fun i a b c => by omega), L, ⟨_, h.2.2.2.1.choose_spec.kq k (fun i a b c => by omega)⟩, ⟨_, h.2.2.2.2.1.choose_spec.kq k (fun i a b c => by omega) (fun i a b c => by omega)⟩, h.2.2.2.2.2.kq k (by omega) (by omega)⟩
theorem m_kfu {n : Nat} (h : MI σ s) (ok : SOk s n) : ∃ σ1, f_X10_keeps σ 139 = some ((), σ1) ∧ MI σ1 (pushed s) := by
  obtain ⟨⟨hw, hd⟩, hT, hL, ⟨h5, hP⟩, h21, hB⟩ := h
  obtain ⟨σ1, e1, R1, J1, I1, I9, I5, P1⟩ := m_keeps (n := n) hw.1.1.2.2.2 hw.1.1.1 h5 hP (fun j hj => (ok.2.2.1.2 j hj).1) hT ok.1 hL
  have e140 := I1 140 (by decide) (by decide)
  refine ⟨σ1, e1, ⟨by unfold MW; rw [R1]; exact hw, by rw [I1 153 (by decide) (by decide)]; exact hd⟩, ?_, ?_, ⟨I5, P1⟩, by rw [I9 21 (by decide)]; exact h21, by rw [I1 152 (by decide) (by decide)]; exact hB⟩
  · unfold TM at *
    rw [e140]
    exact hT
  · unfold LM at *
    rw [e140]
    exact hL
/-- only the reference's row now differs -/
theorem MI.now {v' : tm_V} {l' : lf_V} (h : MI σ s) (m : Mo σ σ1) (T : TM σ1 140 0 v') (L : LM σ1 140 0 l') : MI σ1 ((v', l'), s.2) := by
  obtain ⟨⟨hw, hd⟩, hT, hL, ⟨h5, hP⟩, h21, hB⟩ := h
  refine ⟨⟨by unfold MW; rw [m.1]; exact hw, by rw [m.2.2 153 (by decide)]; exact hd⟩, T, L, ⟨by rw [m.2.2 139 (by decide)]; exact h5, ⟨hP.1, fun j hj => ?_⟩⟩, by rw [m.2.2 139 (by decide)]; exact h21, by rw [m.2.2 152 (by decide)]; exact hB⟩
  have q := hP.2 j hj
  unfold TM LM at *
  rw [m.2.2 143 (by decide)]
  exact q
/-- the reference's scratch alone differs -/
theorem MI.scr (h : MI σ s) (hR : bl_R σ1 = bl_R σ) (h5 : bl_I σ1 139 5 = bl_I σ 139 5) (h21 : bl_I σ1 139 21 = bl_I σ 139 21) (h140 : bl_I σ1 140 = bl_I σ 140) (h143 : bl_I σ1 143 = bl_I σ 143) (h152 : bl_I σ1 152 = bl_I σ 152) (h153 : bl_I σ1 153 = bl_I σ 153) : MI σ1 s := by
  unfold MI MW PM TM LM at *
  rw [hR, h5, h21, h140, h143, h152, h153]
  exact h
end INV
