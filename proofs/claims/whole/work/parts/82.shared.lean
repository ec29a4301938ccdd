section SHX
variable {s : st_V} {n : Nat} {σ σ1 τ τ1 : bl_St} {v : tm_V}
abbrev hoS (i : Nat) : Prop := 127 ≤ i ∧ i ≤ 135
theorem SW.house (h : SW σ) (k : Kq hoS σ σ1) (r1 : bl_R σ1 127 2 = 130 ∧ bl_R σ1 127 3 = 131) (r2 : bl_R σ1 131 4 = 131 + 1 ∧ bl_R σ1 131 5 = 131 + 2 ∧ bl_R σ1 131 6 = 131 + 3 ∧ bl_R σ1 131 7 = 131 + 4) (r3 : bl_R σ1 127 0 = 128 ∧ bl_R σ1 127 1 = 129 ∨ bl_R σ1 127 0 = 129 ∧ bl_R σ1 127 1 = 128) : SW σ1 := by
  have e0 := (k 0 (by decide)).2.2
  have e1 := (k 1 (by decide)).2.2
  have e4 := (k 4 (by decide)).2.2
  have e8 := (k 8 (by decide)).2.2
  have e14 := (k 14 (by decide)).2.2
  have e21 := (k 21 (by decide)).2.2
  have e119 := (k 119 (by decide)).2.2
  have e120 := (k 120 (by decide)).2.2
  have e125 := (k 125 (by decide)).2.1
  unfold SW OR at *
  rw [e0, e1, e4, e8, e14, e21, e119, e120, e125]
  exact ⟨h.1, h.2.1, h.2.2.1, h.2.2.2.1, h.2.2.2.2.1, h.2.2.2.2.2.1, r1, r2, r3⟩
/-- the house's costs -/
theorem x_house (hx : XI σ s) (ok : SOk s n) {L a b : Nat} (hL : L ≤ 20) (ha : a < tN (sv s)) (hb : b < tN (sv s)) : ∃ σ1, f_X1_costOf σ 127 10 (nI L) (nI a) (nI b) = some (lN (hY (sv s) L a b), σ1) ∧ XI σ1 s := by
  have h8 := ok.1.n8
  have hK := ok.hK (by omega)
  obtain ⟨w1, w2, w3⟩ := hx.1.2.2.2.2.2.2
  obtain ⟨σa, ea, ka, la⟩ := x_take (q := 131) (w := false) (rl := 0) (lm := 0) ok.1 (by decide) (by decide) (by decide) hx.2.1 w2
  have Ra : bl_R σa = bl_R σ := ka.1
  have Ka : Kq hoS σ σa := ka.kq.mono (fun i hi => by unfold hoS; omega)
  have Ta := hx.2.1.kq Ka (fun i a b c => by unfold hoS at c; omega)
  have fin : ∀ τ nw th, Kq hoS σ τ → HC τ (sv s) nw th → (th = 128 ∧ nw = 129 ∨ th = 129 ∧ nw = 128) → XI τ s := fun τ nw th k c h => hx.scr k (fun i hi => by unfold hoS at hi; omega) (hx.1.house k c.1.2.2 c.2.2.1 (by rw [c.1.1, c.1.2.1]; omega))
  have l38 : ∀ (r y m : Nat) (τ : bl_St) (nw th : Nat), y + r = L + 1 → 1 ≤ y → r < m → Kq hoS σ τ → HC τ (sv s) nw th → (th = 128 ∧ nw = 129 ∨ th = 129 ∧ nw = 128) → (∀ x z, x < tN (sv s) → z < tN (sv s) → bl_J τ nw (8 * x + z) = lN (hY (sv s) (y - 1) x z)) → ∃ σ1, bl_fx (fun _ _ _ _ _ _ _ => none) (b_X1_costOf_38) m τ 127 10 (nI L) (nI a) (nI b) (nI y) = some (lN (hY (sv s) L a b), σ1) ∧ XI σ1 s := by
    intro r
    induction r with
    | zero =>
      intro y m τ nw th hy hy1 hm K C hw hV
      obtain ⟨m, rfl⟩ : ∃ z, m = z + 1 := ⟨m - 1, by omega⟩
      refine ⟨τ, ?_, fin τ nw th K C hw⟩
      have q := hV a b ha hb
      rw [show y - 1 = L by omega] at q
      rw [fx_succ]
      show (if nI L < nI y then _ else _) = _
      rw [if_pos (nI_lt (by omega) (by omega)), show (8 : Int32) = nI 8 from rfl, nI_mul, nI_add, in_nI (by omega) (by decide), gd_true, C.1.1, nI_clamp (by omega), Nat.mul_comm a 8, q]
    | succ r ih =>
      intro y m τ nw th hy hy1 hm K C hw hV
      obtain ⟨m, rfl⟩ : ∃ z, m = z + 1 := ⟨m - 1, by omega⟩
      obtain ⟨τa, qa⟩ : ∃ z, z = bl_pR (bl_pR τ 127 0 th) 127 1 nw := ⟨_, rfl⟩
      have Kt : Kq (fun i => i = 127) τ τa := by rw [qa]; exact ((Kq.rf (fun i => i = 127) τ).pR rfl _ _).pR rfl _ _
      have Cw : HC τa (sv s) th nw := by
        refine ⟨?_, C.2.1.kq Kt (fun i a b c => by omega), C.2.2.kq Kt (fun i a b c => by omega)⟩
        rw [qa]
        show bl_u (bl_u τ.2.2 127 0 th) 127 1 nw 127 0 = th ∧ bl_u (bl_u τ.2.2 127 0 th) 127 1 nw 127 1 = nw ∧ bl_u (bl_u τ.2.2 127 0 th) 127 1 nw 127 2 = 130 ∧ bl_u (bl_u τ.2.2 127 0 th) 127 1 nw 127 3 = 131
        have h2 : τ.2.2 127 2 = 130 := C.1.2.2.1
        have h3 : τ.2.2 127 3 = 131 := C.1.2.2.2
        simp [bl_u, h2, h3]
      have Ja : ∀ i, bl_J τa i = bl_J τ i := fun i => by rw [qa]; rfl
      obtain ⟨τb, eb, jb, fb⟩ := x_fill (nw := th) (th := nw) Cw (by omega) ok.1 hK (L := y - 1) (by omega) (fun x z hx hz => by rw [Ja]; exact hV x z hx hz)
      have Cb := Cw.jo jb (fun i a b c => by unfold hsS at c; omega)
      obtain ⟨σ1, e1, q⟩ := ih (y + 1) m τb th nw (by omega) (by omega) (by omega) ((K.tr (Kt.mono (fun i hi => by unfold hoS; omega))).tr (jb.ko.kq.mono (fun i hi => by unfold hsS at hi; unfold hoS; omega))) Cb (by omega) (by
        rw [show y + 1 - 1 = y - 1 + 1 by omega]
        exact fb)
      refine ⟨σ1, ?_, q⟩
      rw [fx_succ]
      show (if nI L < nI y then _ else _) = _
      rw [if_neg (nI_nlt (by omega) (by omega)), let_eq, let_eq, C.1.1, C.1.2.1, ← qa, eb, bd_some, let_eq, nI_1]
      exact e1
  have l14 : ∀ (nw th : Nat), (th = 128 ∧ nw = 129 ∨ th = 129 ∧ nw = 128) → ∀ (r i m : Nat) (τ : bl_St), i + r = 64 → r < m → Kq hoS σ τ → HC τ (sv s) nw th → (∀ j, j < i → bl_J τ nw j = 0) → ∃ σ1, bl_fx (fun _ _ _ _ _ _ _ => none) (b_X1_costOf_14) m τ 127 10 (nI L) (nI a) (nI b) (nI i) = some (lN (hY (sv s) L a b), σ1) ∧ XI σ1 s := by
    intro nw th hw r
    induction r with
    | zero =>
      intro i m τ hi hm K C hV
      obtain ⟨m, rfl⟩ : ∃ z, m = z + 1 := ⟨m - 1, by omega⟩
      obtain ⟨σ1, e1, q⟩ := l38 L 1 bl_fu τ nw th (by omega) (by omega) (by unfold bl_fu; omega) K C hw (fun x z hx hz => by rw [hV _ (by omega)]; rfl)
      refine ⟨σ1, ?_, q⟩
      rw [fx_succ, show i = 64 by omega]
      show (if (64 : Int32) ≤ nI 64 then _ else _) = _
      rw [if_pos (by decide)]
      exact e1
    | succ r ih =>
      intro i m τ hi hm K C hV
      obtain ⟨m, rfl⟩ : ∃ z, m = z + 1 := ⟨m - 1, by omega⟩
      have j1 : Jo (fun z => z = nw) τ (bl_pJ τ nw i 0) := (Jo.rf (fun z => z = nw) τ).pJ rfl _ _
      obtain ⟨σ1, e1, q⟩ := ih (i + 1) m (bl_pJ τ nw i 0) (by omega) (by omega) (K.tr (j1.ko.kq.mono (fun z hz => by unfold hoS; omega))) (C.jo j1 (fun i a b c => by omega)) (fun j hj => by
        by_cases hji : j = i
        · rw [hji, J_pJ_self]
        · rw [J_pJ_ne hji]
          exact hV j (by omega))
      refine ⟨σ1, ?_, q⟩
      rw [fx_succ]
      show (if (64 : Int32) ≤ nI i then _ else _) = _
      rw [if_neg (show ¬ (64 : Int32) ≤ nI i from nI_ge (b := 64) (by omega) (by decide)), in_nI (by omega) (by decide), gd_true, let_eq, let_eq, C.1.1, nI_clamp (by omega), nI_1]
      exact e1
  have start : ∀ (nw th : Nat), (th = 128 ∧ nw = 129 ∨ th = 129 ∧ nw = 128) → bl_R σ 127 0 = nw → bl_R σ 127 1 = th → ∃ σ1, bl_fx (fun _ _ _ _ _ _ _ => none) (b_X1_costOf_14) bl_fu σa 127 10 (nI L) (nI a) (nI b) 0 = some (lN (hY (sv s) L a b), σ1) ∧ XI σ1 s := fun nw th hw q0 q1 =>
    l14 nw th hw 64 0 bl_fu σa (by omega) (by unfold bl_fu; omega) Ka ⟨by rw [Ra]; exact ⟨q0, q1, w1.1, w1.2⟩, Ta, la⟩ (fun j hj => absurd hj (Nat.not_lt_zero j))
  have st : ∃ σ1, bl_fx (fun _ _ _ _ _ _ _ => none) (b_X1_costOf_14) bl_fu σa 127 10 (nI L) (nI a) (nI b) 0 = some (lN (hY (sv s) L a b), σ1) ∧ XI σ1 s := by
    rcases w3 with q | q
    · exact start 128 129 (by decide) q.1 q.2
    · exact start 129 128 (by decide) q.1 q.2
  obtain ⟨σ1, e1, x1⟩ := st
  refine ⟨σ1, ?_, x1⟩
  unfold f_X1_costOf
  rw [w1.2, show f_X3_take σ 131 10 0 0 0 = _ from ea, bd_some]
  exact e1
/-! the reference's -/
def MH (τ : bl_St) (v : tm_V) : Prop := (bl_R τ 139 1 = 140 ∧ bl_R τ 139 16 = 149 ∧ bl_R τ 139 17 = 150) ∧ TM τ 140 0 v
theorem MH.jo {S : Nat → Prop} (h : MH τ v) (j : Jo S τ τ1) : MH τ1 v := by
  have Ie : bl_I τ1 = bl_I τ := j.1
  have Re : bl_R τ1 = bl_R τ := j.2.1
  unfold MH TM at *
  rw [Ie, Re]
  exact h
theorem m_hidx (τ : bl_St) (k t u : Nat) : f_X10_slotOf τ (nI k) (nI t) (nI u) = some (nI (9 * k + 3 * t + u), τ) := by
  unfold f_X10_slotOf
  rw [show (9 : Int32) = nI 9 from rfl, show (3 : Int32) = nI 3 from rfl, nI_mul, nI_mul, nI_add, nI_add]
theorem m_more (τ : bl_St) {t : Nat} (ht : t ≤ 2) : f_X10_more τ (nI t) = some (nI (min 2 (t + 1)), τ) := by
  unfold f_X10_more
  by_cases h : 2 ≤ t
  · rw [if_pos (show (2 : Int32) ≤ nI t from nI_le (a := 2) h (by omega)), Nat.min_eq_left (by omega)]; rfl
  · rw [if_neg (show ¬ (2 : Int32) ≤ nI t from nI_ge (b := 2) (by omega) (by decide)), nI_1, Nat.min_eq_right (by omega)]
theorem m_lesser (τ : bl_St) {a b : Nat} (ha : a < 2 ^ 63) (hb : b < 2 ^ 63) : f_X10_lesser τ (lN a) (lN b) = some (lN (min a b), τ) := by
  unfold f_X10_lesser
  by_cases h : b ≤ a
  · rw [if_pos ((lN_leI hb ha).mpr h), Nat.min_eq_right h]
  · rw [if_neg (fun z => h ((lN_leI hb ha).mp z)), Nat.min_eq_left (by omega)]
theorem m_bothSum (C : MH τ v) (ok : TOk v) (hK : 0 < tK v) {k t u st A B : Nat} (hk : k < 6) (ht : t ≤ 2) (hu : u ≤ 2) (hA : bl_J τ 150 (9 * (k + 1) + 3 * min 2 (t + 1) + u) = lN A) (hB : bl_J τ 150 (9 * (k + 1) + 3 * t + min 2 (u + 1)) = lN B) (b1 : st ≤ 2 ^ 40) (bA : A ≤ 2 ^ 40) (bB : B ≤ 2 ^ 40) (acc : Nat) (hacc : acc ≤ 2 ^ 60) : ∀ (r q : Nat), q + r = tK v → ∀ m, r < m → bl_fx (fun _ _ _ _ _ _ _ _ _ => none) (b_X10_bothChance_42) m τ 139 (nI k) (nI t) (nI u) (nI (tA v)) (lN st) (lN (acc + tO v * cSum v 0 0 st (min A B) q)) (nI q) = some (lN ((acc + tO v * cSum v 0 0 st (min A B) (tK v)) / (12 * tA v)), τ) := by
  have h5 := ok.k5
  have hA1 : tK v ≤ tA v := tm_A_ge ok (tK v) (Nat.le_refl _)
  have hA2 : tA v ≤ 9 * tK v := tm_A_le ok (tK v) (Nat.le_refl _)
  have h12 := ok.2.2.2.2.1
  have e1 := C.2.1.2
  have e3 := C.2.2.1.2.1
  rw [Nat.zero_add] at e1 e3
  have bm : min A B ≤ 2 ^ 40 := Nat.le_trans (Nat.min_le_left _ _) bA
  intro r
  induction r with
  | zero =>
    intro q hq m hm
    obtain ⟨m, rfl⟩ : ∃ z, m = z + 1 := ⟨m - 1, by omega⟩
    have hq : q = tK v := by omega
    subst hq
    have hb : tO v * cSum v 0 0 st (min A B) (tK v) ≤ 12 * (45 * (999000 + 2 ^ 40)) := Nat.mul_le_mul h12 (Nat.le_trans (cSum_le ok 0 0 b1 bm _ (Nat.le_refl _)) (Nat.mul_le_mul_right _ (by show tA v ≤ 45; omega)))
    rw [fx_succ]
    unfold b_X10_bothChance_42
    rw [C.1.1, e1, if_pos (nI_le (Nat.le_refl _) (by omega)), nI_lit 12, nI_mul, nI_l (by omega)]
    have hz : ¬ lN (12 * tA v) = 0 := fun z => by
      rw [show (0 : Int64) = lN 0 from rfl, lN_eqI (by omega) (by omega)] at z
      omega
    rw [gd_of (by simp [hz]), lN_div (by omega) (by omega)]
  | succ r ih =>
    intro q hq m hm
    obtain ⟨m, rfl⟩ : ∃ z, m = z + 1 := ⟨m - 1, by omega⟩
    have hw9 := (ok.2.2.1 q (by omega)).2.2
    have hs9 := (ok.2.2.1 q (by omega)).1.2
    have hp := tP_le v q
    have hb : tO v * tS v (2 * q + 1) ≤ 12 * 9 := Nat.mul_le_mul h12 hw9
    have ec : min (min (tP v q * 1000 + A) (tP v q * 1000 + B)) (tS v (2 * q) * 1000 + st) = cL v 0 0 q st (min A B) := by
      unfold cL
      rw [if_pos rfl]
      omega
    have e : acc + tO v * cSum v 0 0 st (min A B) q + tO v * tS v (2 * q + 1) * cL v 0 0 q st (min A B) = acc + tO v * cSum v 0 0 st (min A B) (q + 1) := by
      show _ = acc + tO v * (cSum v 0 0 st (min A B) q + tS v (2 * q + 1) * cL v 0 0 q st (min A B))
      rw [Nat.mul_add, Nat.mul_assoc, Nat.add_assoc]
    rw [fx_succ]
    show (if bl_I τ (bl_R τ 139 1) 1 ≤ nI q then _ else _) = _
    rw [C.1.1, e1, if_neg (nI_ge (by omega) (by omega)), m_toldPays C.1.1 C.2 ok (by omega), bd_some, let_eq, nI_l (show tP v q < 2 ^ 31 by omega), show (1000 : Int64) = lN 1000 from rfl, lN_mul, m_more τ ht, bd_some, nI_1, m_hidx, bd_some, in_nI (by omega) (by decide), gd_true, m_more τ hu, bd_some, m_hidx, bd_some, in_nI (by omega) (by decide), gd_true, C.1.2.2, nI_clamp (by omega), nI_clamp (by omega), hA, hB, lN_add, lN_add, m_lesser τ (by omega) (by omega), bd_some, m_weight C.1.1 C.2 ok (by omega), bd_some, m_size C.1.1 C.2 ok (by omega), bd_some, nI_l (show tS v (2 * q) < 2 ^ 31 by omega), lN_mul, lN_add, m_lesser τ (by omega) (by omega), bd_some, let_eq, let_eq, ec, C.1.1, e3, nI_mul, nI_l (show tO v * tS v (2 * q + 1) < 2 ^ 31 by omega), lN_mul, lN_add, nI_1, e]
    exact ih (q + 1) (by omega) m (by omega)
theorem m_bothCh (C : MH τ v) (ok : TOk v) (hK : 0 < tK v) {k t u st A B : Nat} (hk : k < 6) (ht : t ≤ 2) (hu : u ≤ 2) (h0 : bl_J τ 150 (9 * (k + 1) + 3 * t + u) = lN st) (hA : bl_J τ 150 (9 * (k + 1) + 3 * min 2 (t + 1) + u) = lN A) (hB : bl_J τ 150 (9 * (k + 1) + 3 * t + min 2 (u + 1)) = lN B) (b1 : st ≤ 2 ^ 40) (bA : A ≤ 2 ^ 40) (bB : B ≤ 2 ^ 40) : f_X10_bothChance τ 139 (nI k) (nI t) (nI u) = some (lN (cCh v false 0 0 st (min A B)), τ) := by
  have h5 := ok.k5
  have hA1 : tK v ≤ tA v := tm_A_ge ok (tK v) (Nat.le_refl _)
  have hA2 : tA v ≤ 9 * tK v := tm_A_le ok (tK v) (Nat.le_refl _)
  have h12 := ok.2.2.2.2.1
  have e3 := C.2.2.1.2.1
  rw [Nat.zero_add] at e3
  have hb : (12 - tO v) * tA v ≤ 12 * 45 := Nat.mul_le_mul (by omega) (by omega)
  have hb2 : (12 - tO v) * tA v * st ≤ 12 * 45 * 2 ^ 40 := Nat.mul_le_mul hb b1
  unfold f_X10_bothChance cCh
  rw [m_weights C.1.1 C.2 ok, bd_some, nI_1, m_hidx, bd_some, in_nI (by omega) (by decide), gd_true, let_eq, let_eq, C.1.2.2, nI_clamp (by omega), h0, C.1.1, e3, nI_lit 12, nI_sub h12, nI_mul, nI_l (by omega), lN_mul, if_neg (by decide : ¬ false = true)]
  exact m_bothSum C ok hK hk ht hu hA hB b1 bA bB ((12 - tO v) * tA v * st) (by omega) (tK v) 0 (by omega) bl_fu (by unfold bl_fu; omega)
def LvM (τ : bl_St) (F : Nat → Nat → Nat → Nat) (k : Nat) : Prop := ∀ t u, t ≤ 2 → u ≤ 2 → bl_J τ 150 (9 * k + 3 * t + u) = lN (F k t u)
theorem m_hcb {V : Nat → Nat → Nat} {a b L : Nat} (C : MH τ v) (ok : TOk v) (hK : 0 < tK v) (hL1 : 1 ≤ L) (hL : L ≤ 20) (ha : a < tN v) (hb : b < tN v) (hV : ∀ x y, x < tN v → y < tN v → bl_J τ 149 (64 * (L - 1) + 8 * x + y) = lN (V x y)) (hB : ∀ x y, x < tN v → y < tN v → V x y ≤ 2 ^ 39) : ∃ τ1, f_X10_bothYear τ 139 (nI L) (nI a) (nI b) = some (lN ((tC v (5 * a) + tC v (5 * b)) * 1000 + hA v V a b (2 * tH v) 0 0), τ1) ∧ Jo (fun i => i = 150) τ τ1 := by
  have h8 := ok.n8
  have hH := ok.2.2.2.1
  have p1 := (ok.2.1 a ha).1
  have p2 := (ok.2.1 b hb).1
  obtain ⟨H, eH⟩ : ∃ H, H = 2 * tH v := ⟨_, rfl⟩
  obtain ⟨F, eF⟩ : ∃ F : Nat → Nat → Nat → Nat, F = fun k t u => hA v V a b (H - k) t u := ⟨_, rfl⟩
  have hF : ∀ k t u, k < H → F k t u = cCh v false 0 0 (F (k + 1) t u) (min (F (k + 1) (min 2 (t + 1)) u) (F (k + 1) t (min 2 (u + 1)))) := fun k t u hk => by
    rw [eF]
    show hA v V a b (H - k) t u = _
    rw [show H - k = (H - (k + 1)) + 1 by omega, hA_1]
  have bF : ∀ k t u, F k t u ≤ 2 ^ 40 := fun k t u => by
    rw [eF]
    have := hA_le ok hK ha hb hB (H - k) t u
    show hA v V a b (H - k) t u ≤ 2 ^ 40
    omega
  have F0 : ∀ t u, F H t u = V (tB v a t) (tB v b u) := fun t u => by
    rw [eF]
    show hA v V a b (H - H) t u = _
    rw [Nat.sub_self]
    rfl
  obtain ⟨Z, eZ⟩ : ∃ Z, Z = (tC v (5 * a) + tC v (5 * b)) * 1000 + F 0 0 0 := ⟨_, rfl⟩
  have l107 : ∀ (k : Nat), k < H → ∀ (t : Nat), t ≤ 2 → ∀ (k98 : bl_St → Nat → Int32 → Int32 → Int32 → Int32 → Option (Int64 × bl_St)) (r u m : Nat) (ρ : bl_St), u + r = 3 → r < m → Jo (fun i => i = 150) τ ρ → LvM ρ F (k + 1) → (∀ t' u', t' ≤ 2 → u' ≤ 2 → 3 * t' + u' < 3 * t + u → bl_J ρ 150 (9 * k + 3 * t' + u') = lN (F k t' u')) → ∃ τ1, bl_fx (fun _ _ _ _ _ _ _ => none) (b_X10_bothYear_107 k98) m ρ 139 (nI a) (nI b) (nI k) (nI t) (nI u) = k98 τ1 139 (nI a) (nI b) (nI k) (nI (t + 1)) ∧ Jo (fun i => i = 150) τ τ1 ∧ LvM τ1 F (k + 1) ∧ (∀ t' u', t' ≤ 2 → u' ≤ 2 → 3 * t' + u' < 3 * (t + 1) → bl_J τ1 150 (9 * k + 3 * t' + u') = lN (F k t' u')) := by
    intro k hk t ht k98 r
    induction r with
    | zero =>
      intro u m ρ hu hm J hL hP
      obtain ⟨m, rfl⟩ : ∃ z, m = z + 1 := ⟨m - 1, by omega⟩
      refine ⟨ρ, ?_, J, hL, fun t' u' h1 h2 h3 => hP t' u' h1 h2 (by omega)⟩
      rw [fx_succ, show u = 3 by omega]
      show (if (3 : Int32) ≤ nI 3 then _ else _) = _
      rw [if_pos (by decide), let_eq, nI_1]
    | succ r ih =>
      intro u m ρ hu hm J hL hP
      obtain ⟨m, rfl⟩ : ∃ z, m = z + 1 := ⟨m - 1, by omega⟩
      have D := C.jo J
      have hu2 : u ≤ 2 := by omega
      have q1 := hL t u ht hu2
      have q2 := hL (min 2 (t + 1)) u (by omega) hu2
      have q3 := hL t (min 2 (u + 1)) ht (by omega)
      obtain ⟨τ1, e1, q⟩ := ih (u + 1) m (bl_pJ ρ 150 (9 * k + 3 * t + u) (lN (F k t u))) (by omega) (by omega) (J.pJ rfl _ _) (fun t' u' h1 h2 => by rw [J_pJ_ne (by omega)]; exact hL t' u' h1 h2) (fun t' u' h1 h2 h3 => by
        by_cases he : t' = t ∧ u' = u
        · rw [he.1, he.2, J_pJ_self]
        · rw [J_pJ_ne (by omega)]
          exact hP t' u' h1 h2 (by omega))
      refine ⟨τ1, ?_, q⟩
      rw [fx_succ]
      show (if (3 : Int32) ≤ nI u then _ else _) = _
      rw [if_neg (show ¬ (3 : Int32) ≤ nI u from nI_ge (b := 3) (by omega) (by decide)), m_hidx, bd_some, m_bothCh D ok hK (by omega) ht hu2 q1 q2 q3 (bF _ _ _) (bF _ _ _) (bF _ _ _), bd_some, in_nI (by omega) (by decide), gd_true, let_eq, let_eq, D.1.2.2, nI_clamp (by omega), nI_1, ← hF k t u hk]
      exact e1
  have l98 : ∀ (k : Nat), k < H → ∀ (k90 : bl_St → Nat → Int32 → Int32 → Int32 → Option (Int64 × bl_St)) (r t m : Nat) (ρ : bl_St), t + r = 3 → r < m → Jo (fun i => i = 150) τ ρ → LvM ρ F (k + 1) → (∀ t' u', t' ≤ 2 → u' ≤ 2 → 3 * t' + u' < 3 * t → bl_J ρ 150 (9 * k + 3 * t' + u') = lN (F k t' u')) → ∃ τ1, bl_fx (fun _ _ _ _ _ _ => none) (b_X10_bothYear_98 k90) m ρ 139 (nI a) (nI b) (nI k) (nI t) = k90 τ1 139 (nI a) (nI b) (nI k + (-1)) ∧ Jo (fun i => i = 150) τ τ1 ∧ LvM τ1 F k := by
    intro k hk k90 r
    induction r with
    | zero =>
      intro t m ρ ht hm J hL hP
      obtain ⟨m, rfl⟩ : ∃ z, m = z + 1 := ⟨m - 1, by omega⟩
      refine ⟨ρ, ?_, J, fun t' u' h1 h2 => hP t' u' h1 h2 (by omega)⟩
      rw [fx_succ, show t = 3 by omega]
      show (if (3 : Int32) ≤ nI 3 then _ else _) = _
      rw [if_pos (by decide), let_eq]
    | succ r ih =>
      intro t m ρ ht hm J hL hP
      obtain ⟨m, rfl⟩ : ∃ z, m = z + 1 := ⟨m - 1, by omega⟩
      obtain ⟨τa, ea, Ja, La, Pa⟩ := l107 k hk t (by omega) (bl_fx (fun _ _ _ _ _ _ => none) (b_X10_bothYear_98 k90) m) 3 0 bl_fu ρ (by omega) (by unfold bl_fu; omega) J hL hP
      obtain ⟨τ1, e1, q⟩ := ih (t + 1) m τa (by omega) (by omega) Ja La Pa
      refine ⟨τ1, ?_, q⟩
      rw [fx_succ]
      show (if (3 : Int32) ≤ nI t then _ else _) = _
      rw [if_neg (show ¬ (3 : Int32) ≤ nI t from nI_ge (b := 3) (by omega) (by decide))]
      exact ea.trans e1
  have l90 : ∀ (k m : Nat) (ρ : bl_St) (x : Int32), k ≤ H → k < m → x = nI k + (-1) → Jo (fun i => i = 150) τ ρ → LvM ρ F k → ∃ τ1, bl_fx (fun _ _ _ _ _ => none) (b_X10_bothYear_90) m ρ 139 (nI a) (nI b) x = some (lN Z, τ1) ∧ Jo (fun i => i = 150) τ τ1 := by
    intro k
    induction k with
    | zero =>
      intro m ρ x hk hm hx J hL
      obtain ⟨m, rfl⟩ : ∃ z, m = z + 1 := ⟨m - 1, by omega⟩
      have D := C.jo J
      refine ⟨ρ, ?_, J⟩
      rw [fx_succ, hx]
      show (if nI 0 + (-1) < 0 then _ else _) = _
      have q := hL 0 0 (by decide) (by decide)
      rw [if_pos (by decide), show (0 : Int32) = nI 0 from rfl, m_ofClass D.1.1 D.2 ok ha (by decide), bd_some, m_ofClass D.1.1 D.2 ok hb (by decide), bd_some, D.1.2.2, Nat.add_zero, Nat.add_zero, nI_add, nI_l (by omega), show (1000 : Int64) = lN 1000 from rfl, lN_mul, q, lN_add, eZ]
    | succ k ih =>
      intro m ρ x hk hm hx J hL
      obtain ⟨m, rfl⟩ : ∃ z, m = z + 1 := ⟨m - 1, by omega⟩
      obtain ⟨τa, ea, Ja, La⟩ := l98 k (by omega) (bl_fx (fun _ _ _ _ _ => none) (b_X10_bothYear_90) m) 3 0 bl_fu ρ (by omega) (by unfold bl_fu; omega) J hL (fun t' u' h1 h2 h3 => by omega)
      obtain ⟨τ1, e1, q⟩ := ih m τa _ (by omega) (by omega) rfl Ja La
      refine ⟨τ1, ?_, q⟩
      rw [fx_succ, hx, nI_m1]
      show (if nI k < 0 then _ else _) = _
      rw [if_neg (nI_pos (by omega))]
      exact ea.trans e1
  have l22 : ∀ (t : Nat), t ≤ 2 → ∀ (k13 : bl_St → Nat → Int32 → Int32 → Int32 → Int32 → Int32 → Option (Int64 × bl_St)) (r u m : Nat) (ρ : bl_St), u + r = 3 → r < m → Jo (fun i => i = 150) τ ρ → (∀ t' u', t' ≤ 2 → u' ≤ 2 → 3 * t' + u' < 3 * t + u → bl_J ρ 150 (9 * H + 3 * t' + u') = lN (F H t' u')) → ∃ τ1, bl_fx (fun _ _ _ _ _ _ _ _ => none) (b_X10_bothYear_22 k13) m ρ 139 (nI L) (nI a) (nI b) (nI H) (nI t) (nI u) = k13 τ1 139 (nI L) (nI a) (nI b) (nI H) (nI (t + 1)) ∧ Jo (fun i => i = 150) τ τ1 ∧ (∀ t' u', t' ≤ 2 → u' ≤ 2 → 3 * t' + u' < 3 * (t + 1) → bl_J τ1 150 (9 * H + 3 * t' + u') = lN (F H t' u')) := by
    intro t ht k13 r
    induction r with
    | zero =>
      intro u m ρ hu hm J hP
      obtain ⟨m, rfl⟩ : ∃ z, m = z + 1 := ⟨m - 1, by omega⟩
      refine ⟨ρ, ?_, J, fun t' u' h1 h2 h3 => hP t' u' h1 h2 (by omega)⟩
      rw [fx_succ, show u = 3 by omega]
      show (if (3 : Int32) ≤ nI 3 then _ else _) = _
      rw [if_pos (by decide), let_eq, nI_1]
    | succ r ih =>
      intro u m ρ hu hm J hP
      obtain ⟨m, rfl⟩ : ∃ z, m = z + 1 := ⟨m - 1, by omega⟩
      have D := C.jo J
      have ba := tB_lt ok t ha
      have bb := tB_lt ok u hb
      have q := hV _ _ ba bb
      rw [← J.2.2 149 (by omega)] at q
      obtain ⟨τ1, e1, z⟩ := ih (u + 1) m (bl_pJ ρ 150 (9 * H + 3 * t + u) (lN (F H t u))) (by omega) (by omega) (J.pJ rfl _ _) (fun t' u' h1 h2 h3 => by
        by_cases he : t' = t ∧ u' = u
        · rw [he.1, he.2, J_pJ_self]
        · rw [J_pJ_ne (by omega)]
          exact hP t' u' h1 h2 (by omega))
      refine ⟨τ1, ?_, z⟩
      rw [fx_succ]
      show (if (3 : Int32) ≤ nI u then _ else _) = _
      rw [if_neg (show ¬ (3 : Int32) ≤ nI u from nI_ge (b := 3) (by omega) (by decide)), m_hidx, bd_some, m_behind D.1.1 D.2 ok ha (by omega), bd_some, m_behind D.1.1 D.2 ok hb (by omega), bd_some, show (1 : Int32) = nI 1 from rfl, nI_sub hL1, show (64 : Int32) = nI 64 from rfl, show (8 : Int32) = nI 8 from rfl, nI_mul, nI_mul, nI_add, nI_add, in_nI (by omega) (by decide), gd_true, in_nI (by omega) (by decide), gd_true, let_eq, let_eq, D.1.2.2, D.1.2.1, nI_clamp (by omega), nI_clamp (by omega), q, nI_add, ← F0]
      exact e1
  have l13 : ∀ (r t m : Nat) (ρ : bl_St), t + r = 3 → r < m → Jo (fun i => i = 150) τ ρ → (∀ t' u', t' ≤ 2 → u' ≤ 2 → 3 * t' + u' < 3 * t → bl_J ρ 150 (9 * H + 3 * t' + u') = lN (F H t' u')) → ∃ τ1, bl_fx (fun _ _ _ _ _ _ _ => none) (b_X10_bothYear_13) m ρ 139 (nI L) (nI a) (nI b) (nI H) (nI t) = some (lN Z, τ1) ∧ Jo (fun i => i = 150) τ τ1 := by
    intro r
    induction r with
    | zero =>
      intro t m ρ ht hm J hP
      obtain ⟨m, rfl⟩ : ∃ z, m = z + 1 := ⟨m - 1, by omega⟩
      obtain ⟨τ1, e1, q⟩ := l90 H bl_fu ρ (nI H - 1) (Nat.le_refl _) (by unfold bl_fu; omega) (Int32.sub_eq_add_neg _ _) J (fun t' u' h1 h2 => hP t' u' h1 h2 (by omega))
      refine ⟨τ1, ?_, q⟩
      rw [fx_succ, show t = 3 by omega]
      show (if (3 : Int32) ≤ nI 3 then _ else _) = _
      rw [if_pos (by decide), let_eq]
      exact e1
    | succ r ih =>
      intro t m ρ ht hm J hP
      obtain ⟨m, rfl⟩ : ∃ z, m = z + 1 := ⟨m - 1, by omega⟩
      obtain ⟨τa, ea, Ja, Pa⟩ := l22 t (by omega) (bl_fx (fun _ _ _ _ _ _ _ => none) (b_X10_bothYear_13) m) 3 0 bl_fu ρ (by omega) (by unfold bl_fu; omega) J hP
      obtain ⟨τ1, e1, q⟩ := ih (t + 1) m τa (by omega) (by omega) Ja Pa
      refine ⟨τ1, ?_, q⟩
      rw [fx_succ]
      show (if (3 : Int32) ≤ nI t then _ else _) = _
      rw [if_neg (show ¬ (3 : Int32) ≤ nI t from nI_ge (b := 3) (by omega) (by decide))]
      exact ea.trans e1
  obtain ⟨τ1, e1, J1⟩ := l13 3 0 bl_fu τ (by omega) (by unfold bl_fu; omega) (Jo.rf _ τ) (fun t' u' h1 h2 h3 => by omega)
  refine ⟨τ1, ?_, J1⟩
  have e0 : F 0 0 0 = hA v V a b (2 * tH v) 0 0 := by rw [eF, eH]; rfl
  have e2 := C.2.2.1.1
  rw [Nat.zero_add] at e2
  unfold f_X10_bothYear
  rw [let_eq, C.1.1, e2, show (2 : Int32) = nI 2 from rfl, nI_mul, ← e0, ← eZ]
  rw [eH] at e1
  exact e1
theorem m_house (hm : MI τ s) (ok : SOk s n) {L a b : Nat} (hL : L ≤ 20) (ha : a < tN (sv s)) (hb : b < tN (sv s)) : ∃ τ1, bl_fx (fun _ _ _ _ _ _ => none) (b_X10_shared_30) bl_fu τ 139 (nI L) (nI a) (nI b) 0 = some (lN (hY (sv s) L a b), τ1) ∧ MI τ1 s := by
  have h8 := ok.1.n8
  have hK := ok.hK (by omega)
  have C : MH τ (sv s) := ⟨⟨hm.1.1.1.1.1, hm.1.1.2.1.2.2.1, hm.1.1.2.1.2.2.2⟩, hm.2.1⟩
  let S : Nat → Prop := fun i => i = 149 ∨ i = 150
  have l77 : ∀ (y : Nat), 1 ≤ y → y ≤ L → ∀ (x : Nat), x < tN (sv s) → ∀ (k63 : bl_St → Nat → Int32 → Int32 → Int32 → Int32 → Int32 → Option (Int64 × bl_St)) (r z m : Nat) (ρ : bl_St), z + r = tN (sv s) → r < m → Jo S τ ρ → (∀ c d, c < tN (sv s) → d < tN (sv s) → bl_J ρ 149 (64 * (y - 1) + 8 * c + d) = lN (hY (sv s) (y - 1) c d)) → (∀ c d, c < tN (sv s) → d < tN (sv s) → (c < x ∨ (c = x ∧ d < z)) → bl_J ρ 149 (64 * y + 8 * c + d) = lN (hY (sv s) y c d)) → ∃ τ1, bl_fx (fun _ _ _ _ _ _ _ _ => none) (b_X10_shared_77 k63) m ρ 139 (nI L) (nI a) (nI b) (nI y) (nI x) (nI z) = k63 τ1 139 (nI L) (nI a) (nI b) (nI y) (nI (x + 1)) ∧ Jo S τ τ1 ∧ (∀ c d, c < tN (sv s) → d < tN (sv s) → bl_J τ1 149 (64 * (y - 1) + 8 * c + d) = lN (hY (sv s) (y - 1) c d)) ∧ (∀ c d, c < tN (sv s) → d < tN (sv s) → c < x + 1 → bl_J τ1 149 (64 * y + 8 * c + d) = lN (hY (sv s) y c d)) := by
    intro y hy1 hyL x hx k63 r
    induction r with
    | zero =>
      intro z m ρ hz hm J hV hP
      obtain ⟨m, rfl⟩ : ∃ q, m = q + 1 := ⟨m - 1, by omega⟩
      have D := C.jo J
      have e0 := D.2.1.1
      refine ⟨ρ, ?_, J, hV, fun c d hc hd h => hP c d hc hd (by omega)⟩
      rw [fx_succ]
      show (if bl_I ρ (bl_R ρ 139 1) 0 ≤ nI z then _ else _) = _
      rw [D.1.1, e0, if_pos (nI_le (by omega) (by omega)), let_eq, nI_1]
    | succ r ih =>
      intro z m ρ hz hm J hV hP
      obtain ⟨m, rfl⟩ : ∃ q, m = q + 1 := ⟨m - 1, by omega⟩
      have D := C.jo J
      have e0 := D.2.1.1
      obtain ⟨ρa, ea, ja⟩ := m_hcb (V := hY (sv s) (y - 1)) D ok.1 hK hy1 (by omega) hx (show z < tN (sv s) by omega) hV (fun c d hc hd => by have := hY_le ok.1 hK (y - 1) c d hc hd; omega)
      have ew : (tC (sv s) (5 * x) + tC (sv s) (5 * z)) * 1000 + hA (sv s) (hY (sv s) (y - 1)) x z (2 * tH (sv s)) 0 0 = hY (sv s) y x z := by
        obtain ⟨q, rfl⟩ : ∃ q, y = q + 1 := ⟨y - 1, by omega⟩
        rw [hY_1]
        rfl
      rw [ew] at ea
      have Ja : Jo S τ ρa := J.tr (ja.mono (fun i hi => Or.inr hi))
      have j149 := ja.2.2 149 (by omega)
      obtain ⟨τ1, e1, q⟩ := ih (z + 1) m (bl_pJ ρa 149 (64 * y + 8 * x + z) (lN (hY (sv s) y x z))) (by omega) (by omega) (Ja.pJ (Or.inl rfl) _ _) (fun c d hc hd => by rw [J_pJ_ne (by omega), j149]; exact hV c d hc hd) (fun c d hc hd h => by
        by_cases he : c = x ∧ d = z
        · rw [he.1, he.2, J_pJ_self]
        · rw [J_pJ_ne (by omega), j149]
          exact hP c d hc hd (by omega))
      refine ⟨τ1, ?_, q⟩
      rw [fx_succ]
      show (if bl_I ρ (bl_R ρ 139 1) 0 ≤ nI z then _ else _) = _
      rw [D.1.1, e0, if_neg (nI_ge (by omega) (by omega)), ea, bd_some, show (64 : Int32) = nI 64 from rfl, show (8 : Int32) = nI 8 from rfl, nI_mul, nI_mul, nI_add, nI_add, in_nI (by omega) (by decide), gd_true, let_eq, let_eq, D.1.2.1, nI_clamp (by omega), nI_1]
      exact e1
  have l63 : ∀ (y : Nat), 1 ≤ y → y ≤ L → ∀ (k54 : bl_St → Nat → Int32 → Int32 → Int32 → Int32 → Option (Int64 × bl_St)) (r x m : Nat) (ρ : bl_St), x + r = tN (sv s) → r < m → Jo S τ ρ → (∀ c d, c < tN (sv s) → d < tN (sv s) → bl_J ρ 149 (64 * (y - 1) + 8 * c + d) = lN (hY (sv s) (y - 1) c d)) → (∀ c d, c < tN (sv s) → d < tN (sv s) → c < x → bl_J ρ 149 (64 * y + 8 * c + d) = lN (hY (sv s) y c d)) → ∃ τ1, bl_fx (fun _ _ _ _ _ _ _ => none) (b_X10_shared_63 k54) m ρ 139 (nI L) (nI a) (nI b) (nI y) (nI x) = k54 τ1 139 (nI L) (nI a) (nI b) (nI (y + 1)) ∧ Jo S τ τ1 ∧ (∀ c d, c < tN (sv s) → d < tN (sv s) → bl_J τ1 149 (64 * y + 8 * c + d) = lN (hY (sv s) y c d)) := by
    intro y hy1 hyL k54 r
    induction r with
    | zero =>
      intro x m ρ hx hm J hV hP
      obtain ⟨m, rfl⟩ : ∃ q, m = q + 1 := ⟨m - 1, by omega⟩
      have D := C.jo J
      have e0 := D.2.1.1
      refine ⟨ρ, ?_, J, fun c d hc hd => hP c d hc hd (by omega)⟩
      rw [fx_succ]
      show (if bl_I ρ (bl_R ρ 139 1) 0 ≤ nI x then _ else _) = _
      rw [D.1.1, e0, if_pos (nI_le (by omega) (by omega)), let_eq, nI_1]
    | succ r ih =>
      intro x m ρ hx hm J hV hP
      obtain ⟨m, rfl⟩ : ∃ q, m = q + 1 := ⟨m - 1, by omega⟩
      have D := C.jo J
      have e0 := D.2.1.1
      obtain ⟨τa, ea, Ja, Va, Pa⟩ := l77 y hy1 hyL x (by omega) (bl_fx (fun _ _ _ _ _ _ _ => none) (b_X10_shared_63 k54) m) (tN (sv s)) 0 bl_fu ρ (by omega) (by unfold bl_fu; omega) J hV (fun c d hc hd h => hP c d hc hd (by omega))
      obtain ⟨τ1, e1, q⟩ := ih (x + 1) m τa (by omega) (by omega) Ja Va Pa
      refine ⟨τ1, ?_, q⟩
      rw [fx_succ]
      show (if bl_I ρ (bl_R ρ 139 1) 0 ≤ nI x then _ else _) = _
      rw [D.1.1, e0, if_neg (nI_ge (by omega) (by omega))]
      exact ea.trans e1
  have l54 : ∀ (r y m : Nat) (ρ : bl_St), y + r = L + 1 → 1 ≤ y → r < m → Jo S τ ρ → (∀ c d, c < tN (sv s) → d < tN (sv s) → bl_J ρ 149 (64 * (y - 1) + 8 * c + d) = lN (hY (sv s) (y - 1) c d)) → ∃ τ1, bl_fx (fun _ _ _ _ _ _ => none) (b_X10_shared_54) m ρ 139 (nI L) (nI a) (nI b) (nI y) = some (lN (hY (sv s) L a b), τ1) ∧ Jo S τ τ1 := by
    intro r
    induction r with
    | zero =>
      intro y m ρ hy hy1 hm J hV
      obtain ⟨m, rfl⟩ : ∃ q, m = q + 1 := ⟨m - 1, by omega⟩
      have D := C.jo J
      refine ⟨ρ, ?_, J⟩
      have q := hV a b ha hb
      rw [show y - 1 = L by omega] at q
      rw [fx_succ]
      show (if nI L < nI y then _ else _) = _
      rw [if_pos (nI_lt (by omega) (by omega)), show (64 : Int32) = nI 64 from rfl, show (8 : Int32) = nI 8 from rfl, nI_mul, nI_mul, nI_add, nI_add, in_nI (by omega) (by decide), gd_true, D.1.2.1, nI_clamp (by omega), q]
    | succ r ih =>
      intro y m ρ hy hy1 hm J hV
      obtain ⟨m, rfl⟩ : ∃ q, m = q + 1 := ⟨m - 1, by omega⟩
      obtain ⟨τa, ea, Ja, Va⟩ := l63 y hy1 (by omega) (bl_fx (fun _ _ _ _ _ _ => none) (b_X10_shared_54) m) (tN (sv s)) 0 bl_fu ρ (by omega) (by unfold bl_fu; omega) J hV (fun c d hc hd h => absurd h (Nat.not_lt_zero c))
      obtain ⟨τ1, e1, q⟩ := ih (y + 1) m τa (by omega) (by omega) (by omega) Ja (by rw [Nat.add_sub_cancel]; exact Va)
      refine ⟨τ1, ?_, q⟩
      rw [fx_succ]
      show (if nI L < nI y then _ else _) = _
      rw [if_neg (nI_nlt (by omega) (by omega))]
      exact ea.trans e1
  have l30 : ∀ (r i m : Nat) (ρ : bl_St), i + r = 64 → r < m → Jo S τ ρ → (∀ j, j < i → bl_J ρ 149 j = 0) → ∃ τ1, bl_fx (fun _ _ _ _ _ _ => none) (b_X10_shared_30) m ρ 139 (nI L) (nI a) (nI b) (nI i) = some (lN (hY (sv s) L a b), τ1) ∧ Jo S τ τ1 := by
    intro r
    induction r with
    | zero =>
      intro i m ρ hi hm J hV
      obtain ⟨m, rfl⟩ : ∃ q, m = q + 1 := ⟨m - 1, by omega⟩
      obtain ⟨τ1, e1, q⟩ := l54 L 1 bl_fu ρ (by omega) (by omega) (by unfold bl_fu; omega) J (fun c d hc hd => by rw [hV _ (by omega)]; rfl)
      refine ⟨τ1, ?_, q⟩
      rw [fx_succ, show i = 64 by omega]
      show (if (64 : Int32) ≤ nI 64 then _ else _) = _
      rw [if_pos (by decide)]
      exact e1
    | succ r ih =>
      intro i m ρ hi hm J hV
      obtain ⟨m, rfl⟩ : ∃ q, m = q + 1 := ⟨m - 1, by omega⟩
      have D := C.jo J
      obtain ⟨τ1, e1, q⟩ := ih (i + 1) m (bl_pJ ρ 149 i 0) (by omega) (by omega) (J.pJ (Or.inl rfl) _ _) (fun j hj => by
        by_cases hji : j = i
        · rw [hji, J_pJ_self]
        · rw [J_pJ_ne hji]
          exact hV j (by omega))
      refine ⟨τ1, ?_, q⟩
      rw [fx_succ]
      show (if (64 : Int32) ≤ nI i then _ else _) = _
      rw [if_neg (show ¬ (64 : Int32) ≤ nI i from nI_ge (b := 64) (by omega) (by decide)), in_nI (by omega) (by decide), gd_true, let_eq, let_eq, D.1.2.1, nI_clamp (by omega), nI_1]
      exact e1
  obtain ⟨τ1, e1, J1⟩ := l30 64 0 bl_fu τ (by omega) (by unfold bl_fu; omega) (Jo.rf _ τ) (fun j hj => absurd hj (Nat.not_lt_zero j))
  exact ⟨τ1, e1, hm.jo J1⟩
theorem op_shared (ok : SOk s n) (l a b : Int32) : Both n s (fun σ => f_X9_shared σ 0 l a b) (fun τ => f_X10_shared τ 139 l a b) := by
  have h8 := ok.1.n8
  rcases (Classical.em ((vY l ∧ vC a (tN (sv s))) ∧ vC b (tN (sv s)))).symm with hb | hb
  · refine Both.same ok (-1) (fun σ hx => ⟨σ, ?_, hx⟩) (fun τ hm => ⟨τ, ?_, hm⟩)
    · show f_X9_shared σ 0 l a b = _
      unfold f_X9_shared
      rw [x_isAsked hx ok, bd_some]
      by_cases h1 : vY l ∧ vC a (tN (sv s))
      · rw [if_pos h1, if_neg (by decide), hx.1.1.1.2.2.1, x_hasClass hx.2.1 ok.1, bd_some, if_neg (show ¬ vC b (tN (sv s)) from fun z => hb ⟨h1, z⟩), if_pos rfl]
      · rw [if_neg h1, if_pos rfl]
    · show f_X10_shared τ 139 l a b = _
      unfold f_X10_shared
      rw [m_areYears, bd_some]
      by_cases h1 : vY l
      · rw [if_pos h1, if_neg (by decide), m_isClass hm.1.1.1.1.1 hm.2.1 ok.1, bd_some]
        by_cases h2 : vC a (tN (sv s))
        · rw [if_pos h2, if_neg (by decide), m_isClass hm.1.1.1.1.1 hm.2.1 ok.1, bd_some, if_neg (show ¬ vC b (tN (sv s)) from fun z => hb ⟨⟨h1, h2⟩, z⟩), if_pos rfl]
        · rw [if_neg h2, if_pos rfl]
      · rw [if_neg h1, if_pos rfl]
  obtain ⟨⟨hl, ha⟩, hb2⟩ := id hb
  obtain ⟨L, rfl, -, hL⟩ := vR_of (by decide) hl
  obtain ⟨c, hc, rfl⟩ := vC_of (by omega) ha
  obtain ⟨d, hd, rfl⟩ := vC_of (by omega) hb2
  refine Both.same ok (lN (hY (sv s) L c d)) (fun σ hx => ?_) (fun τ hm => ?_)
  · obtain ⟨σ1, e1, x1⟩ := x_house hx ok hL hc hd
    refine ⟨σ1, ?_, x1⟩
    show f_X9_shared σ 0 (nI L) (nI c) (nI d) = _
    unfold f_X9_shared
    rw [x_isAsked hx ok, bd_some, if_pos hb.1, if_neg (by decide), hx.1.1.1.2.2.1, x_hasClass hx.2.1 ok.1, bd_some, if_pos hb2, if_neg (by decide), hx.1.1.1.2.2.1, hx.1.1.2.2.2.1, e1, bd_some]
  · obtain ⟨τ1, e1, m1⟩ := m_house hm ok hL hc hd
    refine ⟨τ1, ?_, m1⟩
    show f_X10_shared τ 139 (nI L) (nI c) (nI d) = _
    unfold f_X10_shared
    rw [m_areYears, bd_some, if_pos hl, if_neg (by decide), m_isClass hm.1.1.1.1.1 hm.2.1 ok.1, bd_some, if_pos ha, if_neg (by decide), m_isClass hm.1.1.1.1.1 hm.2.1 ok.1, bd_some, if_pos hb2, if_neg (by decide)]
    exact e1
end SHX
