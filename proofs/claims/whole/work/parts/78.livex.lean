/-! ===== a life by draws: the class ===== -/
theorem XLs.kq {S : Nat → Prop} {σ σ1 : bl_St} {q : Nat} {v : tm_V} {rl lm : Nat} {w : Bool} (h : XLs σ q v rl lm w) (k : Kq S σ σ1) (hs : ∀ i, q ≤ i → i ≤ q + 4 → ¬ S i) : XLs σ1 q v rl lm w := by
  obtain ⟨i0, j0, r0⟩ := k q (hs q (by omega) (by omega))
  obtain ⟨i1, j1, -⟩ := k (q + 1) (hs (q + 1) (by omega) (by omega))
  obtain ⟨i2, j2, -⟩ := k (q + 2) (hs (q + 2) (by omega) (by omega))
  obtain ⟨i3, j3, -⟩ := k (q + 3) (hs (q + 3) (by omega) (by omega))
  obtain ⟨i4, j4, -⟩ := k (q + 4) (hs (q + 4) (by omega) (by omega))
  unfold XLs at *
  rw [i0, j0, j1, j2, j3, i4, r0]
  exact h
theorem CX.kq {S : Nat → Prop} {σ σ1 : bl_St} {o t : Nat} {v : tm_V} {rl lm : Nat} {w : Bool} {many : Nat} (C : CX σ o t v rl lm w many) (k : Kq S σ σ1) (h1 : ∀ i, o ≤ i → i ≤ o + 5 → ¬ S i) (h2 : ∀ i, t ≤ i → i ≤ t + 3 → ¬ S i) : CX σ1 o t v rl lm w many := by
  obtain ⟨i0, -, r0⟩ := k o (h1 o (by omega) (by omega))
  exact ⟨by rw [r0]; exact C.1, C.2.1.kq k h2, C.2.2.1.kq k (fun i a b => h1 i (by omega) (by omega)), by rw [i0]; exact C.2.2.2⟩
def sL (s : st_V) (a : Nat) (l : lf_V) : st_V := if a = 18 then ((sv s, l), s.2) else s
def XV (σ : bl_St) (s : st_V) (a : Nat) (l : lf_V) (x : Int32) : Prop := XI σ (sL s a l) ∧ LX σ a l ∧ bl_I σ 136 0 = x
/-- the outlook, by which is told -/
def GQ (σ : bl_St) (v : tm_V) (L c kn : Nat) : Prop := CX σ 111 10 v 0 0 false (tH v * 1) ∧ (∀ j, j ≤ tH v * 1 → LvX σ 118 0 0 1 (fun k t g => cA v L c k t g) j) ∧ OX σ 111 10 v 0 0 false true 1 0 kn
section LVX
variable {σ σ1 : bl_St} {s : st_V} {a n : Nat} {l l' : lf_V} {x : Int32} {v : tm_V} {L c kn : Nat}
theorem GQ.kq {S : Nat → Prop} (h : GQ σ v L c kn) (k : Kq S σ σ1) (h1 : ∀ i, 111 ≤ i → i ≤ 118 → ¬ S i) (h2 : ∀ i, 10 ≤ i → i ≤ 13 → ¬ S i) : GQ σ1 v L c kn := by
  refine ⟨h.1.kq k (fun i a b => h1 i (by omega) (by omega)) h2, fun j hj => ?_, h.2.2.kq k h1 h2⟩
  have q := h.2.1 j hj
  unfold LvX at *
  rw [(k 118 (h1 118 (by decide) (by decide))).2.1]
  exact q
theorem XV.tx (h : XV σ s a l x) : TX σ 10 (sv s) := by
  have q := h.1.2.1
  unfold sL at q
  split at q <;> exact q
theorem XV.life (h : XV σ s a l x) (ha : a = 18 ∨ a = 21) (k : Kq (fun i => a ≤ i ∧ i ≤ a + 2) σ σ1) (q : LX σ1 a l') : XV σ1 s a l' x := by
  refine ⟨?_, q, by rw [(k 136 (by omega)).1]; exact h.2.2⟩
  have h1 := h.1
  rcases ha with rfl | rfl
  · unfold sL at *
    rw [if_pos rfl] at *
    exact h1.newL k q
  · unfold sL at *
    rw [if_neg (by decide)] at *
    refine h1.scr k (fun i hi => by omega) ?_
    have w := h1.1
    have e0 := (k 0 (by omega)).2.2
    have e1 := (k 1 (by omega)).2.2
    have e4 := (k 4 (by omega)).2.2
    have e8 := (k 8 (by omega)).2.2
    have e14 := (k 14 (by omega)).2.2
    have e119 := (k 119 (by omega)).2.2
    have e120 := (k 120 (by omega)).2.2
    have e125 := (k 125 (by omega)).2.1
    have e127 := (k 127 (by omega)).2.2
    have e131 := (k 131 (by omega)).2.2
    unfold SW OR at *
    rw [e0, e1, e4, e8, e14, e119, e120, e125, e127, e131]
    exact ⟨w.1, w.2.1, w.2.2.1, w.2.2.2.1, q.1, w.2.2.2.2.2⟩
theorem XV.draw (h : XV σ s a l x) (ha : a = 18 ∨ a = 21) (y : Int32) : XV (bl_pI σ 136 0 y) s a l y := by
  have k : Kq (fun i => i = 136) σ (bl_pI σ 136 0 y) := (Kq.rf (fun i => i = 136) σ).pI rfl _ _
  exact ⟨h.1.scr k (fun i hi => by omega) (h.1.1.kq k (fun i hi => by omega)), h.2.1.kq k (fun i a b c => by omega), I_pI_self _ _ _ _⟩
theorem XV.out (h : XV σ s a l x) (ha : a = 18 ∨ a = 21) (k : Kq (fun i => 111 ≤ i ∧ i ≤ 118) σ σ1) (o : OX σ1 111 10 (sv s) 0 0 false true 1 0 kn) : XV σ1 s a l x := by
  refine ⟨h.1.out k (kn := kn) ?_, h.2.1.kq k (fun i a b c => by omega), by rw [(k 136 (by omega)).1]; exact h.2.2⟩
  unfold sL
  split <;> exact o
theorem x_buysK (C : CX σ 111 10 v 0 0 false (tH v * 1)) (hO : OX σ 111 10 v 0 0 false true 1 0 kn) (ok : TOk v) (hK : 0 < tK v) (hkn : L - 1 ≤ kn) (hL1 : 1 ≤ L) (hL : L ≤ 20) (hc : c < tN v) : ∃ σ1, f_X4_buys σ 111 (nI L) (nI c) = some (nI (cGd v false 0 0 true 1 0 (L - 1) c), σ1) ∧ Kq (fun i => i = 118) σ σ1 ∧ GQ σ1 v L c kn := by
  have h3 := tH1 ok
  have cle : ∀ k t g, cA v L c k t g ≤ 2 ^ 40 := fun k t g => by
    have h := cAh_le ok hK false 0 0 (V := cCo v false 0 0 true 1 0 (L - 1)) hc (fun d hd => cCo_le ok hK false 0 0 true 1 0 (by decide) (L - 1) d hd) (tH v * 1 - k) t g
    exact Nat.le_trans h (by omega)
  obtain ⟨σ1, e1, j1, l1⟩ := x_lookAhead (fK := 0) (fT := 0) (gd := 1) (V := cCo v false 0 0 true 1 0 (L - 1)) C ok hK (by decide) (by omega) (by omega) (by decide) (by decide) (by decide) hL1 hL hc (fun d hd => hO.row0 ok hkn hd) (fun d hd => by have := cCo_le ok hK false 0 0 true 1 0 (by decide) (L - 1) d hd; omega)
  have kq : Kq (fun i => i = 118) σ σ1 := j1.ko.kq
  have o1 : OX σ1 111 10 v 0 0 false true 1 0 kn := by
    obtain ⟨q1, q2, q3, q4, q5, q6⟩ := hO
    refine ⟨by have : bl_R σ1 = bl_R σ := j1.2.1; rw [this]; exact q1, q2.kq kq (fun i a b c => by omega), by have : bl_I σ1 = bl_I σ := j1.1; rw [this]; exact q3, by rw [j1.2.2 (111 + 6) (by decide)]; exact q4, q5, fun z => ⟨⟨(q6 z).1.1.ko j1.ko (fun i a b c => by omega), by have : bl_I σ1 = bl_I σ := j1.1; rw [this]; exact (q6 z).1.2⟩, by rw [j1.2.2 (111 + 6) (by decide)]; exact (q6 z).2⟩⟩
  have c1 : CX σ1 111 10 v 0 0 false (tH v * 1) := C.ko j1.ko (fun i a b c => by omega) (fun i a b c => by omega)
  refine ⟨σ1, ?_, kq, c1, fun j hj => l1 j (Nat.zero_le _) hj, o1⟩
  unfold f_X4_buys
  have e1' : f_X4_lookAhead σ 111 (nI L) (nI c) 0 0 1 = some ((), σ1) := e1
  have q := l1 0 (Nat.le_refl _) (Nat.zero_le _)
  have q0 : bl_J σ1 (111 + 7) 0 = lN (cA v L c 0 0 0) := q.1 0 ⟨Nat.le_refl _, by decide, by decide⟩
  have q1 : bl_J σ1 (111 + 7) 1 = lN (cA v L c 0 0 1) := q.2 rfl
  rw [e1', bd_some, x_guardPays c1.1.1 c1.1.2.2.2 c1.2.1 ok hc q0 q1 (cle 0 0 0) (cle 0 0 1), bd_some, gd_of bo_if]
  unfold cGd
  simp only [true_and]
  by_cases h : tC v (5 * c + 4) * 1000 + cA v L c 0 0 1 < cA v L c 0 0 0
  · rw [if_pos h, if_pos (show tC v (5 * c + 4) * 1000 + cAh v false 0 0 (cCo v false 0 0 true 1 0 (L - 1)) c (tH v * 1) 0 1 < cAh v false 0 0 (cCo v false 0 0 true 1 0 (L - 1)) c (tH v * 1) 0 0 from h)]
    rfl
  · rw [if_neg h, if_neg (show ¬ tC v (5 * c + 4) * 1000 + cAh v false 0 0 (cCo v false 0 0 true 1 0 (L - 1)) c (tH v * 1) 0 1 < cAh v false 0 0 (cCo v false 0 0 true 1 0 (L - 1)) c (tH v * 1) 0 0 from h)]
    rfl
theorem x_gainB (h : GQ σ (sv s) L c kn) (ok : SOk s n) {k t g d : Nat} (hk : k < tH (sv s)) (ht : t ≤ 2) (htk : t ≤ k) (hg : g < 2) (hgt : g = 1 → t = 0) (hd : d < tK (sv s)) : f_X4_gainOf σ 111 (nI k) (nI t) (nI g) (nI d) = some (cG (sv s) L c k t g d, σ) := by
  have h3 := ok.1.2.2.2.1.2
  have q := h.2.1 (k + 1) (by omega)
  have h1 : bl_J σ 118 (6 * (k + 1) + 2 * t + g) = lN (cA (sv s) L c (k + 1) t g) := by
    rcases (show g = 0 ∨ g = 1 by omega) with rfl | rfl
    · exact q.1 t ⟨Nat.zero_le _, ht, by omega⟩
    · rw [hgt rfl]
      exact q.2 rfl
  have h2 : bl_J σ 118 (6 * (k + 1) + 2 * tn t g + 0) = lN (cA (sv s) L c (k + 1) (tn t g) 0) := q.1 (tn t g) (by unfold rg tn; split <;> omega)
  have C := h.1
  unfold f_X4_gainOf
  rw [C.1.2.1, x_saved C.2.2.1 ok.1 hd, bd_some, x_dearer C.1.2.2.2 h1 h2 (by omega) ht hg, bd_some, gv4, lN_add, lN_add, Nat.mul_comm 1000, Nat.mul_comm 1000]
theorem x_isTold (h : XV σ s a l x) (ok : SOk s n) {rl lm k m : Nat} (hrl : rl ≤ 3) (hlm : lm ≤ 999) (y : YI (sv s) m L c l k) (hk : k < tH (sv s)) (hG : rl = 0 → GQ σ (sv s) L c kn) {d : Nat} (hd : d < tK (sv s)) : f_X9_isTold σ 0 a (nI rl) (nI lm) (nI d) = some (nI (tld (sv s) rl lm L l d), σ) := by
  have hH := ok.1.2.2.2.1
  have hs2 := (ok.1.2.2.1 d hd).1.2
  have w : SW σ := h.1.1
  unfold f_X9_isTold tld
  by_cases h1 : rl = 1
  · rw [h1, if_pos (by rfl), if_pos rfl]; rfl
  rw [if_neg (show ¬ nI rl = 1 from fun z => h1 ((nI_is (by omega) (by decide)).mp z)), if_neg h1]
  by_cases h2 : rl = 2
  · rw [h2, if_pos (by rfl), if_pos rfl]; rfl
  rw [if_neg (show ¬ nI rl = 2 from fun z => h2 ((nI_is (by omega) (by decide)).mp z)), if_neg h2]
  by_cases h3 : rl = 3
  · rw [h3, if_pos (by rfl), if_pos rfl, w.1.1.2.2.1, show (0 : Int32) = nI 0 from rfl, x_sortPart h.tx ok.1 hd (by decide), bd_some, Nat.add_zero]
    by_cases h4 : tS (sv s) (2 * d) ≤ lm
    · rw [if_pos (nI_le h4 (by omega)), if_pos h4]
    · rw [if_neg (nI_ge (by omega) (by omega)), if_neg h4]; rfl
  rw [if_neg (show ¬ nI rl = 3 from fun z => h3 ((nI_is (by omega) (by decide)).mp z)), if_neg h3]
  obtain ⟨yl, ⟨yo, yg, yp⟩, yu, -, -⟩ := y
  obtain ⟨a0, a1, a2, a3, a4⟩ := h.2.1.2.1
  have hC := (yl.2.2.2.1 yo).2.1
  have hU := yl.2.1.2.2
  have gq := hG (by omega)
  rw [w.1.2.1, a2, a3, a4, show (if nI (lC l) < 2 then nI (lC l) else 2) = nI (min 2 (lC l)) from nI_min2 (by omega), x_gainB gq ok (by omega) (by omega) (by omega) (by omega) (fun z => by rw [yu z]; rfl) hd, bd_some, yp]
  by_cases h5 : cG (sv s) L c (lG l) (min 2 (lC l)) (lU l) d ≤ 0
  · rw [if_pos h5, if_pos h5]; rfl
  · rw [if_neg h5, if_neg h5]; rfl
/-- a chance -/
theorem x_chn {q : lf_V × Int32} (h : XV σ s a q.1 q.2) (ha : a = 18 ∨ a = 21) (ok : SOk s n) (hN : 0 < tN (sv s)) {rl lm k m : Nat} (hm : m ≤ 601) (hrl : rl ≤ 3) (hlm : lm ≤ 999) (y : YI (sv s) m L c q.1 k) (hL : 1 ≤ L) (hk : k < tH (sv s)) (hG : rl = 0 → GQ σ (sv s) L c kn) (k49 : bl_St → Nat → Nat → Int32 → Int32 → Int32 → Int32 → Option (Unit × bl_St)) :
    ∃ σ1, b_X9_liveOneYear_49 k49 σ 0 a (nI rl) (nI lm) (nI (tH (sv s))) (nI k) = k49 σ1 0 a (nI rl) (nI lm) (nI (tH (sv s))) (nI (k + 1)) ∧ XV σ1 s a (chn (sv s) rl lm L q).1 (chn (sv s) rl lm L q).2 ∧ (rl = 0 → GQ σ1 (sv s) L c kn) := by
  obtain ⟨l, x⟩ := q
  have h : XV σ s a l x := h
  have y : YI (sv s) m L c l k := y
  have hH := ok.1.2.2.2.1
  have hO := ok.1.2.2.2.2.1
  have hK := ok.hK hN
  have hsep : 10 + 3 < a ∨ a + 2 < 10 := by omega
  have hd := Nat.mod_lt (dS (dNx x)) (show 0 < 12 by decide)
  obtain ⟨yl, ⟨yo, yg, yp⟩, yu, yE, yB⟩ := id y
  have w := yl.wk ok.1 yo
  have hE := w.2.2.2.2.2.1
  obtain ⟨σa, ea⟩ : ∃ z, z = bl_pI σ 136 0 (dNx x) := ⟨_, rfl⟩
  have va : XV σa s a l (dNx x) := by rw [ea]; exact h.draw ha _
  have ka : Kq (fun i => i = 136) σ σa := by rw [ea]; exact (Kq.rf (fun i => i = 136) σ).pI rfl _ _
  have ga : rl = 0 → GQ σa (sv s) L c kn := fun z => (hG z).kq ka (fun i a b c => by omega) (fun i a b c => by omega)
  have pass : ∀ (τ : bl_St) (l1 : lf_V) (x1 : Int32), XV τ s a l1 x1 → WOk (sv s) l1 m → lE l1 = lE l → (rl = 0 → GQ τ (sv s) L c kn) → ∃ σ1, b_X9_liveOneYear_109 k49 τ 0 a (nI rl) (nI lm) (nI (tH (sv s))) (nI k) = k49 σ1 0 a (nI rl) (nI lm) (nI (tH (sv s))) (nI (k + 1)) ∧ XV σ1 s a (lPass (sv s) l1) x1 ∧ (rl = 0 → GQ σ1 (sv s) L c kn) := by
    intro τ l1 x1 vt w1 e1 gt
    obtain ⟨σ1, p1, p2, p3⟩ := x_passChance vt.tx ok.1 vt.2.1 w1.1 w1.2.2.1 (by have h1 := w1.2.2.2.1.1; have h2 := w1.2.2.1; omega) (by rw [e1]; omega) w1.2.1 hsep
    refine ⟨σ1, ?_, vt.life ha p2 p3, fun z => (gt z).kq p2 (fun i a b c => by omega) (fun i a b c => by omega)⟩
    unfold b_X9_liveOneYear_109
    rw [vt.1.1.1.1.2.2.1, p1, bd_some, let_eq, nI_1]
  have hb : b_X9_liveOneYear_49 k49 σ 0 a (nI rl) (nI lm) (nI (tH (sv s))) (nI k) = (if nI (tO (sv s)) ≤ nI (dS (dNx x) % 12) then b_X9_liveOneYear_109 k49 σa 0 a (nI rl) (nI lm) (nI (tH (sv s))) (nI k) else bl_bd (f_X0_nextSort σa 136 10) fun r19 σ20 => bl_bd (f_X9_isTold σ20 0 a (nI rl) (nI lm) r19) fun r23 σ24 => bl_bd (f_X2_takeLoss σ24 a (bl_R σ20 0 2) r19 r23) fun r26 σ27 => b_X9_liveOneYear_109 k49 σ27 0 a (nI rl) (nI lm) (nI (tH (sv s))) (nI k)) := by
    unfold b_X9_liveOneYear_49
    rw [if_neg (nI_ge hk (by omega)), h.1.1.1.2.2.2.2.1, show (12 : Int32) = nI 12 from rfl, x_dnext h.2.2 (by decide) (by decide), bd_some, ← ea, va.1.1.1.1.2.2.1, x_odds va.tx, bd_some, va.1.1.1.2.2.2.2.1, va.1.1.1.1.2.2.1]
  rw [hb]
  unfold chn
  by_cases hlt : dS (dNx x) % 12 < tO (sv s)
  · rw [if_neg (nI_ge hlt (by omega)), if_pos hlt]
    obtain ⟨d, hdd⟩ : ∃ d, d = dsr (sv s) (dNx (dNx x)) := ⟨_, rfl⟩
    have hdl : d < tK (sv s) := by rw [hdd]; exact dsr_lt (sv s) hK _
    obtain ⟨σb, eb⟩ : ∃ z, z = bl_pI σa 136 0 (dNx (dNx x)) := ⟨_, rfl⟩
    have vb : XV σb s a l (dNx (dNx x)) := by rw [eb]; exact va.draw ha _
    have kb : Kq (fun i => i = 136) σa σb := by rw [eb]; exact (Kq.rf (fun i => i = 136) σa).pI rfl _ _
    have gb : rl = 0 → GQ σb (sv s) L c kn := fun z => (ga z).kq kb (fun i a b c => by omega) (fun i a b c => by omega)
    have en : f_X0_nextSort σa 136 10 = some (nI d, σb) := by rw [x_nextSort va.tx ok.1 hK va.2.2, hdd, eb]; rfl
    obtain ⟨t, ht⟩ : ∃ t, t = tld (sv s) rl lm L l d := ⟨_, rfl⟩
    have ht2 : t < 2 := by rw [ht]; exact tld_lt _ _ _ _ _ _
    have et : f_X9_isTold σb 0 a (nI rl) (nI lm) (nI d) = some (nI t, σb) := by rw [ht]; exact x_isTold vb ok hrl hlm y hk gb hdl
    obtain ⟨σc, ec, kc, lc⟩ := x_takeLoss (s := d) (d := t) vb.tx ok.1 vb.2.1 (by omega) yl.2.1.2.2 yo hdl ht2 hsep
    obtain ⟨f1, f2, f3, f4, f5, f6⟩ := lLoss_f (sv s) l d t
    have w2 : WOk (sv s) (lLoss (sv s) l d t) m := wOk_loss yl ok.1 yo hdl (by omega)
    obtain ⟨σ1, e1, v1, g1⟩ := pass σc _ _ (vb.life ha kc lc) w2 f4 (fun z => (gb z).kq kc (fun i a b c => by omega) (fun i a b c => by omega))
    refine ⟨σ1, ?_, ?_, g1⟩
    · rw [en, bd_some, et, bd_some, vb.1.1.1.1.2.2.1, ec, bd_some]
      exact e1
    · show XV σ1 s a (lPass (sv s) (lLoss (sv s) l (dsr (sv s) (dNx (dNx x))) (tld (sv s) rl lm L l (dsr (sv s) (dNx (dNx x)))))) (dNx (dNx x))
      rw [← hdd, ← ht]
      exact v1
  · rw [if_pos (nI_le (by omega) (by omega)), if_neg hlt]
    exact pass σa l (dNx x) va w rfl ga
/-- all chances of a year -/
theorem x_chs (ha : a = 18 ∨ a = 21) (ok : SOk s n) (hN : 0 < tN (sv s)) {rl lm m : Nat} (hm : m ≤ 601) (hrl : rl ≤ 3) (hlm : lm ≤ 999) (hL : 1 ≤ L) : ∀ (r k f : Nat) (σ : bl_St) (q : lf_V × Int32), k + r = tH (sv s) → r < f → XV σ s a q.1 q.2 → YS (sv s) m L c q.1 k → (rl = 0 → GQ σ (sv s) L c kn) →
    ∃ σ1, bl_fx (fun _ _ _ _ _ _ _ => none) (b_X9_liveOneYear_49) f σ 0 a (nI rl) (nI lm) (nI (tH (sv s))) (nI k) = some ((), σ1) ∧ XV σ1 s a (chs (sv s) rl lm L r q).1 (chs (sv s) rl lm L r q).2 ∧ (rl = 0 → GQ σ1 (sv s) L c kn) := by
  have hH := ok.1.2.2.2.1
  intro r
  induction r with
  | zero =>
    intro k f σ q hk hq h y g
    obtain ⟨f, rfl⟩ : ∃ z, f = z + 1 := ⟨f - 1, by omega⟩
    rw [chs_0]
    refine ⟨σ, ?_, h, g⟩
    rw [fx_succ]
    unfold b_X9_liveOneYear_49
    rw [if_pos (nI_le (by omega) (by omega))]
  | succ r ih =>
    intro k f σ q hk hq h y g
    obtain ⟨f, rfl⟩ : ∃ z, f = z + 1 := ⟨f - 1, by omega⟩
    obtain ⟨σa, ea, va, ga⟩ := x_chn h ha ok hN hm hrl hlm (y.1 (by omega)) hL (by omega) g (bl_fx (fun _ _ _ _ _ _ _ => none) (b_X9_liveOneYear_49) f)
    obtain ⟨σ1, e1, v1, g1⟩ := ih (k + 1) f σa (chn (sv s) rl lm L q) (by omega) (by omega) va (ys_chn (y.1 (by omega)) ok.1 (ok.hK hN) hL rl lm) ga
    rw [chs_1]
    refine ⟨σ1, ?_, v1, g1⟩
    rw [fx_succ, ea]
    exact e1
/-- a year -/
theorem x_year {q : lf_V × Int32} (h : XV σ s a q.1 q.2) (ha : a = 18 ∨ a = 21) (ok : SOk s n) (hN : 0 < tN (sv s)) {rl lm m : Nat} (hm : m ≤ 601) (hrl : rl ≤ 3) (hlm : lm ≤ 999) (y : YE (sv s) m L q.1) (hL : 1 ≤ L) (hL2 : L ≤ 20) (hG : rl = 0 → CX σ 111 10 (sv s) 0 0 false (tH (sv s) * 1) ∧ OX σ 111 10 (sv s) 0 0 false true 1 0 kn ∧ L - 1 ≤ kn) :
    ∃ σ1, f_X9_liveOneYear σ 0 a (nI L) (nI rl) (nI lm) = some ((), σ1) ∧ XV σ1 s a (yr (sv s) rl lm L q).1 (yr (sv s) rl lm L q).2 ∧ (rl = 0 → CX σ1 111 10 (sv s) 0 0 false (tH (sv s) * 1) ∧ OX σ1 111 10 (sv s) 0 0 false true 1 0 kn) := by
  have ey0 : yr (sv s) rl lm L q = chs (sv s) rl lm L (tH (sv s)) (lBegin (sv s) q.1 (yrg (sv s) rl L q.1), q.2) := by rw [yr]
  rw [ey0]
  obtain ⟨l, x⟩ := q
  have h : XV σ s a l x := h
  have y : YE (sv s) m L l := y
  have hH := ok.1.2.2.2.1
  have hK := ok.hK hN
  have hP := y.1.1.2 hN
  have h0 := y.1.2.2.1 y.2.1
  have hsep : 10 + 3 < a ∨ a + 2 < 10 := by omega
  have k24 : ∀ (τ : bl_St), XV τ s a l x → (rl = 0 → GQ τ (sv s) L (lP l) kn) → ∃ σ1, b_X9_liveOneYear_24 τ 0 a (nI rl) (nI lm) (nI (yrg (sv s) rl L l)) = some ((), σ1) ∧ XV σ1 s a (chs (sv s) rl lm L (tH (sv s)) (lBegin (sv s) l (yrg (sv s) rl L l), x)).1 (chs (sv s) rl lm L (tH (sv s)) (lBegin (sv s) l (yrg (sv s) rl L l), x)).2 ∧ (rl = 0 → CX σ1 111 10 (sv s) 0 0 false (tH (sv s) * 1) ∧ OX σ1 111 10 (sv s) 0 0 false true 1 0 kn) := by
    intro τ vt gt
    obtain ⟨σ2, e2, k2, l2⟩ := x_startYear vt.tx ok.1 vt.2.1 hP ⟨h0.1, h0.2.1⟩ (yrg_lt (sv s) rl L l) hsep
    have v2 := vt.life ha (k2.mono (fun i hi => by omega)) l2
    obtain ⟨σ1, e1, v1, g1⟩ := x_chs (c := lP l) (kn := kn) ha ok hN hm hrl hlm hL (tH (sv s)) 0 bl_fu σ2 (lBegin (sv s) l (yrg (sv s) rl L l), x) (by omega) (by unfold bl_fu; omega) v2 ⟨fun _ => yi_begin y ok.1 hN (yrg_lt (sv s) rl L l), fun z => by omega⟩ (fun z => (gt z).kq k2 (fun i a b c => by omega) (fun i a b c => by omega))
    refine ⟨σ1, ?_, v1, fun z => ⟨(g1 z).1, (g1 z).2.2⟩⟩
    unfold b_X9_liveOneYear_24
    rw [vt.1.1.1.1.2.2.1, x_chances vt.tx, bd_some, vt.1.1.1.1.2.2.1, e2, bd_some]
    exact e1
  unfold f_X9_liveOneYear
  by_cases hr : rl = 0
  · obtain ⟨C, O, hkn⟩ := hG hr
    obtain ⟨σ2, e2, k2, g2⟩ := x_buysK C O ok.1 hK hkn hL hL2 hP
    have v2 := h.out ha (k2.mono (fun i hi => by omega)) g2.2.2
    obtain ⟨σ1, e1, q1⟩ := k24 σ2 v2 (fun _ => g2)
    refine ⟨σ1, ?_, q1⟩
    have ey : yrg (sv s) rl L l = cGd (sv s) false 0 0 true 1 0 (L - 1) (lP l) := by unfold yrg; rw [if_pos hr]
    rw [if_pos (show nI rl = 0 by rw [hr]; rfl), h.1.1.1.2.1, h.2.1.2.1.1, e2, bd_some, ← ey]
    have hg := yrg_lt (sv s) rl L l
    rcases (show yrg (sv s) rl L l = 0 ∨ yrg (sv s) rl L l = 1 by omega) with hz | hz
    · rw [hz] at e1 ⊢
      rw [if_pos (by rfl)]
      exact e1
    · rw [hz] at e1 ⊢
      rw [if_neg (by decide)]
      exact e1
  · obtain ⟨σ1, e1, q1⟩ := k24 σ h (fun z => absurd z hr)
    refine ⟨σ1, ?_, q1⟩
    have ey : yrg (sv s) rl L l = 0 := by unfold yrg; rw [if_neg hr]
    rw [ey] at e1
    rw [if_neg (show ¬ nI rl = 0 from fun z => hr ((nI_is0 (by omega)).mp z))]
    exact e1
abbrev lAll (l : lf_V) : Int32 := lpp l + lpg l + lpt l + lpb l
theorem x_allPaid {σ : bl_St} {a : Nat} {l : lf_V} (h : LX σ a l) : f_X2_allPaid σ a = some (lAll l, σ) := by
  obtain ⟨c1, c2, c3, c4, c5, c6, c7⟩ := h.2.2.2.1
  unfold f_X2_allPaid
  rw [c2, c3, c4, c5]
theorem x_years (ha : a = 18 ∨ a = 21) (ok : SOk s n) (hN : 0 < tN (sv s)) {rl lm m : Nat} (hm : m ≤ 601) (hrl : rl ≤ 3) (hlm : lm ≤ 999) (w : Int32) : ∀ (L f : Nat) (σ : bl_St) (q : lf_V × Int32), L ≤ 20 → L < f → XV σ s a q.1 q.2 → YE (sv s) m L q.1 → (rl = 0 → CX σ 111 10 (sv s) 0 0 false (tH (sv s) * 1) ∧ OX σ 111 10 (sv s) 0 0 false true 1 0 kn ∧ L ≤ kn) →
    ∃ σ1, bl_fx (fun _ _ _ _ _ _ _ => none) (b_X9_liveByDraws_30) f σ 0 a (nI rl) (nI lm) w (nI L) = some (lAll (yrs (sv s) rl lm L q).1 - w, σ1) ∧ XV σ1 s a (yrs (sv s) rl lm L q).1 (yrs (sv s) rl lm L q).2 := by
  intro L
  induction L with
  | zero =>
    intro f σ q hL hq h y g
    obtain ⟨f, rfl⟩ : ∃ z, f = z + 1 := ⟨f - 1, by omega⟩
    rw [yrs_0]
    refine ⟨σ, ?_, h⟩
    rw [fx_succ]
    unfold b_X9_liveByDraws_30
    rw [if_pos (by decide), x_allPaid h.2.1, bd_some]
  | succ L ih =>
    intro f σ q hL hq h y g
    obtain ⟨f, rfl⟩ : ∃ z, f = z + 1 := ⟨f - 1, by omega⟩
    obtain ⟨σa, ea, va, ga⟩ := x_year (kn := kn) h ha ok hN hm hrl hlm y (by omega) hL (fun z => ⟨(g z).1, (g z).2.1, by have := (g z).2.2; omega⟩)
    obtain ⟨σ1, e1, v1⟩ := ih f σa (yr (sv s) rl lm (L + 1) q) (by omega) (by omega) va (ye_yr y ok.1 hN (ok.hK hN) (by omega) rl lm) (fun z => ⟨(ga z).1, (ga z).2, by have := (g z).2.2; omega⟩)
    rw [yrs_1]
    refine ⟨σ1, ?_, v1⟩
    rw [fx_succ]
    show (if nI (L + 1) ≤ 0 then _ else _) = _
    rw [if_neg (nI_nle (by omega) (by omega)), ea, bd_some, let_eq, nI_m1]
    exact e1
theorem x_byDraws (h : XV σ s a l x) (ha : a = 18 ∨ a = 21) (ok : SOk s n) (hN : 0 < tN (sv s)) {rl lm m Y : Nat} (hm : m ≤ 601) (hrl : rl ≤ 3) (hlm : lm ≤ 999) (hY : Y ≤ 20) (y : YE (sv s) m Y l) (sd : Int32) :
    ∃ σ1, f_X9_liveByDraws σ 0 a (nI Y) (nI rl) (nI lm) sd = some (lAll (yrs (sv s) rl lm Y (l, sd)).1 - lAll l, σ1) ∧ XV σ1 s a (yrs (sv s) rl lm Y (l, sd)).1 (yrs (sv s) rl lm Y (l, sd)).2 := by
  have hK := ok.hK hN
  unfold f_X9_liveByDraws
  rw [x_allPaid h.2.1, bd_some, let_eq, h.1.1.1.2.2.2.2.1]
  have va := h.draw ha sd
  by_cases hr : rl = 0
  · obtain ⟨kn, hO⟩ := va.1.2.2.2.2.1
    have hO : OX (bl_pI σ 136 0 sd) 111 10 (sv s) 0 0 false true 1 0 kn := by
      unfold sL at hO
      split at hO <;> exact hO
    obtain ⟨σb, eb, kb, ob, cb⟩ := x_learn hO ok.1 hK (by decide) (by decide) (by decide) (by decide) (by decide) hY
    have vb := va.out ha kb.kq ob
    obtain ⟨σ1, e1, v1⟩ := x_years (kn := max kn Y) ha ok hN hm hrl hlm (lAll l) Y bl_fu σb (l, sd) hY (by unfold bl_fu; omega) vb y (fun _ => ⟨cb, ob, by omega⟩)
    refine ⟨σ1, ?_, v1⟩
    rw [if_pos (show nI rl = 0 by rw [hr]; rfl), va.1.1.1.2.1, eb, bd_some]
    exact e1
  · obtain ⟨σ1, e1, v1⟩ := x_years (kn := 0) ha ok hN hm hrl hlm (lAll l) Y bl_fu _ (l, sd) hY (by unfold bl_fu; omega) va y (fun z => absurd z hr)
    refine ⟨σ1, ?_, v1⟩
    rw [if_neg (show ¬ nI rl = 0 from fun z => hr ((nI_is0 (by omega)).mp z))]
    exact e1
end LVX
