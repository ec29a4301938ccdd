/-! ===== spell ===== -/
abbrev gC (v : tm_V) (c : Nat) : List Int32 := rowT 0 (fun k => tC v (5 * c + k)) 5
abbrev gS (v : tm_V) (q : Nat) : List Int32 := rowT 1 (fun k => tS v (2 * q + k)) 2
abbrev gR (v : tm_V) (k : Nat) : List Int32 := rowT (2 + k) (fun _ => rOf v k) 1
abbrev spA (v : tm_V) (c : Nat) : List Int32 := catT (gC v) c
abbrev spB (v : tm_V) (q : Nat) : List Int32 := spA v (tN v) ++ catT (gS v) q
abbrev spC (v : tm_V) (k : Nat) : List Int32 := spB v (tK v) ++ catT (gR v) k
section SPL
variable {v : tm_V}
theorem gC_len (ok : TOk v) {c : Nat} (hc : c < tN v) : (gC v c).length ≤ 19 := by
  have h8 := ok.n8
  obtain ⟨h1, h2, h3⟩ := ok.2.1 c hc
  have a0 := h2 0 (by decide)
  have a1 := h2 1 (by decide)
  have a2 := h2 2 (by decide)
  rw [row_len, nms_len, nms_len, nms_len, nms_len, nms_len]
  have z : (nms (fun k => tC v (5 * c + k)) 0).length = 0 := rfl
  have w : (bl_tc.getD 0 []).length = 5 := rfl
  have b0 := nd3 (v := tC v (5 * c + 0)) (by rw [Nat.add_zero]; omega)
  have b1 := nd1 (v := tC v (5 * c + 1)) (by have : tC v (5 * c + 1 + 0) < tN v := a0; rw [Nat.add_zero] at this; omega)
  have b2 := nd1 (v := tC v (5 * c + 2)) (by have : tC v (5 * c + 2) < tN v := a1; omega)
  have b3 := nd1 (v := tC v (5 * c + 3)) (by have : tC v (5 * c + 3) < tN v := a2; omega)
  have b4 := nd2 (v := tC v (5 * c + 4)) (by omega)
  omega
theorem gS_len (ok : TOk v) {q : Nat} (hq : q < tK v) : (gS v q).length ≤ 11 := by
  obtain ⟨h1, h2, h3⟩ := ok.2.2.1 q hq
  rw [row_len, nms_len, nms_len]
  have z : (nms (fun k => tS v (2 * q + k)) 0).length = 0 := rfl
  have w : (bl_tc.getD 1 []).length = 4 := rfl
  have b0 := nd3 (v := tS v (2 * q + 0)) (by rw [Nat.add_zero]; omega)
  have b1 := nd1 (v := tS v (2 * q + 1)) (by omega)
  omega
theorem rOf_le (ok : TOk v) (k : Nat) : rOf v k ≤ 99 := by
  have := ok.2.2.2
  unfold rOf
  split
  · omega
  · split <;> omega
theorem gR_len (ok : TOk v) {k : Nat} (hk : k < 3) : (gR v k).length ≤ 11 := by
  rw [row_len, nms_len]
  have z : (nms (fun _ => rOf v k) 0).length = 0 := rfl
  have w : ∀ k, k < 3 → (bl_tc.getD (2 + k) []).length ≤ 7 := by decide
  have := w k hk
  have b0 := nd2 (v := rOf v k) (by have := rOf_le ok k; omega)
  omega
theorem spA_len (ok : TOk v) {c : Nat} (hc : c ≤ tN v) : (spA v c).length ≤ 19 * c := catT_len c (fun k hk => gC_len ok (by omega))
theorem spB_len (ok : TOk v) {q : Nat} (hq : q ≤ tK v) : (spB v q).length ≤ 19 * tN v + 11 * q := by
  have h1 := spA_len ok (Nat.le_refl (tN v))
  have h2 := catT_len (g := gS v) q (fun k hk => gS_len ok (show k < tK v by omega))
  show (spA v (tN v) ++ catT (gS v) q).length ≤ _
  rw [List.length_append]
  omega
theorem spC_len (ok : TOk v) {k : Nat} (hk : k ≤ 3) : (spC v k).length ≤ 19 * tN v + 11 * tK v + 11 * k := by
  have h1 := spB_len ok (Nat.le_refl (tK v))
  have h2 := catT_len (g := gR v) k (fun j hj => gR_len ok (show j < 3 by omega))
  show (spB v (tK v) ++ catT (gR v) k).length ≤ _
  rw [List.length_append]
  omega
theorem sta_A (v : tm_V) (c : Nat) : Sta (spA v c) := by
  have := sta_cat (ys := []) (Or.inl rfl) (fun _ => 0) (fun i k => tC v (5 * i + k)) 5 c
  rw [List.nil_append] at this
  exact this
theorem sta_B (v : tm_V) (q : Nat) : Sta (spB v q) := sta_cat (sta_A v (tN v)) (fun _ => 1) (fun i k => tS v (2 * i + k)) 2 q
theorem sta_C (v : tm_V) (k : Nat) : Sta (spC v k) := sta_cat (sta_B v (tK v)) (fun i => 2 + i) (fun i _ => rOf v i) 1 k
variable {s : st_V} {n : Nat} {σ τ : bl_St}
/-- a row of the class's: word, numbers, end -/
theorem x_word_of (σ : bl_St) {k : Nat} (hk : k < 5) : f_X9_wordOf σ (nI k) = some (k, σ) := by
  unfold f_X9_wordOf
  rcases (show k = 0 ∨ k = 1 ∨ k = 2 ∨ k = 3 ∨ k = 4 by omega) with rfl | rfl | rfl | rfl | rfl <;> rfl
def XP (σ : bl_St) (s : st_V) (xs : List Int32) : Prop := XI σ s ∧ PG σ xs
theorem xp_word {xs : List Int32} {j : Nat} (h : XP σ s xs) (hj : j < 8) (hs : Sta xs) (hl : xs.length + (bl_tc.getD j []).length ≤ 256) : ∃ σ1, f_X5_putWord σ 8 j = some ((), σ1) ∧ XP σ1 s (xs ++ bl_tc.getD j []) := by
  obtain ⟨σ1, e1, p1, k1, r1⟩ := x_word0 h.2 hj hs hl
  exact ⟨σ1, e1, h.1.pg k1 r1, p1⟩
theorem xp_num {xs : List Int32} {v : Nat} (h : XP σ s xs) (hv : v ≤ 9999) (hs : Mid xs) (hl : xs.length + 1 + (num v).length ≤ 256) : ∃ σ1, f_X5_putNumber σ 8 (nI v) = some ((), σ1) ∧ XP σ1 s (xs ++ 32 :: num v) := by
  obtain ⟨σ1, e1, p1, k1, r1⟩ := x_num h.2 hv hs hl
  exact ⟨σ1, e1, h.1.pg k1 r1, p1⟩
theorem xp_end {xs : List Int32} (h : XP σ s xs) (hl : xs.length < 256) : ∃ σ1, f_X5_endPhrase σ 8 = some ((), σ1) ∧ XP σ1 s (xs ++ [59]) := by
  obtain ⟨σ1, e1, p1, k1, r1⟩ := x_end h.2 hl
  exact ⟨σ1, e1, h.1.pg k1 r1, p1⟩
theorem mid_word {xs : List Int32} {j : Nat} (hj : j < 8) : Mid (xs ++ bl_tc.getD j []) := by
  have h : Mid (bl_tc.getD j []) := mid_wrd j hj
  exact h.app
theorem mid_32 {xs : List Int32} (v : Nat) : Mid (xs ++ 32 :: num v) := by
  have : Mid ([32] ++ num v) := (mid_num v).app
  exact this.app
theorem x_spell (hx : XI σ s) (ok : SOk s n) (i : Int32) (hi : (-1 : Int32) ≤ i) : ∃ σ1, f_X9_spell σ 0 i = some (txA (spC (sv s) 3) i, σ1) ∧ XI σ1 s := by
  have h8 := ok.1.n8
  have h5 := ok.1.k5
  have l152 : ∀ (r k m : Nat) (ρ : bl_St), k + r = 3 → r < m → XP ρ s (spC (sv s) k) → ∃ σ1, bl_fx (fun _ _ _ _ => none) (b_X9_spell_152) m ρ 0 i (nI k) = some (txA (spC (sv s) 3) i, σ1) ∧ XI σ1 s := by
    intro r
    induction r with
    | zero =>
      intro k m ρ hk hm h
      obtain ⟨m, rfl⟩ : ∃ z, m = z + 1 := ⟨m - 1, by omega⟩
      have hk3 : k = 3 := by omega
      subst hk3
      refine ⟨ρ, ?_, h.1⟩
      have hl := spC_len ok.1 (Nat.le_refl 3)
      rw [fx_succ]
      unfold b_X9_spell_152
      rw [if_pos (by decide), h.1.1.1.1.2.1, x_sign h.2 (by omega), bd_some]
    | succ r ih =>
      intro k m ρ hk hm h
      obtain ⟨m, rfl⟩ : ∃ z, m = z + 1 := ⟨m - 1, by omega⟩
      have hl := spC_len ok.1 (show k + 1 ≤ 3 by omega)
      have el : (spC (sv s) (k + 1)).length = (spC (sv s) k).length + (gR (sv s) k).length := by
        show (spB (sv s) (tK (sv s)) ++ (catT (gR (sv s)) k ++ gR (sv s) k)).length = _
        rw [← List.append_assoc, List.length_append]
      rw [row_len, nms_len] at el
      have z0 : (nms (fun _ => rOf (sv s) k) 0).length = 0 := rfl
      have hv := rOf_le ok.1 k
      obtain ⟨σa, ea, ha⟩ := xp_word h (show 2 + k < 8 by omega) (sta_C _ _) (by omega)
      have er : bl_I σa (bl_R σa (bl_R σa 0 2) 4) k = nI (rOf (sv s) k) := by
        have T := ha.1.2.1
        rw [ha.1.1.1.1.2.2.1, T.1.2.2]
        unfold rOf
        rcases (show k = 0 ∨ k = 1 ∨ k = 2 by omega) with rfl | rfl | rfl
        · exact T.2.2.2.2.1
        · exact T.2.2.2.2.2.1
        · exact T.2.2.2.2.2.2
      obtain ⟨σb, eb, hb⟩ := xp_num (v := rOf (sv s) k) ha (by omega) (mid_word (by omega)) (by rw [List.length_append, num_len]; omega)
      obtain ⟨σc, ec, hc⟩ := xp_end hb (by rw [List.length_append, List.length_append]; show (spC (sv s) k).length + _ + ((num (rOf (sv s) k)).length + 1) < 256; rw [num_len]; omega)
      have hc' : XP σc s (spC (sv s) (k + 1)) := by
        show XP σc s (spB (sv s) (tK (sv s)) ++ (catT (gR (sv s)) k ++ (bl_tc.getD (2 + k) [] ++ nms (fun _ => rOf (sv s) k) 1 ++ [59])))
        show XP σc s (spB (sv s) (tK (sv s)) ++ (catT (gR (sv s)) k ++ (bl_tc.getD (2 + k) [] ++ ([] ++ 32 :: num (rOf (sv s) k)) ++ [59])))
        rw [List.nil_append, ← List.append_assoc, ← List.append_assoc, ← List.append_assoc]
        exact hc
      obtain ⟨σ1, e1, q⟩ := ih (k + 1) m σc (by omega) (by omega) hc'
      refine ⟨σ1, ?_, q⟩
      rw [fx_succ]
      show (if (3 : Int32) ≤ nI k then _ else _) = _
      rw [if_neg (show ¬ (3 : Int32) ≤ nI k from nI_ge (b := 3) (by omega) (by decide)), show (2 : Int32) = nI 2 from rfl, nI_add, x_word_of ρ (by omega), bd_some, h.1.1.1.1.2.1, ea, bd_some, in_nI (by omega) (by decide), gd_true, nI_clamp (by omega), er, ha.1.1.1.1.2.1, eb, bd_some, hb.1.1.1.1.2.1, ec, bd_some, let_eq, nI_1]
      exact e1
  have l83 : ∀ (r q m : Nat) (ρ : bl_St), q + r = tK (sv s) → r < m → XP ρ s (spB (sv s) q) → ∃ σ1, bl_fx (fun _ _ _ _ => none) (b_X9_spell_83) m ρ 0 i (nI q) = some (txA (spC (sv s) 3) i, σ1) ∧ XI σ1 s := by
    intro r
    induction r with
    | zero =>
      intro q m ρ hq hm h
      obtain ⟨m, rfl⟩ : ∃ z, m = z + 1 := ⟨m - 1, by omega⟩
      have hqk : q = tK (sv s) := by omega
      obtain ⟨σ1, e1, z⟩ := l152 3 0 bl_fu ρ (by omega) (by unfold bl_fu; omega) (by show XP ρ s (spB (sv s) (tK (sv s)) ++ []); rw [List.append_nil, ← hqk]; exact h)
      refine ⟨σ1, ?_, z⟩
      rw [fx_succ]
      show (if bl_I ρ (bl_R ρ 0 2) 1 ≤ nI q then _ else _) = _
      rw [h.1.1.1.1.2.2.1, h.1.2.1.2.1.2, if_pos (nI_le (by omega) (by omega))]
      exact e1
    | succ r ih =>
      intro q m ρ hq hm h
      obtain ⟨m, rfl⟩ : ∃ z, m = z + 1 := ⟨m - 1, by omega⟩
      have hqk : q < tK (sv s) := by omega
      have hl := spB_len ok.1 (show q + 1 ≤ tK (sv s) by omega)
      have el : (spB (sv s) (q + 1)).length = (spB (sv s) q).length + (gS (sv s) q).length := by
        show (spA (sv s) (tN (sv s)) ++ (catT (gS (sv s)) q ++ gS (sv s) q)).length = _
        rw [← List.append_assoc, List.length_append]
      rw [row_len, nms_len, nms_len] at el
      have z0 : (nms (fun k => tS (sv s) (2 * q + k)) 0).length = 0 := rfl
      have hv := (ok.1.2.2.1 q hqk)
      obtain ⟨σa, ea, ha⟩ := xp_word h (show 1 < 8 by omega) (sta_B _ _) (by omega)
      obtain ⟨σb, eb, hb⟩ := xp_num (v := tS (sv s) (2 * q + 0)) ha (by rw [Nat.add_zero]; omega) (mid_word (by omega)) (by rw [List.length_append, num_len]; omega)
      obtain ⟨σc, ec, hc⟩ := xp_num (v := tS (sv s) (2 * q + 1)) hb (by omega) (mid_32 _) (by rw [List.length_append, List.length_append]; show (spB (sv s) q).length + _ + ((num (tS (sv s) (2 * q + 0))).length + 1) + 1 + _ ≤ 256; rw [num_len, num_len]; omega)
      obtain ⟨σd, ed, hd⟩ := xp_end hc (by rw [List.length_append, List.length_append, List.length_append]; show (spB (sv s) q).length + _ + ((num (tS (sv s) (2 * q + 0))).length + 1) + ((num (tS (sv s) (2 * q + 1))).length + 1) < 256; rw [num_len, num_len]; omega)
      have hd' : XP σd s (spB (sv s) (q + 1)) := by
        show XP σd s (spA (sv s) (tN (sv s)) ++ (catT (gS (sv s)) q ++ (bl_tc.getD 1 [] ++ (([] ++ 32 :: num (tS (sv s) (2 * q + 0))) ++ 32 :: num (tS (sv s) (2 * q + 1))) ++ [59])))
        rw [List.nil_append, ← List.append_assoc, ← List.append_assoc, ← List.append_assoc, ← List.append_assoc]
        exact hd
      obtain ⟨σ1, e1, z⟩ := ih (q + 1) m σd (by omega) (by omega) hd'
      refine ⟨σ1, ?_, z⟩
      rw [fx_succ]
      show (if bl_I ρ (bl_R ρ 0 2) 1 ≤ nI q then _ else _) = _
      rw [h.1.1.1.1.2.2.1, h.1.2.1.2.1.2, if_neg (nI_ge (by omega) (by omega)), show f_X9_wordOf ρ 1 = _ from x_word_of ρ (k := 1) (by decide), bd_some, h.1.1.1.1.2.1, ea, bd_some, ha.1.1.1.1.2.2.1, show (0 : Int32) = nI 0 from rfl, x_sortPart ha.1.2.1 ok.1 hqk (by decide), bd_some, ha.1.1.1.1.2.1, eb, bd_some, hb.1.1.1.1.2.2.1, show (1 : Int32) = nI 1 from rfl, x_sortPart hb.1.2.1 ok.1 hqk (by decide), bd_some, hb.1.1.1.1.2.1, ec, bd_some, hc.1.1.1.1.2.1, ed, bd_some, let_eq, nI_add]
      exact e1
  have l41 : ∀ (c : Nat), c < tN (sv s) → ∀ (k17 : bl_St → Nat → Int32 → Int32 → Option (Int32 × bl_St)) (r w m : Nat) (ρ : bl_St), w + r = 5 → r < m → XP ρ s (spA (sv s) c ++ bl_tc.getD 0 [] ++ nms (fun k => tC (sv s) (5 * c + k)) w) → ∃ σ1, bl_fx (fun _ _ _ _ _ => none) (b_X9_spell_41 k17) m ρ 0 i (nI c) (nI w) = k17 σ1 0 i (nI (c + 1)) ∧ XP σ1 s (spA (sv s) (c + 1)) := by
    intro c hc k17 r
    have hl := spA_len ok.1 (show c + 1 ≤ tN (sv s) by omega)
    have el : (spA (sv s) (c + 1)).length = (spA (sv s) c).length + (gC (sv s) c).length := by
      show (catT (gC (sv s)) c ++ gC (sv s) c).length = _
      rw [List.length_append]
    rw [row_len] at el
    have mono : ∀ d, d ≤ 5 → (nms (fun k => tC (sv s) (5 * c + k)) (5 - d)).length ≤ (nms (fun k => tC (sv s) (5 * c + k)) 5).length := by
      intro d
      induction d with
      | zero => intro _; exact Nat.le_refl _
      | succ d ih =>
        intro hd
        have h1 := ih (by omega)
        have h2 := nms_len (fun k => tC (sv s) (5 * c + k)) (5 - (d + 1))
        rw [show 5 - (d + 1) + 1 = 5 - d by omega] at h2
        omega
    induction r with
    | zero =>
      intro w m ρ hw hm h
      obtain ⟨m, rfl⟩ : ∃ z, m = z + 1 := ⟨m - 1, by omega⟩
      have hw5 : w = 5 := by omega
      subst hw5
      obtain ⟨σa, ea, ha⟩ := xp_end h (by rw [List.length_append, List.length_append]; omega)
      refine ⟨σa, ?_, ?_⟩
      · rw [fx_succ]
        unfold b_X9_spell_41
        rw [if_pos (by decide), h.1.1.1.1.2.1, ea, bd_some, let_eq, nI_1]
      · show XP σa s (spA (sv s) c ++ (bl_tc.getD 0 [] ++ nms (fun k => tC (sv s) (5 * c + k)) 5 ++ [59]))
        rw [← List.append_assoc, ← List.append_assoc]
        exact ha
    | succ r ih =>
      intro w m ρ hw hm h
      obtain ⟨m, rfl⟩ : ∃ z, m = z + 1 := ⟨m - 1, by omega⟩
      have hcp := ok.1.cp (i := 5 * c + w) (by omega)
      have hmo := mono (5 - (w + 1)) (by omega)
      rw [show 5 - (5 - (w + 1)) = w + 1 by omega, nms_len] at hmo
      obtain ⟨σa, ea, ha⟩ := xp_num (v := tC (sv s) (5 * c + w)) h (by omega) (mid_nms (mid_word (by decide)) _ _) (by rw [List.length_append, List.length_append, num_len]; omega)
      rw [List.append_assoc] at ha
      obtain ⟨σ1, e1, z⟩ := ih (w + 1) m σa (by omega) (by omega) ha
      refine ⟨σ1, ?_, z⟩
      rw [fx_succ]
      show (if (5 : Int32) ≤ nI w then _ else _) = _
      rw [if_neg (show ¬ (5 : Int32) ≤ nI w from nI_ge (b := 5) (by omega) (by decide)), h.1.1.1.1.2.2.1, x_part h.1.2.1 ok.1 hc (by omega), bd_some, h.1.1.1.1.2.1, ea, bd_some, let_eq, nI_1]
      exact e1
  have l17 : ∀ (r c m : Nat) (ρ : bl_St), c + r = tN (sv s) → r < m → XP ρ s (spA (sv s) c) → ∃ σ1, bl_fx (fun _ _ _ _ => none) (b_X9_spell_17) m ρ 0 i (nI c) = some (txA (spC (sv s) 3) i, σ1) ∧ XI σ1 s := by
    intro r
    induction r with
    | zero =>
      intro c m ρ hc hm h
      obtain ⟨m, rfl⟩ : ∃ z, m = z + 1 := ⟨m - 1, by omega⟩
      have hcN : c = tN (sv s) := by omega
      obtain ⟨σ1, e1, z⟩ := l83 (tK (sv s)) 0 bl_fu ρ (by omega) (by unfold bl_fu; omega) (by show XP ρ s (spA (sv s) (tN (sv s)) ++ []); rw [List.append_nil, ← hcN]; exact h)
      refine ⟨σ1, ?_, z⟩
      rw [fx_succ]
      show (if bl_I ρ (bl_R ρ 0 2) 0 ≤ nI c then _ else _) = _
      rw [h.1.1.1.1.2.2.1, h.1.2.1.2.1.1, if_pos (nI_le (by omega) (by omega))]
      exact e1
    | succ r ih =>
      intro c m ρ hc hm h
      obtain ⟨m, rfl⟩ : ∃ z, m = z + 1 := ⟨m - 1, by omega⟩
      have hcN : c < tN (sv s) := by omega
      have hl := spA_len ok.1 (show c + 1 ≤ tN (sv s) by omega)
      have el : (spA (sv s) (c + 1)).length = (spA (sv s) c).length + (gC (sv s) c).length := by
        show (catT (gC (sv s)) c ++ gC (sv s) c).length = _
        rw [List.length_append]
      rw [row_len] at el
      obtain ⟨σa, ea, ha⟩ := xp_word h (show 0 < 8 by omega) (sta_A _ _) (by omega)
      obtain ⟨σb, eb, hb⟩ := l41 c hcN (bl_fx (fun _ _ _ _ => none) (b_X9_spell_17) m) 5 0 bl_fu σa (by omega) (by unfold bl_fu; omega) (by show XP σa s (spA (sv s) c ++ bl_tc.getD 0 [] ++ []); rw [List.append_nil]; exact ha)
      obtain ⟨σ1, e1, z⟩ := ih (c + 1) m σb (by omega) (by omega) hb
      refine ⟨σ1, ?_, z⟩
      rw [fx_succ]
      show (if bl_I ρ (bl_R ρ 0 2) 0 ≤ nI c then _ else _) = _
      rw [h.1.1.1.1.2.2.1, h.1.2.1.2.1.1, if_neg (nI_ge (by omega) (by omega)), show f_X9_wordOf ρ 0 = _ from x_word_of ρ (k := 0) (by decide), bd_some, h.1.1.1.1.2.1, ea, bd_some]
      exact eb.trans e1
  obtain ⟨σa, qa⟩ : ∃ z, z = bl_pI σ 8 1 0 := ⟨_, rfl⟩
  have ka : Kq pgS σ σa := by rw [qa]; exact (Kq.rf pgS σ).pI (Or.inl rfl) _ _
  have xa := hx.pg ka (by rw [qa]; rfl)
  have pa : PG σa [] := ⟨⟨xa.1.2.2.1, by rw [qa, I_pI_self]; rfl⟩, fun i c h => by simp at h⟩
  obtain ⟨σ1, e1, q⟩ := l17 (tN (sv s)) 0 bl_fu σa (by omega) (by unfold bl_fu; omega) ⟨xa, pa⟩
  refine ⟨σ1, ?_, q⟩
  unfold f_X9_spell
  rw [if_pos hi, let_eq, hx.1.1.1.2.1, ← qa]
  exact e1
def MP (τ : bl_St) (s : st_V) (xs : List Int32) : Prop := MI τ s ∧ PM9 τ xs
theorem mp_row {xs : List Int32} {w n a : Nat} {f : Nat → Nat} (h : MP τ s xs) (hw5 : w < 5) (hf : ∀ k, k < n → bl_I τ 140 (a + k) = nI (f k) ∧ f k ≤ 9999) (ha : a + n ≤ 167) (hl : xs.length + (rowT w f n).length ≤ 400) : ∃ τ1, f_X10_writesRow τ 139 (nI w) (nI a) (nI n) = some ((), τ1) ∧ MP τ1 s (xs ++ rowT w f n) := by
  obtain ⟨τ1, e1, p1, x1⟩ := m_row h.2 h.1.wd h.1.1.1.1.1.1 hw5 hf ha hl
  exact ⟨τ1, e1, h.1.tx x1, p1⟩
theorem m_spell (hm : MI τ s) (ok : SOk s n) (i : Int32) (hi : (-1 : Int32) ≤ i) : ∃ τ1, f_X10_spell τ 139 i = some (txA (spC (sv s) 3) i, τ1) ∧ MI τ1 s := by
  have h8 := ok.1.n8
  have h5 := ok.1.k5
  have l43 : ∀ (r q m : Nat) (ρ : bl_St), q + r = tK (sv s) → r < m → MP ρ s (spB (sv s) q) → ∃ τ1, bl_fx (fun _ _ _ _ => none) (b_X10_spell_43) m ρ 139 i (nI q) = some (txA (spC (sv s) 3) i, τ1) ∧ MI τ1 s := by
    intro r
    induction r with
    | zero =>
      intro q m ρ hq hm h
      obtain ⟨m, rfl⟩ : ∃ z, m = z + 1 := ⟨m - 1, by omega⟩
      have hqk : q = tK (sv s) := by omega
      have e1' := h.1.2.1.1.2
      rw [Nat.zero_add] at e1'
      have rul : ∀ ρ, MI ρ s → ∀ k, k < 3 → ∀ j, j < 1 → bl_I ρ 140 (2 + k + j) = nI (rOf (sv s) k) ∧ rOf (sv s) k ≤ 9999 := fun ρ hp k hk j hj => by
        have := rOf_le ok.1 k
        refine ⟨?_, by omega⟩
        have q := hp.2.1.2.1
        simp only [Nat.zero_add] at q
        rw [show j = 0 by omega]
        unfold rOf
        rcases (show k = 0 ∨ k = 1 ∨ k = 2 by omega) with rfl | rfl | rfl
        · exact q.1
        · exact q.2.1
        · exact q.2.2
      have h0 : MP ρ s (spC (sv s) 0) := by
        show MP ρ s (spB (sv s) (tK (sv s)) ++ [])
        rw [List.append_nil, ← hqk]
        exact h
      have step : ∀ ρ k, k < 3 → MP ρ s (spC (sv s) k) → ∃ ρ1, f_X10_writesRow ρ 139 (nI (2 + k)) (nI (2 + k)) (nI 1) = some ((), ρ1) ∧ MP ρ1 s (spC (sv s) (k + 1)) := fun ρ k hk hp => by
        have hl := spC_len ok.1 (show k + 1 ≤ 3 by omega)
        have el : (spC (sv s) (k + 1)).length = (spC (sv s) k).length + (gR (sv s) k).length := by
          show (spB (sv s) (tK (sv s)) ++ (catT (gR (sv s)) k ++ gR (sv s) k)).length = _
          rw [← List.append_assoc, List.length_append]
        obtain ⟨ρ1, e1, p1⟩ := mp_row (w := 2 + k) (a := 2 + k) (n := 1) (f := fun _ => rOf (sv s) k) hp (by omega) (rul ρ hp.1 k hk) (by omega) (by show (spC (sv s) k).length + (gR (sv s) k).length ≤ 400; omega)
        refine ⟨ρ1, e1, ?_⟩
        show MP ρ1 s (spB (sv s) (tK (sv s)) ++ (catT (gR (sv s)) k ++ gR (sv s) k))
        rw [← List.append_assoc]
        exact p1
      obtain ⟨ρ1, e1, p1⟩ := step ρ 0 (by decide) h0
      obtain ⟨ρ2, e2, p2⟩ := step ρ1 1 (by decide) p1
      obtain ⟨ρ3, e3, p3⟩ := step ρ2 2 (by decide) p2
      have p3 : MP ρ3 s (spC (sv s) 3) := p3
      have hl := spC_len ok.1 (Nat.le_refl 3)
      refine ⟨ρ3, ?_, p3.1⟩
      rw [fx_succ]
      unfold b_X10_spell_43
      rw [h.1.1.1.1.1.1, e1', if_pos (nI_le (by omega) (by omega)), show f_X10_writesRow ρ 139 2 2 1 = _ from e1, bd_some, show f_X10_writesRow ρ1 139 3 3 1 = _ from e2, bd_some, show f_X10_writesRow ρ2 139 4 4 1 = _ from e3, bd_some, m_told p3.2 (by omega) hi, bd_some]
    | succ r ih =>
      intro q m ρ hq hm h
      obtain ⟨m, rfl⟩ : ∃ z, m = z + 1 := ⟨m - 1, by omega⟩
      have hqk : q < tK (sv s) := by omega
      have e1' := h.1.2.1.1.2
      rw [Nat.zero_add] at e1'
      have hl := spB_len ok.1 (show q + 1 ≤ tK (sv s) by omega)
      have el : (spB (sv s) (q + 1)).length = (spB (sv s) q).length + (gS (sv s) q).length := by
        show (spA (sv s) (tN (sv s)) ++ (catT (gS (sv s)) q ++ gS (sv s) q)).length = _
        rw [← List.append_assoc, List.length_append]
      obtain ⟨τa, ea, pa⟩ := mp_row (w := 1) (a := 45 + 2 * q) (n := 2) (f := fun k => tS (sv s) (2 * q + k)) h (by decide) (fun k hk => by
        have hs := ok.1.sp (i := 2 * q + k) (by omega)
        have hz := h.1.2.1.2.2.2 (2 * q + k) (by omega)
        rw [show 0 + 45 + (2 * q + k) = 45 + 2 * q + k by omega] at hz
        exact ⟨hz, by omega⟩) (by omega) (by show (spB (sv s) q).length + (gS (sv s) q).length ≤ 400; omega)
      have pa' : MP τa s (spB (sv s) (q + 1)) := by
        show MP τa s (spA (sv s) (tN (sv s)) ++ (catT (gS (sv s)) q ++ gS (sv s) q))
        rw [← List.append_assoc]
        exact pa
      obtain ⟨τ1, e1, z⟩ := ih (q + 1) m τa (by omega) (by omega) pa'
      refine ⟨τ1, ?_, z⟩
      rw [fx_succ]
      show (if bl_I ρ (bl_R ρ 139 1) 1 ≤ nI q then _ else _) = _
      rw [h.1.1.1.1.1.1, e1', if_neg (nI_ge (by omega) (by omega)), show (45 : Int32) + 2 * nI q = nI (45 + 2 * q) by rw [show (2 : Int32) = nI 2 from rfl, show (45 : Int32) = nI 45 from rfl, nI_mul, nI_add], show f_X10_writesRow ρ 139 1 (nI (45 + 2 * q)) 2 = _ from ea, bd_some, let_eq, nI_1]
      exact e1
  have l14 : ∀ (r c m : Nat) (ρ : bl_St), c + r = tN (sv s) → r < m → MP ρ s (spA (sv s) c) → ∃ τ1, bl_fx (fun _ _ _ _ => none) (b_X10_spell_14) m ρ 139 i (nI c) = some (txA (spC (sv s) 3) i, τ1) ∧ MI τ1 s := by
    intro r
    induction r with
    | zero =>
      intro c m ρ hc hm h
      obtain ⟨m, rfl⟩ : ∃ z, m = z + 1 := ⟨m - 1, by omega⟩
      have hcN : c = tN (sv s) := by omega
      have e0 := h.1.2.1.1.1
      obtain ⟨τ1, e1, z⟩ := l43 (tK (sv s)) 0 bl_fu ρ (by omega) (by unfold bl_fu; omega) (by show MP ρ s (spA (sv s) (tN (sv s)) ++ []); rw [List.append_nil, ← hcN]; exact h)
      refine ⟨τ1, ?_, z⟩
      rw [fx_succ]
      show (if bl_I ρ (bl_R ρ 139 1) 0 ≤ nI c then _ else _) = _
      rw [h.1.1.1.1.1.1, e0, if_pos (nI_le (by omega) (by omega))]
      exact e1
    | succ r ih =>
      intro c m ρ hc hm h
      obtain ⟨m, rfl⟩ : ∃ z, m = z + 1 := ⟨m - 1, by omega⟩
      have hcN : c < tN (sv s) := by omega
      have e0 := h.1.2.1.1.1
      have hl := spA_len ok.1 (show c + 1 ≤ tN (sv s) by omega)
      have el : (spA (sv s) (c + 1)).length = (spA (sv s) c).length + (gC (sv s) c).length := by
        show (catT (gC (sv s)) c ++ gC (sv s) c).length = _
        rw [List.length_append]
      obtain ⟨τa, ea, pa⟩ := mp_row (w := 0) (a := 5 + 5 * c) (n := 5) (f := fun k => tC (sv s) (5 * c + k)) h (by decide) (fun k hk => by
        have hs := ok.1.cp (i := 5 * c + k) (by omega)
        have hz := h.1.2.1.2.2.1 (5 * c + k) (by omega)
        rw [show 0 + 5 + (5 * c + k) = 5 + 5 * c + k by omega] at hz
        exact ⟨hz, by omega⟩) (by omega) (by show (spA (sv s) c).length + (gC (sv s) c).length ≤ 400; omega)
      obtain ⟨τ1, e1, z⟩ := ih (c + 1) m τa (by omega) (by omega) pa
      refine ⟨τ1, ?_, z⟩
      rw [fx_succ]
      show (if bl_I ρ (bl_R ρ 139 1) 0 ≤ nI c then _ else _) = _
      rw [h.1.1.1.1.1.1, e0, if_neg (nI_ge (by omega) (by omega)), show (5 : Int32) + 5 * nI c = nI (5 + 5 * c) by rw [show (5 : Int32) = nI 5 from rfl, nI_mul, nI_add], show f_X10_writesRow ρ 139 0 (nI (5 + 5 * c)) 5 = _ from ea, bd_some, let_eq, nI_1]
      exact e1
  obtain ⟨τa, qa⟩ : ∃ z, z = bl_pI τ 139 19 0 := ⟨_, rfl⟩
  have ma : MI τa s := by rw [qa]; exact hm.f9 (by decide) (by decide) _
  have pa : PM9 τa [] := ⟨⟨ma.1.1.2.2.1, by rw [qa, I_pI_self]; rfl⟩, fun i c h => by simp at h⟩
  obtain ⟨τ1, e1, q⟩ := l14 (tN (sv s)) 0 bl_fu τa (by omega) (by unfold bl_fu; omega) ⟨ma, pa⟩
  refine ⟨τ1, ?_, q⟩
  unfold f_X10_spell
  rw [if_pos hi, let_eq, ← qa]
  exact e1
theorem op_spell (ok : SOk s n) (i : Int32) : Both n s (fun σ => f_X9_spell σ 0 i) (fun τ => f_X10_spell τ 139 i) := by
  by_cases hi : (-1 : Int32) ≤ i
  · exact Both.same ok (txA (spC (sv s) 3) i) (fun σ hx => x_spell hx ok i hi) (fun τ hm => m_spell hm ok i hi)
  · refine Both.same ok (-1) (fun σ hx => ⟨σ, ?_, hx⟩) (fun τ hm => ⟨τ, ?_, hm⟩)
    · show f_X9_spell σ 0 i = _
      unfold f_X9_spell
      rw [if_neg hi]
    · show f_X10_spell τ 139 i = _
      unfold f_X10_spell
      rw [if_neg hi]
end SPL
