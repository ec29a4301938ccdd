/-! ===== the system in numbers: cells by number; ints, longs, references by cell and place ===== -/
abbrev bl_St : Type := (Nat → Nat → Int32) × (Nat → Nat → Int64) × (Nat → Nat → Nat)
abbrev bl_I (σ : bl_St) : Nat → Nat → Int32 := σ.1
abbrev bl_J (σ : bl_St) : Nat → Nat → Int64 := σ.2.1
abbrev bl_R (σ : bl_St) : Nat → Nat → Nat := σ.2.2
def bl_u {α : Type} (f : Nat → Nat → α) (i k : Nat) (v : α) : Nat → Nat → α := fun a b => if a = i then (if b = k then v else f a b) else f a b
def bl_row {α : Type} (f : Nat → Nat → α) (i : Nat) (h : Nat → α) : Nat → Nat → α := fun a => if a = i then h else f a
def bl_pI (σ : bl_St) (i k : Nat) (v : Int32) : bl_St := (bl_u σ.1 i k v, σ.2)
def bl_pJ (σ : bl_St) (i k : Nat) (v : Int64) : bl_St := (σ.1, bl_u σ.2.1 i k v, σ.2.2)
def bl_pR (σ : bl_St) (i k : Nat) (v : Nat) : bl_St := (σ.1, σ.2.1, bl_u σ.2.2 i k v)
def bl_cI (σ : bl_St) (si sp di dp n : Nat) : bl_St := (bl_row σ.1 di (va_cpy (σ.1 si) (σ.1 di) sp dp n), σ.2)
def bl_cJ (σ : bl_St) (si sp di dp n : Nat) : bl_St := (σ.1, bl_row σ.2.1 di (va_cpy (σ.2.1 si) (σ.2.1 di) sp dp n), σ.2.2)
def bl_cS (σ : bl_St) (f : Nat → Int32) (sp di dp n : Nat) : bl_St := (bl_row σ.1 di (va_cpy f (σ.1 di) sp dp n), σ.2)
/-- what a launch gives: the first cell of ours, where each is, the classes, the Strings -/
abbrev bl_Gp : Type := Nat × (Nat → Nat) × va_G × (Nat → ClassId) × (Nat → Nat) × (Nat → Nat)
abbrev bl_b (g : bl_Gp) : Nat := g.1
abbrev bl_ad (g : bl_Gp) : Nat → Nat := g.2.1
abbrev bl_D (g : bl_Gp) : va_G := g.2.2.1
abbrev bl_cA (g : bl_Gp) : Nat → ClassId := g.2.2.2.1
abbrev bl_kK (g : bl_Gp) : Nat → Nat := g.2.2.2.2.1
abbrev bl_kV (g : bl_Gp) : Nat → Nat := g.2.2.2.2.2
/-- kinds: 0 .. 10 a class by its place in vwCl and its fields; 20 int rows, 21 long, 22 byte, 23 boolean, 24 of Terms, 25 of Life, and their lengths -/
def bl_sh : List (Nat × Nat) := [(9, 13), (7, 6), (20, 400), (20, 5), (8, 5), (20, 40), (20, 10), (20, 3), (5, 2), (20, 256), (8, 5), (20, 40), (20, 10), (20, 3), (8, 5), (20, 40), (20, 10), (20, 3), (2, 15), (20, 48), (20, 48), (2, 15), (20, 48), (20, 48), (6, 4), (24, 12), (25, 12), (8, 5), (20, 40), (20, 10), (20, 3), (2, 15), (20, 48), (20, 48), (8, 5), (20, 40), (20, 10), (20, 3), (2, 15), (20, 48), (20, 48), (8, 5), (20, 40), (20, 10), (20, 3), (2, 15), (20, 48), (20, 48), (8, 5), (20, 40), (20, 10), (20, 3), (2, 15), (20, 48), (20, 48), (8, 5), (20, 40), (20, 10), (20, 3), (2, 15), (20, 48), (20, 48), (8, 5), (20, 40), (20, 10), (20, 3), (2, 15), (20, 48), (20, 48), (8, 5), (20, 40), (20, 10), (20, 3), (2, 15), (20, 48), (20, 48), (8, 5), (20, 40), (20, 10), (20, 3), (2, 15), (20, 48), (20, 48), (8, 5), (20, 40), (20, 10), (20, 3), (2, 15), (20, 48), (20, 48), (8, 5), (20, 40), (20, 10), (20, 3), (2, 15), (20, 48), (20, 48), (8, 5), (20, 40), (20, 10), (20, 3), (2, 15), (20, 48), (20, 48), (8, 5), (20, 40), (20, 10), (20, 3), (2, 15), (20, 48), (20, 48), (4, 12), (3, 8), (21, 5), (21, 5), (21, 5), (20, 5), (21, 168), (21, 42), (4, 12), (3, 8), (21, 5), (21, 5), (21, 5), (20, 5), (21, 168), (21, 42), (1, 4), (21, 64), (21, 64), (21, 63), (3, 8), (21, 5), (21, 5), (21, 5), (20, 5), (0, 1), (21, 8), (21, 8), (10, 28), (20, 167), (20, 167), (20, 167), (20, 2004), (21, 168), (23, 168), (21, 42), (21, 8), (21, 8), (21, 1344), (21, 63), (20, 400), (20, 400), (22, 45)]
def bl_ft : List (List Nat) := [[0], [2, 2, 2, 2], [0, 0, 0, 0, 0, 0, 0, 0, 0, 0, 0, 0, 0, 2, 2], [0, 1, 1, 0, 2, 2, 2, 2], [2, 0, 0, 0, 0, 0, 0, 0, 0, 2, 2, 2], [2, 0], [2, 2, 0, 0], [2, 2, 2, 0, 0, 0], [0, 0, 2, 2, 2], [2, 2, 2, 2, 2, 2, 2, 2, 2, 2, 2, 2, 2], [0, 2, 2, 2, 2, 0, 0, 2, 2, 2, 0, 0, 0, 0, 2, 2, 2, 2, 2, 0, 2, 0, 2, 0, 0, 0, 0, 0]]
def bl_rt : List (List (Option (Nat × Nat))) := [[none], [some (21, 64), some (21, 64), some (21, 63), some (3, 8)], [none, none, none, none, none, none, none, none, none, none, none, none, none, some (20, 48), some (20, 48)], [none, none, none, none, some (21, 5), some (21, 5), some (21, 5), some (20, 5)], [some (8, 5), none, none, none, none, none, none, none, none, some (3, 8), some (21, 168), some (21, 42)], [some (20, 256), none], [some (24, 12), some (25, 12), none, none], [some (20, 400), some (20, 5), some (8, 5), none, none, none], [none, none, some (20, 40), some (20, 10), some (20, 3)], [some (7, 6), some (5, 2), some (8, 5), some (8, 5), some (2, 15), some (2, 15), some (6, 4), some (4, 12), some (4, 12), some (1, 4), some (0, 1), some (21, 8), some (21, 8)], [none, some (20, 167), some (20, 167), some (20, 167), some (20, 2004), none, none, some (21, 168), some (23, 168), some (21, 42), none, none, none, none, some (21, 8), some (21, 8), some (21, 1344), some (21, 63), some (20, 400), none, some (20, 400), none, some (22, 45), none, none, none, none, none]]
def bl_rf (g : bl_Gp) (r : Nat) : Option Nat := if r = 0 then none else some (bl_ad g r)
def bl_val (g : bl_Gp) (σ : bl_St) (i t k : Nat) : Value := if t = 0 then .int (bl_I σ i k) else if t = 1 then .long (bl_J σ i k) else va_rf (bl_rf g (bl_R σ i k))
def bl_fs (g : bl_Gp) (σ : bl_St) (ci i : Nat) : List Value := (bl_ft.getD ci []).zipIdx.map (fun q => bl_val g σ i q.1 q.2)
def bl_en (g : bl_Gp) (σ : bl_St) (i : Nat) (q : Nat × Nat) : va_E :=
  if q.1 = 20 then .inl (bl_cA g 0, q.2, .inl (bl_I σ i))
  else if q.1 = 21 then .inl (bl_cA g 1, q.2, .inr (.inl (bl_J σ i)))
  else if q.1 = 22 then .inl (bl_cA g 2, q.2, .inl (bl_I σ i))
  else if q.1 = 23 then .inl (bl_cA g 3, q.2, .inl (bl_I σ i))
  else if q.1 = 24 then .inl (bl_cA g 4, q.2, .inr (.inr (.inr (.inr (fun j => bl_rf g (bl_R σ i j))))))
  else if q.1 = 25 then .inl (bl_cA g 5, q.2, .inr (.inr (.inr (.inr (fun j => bl_rf g (bl_R σ i j))))))
  else .inr (q.1, bl_fs g σ q.1 i)
def bl_ws (g : bl_Gp) (n : Nat) (σ : bl_St) : va_W := (List.range n).map (fun i => (bl_ad g i, bl_en g σ i (bl_sh.getD i (20, 0))))
def bl_tys (g : bl_Gp) : List (ClassId × FieldType) := [(bl_cA g 0, .int), (bl_cA g 1, .long), (bl_cA g 2, .byte), (bl_cA g 3, .boolean), (bl_cA g 4, .object "BonusLadder$Terms"), (bl_cA g 5, .object "BonusLadder$Life")]
theorem bl_at {g : bl_Gp} {n : Nat} {σ : bl_St} {i : Nat} {q : Nat × Nat} (hi : i < n) (hs : bl_sh[i]? = some q) : (bl_ws g n σ)[i]? = some (bl_ad g i, bl_en g σ i q) := by
  unfold bl_ws
  rw [List.getElem?_map, List.getElem?_range hi]
  simp [List.getD_eq_getElem?_getD, hs]
theorem bl_len : bl_sh.length = 154 := by decide +kernel
theorem bl_lt {i : Nat} {q : Nat × Nat} (hs : bl_sh[i]? = some q) : i < 154 := by
  have h := (List.getElem?_eq_some_iff.mp hs).1
  rw [bl_len] at h
  exact h
theorem bl_fs_at (g : bl_Gp) (σ : bl_St) (ci i k : Nat) : (bl_fs g σ ci i)[k]? = ((bl_ft.getD ci [])[k]?).map (fun t => bl_val g σ i t k) := by
  unfold bl_fs
  rw [List.getElem?_map, List.getElem?_zipIdx]
  cases (bl_ft.getD ci [])[k]? <;> simp
theorem bl_fs_len (g : bl_Gp) (σ : bl_St) (ci i : Nat) : (bl_fs g σ ci i).length = (bl_ft.getD ci []).length := by
  unfold bl_fs
  simp
/-- the references lead where the classes say -/
def bl_WT (σ : bl_St) : Prop :=
  (∀ (i ci N k : Nat) (t : Nat × Nat), bl_sh[i]? = some (ci, N) → (bl_rt.getD ci [])[k]? = some (some t) → bl_R σ i k ≠ 0 ∧ bl_sh[bl_R σ i k]? = some t) ∧
  (∀ i n k : Nat, bl_sh[i]? = some (24, n) → k < n → bl_R σ i k ≠ 0 ∧ bl_sh[bl_R σ i k]? = some (8, 5)) ∧
  (∀ i n k : Nat, bl_sh[i]? = some (25, n) → k < n → bl_R σ i k ≠ 0 ∧ bl_sh[bl_R σ i k]? = some (2, 15))
def bl_A (g : bl_Gp) : Nat → Prop := fun q => bl_b g ≤ q
def bl_Ok (g : bl_Gp) : Prop := (∀ i j, i < 154 → j < 154 → bl_ad g i = bl_ad g j → i = j) ∧ ∀ i, i < 154 → bl_b g ≤ bl_ad g i
theorem bl_ws_at {g : bl_Gp} {n : Nat} {σ : bl_St} {k : Nat} {q : Nat × va_E} (h : (bl_ws g n σ)[k]? = some q) : k < n ∧ q = (bl_ad g k, bl_en g σ k (bl_sh.getD k (20, 0))) := by
  unfold bl_ws at h
  rw [List.getElem?_map] at h
  have hk : k < n := by
    rcases Nat.lt_or_ge k n with z | z
    · exact z
    · rw [List.getElem?_eq_none (by simpa using z)] at h
      cases h
  rw [List.getElem?_range hk] at h
  exact ⟨hk, (Option.some.inj h).symm⟩
theorem bl_Dd {g : bl_Gp} (ok : bl_Ok g) (σ : bl_St) : va_D (bl_A g) (bl_ws g 154 σ) := by
  refine ⟨fun i j p q hi hj hpq => ?_, fun k q hk => ?_⟩
  · obtain ⟨a1, rfl⟩ := bl_ws_at hi
    obtain ⟨a2, rfl⟩ := bl_ws_at hj
    exact ok.1 i j a1 a2 hpq
  · obtain ⟨a1, rfl⟩ := bl_ws_at hk
    exact ok.2 k a1
def bl_P (g : bl_Gp) (σ : bl_St) (H : Heap) : Prop := va_P (bl_D g) vwCl (bl_ws g 154 σ) H ∧ bl_WT σ
/-- a world that differs in one cell -/
theorem bl_set {g : bl_Gp} {n : Nat} {σ σ1 : bl_St} {i : Nat} {q : Nat × Nat} (hs : bl_sh[i]? = some q) (hi : i < n) (ho : ∀ j : Nat, j ≠ i → ∀ r, bl_en g σ1 j r = bl_en g σ j r) : (bl_ws g n σ).set i (bl_ad g i, bl_en g σ1 i q) = bl_ws g n σ1 := by
  apply List.ext_getElem?
  intro k
  by_cases hk : k = i
  · subst hk
    rw [List.getElem?_set_self (by simp [bl_ws]; exact hi), bl_at hi hs]
  · rw [List.getElem?_set_ne (Ne.symm hk)]
    unfold bl_ws
    rw [List.getElem?_map, List.getElem?_map]
    by_cases hn : k < n
    · rw [List.getElem?_range hn]
      simp [ho k hk]
    · rw [List.getElem?_eq_none (by simpa using Nat.not_lt.mp hn)]
      rfl
theorem bl_fs_o {g : bl_Gp} {σ σ1 : bl_St} {j : Nat} (h1 : bl_I σ1 j = bl_I σ j) (h2 : bl_J σ1 j = bl_J σ j) (h3 : bl_R σ1 j = bl_R σ j) (ci : Nat) : bl_fs g σ1 ci j = bl_fs g σ ci j := by
  unfold bl_fs bl_val
  rw [h1, h2, h3]
theorem bl_en_o {g : bl_Gp} {σ σ1 : bl_St} {j : Nat} (h1 : bl_I σ1 j = bl_I σ j) (h2 : bl_J σ1 j = bl_J σ j) (h3 : bl_R σ1 j = bl_R σ j) (r : Nat × Nat) : bl_en g σ1 j r = bl_en g σ j r := by
  unfold bl_en
  rw [bl_fs_o h1 h2 h3, h1, h2, h3]
theorem bl_u_ne {α : Type} {f : Nat → Nat → α} {i k j : Nat} {v : α} (h : j ≠ i) : bl_u f i k v j = f j := by
  funext b
  simp [bl_u, h]
theorem bl_u_eq {α : Type} (f : Nat → Nat → α) (i k : Nat) (v : α) : bl_u f i k v i = fun b => if b = k then v else f i b := by
  funext b
  simp [bl_u]
theorem bl_row_ne {α : Type} {f : Nat → Nat → α} {i j : Nat} {h : Nat → α} (hj : j ≠ i) : bl_row f i h j = f j := by
  simp [bl_row, hj]
theorem bl_row_eq {α : Type} (f : Nat → Nat → α) (i : Nat) (h : Nat → α) : bl_row f i h i = h := by
  simp [bl_row]
theorem bl_fs_set {g : bl_Gp} {σ σ1 : bl_St} {ci i k t : Nat} {v : Value} (ht : (bl_ft.getD ci [])[k]? = some t) (hv : bl_val g σ1 i t k = v) (ho : ∀ t' j : Nat, j ≠ k → bl_val g σ1 i t' j = bl_val g σ i t' j) : (bl_fs g σ ci i).set k v = bl_fs g σ1 ci i := by
  have hl : k < (bl_fs g σ ci i).length := by rw [bl_fs_len]; exact (List.getElem?_eq_some_iff.mp ht).1
  apply List.ext_getElem?
  intro j
  by_cases hj : j = k
  · subst hj
    rw [List.getElem?_set_self hl, bl_fs_at, ht]
    simp [hv]
  · rw [List.getElem?_set_ne (Ne.symm hj), bl_fs_at, bl_fs_at]
    cases (bl_ft.getD ci [])[j]? with
    | none => rfl
    | some t' => simp [ho t' j hj]
theorem bl_ft_kind : ∀ ci k t : Nat, (bl_ft.getD ci [])[k]? = some t → ci < 11 := by
  intro ci k t h
  rcases Nat.lt_or_ge ci 11 with z | z
  · exact z
  · have e0 : bl_ft[ci]? = none := List.getElem?_eq_none (Nat.le_trans (show bl_ft.length ≤ 11 by decide +kernel) z)
    rw [List.getD_eq_getElem?_getD, e0] at h
    simp at h
theorem bl_en_obj {g : bl_Gp} {σ : bl_St} {i ci N : Nat} (h : ci < 11) : bl_en g σ i (ci, N) = .inr (ci, bl_fs g σ ci i) := by
  unfold bl_en
  rw [if_neg (by show ¬ ci = 20; omega), if_neg (by show ¬ ci = 21; omega), if_neg (by show ¬ ci = 22; omega), if_neg (by show ¬ ci = 23; omega), if_neg (by show ¬ ci = 24; omega), if_neg (by show ¬ ci = 25; omega)]
/-! words: all that are kept by a call -/
def bl_tb : List Cond := lw_tbl.filter goodWord
theorem bl_tb_good {w : Cond} (h : w ∈ bl_tb) : w ∈ lw_tbl ∧ ((w.onTables && w.keeps) = true ∨ ∃ ty, w = .arrayClass ty) := ⟨(List.mem_filter.mp h).1, good_of_word (List.mem_filter.mp h).2⟩
theorem bl_in_tb {w : Cond} (h : w ∈ tables_1) (hg : goodWord w = true) : w ∈ bl_tb := List.mem_filter.mpr ⟨List.mem_append_right _ h, hg⟩
theorem bl_in_sel {w : Cond} (h : w ∈ k2_sels lw_privs) (hg : goodWord w = true) : w ∈ bl_tb := List.mem_filter.mpr ⟨List.mem_append_left _ h, hg⟩
/-! constants: the class's static rows, the nest's words, the Strings -/
def bl_sa (g : bl_Gp) (s : State) (nm : String) (xs : List Int32) : Prop := ∃ t : Nat, va_Z "BonusLadder" nm "[I" (.ref t) (bl_A g) s s.heap ∧ va_T .int t xs.length (fun j => .int (xs.getD j 0)) (bl_A g) s s.heap
def bl_CH : List Int32 := [999, 7, 7, 7, 99]
def bl_SH : List Int32 := [999, 9]
def bl_RL : List Int32 := [1, 0, 0]
def bl_RH : List Int32 := [3, 12, 99]
def bl_RF : List Int32 := [2, 3, 0]
def bl_nF : List (String × Nat × String) := [("BonusLadder$Terms", 21, "RULE_AT_FIRST"), ("BonusLadder$Tape", 133, "RULE_LOW"), ("BonusLadder$Tape", 136, "CLASS_HIGH"), ("BonusLadder$Tape", 139, "SORT_HIGH"), ("BonusLadder$Tape", 142, "RULE_HIGH")]
def bl_nM : List (String × Nat × MethodName) := [("BonusLadder", 9, yX7_init), ("BonusLadder", 18, yX5_init), ("BonusLadder", 35, yX2_init), ("BonusLadder$Past", 24, yX2_init), ("BonusLadder$Outlook", 11, yX3_init), ("BonusLadder", 64, yX1_init), ("BonusLadder$House", 23, yX3_init), ("BonusLadder", 71, yX0_init), ("BonusLadder$Tape", 116, yX9_wordOf)]
/-- the texts: class loss chances odds own guard none least; the entry of each in BonusLadder's file -/
def bl_tx : List (Nat × String) := [(413, "class"), (415, "loss"), (417, "chances"), (418, "odds"), (419, "own"), (357, "guard"), (359, "none"), (361, "least")]
def bl_tl : List Nat := [5, 4, 7, 4, 3, 5, 4, 5]
def bl_tc : List (List Int32) := [[99, 108, 97, 115, 115], [108, 111, 115, 115], [99, 104, 97, 110, 99, 101, 115], [111, 100, 100, 115], [111, 119, 110], [103, 117, 97, 114, 100], [110, 111, 110, 101], [108, 101, 97, 115, 116]]
def bl_Cs (g : bl_Gp) (s : State) : Prop :=
  (bl_sa g s "CLASS_HIGH" bl_CH ∧ bl_sa g s "SORT_HIGH" bl_SH ∧ bl_sa g s "RULE_LOW" bl_RL ∧ bl_sa g s "RULE_HIGH" bl_RH ∧ bl_sa g s "RULE_AT_FIRST" bl_RF) ∧
  (∀ q ∈ bl_nF, va_Nw (.fieldLinkNest q.1 q.2.1 "BonusLadder" q.2.2 "[I" "BonusLadder") s) ∧
  (∀ q ∈ bl_nM, va_Nw (.methodLinkNest q.1 q.2.1 q.2.2 "BonusLadder") s) ∧
  vk_S 8 bl_tl bl_tc (bl_kK g) (bl_kV g) (bl_A g) s s.heap ∧
  (∀ j q, bl_tx[j]? = some q → vk_R "BonusLadder" q.1 q.2 (bl_kK g j) s) ∧
  (va_Z "java/lang/String" "COMPACT_STRINGS" "Z" (.int 1) (bl_A g) s s.heap ∧ va_Zq "jdk/internal/util/Preconditions" "SIOOBE_FORMATTER" "Ljava/util/function/BiFunction;" (bl_A g) s s.heap) ∧
  va_AO "BonusLadder$Terms" s ∧ va_AO "BonusLadder$Life" s ∧ bl_Ok g
theorem bl_sa.go {g : bl_Gp} {s U : State} {nm : String} {xs : List Int32} (h : bl_sa g s nm xs) (hvm : s.vm.Alike U.vm) (hq : ∀ a : Nat, a < s.heap.size → ¬ bl_A g a → U.heap[a]? = s.heap[a]?) : bl_sa g U nm xs := by
  obtain ⟨t, h1, h2⟩ := h
  exact ⟨t, (h1.kept hq).moved hvm, (h2.kept hq).moved hvm⟩
