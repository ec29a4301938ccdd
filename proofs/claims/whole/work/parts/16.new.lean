/-! ===== making the cells: worlds that grow ===== -/
def bl_L (g : bl_Gp) : Prop := ∀ i, bl_ad g i = bl_b g + i
def bl_Z (n : Nat) (σ : bl_St) : Prop := ∀ i, n ≤ i → ∀ k, bl_I σ i k = 0 ∧ bl_J σ i k = 0 ∧ bl_R σ i k = 0
def bl_N0 (g : bl_Gp) (n : Nat) (σ : bl_St) (H : Heap) : Prop := va_P (bl_D g) vwCl (bl_ws g n σ) H ∧ H.size = bl_b g + n ∧ bl_Z n σ
def bl_N (g : bl_Gp) (s : State) (n : Nat) (σ : bl_St) (H : Heap) (locs : List Loc) : Prop := bl_N0 g n σ H ∧ va_S (bl_A g) s.heap H locs
theorem bl_Dn {g : bl_Gp} (hL : bl_L g) (n : Nat) (σ : bl_St) : va_D (bl_A g) (bl_ws g n σ) := by
  refine ⟨fun i j p q hi hj hpq => ?_, fun k q hk => ?_⟩
  · obtain ⟨a1, rfl⟩ := bl_ws_at hi
    obtain ⟨a2, rfl⟩ := bl_ws_at hj
    have h : bl_ad g i = bl_ad g j := hpq
    rw [hL, hL] at h
    omega
  · obtain ⟨a1, rfl⟩ := bl_ws_at hk
    show bl_b g ≤ bl_ad g k
    rw [hL]
    omega
theorem bl_Z_pI {n i k : Nat} {σ : bl_St} {v : Int32} (h : bl_Z n σ) (hi : i < n) : bl_Z n (bl_pI σ i k v) := by
  intro j hj b
  have hne : j ≠ i := by omega
  refine ⟨?_, (h j hj b).2⟩
  show bl_u σ.1 i k v j b = 0
  rw [bl_u_ne hne]
  exact (h j hj b).1
theorem bl_Z_pR {n i k : Nat} {σ : bl_St} {v : Nat} (h : bl_Z n σ) (hi : i < n) : bl_Z n (bl_pR σ i k v) := by
  intro j hj b
  have hne : j ≠ i := by omega
  refine ⟨(h j hj b).1, (h j hj b).2.1, ?_⟩
  show bl_u σ.2.2 i k v j b = 0
  rw [bl_u_ne hne]
  exact (h j hj b).2.2
theorem bl_Z_cS {n i sp dp cn : Nat} {σ : bl_St} {f : Nat → Int32} (h : bl_Z n σ) (hi : i < n) : bl_Z n (bl_cS σ f sp i dp cn) := by
  intro j hj b
  have hne : j ≠ i := by omega
  refine ⟨?_, (h j hj b).2⟩
  show bl_row σ.1 i _ j b = 0
  rw [bl_row_ne hne]
  exact (h j hj b).1
theorem bl_Z_up {n : Nat} {σ : bl_St} (h : bl_Z n σ) : bl_Z (n + 1) σ := fun i hi k => h i (by omega) k
def bl_dv (t : Nat) : Value := if t = 0 then .int 0 else if t = 1 then .long 0 else .null
theorem bl_val_z {g : bl_Gp} {n : Nat} {σ : bl_St} (h : bl_Z n σ) (t k : Nat) : bl_val g σ n t k = bl_dv t := by
  obtain ⟨h1, h2, h3⟩ := h n (Nat.le_refl n) k
  unfold bl_val bl_dv
  rw [h1, h2, h3]
  rfl
theorem bl_ws_up {g : bl_Gp} {n : Nat} {σ : bl_St} {q : Nat × Nat} (hs : bl_sh[n]? = some q) : bl_ws g (n + 1) σ = bl_ws g n σ ++ [(bl_ad g n, bl_en g σ n q)] := by
  unfold bl_ws
  rw [List.range_succ, List.map_append]
  simp [List.getD_eq_getElem?_getD, hs]
def bl_fF (own : String) (index ci k t : Nat) (ty : FieldType) : Prop := ∃ (C : String) (T : u_T) (N : Nat) (ty0 : Nat → FieldType), vwCl[ci]? = some (C, T, N) ∧ k < N ∧ (∀ w ∈ u_ws C T N, w ∈ bl_tb) ∧ Cond.fieldLink own index (T k).1 (T k).2.1 (T k).2.2.1 ∈ bl_tb ∧ (bl_ft.getD ci [])[k]? = some t ∧
  (∀ j, j < N → parseFieldDescriptor (T j).2.2.1 = some (ty0 j)) ∧ (∀ a, a < N → ∀ b, b < N → a ≠ b → (T a).2.1 ≠ (T b).2.1) ∧ (T k).2.2.2 = true ∧ (T k).1 = own ∧ parseFieldDescriptor (T k).2.2.1 = some ty
def bl_kN (own : String) (index : Nat) (C : String) (ci N : Nat) : Prop := ∃ (T : u_T) (ty0 : Nat → FieldType), vwCl[ci]? = some (C, T, N) ∧ (∀ w ∈ u_ws C T N, w ∈ bl_tb) ∧ (∀ j, j < N → parseFieldDescriptor (T j).2.2.1 = some (ty0 j)) ∧ (∀ j, j < N → ((bl_ft.getD ci [])[j]?).map bl_dv = some (defaultValue (ty0 j))) ∧ ci < 11 ∧
  Cond.classLink own index C ∈ bl_tb ∧ Cond.instantiable C N ∈ bl_tb ∧ Cond.initialized C ∈ bl_tb
section BLN
variable {p : Program} {l : Launch} {e : Env} {R : Room} {s : State} {m : MethodId} {args : Array Value} {below : List Frame} {meth : Method} {c : Code} {H : Heap} {locs : List Loc} {cells slots : Nat} {Q : State → Prop}
variable {cc : ByteArray} {nL pc : Nat} {own : String} {ls : Array Slot} {rest st : List Value} {g : bl_Gp} {σ : bl_St} {n i ci N k index : Nat}
theorem bl_ngetr (X : bl_Cx g p s m args meth c cc nL own) (V : bl_N g s n σ H locs) (hi : i < n) (hs : bl_sh[i]? = some (ci, N)) (F : bl_fl own index ci k 2) {r : Nat} (hr : bl_R σ i k = r) (h0 : r ≠ 0) (hdg : decode cc pc = .ok (.getfield index, 3))
    (kk : W p l e R s m args below meth c H locs cells slots Q (F0 m (pc + 3) ls (.ref (bl_ad g r) :: rest))) : W p l e R s m args below meth c H locs cells slots Q (F0 m pc ls (.ref (bl_ad g i) :: rest)) := by
  obtain ⟨C, T, N', hc, hk, hin, hlk, hft⟩ := F
  have he := bl_at (g := g) (σ := σ) hi hs
  rw [bl_en_obj (bl_ft_kind _ _ _ hft)] at he
  subst hr
  rw [← bl_rf_ne (g := g) h0] at kk
  exact va_get X.1 X.2.1 X.2.2.2.2.1 hin X.2.2.2.1 X.2.2.2.2.2.1 V.1.1 i he hc k hk (X.2.2.2.2.1 _ hlk) (fun _ h => h) (by rw [bl_fs_at, hft]; rfl) hdg kk
theorem bl_nputF (hL : bl_L g) (X : bl_Cx g p s m args meth c cc nL own) (V : bl_N g s n σ H locs) (hi : i < n) (hs : bl_sh[i]? = some (ci, N)) {ty : FieldType} (F : bl_fF own index ci k 2 ty) (hin2 : meth.name = "<init>") {v : Nat} (h0 : v ≠ 0) (hnr : ∀ a : Nat, narrow ty (.ref a) = .ref a) (hfit : ∀ a : Nat, fits ty (.ref a) = true) (hdg : decode cc pc = .ok (.putfield index, 3))
    (kk : ∀ (H1 : Heap) (locs1 : List Loc), bl_N g s n (bl_pR σ i k v) H1 locs1 → W p l e R s m args below meth c H1 locs1 cells slots Q (F0 m (pc + 3) ls rest)) : W p l e R s m args below meth c H locs cells slots Q (F0 m pc ls (.ref (bl_ad g v) :: .ref (bl_ad g i) :: rest)) := by
  obtain ⟨C, T, N', ty0, hc, hk, hin, hlk, hft, hty, hnm, hfin, hdecl, hpd⟩ := F
  have hob := bl_ft_kind _ _ _ hft
  have he := bl_at (g := g) (σ := σ) hi hs
  rw [bl_en_obj hob] at he
  have hD := bl_Dn hL n σ
  have hP := V.1.1
  have hK := X.2.2.2.2.2.1
  have hts := X.2.2.2.2.1
  have hown := X.2.2.2.1
  have hap := va_apart (own := own) hts hin ty0 hty hnm hK hc
  obtain ⟨r, h1, cell, q1, q2, q3, q4⟩ := hP i _ he
  have hr : r = (C, T, N') := Option.some.inj (h1.symm.trans hc)
  subst hr
  obtain ⟨hS, hfc, kC, hkC, hkind⟩ := hK.1 ci _ hc
  obtain ⟨cf, kf, fi, f, hii, hsl⟩ := hS k hk
  have hlay := hts _ (hin _ (u_in_lay hk))
  unfold u_lay at hlay
  rw [if_pos hfin] at hlay
  have hst := (u_facts hfc hkC (u_lays hts hin hk) hii).1
  have hcf : m.cls = cf := by
    obtain ⟨_, _, c', _, _, _, -, -, hf', -, -, -, hown2, -⟩ := Cond.laysFinal_spec hlay
    have e1 : c' = cf := by have := hii.symm.trans hf'; simp at this; exact this.1.symm
    rw [hdecl] at hown2
    rw [← e1]; exact Option.some.inj (hown.symm.trans hown2)
  have h6 := u_fits hfc hkC hkind (Or.inr hlay) hii hpd (hnr (bl_ad g v)) (hfit (bl_ad g v))
  have hl : k < (bl_fs g σ ci i).length := by rw [bl_fs_len]; exact (List.getElem?_eq_some_iff.mp hft).1
  refine W.putFinK X.1 X.2.1 hown (hts _ hlk) hii hst hcf hin2 (by rw [q2]; exact h6) q1 q3 (by rw [hsl]; exact k2_hasslot (q4 k hk)) rfl rfl hdg fun H' e1 e2 e3 => ?_
  rw [hsl] at e1 ⊢
  have hP2 : va_P (bl_D g) vwCl ((bl_ws g n σ).set i (bl_ad g i, .inr (ci, (bl_fs g σ ci i).set k (.ref (bl_ad g v))))) H' := hP.set hD he ⟨_, hc, t_OB.to (V := updV (vp_V (bl_fs g σ ci i)) k (.ref (bl_ad g v))) ⟨_, e1, q2, q3, t_set q4 hap hk (.ref (bl_ad g v))⟩ (fun j _ => vp_updV_set hl (.ref (bl_ad g v)) j)⟩ e3
  rw [bl_fs_set (σ1 := bl_pR σ i k v) hft (bl_val_pR.trans (bl_rf_ne h0)) bl_val_pR_o, ← bl_en_obj (N := N) hob, bl_set hs hi bl_en_pR] at hP2
  exact kk H' _ ⟨⟨hP2, by rw [e2]; exact V.1.2.1, bl_Z_pR V.1.2.2 hi⟩, V.2.put e2 e3 (hD.2 i _ he)⟩
theorem bl_nput {σ1 : bl_St} {t : Nat} {v : Value} (hL : bl_L g) (X : bl_Cx g p s m args meth c cc nL own) (V : bl_N g s n σ H locs) (hi : i < n) (hs : bl_sh[i]? = some (ci, N)) {ty : FieldType} (F : bl_fp own index ci k t ty) (hz : bl_Z n σ1) (hv1 : bl_val g σ1 i t k = v) (hv2 : ∀ t' j : Nat, j ≠ k → bl_val g σ1 i t' j = bl_val g σ i t' j) (hv3 : ∀ j : Nat, j ≠ i → ∀ r, bl_en g σ1 j r = bl_en g σ j r) (hnr : narrow ty v = v) (hfit : fits ty v = true) (hdg : decode cc pc = .ok (.putfield index, 3))
    (kk : ∀ (H1 : Heap) (locs1 : List Loc), bl_N g s n σ1 H1 locs1 → W p l e R s m args below meth c H1 locs1 cells slots Q (F0 m (pc + 3) ls rest)) : W p l e R s m args below meth c H locs cells slots Q (F0 m pc ls (v :: .ref (bl_ad g i) :: rest)) := by
  obtain ⟨C, T, N', ty0, hc, hk, hin, hlk, hft, hty, hnm, hfin, hpd⟩ := F
  have hob := bl_ft_kind _ _ _ hft
  have he := bl_at (g := g) (σ := σ) hi hs
  rw [bl_en_obj hob] at he
  have hD := bl_Dn hL n σ
  have hP := V.1.1
  have hK := X.2.2.2.2.2.1
  have hts := X.2.2.2.2.1
  have hown := X.2.2.2.1
  have hap := va_apart (own := own) hts hin ty0 hty hnm hK hc
  obtain ⟨r, h1, cell, q1, q2, q3, q4⟩ := hP i _ he
  have hr : r = (C, T, N') := Option.some.inj (h1.symm.trans hc)
  subst hr
  obtain ⟨hS, hfc, kC, hkC, hkind⟩ := hK.1 ci _ hc
  obtain ⟨cf, kf, fi, f, hii, hsl⟩ := hS k hk
  have hlay := hts _ (hin _ (u_in_lay hk))
  unfold u_lay at hlay
  rw [if_neg (by rw [hfin]; decide)] at hlay
  have hst := (u_facts hfc hkC (u_lays hts hin hk) hii).1
  have h6 := u_store hfc hkC hkind hlay hii hpd hnr hfit
  have hl : k < (bl_fs g σ ci i).length := by rw [bl_fs_len]; exact (List.getElem?_eq_some_iff.mp hft).1
  refine W.putK X.1 X.2.1 (f := f) ⟨hown, hts _ hlk, ⟨_, _, _, hii⟩, hst⟩ (by rw [q2]; exact h6) q1 q3 (by rw [hsl]; exact k2_hasslot (q4 k hk)) rfl rfl hdg fun H' e1 e2 e3 => ?_
  rw [hsl] at e1 ⊢
  have hP2 : va_P (bl_D g) vwCl ((bl_ws g n σ).set i (bl_ad g i, .inr (ci, (bl_fs g σ ci i).set k v))) H' := hP.set hD he ⟨_, hc, t_OB.to (V := updV (vp_V (bl_fs g σ ci i)) k v) ⟨_, e1, q2, q3, t_set q4 hap hk v⟩ (fun j _ => vp_updV_set hl v j)⟩ e3
  rw [bl_fs_set (σ1 := σ1) hft hv1 hv2, ← bl_en_obj (N := N) hob, bl_set hs hi hv3] at hP2
  exact kk H' _ ⟨⟨hP2, by rw [e2]; exact V.1.2.1, hz⟩, V.2.put e2 e3 (hD.2 i _ he)⟩
theorem bl_nputi {v : Int32} (hL : bl_L g) (X : bl_Cx g p s m args meth c cc nL own) (V : bl_N g s n σ H locs) (hi : i < n) (hs : bl_sh[i]? = some (ci, N)) {ty : FieldType} (F : bl_fp own index ci k 0 ty) (hnr : narrow ty (.int v) = .int v) (hfit : fits ty (.int v) = true) (hdg : decode cc pc = .ok (.putfield index, 3))
    (kk : ∀ (H1 : Heap) (locs1 : List Loc), bl_N g s n (bl_pI σ i k v) H1 locs1 → W p l e R s m args below meth c H1 locs1 cells slots Q (F0 m (pc + 3) ls rest)) : W p l e R s m args below meth c H locs cells slots Q (F0 m pc ls (.int v :: .ref (bl_ad g i) :: rest)) :=
  bl_nput hL X V hi hs F (bl_Z_pI V.1.2.2 hi) bl_val_pI bl_val_pI_o bl_en_pI hnr hfit hdg kk
theorem bl_nputr {v : Nat} (hL : bl_L g) (X : bl_Cx g p s m args meth c cc nL own) (V : bl_N g s n σ H locs) (hi : i < n) (hs : bl_sh[i]? = some (ci, N)) {ty : FieldType} (F : bl_fp own index ci k 2 ty) (h0 : v ≠ 0) (hnr : ∀ a : Nat, narrow ty (.ref a) = .ref a) (hfit : ∀ a : Nat, fits ty (.ref a) = true) (hdg : decode cc pc = .ok (.putfield index, 3))
    (kk : ∀ (H1 : Heap) (locs1 : List Loc), bl_N g s n (bl_pR σ i k v) H1 locs1 → W p l e R s m args below meth c H1 locs1 cells slots Q (F0 m (pc + 3) ls rest)) : W p l e R s m args below meth c H locs cells slots Q (F0 m pc ls (.ref (bl_ad g v) :: .ref (bl_ad g i) :: rest)) :=
  bl_nput hL X V hi hs F (bl_Z_pR V.1.2.2 hi) (bl_val_pR.trans (bl_rf_ne h0)) bl_val_pR_o bl_en_pR (hnr _) (hfit _) hdg kk
theorem bl_nnew (hL : bl_L g) (X : bl_Cx g p s m args meth c cc nL own) (V : bl_N g s n σ H locs) (hs : bl_sh[n]? = some (ci, N)) {C : String} (F : bl_kN own index C ci N) (hc : cells + 1 ≤ R.cells) (hsl : slots + N ≤ R.slots) (hdg : decode cc pc = .ok (.new index, 3))
    (kk : ∀ (H1 : Heap), bl_N g s (n + 1) σ H1 locs → W p l e R s m args below meth c H1 locs (cells + 1) (slots + N) Q (F0 m (pc + 3) ls (.ref (bl_ad g n) :: rest))) : W p l e R s m args below meth c H locs cells slots Q (F0 m pc ls rest) := by
  obtain ⟨T, ty0, hcl, hin, hty, hdf, h11, w1, w2, w3⟩ := F
  have hK := X.2.2.2.2.2.1
  have hts := X.2.2.2.2.1
  have hKn := hK.1 ci _ hcl
  have hP := V.1.1
  refine W.newcK X.1 X.2.1 X.2.2.2.1 (hts _ w1) (hts _ w2) (hts _ w3) rfl hdg hc hsl hKn.2.1 V.1.2.1 fun H1 kC hkC e1 z1 o1 => ?_
  have hk : ∀ (k : Nat) (x : Nat × va_E), (bl_ws g n σ)[k]? = some x → H1[x.1]? = H[x.1]? := fun k x hx => o1 x.1 (by rw [← V.1.2.1]; exact (hP k x hx).lt)
  have hP2 : va_P (bl_D g) vwCl (bl_ws g (n + 1) σ) H1 := by
    rw [bl_ws_up hs]
    refine (hP.kept hk).app (fun k x hx => ?_)
    have hz : k < 1 := (List.getElem?_eq_some_iff.mp hx).1
    rw [show k = 0 by omega] at hx
    cases hx
    rw [bl_en_obj h11]
    refine ⟨_, hcl, ?_⟩
    show t_OB (bl_ad g n) _ _ _ _ _
    rw [hL]
    refine (u_born ty0 hts hin hKn hkC e1 hty).to ?_
    intro j hj
    have h2 := hdf j hj
    show defaultValue (ty0 j) = (bl_fs g σ ci n).getD j .null
    rw [List.getD_eq_getElem?_getD, bl_fs_at]
    cases hq : (bl_ft.getD ci [])[j]? with
    | none => rw [hq] at h2; cases h2
    | some t =>
      rw [hq] at h2
      show _ = bl_val g σ n t j
      rw [bl_val_z V.1.2.2]
      exact (Option.some.inj h2).symm
  rw [hL] at kk
  exact kk H1 ⟨⟨hP2, by rw [z1]; omega, bl_Z_up V.1.2.2⟩, ⟨Nat.le_trans V.2.1 (by rw [z1, V.1.2.1]; omega), fun x h1 h2 => (o1 x (by rw [← V.1.2.1]; exact Nat.lt_of_lt_of_le h1 V.2.1)).trans (V.2.2.1 x h1 h2), V.2.2.2⟩⟩
theorem bl_nnewA (hL : bl_L g) (X : bl_Cx g p s m args meth c cc nL own) (V : bl_N g s n σ H locs) {kd len t0 : Nat} (hs : bl_sh[n]? = some (kd, len)) {atype : ArrayType} {ty : FieldType} (hty : newarray.typeOf atype = ty) (ht : (bl_tys g)[t0]? = some (bl_cA g t0, ty)) (hra : va_RA s (bl_cA g t0) ty = (s.vm.findClass ("[" ++ ty.toString) = some (bl_cA g t0))) (hw : Cond.arrayClass ty ∈ bl_tb) {x : Int32} (hx0 : ¬ x < 0) (hx : x.toNatClampNeg = len) (hbytes : len * componentBytes ty ≤ 536870912)
    (hen : va_at (bl_D g) vwCl (bl_ad g n, bl_en g σ n (kd, len)) = fun H1 => H1[bl_ad g n]? = some (arrV (bl_cA g t0) len (fun _ => defaultValue ty))) (hc : cells + 1 ≤ R.cells) (hsl : slots + len ≤ R.slots) (hdg : decode cc pc = .ok (.newarray atype, 2))
    (kk : ∀ (H1 : Heap), bl_N g s (n + 1) σ H1 locs → W p l e R s m args below meth c H1 locs (cells + 1) (slots + len) Q (F0 m (pc + 2) ls (.ref (bl_ad g n) :: rest))) : W p l e R s m args below meth c H locs cells slots Q (F0 m pc ls (.int x :: rest)) := by
  subst hty
  have hP := V.1.1
  have hts := X.2.2.2.2.1
  refine va_newaK X.1 X.2.1 (hts _ hw) rfl hdg rfl hx0 hx hbytes hc hsl V.1.2.1 fun H1 cA e1 z1 o1 hAr hNm => ?_
  have hR := (X.2.2.2.2.2.1.2 t0 _ ht).2
  rw [hra] at hR
  have hcA : cA = bl_cA g t0 := Option.some.inj (hNm.symm.trans hR)
  subst hcA
  have hk : ∀ (k : Nat) (x : Nat × va_E), (bl_ws g n σ)[k]? = some x → H1[x.1]? = H[x.1]? := fun k x hx => o1 x.1 (by rw [← V.1.2.1]; exact (hP k x hx).lt)
  have hP2 : va_P (bl_D g) vwCl (bl_ws g (n + 1) σ) H1 := by
    rw [bl_ws_up hs]
    refine (hP.kept hk).app (fun k x hx => ?_)
    have hz : k < 1 := (List.getElem?_eq_some_iff.mp hx).1
    rw [show k = 0 by omega] at hx
    cases hx
    rw [hen]
    show H1[bl_ad g n]? = _
    rw [hL]
    exact e1
  rw [hL] at kk
  exact kk H1 ⟨⟨hP2, by rw [z1]; omega, bl_Z_up V.1.2.2⟩, ⟨Nat.le_trans V.2.1 (by rw [z1, V.1.2.1]; omega), fun x h1 h2 => (o1 x (by rw [← V.1.2.1]; exact Nat.lt_of_lt_of_le h1 V.2.1)).trans (V.2.2.1 x h1 h2), V.2.2.2⟩⟩
theorem bl_zI {n : Nat} {σ : bl_St} (h : bl_Z n σ) : bl_I σ n = fun _ => 0 := funext fun k => (h n (Nat.le_refl n) k).1
theorem bl_zJ {n : Nat} {σ : bl_St} (h : bl_Z n σ) : bl_J σ n = fun _ => 0 := funext fun k => (h n (Nat.le_refl n) k).2.1
theorem bl_zR {n : Nat} {σ : bl_St} (h : bl_Z n σ) : bl_R σ n = fun _ => 0 := funext fun k => (h n (Nat.le_refl n) k).2.2
theorem bl_nnewi (hL : bl_L g) (X : bl_Cx g p s m args meth c cc nL own) (V : bl_N g s n σ H locs) {len : Nat} (hs : bl_sh[n]? = some (20, len)) (hw : Cond.arrayClass .int ∈ bl_tb) {x : Int32} (hx0 : ¬ x < 0) (hx : x.toNatClampNeg = len) (hbytes : len * componentBytes .int ≤ 536870912) (hc : cells + 1 ≤ R.cells) (hsl : slots + len ≤ R.slots) (hdg : decode cc pc = .ok (.newarray .int, 2))
    (kk : ∀ (H1 : Heap), bl_N g s (n + 1) σ H1 locs → W p l e R s m args below meth c H1 locs (cells + 1) (slots + len) Q (F0 m (pc + 2) ls (.ref (bl_ad g n) :: rest))) : W p l e R s m args below meth c H locs cells slots Q (F0 m pc ls (.int x :: rest)) := by
  refine bl_nnewA (t0 := 0) (ty := .int) hL X V hs rfl rfl rfl hw hx0 hx hbytes ?_ hc hsl hdg kk
  funext H1
  show (H1[bl_ad g n]? = some (arrV (bl_cA g 0) len (fun j => .int (bl_I σ n j)))) = _
  rw [bl_zI V.1.2.2]
  rfl
theorem bl_nnewl (hL : bl_L g) (X : bl_Cx g p s m args meth c cc nL own) (V : bl_N g s n σ H locs) {len : Nat} (hs : bl_sh[n]? = some (21, len)) (hw : Cond.arrayClass .long ∈ bl_tb) {x : Int32} (hx0 : ¬ x < 0) (hx : x.toNatClampNeg = len) (hbytes : len * componentBytes .long ≤ 536870912) (hc : cells + 1 ≤ R.cells) (hsl : slots + len ≤ R.slots) (hdg : decode cc pc = .ok (.newarray .long, 2))
    (kk : ∀ (H1 : Heap), bl_N g s (n + 1) σ H1 locs → W p l e R s m args below meth c H1 locs (cells + 1) (slots + len) Q (F0 m (pc + 2) ls (.ref (bl_ad g n) :: rest))) : W p l e R s m args below meth c H locs cells slots Q (F0 m pc ls (.int x :: rest)) := by
  refine bl_nnewA (t0 := 1) (ty := .long) hL X V hs rfl rfl rfl hw hx0 hx hbytes ?_ hc hsl hdg kk
  funext H1
  show (H1[bl_ad g n]? = some (arrV (bl_cA g 1) len (fun j => .long (bl_J σ n j)))) = _
  rw [bl_zJ V.1.2.2]
  rfl
theorem bl_nnewb (hL : bl_L g) (X : bl_Cx g p s m args meth c cc nL own) (V : bl_N g s n σ H locs) {len : Nat} (hs : bl_sh[n]? = some (22, len)) (hw : Cond.arrayClass .byte ∈ bl_tb) {x : Int32} (hx0 : ¬ x < 0) (hx : x.toNatClampNeg = len) (hbytes : len * componentBytes .byte ≤ 536870912) (hc : cells + 1 ≤ R.cells) (hsl : slots + len ≤ R.slots) (hdg : decode cc pc = .ok (.newarray .byte, 2))
    (kk : ∀ (H1 : Heap), bl_N g s (n + 1) σ H1 locs → W p l e R s m args below meth c H1 locs (cells + 1) (slots + len) Q (F0 m (pc + 2) ls (.ref (bl_ad g n) :: rest))) : W p l e R s m args below meth c H locs cells slots Q (F0 m pc ls (.int x :: rest)) := by
  refine bl_nnewA (t0 := 2) (ty := .byte) hL X V hs rfl rfl rfl hw hx0 hx hbytes ?_ hc hsl hdg kk
  funext H1
  show (H1[bl_ad g n]? = some (arrV (bl_cA g 2) len (fun j => .int (bl_I σ n j)))) = _
  rw [bl_zI V.1.2.2]
  rfl
theorem bl_nnewz (hL : bl_L g) (X : bl_Cx g p s m args meth c cc nL own) (V : bl_N g s n σ H locs) {len : Nat} (hs : bl_sh[n]? = some (23, len)) (hw : Cond.arrayClass .boolean ∈ bl_tb) {x : Int32} (hx0 : ¬ x < 0) (hx : x.toNatClampNeg = len) (hbytes : len * componentBytes .boolean ≤ 536870912) (hc : cells + 1 ≤ R.cells) (hsl : slots + len ≤ R.slots) (hdg : decode cc pc = .ok (.newarray .boolean, 2))
    (kk : ∀ (H1 : Heap), bl_N g s (n + 1) σ H1 locs → W p l e R s m args below meth c H1 locs (cells + 1) (slots + len) Q (F0 m (pc + 2) ls (.ref (bl_ad g n) :: rest))) : W p l e R s m args below meth c H locs cells slots Q (F0 m pc ls (.int x :: rest)) := by
  refine bl_nnewA (t0 := 3) (ty := .boolean) hL X V hs rfl rfl rfl hw hx0 hx hbytes ?_ hc hsl hdg kk
  funext H1
  show (H1[bl_ad g n]? = some (arrV (bl_cA g 3) len (fun j => .int (bl_I σ n j)))) = _
  rw [bl_zI V.1.2.2]
  rfl
theorem bl_nnewq (hL : bl_L g) (X : bl_Cx g p s m args meth c cc nL own) (V : bl_N g s n σ H locs) {kd len t0 : Nat} {C : String} (hs : bl_sh[n]? = some (kd, len)) (hkd : kd = 20 + t0 ∧ (t0 = 4 ∨ t0 = 5)) (ht : (bl_tys g)[t0]? = some (bl_cA g t0, .object C)) (hw : Cond.classLink own index C ∈ bl_tb) (hov : va_AO C s) {x : Int32} (hx0 : ¬ x < 0) (hx : x.toNatClampNeg = len) (hbytes : len * 4 ≤ 536870912) (hc : cells + 1 ≤ R.cells) (hsl : slots + len ≤ R.slots) (hdg : decode cc pc = .ok (.anewarray index, 3))
    (kk : ∀ (H1 : Heap), bl_N g s (n + 1) σ H1 locs → W p l e R s m args below meth c H1 locs (cells + 1) (slots + len) Q (F0 m (pc + 3) ls (.ref (bl_ad g n) :: rest))) : W p l e R s m args below meth c H locs cells slots Q (F0 m pc ls (.int x :: rest)) := by
  have hP := V.1.1
  subst hx
  refine W.anew X.1 X.2.1 X.2.2.2.1 (X.2.2.2.2.1 _ hw) (va_AO.use hov) rfl hdg rfl hx0 hbytes hc hsl fun cA kA comp f1 f2 f3 f4 => ?_
  obtain ⟨kA', comp', r1, r2, r3, r4⟩ := (X.2.2.2.2.2.1.2 t0 _ ht).2
  have hcA : cA = bl_cA g t0 := Option.some.inj (f1.symm.trans r4)
  subst hcA
  generalize hH1 : H.push ({ cls := bl_cA g t0, slots := Array.replicate x.toNatClampNeg .null, vm := .none } : Cell) = H1
  have z1 : H1.size = H.size + 1 := by rw [← hH1, Array.size_push]
  have e1 : H1[H.size]? = some (arrV (bl_cA g t0) x.toNatClampNeg (fun _ => .null)) := by rw [← hH1, Array.getElem?_push_size, ← arrV_new]
  have o1 : ∀ q : Nat, q < H.size → H1[q]? = H[q]? := fun q hq => by rw [← hH1, Array.getElem?_push, if_neg (Nat.ne_of_lt hq)]
  have hk : ∀ (k : Nat) (x : Nat × va_E), (bl_ws g n σ)[k]? = some x → H1[x.1]? = H[x.1]? := fun k x hx => o1 x.1 ((hP k x hx).lt)
  have hsz : H.size = bl_ad g n := by rw [hL]; exact V.1.2.1
  have hP2 : va_P (bl_D g) vwCl (bl_ws g (n + 1) σ) H1 := by
    rw [bl_ws_up hs]
    refine (hP.kept hk).app (fun k x hx => ?_)
    have hz : k < 1 := (List.getElem?_eq_some_iff.mp hx).1
    rw [show k = 0 by omega] at hx
    cases hx
    rw [hsz] at e1
    obtain ⟨hkd, h45⟩ := hkd
    have hz3 := bl_zR V.1.2.2
    rcases h45 with h45 | h45
    · subst h45
      subst hkd
      show H1[bl_ad g n]? = some (arrV (bl_cA g 4) x.toNatClampNeg (fun j => va_rf (bl_rf g (bl_R σ n j))))
      rw [hz3]
      exact e1
    · subst h45
      subst hkd
      show H1[bl_ad g n]? = some (arrV (bl_cA g 5) x.toNatClampNeg (fun j => va_rf (bl_rf g (bl_R σ n j))))
      rw [hz3]
      exact e1
  rw [← hsz] at kk
  exact kk H1 ⟨⟨hP2, by rw [z1, V.1.2.1]; omega, bl_Z_up V.1.2.2⟩, ⟨Nat.le_trans V.2.1 (by rw [z1]; omega), fun x h1 h2 => (o1 x (Nat.lt_of_lt_of_le h1 V.2.1)).trans (V.2.2.1 x h1 h2), V.2.2.2⟩⟩
end BLN
