section BLA
variable {p : Program} {l : Launch} {e : Env} {R : Room} {s : State} {m : MethodId} {args : Array Value} {below : List Frame} {meth : Method} {c : Code} {H : Heap} {locs : List Loc} {cells slots : Nat} {Q : State → Prop}
variable {cc : ByteArray} {nL pc : Nat} {own : String} {ls : Array Slot} {rest : List Value} {g : bl_Gp} {σ : bl_St} {i n k index : Nat}
theorem bl_iald (X : bl_Cx g p s m args meth c cc nL own) (V : bl_V g s σ H locs) (hs : bl_sh[i]? = some (20, n)) {j : Int32} (hj : bl_in j n = true) (hk : j.toNatClampNeg = k) (hdg : decode cc pc = .ok (.iaload, 1))
    (kk : W p l e R s m args below meth c H locs cells slots Q (F0 m (pc + 1) ls (.int (bl_I σ i k) :: rest))) : W p l e R s m args below meth c H locs cells slots Q (F0 m pc ls (.int j :: .ref (bl_ad g i) :: rest)) := by
  subst hk
  exact va_iald X.1 X.2.1 X.2.2.2.2.2.1 V.1.1 i 0 (bl_at (bl_lt hs) hs) rfl (bl_in_vp hj) hdg kk
theorem bl_lald (X : bl_Cx g p s m args meth c cc nL own) (V : bl_V g s σ H locs) (hs : bl_sh[i]? = some (21, n)) {j : Int32} (hj : bl_in j n = true) (hk : j.toNatClampNeg = k) (hdg : decode cc pc = .ok (.laload, 1))
    (kk : W p l e R s m args below meth c H locs cells slots Q (F0 m (pc + 1) ls (.long (bl_J σ i k) :: rest))) : W p l e R s m args below meth c H locs cells slots Q (F0 m pc ls (.int j :: .ref (bl_ad g i) :: rest)) := by
  subst hk
  exact va_lald X.1 X.2.1 X.2.2.2.2.2.1 V.1.1 i 1 (bl_at (bl_lt hs) hs) rfl (bl_in_vp hj) hdg kk
theorem bl_bald (X : bl_Cx g p s m args meth c cc nL own) (V : bl_V g s σ H locs) (hs : bl_sh[i]? = some (22, n)) {j : Int32} (hj : bl_in j n = true) (hk : j.toNatClampNeg = k) (hdg : decode cc pc = .ok (.baload, 1))
    (kk : W p l e R s m args below meth c H locs cells slots Q (F0 m (pc + 1) ls (.int (bl_I σ i k) :: rest))) : W p l e R s m args below meth c H locs cells slots Q (F0 m pc ls (.int j :: .ref (bl_ad g i) :: rest)) := by
  subst hk
  exact va_bald X.1 X.2.1 X.2.2.2.2.2.1 V.1.1 i 2 (bl_at (bl_lt hs) hs) rfl (bl_in_vp hj) hdg kk
theorem bl_zald (X : bl_Cx g p s m args meth c cc nL own) (V : bl_V g s σ H locs) (hs : bl_sh[i]? = some (23, n)) {j : Int32} (hj : bl_in j n = true) (hk : j.toNatClampNeg = k) (hdg : decode cc pc = .ok (.baload, 1))
    (kk : W p l e R s m args below meth c H locs cells slots Q (F0 m (pc + 1) ls (.int (bl_I σ i k) :: rest))) : W p l e R s m args below meth c H locs cells slots Q (F0 m pc ls (.int j :: .ref (bl_ad g i) :: rest)) := by
  subst hk
  exact va_zald X.1 X.2.1 X.2.2.2.2.2.1 V.1.1 i 3 (bl_at (bl_lt hs) hs) rfl (bl_in_vp hj) hdg kk
theorem bl_in_lt {j : Int32} {n : Nat} (h : bl_in j n = true) : j.toNatClampNeg < n := Nat.not_le.mp fun q => bl_in_vp h (Or.inr q)
theorem bl_tald (X : bl_Cx g p s m args meth c cc nL own) (V : bl_V g s σ H locs) (hs : bl_sh[i]? = some (24, n)) {j : Int32} (hj : bl_in j n = true) (hk : j.toNatClampNeg = k) (hdg : decode cc pc = .ok (.aaload, 1))
    (kk : bl_sh[bl_R σ i k]? = some (8, 5) → W p l e R s m args below meth c H locs cells slots Q (F0 m (pc + 1) ls (.ref (bl_ad g (bl_R σ i k)) :: rest))) : W p l e R s m args below meth c H locs cells slots Q (F0 m pc ls (.int j :: .ref (bl_ad g i) :: rest)) := by
  subst hk
  obtain ⟨hr, ht2⟩ := V.1.2.2.1 i n _ hs (bl_in_lt hj)
  have kk := kk ht2
  rw [← bl_rf_ne (g := g) hr] at kk
  exact va_aldq X.1 X.2.1 X.2.2.2.2.2.1 V.1.1 i 4 (bl_at (bl_lt hs) hs) rfl (bl_in_vp hj) hdg kk
theorem bl_fald (X : bl_Cx g p s m args meth c cc nL own) (V : bl_V g s σ H locs) (hs : bl_sh[i]? = some (25, n)) {j : Int32} (hj : bl_in j n = true) (hk : j.toNatClampNeg = k) (hdg : decode cc pc = .ok (.aaload, 1))
    (kk : bl_sh[bl_R σ i k]? = some (2, 15) → W p l e R s m args below meth c H locs cells slots Q (F0 m (pc + 1) ls (.ref (bl_ad g (bl_R σ i k)) :: rest))) : W p l e R s m args below meth c H locs cells slots Q (F0 m pc ls (.int j :: .ref (bl_ad g i) :: rest)) := by
  subst hk
  obtain ⟨hr, ht2⟩ := V.1.2.2.2 i n _ hs (bl_in_lt hj)
  have kk := kk ht2
  rw [← bl_rf_ne (g := g) hr] at kk
  exact va_aldq X.1 X.2.1 X.2.2.2.2.2.1 V.1.1 i 5 (bl_at (bl_lt hs) hs) rfl (bl_in_vp hj) hdg kk
theorem bl_iast (X : bl_Cx g p s m args meth c cc nL own) (V : bl_V g s σ H locs) (hs : bl_sh[i]? = some (20, n)) {j x : Int32} (hj : bl_in j n = true) (hk : j.toNatClampNeg = k) (hdg : decode cc pc = .ok (.iastore, 1))
    (kk : ∀ (σ1 : bl_St) (H1 : Heap) (locs1 : List Loc), σ1 = bl_pI σ i k x → bl_V g s σ1 H1 locs1 → W p l e R s m args below meth c H1 locs1 cells slots Q (F0 m (pc + 1) ls rest)) : W p l e R s m args below meth c H locs cells slots Q (F0 m pc ls (.int x :: .int j :: .ref (bl_ad g i) :: rest)) := by
  subst hk
  refine va_iast X.1 X.2.1 X.2.2.2.2.2.1 V.1.1 (bl_Dd X.2.2.2.2.2.2.1.2.2.2.2.2.2.2.2 σ) V.2 i 0 (bl_at (bl_lt hs) hs) rfl (bl_in_vp hj) hdg fun H1 locs1 hP hD hS => kk _ H1 locs1 rfl ⟨⟨?_, V.1.2⟩, hS⟩
  have e1 : (.inl (bl_cA g 0, n, .inl (upd (bl_I σ i) j.toNatClampNeg x)) : va_E) = bl_en g (bl_pI σ i j.toNatClampNeg x) i (20, n) := by
    show _ = Sum.inl (bl_cA g 0, n, Sum.inl (bl_u σ.1 i j.toNatClampNeg x i))
    rw [bl_u_eq]
    rfl
  rw [e1, bl_set hs (bl_lt hs) bl_en_pI] at hP
  exact hP
def bl_nz (x : Int32) : Int32 := vp_nar .boolean x
theorem bl_zast (X : bl_Cx g p s m args meth c cc nL own) (V : bl_V g s σ H locs) (hs : bl_sh[i]? = some (23, n)) {j x : Int32} (hj : bl_in j n = true) (hk : j.toNatClampNeg = k) (hdg : decode cc pc = .ok (.bastore, 1))
    (kk : ∀ (σ1 : bl_St) (H1 : Heap) (locs1 : List Loc), σ1 = bl_pI σ i k (bl_nz x) → bl_V g s σ1 H1 locs1 → W p l e R s m args below meth c H1 locs1 cells slots Q (F0 m (pc + 1) ls rest)) : W p l e R s m args below meth c H locs cells slots Q (F0 m pc ls (.int x :: .int j :: .ref (bl_ad g i) :: rest)) := by
  subst hk
  refine va_zast X.1 X.2.1 X.2.2.2.2.2.1 V.1.1 (bl_Dd X.2.2.2.2.2.2.1.2.2.2.2.2.2.2.2 σ) V.2 i 3 (bl_at (bl_lt hs) hs) rfl (bl_in_vp hj) hdg fun H1 locs1 hP hD hS => kk _ H1 locs1 rfl ⟨⟨?_, V.1.2⟩, hS⟩
  have e1 : (.inl (bl_cA g 3, n, .inl (upd (bl_I σ i) j.toNatClampNeg (vp_nar .boolean x))) : va_E) = bl_en g (bl_pI σ i j.toNatClampNeg (bl_nz x)) i (23, n) := by
    show _ = Sum.inl (bl_cA g 3, n, Sum.inl (bl_u σ.1 i j.toNatClampNeg (bl_nz x) i))
    rw [bl_u_eq]
    rfl
  rw [e1, bl_set hs (bl_lt hs) bl_en_pI] at hP
  exact hP
theorem bl_last (X : bl_Cx g p s m args meth c cc nL own) (V : bl_V g s σ H locs) (hs : bl_sh[i]? = some (21, n)) {j : Int32} {x : Int64} (hj : bl_in j n = true) (hk : j.toNatClampNeg = k) (hdg : decode cc pc = .ok (.lastore, 1))
    (kk : ∀ (σ1 : bl_St) (H1 : Heap) (locs1 : List Loc), σ1 = bl_pJ σ i k x → bl_V g s σ1 H1 locs1 → W p l e R s m args below meth c H1 locs1 cells slots Q (F0 m (pc + 1) ls rest)) : W p l e R s m args below meth c H locs cells slots Q (F0 m pc ls (.long x :: .int j :: .ref (bl_ad g i) :: rest)) := by
  subst hk
  refine va_last X.1 X.2.1 X.2.2.2.2.2.1 V.1.1 (bl_Dd X.2.2.2.2.2.2.1.2.2.2.2.2.2.2.2 σ) V.2 i 1 (bl_at (bl_lt hs) hs) rfl (bl_in_vp hj) hdg fun H1 locs1 hP hD hS => kk _ H1 locs1 rfl ⟨⟨?_, V.1.2⟩, hS⟩
  have e1 : (.inl (bl_cA g 1, n, .inr (.inl (vp_updL (bl_J σ i) j.toNatClampNeg x))) : va_E) = bl_en g (bl_pJ σ i j.toNatClampNeg x) i (21, n) := by
    show _ = Sum.inl (bl_cA g 1, n, Sum.inr (Sum.inl (bl_u σ.2.1 i j.toNatClampNeg x i)))
    rw [bl_u_eq]
    rfl
  rw [e1, bl_set hs (bl_lt hs) bl_en_pJ] at hP
  exact hP
/-! copies -/
def bl_acp (own : String) (index : Nat) : Prop := Cond.methodLink own index arraycopyName ∈ bl_tb ∧ Cond.native arraycopyName ∈ bl_tb ∧ Cond.static arraycopyName ∈ bl_tb ∧ Cond.initialized "java/lang/System" ∈ bl_tb
def bl_cpk (sp dp n : Int32) (n0 n1 : Nat) : Bool := !(decide (sp < 0)) && !(decide (dp < 0)) && !(decide (n < 0)) && decide (sp.toNatClampNeg + n.toNatClampNeg ≤ n0) && decide (dp.toNatClampNeg + n.toNatClampNeg ≤ n1)
theorem bl_cpk_at {sp dp n : Int32} {n0 n1 : Nat} (h : bl_cpk sp dp n n0 n1 = true) : ¬ sp < 0 ∧ ¬ dp < 0 ∧ ¬ n < 0 ∧ sp.toNatClampNeg + n.toNatClampNeg ≤ n0 ∧ dp.toNatClampNeg + n.toNatClampNeg ≤ n1 := by
  unfold bl_cpk at h
  simp only [Bool.and_eq_true, Bool.not_eq_true', decide_eq_false_iff_not, decide_eq_true_eq] at h
  exact ⟨h.1.1.1.1, h.1.1.1.2, h.1.1.2, h.1.2, h.2⟩
theorem bl_copyi (X : bl_Cx g p s m args meth c cc nL own) (V : bl_V g s σ H locs) (hsz : ls.size = nL) (K : bl_acp own index) {i1 n1 : Nat} (hs : bl_sh[i]? = some (20, n)) (hs1 : bl_sh[i1]? = some (20, n1)) {sp dp cn : Int32} (hk : bl_cpk sp dp cn n n1 = true)
    (hframes : 1 ≤ R.frames) (hlocals : (rest.map fun v => v.category).sum + (nativeFrameWords "java/lang/System" "arraycopy" 5 + 11) ≤ R.locals) (hdg : decode cc pc = .ok (.invokestatic index, 3))
    (kk : ∀ (σ1 : bl_St) (H1 : Heap) (locs1 : List Loc), σ1 = bl_cI σ i sp.toNatClampNeg i1 dp.toNatClampNeg cn.toNatClampNeg → bl_V g s σ1 H1 locs1 → W p l e R s m args below meth c H1 locs1 cells slots Q (F0 m (pc + 3) ls rest)) : W p l e R s m args below meth c H locs cells slots Q (F0 m pc ls (.int cn :: .int dp :: .ref (bl_ad g i1) :: .int sp :: .ref (bl_ad g i) :: rest)) := by
  obtain ⟨h1, h2, h3, h4, h5⟩ := bl_cpk_at hk
  refine va_copyi X.1 X.2.1 (by rw [X.2.2.1, hsz]) X.2.2.2.1 (X.2.2.2.2.1 _ K.1) (X.2.2.2.2.1 _ K.2.1) (X.2.2.2.2.1 _ K.2.2.1) (X.2.2.2.2.1 _ K.2.2.2) X.2.2.2.2.2.1 V.1.1 (bl_Dd X.2.2.2.2.2.2.1.2.2.2.2.2.2.2.2 σ) V.2 i i1 0 0 (bl_at (bl_lt hs) hs) (bl_at (bl_lt hs1) hs1) rfl rfl rfl h1 h2 h3 h4 h5 (fun _ _ => rfl) hframes hlocals hdg fun H1 locs1 hP hD hS => kk _ H1 locs1 rfl ⟨⟨?_, V.1.2⟩, hS⟩
  have e1 : (.inl (bl_cA g 0, n1, .inl (va_cpy (bl_I σ i) (bl_I σ i1) sp.toNatClampNeg dp.toNatClampNeg cn.toNatClampNeg)) : va_E) = bl_en g (bl_cI σ i sp.toNatClampNeg i1 dp.toNatClampNeg cn.toNatClampNeg) i1 (20, n1) := by
    show _ = Sum.inl (bl_cA g 0, n1, Sum.inl (bl_row σ.1 i1 _ i1))
    rw [bl_row_eq]
  rw [e1, bl_set (σ := σ) (σ1 := bl_cI σ i sp.toNatClampNeg i1 dp.toNatClampNeg cn.toNatClampNeg) hs1 (bl_lt hs1) (fun j h r => bl_en_o (σ := σ) (σ1 := bl_cI σ i sp.toNatClampNeg i1 dp.toNatClampNeg cn.toNatClampNeg) (j := j) (bl_row_ne h) rfl rfl r)] at hP
  exact hP
theorem bl_copyl (X : bl_Cx g p s m args meth c cc nL own) (V : bl_V g s σ H locs) (hsz : ls.size = nL) (K : bl_acp own index) {i1 n1 : Nat} (hs : bl_sh[i]? = some (21, n)) (hs1 : bl_sh[i1]? = some (21, n1)) {sp dp cn : Int32} (hk : bl_cpk sp dp cn n n1 = true)
    (hframes : 1 ≤ R.frames) (hlocals : (rest.map fun v => v.category).sum + (nativeFrameWords "java/lang/System" "arraycopy" 5 + 11) ≤ R.locals) (hdg : decode cc pc = .ok (.invokestatic index, 3))
    (kk : ∀ (σ1 : bl_St) (H1 : Heap) (locs1 : List Loc), σ1 = bl_cJ σ i sp.toNatClampNeg i1 dp.toNatClampNeg cn.toNatClampNeg → bl_V g s σ1 H1 locs1 → W p l e R s m args below meth c H1 locs1 cells slots Q (F0 m (pc + 3) ls rest)) : W p l e R s m args below meth c H locs cells slots Q (F0 m pc ls (.int cn :: .int dp :: .ref (bl_ad g i1) :: .int sp :: .ref (bl_ad g i) :: rest)) := by
  obtain ⟨h1, h2, h3, h4, h5⟩ := bl_cpk_at hk
  refine va_copyl X.1 X.2.1 (by rw [X.2.2.1, hsz]) X.2.2.2.1 (X.2.2.2.2.1 _ K.1) (X.2.2.2.2.1 _ K.2.1) (X.2.2.2.2.1 _ K.2.2.1) (X.2.2.2.2.1 _ K.2.2.2) X.2.2.2.2.2.1 V.1.1 (bl_Dd X.2.2.2.2.2.2.1.2.2.2.2.2.2.2.2 σ) V.2 i i1 1 1 (bl_at (bl_lt hs) hs) (bl_at (bl_lt hs1) hs1) rfl rfl rfl h1 h2 h3 h4 h5 (fun _ _ => rfl) hframes hlocals hdg fun H1 locs1 hP hD hS => kk _ H1 locs1 rfl ⟨⟨?_, V.1.2⟩, hS⟩
  have e1 : (.inl (bl_cA g 1, n1, .inr (.inl (va_cpy (bl_J σ i) (bl_J σ i1) sp.toNatClampNeg dp.toNatClampNeg cn.toNatClampNeg))) : va_E) = bl_en g (bl_cJ σ i sp.toNatClampNeg i1 dp.toNatClampNeg cn.toNatClampNeg) i1 (21, n1) := by
    show _ = Sum.inl (bl_cA g 1, n1, Sum.inr (Sum.inl (bl_row σ.2.1 i1 _ i1)))
    rw [bl_row_eq]
  rw [e1, bl_set (σ := σ) (σ1 := bl_cJ σ i sp.toNatClampNeg i1 dp.toNatClampNeg cn.toNatClampNeg) hs1 (bl_lt hs1) (fun j h r => bl_en_o (σ := σ) (σ1 := bl_cJ σ i sp.toNatClampNeg i1 dp.toNatClampNeg cn.toNatClampNeg) (j := j) rfl (bl_row_ne h) rfl r)] at hP
  exact hP
/-! static rows -/
def bl_gs (own : String) (index : Nat) (nm : String) : Prop := Cond.fieldLink own index "BonusLadder" nm "[I" ∈ bl_tb
theorem bl_sget (X : bl_Cx g p s m args meth c cc nL own) (V : bl_V g s σ H locs) {nm : String} {xs : List Int32} (hx : bl_sa g s nm xs) (K : bl_gs own index nm) (hdg : decode cc pc = .ok (.getstatic index, 3))
    (kk : ∀ t : Nat, va_T .int t xs.length (fun j => .int (xs.getD j 0)) (bl_A g) s s.heap → W p l e R s m args below meth c H locs cells slots Q (F0 m (pc + 3) ls (.ref t :: rest))) : W p l e R s m args below meth c H locs cells slots Q (F0 m pc ls rest) := by
  obtain ⟨t, hZ, hT⟩ := hx
  exact va_gets X.1 X.2.1 hZ V.2 X.2.2.2.1 (X.2.2.2.2.1 _ K) (fun _ h => h) hdg (kk t hT)
theorem bl_sgetN (X : bl_Cx g p s m args meth c cc nL own) (V : bl_V g s σ H locs) {nm : String} {xs : List Int32} (hx : bl_sa g s nm xs) (K : (own, index, nm) ∈ bl_nF) (hdg : decode cc pc = .ok (.getstatic index, 3))
    (kk : ∀ t : Nat, va_T .int t xs.length (fun j => .int (xs.getD j 0)) (bl_A g) s s.heap → W p l e R s m args below meth c H locs cells slots Q (F0 m (pc + 3) ls (.ref t :: rest))) : W p l e R s m args below meth c H locs cells slots Q (F0 m pc ls rest) := by
  obtain ⟨t, hZ, hT⟩ := hx
  exact va_getsN X.1 X.2.1 hZ V.2 X.2.2.2.1 (va_Nw.use rfl (X.2.2.2.2.2.2.1.2.1 _ K)) (fun _ h => h) hdg (kk t hT)
theorem bl_sld (X : bl_Cx g p s m args meth c cc nL own) (V : bl_V g s σ H locs) {xs : List Int32} {t : Nat} (hT : va_T .int t xs.length (fun j => .int (xs.getD j 0)) (bl_A g) s s.heap) {j : Int32} (hj : bl_in j xs.length = true) (hdg : decode cc pc = .ok (.iaload, 1))
    (kk : W p l e R s m args below meth c H locs cells slots Q (F0 m (pc + 1) ls (.int (xs.getD j.toNatClampNeg 0) :: rest))) : W p l e R s m args below meth c H locs cells slots Q (F0 m pc ls (.int j :: .ref t :: rest)) :=
  va_ti X.1 X.2.1 hT V.2 (bl_in_vp hj) rfl hdg kk
/-! returns -/
variable {as : List Value}
theorem bl_reti (X : bl_Cx g p s m as.toArray meth c cc nL own) (V : bl_V g s σ H locs) (hr : meth.sig.returnType = some .int) {v : Int32} {o : Int32 × bl_St} (hf : some (v, σ) = some o) (hdg : decode cc pc = .ok (.ireturn, 1)) :
    W p l e R s m as.toArray below meth c H locs 0 0 (MQ below (va_Qi (fun r u => (r, u) = o) (fun u t => bl_P g u t.heap) (bl_A g)) as.toArray s 0 0 (bl_A g)) (F0 m pc ls [.int v]) :=
  W.iret X.1 X.2.1 hr (fun t ht hW => ⟨⟨v, σ, rfl, Option.some.inj hf, by show bl_P g σ t.heap; rw [ht]; exact V.1⟩, V.2.F ht⟩) V.2.2.2 hdg X.2.2.2.2.2.2.2
theorem bl_retz (X : bl_Cx g p s m as.toArray meth c cc nL own) (V : bl_V g s σ H locs) (hr : meth.sig.returnType = some .boolean) {v : Int32} {o : Int32 × bl_St} (hb : bl_bo v = true) (hf : some (v, σ) = some o) (hdg : decode cc pc = .ok (.ireturn, 1)) :
    W p l e R s m as.toArray below meth c H locs 0 0 (MQ below (va_Qi (fun r u => (r, u) = o) (fun u t => bl_P g u t.heap) (bl_A g)) as.toArray s 0 0 (bl_A g)) (F0 m pc ls [.int v]) :=
  W.zret X.1 X.2.1 hr (by rcases bl_bo_or hb with rfl | rfl <;> rfl) (fun t ht hW => ⟨⟨v, σ, rfl, Option.some.inj hf, by show bl_P g σ t.heap; rw [ht]; exact V.1⟩, V.2.F ht⟩) V.2.2.2 hdg X.2.2.2.2.2.2.2
theorem bl_retl (X : bl_Cx g p s m as.toArray meth c cc nL own) (V : bl_V g s σ H locs) (hr : meth.sig.returnType = some .long) {v : Int64} {o : Int64 × bl_St} (hf : some (v, σ) = some o) (hdg : decode cc pc = .ok (.lreturn, 1)) :
    W p l e R s m as.toArray below meth c H locs 0 0 (MQ below (va_Ql (fun r u => (r, u) = o) (fun u t => bl_P g u t.heap) (bl_A g)) as.toArray s 0 0 (bl_A g)) (F0 m pc ls [.long v]) :=
  W.lret X.1 X.2.1 hr (fun t ht hW => ⟨⟨v, σ, rfl, Option.some.inj hf, by show bl_P g σ t.heap; rw [ht]; exact V.1⟩, V.2.F ht⟩) V.2.2.2 hdg X.2.2.2.2.2.2.2
theorem bl_retv (X : bl_Cx g p s m as.toArray meth c cc nL own) (V : bl_V g s σ H locs) (hr : meth.sig.returnType = none) {o : Unit × bl_St} (hf : some ((), σ) = some o) (hdg : decode cc pc = .ok (.return_, 1)) :
    W p l e R s m as.toArray below meth c H locs 0 0 (MQ below (va_Qv (fun u => ((), u) = o) (fun u t => bl_P g u t.heap) (bl_A g)) as.toArray s 0 0 (bl_A g)) (F0 m pc ls []) :=
  W.vret X.1 X.2.1 hr (fun t ht hW => ⟨⟨σ, rfl, Option.some.inj hf, by show bl_P g σ t.heap; rw [ht]; exact V.1⟩, V.2.F ht⟩) V.2.2.2 hdg X.2.2.2.2.2.2.2
theorem bl_retr (X : bl_Cx g p s m as.toArray meth c cc nL own) (V : bl_V g s σ H locs) {kd : Nat} {rt : String} (hr : meth.sig.returnType = some (.object rt)) {v : Nat} {o : Nat × bl_St} (hf : some (v, σ) = some o) (hdg : decode cc pc = .ok (.areturn, 1)) :
    W p l e R s m as.toArray below meth c H locs 0 0 (MQ below (va_Qr (fun u => u = o.2) (fun u a t => a = bl_adr g kd o.1 ∧ bl_P g u t.heap) (bl_A g)) as.toArray s 0 0 (bl_A g)) (F0 m pc ls [.ref (bl_adr g kd v)]) := by
  cases hf
  exact W.aret X.1 X.2.1 hr (Or.inl ⟨_, rfl⟩) (Or.inr ⟨_, rfl⟩) (fun t ht hW => ⟨⟨σ, _, rfl, rfl, rfl, by show bl_P g σ t.heap; rw [ht]; exact V.1⟩, V.2.F ht⟩) V.2.2.2 hdg X.2.2.2.2.2.2.2
/-! compares of longs, with the branch behind -/
variable {x y : Int64} {off : Int} {tgt : Nat}
theorem bl_lc_lt (X : bl_Cx g p s m args meth c cc nL own) (hd1 : decode cc pc = .ok (.lcmp, 1)) (hdg : decode cc (pc + 1) = .ok (.ifCond .lt off, 3)) (ht : ((pc + 1 : Nat) : Int) + off = (tgt : Int)) (kt : x < y → W p l e R s m args below meth c H locs cells slots Q (F0 m tgt ls rest)) (kf : ¬ x < y → W p l e R s m args below meth c H locs cells slots Q (F0 m (pc + 1 + 3) ls rest)) : W p l e R s m args below meth c H locs cells slots Q (F0 m pc ls (.long y :: .long x :: rest)) :=
  W.lcmp X.1 X.2.1 hd1 (lv_if_lt X.1 X.2.1 hdg ht (fun h => kt ((lg_cmp_lt x y).mp h)) (fun h => kf (fun q => h ((lg_cmp_lt x y).mpr q))))
theorem bl_lc_ge (X : bl_Cx g p s m args meth c cc nL own) (hd1 : decode cc pc = .ok (.lcmp, 1)) (hdg : decode cc (pc + 1) = .ok (.ifCond .ge off, 3)) (ht : ((pc + 1 : Nat) : Int) + off = (tgt : Int)) (kt : y ≤ x → W p l e R s m args below meth c H locs cells slots Q (F0 m tgt ls rest)) (kf : ¬ y ≤ x → W p l e R s m args below meth c H locs cells slots Q (F0 m (pc + 1 + 3) ls rest)) : W p l e R s m args below meth c H locs cells slots Q (F0 m pc ls (.long y :: .long x :: rest)) :=
  W.lcmp X.1 X.2.1 hd1 (lv_if_ge X.1 X.2.1 hdg ht (fun h => kt ((lg_cmp_ge x y).mp h)) (fun h => kf (fun q => h ((lg_cmp_ge x y).mpr q))))
theorem bl_lc_gt (X : bl_Cx g p s m args meth c cc nL own) (hd1 : decode cc pc = .ok (.lcmp, 1)) (hdg : decode cc (pc + 1) = .ok (.ifCond .gt off, 3)) (ht : ((pc + 1 : Nat) : Int) + off = (tgt : Int)) (kt : y < x → W p l e R s m args below meth c H locs cells slots Q (F0 m tgt ls rest)) (kf : ¬ y < x → W p l e R s m args below meth c H locs cells slots Q (F0 m (pc + 1 + 3) ls rest)) : W p l e R s m args below meth c H locs cells slots Q (F0 m pc ls (.long y :: .long x :: rest)) :=
  W.lcmp X.1 X.2.1 hd1 (lv_if_gt X.1 X.2.1 hdg ht (fun h => kt ((lg_cmp_gt x y).mp h)) (fun h => kf (fun q => h ((lg_cmp_gt x y).mpr q))))
theorem bl_lc_le (X : bl_Cx g p s m args meth c cc nL own) (hd1 : decode cc pc = .ok (.lcmp, 1)) (hdg : decode cc (pc + 1) = .ok (.ifCond .le off, 3)) (ht : ((pc + 1 : Nat) : Int) + off = (tgt : Int)) (kt : x ≤ y → W p l e R s m args below meth c H locs cells slots Q (F0 m tgt ls rest)) (kf : ¬ x ≤ y → W p l e R s m args below meth c H locs cells slots Q (F0 m (pc + 1 + 3) ls rest)) : W p l e R s m args below meth c H locs cells slots Q (F0 m pc ls (.long y :: .long x :: rest)) :=
  W.lcmp X.1 X.2.1 hd1 (lv_if_le X.1 X.2.1 hdg ht (fun h => kt ((lg_cmp_le x y).mp h)) (fun h => kf (fun q => h ((lg_cmp_le x y).mpr q))))
theorem bl_lc_eq (X : bl_Cx g p s m args meth c cc nL own) (hd1 : decode cc pc = .ok (.lcmp, 1)) (hdg : decode cc (pc + 1) = .ok (.ifCond .eq off, 3)) (ht : ((pc + 1 : Nat) : Int) + off = (tgt : Int)) (kt : x = y → W p l e R s m args below meth c H locs cells slots Q (F0 m tgt ls rest)) (kf : ¬ x = y → W p l e R s m args below meth c H locs cells slots Q (F0 m (pc + 1 + 3) ls rest)) : W p l e R s m args below meth c H locs cells slots Q (F0 m pc ls (.long y :: .long x :: rest)) :=
  W.lcmp X.1 X.2.1 hd1 (lv_if_eq X.1 X.2.1 hdg ht (fun h => kt ((lg_cmp_eq x y).mp h)) (fun h => kf (fun q => h ((lg_cmp_eq x y).mpr q))))
theorem bl_lc_ne (X : bl_Cx g p s m args meth c cc nL own) (hd1 : decode cc pc = .ok (.lcmp, 1)) (hdg : decode cc (pc + 1) = .ok (.ifCond .ne off, 3)) (ht : ((pc + 1 : Nat) : Int) + off = (tgt : Int)) (kt : ¬ x = y → W p l e R s m args below meth c H locs cells slots Q (F0 m tgt ls rest)) (kf : x = y → W p l e R s m args below meth c H locs cells slots Q (F0 m (pc + 1 + 3) ls rest)) : W p l e R s m args below meth c H locs cells slots Q (F0 m pc ls (.long y :: .long x :: rest)) :=
  W.lcmp X.1 X.2.1 hd1 (lv_if_ne X.1 X.2.1 hdg ht (fun h => kt (fun q => h ((lg_cmp_eq x y).mpr q))) (fun h => kf ((lg_cmp_eq x y).mp h)))
end BLA
