def bl_G0 (g : bl_Gp) (n : Nat) (σ : bl_St) (U : State) : Prop := va_K (bl_D g) vwCl (bl_tys g) U ∧ bl_Cs g U ∧ bl_N0 g n σ U.heap
def bl_Ck (l : Launch) (g : bl_Gp) (y : MethodName) (cc : ByteArray) (maxL : Nat) (rm : Room) (as : List Value) (n : Nat) (σ : bl_St) (n1 : Nat) (σ1 : bl_St) (mc ms : Nat) : Prop :=
  Met l y (.code y cc maxL none :: bl_tb) rm (va_Pc as (bl_G0 g n σ)) (va_Qv (fun u => u = σ1) (fun u t => bl_N0 g n1 u t.heap) (bl_A g)) mc ms (bl_A g)
theorem bl_metk {l : Launch} {g : bl_Gp} {y : MethodName} {cc : ByteArray} {maxL : Nat} {rm : Room} {as : List Value} {n : Nat} {σ : bl_St} {mc ms : Nat} {Qc : Array Value → State → Outcome → State → Prop} (hy : plainName y.cls = true) (hn : (lg_sl as).length ≤ maxL)
    (body : ∀ (p : Program) (e : Env) (s : State) (m : MethodId) (below : List Frame) (meth : Method) (c : Code) (ls : Array Slot), bl_Cx g p s m as.toArray meth c cc maxL y.cls → meth.sig.returnType = none → meth.name = y.name → bl_N g s n σ s.heap [] → lv_has ls maxL (lv_args 0 as) →
      W p l e rm s m as.toArray below meth c s.heap [] 0 0 (MQ below Qc as.toArray s mc ms (bl_A g)) (F0 m 0 ls [])) : Met l y (.code y cc maxL none :: bl_tb) rm (va_Pc as (bl_G0 g n σ)) Qc mc ms (bl_A g) := by
  refine Met.ofW (cc := cc) (maxL := maxL) (ret := none) hy rfl ?_
  intro p e s m args below meth c s₁ B hml hv
  obtain ⟨rfl, hK, hC, hP⟩ := hv
  have hts := atoms_spec (ws := .code y cc maxL none :: bl_tb) B.pre
  have hl := lv_entry as (n := maxL) hn
  rw [lg_entry_eq]
  exact body p e s m below meth c _ ⟨B.exec, B.bytes, hml, findClass_of_methodNamed B.named, fun w h => hts w (List.mem_cons_of_mem _ h), hK, hC, B.notSynchronized⟩ B.returns (name_of_methodNamed B.named B.method).1 ⟨hP, va_S.rf⟩ hl
theorem bl_blind0 (g : bl_Gp) (n : Nat) (σ : bl_St) (as : List Value) : FrameBlind (va_Pc as (bl_G0 g n σ)) := by
  intro a U gf mk q
  obtain ⟨q0, qK, qC, qP⟩ := q
  exact ⟨q0, va_K.moved (u := U) (U := U.calling gf mk a) (Vm.Alike.refl U.vm) qK, qC.same rfl rfl, qP⟩
def bl_mI (y : MethodName) (bc : ByteArray) (maxL : Nat) (n : Nat) : Prop := Cond.instanceMethod y ∈ bl_tb ∧ Cond.initialized y.cls ∈ bl_tb ∧ Cond.code y bc maxL none ∈ bl_tb ∧ y.name = "<init>" ∧ bl_okd y n
def bl_oI (own : String) (index : Nat) : Prop := Cond.methodLink own index Lib.objectInit ∈ bl_tb ∧ Cond.instanceMethod Lib.objectInit ∈ bl_tb ∧ Cond.code Lib.objectInit ⟨#[0xb1]⟩ 1 none ∈ bl_tb
section BLM
variable {p : Program} {l : Launch} {e : Env} {R : Room} {s : State} {m : MethodId} {args : Array Value} {below : List Frame} {meth : Method} {c : Code} {H : Heap} {locs : List Loc} {cells slots : Nat} {Q : State → Prop}
variable {cc : ByteArray} {nL pc : Nat} {own : String} {ls : Array Slot} {rest st : List Value} {g : bl_Gp} {σ σ1 : bl_St} {n n1 i ci N k index : Nat}
variable {y : MethodName} {bc : ByteArray} {maxL np mc ms : Nat} {rm : Room} {As : List Value}
theorem bl_pre0 (X : bl_Cx g p s m args meth c cc nL own) (V : bl_N g s n σ H locs) (U : State) (hU : U.heap = H) (hW : s.WarmedH U.vm) : bl_G0 g n σ U :=
  ⟨va_K.moved hW.alike X.2.2.2.2.2.1, X.2.2.2.2.2.2.1.go hW (fun a h1 h2 => by rw [hU]; exact V.2.2.1 a h1 h2), by rw [hU]; exact V.1⟩
theorem bl_obj (X : bl_Cx g p s m args meth c cc nL own) (hsz : ls.size = nL) {a : Nat} (K : bl_oI own index) (hR : 1 ≤ R.frames ∧ (rest.map fun v => v.category).sum + 12 ≤ R.locals) (hdg : decode cc pc = .ok (.invokespecial index, 3))
    (kk : W p l e R s m args below meth c H locs cells slots Q (F0 m (pc + 3) ls rest)) : W p l e R s m args below meth c H locs cells slots Q (F0 m pc ls (.ref a :: rest)) :=
  W.objInit X.1 X.2.1 X.2.2.2.1 (X.2.2.2.2.1 _ K.1) (X.2.2.2.2.1 _ K.2.1) (X.2.2.2.2.1 _ K.2.2) rfl (by rw [X.2.2.1]; exact hsz) rfl hdg hR.1 (by show 2 * 0 + _ + 12 ≤ _; have := hR.2; omega) kk
theorem bl_ck (X : bl_Cx g p s m args meth c cc nL own) (V : bl_N g s n σ H locs) (hsz : ls.size = nL) {b : Nat} (L : Cond.methodLink own index y ∈ bl_tb) (K : bl_mI y bc maxL np) (hM : bl_Ck l g y bc maxL rm (.ref b :: As) n σ n1 σ1 mc ms) (hrc : rm.cells = mc) (hrs : rm.slots = ms) (hR : rm.frames + 1 ≤ R.frames ∧ 8 + (maxL + 11) + rm.locals ≤ R.locals) (hst : st = As.reverse ++ .ref b :: rest) (hn : As.length = np) (hw : (rest.map fun v => v.category).sum ≤ 8) (hf : cells + mc ≤ R.cells ∧ slots + ms ≤ R.slots) (hdg : decode cc pc = .ok (.invokespecial index, 3))
    (kk : ∀ (H1 : Heap) (locs1 : List Loc), bl_N g s n1 σ1 H1 locs1 → W p l e R s m args below meth c H1 locs1 (cells + mc) (slots + ms) Q (F0 m (pc + 3) ls rest)) : W p l e R s m args below meth c H locs cells slots Q (F0 m pc ls st) := by
  refine va_callv (va_runI (As := As) (rest := rest) (b := b) ⟨X.1, X.2.1, X.2.2.1, X.2.2.2.1, X.2.2.2.2.1⟩ hM (cwI np X.2.2.2.2.1 (bl_gC K.2.2.1) rfl hrc hrs (X.2.2.2.2.1 _ K.2.1) (X.2.2.2.2.1 _ L) (X.2.2.2.2.1 _ K.1) K.2.2.2.1 ⟨K.2.2.2.2.1, K.2.2.2.2.2.1, K.2.2.2.2.2.2⟩ hR) ⟨bl_blind0 g n σ _, fun U hU hW => ⟨rfl, bl_pre0 X V U hU hW⟩⟩ rfl hn hsz hst (lv_room hw) hdg hf) V.2 (fun q _ h => h) (fun q h => h) (fun u t H1 locs1 ht _ hp hb _ _ hS => ?_)
  cases hp
  have hb : bl_N0 g n1 _ t.heap := hb
  rw [ht] at hb
  exact kk H1 locs1 ⟨hb, hS⟩
theorem bl_ckN (X : bl_Cx g p s m args meth c cc nL own) (V : bl_N g s n σ H locs) (hsz : ls.size = nL) {b : Nat} (L : (own, index, y) ∈ bl_nM) (K : bl_mI y bc maxL np) (hM : bl_Ck l g y bc maxL rm (.ref b :: As) n σ n1 σ1 mc ms) (hrc : rm.cells = mc) (hrs : rm.slots = ms) (hR : rm.frames + 1 ≤ R.frames ∧ 8 + (maxL + 11) + rm.locals ≤ R.locals) (hst : st = As.reverse ++ .ref b :: rest) (hn : As.length = np) (hw : (rest.map fun v => v.category).sum ≤ 8) (hf : cells + mc ≤ R.cells ∧ slots + ms ≤ R.slots) (hdg : decode cc pc = .ok (.invokespecial index, 3))
    (kk : ∀ (H1 : Heap) (locs1 : List Loc), bl_N g s n1 σ1 H1 locs1 → W p l e R s m args below meth c H1 locs1 (cells + mc) (slots + ms) Q (F0 m (pc + 3) ls rest)) : W p l e R s m args below meth c H locs cells slots Q (F0 m pc ls st) := by
  refine va_callv (va_runIN (As := As) (rest := rest) (b := b) ⟨X.1, X.2.1, X.2.2.1, X.2.2.2.1, X.2.2.2.2.1⟩ hM ⟨va_cnB np X.2.2.2.2.1 (bl_gC K.2.2.1) rfl hrc hrs (X.2.2.2.2.2.2.1.2.2.1 _ L) (X.2.2.2.2.1 _ K.2.1) ⟨K.2.2.2.2.1, K.2.2.2.2.2.1, K.2.2.2.2.2.2⟩ hR, K.2.2.2.1, X.2.2.2.2.1 _ K.1⟩ ⟨bl_blind0 g n σ _, fun U hU hW => ⟨rfl, bl_pre0 X V U hU hW⟩⟩ rfl hn hsz hst (lv_room hw) hdg hf) V.2 (fun q _ h => h) (fun q h => h) (fun u t H1 locs1 ht _ hp hb _ _ hS => ?_)
  cases hp
  have hb : bl_N0 g n1 _ t.heap := hb
  rw [ht] at hb
  exact kk H1 locs1 ⟨hb, hS⟩
theorem bl_nvret {as : List Value} {mc ms : Nat} (X : bl_Cx g p s m as.toArray meth c cc nL own) (V : bl_N g s n σ H locs) (hr : meth.sig.returnType = none) (hσ : σ = σ1) (hnn : n = n1) (hdg : decode cc pc = .ok (.return_, 1)) :
    W p l e R s m as.toArray below meth c H locs mc ms (MQ below (va_Qv (fun u => u = σ1) (fun u t => bl_N0 g n1 u t.heap) (bl_A g)) as.toArray s mc ms (bl_A g)) (F0 m pc ls []) := by
  subst hσ
  subst hnn
  exact W.vret X.1 X.2.1 hr (fun t ht hW => ⟨⟨σ, rfl, rfl, by show bl_N0 g n σ t.heap; rw [ht]; exact V.1⟩, V.2.F ht⟩) V.2.2.2 hdg X.2.2.2.2.2.2.2
theorem bl_nbast (hL : bl_L g) (X : bl_Cx g p s m args meth c cc nL own) (V : bl_N g s n σ H locs) (hi : i < n) {len : Nat} (hs : bl_sh[i]? = some (22, len)) {j x : Int32} (hj : bl_in j len = true) (hk : j.toNatClampNeg = k) (hx : narrow .byte (.int x) = .int x) (hdg : decode cc pc = .ok (.bastore, 1))
    (kk : ∀ (H1 : Heap) (locs1 : List Loc), bl_N g s n (bl_pI σ i k x) H1 locs1 → W p l e R s m args below meth c H1 locs1 cells slots Q (F0 m (pc + 1) ls rest)) : W p l e R s m args below meth c H locs cells slots Q (F0 m pc ls (.int x :: .int j :: .ref (bl_ad g i) :: rest)) := by
  subst hk
  have hD := bl_Dn hL n σ
  have hP := V.1.1
  have he := bl_at (g := g) (σ := σ) hi hs
  have hin := bl_in_vp hj
  refine W.bast X.1 X.2.1 (hP i _ he) ((X.2.2.2.2.2.1.2 2 (bl_cA g 2, .byte) rfl).1 len (fun j => .int (bl_I σ i j))) (fun q => by cases q) (by show ¬ (j < 0 ∨ (arrV _ _ _).slots.size ≤ _); rw [arrV_size]; exact hin) rfl rfl hdg fun H1 e z oq => ?_
  have hP2 : va_P (bl_D g) vwCl ((bl_ws g n σ).set i (bl_ad g i, bl_en g (bl_pI σ i j.toNatClampNeg x) i (22, len))) H1 := by
    refine hP.set hD he ?_ oq
    show H1[bl_ad g i]? = some (vp_cell (bl_cA g 2) (len, .inl (bl_u σ.1 i j.toNatClampNeg x i)))
    rw [e, hx, bl_u_eq]
    show some ((arrV (bl_cA g 2) len (fun j => .int (bl_I σ i j))).setSlot j.toNatClampNeg (.int x)) = some (arrV (bl_cA g 2) len (fun b => .int (if b = j.toNatClampNeg then x else bl_I σ i b)))
    rw [arrV_store]
    congr 2
    funext q
    by_cases hq : q = j.toNatClampNeg
    · subst hq
      simp [updV]
    · simp [updV, hq]
  rw [bl_set hs hi bl_en_pI] at hP2
  exact kk H1 _ ⟨⟨hP2, by rw [z]; exact V.1.2.1, bl_Z_pI V.1.2.2 hi⟩, V.2.put z oq (hD.2 i _ he)⟩
theorem bl_nast (hL : bl_L g) (X : bl_Cx g p s m args meth c cc nL own) (V : bl_N g s n σ H locs) (hi : i < n) {len t0 kd v ciV NV : Nat} {C : String} {T : u_T} {N' : Nat} (hs : bl_sh[i]? = some (kd, len)) (hkd : kd = 20 + t0 ∧ (t0 = 4 ∨ t0 = 5)) (ht : (bl_tys g)[t0]? = some (bl_cA g t0, .object C)) (hv : v < n) (hsv : bl_sh[v]? = some (ciV, NV)) (hcV : vwCl[ciV]? = some (C, T, N')) (h11 : ciV < 11) (hv0 : v ≠ 0) {j : Int32} (hj : bl_in j len = true) (hk : j.toNatClampNeg = k) (hdg : decode cc pc = .ok (.aastore, 1))
    (kk : ∀ (H1 : Heap) (locs1 : List Loc), bl_N g s n (bl_pR σ i k v) H1 locs1 → W p l e R s m args below meth c H1 locs1 cells slots Q (F0 m (pc + 1) ls rest)) : W p l e R s m args below meth c H locs cells slots Q (F0 m pc ls (.ref (bl_ad g v) :: .int j :: .ref (bl_ad g i) :: rest)) := by
  subst hk
  have hD := bl_Dn hL n σ
  have hP := V.1.1
  have he := bl_at (g := g) (σ := σ) hi hs
  have hev := bl_at (g := g) (σ := σ) hv hsv
  rw [bl_en_obj h11] at hev
  have hlt := bl_in_lt hj
  have h0 : ¬ j < 0 := fun q => bl_in_vp hj (Or.inl q)
  have hen : ∀ τ : bl_St, bl_en g τ i (kd, len) = .inl (bl_cA g t0, len, .inr (.inr (.inr (.inr (fun j => bl_rf g (bl_R τ i j)))))) := by
    intro τ
    obtain ⟨q1, q2⟩ := hkd
    rcases q2 with q2 | q2 <;> subst q2 <;> subst q1 <;> rfl
  rw [hen σ] at he
  have hK := X.2.2.2.2.2.1
  obtain ⟨r', hr', cellV, g1, g2, g3, -⟩ := hP v _ hev
  have hcls := (hK.1 ciV _ hcV).2
  obtain ⟨kA, comp, k1, k2, k3, -⟩ := (hK.2 t0 _ ht).2
  have hcomp : comp = (bl_D g).1 ciV := Option.some.inj (k3.symm.trans hcls.1)
  subst hcomp
  obtain ⟨kC, hkC, -⟩ := hcls.2
  refine W.aast X.1 X.2.1 (hP i _ he) (fun q h => by cases h) (fun h => by cases h) k1 k2 rfl hkC ⟨h0, by show _ < (arrV _ _ _).slots.size; rw [arrV_size]; exact hlt⟩ g1 (fun q h => by rw [g3] at h; cases h) (by rw [g2]; exact hkC) (by rw [g2]; exact va_assign hcls) rfl rfl hdg fun H1 e z oq => ?_
  have hP2 : va_P (bl_D g) vwCl ((bl_ws g n σ).set i (bl_ad g i, bl_en g (bl_pR σ i j.toNatClampNeg v) i (kd, len))) H1 := by
    refine hP.set hD he ?_ oq
    rw [hen]
    show H1[bl_ad g i]? = some (arrV (bl_cA g t0) len (fun b => va_rf (bl_rf g (bl_u σ.2.2 i j.toNatClampNeg v i b))))
    rw [e, bl_u_eq]
    show some ((arrV (bl_cA g t0) len (fun b => va_rf (bl_rf g (bl_R σ i b)))).setSlot j.toNatClampNeg (.ref (bl_ad g v))) = _
    rw [arrV_store]
    congr 2
    funext q
    by_cases hq : q = j.toNatClampNeg
    · subst hq
      simp [updV, bl_rf, hv0, va_rf]
    · simp [updV, hq]
  rw [bl_set hs hi bl_en_pR] at hP2
  exact kk H1 _ ⟨⟨hP2, by rw [z]; exact V.1.2.1, bl_Z_pR V.1.2.2 hi⟩, V.2.put z oq (hD.2 i _ he)⟩
theorem bl_ncopys (hL : bl_L g) (X : bl_Cx g p s m args meth c cc nL own) (V : bl_N g s n σ H locs) (hsz : ls.size = nL) (K : bl_acp own index) {i1 n1 b0 : Nat} {xs : List Int32} (hi : i1 < n) (hX : va_T .int b0 xs.length (fun j => .int (xs.getD j 0)) (bl_A g) s s.heap) (hs1 : bl_sh[i1]? = some (20, n1)) {sp dp cn : Int32} (hk : bl_cpk sp dp cn xs.length n1 = true)
    (hframes : 1 ≤ R.frames) (hlocals : (rest.map fun v => v.category).sum + (nativeFrameWords "java/lang/System" "arraycopy" 5 + 11) ≤ R.locals) (hdg : decode cc pc = .ok (.invokestatic index, 3))
    (kk : ∀ (H1 : Heap) (locs1 : List Loc), bl_N g s n (bl_cS σ (fun j => xs.getD j 0) sp.toNatClampNeg i1 dp.toNatClampNeg cn.toNatClampNeg) H1 locs1 → W p l e R s m args below meth c H1 locs1 cells slots Q (F0 m (pc + 3) ls rest)) : W p l e R s m args below meth c H locs cells slots Q (F0 m pc ls (.int cn :: .int dp :: .ref (bl_ad g i1) :: .int sp :: .ref b0 :: rest)) := by
  obtain ⟨h1, h2, h3, h4, h5⟩ := bl_cpk_at hk
  have nn : ∀ z : Int32, ¬ z < 0 → z.toInt = (z.toNatClampNeg : Int) := by
    intro z hz
    have hz0 : (0 : Int) ≤ z.toInt := by
      have := Int32.not_lt.mp hz
      simpa using Int32.le_iff_toInt_le.mp this
    show z.toInt = ((z.toInt.toNat : Nat) : Int)
    omega
  have hP := V.1.1
  have hD := bl_Dn hL n σ
  have hS := V.2
  have ha1 := bl_at (g := g) (σ := σ) hi hs1
  have hK1 := (X.2.2.2.2.2.1.2 0 (bl_cA g 0, .int) rfl).1 n1 (fun j => .int (bl_I σ i1 j))
  intro T hT Y
  obtain ⟨scr, hs1', hs2, hs3, hs4, -, hs5, hs7⟩ := hX
  have hc0 : H[b0]? = some scr := by rw [hS.2.1 b0 (Array.getElem?_eq_some_iff.mp hs1').1 hs7]; exact hs1'
  have hc1 : H[bl_ad g i1]? = some (vp_cell (bl_cA g 0) (n1, .inl (bl_I σ i1))) := hP i1 _ ha1
  obtain ⟨hs6, k0, hk0, cm0, hkk0⟩ := hs2
  obtain ⟨-, k1, hk1, cm1, hkk1⟩ := hK1
  obtain ⟨vm', Y', step⟩ := Y.arraycopy X.1 X.2.2.2.1 (X.2.2.2.2.1 _ K.1) (X.2.2.2.2.1 _ K.2.1) (X.2.2.2.2.1 _ K.2.2.1) (X.2.2.2.2.1 _ K.2.2.2) (src := b0) (dst := bl_ad g i1) (cs := scr) (cd := vp_cell (bl_cA g 0) (n1, .inl (bl_I σ i1))) (srcPos := sp) (destPos := dp) (n := cn) (by rw [hT]; exact hc0) (by rw [hT]; exact hc1)
    hs6 (fun _ h => by cases h) hs3 (fun h => by cases h) hk0 hk1 hkk0 hkk1 (by simp [refKind]) h1 h2 h3
    (by rw [nn sp h1, nn cn h3]; omega)
    (by rw [nn dp h2, nn cn h3]; show ¬ _ > ((arrV (bl_cA g 0) n1 (fun j => .int (bl_I σ i1 j))).slots.size : Int); rw [arrV_size]; omega)
    (fun vm₁ _ i hi => by
      have e : scr.slots.getD (sp.toNatClampNeg + i) .null = .int (xs.getD (sp.toNatClampNeg + i) 0) := by
        rw [Array.getD_eq_getD_getElem?, hs5 _ (by omega)]
        rfl
      refine ⟨?_, ?_⟩
      · rw [e]
        rfl
      · rw [e]
        exact trivial)
    (g := F0 m pc ls (.int cn :: .int dp :: .ref (bl_ad g i1) :: .int sp :: .ref b0 :: rest)) rfl (by rw [X.2.2.1, hsz]) (rest := rest) rfl (by rw [X.2.1]; exact hdg) hframes (by show 2 * 0 + _ + _ ≤ _; omega)
  have e1 : copied scr (vp_cell (bl_cA g 0) (n1, .inl (bl_I σ i1))) sp dp cn = vp_cell (bl_cA g 0) (n1, .inl (va_cpy (fun j => xs.getD j 0) (bl_I σ i1) sp.toNatClampNeg dp.toNatClampNeg cn.toNatClampNeg)) := va_copiedX (fun z => .int z) scr (bl_cA g 0) (fun j => xs.getD j 0) (bl_I σ i1) hs5 h4
  rw [e1] at Y' step
  have hl : bl_ad g i1 < H.size := (Array.getElem?_eq_some_iff.mp hc1).1
  generalize hZ : vp_cell (bl_cA g 0) (n1, .inl (va_cpy (fun j => xs.getD j 0) (bl_I σ i1) sp.toNatClampNeg dp.toNatClampNeg cn.toNatClampNeg)) = Z at Y' step
  have hheap : ((T.setVm vm').setCell (bl_ad g i1) Z).heap = H.setIfInBounds (bl_ad g i1) Z := by rw [← hT]; rfl
  have oq : ∀ q : Nat, q ≠ bl_ad g i1 → (H.setIfInBounds (bl_ad g i1) Z)[q]? = H[q]? := fun q hq => by simp [Array.getElem?_setIfInBounds, Ne.symm hq]
  have hP2 := hP.set hD ha1 (e := .inl (bl_cA g 0, n1, .inl (va_cpy (fun j => xs.getD j 0) (bl_I σ i1) sp.toNatClampNeg dp.toNatClampNeg cn.toNatClampNeg))) (show (H.setIfInBounds (bl_ad g i1) Z)[bl_ad g i1]? = some _ by rw [hZ]; simp [Array.getElem?_setIfInBounds, hl]) oq
  have e2 : (.inl (bl_cA g 0, n1, .inl (va_cpy (fun j => xs.getD j 0) (bl_I σ i1) sp.toNatClampNeg dp.toNatClampNeg cn.toNatClampNeg)) : va_E) = bl_en g (bl_cS σ (fun j => xs.getD j 0) sp.toNatClampNeg i1 dp.toNatClampNeg cn.toNatClampNeg) i1 (20, n1) := by
    show _ = Sum.inl (bl_cA g 0, n1, Sum.inl (bl_row σ.1 i1 _ i1))
    rw [bl_row_eq]
  rw [e2, bl_set (σ := σ) (σ1 := bl_cS σ (fun j => xs.getD j 0) sp.toNatClampNeg i1 dp.toNatClampNeg cn.toNatClampNeg) hs1 hi (fun j h r => bl_en_o (σ := σ) (σ1 := bl_cS σ (fun j => xs.getD j 0) sp.toNatClampNeg i1 dp.toNatClampNeg cn.toNatClampNeg) (j := j) (bl_row_ne h) rfl rfl r)] at hP2
  obtain ⟨t, a1, b1⟩ := kk _ _ ⟨⟨hP2, by simp; exact V.1.2.1, bl_Z_cS V.1.2.2 hi⟩, ⟨by simp; exact hS.1, fun q g1 g2 => by
      rw [oq q (fun e => g2 (by rw [e]; exact hD.2 i1 _ ha1))]
      exact hS.2.1 q g1 g2, fun q hq => by
      rcases List.mem_append.mp hq with h | h
      · exact hS.2.2 q h
      · obtain ⟨z, -, hz⟩ := List.mem_map.mp h
        rw [← hz]
        exact hD.2 i1 _ ha1⟩⟩ _ hheap Y'
  exact ⟨t, step t a1, b1⟩
end BLM
