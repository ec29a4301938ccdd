/-! what a call needs of the tables -/
def bl_okd (y : MethodName) (n : Nat) : Prop := y.cls ≠ "java/lang/invoke/MethodHandle" ∧ y.cls ≠ "java/lang/invoke/VarHandle" ∧ (parseMethodDescriptor y.desc).map (fun d => d.parameters.length) = some n
def bl_mV (y : MethodName) (bc : ByteArray) (maxL : Nat) (ret : Option FieldType) (n : Nat) : Prop := Cond.instanceMethod y ∈ bl_tb ∧ Cond.selects y.cls y y ∈ bl_tb ∧ Cond.initialized y.cls ∈ bl_tb ∧ Cond.code y bc maxL ret ∈ bl_tb ∧ bl_okd y n
def bl_mS (y : MethodName) (bc : ByteArray) (maxL : Nat) (ret : Option FieldType) (n : Nat) : Prop := Cond.static y ∈ bl_tb ∧ Cond.initialized y.cls ∈ bl_tb ∧ Cond.code y bc maxL ret ∈ bl_tb ∧ bl_okd y n
theorem bl_gV {own : String} {index : Nat} {y : MethodName} {bc : ByteArray} {maxL : Nat} {ret : Option FieldType} {n : Nat} (L : Cond.methodLink own index y ∈ bl_tb) (K : bl_mV y bc maxL ret n) : GoodIn bl_tb (wsV own index y.cls y (.code y bc maxL ret :: bl_tb)) := by
  intro w hw
  have h : w ∈ bl_tb := by
    unfold wsV at hw
    rcases List.mem_append.mp hw with h | h
    · simp only [List.mem_cons, List.not_mem_nil, or_false] at h
      rcases h with rfl | rfl | rfl | rfl
      · exact L
      · exact K.1
      · exact K.2.1
      · exact K.2.2.1
    · rcases List.mem_cons.mp h with rfl | h
      · exact K.2.2.2.1
      · exact h
  exact ⟨h, (bl_tb_good h).2⟩
theorem bl_gS {own : String} {index : Nat} {y : MethodName} {bc : ByteArray} {maxL : Nat} {ret : Option FieldType} {n : Nat} (L : Cond.methodLink own index y ∈ bl_tb) (K : bl_mS y bc maxL ret n) : GoodIn bl_tb (va_wsS own index y (.code y bc maxL ret :: bl_tb)) := by
  intro w hw
  have h : w ∈ bl_tb := by
    unfold va_wsS at hw
    rcases List.mem_append.mp hw with h | h
    · simp only [List.mem_cons, List.not_mem_nil, or_false] at h
      rcases h with rfl | rfl | rfl
      · exact L
      · exact K.1
      · exact K.2.1
    · rcases List.mem_cons.mp h with rfl | h
      · exact K.2.2.1
      · exact h
  exact ⟨h, (bl_tb_good h).2⟩
theorem bl_gC {y : MethodName} {bc : ByteArray} {maxL : Nat} {ret : Option FieldType} (K : Cond.code y bc maxL ret ∈ bl_tb) : GoodIn bl_tb (.code y bc maxL ret :: bl_tb) := by
  intro w hw
  have h : w ∈ bl_tb := by
    rcases List.mem_cons.mp hw with rfl | h
    · exact K
    · exact h
  exact ⟨h, (bl_tb_good h).2⟩
section BLC
variable {p : Program} {l : Launch} {e : Env} {R : Room} {s : State} {m : MethodId} {args : Array Value} {below : List Frame} {meth : Method} {c : Code} {H : Heap} {locs : List Loc} {cells slots : Nat} {Q : State → Prop}
variable {cc : ByteArray} {nL pc : Nat} {own : String} {ls : Array Slot} {rest st : List Value} {g : bl_Gp} {σ : bl_St} {i ci N index : Nat}
variable {y : MethodName} {bc : ByteArray} {maxL n : Nat} {ret : Option FieldType} {rm : Room} {As : List Value}
/-- a callee's start, where the caller stands now -/
theorem bl_pre (X : bl_Cx g p s m args meth c cc nL own) (V : bl_V g s σ H locs) (U : State) (hU : U.heap = H) (hW : s.WarmedH U.vm) : bl_G g σ U :=
  ⟨va_K.moved hW.alike X.2.2.2.2.2.1, X.2.2.2.2.2.2.1.go hW (fun a h1 h2 => by rw [hU]; exact V.2.2.1 a h1 h2), by rw [hU]; exact V.1⟩
theorem bl_rcv (X : bl_Cx g p s m args meth c cc nL own) (V : bl_V g s σ H locs) (hs : bl_sh[i]? = some (ci, N)) {T : u_T} {N' : Nat} {C : String} (hc : vwCl[ci]? = some (C, T, N')) : ∃ cell : Cell, H[bl_ad g i]? = some cell ∧ cell.vm.isStatics = false ∧ s.vm.findClass C = some cell.cls := by
  have he := bl_at (g := g) (σ := σ) (bl_lt hs) hs
  have h11 : ci < 11 := by
    have h := (List.getElem?_eq_some_iff.mp hc).1
    exact h
  rw [bl_en_obj h11] at he
  exact va_recv X.2.2.2.2.2.1 V.1.1 hc he
theorem bl_cVi (X : bl_Cx g p s m args meth c cc nL own) (V : bl_V g s σ H locs) (hsz : ls.size = nL) (hs : bl_sh[i]? = some (ci, N)) {T : u_T} {N' : Nat} (hc : vwCl[ci]? = some (y.cls, T, N')) (L : Cond.methodLink own index y ∈ bl_tb) (K : bl_mV y bc maxL ret n) {o : Int32 × bl_St} (hM : bl_Ci l g y bc maxL ret rm (.ref (bl_ad g i) :: As) σ o) (hrc : rm.cells = 0) (hrs : rm.slots = 0) (hR : rm.frames + 1 ≤ R.frames ∧ 8 + (maxL + 11) + rm.locals ≤ R.locals) (hst : st = As.reverse ++ .ref (bl_ad g i) :: rest) (hn : As.length = n) (hw : (rest.map fun v => v.category).sum ≤ 8) (hf : cells ≤ R.cells ∧ slots ≤ R.slots) (hdg : decode cc pc = .ok (.invokevirtual index, 3))
    (kk : ∀ (H1 : Heap) (locs1 : List Loc), bl_V g s o.2 H1 locs1 → W p l e R s m args below meth c H1 locs1 cells slots Q (F0 m (pc + 3) ls (.int o.1 :: rest))) : W p l e R s m args below meth c H locs cells slots Q (F0 m pc ls st) := by
  refine va_calli (va_runV (As := As) (rest := rest) (b := bl_ad g i) ⟨X.1, X.2.1, X.2.2.1, X.2.2.2.1, X.2.2.2.2.1⟩ hM (cwV n X.2.2.2.2.1 (bl_gV L K) rfl hrc hrs ⟨rfl, K.2.2.2.2.1, K.2.2.2.2.2.1, K.2.2.2.2.2.2⟩ hR) ⟨bl_blind g σ _, bl_rcv X V hs hc, fun U hU hW => ⟨rfl, bl_pre X V U hU hW⟩⟩ rfl hn hsz hst (lv_room hw) hdg ⟨hf.1, hf.2⟩) V.2 (fun q _ h => h) (fun q h => h) (fun r u t H1 locs1 ht _ hp hb _ _ hS => ?_)
  subst hp
  have hb : bl_P g u t.heap := hb
  rw [ht] at hb
  exact kk H1 locs1 ⟨hb, hS⟩
theorem bl_cSi (X : bl_Cx g p s m args meth c cc nL own) (V : bl_V g s σ H locs) (hsz : ls.size = nL) (L : Cond.methodLink own index y ∈ bl_tb) (K : bl_mS y bc maxL ret n) {o : Int32 × bl_St} (hM : bl_Ci l g y bc maxL ret rm As σ o) (hrc : rm.cells = 0) (hrs : rm.slots = 0) (hR : rm.frames + 1 ≤ R.frames ∧ 8 + (maxL + 11) + rm.locals ≤ R.locals) (hst : st = As.reverse ++ rest) (hn : As.length = n) (hw : (rest.map fun v => v.category).sum ≤ 8) (hf : cells ≤ R.cells ∧ slots ≤ R.slots) (hdg : decode cc pc = .ok (.invokestatic index, 3))
    (kk : ∀ (H1 : Heap) (locs1 : List Loc), bl_V g s o.2 H1 locs1 → W p l e R s m args below meth c H1 locs1 cells slots Q (F0 m (pc + 3) ls (.int o.1 :: rest))) : W p l e R s m args below meth c H locs cells slots Q (F0 m pc ls st) := by
  refine va_calli (va_runS (As := As) (rest := rest) ⟨X.1, X.2.1, X.2.2.1, X.2.2.2.1, X.2.2.2.2.1⟩ hM (va_cwS n X.2.2.2.2.1 (bl_gS L K) rfl hrc hrs ⟨K.2.2.2.1, K.2.2.2.2.1, K.2.2.2.2.2⟩ hR) ⟨bl_blind g σ _, fun U hU hW => ⟨rfl, bl_pre X V U hU hW⟩⟩ rfl hn hsz hst (lv_room hw) hdg ⟨hf.1, hf.2⟩) V.2 (fun q _ h => h) (fun q h => h) (fun r u t H1 locs1 ht _ hp hb _ _ hS => ?_)
  subst hp
  have hb : bl_P g u t.heap := hb
  rw [ht] at hb
  exact kk H1 locs1 ⟨hb, hS⟩
theorem bl_cVl (X : bl_Cx g p s m args meth c cc nL own) (V : bl_V g s σ H locs) (hsz : ls.size = nL) (hs : bl_sh[i]? = some (ci, N)) {T : u_T} {N' : Nat} (hc : vwCl[ci]? = some (y.cls, T, N')) (L : Cond.methodLink own index y ∈ bl_tb) (K : bl_mV y bc maxL ret n) {o : Int64 × bl_St} (hM : bl_Cl l g y bc maxL ret rm (.ref (bl_ad g i) :: As) σ o) (hrc : rm.cells = 0) (hrs : rm.slots = 0) (hR : rm.frames + 1 ≤ R.frames ∧ 8 + (maxL + 11) + rm.locals ≤ R.locals) (hst : st = As.reverse ++ .ref (bl_ad g i) :: rest) (hn : As.length = n) (hw : (rest.map fun v => v.category).sum ≤ 8) (hf : cells ≤ R.cells ∧ slots ≤ R.slots) (hdg : decode cc pc = .ok (.invokevirtual index, 3))
    (kk : ∀ (H1 : Heap) (locs1 : List Loc), bl_V g s o.2 H1 locs1 → W p l e R s m args below meth c H1 locs1 cells slots Q (F0 m (pc + 3) ls (.long o.1 :: rest))) : W p l e R s m args below meth c H locs cells slots Q (F0 m pc ls st) := by
  refine va_calll (va_runV (As := As) (rest := rest) (b := bl_ad g i) ⟨X.1, X.2.1, X.2.2.1, X.2.2.2.1, X.2.2.2.2.1⟩ hM (cwV n X.2.2.2.2.1 (bl_gV L K) rfl hrc hrs ⟨rfl, K.2.2.2.2.1, K.2.2.2.2.2.1, K.2.2.2.2.2.2⟩ hR) ⟨bl_blind g σ _, bl_rcv X V hs hc, fun U hU hW => ⟨rfl, bl_pre X V U hU hW⟩⟩ rfl hn hsz hst (lv_room hw) hdg ⟨hf.1, hf.2⟩) V.2 (fun q _ h => h) (fun q h => h) (fun r u t H1 locs1 ht _ hp hb _ _ hS => ?_)
  subst hp
  have hb : bl_P g u t.heap := hb
  rw [ht] at hb
  exact kk H1 locs1 ⟨hb, hS⟩
theorem bl_cSl (X : bl_Cx g p s m args meth c cc nL own) (V : bl_V g s σ H locs) (hsz : ls.size = nL) (L : Cond.methodLink own index y ∈ bl_tb) (K : bl_mS y bc maxL ret n) {o : Int64 × bl_St} (hM : bl_Cl l g y bc maxL ret rm As σ o) (hrc : rm.cells = 0) (hrs : rm.slots = 0) (hR : rm.frames + 1 ≤ R.frames ∧ 8 + (maxL + 11) + rm.locals ≤ R.locals) (hst : st = As.reverse ++ rest) (hn : As.length = n) (hw : (rest.map fun v => v.category).sum ≤ 8) (hf : cells ≤ R.cells ∧ slots ≤ R.slots) (hdg : decode cc pc = .ok (.invokestatic index, 3))
    (kk : ∀ (H1 : Heap) (locs1 : List Loc), bl_V g s o.2 H1 locs1 → W p l e R s m args below meth c H1 locs1 cells slots Q (F0 m (pc + 3) ls (.long o.1 :: rest))) : W p l e R s m args below meth c H locs cells slots Q (F0 m pc ls st) := by
  refine va_calll (va_runS (As := As) (rest := rest) ⟨X.1, X.2.1, X.2.2.1, X.2.2.2.1, X.2.2.2.2.1⟩ hM (va_cwS n X.2.2.2.2.1 (bl_gS L K) rfl hrc hrs ⟨K.2.2.2.1, K.2.2.2.2.1, K.2.2.2.2.2⟩ hR) ⟨bl_blind g σ _, fun U hU hW => ⟨rfl, bl_pre X V U hU hW⟩⟩ rfl hn hsz hst (lv_room hw) hdg ⟨hf.1, hf.2⟩) V.2 (fun q _ h => h) (fun q h => h) (fun r u t H1 locs1 ht _ hp hb _ _ hS => ?_)
  subst hp
  have hb : bl_P g u t.heap := hb
  rw [ht] at hb
  exact kk H1 locs1 ⟨hb, hS⟩
theorem bl_cVv (X : bl_Cx g p s m args meth c cc nL own) (V : bl_V g s σ H locs) (hsz : ls.size = nL) (hs : bl_sh[i]? = some (ci, N)) {T : u_T} {N' : Nat} (hc : vwCl[ci]? = some (y.cls, T, N')) (L : Cond.methodLink own index y ∈ bl_tb) (K : bl_mV y bc maxL ret n) {o : Unit × bl_St} (hM : bl_Cv l g y bc maxL ret rm (.ref (bl_ad g i) :: As) σ o) (hrc : rm.cells = 0) (hrs : rm.slots = 0) (hR : rm.frames + 1 ≤ R.frames ∧ 8 + (maxL + 11) + rm.locals ≤ R.locals) (hst : st = As.reverse ++ .ref (bl_ad g i) :: rest) (hn : As.length = n) (hw : (rest.map fun v => v.category).sum ≤ 8) (hf : cells ≤ R.cells ∧ slots ≤ R.slots) (hdg : decode cc pc = .ok (.invokevirtual index, 3))
    (kk : ∀ (H1 : Heap) (locs1 : List Loc), bl_V g s o.2 H1 locs1 → W p l e R s m args below meth c H1 locs1 cells slots Q (F0 m (pc + 3) ls (rest))) : W p l e R s m args below meth c H locs cells slots Q (F0 m pc ls st) := by
  refine va_callv (va_runV (As := As) (rest := rest) (b := bl_ad g i) ⟨X.1, X.2.1, X.2.2.1, X.2.2.2.1, X.2.2.2.2.1⟩ hM (cwV n X.2.2.2.2.1 (bl_gV L K) rfl hrc hrs ⟨rfl, K.2.2.2.2.1, K.2.2.2.2.2.1, K.2.2.2.2.2.2⟩ hR) ⟨bl_blind g σ _, bl_rcv X V hs hc, fun U hU hW => ⟨rfl, bl_pre X V U hU hW⟩⟩ rfl hn hsz hst (lv_room hw) hdg ⟨hf.1, hf.2⟩) V.2 (fun q _ h => h) (fun q h => h) (fun u t H1 locs1 ht _ hp hb _ _ hS => ?_)
  subst hp
  have hb : bl_P g u t.heap := hb
  rw [ht] at hb
  exact kk H1 locs1 ⟨hb, hS⟩
theorem bl_cSv (X : bl_Cx g p s m args meth c cc nL own) (V : bl_V g s σ H locs) (hsz : ls.size = nL) (L : Cond.methodLink own index y ∈ bl_tb) (K : bl_mS y bc maxL ret n) {o : Unit × bl_St} (hM : bl_Cv l g y bc maxL ret rm As σ o) (hrc : rm.cells = 0) (hrs : rm.slots = 0) (hR : rm.frames + 1 ≤ R.frames ∧ 8 + (maxL + 11) + rm.locals ≤ R.locals) (hst : st = As.reverse ++ rest) (hn : As.length = n) (hw : (rest.map fun v => v.category).sum ≤ 8) (hf : cells ≤ R.cells ∧ slots ≤ R.slots) (hdg : decode cc pc = .ok (.invokestatic index, 3))
    (kk : ∀ (H1 : Heap) (locs1 : List Loc), bl_V g s o.2 H1 locs1 → W p l e R s m args below meth c H1 locs1 cells slots Q (F0 m (pc + 3) ls (rest))) : W p l e R s m args below meth c H locs cells slots Q (F0 m pc ls st) := by
  refine va_callv (va_runS (As := As) (rest := rest) ⟨X.1, X.2.1, X.2.2.1, X.2.2.2.1, X.2.2.2.2.1⟩ hM (va_cwS n X.2.2.2.2.1 (bl_gS L K) rfl hrc hrs ⟨K.2.2.2.1, K.2.2.2.2.1, K.2.2.2.2.2⟩ hR) ⟨bl_blind g σ _, fun U hU hW => ⟨rfl, bl_pre X V U hU hW⟩⟩ rfl hn hsz hst (lv_room hw) hdg ⟨hf.1, hf.2⟩) V.2 (fun q _ h => h) (fun q h => h) (fun u t H1 locs1 ht _ hp hb _ _ hS => ?_)
  subst hp
  have hb : bl_P g u t.heap := hb
  rw [ht] at hb
  exact kk H1 locs1 ⟨hb, hS⟩
theorem bl_cVr {kd : Nat} (X : bl_Cx g p s m args meth c cc nL own) (V : bl_V g s σ H locs) (hsz : ls.size = nL) (hs : bl_sh[i]? = some (ci, N)) {T : u_T} {N' : Nat} (hc : vwCl[ci]? = some (y.cls, T, N')) (L : Cond.methodLink own index y ∈ bl_tb) (K : bl_mV y bc maxL ret n) {o : Nat × bl_St} (hM : bl_Cr kd l g y bc maxL ret rm (.ref (bl_ad g i) :: As) σ o) (hrc : rm.cells = 0) (hrs : rm.slots = 0) (hR : rm.frames + 1 ≤ R.frames ∧ 8 + (maxL + 11) + rm.locals ≤ R.locals) (hst : st = As.reverse ++ .ref (bl_ad g i) :: rest) (hn : As.length = n) (hw : (rest.map fun v => v.category).sum ≤ 8) (hf : cells ≤ R.cells ∧ slots ≤ R.slots) (hdg : decode cc pc = .ok (.invokevirtual index, 3))
    (kk : ∀ (H1 : Heap) (locs1 : List Loc), bl_V g s o.2 H1 locs1 → W p l e R s m args below meth c H1 locs1 cells slots Q (F0 m (pc + 3) ls (.ref (bl_adr g kd o.1) :: rest))) : W p l e R s m args below meth c H locs cells slots Q (F0 m pc ls st) := by
  refine va_callr (va_runV (As := As) (rest := rest) (b := bl_ad g i) ⟨X.1, X.2.1, X.2.2.1, X.2.2.2.1, X.2.2.2.2.1⟩ hM (cwV n X.2.2.2.2.1 (bl_gV L K) rfl hrc hrs ⟨rfl, K.2.2.2.2.1, K.2.2.2.2.2.1, K.2.2.2.2.2.2⟩ hR) ⟨bl_blind g σ _, bl_rcv X V hs hc, fun U hU hW => ⟨rfl, bl_pre X V U hU hW⟩⟩ rfl hn hsz hst (lv_room hw) hdg ⟨hf.1, hf.2⟩) V.2 (fun q _ h => h) (fun q h => h) (fun u ra t H1 locs1 ht _ hp hb _ _ hS => ?_)
  subst hp
  obtain ⟨hb1, hb2⟩ := hb
  subst hb1
  rw [ht] at hb2
  exact kk H1 locs1 ⟨hb2, hS⟩
theorem bl_cSr {kd : Nat} (X : bl_Cx g p s m args meth c cc nL own) (V : bl_V g s σ H locs) (hsz : ls.size = nL) (L : Cond.methodLink own index y ∈ bl_tb) (K : bl_mS y bc maxL ret n) {o : Nat × bl_St} (hM : bl_Cr kd l g y bc maxL ret rm As σ o) (hrc : rm.cells = 0) (hrs : rm.slots = 0) (hR : rm.frames + 1 ≤ R.frames ∧ 8 + (maxL + 11) + rm.locals ≤ R.locals) (hst : st = As.reverse ++ rest) (hn : As.length = n) (hw : (rest.map fun v => v.category).sum ≤ 8) (hf : cells ≤ R.cells ∧ slots ≤ R.slots) (hdg : decode cc pc = .ok (.invokestatic index, 3))
    (kk : ∀ (H1 : Heap) (locs1 : List Loc), bl_V g s o.2 H1 locs1 → W p l e R s m args below meth c H1 locs1 cells slots Q (F0 m (pc + 3) ls (.ref (bl_adr g kd o.1) :: rest))) : W p l e R s m args below meth c H locs cells slots Q (F0 m pc ls st) := by
  refine va_callr (va_runS (As := As) (rest := rest) ⟨X.1, X.2.1, X.2.2.1, X.2.2.2.1, X.2.2.2.2.1⟩ hM (va_cwS n X.2.2.2.2.1 (bl_gS L K) rfl hrc hrs ⟨K.2.2.2.1, K.2.2.2.2.1, K.2.2.2.2.2⟩ hR) ⟨bl_blind g σ _, fun U hU hW => ⟨rfl, bl_pre X V U hU hW⟩⟩ rfl hn hsz hst (lv_room hw) hdg ⟨hf.1, hf.2⟩) V.2 (fun q _ h => h) (fun q h => h) (fun u ra t H1 locs1 ht _ hp hb _ _ hS => ?_)
  subst hp
  obtain ⟨hb1, hb2⟩ := hb
  subst hb1
  rw [ht] at hb2
  exact kk H1 locs1 ⟨hb2, hS⟩
theorem bl_cNr {kd : Nat} (X : bl_Cx g p s m args meth c cc nL own) (V : bl_V g s σ H locs) (hsz : ls.size = nL) (L : (own, index, y) ∈ bl_nM) (K : bl_mS y bc maxL ret n) {o : Nat × bl_St} (hM : bl_Cr kd l g y bc maxL ret rm As σ o) (hrc : rm.cells = 0) (hrs : rm.slots = 0) (hR : rm.frames + 1 ≤ R.frames ∧ 8 + (maxL + 11) + rm.locals ≤ R.locals) (hst : st = As.reverse ++ rest) (hn : As.length = n) (hw : (rest.map fun v => v.category).sum ≤ 8) (hf : cells ≤ R.cells ∧ slots ≤ R.slots) (hdg : decode cc pc = .ok (.invokestatic index, 3))
    (kk : ∀ (H1 : Heap) (locs1 : List Loc), bl_V g s o.2 H1 locs1 → W p l e R s m args below meth c H1 locs1 cells slots Q (F0 m (pc + 3) ls (.ref (bl_adr g kd o.1) :: rest))) : W p l e R s m args below meth c H locs cells slots Q (F0 m pc ls st) := by
  refine va_callr (va_runSN (As := As) (rest := rest) ⟨X.1, X.2.1, X.2.2.1, X.2.2.2.1, X.2.2.2.2.1⟩ hM ⟨va_cnB n X.2.2.2.2.1 (bl_gC K.2.2.1) rfl hrc hrs (X.2.2.2.2.2.2.1.2.2.1 _ L) (X.2.2.2.2.1 _ K.2.1) ⟨K.2.2.2.1, K.2.2.2.2.1, K.2.2.2.2.2⟩ hR, X.2.2.2.2.1 _ K.1, trivial⟩ ⟨bl_blind g σ _, fun U hU hW => ⟨rfl, bl_pre X V U hU hW⟩⟩ rfl hn hsz hst (lv_room hw) hdg ⟨hf.1, hf.2⟩) V.2 (fun q _ h => h) (fun q h => h) (fun u ra t H1 locs1 ht _ hp hb _ _ hS => ?_)
  subst hp
  obtain ⟨hb1, hb2⟩ := hb
  subst hb1
  rw [ht] at hb2
  exact kk H1 locs1 ⟨hb2, hS⟩
def bl_Mmini (own : String) (index : Nat) : Prop := Cond.methodLink own index Lib.Math.min.name ∈ bl_tb ∧ Cond.static Lib.Math.min.name ∈ bl_tb ∧ Cond.initialized "java/lang/Math" ∈ bl_tb ∧ Cond.code Lib.Math.min.name Lib.Math.min.code 2 (some .int) ∈ bl_tb
theorem bl_mini (X : bl_Cx g p s m args meth c cc nL own) (hsz : ls.size = nL) (K : bl_Mmini own index) (hR : 1 ≤ R.frames ∧ (rest.map fun v => v.category).sum + 13 ≤ R.locals) (hf : cells ≤ R.cells ∧ slots ≤ R.slots) {x y2 : Int32} (hdg : decode cc pc = .ok (.invokestatic index, 3))
    (kk : W p l e R s m args below meth c H locs cells slots Q (F0 m (pc + 3) ls (.int (if y2 < x then y2 else x) :: rest))) : W p l e R s m args below meth c H locs cells slots Q (F0 m pc ls (.int y2 :: .int x :: rest)) :=
  va_mmin X.1 X.2.1 (by rw [X.2.2.1, hsz]) X.2.2.2.1 (X.2.2.2.2.1 _ K.1) (X.2.2.2.2.1 _ K.2.1) (X.2.2.2.2.1 _ K.2.2.1) (X.2.2.2.2.1 _ K.2.2.2) hR.1 hR.2 hf.1 hf.2 hdg kk
def bl_Mmaxi (own : String) (index : Nat) : Prop := Cond.methodLink own index Lib.Math.max.name ∈ bl_tb ∧ Cond.static Lib.Math.max.name ∈ bl_tb ∧ Cond.initialized "java/lang/Math" ∈ bl_tb ∧ Cond.code Lib.Math.max.name Lib.Math.max.code 2 (some .int) ∈ bl_tb
theorem bl_maxi (X : bl_Cx g p s m args meth c cc nL own) (hsz : ls.size = nL) (K : bl_Mmaxi own index) (hR : 1 ≤ R.frames ∧ (rest.map fun v => v.category).sum + 13 ≤ R.locals) (hf : cells ≤ R.cells ∧ slots ≤ R.slots) {x y2 : Int32} (hdg : decode cc pc = .ok (.invokestatic index, 3))
    (kk : W p l e R s m args below meth c H locs cells slots Q (F0 m (pc + 3) ls (.int (if x < y2 then y2 else x) :: rest))) : W p l e R s m args below meth c H locs cells slots Q (F0 m pc ls (.int y2 :: .int x :: rest)) :=
  va_mmax X.1 X.2.1 (by rw [X.2.2.1, hsz]) X.2.2.2.1 (X.2.2.2.2.1 _ K.1) (X.2.2.2.2.1 _ K.2.1) (X.2.2.2.2.1 _ K.2.2.1) (X.2.2.2.2.1 _ K.2.2.2) hR.1 hR.2 hf.1 hf.2 hdg kk
def bl_Mminl (own : String) (index : Nat) : Prop := Cond.methodLink own index Lib.MathLoose.min_long.x ∈ bl_tb ∧ Cond.static Lib.MathLoose.min_long.x ∈ bl_tb ∧ Cond.initialized "java/lang/Math" ∈ bl_tb ∧ Cond.code Lib.MathLoose.min_long.x Lib.MathLoose.min_long.code 4 (some .long) ∈ bl_tb
theorem bl_minl (X : bl_Cx g p s m args meth c cc nL own) (hsz : ls.size = nL) (K : bl_Mminl own index) (hR : 1 ≤ R.frames ∧ (rest.map fun v => v.category).sum + 15 ≤ R.locals) (hf : cells ≤ R.cells ∧ slots ≤ R.slots) {x y2 : Int64} (hdg : decode cc pc = .ok (.invokestatic index, 3))
    (kk : W p l e R s m args below meth c H locs cells slots Q (F0 m (pc + 3) ls (.long (if y2 < x then y2 else x) :: rest))) : W p l e R s m args below meth c H locs cells slots Q (F0 m pc ls (.long y2 :: .long x :: rest)) :=
  va_mmin_long X.1 X.2.1 (by rw [X.2.2.1, hsz]) X.2.2.2.1 (X.2.2.2.2.1 _ K.1) (X.2.2.2.2.1 _ K.2.1) (X.2.2.2.2.1 _ K.2.2.1) (X.2.2.2.2.1 _ K.2.2.2) hR.1 hR.2 hf.1 hf.2 hdg kk
def bl_Mmaxl (own : String) (index : Nat) : Prop := Cond.methodLink own index Lib.MathLoose.max_long.x ∈ bl_tb ∧ Cond.static Lib.MathLoose.max_long.x ∈ bl_tb ∧ Cond.initialized "java/lang/Math" ∈ bl_tb ∧ Cond.code Lib.MathLoose.max_long.x Lib.MathLoose.max_long.code 4 (some .long) ∈ bl_tb
theorem bl_maxl (X : bl_Cx g p s m args meth c cc nL own) (hsz : ls.size = nL) (K : bl_Mmaxl own index) (hR : 1 ≤ R.frames ∧ (rest.map fun v => v.category).sum + 15 ≤ R.locals) (hf : cells ≤ R.cells ∧ slots ≤ R.slots) {x y2 : Int64} (hdg : decode cc pc = .ok (.invokestatic index, 3))
    (kk : W p l e R s m args below meth c H locs cells slots Q (F0 m (pc + 3) ls (.long (if y2 < x then x else y2) :: rest))) : W p l e R s m args below meth c H locs cells slots Q (F0 m pc ls (.long y2 :: .long x :: rest)) :=
  va_mmax_long X.1 X.2.1 (by rw [X.2.2.1, hsz]) X.2.2.2.1 (X.2.2.2.2.1 _ K.1) (X.2.2.2.2.1 _ K.2.1) (X.2.2.2.2.1 _ K.2.2.1) (X.2.2.2.2.1 _ K.2.2.2) hR.1 hR.2 hf.1 hf.2 hdg kk
/-! a text's constant, a switch, constants of the pool -/
theorem bl_ldcs (X : bl_Cx g p s m args meth c cc nL "BonusLadder") {j : Nat} {tx : String} (ht : bl_tx[j]? = some (index, tx)) (hdg : decode cc pc = .ok (.ldc_w index, 3))
    (kk : W p l e R s m args below meth c H locs cells slots Q (F0 m (pc + 3) ls (.ref (bl_adr g 1 j) :: rest))) : W p l e R s m args below meth c H locs cells slots Q (F0 m pc ls rest) := by
  have hZ := X.2.2.2.2.2.2.1.2.2.2.2.1 j _ ht
  intro T hT Y
  obtain ⟨t, a1, b1⟩ := kk T hT Y
  refine ⟨t, Y.ldcStringW X.1 X.2.2.2.1 (text := tx) (a := bl_kK g j) hZ.1 hZ.2 (g := F0 m pc ls rest) rfl (by rw [X.2.1]; exact hdg) t a1, b1⟩

theorem bl_swI (X : bl_Cx g p s m args meth c cc nL own) {dflt lo hi off : Int} {offs : Array Int} {len tgt : Nat} {x : Int32} {v : Int} (hdg : decode cc pc = .ok (.tableswitch dflt lo hi offs, len)) (hx : x.toInt = v) (hv : lo ≤ v ∧ v ≤ hi) (ho : offs[(v - lo).toNat]? = some off) (ht : (pc : Int) + off = (tgt : Int))
    (kk : W p l e R s m args below meth c H locs cells slots Q (F0 m tgt ls rest)) : W p l e R s m args below meth c H locs cells slots Q (F0 m pc ls (.int x :: rest)) :=
  lv_tableIn X.1 X.2.1 hdg (by rw [hx]; omega) (by rw [hx]; omega) (by rw [hx]; exact ho) ht kk
theorem bl_swO (X : bl_Cx g p s m args meth c cc nL own) {dflt lo hi : Int} {offs : Array Int} {len tgt : Nat} {x : Int32} (hdg : decode cc pc = .ok (.tableswitch dflt lo hi offs, len)) (hx : x.toInt < lo ∨ hi < x.toInt) (ht : (pc : Int) + dflt = (tgt : Int))
    (kk : W p l e R s m args below meth c H locs cells slots Q (F0 m tgt ls rest)) : W p l e R s m args below meth c H locs cells slots Q (F0 m pc ls (.int x :: rest)) :=
  lv_tableOut X.1 X.2.1 hdg hx ht kk
end BLC
