/-! what a call needs of the tables -/
def bl_okd (y : MethodName) (n : Nat) : Prop := y.cls ≠ "java/lang/invoke/MethodHandle" ∧ y.cls ≠ "java/lang/invoke/VarHandle" ∧ (parseMethodDescriptor y.desc).map (fun d => d.parameters.length) = some n
def bl_mV (y : MethodName) (bc : ByteArray) (maxL : Nat) (ret : Option FieldType) (n : Nat) : Prop := Cond.instanceMethod y ∈ bl_tb ∧ Cond.selects y.cls y y ∈ bl_tb ∧ Cond.initialized y.cls ∈ bl_tb ∧ Cond.code y bc maxL ret ∈ bl_tb ∧ bl_okd y n
def bl_mS (y : MethodName) (bc : ByteArray) (maxL : Nat) (ret : Option FieldType) (n : Nat) : Prop := Cond.static y ∈ bl_tb ∧ Cond.initialized y.cls ∈ bl_tb ∧ Cond.code y bc maxL ret ∈ bl_tb ∧ bl_okd y n
theorem bl_gV {own : String} {index : Nat} {y : MethodName} {bc : ByteArray} {maxL : Nat} {ret : Option FieldType} {n : Nat} (L : Cond.methodLink own index y ∈ bl_tb) (K : bl_mV y bc maxL ret n) : GoodIn bl_tb (wsV own index y.cls y (.code y bc maxL ret :: bl_tb)) := by
  intro w hw
  have h : w ∈ bl_tb := by
    unfold wsV at hw
    rcases List.mem_append.mp hw with h | h
    · simp only [List.mem_cons, List.not_mem_nil, or_false] at h
      rcases h with rfl | rfl | rfl | rfl
      · exact L
      · exact K.1
      · exact K.2.1
      · exact K.2.2.1
    · rcases List.mem_cons.mp h with rfl | h
      · exact K.2.2.2.1
      · exact h
  exact ⟨h, (bl_tb_good h).2⟩
theorem bl_gS {own : String} {index : Nat} {y : MethodName} {bc : ByteArray} {maxL : Nat} {ret : Option FieldType} {n : Nat} (L : Cond.methodLink own index y ∈ bl_tb) (K : bl_mS y bc maxL ret n) : GoodIn bl_tb (va_wsS own index y (.code y bc maxL ret :: bl_tb)) := by
  intro w hw
  have h : w ∈ bl_tb := by
    unfold va_wsS at hw
    rcases List.mem_append.mp hw with h | h
    · simp only [List.mem_cons, List.not_mem_nil, or_false] at h
      rcases h with rfl | rfl | rfl
      · exact L
      · exact K.1
      · exact K.2.1
    · rcases List.mem_cons.mp h with rfl | h
      · exact K.2.2.1
      · exact h
  exact ⟨h, (bl_tb_good h).2⟩
theorem bl_gC {y : MethodName} {bc : ByteArray} {maxL : Nat} {ret : Option FieldType} (K : Cond.code y bc maxL ret ∈ bl_tb) : GoodIn bl_tb (.code y bc maxL ret :: bl_tb) := by
  intro w hw
  have h : w ∈ bl_tb := by
    rcases List.mem_cons.mp hw with rfl | h
    · exact K
    · exact h
  exact ⟨h, (bl_tb_good h).2⟩
section BLC
variable {p : Program} {l : Launch} {e : Env} {R : Room} {s : State} {m : MethodId} {args : Array Value} {below : List Frame} {meth : Method} {c : Code} {H : Heap} {locs : List Loc} {cells slots : Nat} {Q : State → Prop}
variable {cc : ByteArray} {nL pc : Nat} {own : String} {ls : Array Slot} {rest st : List Value} {g : bl_Gp} {σ : bl_St} {i ci N index : Nat}
variable {y : MethodName} {bc : ByteArray} {maxL n : Nat} {ret : Option FieldType} {rm : Room} {As : List Value}
/-- a callee's start, where the caller stands now -/
theorem bl_pre (X : bl_Cx g p s m args meth c cc nL own) (V : bl_V g s σ H locs) (U : State) (hU : U.heap = H) (hW : s.WarmedH U.vm) : bl_G g σ U :=
  ⟨va_K.moved hW.alike X.2.2.2.2.2.1, X.2.2.2.2.2.2.1.go hW (fun a h1 h2 => by rw [hU]; exact V.2.2.1 a h1 h2), by rw [hU]; exact V.1⟩
theorem bl_rcv (X : bl_Cx g p s m args meth c cc nL own) (V : bl_V g s σ H locs) (hs : bl_sh[i]? = some (ci, N)) {T : u_T} {N' : Nat} {C : String} (hc : vwCl[ci]? = some (C, T, N')) : ∃ cell : Cell, H[bl_ad g i]? = some cell ∧ cell.vm.isStatics = false ∧ s.vm.findClass C = some cell.cls := by
  have he := bl_at (g := g) (σ := σ) (bl_lt hs) hs
  have h11 : ci < 11 := by
    have h := (List.getElem?_eq_some_iff.mp hc).1
    exact h
  rw [bl_en_obj h11] at he
  exact va_recv X.2.2.2.2.2.1 V.1.1 hc he
theorem bl_cVi (X : bl_Cx g p s m args meth c cc nL own) (V : bl_V g s σ H locs) (hsz : ls.size = nL) (hs : bl_sh[i]? = some (ci, N)) {T : u_T} {N' : Nat} (hc : vwCl[ci]? = some (y.cls, T, N')) (L : Cond.methodLink own index y ∈ bl_tb) (K : bl_mV y bc maxL ret n) {r1 : Int32} {σ1 : bl_St} (hM : bl_Ci l g y bc maxL ret rm (.ref (bl_ad g i) :: As) σ (r1, σ1)) (hrc : rm.cells = 0) (hrs : rm.slots = 0) (hR : rm.frames + 1 ≤ R.frames ∧ 8 + (maxL + 11) + rm.locals ≤ R.locals) (hst : st = As.reverse ++ .ref (bl_ad g i) :: rest) (hn : As.length = n) (hw : (rest.map fun v => v.category).sum ≤ 8) (hf : cells ≤ R.cells ∧ slots ≤ R.slots) (hdg : decode cc pc = .ok (.invokevirtual index, 3))
    (kk : ∀ (H1 : Heap) (locs1 : List Loc), bl_V g s σ1 H1 locs1 → W p l e R s m args below meth c H1 locs1 cells slots Q (F0 m (pc + 3) ls (.int r1 :: rest))) : W p l e R s m args below meth c H locs cells slots Q (F0 m pc ls st) := by
  refine va_calli (va_runV (As := As) (rest := rest) (b := bl_ad g i) ⟨X.1, X.2.1, X.2.2.1, X.2.2.2.1, X.2.2.2.2.1⟩ hM (cwV n X.2.2.2.2.1 (bl_gV L K) rfl hrc hrs ⟨rfl, K.2.2.2.2.1, K.2.2.2.2.2.1, K.2.2.2.2.2.2⟩ hR) ⟨bl_blind g σ _, bl_rcv X V hs hc, fun U hU hW => ⟨rfl, bl_pre X V U hU hW⟩⟩ rfl hn hsz hst (lv_room hw) hdg ⟨hf.1, hf.2⟩) V.2 (fun q _ h => h) (fun q h => h) (fun r u t H1 locs1 ht _ hp hb _ _ hS => ?_)
  cases hp
  have hb : bl_P g _ t.heap := hb
  rw [ht] at hb
  exact kk H1 locs1 ⟨hb, hS⟩
theorem bl_cSi (X : bl_Cx g p s m args meth c cc nL own) (V : bl_V g s σ H locs) (hsz : ls.size = nL) (L : Cond.methodLink own index y ∈ bl_tb) (K : bl_mS y bc maxL ret n) {r1 : Int32} {σ1 : bl_St} (hM : bl_Ci l g y bc maxL ret rm As σ (r1, σ1)) (hrc : rm.cells = 0) (hrs : rm.slots = 0) (hR : rm.frames + 1 ≤ R.frames ∧ 8 + (maxL + 11) + rm.locals ≤ R.locals) (hst : st = As.reverse ++ rest) (hn : As.length = n) (hw : (rest.map fun v => v.category).sum ≤ 8) (hf : cells ≤ R.cells ∧ slots ≤ R.slots) (hdg : decode cc pc = .ok (.invokestatic index, 3))
    (kk : ∀ (H1 : Heap) (locs1 : List Loc), bl_V g s σ1 H1 locs1 → W p l e R s m args below meth c H1 locs1 cells slots Q (F0 m (pc + 3) ls (.int r1 :: rest))) : W p l e R s m args below meth c H locs cells slots Q (F0 m pc ls st) := by
  refine va_calli (va_runS (As := As) (rest := rest) ⟨X.1, X.2.1, X.2.2.1, X.2.2.2.1, X.2.2.2.2.1⟩ hM (va_cwS n X.2.2.2.2.1 (bl_gS L K) rfl hrc hrs ⟨K.2.2.2.1, K.2.2.2.2.1, K.2.2.2.2.2⟩ hR) ⟨bl_blind g σ _, fun U hU hW => ⟨rfl, bl_pre X V U hU hW⟩⟩ rfl hn hsz hst (lv_room hw) hdg ⟨hf.1, hf.2⟩) V.2 (fun q _ h => h) (fun q h => h) (fun r u t H1 locs1 ht _ hp hb _ _ hS => ?_)
  cases hp
  have hb : bl_P g _ t.heap := hb
  rw [ht] at hb
  exact kk H1 locs1 ⟨hb, hS⟩
theorem bl_cVl (X : bl_Cx g p s m args meth c cc nL own) (V : bl_V g s σ H locs) (hsz : ls.size = nL) (hs : bl_sh[i]? = some (ci, N)) {T : u_T} {N' : Nat} (hc : vwCl[ci]? = some (y.cls, T, N')) (L : Cond.methodLink own index y ∈ bl_tb) (K : bl_mV y bc maxL ret n) {r1 : Int64} {σ1 : bl_St} (hM : bl_Cl l g y bc maxL ret rm (.ref (bl_ad g i) :: As) σ (r1, σ1)) (hrc : rm.cells = 0) (hrs : rm.slots = 0) (hR : rm.frames + 1 ≤ R.frames ∧ 8 + (maxL + 11) + rm.locals ≤ R.locals) (hst : st = As.reverse ++ .ref (bl_ad g i) :: rest) (hn : As.length = n) (hw : (rest.map fun v => v.category).sum ≤ 8) (hf : cells ≤ R.cells ∧ slots ≤ R.slots) (hdg : decode cc pc = .ok (.invokevirtual index, 3))
    (kk : ∀ (H1 : Heap) (locs1 : List Loc), bl_V g s σ1 H1 locs1 → W p l e R s m args below meth c H1 locs1 cells slots Q (F0 m (pc + 3) ls (.long r1 :: rest))) : W p l e R s m args below meth c H locs cells slots Q (F0 m pc ls st) := by
  refine va_calll (va_runV (As := As) (rest := rest) (b := bl_ad g i) ⟨X.1, X.2.1, X.2.2.1, X.2.2.2.1, X.2.2.2.2.1⟩ hM (cwV n X.2.2.2.2.1 (bl_gV L K) rfl hrc hrs ⟨rfl, K.2.2.2.2.1, K.2.2.2.2.2.1, K.2.2.2.2.2.2⟩ hR) ⟨bl_blind g σ _, bl_rcv X V hs hc, fun U hU hW => ⟨rfl, bl_pre X V U hU hW⟩⟩ rfl hn hsz hst (lv_room hw) hdg ⟨hf.1, hf.2⟩) V.2 (fun q _ h => h) (fun q h => h) (fun r u t H1 locs1 ht _ hp hb _ _ hS => ?_)
  cases hp
  have hb : bl_P g _ t.heap := hb
  rw [ht] at hb
  exact kk H1 locs1 ⟨hb, hS⟩
theorem bl_cSl (X : bl_Cx g p s m args meth c cc nL own) (V : bl_V g s σ H locs) (hsz : ls.size = nL) (L : Cond.methodLink own index y ∈ bl_tb) (K : bl_mS y bc maxL ret n) {r1 : Int64} {σ1 : bl_St} (hM : bl_Cl l g y bc maxL ret rm As σ (r1, σ1)) (hrc : rm.cells = 0) (hrs : rm.slots = 0) (hR : rm.frames + 1 ≤ R.frames ∧ 8 + (maxL + 11) + rm.locals ≤ R.locals) (hst : st = As.reverse ++ rest) (hn : As.length = n) (hw : (rest.map fun v => v.category).sum ≤ 8) (hf : cells ≤ R.cells ∧ slots ≤ R.slots) (hdg : decode cc pc = .ok (.invokestatic index, 3))
    (kk : ∀ (H1 : Heap) (locs1 : List Loc), bl_V g s σ1 H1 locs1 → W p l e R s m args below meth c H1 locs1 cells slots Q (F0 m (pc + 3) ls (.long r1 :: rest))) : W p l e R s m args below meth c H locs cells slots Q (F0 m pc ls st) := by
  refine va_calll (va_runS (As := As) (rest := rest) ⟨X.1, X.2.1, X.2.2.1, X.2.2.2.1, X.2.2.2.2.1⟩ hM (va_cwS n X.2.2.2.2.1 (bl_gS L K) rfl hrc hrs ⟨K.2.2.2.1, K.2.2.2.2.1, K.2.2.2.2.2⟩ hR) ⟨bl_blind g σ _, fun U hU hW => ⟨rfl, bl_pre X V U hU hW⟩⟩ rfl hn hsz hst (lv_room hw) hdg ⟨hf.1, hf.2⟩) V.2 (fun q _ h => h) (fun q h => h) (fun r u t H1 locs1 ht _ hp hb _ _ hS => ?_)
  cases hp
  have hb : bl_P g _ t.heap := hb
  rw [ht] at hb
  exact kk H1 locs1 ⟨hb, hS⟩
theorem bl_cVv (X : bl_Cx g p s m args meth c cc nL own) (V : bl_V g s σ H locs) (hsz : ls.size = nL) (hs : bl_sh[i]? = some (ci, N)) {T : u_T} {N' : Nat} (hc : vwCl[ci]? = some (y.cls, T, N')) (L : Cond.methodLink own index y ∈ bl_tb) (K : bl_mV y bc maxL ret n) {r1 : Unit} {σ1 : bl_St} (hM : bl_Cv l g y bc maxL ret rm (.ref (bl_ad g i) :: As) σ (r1, σ1)) (hrc : rm.cells = 0) (hrs : rm.slots = 0) (hR : rm.frames + 1 ≤ R.frames ∧ 8 + (maxL + 11) + rm.locals ≤ R.locals) (hst : st = As.reverse ++ .ref (bl_ad g i) :: rest) (hn : As.length = n) (hw : (rest.map fun v => v.category).sum ≤ 8) (hf : cells ≤ R.cells ∧ slots ≤ R.slots) (hdg : decode cc pc = .ok (.invokevirtual index, 3))
    (kk : ∀ (H1 : Heap) (locs1 : List Loc), bl_V g s σ1 H1 locs1 → W p l e R s m args below meth c H1 locs1 cells slots Q (F0 m (pc + 3) ls (rest))) : W p l e R s m args below meth c H locs cells slots Q (F0 m pc ls st) := by
  refine va_callv (va_runV (As := As) (rest := rest) (b := bl_ad g i) ⟨X.1, X.2.1, X.2.2.1, X.2.2.2.1, X.2.2.2.2.1⟩ hM (cwV n X.2.2.2.2.1 (bl_gV L K) rfl hrc hrs ⟨rfl, K.2.2.2.2.1, K.2.2.2.2.2.1, K.2.2.2.2.2.2⟩ hR) ⟨bl_blind g σ _, bl_rcv X V hs hc, fun U hU hW => ⟨rfl, bl_pre X V U hU hW⟩⟩ rfl hn hsz hst (lv_room hw) hdg ⟨hf.1, hf.2⟩) V.2 (fun q _ h => h) (fun q h => h) (fun u t H1 locs1 ht _ hp hb _ _ hS => ?_)
  cases hp
  have hb : bl_P g _ t.heap := hb
  rw [ht] at hb
  exact kk H1 locs1 ⟨hb, hS⟩
theorem bl_cSv (X : bl_Cx g p s m args meth c cc nL own) (V : bl_V g s σ H locs) (hsz : ls.size = nL) (L : Cond.methodLink own index y ∈ bl_tb) (K : bl_mS y bc maxL ret n) {r1 : Unit} {σ1 : bl_St} (hM : bl_Cv l g y bc maxL ret rm As σ (r1, σ1)) (hrc : rm.cells = 0) (hrs : rm.slots = 0) (hR : rm.frames + 1 ≤ R.frames ∧ 8 + (maxL + 11) + rm.locals ≤ R.locals) (hst : st = As.reverse ++ rest) (hn : As.length = n) (hw : (rest.map fun v => v.category).sum ≤ 8) (hf : cells ≤ R.cells ∧ slots ≤ R.slots) (hdg : decode cc pc = .ok (.invokestatic index, 3))
    (kk : ∀ (H1 : Heap) (locs1 : List Loc), bl_V g s σ1 H1 locs1 → W p l e R s m args below meth c H1 locs1 cells slots Q (F0 m (pc + 3) ls (rest))) : W p l e R s m args below meth c H locs cells slots Q (F0 m pc ls st) := by
  refine va_callv (va_runS (As := As) (rest := rest) ⟨X.1, X.2.1, X.2.2.1, X.2.2.2.1, X.2.2.2.2.1⟩ hM (va_cwS n X.2.2.2.2.1 (bl_gS L K) rfl hrc hrs ⟨K.2.2.2.1, K.2.2.2.2.1, K.2.2.2.2.2⟩ hR) ⟨bl_blind g σ _, fun U hU hW => ⟨rfl, bl_pre X V U hU hW⟩⟩ rfl hn hsz hst (lv_room hw) hdg ⟨hf.1, hf.2⟩) V.2 (fun q _ h => h) (fun q h => h) (fun u t H1 locs1 ht _ hp hb _ _ hS => ?_)
  cases hp
  have hb : bl_P g _ t.heap := hb
  rw [ht] at hb
  exact kk H1 locs1 ⟨hb, hS⟩
theorem bl_cVr {kd : Nat} (X : bl_Cx g p s m args meth c cc nL own) (V : bl_V g s σ H locs) (hsz : ls.size = nL) (hs : bl_sh[i]? = some (ci, N)) {T : u_T} {N' : Nat} (hc : vwCl[ci]? = some (y.cls, T, N')) (L : Cond.methodLink own index y ∈ bl_tb) (K : bl_mV y bc maxL ret n) {r1 : Nat} {σ1 : bl_St} (hM : bl_Cr kd l g y bc maxL ret rm (.ref (bl_ad g i) :: As) σ (r1, σ1)) (hrc : rm.cells = 0) (hrs : rm.slots = 0) (hR : rm.frames + 1 ≤ R.frames ∧ 8 + (maxL + 11) + rm.locals ≤ R.locals) (hst : st = As.reverse ++ .ref (bl_ad g i) :: rest) (hn : As.length = n) (hw : (rest.map fun v => v.category).sum ≤ 8) (hf : cells ≤ R.cells ∧ slots ≤ R.slots) (hdg : decode cc pc = .ok (.invokevirtual index, 3))
    (kk : ∀ (H1 : Heap) (locs1 : List Loc), bl_V g s σ1 H1 locs1 → W p l e R s m args below meth c H1 locs1 cells slots Q (F0 m (pc + 3) ls (.ref (bl_adr g kd r1) :: rest))) : W p l e R s m args below meth c H locs cells slots Q (F0 m pc ls st) := by
  refine va_callr (va_runV (As := As) (rest := rest) (b := bl_ad g i) ⟨X.1, X.2.1, X.2.2.1, X.2.2.2.1, X.2.2.2.2.1⟩ hM (cwV n X.2.2.2.2.1 (bl_gV L K) rfl hrc hrs ⟨rfl, K.2.2.2.2.1, K.2.2.2.2.2.1, K.2.2.2.2.2.2⟩ hR) ⟨bl_blind g σ _, bl_rcv X V hs hc, fun U hU hW => ⟨rfl, bl_pre X V U hU hW⟩⟩ rfl hn hsz hst (lv_room hw) hdg ⟨hf.1, hf.2⟩) V.2 (fun q _ h => h) (fun q h => h) (fun u ra t H1 locs1 ht _ hp hb _ _ hS => ?_)
  subst hp
  obtain ⟨rfl, hb2⟩ := hb
  rw [ht] at hb2
  exact kk H1 locs1 ⟨hb2, hS⟩
theorem bl_cSr {kd : Nat} (X : bl_Cx g p s m args meth c cc nL own) (V : bl_V g s σ H locs) (hsz : ls.size = nL) (L : Cond.methodLink own index y ∈ bl_tb) (K : bl_mS y bc maxL ret n) {r1 : Nat} {σ1 : bl_St} (hM : bl_Cr kd l g y bc maxL ret rm As σ (r1, σ1)) (hrc : rm.cells = 0) (hrs : rm.slots = 0) (hR : rm.frames + 1 ≤ R.frames ∧ 8 + (maxL + 11) + rm.locals ≤ R.locals) (hst : st = As.reverse ++ rest) (hn : As.length = n) (hw : (rest.map fun v => v.category).sum ≤ 8) (hf : cells ≤ R.cells ∧ slots ≤ R.slots) (hdg : decode cc pc = .ok (.invokestatic index, 3))
    (kk : ∀ (H1 : Heap) (locs1 : List Loc), bl_V g s σ1 H1 locs1 → W p l e R s m args below meth c H1 locs1 cells slots Q (F0 m (pc + 3) ls (.ref (bl_adr g kd r1) :: rest))) : W p l e R s m args below meth c H locs cells slots Q (F0 m pc ls st) := by
  refine va_callr (va_runS (As := As) (rest := rest) ⟨X.1, X.2.1, X.2.2.1, X.2.2.2.1, X.2.2.2.2.1⟩ hM (va_cwS n X.2.2.2.2.1 (bl_gS L K) rfl hrc hrs ⟨K.2.2.2.1, K.2.2.2.2.1, K.2.2.2.2.2⟩ hR) ⟨bl_blind g σ _, fun U hU hW => ⟨rfl, bl_pre X V U hU hW⟩⟩ rfl hn hsz hst (lv_room hw) hdg ⟨hf.1, hf.2⟩) V.2 (fun q _ h => h) (fun q h => h) (fun u ra t H1 locs1 ht _ hp hb _ _ hS => ?_)
  subst hp
  obtain ⟨rfl, hb2⟩ := hb
  rw [ht] at hb2
  exact kk H1 locs1 ⟨hb2, hS⟩
theorem bl_cNr {kd : Nat} (X : bl_Cx g p s m args meth c cc nL own) (V : bl_V g s σ H locs) (hsz : ls.size = nL) (L : (own, index, y) ∈ bl_nM) (K : bl_mS y bc maxL ret n) {r1 : Nat} {σ1 : bl_St} (hM : bl_Cr kd l g y bc maxL ret rm As σ (r1, σ1)) (hrc : rm.cells = 0) (hrs : rm.slots = 0) (hR : rm.frames + 1 ≤ R.frames ∧ 8 + (maxL + 11) + rm.locals ≤ R.locals) (hst : st = As.reverse ++ rest) (hn : As.length = n) (hw : (rest.map fun v => v.category).sum ≤ 8) (hf : cells ≤ R.cells ∧ slots ≤ R.slots) (hdg : decode cc pc = .ok (.invokestatic index, 3))
    (kk : ∀ (H1 : Heap) (locs1 : List Loc), bl_V g s σ1 H1 locs1 → W p l e R s m args below meth c H1 locs1 cells slots Q (F0 m (pc + 3) ls (.ref (bl_adr g kd r1) :: rest))) : W p l e R s m args below meth c H locs cells slots Q (F0 m pc ls st) := by
  refine va_callr (va_runSN (As := As) (rest := rest) ⟨X.1, X.2.1, X.2.2.1, X.2.2.2.1, X.2.2.2.2.1⟩ hM ⟨va_cnB n X.2.2.2.2.1 (bl_gC K.2.2.1) rfl hrc hrs (X.2.2.2.2.2.2.1.2.2.1 _ L) (X.2.2.2.2.1 _ K.2.1) ⟨K.2.2.2.1, K.2.2.2.2.1, K.2.2.2.2.2⟩ hR, X.2.2.2.2.1 _ K.1, trivial⟩ ⟨bl_blind g σ _, fun U hU hW => ⟨rfl, bl_pre X V U hU hW⟩⟩ rfl hn hsz hst (lv_room hw) hdg ⟨hf.1, hf.2⟩) V.2 (fun q _ h => h) (fun q h => h) (fun u ra t H1 locs1 ht _ hp hb _ _ hS => ?_)
  subst hp
  obtain ⟨rfl, hb2⟩ := hb
  rw [ht] at hb2
  exact kk H1 locs1 ⟨hb2, hS⟩
def bl_Mmini (own : String) (index : Nat) : Prop := Cond.methodLink own index Lib.Math.min.name ∈ bl_tb ∧ Cond.static Lib.Math.min.name ∈ bl_tb ∧ Cond.initialized "java/lang/Math" ∈ bl_tb ∧ Cond.code Lib.Math.min.name Lib.Math.min.code 2 (some .int) ∈ bl_tb
theorem bl_mini (X : bl_Cx g p s m args meth c cc nL own) (hsz : ls.size = nL) (K : bl_Mmini own index) (hR : 1 ≤ R.frames ∧ (rest.map fun v => v.category).sum + 13 ≤ R.locals) (hf : cells ≤ R.cells ∧ slots ≤ R.slots) {x y2 : Int32} (hdg : decode cc pc = .ok (.invokestatic index, 3))
    (kk : W p l e R s m args below meth c H locs cells slots Q (F0 m (pc + 3) ls (.int (if y2 < x then y2 else x) :: rest))) : W p l e R s m args below meth c H locs cells slots Q (F0 m pc ls (.int y2 :: .int x :: rest)) :=
  va_mmin X.1 X.2.1 (by rw [X.2.2.1, hsz]) X.2.2.2.1 (X.2.2.2.2.1 _ K.1) (X.2.2.2.2.1 _ K.2.1) (X.2.2.2.2.1 _ K.2.2.1) (X.2.2.2.2.1 _ K.2.2.2) hR.1 hR.2 hf.1 hf.2 hdg kk
def bl_Mmaxi (own : String) (index : Nat) : Prop := Cond.methodLink own index Lib.Math.max.name ∈ bl_tb ∧ Cond.static Lib.Math.max.name ∈ bl_tb ∧ Cond.initialized "java/lang/Math" ∈ bl_tb ∧ Cond.code Lib.Math.max.name Lib.Math.max.code 2 (some .int) ∈ bl_tb
theorem bl_maxi (X : bl_Cx g p s m args meth c cc nL own) (hsz : ls.size = nL) (K : bl_Mmaxi own index) (hR : 1 ≤ R.frames ∧ (rest.map fun v => v.category).sum + 13 ≤ R.locals) (hf : cells ≤ R.cells ∧ slots ≤ R.slots) {x y2 : Int32} (hdg : decode cc pc = .ok (.invokestatic index, 3))
    (kk : W p l e R s m args below meth c H locs cells slots Q (F0 m (pc + 3) ls (.int (if x < y2 then y2 else x) :: rest))) : W p l e R s m args below meth c H locs cells slots Q (F0 m pc ls (.int y2 :: .int x :: rest)) :=
  va_mmax X.1 X.2.1 (by rw [X.2.2.1, hsz]) X.2.2.2.1 (X.2.2.2.2.1 _ K.1) (X.2.2.2.2.1 _ K.2.1) (X.2.2.2.2.1 _ K.2.2.1) (X.2.2.2.2.1 _ K.2.2.2) hR.1 hR.2 hf.1 hf.2 hdg kk
def bl_Mminl (own : String) (index : Nat) : Prop := Cond.methodLink own index Lib.MathLoose.min_long.x ∈ bl_tb ∧ Cond.static Lib.MathLoose.min_long.x ∈ bl_tb ∧ Cond.initialized "java/lang/Math" ∈ bl_tb ∧ Cond.code Lib.MathLoose.min_long.x Lib.MathLoose.min_long.code 4 (some .long) ∈ bl_tb
theorem bl_minl (X : bl_Cx g p s m args meth c cc nL own) (hsz : ls.size = nL) (K : bl_Mminl own index) (hR : 1 ≤ R.frames ∧ (rest.map fun v => v.category).sum + 15 ≤ R.locals) (hf : cells ≤ R.cells ∧ slots ≤ R.slots) {x y2 : Int64} (hdg : decode cc pc = .ok (.invokestatic index, 3))
    (kk : W p l e R s m args below meth c H locs cells slots Q (F0 m (pc + 3) ls (.long (if y2 < x then y2 else x) :: rest))) : W p l e R s m args below meth c H locs cells slots Q (F0 m pc ls (.long y2 :: .long x :: rest)) :=
  va_mmin_long X.1 X.2.1 (by rw [X.2.2.1, hsz]) X.2.2.2.1 (X.2.2.2.2.1 _ K.1) (X.2.2.2.2.1 _ K.2.1) (X.2.2.2.2.1 _ K.2.2.1) (X.2.2.2.2.1 _ K.2.2.2) hR.1 hR.2 hf.1 hf.2 hdg kk
def bl_Mmaxl (own : String) (index : Nat) : Prop := Cond.methodLink own index Lib.MathLoose.max_long.x ∈ bl_tb ∧ Cond.static Lib.MathLoose.max_long.x ∈ bl_tb ∧ Cond.initialized "java/lang/Math" ∈ bl_tb ∧ Cond.code Lib.MathLoose.max_long.x Lib.MathLoose.max_long.code 4 (some .long) ∈ bl_tb
theorem bl_maxl (X : bl_Cx g p s m args meth c cc nL own) (hsz : ls.size = nL) (K : bl_Mmaxl own index) (hR : 1 ≤ R.frames ∧ (rest.map fun v => v.category).sum + 15 ≤ R.locals) (hf : cells ≤ R.cells ∧ slots ≤ R.slots) {x y2 : Int64} (hdg : decode cc pc = .ok (.invokestatic index, 3))
    (kk : W p l e R s m args below meth c H locs cells slots Q (F0 m (pc + 3) ls (.long (if y2 < x then x else y2) :: rest))) : W p l e R s m args below meth c H locs cells slots Q (F0 m pc ls (.long y2 :: .long x :: rest)) :=
  va_mmax_long X.1 X.2.1 (by rw [X.2.2.1, hsz]) X.2.2.2.1 (X.2.2.2.2.1 _ K.1) (X.2.2.2.2.1 _ K.2.1) (X.2.2.2.2.1 _ K.2.2.1) (X.2.2.2.2.1 _ K.2.2.2) hR.1 hR.2 hf.1 hf.2 hdg kk
theorem bl_cTi (X : bl_Cx g p s m args meth c cc nL own) (V : bl_V g s σ H locs) (hsz : ls.size = nL) {j : Nat} (hj : j < 8) (hy : y.cls = "java/lang/String") (L : Cond.methodLink own index y ∈ bl_tb) (K : bl_mV y bc maxL ret n) {r1 : Int32} {σ1 : bl_St} (hM : bl_Ci l g y bc maxL ret rm (.ref (bl_adr g 1 j) :: As) σ (r1, σ1)) (hrc : rm.cells = 0) (hrs : rm.slots = 0) (hR : rm.frames + 1 ≤ R.frames ∧ 8 + (maxL + 11) + rm.locals ≤ R.locals) (hst : st = As.reverse ++ .ref (bl_adr g 1 j) :: rest) (hn : As.length = n) (hw : (rest.map fun v => v.category).sum ≤ 8) (hf : cells ≤ R.cells ∧ slots ≤ R.slots) (hdg : decode cc pc = .ok (.invokevirtual index, 3))
    (kk : ∀ (H1 : Heap) (locs1 : List Loc), bl_V g s σ1 H1 locs1 → W p l e R s m args below meth c H1 locs1 cells slots Q (F0 m (pc + 3) ls (.int r1 :: rest))) : W p l e R s m args below meth c H locs cells slots Q (F0 m pc ls st) := by
  refine va_calli (va_runV (As := As) (rest := rest) (b := bl_adr g 1 j) ⟨X.1, X.2.1, X.2.2.1, X.2.2.2.1, X.2.2.2.2.1⟩ hM (cwV n X.2.2.2.2.1 (bl_gV L K) rfl hrc hrs ⟨rfl, K.2.2.2.2.1, K.2.2.2.2.2.1, K.2.2.2.2.2.2⟩ hR) ⟨bl_blind g σ _, by rw [hy]; exact vk_recv X.2.2.2.2.2.2.1.2.2.2.1 hj V.2, fun U hU hW => ⟨rfl, bl_pre X V U hU hW⟩⟩ rfl hn hsz hst (lv_room hw) hdg ⟨hf.1, hf.2⟩) V.2 (fun q _ h => h) (fun q h => h) (fun r u t H1 locs1 ht _ hp hb _ _ hS => ?_)
  cases hp
  have hb : bl_P g _ t.heap := hb
  rw [ht] at hb
  exact kk H1 locs1 ⟨hb, hS⟩
theorem bl_copys (X : bl_Cx g p s m args meth c cc nL own) (V : bl_V g s σ H locs) (hsz : ls.size = nL) (K : bl_acp own index) {i1 n1 b0 : Nat} {xs : List Int32} (hX : va_T .int b0 xs.length (fun j => .int (xs.getD j 0)) (bl_A g) s s.heap) (hs1 : bl_sh[i1]? = some (20, n1)) {sp dp cn : Int32} (hk : bl_cpk sp dp cn xs.length n1 = true)
    (hframes : 1 ≤ R.frames) (hlocals : (rest.map fun v => v.category).sum + (nativeFrameWords "java/lang/System" "arraycopy" 5 + 11) ≤ R.locals) (hdg : decode cc pc = .ok (.invokestatic index, 3))
    (kk : ∀ (σ1 : bl_St) (H1 : Heap) (locs1 : List Loc), σ1 = bl_cS σ (fun j => xs.getD j 0) sp.toNatClampNeg i1 dp.toNatClampNeg cn.toNatClampNeg → bl_V g s σ1 H1 locs1 → W p l e R s m args below meth c H1 locs1 cells slots Q (F0 m (pc + 3) ls rest)) : W p l e R s m args below meth c H locs cells slots Q (F0 m pc ls (.int cn :: .int dp :: .ref (bl_ad g i1) :: .int sp :: .ref b0 :: rest)) := by
  obtain ⟨h1, h2, h3, h4, h5⟩ := bl_cpk_at hk
  have nn : ∀ z : Int32, ¬ z < 0 → z.toInt = (z.toNatClampNeg : Int) := by
    intro z hz
    have hz0 : (0 : Int) ≤ z.toInt := by
      have := Int32.not_lt.mp hz
      simpa using Int32.le_iff_toInt_le.mp this
    show z.toInt = ((z.toInt.toNat : Nat) : Int)
    omega
  have hP := V.1.1
  have hD := bl_Dd X.2.2.2.2.2.2.1.2.2.2.2.2.2.2.2 σ
  have hS := V.2
  have ha1 := bl_at (g := g) (σ := σ) (bl_lt hs1) hs1
  have hK1 := (X.2.2.2.2.2.1.2 0 (bl_cA g 0, .int) rfl).1 n1 (fun j => .int (bl_I σ i1 j))
  intro T hT Y
  obtain ⟨scr, hs1', hs2, hs3, hs4, -, hs5, hs7⟩ := hX
  have hc0 : H[b0]? = some scr := by rw [hS.2.1 b0 (Array.getElem?_eq_some_iff.mp hs1').1 hs7]; exact hs1'
  have hc1 : H[bl_ad g i1]? = some (vp_cell (bl_cA g 0) (n1, .inl (bl_I σ i1))) := hP i1 _ ha1
  obtain ⟨hs6, k0, hk0, cm0, hkk0⟩ := hs2
  obtain ⟨-, k1, hk1, cm1, hkk1⟩ := hK1
  obtain ⟨vm', Y', step⟩ := Y.arraycopy X.1 X.2.2.2.1 (X.2.2.2.2.1 _ K.1) (X.2.2.2.2.1 _ K.2.1) (X.2.2.2.2.1 _ K.2.2.1) (X.2.2.2.2.1 _ K.2.2.2) (src := b0) (dst := bl_ad g i1) (cs := scr) (cd := vp_cell (bl_cA g 0) (n1, .inl (bl_I σ i1))) (srcPos := sp) (destPos := dp) (n := cn) (by rw [hT]; exact hc0) (by rw [hT]; exact hc1)
    hs6 (fun _ h => by cases h) hs3 (fun h => by cases h) hk0 hk1 hkk0 hkk1 (by simp [refKind]) h1 h2 h3
    (by rw [nn sp h1, nn cn h3]; omega)
    (by rw [nn dp h2, nn cn h3]; show ¬ _ > ((arrV (bl_cA g 0) n1 (fun j => .int (bl_I σ i1 j))).slots.size : Int); rw [arrV_size]; omega)
    (fun vm₁ _ i hi => by
      have e : scr.slots.getD (sp.toNatClampNeg + i) .null = .int (xs.getD (sp.toNatClampNeg + i) 0) := by
        rw [Array.getD_eq_getD_getElem?, hs5 _ (by omega)]
        rfl
      refine ⟨?_, ?_⟩
      · rw [e]
        rfl
      · rw [e]
        exact trivial)
    (g := F0 m pc ls (.int cn :: .int dp :: .ref (bl_ad g i1) :: .int sp :: .ref b0 :: rest)) rfl (by rw [X.2.2.1, hsz]) (rest := rest) rfl (by rw [X.2.1]; exact hdg) hframes (by show 2 * 0 + _ + _ ≤ _; omega)
  have e1 : copied scr (vp_cell (bl_cA g 0) (n1, .inl (bl_I σ i1))) sp dp cn = vp_cell (bl_cA g 0) (n1, .inl (va_cpy (fun j => xs.getD j 0) (bl_I σ i1) sp.toNatClampNeg dp.toNatClampNeg cn.toNatClampNeg)) := va_copiedX (fun z => .int z) scr (bl_cA g 0) (fun j => xs.getD j 0) (bl_I σ i1) hs5 h4
  rw [e1] at Y' step
  have hl : bl_ad g i1 < H.size := (Array.getElem?_eq_some_iff.mp hc1).1
  generalize hZ : vp_cell (bl_cA g 0) (n1, .inl (va_cpy (fun j => xs.getD j 0) (bl_I σ i1) sp.toNatClampNeg dp.toNatClampNeg cn.toNatClampNeg)) = Z at Y' step
  have hheap : ((T.setVm vm').setCell (bl_ad g i1) Z).heap = H.setIfInBounds (bl_ad g i1) Z := by rw [← hT]; rfl
  have oq : ∀ q : Nat, q ≠ bl_ad g i1 → (H.setIfInBounds (bl_ad g i1) Z)[q]? = H[q]? := fun q hq => by simp [Array.getElem?_setIfInBounds, Ne.symm hq]
  have hP2 := hP.set hD ha1 (e := .inl (bl_cA g 0, n1, .inl (va_cpy (fun j => xs.getD j 0) (bl_I σ i1) sp.toNatClampNeg dp.toNatClampNeg cn.toNatClampNeg))) (show (H.setIfInBounds (bl_ad g i1) Z)[bl_ad g i1]? = some _ by rw [hZ]; simp [Array.getElem?_setIfInBounds, hl]) oq
  have e2 : (.inl (bl_cA g 0, n1, .inl (va_cpy (fun j => xs.getD j 0) (bl_I σ i1) sp.toNatClampNeg dp.toNatClampNeg cn.toNatClampNeg)) : va_E) = bl_en g (bl_cS σ (fun j => xs.getD j 0) sp.toNatClampNeg i1 dp.toNatClampNeg cn.toNatClampNeg) i1 (20, n1) := by
    show _ = Sum.inl (bl_cA g 0, n1, Sum.inl (bl_row σ.1 i1 _ i1))
    rw [bl_row_eq]
  rw [e2, bl_set (σ := σ) (σ1 := bl_cS σ (fun j => xs.getD j 0) sp.toNatClampNeg i1 dp.toNatClampNeg cn.toNatClampNeg) hs1 (bl_lt hs1) (fun j h r => bl_en_o (σ := σ) (σ1 := bl_cS σ (fun j => xs.getD j 0) sp.toNatClampNeg i1 dp.toNatClampNeg cn.toNatClampNeg) (j := j) (bl_row_ne h) rfl rfl r)] at hP2
  obtain ⟨t, a1, b1⟩ := kk _ _ _ rfl ⟨⟨hP2, V.1.2⟩, ⟨by simp; exact hS.1, fun q g1 g2 => by
      rw [oq q (fun e => g2 (by rw [e]; exact hD.2 i1 _ ha1))]
      exact hS.2.1 q g1 g2, fun q hq => by
      rcases List.mem_append.mp hq with h | h
      · exact hS.2.2 q h
      · obtain ⟨z, -, hz⟩ := List.mem_map.mp h
        rw [← hz]
        exact hD.2 i1 _ ha1⟩⟩ _ hheap Y'
  exact ⟨t, step t a1, b1⟩
theorem bl_ne0 {i : Nat} {t : Nat × Nat} (h : bl_sh[i]? = some t) (ht : t ≠ (9, 13)) : i ≠ 0 := fun z => ht (by rw [z] at h; exact (Option.some.inj h).symm)
theorem bl_nbo {v : Int32} (h : bl_bo v = true) : narrow .boolean (.int v) = .int v ∧ fits .boolean (.int v) = true := by
  rcases bl_bo_or h with rfl | rfl <;> exact ⟨rfl, rfl⟩
def bl_fx {F : Type} (bot : F) (step : F → F) : Nat → F
  | 0 => bot
  | n + 1 => step (bl_fx bot step n)
def bl_fu : Nat := 20000
abbrev bl_rm (f lo : Nat) : Room := { frames := f, cells := 0, slots := 0, locals := lo }
abbrev bl_Qi (below : List Frame) (g : bl_Gp) (s : State) (as : List Value) (o : Int32 × bl_St) : State → Prop := MQ below (va_Qi (fun r u => (r, u) = o) (fun u t => bl_P g u t.heap) (bl_A g)) as.toArray s 0 0 (bl_A g)
abbrev bl_Ql (below : List Frame) (g : bl_Gp) (s : State) (as : List Value) (o : Int64 × bl_St) : State → Prop := MQ below (va_Ql (fun r u => (r, u) = o) (fun u t => bl_P g u t.heap) (bl_A g)) as.toArray s 0 0 (bl_A g)
abbrev bl_Qv (below : List Frame) (g : bl_Gp) (s : State) (as : List Value) (o : Unit × bl_St) : State → Prop := MQ below (va_Qv (fun u => ((), u) = o) (fun u t => bl_P g u t.heap) (bl_A g)) as.toArray s 0 0 (bl_A g)
abbrev bl_Qr (kd : Nat) (below : List Frame) (g : bl_Gp) (s : State) (as : List Value) (o : Nat × bl_St) : State → Prop := MQ below (va_Qr (fun u => u = o.2) (fun u a t => a = bl_adr g kd o.1 ∧ bl_P g u t.heap) (bl_A g)) as.toArray s 0 0 (bl_A g)
/-! a text's constant, a switch, constants of the pool -/
theorem bl_ldcs (X : bl_Cx g p s m args meth c cc nL "BonusLadder") {j : Nat} {tx : String} (ht : bl_tx[j]? = some (index, tx)) (hdg : decode cc pc = .ok (.ldc_w index, 3))
    (kk : W p l e R s m args below meth c H locs cells slots Q (F0 m (pc + 3) ls (.ref (bl_adr g 1 j) :: rest))) : W p l e R s m args below meth c H locs cells slots Q (F0 m pc ls rest) := by
  have hZ := X.2.2.2.2.2.2.1.2.2.2.2.1 j _ ht
  intro T hT Y
  obtain ⟨t, a1, b1⟩ := kk T hT Y
  refine ⟨t, Y.ldcStringW X.1 X.2.2.2.1 (text := tx) (a := bl_kK g j) hZ.1 hZ.2 (g := F0 m pc ls rest) rfl (by rw [X.2.1]; exact hdg) t a1, b1⟩

theorem bl_swI (X : bl_Cx g p s m args meth c cc nL own) {dflt lo hi off : Int} {offs : Array Int} {len tgt : Nat} {x : Int32} {v : Int} (hdg : decode cc pc = .ok (.tableswitch dflt lo hi offs, len)) (hx : x.toInt = v) (hv : lo ≤ v ∧ v ≤ hi) (ho : offs[(v - lo).toNat]? = some off) (ht : (pc : Int) + off = (tgt : Int))
    (kk : W p l e R s m args below meth c H locs cells slots Q (F0 m tgt ls rest)) : W p l e R s m args below meth c H locs cells slots Q (F0 m pc ls (.int x :: rest)) :=
  lv_tableIn X.1 X.2.1 hdg (by rw [hx]; omega) (by rw [hx]; omega) (by rw [hx]; exact ho) ht kk
theorem bl_swO (X : bl_Cx g p s m args meth c cc nL own) {dflt lo hi : Int} {offs : Array Int} {len tgt : Nat} {x : Int32} (hdg : decode cc pc = .ok (.tableswitch dflt lo hi offs, len)) (hx : x.toInt < lo ∨ hi < x.toInt) (ht : (pc : Int) + dflt = (tgt : Int))
    (kk : W p l e R s m args below meth c H locs cells slots Q (F0 m tgt ls rest)) : W p l e R s m args below meth c H locs cells slots Q (F0 m pc ls (.int x :: rest)) :=
  lv_tableOut X.1 X.2.1 hdg hx ht kk
end BLC
