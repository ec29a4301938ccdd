theorem bl_Cs.go {g : bl_Gp} {s U : State} (h : bl_Cs g s) (hW : s.WarmedH U.vm) (hq : ∀ a : Nat, a < s.heap.size → ¬ bl_A g a → U.heap[a]? = s.heap[a]?) : bl_Cs g U := by
  obtain ⟨⟨h1, h2, h3, h4, h5⟩, h6, h7, h8, h9, h10, h11, h12, h13⟩ := h
  have hv := hW.alike
  exact ⟨⟨h1.go hv hq, h2.go hv hq, h3.go hv hq, h4.go hv hq, h5.go hv hq⟩, fun q hm => (h6 q hm).warmF hW, fun q hm => (h7 q hm).warmM hW, (h8.kept hq).moved hv, fun j q hm => (h9 j q hm).warm hW, ⟨(h10.1.kept hq).moved hv, (h10.2.kept hq).moved hv⟩, h11.moved hv, h12.moved hv, h13⟩
theorem bl_Cs.same {g : bl_Gp} {s U : State} (h : bl_Cs g s) (hvm : U.vm = s.vm) (hh : U.heap = s.heap) : bl_Cs g U := by
  obtain ⟨⟨h1, h2, h3, h4, h5⟩, h6, h7, h8, h9, h10, h11, h12, h13⟩ := h
  have hv : s.vm.Alike U.vm := by rw [hvm]; exact Vm.Alike.refl _
  have hq : ∀ a : Nat, a < s.heap.size → ¬ bl_A g a → U.heap[a]? = s.heap[a]? := fun a _ _ => by rw [hh]
  exact ⟨⟨h1.go hv hq, h2.go hv hq, h3.go hv hq, h4.go hv hq, h5.go hv hq⟩, fun q hm => va_Nw.same rfl hvm.symm (h6 q hm), fun q hm => va_Nw.same rfl hvm.symm (h7 q hm), (h8.kept hq).moved hv, fun j q hm => (h9 j q hm).same hvm, ⟨(h10.1.kept hq).moved hv, (h10.2.kept hq).moved hv⟩, h11.moved hv, h12.moved hv, h13⟩
/-- where a method's walk stands: machine, code, own class, words, classes, constants -/
def bl_Cx (g : bl_Gp) (p : Program) (s : State) (m : MethodId) (args : Array Value) (meth : Method) (c : Code) (cc : ByteArray) (nL : Nat) (own : String) : Prop :=
  p.tables.exec = Jvm.exec ∧ c.code = cc ∧ c.maxLocals = nL ∧ s.vm.findClass own = some m.cls ∧ (∀ w ∈ bl_tb, w.before args s = true) ∧ va_K (bl_D g) vwCl (bl_tys g) s ∧ bl_Cs g s ∧ meth.locks = false
def bl_V (g : bl_Gp) (s : State) (σ : bl_St) (H : Heap) (locs : List Loc) : Prop := bl_P g σ H ∧ va_S (bl_A g) s.heap H locs
def bl_G (g : bl_Gp) (σ : bl_St) (U : State) : Prop := va_K (bl_D g) vwCl (bl_tys g) U ∧ bl_Cs g U ∧ bl_P g σ U.heap
def bl_Ci (l : Launch) (g : bl_Gp) (y : MethodName) (cc : ByteArray) (maxL : Nat) (ret : Option FieldType) (rm : Room) (as : List Value) (σ : bl_St) (o : Int32 × bl_St) : Prop :=
  Met l y (.code y cc maxL ret :: bl_tb) rm (va_Pc as (bl_G g σ)) (va_Qi (fun r u => (r, u) = o) (fun u t => bl_P g u t.heap) (bl_A g)) 0 0 (bl_A g)
def bl_Cl (l : Launch) (g : bl_Gp) (y : MethodName) (cc : ByteArray) (maxL : Nat) (ret : Option FieldType) (rm : Room) (as : List Value) (σ : bl_St) (o : Int64 × bl_St) : Prop :=
  Met l y (.code y cc maxL ret :: bl_tb) rm (va_Pc as (bl_G g σ)) (va_Ql (fun r u => (r, u) = o) (fun u t => bl_P g u t.heap) (bl_A g)) 0 0 (bl_A g)
def bl_Cv (l : Launch) (g : bl_Gp) (y : MethodName) (cc : ByteArray) (maxL : Nat) (ret : Option FieldType) (rm : Room) (as : List Value) (σ : bl_St) (o : Unit × bl_St) : Prop :=
  Met l y (.code y cc maxL ret :: bl_tb) rm (va_Pc as (bl_G g σ)) (va_Qv (fun u => ((), u) = o) (fun u t => bl_P g u t.heap) (bl_A g)) 0 0 (bl_A g)
/-- an answer that is a cell of ours (k 0) or a text (k 1) -/
def bl_adr (g : bl_Gp) (k : Nat) (r : Nat) : Nat := if k = 0 then bl_ad g r else bl_kK g r
def bl_Cr (kd : Nat) (l : Launch) (g : bl_Gp) (y : MethodName) (cc : ByteArray) (maxL : Nat) (ret : Option FieldType) (rm : Room) (as : List Value) (σ : bl_St) (o : Nat × bl_St) : Prop :=
  Met l y (.code y cc maxL ret :: bl_tb) rm (va_Pc as (bl_G g σ)) (va_Qr (fun u => u = o.2) (fun u a t => a = bl_adr g kd o.1 ∧ bl_P g u t.heap) (bl_A g)) 0 0 (bl_A g)
theorem bl_met {l : Launch} {g : bl_Gp} {y : MethodName} {cc : ByteArray} {maxL : Nat} {ret : Option FieldType} {rm : Room} {as : List Value} {σ : bl_St} {Qc : Array Value → State → Outcome → State → Prop} (hy : plainName y.cls = true) (hn : (lg_sl as).length ≤ maxL)
    (body : ∀ (p : Program) (e : Env) (s : State) (m : MethodId) (below : List Frame) (meth : Method) (c : Code) (ls : Array Slot), bl_Cx g p s m as.toArray meth c cc maxL y.cls → meth.sig.returnType = ret → bl_V g s σ s.heap [] → lv_has ls maxL (lv_args 0 as) →
      W p l e rm s m as.toArray below meth c s.heap [] 0 0 (MQ below Qc as.toArray s 0 0 (bl_A g)) (F0 m 0 ls [])) : Met l y (.code y cc maxL ret :: bl_tb) rm (va_Pc as (bl_G g σ)) Qc 0 0 (bl_A g) := by
  refine Met.ofW (cc := cc) (maxL := maxL) (ret := ret) hy rfl ?_
  intro p e s m args below meth c s₁ B hml hv
  obtain ⟨rfl, hK, hC, hP⟩ := hv
  have hts := atoms_spec (ws := .code y cc maxL ret :: bl_tb) B.pre
  have hl := lv_entry as (n := maxL) hn
  rw [lg_entry_eq]
  exact body p e s m below meth c _ ⟨B.exec, B.bytes, hml, findClass_of_methodNamed B.named, fun w h => hts w (List.mem_cons_of_mem _ h), hK, hC, B.notSynchronized⟩ B.returns ⟨hP, va_S.rf⟩ hl
theorem bl_blind (g : bl_Gp) (σ : bl_St) (as : List Value) : FrameBlind (va_Pc as (bl_G g σ)) := by
  intro a U gf mk q
  obtain ⟨q0, qK, qC, qP⟩ := q
  exact ⟨q0, va_K.moved (u := U) (U := U.calling gf mk a) (Vm.Alike.refl U.vm) qK, qC.same rfl rfl, qP⟩
/-! small steps of the answers -/
def bl_let {α β : Type} (e : α) (k : α → Option β) : Option β := k e
def bl_gd {β : Type} (b : Bool) (k : Option β) : Option β := bif b then k else none
def bl_bd {α β : Type} (x : Option (α × bl_St)) (k : α → bl_St → Option β) : Option β := x.bind fun q => k q.1 q.2
theorem bl_let_at {α β : Type} {x e : α} {k : α → Option β} {o : Option β} (h : x = e) (hf : bl_let e k = o) : k x = o := by rw [h]; exact hf
theorem bl_gd_at {β : Type} {b : Bool} {k : Option β} {o : β} (hf : bl_gd b k = some o) : b = true ∧ k = some o := by
  cases b with
  | false => cases hf
  | true => exact ⟨rfl, hf⟩
theorem bl_bd_at {α β : Type} {x : Option (α × bl_St)} {k : α → bl_St → Option β} {o : β} (hf : bl_bd x k = some o) : ∃ (a : α) (σ1 : bl_St), x = some (a, σ1) ∧ k a σ1 = some o := by
  cases x with
  | none => cases hf
  | some q => exact ⟨q.1, q.2, rfl, hf⟩
theorem bl_ifp {α : Type} {P : Prop} {d : Decidable P} {a b o : α} (h : P) (hf : @ite α P d a b = o) : a = o := by rw [if_pos h] at hf; exact hf
theorem bl_ifn {α : Type} {P : Prop} {d : Decidable P} {a b o : α} (h : ¬ P) (hf : @ite α P d a b = o) : b = o := by rw [if_neg h] at hf; exact hf
def bl_in (i : Int32) (n : Nat) : Bool := !(decide (i < 0)) && decide (i.toNatClampNeg < n)
theorem bl_in_vp {i : Int32} {n : Nat} (h : bl_in i n = true) : vp_in i n := by
  unfold bl_in at h
  simp only [Bool.and_eq_true, Bool.not_eq_true', decide_eq_false_iff_not, decide_eq_true_eq] at h
  intro q
  rcases q with q | q
  · exact h.1 q
  · omega
def bl_bo (v : Int32) : Bool := v == 0 || v == 1
theorem bl_bo_or {v : Int32} (h : bl_bo v = true) : v = 0 ∨ v = 1 := by
  unfold bl_bo at h
  simpa using h
/-! what a field's instruction needs -/
def bl_fl (own : String) (index ci k t : Nat) : Prop := ∃ (C : String) (T : u_T) (N : Nat), vwCl[ci]? = some (C, T, N) ∧ k < N ∧ (∀ w ∈ u_ws C T N, w ∈ bl_tb) ∧ Cond.fieldLink own index (T k).1 (T k).2.1 (T k).2.2.1 ∈ bl_tb ∧ (bl_ft.getD ci [])[k]? = some t
def bl_fp (own : String) (index ci k t : Nat) (ty : FieldType) : Prop := ∃ (C : String) (T : u_T) (N : Nat) (ty0 : Nat → FieldType), vwCl[ci]? = some (C, T, N) ∧ k < N ∧ (∀ w ∈ u_ws C T N, w ∈ bl_tb) ∧ Cond.fieldLink own index (T k).1 (T k).2.1 (T k).2.2.1 ∈ bl_tb ∧ (bl_ft.getD ci [])[k]? = some t ∧
  (∀ j, j < N → parseFieldDescriptor (T j).2.2.1 = some (ty0 j)) ∧ (∀ a, a < N → ∀ b, b < N → a ≠ b → (T a).2.1 ≠ (T b).2.1) ∧ (T k).2.2.2 = false ∧ parseFieldDescriptor (T k).2.2.1 = some ty
section BLR
variable {p : Program} {l : Launch} {e : Env} {R : Room} {s : State} {m : MethodId} {args : Array Value} {below : List Frame} {meth : Method} {c : Code} {H : Heap} {locs : List Loc} {cells slots : Nat} {Q : State → Prop}
variable {cc : ByteArray} {nL pc : Nat} {own : String} {ls : Array Slot} {rest : List Value} {g : bl_Gp} {σ : bl_St} {i ci N k index : Nat}
theorem bl_geti (X : bl_Cx g p s m args meth c cc nL own) (V : bl_V g s σ H locs) (hs : bl_sh[i]? = some (ci, N)) (F : bl_fl own index ci k 0) (hdg : decode cc pc = .ok (.getfield index, 3))
    (kk : W p l e R s m args below meth c H locs cells slots Q (F0 m (pc + 3) ls (.int (bl_I σ i k) :: rest))) : W p l e R s m args below meth c H locs cells slots Q (F0 m pc ls (.ref (bl_ad g i) :: rest)) := by
  obtain ⟨C, T, N', hc, hk, hin, hlk, hft⟩ := F
  have he := bl_at (g := g) (σ := σ) (bl_lt hs) hs
  rw [bl_en_obj (bl_ft_kind _ _ _ hft)] at he
  exact va_get X.1 X.2.1 X.2.2.2.2.1 hin X.2.2.2.1 X.2.2.2.2.2.1 V.1.1 i he hc k hk (X.2.2.2.2.1 _ hlk) (fun _ h => h) (by rw [bl_fs_at, hft]; rfl) hdg kk
theorem bl_getl (X : bl_Cx g p s m args meth c cc nL own) (V : bl_V g s σ H locs) (hs : bl_sh[i]? = some (ci, N)) (F : bl_fl own index ci k 1) (hdg : decode cc pc = .ok (.getfield index, 3))
    (kk : W p l e R s m args below meth c H locs cells slots Q (F0 m (pc + 3) ls (.long (bl_J σ i k) :: rest))) : W p l e R s m args below meth c H locs cells slots Q (F0 m pc ls (.ref (bl_ad g i) :: rest)) := by
  obtain ⟨C, T, N', hc, hk, hin, hlk, hft⟩ := F
  have he := bl_at (g := g) (σ := σ) (bl_lt hs) hs
  rw [bl_en_obj (bl_ft_kind _ _ _ hft)] at he
  exact va_get X.1 X.2.1 X.2.2.2.2.1 hin X.2.2.2.1 X.2.2.2.2.2.1 V.1.1 i he hc k hk (X.2.2.2.2.1 _ hlk) (fun _ h => h) (by rw [bl_fs_at, hft]; rfl) hdg kk
theorem bl_rf_ne {r : Nat} (h : r ≠ 0) : va_rf (bl_rf g r) = .ref (bl_ad g r) := by
  unfold bl_rf
  rw [if_neg h]
  rfl
theorem bl_getr (X : bl_Cx g p s m args meth c cc nL own) (V : bl_V g s σ H locs) (hs : bl_sh[i]? = some (ci, N)) (F : bl_fl own index ci k 2) {t : Nat × Nat} (ht : (bl_rt.getD ci [])[k]? = some (some t)) (hdg : decode cc pc = .ok (.getfield index, 3))
    (kk : bl_sh[bl_R σ i k]? = some t → W p l e R s m args below meth c H locs cells slots Q (F0 m (pc + 3) ls (.ref (bl_ad g (bl_R σ i k)) :: rest))) : W p l e R s m args below meth c H locs cells slots Q (F0 m pc ls (.ref (bl_ad g i) :: rest)) := by
  obtain ⟨C, T, N', hc, hk, hin, hlk, hft⟩ := F
  have he := bl_at (g := g) (σ := σ) (bl_lt hs) hs
  rw [bl_en_obj (bl_ft_kind _ _ _ hft)] at he
  obtain ⟨hr, ht2⟩ := V.1.2.1 i ci N k t hs ht
  have kk := kk ht2
  rw [← bl_rf_ne (g := g) hr] at kk
  exact va_get X.1 X.2.1 X.2.2.2.2.1 hin X.2.2.2.1 X.2.2.2.2.2.1 V.1.1 i he hc k hk (X.2.2.2.2.1 _ hlk) (fun _ h => h) (by rw [bl_fs_at, hft]; rfl) hdg kk
theorem bl_val_pI {v : Int32} : bl_val g (bl_pI σ i k v) i 0 k = .int v := by simp [bl_val, bl_I, bl_J, bl_R, bl_pI, bl_u]
theorem bl_val_pI_o {v : Int32} (t' j : Nat) (h : j ≠ k) : bl_val g (bl_pI σ i k v) i t' j = bl_val g σ i t' j := by simp [bl_val, bl_I, bl_J, bl_R, bl_pI, bl_u, h]
theorem bl_val_pJ {v : Int64} : bl_val g (bl_pJ σ i k v) i 1 k = .long v := by simp [bl_val, bl_I, bl_J, bl_R, bl_pJ, bl_u]
theorem bl_val_pJ_o {v : Int64} (t' j : Nat) (h : j ≠ k) : bl_val g (bl_pJ σ i k v) i t' j = bl_val g σ i t' j := by simp [bl_val, bl_I, bl_J, bl_R, bl_pJ, bl_u, h]
theorem bl_val_pR {v : Nat} : bl_val g (bl_pR σ i k v) i 2 k = va_rf (bl_rf g v) := by simp [bl_val, bl_I, bl_J, bl_R, bl_pR, bl_u]
theorem bl_val_pR_o {v : Nat} (t' j : Nat) (h : j ≠ k) : bl_val g (bl_pR σ i k v) i t' j = bl_val g σ i t' j := by simp [bl_val, bl_I, bl_J, bl_R, bl_pR, bl_u, h]
theorem bl_en_pI {v : Int32} (j : Nat) (h : j ≠ i) (r : Nat × Nat) : bl_en g (bl_pI σ i k v) j r = bl_en g σ j r := bl_en_o (σ := σ) (σ1 := bl_pI σ i k v) (j := j) (bl_u_ne h) rfl rfl r
theorem bl_en_pJ {v : Int64} (j : Nat) (h : j ≠ i) (r : Nat × Nat) : bl_en g (bl_pJ σ i k v) j r = bl_en g σ j r := bl_en_o (σ := σ) (σ1 := bl_pJ σ i k v) (j := j) rfl (bl_u_ne h) rfl r
theorem bl_en_pR {v : Nat} (j : Nat) (h : j ≠ i) (r : Nat × Nat) : bl_en g (bl_pR σ i k v) j r = bl_en g σ j r := bl_en_o (σ := σ) (σ1 := bl_pR σ i k v) (j := j) rfl rfl (bl_u_ne h) r
theorem bl_puti (X : bl_Cx g p s m args meth c cc nL own) (V : bl_V g s σ H locs) (hs : bl_sh[i]? = some (ci, N)) {ty : FieldType} (F : bl_fp own index ci k 0 ty) {v : Int32} (hn : narrow ty (.int v) = .int v) (hfit : fits ty (.int v) = true) (hdg : decode cc pc = .ok (.putfield index, 3))
    (kk : ∀ (σ1 : bl_St) (H1 : Heap) (locs1 : List Loc), σ1 = bl_pI σ i k v → bl_V g s σ1 H1 locs1 → W p l e R s m args below meth c H1 locs1 cells slots Q (F0 m (pc + 3) ls rest)) : W p l e R s m args below meth c H locs cells slots Q (F0 m pc ls (.int v :: .ref (bl_ad g i) :: rest)) := by
  obtain ⟨C, T, N', ty0, hc, hk, hin, hlk, hft, hty, hnm, hfin, hpd⟩ := F
  have hob := bl_ft_kind _ _ _ hft
  have he := bl_at (g := g) (σ := σ) (bl_lt hs) hs
  rw [bl_en_obj hob] at he
  refine va_put X.1 X.2.1 X.2.2.2.2.1 hin ty0 hty hnm X.2.2.2.1 X.2.2.2.2.2.1 V.1.1 (bl_Dd X.2.2.2.2.2.2.1.2.2.2.2.2.2.2.2 σ) V.2 i he hc k hk (X.2.2.2.2.1 _ hlk) (fun _ h => h) hfin hpd hn hfit (by rw [bl_fs_len]; exact (List.getElem?_eq_some_iff.mp hft).1) hdg fun H1 locs1 hP hD hS => kk _ H1 locs1 rfl ⟨⟨?_, V.1.2⟩, hS⟩
  rw [bl_fs_set (σ1 := bl_pI σ i k v) hft bl_val_pI bl_val_pI_o, ← bl_en_obj (N := N) hob, bl_set hs (bl_lt hs) bl_en_pI] at hP
  exact hP
theorem bl_putl (X : bl_Cx g p s m args meth c cc nL own) (V : bl_V g s σ H locs) (hs : bl_sh[i]? = some (ci, N)) (F : bl_fp own index ci k 1 .long) {v : Int64} (hdg : decode cc pc = .ok (.putfield index, 3))
    (kk : ∀ (σ1 : bl_St) (H1 : Heap) (locs1 : List Loc), σ1 = bl_pJ σ i k v → bl_V g s σ1 H1 locs1 → W p l e R s m args below meth c H1 locs1 cells slots Q (F0 m (pc + 3) ls rest)) : W p l e R s m args below meth c H locs cells slots Q (F0 m pc ls (.long v :: .ref (bl_ad g i) :: rest)) := by
  obtain ⟨C, T, N', ty0, hc, hk, hin, hlk, hft, hty, hnm, hfin, hpd⟩ := F
  have hob := bl_ft_kind _ _ _ hft
  have he := bl_at (g := g) (σ := σ) (bl_lt hs) hs
  rw [bl_en_obj hob] at he
  refine va_put X.1 X.2.1 X.2.2.2.2.1 hin ty0 hty hnm X.2.2.2.1 X.2.2.2.2.2.1 V.1.1 (bl_Dd X.2.2.2.2.2.2.1.2.2.2.2.2.2.2.2 σ) V.2 i he hc k hk (X.2.2.2.2.1 _ hlk) (fun _ h => h) hfin hpd rfl rfl (by rw [bl_fs_len]; exact (List.getElem?_eq_some_iff.mp hft).1) hdg fun H1 locs1 hP hD hS => kk _ H1 locs1 rfl ⟨⟨?_, V.1.2⟩, hS⟩
  rw [bl_fs_set (σ1 := bl_pJ σ i k v) hft bl_val_pJ bl_val_pJ_o, ← bl_en_obj (N := N) hob, bl_set hs (bl_lt hs) bl_en_pJ] at hP
  exact hP
theorem bl_WT_pR {v : Nat} {t : Nat × Nat} (hw : bl_WT σ) (hs : bl_sh[i]? = some (ci, N)) (hc : ci < 11) (ht : (bl_rt.getD ci [])[k]? = some (some t)) (hv : bl_sh[v]? = some t) (h0 : v ≠ 0) : bl_WT (bl_pR σ i k v) := by
  refine ⟨fun i' ci' N' k' t' h1 h2 => ?_, fun i' n' k' h1 h2 => ?_, fun i' n' k' h1 h2 => ?_⟩
  · by_cases hi : i' = i
    · subst hi
      rw [hs] at h1
      cases h1
      by_cases hk : k' = k
      · subst hk
        rw [ht] at h2
        cases h2
        show bl_u σ.2.2 i' k' v i' k' ≠ 0 ∧ bl_sh[bl_u σ.2.2 i' k' v i' k']? = _
        simp only [bl_u, if_true]
        exact ⟨h0, hv⟩
      · show bl_u σ.2.2 i' k v i' k' ≠ 0 ∧ bl_sh[bl_u σ.2.2 i' k v i' k']? = _
        simp only [bl_u, if_true, if_neg hk]
        exact hw.1 i' ci N k' t' hs h2
    · show bl_u σ.2.2 i k v i' k' ≠ 0 ∧ bl_sh[bl_u σ.2.2 i k v i' k']? = _
      rw [bl_u_ne hi]
      exact hw.1 i' ci' N' k' t' h1 h2
  · have hi : i' ≠ i := fun z => by rw [z, hs] at h1; cases h1; omega
    show bl_u σ.2.2 i k v i' k' ≠ 0 ∧ bl_sh[bl_u σ.2.2 i k v i' k']? = _
    rw [bl_u_ne hi]
    exact hw.2.1 i' n' k' h1 h2
  · have hi : i' ≠ i := fun z => by rw [z, hs] at h1; cases h1; omega
    show bl_u σ.2.2 i k v i' k' ≠ 0 ∧ bl_sh[bl_u σ.2.2 i k v i' k']? = _
    rw [bl_u_ne hi]
    exact hw.2.2 i' n' k' h1 h2
theorem bl_putr (X : bl_Cx g p s m args meth c cc nL own) (V : bl_V g s σ H locs) (hs : bl_sh[i]? = some (ci, N)) {ty : FieldType} (F : bl_fp own index ci k 2 ty) {v : Nat} {t : Nat × Nat} (ht : (bl_rt.getD ci [])[k]? = some (some t)) (hv : bl_sh[v]? = some t) (h0 : v ≠ 0) (hn : ∀ a : Nat, narrow ty (.ref a) = .ref a) (hfit : ∀ a : Nat, fits ty (.ref a) = true) (hdg : decode cc pc = .ok (.putfield index, 3))
    (kk : ∀ (σ1 : bl_St) (H1 : Heap) (locs1 : List Loc), σ1 = bl_pR σ i k v → bl_V g s σ1 H1 locs1 → W p l e R s m args below meth c H1 locs1 cells slots Q (F0 m (pc + 3) ls rest)) : W p l e R s m args below meth c H locs cells slots Q (F0 m pc ls (.ref (bl_ad g v) :: .ref (bl_ad g i) :: rest)) := by
  obtain ⟨C, T, N', ty0, hc, hk, hin, hlk, hft, hty, hnm, hfin, hpd⟩ := F
  have hob := bl_ft_kind _ _ _ hft
  have he := bl_at (g := g) (σ := σ) (bl_lt hs) hs
  rw [bl_en_obj hob] at he
  refine va_put X.1 X.2.1 X.2.2.2.2.1 hin ty0 hty hnm X.2.2.2.1 X.2.2.2.2.2.1 V.1.1 (bl_Dd X.2.2.2.2.2.2.1.2.2.2.2.2.2.2.2 σ) V.2 i he hc k hk (X.2.2.2.2.1 _ hlk) (fun _ h => h) hfin hpd (hn _) (hfit _) (by rw [bl_fs_len]; exact (List.getElem?_eq_some_iff.mp hft).1) hdg fun H1 locs1 hP hD hS => kk _ H1 locs1 rfl ⟨⟨?_, bl_WT_pR V.1.2 hs hob ht hv h0⟩, hS⟩
  rw [bl_fs_set (σ1 := bl_pR σ i k v) hft (bl_val_pR.trans (bl_rf_ne h0)) bl_val_pR_o, ← bl_en_obj (N := N) hob, bl_set hs (bl_lt hs) bl_en_pR] at hP
  exact hP
end BLR
