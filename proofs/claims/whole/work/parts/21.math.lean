/-! ===== a method of a class of the JDK for which the machine has rows of its own, but none for that method ===== -/
theorem bl_metF {l : Launch} {g : bl_Gp} {y : MethodName} {cc : ByteArray} {maxL : Nat} {ret : Option FieldType} {rm : Room} {as : List Value} {σ : bl_St} {Qc : Array Value → State → Outcome → State → Prop} (hy : plainFor y = true) (hn : (lg_sl as).length ≤ maxL)
    (body : ∀ (p : Program) (e : Env) (s : State) (m : MethodId) (below : List Frame) (meth : Method) (c : Code) (ls : Array Slot), bl_Cx g p s m as.toArray meth c cc maxL y.cls → meth.sig.returnType = ret → bl_V g s σ s.heap [] → lv_has ls maxL (lv_args 0 as) →
      W p l e rm s m as.toArray below meth c s.heap [] 0 0 (MQ below Qc as.toArray s 0 0 (bl_A g)) (F0 m 0 ls [])) : Met l y (.code y cc maxL ret :: bl_tb) rm (va_Pc as (bl_G g σ)) Qc 0 0 (bl_A g) := by
  refine MetFree.of_bodySF (code := cc) (maxLocals := maxL) (ret := ret) hy ?_ ?_
  · intro args s m h hnm
    obtain ⟨meth, c, h1, h2, h3, h4, h5, h6, -, -⟩ := Cond.code_spec hnm (atoms_spec (ws := .code y cc maxL ret :: bl_tb) h _ List.mem_cons_self)
    exact ⟨meth, c, h1, h2, h3, h4, h5, h6⟩
  · intro p e s m args below meth c s₁ B hml hv _
    have hh0 : s₁.heap = s.heap := by rw [B.state]; rfl
    obtain ⟨rfl, hK, hC, hP⟩ := hv
    have hts := atoms_spec (ws := .code y cc maxL ret :: bl_tb) B.pre
    have hl := lv_entry as (n := maxL) hn
    rw [lg_entry_eq]
    obtain ⟨t, a1, q, b1, b2, b3⟩ := body p e s m below meth c _ ⟨B.exec, B.bytes, hml, findClass_of_methodNamed B.named, fun w h => hts w (List.mem_cons_of_mem _ h), hK, hC, B.notSynchronized⟩ B.returns ⟨hP, va_S.rf⟩ hl s₁ hh0 (Stand.of_body B)
    exact ⟨t, q, a1, b1, b2, ⟨b3.1, b3.2⟩⟩
