/-! THE CLAIM OUT OF ONE WALK OF THE LAW'S BODY. Your part is whole_start (and what it stands on); all else here is the same for every law, but numbers. -/
def R_law : String := "BonusLadderLaw"
def lw_P (b : Addr) (xs : List Int32) (args : Array Value) (s : State) : Prop := args = #[.ref b] ∧ s.IntsAt b xs ∧ xs.length ≤ 3584 ∧ (Jvm.Cond.and given_1 narrow_1).before args s = true
def lw_Q (_ : Array Value) (s : State) (o : Outcome) (t : State) : Prop := o = .returned (some (.int 1)) ∧ Framed s o t [] 600000 7302250
def lw_Z (below : List Frame) (a : Array Value) (s : State) : State → Prop := fun t => ∃ o, t.status = .running ∧ Ended t below o ∧ lw_Q a s o t
/-- the law's own end, with 1 on the stack, nothing written that was there before, its room as the claim has it -/
theorem lw_ret {p : Program} {l : Launch} {e : Env} {s : State} {m : MethodId} {below : List Frame} {meth : Method} {c : Code} {b : Nat} (hx : p.tables.exec = Jvm.exec) (hb : c.code = code) (hr : meth.sig.returnType = ret) (hlocks : meth.locks = false) {pc : Nat} {H : Heap} {ls : Array Slot} (hdg : decode code pc = .ok (.ireturn, 1)) : W p l e room_1 s m #[Value.ref b] below meth c H [] 600000 7302250 (lw_Z below #[Value.ref b] s) (F0 m pc ls [.int 1]) := by
  intro T hT X
  obtain ⟨fs, hret, hrun, hended, hW, hframe⟩ := X.leave (v := some (.int 1)) (hlocks := hlocks) (fun h => by rw [hr] at h; cases h)
  have hmeth' : T.vm.method? m = some meth := X.method'
  refine ⟨T.setFrames fs, ?_, .returned (some (.int 1)), hrun, hended, rfl, ⟨_, rfl⟩, hW, hframe⟩
  jvm_step X.here [X.here.top, hx, hb, hdg, hmeth', hr, ret, narrow_b1]
  (try refine ⟨rfl, ?_⟩); (try refine ⟨rfl, ?_⟩)
  first | (intro acts; rw [hret _ acts rfl rfl rfl]) | rw [hret _ _ rfl rfl rfl]
  exact Steps.refl _
/-- what holds at the law's entry: the machine, the code, the tables' words (any of lw_tbl by 'hts w (by decide +kernel)'), the script of L ints xs at the cell b, what the Statement gives of the start (any of its parts by flat_of_before) -/
def lw_At (p : Program) (s : State) (m : MethodId) (meth : Method) (c : Code) (b L : Nat) (xs : Nat → Int32) : Prop :=
  p.tables.exec = Jvm.exec ∧ c.code = code ∧ meth.sig.returnType = ret ∧ c.maxLocals = 4 ∧ s.vm.findClass R_law = some m.cls ∧ (∀ w ∈ lw_tbl, w.before #[Value.ref b] s = true) ∧ va_X b L xs s s.heap ∧ b < s.heap.size ∧ meth.locks = false ∧ (Jvm.Cond.and given_1 narrow_1).before #[Value.ref b] s = true
/-- the law's end -/
theorem bl_fin {p : Program} {l : Launch} {e : Env} {s : State} {m : MethodId} {below : List Frame} {meth : Method} {c : Code} {g : bl_Gp} {b : Nat} {σ : bl_St} {H : Heap} {locs : List Loc} {ls : Array Slot} {pc : Nat} (hg : bl_b g = s.heap.size) (X : bl_Cx g p s m #[Value.ref b] meth c code 4 RL) (V : bl_V g s σ H locs) (hr : meth.sig.returnType = ret) (hdg : decode code pc = .ok (.ireturn, 1)) : W p l e room_1 s m #[Value.ref b] below meth c H locs 154 9053 (lw_Z below #[Value.ref b] s) (F0 m pc ls [.int 1]) := by
  refine va_forget (fun q hq => ?_) ?_
  · have h := V.2.2.2 q hq
    have h : bl_b g ≤ q.base := h
    rw [hg] at h
    exact h
  · exact W.widen (Nat.le_of_ble_eq_true rfl) (Nat.le_of_ble_eq_true rfl) (lw_ret X.1 X.2.1 hr X.2.2.2.2.2.2.2 hdg)
def b_L_law_2362 (xs : Nat → Int32) (L : Nat)  (k18 : bl_St → Nat → Nat → Int32 → Option (Int32 × bl_St)) (σ : bl_St) (v1 : Nat) (v2 : Nat) (v3 : Int32) : Option (Int32 × bl_St) :=
  bl_let (v3 + 7) fun x1 =>
  k18 σ v1 v2 x1
def b_L_law_1317 (xs : Nat → Int32) (L : Nat)  (k18 : bl_St → Nat → Nat → Int32 → Option (Int32 × bl_St)) (σ : bl_St) (v1 : Nat) (v2 : Nat) (v3 : Int32) (s0 : Int32) (s1 : Int32) (s2 : Int32) (s3 : Int32) (s4 : Int32) (s5 : Nat) (s6 : Int64) : Option (Int32 × bl_St) :=
  bl_gd (bl_in (v3 + 6) L) (
  bl_bd (f_X10_gain σ s5 s4 s3 s2 s1 s0 (xs (Int32.toNatClampNeg (v3 + 6)))) fun r4 σ5 =>
  if s6 = r4 then (
  b_L_law_2362 xs L k18 σ5 v1 v2 v3) else (
  some (0, σ5)))
def b_L_law_1274 (xs : Nat → Int32) (L : Nat)  (k18 : bl_St → Nat → Nat → Int32 → Option (Int32 × bl_St)) (σ : bl_St) (v1 : Nat) (v2 : Nat) (v3 : Int32) (s0 : Int32) (s1 : Int32) (s2 : Int32) (s3 : Int32) (s4 : Int32) (s5 : Nat) : Option (Int32 × bl_St) :=
  bl_gd (bl_in (v3 + 6) L) (
  bl_bd (f_X9_gain σ s5 s4 s3 s2 s1 s0 (xs (Int32.toNatClampNeg (v3 + 6)))) fun r9 σ10 =>
  bl_gd (bl_in (v3 + 1) L) (
  bl_gd (bl_in (v3 + 2) L) (
  bl_gd (bl_in (v3 + 3) L) (
  bl_gd (bl_in (v3 + 4) L) (
  bl_gd (bl_in (v3 + 5) L) (
  if (xs (Int32.toNatClampNeg (v3 + 5))) = 0 then (
  b_L_law_1317 xs L k18 σ10 v1 v2 v3 0 (xs (Int32.toNatClampNeg (v3 + 4))) (xs (Int32.toNatClampNeg (v3 + 3))) (xs (Int32.toNatClampNeg (v3 + 2))) (xs (Int32.toNatClampNeg (v3 + 1))) v2 r9) else (
  b_L_law_1317 xs L k18 σ10 v1 v2 v3 1 (xs (Int32.toNatClampNeg (v3 + 4))) (xs (Int32.toNatClampNeg (v3 + 3))) (xs (Int32.toNatClampNeg (v3 + 2))) (xs (Int32.toNatClampNeg (v3 + 1))) v2 r9)))))))
def b_L_law_1232 (xs : Nat → Int32) (L : Nat)  (k18 : bl_St → Nat → Nat → Int32 → Option (Int32 × bl_St)) (σ : bl_St) (v1 : Nat) (v2 : Nat) (v3 : Int32) (s0 : Int32) (s1 : Int32) (s2 : Int32) (s3 : Int32) (s4 : Int32) (s5 : Nat) (s6 : Int32) : Option (Int32 × bl_St) :=
  bl_bd (f_X10_tells σ s5 s4 s3 s2 s1 s0) fun r18 σ19 =>
  if s6 = r18 then (
  b_L_law_2362 xs L k18 σ19 v1 v2 v3) else (
  some (0, σ19))
def b_L_law_1195 (xs : Nat → Int32) (L : Nat)  (k18 : bl_St → Nat → Nat → Int32 → Option (Int32 × bl_St)) (σ : bl_St) (v1 : Nat) (v2 : Nat) (v3 : Int32) (s0 : Int32) (s1 : Int32) (s2 : Int32) (s3 : Int32) (s4 : Int32) (s5 : Nat) : Option (Int32 × bl_St) :=
  bl_bd (f_X9_tells σ s5 s4 s3 s2 s1 s0) fun r22 σ23 =>
  bl_gd (bl_in (v3 + 1) L) (
  bl_gd (bl_in (v3 + 2) L) (
  bl_gd (bl_in (v3 + 3) L) (
  bl_gd (bl_in (v3 + 4) L) (
  bl_gd (bl_in (v3 + 5) L) (
  if (xs (Int32.toNatClampNeg (v3 + 5))) = 0 then (
  b_L_law_1232 xs L k18 σ23 v1 v2 v3 0 (xs (Int32.toNatClampNeg (v3 + 4))) (xs (Int32.toNatClampNeg (v3 + 3))) (xs (Int32.toNatClampNeg (v3 + 2))) (xs (Int32.toNatClampNeg (v3 + 1))) v2 r22) else (
  b_L_law_1232 xs L k18 σ23 v1 v2 v3 1 (xs (Int32.toNatClampNeg (v3 + 4))) (xs (Int32.toNatClampNeg (v3 + 3))) (xs (Int32.toNatClampNeg (v3 + 2))) (xs (Int32.toNatClampNeg (v3 + 1))) v2 r22))))))
def b_L_law_1153 (xs : Nat → Int32) (L : Nat)  (k18 : bl_St → Nat → Nat → Int32 → Option (Int32 × bl_St)) (σ : bl_St) (v1 : Nat) (v2 : Nat) (v3 : Int32) (s0 : Int32) (s1 : Int32) (s2 : Int32) (s3 : Int32) (s4 : Int32) (s5 : Nat) (s6 : Int32) : Option (Int32 × bl_St) :=
  bl_bd (f_X10_least σ s5 s4 s3 s2 s1 s0) fun r31 σ32 =>
  if s6 = r31 then (
  b_L_law_2362 xs L k18 σ32 v1 v2 v3) else (
  some (0, σ32))
def b_L_law_1116 (xs : Nat → Int32) (L : Nat)  (k18 : bl_St → Nat → Nat → Int32 → Option (Int32 × bl_St)) (σ : bl_St) (v1 : Nat) (v2 : Nat) (v3 : Int32) (s0 : Int32) (s1 : Int32) (s2 : Int32) (s3 : Int32) (s4 : Int32) (s5 : Nat) : Option (Int32 × bl_St) :=
  bl_bd (f_X9_least σ s5 s4 s3 s2 s1 s0) fun r35 σ36 =>
  bl_gd (bl_in (v3 + 1) L) (
  bl_gd (bl_in (v3 + 2) L) (
  bl_gd (bl_in (v3 + 3) L) (
  bl_gd (bl_in (v3 + 4) L) (
  bl_gd (bl_in (v3 + 5) L) (
  if (xs (Int32.toNatClampNeg (v3 + 5))) = 0 then (
  b_L_law_1153 xs L k18 σ36 v1 v2 v3 0 (xs (Int32.toNatClampNeg (v3 + 4))) (xs (Int32.toNatClampNeg (v3 + 3))) (xs (Int32.toNatClampNeg (v3 + 2))) (xs (Int32.toNatClampNeg (v3 + 1))) v2 r35) else (
  b_L_law_1153 xs L k18 σ36 v1 v2 v3 1 (xs (Int32.toNatClampNeg (v3 + 4))) (xs (Int32.toNatClampNeg (v3 + 3))) (xs (Int32.toNatClampNeg (v3 + 2))) (xs (Int32.toNatClampNeg (v3 + 1))) v2 r35))))))
def b_L_law_1073 (xs : Nat → Int32) (L : Nat)  (k18 : bl_St → Nat → Nat → Int32 → Option (Int32 × bl_St)) (σ : bl_St) (v1 : Nat) (v2 : Nat) (v3 : Int32) (s0 : Int32) (s1 : Int32) (s2 : Int32) (s3 : Int32) (s4 : Int32) (s5 : Nat) (s6 : Int64) : Option (Int32 × bl_St) :=
  bl_bd (f_X10_ahead σ s5 s4 s3 s2 s1 s0) fun r44 σ45 =>
  if s6 = r44 then (
  b_L_law_2362 xs L k18 σ45 v1 v2 v3) else (
  some (0, σ45))
def b_L_law_1036 (xs : Nat → Int32) (L : Nat)  (k18 : bl_St → Nat → Nat → Int32 → Option (Int32 × bl_St)) (σ : bl_St) (v1 : Nat) (v2 : Nat) (v3 : Int32) (s0 : Int32) (s1 : Int32) (s2 : Int32) (s3 : Int32) (s4 : Int32) (s5 : Nat) : Option (Int32 × bl_St) :=
  bl_bd (f_X9_ahead σ s5 s4 s3 s2 s1 s0) fun r48 σ49 =>
  bl_gd (bl_in (v3 + 1) L) (
  bl_gd (bl_in (v3 + 2) L) (
  bl_gd (bl_in (v3 + 3) L) (
  bl_gd (bl_in (v3 + 4) L) (
  bl_gd (bl_in (v3 + 5) L) (
  if (xs (Int32.toNatClampNeg (v3 + 5))) = 0 then (
  b_L_law_1073 xs L k18 σ49 v1 v2 v3 0 (xs (Int32.toNatClampNeg (v3 + 4))) (xs (Int32.toNatClampNeg (v3 + 3))) (xs (Int32.toNatClampNeg (v3 + 2))) (xs (Int32.toNatClampNeg (v3 + 1))) v2 r48) else (
  b_L_law_1073 xs L k18 σ49 v1 v2 v3 1 (xs (Int32.toNatClampNeg (v3 + 4))) (xs (Int32.toNatClampNeg (v3 + 3))) (xs (Int32.toNatClampNeg (v3 + 2))) (xs (Int32.toNatClampNeg (v3 + 1))) v2 r48))))))
def b_L_law_927 (xs : Nat → Int32) (L : Nat)  (k18 : bl_St → Nat → Nat → Int32 → Option (Int32 × bl_St)) (σ : bl_St) (v1 : Nat) (v2 : Nat) (v3 : Int32) (s0 : Int32) (s1 : Nat) (s2 : Int32) : Option (Int32 × bl_St) :=
  bl_bd (f_X10_mean σ s1 s0) fun r57 σ58 =>
  if s2 = r57 then (
  b_L_law_2362 xs L k18 σ58 v1 v2 v3) else (
  some (0, σ58))
def b_L_law_910 (xs : Nat → Int32) (L : Nat)  (k18 : bl_St → Nat → Nat → Int32 → Option (Int32 × bl_St)) (σ : bl_St) (v1 : Nat) (v2 : Nat) (v3 : Int32) (s0 : Int32) (s1 : Nat) : Option (Int32 × bl_St) :=
  bl_bd (f_X9_mean σ s1 s0) fun r61 σ62 =>
  bl_gd (bl_in (v3 + 1) L) (
  if (xs (Int32.toNatClampNeg (v3 + 1))) = 0 then (
  b_L_law_927 xs L k18 σ62 v1 v2 v3 0 v2 r61) else (
  b_L_law_927 xs L k18 σ62 v1 v2 v3 1 v2 r61))
def b_L_law_575 (xs : Nat → Int32) (L : Nat)  (k18 : bl_St → Nat → Nat → Int32 → Option (Int32 × bl_St)) (σ : bl_St) (v1 : Nat) (v2 : Nat) (v3 : Int32) (s0 : Int32) (s1 : Int32) (s2 : Nat) (s3 : Int32) : Option (Int32 × bl_St) :=
  bl_bd (f_X10_loss σ s2 s1 s0) fun r66 σ67 =>
  if s3 = r66 then (
  b_L_law_2362 xs L k18 σ67 v1 v2 v3) else (
  some (0, σ67))
def b_L_law_553 (xs : Nat → Int32) (L : Nat)  (k18 : bl_St → Nat → Nat → Int32 → Option (Int32 × bl_St)) (σ : bl_St) (v1 : Nat) (v2 : Nat) (v3 : Int32) (s0 : Int32) (s1 : Int32) (s2 : Nat) : Option (Int32 × bl_St) :=
  bl_bd (f_X9_loss σ s2 s1 s0) fun r70 σ71 =>
  bl_gd (bl_in (v3 + 1) L) (
  bl_gd (bl_in (v3 + 2) L) (
  if (xs (Int32.toNatClampNeg (v3 + 2))) = 0 then (
  b_L_law_575 xs L k18 σ71 v1 v2 v3 0 (xs (Int32.toNatClampNeg (v3 + 1))) v2 r70) else (
  b_L_law_575 xs L k18 σ71 v1 v2 v3 1 (xs (Int32.toNatClampNeg (v3 + 1))) v2 r70)))
def b_L_law_513 (xs : Nat → Int32) (L : Nat)  (k18 : bl_St → Nat → Nat → Int32 → Option (Int32 × bl_St)) (σ : bl_St) (v1 : Nat) (v2 : Nat) (v3 : Int32) (s0 : Int32) (s1 : Nat) (s2 : Int32) : Option (Int32 × bl_St) :=
  bl_bd (f_X10_begin σ s1 s0) fun r76 σ77 =>
  if s2 = r76 then (
  b_L_law_2362 xs L k18 σ77 v1 v2 v3) else (
  some (0, σ77))
def b_L_law_496 (xs : Nat → Int32) (L : Nat)  (k18 : bl_St → Nat → Nat → Int32 → Option (Int32 × bl_St)) (σ : bl_St) (v1 : Nat) (v2 : Nat) (v3 : Int32) (s0 : Int32) (s1 : Nat) : Option (Int32 × bl_St) :=
  bl_bd (f_X9_begin σ s1 s0) fun r80 σ81 =>
  bl_gd (bl_in (v3 + 1) L) (
  if (xs (Int32.toNatClampNeg (v3 + 1))) = 0 then (
  b_L_law_513 xs L k18 σ81 v1 v2 v3 0 v2 r80) else (
  b_L_law_513 xs L k18 σ81 v1 v2 v3 1 v2 r80))
def b_L_law_18 (xs : Nat → Int32) (L : Nat)  (k18 : bl_St → Nat → Nat → Int32 → Option (Int32 × bl_St)) (σ : bl_St) (v1 : Nat) (v2 : Nat) (v3 : Int32) : Option (Int32 × bl_St) :=
  if ((Int32.ofNat L) - 7) < v3 then (
  some (1, σ)) else (
  bl_gd (bl_in v3 L) (
  if ((xs (Int32.toNatClampNeg v3)) &&& 63) = 0 then (
  bl_gd (bl_in (v3 + 1) L) (
  bl_gd (bl_in (v3 + 2) L) (
  bl_gd (bl_in (v3 + 3) L) (
  bl_gd (bl_in (v3 + 4) L) (
  bl_gd (bl_in (v3 + 5) L) (
  bl_bd (f_X9_feed σ v1 (xs (Int32.toNatClampNeg (v3 + 1))) (xs (Int32.toNatClampNeg (v3 + 2))) (xs (Int32.toNatClampNeg (v3 + 3))) (xs (Int32.toNatClampNeg (v3 + 4))) (xs (Int32.toNatClampNeg (v3 + 5)))) fun r93 σ94 =>
  bl_gd (bl_in (v3 + 1) L) (
  bl_gd (bl_in (v3 + 2) L) (
  bl_gd (bl_in (v3 + 3) L) (
  bl_gd (bl_in (v3 + 4) L) (
  bl_gd (bl_in (v3 + 5) L) (
  bl_bd (f_X10_feed σ94 v2 (xs (Int32.toNatClampNeg (v3 + 1))) (xs (Int32.toNatClampNeg (v3 + 2))) (xs (Int32.toNatClampNeg (v3 + 3))) (xs (Int32.toNatClampNeg (v3 + 4))) (xs (Int32.toNatClampNeg (v3 + 5)))) fun r101 σ102 =>
  if r93 = r101 then (
  b_L_law_2362 xs L k18 σ102 v1 v2 v3) else (
  some (0, σ102))))))))))))) else if ((xs (Int32.toNatClampNeg v3)) &&& 63) = 1 then (
  bl_gd (bl_in (v3 + 1) L) (
  bl_bd (f_X9_back σ v1 (xs (Int32.toNatClampNeg (v3 + 1)))) fun r107 σ108 =>
  bl_gd (bl_in (v3 + 1) L) (
  bl_bd (f_X10_back σ108 v2 (xs (Int32.toNatClampNeg (v3 + 1)))) fun r111 σ112 =>
  if r107 = r111 then (
  b_L_law_2362 xs L k18 σ112 v1 v2 v3) else (
  some (0, σ112))))) else if ((xs (Int32.toNatClampNeg v3)) &&& 63) = 2 then (
  bl_bd (f_X9_text σ v1) fun r116 σ117 =>
  bl_bd (f_X10_text σ117 v2) fun r119 σ120 =>
  if r116 = r119 then (
  b_L_law_2362 xs L k18 σ120 v1 v2 v3) else (
  some (0, σ120))) else if ((xs (Int32.toNatClampNeg v3)) &&& 63) = 3 then (
  bl_gd (bl_in (v3 + 1) L) (
  bl_gd (bl_in (v3 + 2) L) (
  bl_gd (bl_in (v3 + 3) L) (
  bl_bd (f_X9_set σ v1 (xs (Int32.toNatClampNeg (v3 + 1))) (xs (Int32.toNatClampNeg (v3 + 2))) (xs (Int32.toNatClampNeg (v3 + 3)))) fun r127 σ128 =>
  bl_gd (bl_in (v3 + 1) L) (
  bl_gd (bl_in (v3 + 2) L) (
  bl_gd (bl_in (v3 + 3) L) (
  bl_bd (f_X10_set σ128 v2 (xs (Int32.toNatClampNeg (v3 + 1))) (xs (Int32.toNatClampNeg (v3 + 2))) (xs (Int32.toNatClampNeg (v3 + 3)))) fun r133 σ134 =>
  if r127 = r133 then (
  b_L_law_2362 xs L k18 σ134 v1 v2 v3) else (
  some (0, σ134))))))))) else if ((xs (Int32.toNatClampNeg v3)) &&& 63) = 4 then (
  bl_gd (bl_in (v3 + 1) L) (
  bl_gd (bl_in (v3 + 2) L) (
  bl_gd (bl_in (v3 + 3) L) (
  bl_bd (f_X9_sort σ v1 (xs (Int32.toNatClampNeg (v3 + 1))) (xs (Int32.toNatClampNeg (v3 + 2))) (xs (Int32.toNatClampNeg (v3 + 3)))) fun r141 σ142 =>
  bl_gd (bl_in (v3 + 1) L) (
  bl_gd (bl_in (v3 + 2) L) (
  bl_gd (bl_in (v3 + 3) L) (
  bl_bd (f_X10_sort σ142 v2 (xs (Int32.toNatClampNeg (v3 + 1))) (xs (Int32.toNatClampNeg (v3 + 2))) (xs (Int32.toNatClampNeg (v3 + 3)))) fun r147 σ148 =>
  if r141 = r147 then (
  b_L_law_2362 xs L k18 σ148 v1 v2 v3) else (
  some (0, σ148))))))))) else if ((xs (Int32.toNatClampNeg v3)) &&& 63) = 5 then (
  bl_gd (bl_in (v3 + 1) L) (
  bl_gd (bl_in (v3 + 2) L) (
  bl_bd (f_X9_rule σ v1 (xs (Int32.toNatClampNeg (v3 + 1))) (xs (Int32.toNatClampNeg (v3 + 2)))) fun r154 σ155 =>
  bl_gd (bl_in (v3 + 1) L) (
  bl_gd (bl_in (v3 + 2) L) (
  bl_bd (f_X10_rule σ155 v2 (xs (Int32.toNatClampNeg (v3 + 1))) (xs (Int32.toNatClampNeg (v3 + 2)))) fun r159 σ160 =>
  if r154 = r159 then (
  b_L_law_2362 xs L k18 σ160 v1 v2 v3) else (
  some (0, σ160))))))) else if ((xs (Int32.toNatClampNeg v3)) &&& 63) = 6 then (
  bl_gd (bl_in (v3 + 1) L) (
  if (xs (Int32.toNatClampNeg (v3 + 1))) = 0 then (
  b_L_law_496 xs L k18 σ v1 v2 v3 0 v1) else (
  b_L_law_496 xs L k18 σ v1 v2 v3 1 v1))) else if ((xs (Int32.toNatClampNeg v3)) &&& 63) = 7 then (
  bl_bd (f_X9_quiet σ v1) fun r167 σ168 =>
  bl_bd (f_X10_quiet σ168 v2) fun r170 σ171 =>
  if r167 = r170 then (
  b_L_law_2362 xs L k18 σ171 v1 v2 v3) else (
  some (0, σ171))) else if ((xs (Int32.toNatClampNeg v3)) &&& 63) = 8 then (
  bl_gd (bl_in (v3 + 1) L) (
  bl_gd (bl_in (v3 + 2) L) (
  if (xs (Int32.toNatClampNeg (v3 + 2))) = 0 then (
  b_L_law_553 xs L k18 σ v1 v2 v3 0 (xs (Int32.toNatClampNeg (v3 + 1))) v1) else (
  b_L_law_553 xs L k18 σ v1 v2 v3 1 (xs (Int32.toNatClampNeg (v3 + 1))) v1)))) else if ((xs (Int32.toNatClampNeg v3)) &&& 63) = 9 then (
  bl_gd (bl_in (v3 + 1) L) (
  bl_gd (bl_in (v3 + 2) L) (
  bl_gd (bl_in (v3 + 3) L) (
  bl_gd (bl_in (v3 + 4) L) (
  bl_bd (f_X9_live σ v1 (xs (Int32.toNatClampNeg (v3 + 1))) (xs (Int32.toNatClampNeg (v3 + 2))) (xs (Int32.toNatClampNeg (v3 + 3))) (xs (Int32.toNatClampNeg (v3 + 4)))) fun r183 σ184 =>
  bl_gd (bl_in (v3 + 1) L) (
  bl_gd (bl_in (v3 + 2) L) (
  bl_gd (bl_in (v3 + 3) L) (
  bl_gd (bl_in (v3 + 4) L) (
  bl_bd (f_X10_live σ184 v2 (xs (Int32.toNatClampNeg (v3 + 1))) (xs (Int32.toNatClampNeg (v3 + 2))) (xs (Int32.toNatClampNeg (v3 + 3))) (xs (Int32.toNatClampNeg (v3 + 4)))) fun r190 σ191 =>
  if r183 = r190 then (
  b_L_law_2362 xs L k18 σ191 v1 v2 v3) else (
  some (0, σ191))))))))))) else if ((xs (Int32.toNatClampNeg v3)) &&& 63) = 10 then (
  bl_gd (bl_in (v3 + 1) L) (
  bl_gd (bl_in (v3 + 2) L) (
  bl_bd (f_X9_come σ v1 (xs (Int32.toNatClampNeg (v3 + 1))) (xs (Int32.toNatClampNeg (v3 + 2)))) fun r197 σ198 =>
  bl_gd (bl_in (v3 + 1) L) (
  bl_gd (bl_in (v3 + 2) L) (
  bl_bd (f_X10_come σ198 v2 (xs (Int32.toNatClampNeg (v3 + 1))) (xs (Int32.toNatClampNeg (v3 + 2)))) fun r202 σ203 =>
  if r197 = r202 then (
  b_L_law_2362 xs L k18 σ203 v1 v2 v3) else (
  some (0, σ203))))))) else if ((xs (Int32.toNatClampNeg v3)) &&& 63) = 11 then (
  bl_gd (bl_in (v3 + 1) L) (
  bl_bd (f_X9_drop σ v1 (xs (Int32.toNatClampNeg (v3 + 1)))) fun r208 σ209 =>
  bl_gd (bl_in (v3 + 1) L) (
  bl_bd (f_X10_drop σ209 v2 (xs (Int32.toNatClampNeg (v3 + 1)))) fun r212 σ213 =>
  if r208 = r212 then (
  b_L_law_2362 xs L k18 σ213 v1 v2 v3) else (
  some (0, σ213))))) else if ((xs (Int32.toNatClampNeg v3)) &&& 63) = 12 then (
  bl_gd (bl_in (v3 + 1) L) (
  bl_bd (f_X9_move σ v1 (xs (Int32.toNatClampNeg (v3 + 1)))) fun r218 σ219 =>
  bl_gd (bl_in (v3 + 1) L) (
  bl_bd (f_X10_move σ219 v2 (xs (Int32.toNatClampNeg (v3 + 1)))) fun r222 σ223 =>
  if r218 = r222 then (
  b_L_law_2362 xs L k18 σ223 v1 v2 v3) else (
  some (0, σ223))))) else if ((xs (Int32.toNatClampNeg v3)) &&& 63) = 13 then (
  bl_bd (f_X9_anew σ v1) fun r227 σ228 =>
  bl_bd (f_X10_anew σ228 v2) fun r230 σ231 =>
  if r227 = r230 then (
  b_L_law_2362 xs L k18 σ231 v1 v2 v3) else (
  some (0, σ231))) else if ((xs (Int32.toNatClampNeg v3)) &&& 63) = 14 then (
  bl_bd (f_X9_undo σ v1) fun r235 σ236 =>
  bl_bd (f_X10_undo σ236 v2) fun r238 σ239 =>
  if r235 = r238 then (
  b_L_law_2362 xs L k18 σ239 v1 v2 v3) else (
  some (0, σ239))) else if ((xs (Int32.toNatClampNeg v3)) &&& 63) = 15 then (
  bl_gd (bl_in (v3 + 1) L) (
  bl_gd (bl_in (v3 + 2) L) (
  bl_bd (f_X9_of σ v1 (xs (Int32.toNatClampNeg (v3 + 1))) (xs (Int32.toNatClampNeg (v3 + 2)))) fun r245 σ246 =>
  bl_gd (bl_in (v3 + 1) L) (
  bl_gd (bl_in (v3 + 2) L) (
  bl_bd (f_X10_of σ246 v2 (xs (Int32.toNatClampNeg (v3 + 1))) (xs (Int32.toNatClampNeg (v3 + 2)))) fun r250 σ251 =>
  if r245 = r250 then (
  b_L_law_2362 xs L k18 σ251 v1 v2 v3) else (
  some (0, σ251))))))) else if ((xs (Int32.toNatClampNeg v3)) &&& 63) = 16 then (
  bl_gd (bl_in (v3 + 1) L) (
  bl_gd (bl_in (v3 + 2) L) (
  bl_bd (f_X9_ofSort σ v1 (xs (Int32.toNatClampNeg (v3 + 1))) (xs (Int32.toNatClampNeg (v3 + 2)))) fun r257 σ258 =>
  bl_gd (bl_in (v3 + 1) L) (
  bl_gd (bl_in (v3 + 2) L) (
  bl_bd (f_X10_ofSort σ258 v2 (xs (Int32.toNatClampNeg (v3 + 1))) (xs (Int32.toNatClampNeg (v3 + 2)))) fun r262 σ263 =>
  if r257 = r262 then (
  b_L_law_2362 xs L k18 σ263 v1 v2 v3) else (
  some (0, σ263))))))) else if ((xs (Int32.toNatClampNeg v3)) &&& 63) = 17 then (
  bl_gd (bl_in (v3 + 1) L) (
  bl_bd (f_X9_life σ v1 (xs (Int32.toNatClampNeg (v3 + 1)))) fun r268 σ269 =>
  bl_gd (bl_in (v3 + 1) L) (
  bl_bd (f_X10_life σ269 v2 (xs (Int32.toNatClampNeg (v3 + 1)))) fun r272 σ273 =>
  if r268 = r272 then (
  b_L_law_2362 xs L k18 σ273 v1 v2 v3) else (
  some (0, σ273))))) else if ((xs (Int32.toNatClampNeg v3)) &&& 63) = 18 then (
  bl_gd (bl_in (v3 + 1) L) (
  bl_gd (bl_in (v3 + 2) L) (
  bl_bd (f_X9_book σ v1 (xs (Int32.toNatClampNeg (v3 + 1))) (xs (Int32.toNatClampNeg (v3 + 2)))) fun r279 σ280 =>
  bl_gd (bl_in (v3 + 1) L) (
  bl_gd (bl_in (v3 + 2) L) (
  bl_bd (f_X10_book σ280 v2 (xs (Int32.toNatClampNeg (v3 + 1))) (xs (Int32.toNatClampNeg (v3 + 2)))) fun r284 σ285 =>
  if r279 = r284 then (
  b_L_law_2362 xs L k18 σ285 v1 v2 v3) else (
  some (0, σ285))))))) else if ((xs (Int32.toNatClampNeg v3)) &&& 63) = 19 then (
  bl_gd (bl_in (v3 + 1) L) (
  bl_gd (bl_in (v3 + 2) L) (
  bl_bd (f_X9_ledger σ v1 (xs (Int32.toNatClampNeg (v3 + 1))) (xs (Int32.toNatClampNeg (v3 + 2)))) fun r291 σ292 =>
  bl_gd (bl_in (v3 + 1) L) (
  bl_gd (bl_in (v3 + 2) L) (
  bl_bd (f_X10_ledger σ292 v2 (xs (Int32.toNatClampNeg (v3 + 1))) (xs (Int32.toNatClampNeg (v3 + 2)))) fun r296 σ297 =>
  if r291 = r296 then (
  b_L_law_2362 xs L k18 σ297 v1 v2 v3) else (
  some (0, σ297))))))) else if ((xs (Int32.toNatClampNeg v3)) &&& 63) = 20 then (
  bl_gd (bl_in (v3 + 1) L) (
  if (xs (Int32.toNatClampNeg (v3 + 1))) = 0 then (
  b_L_law_910 xs L k18 σ v1 v2 v3 0 v1) else (
  b_L_law_910 xs L k18 σ v1 v2 v3 1 v1))) else if ((xs (Int32.toNatClampNeg v3)) &&& 63) = 21 then (
  bl_gd (bl_in (v3 + 1) L) (
  bl_gd (bl_in (v3 + 2) L) (
  bl_bd (f_X9_cost σ v1 (xs (Int32.toNatClampNeg (v3 + 1))) (xs (Int32.toNatClampNeg (v3 + 2)))) fun r306 σ307 =>
  bl_gd (bl_in (v3 + 1) L) (
  bl_gd (bl_in (v3 + 2) L) (
  bl_bd (f_X10_cost σ307 v2 (xs (Int32.toNatClampNeg (v3 + 1))) (xs (Int32.toNatClampNeg (v3 + 2)))) fun r311 σ312 =>
  if r306 = r311 then (
  b_L_law_2362 xs L k18 σ312 v1 v2 v3) else (
  some (0, σ312))))))) else if ((xs (Int32.toNatClampNeg v3)) &&& 63) = 22 then (
  bl_gd (bl_in (v3 + 1) L) (
  bl_gd (bl_in (v3 + 2) L) (
  bl_bd (f_X9_guards σ v1 (xs (Int32.toNatClampNeg (v3 + 1))) (xs (Int32.toNatClampNeg (v3 + 2)))) fun r318 σ319 =>
  bl_gd (bl_in (v3 + 1) L) (
  bl_gd (bl_in (v3 + 2) L) (
  bl_bd (f_X10_guards σ319 v2 (xs (Int32.toNatClampNeg (v3 + 1))) (xs (Int32.toNatClampNeg (v3 + 2)))) fun r323 σ324 =>
  if r318 = r323 then (
  b_L_law_2362 xs L k18 σ324 v1 v2 v3) else (
  some (0, σ324))))))) else if ((xs (Int32.toNatClampNeg v3)) &&& 63) = 23 then (
  bl_gd (bl_in (v3 + 1) L) (
  bl_gd (bl_in (v3 + 2) L) (
  bl_gd (bl_in (v3 + 3) L) (
  bl_gd (bl_in (v3 + 4) L) (
  bl_gd (bl_in (v3 + 5) L) (
  if (xs (Int32.toNatClampNeg (v3 + 5))) = 0 then (
  b_L_law_1036 xs L k18 σ v1 v2 v3 0 (xs (Int32.toNatClampNeg (v3 + 4))) (xs (Int32.toNatClampNeg (v3 + 3))) (xs (Int32.toNatClampNeg (v3 + 2))) (xs (Int32.toNatClampNeg (v3 + 1))) v1) else (
  b_L_law_1036 xs L k18 σ v1 v2 v3 1 (xs (Int32.toNatClampNeg (v3 + 4))) (xs (Int32.toNatClampNeg (v3 + 3))) (xs (Int32.toNatClampNeg (v3 + 2))) (xs (Int32.toNatClampNeg (v3 + 1))) v1))))))) else if ((xs (Int32.toNatClampNeg v3)) &&& 63) = 24 then (
  bl_gd (bl_in (v3 + 1) L) (
  bl_gd (bl_in (v3 + 2) L) (
  bl_gd (bl_in (v3 + 3) L) (
  bl_gd (bl_in (v3 + 4) L) (
  bl_gd (bl_in (v3 + 5) L) (
  if (xs (Int32.toNatClampNeg (v3 + 5))) = 0 then (
  b_L_law_1116 xs L k18 σ v1 v2 v3 0 (xs (Int32.toNatClampNeg (v3 + 4))) (xs (Int32.toNatClampNeg (v3 + 3))) (xs (Int32.toNatClampNeg (v3 + 2))) (xs (Int32.toNatClampNeg (v3 + 1))) v1) else (
  b_L_law_1116 xs L k18 σ v1 v2 v3 1 (xs (Int32.toNatClampNeg (v3 + 4))) (xs (Int32.toNatClampNeg (v3 + 3))) (xs (Int32.toNatClampNeg (v3 + 2))) (xs (Int32.toNatClampNeg (v3 + 1))) v1))))))) else if ((xs (Int32.toNatClampNeg v3)) &&& 63) = 25 then (
  bl_gd (bl_in (v3 + 1) L) (
  bl_gd (bl_in (v3 + 2) L) (
  bl_gd (bl_in (v3 + 3) L) (
  bl_gd (bl_in (v3 + 4) L) (
  bl_gd (bl_in (v3 + 5) L) (
  if (xs (Int32.toNatClampNeg (v3 + 5))) = 0 then (
  b_L_law_1195 xs L k18 σ v1 v2 v3 0 (xs (Int32.toNatClampNeg (v3 + 4))) (xs (Int32.toNatClampNeg (v3 + 3))) (xs (Int32.toNatClampNeg (v3 + 2))) (xs (Int32.toNatClampNeg (v3 + 1))) v1) else (
  b_L_law_1195 xs L k18 σ v1 v2 v3 1 (xs (Int32.toNatClampNeg (v3 + 4))) (xs (Int32.toNatClampNeg (v3 + 3))) (xs (Int32.toNatClampNeg (v3 + 2))) (xs (Int32.toNatClampNeg (v3 + 1))) v1))))))) else if ((xs (Int32.toNatClampNeg v3)) &&& 63) = 26 then (
  bl_gd (bl_in (v3 + 1) L) (
  bl_gd (bl_in (v3 + 2) L) (
  bl_gd (bl_in (v3 + 3) L) (
  bl_gd (bl_in (v3 + 4) L) (
  bl_gd (bl_in (v3 + 5) L) (
  if (xs (Int32.toNatClampNeg (v3 + 5))) = 0 then (
  b_L_law_1274 xs L k18 σ v1 v2 v3 0 (xs (Int32.toNatClampNeg (v3 + 4))) (xs (Int32.toNatClampNeg (v3 + 3))) (xs (Int32.toNatClampNeg (v3 + 2))) (xs (Int32.toNatClampNeg (v3 + 1))) v1) else (
  b_L_law_1274 xs L k18 σ v1 v2 v3 1 (xs (Int32.toNatClampNeg (v3 + 4))) (xs (Int32.toNatClampNeg (v3 + 3))) (xs (Int32.toNatClampNeg (v3 + 2))) (xs (Int32.toNatClampNeg (v3 + 1))) v1))))))) else if ((xs (Int32.toNatClampNeg v3)) &&& 63) = 27 then (
  bl_gd (bl_in (v3 + 1) L) (
  bl_gd (bl_in (v3 + 2) L) (
  bl_bd (f_X9_patience σ v1 (xs (Int32.toNatClampNeg (v3 + 1))) (xs (Int32.toNatClampNeg (v3 + 2)))) fun r358 σ359 =>
  bl_gd (bl_in (v3 + 1) L) (
  bl_gd (bl_in (v3 + 2) L) (
  bl_bd (f_X10_patience σ359 v2 (xs (Int32.toNatClampNeg (v3 + 1))) (xs (Int32.toNatClampNeg (v3 + 2)))) fun r363 σ364 =>
  if r358 = r363 then (
  b_L_law_2362 xs L k18 σ364 v1 v2 v3) else (
  some (0, σ364))))))) else if ((xs (Int32.toNatClampNeg v3)) &&& 63) = 28 then (
  bl_gd (bl_in (v3 + 1) L) (
  bl_gd (bl_in (v3 + 2) L) (
  bl_bd (f_X9_worst σ v1 (xs (Int32.toNatClampNeg (v3 + 1))) (xs (Int32.toNatClampNeg (v3 + 2)))) fun r370 σ371 =>
  bl_gd (bl_in (v3 + 1) L) (
  bl_gd (bl_in (v3 + 2) L) (
  bl_bd (f_X10_worst σ371 v2 (xs (Int32.toNatClampNeg (v3 + 1))) (xs (Int32.toNatClampNeg (v3 + 2)))) fun r375 σ376 =>
  if r370 = r375 then (
  b_L_law_2362 xs L k18 σ376 v1 v2 v3) else (
  some (0, σ376))))))) else if ((xs (Int32.toNatClampNeg v3)) &&& 63) = 29 then (
  bl_gd (bl_in (v3 + 1) L) (
  bl_gd (bl_in (v3 + 2) L) (
  bl_bd (f_X9_bare σ v1 (xs (Int32.toNatClampNeg (v3 + 1))) (xs (Int32.toNatClampNeg (v3 + 2)))) fun r382 σ383 =>
  bl_gd (bl_in (v3 + 1) L) (
  bl_gd (bl_in (v3 + 2) L) (
  bl_bd (f_X10_bare σ383 v2 (xs (Int32.toNatClampNeg (v3 + 1))) (xs (Int32.toNatClampNeg (v3 + 2)))) fun r387 σ388 =>
  if r382 = r387 then (
  b_L_law_2362 xs L k18 σ388 v1 v2 v3) else (
  some (0, σ388))))))) else if ((xs (Int32.toNatClampNeg v3)) &&& 63) = 30 then (
  bl_gd (bl_in (v3 + 1) L) (
  bl_gd (bl_in (v3 + 2) L) (
  bl_gd (bl_in (v3 + 3) L) (
  bl_gd (bl_in (v3 + 4) L) (
  bl_bd (f_X9_by σ v1 (xs (Int32.toNatClampNeg (v3 + 1))) (xs (Int32.toNatClampNeg (v3 + 2))) (xs (Int32.toNatClampNeg (v3 + 3))) (xs (Int32.toNatClampNeg (v3 + 4)))) fun r396 σ397 =>
  bl_gd (bl_in (v3 + 1) L) (
  bl_gd (bl_in (v3 + 2) L) (
  bl_gd (bl_in (v3 + 3) L) (
  bl_gd (bl_in (v3 + 4) L) (
  bl_bd (f_X10_by σ397 v2 (xs (Int32.toNatClampNeg (v3 + 1))) (xs (Int32.toNatClampNeg (v3 + 2))) (xs (Int32.toNatClampNeg (v3 + 3))) (xs (Int32.toNatClampNeg (v3 + 4)))) fun r403 σ404 =>
  if r396 = r403 then (
  b_L_law_2362 xs L k18 σ404 v1 v2 v3) else (
  some (0, σ404))))))))))) else if ((xs (Int32.toNatClampNeg v3)) &&& 63) = 31 then (
  bl_gd (bl_in (v3 + 1) L) (
  bl_gd (bl_in (v3 + 2) L) (
  bl_bd (f_X9_bestLimit σ v1 (xs (Int32.toNatClampNeg (v3 + 1))) (xs (Int32.toNatClampNeg (v3 + 2)))) fun r410 σ411 =>
  bl_gd (bl_in (v3 + 1) L) (
  bl_gd (bl_in (v3 + 2) L) (
  bl_bd (f_X10_bestLimit σ411 v2 (xs (Int32.toNatClampNeg (v3 + 1))) (xs (Int32.toNatClampNeg (v3 + 2)))) fun r415 σ416 =>
  if r410 = r415 then (
  b_L_law_2362 xs L k18 σ416 v1 v2 v3) else (
  some (0, σ416))))))) else if ((xs (Int32.toNatClampNeg v3)) &&& 63) = 32 then (
  bl_gd (bl_in (v3 + 1) L) (
  bl_gd (bl_in (v3 + 2) L) (
  bl_gd (bl_in (v3 + 3) L) (
  bl_bd (f_X9_worth σ v1 (xs (Int32.toNatClampNeg (v3 + 1))) (xs (Int32.toNatClampNeg (v3 + 2))) (xs (Int32.toNatClampNeg (v3 + 3)))) fun r423 σ424 =>
  bl_gd (bl_in (v3 + 1) L) (
  bl_gd (bl_in (v3 + 2) L) (
  bl_gd (bl_in (v3 + 3) L) (
  bl_bd (f_X10_worth σ424 v2 (xs (Int32.toNatClampNeg (v3 + 1))) (xs (Int32.toNatClampNeg (v3 + 2))) (xs (Int32.toNatClampNeg (v3 + 3)))) fun r429 σ430 =>
  if r423 = r429 then (
  b_L_law_2362 xs L k18 σ430 v1 v2 v3) else (
  some (0, σ430))))))))) else if ((xs (Int32.toNatClampNeg v3)) &&& 63) = 33 then (
  bl_gd (bl_in (v3 + 1) L) (
  bl_bd (f_X9_cheapest σ v1 (xs (Int32.toNatClampNeg (v3 + 1)))) fun r435 σ436 =>
  bl_gd (bl_in (v3 + 1) L) (
  bl_bd (f_X10_cheapest σ436 v2 (xs (Int32.toNatClampNeg (v3 + 1)))) fun r439 σ440 =>
  if r435 = r439 then (
  b_L_law_2362 xs L k18 σ440 v1 v2 v3) else (
  some (0, σ440))))) else if ((xs (Int32.toNatClampNeg v3)) &&& 63) = 34 then (
  bl_gd (bl_in (v3 + 1) L) (
  bl_bd (f_X9_reach σ v1 (xs (Int32.toNatClampNeg (v3 + 1)))) fun r445 σ446 =>
  bl_gd (bl_in (v3 + 1) L) (
  bl_bd (f_X10_reach σ446 v2 (xs (Int32.toNatClampNeg (v3 + 1)))) fun r449 σ450 =>
  if r445 = r449 then (
  b_L_law_2362 xs L k18 σ450 v1 v2 v3) else (
  some (0, σ450))))) else if ((xs (Int32.toNatClampNeg v3)) &&& 63) = 35 then (
  bl_gd (bl_in (v3 + 1) L) (
  bl_gd (bl_in (v3 + 2) L) (
  bl_bd (f_X9_years σ v1 (xs (Int32.toNatClampNeg (v3 + 1))) (xs (Int32.toNatClampNeg (v3 + 2)))) fun r456 σ457 =>
  bl_gd (bl_in (v3 + 1) L) (
  bl_gd (bl_in (v3 + 2) L) (
  bl_bd (f_X10_years σ457 v2 (xs (Int32.toNatClampNeg (v3 + 1))) (xs (Int32.toNatClampNeg (v3 + 2)))) fun r461 σ462 =>
  if r456 = r461 then (
  b_L_law_2362 xs L k18 σ462 v1 v2 v3) else (
  some (0, σ462))))))) else if ((xs (Int32.toNatClampNeg v3)) &&& 63) = 36 then (
  bl_gd (bl_in (v3 + 1) L) (
  bl_bd (f_X9_ways σ v1 (xs (Int32.toNatClampNeg (v3 + 1)))) fun r467 σ468 =>
  bl_gd (bl_in (v3 + 1) L) (
  bl_bd (f_X10_ways σ468 v2 (xs (Int32.toNatClampNeg (v3 + 1)))) fun r471 σ472 =>
  if r467 = r471 then (
  b_L_law_2362 xs L k18 σ472 v1 v2 v3) else (
  some (0, σ472))))) else if ((xs (Int32.toNatClampNeg v3)) &&& 63) = 37 then (
  bl_gd (bl_in (v3 + 1) L) (
  bl_gd (bl_in (v3 + 2) L) (
  bl_bd (f_X9_moves σ v1 (xs (Int32.toNatClampNeg (v3 + 1))) (xs (Int32.toNatClampNeg (v3 + 2)))) fun r478 σ479 =>
  bl_gd (bl_in (v3 + 1) L) (
  bl_gd (bl_in (v3 + 2) L) (
  bl_bd (f_X10_moves σ479 v2 (xs (Int32.toNatClampNeg (v3 + 1))) (xs (Int32.toNatClampNeg (v3 + 2)))) fun r483 σ484 =>
  if r478 = r483 then (
  b_L_law_2362 xs L k18 σ484 v1 v2 v3) else (
  some (0, σ484))))))) else if ((xs (Int32.toNatClampNeg v3)) &&& 63) = 38 then (
  bl_gd (bl_in (v3 + 1) L) (
  bl_gd (bl_in (v3 + 2) L) (
  bl_gd (bl_in (v3 + 3) L) (
  bl_bd (f_X9_spread σ v1 (xs (Int32.toNatClampNeg (v3 + 1))) (xs (Int32.toNatClampNeg (v3 + 2))) (xs (Int32.toNatClampNeg (v3 + 3)))) fun r491 σ492 =>
  bl_gd (bl_in (v3 + 1) L) (
  bl_gd (bl_in (v3 + 2) L) (
  bl_gd (bl_in (v3 + 3) L) (
  bl_bd (f_X10_spread σ492 v2 (xs (Int32.toNatClampNeg (v3 + 1))) (xs (Int32.toNatClampNeg (v3 + 2))) (xs (Int32.toNatClampNeg (v3 + 3)))) fun r497 σ498 =>
  if r491 = r497 then (
  b_L_law_2362 xs L k18 σ498 v1 v2 v3) else (
  some (0, σ498))))))))) else if ((xs (Int32.toNatClampNeg v3)) &&& 63) = 39 then (
  bl_gd (bl_in (v3 + 1) L) (
  bl_gd (bl_in (v3 + 2) L) (
  bl_gd (bl_in (v3 + 3) L) (
  bl_bd (f_X9_shared σ v1 (xs (Int32.toNatClampNeg (v3 + 1))) (xs (Int32.toNatClampNeg (v3 + 2))) (xs (Int32.toNatClampNeg (v3 + 3)))) fun r505 σ506 =>
  bl_gd (bl_in (v3 + 1) L) (
  bl_gd (bl_in (v3 + 2) L) (
  bl_gd (bl_in (v3 + 3) L) (
  bl_bd (f_X10_shared σ506 v2 (xs (Int32.toNatClampNeg (v3 + 1))) (xs (Int32.toNatClampNeg (v3 + 2))) (xs (Int32.toNatClampNeg (v3 + 3)))) fun r511 σ512 =>
  if r505 = r511 then (
  b_L_law_2362 xs L k18 σ512 v1 v2 v3) else (
  some (0, σ512))))))))) else if ((xs (Int32.toNatClampNeg v3)) &&& 63) = 40 then (
  bl_gd (bl_in (v3 + 1) L) (
  bl_gd (bl_in (v3 + 2) L) (
  bl_gd (bl_in (v3 + 3) L) (
  bl_gd (bl_in (v3 + 4) L) (
  bl_bd (f_X9_joined σ v1 (xs (Int32.toNatClampNeg (v3 + 1))) (xs (Int32.toNatClampNeg (v3 + 2))) (xs (Int32.toNatClampNeg (v3 + 3))) (xs (Int32.toNatClampNeg (v3 + 4)))) fun r520 σ521 =>
  bl_gd (bl_in (v3 + 1) L) (
  bl_gd (bl_in (v3 + 2) L) (
  bl_gd (bl_in (v3 + 3) L) (
  bl_gd (bl_in (v3 + 4) L) (
  bl_bd (f_X10_joined σ521 v2 (xs (Int32.toNatClampNeg (v3 + 1))) (xs (Int32.toNatClampNeg (v3 + 2))) (xs (Int32.toNatClampNeg (v3 + 3))) (xs (Int32.toNatClampNeg (v3 + 4)))) fun r527 σ528 =>
  if r520 = r527 then (
  b_L_law_2362 xs L k18 σ528 v1 v2 v3) else (
  some (0, σ528))))))))))) else if ((xs (Int32.toNatClampNeg v3)) &&& 63) = 41 then (
  bl_gd (bl_in (v3 + 1) L) (
  bl_gd (bl_in (v3 + 2) L) (
  bl_gd (bl_in (v3 + 3) L) (
  bl_bd (f_X9_rebate σ v1 (xs (Int32.toNatClampNeg (v3 + 1))) (xs (Int32.toNatClampNeg (v3 + 2))) (xs (Int32.toNatClampNeg (v3 + 3)))) fun r535 σ536 =>
  bl_gd (bl_in (v3 + 1) L) (
  bl_gd (bl_in (v3 + 2) L) (
  bl_gd (bl_in (v3 + 3) L) (
  bl_bd (f_X10_rebate σ536 v2 (xs (Int32.toNatClampNeg (v3 + 1))) (xs (Int32.toNatClampNeg (v3 + 2))) (xs (Int32.toNatClampNeg (v3 + 3)))) fun r541 σ542 =>
  if r535 = r541 then (
  b_L_law_2362 xs L k18 σ542 v1 v2 v3) else (
  some (0, σ542))))))))) else if ((xs (Int32.toNatClampNeg v3)) &&& 63) = 42 then (
  bl_gd (bl_in (v3 + 1) L) (
  bl_gd (bl_in (v3 + 2) L) (
  bl_bd (f_X9_advice σ v1 (xs (Int32.toNatClampNeg (v3 + 1))) (xs (Int32.toNatClampNeg (v3 + 2)))) fun r548 σ549 =>
  bl_gd (bl_in (v3 + 1) L) (
  bl_gd (bl_in (v3 + 2) L) (
  bl_bd (f_X10_advice σ549 v2 (xs (Int32.toNatClampNeg (v3 + 1))) (xs (Int32.toNatClampNeg (v3 + 2)))) fun r553 σ554 =>
  if r548 = r553 then (
  b_L_law_2362 xs L k18 σ554 v1 v2 v3) else (
  some (0, σ554))))))) else if ((xs (Int32.toNatClampNeg v3)) &&& 63) = 43 then (
  bl_gd (bl_in (v3 + 1) L) (
  bl_bd (f_X9_rest σ v1 (xs (Int32.toNatClampNeg (v3 + 1)))) fun r559 σ560 =>
  bl_gd (bl_in (v3 + 1) L) (
  bl_bd (f_X10_rest σ560 v2 (xs (Int32.toNatClampNeg (v3 + 1)))) fun r563 σ564 =>
  if r559 = r563 then (
  b_L_law_2362 xs L k18 σ564 v1 v2 v3) else (
  some (0, σ564))))) else if ((xs (Int32.toNatClampNeg v3)) &&& 63) = 44 then (
  bl_gd (bl_in (v3 + 1) L) (
  bl_gd (bl_in (v3 + 2) L) (
  bl_gd (bl_in (v3 + 3) L) (
  bl_gd (bl_in (v3 + 4) L) (
  bl_bd (f_X9_were σ v1 (xs (Int32.toNatClampNeg (v3 + 1))) (xs (Int32.toNatClampNeg (v3 + 2))) (xs (Int32.toNatClampNeg (v3 + 3))) (xs (Int32.toNatClampNeg (v3 + 4)))) fun r572 σ573 =>
  bl_gd (bl_in (v3 + 1) L) (
  bl_gd (bl_in (v3 + 2) L) (
  bl_gd (bl_in (v3 + 3) L) (
  bl_gd (bl_in (v3 + 4) L) (
  bl_bd (f_X10_were σ573 v2 (xs (Int32.toNatClampNeg (v3 + 1))) (xs (Int32.toNatClampNeg (v3 + 2))) (xs (Int32.toNatClampNeg (v3 + 3))) (xs (Int32.toNatClampNeg (v3 + 4)))) fun r579 σ580 =>
  if r572 = r579 then (
  b_L_law_2362 xs L k18 σ580 v1 v2 v3) else (
  some (0, σ580))))))))))) else if ((xs (Int32.toNatClampNeg v3)) &&& 63) = 45 then (
  bl_gd (bl_in (v3 + 1) L) (
  bl_gd (bl_in (v3 + 2) L) (
  bl_gd (bl_in (v3 + 3) L) (
  bl_bd (f_X9_lacking σ v1 (xs (Int32.toNatClampNeg (v3 + 1))) (xs (Int32.toNatClampNeg (v3 + 2))) (xs (Int32.toNatClampNeg (v3 + 3)))) fun r587 σ588 =>
  bl_gd (bl_in (v3 + 1) L) (
  bl_gd (bl_in (v3 + 2) L) (
  bl_gd (bl_in (v3 + 3) L) (
  bl_bd (f_X10_lacking σ588 v2 (xs (Int32.toNatClampNeg (v3 + 1))) (xs (Int32.toNatClampNeg (v3 + 2))) (xs (Int32.toNatClampNeg (v3 + 3)))) fun r593 σ594 =>
  if r587 = r593 then (
  b_L_law_2362 xs L k18 σ594 v1 v2 v3) else (
  some (0, σ594))))))))) else if ((xs (Int32.toNatClampNeg v3)) &&& 63) = 46 then (
  bl_gd (bl_in (v3 + 1) L) (
  bl_gd (bl_in (v3 + 2) L) (
  bl_gd (bl_in (v3 + 3) L) (
  bl_gd (bl_in (v3 + 4) L) (
  bl_bd (f_X9_oddsFor σ v1 (((Int32.toInt64 (xs (Int32.toNatClampNeg (v3 + 1)))) <<< ((Int32.toInt64 32) &&& 63)) ||| ((Int32.toInt64 (xs (Int32.toNatClampNeg (v3 + 2)))) &&& 4294967295)) (xs (Int32.toNatClampNeg (v3 + 3))) (xs (Int32.toNatClampNeg (v3 + 4)))) fun r602 σ603 =>
  bl_gd (bl_in (v3 + 1) L) (
  bl_gd (bl_in (v3 + 2) L) (
  bl_gd (bl_in (v3 + 3) L) (
  bl_gd (bl_in (v3 + 4) L) (
  bl_bd (f_X10_oddsFor σ603 v2 (((Int32.toInt64 (xs (Int32.toNatClampNeg (v3 + 1)))) <<< ((Int32.toInt64 32) &&& 63)) ||| ((Int32.toInt64 (xs (Int32.toNatClampNeg (v3 + 2)))) &&& 4294967295)) (xs (Int32.toNatClampNeg (v3 + 3))) (xs (Int32.toNatClampNeg (v3 + 4)))) fun r609 σ610 =>
  if r602 = r609 then (
  b_L_law_2362 xs L k18 σ610 v1 v2 v3) else (
  some (0, σ610))))))))))) else if ((xs (Int32.toNatClampNeg v3)) &&& 63) = 47 then (
  bl_gd (bl_in (v3 + 1) L) (
  bl_gd (bl_in (v3 + 2) L) (
  bl_gd (bl_in (v3 + 3) L) (
  bl_bd (f_X9_bestOwn σ v1 (xs (Int32.toNatClampNeg (v3 + 1))) (xs (Int32.toNatClampNeg (v3 + 2))) (xs (Int32.toNatClampNeg (v3 + 3)))) fun r617 σ618 =>
  bl_gd (bl_in (v3 + 1) L) (
  bl_gd (bl_in (v3 + 2) L) (
  bl_gd (bl_in (v3 + 3) L) (
  bl_bd (f_X10_bestOwn σ618 v2 (xs (Int32.toNatClampNeg (v3 + 1))) (xs (Int32.toNatClampNeg (v3 + 2))) (xs (Int32.toNatClampNeg (v3 + 3)))) fun r623 σ624 =>
  if r617 = r623 then (
  b_L_law_2362 xs L k18 σ624 v1 v2 v3) else (
  some (0, σ624))))))))) else if ((xs (Int32.toNatClampNeg v3)) &&& 63) = 48 then (
  bl_gd (bl_in (v3 + 1) L) (
  bl_gd (bl_in (v3 + 2) L) (
  bl_gd (bl_in (v3 + 3) L) (
  bl_gd (bl_in (v3 + 4) L) (
  bl_gd (bl_in (v3 + 5) L) (
  bl_bd (f_X9_would σ v1 (xs (Int32.toNatClampNeg (v3 + 1))) (xs (Int32.toNatClampNeg (v3 + 2))) (xs (Int32.toNatClampNeg (v3 + 3))) (xs (Int32.toNatClampNeg (v3 + 4))) (xs (Int32.toNatClampNeg (v3 + 5)))) fun r633 σ634 =>
  bl_gd (bl_in (v3 + 1) L) (
  bl_gd (bl_in (v3 + 2) L) (
  bl_gd (bl_in (v3 + 3) L) (
  bl_gd (bl_in (v3 + 4) L) (
  bl_gd (bl_in (v3 + 5) L) (
  bl_bd (f_X10_would σ634 v2 (xs (Int32.toNatClampNeg (v3 + 1))) (xs (Int32.toNatClampNeg (v3 + 2))) (xs (Int32.toNatClampNeg (v3 + 3))) (xs (Int32.toNatClampNeg (v3 + 4))) (xs (Int32.toNatClampNeg (v3 + 5)))) fun r641 σ642 =>
  if r633 = r641 then (
  b_L_law_2362 xs L k18 σ642 v1 v2 v3) else (
  some (0, σ642))))))))))))) else if ((xs (Int32.toNatClampNeg v3)) &&& 63) = 49 then (
  bl_gd (bl_in (v3 + 1) L) (
  bl_gd (bl_in (v3 + 2) L) (
  bl_bd (f_X9_bestRule σ v1 (xs (Int32.toNatClampNeg (v3 + 1))) (xs (Int32.toNatClampNeg (v3 + 2)))) fun r648 σ649 =>
  bl_gd (bl_in (v3 + 1) L) (
  bl_gd (bl_in (v3 + 2) L) (
  bl_bd (f_X10_bestRule σ649 v2 (xs (Int32.toNatClampNeg (v3 + 1))) (xs (Int32.toNatClampNeg (v3 + 2)))) fun r653 σ654 =>
  if r648 = r653 then (
  b_L_law_2362 xs L k18 σ654 v1 v2 v3) else (
  some (0, σ654))))))) else if ((xs (Int32.toNatClampNeg v3)) &&& 63) = 50 then (
  bl_gd (bl_in (v3 + 1) L) (
  bl_gd (bl_in (v3 + 2) L) (
  bl_bd (f_X9_dearest σ v1 (xs (Int32.toNatClampNeg (v3 + 1))) (xs (Int32.toNatClampNeg (v3 + 2)))) fun r660 σ661 =>
  bl_gd (bl_in (v3 + 1) L) (
  bl_gd (bl_in (v3 + 2) L) (
  bl_bd (f_X10_dearest σ661 v2 (xs (Int32.toNatClampNeg (v3 + 1))) (xs (Int32.toNatClampNeg (v3 + 2)))) fun r665 σ666 =>
  if r660 = r665 then (
  b_L_law_2362 xs L k18 σ666 v1 v2 v3) else (
  some (0, σ666))))))) else if ((xs (Int32.toNatClampNeg v3)) &&& 63) = 51 then (
  bl_gd (bl_in (v3 + 1) L) (
  bl_bd (f_X9_spell σ v1 (xs (Int32.toNatClampNeg (v3 + 1)))) fun r671 σ672 =>
  bl_gd (bl_in (v3 + 1) L) (
  bl_bd (f_X10_spell σ672 v2 (xs (Int32.toNatClampNeg (v3 + 1)))) fun r675 σ676 =>
  if r671 = r675 then (
  b_L_law_2362 xs L k18 σ676 v1 v2 v3) else (
  some (0, σ676))))) else if ((xs (Int32.toNatClampNeg v3)) &&& 63) = 52 then (
  bl_gd (bl_in (v3 + 1) L) (
  bl_gd (bl_in (v3 + 2) L) (
  bl_bd (f_X9_report σ v1 (xs (Int32.toNatClampNeg (v3 + 1))) (xs (Int32.toNatClampNeg (v3 + 2)))) fun r682 σ683 =>
  bl_gd (bl_in (v3 + 1) L) (
  bl_gd (bl_in (v3 + 2) L) (
  bl_bd (f_X10_report σ683 v2 (xs (Int32.toNatClampNeg (v3 + 1))) (xs (Int32.toNatClampNeg (v3 + 2)))) fun r687 σ688 =>
  if r682 = r687 then (
  b_L_law_2362 xs L k18 σ688 v1 v2 v3) else (
  some (0, σ688))))))) else if ((xs (Int32.toNatClampNeg v3)) &&& 63) = 53 then (
  bl_gd (bl_in (v3 + 1) L) (
  bl_bd (f_X9_count σ v1 (xs (Int32.toNatClampNeg (v3 + 1)))) fun r693 σ694 =>
  bl_gd (bl_in (v3 + 1) L) (
  bl_bd (f_X10_count σ694 v2 (xs (Int32.toNatClampNeg (v3 + 1)))) fun r697 σ698 =>
  if r693 = r697 then (
  b_L_law_2362 xs L k18 σ698 v1 v2 v3) else (
  some (0, σ698))))) else (
  b_L_law_2362 xs L k18 σ v1 v2 v3)))
set_option maxHeartbeats 40000000 in
set_option maxRecDepth 100000 in
theorem w_L_law_2362 {p : Program} {l : Launch} {e : Env} {s : State} {m : MethodId} {below : List Frame} {meth : Method} {c : Code} {g : bl_Gp} {b L : Nat} {xs : Nat → Int32} {out : Int32 × bl_St} (ho : out.1 = 1) (hX : va_X b L xs s s.heap) (hbl : b < s.heap.size) (hbA : ¬ bl_A g b) (hg : bl_b g = s.heap.size) (X : bl_Cx g p s m #[Value.ref b] meth c code 4 RL) (hr : meth.sig.returnType = ret) (k18 : bl_St → Nat → Nat → Int32 → Option (Int32 × bl_St)) (hk18 : ∀ (σ : bl_St) (v1 : Nat) (v2 : Nat) (v3 : Int32), bl_sh[v1]? = some (9, 13) → bl_sh[v2]? = some (10, 28) → k18 σ v1 v2 v3 = some out → ∀ (H : Heap) (locs : List Loc) (ls : Array Slot), bl_V g s σ H locs → lv_has ls 4 [(0, .ref b), (1, .ref (bl_ad g v1)), (2, .ref (bl_ad g v2)), (3, .int v3)] → W p l e room_1 s m #[Value.ref b] below meth c H locs 154 9053 (lw_Z below #[Value.ref b] s) (F0 m 18 ls [])) : ∀ (σ : bl_St) (v1 : Nat) (v2 : Nat) (v3 : Int32), bl_sh[v1]? = some (9, 13) → bl_sh[v2]? = some (10, 28) → (b_L_law_2362 xs L k18) σ v1 v2 v3 = some out → ∀ (H : Heap) (locs : List Loc) (ls : Array Slot), bl_V g s σ H locs → lv_has ls 4 [(0, .ref b), (1, .ref (bl_ad g v1)), (2, .ref (bl_ad g v2)), (3, .int v3)] → W p l e room_1 s m #[Value.ref b] below meth c H locs 154 9053 (lw_Z below #[Value.ref b] s) (F0 m 2362 ls []) := by
  intro σ v1 v2 v3 hv1 hv2 hf H locs ls V hl
  unfold b_L_law_2362 at hf
  obtain ⟨x1, e2⟩ : ∃ z : Int32, z = v3 + 7 := ⟨_, rfl⟩
  have hf := bl_let_at e2 hf
  refine lv_iinc (v := x1) (lv' := [(3, .int x1), (0, .ref b), (1, .ref (bl_ad g v1)), (2, .ref (bl_ad g v2))]) X.1 X.2.1 dL_law_2362 hl (k := 3) rfl (by rw [e2]; rfl) (by decide) rfl (fun ls hl => ?_)
  refine lv_goto (tgt := 18) X.1 X.2.1 dL_law_2365 (by decide) ?_
  exact hk18 σ v1 v2 x1 hv1 hv2 hf _ _ _ V (lv_sub hl [1, 2, 3, 0] rfl)
set_option maxHeartbeats 40000000 in
set_option maxRecDepth 100000 in
theorem w_L_law_1317 {p : Program} {l : Launch} {e : Env} {s : State} {m : MethodId} {below : List Frame} {meth : Method} {c : Code} {g : bl_Gp} {b L : Nat} {xs : Nat → Int32} {out : Int32 × bl_St} (ho : out.1 = 1) (hX : va_X b L xs s s.heap) (hbl : b < s.heap.size) (hbA : ¬ bl_A g b) (hg : bl_b g = s.heap.size) (X : bl_Cx g p s m #[Value.ref b] meth c code 4 RL) (hr : meth.sig.returnType = ret) (k18 : bl_St → Nat → Nat → Int32 → Option (Int32 × bl_St)) (hk18 : ∀ (σ : bl_St) (v1 : Nat) (v2 : Nat) (v3 : Int32), bl_sh[v1]? = some (9, 13) → bl_sh[v2]? = some (10, 28) → k18 σ v1 v2 v3 = some out → ∀ (H : Heap) (locs : List Loc) (ls : Array Slot), bl_V g s σ H locs → lv_has ls 4 [(0, .ref b), (1, .ref (bl_ad g v1)), (2, .ref (bl_ad g v2)), (3, .int v3)] → W p l e room_1 s m #[Value.ref b] below meth c H locs 154 9053 (lw_Z below #[Value.ref b] s) (F0 m 18 ls [])) : ∀ (σ : bl_St) (v1 : Nat) (v2 : Nat) (v3 : Int32) (s0 : Int32) (s1 : Int32) (s2 : Int32) (s3 : Int32) (s4 : Int32) (s5 : Nat) (s6 : Int64), bl_sh[v1]? = some (9, 13) → bl_sh[v2]? = some (10, 28) → bl_sh[s5]? = some (10, 28) → (b_L_law_1317 xs L k18) σ v1 v2 v3 s0 s1 s2 s3 s4 s5 s6 = some out → ∀ (H : Heap) (locs : List Loc) (ls : Array Slot), bl_V g s σ H locs → lv_has ls 4 [(0, .ref b), (1, .ref (bl_ad g v1)), (2, .ref (bl_ad g v2)), (3, .int v3)] → W p l e room_1 s m #[Value.ref b] below meth c H locs 154 9053 (lw_Z below #[Value.ref b] s) (F0 m 1317 ls [.int s0, .int s1, .int s2, .int s3, .int s4, .ref (bl_ad g s5), .long s6]) := by
  intro σ v1 v2 v3 s0 s1 s2 s3 s4 s5 s6 hv1 hv2 hs5 hf H locs ls V hl
  unfold b_L_law_1317 at hf
  refine lv_aload_n X.1 X.2.1 dL_law_1317 rfl (lv_at hl 0 rfl) ?_
  refine lv_iload_n X.1 X.2.1 dL_law_1318 rfl (lv_at hl 3 rfl) ?_
  refine lv_bipush (v := 6) X.1 X.2.1 dL_law_1319 (by decide) ?_
  refine lv_iadd X.1 X.2.1 dL_law_1321 ?_
  obtain ⟨h3, hf⟩ := bl_gd_at hf
  refine va_sld X.1 X.2.1 hX hbl hbA V.2 (bl_in_vp h3) dL_law_1322 ?_
  obtain ⟨r4, σ5, h6, hf⟩ := bl_bd_at hf
  refine bl_cVl (As := [.int s4, .int s3, .int s2, .int s1, .int s0, .int (xs (Int32.toNatClampNeg (v3 + 6)))]) X V hl.1 hs5 rfl ml_L_132 mV_X10_gain (t_X10_gain l g σ s5 s4 s3 s2 s1 s0 (xs (Int32.toNatClampNeg (v3 + 6))) _ hs5 h6) rfl rfl ⟨Nat.le_of_ble_eq_true rfl, Nat.le_of_ble_eq_true rfl⟩ rfl rfl (Nat.le_of_ble_eq_true rfl) ⟨Nat.le_of_ble_eq_true rfl, Nat.le_of_ble_eq_true rfl⟩ dL_law_1323 (fun H locs V => ?_)
  refine bl_lc_eq (tgt := 2362) X dL_law_1326 dL_law_1327 (by decide) (fun c7 => ?_) (fun c7 => ?_)
  · have hf := bl_ifp c7 hf
    exact w_L_law_2362 ho hX hbl hbA hg X hr k18 hk18 σ5 v1 v2 v3 hv1 hv2 hf _ _ _ V (lv_sub hl [0, 1, 2, 3] rfl)
  · have hf := bl_ifn c7 hf
    refine lv_iconst (v := 0) X.1 X.2.1 dL_law_1330 (by decide) ?_
    cases hf
    exact absurd (show (0 : Int32) = 1 from ho) (by decide)
set_option maxHeartbeats 40000000 in
set_option maxRecDepth 100000 in
theorem w_L_law_1274 {p : Program} {l : Launch} {e : Env} {s : State} {m : MethodId} {below : List Frame} {meth : Method} {c : Code} {g : bl_Gp} {b L : Nat} {xs : Nat → Int32} {out : Int32 × bl_St} (ho : out.1 = 1) (hX : va_X b L xs s s.heap) (hbl : b < s.heap.size) (hbA : ¬ bl_A g b) (hg : bl_b g = s.heap.size) (X : bl_Cx g p s m #[Value.ref b] meth c code 4 RL) (hr : meth.sig.returnType = ret) (k18 : bl_St → Nat → Nat → Int32 → Option (Int32 × bl_St)) (hk18 : ∀ (σ : bl_St) (v1 : Nat) (v2 : Nat) (v3 : Int32), bl_sh[v1]? = some (9, 13) → bl_sh[v2]? = some (10, 28) → k18 σ v1 v2 v3 = some out → ∀ (H : Heap) (locs : List Loc) (ls : Array Slot), bl_V g s σ H locs → lv_has ls 4 [(0, .ref b), (1, .ref (bl_ad g v1)), (2, .ref (bl_ad g v2)), (3, .int v3)] → W p l e room_1 s m #[Value.ref b] below meth c H locs 154 9053 (lw_Z below #[Value.ref b] s) (F0 m 18 ls [])) : ∀ (σ : bl_St) (v1 : Nat) (v2 : Nat) (v3 : Int32) (s0 : Int32) (s1 : Int32) (s2 : Int32) (s3 : Int32) (s4 : Int32) (s5 : Nat), bl_sh[v1]? = some (9, 13) → bl_sh[v2]? = some (10, 28) → bl_sh[s5]? = some (9, 13) → (b_L_law_1274 xs L k18) σ v1 v2 v3 s0 s1 s2 s3 s4 s5 = some out → ∀ (H : Heap) (locs : List Loc) (ls : Array Slot), bl_V g s σ H locs → lv_has ls 4 [(0, .ref b), (1, .ref (bl_ad g v1)), (2, .ref (bl_ad g v2)), (3, .int v3)] → W p l e room_1 s m #[Value.ref b] below meth c H locs 154 9053 (lw_Z below #[Value.ref b] s) (F0 m 1274 ls [.int s0, .int s1, .int s2, .int s3, .int s4, .ref (bl_ad g s5)]) := by
  intro σ v1 v2 v3 s0 s1 s2 s3 s4 s5 hv1 hv2 hs5 hf H locs ls V hl
  unfold b_L_law_1274 at hf
  refine lv_aload_n X.1 X.2.1 dL_law_1274 rfl (lv_at hl 0 rfl) ?_
  refine lv_iload_n X.1 X.2.1 dL_law_1275 rfl (lv_at hl 3 rfl) ?_
  refine lv_bipush (v := 6) X.1 X.2.1 dL_law_1276 (by decide) ?_
  refine lv_iadd X.1 X.2.1 dL_law_1278 ?_
  obtain ⟨h8, hf⟩ := bl_gd_at hf
  refine va_sld X.1 X.2.1 hX hbl hbA V.2 (bl_in_vp h8) dL_law_1279 ?_
  obtain ⟨r9, σ10, h11, hf⟩ := bl_bd_at hf
  refine bl_cVl (As := [.int s4, .int s3, .int s2, .int s1, .int s0, .int (xs (Int32.toNatClampNeg (v3 + 6)))]) X V hl.1 hs5 rfl ml_L_128 mV_X9_gain (t_X9_gain l g σ s5 s4 s3 s2 s1 s0 (xs (Int32.toNatClampNeg (v3 + 6))) _ hs5 h11) rfl rfl ⟨Nat.le_of_ble_eq_true rfl, Nat.le_of_ble_eq_true rfl⟩ rfl rfl (Nat.le_of_ble_eq_true rfl) ⟨Nat.le_of_ble_eq_true rfl, Nat.le_of_ble_eq_true rfl⟩ dL_law_1280 (fun H locs V => ?_)
  refine lv_aload_n X.1 X.2.1 dL_law_1283 rfl (lv_at hl 2 rfl) ?_
  refine lv_aload_n X.1 X.2.1 dL_law_1284 rfl (lv_at hl 0 rfl) ?_
  refine lv_iload_n X.1 X.2.1 dL_law_1285 rfl (lv_at hl 3 rfl) ?_
  refine lv_iconst (v := 1) X.1 X.2.1 dL_law_1286 (by decide) ?_
  refine lv_iadd X.1 X.2.1 dL_law_1287 ?_
  obtain ⟨h12, hf⟩ := bl_gd_at hf
  refine va_sld X.1 X.2.1 hX hbl hbA V.2 (bl_in_vp h12) dL_law_1288 ?_
  refine lv_aload_n X.1 X.2.1 dL_law_1289 rfl (lv_at hl 0 rfl) ?_
  refine lv_iload_n X.1 X.2.1 dL_law_1290 rfl (lv_at hl 3 rfl) ?_
  refine lv_iconst (v := 2) X.1 X.2.1 dL_law_1291 (by decide) ?_
  refine lv_iadd X.1 X.2.1 dL_law_1292 ?_
  obtain ⟨h13, hf⟩ := bl_gd_at hf
  refine va_sld X.1 X.2.1 hX hbl hbA V.2 (bl_in_vp h13) dL_law_1293 ?_
  refine lv_aload_n X.1 X.2.1 dL_law_1294 rfl (lv_at hl 0 rfl) ?_
  refine lv_iload_n X.1 X.2.1 dL_law_1295 rfl (lv_at hl 3 rfl) ?_
  refine lv_iconst (v := 3) X.1 X.2.1 dL_law_1296 (by decide) ?_
  refine lv_iadd X.1 X.2.1 dL_law_1297 ?_
  obtain ⟨h14, hf⟩ := bl_gd_at hf
  refine va_sld X.1 X.2.1 hX hbl hbA V.2 (bl_in_vp h14) dL_law_1298 ?_
  refine lv_aload_n X.1 X.2.1 dL_law_1299 rfl (lv_at hl 0 rfl) ?_
  refine lv_iload_n X.1 X.2.1 dL_law_1300 rfl (lv_at hl 3 rfl) ?_
  refine lv_iconst (v := 4) X.1 X.2.1 dL_law_1301 (by decide) ?_
  refine lv_iadd X.1 X.2.1 dL_law_1302 ?_
  obtain ⟨h15, hf⟩ := bl_gd_at hf
  refine va_sld X.1 X.2.1 hX hbl hbA V.2 (bl_in_vp h15) dL_law_1303 ?_
  refine lv_aload_n X.1 X.2.1 dL_law_1304 rfl (lv_at hl 0 rfl) ?_
  refine lv_iload_n X.1 X.2.1 dL_law_1305 rfl (lv_at hl 3 rfl) ?_
  refine lv_iconst (v := 5) X.1 X.2.1 dL_law_1306 (by decide) ?_
  refine lv_iadd X.1 X.2.1 dL_law_1307 ?_
  obtain ⟨h16, hf⟩ := bl_gd_at hf
  refine va_sld X.1 X.2.1 hX hbl hbA V.2 (bl_in_vp h16) dL_law_1308 ?_
  refine lv_if_eq (tgt := 1316) X.1 X.2.1 dL_law_1309 (by decide) (fun c17 => ?_) (fun c17 => ?_)
  · have hf := bl_ifp c17 hf
    refine lv_iconst (v := 0) X.1 X.2.1 dL_law_1316 (by decide) ?_
    exact w_L_law_1317 ho hX hbl hbA hg X hr k18 hk18 σ10 v1 v2 v3 0 (xs (Int32.toNatClampNeg (v3 + 4))) (xs (Int32.toNatClampNeg (v3 + 3))) (xs (Int32.toNatClampNeg (v3 + 2))) (xs (Int32.toNatClampNeg (v3 + 1))) v2 r9 hv1 hv2 hv2 hf _ _ _ V (lv_sub hl [0, 1, 2, 3] rfl)
  · have hf := bl_ifn c17 hf
    refine lv_iconst (v := 1) X.1 X.2.1 dL_law_1312 (by decide) ?_
    refine lv_goto (tgt := 1317) X.1 X.2.1 dL_law_1313 (by decide) ?_
    exact w_L_law_1317 ho hX hbl hbA hg X hr k18 hk18 σ10 v1 v2 v3 1 (xs (Int32.toNatClampNeg (v3 + 4))) (xs (Int32.toNatClampNeg (v3 + 3))) (xs (Int32.toNatClampNeg (v3 + 2))) (xs (Int32.toNatClampNeg (v3 + 1))) v2 r9 hv1 hv2 hv2 hf _ _ _ V (lv_sub hl [0, 1, 2, 3] rfl)
set_option maxHeartbeats 40000000 in
set_option maxRecDepth 100000 in
theorem w_L_law_1232 {p : Program} {l : Launch} {e : Env} {s : State} {m : MethodId} {below : List Frame} {meth : Method} {c : Code} {g : bl_Gp} {b L : Nat} {xs : Nat → Int32} {out : Int32 × bl_St} (ho : out.1 = 1) (hX : va_X b L xs s s.heap) (hbl : b < s.heap.size) (hbA : ¬ bl_A g b) (hg : bl_b g = s.heap.size) (X : bl_Cx g p s m #[Value.ref b] meth c code 4 RL) (hr : meth.sig.returnType = ret) (k18 : bl_St → Nat → Nat → Int32 → Option (Int32 × bl_St)) (hk18 : ∀ (σ : bl_St) (v1 : Nat) (v2 : Nat) (v3 : Int32), bl_sh[v1]? = some (9, 13) → bl_sh[v2]? = some (10, 28) → k18 σ v1 v2 v3 = some out → ∀ (H : Heap) (locs : List Loc) (ls : Array Slot), bl_V g s σ H locs → lv_has ls 4 [(0, .ref b), (1, .ref (bl_ad g v1)), (2, .ref (bl_ad g v2)), (3, .int v3)] → W p l e room_1 s m #[Value.ref b] below meth c H locs 154 9053 (lw_Z below #[Value.ref b] s) (F0 m 18 ls [])) : ∀ (σ : bl_St) (v1 : Nat) (v2 : Nat) (v3 : Int32) (s0 : Int32) (s1 : Int32) (s2 : Int32) (s3 : Int32) (s4 : Int32) (s5 : Nat) (s6 : Int32), bl_sh[v1]? = some (9, 13) → bl_sh[v2]? = some (10, 28) → bl_sh[s5]? = some (10, 28) → (b_L_law_1232 xs L k18) σ v1 v2 v3 s0 s1 s2 s3 s4 s5 s6 = some out → ∀ (H : Heap) (locs : List Loc) (ls : Array Slot), bl_V g s σ H locs → lv_has ls 4 [(0, .ref b), (1, .ref (bl_ad g v1)), (2, .ref (bl_ad g v2)), (3, .int v3)] → W p l e room_1 s m #[Value.ref b] below meth c H locs 154 9053 (lw_Z below #[Value.ref b] s) (F0 m 1232 ls [.int s0, .int s1, .int s2, .int s3, .int s4, .ref (bl_ad g s5), .int s6]) := by
  intro σ v1 v2 v3 s0 s1 s2 s3 s4 s5 s6 hv1 hv2 hs5 hf H locs ls V hl
  unfold b_L_law_1232 at hf
  obtain ⟨r18, σ19, h20, hf⟩ := bl_bd_at hf
  refine bl_cVi (As := [.int s4, .int s3, .int s2, .int s1, .int s0]) X V hl.1 hs5 rfl ml_L_127 mV_X10_tells (t_X10_tells l g σ s5 s4 s3 s2 s1 s0 _ hs5 h20) rfl rfl ⟨Nat.le_of_ble_eq_true rfl, Nat.le_of_ble_eq_true rfl⟩ rfl rfl (Nat.le_of_ble_eq_true rfl) ⟨Nat.le_of_ble_eq_true rfl, Nat.le_of_ble_eq_true rfl⟩ dL_law_1232 (fun H locs V => ?_)
  refine lv_icmp_eq (tgt := 2362) X.1 X.2.1 dL_law_1235 (by decide) (fun c21 => ?_) (fun c21 => ?_)
  · have hf := bl_ifp c21 hf
    exact w_L_law_2362 ho hX hbl hbA hg X hr k18 hk18 σ19 v1 v2 v3 hv1 hv2 hf _ _ _ V (lv_sub hl [0, 1, 2, 3] rfl)
  · have hf := bl_ifn c21 hf
    refine lv_iconst (v := 0) X.1 X.2.1 dL_law_1238 (by decide) ?_
    cases hf
    exact absurd (show (0 : Int32) = 1 from ho) (by decide)
set_option maxHeartbeats 40000000 in
set_option maxRecDepth 100000 in
theorem w_L_law_1195 {p : Program} {l : Launch} {e : Env} {s : State} {m : MethodId} {below : List Frame} {meth : Method} {c : Code} {g : bl_Gp} {b L : Nat} {xs : Nat → Int32} {out : Int32 × bl_St} (ho : out.1 = 1) (hX : va_X b L xs s s.heap) (hbl : b < s.heap.size) (hbA : ¬ bl_A g b) (hg : bl_b g = s.heap.size) (X : bl_Cx g p s m #[Value.ref b] meth c code 4 RL) (hr : meth.sig.returnType = ret) (k18 : bl_St → Nat → Nat → Int32 → Option (Int32 × bl_St)) (hk18 : ∀ (σ : bl_St) (v1 : Nat) (v2 : Nat) (v3 : Int32), bl_sh[v1]? = some (9, 13) → bl_sh[v2]? = some (10, 28) → k18 σ v1 v2 v3 = some out → ∀ (H : Heap) (locs : List Loc) (ls : Array Slot), bl_V g s σ H locs → lv_has ls 4 [(0, .ref b), (1, .ref (bl_ad g v1)), (2, .ref (bl_ad g v2)), (3, .int v3)] → W p l e room_1 s m #[Value.ref b] below meth c H locs 154 9053 (lw_Z below #[Value.ref b] s) (F0 m 18 ls [])) : ∀ (σ : bl_St) (v1 : Nat) (v2 : Nat) (v3 : Int32) (s0 : Int32) (s1 : Int32) (s2 : Int32) (s3 : Int32) (s4 : Int32) (s5 : Nat), bl_sh[v1]? = some (9, 13) → bl_sh[v2]? = some (10, 28) → bl_sh[s5]? = some (9, 13) → (b_L_law_1195 xs L k18) σ v1 v2 v3 s0 s1 s2 s3 s4 s5 = some out → ∀ (H : Heap) (locs : List Loc) (ls : Array Slot), bl_V g s σ H locs → lv_has ls 4 [(0, .ref b), (1, .ref (bl_ad g v1)), (2, .ref (bl_ad g v2)), (3, .int v3)] → W p l e room_1 s m #[Value.ref b] below meth c H locs 154 9053 (lw_Z below #[Value.ref b] s) (F0 m 1195 ls [.int s0, .int s1, .int s2, .int s3, .int s4, .ref (bl_ad g s5)]) := by
  intro σ v1 v2 v3 s0 s1 s2 s3 s4 s5 hv1 hv2 hs5 hf H locs ls V hl
  unfold b_L_law_1195 at hf
  obtain ⟨r22, σ23, h24, hf⟩ := bl_bd_at hf
  refine bl_cVi (As := [.int s4, .int s3, .int s2, .int s1, .int s0]) X V hl.1 hs5 rfl ml_L_124 mV_X9_tells (t_X9_tells l g σ s5 s4 s3 s2 s1 s0 _ hs5 h24) rfl rfl ⟨Nat.le_of_ble_eq_true rfl, Nat.le_of_ble_eq_true rfl⟩ rfl rfl (Nat.le_of_ble_eq_true rfl) ⟨Nat.le_of_ble_eq_true rfl, Nat.le_of_ble_eq_true rfl⟩ dL_law_1195 (fun H locs V => ?_)
  refine lv_aload_n X.1 X.2.1 dL_law_1198 rfl (lv_at hl 2 rfl) ?_
  refine lv_aload_n X.1 X.2.1 dL_law_1199 rfl (lv_at hl 0 rfl) ?_
  refine lv_iload_n X.1 X.2.1 dL_law_1200 rfl (lv_at hl 3 rfl) ?_
  refine lv_iconst (v := 1) X.1 X.2.1 dL_law_1201 (by decide) ?_
  refine lv_iadd X.1 X.2.1 dL_law_1202 ?_
  obtain ⟨h25, hf⟩ := bl_gd_at hf
  refine va_sld X.1 X.2.1 hX hbl hbA V.2 (bl_in_vp h25) dL_law_1203 ?_
  refine lv_aload_n X.1 X.2.1 dL_law_1204 rfl (lv_at hl 0 rfl) ?_
  refine lv_iload_n X.1 X.2.1 dL_law_1205 rfl (lv_at hl 3 rfl) ?_
  refine lv_iconst (v := 2) X.1 X.2.1 dL_law_1206 (by decide) ?_
  refine lv_iadd X.1 X.2.1 dL_law_1207 ?_
  obtain ⟨h26, hf⟩ := bl_gd_at hf
  refine va_sld X.1 X.2.1 hX hbl hbA V.2 (bl_in_vp h26) dL_law_1208 ?_
  refine lv_aload_n X.1 X.2.1 dL_law_1209 rfl (lv_at hl 0 rfl) ?_
  refine lv_iload_n X.1 X.2.1 dL_law_1210 rfl (lv_at hl 3 rfl) ?_
  refine lv_iconst (v := 3) X.1 X.2.1 dL_law_1211 (by decide) ?_
  refine lv_iadd X.1 X.2.1 dL_law_1212 ?_
  obtain ⟨h27, hf⟩ := bl_gd_at hf
  refine va_sld X.1 X.2.1 hX hbl hbA V.2 (bl_in_vp h27) dL_law_1213 ?_
  refine lv_aload_n X.1 X.2.1 dL_law_1214 rfl (lv_at hl 0 rfl) ?_
  refine lv_iload_n X.1 X.2.1 dL_law_1215 rfl (lv_at hl 3 rfl) ?_
  refine lv_iconst (v := 4) X.1 X.2.1 dL_law_1216 (by decide) ?_
  refine lv_iadd X.1 X.2.1 dL_law_1217 ?_
  obtain ⟨h28, hf⟩ := bl_gd_at hf
  refine va_sld X.1 X.2.1 hX hbl hbA V.2 (bl_in_vp h28) dL_law_1218 ?_
  refine lv_aload_n X.1 X.2.1 dL_law_1219 rfl (lv_at hl 0 rfl) ?_
  refine lv_iload_n X.1 X.2.1 dL_law_1220 rfl (lv_at hl 3 rfl) ?_
  refine lv_iconst (v := 5) X.1 X.2.1 dL_law_1221 (by decide) ?_
  refine lv_iadd X.1 X.2.1 dL_law_1222 ?_
  obtain ⟨h29, hf⟩ := bl_gd_at hf
  refine va_sld X.1 X.2.1 hX hbl hbA V.2 (bl_in_vp h29) dL_law_1223 ?_
  refine lv_if_eq (tgt := 1231) X.1 X.2.1 dL_law_1224 (by decide) (fun c30 => ?_) (fun c30 => ?_)
  · have hf := bl_ifp c30 hf
    refine lv_iconst (v := 0) X.1 X.2.1 dL_law_1231 (by decide) ?_
    exact w_L_law_1232 ho hX hbl hbA hg X hr k18 hk18 σ23 v1 v2 v3 0 (xs (Int32.toNatClampNeg (v3 + 4))) (xs (Int32.toNatClampNeg (v3 + 3))) (xs (Int32.toNatClampNeg (v3 + 2))) (xs (Int32.toNatClampNeg (v3 + 1))) v2 r22 hv1 hv2 hv2 hf _ _ _ V (lv_sub hl [0, 1, 2, 3] rfl)
  · have hf := bl_ifn c30 hf
    refine lv_iconst (v := 1) X.1 X.2.1 dL_law_1227 (by decide) ?_
    refine lv_goto (tgt := 1232) X.1 X.2.1 dL_law_1228 (by decide) ?_
    exact w_L_law_1232 ho hX hbl hbA hg X hr k18 hk18 σ23 v1 v2 v3 1 (xs (Int32.toNatClampNeg (v3 + 4))) (xs (Int32.toNatClampNeg (v3 + 3))) (xs (Int32.toNatClampNeg (v3 + 2))) (xs (Int32.toNatClampNeg (v3 + 1))) v2 r22 hv1 hv2 hv2 hf _ _ _ V (lv_sub hl [0, 1, 2, 3] rfl)
set_option maxHeartbeats 40000000 in
set_option maxRecDepth 100000 in
theorem w_L_law_1153 {p : Program} {l : Launch} {e : Env} {s : State} {m : MethodId} {below : List Frame} {meth : Method} {c : Code} {g : bl_Gp} {b L : Nat} {xs : Nat → Int32} {out : Int32 × bl_St} (ho : out.1 = 1) (hX : va_X b L xs s s.heap) (hbl : b < s.heap.size) (hbA : ¬ bl_A g b) (hg : bl_b g = s.heap.size) (X : bl_Cx g p s m #[Value.ref b] meth c code 4 RL) (hr : meth.sig.returnType = ret) (k18 : bl_St → Nat → Nat → Int32 → Option (Int32 × bl_St)) (hk18 : ∀ (σ : bl_St) (v1 : Nat) (v2 : Nat) (v3 : Int32), bl_sh[v1]? = some (9, 13) → bl_sh[v2]? = some (10, 28) → k18 σ v1 v2 v3 = some out → ∀ (H : Heap) (locs : List Loc) (ls : Array Slot), bl_V g s σ H locs → lv_has ls 4 [(0, .ref b), (1, .ref (bl_ad g v1)), (2, .ref (bl_ad g v2)), (3, .int v3)] → W p l e room_1 s m #[Value.ref b] below meth c H locs 154 9053 (lw_Z below #[Value.ref b] s) (F0 m 18 ls [])) : ∀ (σ : bl_St) (v1 : Nat) (v2 : Nat) (v3 : Int32) (s0 : Int32) (s1 : Int32) (s2 : Int32) (s3 : Int32) (s4 : Int32) (s5 : Nat) (s6 : Int32), bl_sh[v1]? = some (9, 13) → bl_sh[v2]? = some (10, 28) → bl_sh[s5]? = some (10, 28) → (b_L_law_1153 xs L k18) σ v1 v2 v3 s0 s1 s2 s3 s4 s5 s6 = some out → ∀ (H : Heap) (locs : List Loc) (ls : Array Slot), bl_V g s σ H locs → lv_has ls 4 [(0, .ref b), (1, .ref (bl_ad g v1)), (2, .ref (bl_ad g v2)), (3, .int v3)] → W p l e room_1 s m #[Value.ref b] below meth c H locs 154 9053 (lw_Z below #[Value.ref b] s) (F0 m 1153 ls [.int s0, .int s1, .int s2, .int s3, .int s4, .ref (bl_ad g s5), .int s6]) := by
  intro σ v1 v2 v3 s0 s1 s2 s3 s4 s5 s6 hv1 hv2 hs5 hf H locs ls V hl
  unfold b_L_law_1153 at hf
  obtain ⟨r31, σ32, h33, hf⟩ := bl_bd_at hf
  refine bl_cVi (As := [.int s4, .int s3, .int s2, .int s1, .int s0]) X V hl.1 hs5 rfl ml_L_123 mV_X10_least (t_X10_least l g σ s5 s4 s3 s2 s1 s0 _ hs5 h33) rfl rfl ⟨Nat.le_of_ble_eq_true rfl, Nat.le_of_ble_eq_true rfl⟩ rfl rfl (Nat.le_of_ble_eq_true rfl) ⟨Nat.le_of_ble_eq_true rfl, Nat.le_of_ble_eq_true rfl⟩ dL_law_1153 (fun H locs V => ?_)
  refine lv_icmp_eq (tgt := 2362) X.1 X.2.1 dL_law_1156 (by decide) (fun c34 => ?_) (fun c34 => ?_)
  · have hf := bl_ifp c34 hf
    exact w_L_law_2362 ho hX hbl hbA hg X hr k18 hk18 σ32 v1 v2 v3 hv1 hv2 hf _ _ _ V (lv_sub hl [0, 1, 2, 3] rfl)
  · have hf := bl_ifn c34 hf
    refine lv_iconst (v := 0) X.1 X.2.1 dL_law_1159 (by decide) ?_
    cases hf
    exact absurd (show (0 : Int32) = 1 from ho) (by decide)
set_option maxHeartbeats 40000000 in
set_option maxRecDepth 100000 in
theorem w_L_law_1116 {p : Program} {l : Launch} {e : Env} {s : State} {m : MethodId} {below : List Frame} {meth : Method} {c : Code} {g : bl_Gp} {b L : Nat} {xs : Nat → Int32} {out : Int32 × bl_St} (ho : out.1 = 1) (hX : va_X b L xs s s.heap) (hbl : b < s.heap.size) (hbA : ¬ bl_A g b) (hg : bl_b g = s.heap.size) (X : bl_Cx g p s m #[Value.ref b] meth c code 4 RL) (hr : meth.sig.returnType = ret) (k18 : bl_St → Nat → Nat → Int32 → Option (Int32 × bl_St)) (hk18 : ∀ (σ : bl_St) (v1 : Nat) (v2 : Nat) (v3 : Int32), bl_sh[v1]? = some (9, 13) → bl_sh[v2]? = some (10, 28) → k18 σ v1 v2 v3 = some out → ∀ (H : Heap) (locs : List Loc) (ls : Array Slot), bl_V g s σ H locs → lv_has ls 4 [(0, .ref b), (1, .ref (bl_ad g v1)), (2, .ref (bl_ad g v2)), (3, .int v3)] → W p l e room_1 s m #[Value.ref b] below meth c H locs 154 9053 (lw_Z below #[Value.ref b] s) (F0 m 18 ls [])) : ∀ (σ : bl_St) (v1 : Nat) (v2 : Nat) (v3 : Int32) (s0 : Int32) (s1 : Int32) (s2 : Int32) (s3 : Int32) (s4 : Int32) (s5 : Nat), bl_sh[v1]? = some (9, 13) → bl_sh[v2]? = some (10, 28) → bl_sh[s5]? = some (9, 13) → (b_L_law_1116 xs L k18) σ v1 v2 v3 s0 s1 s2 s3 s4 s5 = some out → ∀ (H : Heap) (locs : List Loc) (ls : Array Slot), bl_V g s σ H locs → lv_has ls 4 [(0, .ref b), (1, .ref (bl_ad g v1)), (2, .ref (bl_ad g v2)), (3, .int v3)] → W p l e room_1 s m #[Value.ref b] below meth c H locs 154 9053 (lw_Z below #[Value.ref b] s) (F0 m 1116 ls [.int s0, .int s1, .int s2, .int s3, .int s4, .ref (bl_ad g s5)]) := by
  intro σ v1 v2 v3 s0 s1 s2 s3 s4 s5 hv1 hv2 hs5 hf H locs ls V hl
  unfold b_L_law_1116 at hf
  obtain ⟨r35, σ36, h37, hf⟩ := bl_bd_at hf
  refine bl_cVi (As := [.int s4, .int s3, .int s2, .int s1, .int s0]) X V hl.1 hs5 rfl ml_L_119 mV_X9_least (t_X9_least l g σ s5 s4 s3 s2 s1 s0 _ hs5 h37) rfl rfl ⟨Nat.le_of_ble_eq_true rfl, Nat.le_of_ble_eq_true rfl⟩ rfl rfl (Nat.le_of_ble_eq_true rfl) ⟨Nat.le_of_ble_eq_true rfl, Nat.le_of_ble_eq_true rfl⟩ dL_law_1116 (fun H locs V => ?_)
  refine lv_aload_n X.1 X.2.1 dL_law_1119 rfl (lv_at hl 2 rfl) ?_
  refine lv_aload_n X.1 X.2.1 dL_law_1120 rfl (lv_at hl 0 rfl) ?_
  refine lv_iload_n X.1 X.2.1 dL_law_1121 rfl (lv_at hl 3 rfl) ?_
  refine lv_iconst (v := 1) X.1 X.2.1 dL_law_1122 (by decide) ?_
  refine lv_iadd X.1 X.2.1 dL_law_1123 ?_
  obtain ⟨h38, hf⟩ := bl_gd_at hf
  refine va_sld X.1 X.2.1 hX hbl hbA V.2 (bl_in_vp h38) dL_law_1124 ?_
  refine lv_aload_n X.1 X.2.1 dL_law_1125 rfl (lv_at hl 0 rfl) ?_
  refine lv_iload_n X.1 X.2.1 dL_law_1126 rfl (lv_at hl 3 rfl) ?_
  refine lv_iconst (v := 2) X.1 X.2.1 dL_law_1127 (by decide) ?_
  refine lv_iadd X.1 X.2.1 dL_law_1128 ?_
  obtain ⟨h39, hf⟩ := bl_gd_at hf
  refine va_sld X.1 X.2.1 hX hbl hbA V.2 (bl_in_vp h39) dL_law_1129 ?_
  refine lv_aload_n X.1 X.2.1 dL_law_1130 rfl (lv_at hl 0 rfl) ?_
  refine lv_iload_n X.1 X.2.1 dL_law_1131 rfl (lv_at hl 3 rfl) ?_
  refine lv_iconst (v := 3) X.1 X.2.1 dL_law_1132 (by decide) ?_
  refine lv_iadd X.1 X.2.1 dL_law_1133 ?_
  obtain ⟨h40, hf⟩ := bl_gd_at hf
  refine va_sld X.1 X.2.1 hX hbl hbA V.2 (bl_in_vp h40) dL_law_1134 ?_
  refine lv_aload_n X.1 X.2.1 dL_law_1135 rfl (lv_at hl 0 rfl) ?_
  refine lv_iload_n X.1 X.2.1 dL_law_1136 rfl (lv_at hl 3 rfl) ?_
  refine lv_iconst (v := 4) X.1 X.2.1 dL_law_1137 (by decide) ?_
  refine lv_iadd X.1 X.2.1 dL_law_1138 ?_
  obtain ⟨h41, hf⟩ := bl_gd_at hf
  refine va_sld X.1 X.2.1 hX hbl hbA V.2 (bl_in_vp h41) dL_law_1139 ?_
  refine lv_aload_n X.1 X.2.1 dL_law_1140 rfl (lv_at hl 0 rfl) ?_
  refine lv_iload_n X.1 X.2.1 dL_law_1141 rfl (lv_at hl 3 rfl) ?_
  refine lv_iconst (v := 5) X.1 X.2.1 dL_law_1142 (by decide) ?_
  refine lv_iadd X.1 X.2.1 dL_law_1143 ?_
  obtain ⟨h42, hf⟩ := bl_gd_at hf
  refine va_sld X.1 X.2.1 hX hbl hbA V.2 (bl_in_vp h42) dL_law_1144 ?_
  refine lv_if_eq (tgt := 1152) X.1 X.2.1 dL_law_1145 (by decide) (fun c43 => ?_) (fun c43 => ?_)
  · have hf := bl_ifp c43 hf
    refine lv_iconst (v := 0) X.1 X.2.1 dL_law_1152 (by decide) ?_
    exact w_L_law_1153 ho hX hbl hbA hg X hr k18 hk18 σ36 v1 v2 v3 0 (xs (Int32.toNatClampNeg (v3 + 4))) (xs (Int32.toNatClampNeg (v3 + 3))) (xs (Int32.toNatClampNeg (v3 + 2))) (xs (Int32.toNatClampNeg (v3 + 1))) v2 r35 hv1 hv2 hv2 hf _ _ _ V (lv_sub hl [0, 1, 2, 3] rfl)
  · have hf := bl_ifn c43 hf
    refine lv_iconst (v := 1) X.1 X.2.1 dL_law_1148 (by decide) ?_
    refine lv_goto (tgt := 1153) X.1 X.2.1 dL_law_1149 (by decide) ?_
    exact w_L_law_1153 ho hX hbl hbA hg X hr k18 hk18 σ36 v1 v2 v3 1 (xs (Int32.toNatClampNeg (v3 + 4))) (xs (Int32.toNatClampNeg (v3 + 3))) (xs (Int32.toNatClampNeg (v3 + 2))) (xs (Int32.toNatClampNeg (v3 + 1))) v2 r35 hv1 hv2 hv2 hf _ _ _ V (lv_sub hl [0, 1, 2, 3] rfl)
set_option maxHeartbeats 40000000 in
set_option maxRecDepth 100000 in
theorem w_L_law_1073 {p : Program} {l : Launch} {e : Env} {s : State} {m : MethodId} {below : List Frame} {meth : Method} {c : Code} {g : bl_Gp} {b L : Nat} {xs : Nat → Int32} {out : Int32 × bl_St} (ho : out.1 = 1) (hX : va_X b L xs s s.heap) (hbl : b < s.heap.size) (hbA : ¬ bl_A g b) (hg : bl_b g = s.heap.size) (X : bl_Cx g p s m #[Value.ref b] meth c code 4 RL) (hr : meth.sig.returnType = ret) (k18 : bl_St → Nat → Nat → Int32 → Option (Int32 × bl_St)) (hk18 : ∀ (σ : bl_St) (v1 : Nat) (v2 : Nat) (v3 : Int32), bl_sh[v1]? = some (9, 13) → bl_sh[v2]? = some (10, 28) → k18 σ v1 v2 v3 = some out → ∀ (H : Heap) (locs : List Loc) (ls : Array Slot), bl_V g s σ H locs → lv_has ls 4 [(0, .ref b), (1, .ref (bl_ad g v1)), (2, .ref (bl_ad g v2)), (3, .int v3)] → W p l e room_1 s m #[Value.ref b] below meth c H locs 154 9053 (lw_Z below #[Value.ref b] s) (F0 m 18 ls [])) : ∀ (σ : bl_St) (v1 : Nat) (v2 : Nat) (v3 : Int32) (s0 : Int32) (s1 : Int32) (s2 : Int32) (s3 : Int32) (s4 : Int32) (s5 : Nat) (s6 : Int64), bl_sh[v1]? = some (9, 13) → bl_sh[v2]? = some (10, 28) → bl_sh[s5]? = some (10, 28) → (b_L_law_1073 xs L k18) σ v1 v2 v3 s0 s1 s2 s3 s4 s5 s6 = some out → ∀ (H : Heap) (locs : List Loc) (ls : Array Slot), bl_V g s σ H locs → lv_has ls 4 [(0, .ref b), (1, .ref (bl_ad g v1)), (2, .ref (bl_ad g v2)), (3, .int v3)] → W p l e room_1 s m #[Value.ref b] below meth c H locs 154 9053 (lw_Z below #[Value.ref b] s) (F0 m 1073 ls [.int s0, .int s1, .int s2, .int s3, .int s4, .ref (bl_ad g s5), .long s6]) := by
  intro σ v1 v2 v3 s0 s1 s2 s3 s4 s5 s6 hv1 hv2 hs5 hf H locs ls V hl
  unfold b_L_law_1073 at hf
  obtain ⟨r44, σ45, h46, hf⟩ := bl_bd_at hf
  refine bl_cVl (As := [.int s4, .int s3, .int s2, .int s1, .int s0]) X V hl.1 hs5 rfl ml_L_118 mV_X10_ahead (t_X10_ahead l g σ s5 s4 s3 s2 s1 s0 _ hs5 h46) rfl rfl ⟨Nat.le_of_ble_eq_true rfl, Nat.le_of_ble_eq_true rfl⟩ rfl rfl (Nat.le_of_ble_eq_true rfl) ⟨Nat.le_of_ble_eq_true rfl, Nat.le_of_ble_eq_true rfl⟩ dL_law_1073 (fun H locs V => ?_)
  refine bl_lc_eq (tgt := 2362) X dL_law_1076 dL_law_1077 (by decide) (fun c47 => ?_) (fun c47 => ?_)
  · have hf := bl_ifp c47 hf
    exact w_L_law_2362 ho hX hbl hbA hg X hr k18 hk18 σ45 v1 v2 v3 hv1 hv2 hf _ _ _ V (lv_sub hl [0, 1, 2, 3] rfl)
  · have hf := bl_ifn c47 hf
    refine lv_iconst (v := 0) X.1 X.2.1 dL_law_1080 (by decide) ?_
    cases hf
    exact absurd (show (0 : Int32) = 1 from ho) (by decide)
set_option maxHeartbeats 40000000 in
set_option maxRecDepth 100000 in
theorem w_L_law_1036 {p : Program} {l : Launch} {e : Env} {s : State} {m : MethodId} {below : List Frame} {meth : Method} {c : Code} {g : bl_Gp} {b L : Nat} {xs : Nat → Int32} {out : Int32 × bl_St} (ho : out.1 = 1) (hX : va_X b L xs s s.heap) (hbl : b < s.heap.size) (hbA : ¬ bl_A g b) (hg : bl_b g = s.heap.size) (X : bl_Cx g p s m #[Value.ref b] meth c code 4 RL) (hr : meth.sig.returnType = ret) (k18 : bl_St → Nat → Nat → Int32 → Option (Int32 × bl_St)) (hk18 : ∀ (σ : bl_St) (v1 : Nat) (v2 : Nat) (v3 : Int32), bl_sh[v1]? = some (9, 13) → bl_sh[v2]? = some (10, 28) → k18 σ v1 v2 v3 = some out → ∀ (H : Heap) (locs : List Loc) (ls : Array Slot), bl_V g s σ H locs → lv_has ls 4 [(0, .ref b), (1, .ref (bl_ad g v1)), (2, .ref (bl_ad g v2)), (3, .int v3)] → W p l e room_1 s m #[Value.ref b] below meth c H locs 154 9053 (lw_Z below #[Value.ref b] s) (F0 m 18 ls [])) : ∀ (σ : bl_St) (v1 : Nat) (v2 : Nat) (v3 : Int32) (s0 : Int32) (s1 : Int32) (s2 : Int32) (s3 : Int32) (s4 : Int32) (s5 : Nat), bl_sh[v1]? = some (9, 13) → bl_sh[v2]? = some (10, 28) → bl_sh[s5]? = some (9, 13) → (b_L_law_1036 xs L k18) σ v1 v2 v3 s0 s1 s2 s3 s4 s5 = some out → ∀ (H : Heap) (locs : List Loc) (ls : Array Slot), bl_V g s σ H locs → lv_has ls 4 [(0, .ref b), (1, .ref (bl_ad g v1)), (2, .ref (bl_ad g v2)), (3, .int v3)] → W p l e room_1 s m #[Value.ref b] below meth c H locs 154 9053 (lw_Z below #[Value.ref b] s) (F0 m 1036 ls [.int s0, .int s1, .int s2, .int s3, .int s4, .ref (bl_ad g s5)]) := by
  intro σ v1 v2 v3 s0 s1 s2 s3 s4 s5 hv1 hv2 hs5 hf H locs ls V hl
  unfold b_L_law_1036 at hf
  obtain ⟨r48, σ49, h50, hf⟩ := bl_bd_at hf
  refine bl_cVl (As := [.int s4, .int s3, .int s2, .int s1, .int s0]) X V hl.1 hs5 rfl ml_L_114 mV_X9_ahead (t_X9_ahead l g σ s5 s4 s3 s2 s1 s0 _ hs5 h50) rfl rfl ⟨Nat.le_of_ble_eq_true rfl, Nat.le_of_ble_eq_true rfl⟩ rfl rfl (Nat.le_of_ble_eq_true rfl) ⟨Nat.le_of_ble_eq_true rfl, Nat.le_of_ble_eq_true rfl⟩ dL_law_1036 (fun H locs V => ?_)
  refine lv_aload_n X.1 X.2.1 dL_law_1039 rfl (lv_at hl 2 rfl) ?_
  refine lv_aload_n X.1 X.2.1 dL_law_1040 rfl (lv_at hl 0 rfl) ?_
  refine lv_iload_n X.1 X.2.1 dL_law_1041 rfl (lv_at hl 3 rfl) ?_
  refine lv_iconst (v := 1) X.1 X.2.1 dL_law_1042 (by decide) ?_
  refine lv_iadd X.1 X.2.1 dL_law_1043 ?_
  obtain ⟨h51, hf⟩ := bl_gd_at hf
  refine va_sld X.1 X.2.1 hX hbl hbA V.2 (bl_in_vp h51) dL_law_1044 ?_
  refine lv_aload_n X.1 X.2.1 dL_law_1045 rfl (lv_at hl 0 rfl) ?_
  refine lv_iload_n X.1 X.2.1 dL_law_1046 rfl (lv_at hl 3 rfl) ?_
  refine lv_iconst (v := 2) X.1 X.2.1 dL_law_1047 (by decide) ?_
  refine lv_iadd X.1 X.2.1 dL_law_1048 ?_
  obtain ⟨h52, hf⟩ := bl_gd_at hf
  refine va_sld X.1 X.2.1 hX hbl hbA V.2 (bl_in_vp h52) dL_law_1049 ?_
  refine lv_aload_n X.1 X.2.1 dL_law_1050 rfl (lv_at hl 0 rfl) ?_
  refine lv_iload_n X.1 X.2.1 dL_law_1051 rfl (lv_at hl 3 rfl) ?_
  refine lv_iconst (v := 3) X.1 X.2.1 dL_law_1052 (by decide) ?_
  refine lv_iadd X.1 X.2.1 dL_law_1053 ?_
  obtain ⟨h53, hf⟩ := bl_gd_at hf
  refine va_sld X.1 X.2.1 hX hbl hbA V.2 (bl_in_vp h53) dL_law_1054 ?_
  refine lv_aload_n X.1 X.2.1 dL_law_1055 rfl (lv_at hl 0 rfl) ?_
  refine lv_iload_n X.1 X.2.1 dL_law_1056 rfl (lv_at hl 3 rfl) ?_
  refine lv_iconst (v := 4) X.1 X.2.1 dL_law_1057 (by decide) ?_
  refine lv_iadd X.1 X.2.1 dL_law_1058 ?_
  obtain ⟨h54, hf⟩ := bl_gd_at hf
  refine va_sld X.1 X.2.1 hX hbl hbA V.2 (bl_in_vp h54) dL_law_1059 ?_
  refine lv_aload_n X.1 X.2.1 dL_law_1060 rfl (lv_at hl 0 rfl) ?_
  refine lv_iload_n X.1 X.2.1 dL_law_1061 rfl (lv_at hl 3 rfl) ?_
  refine lv_iconst (v := 5) X.1 X.2.1 dL_law_1062 (by decide) ?_
  refine lv_iadd X.1 X.2.1 dL_law_1063 ?_
  obtain ⟨h55, hf⟩ := bl_gd_at hf
  refine va_sld X.1 X.2.1 hX hbl hbA V.2 (bl_in_vp h55) dL_law_1064 ?_
  refine lv_if_eq (tgt := 1072) X.1 X.2.1 dL_law_1065 (by decide) (fun c56 => ?_) (fun c56 => ?_)
  · have hf := bl_ifp c56 hf
    refine lv_iconst (v := 0) X.1 X.2.1 dL_law_1072 (by decide) ?_
    exact w_L_law_1073 ho hX hbl hbA hg X hr k18 hk18 σ49 v1 v2 v3 0 (xs (Int32.toNatClampNeg (v3 + 4))) (xs (Int32.toNatClampNeg (v3 + 3))) (xs (Int32.toNatClampNeg (v3 + 2))) (xs (Int32.toNatClampNeg (v3 + 1))) v2 r48 hv1 hv2 hv2 hf _ _ _ V (lv_sub hl [0, 1, 2, 3] rfl)
  · have hf := bl_ifn c56 hf
    refine lv_iconst (v := 1) X.1 X.2.1 dL_law_1068 (by decide) ?_
    refine lv_goto (tgt := 1073) X.1 X.2.1 dL_law_1069 (by decide) ?_
    exact w_L_law_1073 ho hX hbl hbA hg X hr k18 hk18 σ49 v1 v2 v3 1 (xs (Int32.toNatClampNeg (v3 + 4))) (xs (Int32.toNatClampNeg (v3 + 3))) (xs (Int32.toNatClampNeg (v3 + 2))) (xs (Int32.toNatClampNeg (v3 + 1))) v2 r48 hv1 hv2 hv2 hf _ _ _ V (lv_sub hl [0, 1, 2, 3] rfl)
set_option maxHeartbeats 40000000 in
set_option maxRecDepth 100000 in
theorem w_L_law_927 {p : Program} {l : Launch} {e : Env} {s : State} {m : MethodId} {below : List Frame} {meth : Method} {c : Code} {g : bl_Gp} {b L : Nat} {xs : Nat → Int32} {out : Int32 × bl_St} (ho : out.1 = 1) (hX : va_X b L xs s s.heap) (hbl : b < s.heap.size) (hbA : ¬ bl_A g b) (hg : bl_b g = s.heap.size) (X : bl_Cx g p s m #[Value.ref b] meth c code 4 RL) (hr : meth.sig.returnType = ret) (k18 : bl_St → Nat → Nat → Int32 → Option (Int32 × bl_St)) (hk18 : ∀ (σ : bl_St) (v1 : Nat) (v2 : Nat) (v3 : Int32), bl_sh[v1]? = some (9, 13) → bl_sh[v2]? = some (10, 28) → k18 σ v1 v2 v3 = some out → ∀ (H : Heap) (locs : List Loc) (ls : Array Slot), bl_V g s σ H locs → lv_has ls 4 [(0, .ref b), (1, .ref (bl_ad g v1)), (2, .ref (bl_ad g v2)), (3, .int v3)] → W p l e room_1 s m #[Value.ref b] below meth c H locs 154 9053 (lw_Z below #[Value.ref b] s) (F0 m 18 ls [])) : ∀ (σ : bl_St) (v1 : Nat) (v2 : Nat) (v3 : Int32) (s0 : Int32) (s1 : Nat) (s2 : Int32), bl_sh[v1]? = some (9, 13) → bl_sh[v2]? = some (10, 28) → bl_sh[s1]? = some (10, 28) → (b_L_law_927 xs L k18) σ v1 v2 v3 s0 s1 s2 = some out → ∀ (H : Heap) (locs : List Loc) (ls : Array Slot), bl_V g s σ H locs → lv_has ls 4 [(0, .ref b), (1, .ref (bl_ad g v1)), (2, .ref (bl_ad g v2)), (3, .int v3)] → W p l e room_1 s m #[Value.ref b] below meth c H locs 154 9053 (lw_Z below #[Value.ref b] s) (F0 m 927 ls [.int s0, .ref (bl_ad g s1), .int s2]) := by
  intro σ v1 v2 v3 s0 s1 s2 hv1 hv2 hs1 hf H locs ls V hl
  unfold b_L_law_927 at hf
  obtain ⟨r57, σ58, h59, hf⟩ := bl_bd_at hf
  refine bl_cVi (As := [.int s0]) X V hl.1 hs1 rfl ml_L_104 mV_X10_mean (t_X10_mean l g σ s1 s0 _ hs1 h59) rfl rfl ⟨Nat.le_of_ble_eq_true rfl, Nat.le_of_ble_eq_true rfl⟩ rfl rfl (Nat.le_of_ble_eq_true rfl) ⟨Nat.le_of_ble_eq_true rfl, Nat.le_of_ble_eq_true rfl⟩ dL_law_927 (fun H locs V => ?_)
  refine lv_icmp_eq (tgt := 2362) X.1 X.2.1 dL_law_930 (by decide) (fun c60 => ?_) (fun c60 => ?_)
  · have hf := bl_ifp c60 hf
    exact w_L_law_2362 ho hX hbl hbA hg X hr k18 hk18 σ58 v1 v2 v3 hv1 hv2 hf _ _ _ V (lv_sub hl [0, 1, 2, 3] rfl)
  · have hf := bl_ifn c60 hf
    refine lv_iconst (v := 0) X.1 X.2.1 dL_law_933 (by decide) ?_
    cases hf
    exact absurd (show (0 : Int32) = 1 from ho) (by decide)
set_option maxHeartbeats 40000000 in
set_option maxRecDepth 100000 in
theorem w_L_law_910 {p : Program} {l : Launch} {e : Env} {s : State} {m : MethodId} {below : List Frame} {meth : Method} {c : Code} {g : bl_Gp} {b L : Nat} {xs : Nat → Int32} {out : Int32 × bl_St} (ho : out.1 = 1) (hX : va_X b L xs s s.heap) (hbl : b < s.heap.size) (hbA : ¬ bl_A g b) (hg : bl_b g = s.heap.size) (X : bl_Cx g p s m #[Value.ref b] meth c code 4 RL) (hr : meth.sig.returnType = ret) (k18 : bl_St → Nat → Nat → Int32 → Option (Int32 × bl_St)) (hk18 : ∀ (σ : bl_St) (v1 : Nat) (v2 : Nat) (v3 : Int32), bl_sh[v1]? = some (9, 13) → bl_sh[v2]? = some (10, 28) → k18 σ v1 v2 v3 = some out → ∀ (H : Heap) (locs : List Loc) (ls : Array Slot), bl_V g s σ H locs → lv_has ls 4 [(0, .ref b), (1, .ref (bl_ad g v1)), (2, .ref (bl_ad g v2)), (3, .int v3)] → W p l e room_1 s m #[Value.ref b] below meth c H locs 154 9053 (lw_Z below #[Value.ref b] s) (F0 m 18 ls [])) : ∀ (σ : bl_St) (v1 : Nat) (v2 : Nat) (v3 : Int32) (s0 : Int32) (s1 : Nat), bl_sh[v1]? = some (9, 13) → bl_sh[v2]? = some (10, 28) → bl_sh[s1]? = some (9, 13) → (b_L_law_910 xs L k18) σ v1 v2 v3 s0 s1 = some out → ∀ (H : Heap) (locs : List Loc) (ls : Array Slot), bl_V g s σ H locs → lv_has ls 4 [(0, .ref b), (1, .ref (bl_ad g v1)), (2, .ref (bl_ad g v2)), (3, .int v3)] → W p l e room_1 s m #[Value.ref b] below meth c H locs 154 9053 (lw_Z below #[Value.ref b] s) (F0 m 910 ls [.int s0, .ref (bl_ad g s1)]) := by
  intro σ v1 v2 v3 s0 s1 hv1 hv2 hs1 hf H locs ls V hl
  unfold b_L_law_910 at hf
  obtain ⟨r61, σ62, h63, hf⟩ := bl_bd_at hf
  refine bl_cVi (As := [.int s0]) X V hl.1 hs1 rfl ml_L_101 mV_X9_mean (t_X9_mean l g σ s1 s0 _ hs1 h63) rfl rfl ⟨Nat.le_of_ble_eq_true rfl, Nat.le_of_ble_eq_true rfl⟩ rfl rfl (Nat.le_of_ble_eq_true rfl) ⟨Nat.le_of_ble_eq_true rfl, Nat.le_of_ble_eq_true rfl⟩ dL_law_910 (fun H locs V => ?_)
  refine lv_aload_n X.1 X.2.1 dL_law_913 rfl (lv_at hl 2 rfl) ?_
  refine lv_aload_n X.1 X.2.1 dL_law_914 rfl (lv_at hl 0 rfl) ?_
  refine lv_iload_n X.1 X.2.1 dL_law_915 rfl (lv_at hl 3 rfl) ?_
  refine lv_iconst (v := 1) X.1 X.2.1 dL_law_916 (by decide) ?_
  refine lv_iadd X.1 X.2.1 dL_law_917 ?_
  obtain ⟨h64, hf⟩ := bl_gd_at hf
  refine va_sld X.1 X.2.1 hX hbl hbA V.2 (bl_in_vp h64) dL_law_918 ?_
  refine lv_if_eq (tgt := 926) X.1 X.2.1 dL_law_919 (by decide) (fun c65 => ?_) (fun c65 => ?_)
  · have hf := bl_ifp c65 hf
    refine lv_iconst (v := 0) X.1 X.2.1 dL_law_926 (by decide) ?_
    exact w_L_law_927 ho hX hbl hbA hg X hr k18 hk18 σ62 v1 v2 v3 0 v2 r61 hv1 hv2 hv2 hf _ _ _ V (lv_sub hl [0, 1, 2, 3] rfl)
  · have hf := bl_ifn c65 hf
    refine lv_iconst (v := 1) X.1 X.2.1 dL_law_922 (by decide) ?_
    refine lv_goto (tgt := 927) X.1 X.2.1 dL_law_923 (by decide) ?_
    exact w_L_law_927 ho hX hbl hbA hg X hr k18 hk18 σ62 v1 v2 v3 1 v2 r61 hv1 hv2 hv2 hf _ _ _ V (lv_sub hl [0, 1, 2, 3] rfl)
set_option maxHeartbeats 40000000 in
set_option maxRecDepth 100000 in
theorem w_L_law_575 {p : Program} {l : Launch} {e : Env} {s : State} {m : MethodId} {below : List Frame} {meth : Method} {c : Code} {g : bl_Gp} {b L : Nat} {xs : Nat → Int32} {out : Int32 × bl_St} (ho : out.1 = 1) (hX : va_X b L xs s s.heap) (hbl : b < s.heap.size) (hbA : ¬ bl_A g b) (hg : bl_b g = s.heap.size) (X : bl_Cx g p s m #[Value.ref b] meth c code 4 RL) (hr : meth.sig.returnType = ret) (k18 : bl_St → Nat → Nat → Int32 → Option (Int32 × bl_St)) (hk18 : ∀ (σ : bl_St) (v1 : Nat) (v2 : Nat) (v3 : Int32), bl_sh[v1]? = some (9, 13) → bl_sh[v2]? = some (10, 28) → k18 σ v1 v2 v3 = some out → ∀ (H : Heap) (locs : List Loc) (ls : Array Slot), bl_V g s σ H locs → lv_has ls 4 [(0, .ref b), (1, .ref (bl_ad g v1)), (2, .ref (bl_ad g v2)), (3, .int v3)] → W p l e room_1 s m #[Value.ref b] below meth c H locs 154 9053 (lw_Z below #[Value.ref b] s) (F0 m 18 ls [])) : ∀ (σ : bl_St) (v1 : Nat) (v2 : Nat) (v3 : Int32) (s0 : Int32) (s1 : Int32) (s2 : Nat) (s3 : Int32), bl_sh[v1]? = some (9, 13) → bl_sh[v2]? = some (10, 28) → bl_sh[s2]? = some (10, 28) → (b_L_law_575 xs L k18) σ v1 v2 v3 s0 s1 s2 s3 = some out → ∀ (H : Heap) (locs : List Loc) (ls : Array Slot), bl_V g s σ H locs → lv_has ls 4 [(0, .ref b), (1, .ref (bl_ad g v1)), (2, .ref (bl_ad g v2)), (3, .int v3)] → W p l e room_1 s m #[Value.ref b] below meth c H locs 154 9053 (lw_Z below #[Value.ref b] s) (F0 m 575 ls [.int s0, .int s1, .ref (bl_ad g s2), .int s3]) := by
  intro σ v1 v2 v3 s0 s1 s2 s3 hv1 hv2 hs2 hf H locs ls V hl
  unfold b_L_law_575 at hf
  obtain ⟨r66, σ67, h68, hf⟩ := bl_bd_at hf
  refine bl_cVi (As := [.int s1, .int s0]) X V hl.1 hs2 rfl ml_L_55 mV_X10_loss (t_X10_loss l g σ s2 s1 s0 _ hs2 h68) rfl rfl ⟨Nat.le_of_ble_eq_true rfl, Nat.le_of_ble_eq_true rfl⟩ rfl rfl (Nat.le_of_ble_eq_true rfl) ⟨Nat.le_of_ble_eq_true rfl, Nat.le_of_ble_eq_true rfl⟩ dL_law_575 (fun H locs V => ?_)
  refine lv_icmp_eq (tgt := 2362) X.1 X.2.1 dL_law_578 (by decide) (fun c69 => ?_) (fun c69 => ?_)
  · have hf := bl_ifp c69 hf
    exact w_L_law_2362 ho hX hbl hbA hg X hr k18 hk18 σ67 v1 v2 v3 hv1 hv2 hf _ _ _ V (lv_sub hl [0, 1, 2, 3] rfl)
  · have hf := bl_ifn c69 hf
    refine lv_iconst (v := 0) X.1 X.2.1 dL_law_581 (by decide) ?_
    cases hf
    exact absurd (show (0 : Int32) = 1 from ho) (by decide)
set_option maxHeartbeats 40000000 in
set_option maxRecDepth 100000 in
theorem w_L_law_553 {p : Program} {l : Launch} {e : Env} {s : State} {m : MethodId} {below : List Frame} {meth : Method} {c : Code} {g : bl_Gp} {b L : Nat} {xs : Nat → Int32} {out : Int32 × bl_St} (ho : out.1 = 1) (hX : va_X b L xs s s.heap) (hbl : b < s.heap.size) (hbA : ¬ bl_A g b) (hg : bl_b g = s.heap.size) (X : bl_Cx g p s m #[Value.ref b] meth c code 4 RL) (hr : meth.sig.returnType = ret) (k18 : bl_St → Nat → Nat → Int32 → Option (Int32 × bl_St)) (hk18 : ∀ (σ : bl_St) (v1 : Nat) (v2 : Nat) (v3 : Int32), bl_sh[v1]? = some (9, 13) → bl_sh[v2]? = some (10, 28) → k18 σ v1 v2 v3 = some out → ∀ (H : Heap) (locs : List Loc) (ls : Array Slot), bl_V g s σ H locs → lv_has ls 4 [(0, .ref b), (1, .ref (bl_ad g v1)), (2, .ref (bl_ad g v2)), (3, .int v3)] → W p l e room_1 s m #[Value.ref b] below meth c H locs 154 9053 (lw_Z below #[Value.ref b] s) (F0 m 18 ls [])) : ∀ (σ : bl_St) (v1 : Nat) (v2 : Nat) (v3 : Int32) (s0 : Int32) (s1 : Int32) (s2 : Nat), bl_sh[v1]? = some (9, 13) → bl_sh[v2]? = some (10, 28) → bl_sh[s2]? = some (9, 13) → (b_L_law_553 xs L k18) σ v1 v2 v3 s0 s1 s2 = some out → ∀ (H : Heap) (locs : List Loc) (ls : Array Slot), bl_V g s σ H locs → lv_has ls 4 [(0, .ref b), (1, .ref (bl_ad g v1)), (2, .ref (bl_ad g v2)), (3, .int v3)] → W p l e room_1 s m #[Value.ref b] below meth c H locs 154 9053 (lw_Z below #[Value.ref b] s) (F0 m 553 ls [.int s0, .int s1, .ref (bl_ad g s2)]) := by
  intro σ v1 v2 v3 s0 s1 s2 hv1 hv2 hs2 hf H locs ls V hl
  unfold b_L_law_553 at hf
  obtain ⟨r70, σ71, h72, hf⟩ := bl_bd_at hf
  refine bl_cVi (As := [.int s1, .int s0]) X V hl.1 hs2 rfl ml_L_51 mV_X9_loss (t_X9_loss l g σ s2 s1 s0 _ hs2 h72) rfl rfl ⟨Nat.le_of_ble_eq_true rfl, Nat.le_of_ble_eq_true rfl⟩ rfl rfl (Nat.le_of_ble_eq_true rfl) ⟨Nat.le_of_ble_eq_true rfl, Nat.le_of_ble_eq_true rfl⟩ dL_law_553 (fun H locs V => ?_)
  refine lv_aload_n X.1 X.2.1 dL_law_556 rfl (lv_at hl 2 rfl) ?_
  refine lv_aload_n X.1 X.2.1 dL_law_557 rfl (lv_at hl 0 rfl) ?_
  refine lv_iload_n X.1 X.2.1 dL_law_558 rfl (lv_at hl 3 rfl) ?_
  refine lv_iconst (v := 1) X.1 X.2.1 dL_law_559 (by decide) ?_
  refine lv_iadd X.1 X.2.1 dL_law_560 ?_
  obtain ⟨h73, hf⟩ := bl_gd_at hf
  refine va_sld X.1 X.2.1 hX hbl hbA V.2 (bl_in_vp h73) dL_law_561 ?_
  refine lv_aload_n X.1 X.2.1 dL_law_562 rfl (lv_at hl 0 rfl) ?_
  refine lv_iload_n X.1 X.2.1 dL_law_563 rfl (lv_at hl 3 rfl) ?_
  refine lv_iconst (v := 2) X.1 X.2.1 dL_law_564 (by decide) ?_
  refine lv_iadd X.1 X.2.1 dL_law_565 ?_
  obtain ⟨h74, hf⟩ := bl_gd_at hf
  refine va_sld X.1 X.2.1 hX hbl hbA V.2 (bl_in_vp h74) dL_law_566 ?_
  refine lv_if_eq (tgt := 574) X.1 X.2.1 dL_law_567 (by decide) (fun c75 => ?_) (fun c75 => ?_)
  · have hf := bl_ifp c75 hf
    refine lv_iconst (v := 0) X.1 X.2.1 dL_law_574 (by decide) ?_
    exact w_L_law_575 ho hX hbl hbA hg X hr k18 hk18 σ71 v1 v2 v3 0 (xs (Int32.toNatClampNeg (v3 + 1))) v2 r70 hv1 hv2 hv2 hf _ _ _ V (lv_sub hl [0, 1, 2, 3] rfl)
  · have hf := bl_ifn c75 hf
    refine lv_iconst (v := 1) X.1 X.2.1 dL_law_570 (by decide) ?_
    refine lv_goto (tgt := 575) X.1 X.2.1 dL_law_571 (by decide) ?_
    exact w_L_law_575 ho hX hbl hbA hg X hr k18 hk18 σ71 v1 v2 v3 1 (xs (Int32.toNatClampNeg (v3 + 1))) v2 r70 hv1 hv2 hv2 hf _ _ _ V (lv_sub hl [0, 1, 2, 3] rfl)
set_option maxHeartbeats 40000000 in
set_option maxRecDepth 100000 in
theorem w_L_law_513 {p : Program} {l : Launch} {e : Env} {s : State} {m : MethodId} {below : List Frame} {meth : Method} {c : Code} {g : bl_Gp} {b L : Nat} {xs : Nat → Int32} {out : Int32 × bl_St} (ho : out.1 = 1) (hX : va_X b L xs s s.heap) (hbl : b < s.heap.size) (hbA : ¬ bl_A g b) (hg : bl_b g = s.heap.size) (X : bl_Cx g p s m #[Value.ref b] meth c code 4 RL) (hr : meth.sig.returnType = ret) (k18 : bl_St → Nat → Nat → Int32 → Option (Int32 × bl_St)) (hk18 : ∀ (σ : bl_St) (v1 : Nat) (v2 : Nat) (v3 : Int32), bl_sh[v1]? = some (9, 13) → bl_sh[v2]? = some (10, 28) → k18 σ v1 v2 v3 = some out → ∀ (H : Heap) (locs : List Loc) (ls : Array Slot), bl_V g s σ H locs → lv_has ls 4 [(0, .ref b), (1, .ref (bl_ad g v1)), (2, .ref (bl_ad g v2)), (3, .int v3)] → W p l e room_1 s m #[Value.ref b] below meth c H locs 154 9053 (lw_Z below #[Value.ref b] s) (F0 m 18 ls [])) : ∀ (σ : bl_St) (v1 : Nat) (v2 : Nat) (v3 : Int32) (s0 : Int32) (s1 : Nat) (s2 : Int32), bl_sh[v1]? = some (9, 13) → bl_sh[v2]? = some (10, 28) → bl_sh[s1]? = some (10, 28) → (b_L_law_513 xs L k18) σ v1 v2 v3 s0 s1 s2 = some out → ∀ (H : Heap) (locs : List Loc) (ls : Array Slot), bl_V g s σ H locs → lv_has ls 4 [(0, .ref b), (1, .ref (bl_ad g v1)), (2, .ref (bl_ad g v2)), (3, .int v3)] → W p l e room_1 s m #[Value.ref b] below meth c H locs 154 9053 (lw_Z below #[Value.ref b] s) (F0 m 513 ls [.int s0, .ref (bl_ad g s1), .int s2]) := by
  intro σ v1 v2 v3 s0 s1 s2 hv1 hv2 hs1 hf H locs ls V hl
  unfold b_L_law_513 at hf
  obtain ⟨r76, σ77, h78, hf⟩ := bl_bd_at hf
  refine bl_cVi (As := [.int s0]) X V hl.1 hs1 rfl ml_L_46 mV_X10_begin (t_X10_begin l g σ s1 s0 _ hs1 h78) rfl rfl ⟨Nat.le_of_ble_eq_true rfl, Nat.le_of_ble_eq_true rfl⟩ rfl rfl (Nat.le_of_ble_eq_true rfl) ⟨Nat.le_of_ble_eq_true rfl, Nat.le_of_ble_eq_true rfl⟩ dL_law_513 (fun H locs V => ?_)
  refine lv_icmp_eq (tgt := 2362) X.1 X.2.1 dL_law_516 (by decide) (fun c79 => ?_) (fun c79 => ?_)
  · have hf := bl_ifp c79 hf
    exact w_L_law_2362 ho hX hbl hbA hg X hr k18 hk18 σ77 v1 v2 v3 hv1 hv2 hf _ _ _ V (lv_sub hl [0, 1, 2, 3] rfl)
  · have hf := bl_ifn c79 hf
    refine lv_iconst (v := 0) X.1 X.2.1 dL_law_519 (by decide) ?_
    cases hf
    exact absurd (show (0 : Int32) = 1 from ho) (by decide)
set_option maxHeartbeats 40000000 in
set_option maxRecDepth 100000 in
theorem w_L_law_496 {p : Program} {l : Launch} {e : Env} {s : State} {m : MethodId} {below : List Frame} {meth : Method} {c : Code} {g : bl_Gp} {b L : Nat} {xs : Nat → Int32} {out : Int32 × bl_St} (ho : out.1 = 1) (hX : va_X b L xs s s.heap) (hbl : b < s.heap.size) (hbA : ¬ bl_A g b) (hg : bl_b g = s.heap.size) (X : bl_Cx g p s m #[Value.ref b] meth c code 4 RL) (hr : meth.sig.returnType = ret) (k18 : bl_St → Nat → Nat → Int32 → Option (Int32 × bl_St)) (hk18 : ∀ (σ : bl_St) (v1 : Nat) (v2 : Nat) (v3 : Int32), bl_sh[v1]? = some (9, 13) → bl_sh[v2]? = some (10, 28) → k18 σ v1 v2 v3 = some out → ∀ (H : Heap) (locs : List Loc) (ls : Array Slot), bl_V g s σ H locs → lv_has ls 4 [(0, .ref b), (1, .ref (bl_ad g v1)), (2, .ref (bl_ad g v2)), (3, .int v3)] → W p l e room_1 s m #[Value.ref b] below meth c H locs 154 9053 (lw_Z below #[Value.ref b] s) (F0 m 18 ls [])) : ∀ (σ : bl_St) (v1 : Nat) (v2 : Nat) (v3 : Int32) (s0 : Int32) (s1 : Nat), bl_sh[v1]? = some (9, 13) → bl_sh[v2]? = some (10, 28) → bl_sh[s1]? = some (9, 13) → (b_L_law_496 xs L k18) σ v1 v2 v3 s0 s1 = some out → ∀ (H : Heap) (locs : List Loc) (ls : Array Slot), bl_V g s σ H locs → lv_has ls 4 [(0, .ref b), (1, .ref (bl_ad g v1)), (2, .ref (bl_ad g v2)), (3, .int v3)] → W p l e room_1 s m #[Value.ref b] below meth c H locs 154 9053 (lw_Z below #[Value.ref b] s) (F0 m 496 ls [.int s0, .ref (bl_ad g s1)]) := by
  intro σ v1 v2 v3 s0 s1 hv1 hv2 hs1 hf H locs ls V hl
  unfold b_L_law_496 at hf
  obtain ⟨r80, σ81, h82, hf⟩ := bl_bd_at hf
  refine bl_cVi (As := [.int s0]) X V hl.1 hs1 rfl ml_L_42 mV_X9_begin (t_X9_begin l g σ s1 s0 _ hs1 h82) rfl rfl ⟨Nat.le_of_ble_eq_true rfl, Nat.le_of_ble_eq_true rfl⟩ rfl rfl (Nat.le_of_ble_eq_true rfl) ⟨Nat.le_of_ble_eq_true rfl, Nat.le_of_ble_eq_true rfl⟩ dL_law_496 (fun H locs V => ?_)
  refine lv_aload_n X.1 X.2.1 dL_law_499 rfl (lv_at hl 2 rfl) ?_
  refine lv_aload_n X.1 X.2.1 dL_law_500 rfl (lv_at hl 0 rfl) ?_
  refine lv_iload_n X.1 X.2.1 dL_law_501 rfl (lv_at hl 3 rfl) ?_
  refine lv_iconst (v := 1) X.1 X.2.1 dL_law_502 (by decide) ?_
  refine lv_iadd X.1 X.2.1 dL_law_503 ?_
  obtain ⟨h83, hf⟩ := bl_gd_at hf
  refine va_sld X.1 X.2.1 hX hbl hbA V.2 (bl_in_vp h83) dL_law_504 ?_
  refine lv_if_eq (tgt := 512) X.1 X.2.1 dL_law_505 (by decide) (fun c84 => ?_) (fun c84 => ?_)
  · have hf := bl_ifp c84 hf
    refine lv_iconst (v := 0) X.1 X.2.1 dL_law_512 (by decide) ?_
    exact w_L_law_513 ho hX hbl hbA hg X hr k18 hk18 σ81 v1 v2 v3 0 v2 r80 hv1 hv2 hv2 hf _ _ _ V (lv_sub hl [0, 1, 2, 3] rfl)
  · have hf := bl_ifn c84 hf
    refine lv_iconst (v := 1) X.1 X.2.1 dL_law_508 (by decide) ?_
    refine lv_goto (tgt := 513) X.1 X.2.1 dL_law_509 (by decide) ?_
    exact w_L_law_513 ho hX hbl hbA hg X hr k18 hk18 σ81 v1 v2 v3 1 v2 r80 hv1 hv2 hv2 hf _ _ _ V (lv_sub hl [0, 1, 2, 3] rfl)
set_option maxHeartbeats 40000000 in
set_option maxRecDepth 100000 in
theorem w_L_law_18 {p : Program} {l : Launch} {e : Env} {s : State} {m : MethodId} {below : List Frame} {meth : Method} {c : Code} {g : bl_Gp} {b L : Nat} {xs : Nat → Int32} {out : Int32 × bl_St} (ho : out.1 = 1) (hX : va_X b L xs s s.heap) (hbl : b < s.heap.size) (hbA : ¬ bl_A g b) (hg : bl_b g = s.heap.size) (X : bl_Cx g p s m #[Value.ref b] meth c code 4 RL) (hr : meth.sig.returnType = ret) (k18 : bl_St → Nat → Nat → Int32 → Option (Int32 × bl_St)) (hk18 : ∀ (σ : bl_St) (v1 : Nat) (v2 : Nat) (v3 : Int32), bl_sh[v1]? = some (9, 13) → bl_sh[v2]? = some (10, 28) → k18 σ v1 v2 v3 = some out → ∀ (H : Heap) (locs : List Loc) (ls : Array Slot), bl_V g s σ H locs → lv_has ls 4 [(0, .ref b), (1, .ref (bl_ad g v1)), (2, .ref (bl_ad g v2)), (3, .int v3)] → W p l e room_1 s m #[Value.ref b] below meth c H locs 154 9053 (lw_Z below #[Value.ref b] s) (F0 m 18 ls [])) : ∀ (σ : bl_St) (v1 : Nat) (v2 : Nat) (v3 : Int32), bl_sh[v1]? = some (9, 13) → bl_sh[v2]? = some (10, 28) → (b_L_law_18 xs L k18) σ v1 v2 v3 = some out → ∀ (H : Heap) (locs : List Loc) (ls : Array Slot), bl_V g s σ H locs → lv_has ls 4 [(0, .ref b), (1, .ref (bl_ad g v1)), (2, .ref (bl_ad g v2)), (3, .int v3)] → W p l e room_1 s m #[Value.ref b] below meth c H locs 154 9053 (lw_Z below #[Value.ref b] s) (F0 m 18 ls []) := by
  intro σ v1 v2 v3 hv1 hv2 hf H locs ls V hl
  unfold b_L_law_18 at hf
  refine lv_iload_n X.1 X.2.1 dL_law_18 rfl (lv_at hl 3 rfl) ?_
  refine lv_aload_n X.1 X.2.1 dL_law_19 rfl (lv_at hl 0 rfl) ?_
  refine va_slen X.1 X.2.1 hX hbl hbA V.2 dL_law_20 ?_
  refine lv_bipush (v := 7) X.1 X.2.1 dL_law_21 (by decide) ?_
  refine lv_isub X.1 X.2.1 dL_law_23 ?_
  refine lv_icmp_gt (tgt := 2368) X.1 X.2.1 dL_law_24 (by decide) (fun c85 => ?_) (fun c85 => ?_)
  · have hf := bl_ifp c85 hf
    refine lv_iconst (v := 1) X.1 X.2.1 dL_law_2368 (by decide) ?_
    exact bl_fin hg X V hr dL_law_2369
  · have hf := bl_ifn c85 hf
    refine lv_aload_n X.1 X.2.1 dL_law_27 rfl (lv_at hl 0 rfl) ?_
    refine lv_iload_n X.1 X.2.1 dL_law_28 rfl (lv_at hl 3 rfl) ?_
    obtain ⟨h86, hf⟩ := bl_gd_at hf
    refine va_sld X.1 X.2.1 hX hbl hbA V.2 (bl_in_vp h86) dL_law_29 ?_
    refine lv_bipush (v := 63) X.1 X.2.1 dL_law_30 (by decide) ?_
    refine lv_iand X.1 X.2.1 dL_law_32 ?_
    by_cases c87 : ((xs (Int32.toNatClampNeg v3)) &&& 63) = 0
    · have hf := bl_ifp c87 hf
      refine bl_swI (v := 0) (tgt := 264) X dL_law_33 (by rw [c87]; decide) (by decide) rfl (by decide) ?_
      refine lv_aload_n X.1 X.2.1 dL_law_264 rfl (lv_at hl 1 rfl) ?_
      refine lv_aload_n X.1 X.2.1 dL_law_265 rfl (lv_at hl 0 rfl) ?_
      refine lv_iload_n X.1 X.2.1 dL_law_266 rfl (lv_at hl 3 rfl) ?_
      refine lv_iconst (v := 1) X.1 X.2.1 dL_law_267 (by decide) ?_
      refine lv_iadd X.1 X.2.1 dL_law_268 ?_
      obtain ⟨h88, hf⟩ := bl_gd_at hf
      refine va_sld X.1 X.2.1 hX hbl hbA V.2 (bl_in_vp h88) dL_law_269 ?_
      refine lv_aload_n X.1 X.2.1 dL_law_270 rfl (lv_at hl 0 rfl) ?_
      refine lv_iload_n X.1 X.2.1 dL_law_271 rfl (lv_at hl 3 rfl) ?_
      refine lv_iconst (v := 2) X.1 X.2.1 dL_law_272 (by decide) ?_
      refine lv_iadd X.1 X.2.1 dL_law_273 ?_
      obtain ⟨h89, hf⟩ := bl_gd_at hf
      refine va_sld X.1 X.2.1 hX hbl hbA V.2 (bl_in_vp h89) dL_law_274 ?_
      refine lv_aload_n X.1 X.2.1 dL_law_275 rfl (lv_at hl 0 rfl) ?_
      refine lv_iload_n X.1 X.2.1 dL_law_276 rfl (lv_at hl 3 rfl) ?_
      refine lv_iconst (v := 3) X.1 X.2.1 dL_law_277 (by decide) ?_
      refine lv_iadd X.1 X.2.1 dL_law_278 ?_
      obtain ⟨h90, hf⟩ := bl_gd_at hf
      refine va_sld X.1 X.2.1 hX hbl hbA V.2 (bl_in_vp h90) dL_law_279 ?_
      refine lv_aload_n X.1 X.2.1 dL_law_280 rfl (lv_at hl 0 rfl) ?_
      refine lv_iload_n X.1 X.2.1 dL_law_281 rfl (lv_at hl 3 rfl) ?_
      refine lv_iconst (v := 4) X.1 X.2.1 dL_law_282 (by decide) ?_
      refine lv_iadd X.1 X.2.1 dL_law_283 ?_
      obtain ⟨h91, hf⟩ := bl_gd_at hf
      refine va_sld X.1 X.2.1 hX hbl hbA V.2 (bl_in_vp h91) dL_law_284 ?_
      refine lv_aload_n X.1 X.2.1 dL_law_285 rfl (lv_at hl 0 rfl) ?_
      refine lv_iload_n X.1 X.2.1 dL_law_286 rfl (lv_at hl 3 rfl) ?_
      refine lv_iconst (v := 5) X.1 X.2.1 dL_law_287 (by decide) ?_
      refine lv_iadd X.1 X.2.1 dL_law_288 ?_
      obtain ⟨h92, hf⟩ := bl_gd_at hf
      refine va_sld X.1 X.2.1 hX hbl hbA V.2 (bl_in_vp h92) dL_law_289 ?_
      obtain ⟨r93, σ94, h95, hf⟩ := bl_bd_at hf
      refine bl_cVi (As := [.int (xs (Int32.toNatClampNeg (v3 + 1))), .int (xs (Int32.toNatClampNeg (v3 + 2))), .int (xs (Int32.toNatClampNeg (v3 + 3))), .int (xs (Int32.toNatClampNeg (v3 + 4))), .int (xs (Int32.toNatClampNeg (v3 + 5)))]) X V hl.1 hv1 rfl ml_L_13 mV_X9_feed (t_X9_feed l g σ v1 (xs (Int32.toNatClampNeg (v3 + 1))) (xs (Int32.toNatClampNeg (v3 + 2))) (xs (Int32.toNatClampNeg (v3 + 3))) (xs (Int32.toNatClampNeg (v3 + 4))) (xs (Int32.toNatClampNeg (v3 + 5))) _ hv1 h95) rfl rfl ⟨Nat.le_of_ble_eq_true rfl, Nat.le_of_ble_eq_true rfl⟩ rfl rfl (Nat.le_of_ble_eq_true rfl) ⟨Nat.le_of_ble_eq_true rfl, Nat.le_of_ble_eq_true rfl⟩ dL_law_290 (fun H locs V => ?_)
      refine lv_aload_n X.1 X.2.1 dL_law_293 rfl (lv_at hl 2 rfl) ?_
      refine lv_aload_n X.1 X.2.1 dL_law_294 rfl (lv_at hl 0 rfl) ?_
      refine lv_iload_n X.1 X.2.1 dL_law_295 rfl (lv_at hl 3 rfl) ?_
      refine lv_iconst (v := 1) X.1 X.2.1 dL_law_296 (by decide) ?_
      refine lv_iadd X.1 X.2.1 dL_law_297 ?_
      obtain ⟨h96, hf⟩ := bl_gd_at hf
      refine va_sld X.1 X.2.1 hX hbl hbA V.2 (bl_in_vp h96) dL_law_298 ?_
      refine lv_aload_n X.1 X.2.1 dL_law_299 rfl (lv_at hl 0 rfl) ?_
      refine lv_iload_n X.1 X.2.1 dL_law_300 rfl (lv_at hl 3 rfl) ?_
      refine lv_iconst (v := 2) X.1 X.2.1 dL_law_301 (by decide) ?_
      refine lv_iadd X.1 X.2.1 dL_law_302 ?_
      obtain ⟨h97, hf⟩ := bl_gd_at hf
      refine va_sld X.1 X.2.1 hX hbl hbA V.2 (bl_in_vp h97) dL_law_303 ?_
      refine lv_aload_n X.1 X.2.1 dL_law_304 rfl (lv_at hl 0 rfl) ?_
      refine lv_iload_n X.1 X.2.1 dL_law_305 rfl (lv_at hl 3 rfl) ?_
      refine lv_iconst (v := 3) X.1 X.2.1 dL_law_306 (by decide) ?_
      refine lv_iadd X.1 X.2.1 dL_law_307 ?_
      obtain ⟨h98, hf⟩ := bl_gd_at hf
      refine va_sld X.1 X.2.1 hX hbl hbA V.2 (bl_in_vp h98) dL_law_308 ?_
      refine lv_aload_n X.1 X.2.1 dL_law_309 rfl (lv_at hl 0 rfl) ?_
      refine lv_iload_n X.1 X.2.1 dL_law_310 rfl (lv_at hl 3 rfl) ?_
      refine lv_iconst (v := 4) X.1 X.2.1 dL_law_311 (by decide) ?_
      refine lv_iadd X.1 X.2.1 dL_law_312 ?_
      obtain ⟨h99, hf⟩ := bl_gd_at hf
      refine va_sld X.1 X.2.1 hX hbl hbA V.2 (bl_in_vp h99) dL_law_313 ?_
      refine lv_aload_n X.1 X.2.1 dL_law_314 rfl (lv_at hl 0 rfl) ?_
      refine lv_iload_n X.1 X.2.1 dL_law_315 rfl (lv_at hl 3 rfl) ?_
      refine lv_iconst (v := 5) X.1 X.2.1 dL_law_316 (by decide) ?_
      refine lv_iadd X.1 X.2.1 dL_law_317 ?_
      obtain ⟨h100, hf⟩ := bl_gd_at hf
      refine va_sld X.1 X.2.1 hX hbl hbA V.2 (bl_in_vp h100) dL_law_318 ?_
      obtain ⟨r101, σ102, h103, hf⟩ := bl_bd_at hf
      refine bl_cVi (As := [.int (xs (Int32.toNatClampNeg (v3 + 1))), .int (xs (Int32.toNatClampNeg (v3 + 2))), .int (xs (Int32.toNatClampNeg (v3 + 3))), .int (xs (Int32.toNatClampNeg (v3 + 4))), .int (xs (Int32.toNatClampNeg (v3 + 5)))]) X V hl.1 hv2 rfl ml_L_17 mV_X10_feed (t_X10_feed l g σ94 v2 (xs (Int32.toNatClampNeg (v3 + 1))) (xs (Int32.toNatClampNeg (v3 + 2))) (xs (Int32.toNatClampNeg (v3 + 3))) (xs (Int32.toNatClampNeg (v3 + 4))) (xs (Int32.toNatClampNeg (v3 + 5))) _ hv2 h103) rfl rfl ⟨Nat.le_of_ble_eq_true rfl, Nat.le_of_ble_eq_true rfl⟩ rfl rfl (Nat.le_of_ble_eq_true rfl) ⟨Nat.le_of_ble_eq_true rfl, Nat.le_of_ble_eq_true rfl⟩ dL_law_319 (fun H locs V => ?_)
      refine lv_icmp_eq (tgt := 2362) X.1 X.2.1 dL_law_322 (by decide) (fun c104 => ?_) (fun c104 => ?_)
      · have hf := bl_ifp c104 hf
        exact w_L_law_2362 ho hX hbl hbA hg X hr k18 hk18 σ102 v1 v2 v3 hv1 hv2 hf _ _ _ V (lv_sub hl [0, 1, 2, 3] rfl)
      · have hf := bl_ifn c104 hf
        refine lv_iconst (v := 0) X.1 X.2.1 dL_law_325 (by decide) ?_
        cases hf
        exact absurd (show (0 : Int32) = 1 from ho) (by decide)
    have hf := bl_ifn c87 hf
    by_cases c105 : ((xs (Int32.toNatClampNeg v3)) &&& 63) = 1
    · have hf := bl_ifp c105 hf
      refine bl_swI (v := 1) (tgt := 327) X dL_law_33 (by rw [c105]; decide) (by decide) rfl (by decide) ?_
      refine lv_aload_n X.1 X.2.1 dL_law_327 rfl (lv_at hl 1 rfl) ?_
      refine lv_aload_n X.1 X.2.1 dL_law_328 rfl (lv_at hl 0 rfl) ?_
      refine lv_iload_n X.1 X.2.1 dL_law_329 rfl (lv_at hl 3 rfl) ?_
      refine lv_iconst (v := 1) X.1 X.2.1 dL_law_330 (by decide) ?_
      refine lv_iadd X.1 X.2.1 dL_law_331 ?_
      obtain ⟨h106, hf⟩ := bl_gd_at hf
      refine va_sld X.1 X.2.1 hX hbl hbA V.2 (bl_in_vp h106) dL_law_332 ?_
      obtain ⟨r107, σ108, h109, hf⟩ := bl_bd_at hf
      refine bl_cVi (As := [.int (xs (Int32.toNatClampNeg (v3 + 1)))]) X V hl.1 hv1 rfl ml_L_18 mV_X9_back (t_X9_back l g σ v1 (xs (Int32.toNatClampNeg (v3 + 1))) _ hv1 h109) rfl rfl ⟨Nat.le_of_ble_eq_true rfl, Nat.le_of_ble_eq_true rfl⟩ rfl rfl (Nat.le_of_ble_eq_true rfl) ⟨Nat.le_of_ble_eq_true rfl, Nat.le_of_ble_eq_true rfl⟩ dL_law_333 (fun H locs V => ?_)
      refine lv_aload_n X.1 X.2.1 dL_law_336 rfl (lv_at hl 2 rfl) ?_
      refine lv_aload_n X.1 X.2.1 dL_law_337 rfl (lv_at hl 0 rfl) ?_
      refine lv_iload_n X.1 X.2.1 dL_law_338 rfl (lv_at hl 3 rfl) ?_
      refine lv_iconst (v := 1) X.1 X.2.1 dL_law_339 (by decide) ?_
      refine lv_iadd X.1 X.2.1 dL_law_340 ?_
      obtain ⟨h110, hf⟩ := bl_gd_at hf
      refine va_sld X.1 X.2.1 hX hbl hbA V.2 (bl_in_vp h110) dL_law_341 ?_
      obtain ⟨r111, σ112, h113, hf⟩ := bl_bd_at hf
      refine bl_cVi (As := [.int (xs (Int32.toNatClampNeg (v3 + 1)))]) X V hl.1 hv2 rfl ml_L_22 mV_X10_back (t_X10_back l g σ108 v2 (xs (Int32.toNatClampNeg (v3 + 1))) _ hv2 h113) rfl rfl ⟨Nat.le_of_ble_eq_true rfl, Nat.le_of_ble_eq_true rfl⟩ rfl rfl (Nat.le_of_ble_eq_true rfl) ⟨Nat.le_of_ble_eq_true rfl, Nat.le_of_ble_eq_true rfl⟩ dL_law_342 (fun H locs V => ?_)
      refine lv_icmp_eq (tgt := 2362) X.1 X.2.1 dL_law_345 (by decide) (fun c114 => ?_) (fun c114 => ?_)
      · have hf := bl_ifp c114 hf
        exact w_L_law_2362 ho hX hbl hbA hg X hr k18 hk18 σ112 v1 v2 v3 hv1 hv2 hf _ _ _ V (lv_sub hl [0, 1, 2, 3] rfl)
      · have hf := bl_ifn c114 hf
        refine lv_iconst (v := 0) X.1 X.2.1 dL_law_348 (by decide) ?_
        cases hf
        exact absurd (show (0 : Int32) = 1 from ho) (by decide)
    have hf := bl_ifn c105 hf
    by_cases c115 : ((xs (Int32.toNatClampNeg v3)) &&& 63) = 2
    · have hf := bl_ifp c115 hf
      refine bl_swI (v := 2) (tgt := 350) X dL_law_33 (by rw [c115]; decide) (by decide) rfl (by decide) ?_
      refine lv_aload_n X.1 X.2.1 dL_law_350 rfl (lv_at hl 1 rfl) ?_
      obtain ⟨r116, σ117, h118, hf⟩ := bl_bd_at hf
      refine bl_cVi (As := []) X V hl.1 hv1 rfl ml_L_23 mV_X9_text (t_X9_text l g σ v1 _ hv1 h118) rfl rfl ⟨Nat.le_of_ble_eq_true rfl, Nat.le_of_ble_eq_true rfl⟩ rfl rfl (Nat.le_of_ble_eq_true rfl) ⟨Nat.le_of_ble_eq_true rfl, Nat.le_of_ble_eq_true rfl⟩ dL_law_351 (fun H locs V => ?_)
      refine lv_aload_n X.1 X.2.1 dL_law_354 rfl (lv_at hl 2 rfl) ?_
      obtain ⟨r119, σ120, h121, hf⟩ := bl_bd_at hf
      refine bl_cVi (As := []) X V hl.1 hv2 rfl ml_L_27 mV_X10_text (t_X10_text l g σ117 v2 _ hv2 h121) rfl rfl ⟨Nat.le_of_ble_eq_true rfl, Nat.le_of_ble_eq_true rfl⟩ rfl rfl (Nat.le_of_ble_eq_true rfl) ⟨Nat.le_of_ble_eq_true rfl, Nat.le_of_ble_eq_true rfl⟩ dL_law_355 (fun H locs V => ?_)
      refine lv_icmp_eq (tgt := 2362) X.1 X.2.1 dL_law_358 (by decide) (fun c122 => ?_) (fun c122 => ?_)
      · have hf := bl_ifp c122 hf
        exact w_L_law_2362 ho hX hbl hbA hg X hr k18 hk18 σ120 v1 v2 v3 hv1 hv2 hf _ _ _ V (lv_sub hl [0, 1, 2, 3] rfl)
      · have hf := bl_ifn c122 hf
        refine lv_iconst (v := 0) X.1 X.2.1 dL_law_361 (by decide) ?_
        cases hf
        exact absurd (show (0 : Int32) = 1 from ho) (by decide)
    have hf := bl_ifn c115 hf
    by_cases c123 : ((xs (Int32.toNatClampNeg v3)) &&& 63) = 3
    · have hf := bl_ifp c123 hf
      refine bl_swI (v := 3) (tgt := 363) X dL_law_33 (by rw [c123]; decide) (by decide) rfl (by decide) ?_
      refine lv_aload_n X.1 X.2.1 dL_law_363 rfl (lv_at hl 1 rfl) ?_
      refine lv_aload_n X.1 X.2.1 dL_law_364 rfl (lv_at hl 0 rfl) ?_
      refine lv_iload_n X.1 X.2.1 dL_law_365 rfl (lv_at hl 3 rfl) ?_
      refine lv_iconst (v := 1) X.1 X.2.1 dL_law_366 (by decide) ?_
      refine lv_iadd X.1 X.2.1 dL_law_367 ?_
      obtain ⟨h124, hf⟩ := bl_gd_at hf
      refine va_sld X.1 X.2.1 hX hbl hbA V.2 (bl_in_vp h124) dL_law_368 ?_
      refine lv_aload_n X.1 X.2.1 dL_law_369 rfl (lv_at hl 0 rfl) ?_
      refine lv_iload_n X.1 X.2.1 dL_law_370 rfl (lv_at hl 3 rfl) ?_
      refine lv_iconst (v := 2) X.1 X.2.1 dL_law_371 (by decide) ?_
      refine lv_iadd X.1 X.2.1 dL_law_372 ?_
      obtain ⟨h125, hf⟩ := bl_gd_at hf
      refine va_sld X.1 X.2.1 hX hbl hbA V.2 (bl_in_vp h125) dL_law_373 ?_
      refine lv_aload_n X.1 X.2.1 dL_law_374 rfl (lv_at hl 0 rfl) ?_
      refine lv_iload_n X.1 X.2.1 dL_law_375 rfl (lv_at hl 3 rfl) ?_
      refine lv_iconst (v := 3) X.1 X.2.1 dL_law_376 (by decide) ?_
      refine lv_iadd X.1 X.2.1 dL_law_377 ?_
      obtain ⟨h126, hf⟩ := bl_gd_at hf
      refine va_sld X.1 X.2.1 hX hbl hbA V.2 (bl_in_vp h126) dL_law_378 ?_
      obtain ⟨r127, σ128, h129, hf⟩ := bl_bd_at hf
      refine bl_cVi (As := [.int (xs (Int32.toNatClampNeg (v3 + 1))), .int (xs (Int32.toNatClampNeg (v3 + 2))), .int (xs (Int32.toNatClampNeg (v3 + 3)))]) X V hl.1 hv1 rfl ml_L_28 mV_X9_set (t_X9_set l g σ v1 (xs (Int32.toNatClampNeg (v3 + 1))) (xs (Int32.toNatClampNeg (v3 + 2))) (xs (Int32.toNatClampNeg (v3 + 3))) _ hv1 h129) rfl rfl ⟨Nat.le_of_ble_eq_true rfl, Nat.le_of_ble_eq_true rfl⟩ rfl rfl (Nat.le_of_ble_eq_true rfl) ⟨Nat.le_of_ble_eq_true rfl, Nat.le_of_ble_eq_true rfl⟩ dL_law_379 (fun H locs V => ?_)
      refine lv_aload_n X.1 X.2.1 dL_law_382 rfl (lv_at hl 2 rfl) ?_
      refine lv_aload_n X.1 X.2.1 dL_law_383 rfl (lv_at hl 0 rfl) ?_
      refine lv_iload_n X.1 X.2.1 dL_law_384 rfl (lv_at hl 3 rfl) ?_
      refine lv_iconst (v := 1) X.1 X.2.1 dL_law_385 (by decide) ?_
      refine lv_iadd X.1 X.2.1 dL_law_386 ?_
      obtain ⟨h130, hf⟩ := bl_gd_at hf
      refine va_sld X.1 X.2.1 hX hbl hbA V.2 (bl_in_vp h130) dL_law_387 ?_
      refine lv_aload_n X.1 X.2.1 dL_law_388 rfl (lv_at hl 0 rfl) ?_
      refine lv_iload_n X.1 X.2.1 dL_law_389 rfl (lv_at hl 3 rfl) ?_
      refine lv_iconst (v := 2) X.1 X.2.1 dL_law_390 (by decide) ?_
      refine lv_iadd X.1 X.2.1 dL_law_391 ?_
      obtain ⟨h131, hf⟩ := bl_gd_at hf
      refine va_sld X.1 X.2.1 hX hbl hbA V.2 (bl_in_vp h131) dL_law_392 ?_
      refine lv_aload_n X.1 X.2.1 dL_law_393 rfl (lv_at hl 0 rfl) ?_
      refine lv_iload_n X.1 X.2.1 dL_law_394 rfl (lv_at hl 3 rfl) ?_
      refine lv_iconst (v := 3) X.1 X.2.1 dL_law_395 (by decide) ?_
      refine lv_iadd X.1 X.2.1 dL_law_396 ?_
      obtain ⟨h132, hf⟩ := bl_gd_at hf
      refine va_sld X.1 X.2.1 hX hbl hbA V.2 (bl_in_vp h132) dL_law_397 ?_
      obtain ⟨r133, σ134, h135, hf⟩ := bl_bd_at hf
      refine bl_cVi (As := [.int (xs (Int32.toNatClampNeg (v3 + 1))), .int (xs (Int32.toNatClampNeg (v3 + 2))), .int (xs (Int32.toNatClampNeg (v3 + 3)))]) X V hl.1 hv2 rfl ml_L_32 mV_X10_set (t_X10_set l g σ128 v2 (xs (Int32.toNatClampNeg (v3 + 1))) (xs (Int32.toNatClampNeg (v3 + 2))) (xs (Int32.toNatClampNeg (v3 + 3))) _ hv2 h135) rfl rfl ⟨Nat.le_of_ble_eq_true rfl, Nat.le_of_ble_eq_true rfl⟩ rfl rfl (Nat.le_of_ble_eq_true rfl) ⟨Nat.le_of_ble_eq_true rfl, Nat.le_of_ble_eq_true rfl⟩ dL_law_398 (fun H locs V => ?_)
      refine lv_icmp_eq (tgt := 2362) X.1 X.2.1 dL_law_401 (by decide) (fun c136 => ?_) (fun c136 => ?_)
      · have hf := bl_ifp c136 hf
        exact w_L_law_2362 ho hX hbl hbA hg X hr k18 hk18 σ134 v1 v2 v3 hv1 hv2 hf _ _ _ V (lv_sub hl [0, 1, 2, 3] rfl)
      · have hf := bl_ifn c136 hf
        refine lv_iconst (v := 0) X.1 X.2.1 dL_law_404 (by decide) ?_
        cases hf
        exact absurd (show (0 : Int32) = 1 from ho) (by decide)
    have hf := bl_ifn c123 hf
    by_cases c137 : ((xs (Int32.toNatClampNeg v3)) &&& 63) = 4
    · have hf := bl_ifp c137 hf
      refine bl_swI (v := 4) (tgt := 406) X dL_law_33 (by rw [c137]; decide) (by decide) rfl (by decide) ?_
      refine lv_aload_n X.1 X.2.1 dL_law_406 rfl (lv_at hl 1 rfl) ?_
      refine lv_aload_n X.1 X.2.1 dL_law_407 rfl (lv_at hl 0 rfl) ?_
      refine lv_iload_n X.1 X.2.1 dL_law_408 rfl (lv_at hl 3 rfl) ?_
      refine lv_iconst (v := 1) X.1 X.2.1 dL_law_409 (by decide) ?_
      refine lv_iadd X.1 X.2.1 dL_law_410 ?_
      obtain ⟨h138, hf⟩ := bl_gd_at hf
      refine va_sld X.1 X.2.1 hX hbl hbA V.2 (bl_in_vp h138) dL_law_411 ?_
      refine lv_aload_n X.1 X.2.1 dL_law_412 rfl (lv_at hl 0 rfl) ?_
      refine lv_iload_n X.1 X.2.1 dL_law_413 rfl (lv_at hl 3 rfl) ?_
      refine lv_iconst (v := 2) X.1 X.2.1 dL_law_414 (by decide) ?_
      refine lv_iadd X.1 X.2.1 dL_law_415 ?_
      obtain ⟨h139, hf⟩ := bl_gd_at hf
      refine va_sld X.1 X.2.1 hX hbl hbA V.2 (bl_in_vp h139) dL_law_416 ?_
      refine lv_aload_n X.1 X.2.1 dL_law_417 rfl (lv_at hl 0 rfl) ?_
      refine lv_iload_n X.1 X.2.1 dL_law_418 rfl (lv_at hl 3 rfl) ?_
      refine lv_iconst (v := 3) X.1 X.2.1 dL_law_419 (by decide) ?_
      refine lv_iadd X.1 X.2.1 dL_law_420 ?_
      obtain ⟨h140, hf⟩ := bl_gd_at hf
      refine va_sld X.1 X.2.1 hX hbl hbA V.2 (bl_in_vp h140) dL_law_421 ?_
      obtain ⟨r141, σ142, h143, hf⟩ := bl_bd_at hf
      refine bl_cVi (As := [.int (xs (Int32.toNatClampNeg (v3 + 1))), .int (xs (Int32.toNatClampNeg (v3 + 2))), .int (xs (Int32.toNatClampNeg (v3 + 3)))]) X V hl.1 hv1 rfl ml_L_33 mV_X9_sort (t_X9_sort l g σ v1 (xs (Int32.toNatClampNeg (v3 + 1))) (xs (Int32.toNatClampNeg (v3 + 2))) (xs (Int32.toNatClampNeg (v3 + 3))) _ hv1 h143) rfl rfl ⟨Nat.le_of_ble_eq_true rfl, Nat.le_of_ble_eq_true rfl⟩ rfl rfl (Nat.le_of_ble_eq_true rfl) ⟨Nat.le_of_ble_eq_true rfl, Nat.le_of_ble_eq_true rfl⟩ dL_law_422 (fun H locs V => ?_)
      refine lv_aload_n X.1 X.2.1 dL_law_425 rfl (lv_at hl 2 rfl) ?_
      refine lv_aload_n X.1 X.2.1 dL_law_426 rfl (lv_at hl 0 rfl) ?_
      refine lv_iload_n X.1 X.2.1 dL_law_427 rfl (lv_at hl 3 rfl) ?_
      refine lv_iconst (v := 1) X.1 X.2.1 dL_law_428 (by decide) ?_
      refine lv_iadd X.1 X.2.1 dL_law_429 ?_
      obtain ⟨h144, hf⟩ := bl_gd_at hf
      refine va_sld X.1 X.2.1 hX hbl hbA V.2 (bl_in_vp h144) dL_law_430 ?_
      refine lv_aload_n X.1 X.2.1 dL_law_431 rfl (lv_at hl 0 rfl) ?_
      refine lv_iload_n X.1 X.2.1 dL_law_432 rfl (lv_at hl 3 rfl) ?_
      refine lv_iconst (v := 2) X.1 X.2.1 dL_law_433 (by decide) ?_
      refine lv_iadd X.1 X.2.1 dL_law_434 ?_
      obtain ⟨h145, hf⟩ := bl_gd_at hf
      refine va_sld X.1 X.2.1 hX hbl hbA V.2 (bl_in_vp h145) dL_law_435 ?_
      refine lv_aload_n X.1 X.2.1 dL_law_436 rfl (lv_at hl 0 rfl) ?_
      refine lv_iload_n X.1 X.2.1 dL_law_437 rfl (lv_at hl 3 rfl) ?_
      refine lv_iconst (v := 3) X.1 X.2.1 dL_law_438 (by decide) ?_
      refine lv_iadd X.1 X.2.1 dL_law_439 ?_
      obtain ⟨h146, hf⟩ := bl_gd_at hf
      refine va_sld X.1 X.2.1 hX hbl hbA V.2 (bl_in_vp h146) dL_law_440 ?_
      obtain ⟨r147, σ148, h149, hf⟩ := bl_bd_at hf
      refine bl_cVi (As := [.int (xs (Int32.toNatClampNeg (v3 + 1))), .int (xs (Int32.toNatClampNeg (v3 + 2))), .int (xs (Int32.toNatClampNeg (v3 + 3)))]) X V hl.1 hv2 rfl ml_L_36 mV_X10_sort (t_X10_sort l g σ142 v2 (xs (Int32.toNatClampNeg (v3 + 1))) (xs (Int32.toNatClampNeg (v3 + 2))) (xs (Int32.toNatClampNeg (v3 + 3))) _ hv2 h149) rfl rfl ⟨Nat.le_of_ble_eq_true rfl, Nat.le_of_ble_eq_true rfl⟩ rfl rfl (Nat.le_of_ble_eq_true rfl) ⟨Nat.le_of_ble_eq_true rfl, Nat.le_of_ble_eq_true rfl⟩ dL_law_441 (fun H locs V => ?_)
      refine lv_icmp_eq (tgt := 2362) X.1 X.2.1 dL_law_444 (by decide) (fun c150 => ?_) (fun c150 => ?_)
      · have hf := bl_ifp c150 hf
        exact w_L_law_2362 ho hX hbl hbA hg X hr k18 hk18 σ148 v1 v2 v3 hv1 hv2 hf _ _ _ V (lv_sub hl [0, 1, 2, 3] rfl)
      · have hf := bl_ifn c150 hf
        refine lv_iconst (v := 0) X.1 X.2.1 dL_law_447 (by decide) ?_
        cases hf
        exact absurd (show (0 : Int32) = 1 from ho) (by decide)
    have hf := bl_ifn c137 hf
    by_cases c151 : ((xs (Int32.toNatClampNeg v3)) &&& 63) = 5
    · have hf := bl_ifp c151 hf
      refine bl_swI (v := 5) (tgt := 449) X dL_law_33 (by rw [c151]; decide) (by decide) rfl (by decide) ?_
      refine lv_aload_n X.1 X.2.1 dL_law_449 rfl (lv_at hl 1 rfl) ?_
      refine lv_aload_n X.1 X.2.1 dL_law_450 rfl (lv_at hl 0 rfl) ?_
      refine lv_iload_n X.1 X.2.1 dL_law_451 rfl (lv_at hl 3 rfl) ?_
      refine lv_iconst (v := 1) X.1 X.2.1 dL_law_452 (by decide) ?_
      refine lv_iadd X.1 X.2.1 dL_law_453 ?_
      obtain ⟨h152, hf⟩ := bl_gd_at hf
      refine va_sld X.1 X.2.1 hX hbl hbA V.2 (bl_in_vp h152) dL_law_454 ?_
      refine lv_aload_n X.1 X.2.1 dL_law_455 rfl (lv_at hl 0 rfl) ?_
      refine lv_iload_n X.1 X.2.1 dL_law_456 rfl (lv_at hl 3 rfl) ?_
      refine lv_iconst (v := 2) X.1 X.2.1 dL_law_457 (by decide) ?_
      refine lv_iadd X.1 X.2.1 dL_law_458 ?_
      obtain ⟨h153, hf⟩ := bl_gd_at hf
      refine va_sld X.1 X.2.1 hX hbl hbA V.2 (bl_in_vp h153) dL_law_459 ?_
      obtain ⟨r154, σ155, h156, hf⟩ := bl_bd_at hf
      refine bl_cVi (As := [.int (xs (Int32.toNatClampNeg (v3 + 1))), .int (xs (Int32.toNatClampNeg (v3 + 2)))]) X V hl.1 hv1 rfl ml_L_37 mV_X9_rule (t_X9_rule l g σ v1 (xs (Int32.toNatClampNeg (v3 + 1))) (xs (Int32.toNatClampNeg (v3 + 2))) _ hv1 h156) rfl rfl ⟨Nat.le_of_ble_eq_true rfl, Nat.le_of_ble_eq_true rfl⟩ rfl rfl (Nat.le_of_ble_eq_true rfl) ⟨Nat.le_of_ble_eq_true rfl, Nat.le_of_ble_eq_true rfl⟩ dL_law_460 (fun H locs V => ?_)
      refine lv_aload_n X.1 X.2.1 dL_law_463 rfl (lv_at hl 2 rfl) ?_
      refine lv_aload_n X.1 X.2.1 dL_law_464 rfl (lv_at hl 0 rfl) ?_
      refine lv_iload_n X.1 X.2.1 dL_law_465 rfl (lv_at hl 3 rfl) ?_
      refine lv_iconst (v := 1) X.1 X.2.1 dL_law_466 (by decide) ?_
      refine lv_iadd X.1 X.2.1 dL_law_467 ?_
      obtain ⟨h157, hf⟩ := bl_gd_at hf
      refine va_sld X.1 X.2.1 hX hbl hbA V.2 (bl_in_vp h157) dL_law_468 ?_
      refine lv_aload_n X.1 X.2.1 dL_law_469 rfl (lv_at hl 0 rfl) ?_
      refine lv_iload_n X.1 X.2.1 dL_law_470 rfl (lv_at hl 3 rfl) ?_
      refine lv_iconst (v := 2) X.1 X.2.1 dL_law_471 (by decide) ?_
      refine lv_iadd X.1 X.2.1 dL_law_472 ?_
      obtain ⟨h158, hf⟩ := bl_gd_at hf
      refine va_sld X.1 X.2.1 hX hbl hbA V.2 (bl_in_vp h158) dL_law_473 ?_
      obtain ⟨r159, σ160, h161, hf⟩ := bl_bd_at hf
      refine bl_cVi (As := [.int (xs (Int32.toNatClampNeg (v3 + 1))), .int (xs (Int32.toNatClampNeg (v3 + 2)))]) X V hl.1 hv2 rfl ml_L_41 mV_X10_rule (t_X10_rule l g σ155 v2 (xs (Int32.toNatClampNeg (v3 + 1))) (xs (Int32.toNatClampNeg (v3 + 2))) _ hv2 h161) rfl rfl ⟨Nat.le_of_ble_eq_true rfl, Nat.le_of_ble_eq_true rfl⟩ rfl rfl (Nat.le_of_ble_eq_true rfl) ⟨Nat.le_of_ble_eq_true rfl, Nat.le_of_ble_eq_true rfl⟩ dL_law_474 (fun H locs V => ?_)
      refine lv_icmp_eq (tgt := 2362) X.1 X.2.1 dL_law_477 (by decide) (fun c162 => ?_) (fun c162 => ?_)
      · have hf := bl_ifp c162 hf
        exact w_L_law_2362 ho hX hbl hbA hg X hr k18 hk18 σ160 v1 v2 v3 hv1 hv2 hf _ _ _ V (lv_sub hl [0, 1, 2, 3] rfl)
      · have hf := bl_ifn c162 hf
        refine lv_iconst (v := 0) X.1 X.2.1 dL_law_480 (by decide) ?_
        cases hf
        exact absurd (show (0 : Int32) = 1 from ho) (by decide)
    have hf := bl_ifn c151 hf
    by_cases c163 : ((xs (Int32.toNatClampNeg v3)) &&& 63) = 6
    · have hf := bl_ifp c163 hf
      refine bl_swI (v := 6) (tgt := 482) X dL_law_33 (by rw [c163]; decide) (by decide) rfl (by decide) ?_
      refine lv_aload_n X.1 X.2.1 dL_law_482 rfl (lv_at hl 1 rfl) ?_
      refine lv_aload_n X.1 X.2.1 dL_law_483 rfl (lv_at hl 0 rfl) ?_
      refine lv_iload_n X.1 X.2.1 dL_law_484 rfl (lv_at hl 3 rfl) ?_
      refine lv_iconst (v := 1) X.1 X.2.1 dL_law_485 (by decide) ?_
      refine lv_iadd X.1 X.2.1 dL_law_486 ?_
      obtain ⟨h164, hf⟩ := bl_gd_at hf
      refine va_sld X.1 X.2.1 hX hbl hbA V.2 (bl_in_vp h164) dL_law_487 ?_
      refine lv_if_eq (tgt := 495) X.1 X.2.1 dL_law_488 (by decide) (fun c165 => ?_) (fun c165 => ?_)
      · have hf := bl_ifp c165 hf
        refine lv_iconst (v := 0) X.1 X.2.1 dL_law_495 (by decide) ?_
        exact w_L_law_496 ho hX hbl hbA hg X hr k18 hk18 σ v1 v2 v3 0 v1 hv1 hv2 hv1 hf _ _ _ V (lv_sub hl [0, 1, 2, 3] rfl)
      · have hf := bl_ifn c165 hf
        refine lv_iconst (v := 1) X.1 X.2.1 dL_law_491 (by decide) ?_
        refine lv_goto (tgt := 496) X.1 X.2.1 dL_law_492 (by decide) ?_
        exact w_L_law_496 ho hX hbl hbA hg X hr k18 hk18 σ v1 v2 v3 1 v1 hv1 hv2 hv1 hf _ _ _ V (lv_sub hl [0, 1, 2, 3] rfl)
    have hf := bl_ifn c163 hf
    by_cases c166 : ((xs (Int32.toNatClampNeg v3)) &&& 63) = 7
    · have hf := bl_ifp c166 hf
      refine bl_swI (v := 7) (tgt := 521) X dL_law_33 (by rw [c166]; decide) (by decide) rfl (by decide) ?_
      refine lv_aload_n X.1 X.2.1 dL_law_521 rfl (lv_at hl 1 rfl) ?_
      obtain ⟨r167, σ168, h169, hf⟩ := bl_bd_at hf
      refine bl_cVi (As := []) X V hl.1 hv1 rfl ml_L_47 mV_X9_quiet (t_X9_quiet l g σ v1 _ hv1 h169) rfl rfl ⟨Nat.le_of_ble_eq_true rfl, Nat.le_of_ble_eq_true rfl⟩ rfl rfl (Nat.le_of_ble_eq_true rfl) ⟨Nat.le_of_ble_eq_true rfl, Nat.le_of_ble_eq_true rfl⟩ dL_law_522 (fun H locs V => ?_)
      refine lv_aload_n X.1 X.2.1 dL_law_525 rfl (lv_at hl 2 rfl) ?_
      obtain ⟨r170, σ171, h172, hf⟩ := bl_bd_at hf
      refine bl_cVi (As := []) X V hl.1 hv2 rfl ml_L_50 mV_X10_quiet (t_X10_quiet l g σ168 v2 _ hv2 h172) rfl rfl ⟨Nat.le_of_ble_eq_true rfl, Nat.le_of_ble_eq_true rfl⟩ rfl rfl (Nat.le_of_ble_eq_true rfl) ⟨Nat.le_of_ble_eq_true rfl, Nat.le_of_ble_eq_true rfl⟩ dL_law_526 (fun H locs V => ?_)
      refine lv_icmp_eq (tgt := 2362) X.1 X.2.1 dL_law_529 (by decide) (fun c173 => ?_) (fun c173 => ?_)
      · have hf := bl_ifp c173 hf
        exact w_L_law_2362 ho hX hbl hbA hg X hr k18 hk18 σ171 v1 v2 v3 hv1 hv2 hf _ _ _ V (lv_sub hl [0, 1, 2, 3] rfl)
      · have hf := bl_ifn c173 hf
        refine lv_iconst (v := 0) X.1 X.2.1 dL_law_532 (by decide) ?_
        cases hf
        exact absurd (show (0 : Int32) = 1 from ho) (by decide)
    have hf := bl_ifn c166 hf
    by_cases c174 : ((xs (Int32.toNatClampNeg v3)) &&& 63) = 8
    · have hf := bl_ifp c174 hf
      refine bl_swI (v := 8) (tgt := 534) X dL_law_33 (by rw [c174]; decide) (by decide) rfl (by decide) ?_
      refine lv_aload_n X.1 X.2.1 dL_law_534 rfl (lv_at hl 1 rfl) ?_
      refine lv_aload_n X.1 X.2.1 dL_law_535 rfl (lv_at hl 0 rfl) ?_
      refine lv_iload_n X.1 X.2.1 dL_law_536 rfl (lv_at hl 3 rfl) ?_
      refine lv_iconst (v := 1) X.1 X.2.1 dL_law_537 (by decide) ?_
      refine lv_iadd X.1 X.2.1 dL_law_538 ?_
      obtain ⟨h175, hf⟩ := bl_gd_at hf
      refine va_sld X.1 X.2.1 hX hbl hbA V.2 (bl_in_vp h175) dL_law_539 ?_
      refine lv_aload_n X.1 X.2.1 dL_law_540 rfl (lv_at hl 0 rfl) ?_
      refine lv_iload_n X.1 X.2.1 dL_law_541 rfl (lv_at hl 3 rfl) ?_
      refine lv_iconst (v := 2) X.1 X.2.1 dL_law_542 (by decide) ?_
      refine lv_iadd X.1 X.2.1 dL_law_543 ?_
      obtain ⟨h176, hf⟩ := bl_gd_at hf
      refine va_sld X.1 X.2.1 hX hbl hbA V.2 (bl_in_vp h176) dL_law_544 ?_
      refine lv_if_eq (tgt := 552) X.1 X.2.1 dL_law_545 (by decide) (fun c177 => ?_) (fun c177 => ?_)
      · have hf := bl_ifp c177 hf
        refine lv_iconst (v := 0) X.1 X.2.1 dL_law_552 (by decide) ?_
        exact w_L_law_553 ho hX hbl hbA hg X hr k18 hk18 σ v1 v2 v3 0 (xs (Int32.toNatClampNeg (v3 + 1))) v1 hv1 hv2 hv1 hf _ _ _ V (lv_sub hl [0, 1, 2, 3] rfl)
      · have hf := bl_ifn c177 hf
        refine lv_iconst (v := 1) X.1 X.2.1 dL_law_548 (by decide) ?_
        refine lv_goto (tgt := 553) X.1 X.2.1 dL_law_549 (by decide) ?_
        exact w_L_law_553 ho hX hbl hbA hg X hr k18 hk18 σ v1 v2 v3 1 (xs (Int32.toNatClampNeg (v3 + 1))) v1 hv1 hv2 hv1 hf _ _ _ V (lv_sub hl [0, 1, 2, 3] rfl)
    have hf := bl_ifn c174 hf
    by_cases c178 : ((xs (Int32.toNatClampNeg v3)) &&& 63) = 9
    · have hf := bl_ifp c178 hf
      refine bl_swI (v := 9) (tgt := 583) X dL_law_33 (by rw [c178]; decide) (by decide) rfl (by decide) ?_
      refine lv_aload_n X.1 X.2.1 dL_law_583 rfl (lv_at hl 1 rfl) ?_
      refine lv_aload_n X.1 X.2.1 dL_law_584 rfl (lv_at hl 0 rfl) ?_
      refine lv_iload_n X.1 X.2.1 dL_law_585 rfl (lv_at hl 3 rfl) ?_
      refine lv_iconst (v := 1) X.1 X.2.1 dL_law_586 (by decide) ?_
      refine lv_iadd X.1 X.2.1 dL_law_587 ?_
      obtain ⟨h179, hf⟩ := bl_gd_at hf
      refine va_sld X.1 X.2.1 hX hbl hbA V.2 (bl_in_vp h179) dL_law_588 ?_
      refine lv_aload_n X.1 X.2.1 dL_law_589 rfl (lv_at hl 0 rfl) ?_
      refine lv_iload_n X.1 X.2.1 dL_law_590 rfl (lv_at hl 3 rfl) ?_
      refine lv_iconst (v := 2) X.1 X.2.1 dL_law_591 (by decide) ?_
      refine lv_iadd X.1 X.2.1 dL_law_592 ?_
      obtain ⟨h180, hf⟩ := bl_gd_at hf
      refine va_sld X.1 X.2.1 hX hbl hbA V.2 (bl_in_vp h180) dL_law_593 ?_
      refine lv_aload_n X.1 X.2.1 dL_law_594 rfl (lv_at hl 0 rfl) ?_
      refine lv_iload_n X.1 X.2.1 dL_law_595 rfl (lv_at hl 3 rfl) ?_
      refine lv_iconst (v := 3) X.1 X.2.1 dL_law_596 (by decide) ?_
      refine lv_iadd X.1 X.2.1 dL_law_597 ?_
      obtain ⟨h181, hf⟩ := bl_gd_at hf
      refine va_sld X.1 X.2.1 hX hbl hbA V.2 (bl_in_vp h181) dL_law_598 ?_
      refine lv_aload_n X.1 X.2.1 dL_law_599 rfl (lv_at hl 0 rfl) ?_
      refine lv_iload_n X.1 X.2.1 dL_law_600 rfl (lv_at hl 3 rfl) ?_
      refine lv_iconst (v := 4) X.1 X.2.1 dL_law_601 (by decide) ?_
      refine lv_iadd X.1 X.2.1 dL_law_602 ?_
      obtain ⟨h182, hf⟩ := bl_gd_at hf
      refine va_sld X.1 X.2.1 hX hbl hbA V.2 (bl_in_vp h182) dL_law_603 ?_
      obtain ⟨r183, σ184, h185, hf⟩ := bl_bd_at hf
      refine bl_cVi (As := [.int (xs (Int32.toNatClampNeg (v3 + 1))), .int (xs (Int32.toNatClampNeg (v3 + 2))), .int (xs (Int32.toNatClampNeg (v3 + 3))), .int (xs (Int32.toNatClampNeg (v3 + 4)))]) X V hl.1 hv1 rfl ml_L_56 mV_X9_live (t_X9_live l g σ v1 (xs (Int32.toNatClampNeg (v3 + 1))) (xs (Int32.toNatClampNeg (v3 + 2))) (xs (Int32.toNatClampNeg (v3 + 3))) (xs (Int32.toNatClampNeg (v3 + 4))) _ hv1 h185) rfl rfl ⟨Nat.le_of_ble_eq_true rfl, Nat.le_of_ble_eq_true rfl⟩ rfl rfl (Nat.le_of_ble_eq_true rfl) ⟨Nat.le_of_ble_eq_true rfl, Nat.le_of_ble_eq_true rfl⟩ dL_law_604 (fun H locs V => ?_)
      refine lv_aload_n X.1 X.2.1 dL_law_607 rfl (lv_at hl 2 rfl) ?_
      refine lv_aload_n X.1 X.2.1 dL_law_608 rfl (lv_at hl 0 rfl) ?_
      refine lv_iload_n X.1 X.2.1 dL_law_609 rfl (lv_at hl 3 rfl) ?_
      refine lv_iconst (v := 1) X.1 X.2.1 dL_law_610 (by decide) ?_
      refine lv_iadd X.1 X.2.1 dL_law_611 ?_
      obtain ⟨h186, hf⟩ := bl_gd_at hf
      refine va_sld X.1 X.2.1 hX hbl hbA V.2 (bl_in_vp h186) dL_law_612 ?_
      refine lv_aload_n X.1 X.2.1 dL_law_613 rfl (lv_at hl 0 rfl) ?_
      refine lv_iload_n X.1 X.2.1 dL_law_614 rfl (lv_at hl 3 rfl) ?_
      refine lv_iconst (v := 2) X.1 X.2.1 dL_law_615 (by decide) ?_
      refine lv_iadd X.1 X.2.1 dL_law_616 ?_
      obtain ⟨h187, hf⟩ := bl_gd_at hf
      refine va_sld X.1 X.2.1 hX hbl hbA V.2 (bl_in_vp h187) dL_law_617 ?_
      refine lv_aload_n X.1 X.2.1 dL_law_618 rfl (lv_at hl 0 rfl) ?_
      refine lv_iload_n X.1 X.2.1 dL_law_619 rfl (lv_at hl 3 rfl) ?_
      refine lv_iconst (v := 3) X.1 X.2.1 dL_law_620 (by decide) ?_
      refine lv_iadd X.1 X.2.1 dL_law_621 ?_
      obtain ⟨h188, hf⟩ := bl_gd_at hf
      refine va_sld X.1 X.2.1 hX hbl hbA V.2 (bl_in_vp h188) dL_law_622 ?_
      refine lv_aload_n X.1 X.2.1 dL_law_623 rfl (lv_at hl 0 rfl) ?_
      refine lv_iload_n X.1 X.2.1 dL_law_624 rfl (lv_at hl 3 rfl) ?_
      refine lv_iconst (v := 4) X.1 X.2.1 dL_law_625 (by decide) ?_
      refine lv_iadd X.1 X.2.1 dL_law_626 ?_
      obtain ⟨h189, hf⟩ := bl_gd_at hf
      refine va_sld X.1 X.2.1 hX hbl hbA V.2 (bl_in_vp h189) dL_law_627 ?_
      obtain ⟨r190, σ191, h192, hf⟩ := bl_bd_at hf
      refine bl_cVi (As := [.int (xs (Int32.toNatClampNeg (v3 + 1))), .int (xs (Int32.toNatClampNeg (v3 + 2))), .int (xs (Int32.toNatClampNeg (v3 + 3))), .int (xs (Int32.toNatClampNeg (v3 + 4)))]) X V hl.1 hv2 rfl ml_L_60 mV_X10_live (t_X10_live l g σ184 v2 (xs (Int32.toNatClampNeg (v3 + 1))) (xs (Int32.toNatClampNeg (v3 + 2))) (xs (Int32.toNatClampNeg (v3 + 3))) (xs (Int32.toNatClampNeg (v3 + 4))) _ hv2 h192) rfl rfl ⟨Nat.le_of_ble_eq_true rfl, Nat.le_of_ble_eq_true rfl⟩ rfl rfl (Nat.le_of_ble_eq_true rfl) ⟨Nat.le_of_ble_eq_true rfl, Nat.le_of_ble_eq_true rfl⟩ dL_law_628 (fun H locs V => ?_)
      refine lv_icmp_eq (tgt := 2362) X.1 X.2.1 dL_law_631 (by decide) (fun c193 => ?_) (fun c193 => ?_)
      · have hf := bl_ifp c193 hf
        exact w_L_law_2362 ho hX hbl hbA hg X hr k18 hk18 σ191 v1 v2 v3 hv1 hv2 hf _ _ _ V (lv_sub hl [0, 1, 2, 3] rfl)
      · have hf := bl_ifn c193 hf
        refine lv_iconst (v := 0) X.1 X.2.1 dL_law_634 (by decide) ?_
        cases hf
        exact absurd (show (0 : Int32) = 1 from ho) (by decide)
    have hf := bl_ifn c178 hf
    by_cases c194 : ((xs (Int32.toNatClampNeg v3)) &&& 63) = 10
    · have hf := bl_ifp c194 hf
      refine bl_swI (v := 10) (tgt := 636) X dL_law_33 (by rw [c194]; decide) (by decide) rfl (by decide) ?_
      refine lv_aload_n X.1 X.2.1 dL_law_636 rfl (lv_at hl 1 rfl) ?_
      refine lv_aload_n X.1 X.2.1 dL_law_637 rfl (lv_at hl 0 rfl) ?_
      refine lv_iload_n X.1 X.2.1 dL_law_638 rfl (lv_at hl 3 rfl) ?_
      refine lv_iconst (v := 1) X.1 X.2.1 dL_law_639 (by decide) ?_
      refine lv_iadd X.1 X.2.1 dL_law_640 ?_
      obtain ⟨h195, hf⟩ := bl_gd_at hf
      refine va_sld X.1 X.2.1 hX hbl hbA V.2 (bl_in_vp h195) dL_law_641 ?_
      refine lv_aload_n X.1 X.2.1 dL_law_642 rfl (lv_at hl 0 rfl) ?_
      refine lv_iload_n X.1 X.2.1 dL_law_643 rfl (lv_at hl 3 rfl) ?_
      refine lv_iconst (v := 2) X.1 X.2.1 dL_law_644 (by decide) ?_
      refine lv_iadd X.1 X.2.1 dL_law_645 ?_
      obtain ⟨h196, hf⟩ := bl_gd_at hf
      refine va_sld X.1 X.2.1 hX hbl hbA V.2 (bl_in_vp h196) dL_law_646 ?_
      obtain ⟨r197, σ198, h199, hf⟩ := bl_bd_at hf
      refine bl_cVi (As := [.int (xs (Int32.toNatClampNeg (v3 + 1))), .int (xs (Int32.toNatClampNeg (v3 + 2)))]) X V hl.1 hv1 rfl ml_L_61 mV_X9_come (t_X9_come l g σ v1 (xs (Int32.toNatClampNeg (v3 + 1))) (xs (Int32.toNatClampNeg (v3 + 2))) _ hv1 h199) rfl rfl ⟨Nat.le_of_ble_eq_true rfl, Nat.le_of_ble_eq_true rfl⟩ rfl rfl (Nat.le_of_ble_eq_true rfl) ⟨Nat.le_of_ble_eq_true rfl, Nat.le_of_ble_eq_true rfl⟩ dL_law_647 (fun H locs V => ?_)
      refine lv_aload_n X.1 X.2.1 dL_law_650 rfl (lv_at hl 2 rfl) ?_
      refine lv_aload_n X.1 X.2.1 dL_law_651 rfl (lv_at hl 0 rfl) ?_
      refine lv_iload_n X.1 X.2.1 dL_law_652 rfl (lv_at hl 3 rfl) ?_
      refine lv_iconst (v := 1) X.1 X.2.1 dL_law_653 (by decide) ?_
      refine lv_iadd X.1 X.2.1 dL_law_654 ?_
      obtain ⟨h200, hf⟩ := bl_gd_at hf
      refine va_sld X.1 X.2.1 hX hbl hbA V.2 (bl_in_vp h200) dL_law_655 ?_
      refine lv_aload_n X.1 X.2.1 dL_law_656 rfl (lv_at hl 0 rfl) ?_
      refine lv_iload_n X.1 X.2.1 dL_law_657 rfl (lv_at hl 3 rfl) ?_
      refine lv_iconst (v := 2) X.1 X.2.1 dL_law_658 (by decide) ?_
      refine lv_iadd X.1 X.2.1 dL_law_659 ?_
      obtain ⟨h201, hf⟩ := bl_gd_at hf
      refine va_sld X.1 X.2.1 hX hbl hbA V.2 (bl_in_vp h201) dL_law_660 ?_
      obtain ⟨r202, σ203, h204, hf⟩ := bl_bd_at hf
      refine bl_cVi (As := [.int (xs (Int32.toNatClampNeg (v3 + 1))), .int (xs (Int32.toNatClampNeg (v3 + 2)))]) X V hl.1 hv2 rfl ml_L_64 mV_X10_come (t_X10_come l g σ198 v2 (xs (Int32.toNatClampNeg (v3 + 1))) (xs (Int32.toNatClampNeg (v3 + 2))) _ hv2 h204) rfl rfl ⟨Nat.le_of_ble_eq_true rfl, Nat.le_of_ble_eq_true rfl⟩ rfl rfl (Nat.le_of_ble_eq_true rfl) ⟨Nat.le_of_ble_eq_true rfl, Nat.le_of_ble_eq_true rfl⟩ dL_law_661 (fun H locs V => ?_)
      refine lv_icmp_eq (tgt := 2362) X.1 X.2.1 dL_law_664 (by decide) (fun c205 => ?_) (fun c205 => ?_)
      · have hf := bl_ifp c205 hf
        exact w_L_law_2362 ho hX hbl hbA hg X hr k18 hk18 σ203 v1 v2 v3 hv1 hv2 hf _ _ _ V (lv_sub hl [0, 1, 2, 3] rfl)
      · have hf := bl_ifn c205 hf
        refine lv_iconst (v := 0) X.1 X.2.1 dL_law_667 (by decide) ?_
        cases hf
        exact absurd (show (0 : Int32) = 1 from ho) (by decide)
    have hf := bl_ifn c194 hf
    by_cases c206 : ((xs (Int32.toNatClampNeg v3)) &&& 63) = 11
    · have hf := bl_ifp c206 hf
      refine bl_swI (v := 11) (tgt := 669) X dL_law_33 (by rw [c206]; decide) (by decide) rfl (by decide) ?_
      refine lv_aload_n X.1 X.2.1 dL_law_669 rfl (lv_at hl 1 rfl) ?_
      refine lv_aload_n X.1 X.2.1 dL_law_670 rfl (lv_at hl 0 rfl) ?_
      refine lv_iload_n X.1 X.2.1 dL_law_671 rfl (lv_at hl 3 rfl) ?_
      refine lv_iconst (v := 1) X.1 X.2.1 dL_law_672 (by decide) ?_
      refine lv_iadd X.1 X.2.1 dL_law_673 ?_
      obtain ⟨h207, hf⟩ := bl_gd_at hf
      refine va_sld X.1 X.2.1 hX hbl hbA V.2 (bl_in_vp h207) dL_law_674 ?_
      obtain ⟨r208, σ209, h210, hf⟩ := bl_bd_at hf
      refine bl_cVi (As := [.int (xs (Int32.toNatClampNeg (v3 + 1)))]) X V hl.1 hv1 rfl ml_L_65 mV_X9_drop (t_X9_drop l g σ v1 (xs (Int32.toNatClampNeg (v3 + 1))) _ hv1 h210) rfl rfl ⟨Nat.le_of_ble_eq_true rfl, Nat.le_of_ble_eq_true rfl⟩ rfl rfl (Nat.le_of_ble_eq_true rfl) ⟨Nat.le_of_ble_eq_true rfl, Nat.le_of_ble_eq_true rfl⟩ dL_law_675 (fun H locs V => ?_)
      refine lv_aload_n X.1 X.2.1 dL_law_678 rfl (lv_at hl 2 rfl) ?_
      refine lv_aload_n X.1 X.2.1 dL_law_679 rfl (lv_at hl 0 rfl) ?_
      refine lv_iload_n X.1 X.2.1 dL_law_680 rfl (lv_at hl 3 rfl) ?_
      refine lv_iconst (v := 1) X.1 X.2.1 dL_law_681 (by decide) ?_
      refine lv_iadd X.1 X.2.1 dL_law_682 ?_
      obtain ⟨h211, hf⟩ := bl_gd_at hf
      refine va_sld X.1 X.2.1 hX hbl hbA V.2 (bl_in_vp h211) dL_law_683 ?_
      obtain ⟨r212, σ213, h214, hf⟩ := bl_bd_at hf
      refine bl_cVi (As := [.int (xs (Int32.toNatClampNeg (v3 + 1)))]) X V hl.1 hv2 rfl ml_L_68 mV_X10_drop (t_X10_drop l g σ209 v2 (xs (Int32.toNatClampNeg (v3 + 1))) _ hv2 h214) rfl rfl ⟨Nat.le_of_ble_eq_true rfl, Nat.le_of_ble_eq_true rfl⟩ rfl rfl (Nat.le_of_ble_eq_true rfl) ⟨Nat.le_of_ble_eq_true rfl, Nat.le_of_ble_eq_true rfl⟩ dL_law_684 (fun H locs V => ?_)
      refine lv_icmp_eq (tgt := 2362) X.1 X.2.1 dL_law_687 (by decide) (fun c215 => ?_) (fun c215 => ?_)
      · have hf := bl_ifp c215 hf
        exact w_L_law_2362 ho hX hbl hbA hg X hr k18 hk18 σ213 v1 v2 v3 hv1 hv2 hf _ _ _ V (lv_sub hl [0, 1, 2, 3] rfl)
      · have hf := bl_ifn c215 hf
        refine lv_iconst (v := 0) X.1 X.2.1 dL_law_690 (by decide) ?_
        cases hf
        exact absurd (show (0 : Int32) = 1 from ho) (by decide)
    have hf := bl_ifn c206 hf
    by_cases c216 : ((xs (Int32.toNatClampNeg v3)) &&& 63) = 12
    · have hf := bl_ifp c216 hf
      refine bl_swI (v := 12) (tgt := 692) X dL_law_33 (by rw [c216]; decide) (by decide) rfl (by decide) ?_
      refine lv_aload_n X.1 X.2.1 dL_law_692 rfl (lv_at hl 1 rfl) ?_
      refine lv_aload_n X.1 X.2.1 dL_law_693 rfl (lv_at hl 0 rfl) ?_
      refine lv_iload_n X.1 X.2.1 dL_law_694 rfl (lv_at hl 3 rfl) ?_
      refine lv_iconst (v := 1) X.1 X.2.1 dL_law_695 (by decide) ?_
      refine lv_iadd X.1 X.2.1 dL_law_696 ?_
      obtain ⟨h217, hf⟩ := bl_gd_at hf
      refine va_sld X.1 X.2.1 hX hbl hbA V.2 (bl_in_vp h217) dL_law_697 ?_
      obtain ⟨r218, σ219, h220, hf⟩ := bl_bd_at hf
      refine bl_cVi (As := [.int (xs (Int32.toNatClampNeg (v3 + 1)))]) X V hl.1 hv1 rfl ml_L_69 mV_X9_move (t_X9_move l g σ v1 (xs (Int32.toNatClampNeg (v3 + 1))) _ hv1 h220) rfl rfl ⟨Nat.le_of_ble_eq_true rfl, Nat.le_of_ble_eq_true rfl⟩ rfl rfl (Nat.le_of_ble_eq_true rfl) ⟨Nat.le_of_ble_eq_true rfl, Nat.le_of_ble_eq_true rfl⟩ dL_law_698 (fun H locs V => ?_)
      refine lv_aload_n X.1 X.2.1 dL_law_701 rfl (lv_at hl 2 rfl) ?_
      refine lv_aload_n X.1 X.2.1 dL_law_702 rfl (lv_at hl 0 rfl) ?_
      refine lv_iload_n X.1 X.2.1 dL_law_703 rfl (lv_at hl 3 rfl) ?_
      refine lv_iconst (v := 1) X.1 X.2.1 dL_law_704 (by decide) ?_
      refine lv_iadd X.1 X.2.1 dL_law_705 ?_
      obtain ⟨h221, hf⟩ := bl_gd_at hf
      refine va_sld X.1 X.2.1 hX hbl hbA V.2 (bl_in_vp h221) dL_law_706 ?_
      obtain ⟨r222, σ223, h224, hf⟩ := bl_bd_at hf
      refine bl_cVi (As := [.int (xs (Int32.toNatClampNeg (v3 + 1)))]) X V hl.1 hv2 rfl ml_L_72 mV_X10_move (t_X10_move l g σ219 v2 (xs (Int32.toNatClampNeg (v3 + 1))) _ hv2 h224) rfl rfl ⟨Nat.le_of_ble_eq_true rfl, Nat.le_of_ble_eq_true rfl⟩ rfl rfl (Nat.le_of_ble_eq_true rfl) ⟨Nat.le_of_ble_eq_true rfl, Nat.le_of_ble_eq_true rfl⟩ dL_law_707 (fun H locs V => ?_)
      refine lv_icmp_eq (tgt := 2362) X.1 X.2.1 dL_law_710 (by decide) (fun c225 => ?_) (fun c225 => ?_)
      · have hf := bl_ifp c225 hf
        exact w_L_law_2362 ho hX hbl hbA hg X hr k18 hk18 σ223 v1 v2 v3 hv1 hv2 hf _ _ _ V (lv_sub hl [0, 1, 2, 3] rfl)
      · have hf := bl_ifn c225 hf
        refine lv_iconst (v := 0) X.1 X.2.1 dL_law_713 (by decide) ?_
        cases hf
        exact absurd (show (0 : Int32) = 1 from ho) (by decide)
    have hf := bl_ifn c216 hf
    by_cases c226 : ((xs (Int32.toNatClampNeg v3)) &&& 63) = 13
    · have hf := bl_ifp c226 hf
      refine bl_swI (v := 13) (tgt := 715) X dL_law_33 (by rw [c226]; decide) (by decide) rfl (by decide) ?_
      refine lv_aload_n X.1 X.2.1 dL_law_715 rfl (lv_at hl 1 rfl) ?_
      obtain ⟨r227, σ228, h229, hf⟩ := bl_bd_at hf
      refine bl_cVi (As := []) X V hl.1 hv1 rfl ml_L_73 mV_X9_anew (t_X9_anew l g σ v1 _ hv1 h229) rfl rfl ⟨Nat.le_of_ble_eq_true rfl, Nat.le_of_ble_eq_true rfl⟩ rfl rfl (Nat.le_of_ble_eq_true rfl) ⟨Nat.le_of_ble_eq_true rfl, Nat.le_of_ble_eq_true rfl⟩ dL_law_716 (fun H locs V => ?_)
      refine lv_aload_n X.1 X.2.1 dL_law_719 rfl (lv_at hl 2 rfl) ?_
      obtain ⟨r230, σ231, h232, hf⟩ := bl_bd_at hf
      refine bl_cVi (As := []) X V hl.1 hv2 rfl ml_L_76 mV_X10_anew (t_X10_anew l g σ228 v2 _ hv2 h232) rfl rfl ⟨Nat.le_of_ble_eq_true rfl, Nat.le_of_ble_eq_true rfl⟩ rfl rfl (Nat.le_of_ble_eq_true rfl) ⟨Nat.le_of_ble_eq_true rfl, Nat.le_of_ble_eq_true rfl⟩ dL_law_720 (fun H locs V => ?_)
      refine lv_icmp_eq (tgt := 2362) X.1 X.2.1 dL_law_723 (by decide) (fun c233 => ?_) (fun c233 => ?_)
      · have hf := bl_ifp c233 hf
        exact w_L_law_2362 ho hX hbl hbA hg X hr k18 hk18 σ231 v1 v2 v3 hv1 hv2 hf _ _ _ V (lv_sub hl [0, 1, 2, 3] rfl)
      · have hf := bl_ifn c233 hf
        refine lv_iconst (v := 0) X.1 X.2.1 dL_law_726 (by decide) ?_
        cases hf
        exact absurd (show (0 : Int32) = 1 from ho) (by decide)
    have hf := bl_ifn c226 hf
    by_cases c234 : ((xs (Int32.toNatClampNeg v3)) &&& 63) = 14
    · have hf := bl_ifp c234 hf
      refine bl_swI (v := 14) (tgt := 728) X dL_law_33 (by rw [c234]; decide) (by decide) rfl (by decide) ?_
      refine lv_aload_n X.1 X.2.1 dL_law_728 rfl (lv_at hl 1 rfl) ?_
      obtain ⟨r235, σ236, h237, hf⟩ := bl_bd_at hf
      refine bl_cVi (As := []) X V hl.1 hv1 rfl ml_L_77 mV_X9_undo (t_X9_undo l g σ v1 _ hv1 h237) rfl rfl ⟨Nat.le_of_ble_eq_true rfl, Nat.le_of_ble_eq_true rfl⟩ rfl rfl (Nat.le_of_ble_eq_true rfl) ⟨Nat.le_of_ble_eq_true rfl, Nat.le_of_ble_eq_true rfl⟩ dL_law_729 (fun H locs V => ?_)
      refine lv_aload_n X.1 X.2.1 dL_law_732 rfl (lv_at hl 2 rfl) ?_
      obtain ⟨r238, σ239, h240, hf⟩ := bl_bd_at hf
      refine bl_cVi (As := []) X V hl.1 hv2 rfl ml_L_80 mV_X10_undo (t_X10_undo l g σ236 v2 _ hv2 h240) rfl rfl ⟨Nat.le_of_ble_eq_true rfl, Nat.le_of_ble_eq_true rfl⟩ rfl rfl (Nat.le_of_ble_eq_true rfl) ⟨Nat.le_of_ble_eq_true rfl, Nat.le_of_ble_eq_true rfl⟩ dL_law_733 (fun H locs V => ?_)
      refine lv_icmp_eq (tgt := 2362) X.1 X.2.1 dL_law_736 (by decide) (fun c241 => ?_) (fun c241 => ?_)
      · have hf := bl_ifp c241 hf
        exact w_L_law_2362 ho hX hbl hbA hg X hr k18 hk18 σ239 v1 v2 v3 hv1 hv2 hf _ _ _ V (lv_sub hl [0, 1, 2, 3] rfl)
      · have hf := bl_ifn c241 hf
        refine lv_iconst (v := 0) X.1 X.2.1 dL_law_739 (by decide) ?_
        cases hf
        exact absurd (show (0 : Int32) = 1 from ho) (by decide)
    have hf := bl_ifn c234 hf
    by_cases c242 : ((xs (Int32.toNatClampNeg v3)) &&& 63) = 15
    · have hf := bl_ifp c242 hf
      refine bl_swI (v := 15) (tgt := 741) X dL_law_33 (by rw [c242]; decide) (by decide) rfl (by decide) ?_
      refine lv_aload_n X.1 X.2.1 dL_law_741 rfl (lv_at hl 1 rfl) ?_
      refine lv_aload_n X.1 X.2.1 dL_law_742 rfl (lv_at hl 0 rfl) ?_
      refine lv_iload_n X.1 X.2.1 dL_law_743 rfl (lv_at hl 3 rfl) ?_
      refine lv_iconst (v := 1) X.1 X.2.1 dL_law_744 (by decide) ?_
      refine lv_iadd X.1 X.2.1 dL_law_745 ?_
      obtain ⟨h243, hf⟩ := bl_gd_at hf
      refine va_sld X.1 X.2.1 hX hbl hbA V.2 (bl_in_vp h243) dL_law_746 ?_
      refine lv_aload_n X.1 X.2.1 dL_law_747 rfl (lv_at hl 0 rfl) ?_
      refine lv_iload_n X.1 X.2.1 dL_law_748 rfl (lv_at hl 3 rfl) ?_
      refine lv_iconst (v := 2) X.1 X.2.1 dL_law_749 (by decide) ?_
      refine lv_iadd X.1 X.2.1 dL_law_750 ?_
      obtain ⟨h244, hf⟩ := bl_gd_at hf
      refine va_sld X.1 X.2.1 hX hbl hbA V.2 (bl_in_vp h244) dL_law_751 ?_
      obtain ⟨r245, σ246, h247, hf⟩ := bl_bd_at hf
      refine bl_cVi (As := [.int (xs (Int32.toNatClampNeg (v3 + 1))), .int (xs (Int32.toNatClampNeg (v3 + 2)))]) X V hl.1 hv1 rfl ml_L_81 mV_X9_of (t_X9_of l g σ v1 (xs (Int32.toNatClampNeg (v3 + 1))) (xs (Int32.toNatClampNeg (v3 + 2))) _ hv1 h247) rfl rfl ⟨Nat.le_of_ble_eq_true rfl, Nat.le_of_ble_eq_true rfl⟩ rfl rfl (Nat.le_of_ble_eq_true rfl) ⟨Nat.le_of_ble_eq_true rfl, Nat.le_of_ble_eq_true rfl⟩ dL_law_752 (fun H locs V => ?_)
      refine lv_aload_n X.1 X.2.1 dL_law_755 rfl (lv_at hl 2 rfl) ?_
      refine lv_aload_n X.1 X.2.1 dL_law_756 rfl (lv_at hl 0 rfl) ?_
      refine lv_iload_n X.1 X.2.1 dL_law_757 rfl (lv_at hl 3 rfl) ?_
      refine lv_iconst (v := 1) X.1 X.2.1 dL_law_758 (by decide) ?_
      refine lv_iadd X.1 X.2.1 dL_law_759 ?_
      obtain ⟨h248, hf⟩ := bl_gd_at hf
      refine va_sld X.1 X.2.1 hX hbl hbA V.2 (bl_in_vp h248) dL_law_760 ?_
      refine lv_aload_n X.1 X.2.1 dL_law_761 rfl (lv_at hl 0 rfl) ?_
      refine lv_iload_n X.1 X.2.1 dL_law_762 rfl (lv_at hl 3 rfl) ?_
      refine lv_iconst (v := 2) X.1 X.2.1 dL_law_763 (by decide) ?_
      refine lv_iadd X.1 X.2.1 dL_law_764 ?_
      obtain ⟨h249, hf⟩ := bl_gd_at hf
      refine va_sld X.1 X.2.1 hX hbl hbA V.2 (bl_in_vp h249) dL_law_765 ?_
      obtain ⟨r250, σ251, h252, hf⟩ := bl_bd_at hf
      refine bl_cVi (As := [.int (xs (Int32.toNatClampNeg (v3 + 1))), .int (xs (Int32.toNatClampNeg (v3 + 2)))]) X V hl.1 hv2 rfl ml_L_84 mV_X10_of (t_X10_of l g σ246 v2 (xs (Int32.toNatClampNeg (v3 + 1))) (xs (Int32.toNatClampNeg (v3 + 2))) _ hv2 h252) rfl rfl ⟨Nat.le_of_ble_eq_true rfl, Nat.le_of_ble_eq_true rfl⟩ rfl rfl (Nat.le_of_ble_eq_true rfl) ⟨Nat.le_of_ble_eq_true rfl, Nat.le_of_ble_eq_true rfl⟩ dL_law_766 (fun H locs V => ?_)
      refine lv_icmp_eq (tgt := 2362) X.1 X.2.1 dL_law_769 (by decide) (fun c253 => ?_) (fun c253 => ?_)
      · have hf := bl_ifp c253 hf
        exact w_L_law_2362 ho hX hbl hbA hg X hr k18 hk18 σ251 v1 v2 v3 hv1 hv2 hf _ _ _ V (lv_sub hl [0, 1, 2, 3] rfl)
      · have hf := bl_ifn c253 hf
        refine lv_iconst (v := 0) X.1 X.2.1 dL_law_772 (by decide) ?_
        cases hf
        exact absurd (show (0 : Int32) = 1 from ho) (by decide)
    have hf := bl_ifn c242 hf
    by_cases c254 : ((xs (Int32.toNatClampNeg v3)) &&& 63) = 16
    · have hf := bl_ifp c254 hf
      refine bl_swI (v := 16) (tgt := 774) X dL_law_33 (by rw [c254]; decide) (by decide) rfl (by decide) ?_
      refine lv_aload_n X.1 X.2.1 dL_law_774 rfl (lv_at hl 1 rfl) ?_
      refine lv_aload_n X.1 X.2.1 dL_law_775 rfl (lv_at hl 0 rfl) ?_
      refine lv_iload_n X.1 X.2.1 dL_law_776 rfl (lv_at hl 3 rfl) ?_
      refine lv_iconst (v := 1) X.1 X.2.1 dL_law_777 (by decide) ?_
      refine lv_iadd X.1 X.2.1 dL_law_778 ?_
      obtain ⟨h255, hf⟩ := bl_gd_at hf
      refine va_sld X.1 X.2.1 hX hbl hbA V.2 (bl_in_vp h255) dL_law_779 ?_
      refine lv_aload_n X.1 X.2.1 dL_law_780 rfl (lv_at hl 0 rfl) ?_
      refine lv_iload_n X.1 X.2.1 dL_law_781 rfl (lv_at hl 3 rfl) ?_
      refine lv_iconst (v := 2) X.1 X.2.1 dL_law_782 (by decide) ?_
      refine lv_iadd X.1 X.2.1 dL_law_783 ?_
      obtain ⟨h256, hf⟩ := bl_gd_at hf
      refine va_sld X.1 X.2.1 hX hbl hbA V.2 (bl_in_vp h256) dL_law_784 ?_
      obtain ⟨r257, σ258, h259, hf⟩ := bl_bd_at hf
      refine bl_cVi (As := [.int (xs (Int32.toNatClampNeg (v3 + 1))), .int (xs (Int32.toNatClampNeg (v3 + 2)))]) X V hl.1 hv1 rfl ml_L_85 mV_X9_ofSort (t_X9_ofSort l g σ v1 (xs (Int32.toNatClampNeg (v3 + 1))) (xs (Int32.toNatClampNeg (v3 + 2))) _ hv1 h259) rfl rfl ⟨Nat.le_of_ble_eq_true rfl, Nat.le_of_ble_eq_true rfl⟩ rfl rfl (Nat.le_of_ble_eq_true rfl) ⟨Nat.le_of_ble_eq_true rfl, Nat.le_of_ble_eq_true rfl⟩ dL_law_785 (fun H locs V => ?_)
      refine lv_aload_n X.1 X.2.1 dL_law_788 rfl (lv_at hl 2 rfl) ?_
      refine lv_aload_n X.1 X.2.1 dL_law_789 rfl (lv_at hl 0 rfl) ?_
      refine lv_iload_n X.1 X.2.1 dL_law_790 rfl (lv_at hl 3 rfl) ?_
      refine lv_iconst (v := 1) X.1 X.2.1 dL_law_791 (by decide) ?_
      refine lv_iadd X.1 X.2.1 dL_law_792 ?_
      obtain ⟨h260, hf⟩ := bl_gd_at hf
      refine va_sld X.1 X.2.1 hX hbl hbA V.2 (bl_in_vp h260) dL_law_793 ?_
      refine lv_aload_n X.1 X.2.1 dL_law_794 rfl (lv_at hl 0 rfl) ?_
      refine lv_iload_n X.1 X.2.1 dL_law_795 rfl (lv_at hl 3 rfl) ?_
      refine lv_iconst (v := 2) X.1 X.2.1 dL_law_796 (by decide) ?_
      refine lv_iadd X.1 X.2.1 dL_law_797 ?_
      obtain ⟨h261, hf⟩ := bl_gd_at hf
      refine va_sld X.1 X.2.1 hX hbl hbA V.2 (bl_in_vp h261) dL_law_798 ?_
      obtain ⟨r262, σ263, h264, hf⟩ := bl_bd_at hf
      refine bl_cVi (As := [.int (xs (Int32.toNatClampNeg (v3 + 1))), .int (xs (Int32.toNatClampNeg (v3 + 2)))]) X V hl.1 hv2 rfl ml_L_88 mV_X10_ofSort (t_X10_ofSort l g σ258 v2 (xs (Int32.toNatClampNeg (v3 + 1))) (xs (Int32.toNatClampNeg (v3 + 2))) _ hv2 h264) rfl rfl ⟨Nat.le_of_ble_eq_true rfl, Nat.le_of_ble_eq_true rfl⟩ rfl rfl (Nat.le_of_ble_eq_true rfl) ⟨Nat.le_of_ble_eq_true rfl, Nat.le_of_ble_eq_true rfl⟩ dL_law_799 (fun H locs V => ?_)
      refine lv_icmp_eq (tgt := 2362) X.1 X.2.1 dL_law_802 (by decide) (fun c265 => ?_) (fun c265 => ?_)
      · have hf := bl_ifp c265 hf
        exact w_L_law_2362 ho hX hbl hbA hg X hr k18 hk18 σ263 v1 v2 v3 hv1 hv2 hf _ _ _ V (lv_sub hl [0, 1, 2, 3] rfl)
      · have hf := bl_ifn c265 hf
        refine lv_iconst (v := 0) X.1 X.2.1 dL_law_805 (by decide) ?_
        cases hf
        exact absurd (show (0 : Int32) = 1 from ho) (by decide)
    have hf := bl_ifn c254 hf
    by_cases c266 : ((xs (Int32.toNatClampNeg v3)) &&& 63) = 17
    · have hf := bl_ifp c266 hf
      refine bl_swI (v := 17) (tgt := 807) X dL_law_33 (by rw [c266]; decide) (by decide) rfl (by decide) ?_
      refine lv_aload_n X.1 X.2.1 dL_law_807 rfl (lv_at hl 1 rfl) ?_
      refine lv_aload_n X.1 X.2.1 dL_law_808 rfl (lv_at hl 0 rfl) ?_
      refine lv_iload_n X.1 X.2.1 dL_law_809 rfl (lv_at hl 3 rfl) ?_
      refine lv_iconst (v := 1) X.1 X.2.1 dL_law_810 (by decide) ?_
      refine lv_iadd X.1 X.2.1 dL_law_811 ?_
      obtain ⟨h267, hf⟩ := bl_gd_at hf
      refine va_sld X.1 X.2.1 hX hbl hbA V.2 (bl_in_vp h267) dL_law_812 ?_
      obtain ⟨r268, σ269, h270, hf⟩ := bl_bd_at hf
      refine bl_cVi (As := [.int (xs (Int32.toNatClampNeg (v3 + 1)))]) X V hl.1 hv1 rfl ml_L_89 mV_X9_life (t_X9_life l g σ v1 (xs (Int32.toNatClampNeg (v3 + 1))) _ hv1 h270) rfl rfl ⟨Nat.le_of_ble_eq_true rfl, Nat.le_of_ble_eq_true rfl⟩ rfl rfl (Nat.le_of_ble_eq_true rfl) ⟨Nat.le_of_ble_eq_true rfl, Nat.le_of_ble_eq_true rfl⟩ dL_law_813 (fun H locs V => ?_)
      refine lv_aload_n X.1 X.2.1 dL_law_816 rfl (lv_at hl 2 rfl) ?_
      refine lv_aload_n X.1 X.2.1 dL_law_817 rfl (lv_at hl 0 rfl) ?_
      refine lv_iload_n X.1 X.2.1 dL_law_818 rfl (lv_at hl 3 rfl) ?_
      refine lv_iconst (v := 1) X.1 X.2.1 dL_law_819 (by decide) ?_
      refine lv_iadd X.1 X.2.1 dL_law_820 ?_
      obtain ⟨h271, hf⟩ := bl_gd_at hf
      refine va_sld X.1 X.2.1 hX hbl hbA V.2 (bl_in_vp h271) dL_law_821 ?_
      obtain ⟨r272, σ273, h274, hf⟩ := bl_bd_at hf
      refine bl_cVi (As := [.int (xs (Int32.toNatClampNeg (v3 + 1)))]) X V hl.1 hv2 rfl ml_L_92 mV_X10_life (t_X10_life l g σ269 v2 (xs (Int32.toNatClampNeg (v3 + 1))) _ hv2 h274) rfl rfl ⟨Nat.le_of_ble_eq_true rfl, Nat.le_of_ble_eq_true rfl⟩ rfl rfl (Nat.le_of_ble_eq_true rfl) ⟨Nat.le_of_ble_eq_true rfl, Nat.le_of_ble_eq_true rfl⟩ dL_law_822 (fun H locs V => ?_)
      refine lv_icmp_eq (tgt := 2362) X.1 X.2.1 dL_law_825 (by decide) (fun c275 => ?_) (fun c275 => ?_)
      · have hf := bl_ifp c275 hf
        exact w_L_law_2362 ho hX hbl hbA hg X hr k18 hk18 σ273 v1 v2 v3 hv1 hv2 hf _ _ _ V (lv_sub hl [0, 1, 2, 3] rfl)
      · have hf := bl_ifn c275 hf
        refine lv_iconst (v := 0) X.1 X.2.1 dL_law_828 (by decide) ?_
        cases hf
        exact absurd (show (0 : Int32) = 1 from ho) (by decide)
    have hf := bl_ifn c266 hf
    by_cases c276 : ((xs (Int32.toNatClampNeg v3)) &&& 63) = 18
    · have hf := bl_ifp c276 hf
      refine bl_swI (v := 18) (tgt := 830) X dL_law_33 (by rw [c276]; decide) (by decide) rfl (by decide) ?_
      refine lv_aload_n X.1 X.2.1 dL_law_830 rfl (lv_at hl 1 rfl) ?_
      refine lv_aload_n X.1 X.2.1 dL_law_831 rfl (lv_at hl 0 rfl) ?_
      refine lv_iload_n X.1 X.2.1 dL_law_832 rfl (lv_at hl 3 rfl) ?_
      refine lv_iconst (v := 1) X.1 X.2.1 dL_law_833 (by decide) ?_
      refine lv_iadd X.1 X.2.1 dL_law_834 ?_
      obtain ⟨h277, hf⟩ := bl_gd_at hf
      refine va_sld X.1 X.2.1 hX hbl hbA V.2 (bl_in_vp h277) dL_law_835 ?_
      refine lv_aload_n X.1 X.2.1 dL_law_836 rfl (lv_at hl 0 rfl) ?_
      refine lv_iload_n X.1 X.2.1 dL_law_837 rfl (lv_at hl 3 rfl) ?_
      refine lv_iconst (v := 2) X.1 X.2.1 dL_law_838 (by decide) ?_
      refine lv_iadd X.1 X.2.1 dL_law_839 ?_
      obtain ⟨h278, hf⟩ := bl_gd_at hf
      refine va_sld X.1 X.2.1 hX hbl hbA V.2 (bl_in_vp h278) dL_law_840 ?_
      obtain ⟨r279, σ280, h281, hf⟩ := bl_bd_at hf
      refine bl_cVi (As := [.int (xs (Int32.toNatClampNeg (v3 + 1))), .int (xs (Int32.toNatClampNeg (v3 + 2)))]) X V hl.1 hv1 rfl ml_L_93 mV_X9_book (t_X9_book l g σ v1 (xs (Int32.toNatClampNeg (v3 + 1))) (xs (Int32.toNatClampNeg (v3 + 2))) _ hv1 h281) rfl rfl ⟨Nat.le_of_ble_eq_true rfl, Nat.le_of_ble_eq_true rfl⟩ rfl rfl (Nat.le_of_ble_eq_true rfl) ⟨Nat.le_of_ble_eq_true rfl, Nat.le_of_ble_eq_true rfl⟩ dL_law_841 (fun H locs V => ?_)
      refine lv_aload_n X.1 X.2.1 dL_law_844 rfl (lv_at hl 2 rfl) ?_
      refine lv_aload_n X.1 X.2.1 dL_law_845 rfl (lv_at hl 0 rfl) ?_
      refine lv_iload_n X.1 X.2.1 dL_law_846 rfl (lv_at hl 3 rfl) ?_
      refine lv_iconst (v := 1) X.1 X.2.1 dL_law_847 (by decide) ?_
      refine lv_iadd X.1 X.2.1 dL_law_848 ?_
      obtain ⟨h282, hf⟩ := bl_gd_at hf
      refine va_sld X.1 X.2.1 hX hbl hbA V.2 (bl_in_vp h282) dL_law_849 ?_
      refine lv_aload_n X.1 X.2.1 dL_law_850 rfl (lv_at hl 0 rfl) ?_
      refine lv_iload_n X.1 X.2.1 dL_law_851 rfl (lv_at hl 3 rfl) ?_
      refine lv_iconst (v := 2) X.1 X.2.1 dL_law_852 (by decide) ?_
      refine lv_iadd X.1 X.2.1 dL_law_853 ?_
      obtain ⟨h283, hf⟩ := bl_gd_at hf
      refine va_sld X.1 X.2.1 hX hbl hbA V.2 (bl_in_vp h283) dL_law_854 ?_
      obtain ⟨r284, σ285, h286, hf⟩ := bl_bd_at hf
      refine bl_cVi (As := [.int (xs (Int32.toNatClampNeg (v3 + 1))), .int (xs (Int32.toNatClampNeg (v3 + 2)))]) X V hl.1 hv2 rfl ml_L_96 mV_X10_book (t_X10_book l g σ280 v2 (xs (Int32.toNatClampNeg (v3 + 1))) (xs (Int32.toNatClampNeg (v3 + 2))) _ hv2 h286) rfl rfl ⟨Nat.le_of_ble_eq_true rfl, Nat.le_of_ble_eq_true rfl⟩ rfl rfl (Nat.le_of_ble_eq_true rfl) ⟨Nat.le_of_ble_eq_true rfl, Nat.le_of_ble_eq_true rfl⟩ dL_law_855 (fun H locs V => ?_)
      refine lv_icmp_eq (tgt := 2362) X.1 X.2.1 dL_law_858 (by decide) (fun c287 => ?_) (fun c287 => ?_)
      · have hf := bl_ifp c287 hf
        exact w_L_law_2362 ho hX hbl hbA hg X hr k18 hk18 σ285 v1 v2 v3 hv1 hv2 hf _ _ _ V (lv_sub hl [0, 1, 2, 3] rfl)
      · have hf := bl_ifn c287 hf
        refine lv_iconst (v := 0) X.1 X.2.1 dL_law_861 (by decide) ?_
        cases hf
        exact absurd (show (0 : Int32) = 1 from ho) (by decide)
    have hf := bl_ifn c276 hf
    by_cases c288 : ((xs (Int32.toNatClampNeg v3)) &&& 63) = 19
    · have hf := bl_ifp c288 hf
      refine bl_swI (v := 19) (tgt := 863) X dL_law_33 (by rw [c288]; decide) (by decide) rfl (by decide) ?_
      refine lv_aload_n X.1 X.2.1 dL_law_863 rfl (lv_at hl 1 rfl) ?_
      refine lv_aload_n X.1 X.2.1 dL_law_864 rfl (lv_at hl 0 rfl) ?_
      refine lv_iload_n X.1 X.2.1 dL_law_865 rfl (lv_at hl 3 rfl) ?_
      refine lv_iconst (v := 1) X.1 X.2.1 dL_law_866 (by decide) ?_
      refine lv_iadd X.1 X.2.1 dL_law_867 ?_
      obtain ⟨h289, hf⟩ := bl_gd_at hf
      refine va_sld X.1 X.2.1 hX hbl hbA V.2 (bl_in_vp h289) dL_law_868 ?_
      refine lv_aload_n X.1 X.2.1 dL_law_869 rfl (lv_at hl 0 rfl) ?_
      refine lv_iload_n X.1 X.2.1 dL_law_870 rfl (lv_at hl 3 rfl) ?_
      refine lv_iconst (v := 2) X.1 X.2.1 dL_law_871 (by decide) ?_
      refine lv_iadd X.1 X.2.1 dL_law_872 ?_
      obtain ⟨h290, hf⟩ := bl_gd_at hf
      refine va_sld X.1 X.2.1 hX hbl hbA V.2 (bl_in_vp h290) dL_law_873 ?_
      obtain ⟨r291, σ292, h293, hf⟩ := bl_bd_at hf
      refine bl_cVi (As := [.int (xs (Int32.toNatClampNeg (v3 + 1))), .int (xs (Int32.toNatClampNeg (v3 + 2)))]) X V hl.1 hv1 rfl ml_L_97 mV_X9_ledger (t_X9_ledger l g σ v1 (xs (Int32.toNatClampNeg (v3 + 1))) (xs (Int32.toNatClampNeg (v3 + 2))) _ hv1 h293) rfl rfl ⟨Nat.le_of_ble_eq_true rfl, Nat.le_of_ble_eq_true rfl⟩ rfl rfl (Nat.le_of_ble_eq_true rfl) ⟨Nat.le_of_ble_eq_true rfl, Nat.le_of_ble_eq_true rfl⟩ dL_law_874 (fun H locs V => ?_)
      refine lv_aload_n X.1 X.2.1 dL_law_877 rfl (lv_at hl 2 rfl) ?_
      refine lv_aload_n X.1 X.2.1 dL_law_878 rfl (lv_at hl 0 rfl) ?_
      refine lv_iload_n X.1 X.2.1 dL_law_879 rfl (lv_at hl 3 rfl) ?_
      refine lv_iconst (v := 1) X.1 X.2.1 dL_law_880 (by decide) ?_
      refine lv_iadd X.1 X.2.1 dL_law_881 ?_
      obtain ⟨h294, hf⟩ := bl_gd_at hf
      refine va_sld X.1 X.2.1 hX hbl hbA V.2 (bl_in_vp h294) dL_law_882 ?_
      refine lv_aload_n X.1 X.2.1 dL_law_883 rfl (lv_at hl 0 rfl) ?_
      refine lv_iload_n X.1 X.2.1 dL_law_884 rfl (lv_at hl 3 rfl) ?_
      refine lv_iconst (v := 2) X.1 X.2.1 dL_law_885 (by decide) ?_
      refine lv_iadd X.1 X.2.1 dL_law_886 ?_
      obtain ⟨h295, hf⟩ := bl_gd_at hf
      refine va_sld X.1 X.2.1 hX hbl hbA V.2 (bl_in_vp h295) dL_law_887 ?_
      obtain ⟨r296, σ297, h298, hf⟩ := bl_bd_at hf
      refine bl_cVi (As := [.int (xs (Int32.toNatClampNeg (v3 + 1))), .int (xs (Int32.toNatClampNeg (v3 + 2)))]) X V hl.1 hv2 rfl ml_L_100 mV_X10_ledger (t_X10_ledger l g σ292 v2 (xs (Int32.toNatClampNeg (v3 + 1))) (xs (Int32.toNatClampNeg (v3 + 2))) _ hv2 h298) rfl rfl ⟨Nat.le_of_ble_eq_true rfl, Nat.le_of_ble_eq_true rfl⟩ rfl rfl (Nat.le_of_ble_eq_true rfl) ⟨Nat.le_of_ble_eq_true rfl, Nat.le_of_ble_eq_true rfl⟩ dL_law_888 (fun H locs V => ?_)
      refine lv_icmp_eq (tgt := 2362) X.1 X.2.1 dL_law_891 (by decide) (fun c299 => ?_) (fun c299 => ?_)
      · have hf := bl_ifp c299 hf
        exact w_L_law_2362 ho hX hbl hbA hg X hr k18 hk18 σ297 v1 v2 v3 hv1 hv2 hf _ _ _ V (lv_sub hl [0, 1, 2, 3] rfl)
      · have hf := bl_ifn c299 hf
        refine lv_iconst (v := 0) X.1 X.2.1 dL_law_894 (by decide) ?_
        cases hf
        exact absurd (show (0 : Int32) = 1 from ho) (by decide)
    have hf := bl_ifn c288 hf
    by_cases c300 : ((xs (Int32.toNatClampNeg v3)) &&& 63) = 20
    · have hf := bl_ifp c300 hf
      refine bl_swI (v := 20) (tgt := 896) X dL_law_33 (by rw [c300]; decide) (by decide) rfl (by decide) ?_
      refine lv_aload_n X.1 X.2.1 dL_law_896 rfl (lv_at hl 1 rfl) ?_
      refine lv_aload_n X.1 X.2.1 dL_law_897 rfl (lv_at hl 0 rfl) ?_
      refine lv_iload_n X.1 X.2.1 dL_law_898 rfl (lv_at hl 3 rfl) ?_
      refine lv_iconst (v := 1) X.1 X.2.1 dL_law_899 (by decide) ?_
      refine lv_iadd X.1 X.2.1 dL_law_900 ?_
      obtain ⟨h301, hf⟩ := bl_gd_at hf
      refine va_sld X.1 X.2.1 hX hbl hbA V.2 (bl_in_vp h301) dL_law_901 ?_
      refine lv_if_eq (tgt := 909) X.1 X.2.1 dL_law_902 (by decide) (fun c302 => ?_) (fun c302 => ?_)
      · have hf := bl_ifp c302 hf
        refine lv_iconst (v := 0) X.1 X.2.1 dL_law_909 (by decide) ?_
        exact w_L_law_910 ho hX hbl hbA hg X hr k18 hk18 σ v1 v2 v3 0 v1 hv1 hv2 hv1 hf _ _ _ V (lv_sub hl [0, 1, 2, 3] rfl)
      · have hf := bl_ifn c302 hf
        refine lv_iconst (v := 1) X.1 X.2.1 dL_law_905 (by decide) ?_
        refine lv_goto (tgt := 910) X.1 X.2.1 dL_law_906 (by decide) ?_
        exact w_L_law_910 ho hX hbl hbA hg X hr k18 hk18 σ v1 v2 v3 1 v1 hv1 hv2 hv1 hf _ _ _ V (lv_sub hl [0, 1, 2, 3] rfl)
    have hf := bl_ifn c300 hf
    by_cases c303 : ((xs (Int32.toNatClampNeg v3)) &&& 63) = 21
    · have hf := bl_ifp c303 hf
      refine bl_swI (v := 21) (tgt := 935) X dL_law_33 (by rw [c303]; decide) (by decide) rfl (by decide) ?_
      refine lv_aload_n X.1 X.2.1 dL_law_935 rfl (lv_at hl 1 rfl) ?_
      refine lv_aload_n X.1 X.2.1 dL_law_936 rfl (lv_at hl 0 rfl) ?_
      refine lv_iload_n X.1 X.2.1 dL_law_937 rfl (lv_at hl 3 rfl) ?_
      refine lv_iconst (v := 1) X.1 X.2.1 dL_law_938 (by decide) ?_
      refine lv_iadd X.1 X.2.1 dL_law_939 ?_
      obtain ⟨h304, hf⟩ := bl_gd_at hf
      refine va_sld X.1 X.2.1 hX hbl hbA V.2 (bl_in_vp h304) dL_law_940 ?_
      refine lv_aload_n X.1 X.2.1 dL_law_941 rfl (lv_at hl 0 rfl) ?_
      refine lv_iload_n X.1 X.2.1 dL_law_942 rfl (lv_at hl 3 rfl) ?_
      refine lv_iconst (v := 2) X.1 X.2.1 dL_law_943 (by decide) ?_
      refine lv_iadd X.1 X.2.1 dL_law_944 ?_
      obtain ⟨h305, hf⟩ := bl_gd_at hf
      refine va_sld X.1 X.2.1 hX hbl hbA V.2 (bl_in_vp h305) dL_law_945 ?_
      obtain ⟨r306, σ307, h308, hf⟩ := bl_bd_at hf
      refine bl_cVl (As := [.int (xs (Int32.toNatClampNeg (v3 + 1))), .int (xs (Int32.toNatClampNeg (v3 + 2)))]) X V hl.1 hv1 rfl ml_L_105 mV_X9_cost (t_X9_cost l g σ v1 (xs (Int32.toNatClampNeg (v3 + 1))) (xs (Int32.toNatClampNeg (v3 + 2))) _ hv1 h308) rfl rfl ⟨Nat.le_of_ble_eq_true rfl, Nat.le_of_ble_eq_true rfl⟩ rfl rfl (Nat.le_of_ble_eq_true rfl) ⟨Nat.le_of_ble_eq_true rfl, Nat.le_of_ble_eq_true rfl⟩ dL_law_946 (fun H locs V => ?_)
      refine lv_aload_n X.1 X.2.1 dL_law_949 rfl (lv_at hl 2 rfl) ?_
      refine lv_aload_n X.1 X.2.1 dL_law_950 rfl (lv_at hl 0 rfl) ?_
      refine lv_iload_n X.1 X.2.1 dL_law_951 rfl (lv_at hl 3 rfl) ?_
      refine lv_iconst (v := 1) X.1 X.2.1 dL_law_952 (by decide) ?_
      refine lv_iadd X.1 X.2.1 dL_law_953 ?_
      obtain ⟨h309, hf⟩ := bl_gd_at hf
      refine va_sld X.1 X.2.1 hX hbl hbA V.2 (bl_in_vp h309) dL_law_954 ?_
      refine lv_aload_n X.1 X.2.1 dL_law_955 rfl (lv_at hl 0 rfl) ?_
      refine lv_iload_n X.1 X.2.1 dL_law_956 rfl (lv_at hl 3 rfl) ?_
      refine lv_iconst (v := 2) X.1 X.2.1 dL_law_957 (by decide) ?_
      refine lv_iadd X.1 X.2.1 dL_law_958 ?_
      obtain ⟨h310, hf⟩ := bl_gd_at hf
      refine va_sld X.1 X.2.1 hX hbl hbA V.2 (bl_in_vp h310) dL_law_959 ?_
      obtain ⟨r311, σ312, h313, hf⟩ := bl_bd_at hf
      refine bl_cVl (As := [.int (xs (Int32.toNatClampNeg (v3 + 1))), .int (xs (Int32.toNatClampNeg (v3 + 2)))]) X V hl.1 hv2 rfl ml_L_109 mV_X10_cost (t_X10_cost l g σ307 v2 (xs (Int32.toNatClampNeg (v3 + 1))) (xs (Int32.toNatClampNeg (v3 + 2))) _ hv2 h313) rfl rfl ⟨Nat.le_of_ble_eq_true rfl, Nat.le_of_ble_eq_true rfl⟩ rfl rfl (Nat.le_of_ble_eq_true rfl) ⟨Nat.le_of_ble_eq_true rfl, Nat.le_of_ble_eq_true rfl⟩ dL_law_960 (fun H locs V => ?_)
      refine bl_lc_eq (tgt := 2362) X dL_law_963 dL_law_964 (by decide) (fun c314 => ?_) (fun c314 => ?_)
      · have hf := bl_ifp c314 hf
        exact w_L_law_2362 ho hX hbl hbA hg X hr k18 hk18 σ312 v1 v2 v3 hv1 hv2 hf _ _ _ V (lv_sub hl [0, 1, 2, 3] rfl)
      · have hf := bl_ifn c314 hf
        refine lv_iconst (v := 0) X.1 X.2.1 dL_law_967 (by decide) ?_
        cases hf
        exact absurd (show (0 : Int32) = 1 from ho) (by decide)
    have hf := bl_ifn c303 hf
    by_cases c315 : ((xs (Int32.toNatClampNeg v3)) &&& 63) = 22
    · have hf := bl_ifp c315 hf
      refine bl_swI (v := 22) (tgt := 969) X dL_law_33 (by rw [c315]; decide) (by decide) rfl (by decide) ?_
      refine lv_aload_n X.1 X.2.1 dL_law_969 rfl (lv_at hl 1 rfl) ?_
      refine lv_aload_n X.1 X.2.1 dL_law_970 rfl (lv_at hl 0 rfl) ?_
      refine lv_iload_n X.1 X.2.1 dL_law_971 rfl (lv_at hl 3 rfl) ?_
      refine lv_iconst (v := 1) X.1 X.2.1 dL_law_972 (by decide) ?_
      refine lv_iadd X.1 X.2.1 dL_law_973 ?_
      obtain ⟨h316, hf⟩ := bl_gd_at hf
      refine va_sld X.1 X.2.1 hX hbl hbA V.2 (bl_in_vp h316) dL_law_974 ?_
      refine lv_aload_n X.1 X.2.1 dL_law_975 rfl (lv_at hl 0 rfl) ?_
      refine lv_iload_n X.1 X.2.1 dL_law_976 rfl (lv_at hl 3 rfl) ?_
      refine lv_iconst (v := 2) X.1 X.2.1 dL_law_977 (by decide) ?_
      refine lv_iadd X.1 X.2.1 dL_law_978 ?_
      obtain ⟨h317, hf⟩ := bl_gd_at hf
      refine va_sld X.1 X.2.1 hX hbl hbA V.2 (bl_in_vp h317) dL_law_979 ?_
      obtain ⟨r318, σ319, h320, hf⟩ := bl_bd_at hf
      refine bl_cVi (As := [.int (xs (Int32.toNatClampNeg (v3 + 1))), .int (xs (Int32.toNatClampNeg (v3 + 2)))]) X V hl.1 hv1 rfl ml_L_110 mV_X9_guards (t_X9_guards l g σ v1 (xs (Int32.toNatClampNeg (v3 + 1))) (xs (Int32.toNatClampNeg (v3 + 2))) _ hv1 h320) rfl rfl ⟨Nat.le_of_ble_eq_true rfl, Nat.le_of_ble_eq_true rfl⟩ rfl rfl (Nat.le_of_ble_eq_true rfl) ⟨Nat.le_of_ble_eq_true rfl, Nat.le_of_ble_eq_true rfl⟩ dL_law_980 (fun H locs V => ?_)
      refine lv_aload_n X.1 X.2.1 dL_law_983 rfl (lv_at hl 2 rfl) ?_
      refine lv_aload_n X.1 X.2.1 dL_law_984 rfl (lv_at hl 0 rfl) ?_
      refine lv_iload_n X.1 X.2.1 dL_law_985 rfl (lv_at hl 3 rfl) ?_
      refine lv_iconst (v := 1) X.1 X.2.1 dL_law_986 (by decide) ?_
      refine lv_iadd X.1 X.2.1 dL_law_987 ?_
      obtain ⟨h321, hf⟩ := bl_gd_at hf
      refine va_sld X.1 X.2.1 hX hbl hbA V.2 (bl_in_vp h321) dL_law_988 ?_
      refine lv_aload_n X.1 X.2.1 dL_law_989 rfl (lv_at hl 0 rfl) ?_
      refine lv_iload_n X.1 X.2.1 dL_law_990 rfl (lv_at hl 3 rfl) ?_
      refine lv_iconst (v := 2) X.1 X.2.1 dL_law_991 (by decide) ?_
      refine lv_iadd X.1 X.2.1 dL_law_992 ?_
      obtain ⟨h322, hf⟩ := bl_gd_at hf
      refine va_sld X.1 X.2.1 hX hbl hbA V.2 (bl_in_vp h322) dL_law_993 ?_
      obtain ⟨r323, σ324, h325, hf⟩ := bl_bd_at hf
      refine bl_cVi (As := [.int (xs (Int32.toNatClampNeg (v3 + 1))), .int (xs (Int32.toNatClampNeg (v3 + 2)))]) X V hl.1 hv2 rfl ml_L_113 mV_X10_guards (t_X10_guards l g σ319 v2 (xs (Int32.toNatClampNeg (v3 + 1))) (xs (Int32.toNatClampNeg (v3 + 2))) _ hv2 h325) rfl rfl ⟨Nat.le_of_ble_eq_true rfl, Nat.le_of_ble_eq_true rfl⟩ rfl rfl (Nat.le_of_ble_eq_true rfl) ⟨Nat.le_of_ble_eq_true rfl, Nat.le_of_ble_eq_true rfl⟩ dL_law_994 (fun H locs V => ?_)
      refine lv_icmp_eq (tgt := 2362) X.1 X.2.1 dL_law_997 (by decide) (fun c326 => ?_) (fun c326 => ?_)
      · have hf := bl_ifp c326 hf
        exact w_L_law_2362 ho hX hbl hbA hg X hr k18 hk18 σ324 v1 v2 v3 hv1 hv2 hf _ _ _ V (lv_sub hl [0, 1, 2, 3] rfl)
      · have hf := bl_ifn c326 hf
        refine lv_iconst (v := 0) X.1 X.2.1 dL_law_1000 (by decide) ?_
        cases hf
        exact absurd (show (0 : Int32) = 1 from ho) (by decide)
    have hf := bl_ifn c315 hf
    by_cases c327 : ((xs (Int32.toNatClampNeg v3)) &&& 63) = 23
    · have hf := bl_ifp c327 hf
      refine bl_swI (v := 23) (tgt := 1002) X dL_law_33 (by rw [c327]; decide) (by decide) rfl (by decide) ?_
      refine lv_aload_n X.1 X.2.1 dL_law_1002 rfl (lv_at hl 1 rfl) ?_
      refine lv_aload_n X.1 X.2.1 dL_law_1003 rfl (lv_at hl 0 rfl) ?_
      refine lv_iload_n X.1 X.2.1 dL_law_1004 rfl (lv_at hl 3 rfl) ?_
      refine lv_iconst (v := 1) X.1 X.2.1 dL_law_1005 (by decide) ?_
      refine lv_iadd X.1 X.2.1 dL_law_1006 ?_
      obtain ⟨h328, hf⟩ := bl_gd_at hf
      refine va_sld X.1 X.2.1 hX hbl hbA V.2 (bl_in_vp h328) dL_law_1007 ?_
      refine lv_aload_n X.1 X.2.1 dL_law_1008 rfl (lv_at hl 0 rfl) ?_
      refine lv_iload_n X.1 X.2.1 dL_law_1009 rfl (lv_at hl 3 rfl) ?_
      refine lv_iconst (v := 2) X.1 X.2.1 dL_law_1010 (by decide) ?_
      refine lv_iadd X.1 X.2.1 dL_law_1011 ?_
      obtain ⟨h329, hf⟩ := bl_gd_at hf
      refine va_sld X.1 X.2.1 hX hbl hbA V.2 (bl_in_vp h329) dL_law_1012 ?_
      refine lv_aload_n X.1 X.2.1 dL_law_1013 rfl (lv_at hl 0 rfl) ?_
      refine lv_iload_n X.1 X.2.1 dL_law_1014 rfl (lv_at hl 3 rfl) ?_
      refine lv_iconst (v := 3) X.1 X.2.1 dL_law_1015 (by decide) ?_
      refine lv_iadd X.1 X.2.1 dL_law_1016 ?_
      obtain ⟨h330, hf⟩ := bl_gd_at hf
      refine va_sld X.1 X.2.1 hX hbl hbA V.2 (bl_in_vp h330) dL_law_1017 ?_
      refine lv_aload_n X.1 X.2.1 dL_law_1018 rfl (lv_at hl 0 rfl) ?_
      refine lv_iload_n X.1 X.2.1 dL_law_1019 rfl (lv_at hl 3 rfl) ?_
      refine lv_iconst (v := 4) X.1 X.2.1 dL_law_1020 (by decide) ?_
      refine lv_iadd X.1 X.2.1 dL_law_1021 ?_
      obtain ⟨h331, hf⟩ := bl_gd_at hf
      refine va_sld X.1 X.2.1 hX hbl hbA V.2 (bl_in_vp h331) dL_law_1022 ?_
      refine lv_aload_n X.1 X.2.1 dL_law_1023 rfl (lv_at hl 0 rfl) ?_
      refine lv_iload_n X.1 X.2.1 dL_law_1024 rfl (lv_at hl 3 rfl) ?_
      refine lv_iconst (v := 5) X.1 X.2.1 dL_law_1025 (by decide) ?_
      refine lv_iadd X.1 X.2.1 dL_law_1026 ?_
      obtain ⟨h332, hf⟩ := bl_gd_at hf
      refine va_sld X.1 X.2.1 hX hbl hbA V.2 (bl_in_vp h332) dL_law_1027 ?_
      refine lv_if_eq (tgt := 1035) X.1 X.2.1 dL_law_1028 (by decide) (fun c333 => ?_) (fun c333 => ?_)
      · have hf := bl_ifp c333 hf
        refine lv_iconst (v := 0) X.1 X.2.1 dL_law_1035 (by decide) ?_
        exact w_L_law_1036 ho hX hbl hbA hg X hr k18 hk18 σ v1 v2 v3 0 (xs (Int32.toNatClampNeg (v3 + 4))) (xs (Int32.toNatClampNeg (v3 + 3))) (xs (Int32.toNatClampNeg (v3 + 2))) (xs (Int32.toNatClampNeg (v3 + 1))) v1 hv1 hv2 hv1 hf _ _ _ V (lv_sub hl [0, 1, 2, 3] rfl)
      · have hf := bl_ifn c333 hf
        refine lv_iconst (v := 1) X.1 X.2.1 dL_law_1031 (by decide) ?_
        refine lv_goto (tgt := 1036) X.1 X.2.1 dL_law_1032 (by decide) ?_
        exact w_L_law_1036 ho hX hbl hbA hg X hr k18 hk18 σ v1 v2 v3 1 (xs (Int32.toNatClampNeg (v3 + 4))) (xs (Int32.toNatClampNeg (v3 + 3))) (xs (Int32.toNatClampNeg (v3 + 2))) (xs (Int32.toNatClampNeg (v3 + 1))) v1 hv1 hv2 hv1 hf _ _ _ V (lv_sub hl [0, 1, 2, 3] rfl)
    have hf := bl_ifn c327 hf
    by_cases c334 : ((xs (Int32.toNatClampNeg v3)) &&& 63) = 24
    · have hf := bl_ifp c334 hf
      refine bl_swI (v := 24) (tgt := 1082) X dL_law_33 (by rw [c334]; decide) (by decide) rfl (by decide) ?_
      refine lv_aload_n X.1 X.2.1 dL_law_1082 rfl (lv_at hl 1 rfl) ?_
      refine lv_aload_n X.1 X.2.1 dL_law_1083 rfl (lv_at hl 0 rfl) ?_
      refine lv_iload_n X.1 X.2.1 dL_law_1084 rfl (lv_at hl 3 rfl) ?_
      refine lv_iconst (v := 1) X.1 X.2.1 dL_law_1085 (by decide) ?_
      refine lv_iadd X.1 X.2.1 dL_law_1086 ?_
      obtain ⟨h335, hf⟩ := bl_gd_at hf
      refine va_sld X.1 X.2.1 hX hbl hbA V.2 (bl_in_vp h335) dL_law_1087 ?_
      refine lv_aload_n X.1 X.2.1 dL_law_1088 rfl (lv_at hl 0 rfl) ?_
      refine lv_iload_n X.1 X.2.1 dL_law_1089 rfl (lv_at hl 3 rfl) ?_
      refine lv_iconst (v := 2) X.1 X.2.1 dL_law_1090 (by decide) ?_
      refine lv_iadd X.1 X.2.1 dL_law_1091 ?_
      obtain ⟨h336, hf⟩ := bl_gd_at hf
      refine va_sld X.1 X.2.1 hX hbl hbA V.2 (bl_in_vp h336) dL_law_1092 ?_
      refine lv_aload_n X.1 X.2.1 dL_law_1093 rfl (lv_at hl 0 rfl) ?_
      refine lv_iload_n X.1 X.2.1 dL_law_1094 rfl (lv_at hl 3 rfl) ?_
      refine lv_iconst (v := 3) X.1 X.2.1 dL_law_1095 (by decide) ?_
      refine lv_iadd X.1 X.2.1 dL_law_1096 ?_
      obtain ⟨h337, hf⟩ := bl_gd_at hf
      refine va_sld X.1 X.2.1 hX hbl hbA V.2 (bl_in_vp h337) dL_law_1097 ?_
      refine lv_aload_n X.1 X.2.1 dL_law_1098 rfl (lv_at hl 0 rfl) ?_
      refine lv_iload_n X.1 X.2.1 dL_law_1099 rfl (lv_at hl 3 rfl) ?_
      refine lv_iconst (v := 4) X.1 X.2.1 dL_law_1100 (by decide) ?_
      refine lv_iadd X.1 X.2.1 dL_law_1101 ?_
      obtain ⟨h338, hf⟩ := bl_gd_at hf
      refine va_sld X.1 X.2.1 hX hbl hbA V.2 (bl_in_vp h338) dL_law_1102 ?_
      refine lv_aload_n X.1 X.2.1 dL_law_1103 rfl (lv_at hl 0 rfl) ?_
      refine lv_iload_n X.1 X.2.1 dL_law_1104 rfl (lv_at hl 3 rfl) ?_
      refine lv_iconst (v := 5) X.1 X.2.1 dL_law_1105 (by decide) ?_
      refine lv_iadd X.1 X.2.1 dL_law_1106 ?_
      obtain ⟨h339, hf⟩ := bl_gd_at hf
      refine va_sld X.1 X.2.1 hX hbl hbA V.2 (bl_in_vp h339) dL_law_1107 ?_
      refine lv_if_eq (tgt := 1115) X.1 X.2.1 dL_law_1108 (by decide) (fun c340 => ?_) (fun c340 => ?_)
      · have hf := bl_ifp c340 hf
        refine lv_iconst (v := 0) X.1 X.2.1 dL_law_1115 (by decide) ?_
        exact w_L_law_1116 ho hX hbl hbA hg X hr k18 hk18 σ v1 v2 v3 0 (xs (Int32.toNatClampNeg (v3 + 4))) (xs (Int32.toNatClampNeg (v3 + 3))) (xs (Int32.toNatClampNeg (v3 + 2))) (xs (Int32.toNatClampNeg (v3 + 1))) v1 hv1 hv2 hv1 hf _ _ _ V (lv_sub hl [0, 1, 2, 3] rfl)
      · have hf := bl_ifn c340 hf
        refine lv_iconst (v := 1) X.1 X.2.1 dL_law_1111 (by decide) ?_
        refine lv_goto (tgt := 1116) X.1 X.2.1 dL_law_1112 (by decide) ?_
        exact w_L_law_1116 ho hX hbl hbA hg X hr k18 hk18 σ v1 v2 v3 1 (xs (Int32.toNatClampNeg (v3 + 4))) (xs (Int32.toNatClampNeg (v3 + 3))) (xs (Int32.toNatClampNeg (v3 + 2))) (xs (Int32.toNatClampNeg (v3 + 1))) v1 hv1 hv2 hv1 hf _ _ _ V (lv_sub hl [0, 1, 2, 3] rfl)
    have hf := bl_ifn c334 hf
    by_cases c341 : ((xs (Int32.toNatClampNeg v3)) &&& 63) = 25
    · have hf := bl_ifp c341 hf
      refine bl_swI (v := 25) (tgt := 1161) X dL_law_33 (by rw [c341]; decide) (by decide) rfl (by decide) ?_
      refine lv_aload_n X.1 X.2.1 dL_law_1161 rfl (lv_at hl 1 rfl) ?_
      refine lv_aload_n X.1 X.2.1 dL_law_1162 rfl (lv_at hl 0 rfl) ?_
      refine lv_iload_n X.1 X.2.1 dL_law_1163 rfl (lv_at hl 3 rfl) ?_
      refine lv_iconst (v := 1) X.1 X.2.1 dL_law_1164 (by decide) ?_
      refine lv_iadd X.1 X.2.1 dL_law_1165 ?_
      obtain ⟨h342, hf⟩ := bl_gd_at hf
      refine va_sld X.1 X.2.1 hX hbl hbA V.2 (bl_in_vp h342) dL_law_1166 ?_
      refine lv_aload_n X.1 X.2.1 dL_law_1167 rfl (lv_at hl 0 rfl) ?_
      refine lv_iload_n X.1 X.2.1 dL_law_1168 rfl (lv_at hl 3 rfl) ?_
      refine lv_iconst (v := 2) X.1 X.2.1 dL_law_1169 (by decide) ?_
      refine lv_iadd X.1 X.2.1 dL_law_1170 ?_
      obtain ⟨h343, hf⟩ := bl_gd_at hf
      refine va_sld X.1 X.2.1 hX hbl hbA V.2 (bl_in_vp h343) dL_law_1171 ?_
      refine lv_aload_n X.1 X.2.1 dL_law_1172 rfl (lv_at hl 0 rfl) ?_
      refine lv_iload_n X.1 X.2.1 dL_law_1173 rfl (lv_at hl 3 rfl) ?_
      refine lv_iconst (v := 3) X.1 X.2.1 dL_law_1174 (by decide) ?_
      refine lv_iadd X.1 X.2.1 dL_law_1175 ?_
      obtain ⟨h344, hf⟩ := bl_gd_at hf
      refine va_sld X.1 X.2.1 hX hbl hbA V.2 (bl_in_vp h344) dL_law_1176 ?_
      refine lv_aload_n X.1 X.2.1 dL_law_1177 rfl (lv_at hl 0 rfl) ?_
      refine lv_iload_n X.1 X.2.1 dL_law_1178 rfl (lv_at hl 3 rfl) ?_
      refine lv_iconst (v := 4) X.1 X.2.1 dL_law_1179 (by decide) ?_
      refine lv_iadd X.1 X.2.1 dL_law_1180 ?_
      obtain ⟨h345, hf⟩ := bl_gd_at hf
      refine va_sld X.1 X.2.1 hX hbl hbA V.2 (bl_in_vp h345) dL_law_1181 ?_
      refine lv_aload_n X.1 X.2.1 dL_law_1182 rfl (lv_at hl 0 rfl) ?_
      refine lv_iload_n X.1 X.2.1 dL_law_1183 rfl (lv_at hl 3 rfl) ?_
      refine lv_iconst (v := 5) X.1 X.2.1 dL_law_1184 (by decide) ?_
      refine lv_iadd X.1 X.2.1 dL_law_1185 ?_
      obtain ⟨h346, hf⟩ := bl_gd_at hf
      refine va_sld X.1 X.2.1 hX hbl hbA V.2 (bl_in_vp h346) dL_law_1186 ?_
      refine lv_if_eq (tgt := 1194) X.1 X.2.1 dL_law_1187 (by decide) (fun c347 => ?_) (fun c347 => ?_)
      · have hf := bl_ifp c347 hf
        refine lv_iconst (v := 0) X.1 X.2.1 dL_law_1194 (by decide) ?_
        exact w_L_law_1195 ho hX hbl hbA hg X hr k18 hk18 σ v1 v2 v3 0 (xs (Int32.toNatClampNeg (v3 + 4))) (xs (Int32.toNatClampNeg (v3 + 3))) (xs (Int32.toNatClampNeg (v3 + 2))) (xs (Int32.toNatClampNeg (v3 + 1))) v1 hv1 hv2 hv1 hf _ _ _ V (lv_sub hl [0, 1, 2, 3] rfl)
      · have hf := bl_ifn c347 hf
        refine lv_iconst (v := 1) X.1 X.2.1 dL_law_1190 (by decide) ?_
        refine lv_goto (tgt := 1195) X.1 X.2.1 dL_law_1191 (by decide) ?_
        exact w_L_law_1195 ho hX hbl hbA hg X hr k18 hk18 σ v1 v2 v3 1 (xs (Int32.toNatClampNeg (v3 + 4))) (xs (Int32.toNatClampNeg (v3 + 3))) (xs (Int32.toNatClampNeg (v3 + 2))) (xs (Int32.toNatClampNeg (v3 + 1))) v1 hv1 hv2 hv1 hf _ _ _ V (lv_sub hl [0, 1, 2, 3] rfl)
    have hf := bl_ifn c341 hf
    by_cases c348 : ((xs (Int32.toNatClampNeg v3)) &&& 63) = 26
    · have hf := bl_ifp c348 hf
      refine bl_swI (v := 26) (tgt := 1240) X dL_law_33 (by rw [c348]; decide) (by decide) rfl (by decide) ?_
      refine lv_aload_n X.1 X.2.1 dL_law_1240 rfl (lv_at hl 1 rfl) ?_
      refine lv_aload_n X.1 X.2.1 dL_law_1241 rfl (lv_at hl 0 rfl) ?_
      refine lv_iload_n X.1 X.2.1 dL_law_1242 rfl (lv_at hl 3 rfl) ?_
      refine lv_iconst (v := 1) X.1 X.2.1 dL_law_1243 (by decide) ?_
      refine lv_iadd X.1 X.2.1 dL_law_1244 ?_
      obtain ⟨h349, hf⟩ := bl_gd_at hf
      refine va_sld X.1 X.2.1 hX hbl hbA V.2 (bl_in_vp h349) dL_law_1245 ?_
      refine lv_aload_n X.1 X.2.1 dL_law_1246 rfl (lv_at hl 0 rfl) ?_
      refine lv_iload_n X.1 X.2.1 dL_law_1247 rfl (lv_at hl 3 rfl) ?_
      refine lv_iconst (v := 2) X.1 X.2.1 dL_law_1248 (by decide) ?_
      refine lv_iadd X.1 X.2.1 dL_law_1249 ?_
      obtain ⟨h350, hf⟩ := bl_gd_at hf
      refine va_sld X.1 X.2.1 hX hbl hbA V.2 (bl_in_vp h350) dL_law_1250 ?_
      refine lv_aload_n X.1 X.2.1 dL_law_1251 rfl (lv_at hl 0 rfl) ?_
      refine lv_iload_n X.1 X.2.1 dL_law_1252 rfl (lv_at hl 3 rfl) ?_
      refine lv_iconst (v := 3) X.1 X.2.1 dL_law_1253 (by decide) ?_
      refine lv_iadd X.1 X.2.1 dL_law_1254 ?_
      obtain ⟨h351, hf⟩ := bl_gd_at hf
      refine va_sld X.1 X.2.1 hX hbl hbA V.2 (bl_in_vp h351) dL_law_1255 ?_
      refine lv_aload_n X.1 X.2.1 dL_law_1256 rfl (lv_at hl 0 rfl) ?_
      refine lv_iload_n X.1 X.2.1 dL_law_1257 rfl (lv_at hl 3 rfl) ?_
      refine lv_iconst (v := 4) X.1 X.2.1 dL_law_1258 (by decide) ?_
      refine lv_iadd X.1 X.2.1 dL_law_1259 ?_
      obtain ⟨h352, hf⟩ := bl_gd_at hf
      refine va_sld X.1 X.2.1 hX hbl hbA V.2 (bl_in_vp h352) dL_law_1260 ?_
      refine lv_aload_n X.1 X.2.1 dL_law_1261 rfl (lv_at hl 0 rfl) ?_
      refine lv_iload_n X.1 X.2.1 dL_law_1262 rfl (lv_at hl 3 rfl) ?_
      refine lv_iconst (v := 5) X.1 X.2.1 dL_law_1263 (by decide) ?_
      refine lv_iadd X.1 X.2.1 dL_law_1264 ?_
      obtain ⟨h353, hf⟩ := bl_gd_at hf
      refine va_sld X.1 X.2.1 hX hbl hbA V.2 (bl_in_vp h353) dL_law_1265 ?_
      refine lv_if_eq (tgt := 1273) X.1 X.2.1 dL_law_1266 (by decide) (fun c354 => ?_) (fun c354 => ?_)
      · have hf := bl_ifp c354 hf
        refine lv_iconst (v := 0) X.1 X.2.1 dL_law_1273 (by decide) ?_
        exact w_L_law_1274 ho hX hbl hbA hg X hr k18 hk18 σ v1 v2 v3 0 (xs (Int32.toNatClampNeg (v3 + 4))) (xs (Int32.toNatClampNeg (v3 + 3))) (xs (Int32.toNatClampNeg (v3 + 2))) (xs (Int32.toNatClampNeg (v3 + 1))) v1 hv1 hv2 hv1 hf _ _ _ V (lv_sub hl [0, 1, 2, 3] rfl)
      · have hf := bl_ifn c354 hf
        refine lv_iconst (v := 1) X.1 X.2.1 dL_law_1269 (by decide) ?_
        refine lv_goto (tgt := 1274) X.1 X.2.1 dL_law_1270 (by decide) ?_
        exact w_L_law_1274 ho hX hbl hbA hg X hr k18 hk18 σ v1 v2 v3 1 (xs (Int32.toNatClampNeg (v3 + 4))) (xs (Int32.toNatClampNeg (v3 + 3))) (xs (Int32.toNatClampNeg (v3 + 2))) (xs (Int32.toNatClampNeg (v3 + 1))) v1 hv1 hv2 hv1 hf _ _ _ V (lv_sub hl [0, 1, 2, 3] rfl)
    have hf := bl_ifn c348 hf
    by_cases c355 : ((xs (Int32.toNatClampNeg v3)) &&& 63) = 27
    · have hf := bl_ifp c355 hf
      refine bl_swI (v := 27) (tgt := 1332) X dL_law_33 (by rw [c355]; decide) (by decide) rfl (by decide) ?_
      refine lv_aload_n X.1 X.2.1 dL_law_1332 rfl (lv_at hl 1 rfl) ?_
      refine lv_aload_n X.1 X.2.1 dL_law_1333 rfl (lv_at hl 0 rfl) ?_
      refine lv_iload_n X.1 X.2.1 dL_law_1334 rfl (lv_at hl 3 rfl) ?_
      refine lv_iconst (v := 1) X.1 X.2.1 dL_law_1335 (by decide) ?_
      refine lv_iadd X.1 X.2.1 dL_law_1336 ?_
      obtain ⟨h356, hf⟩ := bl_gd_at hf
      refine va_sld X.1 X.2.1 hX hbl hbA V.2 (bl_in_vp h356) dL_law_1337 ?_
      refine lv_aload_n X.1 X.2.1 dL_law_1338 rfl (lv_at hl 0 rfl) ?_
      refine lv_iload_n X.1 X.2.1 dL_law_1339 rfl (lv_at hl 3 rfl) ?_
      refine lv_iconst (v := 2) X.1 X.2.1 dL_law_1340 (by decide) ?_
      refine lv_iadd X.1 X.2.1 dL_law_1341 ?_
      obtain ⟨h357, hf⟩ := bl_gd_at hf
      refine va_sld X.1 X.2.1 hX hbl hbA V.2 (bl_in_vp h357) dL_law_1342 ?_
      obtain ⟨r358, σ359, h360, hf⟩ := bl_bd_at hf
      refine bl_cVi (As := [.int (xs (Int32.toNatClampNeg (v3 + 1))), .int (xs (Int32.toNatClampNeg (v3 + 2)))]) X V hl.1 hv1 rfl ml_L_133 mV_X9_patience (t_X9_patience l g σ v1 (xs (Int32.toNatClampNeg (v3 + 1))) (xs (Int32.toNatClampNeg (v3 + 2))) _ hv1 h360) rfl rfl ⟨Nat.le_of_ble_eq_true rfl, Nat.le_of_ble_eq_true rfl⟩ rfl rfl (Nat.le_of_ble_eq_true rfl) ⟨Nat.le_of_ble_eq_true rfl, Nat.le_of_ble_eq_true rfl⟩ dL_law_1343 (fun H locs V => ?_)
      refine lv_aload_n X.1 X.2.1 dL_law_1346 rfl (lv_at hl 2 rfl) ?_
      refine lv_aload_n X.1 X.2.1 dL_law_1347 rfl (lv_at hl 0 rfl) ?_
      refine lv_iload_n X.1 X.2.1 dL_law_1348 rfl (lv_at hl 3 rfl) ?_
      refine lv_iconst (v := 1) X.1 X.2.1 dL_law_1349 (by decide) ?_
      refine lv_iadd X.1 X.2.1 dL_law_1350 ?_
      obtain ⟨h361, hf⟩ := bl_gd_at hf
      refine va_sld X.1 X.2.1 hX hbl hbA V.2 (bl_in_vp h361) dL_law_1351 ?_
      refine lv_aload_n X.1 X.2.1 dL_law_1352 rfl (lv_at hl 0 rfl) ?_
      refine lv_iload_n X.1 X.2.1 dL_law_1353 rfl (lv_at hl 3 rfl) ?_
      refine lv_iconst (v := 2) X.1 X.2.1 dL_law_1354 (by decide) ?_
      refine lv_iadd X.1 X.2.1 dL_law_1355 ?_
      obtain ⟨h362, hf⟩ := bl_gd_at hf
      refine va_sld X.1 X.2.1 hX hbl hbA V.2 (bl_in_vp h362) dL_law_1356 ?_
      obtain ⟨r363, σ364, h365, hf⟩ := bl_bd_at hf
      refine bl_cVi (As := [.int (xs (Int32.toNatClampNeg (v3 + 1))), .int (xs (Int32.toNatClampNeg (v3 + 2)))]) X V hl.1 hv2 rfl ml_L_136 mV_X10_patience (t_X10_patience l g σ359 v2 (xs (Int32.toNatClampNeg (v3 + 1))) (xs (Int32.toNatClampNeg (v3 + 2))) _ hv2 h365) rfl rfl ⟨Nat.le_of_ble_eq_true rfl, Nat.le_of_ble_eq_true rfl⟩ rfl rfl (Nat.le_of_ble_eq_true rfl) ⟨Nat.le_of_ble_eq_true rfl, Nat.le_of_ble_eq_true rfl⟩ dL_law_1357 (fun H locs V => ?_)
      refine lv_icmp_eq (tgt := 2362) X.1 X.2.1 dL_law_1360 (by decide) (fun c366 => ?_) (fun c366 => ?_)
      · have hf := bl_ifp c366 hf
        exact w_L_law_2362 ho hX hbl hbA hg X hr k18 hk18 σ364 v1 v2 v3 hv1 hv2 hf _ _ _ V (lv_sub hl [0, 1, 2, 3] rfl)
      · have hf := bl_ifn c366 hf
        refine lv_iconst (v := 0) X.1 X.2.1 dL_law_1363 (by decide) ?_
        cases hf
        exact absurd (show (0 : Int32) = 1 from ho) (by decide)
    have hf := bl_ifn c355 hf
    by_cases c367 : ((xs (Int32.toNatClampNeg v3)) &&& 63) = 28
    · have hf := bl_ifp c367 hf
      refine bl_swI (v := 28) (tgt := 1365) X dL_law_33 (by rw [c367]; decide) (by decide) rfl (by decide) ?_
      refine lv_aload_n X.1 X.2.1 dL_law_1365 rfl (lv_at hl 1 rfl) ?_
      refine lv_aload_n X.1 X.2.1 dL_law_1366 rfl (lv_at hl 0 rfl) ?_
      refine lv_iload_n X.1 X.2.1 dL_law_1367 rfl (lv_at hl 3 rfl) ?_
      refine lv_iconst (v := 1) X.1 X.2.1 dL_law_1368 (by decide) ?_
      refine lv_iadd X.1 X.2.1 dL_law_1369 ?_
      obtain ⟨h368, hf⟩ := bl_gd_at hf
      refine va_sld X.1 X.2.1 hX hbl hbA V.2 (bl_in_vp h368) dL_law_1370 ?_
      refine lv_aload_n X.1 X.2.1 dL_law_1371 rfl (lv_at hl 0 rfl) ?_
      refine lv_iload_n X.1 X.2.1 dL_law_1372 rfl (lv_at hl 3 rfl) ?_
      refine lv_iconst (v := 2) X.1 X.2.1 dL_law_1373 (by decide) ?_
      refine lv_iadd X.1 X.2.1 dL_law_1374 ?_
      obtain ⟨h369, hf⟩ := bl_gd_at hf
      refine va_sld X.1 X.2.1 hX hbl hbA V.2 (bl_in_vp h369) dL_law_1375 ?_
      obtain ⟨r370, σ371, h372, hf⟩ := bl_bd_at hf
      refine bl_cVl (As := [.int (xs (Int32.toNatClampNeg (v3 + 1))), .int (xs (Int32.toNatClampNeg (v3 + 2)))]) X V hl.1 hv1 rfl ml_L_137 mV_X9_worst (t_X9_worst l g σ v1 (xs (Int32.toNatClampNeg (v3 + 1))) (xs (Int32.toNatClampNeg (v3 + 2))) _ hv1 h372) rfl rfl ⟨Nat.le_of_ble_eq_true rfl, Nat.le_of_ble_eq_true rfl⟩ rfl rfl (Nat.le_of_ble_eq_true rfl) ⟨Nat.le_of_ble_eq_true rfl, Nat.le_of_ble_eq_true rfl⟩ dL_law_1376 (fun H locs V => ?_)
      refine lv_aload_n X.1 X.2.1 dL_law_1379 rfl (lv_at hl 2 rfl) ?_
      refine lv_aload_n X.1 X.2.1 dL_law_1380 rfl (lv_at hl 0 rfl) ?_
      refine lv_iload_n X.1 X.2.1 dL_law_1381 rfl (lv_at hl 3 rfl) ?_
      refine lv_iconst (v := 1) X.1 X.2.1 dL_law_1382 (by decide) ?_
      refine lv_iadd X.1 X.2.1 dL_law_1383 ?_
      obtain ⟨h373, hf⟩ := bl_gd_at hf
      refine va_sld X.1 X.2.1 hX hbl hbA V.2 (bl_in_vp h373) dL_law_1384 ?_
      refine lv_aload_n X.1 X.2.1 dL_law_1385 rfl (lv_at hl 0 rfl) ?_
      refine lv_iload_n X.1 X.2.1 dL_law_1386 rfl (lv_at hl 3 rfl) ?_
      refine lv_iconst (v := 2) X.1 X.2.1 dL_law_1387 (by decide) ?_
      refine lv_iadd X.1 X.2.1 dL_law_1388 ?_
      obtain ⟨h374, hf⟩ := bl_gd_at hf
      refine va_sld X.1 X.2.1 hX hbl hbA V.2 (bl_in_vp h374) dL_law_1389 ?_
      obtain ⟨r375, σ376, h377, hf⟩ := bl_bd_at hf
      refine bl_cVl (As := [.int (xs (Int32.toNatClampNeg (v3 + 1))), .int (xs (Int32.toNatClampNeg (v3 + 2)))]) X V hl.1 hv2 rfl ml_L_140 mV_X10_worst (t_X10_worst l g σ371 v2 (xs (Int32.toNatClampNeg (v3 + 1))) (xs (Int32.toNatClampNeg (v3 + 2))) _ hv2 h377) rfl rfl ⟨Nat.le_of_ble_eq_true rfl, Nat.le_of_ble_eq_true rfl⟩ rfl rfl (Nat.le_of_ble_eq_true rfl) ⟨Nat.le_of_ble_eq_true rfl, Nat.le_of_ble_eq_true rfl⟩ dL_law_1390 (fun H locs V => ?_)
      refine bl_lc_eq (tgt := 2362) X dL_law_1393 dL_law_1394 (by decide) (fun c378 => ?_) (fun c378 => ?_)
      · have hf := bl_ifp c378 hf
        exact w_L_law_2362 ho hX hbl hbA hg X hr k18 hk18 σ376 v1 v2 v3 hv1 hv2 hf _ _ _ V (lv_sub hl [0, 1, 2, 3] rfl)
      · have hf := bl_ifn c378 hf
        refine lv_iconst (v := 0) X.1 X.2.1 dL_law_1397 (by decide) ?_
        cases hf
        exact absurd (show (0 : Int32) = 1 from ho) (by decide)
    have hf := bl_ifn c367 hf
    by_cases c379 : ((xs (Int32.toNatClampNeg v3)) &&& 63) = 29
    · have hf := bl_ifp c379 hf
      refine bl_swI (v := 29) (tgt := 1399) X dL_law_33 (by rw [c379]; decide) (by decide) rfl (by decide) ?_
      refine lv_aload_n X.1 X.2.1 dL_law_1399 rfl (lv_at hl 1 rfl) ?_
      refine lv_aload_n X.1 X.2.1 dL_law_1400 rfl (lv_at hl 0 rfl) ?_
      refine lv_iload_n X.1 X.2.1 dL_law_1401 rfl (lv_at hl 3 rfl) ?_
      refine lv_iconst (v := 1) X.1 X.2.1 dL_law_1402 (by decide) ?_
      refine lv_iadd X.1 X.2.1 dL_law_1403 ?_
      obtain ⟨h380, hf⟩ := bl_gd_at hf
      refine va_sld X.1 X.2.1 hX hbl hbA V.2 (bl_in_vp h380) dL_law_1404 ?_
      refine lv_aload_n X.1 X.2.1 dL_law_1405 rfl (lv_at hl 0 rfl) ?_
      refine lv_iload_n X.1 X.2.1 dL_law_1406 rfl (lv_at hl 3 rfl) ?_
      refine lv_iconst (v := 2) X.1 X.2.1 dL_law_1407 (by decide) ?_
      refine lv_iadd X.1 X.2.1 dL_law_1408 ?_
      obtain ⟨h381, hf⟩ := bl_gd_at hf
      refine va_sld X.1 X.2.1 hX hbl hbA V.2 (bl_in_vp h381) dL_law_1409 ?_
      obtain ⟨r382, σ383, h384, hf⟩ := bl_bd_at hf
      refine bl_cVl (As := [.int (xs (Int32.toNatClampNeg (v3 + 1))), .int (xs (Int32.toNatClampNeg (v3 + 2)))]) X V hl.1 hv1 rfl ml_L_141 mV_X9_bare (t_X9_bare l g σ v1 (xs (Int32.toNatClampNeg (v3 + 1))) (xs (Int32.toNatClampNeg (v3 + 2))) _ hv1 h384) rfl rfl ⟨Nat.le_of_ble_eq_true rfl, Nat.le_of_ble_eq_true rfl⟩ rfl rfl (Nat.le_of_ble_eq_true rfl) ⟨Nat.le_of_ble_eq_true rfl, Nat.le_of_ble_eq_true rfl⟩ dL_law_1410 (fun H locs V => ?_)
      refine lv_aload_n X.1 X.2.1 dL_law_1413 rfl (lv_at hl 2 rfl) ?_
      refine lv_aload_n X.1 X.2.1 dL_law_1414 rfl (lv_at hl 0 rfl) ?_
      refine lv_iload_n X.1 X.2.1 dL_law_1415 rfl (lv_at hl 3 rfl) ?_
      refine lv_iconst (v := 1) X.1 X.2.1 dL_law_1416 (by decide) ?_
      refine lv_iadd X.1 X.2.1 dL_law_1417 ?_
      obtain ⟨h385, hf⟩ := bl_gd_at hf
      refine va_sld X.1 X.2.1 hX hbl hbA V.2 (bl_in_vp h385) dL_law_1418 ?_
      refine lv_aload_n X.1 X.2.1 dL_law_1419 rfl (lv_at hl 0 rfl) ?_
      refine lv_iload_n X.1 X.2.1 dL_law_1420 rfl (lv_at hl 3 rfl) ?_
      refine lv_iconst (v := 2) X.1 X.2.1 dL_law_1421 (by decide) ?_
      refine lv_iadd X.1 X.2.1 dL_law_1422 ?_
      obtain ⟨h386, hf⟩ := bl_gd_at hf
      refine va_sld X.1 X.2.1 hX hbl hbA V.2 (bl_in_vp h386) dL_law_1423 ?_
      obtain ⟨r387, σ388, h389, hf⟩ := bl_bd_at hf
      refine bl_cVl (As := [.int (xs (Int32.toNatClampNeg (v3 + 1))), .int (xs (Int32.toNatClampNeg (v3 + 2)))]) X V hl.1 hv2 rfl ml_L_144 mV_X10_bare (t_X10_bare l g σ383 v2 (xs (Int32.toNatClampNeg (v3 + 1))) (xs (Int32.toNatClampNeg (v3 + 2))) _ hv2 h389) rfl rfl ⟨Nat.le_of_ble_eq_true rfl, Nat.le_of_ble_eq_true rfl⟩ rfl rfl (Nat.le_of_ble_eq_true rfl) ⟨Nat.le_of_ble_eq_true rfl, Nat.le_of_ble_eq_true rfl⟩ dL_law_1424 (fun H locs V => ?_)
      refine bl_lc_eq (tgt := 2362) X dL_law_1427 dL_law_1428 (by decide) (fun c390 => ?_) (fun c390 => ?_)
      · have hf := bl_ifp c390 hf
        exact w_L_law_2362 ho hX hbl hbA hg X hr k18 hk18 σ388 v1 v2 v3 hv1 hv2 hf _ _ _ V (lv_sub hl [0, 1, 2, 3] rfl)
      · have hf := bl_ifn c390 hf
        refine lv_iconst (v := 0) X.1 X.2.1 dL_law_1431 (by decide) ?_
        cases hf
        exact absurd (show (0 : Int32) = 1 from ho) (by decide)
    have hf := bl_ifn c379 hf
    by_cases c391 : ((xs (Int32.toNatClampNeg v3)) &&& 63) = 30
    · have hf := bl_ifp c391 hf
      refine bl_swI (v := 30) (tgt := 1433) X dL_law_33 (by rw [c391]; decide) (by decide) rfl (by decide) ?_
      refine lv_aload_n X.1 X.2.1 dL_law_1433 rfl (lv_at hl 1 rfl) ?_
      refine lv_aload_n X.1 X.2.1 dL_law_1434 rfl (lv_at hl 0 rfl) ?_
      refine lv_iload_n X.1 X.2.1 dL_law_1435 rfl (lv_at hl 3 rfl) ?_
      refine lv_iconst (v := 1) X.1 X.2.1 dL_law_1436 (by decide) ?_
      refine lv_iadd X.1 X.2.1 dL_law_1437 ?_
      obtain ⟨h392, hf⟩ := bl_gd_at hf
      refine va_sld X.1 X.2.1 hX hbl hbA V.2 (bl_in_vp h392) dL_law_1438 ?_
      refine lv_aload_n X.1 X.2.1 dL_law_1439 rfl (lv_at hl 0 rfl) ?_
      refine lv_iload_n X.1 X.2.1 dL_law_1440 rfl (lv_at hl 3 rfl) ?_
      refine lv_iconst (v := 2) X.1 X.2.1 dL_law_1441 (by decide) ?_
      refine lv_iadd X.1 X.2.1 dL_law_1442 ?_
      obtain ⟨h393, hf⟩ := bl_gd_at hf
      refine va_sld X.1 X.2.1 hX hbl hbA V.2 (bl_in_vp h393) dL_law_1443 ?_
      refine lv_aload_n X.1 X.2.1 dL_law_1444 rfl (lv_at hl 0 rfl) ?_
      refine lv_iload_n X.1 X.2.1 dL_law_1445 rfl (lv_at hl 3 rfl) ?_
      refine lv_iconst (v := 3) X.1 X.2.1 dL_law_1446 (by decide) ?_
      refine lv_iadd X.1 X.2.1 dL_law_1447 ?_
      obtain ⟨h394, hf⟩ := bl_gd_at hf
      refine va_sld X.1 X.2.1 hX hbl hbA V.2 (bl_in_vp h394) dL_law_1448 ?_
      refine lv_aload_n X.1 X.2.1 dL_law_1449 rfl (lv_at hl 0 rfl) ?_
      refine lv_iload_n X.1 X.2.1 dL_law_1450 rfl (lv_at hl 3 rfl) ?_
      refine lv_iconst (v := 4) X.1 X.2.1 dL_law_1451 (by decide) ?_
      refine lv_iadd X.1 X.2.1 dL_law_1452 ?_
      obtain ⟨h395, hf⟩ := bl_gd_at hf
      refine va_sld X.1 X.2.1 hX hbl hbA V.2 (bl_in_vp h395) dL_law_1453 ?_
      obtain ⟨r396, σ397, h398, hf⟩ := bl_bd_at hf
      refine bl_cVl (As := [.int (xs (Int32.toNatClampNeg (v3 + 1))), .int (xs (Int32.toNatClampNeg (v3 + 2))), .int (xs (Int32.toNatClampNeg (v3 + 3))), .int (xs (Int32.toNatClampNeg (v3 + 4)))]) X V hl.1 hv1 rfl ml_L_145 mV_X9_by (t_X9_by l g σ v1 (xs (Int32.toNatClampNeg (v3 + 1))) (xs (Int32.toNatClampNeg (v3 + 2))) (xs (Int32.toNatClampNeg (v3 + 3))) (xs (Int32.toNatClampNeg (v3 + 4))) _ hv1 h398) rfl rfl ⟨Nat.le_of_ble_eq_true rfl, Nat.le_of_ble_eq_true rfl⟩ rfl rfl (Nat.le_of_ble_eq_true rfl) ⟨Nat.le_of_ble_eq_true rfl, Nat.le_of_ble_eq_true rfl⟩ dL_law_1454 (fun H locs V => ?_)
      refine lv_aload_n X.1 X.2.1 dL_law_1457 rfl (lv_at hl 2 rfl) ?_
      refine lv_aload_n X.1 X.2.1 dL_law_1458 rfl (lv_at hl 0 rfl) ?_
      refine lv_iload_n X.1 X.2.1 dL_law_1459 rfl (lv_at hl 3 rfl) ?_
      refine lv_iconst (v := 1) X.1 X.2.1 dL_law_1460 (by decide) ?_
      refine lv_iadd X.1 X.2.1 dL_law_1461 ?_
      obtain ⟨h399, hf⟩ := bl_gd_at hf
      refine va_sld X.1 X.2.1 hX hbl hbA V.2 (bl_in_vp h399) dL_law_1462 ?_
      refine lv_aload_n X.1 X.2.1 dL_law_1463 rfl (lv_at hl 0 rfl) ?_
      refine lv_iload_n X.1 X.2.1 dL_law_1464 rfl (lv_at hl 3 rfl) ?_
      refine lv_iconst (v := 2) X.1 X.2.1 dL_law_1465 (by decide) ?_
      refine lv_iadd X.1 X.2.1 dL_law_1466 ?_
      obtain ⟨h400, hf⟩ := bl_gd_at hf
      refine va_sld X.1 X.2.1 hX hbl hbA V.2 (bl_in_vp h400) dL_law_1467 ?_
      refine lv_aload_n X.1 X.2.1 dL_law_1468 rfl (lv_at hl 0 rfl) ?_
      refine lv_iload_n X.1 X.2.1 dL_law_1469 rfl (lv_at hl 3 rfl) ?_
      refine lv_iconst (v := 3) X.1 X.2.1 dL_law_1470 (by decide) ?_
      refine lv_iadd X.1 X.2.1 dL_law_1471 ?_
      obtain ⟨h401, hf⟩ := bl_gd_at hf
      refine va_sld X.1 X.2.1 hX hbl hbA V.2 (bl_in_vp h401) dL_law_1472 ?_
      refine lv_aload_n X.1 X.2.1 dL_law_1473 rfl (lv_at hl 0 rfl) ?_
      refine lv_iload_n X.1 X.2.1 dL_law_1474 rfl (lv_at hl 3 rfl) ?_
      refine lv_iconst (v := 4) X.1 X.2.1 dL_law_1475 (by decide) ?_
      refine lv_iadd X.1 X.2.1 dL_law_1476 ?_
      obtain ⟨h402, hf⟩ := bl_gd_at hf
      refine va_sld X.1 X.2.1 hX hbl hbA V.2 (bl_in_vp h402) dL_law_1477 ?_
      obtain ⟨r403, σ404, h405, hf⟩ := bl_bd_at hf
      refine bl_cVl (As := [.int (xs (Int32.toNatClampNeg (v3 + 1))), .int (xs (Int32.toNatClampNeg (v3 + 2))), .int (xs (Int32.toNatClampNeg (v3 + 3))), .int (xs (Int32.toNatClampNeg (v3 + 4)))]) X V hl.1 hv2 rfl ml_L_149 mV_X10_by (t_X10_by l g σ397 v2 (xs (Int32.toNatClampNeg (v3 + 1))) (xs (Int32.toNatClampNeg (v3 + 2))) (xs (Int32.toNatClampNeg (v3 + 3))) (xs (Int32.toNatClampNeg (v3 + 4))) _ hv2 h405) rfl rfl ⟨Nat.le_of_ble_eq_true rfl, Nat.le_of_ble_eq_true rfl⟩ rfl rfl (Nat.le_of_ble_eq_true rfl) ⟨Nat.le_of_ble_eq_true rfl, Nat.le_of_ble_eq_true rfl⟩ dL_law_1478 (fun H locs V => ?_)
      refine bl_lc_eq (tgt := 2362) X dL_law_1481 dL_law_1482 (by decide) (fun c406 => ?_) (fun c406 => ?_)
      · have hf := bl_ifp c406 hf
        exact w_L_law_2362 ho hX hbl hbA hg X hr k18 hk18 σ404 v1 v2 v3 hv1 hv2 hf _ _ _ V (lv_sub hl [0, 1, 2, 3] rfl)
      · have hf := bl_ifn c406 hf
        refine lv_iconst (v := 0) X.1 X.2.1 dL_law_1485 (by decide) ?_
        cases hf
        exact absurd (show (0 : Int32) = 1 from ho) (by decide)
    have hf := bl_ifn c391 hf
    by_cases c407 : ((xs (Int32.toNatClampNeg v3)) &&& 63) = 31
    · have hf := bl_ifp c407 hf
      refine bl_swI (v := 31) (tgt := 1487) X dL_law_33 (by rw [c407]; decide) (by decide) rfl (by decide) ?_
      refine lv_aload_n X.1 X.2.1 dL_law_1487 rfl (lv_at hl 1 rfl) ?_
      refine lv_aload_n X.1 X.2.1 dL_law_1488 rfl (lv_at hl 0 rfl) ?_
      refine lv_iload_n X.1 X.2.1 dL_law_1489 rfl (lv_at hl 3 rfl) ?_
      refine lv_iconst (v := 1) X.1 X.2.1 dL_law_1490 (by decide) ?_
      refine lv_iadd X.1 X.2.1 dL_law_1491 ?_
      obtain ⟨h408, hf⟩ := bl_gd_at hf
      refine va_sld X.1 X.2.1 hX hbl hbA V.2 (bl_in_vp h408) dL_law_1492 ?_
      refine lv_aload_n X.1 X.2.1 dL_law_1493 rfl (lv_at hl 0 rfl) ?_
      refine lv_iload_n X.1 X.2.1 dL_law_1494 rfl (lv_at hl 3 rfl) ?_
      refine lv_iconst (v := 2) X.1 X.2.1 dL_law_1495 (by decide) ?_
      refine lv_iadd X.1 X.2.1 dL_law_1496 ?_
      obtain ⟨h409, hf⟩ := bl_gd_at hf
      refine va_sld X.1 X.2.1 hX hbl hbA V.2 (bl_in_vp h409) dL_law_1497 ?_
      obtain ⟨r410, σ411, h412, hf⟩ := bl_bd_at hf
      refine bl_cVi (As := [.int (xs (Int32.toNatClampNeg (v3 + 1))), .int (xs (Int32.toNatClampNeg (v3 + 2)))]) X V hl.1 hv1 rfl ml_L_150 mV_X9_bestLimit (t_X9_bestLimit l g σ v1 (xs (Int32.toNatClampNeg (v3 + 1))) (xs (Int32.toNatClampNeg (v3 + 2))) _ hv1 h412) rfl rfl ⟨Nat.le_of_ble_eq_true rfl, Nat.le_of_ble_eq_true rfl⟩ rfl rfl (Nat.le_of_ble_eq_true rfl) ⟨Nat.le_of_ble_eq_true rfl, Nat.le_of_ble_eq_true rfl⟩ dL_law_1498 (fun H locs V => ?_)
      refine lv_aload_n X.1 X.2.1 dL_law_1501 rfl (lv_at hl 2 rfl) ?_
      refine lv_aload_n X.1 X.2.1 dL_law_1502 rfl (lv_at hl 0 rfl) ?_
      refine lv_iload_n X.1 X.2.1 dL_law_1503 rfl (lv_at hl 3 rfl) ?_
      refine lv_iconst (v := 1) X.1 X.2.1 dL_law_1504 (by decide) ?_
      refine lv_iadd X.1 X.2.1 dL_law_1505 ?_
      obtain ⟨h413, hf⟩ := bl_gd_at hf
      refine va_sld X.1 X.2.1 hX hbl hbA V.2 (bl_in_vp h413) dL_law_1506 ?_
      refine lv_aload_n X.1 X.2.1 dL_law_1507 rfl (lv_at hl 0 rfl) ?_
      refine lv_iload_n X.1 X.2.1 dL_law_1508 rfl (lv_at hl 3 rfl) ?_
      refine lv_iconst (v := 2) X.1 X.2.1 dL_law_1509 (by decide) ?_
      refine lv_iadd X.1 X.2.1 dL_law_1510 ?_
      obtain ⟨h414, hf⟩ := bl_gd_at hf
      refine va_sld X.1 X.2.1 hX hbl hbA V.2 (bl_in_vp h414) dL_law_1511 ?_
      obtain ⟨r415, σ416, h417, hf⟩ := bl_bd_at hf
      refine bl_cVi (As := [.int (xs (Int32.toNatClampNeg (v3 + 1))), .int (xs (Int32.toNatClampNeg (v3 + 2)))]) X V hl.1 hv2 rfl ml_L_153 mV_X10_bestLimit (t_X10_bestLimit l g σ411 v2 (xs (Int32.toNatClampNeg (v3 + 1))) (xs (Int32.toNatClampNeg (v3 + 2))) _ hv2 h417) rfl rfl ⟨Nat.le_of_ble_eq_true rfl, Nat.le_of_ble_eq_true rfl⟩ rfl rfl (Nat.le_of_ble_eq_true rfl) ⟨Nat.le_of_ble_eq_true rfl, Nat.le_of_ble_eq_true rfl⟩ dL_law_1512 (fun H locs V => ?_)
      refine lv_icmp_eq (tgt := 2362) X.1 X.2.1 dL_law_1515 (by decide) (fun c418 => ?_) (fun c418 => ?_)
      · have hf := bl_ifp c418 hf
        exact w_L_law_2362 ho hX hbl hbA hg X hr k18 hk18 σ416 v1 v2 v3 hv1 hv2 hf _ _ _ V (lv_sub hl [0, 1, 2, 3] rfl)
      · have hf := bl_ifn c418 hf
        refine lv_iconst (v := 0) X.1 X.2.1 dL_law_1518 (by decide) ?_
        cases hf
        exact absurd (show (0 : Int32) = 1 from ho) (by decide)
    have hf := bl_ifn c407 hf
    by_cases c419 : ((xs (Int32.toNatClampNeg v3)) &&& 63) = 32
    · have hf := bl_ifp c419 hf
      refine bl_swI (v := 32) (tgt := 1520) X dL_law_33 (by rw [c419]; decide) (by decide) rfl (by decide) ?_
      refine lv_aload_n X.1 X.2.1 dL_law_1520 rfl (lv_at hl 1 rfl) ?_
      refine lv_aload_n X.1 X.2.1 dL_law_1521 rfl (lv_at hl 0 rfl) ?_
      refine lv_iload_n X.1 X.2.1 dL_law_1522 rfl (lv_at hl 3 rfl) ?_
      refine lv_iconst (v := 1) X.1 X.2.1 dL_law_1523 (by decide) ?_
      refine lv_iadd X.1 X.2.1 dL_law_1524 ?_
      obtain ⟨h420, hf⟩ := bl_gd_at hf
      refine va_sld X.1 X.2.1 hX hbl hbA V.2 (bl_in_vp h420) dL_law_1525 ?_
      refine lv_aload_n X.1 X.2.1 dL_law_1526 rfl (lv_at hl 0 rfl) ?_
      refine lv_iload_n X.1 X.2.1 dL_law_1527 rfl (lv_at hl 3 rfl) ?_
      refine lv_iconst (v := 2) X.1 X.2.1 dL_law_1528 (by decide) ?_
      refine lv_iadd X.1 X.2.1 dL_law_1529 ?_
      obtain ⟨h421, hf⟩ := bl_gd_at hf
      refine va_sld X.1 X.2.1 hX hbl hbA V.2 (bl_in_vp h421) dL_law_1530 ?_
      refine lv_aload_n X.1 X.2.1 dL_law_1531 rfl (lv_at hl 0 rfl) ?_
      refine lv_iload_n X.1 X.2.1 dL_law_1532 rfl (lv_at hl 3 rfl) ?_
      refine lv_iconst (v := 3) X.1 X.2.1 dL_law_1533 (by decide) ?_
      refine lv_iadd X.1 X.2.1 dL_law_1534 ?_
      obtain ⟨h422, hf⟩ := bl_gd_at hf
      refine va_sld X.1 X.2.1 hX hbl hbA V.2 (bl_in_vp h422) dL_law_1535 ?_
      obtain ⟨r423, σ424, h425, hf⟩ := bl_bd_at hf
      refine bl_cVl (As := [.int (xs (Int32.toNatClampNeg (v3 + 1))), .int (xs (Int32.toNatClampNeg (v3 + 2))), .int (xs (Int32.toNatClampNeg (v3 + 3)))]) X V hl.1 hv1 rfl ml_L_154 mV_X9_worth (t_X9_worth l g σ v1 (xs (Int32.toNatClampNeg (v3 + 1))) (xs (Int32.toNatClampNeg (v3 + 2))) (xs (Int32.toNatClampNeg (v3 + 3))) _ hv1 h425) rfl rfl ⟨Nat.le_of_ble_eq_true rfl, Nat.le_of_ble_eq_true rfl⟩ rfl rfl (Nat.le_of_ble_eq_true rfl) ⟨Nat.le_of_ble_eq_true rfl, Nat.le_of_ble_eq_true rfl⟩ dL_law_1536 (fun H locs V => ?_)
      refine lv_aload_n X.1 X.2.1 dL_law_1539 rfl (lv_at hl 2 rfl) ?_
      refine lv_aload_n X.1 X.2.1 dL_law_1540 rfl (lv_at hl 0 rfl) ?_
      refine lv_iload_n X.1 X.2.1 dL_law_1541 rfl (lv_at hl 3 rfl) ?_
      refine lv_iconst (v := 1) X.1 X.2.1 dL_law_1542 (by decide) ?_
      refine lv_iadd X.1 X.2.1 dL_law_1543 ?_
      obtain ⟨h426, hf⟩ := bl_gd_at hf
      refine va_sld X.1 X.2.1 hX hbl hbA V.2 (bl_in_vp h426) dL_law_1544 ?_
      refine lv_aload_n X.1 X.2.1 dL_law_1545 rfl (lv_at hl 0 rfl) ?_
      refine lv_iload_n X.1 X.2.1 dL_law_1546 rfl (lv_at hl 3 rfl) ?_
      refine lv_iconst (v := 2) X.1 X.2.1 dL_law_1547 (by decide) ?_
      refine lv_iadd X.1 X.2.1 dL_law_1548 ?_
      obtain ⟨h427, hf⟩ := bl_gd_at hf
      refine va_sld X.1 X.2.1 hX hbl hbA V.2 (bl_in_vp h427) dL_law_1549 ?_
      refine lv_aload_n X.1 X.2.1 dL_law_1550 rfl (lv_at hl 0 rfl) ?_
      refine lv_iload_n X.1 X.2.1 dL_law_1551 rfl (lv_at hl 3 rfl) ?_
      refine lv_iconst (v := 3) X.1 X.2.1 dL_law_1552 (by decide) ?_
      refine lv_iadd X.1 X.2.1 dL_law_1553 ?_
      obtain ⟨h428, hf⟩ := bl_gd_at hf
      refine va_sld X.1 X.2.1 hX hbl hbA V.2 (bl_in_vp h428) dL_law_1554 ?_
      obtain ⟨r429, σ430, h431, hf⟩ := bl_bd_at hf
      refine bl_cVl (As := [.int (xs (Int32.toNatClampNeg (v3 + 1))), .int (xs (Int32.toNatClampNeg (v3 + 2))), .int (xs (Int32.toNatClampNeg (v3 + 3)))]) X V hl.1 hv2 rfl ml_L_158 mV_X10_worth (t_X10_worth l g σ424 v2 (xs (Int32.toNatClampNeg (v3 + 1))) (xs (Int32.toNatClampNeg (v3 + 2))) (xs (Int32.toNatClampNeg (v3 + 3))) _ hv2 h431) rfl rfl ⟨Nat.le_of_ble_eq_true rfl, Nat.le_of_ble_eq_true rfl⟩ rfl rfl (Nat.le_of_ble_eq_true rfl) ⟨Nat.le_of_ble_eq_true rfl, Nat.le_of_ble_eq_true rfl⟩ dL_law_1555 (fun H locs V => ?_)
      refine bl_lc_eq (tgt := 2362) X dL_law_1558 dL_law_1559 (by decide) (fun c432 => ?_) (fun c432 => ?_)
      · have hf := bl_ifp c432 hf
        exact w_L_law_2362 ho hX hbl hbA hg X hr k18 hk18 σ430 v1 v2 v3 hv1 hv2 hf _ _ _ V (lv_sub hl [0, 1, 2, 3] rfl)
      · have hf := bl_ifn c432 hf
        refine lv_iconst (v := 0) X.1 X.2.1 dL_law_1562 (by decide) ?_
        cases hf
        exact absurd (show (0 : Int32) = 1 from ho) (by decide)
    have hf := bl_ifn c419 hf
    by_cases c433 : ((xs (Int32.toNatClampNeg v3)) &&& 63) = 33
    · have hf := bl_ifp c433 hf
      refine bl_swI (v := 33) (tgt := 1564) X dL_law_33 (by rw [c433]; decide) (by decide) rfl (by decide) ?_
      refine lv_aload_n X.1 X.2.1 dL_law_1564 rfl (lv_at hl 1 rfl) ?_
      refine lv_aload_n X.1 X.2.1 dL_law_1565 rfl (lv_at hl 0 rfl) ?_
      refine lv_iload_n X.1 X.2.1 dL_law_1566 rfl (lv_at hl 3 rfl) ?_
      refine lv_iconst (v := 1) X.1 X.2.1 dL_law_1567 (by decide) ?_
      refine lv_iadd X.1 X.2.1 dL_law_1568 ?_
      obtain ⟨h434, hf⟩ := bl_gd_at hf
      refine va_sld X.1 X.2.1 hX hbl hbA V.2 (bl_in_vp h434) dL_law_1569 ?_
      obtain ⟨r435, σ436, h437, hf⟩ := bl_bd_at hf
      refine bl_cVi (As := [.int (xs (Int32.toNatClampNeg (v3 + 1)))]) X V hl.1 hv1 rfl ml_L_159 mV_X9_cheapest (t_X9_cheapest l g σ v1 (xs (Int32.toNatClampNeg (v3 + 1))) _ hv1 h437) rfl rfl ⟨Nat.le_of_ble_eq_true rfl, Nat.le_of_ble_eq_true rfl⟩ rfl rfl (Nat.le_of_ble_eq_true rfl) ⟨Nat.le_of_ble_eq_true rfl, Nat.le_of_ble_eq_true rfl⟩ dL_law_1570 (fun H locs V => ?_)
      refine lv_aload_n X.1 X.2.1 dL_law_1573 rfl (lv_at hl 2 rfl) ?_
      refine lv_aload_n X.1 X.2.1 dL_law_1574 rfl (lv_at hl 0 rfl) ?_
      refine lv_iload_n X.1 X.2.1 dL_law_1575 rfl (lv_at hl 3 rfl) ?_
      refine lv_iconst (v := 1) X.1 X.2.1 dL_law_1576 (by decide) ?_
      refine lv_iadd X.1 X.2.1 dL_law_1577 ?_
      obtain ⟨h438, hf⟩ := bl_gd_at hf
      refine va_sld X.1 X.2.1 hX hbl hbA V.2 (bl_in_vp h438) dL_law_1578 ?_
      obtain ⟨r439, σ440, h441, hf⟩ := bl_bd_at hf
      refine bl_cVi (As := [.int (xs (Int32.toNatClampNeg (v3 + 1)))]) X V hl.1 hv2 rfl ml_L_162 mV_X10_cheapest (t_X10_cheapest l g σ436 v2 (xs (Int32.toNatClampNeg (v3 + 1))) _ hv2 h441) rfl rfl ⟨Nat.le_of_ble_eq_true rfl, Nat.le_of_ble_eq_true rfl⟩ rfl rfl (Nat.le_of_ble_eq_true rfl) ⟨Nat.le_of_ble_eq_true rfl, Nat.le_of_ble_eq_true rfl⟩ dL_law_1579 (fun H locs V => ?_)
      refine lv_icmp_eq (tgt := 2362) X.1 X.2.1 dL_law_1582 (by decide) (fun c442 => ?_) (fun c442 => ?_)
      · have hf := bl_ifp c442 hf
        exact w_L_law_2362 ho hX hbl hbA hg X hr k18 hk18 σ440 v1 v2 v3 hv1 hv2 hf _ _ _ V (lv_sub hl [0, 1, 2, 3] rfl)
      · have hf := bl_ifn c442 hf
        refine lv_iconst (v := 0) X.1 X.2.1 dL_law_1585 (by decide) ?_
        cases hf
        exact absurd (show (0 : Int32) = 1 from ho) (by decide)
    have hf := bl_ifn c433 hf
    by_cases c443 : ((xs (Int32.toNatClampNeg v3)) &&& 63) = 34
    · have hf := bl_ifp c443 hf
      refine bl_swI (v := 34) (tgt := 1587) X dL_law_33 (by rw [c443]; decide) (by decide) rfl (by decide) ?_
      refine lv_aload_n X.1 X.2.1 dL_law_1587 rfl (lv_at hl 1 rfl) ?_
      refine lv_aload_n X.1 X.2.1 dL_law_1588 rfl (lv_at hl 0 rfl) ?_
      refine lv_iload_n X.1 X.2.1 dL_law_1589 rfl (lv_at hl 3 rfl) ?_
      refine lv_iconst (v := 1) X.1 X.2.1 dL_law_1590 (by decide) ?_
      refine lv_iadd X.1 X.2.1 dL_law_1591 ?_
      obtain ⟨h444, hf⟩ := bl_gd_at hf
      refine va_sld X.1 X.2.1 hX hbl hbA V.2 (bl_in_vp h444) dL_law_1592 ?_
      obtain ⟨r445, σ446, h447, hf⟩ := bl_bd_at hf
      refine bl_cVi (As := [.int (xs (Int32.toNatClampNeg (v3 + 1)))]) X V hl.1 hv1 rfl ml_L_163 mV_X9_reach (t_X9_reach l g σ v1 (xs (Int32.toNatClampNeg (v3 + 1))) _ hv1 h447) rfl rfl ⟨Nat.le_of_ble_eq_true rfl, Nat.le_of_ble_eq_true rfl⟩ rfl rfl (Nat.le_of_ble_eq_true rfl) ⟨Nat.le_of_ble_eq_true rfl, Nat.le_of_ble_eq_true rfl⟩ dL_law_1593 (fun H locs V => ?_)
      refine lv_aload_n X.1 X.2.1 dL_law_1596 rfl (lv_at hl 2 rfl) ?_
      refine lv_aload_n X.1 X.2.1 dL_law_1597 rfl (lv_at hl 0 rfl) ?_
      refine lv_iload_n X.1 X.2.1 dL_law_1598 rfl (lv_at hl 3 rfl) ?_
      refine lv_iconst (v := 1) X.1 X.2.1 dL_law_1599 (by decide) ?_
      refine lv_iadd X.1 X.2.1 dL_law_1600 ?_
      obtain ⟨h448, hf⟩ := bl_gd_at hf
      refine va_sld X.1 X.2.1 hX hbl hbA V.2 (bl_in_vp h448) dL_law_1601 ?_
      obtain ⟨r449, σ450, h451, hf⟩ := bl_bd_at hf
      refine bl_cVi (As := [.int (xs (Int32.toNatClampNeg (v3 + 1)))]) X V hl.1 hv2 rfl ml_L_166 mV_X10_reach (t_X10_reach l g σ446 v2 (xs (Int32.toNatClampNeg (v3 + 1))) _ hv2 h451) rfl rfl ⟨Nat.le_of_ble_eq_true rfl, Nat.le_of_ble_eq_true rfl⟩ rfl rfl (Nat.le_of_ble_eq_true rfl) ⟨Nat.le_of_ble_eq_true rfl, Nat.le_of_ble_eq_true rfl⟩ dL_law_1602 (fun H locs V => ?_)
      refine lv_icmp_eq (tgt := 2362) X.1 X.2.1 dL_law_1605 (by decide) (fun c452 => ?_) (fun c452 => ?_)
      · have hf := bl_ifp c452 hf
        exact w_L_law_2362 ho hX hbl hbA hg X hr k18 hk18 σ450 v1 v2 v3 hv1 hv2 hf _ _ _ V (lv_sub hl [0, 1, 2, 3] rfl)
      · have hf := bl_ifn c452 hf
        refine lv_iconst (v := 0) X.1 X.2.1 dL_law_1608 (by decide) ?_
        cases hf
        exact absurd (show (0 : Int32) = 1 from ho) (by decide)
    have hf := bl_ifn c443 hf
    by_cases c453 : ((xs (Int32.toNatClampNeg v3)) &&& 63) = 35
    · have hf := bl_ifp c453 hf
      refine bl_swI (v := 35) (tgt := 1610) X dL_law_33 (by rw [c453]; decide) (by decide) rfl (by decide) ?_
      refine lv_aload_n X.1 X.2.1 dL_law_1610 rfl (lv_at hl 1 rfl) ?_
      refine lv_aload_n X.1 X.2.1 dL_law_1611 rfl (lv_at hl 0 rfl) ?_
      refine lv_iload_n X.1 X.2.1 dL_law_1612 rfl (lv_at hl 3 rfl) ?_
      refine lv_iconst (v := 1) X.1 X.2.1 dL_law_1613 (by decide) ?_
      refine lv_iadd X.1 X.2.1 dL_law_1614 ?_
      obtain ⟨h454, hf⟩ := bl_gd_at hf
      refine va_sld X.1 X.2.1 hX hbl hbA V.2 (bl_in_vp h454) dL_law_1615 ?_
      refine lv_aload_n X.1 X.2.1 dL_law_1616 rfl (lv_at hl 0 rfl) ?_
      refine lv_iload_n X.1 X.2.1 dL_law_1617 rfl (lv_at hl 3 rfl) ?_
      refine lv_iconst (v := 2) X.1 X.2.1 dL_law_1618 (by decide) ?_
      refine lv_iadd X.1 X.2.1 dL_law_1619 ?_
      obtain ⟨h455, hf⟩ := bl_gd_at hf
      refine va_sld X.1 X.2.1 hX hbl hbA V.2 (bl_in_vp h455) dL_law_1620 ?_
      obtain ⟨r456, σ457, h458, hf⟩ := bl_bd_at hf
      refine bl_cVi (As := [.int (xs (Int32.toNatClampNeg (v3 + 1))), .int (xs (Int32.toNatClampNeg (v3 + 2)))]) X V hl.1 hv1 rfl ml_L_167 mV_X9_years (t_X9_years l g σ v1 (xs (Int32.toNatClampNeg (v3 + 1))) (xs (Int32.toNatClampNeg (v3 + 2))) _ hv1 h458) rfl rfl ⟨Nat.le_of_ble_eq_true rfl, Nat.le_of_ble_eq_true rfl⟩ rfl rfl (Nat.le_of_ble_eq_true rfl) ⟨Nat.le_of_ble_eq_true rfl, Nat.le_of_ble_eq_true rfl⟩ dL_law_1621 (fun H locs V => ?_)
      refine lv_aload_n X.1 X.2.1 dL_law_1624 rfl (lv_at hl 2 rfl) ?_
      refine lv_aload_n X.1 X.2.1 dL_law_1625 rfl (lv_at hl 0 rfl) ?_
      refine lv_iload_n X.1 X.2.1 dL_law_1626 rfl (lv_at hl 3 rfl) ?_
      refine lv_iconst (v := 1) X.1 X.2.1 dL_law_1627 (by decide) ?_
      refine lv_iadd X.1 X.2.1 dL_law_1628 ?_
      obtain ⟨h459, hf⟩ := bl_gd_at hf
      refine va_sld X.1 X.2.1 hX hbl hbA V.2 (bl_in_vp h459) dL_law_1629 ?_
      refine lv_aload_n X.1 X.2.1 dL_law_1630 rfl (lv_at hl 0 rfl) ?_
      refine lv_iload_n X.1 X.2.1 dL_law_1631 rfl (lv_at hl 3 rfl) ?_
      refine lv_iconst (v := 2) X.1 X.2.1 dL_law_1632 (by decide) ?_
      refine lv_iadd X.1 X.2.1 dL_law_1633 ?_
      obtain ⟨h460, hf⟩ := bl_gd_at hf
      refine va_sld X.1 X.2.1 hX hbl hbA V.2 (bl_in_vp h460) dL_law_1634 ?_
      obtain ⟨r461, σ462, h463, hf⟩ := bl_bd_at hf
      refine bl_cVi (As := [.int (xs (Int32.toNatClampNeg (v3 + 1))), .int (xs (Int32.toNatClampNeg (v3 + 2)))]) X V hl.1 hv2 rfl ml_L_170 mV_X10_years (t_X10_years l g σ457 v2 (xs (Int32.toNatClampNeg (v3 + 1))) (xs (Int32.toNatClampNeg (v3 + 2))) _ hv2 h463) rfl rfl ⟨Nat.le_of_ble_eq_true rfl, Nat.le_of_ble_eq_true rfl⟩ rfl rfl (Nat.le_of_ble_eq_true rfl) ⟨Nat.le_of_ble_eq_true rfl, Nat.le_of_ble_eq_true rfl⟩ dL_law_1635 (fun H locs V => ?_)
      refine lv_icmp_eq (tgt := 2362) X.1 X.2.1 dL_law_1638 (by decide) (fun c464 => ?_) (fun c464 => ?_)
      · have hf := bl_ifp c464 hf
        exact w_L_law_2362 ho hX hbl hbA hg X hr k18 hk18 σ462 v1 v2 v3 hv1 hv2 hf _ _ _ V (lv_sub hl [0, 1, 2, 3] rfl)
      · have hf := bl_ifn c464 hf
        refine lv_iconst (v := 0) X.1 X.2.1 dL_law_1641 (by decide) ?_
        cases hf
        exact absurd (show (0 : Int32) = 1 from ho) (by decide)
    have hf := bl_ifn c453 hf
    by_cases c465 : ((xs (Int32.toNatClampNeg v3)) &&& 63) = 36
    · have hf := bl_ifp c465 hf
      refine bl_swI (v := 36) (tgt := 1643) X dL_law_33 (by rw [c465]; decide) (by decide) rfl (by decide) ?_
      refine lv_aload_n X.1 X.2.1 dL_law_1643 rfl (lv_at hl 1 rfl) ?_
      refine lv_aload_n X.1 X.2.1 dL_law_1644 rfl (lv_at hl 0 rfl) ?_
      refine lv_iload_n X.1 X.2.1 dL_law_1645 rfl (lv_at hl 3 rfl) ?_
      refine lv_iconst (v := 1) X.1 X.2.1 dL_law_1646 (by decide) ?_
      refine lv_iadd X.1 X.2.1 dL_law_1647 ?_
      obtain ⟨h466, hf⟩ := bl_gd_at hf
      refine va_sld X.1 X.2.1 hX hbl hbA V.2 (bl_in_vp h466) dL_law_1648 ?_
      obtain ⟨r467, σ468, h469, hf⟩ := bl_bd_at hf
      refine bl_cVi (As := [.int (xs (Int32.toNatClampNeg (v3 + 1)))]) X V hl.1 hv1 rfl ml_L_171 mV_X9_ways (t_X9_ways l g σ v1 (xs (Int32.toNatClampNeg (v3 + 1))) _ hv1 h469) rfl rfl ⟨Nat.le_of_ble_eq_true rfl, Nat.le_of_ble_eq_true rfl⟩ rfl rfl (Nat.le_of_ble_eq_true rfl) ⟨Nat.le_of_ble_eq_true rfl, Nat.le_of_ble_eq_true rfl⟩ dL_law_1649 (fun H locs V => ?_)
      refine lv_aload_n X.1 X.2.1 dL_law_1652 rfl (lv_at hl 2 rfl) ?_
      refine lv_aload_n X.1 X.2.1 dL_law_1653 rfl (lv_at hl 0 rfl) ?_
      refine lv_iload_n X.1 X.2.1 dL_law_1654 rfl (lv_at hl 3 rfl) ?_
      refine lv_iconst (v := 1) X.1 X.2.1 dL_law_1655 (by decide) ?_
      refine lv_iadd X.1 X.2.1 dL_law_1656 ?_
      obtain ⟨h470, hf⟩ := bl_gd_at hf
      refine va_sld X.1 X.2.1 hX hbl hbA V.2 (bl_in_vp h470) dL_law_1657 ?_
      obtain ⟨r471, σ472, h473, hf⟩ := bl_bd_at hf
      refine bl_cVi (As := [.int (xs (Int32.toNatClampNeg (v3 + 1)))]) X V hl.1 hv2 rfl ml_L_174 mV_X10_ways (t_X10_ways l g σ468 v2 (xs (Int32.toNatClampNeg (v3 + 1))) _ hv2 h473) rfl rfl ⟨Nat.le_of_ble_eq_true rfl, Nat.le_of_ble_eq_true rfl⟩ rfl rfl (Nat.le_of_ble_eq_true rfl) ⟨Nat.le_of_ble_eq_true rfl, Nat.le_of_ble_eq_true rfl⟩ dL_law_1658 (fun H locs V => ?_)
      refine lv_icmp_eq (tgt := 2362) X.1 X.2.1 dL_law_1661 (by decide) (fun c474 => ?_) (fun c474 => ?_)
      · have hf := bl_ifp c474 hf
        exact w_L_law_2362 ho hX hbl hbA hg X hr k18 hk18 σ472 v1 v2 v3 hv1 hv2 hf _ _ _ V (lv_sub hl [0, 1, 2, 3] rfl)
      · have hf := bl_ifn c474 hf
        refine lv_iconst (v := 0) X.1 X.2.1 dL_law_1664 (by decide) ?_
        cases hf
        exact absurd (show (0 : Int32) = 1 from ho) (by decide)
    have hf := bl_ifn c465 hf
    by_cases c475 : ((xs (Int32.toNatClampNeg v3)) &&& 63) = 37
    · have hf := bl_ifp c475 hf
      refine bl_swI (v := 37) (tgt := 1666) X dL_law_33 (by rw [c475]; decide) (by decide) rfl (by decide) ?_
      refine lv_aload_n X.1 X.2.1 dL_law_1666 rfl (lv_at hl 1 rfl) ?_
      refine lv_aload_n X.1 X.2.1 dL_law_1667 rfl (lv_at hl 0 rfl) ?_
      refine lv_iload_n X.1 X.2.1 dL_law_1668 rfl (lv_at hl 3 rfl) ?_
      refine lv_iconst (v := 1) X.1 X.2.1 dL_law_1669 (by decide) ?_
      refine lv_iadd X.1 X.2.1 dL_law_1670 ?_
      obtain ⟨h476, hf⟩ := bl_gd_at hf
      refine va_sld X.1 X.2.1 hX hbl hbA V.2 (bl_in_vp h476) dL_law_1671 ?_
      refine lv_aload_n X.1 X.2.1 dL_law_1672 rfl (lv_at hl 0 rfl) ?_
      refine lv_iload_n X.1 X.2.1 dL_law_1673 rfl (lv_at hl 3 rfl) ?_
      refine lv_iconst (v := 2) X.1 X.2.1 dL_law_1674 (by decide) ?_
      refine lv_iadd X.1 X.2.1 dL_law_1675 ?_
      obtain ⟨h477, hf⟩ := bl_gd_at hf
      refine va_sld X.1 X.2.1 hX hbl hbA V.2 (bl_in_vp h477) dL_law_1676 ?_
      obtain ⟨r478, σ479, h480, hf⟩ := bl_bd_at hf
      refine bl_cVi (As := [.int (xs (Int32.toNatClampNeg (v3 + 1))), .int (xs (Int32.toNatClampNeg (v3 + 2)))]) X V hl.1 hv1 rfl ml_L_175 mV_X9_moves (t_X9_moves l g σ v1 (xs (Int32.toNatClampNeg (v3 + 1))) (xs (Int32.toNatClampNeg (v3 + 2))) _ hv1 h480) rfl rfl ⟨Nat.le_of_ble_eq_true rfl, Nat.le_of_ble_eq_true rfl⟩ rfl rfl (Nat.le_of_ble_eq_true rfl) ⟨Nat.le_of_ble_eq_true rfl, Nat.le_of_ble_eq_true rfl⟩ dL_law_1677 (fun H locs V => ?_)
      refine lv_aload_n X.1 X.2.1 dL_law_1680 rfl (lv_at hl 2 rfl) ?_
      refine lv_aload_n X.1 X.2.1 dL_law_1681 rfl (lv_at hl 0 rfl) ?_
      refine lv_iload_n X.1 X.2.1 dL_law_1682 rfl (lv_at hl 3 rfl) ?_
      refine lv_iconst (v := 1) X.1 X.2.1 dL_law_1683 (by decide) ?_
      refine lv_iadd X.1 X.2.1 dL_law_1684 ?_
      obtain ⟨h481, hf⟩ := bl_gd_at hf
      refine va_sld X.1 X.2.1 hX hbl hbA V.2 (bl_in_vp h481) dL_law_1685 ?_
      refine lv_aload_n X.1 X.2.1 dL_law_1686 rfl (lv_at hl 0 rfl) ?_
      refine lv_iload_n X.1 X.2.1 dL_law_1687 rfl (lv_at hl 3 rfl) ?_
      refine lv_iconst (v := 2) X.1 X.2.1 dL_law_1688 (by decide) ?_
      refine lv_iadd X.1 X.2.1 dL_law_1689 ?_
      obtain ⟨h482, hf⟩ := bl_gd_at hf
      refine va_sld X.1 X.2.1 hX hbl hbA V.2 (bl_in_vp h482) dL_law_1690 ?_
      obtain ⟨r483, σ484, h485, hf⟩ := bl_bd_at hf
      refine bl_cVi (As := [.int (xs (Int32.toNatClampNeg (v3 + 1))), .int (xs (Int32.toNatClampNeg (v3 + 2)))]) X V hl.1 hv2 rfl ml_L_178 mV_X10_moves (t_X10_moves l g σ479 v2 (xs (Int32.toNatClampNeg (v3 + 1))) (xs (Int32.toNatClampNeg (v3 + 2))) _ hv2 h485) rfl rfl ⟨Nat.le_of_ble_eq_true rfl, Nat.le_of_ble_eq_true rfl⟩ rfl rfl (Nat.le_of_ble_eq_true rfl) ⟨Nat.le_of_ble_eq_true rfl, Nat.le_of_ble_eq_true rfl⟩ dL_law_1691 (fun H locs V => ?_)
      refine lv_icmp_eq (tgt := 2362) X.1 X.2.1 dL_law_1694 (by decide) (fun c486 => ?_) (fun c486 => ?_)
      · have hf := bl_ifp c486 hf
        exact w_L_law_2362 ho hX hbl hbA hg X hr k18 hk18 σ484 v1 v2 v3 hv1 hv2 hf _ _ _ V (lv_sub hl [0, 1, 2, 3] rfl)
      · have hf := bl_ifn c486 hf
        refine lv_iconst (v := 0) X.1 X.2.1 dL_law_1697 (by decide) ?_
        cases hf
        exact absurd (show (0 : Int32) = 1 from ho) (by decide)
    have hf := bl_ifn c475 hf
    by_cases c487 : ((xs (Int32.toNatClampNeg v3)) &&& 63) = 38
    · have hf := bl_ifp c487 hf
      refine bl_swI (v := 38) (tgt := 1699) X dL_law_33 (by rw [c487]; decide) (by decide) rfl (by decide) ?_
      refine lv_aload_n X.1 X.2.1 dL_law_1699 rfl (lv_at hl 1 rfl) ?_
      refine lv_aload_n X.1 X.2.1 dL_law_1700 rfl (lv_at hl 0 rfl) ?_
      refine lv_iload_n X.1 X.2.1 dL_law_1701 rfl (lv_at hl 3 rfl) ?_
      refine lv_iconst (v := 1) X.1 X.2.1 dL_law_1702 (by decide) ?_
      refine lv_iadd X.1 X.2.1 dL_law_1703 ?_
      obtain ⟨h488, hf⟩ := bl_gd_at hf
      refine va_sld X.1 X.2.1 hX hbl hbA V.2 (bl_in_vp h488) dL_law_1704 ?_
      refine lv_aload_n X.1 X.2.1 dL_law_1705 rfl (lv_at hl 0 rfl) ?_
      refine lv_iload_n X.1 X.2.1 dL_law_1706 rfl (lv_at hl 3 rfl) ?_
      refine lv_iconst (v := 2) X.1 X.2.1 dL_law_1707 (by decide) ?_
      refine lv_iadd X.1 X.2.1 dL_law_1708 ?_
      obtain ⟨h489, hf⟩ := bl_gd_at hf
      refine va_sld X.1 X.2.1 hX hbl hbA V.2 (bl_in_vp h489) dL_law_1709 ?_
      refine lv_aload_n X.1 X.2.1 dL_law_1710 rfl (lv_at hl 0 rfl) ?_
      refine lv_iload_n X.1 X.2.1 dL_law_1711 rfl (lv_at hl 3 rfl) ?_
      refine lv_iconst (v := 3) X.1 X.2.1 dL_law_1712 (by decide) ?_
      refine lv_iadd X.1 X.2.1 dL_law_1713 ?_
      obtain ⟨h490, hf⟩ := bl_gd_at hf
      refine va_sld X.1 X.2.1 hX hbl hbA V.2 (bl_in_vp h490) dL_law_1714 ?_
      obtain ⟨r491, σ492, h493, hf⟩ := bl_bd_at hf
      refine bl_cVl (As := [.int (xs (Int32.toNatClampNeg (v3 + 1))), .int (xs (Int32.toNatClampNeg (v3 + 2))), .int (xs (Int32.toNatClampNeg (v3 + 3)))]) X V hl.1 hv1 rfl ml_L_179 mV_X9_spread (t_X9_spread l g σ v1 (xs (Int32.toNatClampNeg (v3 + 1))) (xs (Int32.toNatClampNeg (v3 + 2))) (xs (Int32.toNatClampNeg (v3 + 3))) _ hv1 h493) rfl rfl ⟨Nat.le_of_ble_eq_true rfl, Nat.le_of_ble_eq_true rfl⟩ rfl rfl (Nat.le_of_ble_eq_true rfl) ⟨Nat.le_of_ble_eq_true rfl, Nat.le_of_ble_eq_true rfl⟩ dL_law_1715 (fun H locs V => ?_)
      refine lv_aload_n X.1 X.2.1 dL_law_1718 rfl (lv_at hl 2 rfl) ?_
      refine lv_aload_n X.1 X.2.1 dL_law_1719 rfl (lv_at hl 0 rfl) ?_
      refine lv_iload_n X.1 X.2.1 dL_law_1720 rfl (lv_at hl 3 rfl) ?_
      refine lv_iconst (v := 1) X.1 X.2.1 dL_law_1721 (by decide) ?_
      refine lv_iadd X.1 X.2.1 dL_law_1722 ?_
      obtain ⟨h494, hf⟩ := bl_gd_at hf
      refine va_sld X.1 X.2.1 hX hbl hbA V.2 (bl_in_vp h494) dL_law_1723 ?_
      refine lv_aload_n X.1 X.2.1 dL_law_1724 rfl (lv_at hl 0 rfl) ?_
      refine lv_iload_n X.1 X.2.1 dL_law_1725 rfl (lv_at hl 3 rfl) ?_
      refine lv_iconst (v := 2) X.1 X.2.1 dL_law_1726 (by decide) ?_
      refine lv_iadd X.1 X.2.1 dL_law_1727 ?_
      obtain ⟨h495, hf⟩ := bl_gd_at hf
      refine va_sld X.1 X.2.1 hX hbl hbA V.2 (bl_in_vp h495) dL_law_1728 ?_
      refine lv_aload_n X.1 X.2.1 dL_law_1729 rfl (lv_at hl 0 rfl) ?_
      refine lv_iload_n X.1 X.2.1 dL_law_1730 rfl (lv_at hl 3 rfl) ?_
      refine lv_iconst (v := 3) X.1 X.2.1 dL_law_1731 (by decide) ?_
      refine lv_iadd X.1 X.2.1 dL_law_1732 ?_
      obtain ⟨h496, hf⟩ := bl_gd_at hf
      refine va_sld X.1 X.2.1 hX hbl hbA V.2 (bl_in_vp h496) dL_law_1733 ?_
      obtain ⟨r497, σ498, h499, hf⟩ := bl_bd_at hf
      refine bl_cVl (As := [.int (xs (Int32.toNatClampNeg (v3 + 1))), .int (xs (Int32.toNatClampNeg (v3 + 2))), .int (xs (Int32.toNatClampNeg (v3 + 3)))]) X V hl.1 hv2 rfl ml_L_182 mV_X10_spread (t_X10_spread l g σ492 v2 (xs (Int32.toNatClampNeg (v3 + 1))) (xs (Int32.toNatClampNeg (v3 + 2))) (xs (Int32.toNatClampNeg (v3 + 3))) _ hv2 h499) rfl rfl ⟨Nat.le_of_ble_eq_true rfl, Nat.le_of_ble_eq_true rfl⟩ rfl rfl (Nat.le_of_ble_eq_true rfl) ⟨Nat.le_of_ble_eq_true rfl, Nat.le_of_ble_eq_true rfl⟩ dL_law_1734 (fun H locs V => ?_)
      refine bl_lc_eq (tgt := 2362) X dL_law_1737 dL_law_1738 (by decide) (fun c500 => ?_) (fun c500 => ?_)
      · have hf := bl_ifp c500 hf
        exact w_L_law_2362 ho hX hbl hbA hg X hr k18 hk18 σ498 v1 v2 v3 hv1 hv2 hf _ _ _ V (lv_sub hl [0, 1, 2, 3] rfl)
      · have hf := bl_ifn c500 hf
        refine lv_iconst (v := 0) X.1 X.2.1 dL_law_1741 (by decide) ?_
        cases hf
        exact absurd (show (0 : Int32) = 1 from ho) (by decide)
    have hf := bl_ifn c487 hf
    by_cases c501 : ((xs (Int32.toNatClampNeg v3)) &&& 63) = 39
    · have hf := bl_ifp c501 hf
      refine bl_swI (v := 39) (tgt := 1743) X dL_law_33 (by rw [c501]; decide) (by decide) rfl (by decide) ?_
      refine lv_aload_n X.1 X.2.1 dL_law_1743 rfl (lv_at hl 1 rfl) ?_
      refine lv_aload_n X.1 X.2.1 dL_law_1744 rfl (lv_at hl 0 rfl) ?_
      refine lv_iload_n X.1 X.2.1 dL_law_1745 rfl (lv_at hl 3 rfl) ?_
      refine lv_iconst (v := 1) X.1 X.2.1 dL_law_1746 (by decide) ?_
      refine lv_iadd X.1 X.2.1 dL_law_1747 ?_
      obtain ⟨h502, hf⟩ := bl_gd_at hf
      refine va_sld X.1 X.2.1 hX hbl hbA V.2 (bl_in_vp h502) dL_law_1748 ?_
      refine lv_aload_n X.1 X.2.1 dL_law_1749 rfl (lv_at hl 0 rfl) ?_
      refine lv_iload_n X.1 X.2.1 dL_law_1750 rfl (lv_at hl 3 rfl) ?_
      refine lv_iconst (v := 2) X.1 X.2.1 dL_law_1751 (by decide) ?_
      refine lv_iadd X.1 X.2.1 dL_law_1752 ?_
      obtain ⟨h503, hf⟩ := bl_gd_at hf
      refine va_sld X.1 X.2.1 hX hbl hbA V.2 (bl_in_vp h503) dL_law_1753 ?_
      refine lv_aload_n X.1 X.2.1 dL_law_1754 rfl (lv_at hl 0 rfl) ?_
      refine lv_iload_n X.1 X.2.1 dL_law_1755 rfl (lv_at hl 3 rfl) ?_
      refine lv_iconst (v := 3) X.1 X.2.1 dL_law_1756 (by decide) ?_
      refine lv_iadd X.1 X.2.1 dL_law_1757 ?_
      obtain ⟨h504, hf⟩ := bl_gd_at hf
      refine va_sld X.1 X.2.1 hX hbl hbA V.2 (bl_in_vp h504) dL_law_1758 ?_
      obtain ⟨r505, σ506, h507, hf⟩ := bl_bd_at hf
      refine bl_cVl (As := [.int (xs (Int32.toNatClampNeg (v3 + 1))), .int (xs (Int32.toNatClampNeg (v3 + 2))), .int (xs (Int32.toNatClampNeg (v3 + 3)))]) X V hl.1 hv1 rfl ml_L_183 mV_X9_shared (t_X9_shared l g σ v1 (xs (Int32.toNatClampNeg (v3 + 1))) (xs (Int32.toNatClampNeg (v3 + 2))) (xs (Int32.toNatClampNeg (v3 + 3))) _ hv1 h507) rfl rfl ⟨Nat.le_of_ble_eq_true rfl, Nat.le_of_ble_eq_true rfl⟩ rfl rfl (Nat.le_of_ble_eq_true rfl) ⟨Nat.le_of_ble_eq_true rfl, Nat.le_of_ble_eq_true rfl⟩ dL_law_1759 (fun H locs V => ?_)
      refine lv_aload_n X.1 X.2.1 dL_law_1762 rfl (lv_at hl 2 rfl) ?_
      refine lv_aload_n X.1 X.2.1 dL_law_1763 rfl (lv_at hl 0 rfl) ?_
      refine lv_iload_n X.1 X.2.1 dL_law_1764 rfl (lv_at hl 3 rfl) ?_
      refine lv_iconst (v := 1) X.1 X.2.1 dL_law_1765 (by decide) ?_
      refine lv_iadd X.1 X.2.1 dL_law_1766 ?_
      obtain ⟨h508, hf⟩ := bl_gd_at hf
      refine va_sld X.1 X.2.1 hX hbl hbA V.2 (bl_in_vp h508) dL_law_1767 ?_
      refine lv_aload_n X.1 X.2.1 dL_law_1768 rfl (lv_at hl 0 rfl) ?_
      refine lv_iload_n X.1 X.2.1 dL_law_1769 rfl (lv_at hl 3 rfl) ?_
      refine lv_iconst (v := 2) X.1 X.2.1 dL_law_1770 (by decide) ?_
      refine lv_iadd X.1 X.2.1 dL_law_1771 ?_
      obtain ⟨h509, hf⟩ := bl_gd_at hf
      refine va_sld X.1 X.2.1 hX hbl hbA V.2 (bl_in_vp h509) dL_law_1772 ?_
      refine lv_aload_n X.1 X.2.1 dL_law_1773 rfl (lv_at hl 0 rfl) ?_
      refine lv_iload_n X.1 X.2.1 dL_law_1774 rfl (lv_at hl 3 rfl) ?_
      refine lv_iconst (v := 3) X.1 X.2.1 dL_law_1775 (by decide) ?_
      refine lv_iadd X.1 X.2.1 dL_law_1776 ?_
      obtain ⟨h510, hf⟩ := bl_gd_at hf
      refine va_sld X.1 X.2.1 hX hbl hbA V.2 (bl_in_vp h510) dL_law_1777 ?_
      obtain ⟨r511, σ512, h513, hf⟩ := bl_bd_at hf
      refine bl_cVl (As := [.int (xs (Int32.toNatClampNeg (v3 + 1))), .int (xs (Int32.toNatClampNeg (v3 + 2))), .int (xs (Int32.toNatClampNeg (v3 + 3)))]) X V hl.1 hv2 rfl ml_L_186 mV_X10_shared (t_X10_shared l g σ506 v2 (xs (Int32.toNatClampNeg (v3 + 1))) (xs (Int32.toNatClampNeg (v3 + 2))) (xs (Int32.toNatClampNeg (v3 + 3))) _ hv2 h513) rfl rfl ⟨Nat.le_of_ble_eq_true rfl, Nat.le_of_ble_eq_true rfl⟩ rfl rfl (Nat.le_of_ble_eq_true rfl) ⟨Nat.le_of_ble_eq_true rfl, Nat.le_of_ble_eq_true rfl⟩ dL_law_1778 (fun H locs V => ?_)
      refine bl_lc_eq (tgt := 2362) X dL_law_1781 dL_law_1782 (by decide) (fun c514 => ?_) (fun c514 => ?_)
      · have hf := bl_ifp c514 hf
        exact w_L_law_2362 ho hX hbl hbA hg X hr k18 hk18 σ512 v1 v2 v3 hv1 hv2 hf _ _ _ V (lv_sub hl [0, 1, 2, 3] rfl)
      · have hf := bl_ifn c514 hf
        refine lv_iconst (v := 0) X.1 X.2.1 dL_law_1785 (by decide) ?_
        cases hf
        exact absurd (show (0 : Int32) = 1 from ho) (by decide)
    have hf := bl_ifn c501 hf
    by_cases c515 : ((xs (Int32.toNatClampNeg v3)) &&& 63) = 40
    · have hf := bl_ifp c515 hf
      refine bl_swI (v := 40) (tgt := 1787) X dL_law_33 (by rw [c515]; decide) (by decide) rfl (by decide) ?_
      refine lv_aload_n X.1 X.2.1 dL_law_1787 rfl (lv_at hl 1 rfl) ?_
      refine lv_aload_n X.1 X.2.1 dL_law_1788 rfl (lv_at hl 0 rfl) ?_
      refine lv_iload_n X.1 X.2.1 dL_law_1789 rfl (lv_at hl 3 rfl) ?_
      refine lv_iconst (v := 1) X.1 X.2.1 dL_law_1790 (by decide) ?_
      refine lv_iadd X.1 X.2.1 dL_law_1791 ?_
      obtain ⟨h516, hf⟩ := bl_gd_at hf
      refine va_sld X.1 X.2.1 hX hbl hbA V.2 (bl_in_vp h516) dL_law_1792 ?_
      refine lv_aload_n X.1 X.2.1 dL_law_1793 rfl (lv_at hl 0 rfl) ?_
      refine lv_iload_n X.1 X.2.1 dL_law_1794 rfl (lv_at hl 3 rfl) ?_
      refine lv_iconst (v := 2) X.1 X.2.1 dL_law_1795 (by decide) ?_
      refine lv_iadd X.1 X.2.1 dL_law_1796 ?_
      obtain ⟨h517, hf⟩ := bl_gd_at hf
      refine va_sld X.1 X.2.1 hX hbl hbA V.2 (bl_in_vp h517) dL_law_1797 ?_
      refine lv_aload_n X.1 X.2.1 dL_law_1798 rfl (lv_at hl 0 rfl) ?_
      refine lv_iload_n X.1 X.2.1 dL_law_1799 rfl (lv_at hl 3 rfl) ?_
      refine lv_iconst (v := 3) X.1 X.2.1 dL_law_1800 (by decide) ?_
      refine lv_iadd X.1 X.2.1 dL_law_1801 ?_
      obtain ⟨h518, hf⟩ := bl_gd_at hf
      refine va_sld X.1 X.2.1 hX hbl hbA V.2 (bl_in_vp h518) dL_law_1802 ?_
      refine lv_aload_n X.1 X.2.1 dL_law_1803 rfl (lv_at hl 0 rfl) ?_
      refine lv_iload_n X.1 X.2.1 dL_law_1804 rfl (lv_at hl 3 rfl) ?_
      refine lv_iconst (v := 4) X.1 X.2.1 dL_law_1805 (by decide) ?_
      refine lv_iadd X.1 X.2.1 dL_law_1806 ?_
      obtain ⟨h519, hf⟩ := bl_gd_at hf
      refine va_sld X.1 X.2.1 hX hbl hbA V.2 (bl_in_vp h519) dL_law_1807 ?_
      obtain ⟨r520, σ521, h522, hf⟩ := bl_bd_at hf
      refine bl_cVl (As := [.int (xs (Int32.toNatClampNeg (v3 + 1))), .int (xs (Int32.toNatClampNeg (v3 + 2))), .int (xs (Int32.toNatClampNeg (v3 + 3))), .int (xs (Int32.toNatClampNeg (v3 + 4)))]) X V hl.1 hv1 rfl ml_L_187 mV_X9_joined (t_X9_joined l g σ v1 (xs (Int32.toNatClampNeg (v3 + 1))) (xs (Int32.toNatClampNeg (v3 + 2))) (xs (Int32.toNatClampNeg (v3 + 3))) (xs (Int32.toNatClampNeg (v3 + 4))) _ hv1 h522) rfl rfl ⟨Nat.le_of_ble_eq_true rfl, Nat.le_of_ble_eq_true rfl⟩ rfl rfl (Nat.le_of_ble_eq_true rfl) ⟨Nat.le_of_ble_eq_true rfl, Nat.le_of_ble_eq_true rfl⟩ dL_law_1808 (fun H locs V => ?_)
      refine lv_aload_n X.1 X.2.1 dL_law_1811 rfl (lv_at hl 2 rfl) ?_
      refine lv_aload_n X.1 X.2.1 dL_law_1812 rfl (lv_at hl 0 rfl) ?_
      refine lv_iload_n X.1 X.2.1 dL_law_1813 rfl (lv_at hl 3 rfl) ?_
      refine lv_iconst (v := 1) X.1 X.2.1 dL_law_1814 (by decide) ?_
      refine lv_iadd X.1 X.2.1 dL_law_1815 ?_
      obtain ⟨h523, hf⟩ := bl_gd_at hf
      refine va_sld X.1 X.2.1 hX hbl hbA V.2 (bl_in_vp h523) dL_law_1816 ?_
      refine lv_aload_n X.1 X.2.1 dL_law_1817 rfl (lv_at hl 0 rfl) ?_
      refine lv_iload_n X.1 X.2.1 dL_law_1818 rfl (lv_at hl 3 rfl) ?_
      refine lv_iconst (v := 2) X.1 X.2.1 dL_law_1819 (by decide) ?_
      refine lv_iadd X.1 X.2.1 dL_law_1820 ?_
      obtain ⟨h524, hf⟩ := bl_gd_at hf
      refine va_sld X.1 X.2.1 hX hbl hbA V.2 (bl_in_vp h524) dL_law_1821 ?_
      refine lv_aload_n X.1 X.2.1 dL_law_1822 rfl (lv_at hl 0 rfl) ?_
      refine lv_iload_n X.1 X.2.1 dL_law_1823 rfl (lv_at hl 3 rfl) ?_
      refine lv_iconst (v := 3) X.1 X.2.1 dL_law_1824 (by decide) ?_
      refine lv_iadd X.1 X.2.1 dL_law_1825 ?_
      obtain ⟨h525, hf⟩ := bl_gd_at hf
      refine va_sld X.1 X.2.1 hX hbl hbA V.2 (bl_in_vp h525) dL_law_1826 ?_
      refine lv_aload_n X.1 X.2.1 dL_law_1827 rfl (lv_at hl 0 rfl) ?_
      refine lv_iload_n X.1 X.2.1 dL_law_1828 rfl (lv_at hl 3 rfl) ?_
      refine lv_iconst (v := 4) X.1 X.2.1 dL_law_1829 (by decide) ?_
      refine lv_iadd X.1 X.2.1 dL_law_1830 ?_
      obtain ⟨h526, hf⟩ := bl_gd_at hf
      refine va_sld X.1 X.2.1 hX hbl hbA V.2 (bl_in_vp h526) dL_law_1831 ?_
      obtain ⟨r527, σ528, h529, hf⟩ := bl_bd_at hf
      refine bl_cVl (As := [.int (xs (Int32.toNatClampNeg (v3 + 1))), .int (xs (Int32.toNatClampNeg (v3 + 2))), .int (xs (Int32.toNatClampNeg (v3 + 3))), .int (xs (Int32.toNatClampNeg (v3 + 4)))]) X V hl.1 hv2 rfl ml_L_190 mV_X10_joined (t_X10_joined l g σ521 v2 (xs (Int32.toNatClampNeg (v3 + 1))) (xs (Int32.toNatClampNeg (v3 + 2))) (xs (Int32.toNatClampNeg (v3 + 3))) (xs (Int32.toNatClampNeg (v3 + 4))) _ hv2 h529) rfl rfl ⟨Nat.le_of_ble_eq_true rfl, Nat.le_of_ble_eq_true rfl⟩ rfl rfl (Nat.le_of_ble_eq_true rfl) ⟨Nat.le_of_ble_eq_true rfl, Nat.le_of_ble_eq_true rfl⟩ dL_law_1832 (fun H locs V => ?_)
      refine bl_lc_eq (tgt := 2362) X dL_law_1835 dL_law_1836 (by decide) (fun c530 => ?_) (fun c530 => ?_)
      · have hf := bl_ifp c530 hf
        exact w_L_law_2362 ho hX hbl hbA hg X hr k18 hk18 σ528 v1 v2 v3 hv1 hv2 hf _ _ _ V (lv_sub hl [0, 1, 2, 3] rfl)
      · have hf := bl_ifn c530 hf
        refine lv_iconst (v := 0) X.1 X.2.1 dL_law_1839 (by decide) ?_
        cases hf
        exact absurd (show (0 : Int32) = 1 from ho) (by decide)
    have hf := bl_ifn c515 hf
    by_cases c531 : ((xs (Int32.toNatClampNeg v3)) &&& 63) = 41
    · have hf := bl_ifp c531 hf
      refine bl_swI (v := 41) (tgt := 1841) X dL_law_33 (by rw [c531]; decide) (by decide) rfl (by decide) ?_
      refine lv_aload_n X.1 X.2.1 dL_law_1841 rfl (lv_at hl 1 rfl) ?_
      refine lv_aload_n X.1 X.2.1 dL_law_1842 rfl (lv_at hl 0 rfl) ?_
      refine lv_iload_n X.1 X.2.1 dL_law_1843 rfl (lv_at hl 3 rfl) ?_
      refine lv_iconst (v := 1) X.1 X.2.1 dL_law_1844 (by decide) ?_
      refine lv_iadd X.1 X.2.1 dL_law_1845 ?_
      obtain ⟨h532, hf⟩ := bl_gd_at hf
      refine va_sld X.1 X.2.1 hX hbl hbA V.2 (bl_in_vp h532) dL_law_1846 ?_
      refine lv_aload_n X.1 X.2.1 dL_law_1847 rfl (lv_at hl 0 rfl) ?_
      refine lv_iload_n X.1 X.2.1 dL_law_1848 rfl (lv_at hl 3 rfl) ?_
      refine lv_iconst (v := 2) X.1 X.2.1 dL_law_1849 (by decide) ?_
      refine lv_iadd X.1 X.2.1 dL_law_1850 ?_
      obtain ⟨h533, hf⟩ := bl_gd_at hf
      refine va_sld X.1 X.2.1 hX hbl hbA V.2 (bl_in_vp h533) dL_law_1851 ?_
      refine lv_aload_n X.1 X.2.1 dL_law_1852 rfl (lv_at hl 0 rfl) ?_
      refine lv_iload_n X.1 X.2.1 dL_law_1853 rfl (lv_at hl 3 rfl) ?_
      refine lv_iconst (v := 3) X.1 X.2.1 dL_law_1854 (by decide) ?_
      refine lv_iadd X.1 X.2.1 dL_law_1855 ?_
      obtain ⟨h534, hf⟩ := bl_gd_at hf
      refine va_sld X.1 X.2.1 hX hbl hbA V.2 (bl_in_vp h534) dL_law_1856 ?_
      obtain ⟨r535, σ536, h537, hf⟩ := bl_bd_at hf
      refine bl_cVi (As := [.int (xs (Int32.toNatClampNeg (v3 + 1))), .int (xs (Int32.toNatClampNeg (v3 + 2))), .int (xs (Int32.toNatClampNeg (v3 + 3)))]) X V hl.1 hv1 rfl ml_L_191 mV_X9_rebate (t_X9_rebate l g σ v1 (xs (Int32.toNatClampNeg (v3 + 1))) (xs (Int32.toNatClampNeg (v3 + 2))) (xs (Int32.toNatClampNeg (v3 + 3))) _ hv1 h537) rfl rfl ⟨Nat.le_of_ble_eq_true rfl, Nat.le_of_ble_eq_true rfl⟩ rfl rfl (Nat.le_of_ble_eq_true rfl) ⟨Nat.le_of_ble_eq_true rfl, Nat.le_of_ble_eq_true rfl⟩ dL_law_1857 (fun H locs V => ?_)
      refine lv_aload_n X.1 X.2.1 dL_law_1860 rfl (lv_at hl 2 rfl) ?_
      refine lv_aload_n X.1 X.2.1 dL_law_1861 rfl (lv_at hl 0 rfl) ?_
      refine lv_iload_n X.1 X.2.1 dL_law_1862 rfl (lv_at hl 3 rfl) ?_
      refine lv_iconst (v := 1) X.1 X.2.1 dL_law_1863 (by decide) ?_
      refine lv_iadd X.1 X.2.1 dL_law_1864 ?_
      obtain ⟨h538, hf⟩ := bl_gd_at hf
      refine va_sld X.1 X.2.1 hX hbl hbA V.2 (bl_in_vp h538) dL_law_1865 ?_
      refine lv_aload_n X.1 X.2.1 dL_law_1866 rfl (lv_at hl 0 rfl) ?_
      refine lv_iload_n X.1 X.2.1 dL_law_1867 rfl (lv_at hl 3 rfl) ?_
      refine lv_iconst (v := 2) X.1 X.2.1 dL_law_1868 (by decide) ?_
      refine lv_iadd X.1 X.2.1 dL_law_1869 ?_
      obtain ⟨h539, hf⟩ := bl_gd_at hf
      refine va_sld X.1 X.2.1 hX hbl hbA V.2 (bl_in_vp h539) dL_law_1870 ?_
      refine lv_aload_n X.1 X.2.1 dL_law_1871 rfl (lv_at hl 0 rfl) ?_
      refine lv_iload_n X.1 X.2.1 dL_law_1872 rfl (lv_at hl 3 rfl) ?_
      refine lv_iconst (v := 3) X.1 X.2.1 dL_law_1873 (by decide) ?_
      refine lv_iadd X.1 X.2.1 dL_law_1874 ?_
      obtain ⟨h540, hf⟩ := bl_gd_at hf
      refine va_sld X.1 X.2.1 hX hbl hbA V.2 (bl_in_vp h540) dL_law_1875 ?_
      obtain ⟨r541, σ542, h543, hf⟩ := bl_bd_at hf
      refine bl_cVi (As := [.int (xs (Int32.toNatClampNeg (v3 + 1))), .int (xs (Int32.toNatClampNeg (v3 + 2))), .int (xs (Int32.toNatClampNeg (v3 + 3)))]) X V hl.1 hv2 rfl ml_L_194 mV_X10_rebate (t_X10_rebate l g σ536 v2 (xs (Int32.toNatClampNeg (v3 + 1))) (xs (Int32.toNatClampNeg (v3 + 2))) (xs (Int32.toNatClampNeg (v3 + 3))) _ hv2 h543) rfl rfl ⟨Nat.le_of_ble_eq_true rfl, Nat.le_of_ble_eq_true rfl⟩ rfl rfl (Nat.le_of_ble_eq_true rfl) ⟨Nat.le_of_ble_eq_true rfl, Nat.le_of_ble_eq_true rfl⟩ dL_law_1876 (fun H locs V => ?_)
      refine lv_icmp_eq (tgt := 2362) X.1 X.2.1 dL_law_1879 (by decide) (fun c544 => ?_) (fun c544 => ?_)
      · have hf := bl_ifp c544 hf
        exact w_L_law_2362 ho hX hbl hbA hg X hr k18 hk18 σ542 v1 v2 v3 hv1 hv2 hf _ _ _ V (lv_sub hl [0, 1, 2, 3] rfl)
      · have hf := bl_ifn c544 hf
        refine lv_iconst (v := 0) X.1 X.2.1 dL_law_1882 (by decide) ?_
        cases hf
        exact absurd (show (0 : Int32) = 1 from ho) (by decide)
    have hf := bl_ifn c531 hf
    by_cases c545 : ((xs (Int32.toNatClampNeg v3)) &&& 63) = 42
    · have hf := bl_ifp c545 hf
      refine bl_swI (v := 42) (tgt := 1884) X dL_law_33 (by rw [c545]; decide) (by decide) rfl (by decide) ?_
      refine lv_aload_n X.1 X.2.1 dL_law_1884 rfl (lv_at hl 1 rfl) ?_
      refine lv_aload_n X.1 X.2.1 dL_law_1885 rfl (lv_at hl 0 rfl) ?_
      refine lv_iload_n X.1 X.2.1 dL_law_1886 rfl (lv_at hl 3 rfl) ?_
      refine lv_iconst (v := 1) X.1 X.2.1 dL_law_1887 (by decide) ?_
      refine lv_iadd X.1 X.2.1 dL_law_1888 ?_
      obtain ⟨h546, hf⟩ := bl_gd_at hf
      refine va_sld X.1 X.2.1 hX hbl hbA V.2 (bl_in_vp h546) dL_law_1889 ?_
      refine lv_aload_n X.1 X.2.1 dL_law_1890 rfl (lv_at hl 0 rfl) ?_
      refine lv_iload_n X.1 X.2.1 dL_law_1891 rfl (lv_at hl 3 rfl) ?_
      refine lv_iconst (v := 2) X.1 X.2.1 dL_law_1892 (by decide) ?_
      refine lv_iadd X.1 X.2.1 dL_law_1893 ?_
      obtain ⟨h547, hf⟩ := bl_gd_at hf
      refine va_sld X.1 X.2.1 hX hbl hbA V.2 (bl_in_vp h547) dL_law_1894 ?_
      obtain ⟨r548, σ549, h550, hf⟩ := bl_bd_at hf
      refine bl_cVi (As := [.int (xs (Int32.toNatClampNeg (v3 + 1))), .int (xs (Int32.toNatClampNeg (v3 + 2)))]) X V hl.1 hv1 rfl ml_L_195 mV_X9_advice (t_X9_advice l g σ v1 (xs (Int32.toNatClampNeg (v3 + 1))) (xs (Int32.toNatClampNeg (v3 + 2))) _ hv1 h550) rfl rfl ⟨Nat.le_of_ble_eq_true rfl, Nat.le_of_ble_eq_true rfl⟩ rfl rfl (Nat.le_of_ble_eq_true rfl) ⟨Nat.le_of_ble_eq_true rfl, Nat.le_of_ble_eq_true rfl⟩ dL_law_1895 (fun H locs V => ?_)
      refine lv_aload_n X.1 X.2.1 dL_law_1898 rfl (lv_at hl 2 rfl) ?_
      refine lv_aload_n X.1 X.2.1 dL_law_1899 rfl (lv_at hl 0 rfl) ?_
      refine lv_iload_n X.1 X.2.1 dL_law_1900 rfl (lv_at hl 3 rfl) ?_
      refine lv_iconst (v := 1) X.1 X.2.1 dL_law_1901 (by decide) ?_
      refine lv_iadd X.1 X.2.1 dL_law_1902 ?_
      obtain ⟨h551, hf⟩ := bl_gd_at hf
      refine va_sld X.1 X.2.1 hX hbl hbA V.2 (bl_in_vp h551) dL_law_1903 ?_
      refine lv_aload_n X.1 X.2.1 dL_law_1904 rfl (lv_at hl 0 rfl) ?_
      refine lv_iload_n X.1 X.2.1 dL_law_1905 rfl (lv_at hl 3 rfl) ?_
      refine lv_iconst (v := 2) X.1 X.2.1 dL_law_1906 (by decide) ?_
      refine lv_iadd X.1 X.2.1 dL_law_1907 ?_
      obtain ⟨h552, hf⟩ := bl_gd_at hf
      refine va_sld X.1 X.2.1 hX hbl hbA V.2 (bl_in_vp h552) dL_law_1908 ?_
      obtain ⟨r553, σ554, h555, hf⟩ := bl_bd_at hf
      refine bl_cVi (As := [.int (xs (Int32.toNatClampNeg (v3 + 1))), .int (xs (Int32.toNatClampNeg (v3 + 2)))]) X V hl.1 hv2 rfl ml_L_198 mV_X10_advice (t_X10_advice l g σ549 v2 (xs (Int32.toNatClampNeg (v3 + 1))) (xs (Int32.toNatClampNeg (v3 + 2))) _ hv2 h555) rfl rfl ⟨Nat.le_of_ble_eq_true rfl, Nat.le_of_ble_eq_true rfl⟩ rfl rfl (Nat.le_of_ble_eq_true rfl) ⟨Nat.le_of_ble_eq_true rfl, Nat.le_of_ble_eq_true rfl⟩ dL_law_1909 (fun H locs V => ?_)
      refine lv_icmp_eq (tgt := 2362) X.1 X.2.1 dL_law_1912 (by decide) (fun c556 => ?_) (fun c556 => ?_)
      · have hf := bl_ifp c556 hf
        exact w_L_law_2362 ho hX hbl hbA hg X hr k18 hk18 σ554 v1 v2 v3 hv1 hv2 hf _ _ _ V (lv_sub hl [0, 1, 2, 3] rfl)
      · have hf := bl_ifn c556 hf
        refine lv_iconst (v := 0) X.1 X.2.1 dL_law_1915 (by decide) ?_
        cases hf
        exact absurd (show (0 : Int32) = 1 from ho) (by decide)
    have hf := bl_ifn c545 hf
    by_cases c557 : ((xs (Int32.toNatClampNeg v3)) &&& 63) = 43
    · have hf := bl_ifp c557 hf
      refine bl_swI (v := 43) (tgt := 1917) X dL_law_33 (by rw [c557]; decide) (by decide) rfl (by decide) ?_
      refine lv_aload_n X.1 X.2.1 dL_law_1917 rfl (lv_at hl 1 rfl) ?_
      refine lv_aload_n X.1 X.2.1 dL_law_1918 rfl (lv_at hl 0 rfl) ?_
      refine lv_iload_n X.1 X.2.1 dL_law_1919 rfl (lv_at hl 3 rfl) ?_
      refine lv_iconst (v := 1) X.1 X.2.1 dL_law_1920 (by decide) ?_
      refine lv_iadd X.1 X.2.1 dL_law_1921 ?_
      obtain ⟨h558, hf⟩ := bl_gd_at hf
      refine va_sld X.1 X.2.1 hX hbl hbA V.2 (bl_in_vp h558) dL_law_1922 ?_
      obtain ⟨r559, σ560, h561, hf⟩ := bl_bd_at hf
      refine bl_cVi (As := [.int (xs (Int32.toNatClampNeg (v3 + 1)))]) X V hl.1 hv1 rfl ml_L_199 mV_X9_rest (t_X9_rest l g σ v1 (xs (Int32.toNatClampNeg (v3 + 1))) _ hv1 h561) rfl rfl ⟨Nat.le_of_ble_eq_true rfl, Nat.le_of_ble_eq_true rfl⟩ rfl rfl (Nat.le_of_ble_eq_true rfl) ⟨Nat.le_of_ble_eq_true rfl, Nat.le_of_ble_eq_true rfl⟩ dL_law_1923 (fun H locs V => ?_)
      refine lv_aload_n X.1 X.2.1 dL_law_1926 rfl (lv_at hl 2 rfl) ?_
      refine lv_aload_n X.1 X.2.1 dL_law_1927 rfl (lv_at hl 0 rfl) ?_
      refine lv_iload_n X.1 X.2.1 dL_law_1928 rfl (lv_at hl 3 rfl) ?_
      refine lv_iconst (v := 1) X.1 X.2.1 dL_law_1929 (by decide) ?_
      refine lv_iadd X.1 X.2.1 dL_law_1930 ?_
      obtain ⟨h562, hf⟩ := bl_gd_at hf
      refine va_sld X.1 X.2.1 hX hbl hbA V.2 (bl_in_vp h562) dL_law_1931 ?_
      obtain ⟨r563, σ564, h565, hf⟩ := bl_bd_at hf
      refine bl_cVi (As := [.int (xs (Int32.toNatClampNeg (v3 + 1)))]) X V hl.1 hv2 rfl ml_L_202 mV_X10_rest (t_X10_rest l g σ560 v2 (xs (Int32.toNatClampNeg (v3 + 1))) _ hv2 h565) rfl rfl ⟨Nat.le_of_ble_eq_true rfl, Nat.le_of_ble_eq_true rfl⟩ rfl rfl (Nat.le_of_ble_eq_true rfl) ⟨Nat.le_of_ble_eq_true rfl, Nat.le_of_ble_eq_true rfl⟩ dL_law_1932 (fun H locs V => ?_)
      refine lv_icmp_eq (tgt := 2362) X.1 X.2.1 dL_law_1935 (by decide) (fun c566 => ?_) (fun c566 => ?_)
      · have hf := bl_ifp c566 hf
        exact w_L_law_2362 ho hX hbl hbA hg X hr k18 hk18 σ564 v1 v2 v3 hv1 hv2 hf _ _ _ V (lv_sub hl [0, 1, 2, 3] rfl)
      · have hf := bl_ifn c566 hf
        refine lv_iconst (v := 0) X.1 X.2.1 dL_law_1938 (by decide) ?_
        cases hf
        exact absurd (show (0 : Int32) = 1 from ho) (by decide)
    have hf := bl_ifn c557 hf
    by_cases c567 : ((xs (Int32.toNatClampNeg v3)) &&& 63) = 44
    · have hf := bl_ifp c567 hf
      refine bl_swI (v := 44) (tgt := 1940) X dL_law_33 (by rw [c567]; decide) (by decide) rfl (by decide) ?_
      refine lv_aload_n X.1 X.2.1 dL_law_1940 rfl (lv_at hl 1 rfl) ?_
      refine lv_aload_n X.1 X.2.1 dL_law_1941 rfl (lv_at hl 0 rfl) ?_
      refine lv_iload_n X.1 X.2.1 dL_law_1942 rfl (lv_at hl 3 rfl) ?_
      refine lv_iconst (v := 1) X.1 X.2.1 dL_law_1943 (by decide) ?_
      refine lv_iadd X.1 X.2.1 dL_law_1944 ?_
      obtain ⟨h568, hf⟩ := bl_gd_at hf
      refine va_sld X.1 X.2.1 hX hbl hbA V.2 (bl_in_vp h568) dL_law_1945 ?_
      refine lv_aload_n X.1 X.2.1 dL_law_1946 rfl (lv_at hl 0 rfl) ?_
      refine lv_iload_n X.1 X.2.1 dL_law_1947 rfl (lv_at hl 3 rfl) ?_
      refine lv_iconst (v := 2) X.1 X.2.1 dL_law_1948 (by decide) ?_
      refine lv_iadd X.1 X.2.1 dL_law_1949 ?_
      obtain ⟨h569, hf⟩ := bl_gd_at hf
      refine va_sld X.1 X.2.1 hX hbl hbA V.2 (bl_in_vp h569) dL_law_1950 ?_
      refine lv_aload_n X.1 X.2.1 dL_law_1951 rfl (lv_at hl 0 rfl) ?_
      refine lv_iload_n X.1 X.2.1 dL_law_1952 rfl (lv_at hl 3 rfl) ?_
      refine lv_iconst (v := 3) X.1 X.2.1 dL_law_1953 (by decide) ?_
      refine lv_iadd X.1 X.2.1 dL_law_1954 ?_
      obtain ⟨h570, hf⟩ := bl_gd_at hf
      refine va_sld X.1 X.2.1 hX hbl hbA V.2 (bl_in_vp h570) dL_law_1955 ?_
      refine lv_aload_n X.1 X.2.1 dL_law_1956 rfl (lv_at hl 0 rfl) ?_
      refine lv_iload_n X.1 X.2.1 dL_law_1957 rfl (lv_at hl 3 rfl) ?_
      refine lv_iconst (v := 4) X.1 X.2.1 dL_law_1958 (by decide) ?_
      refine lv_iadd X.1 X.2.1 dL_law_1959 ?_
      obtain ⟨h571, hf⟩ := bl_gd_at hf
      refine va_sld X.1 X.2.1 hX hbl hbA V.2 (bl_in_vp h571) dL_law_1960 ?_
      obtain ⟨r572, σ573, h574, hf⟩ := bl_bd_at hf
      refine bl_cVl (As := [.int (xs (Int32.toNatClampNeg (v3 + 1))), .int (xs (Int32.toNatClampNeg (v3 + 2))), .int (xs (Int32.toNatClampNeg (v3 + 3))), .int (xs (Int32.toNatClampNeg (v3 + 4)))]) X V hl.1 hv1 rfl ml_L_203 mV_X9_were (t_X9_were l g σ v1 (xs (Int32.toNatClampNeg (v3 + 1))) (xs (Int32.toNatClampNeg (v3 + 2))) (xs (Int32.toNatClampNeg (v3 + 3))) (xs (Int32.toNatClampNeg (v3 + 4))) _ hv1 h574) rfl rfl ⟨Nat.le_of_ble_eq_true rfl, Nat.le_of_ble_eq_true rfl⟩ rfl rfl (Nat.le_of_ble_eq_true rfl) ⟨Nat.le_of_ble_eq_true rfl, Nat.le_of_ble_eq_true rfl⟩ dL_law_1961 (fun H locs V => ?_)
      refine lv_aload_n X.1 X.2.1 dL_law_1964 rfl (lv_at hl 2 rfl) ?_
      refine lv_aload_n X.1 X.2.1 dL_law_1965 rfl (lv_at hl 0 rfl) ?_
      refine lv_iload_n X.1 X.2.1 dL_law_1966 rfl (lv_at hl 3 rfl) ?_
      refine lv_iconst (v := 1) X.1 X.2.1 dL_law_1967 (by decide) ?_
      refine lv_iadd X.1 X.2.1 dL_law_1968 ?_
      obtain ⟨h575, hf⟩ := bl_gd_at hf
      refine va_sld X.1 X.2.1 hX hbl hbA V.2 (bl_in_vp h575) dL_law_1969 ?_
      refine lv_aload_n X.1 X.2.1 dL_law_1970 rfl (lv_at hl 0 rfl) ?_
      refine lv_iload_n X.1 X.2.1 dL_law_1971 rfl (lv_at hl 3 rfl) ?_
      refine lv_iconst (v := 2) X.1 X.2.1 dL_law_1972 (by decide) ?_
      refine lv_iadd X.1 X.2.1 dL_law_1973 ?_
      obtain ⟨h576, hf⟩ := bl_gd_at hf
      refine va_sld X.1 X.2.1 hX hbl hbA V.2 (bl_in_vp h576) dL_law_1974 ?_
      refine lv_aload_n X.1 X.2.1 dL_law_1975 rfl (lv_at hl 0 rfl) ?_
      refine lv_iload_n X.1 X.2.1 dL_law_1976 rfl (lv_at hl 3 rfl) ?_
      refine lv_iconst (v := 3) X.1 X.2.1 dL_law_1977 (by decide) ?_
      refine lv_iadd X.1 X.2.1 dL_law_1978 ?_
      obtain ⟨h577, hf⟩ := bl_gd_at hf
      refine va_sld X.1 X.2.1 hX hbl hbA V.2 (bl_in_vp h577) dL_law_1979 ?_
      refine lv_aload_n X.1 X.2.1 dL_law_1980 rfl (lv_at hl 0 rfl) ?_
      refine lv_iload_n X.1 X.2.1 dL_law_1981 rfl (lv_at hl 3 rfl) ?_
      refine lv_iconst (v := 4) X.1 X.2.1 dL_law_1982 (by decide) ?_
      refine lv_iadd X.1 X.2.1 dL_law_1983 ?_
      obtain ⟨h578, hf⟩ := bl_gd_at hf
      refine va_sld X.1 X.2.1 hX hbl hbA V.2 (bl_in_vp h578) dL_law_1984 ?_
      obtain ⟨r579, σ580, h581, hf⟩ := bl_bd_at hf
      refine bl_cVl (As := [.int (xs (Int32.toNatClampNeg (v3 + 1))), .int (xs (Int32.toNatClampNeg (v3 + 2))), .int (xs (Int32.toNatClampNeg (v3 + 3))), .int (xs (Int32.toNatClampNeg (v3 + 4)))]) X V hl.1 hv2 rfl ml_L_206 mV_X10_were (t_X10_were l g σ573 v2 (xs (Int32.toNatClampNeg (v3 + 1))) (xs (Int32.toNatClampNeg (v3 + 2))) (xs (Int32.toNatClampNeg (v3 + 3))) (xs (Int32.toNatClampNeg (v3 + 4))) _ hv2 h581) rfl rfl ⟨Nat.le_of_ble_eq_true rfl, Nat.le_of_ble_eq_true rfl⟩ rfl rfl (Nat.le_of_ble_eq_true rfl) ⟨Nat.le_of_ble_eq_true rfl, Nat.le_of_ble_eq_true rfl⟩ dL_law_1985 (fun H locs V => ?_)
      refine bl_lc_eq (tgt := 2362) X dL_law_1988 dL_law_1989 (by decide) (fun c582 => ?_) (fun c582 => ?_)
      · have hf := bl_ifp c582 hf
        exact w_L_law_2362 ho hX hbl hbA hg X hr k18 hk18 σ580 v1 v2 v3 hv1 hv2 hf _ _ _ V (lv_sub hl [0, 1, 2, 3] rfl)
      · have hf := bl_ifn c582 hf
        refine lv_iconst (v := 0) X.1 X.2.1 dL_law_1992 (by decide) ?_
        cases hf
        exact absurd (show (0 : Int32) = 1 from ho) (by decide)
    have hf := bl_ifn c567 hf
    by_cases c583 : ((xs (Int32.toNatClampNeg v3)) &&& 63) = 45
    · have hf := bl_ifp c583 hf
      refine bl_swI (v := 45) (tgt := 1994) X dL_law_33 (by rw [c583]; decide) (by decide) rfl (by decide) ?_
      refine lv_aload_n X.1 X.2.1 dL_law_1994 rfl (lv_at hl 1 rfl) ?_
      refine lv_aload_n X.1 X.2.1 dL_law_1995 rfl (lv_at hl 0 rfl) ?_
      refine lv_iload_n X.1 X.2.1 dL_law_1996 rfl (lv_at hl 3 rfl) ?_
      refine lv_iconst (v := 1) X.1 X.2.1 dL_law_1997 (by decide) ?_
      refine lv_iadd X.1 X.2.1 dL_law_1998 ?_
      obtain ⟨h584, hf⟩ := bl_gd_at hf
      refine va_sld X.1 X.2.1 hX hbl hbA V.2 (bl_in_vp h584) dL_law_1999 ?_
      refine lv_aload_n X.1 X.2.1 dL_law_2000 rfl (lv_at hl 0 rfl) ?_
      refine lv_iload_n X.1 X.2.1 dL_law_2001 rfl (lv_at hl 3 rfl) ?_
      refine lv_iconst (v := 2) X.1 X.2.1 dL_law_2002 (by decide) ?_
      refine lv_iadd X.1 X.2.1 dL_law_2003 ?_
      obtain ⟨h585, hf⟩ := bl_gd_at hf
      refine va_sld X.1 X.2.1 hX hbl hbA V.2 (bl_in_vp h585) dL_law_2004 ?_
      refine lv_aload_n X.1 X.2.1 dL_law_2005 rfl (lv_at hl 0 rfl) ?_
      refine lv_iload_n X.1 X.2.1 dL_law_2006 rfl (lv_at hl 3 rfl) ?_
      refine lv_iconst (v := 3) X.1 X.2.1 dL_law_2007 (by decide) ?_
      refine lv_iadd X.1 X.2.1 dL_law_2008 ?_
      obtain ⟨h586, hf⟩ := bl_gd_at hf
      refine va_sld X.1 X.2.1 hX hbl hbA V.2 (bl_in_vp h586) dL_law_2009 ?_
      obtain ⟨r587, σ588, h589, hf⟩ := bl_bd_at hf
      refine bl_cVl (As := [.int (xs (Int32.toNatClampNeg (v3 + 1))), .int (xs (Int32.toNatClampNeg (v3 + 2))), .int (xs (Int32.toNatClampNeg (v3 + 3)))]) X V hl.1 hv1 rfl ml_L_207 mV_X9_lacking (t_X9_lacking l g σ v1 (xs (Int32.toNatClampNeg (v3 + 1))) (xs (Int32.toNatClampNeg (v3 + 2))) (xs (Int32.toNatClampNeg (v3 + 3))) _ hv1 h589) rfl rfl ⟨Nat.le_of_ble_eq_true rfl, Nat.le_of_ble_eq_true rfl⟩ rfl rfl (Nat.le_of_ble_eq_true rfl) ⟨Nat.le_of_ble_eq_true rfl, Nat.le_of_ble_eq_true rfl⟩ dL_law_2010 (fun H locs V => ?_)
      refine lv_aload_n X.1 X.2.1 dL_law_2013 rfl (lv_at hl 2 rfl) ?_
      refine lv_aload_n X.1 X.2.1 dL_law_2014 rfl (lv_at hl 0 rfl) ?_
      refine lv_iload_n X.1 X.2.1 dL_law_2015 rfl (lv_at hl 3 rfl) ?_
      refine lv_iconst (v := 1) X.1 X.2.1 dL_law_2016 (by decide) ?_
      refine lv_iadd X.1 X.2.1 dL_law_2017 ?_
      obtain ⟨h590, hf⟩ := bl_gd_at hf
      refine va_sld X.1 X.2.1 hX hbl hbA V.2 (bl_in_vp h590) dL_law_2018 ?_
      refine lv_aload_n X.1 X.2.1 dL_law_2019 rfl (lv_at hl 0 rfl) ?_
      refine lv_iload_n X.1 X.2.1 dL_law_2020 rfl (lv_at hl 3 rfl) ?_
      refine lv_iconst (v := 2) X.1 X.2.1 dL_law_2021 (by decide) ?_
      refine lv_iadd X.1 X.2.1 dL_law_2022 ?_
      obtain ⟨h591, hf⟩ := bl_gd_at hf
      refine va_sld X.1 X.2.1 hX hbl hbA V.2 (bl_in_vp h591) dL_law_2023 ?_
      refine lv_aload_n X.1 X.2.1 dL_law_2024 rfl (lv_at hl 0 rfl) ?_
      refine lv_iload_n X.1 X.2.1 dL_law_2025 rfl (lv_at hl 3 rfl) ?_
      refine lv_iconst (v := 3) X.1 X.2.1 dL_law_2026 (by decide) ?_
      refine lv_iadd X.1 X.2.1 dL_law_2027 ?_
      obtain ⟨h592, hf⟩ := bl_gd_at hf
      refine va_sld X.1 X.2.1 hX hbl hbA V.2 (bl_in_vp h592) dL_law_2028 ?_
      obtain ⟨r593, σ594, h595, hf⟩ := bl_bd_at hf
      refine bl_cVl (As := [.int (xs (Int32.toNatClampNeg (v3 + 1))), .int (xs (Int32.toNatClampNeg (v3 + 2))), .int (xs (Int32.toNatClampNeg (v3 + 3)))]) X V hl.1 hv2 rfl ml_L_210 mV_X10_lacking (t_X10_lacking l g σ588 v2 (xs (Int32.toNatClampNeg (v3 + 1))) (xs (Int32.toNatClampNeg (v3 + 2))) (xs (Int32.toNatClampNeg (v3 + 3))) _ hv2 h595) rfl rfl ⟨Nat.le_of_ble_eq_true rfl, Nat.le_of_ble_eq_true rfl⟩ rfl rfl (Nat.le_of_ble_eq_true rfl) ⟨Nat.le_of_ble_eq_true rfl, Nat.le_of_ble_eq_true rfl⟩ dL_law_2029 (fun H locs V => ?_)
      refine bl_lc_eq (tgt := 2362) X dL_law_2032 dL_law_2033 (by decide) (fun c596 => ?_) (fun c596 => ?_)
      · have hf := bl_ifp c596 hf
        exact w_L_law_2362 ho hX hbl hbA hg X hr k18 hk18 σ594 v1 v2 v3 hv1 hv2 hf _ _ _ V (lv_sub hl [0, 1, 2, 3] rfl)
      · have hf := bl_ifn c596 hf
        refine lv_iconst (v := 0) X.1 X.2.1 dL_law_2036 (by decide) ?_
        cases hf
        exact absurd (show (0 : Int32) = 1 from ho) (by decide)
    have hf := bl_ifn c583 hf
    by_cases c597 : ((xs (Int32.toNatClampNeg v3)) &&& 63) = 46
    · have hf := bl_ifp c597 hf
      refine bl_swI (v := 46) (tgt := 2038) X dL_law_33 (by rw [c597]; decide) (by decide) rfl (by decide) ?_
      refine lv_aload_n X.1 X.2.1 dL_law_2038 rfl (lv_at hl 1 rfl) ?_
      refine lv_aload_n X.1 X.2.1 dL_law_2039 rfl (lv_at hl 0 rfl) ?_
      refine lv_iload_n X.1 X.2.1 dL_law_2040 rfl (lv_at hl 3 rfl) ?_
      refine lv_iconst (v := 1) X.1 X.2.1 dL_law_2041 (by decide) ?_
      refine lv_iadd X.1 X.2.1 dL_law_2042 ?_
      obtain ⟨h598, hf⟩ := bl_gd_at hf
      refine va_sld X.1 X.2.1 hX hbl hbA V.2 (bl_in_vp h598) dL_law_2043 ?_
      refine lv_i2l X.1 X.2.1 dL_law_2044 rfl ?_
      refine lv_bipush (v := 32) X.1 X.2.1 dL_law_2045 (by decide) ?_
      refine lv_lshl X.1 X.2.1 dL_law_2047 rfl ?_
      refine lv_aload_n X.1 X.2.1 dL_law_2048 rfl (lv_at hl 0 rfl) ?_
      refine lv_iload_n X.1 X.2.1 dL_law_2049 rfl (lv_at hl 3 rfl) ?_
      refine lv_iconst (v := 2) X.1 X.2.1 dL_law_2050 (by decide) ?_
      refine lv_iadd X.1 X.2.1 dL_law_2051 ?_
      obtain ⟨h599, hf⟩ := bl_gd_at hf
      refine va_sld X.1 X.2.1 hX hbl hbA V.2 (bl_in_vp h599) dL_law_2052 ?_
      refine lv_i2l X.1 X.2.1 dL_law_2053 rfl ?_
      refine lv_ldc2 (v := 4294967295) X.1 X.2.1 X.2.2.2.1 (X.2.2.2.2.1 _ kl_L_211) dL_law_2054 ?_
      refine lv_land X.1 X.2.1 dL_law_2057 ?_
      refine lv_lor X.1 X.2.1 dL_law_2058 ?_
      refine lv_aload_n X.1 X.2.1 dL_law_2059 rfl (lv_at hl 0 rfl) ?_
      refine lv_iload_n X.1 X.2.1 dL_law_2060 rfl (lv_at hl 3 rfl) ?_
      refine lv_iconst (v := 3) X.1 X.2.1 dL_law_2061 (by decide) ?_
      refine lv_iadd X.1 X.2.1 dL_law_2062 ?_
      obtain ⟨h600, hf⟩ := bl_gd_at hf
      refine va_sld X.1 X.2.1 hX hbl hbA V.2 (bl_in_vp h600) dL_law_2063 ?_
      refine lv_aload_n X.1 X.2.1 dL_law_2064 rfl (lv_at hl 0 rfl) ?_
      refine lv_iload_n X.1 X.2.1 dL_law_2065 rfl (lv_at hl 3 rfl) ?_
      refine lv_iconst (v := 4) X.1 X.2.1 dL_law_2066 (by decide) ?_
      refine lv_iadd X.1 X.2.1 dL_law_2067 ?_
      obtain ⟨h601, hf⟩ := bl_gd_at hf
      refine va_sld X.1 X.2.1 hX hbl hbA V.2 (bl_in_vp h601) dL_law_2068 ?_
      obtain ⟨r602, σ603, h604, hf⟩ := bl_bd_at hf
      refine bl_cVi (As := [.long (((Int32.toInt64 (xs (Int32.toNatClampNeg (v3 + 1)))) <<< ((Int32.toInt64 32) &&& 63)) ||| ((Int32.toInt64 (xs (Int32.toNatClampNeg (v3 + 2)))) &&& 4294967295)), .int (xs (Int32.toNatClampNeg (v3 + 3))), .int (xs (Int32.toNatClampNeg (v3 + 4)))]) X V hl.1 hv1 rfl ml_L_213 mV_X9_oddsFor (t_X9_oddsFor l g σ v1 (((Int32.toInt64 (xs (Int32.toNatClampNeg (v3 + 1)))) <<< ((Int32.toInt64 32) &&& 63)) ||| ((Int32.toInt64 (xs (Int32.toNatClampNeg (v3 + 2)))) &&& 4294967295)) (xs (Int32.toNatClampNeg (v3 + 3))) (xs (Int32.toNatClampNeg (v3 + 4))) _ hv1 h604) rfl rfl ⟨Nat.le_of_ble_eq_true rfl, Nat.le_of_ble_eq_true rfl⟩ rfl rfl (Nat.le_of_ble_eq_true rfl) ⟨Nat.le_of_ble_eq_true rfl, Nat.le_of_ble_eq_true rfl⟩ dL_law_2069 (fun H locs V => ?_)
      refine lv_aload_n X.1 X.2.1 dL_law_2072 rfl (lv_at hl 2 rfl) ?_
      refine lv_aload_n X.1 X.2.1 dL_law_2073 rfl (lv_at hl 0 rfl) ?_
      refine lv_iload_n X.1 X.2.1 dL_law_2074 rfl (lv_at hl 3 rfl) ?_
      refine lv_iconst (v := 1) X.1 X.2.1 dL_law_2075 (by decide) ?_
      refine lv_iadd X.1 X.2.1 dL_law_2076 ?_
      obtain ⟨h605, hf⟩ := bl_gd_at hf
      refine va_sld X.1 X.2.1 hX hbl hbA V.2 (bl_in_vp h605) dL_law_2077 ?_
      refine lv_i2l X.1 X.2.1 dL_law_2078 rfl ?_
      refine lv_bipush (v := 32) X.1 X.2.1 dL_law_2079 (by decide) ?_
      refine lv_lshl X.1 X.2.1 dL_law_2081 rfl ?_
      refine lv_aload_n X.1 X.2.1 dL_law_2082 rfl (lv_at hl 0 rfl) ?_
      refine lv_iload_n X.1 X.2.1 dL_law_2083 rfl (lv_at hl 3 rfl) ?_
      refine lv_iconst (v := 2) X.1 X.2.1 dL_law_2084 (by decide) ?_
      refine lv_iadd X.1 X.2.1 dL_law_2085 ?_
      obtain ⟨h606, hf⟩ := bl_gd_at hf
      refine va_sld X.1 X.2.1 hX hbl hbA V.2 (bl_in_vp h606) dL_law_2086 ?_
      refine lv_i2l X.1 X.2.1 dL_law_2087 rfl ?_
      refine lv_ldc2 (v := 4294967295) X.1 X.2.1 X.2.2.2.1 (X.2.2.2.2.1 _ kl_L_211) dL_law_2088 ?_
      refine lv_land X.1 X.2.1 dL_law_2091 ?_
      refine lv_lor X.1 X.2.1 dL_law_2092 ?_
      refine lv_aload_n X.1 X.2.1 dL_law_2093 rfl (lv_at hl 0 rfl) ?_
      refine lv_iload_n X.1 X.2.1 dL_law_2094 rfl (lv_at hl 3 rfl) ?_
      refine lv_iconst (v := 3) X.1 X.2.1 dL_law_2095 (by decide) ?_
      refine lv_iadd X.1 X.2.1 dL_law_2096 ?_
      obtain ⟨h607, hf⟩ := bl_gd_at hf
      refine va_sld X.1 X.2.1 hX hbl hbA V.2 (bl_in_vp h607) dL_law_2097 ?_
      refine lv_aload_n X.1 X.2.1 dL_law_2098 rfl (lv_at hl 0 rfl) ?_
      refine lv_iload_n X.1 X.2.1 dL_law_2099 rfl (lv_at hl 3 rfl) ?_
      refine lv_iconst (v := 4) X.1 X.2.1 dL_law_2100 (by decide) ?_
      refine lv_iadd X.1 X.2.1 dL_law_2101 ?_
      obtain ⟨h608, hf⟩ := bl_gd_at hf
      refine va_sld X.1 X.2.1 hX hbl hbA V.2 (bl_in_vp h608) dL_law_2102 ?_
      obtain ⟨r609, σ610, h611, hf⟩ := bl_bd_at hf
      refine bl_cVi (As := [.long (((Int32.toInt64 (xs (Int32.toNatClampNeg (v3 + 1)))) <<< ((Int32.toInt64 32) &&& 63)) ||| ((Int32.toInt64 (xs (Int32.toNatClampNeg (v3 + 2)))) &&& 4294967295)), .int (xs (Int32.toNatClampNeg (v3 + 3))), .int (xs (Int32.toNatClampNeg (v3 + 4)))]) X V hl.1 hv2 rfl ml_L_217 mV_X10_oddsFor (t_X10_oddsFor l g σ603 v2 (((Int32.toInt64 (xs (Int32.toNatClampNeg (v3 + 1)))) <<< ((Int32.toInt64 32) &&& 63)) ||| ((Int32.toInt64 (xs (Int32.toNatClampNeg (v3 + 2)))) &&& 4294967295)) (xs (Int32.toNatClampNeg (v3 + 3))) (xs (Int32.toNatClampNeg (v3 + 4))) _ hv2 h611) rfl rfl ⟨Nat.le_of_ble_eq_true rfl, Nat.le_of_ble_eq_true rfl⟩ rfl rfl (Nat.le_of_ble_eq_true rfl) ⟨Nat.le_of_ble_eq_true rfl, Nat.le_of_ble_eq_true rfl⟩ dL_law_2103 (fun H locs V => ?_)
      refine lv_icmp_eq (tgt := 2362) X.1 X.2.1 dL_law_2106 (by decide) (fun c612 => ?_) (fun c612 => ?_)
      · have hf := bl_ifp c612 hf
        exact w_L_law_2362 ho hX hbl hbA hg X hr k18 hk18 σ610 v1 v2 v3 hv1 hv2 hf _ _ _ V (lv_sub hl [0, 1, 2, 3] rfl)
      · have hf := bl_ifn c612 hf
        refine lv_iconst (v := 0) X.1 X.2.1 dL_law_2109 (by decide) ?_
        cases hf
        exact absurd (show (0 : Int32) = 1 from ho) (by decide)
    have hf := bl_ifn c597 hf
    by_cases c613 : ((xs (Int32.toNatClampNeg v3)) &&& 63) = 47
    · have hf := bl_ifp c613 hf
      refine bl_swI (v := 47) (tgt := 2111) X dL_law_33 (by rw [c613]; decide) (by decide) rfl (by decide) ?_
      refine lv_aload_n X.1 X.2.1 dL_law_2111 rfl (lv_at hl 1 rfl) ?_
      refine lv_aload_n X.1 X.2.1 dL_law_2112 rfl (lv_at hl 0 rfl) ?_
      refine lv_iload_n X.1 X.2.1 dL_law_2113 rfl (lv_at hl 3 rfl) ?_
      refine lv_iconst (v := 1) X.1 X.2.1 dL_law_2114 (by decide) ?_
      refine lv_iadd X.1 X.2.1 dL_law_2115 ?_
      obtain ⟨h614, hf⟩ := bl_gd_at hf
      refine va_sld X.1 X.2.1 hX hbl hbA V.2 (bl_in_vp h614) dL_law_2116 ?_
      refine lv_aload_n X.1 X.2.1 dL_law_2117 rfl (lv_at hl 0 rfl) ?_
      refine lv_iload_n X.1 X.2.1 dL_law_2118 rfl (lv_at hl 3 rfl) ?_
      refine lv_iconst (v := 2) X.1 X.2.1 dL_law_2119 (by decide) ?_
      refine lv_iadd X.1 X.2.1 dL_law_2120 ?_
      obtain ⟨h615, hf⟩ := bl_gd_at hf
      refine va_sld X.1 X.2.1 hX hbl hbA V.2 (bl_in_vp h615) dL_law_2121 ?_
      refine lv_aload_n X.1 X.2.1 dL_law_2122 rfl (lv_at hl 0 rfl) ?_
      refine lv_iload_n X.1 X.2.1 dL_law_2123 rfl (lv_at hl 3 rfl) ?_
      refine lv_iconst (v := 3) X.1 X.2.1 dL_law_2124 (by decide) ?_
      refine lv_iadd X.1 X.2.1 dL_law_2125 ?_
      obtain ⟨h616, hf⟩ := bl_gd_at hf
      refine va_sld X.1 X.2.1 hX hbl hbA V.2 (bl_in_vp h616) dL_law_2126 ?_
      obtain ⟨r617, σ618, h619, hf⟩ := bl_bd_at hf
      refine bl_cVi (As := [.int (xs (Int32.toNatClampNeg (v3 + 1))), .int (xs (Int32.toNatClampNeg (v3 + 2))), .int (xs (Int32.toNatClampNeg (v3 + 3)))]) X V hl.1 hv1 rfl ml_L_218 mV_X9_bestOwn (t_X9_bestOwn l g σ v1 (xs (Int32.toNatClampNeg (v3 + 1))) (xs (Int32.toNatClampNeg (v3 + 2))) (xs (Int32.toNatClampNeg (v3 + 3))) _ hv1 h619) rfl rfl ⟨Nat.le_of_ble_eq_true rfl, Nat.le_of_ble_eq_true rfl⟩ rfl rfl (Nat.le_of_ble_eq_true rfl) ⟨Nat.le_of_ble_eq_true rfl, Nat.le_of_ble_eq_true rfl⟩ dL_law_2127 (fun H locs V => ?_)
      refine lv_aload_n X.1 X.2.1 dL_law_2130 rfl (lv_at hl 2 rfl) ?_
      refine lv_aload_n X.1 X.2.1 dL_law_2131 rfl (lv_at hl 0 rfl) ?_
      refine lv_iload_n X.1 X.2.1 dL_law_2132 rfl (lv_at hl 3 rfl) ?_
      refine lv_iconst (v := 1) X.1 X.2.1 dL_law_2133 (by decide) ?_
      refine lv_iadd X.1 X.2.1 dL_law_2134 ?_
      obtain ⟨h620, hf⟩ := bl_gd_at hf
      refine va_sld X.1 X.2.1 hX hbl hbA V.2 (bl_in_vp h620) dL_law_2135 ?_
      refine lv_aload_n X.1 X.2.1 dL_law_2136 rfl (lv_at hl 0 rfl) ?_
      refine lv_iload_n X.1 X.2.1 dL_law_2137 rfl (lv_at hl 3 rfl) ?_
      refine lv_iconst (v := 2) X.1 X.2.1 dL_law_2138 (by decide) ?_
      refine lv_iadd X.1 X.2.1 dL_law_2139 ?_
      obtain ⟨h621, hf⟩ := bl_gd_at hf
      refine va_sld X.1 X.2.1 hX hbl hbA V.2 (bl_in_vp h621) dL_law_2140 ?_
      refine lv_aload_n X.1 X.2.1 dL_law_2141 rfl (lv_at hl 0 rfl) ?_
      refine lv_iload_n X.1 X.2.1 dL_law_2142 rfl (lv_at hl 3 rfl) ?_
      refine lv_iconst (v := 3) X.1 X.2.1 dL_law_2143 (by decide) ?_
      refine lv_iadd X.1 X.2.1 dL_law_2144 ?_
      obtain ⟨h622, hf⟩ := bl_gd_at hf
      refine va_sld X.1 X.2.1 hX hbl hbA V.2 (bl_in_vp h622) dL_law_2145 ?_
      obtain ⟨r623, σ624, h625, hf⟩ := bl_bd_at hf
      refine bl_cVi (As := [.int (xs (Int32.toNatClampNeg (v3 + 1))), .int (xs (Int32.toNatClampNeg (v3 + 2))), .int (xs (Int32.toNatClampNeg (v3 + 3)))]) X V hl.1 hv2 rfl ml_L_221 mV_X10_bestOwn (t_X10_bestOwn l g σ618 v2 (xs (Int32.toNatClampNeg (v3 + 1))) (xs (Int32.toNatClampNeg (v3 + 2))) (xs (Int32.toNatClampNeg (v3 + 3))) _ hv2 h625) rfl rfl ⟨Nat.le_of_ble_eq_true rfl, Nat.le_of_ble_eq_true rfl⟩ rfl rfl (Nat.le_of_ble_eq_true rfl) ⟨Nat.le_of_ble_eq_true rfl, Nat.le_of_ble_eq_true rfl⟩ dL_law_2146 (fun H locs V => ?_)
      refine lv_icmp_eq (tgt := 2362) X.1 X.2.1 dL_law_2149 (by decide) (fun c626 => ?_) (fun c626 => ?_)
      · have hf := bl_ifp c626 hf
        exact w_L_law_2362 ho hX hbl hbA hg X hr k18 hk18 σ624 v1 v2 v3 hv1 hv2 hf _ _ _ V (lv_sub hl [0, 1, 2, 3] rfl)
      · have hf := bl_ifn c626 hf
        refine lv_iconst (v := 0) X.1 X.2.1 dL_law_2152 (by decide) ?_
        cases hf
        exact absurd (show (0 : Int32) = 1 from ho) (by decide)
    have hf := bl_ifn c613 hf
    by_cases c627 : ((xs (Int32.toNatClampNeg v3)) &&& 63) = 48
    · have hf := bl_ifp c627 hf
      refine bl_swI (v := 48) (tgt := 2154) X dL_law_33 (by rw [c627]; decide) (by decide) rfl (by decide) ?_
      refine lv_aload_n X.1 X.2.1 dL_law_2154 rfl (lv_at hl 1 rfl) ?_
      refine lv_aload_n X.1 X.2.1 dL_law_2155 rfl (lv_at hl 0 rfl) ?_
      refine lv_iload_n X.1 X.2.1 dL_law_2156 rfl (lv_at hl 3 rfl) ?_
      refine lv_iconst (v := 1) X.1 X.2.1 dL_law_2157 (by decide) ?_
      refine lv_iadd X.1 X.2.1 dL_law_2158 ?_
      obtain ⟨h628, hf⟩ := bl_gd_at hf
      refine va_sld X.1 X.2.1 hX hbl hbA V.2 (bl_in_vp h628) dL_law_2159 ?_
      refine lv_aload_n X.1 X.2.1 dL_law_2160 rfl (lv_at hl 0 rfl) ?_
      refine lv_iload_n X.1 X.2.1 dL_law_2161 rfl (lv_at hl 3 rfl) ?_
      refine lv_iconst (v := 2) X.1 X.2.1 dL_law_2162 (by decide) ?_
      refine lv_iadd X.1 X.2.1 dL_law_2163 ?_
      obtain ⟨h629, hf⟩ := bl_gd_at hf
      refine va_sld X.1 X.2.1 hX hbl hbA V.2 (bl_in_vp h629) dL_law_2164 ?_
      refine lv_aload_n X.1 X.2.1 dL_law_2165 rfl (lv_at hl 0 rfl) ?_
      refine lv_iload_n X.1 X.2.1 dL_law_2166 rfl (lv_at hl 3 rfl) ?_
      refine lv_iconst (v := 3) X.1 X.2.1 dL_law_2167 (by decide) ?_
      refine lv_iadd X.1 X.2.1 dL_law_2168 ?_
      obtain ⟨h630, hf⟩ := bl_gd_at hf
      refine va_sld X.1 X.2.1 hX hbl hbA V.2 (bl_in_vp h630) dL_law_2169 ?_
      refine lv_aload_n X.1 X.2.1 dL_law_2170 rfl (lv_at hl 0 rfl) ?_
      refine lv_iload_n X.1 X.2.1 dL_law_2171 rfl (lv_at hl 3 rfl) ?_
      refine lv_iconst (v := 4) X.1 X.2.1 dL_law_2172 (by decide) ?_
      refine lv_iadd X.1 X.2.1 dL_law_2173 ?_
      obtain ⟨h631, hf⟩ := bl_gd_at hf
      refine va_sld X.1 X.2.1 hX hbl hbA V.2 (bl_in_vp h631) dL_law_2174 ?_
      refine lv_aload_n X.1 X.2.1 dL_law_2175 rfl (lv_at hl 0 rfl) ?_
      refine lv_iload_n X.1 X.2.1 dL_law_2176 rfl (lv_at hl 3 rfl) ?_
      refine lv_iconst (v := 5) X.1 X.2.1 dL_law_2177 (by decide) ?_
      refine lv_iadd X.1 X.2.1 dL_law_2178 ?_
      obtain ⟨h632, hf⟩ := bl_gd_at hf
      refine va_sld X.1 X.2.1 hX hbl hbA V.2 (bl_in_vp h632) dL_law_2179 ?_
      obtain ⟨r633, σ634, h635, hf⟩ := bl_bd_at hf
      refine bl_cVi (As := [.int (xs (Int32.toNatClampNeg (v3 + 1))), .int (xs (Int32.toNatClampNeg (v3 + 2))), .int (xs (Int32.toNatClampNeg (v3 + 3))), .int (xs (Int32.toNatClampNeg (v3 + 4))), .int (xs (Int32.toNatClampNeg (v3 + 5)))]) X V hl.1 hv1 rfl ml_L_222 mV_X9_would (t_X9_would l g σ v1 (xs (Int32.toNatClampNeg (v3 + 1))) (xs (Int32.toNatClampNeg (v3 + 2))) (xs (Int32.toNatClampNeg (v3 + 3))) (xs (Int32.toNatClampNeg (v3 + 4))) (xs (Int32.toNatClampNeg (v3 + 5))) _ hv1 h635) rfl rfl ⟨Nat.le_of_ble_eq_true rfl, Nat.le_of_ble_eq_true rfl⟩ rfl rfl (Nat.le_of_ble_eq_true rfl) ⟨Nat.le_of_ble_eq_true rfl, Nat.le_of_ble_eq_true rfl⟩ dL_law_2180 (fun H locs V => ?_)
      refine lv_aload_n X.1 X.2.1 dL_law_2183 rfl (lv_at hl 2 rfl) ?_
      refine lv_aload_n X.1 X.2.1 dL_law_2184 rfl (lv_at hl 0 rfl) ?_
      refine lv_iload_n X.1 X.2.1 dL_law_2185 rfl (lv_at hl 3 rfl) ?_
      refine lv_iconst (v := 1) X.1 X.2.1 dL_law_2186 (by decide) ?_
      refine lv_iadd X.1 X.2.1 dL_law_2187 ?_
      obtain ⟨h636, hf⟩ := bl_gd_at hf
      refine va_sld X.1 X.2.1 hX hbl hbA V.2 (bl_in_vp h636) dL_law_2188 ?_
      refine lv_aload_n X.1 X.2.1 dL_law_2189 rfl (lv_at hl 0 rfl) ?_
      refine lv_iload_n X.1 X.2.1 dL_law_2190 rfl (lv_at hl 3 rfl) ?_
      refine lv_iconst (v := 2) X.1 X.2.1 dL_law_2191 (by decide) ?_
      refine lv_iadd X.1 X.2.1 dL_law_2192 ?_
      obtain ⟨h637, hf⟩ := bl_gd_at hf
      refine va_sld X.1 X.2.1 hX hbl hbA V.2 (bl_in_vp h637) dL_law_2193 ?_
      refine lv_aload_n X.1 X.2.1 dL_law_2194 rfl (lv_at hl 0 rfl) ?_
      refine lv_iload_n X.1 X.2.1 dL_law_2195 rfl (lv_at hl 3 rfl) ?_
      refine lv_iconst (v := 3) X.1 X.2.1 dL_law_2196 (by decide) ?_
      refine lv_iadd X.1 X.2.1 dL_law_2197 ?_
      obtain ⟨h638, hf⟩ := bl_gd_at hf
      refine va_sld X.1 X.2.1 hX hbl hbA V.2 (bl_in_vp h638) dL_law_2198 ?_
      refine lv_aload_n X.1 X.2.1 dL_law_2199 rfl (lv_at hl 0 rfl) ?_
      refine lv_iload_n X.1 X.2.1 dL_law_2200 rfl (lv_at hl 3 rfl) ?_
      refine lv_iconst (v := 4) X.1 X.2.1 dL_law_2201 (by decide) ?_
      refine lv_iadd X.1 X.2.1 dL_law_2202 ?_
      obtain ⟨h639, hf⟩ := bl_gd_at hf
      refine va_sld X.1 X.2.1 hX hbl hbA V.2 (bl_in_vp h639) dL_law_2203 ?_
      refine lv_aload_n X.1 X.2.1 dL_law_2204 rfl (lv_at hl 0 rfl) ?_
      refine lv_iload_n X.1 X.2.1 dL_law_2205 rfl (lv_at hl 3 rfl) ?_
      refine lv_iconst (v := 5) X.1 X.2.1 dL_law_2206 (by decide) ?_
      refine lv_iadd X.1 X.2.1 dL_law_2207 ?_
      obtain ⟨h640, hf⟩ := bl_gd_at hf
      refine va_sld X.1 X.2.1 hX hbl hbA V.2 (bl_in_vp h640) dL_law_2208 ?_
      obtain ⟨r641, σ642, h643, hf⟩ := bl_bd_at hf
      refine bl_cVi (As := [.int (xs (Int32.toNatClampNeg (v3 + 1))), .int (xs (Int32.toNatClampNeg (v3 + 2))), .int (xs (Int32.toNatClampNeg (v3 + 3))), .int (xs (Int32.toNatClampNeg (v3 + 4))), .int (xs (Int32.toNatClampNeg (v3 + 5)))]) X V hl.1 hv2 rfl ml_L_225 mV_X10_would (t_X10_would l g σ634 v2 (xs (Int32.toNatClampNeg (v3 + 1))) (xs (Int32.toNatClampNeg (v3 + 2))) (xs (Int32.toNatClampNeg (v3 + 3))) (xs (Int32.toNatClampNeg (v3 + 4))) (xs (Int32.toNatClampNeg (v3 + 5))) _ hv2 h643) rfl rfl ⟨Nat.le_of_ble_eq_true rfl, Nat.le_of_ble_eq_true rfl⟩ rfl rfl (Nat.le_of_ble_eq_true rfl) ⟨Nat.le_of_ble_eq_true rfl, Nat.le_of_ble_eq_true rfl⟩ dL_law_2209 (fun H locs V => ?_)
      refine lv_icmp_eq (tgt := 2362) X.1 X.2.1 dL_law_2212 (by decide) (fun c644 => ?_) (fun c644 => ?_)
      · have hf := bl_ifp c644 hf
        exact w_L_law_2362 ho hX hbl hbA hg X hr k18 hk18 σ642 v1 v2 v3 hv1 hv2 hf _ _ _ V (lv_sub hl [0, 1, 2, 3] rfl)
      · have hf := bl_ifn c644 hf
        refine lv_iconst (v := 0) X.1 X.2.1 dL_law_2215 (by decide) ?_
        cases hf
        exact absurd (show (0 : Int32) = 1 from ho) (by decide)
    have hf := bl_ifn c627 hf
    by_cases c645 : ((xs (Int32.toNatClampNeg v3)) &&& 63) = 49
    · have hf := bl_ifp c645 hf
      refine bl_swI (v := 49) (tgt := 2217) X dL_law_33 (by rw [c645]; decide) (by decide) rfl (by decide) ?_
      refine lv_aload_n X.1 X.2.1 dL_law_2217 rfl (lv_at hl 1 rfl) ?_
      refine lv_aload_n X.1 X.2.1 dL_law_2218 rfl (lv_at hl 0 rfl) ?_
      refine lv_iload_n X.1 X.2.1 dL_law_2219 rfl (lv_at hl 3 rfl) ?_
      refine lv_iconst (v := 1) X.1 X.2.1 dL_law_2220 (by decide) ?_
      refine lv_iadd X.1 X.2.1 dL_law_2221 ?_
      obtain ⟨h646, hf⟩ := bl_gd_at hf
      refine va_sld X.1 X.2.1 hX hbl hbA V.2 (bl_in_vp h646) dL_law_2222 ?_
      refine lv_aload_n X.1 X.2.1 dL_law_2223 rfl (lv_at hl 0 rfl) ?_
      refine lv_iload_n X.1 X.2.1 dL_law_2224 rfl (lv_at hl 3 rfl) ?_
      refine lv_iconst (v := 2) X.1 X.2.1 dL_law_2225 (by decide) ?_
      refine lv_iadd X.1 X.2.1 dL_law_2226 ?_
      obtain ⟨h647, hf⟩ := bl_gd_at hf
      refine va_sld X.1 X.2.1 hX hbl hbA V.2 (bl_in_vp h647) dL_law_2227 ?_
      obtain ⟨r648, σ649, h650, hf⟩ := bl_bd_at hf
      refine bl_cVi (As := [.int (xs (Int32.toNatClampNeg (v3 + 1))), .int (xs (Int32.toNatClampNeg (v3 + 2)))]) X V hl.1 hv1 rfl ml_L_226 mV_X9_bestRule (t_X9_bestRule l g σ v1 (xs (Int32.toNatClampNeg (v3 + 1))) (xs (Int32.toNatClampNeg (v3 + 2))) _ hv1 h650) rfl rfl ⟨Nat.le_of_ble_eq_true rfl, Nat.le_of_ble_eq_true rfl⟩ rfl rfl (Nat.le_of_ble_eq_true rfl) ⟨Nat.le_of_ble_eq_true rfl, Nat.le_of_ble_eq_true rfl⟩ dL_law_2228 (fun H locs V => ?_)
      refine lv_aload_n X.1 X.2.1 dL_law_2231 rfl (lv_at hl 2 rfl) ?_
      refine lv_aload_n X.1 X.2.1 dL_law_2232 rfl (lv_at hl 0 rfl) ?_
      refine lv_iload_n X.1 X.2.1 dL_law_2233 rfl (lv_at hl 3 rfl) ?_
      refine lv_iconst (v := 1) X.1 X.2.1 dL_law_2234 (by decide) ?_
      refine lv_iadd X.1 X.2.1 dL_law_2235 ?_
      obtain ⟨h651, hf⟩ := bl_gd_at hf
      refine va_sld X.1 X.2.1 hX hbl hbA V.2 (bl_in_vp h651) dL_law_2236 ?_
      refine lv_aload_n X.1 X.2.1 dL_law_2237 rfl (lv_at hl 0 rfl) ?_
      refine lv_iload_n X.1 X.2.1 dL_law_2238 rfl (lv_at hl 3 rfl) ?_
      refine lv_iconst (v := 2) X.1 X.2.1 dL_law_2239 (by decide) ?_
      refine lv_iadd X.1 X.2.1 dL_law_2240 ?_
      obtain ⟨h652, hf⟩ := bl_gd_at hf
      refine va_sld X.1 X.2.1 hX hbl hbA V.2 (bl_in_vp h652) dL_law_2241 ?_
      obtain ⟨r653, σ654, h655, hf⟩ := bl_bd_at hf
      refine bl_cVi (As := [.int (xs (Int32.toNatClampNeg (v3 + 1))), .int (xs (Int32.toNatClampNeg (v3 + 2)))]) X V hl.1 hv2 rfl ml_L_229 mV_X10_bestRule (t_X10_bestRule l g σ649 v2 (xs (Int32.toNatClampNeg (v3 + 1))) (xs (Int32.toNatClampNeg (v3 + 2))) _ hv2 h655) rfl rfl ⟨Nat.le_of_ble_eq_true rfl, Nat.le_of_ble_eq_true rfl⟩ rfl rfl (Nat.le_of_ble_eq_true rfl) ⟨Nat.le_of_ble_eq_true rfl, Nat.le_of_ble_eq_true rfl⟩ dL_law_2242 (fun H locs V => ?_)
      refine lv_icmp_eq (tgt := 2362) X.1 X.2.1 dL_law_2245 (by decide) (fun c656 => ?_) (fun c656 => ?_)
      · have hf := bl_ifp c656 hf
        exact w_L_law_2362 ho hX hbl hbA hg X hr k18 hk18 σ654 v1 v2 v3 hv1 hv2 hf _ _ _ V (lv_sub hl [0, 1, 2, 3] rfl)
      · have hf := bl_ifn c656 hf
        refine lv_iconst (v := 0) X.1 X.2.1 dL_law_2248 (by decide) ?_
        cases hf
        exact absurd (show (0 : Int32) = 1 from ho) (by decide)
    have hf := bl_ifn c645 hf
    by_cases c657 : ((xs (Int32.toNatClampNeg v3)) &&& 63) = 50
    · have hf := bl_ifp c657 hf
      refine bl_swI (v := 50) (tgt := 2250) X dL_law_33 (by rw [c657]; decide) (by decide) rfl (by decide) ?_
      refine lv_aload_n X.1 X.2.1 dL_law_2250 rfl (lv_at hl 1 rfl) ?_
      refine lv_aload_n X.1 X.2.1 dL_law_2251 rfl (lv_at hl 0 rfl) ?_
      refine lv_iload_n X.1 X.2.1 dL_law_2252 rfl (lv_at hl 3 rfl) ?_
      refine lv_iconst (v := 1) X.1 X.2.1 dL_law_2253 (by decide) ?_
      refine lv_iadd X.1 X.2.1 dL_law_2254 ?_
      obtain ⟨h658, hf⟩ := bl_gd_at hf
      refine va_sld X.1 X.2.1 hX hbl hbA V.2 (bl_in_vp h658) dL_law_2255 ?_
      refine lv_aload_n X.1 X.2.1 dL_law_2256 rfl (lv_at hl 0 rfl) ?_
      refine lv_iload_n X.1 X.2.1 dL_law_2257 rfl (lv_at hl 3 rfl) ?_
      refine lv_iconst (v := 2) X.1 X.2.1 dL_law_2258 (by decide) ?_
      refine lv_iadd X.1 X.2.1 dL_law_2259 ?_
      obtain ⟨h659, hf⟩ := bl_gd_at hf
      refine va_sld X.1 X.2.1 hX hbl hbA V.2 (bl_in_vp h659) dL_law_2260 ?_
      obtain ⟨r660, σ661, h662, hf⟩ := bl_bd_at hf
      refine bl_cVi (As := [.int (xs (Int32.toNatClampNeg (v3 + 1))), .int (xs (Int32.toNatClampNeg (v3 + 2)))]) X V hl.1 hv1 rfl ml_L_230 mV_X9_dearest (t_X9_dearest l g σ v1 (xs (Int32.toNatClampNeg (v3 + 1))) (xs (Int32.toNatClampNeg (v3 + 2))) _ hv1 h662) rfl rfl ⟨Nat.le_of_ble_eq_true rfl, Nat.le_of_ble_eq_true rfl⟩ rfl rfl (Nat.le_of_ble_eq_true rfl) ⟨Nat.le_of_ble_eq_true rfl, Nat.le_of_ble_eq_true rfl⟩ dL_law_2261 (fun H locs V => ?_)
      refine lv_aload_n X.1 X.2.1 dL_law_2264 rfl (lv_at hl 2 rfl) ?_
      refine lv_aload_n X.1 X.2.1 dL_law_2265 rfl (lv_at hl 0 rfl) ?_
      refine lv_iload_n X.1 X.2.1 dL_law_2266 rfl (lv_at hl 3 rfl) ?_
      refine lv_iconst (v := 1) X.1 X.2.1 dL_law_2267 (by decide) ?_
      refine lv_iadd X.1 X.2.1 dL_law_2268 ?_
      obtain ⟨h663, hf⟩ := bl_gd_at hf
      refine va_sld X.1 X.2.1 hX hbl hbA V.2 (bl_in_vp h663) dL_law_2269 ?_
      refine lv_aload_n X.1 X.2.1 dL_law_2270 rfl (lv_at hl 0 rfl) ?_
      refine lv_iload_n X.1 X.2.1 dL_law_2271 rfl (lv_at hl 3 rfl) ?_
      refine lv_iconst (v := 2) X.1 X.2.1 dL_law_2272 (by decide) ?_
      refine lv_iadd X.1 X.2.1 dL_law_2273 ?_
      obtain ⟨h664, hf⟩ := bl_gd_at hf
      refine va_sld X.1 X.2.1 hX hbl hbA V.2 (bl_in_vp h664) dL_law_2274 ?_
      obtain ⟨r665, σ666, h667, hf⟩ := bl_bd_at hf
      refine bl_cVi (As := [.int (xs (Int32.toNatClampNeg (v3 + 1))), .int (xs (Int32.toNatClampNeg (v3 + 2)))]) X V hl.1 hv2 rfl ml_L_233 mV_X10_dearest (t_X10_dearest l g σ661 v2 (xs (Int32.toNatClampNeg (v3 + 1))) (xs (Int32.toNatClampNeg (v3 + 2))) _ hv2 h667) rfl rfl ⟨Nat.le_of_ble_eq_true rfl, Nat.le_of_ble_eq_true rfl⟩ rfl rfl (Nat.le_of_ble_eq_true rfl) ⟨Nat.le_of_ble_eq_true rfl, Nat.le_of_ble_eq_true rfl⟩ dL_law_2275 (fun H locs V => ?_)
      refine lv_icmp_eq (tgt := 2362) X.1 X.2.1 dL_law_2278 (by decide) (fun c668 => ?_) (fun c668 => ?_)
      · have hf := bl_ifp c668 hf
        exact w_L_law_2362 ho hX hbl hbA hg X hr k18 hk18 σ666 v1 v2 v3 hv1 hv2 hf _ _ _ V (lv_sub hl [0, 1, 2, 3] rfl)
      · have hf := bl_ifn c668 hf
        refine lv_iconst (v := 0) X.1 X.2.1 dL_law_2281 (by decide) ?_
        cases hf
        exact absurd (show (0 : Int32) = 1 from ho) (by decide)
    have hf := bl_ifn c657 hf
    by_cases c669 : ((xs (Int32.toNatClampNeg v3)) &&& 63) = 51
    · have hf := bl_ifp c669 hf
      refine bl_swI (v := 51) (tgt := 2283) X dL_law_33 (by rw [c669]; decide) (by decide) rfl (by decide) ?_
      refine lv_aload_n X.1 X.2.1 dL_law_2283 rfl (lv_at hl 1 rfl) ?_
      refine lv_aload_n X.1 X.2.1 dL_law_2284 rfl (lv_at hl 0 rfl) ?_
      refine lv_iload_n X.1 X.2.1 dL_law_2285 rfl (lv_at hl 3 rfl) ?_
      refine lv_iconst (v := 1) X.1 X.2.1 dL_law_2286 (by decide) ?_
      refine lv_iadd X.1 X.2.1 dL_law_2287 ?_
      obtain ⟨h670, hf⟩ := bl_gd_at hf
      refine va_sld X.1 X.2.1 hX hbl hbA V.2 (bl_in_vp h670) dL_law_2288 ?_
      obtain ⟨r671, σ672, h673, hf⟩ := bl_bd_at hf
      refine bl_cVi (As := [.int (xs (Int32.toNatClampNeg (v3 + 1)))]) X V hl.1 hv1 rfl ml_L_234 mV_X9_spell (t_X9_spell l g σ v1 (xs (Int32.toNatClampNeg (v3 + 1))) _ hv1 h673) rfl rfl ⟨Nat.le_of_ble_eq_true rfl, Nat.le_of_ble_eq_true rfl⟩ rfl rfl (Nat.le_of_ble_eq_true rfl) ⟨Nat.le_of_ble_eq_true rfl, Nat.le_of_ble_eq_true rfl⟩ dL_law_2289 (fun H locs V => ?_)
      refine lv_aload_n X.1 X.2.1 dL_law_2292 rfl (lv_at hl 2 rfl) ?_
      refine lv_aload_n X.1 X.2.1 dL_law_2293 rfl (lv_at hl 0 rfl) ?_
      refine lv_iload_n X.1 X.2.1 dL_law_2294 rfl (lv_at hl 3 rfl) ?_
      refine lv_iconst (v := 1) X.1 X.2.1 dL_law_2295 (by decide) ?_
      refine lv_iadd X.1 X.2.1 dL_law_2296 ?_
      obtain ⟨h674, hf⟩ := bl_gd_at hf
      refine va_sld X.1 X.2.1 hX hbl hbA V.2 (bl_in_vp h674) dL_law_2297 ?_
      obtain ⟨r675, σ676, h677, hf⟩ := bl_bd_at hf
      refine bl_cVi (As := [.int (xs (Int32.toNatClampNeg (v3 + 1)))]) X V hl.1 hv2 rfl ml_L_237 mV_X10_spell (t_X10_spell l g σ672 v2 (xs (Int32.toNatClampNeg (v3 + 1))) _ hv2 h677) rfl rfl ⟨Nat.le_of_ble_eq_true rfl, Nat.le_of_ble_eq_true rfl⟩ rfl rfl (Nat.le_of_ble_eq_true rfl) ⟨Nat.le_of_ble_eq_true rfl, Nat.le_of_ble_eq_true rfl⟩ dL_law_2298 (fun H locs V => ?_)
      refine lv_icmp_eq (tgt := 2362) X.1 X.2.1 dL_law_2301 (by decide) (fun c678 => ?_) (fun c678 => ?_)
      · have hf := bl_ifp c678 hf
        exact w_L_law_2362 ho hX hbl hbA hg X hr k18 hk18 σ676 v1 v2 v3 hv1 hv2 hf _ _ _ V (lv_sub hl [0, 1, 2, 3] rfl)
      · have hf := bl_ifn c678 hf
        refine lv_iconst (v := 0) X.1 X.2.1 dL_law_2304 (by decide) ?_
        cases hf
        exact absurd (show (0 : Int32) = 1 from ho) (by decide)
    have hf := bl_ifn c669 hf
    by_cases c679 : ((xs (Int32.toNatClampNeg v3)) &&& 63) = 52
    · have hf := bl_ifp c679 hf
      refine bl_swI (v := 52) (tgt := 2306) X dL_law_33 (by rw [c679]; decide) (by decide) rfl (by decide) ?_
      refine lv_aload_n X.1 X.2.1 dL_law_2306 rfl (lv_at hl 1 rfl) ?_
      refine lv_aload_n X.1 X.2.1 dL_law_2307 rfl (lv_at hl 0 rfl) ?_
      refine lv_iload_n X.1 X.2.1 dL_law_2308 rfl (lv_at hl 3 rfl) ?_
      refine lv_iconst (v := 1) X.1 X.2.1 dL_law_2309 (by decide) ?_
      refine lv_iadd X.1 X.2.1 dL_law_2310 ?_
      obtain ⟨h680, hf⟩ := bl_gd_at hf
      refine va_sld X.1 X.2.1 hX hbl hbA V.2 (bl_in_vp h680) dL_law_2311 ?_
      refine lv_aload_n X.1 X.2.1 dL_law_2312 rfl (lv_at hl 0 rfl) ?_
      refine lv_iload_n X.1 X.2.1 dL_law_2313 rfl (lv_at hl 3 rfl) ?_
      refine lv_iconst (v := 2) X.1 X.2.1 dL_law_2314 (by decide) ?_
      refine lv_iadd X.1 X.2.1 dL_law_2315 ?_
      obtain ⟨h681, hf⟩ := bl_gd_at hf
      refine va_sld X.1 X.2.1 hX hbl hbA V.2 (bl_in_vp h681) dL_law_2316 ?_
      obtain ⟨r682, σ683, h684, hf⟩ := bl_bd_at hf
      refine bl_cVi (As := [.int (xs (Int32.toNatClampNeg (v3 + 1))), .int (xs (Int32.toNatClampNeg (v3 + 2)))]) X V hl.1 hv1 rfl ml_L_238 mV_X9_report (t_X9_report l g σ v1 (xs (Int32.toNatClampNeg (v3 + 1))) (xs (Int32.toNatClampNeg (v3 + 2))) _ hv1 h684) rfl rfl ⟨Nat.le_of_ble_eq_true rfl, Nat.le_of_ble_eq_true rfl⟩ rfl rfl (Nat.le_of_ble_eq_true rfl) ⟨Nat.le_of_ble_eq_true rfl, Nat.le_of_ble_eq_true rfl⟩ dL_law_2317 (fun H locs V => ?_)
      refine lv_aload_n X.1 X.2.1 dL_law_2320 rfl (lv_at hl 2 rfl) ?_
      refine lv_aload_n X.1 X.2.1 dL_law_2321 rfl (lv_at hl 0 rfl) ?_
      refine lv_iload_n X.1 X.2.1 dL_law_2322 rfl (lv_at hl 3 rfl) ?_
      refine lv_iconst (v := 1) X.1 X.2.1 dL_law_2323 (by decide) ?_
      refine lv_iadd X.1 X.2.1 dL_law_2324 ?_
      obtain ⟨h685, hf⟩ := bl_gd_at hf
      refine va_sld X.1 X.2.1 hX hbl hbA V.2 (bl_in_vp h685) dL_law_2325 ?_
      refine lv_aload_n X.1 X.2.1 dL_law_2326 rfl (lv_at hl 0 rfl) ?_
      refine lv_iload_n X.1 X.2.1 dL_law_2327 rfl (lv_at hl 3 rfl) ?_
      refine lv_iconst (v := 2) X.1 X.2.1 dL_law_2328 (by decide) ?_
      refine lv_iadd X.1 X.2.1 dL_law_2329 ?_
      obtain ⟨h686, hf⟩ := bl_gd_at hf
      refine va_sld X.1 X.2.1 hX hbl hbA V.2 (bl_in_vp h686) dL_law_2330 ?_
      obtain ⟨r687, σ688, h689, hf⟩ := bl_bd_at hf
      refine bl_cVi (As := [.int (xs (Int32.toNatClampNeg (v3 + 1))), .int (xs (Int32.toNatClampNeg (v3 + 2)))]) X V hl.1 hv2 rfl ml_L_241 mV_X10_report (t_X10_report l g σ683 v2 (xs (Int32.toNatClampNeg (v3 + 1))) (xs (Int32.toNatClampNeg (v3 + 2))) _ hv2 h689) rfl rfl ⟨Nat.le_of_ble_eq_true rfl, Nat.le_of_ble_eq_true rfl⟩ rfl rfl (Nat.le_of_ble_eq_true rfl) ⟨Nat.le_of_ble_eq_true rfl, Nat.le_of_ble_eq_true rfl⟩ dL_law_2331 (fun H locs V => ?_)
      refine lv_icmp_eq (tgt := 2362) X.1 X.2.1 dL_law_2334 (by decide) (fun c690 => ?_) (fun c690 => ?_)
      · have hf := bl_ifp c690 hf
        exact w_L_law_2362 ho hX hbl hbA hg X hr k18 hk18 σ688 v1 v2 v3 hv1 hv2 hf _ _ _ V (lv_sub hl [0, 1, 2, 3] rfl)
      · have hf := bl_ifn c690 hf
        refine lv_iconst (v := 0) X.1 X.2.1 dL_law_2337 (by decide) ?_
        cases hf
        exact absurd (show (0 : Int32) = 1 from ho) (by decide)
    have hf := bl_ifn c679 hf
    by_cases c691 : ((xs (Int32.toNatClampNeg v3)) &&& 63) = 53
    · have hf := bl_ifp c691 hf
      refine bl_swI (v := 53) (tgt := 2339) X dL_law_33 (by rw [c691]; decide) (by decide) rfl (by decide) ?_
      refine lv_aload_n X.1 X.2.1 dL_law_2339 rfl (lv_at hl 1 rfl) ?_
      refine lv_aload_n X.1 X.2.1 dL_law_2340 rfl (lv_at hl 0 rfl) ?_
      refine lv_iload_n X.1 X.2.1 dL_law_2341 rfl (lv_at hl 3 rfl) ?_
      refine lv_iconst (v := 1) X.1 X.2.1 dL_law_2342 (by decide) ?_
      refine lv_iadd X.1 X.2.1 dL_law_2343 ?_
      obtain ⟨h692, hf⟩ := bl_gd_at hf
      refine va_sld X.1 X.2.1 hX hbl hbA V.2 (bl_in_vp h692) dL_law_2344 ?_
      obtain ⟨r693, σ694, h695, hf⟩ := bl_bd_at hf
      refine bl_cVi (As := [.int (xs (Int32.toNatClampNeg (v3 + 1)))]) X V hl.1 hv1 rfl ml_L_242 mV_X9_count (t_X9_count l g σ v1 (xs (Int32.toNatClampNeg (v3 + 1))) _ hv1 h695) rfl rfl ⟨Nat.le_of_ble_eq_true rfl, Nat.le_of_ble_eq_true rfl⟩ rfl rfl (Nat.le_of_ble_eq_true rfl) ⟨Nat.le_of_ble_eq_true rfl, Nat.le_of_ble_eq_true rfl⟩ dL_law_2345 (fun H locs V => ?_)
      refine lv_aload_n X.1 X.2.1 dL_law_2348 rfl (lv_at hl 2 rfl) ?_
      refine lv_aload_n X.1 X.2.1 dL_law_2349 rfl (lv_at hl 0 rfl) ?_
      refine lv_iload_n X.1 X.2.1 dL_law_2350 rfl (lv_at hl 3 rfl) ?_
      refine lv_iconst (v := 1) X.1 X.2.1 dL_law_2351 (by decide) ?_
      refine lv_iadd X.1 X.2.1 dL_law_2352 ?_
      obtain ⟨h696, hf⟩ := bl_gd_at hf
      refine va_sld X.1 X.2.1 hX hbl hbA V.2 (bl_in_vp h696) dL_law_2353 ?_
      obtain ⟨r697, σ698, h699, hf⟩ := bl_bd_at hf
      refine bl_cVi (As := [.int (xs (Int32.toNatClampNeg (v3 + 1)))]) X V hl.1 hv2 rfl ml_L_245 mV_X10_count (t_X10_count l g σ694 v2 (xs (Int32.toNatClampNeg (v3 + 1))) _ hv2 h699) rfl rfl ⟨Nat.le_of_ble_eq_true rfl, Nat.le_of_ble_eq_true rfl⟩ rfl rfl (Nat.le_of_ble_eq_true rfl) ⟨Nat.le_of_ble_eq_true rfl, Nat.le_of_ble_eq_true rfl⟩ dL_law_2354 (fun H locs V => ?_)
      refine lv_icmp_eq (tgt := 2362) X.1 X.2.1 dL_law_2357 (by decide) (fun c700 => ?_) (fun c700 => ?_)
      · have hf := bl_ifp c700 hf
        exact w_L_law_2362 ho hX hbl hbA hg X hr k18 hk18 σ698 v1 v2 v3 hv1 hv2 hf _ _ _ V (lv_sub hl [0, 1, 2, 3] rfl)
      · have hf := bl_ifn c700 hf
        refine lv_iconst (v := 0) X.1 X.2.1 dL_law_2360 (by decide) ?_
        cases hf
        exact absurd (show (0 : Int32) = 1 from ho) (by decide)
    have hf := bl_ifn c691 hf
    have c87 := lv_neT (a := 0) c87 (by decide)
    have c105 := lv_neT (a := 1) c105 (by decide)
    have c115 := lv_neT (a := 2) c115 (by decide)
    have c123 := lv_neT (a := 3) c123 (by decide)
    have c137 := lv_neT (a := 4) c137 (by decide)
    have c151 := lv_neT (a := 5) c151 (by decide)
    have c163 := lv_neT (a := 6) c163 (by decide)
    have c166 := lv_neT (a := 7) c166 (by decide)
    have c174 := lv_neT (a := 8) c174 (by decide)
    have c178 := lv_neT (a := 9) c178 (by decide)
    have c194 := lv_neT (a := 10) c194 (by decide)
    have c206 := lv_neT (a := 11) c206 (by decide)
    have c216 := lv_neT (a := 12) c216 (by decide)
    have c226 := lv_neT (a := 13) c226 (by decide)
    have c234 := lv_neT (a := 14) c234 (by decide)
    have c242 := lv_neT (a := 15) c242 (by decide)
    have c254 := lv_neT (a := 16) c254 (by decide)
    have c266 := lv_neT (a := 17) c266 (by decide)
    have c276 := lv_neT (a := 18) c276 (by decide)
    have c288 := lv_neT (a := 19) c288 (by decide)
    have c300 := lv_neT (a := 20) c300 (by decide)
    have c303 := lv_neT (a := 21) c303 (by decide)
    have c315 := lv_neT (a := 22) c315 (by decide)
    have c327 := lv_neT (a := 23) c327 (by decide)
    have c334 := lv_neT (a := 24) c334 (by decide)
    have c341 := lv_neT (a := 25) c341 (by decide)
    have c348 := lv_neT (a := 26) c348 (by decide)
    have c355 := lv_neT (a := 27) c355 (by decide)
    have c367 := lv_neT (a := 28) c367 (by decide)
    have c379 := lv_neT (a := 29) c379 (by decide)
    have c391 := lv_neT (a := 30) c391 (by decide)
    have c407 := lv_neT (a := 31) c407 (by decide)
    have c419 := lv_neT (a := 32) c419 (by decide)
    have c433 := lv_neT (a := 33) c433 (by decide)
    have c443 := lv_neT (a := 34) c443 (by decide)
    have c453 := lv_neT (a := 35) c453 (by decide)
    have c465 := lv_neT (a := 36) c465 (by decide)
    have c475 := lv_neT (a := 37) c475 (by decide)
    have c487 := lv_neT (a := 38) c487 (by decide)
    have c501 := lv_neT (a := 39) c501 (by decide)
    have c515 := lv_neT (a := 40) c515 (by decide)
    have c531 := lv_neT (a := 41) c531 (by decide)
    have c545 := lv_neT (a := 42) c545 (by decide)
    have c557 := lv_neT (a := 43) c557 (by decide)
    have c567 := lv_neT (a := 44) c567 (by decide)
    have c583 := lv_neT (a := 45) c583 (by decide)
    have c597 := lv_neT (a := 46) c597 (by decide)
    have c613 := lv_neT (a := 47) c613 (by decide)
    have c627 := lv_neT (a := 48) c627 (by decide)
    have c645 := lv_neT (a := 49) c645 (by decide)
    have c657 := lv_neT (a := 50) c657 (by decide)
    have c669 := lv_neT (a := 51) c669 (by decide)
    have c679 := lv_neT (a := 52) c679 (by decide)
    have c691 := lv_neT (a := 53) c691 (by decide)
    refine bl_swO (tgt := 2362) X dL_law_33 (by omega) (by decide) ?_
    exact w_L_law_2362 ho hX hbl hbA hg X hr k18 hk18 σ v1 v2 v3 hv1 hv2 hf _ _ _ V (lv_sub hl [0, 1, 2, 3] rfl)
theorem l_L_law_18 {p : Program} {l : Launch} {e : Env} {s : State} {m : MethodId} {below : List Frame} {meth : Method} {c : Code} {g : bl_Gp} {b L : Nat} {xs : Nat → Int32} {out : Int32 × bl_St} (ho : out.1 = 1) (hX : va_X b L xs s s.heap) (hbl : b < s.heap.size) (hbA : ¬ bl_A g b) (hg : bl_b g = s.heap.size) (X : bl_Cx g p s m #[Value.ref b] meth c code 4 RL) (hr : meth.sig.returnType = ret) (n : Nat) : ∀ (σ : bl_St) (v1 : Nat) (v2 : Nat) (v3 : Int32), bl_sh[v1]? = some (9, 13) → bl_sh[v2]? = some (10, 28) → (bl_fx (fun _ _ _ _ => none) (b_L_law_18 xs L) n) σ v1 v2 v3 = some out → ∀ (H : Heap) (locs : List Loc) (ls : Array Slot), bl_V g s σ H locs → lv_has ls 4 [(0, .ref b), (1, .ref (bl_ad g v1)), (2, .ref (bl_ad g v2)), (3, .int v3)] → W p l e room_1 s m #[Value.ref b] below meth c H locs 154 9053 (lw_Z below #[Value.ref b] s) (F0 m 18 ls []) := by
  induction n with
  | zero =>
    intro σ v1 v2 v3 hv1 hv2 hf H locs ls V hl
    cases hf
  | succ n ih => exact w_L_law_18 ho hX hbl hbA hg X hr _ ih
