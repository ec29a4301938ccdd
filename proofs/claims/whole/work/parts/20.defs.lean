def f_J9_floorMod_7cf53 (σ : bl_St) (a0 : Int32) (a1 : Int32) : Option (Int32 × bl_St) :=
  bl_gd (!(decide (a1 = 0))) (
  bl_let (a0 - a0 / a1 * a1) fun x2 =>
  if 0 ≤ (a0 ^^^ a1) then (
  some (x2, σ)) else (
  if x2 = 0 then (
  some (x2, σ)) else (
  some ((x2 + a1), σ))))
def f_X0_next (σ : bl_St) (a0 : Nat) (a1 : Int32) : Option (Int32 × bl_St) :=
  bl_let (bl_pI σ a0 0 (((bl_I σ a0 0) * 1103515245) + 12345)) fun σ1 =>
  if a1 ≤ 0 then (
  some (0, σ1)) else (
  bl_gd (!(decide (a1 = 0))) (
  some ((((Int32.toUInt32 (bl_I σ1 a0 0)) >>> ((Int32.toUInt32 8) &&& Int32.toUInt32 31)).toInt32 - ((Int32.toUInt32 (bl_I σ1 a0 0)) >>> ((Int32.toUInt32 8) &&& Int32.toUInt32 31)).toInt32 / a1 * a1), σ1)))
def f_X8_sortPart (σ : bl_St) (a0 : Nat) (a1 : Int32) (a2 : Int32) : Option (Int32 × bl_St) :=
  bl_gd (bl_in ((a1 * 2) + a2) 10) (
  some ((bl_I σ (bl_R σ a0 3) (Int32.toNatClampNeg ((a1 * 2) + a2))), σ))
def b_X8_allWeights_4 (k4 : bl_St → Nat → Int32 → Int32 → Option (Int32 × bl_St)) (σ : bl_St) (v0 : Nat) (v1 : Int32) (v2 : Int32) : Option (Int32 × bl_St) :=
  if (bl_I σ v0 1) ≤ v2 then (
  some (v1, σ)) else (
  bl_bd (f_X8_sortPart σ v0 v2 1) fun r2 σ3 =>
  bl_let (v1 + r2) fun x5 =>
  bl_let (v2 + 1) fun x7 =>
  k4 σ3 v0 x5 x7)
def f_X8_allWeights (σ : bl_St) (a0 : Nat) : Option (Int32 × bl_St) :=
  bl_fx (fun _ _ _ _ => none) (b_X8_allWeights_4 ) bl_fu σ a0 0 0
def b_X0_nextSort_19 (k19 : bl_St → Nat → Int32 → Int32 → Int32 → Option (Int32 × bl_St)) (σ : bl_St) (v1 : Nat) (v2 : Int32) (v3 : Int32) (v4 : Int32) : Option (Int32 × bl_St) :=
  if v3 ≤ v4 then (
  some (v3, σ)) else (
  bl_bd (f_X8_sortPart σ v1 v4 1) fun r2 σ3 =>
  bl_let (v2 - r2) fun x5 =>
  if 0 ≤ x5 then (
  bl_let (v4 + 1) fun x8 =>
  k19 σ3 v1 x5 v3 x8) else (
  some (v4, σ3)))
def f_X0_nextSort (σ : bl_St) (a0 : Nat) (a1 : Nat) : Option (Int32 × bl_St) :=
  bl_bd (f_X8_allWeights σ a1) fun r10 σ11 =>
  bl_bd (f_X0_next σ11 a0 r10) fun r13 σ14 =>
  bl_let ((bl_I σ14 a1 1) - 1) fun x16 =>
  bl_fx (fun _ _ _ _ _ => none) (b_X0_nextSort_19 ) bl_fu σ14 a1 r13 x16 0
def f_X1_index (σ : bl_St) (a0 : Int32) (a1 : Int32) (a2 : Int32) : Option (Int32 × bl_St) :=
  some (((((a0 * 3) + a1) * 3) + a2), σ)
def f_X1_toldCost (σ : bl_St) (a0 : Nat) (a1 : Int32) (a2 : Int32) (a3 : Int32) : Option (Int64 × bl_St) :=
  bl_bd (f_X1_index σ (a1 + 1) (if (a2 + 1) < 2 then (a2 + 1) else 2) a3) fun r2 σ3 =>
  bl_gd (bl_in r2 63) (
  bl_let (bl_J σ3 (bl_R σ a0 2) (Int32.toNatClampNeg r2)) fun x6 =>
  bl_bd (f_X1_index σ3 (a1 + 1) a2 (if (a3 + 1) < 2 then (a3 + 1) else 2)) fun r9 σ10 =>
  bl_gd (bl_in r9 63) (
  bl_let (bl_J σ10 (bl_R σ3 a0 2) (Int32.toNatClampNeg r9)) fun x13 =>
  some ((if x13 < x6 then x13 else x6), σ10)))
def f_X3_lossCost (σ : bl_St) (a0 : Nat) (a1 : Int32) (a2 : Int64) (a4 : Int64) : Option (Int64 × bl_St) :=
  bl_gd (bl_in a1 5) (
  bl_let ((bl_J σ (bl_R σ a0 5) (Int32.toNatClampNeg a1)) + a4) fun x3 =>
  bl_gd (bl_in a1 5) (
  bl_let ((bl_J σ (bl_R σ a0 4) (Int32.toNatClampNeg a1)) + a2) fun x7 =>
  bl_gd (bl_in a1 5) (
  if (bl_I σ (bl_R σ a0 7) (Int32.toNatClampNeg a1)) = 0 then (
  if x7 ≤ x3 then (
  some (x7, σ)) else (
  some (x3, σ))) else (
  bl_gd (bl_in a1 5) (
  if (bl_I σ (bl_R σ a0 7) (Int32.toNatClampNeg a1)) = 1 then (
  some (x3, σ)) else (
  some (x7, σ)))))))
def b_X3_chanceCost_24 (k24 : bl_St → Nat → Int64 → Int64 → Int64 → Int64 → Int32 → Option (Int64 × bl_St)) (σ : bl_St) (v0 : Nat) (v1 : Int64) (v3 : Int64) (v5 : Int64) (v7 : Int64) (v9 : Int32) : Option (Int64 × bl_St) :=
  if (bl_I σ v0 0) ≤ v9 then (
  bl_let (12 * (bl_J σ v0 2)) fun x2 =>
  if (bl_J σ v0 1) = 0 then (
  some (v1, σ)) else (
  if 0 < x2 then (
  if (bl_I σ v0 3) = 0 then (
  bl_gd (!(decide (x2 = 0))) (
  some ((((((12 - (bl_J σ v0 1)) * (bl_J σ v0 2)) * v1) + ((bl_J σ v0 1) * v5)) / x2), σ))) else (
  some (v7, σ))) else (
  some (v1, σ)))) else (
  bl_bd (f_X3_lossCost σ v0 v9 v1 v3) fun r8 σ9 =>
  bl_gd (bl_in v9 5) (
  bl_let (v5 + ((bl_J σ9 (bl_R σ9 v0 6) (Int32.toNatClampNeg v9)) * r8)) fun x13 =>
  bl_let (if r8 < v7 then v7 else r8) fun x15 =>
  bl_let (v9 + 1) fun x17 =>
  k24 σ9 v0 v1 v3 x13 x15 x17))
def b_X3_chanceCost_19 (σ : bl_St) (v0 : Nat) (v1 : Int64) (v3 : Int64) (v5 : Int64) (s0 : Int64) : Option (Int64 × bl_St) :=
  bl_fx (fun _ _ _ _ _ _ _ => none) (b_X3_chanceCost_24 ) bl_fu σ v0 v1 v3 v5 s0 0
def f_X3_chanceCost (σ : bl_St) (a0 : Nat) (a1 : Int64) (a3 : Int64) : Option (Int64 × bl_St) :=
  if 12 ≤ (bl_J σ a0 1) then (
  b_X3_chanceCost_19  σ a0 a1 a3 0 0) else (
  b_X3_chanceCost_19  σ a0 a1 a3 0 a1)
def f_X8_chances (σ : bl_St) (a0 : Nat) : Option (Int32 × bl_St) :=
  some ((bl_I σ (bl_R σ a0 4) 0), σ)
def f_X8_next (σ : bl_St) (a0 : Nat) (a1 : Int32) (a2 : Int32) : Option (Int32 × bl_St) :=
  bl_gd (bl_in (((a1 * 5) + 1) + (if a2 < 2 then a2 else 2)) 40) (
  some ((bl_I σ (bl_R σ a0 2) (Int32.toNatClampNeg (((a1 * 5) + 1) + (if a2 < 2 then a2 else 2)))), σ))
def b_X1_costBehindPremiums_103 (k89 : bl_St → Nat → Int32 → Int32 → Option (Int64 × bl_St)) (k103 : bl_St → Nat → Int32 → Int32 → Int32 → Option (Int64 × bl_St)) (σ : bl_St) (v0 : Nat) (v5 : Int32) (v6 : Int32) (v7 : Int32) : Option (Int64 × bl_St) :=
  if (if (v5 - v6) < 2 then (v5 - v6) else 2) < v7 then (
  bl_let (v6 + 1) fun x2 =>
  k89 σ v0 v5 x2) else (
  bl_bd (f_X1_index σ v5 v6 v7) fun r5 σ6 =>
  bl_bd (f_X1_index σ6 (v5 + 1) v6 v7) fun r10 σ11 =>
  bl_gd (bl_in r10 63) (
  bl_bd (f_X1_toldCost σ11 v0 v5 v6 v7) fun r14 σ15 =>
  bl_bd (f_X3_chanceCost σ15 (bl_R σ6 v0 3) (bl_J σ11 (bl_R σ6 v0 2) (Int32.toNatClampNeg r10)) r14) fun r17 σ18 =>
  bl_gd (bl_in r5 63) (
  bl_let (bl_pJ σ18 (bl_R σ v0 2) (Int32.toNatClampNeg r5) r17) fun σ21 =>
  bl_let (v7 + 1) fun x23 =>
  k103 σ21 v0 v5 v6 x23)))
def b_X1_costBehindPremiums_89 (k81 : bl_St → Nat → Int32 → Option (Int64 × bl_St)) (k89 : bl_St → Nat → Int32 → Int32 → Option (Int64 × bl_St)) (σ : bl_St) (v0 : Nat) (v5 : Int32) (v6 : Int32) : Option (Int64 × bl_St) :=
  if (if v5 < 2 then v5 else 2) < v6 then (
  bl_let (v5 + (-1)) fun x26 =>
  k81 σ v0 x26) else (
  bl_fx (fun _ _ _ _ _ => none) (b_X1_costBehindPremiums_103 k89) bl_fu σ v0 v5 v6 0)
def b_X1_costBehindPremiums_81 (k81 : bl_St → Nat → Int32 → Option (Int64 × bl_St)) (σ : bl_St) (v0 : Nat) (v5 : Int32) : Option (Int64 × bl_St) :=
  if v5 < 0 then (
  bl_bd (f_X1_index σ 0 0 0) fun r30 σ31 =>
  bl_gd (bl_in r30 63) (
  some ((bl_J σ31 (bl_R σ v0 2) (Int32.toNatClampNeg r30)), σ31))) else (
  bl_fx (fun _ _ _ _ => none) (b_X1_costBehindPremiums_89 k81) bl_fu σ v0 v5 0)
def b_X1_costBehindPremiums_20 (k11 : bl_St → Nat → Nat → Int32 → Int32 → Int32 → Int32 → Option (Int64 × bl_St)) (k20 : bl_St → Nat → Nat → Int32 → Int32 → Int32 → Int32 → Int32 → Option (Int64 × bl_St)) (σ : bl_St) (v0 : Nat) (v1 : Nat) (v2 : Int32) (v3 : Int32) (v4 : Int32) (v5 : Int32) (v6 : Int32) : Option (Int64 × bl_St) :=
  if 3 ≤ v6 then (
  bl_let (v5 + 1) fun x35 =>
  k11 σ v0 v1 v2 v3 v4 x35) else (
  bl_bd (f_X1_index σ v4 v5 v6) fun r38 σ39 =>
  bl_bd (f_X8_next σ39 v1 v2 v5) fun r42 σ43 =>
  bl_bd (f_X8_next σ43 v1 v3 v6) fun r45 σ46 =>
  bl_gd (bl_in ((r42 * 8) + r45) 64) (
  bl_gd (bl_in r38 63) (
  bl_let (bl_pJ σ46 (bl_R σ v0 2) (Int32.toNatClampNeg r38) (bl_J σ46 (bl_R σ39 v0 1) (Int32.toNatClampNeg ((r42 * 8) + r45)))) fun σ50 =>
  bl_let (v6 + 1) fun x52 =>
  k20 σ50 v0 v1 v2 v3 v4 v5 x52)))
def b_X1_costBehindPremiums_11 (k11 : bl_St → Nat → Nat → Int32 → Int32 → Int32 → Int32 → Option (Int64 × bl_St)) (σ : bl_St) (v0 : Nat) (v1 : Nat) (v2 : Int32) (v3 : Int32) (v4 : Int32) (v5 : Int32) : Option (Int64 × bl_St) :=
  if 3 ≤ v5 then (
  bl_let (v4 - 1) fun x55 =>
  bl_fx (fun _ _ _ => none) (b_X1_costBehindPremiums_81 ) bl_fu σ v0 x55) else (
  bl_fx (fun _ _ _ _ _ _ _ _ => none) (b_X1_costBehindPremiums_20 k11) bl_fu σ v0 v1 v2 v3 v4 v5 0)
def f_X1_costBehindPremiums (σ : bl_St) (a0 : Nat) (a1 : Nat) (a2 : Int32) (a3 : Int32) : Option (Int64 × bl_St) :=
  bl_bd (f_X8_chances σ a1) fun r57 σ58 =>
  bl_let (2 * r57) fun x60 =>
  bl_fx (fun _ _ _ _ _ _ _ => none) (b_X1_costBehindPremiums_11 ) bl_fu σ58 a0 a1 a2 a3 x60 0
def f_X8_part (σ : bl_St) (a0 : Nat) (a1 : Int32) (a2 : Int32) : Option (Int32 × bl_St) :=
  bl_gd (bl_in ((a1 * 5) + a2) 40) (
  some ((bl_I σ (bl_R σ a0 2) (Int32.toNatClampNeg ((a1 * 5) + a2))), σ))
def b_X1_fillPairs_12 (k2 : bl_St → Nat → Nat → Int32 → Option (Unit × bl_St)) (k12 : bl_St → Nat → Nat → Int32 → Int32 → Option (Unit × bl_St)) (σ : bl_St) (v0 : Nat) (v1 : Nat) (v2 : Int32) (v3 : Int32) : Option (Unit × bl_St) :=
  if (bl_I σ v1 0) ≤ v3 then (
  bl_let (v2 + 1) fun x2 =>
  k2 σ v0 v1 x2) else (
  bl_bd (f_X8_part σ v1 v2 0) fun r4 σ5 =>
  bl_bd (f_X8_part σ5 v1 v3 0) fun r7 σ8 =>
  bl_let (r4 + r7) fun x10 =>
  bl_bd (f_X1_costBehindPremiums σ8 v0 v1 v2 v3) fun r12 σ13 =>
  bl_let ((1000 * (Int32.toInt64 x10)) + r12) fun x15 =>
  bl_gd (bl_in ((v2 * 8) + v3) 64) (
  bl_let (bl_pJ σ13 (bl_R σ13 v0 0) (Int32.toNatClampNeg ((v2 * 8) + v3)) x15) fun σ19 =>
  bl_gd (bl_in ((v3 * 8) + v2) 64) (
  bl_let (bl_pJ σ19 (bl_R σ19 v0 0) (Int32.toNatClampNeg ((v3 * 8) + v2)) x15) fun σ23 =>
  bl_let (v3 + 1) fun x25 =>
  k12 σ23 v0 v1 v2 x25)))
def b_X1_fillPairs_2 (k2 : bl_St → Nat → Nat → Int32 → Option (Unit × bl_St)) (σ : bl_St) (v0 : Nat) (v1 : Nat) (v2 : Int32) : Option (Unit × bl_St) :=
  if (bl_I σ v1 0) ≤ v2 then (
  some ((), σ)) else (
  bl_fx (fun _ _ _ _ _ => none) (b_X1_fillPairs_12 k2) bl_fu σ v0 v1 v2 v2)
def f_X1_fillPairs (σ : bl_St) (a0 : Nat) (a1 : Nat) : Option (Unit × bl_St) :=
  bl_fx (fun _ _ _ _ => none) (b_X1_fillPairs_2 ) bl_fu σ a0 a1 0
def f_X8_odds (σ : bl_St) (a0 : Nat) : Option (Int32 × bl_St) :=
  some ((bl_I σ (bl_R σ a0 4) 1), σ)
def f_X8_own (σ : bl_St) (a0 : Nat) : Option (Int32 × bl_St) :=
  some ((bl_I σ (bl_R σ a0 4) 2), σ)
def f_X8_ownOf (σ : bl_St) (a0 : Nat) (a1 : Int32) : Option (Int32 × bl_St) :=
  bl_bd (f_X8_own σ a0) fun r1 σ2 =>
  bl_bd (f_X8_sortPart σ2 a0 a1 0) fun r4 σ5 =>
  some ((if r4 < r1 then r4 else r1), σ5)
def b_X3_take_131 (k35 : bl_St → Nat → Nat → Int32 → Int32 → Int32 → Option (Unit × bl_St)) (σ : bl_St) (v0 : Nat) (v1 : Nat) (v2 : Int32) (v3 : Int32) (v5 : Int32) : Option (Unit × bl_St) :=
  bl_let (v5 + 1) fun x1 =>
  k35 σ v0 v1 v2 v3 x1
def b_X3_take_130 (k35 : bl_St → Nat → Nat → Int32 → Int32 → Int32 → Option (Unit × bl_St)) (σ : bl_St) (v0 : Nat) (v1 : Nat) (v2 : Int32) (v3 : Int32) (v5 : Int32) (s0 : Int32) (s1 : Int32) (s2 : Nat) : Option (Unit × bl_St) :=
  bl_gd (bl_in s1 5) (
  bl_let (bl_pI σ s2 (Int32.toNatClampNeg s1) s0) fun σ4 =>
  b_X3_take_131 k35 σ4 v0 v1 v2 v3 v5)
def b_X3_take_35 (k35 : bl_St → Nat → Nat → Int32 → Int32 → Int32 → Option (Unit × bl_St)) (σ : bl_St) (v0 : Nat) (v1 : Nat) (v2 : Int32) (v3 : Int32) (v5 : Int32) : Option (Unit × bl_St) :=
  if (bl_I σ v0 0) ≤ v5 then (
  some ((), σ)) else (
  bl_bd (f_X8_sortPart σ v1 v5 0) fun r7 σ8 =>
  bl_gd (bl_in v5 5) (
  bl_let (bl_pJ σ8 (bl_R σ8 v0 4) (Int32.toNatClampNeg v5) (1000 * (Int32.toInt64 r7))) fun σ12 =>
  bl_bd (f_X8_ownOf σ12 v1 v5) fun r15 σ16 =>
  bl_gd (bl_in v5 5) (
  bl_let (bl_pJ σ16 (bl_R σ12 v0 5) (Int32.toNatClampNeg v5) (1000 * (Int32.toInt64 r15))) fun σ19 =>
  bl_bd (f_X8_sortPart σ19 v1 v5 1) fun r22 σ23 =>
  bl_gd (bl_in v5 5) (
  bl_let (bl_pJ σ23 (bl_R σ19 v0 6) (Int32.toNatClampNeg v5) (Int32.toInt64 r22)) fun σ26 =>
  bl_gd (bl_in v5 5) (
  bl_let (bl_pI σ26 (bl_R σ26 v0 7) (Int32.toNatClampNeg v5) v2) fun σ30 =>
  if v2 = 3 then (
  if r7 ≤ v3 then (
  b_X3_take_130 k35 σ30 v0 v1 v2 v3 v5 2 v5 (bl_R σ30 v0 7)) else (
  b_X3_take_130 k35 σ30 v0 v1 v2 v3 v5 1 v5 (bl_R σ30 v0 7))) else (
  b_X3_take_131 k35 σ30 v0 v1 v2 v3 v5))))))
def f_X3_take (σ : bl_St) (a0 : Nat) (a1 : Nat) (a2 : Int32) (a3 : Int32) (a4 : Int32) : Option (Unit × bl_St) :=
  bl_let (bl_pI σ a0 0 (bl_I σ a1 1)) fun σ35 =>
  bl_bd (f_X8_odds σ35 a1) fun r37 σ38 =>
  bl_let (bl_pJ σ38 a0 1 (Int32.toInt64 r37)) fun σ40 =>
  bl_bd (f_X8_allWeights σ40 a1) fun r42 σ43 =>
  bl_let (bl_pJ σ43 a0 2 (Int32.toInt64 r42)) fun σ45 =>
  bl_gd (bl_bo a4) (
  bl_let (bl_pI σ45 a0 3 a4) fun σ48 =>
  bl_fx (fun _ _ _ _ _ _ => none) (b_X3_take_35 ) bl_fu σ48 a0 a1 a2 a3 0)
def b_X1_costOf_38 (k38 : bl_St → Nat → Nat → Int32 → Int32 → Int32 → Int32 → Option (Int64 × bl_St)) (σ : bl_St) (v0 : Nat) (v1 : Nat) (v2 : Int32) (v3 : Int32) (v4 : Int32) (v5 : Int32) : Option (Int64 × bl_St) :=
  if v2 < v5 then (
  bl_gd (bl_in ((v3 * 8) + v4) 64) (
  some ((bl_J σ (bl_R σ v0 0) (Int32.toNatClampNeg ((v3 * 8) + v4))), σ))) else (
  bl_let (bl_pR σ v0 0 (bl_R σ v0 1)) fun σ6 =>
  bl_let (bl_pR σ6 v0 1 (bl_R σ v0 0)) fun σ8 =>
  bl_bd (f_X1_fillPairs σ8 v0 v1) fun _ σ11 =>
  bl_let (v5 + 1) fun x13 =>
  k38 σ11 v0 v1 v2 v3 v4 x13)
def b_X1_costOf_14 (k14 : bl_St → Nat → Nat → Int32 → Int32 → Int32 → Int32 → Option (Int64 × bl_St)) (σ : bl_St) (v0 : Nat) (v1 : Nat) (v2 : Int32) (v3 : Int32) (v4 : Int32) (v5 : Int32) : Option (Int64 × bl_St) :=
  if 64 ≤ v5 then (
  bl_fx (fun _ _ _ _ _ _ _ => none) (b_X1_costOf_38 ) bl_fu σ v0 v1 v2 v3 v4 1) else (
  bl_gd (bl_in v5 64) (
  bl_let (bl_pJ σ (bl_R σ v0 0) (Int32.toNatClampNeg v5) 0) fun σ18 =>
  bl_let (v5 + 1) fun x20 =>
  k14 σ18 v0 v1 v2 v3 v4 x20))
def f_X1_costOf (σ : bl_St) (a0 : Nat) (a1 : Nat) (a2 : Int32) (a3 : Int32) (a4 : Int32) : Option (Int64 × bl_St) :=
  bl_bd (f_X3_take σ (bl_R σ a0 3) a1 0 0 0) fun _ σ24 =>
  bl_fx (fun _ _ _ _ _ _ _ => none) (b_X1_costOf_14 ) bl_fu σ24 a0 a1 a2 a3 a4 0
def f_X2_leaveYear (σ : bl_St) (a0 : Nat) : Option (Unit × bl_St) :=
  bl_let (bl_pI σ a0 1 0) fun σ1 =>
  bl_let (bl_pI σ1 a0 2 0) fun σ3 =>
  bl_let (bl_pI σ3 a0 3 0) fun σ5 =>
  bl_let (bl_pI σ5 a0 4 0) fun σ7 =>
  bl_let (bl_pI σ7 a0 5 0) fun σ9 =>
  some ((), σ9)
def f_X2_clear (σ : bl_St) (a0 : Nat) : Option (Unit × bl_St) :=
  bl_let (bl_pI σ a0 0 0) fun σ1 =>
  bl_let (bl_pI σ1 a0 6 0) fun σ3 =>
  bl_let (bl_pI σ3 a0 7 0) fun σ5 =>
  bl_let (bl_pI σ5 a0 8 0) fun σ7 =>
  bl_let (bl_pI σ7 a0 9 0) fun σ9 =>
  bl_let (bl_pI σ9 a0 10 0) fun σ11 =>
  bl_let (bl_pI σ11 a0 11 0) fun σ13 =>
  bl_let (bl_pI σ13 a0 12 0) fun σ15 =>
  bl_bd (f_X2_leaveYear σ15 a0) fun _ σ18 =>
  some ((), σ18)
def f_X2_copy (σ : bl_St) (a0 : Nat) (a1 : Nat) : Option (Unit × bl_St) :=
  bl_let (bl_pI σ a0 0 (bl_I σ a1 0)) fun σ1 =>
  bl_gd (bl_bo (bl_I σ1 a1 1)) (
  bl_let (bl_pI σ1 a0 1 (bl_I σ1 a1 1)) fun σ4 =>
  bl_let (bl_pI σ4 a0 2 (bl_I σ4 a1 2)) fun σ6 =>
  bl_let (bl_pI σ6 a0 3 (bl_I σ6 a1 3)) fun σ8 =>
  bl_gd (bl_bo (bl_I σ8 a1 4)) (
  bl_let (bl_pI σ8 a0 4 (bl_I σ8 a1 4)) fun σ11 =>
  bl_let (bl_pI σ11 a0 5 (bl_I σ11 a1 5)) fun σ13 =>
  bl_let (bl_pI σ13 a0 6 (bl_I σ13 a1 6)) fun σ15 =>
  bl_let (bl_pI σ15 a0 7 (bl_I σ15 a1 7)) fun σ17 =>
  bl_let (bl_pI σ17 a0 8 (bl_I σ17 a1 8)) fun σ19 =>
  bl_let (bl_pI σ19 a0 9 (bl_I σ19 a1 9)) fun σ21 =>
  bl_let (bl_pI σ21 a0 10 (bl_I σ21 a1 10)) fun σ23 =>
  bl_let (bl_pI σ23 a0 11 (bl_I σ23 a1 11)) fun σ25 =>
  bl_let (bl_pI σ25 a0 12 (bl_I σ25 a1 12)) fun σ27 =>
  bl_let (bl_cI σ27 (bl_R σ27 a1 13) (Int32.toNatClampNeg 0) (bl_R σ27 a0 13) (Int32.toNatClampNeg 0) (Int32.toNatClampNeg 48)) fun σ31 =>
  bl_let (bl_cI σ31 (bl_R σ31 a1 14) (Int32.toNatClampNeg 0) (bl_R σ31 a0 14) (Int32.toNatClampNeg 0) (Int32.toNatClampNeg 48)) fun σ35 =>
  some ((), σ35)))
def f_X2_allPaid (σ : bl_St) (a0 : Nat) : Option (Int32 × bl_St) :=
  some (((((bl_I σ a0 7) + (bl_I σ a0 8)) + (bl_I σ a0 9)) + (bl_I σ a0 10)), σ)
def b_X2_startYear_27 (σ : bl_St) (v0 : Nat) (v2 : Int32) (v3 : Int32) (s0 : Int32) : Option (Int32 × bl_St) :=
  bl_let (bl_pI σ v0 7 ((bl_I σ v0 7) + v3)) fun σ1 =>
  bl_let (bl_pI σ1 v0 8 ((bl_I σ1 v0 8) + s0)) fun σ3 =>
  bl_let (bl_pI σ3 v0 1 1) fun σ5 =>
  bl_gd (bl_bo v2) (
  bl_let (bl_pI σ5 v0 4 v2) fun σ8 =>
  bl_let (bl_pI σ8 v0 5 (v3 + s0)) fun σ10 =>
  some ((bl_I σ10 v0 5), σ10))
def f_X2_startYear (σ : bl_St) (a0 : Nat) (a1 : Nat) (a2 : Int32) : Option (Int32 × bl_St) :=
  bl_bd (f_X8_part σ a1 (bl_I σ a0 0) 0) fun r12 σ13 =>
  if a2 = 0 then (
  b_X2_startYear_27  σ13 a0 a2 r12 0) else (
  bl_bd (f_X8_part σ13 a1 (bl_I σ13 a0 0) 4) fun r16 σ17 =>
  b_X2_startYear_27  σ17 a0 a2 r12 r16)
def f_X2_putEntry (σ : bl_St) (a0 : Nat) (a1 : Int32) (a2 : Int32) (a3 : Int32) (a4 : Int32) : Option (Unit × bl_St) :=
  bl_bd (f_J9_floorMod_7cf53 σ a1 16) fun r1 σ2 =>
  bl_let (r1 * 3) fun x4 =>
  bl_gd (bl_in x4 48) (
  bl_let (bl_pI σ2 a0 (Int32.toNatClampNeg x4) a2) fun σ7 =>
  bl_gd (bl_in (x4 + 1) 48) (
  bl_let (bl_pI σ7 a0 (Int32.toNatClampNeg (x4 + 1)) a3) fun σ10 =>
  bl_gd (bl_in (x4 + 2) 48) (
  bl_let (bl_pI σ10 a0 (Int32.toNatClampNeg (x4 + 2)) a4) fun σ13 =>
  some ((), σ13))))
def f_X2_endYear (σ : bl_St) (a0 : Nat) (a1 : Nat) : Option (Unit × bl_St) :=
  bl_bd (f_X2_putEntry σ (bl_R σ a0 14) (bl_I σ a0 6) (bl_I σ a0 0) (bl_I σ a0 5) (bl_I σ a0 3)) fun _ σ3 =>
  bl_let (bl_pI σ3 a0 6 ((bl_I σ3 a0 6) + 1)) fun σ5 =>
  bl_bd (f_X8_next σ5 a1 (bl_I σ5 a0 0) (bl_I σ5 a0 3)) fun r7 σ8 =>
  bl_let (bl_pI σ8 a0 0 r7) fun σ10 =>
  bl_bd (f_X2_leaveYear σ10 a0) fun _ σ13 =>
  some ((), σ13)
def f_X2_passChance (σ : bl_St) (a0 : Nat) (a1 : Nat) : Option (Int32 × bl_St) :=
  bl_let (bl_pI σ a0 2 ((bl_I σ a0 2) + 1)) fun σ1 =>
  bl_bd (f_X8_chances σ1 a1) fun r3 σ4 =>
  bl_let (r3 - (bl_I σ4 a0 2)) fun x6 =>
  if 0 < x6 then (
  some (x6, σ4)) else (
  bl_bd (f_X2_endYear σ4 a0 a1) fun _ σ10 =>
  some (x6, σ10))
def f_X2_countTold (σ : bl_St) (a0 : Nat) : Option (Unit × bl_St) :=
  if (bl_I σ a0 4) = 0 then (
  bl_let (bl_pI σ a0 3 ((bl_I σ a0 3) + 1)) fun σ2 =>
  some ((), σ2)) else (
  bl_let (bl_pI σ a0 4 0) fun σ4 =>
  some ((), σ4))
def b_X2_takeLoss_48 (σ : bl_St) (v0 : Nat) (v3 : Int32) (s0 : Int32) : Option (Int32 × bl_St) :=
  bl_let (bl_pI σ v0 5 ((bl_I σ v0 5) + s0)) fun σ1 =>
  if v3 = 0 then (
  bl_let (bl_pI σ1 v0 12 ((bl_I σ1 v0 12) + 1)) fun σ4 =>
  bl_let (bl_pI σ4 v0 10 ((bl_I σ4 v0 10) + s0)) fun σ6 =>
  some (s0, σ6)) else (
  bl_let (bl_pI σ1 v0 11 ((bl_I σ1 v0 11) + 1)) fun σ8 =>
  bl_let (bl_pI σ8 v0 9 ((bl_I σ8 v0 9) + s0)) fun σ10 =>
  bl_bd (f_X2_countTold σ10 v0) fun _ σ13 =>
  some (s0, σ13))
def b_X2_takeLoss_27 (σ : bl_St) (v0 : Nat) (v1 : Nat) (v2 : Int32) (v3 : Int32) (s0 : Int32) (s1 : Int32) (s2 : Int32) (s3 : Int32) (s4 : Nat) : Option (Int32 × bl_St) :=
  bl_bd (f_X2_putEntry σ s4 s3 s2 s1 s0) fun _ σ16 =>
  if v3 = 0 then (
  bl_bd (f_X8_sortPart σ16 v1 v2 0) fun r19 σ20 =>
  b_X2_takeLoss_48  σ20 v0 v3 r19) else (
  bl_bd (f_X8_ownOf σ16 v1 v2) fun r22 σ23 =>
  b_X2_takeLoss_48  σ23 v0 v3 r22)
def f_X2_takeLoss (σ : bl_St) (a0 : Nat) (a1 : Nat) (a2 : Int32) (a3 : Int32) : Option (Int32 × bl_St) :=
  if a3 = 0 then (
  b_X2_takeLoss_27  σ a0 a1 a2 a3 0 a2 (bl_I σ a0 6) ((bl_I σ a0 11) + (bl_I σ a0 12)) (bl_R σ a0 13)) else (
  b_X2_takeLoss_27  σ a0 a1 a2 a3 1 a2 (bl_I σ a0 6) ((bl_I σ a0 11) + (bl_I σ a0 12)) (bl_R σ a0 13))
def f_X3_savedIfTold (σ : bl_St) (a0 : Nat) (a1 : Int32) : Option (Int64 × bl_St) :=
  bl_gd (bl_in a1 5) (
  bl_gd (bl_in a1 5) (
  some (((bl_J σ (bl_R σ a0 4) (Int32.toNatClampNeg a1)) - (bl_J σ (bl_R σ a0 5) (Int32.toNatClampNeg a1))), σ)))
def f_X4_look (σ : bl_St) (a0 : Nat) (a1 : Nat) (a2 : Int32) : Option (Unit × bl_St) :=
  bl_let (bl_pR σ a0 0 a1) fun σ1 =>
  bl_gd (bl_bo a2) (
  bl_let (bl_pI σ1 a0 1 a2) fun σ4 =>
  bl_let (bl_pI σ4 a0 2 0) fun σ6 =>
  bl_let (bl_pI σ6 a0 3 0) fun σ8 =>
  bl_let (bl_pI σ8 a0 4 0) fun σ10 =>
  bl_let (bl_pI σ10 a0 5 1) fun σ12 =>
  bl_let (bl_pI σ12 a0 6 0) fun σ14 =>
  bl_let (bl_pI σ14 a0 7 0) fun σ16 =>
  some ((), σ16))
def f_X4_index (σ : bl_St) (a0 : Int32) (a1 : Int32) (a2 : Int32) : Option (Int32 × bl_St) :=
  if a2 = 0 then (
  some (((((a0 * 3) + a1) * 2) + 0), σ)) else (
  some (((((a0 * 3) + a1) * 2) + 1), σ))
def f_X4_guardPays (σ : bl_St) (a0 : Nat) (a1 : Int32) : Option (Int32 × bl_St) :=
  bl_bd (f_X8_part σ (bl_R σ a0 0) a1 4) fun r2 σ3 =>
  bl_bd (f_X4_index σ3 0 0 1) fun r6 σ7 =>
  bl_gd (bl_in r6 42) (
  bl_bd (f_X4_index σ7 0 0 0) fun r11 σ12 =>
  bl_gd (bl_in r11 42) (
  if (bl_J σ12 (bl_R σ7 a0 11) (Int32.toNatClampNeg r11)) ≤ ((1000 * (Int32.toInt64 r2)) + (bl_J σ7 (bl_R σ3 a0 11) (Int32.toNatClampNeg r6))) then (
  some (0, σ12)) else (
  some (1, σ12))))
def b_X4_costBehindPremium_42 (σ : bl_St) (v0 : Nat) : Option (Int64 × bl_St) :=
  bl_bd (f_X4_index σ 0 0 0) fun r2 σ3 =>
  bl_gd (bl_in r2 42) (
  some ((bl_J σ3 (bl_R σ v0 11) (Int32.toNatClampNeg r2)), σ3))
def f_X4_costBehindPremium (σ : bl_St) (a0 : Nat) (a1 : Int32) : Option (Int64 × bl_St) :=
  if (bl_I σ a0 1) = 0 then (
  b_X4_costBehindPremium_42  σ a0) else (
  bl_bd (f_X4_guardPays σ a0 a1) fun r7 σ8 =>
  if r7 = 0 then (
  b_X4_costBehindPremium_42  σ8 a0) else (
  bl_bd (f_X8_part σ8 (bl_R σ8 a0 0) a1 4) fun r12 σ13 =>
  bl_bd (f_X4_index σ13 0 0 1) fun r16 σ17 =>
  bl_gd (bl_in r16 42) (
  some (((1000 * (Int32.toInt64 r12)) + (bl_J σ17 (bl_R σ13 a0 11) (Int32.toNatClampNeg r16))), σ17))))
def f_X4_toldIndex (σ : bl_St) (a0 : Int32) (a1 : Int32) (a2 : Int32) : Option (Int32 × bl_St) :=
  if a2 = 0 then (
  bl_bd (f_X4_index σ (a0 + 1) (if (a1 + 1) < 2 then (a1 + 1) else 2) 0) fun r2 σ3 =>
  some (r2, σ3)) else (
  bl_bd (f_X4_index σ (a0 + 1) a1 0) fun r5 σ6 =>
  some (r5, σ6))
def b_X4_lookAhead_218 (k81 : bl_St → Nat → Int32 → Int32 → Int32 → Int32 → Option (Unit × bl_St)) (σ : bl_St) (v0 : Nat) (v3 : Int32) (v4 : Int32) (v5 : Int32) (v6 : Int32) : Option (Unit × bl_St) :=
  bl_let (v6 + (-1)) fun x1 =>
  k81 σ v0 v3 v4 v5 x1
def b_X4_lookAhead_104 (k81 : bl_St → Nat → Int32 → Int32 → Int32 → Int32 → Option (Unit × bl_St)) (k104 : bl_St → Nat → Int32 → Int32 → Int32 → Int32 → Int32 → Int32 → Option (Unit × bl_St)) (σ : bl_St) (v0 : Nat) (v3 : Int32) (v4 : Int32) (v5 : Int32) (v6 : Int32) (v7 : Int32) (v8 : Int32) : Option (Unit × bl_St) :=
  if v7 < v8 then (
  if v5 = 0 then (
  b_X4_lookAhead_218 k81 σ v0 v3 v4 v5 v6) else (
  bl_bd (f_X4_index σ v6 v4 1) fun r6 σ7 =>
  bl_bd (f_X4_index σ7 (v6 + 1) v4 1) fun r11 σ12 =>
  bl_gd (bl_in r11 42) (
  bl_bd (f_X4_toldIndex σ12 v6 v4 1) fun r16 σ17 =>
  bl_gd (bl_in r16 42) (
  bl_bd (f_X3_chanceCost σ17 (bl_R σ7 v0 9) (bl_J σ12 (bl_R σ7 v0 11) (Int32.toNatClampNeg r11)) (bl_J σ17 (bl_R σ12 v0 11) (Int32.toNatClampNeg r16))) fun r20 σ21 =>
  bl_gd (bl_in r6 42) (
  bl_let (bl_pJ σ21 (bl_R σ v0 11) (Int32.toNatClampNeg r6) r20) fun σ24 =>
  b_X4_lookAhead_218 k81 σ24 v0 v3 v4 v5 v6))))) else (
  bl_bd (f_X4_index σ v6 v8 0) fun r27 σ28 =>
  bl_bd (f_X4_index σ28 (v6 + 1) v8 0) fun r32 σ33 =>
  bl_gd (bl_in r32 42) (
  bl_bd (f_X4_toldIndex σ33 v6 v8 0) fun r37 σ38 =>
  bl_gd (bl_in r37 42) (
  bl_bd (f_X3_chanceCost σ38 (bl_R σ28 v0 9) (bl_J σ33 (bl_R σ28 v0 11) (Int32.toNatClampNeg r32)) (bl_J σ38 (bl_R σ33 v0 11) (Int32.toNatClampNeg r37))) fun r41 σ42 =>
  bl_gd (bl_in r27 42) (
  bl_let (bl_pJ σ42 (bl_R σ v0 11) (Int32.toNatClampNeg r27) r41) fun σ45 =>
  bl_let (v8 + 1) fun x47 =>
  k104 σ45 v0 v3 v4 v5 v6 v7 x47))))
def b_X4_lookAhead_81 (k81 : bl_St → Nat → Int32 → Int32 → Int32 → Int32 → Option (Unit × bl_St)) (σ : bl_St) (v0 : Nat) (v3 : Int32) (v4 : Int32) (v5 : Int32) (v6 : Int32) : Option (Unit × bl_St) :=
  if v6 < v3 then (
  some ((), σ)) else (
  bl_let (if ((v4 + v6) - v3) < 2 then ((v4 + v6) - v3) else 2) fun x50 =>
  bl_fx (fun _ _ _ _ _ _ _ _ => none) (b_X4_lookAhead_104 k81) bl_fu σ v0 v3 v4 v5 v6 x50 v4)
def b_X4_lookAhead_3 (k3 : bl_St → Nat → Int32 → Int32 → Int32 → Int32 → Int32 → Int32 → Option (Unit × bl_St)) (σ : bl_St) (v0 : Nat) (v1 : Int32) (v2 : Int32) (v3 : Int32) (v4 : Int32) (v5 : Int32) (v6 : Int32) : Option (Unit × bl_St) :=
  if 3 ≤ v6 then (
  bl_let ((bl_I σ v0 8) - 1) fun x53 =>
  bl_fx (fun _ _ _ _ _ _ => none) (b_X4_lookAhead_81 ) bl_fu σ v0 v3 v4 v5 x53) else (
  bl_bd (f_X8_next σ (bl_R σ v0 0) v2 v6) fun r57 σ58 =>
  bl_gd (bl_in (((v1 - 1) * 8) + r57) 168) (
  bl_let (bl_J σ58 (bl_R σ v0 10) (Int32.toNatClampNeg (((v1 - 1) * 8) + r57))) fun x61 =>
  bl_bd (f_X4_index σ58 (bl_I σ58 v0 8) v6 0) fun r64 σ65 =>
  bl_gd (bl_in r64 42) (
  bl_let (bl_pJ σ65 (bl_R σ58 v0 11) (Int32.toNatClampNeg r64) x61) fun σ68 =>
  bl_bd (f_X4_index σ68 (bl_I σ68 v0 8) v6 1) fun r71 σ72 =>
  bl_gd (bl_in r71 42) (
  bl_let (bl_pJ σ72 (bl_R σ68 v0 11) (Int32.toNatClampNeg r71) x61) fun σ75 =>
  bl_let (v6 + 1) fun x77 =>
  k3 σ75 v0 v1 v2 v3 v4 v5 x77))))
def f_X4_lookAhead (σ : bl_St) (a0 : Nat) (a1 : Int32) (a2 : Int32) (a3 : Int32) (a4 : Int32) (a5 : Int32) : Option (Unit × bl_St) :=
  bl_fx (fun _ _ _ _ _ _ _ _ => none) (b_X4_lookAhead_3 ) bl_fu σ a0 a1 a2 a3 a4 a5 0
def f_X4_premiumPaid (σ : bl_St) (a0 : Nat) (a1 : Int32) : Option (Int64 × bl_St) :=
  bl_bd (f_X8_part σ (bl_R σ a0 0) a1 0) fun r2 σ3 =>
  bl_let ((1000 * (Int32.toInt64 (bl_I σ a0 5))) * (Int32.toInt64 r2)) fun x5 =>
  some ((x5 - ((x5 * (Int32.toInt64 (bl_I σ3 a0 6))) / 100)), σ3)
def b_X4_learn_60 (k53 : bl_St → Nat → Int32 → Int32 → Option (Unit × bl_St)) (k60 : bl_St → Nat → Int32 → Int32 → Int32 → Option (Unit × bl_St)) (σ : bl_St) (v0 : Nat) (v1 : Int32) (v2 : Int32) (v3 : Int32) : Option (Unit × bl_St) :=
  if (bl_I σ (bl_R σ v0 0) 0) ≤ v3 then (
  bl_let (bl_pI σ v0 7 v2) fun σ3 =>
  bl_let (v2 + 1) fun x5 =>
  k53 σ3 v0 v1 x5) else (
  bl_bd (f_X4_lookAhead σ v0 v2 v3 0 0 (bl_I σ v0 1)) fun _ σ8 =>
  bl_bd (f_X4_premiumPaid σ8 v0 v3) fun r11 σ12 =>
  bl_bd (f_X4_costBehindPremium σ12 v0 v3) fun r14 σ15 =>
  bl_gd (bl_in ((v2 * 8) + v3) 168) (
  bl_let (bl_pJ σ15 (bl_R σ8 v0 10) (Int32.toNatClampNeg ((v2 * 8) + v3)) (r11 + r14)) fun σ18 =>
  bl_let (v3 + 1) fun x20 =>
  k60 σ18 v0 v1 v2 x20))
def b_X4_learn_53 (k53 : bl_St → Nat → Int32 → Int32 → Option (Unit × bl_St)) (σ : bl_St) (v0 : Nat) (v1 : Int32) (v2 : Int32) : Option (Unit × bl_St) :=
  if v1 < v2 then (
  some ((), σ)) else (
  bl_fx (fun _ _ _ _ _ => none) (b_X4_learn_60 k53) bl_fu σ v0 v1 v2 0)
def b_X4_learn_46 (σ : bl_St) (v0 : Nat) (v1 : Int32) : Option (Unit × bl_St) :=
  bl_let ((bl_I σ v0 7) + 1) fun x23 =>
  bl_fx (fun _ _ _ _ => none) (b_X4_learn_53 ) bl_fu σ v0 v1 x23
def f_X4_learn (σ : bl_St) (a0 : Nat) (a1 : Int32) : Option (Unit × bl_St) :=
  if (bl_I σ a0 7) = 0 then (
  bl_bd (f_X8_chances σ (bl_R σ a0 0)) fun r27 σ28 =>
  bl_let (bl_pI σ28 a0 8 (r27 * (bl_I σ28 a0 5))) fun σ30 =>
  bl_bd (f_X3_take σ30 (bl_R σ30 a0 9) (bl_R σ30 a0 0) (bl_I σ30 a0 2) (bl_I σ30 a0 3) (bl_I σ30 a0 4)) fun _ σ35 =>
  b_X4_learn_46  σ35 a0 a1) else (
  b_X4_learn_46  σ a0 a1)
def f_X4_costOf (σ : bl_St) (a0 : Nat) (a1 : Int32) (a2 : Int32) : Option (Int64 × bl_St) :=
  bl_bd (f_X4_learn σ a0 a1) fun _ σ2 =>
  bl_gd (bl_in ((a1 * 8) + a2) 168) (
  some ((bl_J σ2 (bl_R σ2 a0 10) (Int32.toNatClampNeg ((a1 * 8) + a2))), σ2))
def f_X4_buys (σ : bl_St) (a0 : Nat) (a1 : Int32) (a2 : Int32) : Option (Int32 × bl_St) :=
  bl_bd (f_X4_lookAhead σ a0 a1 a2 0 0 1) fun _ σ2 =>
  bl_bd (f_X4_guardPays σ2 a0 a2) fun r4 σ5 =>
  bl_gd (bl_bo r4) (
  some (r4, σ5))
def f_X4_aheadOf (σ : bl_St) (a0 : Nat) (a1 : Int32) (a2 : Int32) (a3 : Int32) : Option (Int64 × bl_St) :=
  bl_bd (f_X4_index σ a1 a2 a3) fun r2 σ3 =>
  bl_gd (bl_in r2 42) (
  some ((bl_J σ3 (bl_R σ a0 11) (Int32.toNatClampNeg r2)), σ3))
def f_X4_dearerIfTold (σ : bl_St) (a0 : Nat) (a1 : Int32) (a2 : Int32) (a3 : Int32) : Option (Int64 × bl_St) :=
  bl_bd (f_X4_toldIndex σ a1 a2 a3) fun r2 σ3 =>
  bl_gd (bl_in r2 42) (
  bl_bd (f_X4_index σ3 (a1 + 1) a2 a3) fun r7 σ8 =>
  bl_gd (bl_in r7 42) (
  some (((bl_J σ3 (bl_R σ a0 11) (Int32.toNatClampNeg r2)) - (bl_J σ8 (bl_R σ3 a0 11) (Int32.toNatClampNeg r7))), σ8)))
def f_X4_gainOf (σ : bl_St) (a0 : Nat) (a1 : Int32) (a2 : Int32) (a3 : Int32) (a4 : Int32) : Option (Int64 × bl_St) :=
  bl_bd (f_X3_savedIfTold σ (bl_R σ a0 9) a4) fun r2 σ3 =>
  bl_bd (f_X4_dearerIfTold σ3 a0 a1 a2 a3) fun r5 σ6 =>
  some ((r2 - r5), σ6)
def f_X4_leastTold (σ : bl_St) (a0 : Nat) (a1 : Int32) (a2 : Int32) (a3 : Int32) : Option (Int32 × bl_St) :=
  bl_bd (f_X4_dearerIfTold σ a0 a1 a2 a3) fun r1 σ2 =>
  if 0 ≤ r1 then (
  bl_bd (f_X8_own σ2 (bl_R σ2 a0 0)) fun r6 σ7 =>
  bl_let (((Int32.toInt64 r6) + (r1 / 1000)) + 1) fun x9 =>
  if x9 ≤ 9999 then (
  some ((Int64.toInt32 x9), σ7)) else (
  some ((-2), σ7))) else (
  some (1, σ2))
def f_X5_put (σ : bl_St) (a0 : Nat) (a1 : Int32) : Option (Unit × bl_St) :=
  if 256 ≤ (bl_I σ a0 1) then (
  some ((), σ)) else (
  bl_gd (bl_in (bl_I σ a0 1) 256) (
  bl_let (bl_pI σ (bl_R σ a0 0) (Int32.toNatClampNeg (bl_I σ a0 1)) a1) fun σ4 =>
  bl_let (bl_pI σ4 a0 1 ((bl_I σ4 a0 1) + 1)) fun σ6 =>
  some ((), σ6)))
def f_X5_putBlank (σ : bl_St) (a0 : Nat) : Option (Unit × bl_St) :=
  if (bl_I σ a0 1) ≤ 0 then (
  some ((), σ)) else (
  bl_gd (bl_in ((bl_I σ a0 1) - 1) 256) (
  if (bl_I σ (bl_R σ a0 0) (Int32.toNatClampNeg ((bl_I σ a0 1) - 1))) = 59 then (
  some ((), σ)) else (
  bl_bd (f_X5_put σ a0 32) fun _ σ6 =>
  some ((), σ6))))
def b_X5_putWord_6 (k6 : bl_St → Nat → Nat → Int32 → Option (Unit × bl_St)) (σ : bl_St) (v0 : Nat) (v1 : Nat) (v2 : Int32) : Option (Unit × bl_St) :=
  bl_bd (f_J0_length_8abf5 σ v1) fun r1 σ2 =>
  if r1 ≤ v2 then (
  some ((), σ2)) else (
  bl_bd (f_J0_charAt_5068e σ2 v1 v2) fun r5 σ6 =>
  bl_bd (f_X5_put σ6 v0 r5) fun _ σ9 =>
  bl_let (v2 + 1) fun x11 =>
  k6 σ9 v0 v1 x11)
def f_X5_putWord (σ : bl_St) (a0 : Nat) (a1 : Nat) : Option (Unit × bl_St) :=
  bl_bd (f_X5_putBlank σ a0) fun _ σ14 =>
  bl_fx (fun _ _ _ _ => none) (b_X5_putWord_6 ) bl_fu σ14 a0 a1 0
def b_X5_putNumber_35 (k35 : bl_St → Nat → Int32 → Int32 → Int32 → Option (Unit × bl_St)) (σ : bl_St) (v0 : Nat) (v1 : Int32) (v2 : Int32) (v3 : Int32) : Option (Unit × bl_St) :=
  if 10 ≤ v3 then (
  some ((), σ)) else (
  if v2 ≤ 0 then (
  some ((), σ)) else (
  bl_gd (!(decide (v2 = 0))) (
  bl_bd (f_X5_put σ v0 (48 + ((v1 / v2) - (v1 / v2) / 10 * 10))) fun _ σ5 =>
  bl_let (v2 / 10) fun x7 =>
  bl_let (v3 + 1) fun x9 =>
  k35 σ5 v0 v1 x7 x9)))
def b_X5_putNumber_33 (σ : bl_St) (v0 : Nat) (v1 : Int32) (v2 : Int32) : Option (Unit × bl_St) :=
  bl_fx (fun _ _ _ _ _ => none) (b_X5_putNumber_35 ) bl_fu σ v0 v1 v2 0
def b_X5_putNumber_8 (k8 : bl_St → Nat → Int32 → Int32 → Int32 → Option (Unit × bl_St)) (σ : bl_St) (v0 : Nat) (v1 : Int32) (v2 : Int32) (v3 : Int32) : Option (Unit × bl_St) :=
  if 9 ≤ v3 then (
  b_X5_putNumber_33  σ v0 v1 v2) else (
  bl_gd (!(decide (v2 = 0))) (
  if (v1 / v2) < 10 then (
  b_X5_putNumber_33  σ v0 v1 v2) else (
  bl_let (v2 * 10) fun x14 =>
  bl_let (v3 + 1) fun x16 =>
  k8 σ v0 v1 x14 x16)))
def f_X5_putNumber (σ : bl_St) (a0 : Nat) (a1 : Int32) : Option (Unit × bl_St) :=
  bl_bd (f_X5_putBlank σ a0) fun _ σ19 =>
  bl_fx (fun _ _ _ _ _ => none) (b_X5_putNumber_8 ) bl_fu σ19 a0 a1 1 0
def f_X5_endPhrase (σ : bl_St) (a0 : Nat) : Option (Unit × bl_St) :=
  bl_bd (f_X5_put σ a0 59) fun _ σ2 =>
  some ((), σ2)
def f_X5_signAt (σ : bl_St) (a0 : Nat) (a1 : Int32) : Option (Int32 × bl_St) :=
  if 0 ≤ a1 then (
  if (bl_I σ a0 1) ≤ a1 then (
  some ((-2), σ)) else (
  if 256 ≤ a1 then (
  some ((-2), σ)) else (
  bl_gd (bl_in a1 256) (
  some ((bl_I σ (bl_R σ a0 0) (Int32.toNatClampNeg a1)), σ))))) else (
  some ((bl_I σ a0 1), σ))
def f_X8_copy (σ : bl_St) (a0 : Nat) (a1 : Nat) : Option (Unit × bl_St) :=
  bl_let (bl_pI σ a0 0 (bl_I σ a1 0)) fun σ1 =>
  bl_let (bl_pI σ1 a0 1 (bl_I σ1 a1 1)) fun σ3 =>
  bl_let (bl_cI σ3 (bl_R σ3 a1 2) (Int32.toNatClampNeg 0) (bl_R σ3 a0 2) (Int32.toNatClampNeg 0) (Int32.toNatClampNeg 40)) fun σ7 =>
  bl_let (bl_cI σ7 (bl_R σ7 a1 3) (Int32.toNatClampNeg 0) (bl_R σ7 a0 3) (Int32.toNatClampNeg 0) (Int32.toNatClampNeg 10)) fun σ11 =>
  bl_let (bl_cI σ11 (bl_R σ11 a1 4) (Int32.toNatClampNeg 0) (bl_R σ11 a0 4) (Int32.toNatClampNeg 0) (Int32.toNatClampNeg 3)) fun σ15 =>
  some ((), σ15)
def f_X6_keep (σ : bl_St) (a0 : Nat) (a1 : Nat) (a2 : Nat) : Option (Unit × bl_St) :=
  bl_gd (bl_in (bl_I σ a0 2) 12) (
  bl_bd (f_X8_copy σ (bl_R σ (bl_R σ a0 0) (Int32.toNatClampNeg (bl_I σ a0 2))) a1) fun _ σ5 =>
  bl_gd (bl_in (bl_I σ5 a0 2) 12) (
  bl_bd (f_X2_copy σ5 (bl_R σ5 (bl_R σ5 a0 1) (Int32.toNatClampNeg (bl_I σ5 a0 2))) a2) fun _ σ11 =>
  bl_let (bl_pI σ11 a0 2 (((bl_I σ11 a0 2) + 1) - ((bl_I σ11 a0 2) + 1) / 12 * 12)) fun σ13 =>
  bl_let (bl_pI σ13 a0 3 (if ((bl_I σ13 a0 3) + 1) < 12 then ((bl_I σ13 a0 3) + 1) else 12)) fun σ15 =>
  some ((), σ15)))
def f_X6_takeBack (σ : bl_St) (a0 : Nat) (a1 : Nat) (a2 : Nat) : Option (Int32 × bl_St) :=
  if (bl_I σ a0 3) = 0 then (
  some (0, σ)) else (
  bl_let (bl_pI σ a0 2 ((((bl_I σ a0 2) + 12) - 1) - (((bl_I σ a0 2) + 12) - 1) / 12 * 12)) fun σ2 =>
  bl_let (bl_pI σ2 a0 3 ((bl_I σ2 a0 3) - 1)) fun σ4 =>
  bl_gd (bl_in (bl_I σ4 a0 2) 12) (
  bl_bd (f_X8_copy σ4 a1 (bl_R σ4 (bl_R σ4 a0 0) (Int32.toNatClampNeg (bl_I σ4 a0 2)))) fun _ σ10 =>
  bl_gd (bl_in (bl_I σ10 a0 2) 12) (
  bl_bd (f_X2_copy σ10 a2 (bl_R σ10 (bl_R σ10 a0 1) (Int32.toNatClampNeg (bl_I σ10 a0 2)))) fun _ σ16 =>
  some (1, σ16))))
def f_X6_forget (σ : bl_St) (a0 : Nat) : Option (Unit × bl_St) :=
  bl_let (bl_pI σ a0 3 0) fun σ1 =>
  some ((), σ1)
def b_X7_append_3 (k3 : bl_St → Nat → Int32 → Int32 → Option (Unit × bl_St)) (σ : bl_St) (v0 : Nat) (v1 : Int32) (v2 : Int32) : Option (Unit × bl_St) :=
  if v2 < 0 then (
  some ((), σ)) else (
  if 400 ≤ (bl_I σ v0 3) then (
  some ((), σ)) else (
  bl_gd (bl_in (bl_I σ v0 3) 400) (
  bl_let (bl_pI σ (bl_R σ v0 0) (Int32.toNatClampNeg (bl_I σ v0 3)) (((Int32.toUInt32 v1) >>> ((Int32.toUInt32 v2) &&& Int32.toUInt32 31)).toInt32 &&& 255)) fun σ5 =>
  bl_let (bl_pI σ5 v0 3 ((bl_I σ5 v0 3) + 1)) fun σ7 =>
  bl_let (v2 + (-8)) fun x9 =>
  k3 σ7 v0 v1 x9)))
def f_X7_append (σ : bl_St) (a0 : Nat) (a1 : Int32) : Option (Unit × bl_St) :=
  bl_fx (fun _ _ _ _ => none) (b_X7_append_3 ) bl_fu σ a0 a1 24
def f_X8_hasClass (σ : bl_St) (a0 : Nat) (a1 : Int32) : Option (Int32 × bl_St) :=
  if a1 < 0 then (
  some (0, σ)) else (
  if (bl_I σ a0 0) ≤ a1 then (
  some (0, σ)) else (
  some (1, σ)))
def b_X7_isWhole_37 (k24 : bl_St → Nat → Int32 → Option (Int32 × bl_St)) (k37 : bl_St → Nat → Int32 → Int32 → Option (Int32 × bl_St)) (σ : bl_St) (v0 : Nat) (v1 : Int32) (v2 : Int32) : Option (Int32 × bl_St) :=
  if 3 ≤ v2 then (
  bl_let (v1 + 1) fun x2 =>
  k24 σ v0 x2) else (
  bl_bd (f_X8_next σ (bl_R σ v0 2) v1 v2) fun r6 σ7 =>
  bl_bd (f_X8_hasClass σ7 (bl_R σ v0 2) r6) fun r9 σ10 =>
  if r9 = 0 then (
  some (0, σ10)) else (
  bl_let (v2 + 1) fun x13 =>
  k37 σ10 v0 v1 x13))
def b_X7_isWhole_24 (k24 : bl_St → Nat → Int32 → Option (Int32 × bl_St)) (σ : bl_St) (v0 : Nat) (v1 : Int32) : Option (Int32 × bl_St) :=
  if (bl_I σ (bl_R σ v0 2) 0) ≤ v1 then (
  some (1, σ)) else (
  bl_fx (fun _ _ _ _ => none) (b_X7_isWhole_37 k24) bl_fu σ v0 v1 0)
def f_X7_isWhole (σ : bl_St) (a0 : Nat) : Option (Int32 × bl_St) :=
  if (bl_I σ (bl_R σ a0 2) 0) = 0 then (
  some (0, σ)) else (
  if (bl_I σ (bl_R σ a0 2) 1) = 0 then (
  some (0, σ)) else (
  bl_fx (fun _ _ _ => none) (b_X7_isWhole_24 ) bl_fu σ a0 0))
def f_X7_amountOf (σ : bl_St) (a0 : Int32) : Option (Int32 × bl_St) :=
  if a0 = 0 then (
  some (5, σ)) else (
  if a0 = 1 then (
  some (2, σ)) else (
  some (1, σ)))
def f_X7_highest (σ : bl_St) (a0 : Int32) (a1 : Int32) : Option (Int32 × bl_St) :=
  if a0 = 0 then (
  bl_gd (bl_in a1 bl_CH.length) (
  some ((bl_CH.getD (Int32.toNatClampNeg a1) 0), σ))) else (
  if a0 = 1 then (
  bl_gd (bl_in a1 bl_SH.length) (
  some ((bl_SH.getD (Int32.toNatClampNeg a1) 0), σ))) else (
  bl_gd (bl_in (a0 - 2) bl_RH.length) (
  some ((bl_RH.getD (Int32.toNatClampNeg (a0 - 2)) 0), σ))))
def b_X7_isFull_16 (σ : bl_St) (v0 : Nat) (v1 : Int32) : Option (Int32 × bl_St) :=
  if v1 = 1 then (
  if (bl_I σ (bl_R σ v0 2) 1) < 5 then (
  some (0, σ)) else (
  some (1, σ))) else (
  some (0, σ))
def f_X7_isFull (σ : bl_St) (a0 : Nat) (a1 : Int32) : Option (Int32 × bl_St) :=
  if a1 = 0 then (
  if 8 ≤ (bl_I σ (bl_R σ a0 2) 0) then (
  some (1, σ)) else (
  b_X7_isFull_16  σ a0 a1)) else (
  b_X7_isFull_16  σ a0 a1)
def f_X7_isLetter (σ : bl_St) (a0 : Int32) : Option (Int32 × bl_St) :=
  if a0 < 97 then (
  some (0, σ)) else (
  if 122 < a0 then (
  some (0, σ)) else (
  some (1, σ)))
def b_X7_isWord_15 (k15 : bl_St → Nat → Nat → Int32 → Int32 → Option (Int32 × bl_St)) (σ : bl_St) (v0 : Nat) (v1 : Nat) (v2 : Int32) (v4 : Int32) : Option (Int32 × bl_St) :=
  bl_bd (f_J0_length_8abf5 σ v1) fun r1 σ2 =>
  if r1 ≤ v4 then (
  some (1, σ2)) else (
  bl_gd (bl_in (v2 + v4) 400) (
  bl_bd (f_J0_charAt_5068e σ2 v1 v4) fun r7 σ8 =>
  if (bl_I σ2 (bl_R σ2 v0 0) (Int32.toNatClampNeg (v2 + v4))) = r7 then (
  bl_let (v4 + 1) fun x11 =>
  k15 σ8 v0 v1 v2 x11) else (
  some (0, σ8))))
def f_X7_isWord (σ : bl_St) (a0 : Nat) (a1 : Nat) (a2 : Int32) (a3 : Int32) : Option (Int32 × bl_St) :=
  bl_bd (f_J0_length_8abf5 σ a1) fun r13 σ14 =>
  if (a3 - a2) = r13 then (
  bl_fx (fun _ _ _ _ _ => none) (b_X7_isWord_15 ) bl_fu σ14 a0 a1 a2 0) else (
  some (0, σ14))
def f_X9_wordOf (σ : bl_St) (a0 : Int32) : Option (Nat × bl_St) :=
  if a0 = 0 then (
  some (0, σ)) else if a0 = 1 then (
  some (1, σ)) else if a0 = 2 then (
  some (2, σ)) else if a0 = 3 then (
  some (3, σ)) else (
  some (4, σ))
def b_X7_kindOf_2 (k2 : bl_St → Nat → Int32 → Int32 → Int32 → Option (Int32 × bl_St)) (σ : bl_St) (v0 : Nat) (v1 : Int32) (v2 : Int32) (v3 : Int32) : Option (Int32 × bl_St) :=
  if 5 ≤ v3 then (
  some ((-1), σ)) else (
  bl_bd (f_X9_wordOf σ v3) fun r2 σ3 =>
  bl_bd (f_X7_isWord σ3 v0 r2 v1 v2) fun r5 σ6 =>
  if r5 = 0 then (
  bl_let (v3 + 1) fun x9 =>
  k2 σ6 v0 v1 v2 x9) else (
  some (v3, σ6)))
def f_X7_kindOf (σ : bl_St) (a0 : Nat) (a1 : Int32) (a2 : Int32) : Option (Int32 × bl_St) :=
  bl_fx (fun _ _ _ _ _ => none) (b_X7_kindOf_2 ) bl_fu σ a0 a1 a2 0
def f_X7_lowest (σ : bl_St) (a0 : Int32) : Option (Int32 × bl_St) :=
  if a0 = 0 then (
  some (0, σ)) else (
  if a0 = 1 then (
  some (1, σ)) else (
  bl_gd (bl_in (a0 - 2) bl_RL.length) (
  some ((bl_RL.getD (Int32.toNatClampNeg (a0 - 2)) 0), σ))))
def b_X7_skipBlanks_39 (k0 : bl_St → Nat → Option (Unit × bl_St)) (σ : bl_St) (v0 : Nat) : Option (Unit × bl_St) :=
  bl_let (bl_pI σ v0 4 ((bl_I σ v0 4) + 1)) fun σ1 =>
  k0 σ1 v0
def b_X7_skipBlanks_0 (k0 : bl_St → Nat → Option (Unit × bl_St)) (σ : bl_St) (v0 : Nat) : Option (Unit × bl_St) :=
  if (bl_I σ v0 3) ≤ (bl_I σ v0 4) then (
  some ((), σ)) else (
  bl_gd (bl_in (bl_I σ v0 4) 400) (
  if (bl_I σ (bl_R σ v0 0) (Int32.toNatClampNeg (bl_I σ v0 4))) = 32 then (
  b_X7_skipBlanks_39 k0 σ v0) else (
  bl_gd (bl_in (bl_I σ v0 4) 400) (
  if (bl_I σ (bl_R σ v0 0) (Int32.toNatClampNeg (bl_I σ v0 4))) = 10 then (
  b_X7_skipBlanks_39 k0 σ v0) else (
  some ((), σ))))))
def f_X7_skipBlanks (σ : bl_St) (a0 : Nat) : Option (Unit × bl_St) :=
  bl_fx (fun _ _ => none) (b_X7_skipBlanks_0 ) bl_fu σ a0
def f_X7_readEnd (σ : bl_St) (a0 : Nat) : Option (Unit × bl_St) :=
  bl_bd (f_X7_skipBlanks σ a0) fun _ σ2 =>
  if (bl_I σ2 a0 3) ≤ (bl_I σ2 a0 4) then (
  bl_let (bl_pI σ2 a0 5 (bl_I σ2 a0 4)) fun σ5 =>
  some ((), σ5)) else (
  bl_gd (bl_in (bl_I σ2 a0 4) 400) (
  if (bl_I σ2 (bl_R σ2 a0 0) (Int32.toNatClampNeg (bl_I σ2 a0 4))) = 59 then (
  bl_let (bl_pI σ2 a0 4 ((bl_I σ2 a0 4) + 1)) fun σ12 =>
  some ((), σ12)) else (
  bl_let (bl_pI σ2 a0 5 (bl_I σ2 a0 4)) fun σ10 =>
  some ((), σ10))))
def f_X7_isDigit (σ : bl_St) (a0 : Int32) : Option (Int32 × bl_St) :=
  if a0 < 48 then (
  some (0, σ)) else (
  if 57 < a0 then (
  some (0, σ)) else (
  some (1, σ)))
def b_X7_readNumber_128 (σ : bl_St) (v0 : Nat) (v1 : Int32) (v2 : Int32) (v3 : Int32) (v5 : Int32) (v6 : Int32) : Option (Unit × bl_St) :=
  if 3 < ((bl_I σ v0 4) - v5) then (
  bl_let (bl_pI σ v0 5 v5) fun σ2 =>
  some ((), σ2)) else (
  if v6 < v2 then (
  bl_let (bl_pI σ v0 5 v5) fun σ5 =>
  some ((), σ5)) else (
  if v6 ≤ v3 then (
  bl_gd (bl_in v1 5) (
  bl_let (bl_pI σ (bl_R σ v0 1) (Int32.toNatClampNeg v1) v6) fun σ10 =>
  some ((), σ10))) else (
  bl_let (bl_pI σ v0 5 v5) fun σ12 =>
  some ((), σ12))))
def b_X7_readNumber_63 (k63 : bl_St → Nat → Int32 → Int32 → Int32 → Int32 → Int32 → Option (Unit × bl_St)) (σ : bl_St) (v0 : Nat) (v1 : Int32) (v2 : Int32) (v3 : Int32) (v5 : Int32) (v6 : Int32) : Option (Unit × bl_St) :=
  if (bl_I σ v0 3) ≤ (bl_I σ v0 4) then (
  b_X7_readNumber_128  σ v0 v1 v2 v3 v5 v6) else (
  bl_gd (bl_in (bl_I σ v0 4) 400) (
  bl_bd (f_X7_isDigit σ (bl_I σ (bl_R σ v0 0) (Int32.toNatClampNeg (bl_I σ v0 4)))) fun r17 σ18 =>
  if r17 = 0 then (
  b_X7_readNumber_128  σ18 v0 v1 v2 v3 v5 v6) else (
  bl_gd (bl_in (bl_I σ18 v0 4) 400) (
  bl_let (if (((v6 * 10) + (bl_I σ18 (bl_R σ18 v0 0) (Int32.toNatClampNeg (bl_I σ18 v0 4)))) - 48) < 9999 then (((v6 * 10) + (bl_I σ18 (bl_R σ18 v0 0) (Int32.toNatClampNeg (bl_I σ18 v0 4)))) - 48) else 9999) fun x23 =>
  bl_let (bl_pI σ18 v0 4 ((bl_I σ18 v0 4) + 1)) fun σ25 =>
  k63 σ25 v0 v1 v2 v3 v5 x23))))
def f_X7_readNumber (σ : bl_St) (a0 : Nat) (a1 : Int32) (a2 : Int32) (a3 : Int32) : Option (Unit × bl_St) :=
  bl_let (bl_I σ a0 4) fun x27 =>
  bl_bd (f_X7_skipBlanks σ a0) fun _ σ30 =>
  if (bl_I σ30 a0 4) = x27 then (
  bl_let (bl_pI σ30 a0 5 (bl_I σ30 a0 4)) fun σ33 =>
  some ((), σ33)) else (
  if (bl_I σ30 a0 3) ≤ (bl_I σ30 a0 4) then (
  bl_let (bl_pI σ30 a0 5 (bl_I σ30 a0 4)) fun σ36 =>
  some ((), σ36)) else (
  bl_gd (bl_in (bl_I σ30 a0 4) 400) (
  bl_bd (f_X7_isDigit σ30 (bl_I σ30 (bl_R σ30 a0 0) (Int32.toNatClampNeg (bl_I σ30 a0 4)))) fun r40 σ41 =>
  if r40 = 0 then (
  bl_let (bl_pI σ41 a0 5 (bl_I σ41 a0 4)) fun σ46 =>
  some ((), σ46)) else (
  bl_let (bl_I σ41 a0 4) fun x44 =>
  bl_fx (fun _ _ _ _ _ _ _ => none) (b_X7_readNumber_63 ) bl_fu σ41 a0 a1 a2 a3 x44 0))))
def f_X8_setSortPart (σ : bl_St) (a0 : Nat) (a1 : Int32) (a2 : Int32) (a3 : Int32) : Option (Unit × bl_St) :=
  bl_gd (bl_in ((a1 * 2) + a2) 10) (
  bl_let (bl_pI σ (bl_R σ a0 3) (Int32.toNatClampNeg ((a1 * 2) + a2)) a3) fun σ3 =>
  some ((), σ3))
def f_X8_addSort (σ : bl_St) (a0 : Nat) (a1 : Int32) (a2 : Int32) : Option (Unit × bl_St) :=
  bl_bd (f_X8_setSortPart σ a0 (bl_I σ a0 1) 0 a1) fun _ σ2 =>
  bl_bd (f_X8_setSortPart σ2 a0 (bl_I σ2 a0 1) 1 a2) fun _ σ5 =>
  bl_let (bl_pI σ5 a0 1 ((bl_I σ5 a0 1) + 1)) fun σ7 =>
  some ((), σ7)
def f_X7_take (σ : bl_St) (a0 : Nat) (a1 : Int32) : Option (Unit × bl_St) :=
  if a1 = 0 then (
  bl_gd (bl_cpk 0 ((bl_I σ (bl_R σ a0 2) 0) * 5) 5 5 40) (
  bl_let (bl_cI σ (bl_R σ a0 1) (Int32.toNatClampNeg 0) (bl_R σ (bl_R σ a0 2) 2) (Int32.toNatClampNeg ((bl_I σ (bl_R σ a0 2) 0) * 5)) (Int32.toNatClampNeg 5)) fun σ20 =>
  bl_let (bl_pI σ20 (bl_R σ20 a0 2) 0 ((bl_I σ20 (bl_R σ20 a0 2) 0) + 1)) fun σ23 =>
  some ((), σ23))) else (
  if a1 = 1 then (
  bl_bd (f_X8_addSort σ (bl_R σ a0 2) (bl_I σ (bl_R σ a0 1) 0) (bl_I σ (bl_R σ a0 1) 1)) fun _ σ13 =>
  some ((), σ13)) else (
  bl_gd (bl_in (a1 - 2) 3) (
  bl_let (bl_pI σ (bl_R σ (bl_R σ a0 2) 4) (Int32.toNatClampNeg (a1 - 2)) (bl_I σ (bl_R σ a0 1) 0)) fun σ7 =>
  some ((), σ7))))
def b_X7_readPhrase_129 (σ : bl_St) (v0 : Nat) (v2 : Int32) : Option (Unit × bl_St) :=
  if (bl_I σ v0 5) = (-1) then (
  bl_bd (f_X7_take σ v0 v2) fun _ σ3 =>
  some ((), σ3)) else (
  some ((), σ))
def b_X7_readPhrase_117 (σ : bl_St) (v0 : Nat) (v2 : Int32) : Option (Unit × bl_St) :=
  if (bl_I σ v0 5) = (-1) then (
  bl_bd (f_X7_readEnd σ v0) fun _ σ7 =>
  b_X7_readPhrase_129  σ7 v0 v2) else (
  b_X7_readPhrase_129  σ v0 v2)
def b_X7_readPhrase_81 (k81 : bl_St → Nat → Int32 → Int32 → Int32 → Option (Unit × bl_St)) (σ : bl_St) (v0 : Nat) (v2 : Int32) (v3 : Int32) (v4 : Int32) : Option (Unit × bl_St) :=
  if v3 ≤ v4 then (
  b_X7_readPhrase_117  σ v0 v2) else (
  if (bl_I σ v0 5) = (-1) then (
  bl_bd (f_X7_lowest σ v2) fun r11 σ12 =>
  bl_bd (f_X7_highest σ12 v2 v4) fun r14 σ15 =>
  bl_bd (f_X7_readNumber σ15 v0 v4 r11 r14) fun _ σ18 =>
  bl_let (v4 + 1) fun x20 =>
  k81 σ18 v0 v2 v3 x20) else (
  b_X7_readPhrase_117  σ v0 v2))
def b_X7_readPhrase_44 (σ : bl_St) (v0 : Nat) (v1 : Int32) : Option (Unit × bl_St) :=
  bl_bd (f_X7_kindOf σ v0 v1 (bl_I σ v0 4)) fun r22 σ23 =>
  if r22 = (-1) then (
  bl_let (bl_pI σ23 v0 5 v1) fun σ26 =>
  some ((), σ26)) else (
  bl_bd (f_X7_isFull σ23 v0 r22) fun r28 σ29 =>
  if r28 = 0 then (
  bl_bd (f_X7_amountOf σ29 r22) fun r32 σ33 =>
  bl_fx (fun _ _ _ _ _ => none) (b_X7_readPhrase_81 ) bl_fu σ33 v0 r22 r32 0) else (
  bl_let (bl_pI σ29 v0 5 v1) fun σ35 =>
  some ((), σ35)))
def b_X7_readPhrase_5 (k5 : bl_St → Nat → Int32 → Option (Unit × bl_St)) (σ : bl_St) (v0 : Nat) (v1 : Int32) : Option (Unit × bl_St) :=
  if (bl_I σ v0 3) ≤ (bl_I σ v0 4) then (
  b_X7_readPhrase_44  σ v0 v1) else (
  bl_gd (bl_in (bl_I σ v0 4) 400) (
  bl_bd (f_X7_isLetter σ (bl_I σ (bl_R σ v0 0) (Int32.toNatClampNeg (bl_I σ v0 4)))) fun r40 σ41 =>
  if r40 = 0 then (
  b_X7_readPhrase_44  σ41 v0 v1) else (
  bl_let (bl_pI σ41 v0 4 ((bl_I σ41 v0 4) + 1)) fun σ44 =>
  k5 σ44 v0 v1)))
def f_X7_readPhrase (σ : bl_St) (a0 : Nat) : Option (Unit × bl_St) :=
  bl_let (bl_I σ a0 4) fun x46 =>
  bl_fx (fun _ _ _ => none) (b_X7_readPhrase_5 ) bl_fu σ a0 x46
def f_X8_clear (σ : bl_St) (a0 : Nat) : Option (Unit × bl_St) :=
  bl_let (bl_pI σ a0 0 0) fun σ1 =>
  bl_let (bl_pI σ1 a0 1 0) fun σ3 =>
  bl_let (bl_cS σ3 (fun j => bl_RF.getD j 0) 0 (bl_R σ3 a0 4) 0 3) fun σ8 =>
  some ((), σ8)
def b_X7_parse_63 (σ : bl_St) (v0 : Nat) : Option (Int32 × bl_St) :=
  if (bl_I σ v0 5) = (-1) then (
  bl_bd (f_X7_isWhole σ v0) fun r2 σ3 =>
  if r2 = 0 then (
  bl_let (bl_pI σ3 v0 5 (bl_I σ3 v0 3)) fun σ6 =>
  some ((bl_I σ6 v0 5), σ6)) else (
  some ((bl_I σ3 v0 5), σ3))) else (
  some ((bl_I σ v0 5), σ))
def b_X7_parse_23 (k23 : bl_St → Nat → Int32 → Option (Int32 × bl_St)) (σ : bl_St) (v0 : Nat) (v1 : Int32) : Option (Int32 × bl_St) :=
  if 400 ≤ v1 then (
  b_X7_parse_63  σ v0) else (
  if (bl_I σ v0 3) ≤ (bl_I σ v0 4) then (
  b_X7_parse_63  σ v0) else (
  if (bl_I σ v0 5) = (-1) then (
  bl_bd (f_X7_readPhrase σ v0) fun _ σ12 =>
  bl_bd (f_X7_skipBlanks σ12 v0) fun _ σ15 =>
  bl_let (v1 + 1) fun x17 =>
  k23 σ15 v0 x17) else (
  b_X7_parse_63  σ v0)))
def f_X7_parse (σ : bl_St) (a0 : Nat) : Option (Int32 × bl_St) :=
  bl_bd (f_X8_clear σ (bl_R σ a0 2)) fun _ σ21 =>
  bl_let (bl_pI σ21 a0 4 0) fun σ23 =>
  bl_let (bl_pI σ23 a0 5 (-1)) fun σ25 =>
  bl_bd (f_X7_skipBlanks σ25 a0) fun _ σ28 =>
  bl_fx (fun _ _ _ => none) (b_X7_parse_23 ) bl_fu σ28 a0 0
def f_X8_hasSort (σ : bl_St) (a0 : Nat) (a1 : Int32) : Option (Int32 × bl_St) :=
  if a1 < 0 then (
  some (0, σ)) else (
  if (bl_I σ a0 1) ≤ a1 then (
  some (0, σ)) else (
  some (1, σ)))
def f_X8_setPart (σ : bl_St) (a0 : Nat) (a1 : Int32) (a2 : Int32) (a3 : Int32) : Option (Unit × bl_St) :=
  bl_gd (bl_in ((a1 * 5) + a2) 40) (
  bl_let (bl_pI σ (bl_R σ a0 2) (Int32.toNatClampNeg ((a1 * 5) + a2)) a3) fun σ3 =>
  some ((), σ3))
def b_X8_removeSort_4 (k4 : bl_St → Nat → Int32 → Option (Unit × bl_St)) (σ : bl_St) (v0 : Nat) (v2 : Int32) : Option (Unit × bl_St) :=
  if (bl_I σ v0 1) ≤ v2 then (
  bl_let (bl_pI σ v0 1 ((bl_I σ v0 1) - 1)) fun σ2 =>
  some ((), σ2)) else (
  bl_bd (f_X8_sortPart σ v0 v2 0) fun r4 σ5 =>
  bl_bd (f_X8_setSortPart σ5 v0 (v2 - 1) 0 r4) fun _ σ8 =>
  bl_bd (f_X8_sortPart σ8 v0 v2 1) fun r10 σ11 =>
  bl_bd (f_X8_setSortPart σ11 v0 (v2 - 1) 1 r10) fun _ σ14 =>
  bl_let (v2 + 1) fun x16 =>
  k4 σ14 v0 x16)
def f_X8_removeSort (σ : bl_St) (a0 : Nat) (a1 : Int32) : Option (Unit × bl_St) :=
  bl_let (a1 + 1) fun x18 =>
  bl_fx (fun _ _ _ => none) (b_X8_removeSort_4 ) bl_fu σ a0 x18
def f_X9_feed (σ : bl_St) (a0 : Nat) (a1 : Int32) (a2 : Int32) (a3 : Int32) (a4 : Int32) (a5 : Int32) : Option (Int32 × bl_St) :=
  if ((bl_I σ (bl_R σ a0 0) 3) + 20) ≤ 400 then (
  bl_bd (f_X7_append σ (bl_R σ a0 0) a1) fun _ σ5 =>
  bl_bd (f_X7_append σ5 (bl_R σ5 a0 0) a2) fun _ σ9 =>
  bl_bd (f_X7_append σ9 (bl_R σ9 a0 0) a3) fun _ σ13 =>
  bl_bd (f_X7_append σ13 (bl_R σ13 a0 0) a4) fun _ σ17 =>
  bl_bd (f_X7_append σ17 (bl_R σ17 a0 0) a5) fun _ σ21 =>
  some ((bl_I σ21 (bl_R σ21 a0 0) 3), σ21)) else (
  some ((-1), σ))
def f_X9_back (σ : bl_St) (a0 : Nat) (a1 : Int32) : Option (Int32 × bl_St) :=
  if a1 < 0 then (
  some ((-1), σ)) else (
  if a1 ≤ (bl_I σ (bl_R σ a0 0) 3) then (
  bl_let (bl_pI σ (bl_R σ a0 0) 3 ((bl_I σ (bl_R σ a0 0) 3) - a1)) fun σ5 =>
  some ((bl_I σ5 (bl_R σ5 a0 0) 3), σ5)) else (
  some ((-1), σ)))
def f_X9_text (σ : bl_St) (a0 : Nat) : Option (Int32 × bl_St) :=
  bl_bd (f_X7_parse σ (bl_R σ a0 0)) fun r2 σ3 =>
  bl_let (bl_pI σ3 (bl_R σ3 a0 0) 3 0) fun σ6 =>
  if r2 = (-1) then (
  bl_bd (f_X8_copy σ6 (bl_R σ6 a0 2) (bl_R σ6 (bl_R σ6 a0 0) 2)) fun _ σ13 =>
  bl_bd (f_X2_clear σ13 (bl_R σ13 a0 4)) fun _ σ17 =>
  bl_bd (f_X6_forget σ17 (bl_R σ17 a0 6)) fun _ σ21 =>
  bl_bd (f_X4_look σ21 (bl_R σ21 a0 7) (bl_R σ21 a0 2) 1) fun _ σ26 =>
  some ((bl_I σ26 (bl_R σ26 a0 2) 0), σ26)) else (
  some (((-4) - r2), σ6))
def f_X9_highestPart (σ : bl_St) (a0 : Nat) (a1 : Int32) : Option (Int32 × bl_St) :=
  if a1 < 1 then (
  bl_gd (bl_in a1 bl_CH.length) (
  some ((bl_CH.getD (Int32.toNatClampNeg a1) 0), σ))) else (
  if 3 < a1 then (
  bl_gd (bl_in a1 bl_CH.length) (
  some ((bl_CH.getD (Int32.toNatClampNeg a1) 0), σ))) else (
  some (((bl_I σ (bl_R σ a0 2) 0) - 1), σ)))
def f_X9_keepForUndo (σ : bl_St) (a0 : Nat) : Option (Unit × bl_St) :=
  bl_bd (f_X6_keep σ (bl_R σ a0 6) (bl_R σ a0 2) (bl_R σ a0 4)) fun _ σ5 =>
  bl_bd (f_X4_look σ5 (bl_R σ5 a0 7) (bl_R σ5 a0 2) 1) fun _ σ10 =>
  some ((), σ10)
def f_X9_set (σ : bl_St) (a0 : Nat) (a1 : Int32) (a2 : Int32) (a3 : Int32) : Option (Int32 × bl_St) :=
  bl_bd (f_X8_hasClass σ (bl_R σ a0 2) a1) fun r2 σ3 =>
  if r2 = 0 then (
  some ((-1), σ3)) else (
  if a2 < 0 then (
  some ((-1), σ3)) else (
  if 5 ≤ a2 then (
  some ((-1), σ3)) else (
  if a3 < 0 then (
  some ((-1), σ3)) else (
  bl_bd (f_X9_highestPart σ3 a0 a2) fun r9 σ10 =>
  if a3 ≤ r9 then (
  bl_bd (f_X8_part σ10 (bl_R σ10 a0 2) a1 a2) fun r14 σ15 =>
  if r14 = a3 then (
  some ((-1), σ15)) else (
  bl_bd (f_X9_keepForUndo σ15 a0) fun _ σ19 =>
  bl_bd (f_X8_setPart σ19 (bl_R σ19 a0 2) a1 a2 a3) fun _ σ23 =>
  some (r14, σ23))) else (
  some ((-1), σ10))))))
def f_X9_sort (σ : bl_St) (a0 : Nat) (a1 : Int32) (a2 : Int32) (a3 : Int32) : Option (Int32 × bl_St) :=
  bl_bd (f_X8_hasSort σ (bl_R σ a0 2) a1) fun r2 σ3 =>
  if r2 = 0 then (
  some ((-1), σ3)) else (
  if a2 < 0 then (
  some ((-1), σ3)) else (
  if 2 ≤ a2 then (
  some ((-1), σ3)) else (
  if a3 < 1 then (
  some ((-1), σ3)) else (
  bl_gd (bl_in a2 bl_SH.length) (
  if a3 ≤ (bl_SH.getD (Int32.toNatClampNeg a2) 0) then (
  bl_bd (f_X8_sortPart σ3 (bl_R σ3 a0 2) a1 a2) fun r14 σ15 =>
  if r14 = a3 then (
  some ((-1), σ15)) else (
  bl_bd (f_X9_keepForUndo σ15 a0) fun _ σ19 =>
  bl_bd (f_X8_setSortPart σ19 (bl_R σ19 a0 2) a1 a2 a3) fun _ σ23 =>
  some (r14, σ23))) else (
  some ((-1), σ3)))))))
def f_X9_isRule (σ : bl_St) (a0 : Int32) (a1 : Int32) : Option (Int32 × bl_St) :=
  if a0 < 0 then (
  some (0, σ)) else (
  if 3 ≤ a0 then (
  some (0, σ)) else (
  bl_gd (bl_in a0 bl_RL.length) (
  if a1 < (bl_RL.getD (Int32.toNatClampNeg a0) 0) then (
  some (0, σ)) else (
  bl_gd (bl_in a0 bl_RH.length) (
  if (bl_RH.getD (Int32.toNatClampNeg a0) 0) < a1 then (
  some (0, σ)) else (
  some (1, σ)))))))
def b_X9_rule_24 (σ : bl_St) (v0 : Nat) (v1 : Int32) (v2 : Int32) : Option (Int32 × bl_St) :=
  bl_gd (bl_in v1 3) (
  bl_let (bl_I σ (bl_R σ (bl_R σ v0 2) 4) (Int32.toNatClampNeg v1)) fun x4 =>
  if x4 = v2 then (
  some ((-1), σ)) else (
  bl_bd (f_X9_keepForUndo σ v0) fun _ σ8 =>
  bl_gd (bl_in v1 3) (
  bl_let (bl_pI σ8 (bl_R σ8 (bl_R σ8 v0 2) 4) (Int32.toNatClampNeg v1) v2) fun σ13 =>
  some (x4, σ13))))
def f_X9_rule (σ : bl_St) (a0 : Nat) (a1 : Int32) (a2 : Int32) : Option (Int32 × bl_St) :=
  bl_bd (f_X9_isRule σ a1 a2) fun r15 σ16 =>
  if r15 = 0 then (
  some ((-1), σ16)) else (
  if a1 = 0 then (
  if (bl_I σ16 (bl_R σ16 a0 4) 1) = 0 then (
  b_X9_rule_24  σ16 a0 a1 a2) else (
  some ((-1), σ16))) else (
  b_X9_rule_24  σ16 a0 a1 a2))
def f_X9_begin (σ : bl_St) (a0 : Nat) (a1 : Int32) : Option (Int32 × bl_St) :=
  if (bl_I σ (bl_R σ a0 4) 1) = 0 then (
  if (bl_I σ (bl_R σ a0 2) 0) = 0 then (
  some ((-1), σ)) else (
  bl_bd (f_X9_keepForUndo σ a0) fun _ σ6 =>
  bl_bd (f_X2_startYear σ6 (bl_R σ6 a0 4) (bl_R σ6 a0 2) a1) fun r10 σ11 =>
  some (r10, σ11))) else (
  some ((-1), σ))
def f_X9_quiet (σ : bl_St) (a0 : Nat) : Option (Int32 × bl_St) :=
  if (bl_I σ (bl_R σ a0 4) 1) = 0 then (
  some ((-1), σ)) else (
  bl_bd (f_X9_keepForUndo σ a0) fun _ σ4 =>
  bl_bd (f_X2_passChance σ4 (bl_R σ4 a0 4) (bl_R σ4 a0 2)) fun r8 σ9 =>
  some (r8, σ9))
def f_X9_loss (σ : bl_St) (a0 : Nat) (a1 : Int32) (a2 : Int32) : Option (Int32 × bl_St) :=
  if (bl_I σ (bl_R σ a0 4) 1) = 0 then (
  some ((-1), σ)) else (
  bl_bd (f_X8_hasSort σ (bl_R σ a0 2) a1) fun r4 σ5 =>
  if r4 = 0 then (
  some ((-1), σ5)) else (
  bl_bd (f_X9_keepForUndo σ5 a0) fun _ σ9 =>
  bl_bd (f_X2_takeLoss σ9 (bl_R σ9 a0 4) (bl_R σ9 a0 2) a1 a2) fun r13 σ14 =>
  bl_bd (f_X2_passChance σ14 (bl_R σ14 a0 4) (bl_R σ14 a0 2)) fun r18 σ19 =>
  some (r13, σ19)))
def f_X9_isThumb (σ : bl_St) (a0 : Int32) (a1 : Int32) : Option (Int32 × bl_St) :=
  if a0 = 3 then (
  if a1 < 0 then (
  some (0, σ)) else (
  if 999 < a1 then (
  some (0, σ)) else (
  some (1, σ)))) else (
  if a0 < 0 then (
  some (0, σ)) else (
  if 3 ≤ a0 then (
  some (0, σ)) else (
  if a1 = 0 then (
  some (1, σ)) else (
  some (0, σ)))))
def f_X9_canLive (σ : bl_St) (a0 : Nat) (a1 : Int32) (a2 : Int32) (a3 : Int32) : Option (Int32 × bl_St) :=
  if (bl_I σ (bl_R σ a0 2) 0) ≤ 0 then (
  some (0, σ)) else (
  if a1 < 1 then (
  some (0, σ)) else (
  if 20 < a1 then (
  some (0, σ)) else (
  bl_bd (f_X9_isThumb σ a2 a3) fun r5 σ6 =>
  if r5 = 0 then (
  some (0, σ6)) else (
  some (1, σ6)))))
def f_X9_isTold (σ : bl_St) (a0 : Nat) (a1 : Nat) (a2 : Int32) (a3 : Int32) (a4 : Int32) : Option (Int32 × bl_St) :=
  if a2 = 1 then (
  some (1, σ)) else if a2 = 2 then (
  some (0, σ)) else if a2 = 3 then (
  bl_bd (f_X8_sortPart σ (bl_R σ a0 2) a4 0) fun r5 σ6 =>
  if r5 ≤ a3 then (
  some (0, σ6)) else (
  some (1, σ6))) else (
  bl_bd (f_X4_gainOf σ (bl_R σ a0 7) (bl_I σ a1 2) (if (bl_I σ a1 3) < 2 then (bl_I σ a1 3) else 2) (bl_I σ a1 4) a4) fun r10 σ11 =>
  if r10 ≤ 0 then (
  some (0, σ11)) else (
  some (1, σ11)))
def b_X9_liveOneYear_109 (k49 : bl_St → Nat → Nat → Int32 → Int32 → Int32 → Int32 → Option (Unit × bl_St)) (σ : bl_St) (v0 : Nat) (v1 : Nat) (v3 : Int32) (v4 : Int32) (v6 : Int32) (v7 : Int32) : Option (Unit × bl_St) :=
  bl_bd (f_X2_passChance σ v1 (bl_R σ v0 2)) fun r2 σ3 =>
  bl_let (v7 + 1) fun x5 =>
  k49 σ3 v0 v1 v3 v4 v6 x5
def b_X9_liveOneYear_49 (k49 : bl_St → Nat → Nat → Int32 → Int32 → Int32 → Int32 → Option (Unit × bl_St)) (σ : bl_St) (v0 : Nat) (v1 : Nat) (v3 : Int32) (v4 : Int32) (v6 : Int32) (v7 : Int32) : Option (Unit × bl_St) :=
  if v6 ≤ v7 then (
  some ((), σ)) else (
  bl_bd (f_X0_next σ (bl_R σ v0 10) 12) fun r9 σ10 =>
  bl_bd (f_X8_odds σ10 (bl_R σ10 v0 2)) fun r13 σ14 =>
  if r13 ≤ r9 then (
  b_X9_liveOneYear_109 k49 σ14 v0 v1 v3 v4 v6 v7) else (
  bl_bd (f_X0_nextSort σ14 (bl_R σ14 v0 10) (bl_R σ14 v0 2)) fun r19 σ20 =>
  bl_bd (f_X9_isTold σ20 v0 v1 v3 v4 r19) fun r23 σ24 =>
  bl_bd (f_X2_takeLoss σ24 v1 (bl_R σ20 v0 2) r19 r23) fun r26 σ27 =>
  b_X9_liveOneYear_109 k49 σ27 v0 v1 v3 v4 v6 v7))
def b_X9_liveOneYear_24 (σ : bl_St) (v0 : Nat) (v1 : Nat) (v3 : Int32) (v4 : Int32) (s0 : Int32) : Option (Unit × bl_St) :=
  bl_bd (f_X8_chances σ (bl_R σ v0 2)) fun r30 σ31 =>
  bl_bd (f_X2_startYear σ31 v1 (bl_R σ31 v0 2) s0) fun r34 σ35 =>
  bl_fx (fun _ _ _ _ _ _ _ => none) (b_X9_liveOneYear_49 ) bl_fu σ35 v0 v1 v3 v4 r30 0
def b_X9_liveOneYear_23 (σ : bl_St) (v0 : Nat) (v1 : Nat) (v3 : Int32) (v4 : Int32) : Option (Unit × bl_St) :=
  b_X9_liveOneYear_24  σ v0 v1 v3 v4 0
def f_X9_liveOneYear (σ : bl_St) (a0 : Nat) (a1 : Nat) (a2 : Int32) (a3 : Int32) (a4 : Int32) : Option (Unit × bl_St) :=
  if a3 = 0 then (
  bl_bd (f_X4_buys σ (bl_R σ a0 7) a2 (bl_I σ a1 0)) fun r39 σ40 =>
  if r39 = 0 then (
  b_X9_liveOneYear_23  σ40 a0 a1 a3 a4) else (
  b_X9_liveOneYear_24  σ40 a0 a1 a3 a4 1)) else (
  b_X9_liveOneYear_23  σ a0 a1 a3 a4)
def b_X9_liveByDraws_30 (k30 : bl_St → Nat → Nat → Int32 → Int32 → Int32 → Int32 → Option (Int32 × bl_St)) (σ : bl_St) (v0 : Nat) (v1 : Nat) (v3 : Int32) (v4 : Int32) (v6 : Int32) (v7 : Int32) : Option (Int32 × bl_St) :=
  if v7 ≤ 0 then (
  bl_bd (f_X2_allPaid σ v1) fun r2 σ3 =>
  some ((r2 - v6), σ3)) else (
  bl_bd (f_X9_liveOneYear σ v0 v1 v7 v3 v4) fun _ σ6 =>
  bl_let (v7 + (-1)) fun x8 =>
  k30 σ6 v0 v1 v3 v4 v6 x8)
def b_X9_liveByDraws_27 (σ : bl_St) (v0 : Nat) (v1 : Nat) (v2 : Int32) (v3 : Int32) (v4 : Int32) (v6 : Int32) : Option (Int32 × bl_St) :=
  bl_fx (fun _ _ _ _ _ _ _ => none) (b_X9_liveByDraws_30 ) bl_fu σ v0 v1 v3 v4 v6 v2
def f_X9_liveByDraws (σ : bl_St) (a0 : Nat) (a1 : Nat) (a2 : Int32) (a3 : Int32) (a4 : Int32) (a5 : Int32) : Option (Int32 × bl_St) :=
  bl_bd (f_X2_allPaid σ a1) fun r10 σ11 =>
  bl_let (bl_pI σ11 (bl_R σ11 a0 10) 0 a5) fun σ14 =>
  if a3 = 0 then (
  bl_bd (f_X4_learn σ14 (bl_R σ14 a0 7) a2) fun _ σ19 =>
  b_X9_liveByDraws_27  σ19 a0 a1 a2 a3 a4 r10) else (
  b_X9_liveByDraws_27  σ14 a0 a1 a2 a3 a4 r10)
def f_X9_live (σ : bl_St) (a0 : Nat) (a1 : Int32) (a2 : Int32) (a3 : Int32) (a4 : Int32) : Option (Int32 × bl_St) :=
  if (bl_I σ (bl_R σ a0 4) 1) = 0 then (
  bl_bd (f_X9_canLive σ a0 a1 a2 a3) fun r3 σ4 =>
  if r3 = 0 then (
  some ((-1), σ4)) else (
  bl_bd (f_X9_keepForUndo σ4 a0) fun _ σ8 =>
  bl_bd (f_X9_liveByDraws σ8 a0 (bl_R σ8 a0 4) a1 a2 a3 a4) fun r11 σ12 =>
  some (r11, σ12))) else (
  some ((-1), σ))
def f_X9_come (σ : bl_St) (a0 : Nat) (a1 : Int32) (a2 : Int32) : Option (Int32 × bl_St) :=
  if a1 < 1 then (
  some ((-1), σ)) else (
  if (bl_SH.getD (Int32.toNatClampNeg 0) 0) < a1 then (
  some ((-1), σ)) else (
  if a2 < 1 then (
  some ((-1), σ)) else (
  if a2 ≤ (bl_SH.getD (Int32.toNatClampNeg 1) 0) then (
  if 5 ≤ (bl_I σ (bl_R σ a0 2) 1) then (
  some ((-1), σ)) else (
  if (bl_I σ (bl_R σ a0 2) 0) = 0 then (
  some ((-1), σ)) else (
  bl_bd (f_X9_keepForUndo σ a0) fun _ σ14 =>
  bl_bd (f_X8_addSort σ14 (bl_R σ14 a0 2) a1 a2) fun _ σ18 =>
  some (((bl_I σ18 (bl_R σ18 a0 2) 1) - 1), σ18)))) else (
  some ((-1), σ)))))
def f_X9_drop (σ : bl_St) (a0 : Nat) (a1 : Int32) : Option (Int32 × bl_St) :=
  bl_bd (f_X8_hasSort σ (bl_R σ a0 2) a1) fun r2 σ3 =>
  if r2 = 0 then (
  some ((-1), σ3)) else (
  if (bl_I σ3 (bl_R σ3 a0 2) 1) = 1 then (
  some ((-1), σ3)) else (
  bl_bd (f_X9_keepForUndo σ3 a0) fun _ σ9 =>
  bl_bd (f_X8_removeSort σ9 (bl_R σ9 a0 2) a1) fun _ σ13 =>
  some ((bl_I σ13 (bl_R σ13 a0 2) 1), σ13)))
def f_X9_move (σ : bl_St) (a0 : Nat) (a1 : Int32) : Option (Int32 × bl_St) :=
  bl_bd (f_X8_hasClass σ (bl_R σ a0 2) a1) fun r2 σ3 =>
  if r2 = 0 then (
  some ((-1), σ3)) else (
  if (bl_I σ3 (bl_R σ3 a0 4) 1) = 0 then (
  if (bl_I σ3 (bl_R σ3 a0 4) 0) = a1 then (
  some ((-1), σ3)) else (
  bl_bd (f_X9_keepForUndo σ3 a0) fun _ σ11 =>
  bl_let (bl_I σ11 (bl_R σ11 a0 4) 0) fun x14 =>
  bl_let (bl_pI σ11 (bl_R σ11 a0 4) 0 a1) fun σ17 =>
  some (x14, σ17))) else (
  some ((-1), σ3)))
def f_X9_anew (σ : bl_St) (a0 : Nat) : Option (Int32 × bl_St) :=
  bl_bd (f_X9_keepForUndo σ a0) fun _ σ2 =>
  bl_let (bl_I σ2 (bl_R σ2 a0 4) 6) fun x5 =>
  bl_bd (f_X2_clear σ2 (bl_R σ2 a0 4)) fun _ σ9 =>
  some (x5, σ9)
def f_X9_undo (σ : bl_St) (a0 : Nat) : Option (Int32 × bl_St) :=
  bl_bd (f_X6_takeBack σ (bl_R σ a0 6) (bl_R σ a0 2) (bl_R σ a0 4)) fun r4 σ5 =>
  if r4 = 0 then (
  some ((-1), σ5)) else (
  bl_bd (f_X4_look σ5 (bl_R σ5 a0 7) (bl_R σ5 a0 2) 1) fun _ σ11 =>
  some ((bl_I σ11 (bl_R σ11 a0 6) 3), σ11))
def f_X9_of (σ : bl_St) (a0 : Nat) (a1 : Int32) (a2 : Int32) : Option (Int32 × bl_St) :=
  bl_bd (f_X8_hasClass σ (bl_R σ a0 2) a1) fun r2 σ3 =>
  if r2 = 0 then (
  some ((-1), σ3)) else (
  if a2 < 0 then (
  some ((-1), σ3)) else (
  if a2 < 5 then (
  bl_bd (f_X8_part σ3 (bl_R σ3 a0 2) a1 a2) fun r9 σ10 =>
  some (r9, σ10)) else (
  some ((-1), σ3))))
def f_X9_ofSort (σ : bl_St) (a0 : Nat) (a1 : Int32) (a2 : Int32) : Option (Int32 × bl_St) :=
  bl_bd (f_X8_hasSort σ (bl_R σ a0 2) a1) fun r2 σ3 =>
  if r2 = 0 then (
  some ((-1), σ3)) else (
  if a2 = 0 then (
  bl_bd (f_X8_sortPart σ3 (bl_R σ3 a0 2) a1 0) fun r8 σ9 =>
  some (r8, σ9)) else if a2 = 1 then (
  bl_bd (f_X8_sortPart σ3 (bl_R σ3 a0 2) a1 1) fun r13 σ14 =>
  some (r13, σ14)) else if a2 = 2 then (
  bl_bd (f_X8_odds σ3 (bl_R σ3 a0 2)) fun r18 σ19 =>
  bl_bd (f_X8_sortPart σ19 (bl_R σ19 a0 2) a1 1) fun r22 σ23 =>
  some ((r18 * r22), σ23)) else (
  some ((-1), σ3)))
def f_X9_life (σ : bl_St) (a0 : Nat) (a1 : Int32) : Option (Int32 × bl_St) :=
  if a1 = 0 then (
  if (bl_I σ (bl_R σ a0 2) 0) = 0 then (
  some ((-1), σ)) else (
  some ((bl_I σ (bl_R σ a0 4) 0), σ))) else if a1 = 1 then (
  if (bl_I σ (bl_R σ a0 4) 1) = 0 then (
  some (0, σ)) else (
  some (1, σ))) else if a1 = 2 then (
  some ((bl_I σ (bl_R σ a0 4) 2), σ)) else if a1 = 3 then (
  some ((bl_I σ (bl_R σ a0 4) 3), σ)) else if a1 = 4 then (
  if (bl_I σ (bl_R σ a0 4) 4) = 0 then (
  some (0, σ)) else (
  some (1, σ))) else if a1 = 5 then (
  some ((bl_I σ (bl_R σ a0 4) 6), σ)) else if a1 = 6 then (
  some ((bl_I σ (bl_R σ a0 4) 7), σ)) else if a1 = 7 then (
  some ((bl_I σ (bl_R σ a0 4) 8), σ)) else if a1 = 8 then (
  some ((bl_I σ (bl_R σ a0 4) 9), σ)) else if a1 = 9 then (
  some ((bl_I σ (bl_R σ a0 4) 10), σ)) else if a1 = 10 then (
  some ((bl_I σ (bl_R σ a0 4) 11), σ)) else if a1 = 11 then (
  some ((bl_I σ (bl_R σ a0 4) 12), σ)) else if a1 = 12 then (
  bl_bd (f_X2_allPaid σ (bl_R σ a0 4)) fun r31 σ32 =>
  some (r31, σ32)) else (
  some ((-1), σ))
def f_X9_entry (σ : bl_St) (a0 : Nat) (a1 : Int32) (a2 : Int32) (a3 : Int32) : Option (Int32 × bl_St) :=
  if a2 < 0 then (
  some ((-1), σ)) else (
  if (if a1 < 16 then a1 else 16) ≤ a2 then (
  some ((-1), σ)) else (
  if a3 < 0 then (
  some ((-1), σ)) else (
  if a3 < 3 then (
  bl_gd (bl_in (((((a1 - 1) - a2) - ((a1 - 1) - a2) / 16 * 16) * 3) + a3) 48) (
  some ((bl_I σ a0 (Int32.toNatClampNeg (((((a1 - 1) - a2) - ((a1 - 1) - a2) / 16 * 16) * 3) + a3))), σ))) else (
  some ((-1), σ)))))
def f_X9_book (σ : bl_St) (a0 : Nat) (a1 : Int32) (a2 : Int32) : Option (Int32 × bl_St) :=
  bl_bd (f_X9_entry σ (bl_R σ (bl_R σ a0 4) 13) ((bl_I σ (bl_R σ a0 4) 11) + (bl_I σ (bl_R σ a0 4) 12)) a1 a2) fun r5 σ6 =>
  some (r5, σ6)
def f_X9_ledger (σ : bl_St) (a0 : Nat) (a1 : Int32) (a2 : Int32) : Option (Int32 × bl_St) :=
  bl_bd (f_X9_entry σ (bl_R σ (bl_R σ a0 4) 14) (bl_I σ (bl_R σ a0 4) 6) a1 a2) fun r4 σ5 =>
  some (r4, σ5)
def b_X9_commonDivisor_7 (k7 : bl_St → Int32 → Int32 → Int32 → Option (Int32 × bl_St)) (σ : bl_St) (v2 : Int32) (v3 : Int32) (v4 : Int32) : Option (Int32 × bl_St) :=
  if 64 ≤ v4 then (
  some ((if 1 < v2 then v2 else 1), σ)) else (
  if v3 = 0 then (
  some ((if 1 < v2 then v2 else 1), σ)) else (
  bl_gd (!(decide (v3 = 0))) (
  bl_let (v2 - v2 / v3 * v3) fun x4 =>
  bl_let (v4 + 1) fun x6 =>
  k7 σ v3 x4 x6)))
def f_X9_commonDivisor (σ : bl_St) (a0 : Int32) (a1 : Int32) : Option (Int32 × bl_St) :=
  bl_fx (fun _ _ _ _ => none) (b_X9_commonDivisor_7 ) bl_fu σ a0 a1 0
def b_X9_mean_24 (k24 : bl_St → Nat → Int32 → Int32 → Int32 → Int32 → Option (Int32 × bl_St)) (σ : bl_St) (v0 : Nat) (v1 : Int32) (v2 : Int32) (v3 : Int32) (v4 : Int32) : Option (Int32 × bl_St) :=
  if v2 ≤ v4 then (
  bl_bd (f_X9_commonDivisor σ v3 v2) fun r2 σ3 =>
  if v1 = 0 then (
  bl_gd (!(decide (r2 = 0))) (
  some ((v3 / r2), σ3))) else (
  bl_gd (!(decide (r2 = 0))) (
  some ((v2 / r2), σ3)))) else (
  bl_bd (f_X9_entry σ (bl_R σ (bl_R σ v0 4) 14) (bl_I σ (bl_R σ v0 4) 6) v4 1) fun r11 σ12 =>
  bl_let (v3 + r11) fun x14 =>
  bl_let (v4 + 1) fun x16 =>
  k24 σ12 v0 v1 v2 x14 x16)
def f_X9_mean (σ : bl_St) (a0 : Nat) (a1 : Int32) : Option (Int32 × bl_St) :=
  bl_let (if (bl_I σ (bl_R σ a0 4) 6) < 16 then (bl_I σ (bl_R σ a0 4) 6) else 16) fun x19 =>
  if 0 < x19 then (
  bl_fx (fun _ _ _ _ _ _ => none) (b_X9_mean_24 ) bl_fu σ a0 a1 x19 0 0) else (
  some ((-1), σ))
def f_X9_isAsked (σ : bl_St) (a0 : Nat) (a1 : Int32) (a2 : Int32) : Option (Int32 × bl_St) :=
  if a1 < 0 then (
  some (0, σ)) else (
  if 20 < a1 then (
  some (0, σ)) else (
  bl_bd (f_X8_hasClass σ (bl_R σ a0 2) a2) fun r4 σ5 =>
  if r4 = 0 then (
  some (0, σ5)) else (
  some (1, σ5))))
def f_X9_cost (σ : bl_St) (a0 : Nat) (a1 : Int32) (a2 : Int32) : Option (Int64 × bl_St) :=
  bl_bd (f_X9_isAsked σ a0 a1 a2) fun r1 σ2 =>
  if r1 = 0 then (
  some ((-1), σ2)) else (
  bl_bd (f_X4_costOf σ2 (bl_R σ2 a0 7) a1 a2) fun r6 σ7 =>
  some (r6, σ7))
def f_X9_guards (σ : bl_St) (a0 : Nat) (a1 : Int32) (a2 : Int32) : Option (Int32 × bl_St) :=
  bl_bd (f_X9_isAsked σ a0 a1 a2) fun r1 σ2 =>
  if r1 = 0 then (
  some ((-1), σ2)) else (
  if a1 = 0 then (
  some (0, σ2)) else (
  bl_bd (f_X4_learn σ2 (bl_R σ2 a0 7) (a1 - 1)) fun _ σ8 =>
  bl_bd (f_X4_buys σ8 (bl_R σ8 a0 7) a1 a2) fun r11 σ12 =>
  if r11 = 0 then (
  some (0, σ12)) else (
  some (1, σ12))))
def f_X9_isState (σ : bl_St) (a0 : Nat) (a1 : Int32) (a2 : Int32) (a3 : Int32) (a4 : Int32) : Option (Int32 × bl_St) :=
  if a1 ≤ 0 then (
  some (0, σ)) else (
  bl_bd (f_X9_isAsked σ a0 a1 a2) fun r2 σ3 =>
  if r2 = 0 then (
  some (0, σ3)) else (
  if a3 < 0 then (
  some (0, σ3)) else (
  bl_bd (f_X8_chances σ3 (bl_R σ3 a0 2)) fun r8 σ9 =>
  if r8 < a3 then (
  some (0, σ9)) else (
  if a4 < 0 then (
  some (0, σ9)) else (
  if 3 ≤ a4 then (
  some (0, σ9)) else (
  some (1, σ9)))))))
def f_X9_ahead (σ : bl_St) (a0 : Nat) (a1 : Int32) (a2 : Int32) (a3 : Int32) (a4 : Int32) (a5 : Int32) : Option (Int64 × bl_St) :=
  bl_bd (f_X9_isState σ a0 a1 a2 a3 a4) fun r1 σ2 =>
  if r1 = 0 then (
  some ((-1), σ2)) else (
  bl_bd (f_X4_learn σ2 (bl_R σ2 a0 7) (a1 - 1)) fun _ σ7 =>
  bl_bd (f_X4_lookAhead σ7 (bl_R σ7 a0 7) a1 a2 a3 a4 a5) fun _ σ11 =>
  bl_bd (f_X4_aheadOf σ11 (bl_R σ11 a0 7) a3 a4 a5) fun r14 σ15 =>
  some (r14, σ15))
def f_X9_least (σ : bl_St) (a0 : Nat) (a1 : Int32) (a2 : Int32) (a3 : Int32) (a4 : Int32) (a5 : Int32) : Option (Int32 × bl_St) :=
  bl_bd (f_X9_isState σ a0 a1 a2 a3 a4) fun r1 σ2 =>
  if r1 = 0 then (
  some ((-1), σ2)) else (
  bl_bd (f_X8_chances σ2 (bl_R σ2 a0 2)) fun r6 σ7 =>
  if a3 = r6 then (
  some ((-1), σ7)) else (
  bl_bd (f_X4_learn σ7 (bl_R σ7 a0 7) (a1 - 1)) fun _ σ12 =>
  bl_bd (f_X4_lookAhead σ12 (bl_R σ12 a0 7) a1 a2 a3 a4 a5) fun _ σ16 =>
  bl_bd (f_X4_leastTold σ16 (bl_R σ16 a0 7) a3 a4 a5) fun r19 σ20 =>
  some (r19, σ20)))
def b_X9_tells_95 (k55 : bl_St → Nat → Int32 → Int32 → Int32 → Int32 → Int32 → Option (Int32 × bl_St)) (σ : bl_St) (v0 : Nat) (v3 : Int32) (v4 : Int32) (v5 : Int32) (v6 : Int32) (v7 : Int32) : Option (Int32 × bl_St) :=
  bl_let (v7 + 1) fun x1 =>
  k55 σ v0 v3 v4 v5 v6 x1
def b_X9_tells_55 (k55 : bl_St → Nat → Int32 → Int32 → Int32 → Int32 → Int32 → Option (Int32 × bl_St)) (σ : bl_St) (v0 : Nat) (v3 : Int32) (v4 : Int32) (v5 : Int32) (v6 : Int32) (v7 : Int32) : Option (Int32 × bl_St) :=
  if (bl_I σ (bl_R σ v0 2) 1) ≤ v7 then (
  some (v6, σ)) else (
  bl_bd (f_X4_gainOf σ (bl_R σ v0 7) v3 v4 v5 v7) fun r6 σ7 =>
  if r6 ≤ 0 then (
  b_X9_tells_95 k55 σ7 v0 v3 v4 v5 v6 v7) else (
  bl_let (v6 ||| (1 <<< (v7 &&& 31))) fun x10 =>
  b_X9_tells_95 k55 σ7 v0 v3 v4 v5 x10 v7))
def f_X9_tells (σ : bl_St) (a0 : Nat) (a1 : Int32) (a2 : Int32) (a3 : Int32) (a4 : Int32) (a5 : Int32) : Option (Int32 × bl_St) :=
  bl_bd (f_X9_isState σ a0 a1 a2 a3 a4) fun r12 σ13 =>
  if r12 = 0 then (
  some ((-1), σ13)) else (
  bl_bd (f_X8_chances σ13 (bl_R σ13 a0 2)) fun r17 σ18 =>
  if a3 = r17 then (
  some ((-1), σ18)) else (
  bl_bd (f_X4_learn σ18 (bl_R σ18 a0 7) (a1 - 1)) fun _ σ23 =>
  bl_bd (f_X4_lookAhead σ23 (bl_R σ23 a0 7) a1 a2 a3 a4 a5) fun _ σ27 =>
  bl_fx (fun _ _ _ _ _ _ _ => none) (b_X9_tells_55 ) bl_fu σ27 a0 a3 a4 a5 0 0))
def f_X9_gain (σ : bl_St) (a0 : Nat) (a1 : Int32) (a2 : Int32) (a3 : Int32) (a4 : Int32) (a5 : Int32) (a6 : Int32) : Option (Int64 × bl_St) :=
  bl_bd (f_X9_isState σ a0 a1 a2 a3 a4) fun r1 σ2 =>
  if r1 = 0 then (
  some ((-9223372036854775808), σ2)) else (
  bl_bd (f_X8_chances σ2 (bl_R σ2 a0 2)) fun r6 σ7 =>
  if a3 = r6 then (
  some ((-9223372036854775808), σ7)) else (
  bl_bd (f_X8_hasSort σ7 (bl_R σ7 a0 2) a6) fun r11 σ12 =>
  if r11 = 0 then (
  some ((-9223372036854775808), σ12)) else (
  bl_bd (f_X4_learn σ12 (bl_R σ12 a0 7) (a1 - 1)) fun _ σ17 =>
  bl_bd (f_X4_lookAhead σ17 (bl_R σ17 a0 7) a1 a2 a3 a4 a5) fun _ σ21 =>
  bl_bd (f_X4_gainOf σ21 (bl_R σ21 a0 7) a3 a4 a5 a6) fun r24 σ25 =>
  some (r24, σ25))))
def b_X9_patience_26 (k26 : bl_St → Nat → Int32 → Int32 → Int32 → Option (Int32 × bl_St)) (σ : bl_St) (v0 : Nat) (v1 : Int32) (v2 : Int32) (v3 : Int32) : Option (Int32 × bl_St) :=
  if 20 < v3 then (
  some ((-2), σ)) else (
  bl_bd (f_X4_learn σ (bl_R σ v0 7) (v3 - 1)) fun _ σ4 =>
  bl_bd (f_X4_lookAhead σ4 (bl_R σ4 v0 7) v3 v1 0 0 0) fun _ σ8 =>
  bl_bd (f_X4_gainOf σ8 (bl_R σ8 v0 7) 0 0 0 v2) fun r11 σ12 =>
  if 0 < r11 then (
  bl_let (v3 + 1) fun x15 =>
  k26 σ12 v0 v1 v2 x15) else (
  some (v3, σ12)))
def f_X9_patience (σ : bl_St) (a0 : Nat) (a1 : Int32) (a2 : Int32) : Option (Int32 × bl_St) :=
  bl_bd (f_X8_hasClass σ (bl_R σ a0 2) a1) fun r18 σ19 =>
  if r18 = 0 then (
  some ((-1), σ19)) else (
  bl_bd (f_X8_hasSort σ19 (bl_R σ19 a0 2) a2) fun r23 σ24 =>
  if r23 = 0 then (
  some ((-1), σ24)) else (
  bl_fx (fun _ _ _ _ _ => none) (b_X9_patience_26 ) bl_fu σ24 a0 a1 a2 1))
def f_X9_worst (σ : bl_St) (a0 : Nat) (a1 : Int32) (a2 : Int32) : Option (Int64 × bl_St) :=
  bl_bd (f_X9_isAsked σ a0 a1 a2) fun r1 σ2 =>
  if r1 = 0 then (
  some ((-1), σ2)) else (
  bl_bd (f_X4_look σ2 (bl_R σ2 a0 8) (bl_R σ2 a0 2) 0) fun _ σ8 =>
  bl_let (bl_pI σ8 (bl_R σ8 a0 8) 4 1) fun σ11 =>
  bl_bd (f_X4_costOf σ11 (bl_R σ11 a0 8) a1 a2) fun r14 σ15 =>
  some (r14, σ15))
def f_X9_bareCost (σ : bl_St) (a0 : Nat) (a1 : Int32) (a2 : Int32) : Option (Int64 × bl_St) :=
  bl_bd (f_X4_look σ (bl_R σ a0 8) (bl_R σ a0 2) 0) fun _ σ4 =>
  bl_bd (f_X4_costOf σ4 (bl_R σ4 a0 8) a1 a2) fun r7 σ8 =>
  some (r7, σ8)
def f_X9_bare (σ : bl_St) (a0 : Nat) (a1 : Int32) (a2 : Int32) : Option (Int64 × bl_St) :=
  bl_bd (f_X9_isAsked σ a0 a1 a2) fun r1 σ2 =>
  if r1 = 0 then (
  some ((-1), σ2)) else (
  bl_bd (f_X9_bareCost σ2 a0 a1 a2) fun r5 σ6 =>
  some (r5, σ6))
def f_X9_costByRule (σ : bl_St) (a0 : Nat) (a1 : Int32) (a2 : Int32) (a3 : Int32) (a4 : Int32) : Option (Int64 × bl_St) :=
  bl_bd (f_X4_look σ (bl_R σ a0 8) (bl_R σ a0 2) 0) fun _ σ4 =>
  bl_let (bl_pI σ4 (bl_R σ4 a0 8) 2 a1) fun σ7 =>
  bl_let (bl_pI σ7 (bl_R σ7 a0 8) 3 a2) fun σ10 =>
  bl_bd (f_X4_costOf σ10 (bl_R σ10 a0 8) a3 a4) fun r13 σ14 =>
  some (r13, σ14)
def f_X9_by (σ : bl_St) (a0 : Nat) (a1 : Int32) (a2 : Int32) (a3 : Int32) (a4 : Int32) : Option (Int64 × bl_St) :=
  bl_bd (f_X9_isAsked σ a0 a3 a4) fun r1 σ2 =>
  if r1 = 0 then (
  some ((-1), σ2)) else (
  bl_bd (f_X9_isThumb σ2 a1 a2) fun r5 σ6 =>
  if r5 = 0 then (
  some ((-1), σ6)) else (
  bl_bd (f_X9_costByRule σ6 a0 a1 a2 a3 a4) fun r9 σ10 =>
  some (r9, σ10)))
def b_X9_bestLimit_90 (k26 : bl_St → Nat → Int32 → Int32 → Int32 → Int64 → Int32 → Option (Int32 × bl_St)) (σ : bl_St) (v0 : Nat) (v1 : Int32) (v2 : Int32) (v3 : Int32) (v4 : Int64) (v6 : Int32) : Option (Int32 × bl_St) :=
  bl_let (v6 + 1) fun x1 =>
  k26 σ v0 v1 v2 v3 v4 x1
def b_X9_bestLimit_83 (k26 : bl_St → Nat → Int32 → Int32 → Int32 → Int64 → Int32 → Option (Int32 × bl_St)) (σ : bl_St) (v0 : Nat) (v1 : Int32) (v2 : Int32) (v6 : Int32) (v7 : Int32) (v8 : Int64) : Option (Int32 × bl_St) :=
  b_X9_bestLimit_90 k26 σ v0 v1 v2 v7 v8 v6
def b_X9_bestLimit_26 (k26 : bl_St → Nat → Int32 → Int32 → Int32 → Int64 → Int32 → Option (Int32 × bl_St)) (σ : bl_St) (v0 : Nat) (v1 : Int32) (v2 : Int32) (v3 : Int32) (v4 : Int64) (v6 : Int32) : Option (Int32 × bl_St) :=
  if (bl_I σ (bl_R σ v0 2) 1) ≤ v6 then (
  some (v3, σ)) else (
  bl_bd (f_X8_sortPart σ (bl_R σ v0 2) v6 0) fun r6 σ7 =>
  bl_bd (f_X9_costByRule σ7 v0 3 r6 v1 v2) fun r9 σ10 =>
  if r9 < v4 then (
  b_X9_bestLimit_83 k26 σ10 v0 v1 v2 v6 r6 r9) else (
  if r9 = v4 then (
  if v3 ≤ r6 then (
  b_X9_bestLimit_90 k26 σ10 v0 v1 v2 v3 v4 v6) else (
  b_X9_bestLimit_83 k26 σ10 v0 v1 v2 v6 r6 r9)) else (
  b_X9_bestLimit_90 k26 σ10 v0 v1 v2 v3 v4 v6)))
def f_X9_bestLimit (σ : bl_St) (a0 : Nat) (a1 : Int32) (a2 : Int32) : Option (Int32 × bl_St) :=
  bl_bd (f_X9_isAsked σ a0 a1 a2) fun r15 σ16 =>
  if r15 = 0 then (
  some ((-1), σ16)) else (
  bl_bd (f_X9_costByRule σ16 a0 3 0 a1 a2) fun r19 σ20 =>
  bl_fx (fun _ _ _ _ _ _ _ => none) (b_X9_bestLimit_26 ) bl_fu σ20 a0 a1 a2 0 r19 0)
def f_X9_worth (σ : bl_St) (a0 : Nat) (a1 : Int32) (a2 : Int32) (a3 : Int32) : Option (Int64 × bl_St) :=
  bl_bd (f_X9_isAsked σ a0 a1 a2) fun r1 σ2 =>
  if r1 = 0 then (
  some ((-9223372036854775808), σ2)) else (
  bl_bd (f_X8_hasClass σ2 (bl_R σ2 a0 2) a3) fun r6 σ7 =>
  if r6 = 0 then (
  some ((-9223372036854775808), σ7)) else (
  bl_bd (f_X4_costOf σ7 (bl_R σ7 a0 7) a1 a3) fun r11 σ12 =>
  bl_bd (f_X4_costOf σ12 (bl_R σ12 a0 7) a1 a2) fun r15 σ16 =>
  some ((r11 - r15), σ16)))
def b_X9_cheapest_50 (k15 : bl_St → Nat → Int32 → Int32 → Int32 → Option (Int32 × bl_St)) (σ : bl_St) (v0 : Nat) (v1 : Int32) (v2 : Int32) (v3 : Int32) : Option (Int32 × bl_St) :=
  bl_let (v3 + 1) fun x1 =>
  k15 σ v0 v1 v2 x1
def b_X9_cheapest_15 (k15 : bl_St → Nat → Int32 → Int32 → Int32 → Option (Int32 × bl_St)) (σ : bl_St) (v0 : Nat) (v1 : Int32) (v2 : Int32) (v3 : Int32) : Option (Int32 × bl_St) :=
  if (bl_I σ (bl_R σ v0 2) 0) ≤ v3 then (
  some (v2, σ)) else (
  bl_bd (f_X4_costOf σ (bl_R σ v0 7) v1 v3) fun r6 σ7 =>
  bl_bd (f_X4_costOf σ7 (bl_R σ7 v0 7) v1 v2) fun r10 σ11 =>
  if r10 ≤ r6 then (
  b_X9_cheapest_50 k15 σ11 v0 v1 v2 v3) else (
  b_X9_cheapest_50 k15 σ11 v0 v1 v3 v3))
def f_X9_cheapest (σ : bl_St) (a0 : Nat) (a1 : Int32) : Option (Int32 × bl_St) :=
  bl_bd (f_X9_isAsked σ a0 a1 0) fun r14 σ15 =>
  if r14 = 0 then (
  some ((-1), σ15)) else (
  bl_fx (fun _ _ _ _ _ => none) (b_X9_cheapest_15 ) bl_fu σ15 a0 a1 0 1)
def b_X9_stepFrom_53 (k4 : bl_St → Nat → Int32 → Int32 → Int32 → Option (Int32 × bl_St)) (σ : bl_St) (v0 : Nat) (v1 : Int32) (v2 : Int32) (v3 : Int32) : Option (Int32 × bl_St) :=
  bl_let (v3 + 1) fun x1 =>
  k4 σ v0 v1 v2 x1
def b_X9_stepFrom_26 (k4 : bl_St → Nat → Int32 → Int32 → Int32 → Option (Int32 × bl_St)) (k26 : bl_St → Nat → Int32 → Int32 → Int32 → Int32 → Option (Int32 × bl_St)) (σ : bl_St) (v0 : Nat) (v1 : Int32) (v2 : Int32) (v3 : Int32) (v4 : Int32) : Option (Int32 × bl_St) :=
  if 3 ≤ v4 then (
  b_X9_stepFrom_53 k4 σ v0 v1 v2 v3) else (
  bl_bd (f_X8_next σ (bl_R σ v0 2) v3 v4) fun r5 σ6 =>
  bl_let (v2 ||| (1 <<< (r5 &&& 31))) fun x8 =>
  bl_let (v4 + 1) fun x10 =>
  k26 σ6 v0 v1 x8 v3 x10)
def b_X9_stepFrom_4 (k4 : bl_St → Nat → Int32 → Int32 → Int32 → Option (Int32 × bl_St)) (σ : bl_St) (v0 : Nat) (v1 : Int32) (v2 : Int32) (v3 : Int32) : Option (Int32 × bl_St) :=
  if (bl_I σ (bl_R σ v0 2) 0) ≤ v3 then (
  some (v2, σ)) else (
  if ((v1 >>> (v3 &&& 31)) &&& 1) = 0 then (
  b_X9_stepFrom_53 k4 σ v0 v1 v2 v3) else (
  bl_fx (fun _ _ _ _ _ _ => none) (b_X9_stepFrom_26 k4) bl_fu σ v0 v1 v2 v3 0))
def f_X9_stepFrom (σ : bl_St) (a0 : Nat) (a1 : Int32) : Option (Int32 × bl_St) :=
  bl_fx (fun _ _ _ _ _ => none) (b_X9_stepFrom_4 ) bl_fu σ a0 a1 0 0
def b_X9_reach_19 (k19 : bl_St → Nat → Int32 → Int32 → Option (Int32 × bl_St)) (σ : bl_St) (v0 : Nat) (v2 : Int32) (v3 : Int32) : Option (Int32 × bl_St) :=
  if (bl_I σ (bl_R σ v0 2) 0) ≤ v3 then (
  some (v2, σ)) else (
  bl_bd (f_X9_stepFrom σ v0 v2) fun r3 σ4 =>
  bl_let (v2 ||| r3) fun x6 =>
  bl_let (v3 + 1) fun x8 =>
  k19 σ4 v0 x6 x8)
def f_X9_reach (σ : bl_St) (a0 : Nat) (a1 : Int32) : Option (Int32 × bl_St) :=
  bl_bd (f_X8_hasClass σ (bl_R σ a0 2) a1) fun r11 σ12 =>
  if r11 = 0 then (
  some ((-1), σ12)) else (
  bl_let (1 <<< (a1 &&& 31)) fun x15 =>
  bl_fx (fun _ _ _ _ => none) (b_X9_reach_19 ) bl_fu σ12 a0 x15 0)
def b_X9_years_29 (k29 : bl_St → Nat → Int32 → Int32 → Int32 → Option (Int32 × bl_St)) (σ : bl_St) (v0 : Nat) (v2 : Int32) (v3 : Int32) (v4 : Int32) : Option (Int32 × bl_St) :=
  if (bl_I σ (bl_R σ v0 2) 0) ≤ v4 then (
  some ((-2), σ)) else (
  if v3 = v2 then (
  some (v4, σ)) else (
  bl_bd (f_X8_next σ (bl_R σ v0 2) v3 0) fun r5 σ6 =>
  bl_let (v4 + 1) fun x8 =>
  k29 σ6 v0 v2 r5 x8))
def f_X9_years (σ : bl_St) (a0 : Nat) (a1 : Int32) (a2 : Int32) : Option (Int32 × bl_St) :=
  bl_bd (f_X8_hasClass σ (bl_R σ a0 2) a1) fun r11 σ12 =>
  if r11 = 0 then (
  some ((-1), σ12)) else (
  bl_bd (f_X8_hasClass σ12 (bl_R σ12 a0 2) a2) fun r16 σ17 =>
  if r16 = 0 then (
  some ((-1), σ17)) else (
  bl_fx (fun _ _ _ _ _ => none) (b_X9_years_29 ) bl_fu σ17 a0 a2 a1 0))
def b_X9_waysOf_80 (k47 : bl_St → Nat → Int32 → Int32 → Int32 → Int32 → Option (Int32 × bl_St)) (σ : bl_St) (v0 : Nat) (v1 : Int32) (v2 : Int32) (v4 : Int32) (s0 : Int32) (s1 : Int32) : Option (Int32 × bl_St) :=
  bl_let (s1 * s0) fun x1 =>
  bl_let (v4 + 1) fun x3 =>
  k47 σ v0 v1 v2 x1 x3
def b_X9_waysOf_47 (k47 : bl_St → Nat → Int32 → Int32 → Int32 → Int32 → Option (Int32 × bl_St)) (σ : bl_St) (v0 : Nat) (v1 : Int32) (v2 : Int32) (v3 : Int32) (v4 : Int32) : Option (Int32 × bl_St) :=
  if v2 ≤ v4 then (
  some (v3, σ)) else (
  if v1 ≤ v4 then (
  bl_bd (f_X8_odds σ (bl_R σ v0 2)) fun r8 σ9 =>
  b_X9_waysOf_80 k47 σ9 v0 v1 v2 v4 (12 - r8) v3) else (
  bl_bd (f_X8_odds σ (bl_R σ v0 2)) fun r12 σ13 =>
  b_X9_waysOf_80 k47 σ13 v0 v1 v2 v4 r12 v3))
def b_X9_waysOf_20 (k20 : bl_St → Nat → Int32 → Int32 → Int32 → Int32 → Option (Int32 × bl_St)) (σ : bl_St) (v0 : Nat) (v1 : Int32) (v2 : Int32) (v3 : Int32) (v4 : Int32) : Option (Int32 × bl_St) :=
  if v1 ≤ v4 then (
  bl_fx (fun _ _ _ _ _ _ => none) (b_X9_waysOf_47 ) bl_fu σ v0 v1 v2 v3 0) else (
  bl_gd (!(decide ((v4 + 1) = 0))) (
  bl_let ((v3 * (v2 - v4)) / (v4 + 1)) fun x17 =>
  bl_let (v4 + 1) fun x19 =>
  k20 σ v0 v1 v2 x17 x19))
def f_X9_waysOf (σ : bl_St) (a0 : Nat) (a1 : Int32) : Option (Int32 × bl_St) :=
  bl_bd (f_X8_chances σ (bl_R σ a0 2)) fun r22 σ23 =>
  if a1 ≤ r22 then (
  bl_fx (fun _ _ _ _ _ _ => none) (b_X9_waysOf_20 ) bl_fu σ23 a0 a1 r22 1 0) else (
  some (0, σ23))
def f_X9_ways (σ : bl_St) (a0 : Nat) (a1 : Int32) : Option (Int32 × bl_St) :=
  if a1 < 0 then (
  some ((-1), σ)) else (
  if 3 < a1 then (
  some ((-1), σ)) else (
  if (bl_I σ (bl_R σ a0 2) 0) = 0 then (
  some ((-1), σ)) else (
  bl_bd (f_X9_waysOf σ a0 a1) fun r5 σ6 =>
  some (r5, σ6))))
def b_X9_moves_64 (k29 : bl_St → Nat → Int32 → Int32 → Int32 → Int32 → Option (Int32 × bl_St)) (σ : bl_St) (v0 : Nat) (v1 : Int32) (v2 : Int32) (v3 : Int32) (v4 : Int32) : Option (Int32 × bl_St) :=
  bl_let (v4 + 1) fun x1 =>
  k29 σ v0 v1 v2 v3 x1
def b_X9_moves_29 (k29 : bl_St → Nat → Int32 → Int32 → Int32 → Int32 → Option (Int32 × bl_St)) (σ : bl_St) (v0 : Nat) (v1 : Int32) (v2 : Int32) (v3 : Int32) (v4 : Int32) : Option (Int32 × bl_St) :=
  bl_bd (f_X8_chances σ (bl_R σ v0 2)) fun r4 σ5 =>
  if r4 < v4 then (
  some (v3, σ5)) else (
  bl_bd (f_X8_next σ5 (bl_R σ5 v0 2) v1 v4) fun r9 σ10 =>
  if r9 = v2 then (
  bl_bd (f_X9_waysOf σ10 v0 v4) fun r13 σ14 =>
  bl_let (v3 + r13) fun x16 =>
  b_X9_moves_64 k29 σ14 v0 v1 v2 x16 v4) else (
  b_X9_moves_64 k29 σ10 v0 v1 v2 v3 v4))
def f_X9_moves (σ : bl_St) (a0 : Nat) (a1 : Int32) (a2 : Int32) : Option (Int32 × bl_St) :=
  bl_bd (f_X8_hasClass σ (bl_R σ a0 2) a1) fun r19 σ20 =>
  if r19 = 0 then (
  some ((-1), σ20)) else (
  bl_bd (f_X8_hasClass σ20 (bl_R σ20 a0 2) a2) fun r24 σ25 =>
  if r24 = 0 then (
  some ((-1), σ25)) else (
  bl_fx (fun _ _ _ _ _ _ => none) (b_X9_moves_29 ) bl_fu σ25 a0 a1 a2 0 0))
def b_X9_spreadOneYear_42 (k23 : bl_St → Nat → Int32 → Option (Unit × bl_St)) (k42 : bl_St → Nat → Int32 → Int32 → Int32 → Option (Unit × bl_St)) (σ : bl_St) (v0 : Nat) (v1 : Int32) (v2 : Int32) (v3 : Int32) : Option (Unit × bl_St) :=
  if (bl_I σ (bl_R σ v0 2) 0) ≤ v3 then (
  bl_let (v1 + 1) fun x3 =>
  k23 σ v0 x3) else (
  bl_bd (f_X8_next σ (bl_R σ v0 2) v3 v1) fun r7 σ8 =>
  bl_gd (bl_in r7 8) (
  bl_gd (bl_in v3 8) (
  bl_gd (bl_in r7 8) (
  bl_let (bl_pJ σ8 (bl_R σ v0 12) (Int32.toNatClampNeg r7) ((bl_J σ8 (bl_R σ v0 12) (Int32.toNatClampNeg r7)) + ((bl_J σ8 (bl_R σ8 v0 11) (Int32.toNatClampNeg v3)) * (Int32.toInt64 v2)))) fun σ14 =>
  bl_let (v3 + 1) fun x16 =>
  k42 σ14 v0 v1 v2 x16))))
def b_X9_spreadOneYear_23 (k23 : bl_St → Nat → Int32 → Option (Unit × bl_St)) (σ : bl_St) (v0 : Nat) (v1 : Int32) : Option (Unit × bl_St) :=
  bl_bd (f_X8_chances σ (bl_R σ v0 2)) fun r19 σ20 =>
  if r19 < v1 then (
  bl_let (bl_cJ σ20 (bl_R σ20 v0 12) (Int32.toNatClampNeg 0) (bl_R σ20 v0 11) (Int32.toNatClampNeg 0) (Int32.toNatClampNeg 8)) fun σ25 =>
  some ((), σ25)) else (
  bl_bd (f_X9_waysOf σ20 v0 v1) fun r27 σ28 =>
  bl_fx (fun _ _ _ _ _ => none) (b_X9_spreadOneYear_42 k23) bl_fu σ28 v0 v1 r27 0)
def b_X9_spreadOneYear_2 (k2 : bl_St → Nat → Int32 → Option (Unit × bl_St)) (σ : bl_St) (v0 : Nat) (v1 : Int32) : Option (Unit × bl_St) :=
  if 8 ≤ v1 then (
  bl_fx (fun _ _ _ => none) (b_X9_spreadOneYear_23 ) bl_fu σ v0 0) else (
  bl_gd (bl_in v1 8) (
  bl_let (bl_pJ σ (bl_R σ v0 12) (Int32.toNatClampNeg v1) 0) fun σ33 =>
  bl_let (v1 + 1) fun x35 =>
  k2 σ33 v0 x35))
def f_X9_spreadOneYear (σ : bl_St) (a0 : Nat) : Option (Unit × bl_St) :=
  bl_fx (fun _ _ _ => none) (b_X9_spreadOneYear_2 ) bl_fu σ a0 0
def b_X9_spread_91 (k91 : bl_St → Nat → Int32 → Int32 → Int32 → Option (Int64 × bl_St)) (σ : bl_St) (v0 : Nat) (v1 : Int32) (v3 : Int32) (v4 : Int32) : Option (Int64 × bl_St) :=
  if v1 ≤ v4 then (
  bl_gd (bl_in v3 8) (
  some ((bl_J σ (bl_R σ v0 11) (Int32.toNatClampNeg v3)), σ))) else (
  bl_bd (f_X9_spreadOneYear σ v0) fun _ σ5 =>
  bl_let (v4 + 1) fun x7 =>
  k91 σ5 v0 v1 v3 x7)
def b_X9_spread_81 (k57 : bl_St → Nat → Int32 → Int32 → Int32 → Int32 → Option (Int64 × bl_St)) (σ : bl_St) (v0 : Nat) (v1 : Int32) (v2 : Int32) (v3 : Int32) (v4 : Int32) (s0 : Int64) (s1 : Int32) (s2 : Nat) : Option (Int64 × bl_St) :=
  bl_gd (bl_in s1 8) (
  bl_let (bl_pJ σ s2 (Int32.toNatClampNeg s1) s0) fun σ10 =>
  bl_let (v4 + 1) fun x12 =>
  k57 σ10 v0 v1 v2 v3 x12)
def b_X9_spread_57 (k57 : bl_St → Nat → Int32 → Int32 → Int32 → Int32 → Option (Int64 × bl_St)) (σ : bl_St) (v0 : Nat) (v1 : Int32) (v2 : Int32) (v3 : Int32) (v4 : Int32) : Option (Int64 × bl_St) :=
  if 8 ≤ v4 then (
  bl_fx (fun _ _ _ _ _ => none) (b_X9_spread_91 ) bl_fu σ v0 v1 v3 0) else (
  if v4 = v2 then (
  b_X9_spread_81 k57 σ v0 v1 v2 v3 v4 1 v4 (bl_R σ v0 11)) else (
  b_X9_spread_81 k57 σ v0 v1 v2 v3 v4 0 v4 (bl_R σ v0 11)))
def f_X9_spread (σ : bl_St) (a0 : Nat) (a1 : Int32) (a2 : Int32) (a3 : Int32) : Option (Int64 × bl_St) :=
  bl_bd (f_X8_hasClass σ (bl_R σ a0 2) a2) fun r18 σ19 =>
  if r18 = 0 then (
  some ((-1), σ19)) else (
  bl_bd (f_X8_hasClass σ19 (bl_R σ19 a0 2) a3) fun r23 σ24 =>
  if r23 = 0 then (
  some ((-1), σ24)) else (
  if a1 < 0 then (
  some ((-1), σ24)) else (
  if 16 < a1 then (
  some ((-1), σ24)) else (
  bl_bd (f_X8_chances σ24 (bl_R σ24 a0 2)) fun r30 σ31 =>
  if (a1 * r30) ≤ 16 then (
  bl_fx (fun _ _ _ _ _ _ => none) (b_X9_spread_57 ) bl_fu σ31 a0 a1 a2 a3 0) else (
  some ((-1), σ31))))))
def f_X9_shared (σ : bl_St) (a0 : Nat) (a1 : Int32) (a2 : Int32) (a3 : Int32) : Option (Int64 × bl_St) :=
  bl_bd (f_X9_isAsked σ a0 a1 a2) fun r1 σ2 =>
  if r1 = 0 then (
  some ((-1), σ2)) else (
  bl_bd (f_X8_hasClass σ2 (bl_R σ2 a0 2) a3) fun r6 σ7 =>
  if r6 = 0 then (
  some ((-1), σ7)) else (
  bl_bd (f_X1_costOf σ7 (bl_R σ7 a0 9) (bl_R σ7 a0 2) a1 a2 a3) fun r12 σ13 =>
  some (r12, σ13)))
def f_X9_joinedClass (σ : bl_St) (a0 : Nat) (a1 : Int32) (a2 : Int32) : Option (Int32 × bl_St) :=
  bl_bd (f_X8_part σ (bl_R σ a0 2) a2 0) fun r2 σ3 =>
  bl_bd (f_X8_part σ3 (bl_R σ3 a0 2) a1 0) fun r6 σ7 =>
  if r2 ≤ r6 then (
  some (a1, σ7)) else (
  some (a2, σ7))
def f_X9_joinedCost (σ : bl_St) (a0 : Nat) (a1 : Int32) (a2 : Int32) (a3 : Int32) : Option (Int64 × bl_St) :=
  bl_bd (f_X4_look σ (bl_R σ a0 8) (bl_R σ a0 2) 0) fun _ σ4 =>
  bl_let (bl_pI σ4 (bl_R σ4 a0 8) 5 2) fun σ7 =>
  bl_let (bl_pI σ7 (bl_R σ7 a0 8) 6 a3) fun σ10 =>
  bl_bd (f_X4_costOf σ10 (bl_R σ10 a0 8) a1 a2) fun r13 σ14 =>
  some (r13, σ14)
def f_X9_joined (σ : bl_St) (a0 : Nat) (a1 : Int32) (a2 : Int32) (a3 : Int32) (a4 : Int32) : Option (Int64 × bl_St) :=
  bl_bd (f_X9_isAsked σ a0 a1 a2) fun r1 σ2 =>
  if r1 = 0 then (
  some ((-1), σ2)) else (
  bl_bd (f_X8_hasClass σ2 (bl_R σ2 a0 2) a3) fun r6 σ7 =>
  if r6 = 0 then (
  some ((-1), σ7)) else (
  if a4 < 0 then (
  some ((-1), σ7)) else (
  if a4 ≤ 50 then (
  bl_bd (f_X9_joinedClass σ7 a0 a2 a3) fun r12 σ13 =>
  bl_bd (f_X9_joinedCost σ13 a0 a1 r12 a4) fun r15 σ16 =>
  some (r15, σ16)) else (
  some ((-1), σ7)))))
def b_X9_rebate_124 (k73 : bl_St → Nat → Int32 → Int64 → Int32 → Int32 → Int32 → Int32 → Option (Int32 × bl_St)) (σ : bl_St) (v0 : Nat) (v1 : Int32) (v4 : Int64) (v6 : Int32) (v7 : Int32) (v8 : Int32) (v9 : Int32) : Option (Int32 × bl_St) :=
  bl_let (v9 + 1) fun x1 =>
  k73 σ v0 v1 v4 v6 v7 v8 x1
def b_X9_rebate_73 (k73 : bl_St → Nat → Int32 → Int64 → Int32 → Int32 → Int32 → Int32 → Option (Int32 × bl_St)) (σ : bl_St) (v0 : Nat) (v1 : Int32) (v4 : Int64) (v6 : Int32) (v7 : Int32) (v8 : Int32) (v9 : Int32) : Option (Int32 × bl_St) :=
  if 50 ≤ v9 then (
  some (v7, σ)) else (
  if v8 ≤ v7 then (
  some (v7, σ)) else (
  bl_let ((v7 + v8) / 2) fun x5 =>
  bl_bd (f_X9_joinedCost σ v0 v1 v6 x5) fun r7 σ8 =>
  if v4 ≤ r7 then (
  bl_let (x5 + 1) fun x11 =>
  b_X9_rebate_124 k73 σ8 v0 v1 v4 v6 x11 v8 v9) else (
  b_X9_rebate_124 k73 σ8 v0 v1 v4 v6 v7 x5 v9)))
def f_X9_rebate (σ : bl_St) (a0 : Nat) (a1 : Int32) (a2 : Int32) (a3 : Int32) : Option (Int32 × bl_St) :=
  bl_bd (f_X9_isAsked σ a0 a1 a2) fun r13 σ14 =>
  if r13 = 0 then (
  some ((-1), σ14)) else (
  bl_bd (f_X8_hasClass σ14 (bl_R σ14 a0 2) a3) fun r18 σ19 =>
  if r18 = 0 then (
  some ((-1), σ19)) else (
  bl_bd (f_X9_bareCost σ19 a0 a1 a2) fun r22 σ23 =>
  bl_bd (f_X9_bareCost σ23 a0 a1 a3) fun r25 σ26 =>
  bl_let (r22 + r25) fun x28 =>
  bl_bd (f_X9_joinedClass σ26 a0 a2 a3) fun r30 σ31 =>
  bl_bd (f_X9_joinedCost σ31 a0 a1 r30 50) fun r33 σ34 =>
  if r33 < x28 then (
  bl_fx (fun _ _ _ _ _ _ _ _ => none) (b_X9_rebate_73 ) bl_fu σ34 a0 a1 x28 r30 0 50 0) else (
  some ((-2), σ34))))
def f_X9_advice (σ : bl_St) (a0 : Nat) (a1 : Int32) (a2 : Int32) : Option (Int32 × bl_St) :=
  if (bl_I σ (bl_R σ a0 4) 1) = 0 then (
  some ((-1), σ)) else (
  if a1 < 1 then (
  some ((-1), σ)) else (
  if 20 < a1 then (
  some ((-1), σ)) else (
  bl_bd (f_X8_hasSort σ (bl_R σ a0 2) a2) fun r6 σ7 =>
  if r6 = 0 then (
  some ((-1), σ7)) else (
  bl_let (if (bl_I σ7 (bl_R σ7 a0 4) 3) < 2 then (bl_I σ7 (bl_R σ7 a0 4) 3) else 2) fun x11 =>
  bl_bd (f_X4_learn σ7 (bl_R σ7 a0 7) (a1 - 1)) fun _ σ15 =>
  bl_bd (f_X4_lookAhead σ15 (bl_R σ15 a0 7) a1 (bl_I σ15 (bl_R σ15 a0 4) 0) (bl_I σ15 (bl_R σ15 a0 4) 2) x11 (bl_I σ15 (bl_R σ15 a0 4) 4)) fun _ σ22 =>
  bl_bd (f_X4_gainOf σ22 (bl_R σ22 a0 7) (bl_I σ22 (bl_R σ22 a0 4) 2) x11 (bl_I σ22 (bl_R σ22 a0 4) 4) a2) fun r27 σ28 =>
  if r27 ≤ 0 then (
  some (0, σ28)) else (
  some (1, σ28))))))
def b_X9_rest_20 (k20 : bl_St → Nat → Int32 → Int32 → Int32 → Option (Int32 × bl_St)) (σ : bl_St) (v0 : Nat) (v2 : Int32) (v3 : Int32) (v4 : Int32) : Option (Int32 × bl_St) :=
  if (bl_I σ (bl_R σ v0 2) 0) < v4 then (
  some (v3, σ)) else (
  if ((v2 >>> (v3 &&& 31)) &&& 1) = 0 then (
  bl_let (v2 ||| (1 <<< (v3 &&& 31))) fun x4 =>
  bl_bd (f_X8_next σ (bl_R σ v0 2) v3 0) fun r7 σ8 =>
  bl_let (v4 + 1) fun x10 =>
  k20 σ8 v0 x4 r7 x10) else (
  some (v3, σ)))
def f_X9_rest (σ : bl_St) (a0 : Nat) (a1 : Int32) : Option (Int32 × bl_St) :=
  bl_bd (f_X8_hasClass σ (bl_R σ a0 2) a1) fun r13 σ14 =>
  if r13 = 0 then (
  some ((-1), σ14)) else (
  bl_fx (fun _ _ _ _ _ => none) (b_X9_rest_20 ) bl_fu σ14 a0 0 a1 0)
def f_X9_costWere (σ : bl_St) (a0 : Nat) (a1 : Int32) (a2 : Int32) (a3 : Int32) (a4 : Int32) : Option (Int64 × bl_St) :=
  bl_bd (f_X8_copy σ (bl_R σ a0 3) (bl_R σ a0 2)) fun _ σ4 =>
  bl_gd (bl_in a1 3) (
  bl_let (bl_pI σ4 (bl_R σ4 (bl_R σ4 a0 3) 4) (Int32.toNatClampNeg a1) a2) fun σ9 =>
  bl_bd (f_X4_look σ9 (bl_R σ9 a0 8) (bl_R σ9 a0 3) 1) fun _ σ14 =>
  bl_bd (f_X4_costOf σ14 (bl_R σ14 a0 8) a3 a4) fun r17 σ18 =>
  some (r17, σ18))
def f_X9_were (σ : bl_St) (a0 : Nat) (a1 : Int32) (a2 : Int32) (a3 : Int32) (a4 : Int32) : Option (Int64 × bl_St) :=
  bl_bd (f_X9_isAsked σ a0 a3 a4) fun r1 σ2 =>
  if r1 = 0 then (
  some ((-1), σ2)) else (
  bl_bd (f_X9_isRule σ2 a1 a2) fun r5 σ6 =>
  if r5 = 0 then (
  some ((-1), σ6)) else (
  bl_bd (f_X9_costWere σ6 a0 a1 a2 a3 a4) fun r9 σ10 =>
  some (r9, σ10)))
def f_X9_lacking (σ : bl_St) (a0 : Nat) (a1 : Int32) (a2 : Int32) (a3 : Int32) : Option (Int64 × bl_St) :=
  bl_bd (f_X9_isAsked σ a0 a2 a3) fun r1 σ2 =>
  if r1 = 0 then (
  some ((-1), σ2)) else (
  bl_bd (f_X8_hasSort σ2 (bl_R σ2 a0 2) a1) fun r6 σ7 =>
  if r6 = 0 then (
  some ((-1), σ7)) else (
  if (bl_I σ7 (bl_R σ7 a0 2) 1) = 1 then (
  some ((-1), σ7)) else (
  bl_bd (f_X8_copy σ7 (bl_R σ7 a0 3) (bl_R σ7 a0 2)) fun _ σ15 =>
  bl_bd (f_X8_removeSort σ15 (bl_R σ15 a0 3) a1) fun _ σ19 =>
  bl_bd (f_X4_look σ19 (bl_R σ19 a0 8) (bl_R σ19 a0 3) 1) fun _ σ24 =>
  bl_bd (f_X4_costOf σ24 (bl_R σ24 a0 8) a2 a3) fun r27 σ28 =>
  some (r27, σ28))))
def b_X9_oddsFor_15 (k15 : bl_St → Nat → Int64 → Int32 → Int32 → Int32 → Option (Int32 × bl_St)) (σ : bl_St) (v0 : Nat) (v1 : Int64) (v3 : Int32) (v4 : Int32) (v5 : Int32) : Option (Int32 × bl_St) :=
  if 12 < v5 then (
  some ((-2), σ)) else (
  bl_bd (f_X9_costWere σ v0 1 v5 v3 v4) fun r2 σ3 =>
  if r2 < v1 then (
  bl_let (v5 + 1) fun x6 =>
  k15 σ3 v0 v1 v3 v4 x6) else (
  some (v5, σ3)))
def f_X9_oddsFor (σ : bl_St) (a0 : Nat) (a1 : Int64) (a3 : Int32) (a4 : Int32) : Option (Int32 × bl_St) :=
  bl_bd (f_X9_isAsked σ a0 a3 a4) fun r8 σ9 =>
  if r8 = 0 then (
  some ((-1), σ9)) else (
  bl_fx (fun _ _ _ _ _ _ => none) (b_X9_oddsFor_15 ) bl_fu σ9 a0 a1 a3 a4 0)
def b_X9_bestOwn_85 (k38 : bl_St → Nat → Int32 → Int32 → Int32 → Int32 → Int64 → Int32 → Option (Int32 × bl_St)) (σ : bl_St) (v0 : Nat) (v1 : Int32) (v2 : Int32) (v3 : Int32) (v4 : Int32) (v5 : Int64) (v7 : Int32) : Option (Int32 × bl_St) :=
  bl_let (v7 + 1) fun x1 =>
  k38 σ v0 v1 v2 v3 v4 v5 x1
def b_X9_bestOwn_38 (k38 : bl_St → Nat → Int32 → Int32 → Int32 → Int32 → Int64 → Int32 → Option (Int32 × bl_St)) (σ : bl_St) (v0 : Nat) (v1 : Int32) (v2 : Int32) (v3 : Int32) (v4 : Int32) (v5 : Int64) (v7 : Int32) : Option (Int32 × bl_St) :=
  if (bl_RH.getD (Int32.toNatClampNeg 2) 0) < v7 then (
  some (v4, σ)) else (
  bl_bd (f_X9_costWere σ v0 2 v7 v2 v3) fun r6 σ7 =>
  bl_let (r6 - (((Int32.toInt64 v1) * (Int32.toInt64 v7)) * (Int32.toInt64 v2))) fun x9 =>
  if v5 ≤ x9 then (
  b_X9_bestOwn_85 k38 σ7 v0 v1 v2 v3 v4 v5 v7) else (
  b_X9_bestOwn_85 k38 σ7 v0 v1 v2 v3 v7 x9 v7))
def f_X9_bestOwn (σ : bl_St) (a0 : Nat) (a1 : Int32) (a2 : Int32) (a3 : Int32) : Option (Int32 × bl_St) :=
  bl_bd (f_X9_isAsked σ a0 a2 a3) fun r12 σ13 =>
  if r12 = 0 then (
  some ((-1), σ13)) else (
  if a1 < 0 then (
  some ((-1), σ13)) else (
  if a1 ≤ 9999 then (
  bl_bd (f_X9_costWere σ13 a0 2 0 a2 a3) fun r18 σ19 =>
  bl_fx (fun _ _ _ _ _ _ _ _ => none) (b_X9_bestOwn_38 ) bl_fu σ19 a0 a1 a2 a3 0 r18 1) else (
  some ((-1), σ13))))
def f_X9_lifeElsewhere (σ : bl_St) (a0 : Nat) : Option (Nat × bl_St) :=
  bl_bd (f_X2_clear σ (bl_R σ a0 5)) fun _ σ3 =>
  bl_let (bl_pI σ3 (bl_R σ3 a0 5) 0 (bl_I σ3 (bl_R σ3 a0 4) 0)) fun σ7 =>
  some ((bl_R σ7 a0 5), σ7)
def f_X9_would (σ : bl_St) (a0 : Nat) (a1 : Int32) (a2 : Int32) (a3 : Int32) (a4 : Int32) (a5 : Int32) : Option (Int32 × bl_St) :=
  if a5 < 0 then (
  some ((-1), σ)) else (
  if 3 < a5 then (
  some ((-1), σ)) else (
  bl_bd (f_X9_canLive σ a0 a1 a2 a3) fun r3 σ4 =>
  if r3 = 0 then (
  some ((-1), σ4)) else (
  bl_bd (f_X9_lifeElsewhere σ4 a0) fun r7 σ8 =>
  bl_bd (f_X9_liveByDraws σ8 a0 r7 a1 a2 a3 a4) fun r11 σ12 =>
  if a5 = 0 then (
  some (r11, σ12)) else if a5 = 1 then (
  some ((bl_I σ12 (bl_R σ12 a0 5) 11), σ12)) else if a5 = 2 then (
  some ((bl_I σ12 (bl_R σ12 a0 5) 12), σ12)) else (
  some ((bl_I σ12 (bl_R σ12 a0 5) 0), σ12)))))
def b_X9_bestRule_66 (k31 : bl_St → Nat → Int32 → Int32 → Int32 → Int32 → Int32 → Option (Int32 × bl_St)) (σ : bl_St) (v0 : Nat) (v1 : Int32) (v2 : Int32) (v3 : Int32) (v4 : Int32) (v5 : Int32) : Option (Int32 × bl_St) :=
  bl_let (v5 + 1) fun x1 =>
  k31 σ v0 v1 v2 v3 v4 x1
def b_X9_bestRule_31 (k31 : bl_St → Nat → Int32 → Int32 → Int32 → Int32 → Int32 → Option (Int32 × bl_St)) (σ : bl_St) (v0 : Nat) (v1 : Int32) (v2 : Int32) (v3 : Int32) (v4 : Int32) (v5 : Int32) : Option (Int32 × bl_St) :=
  if 2 < v5 then (
  some (v3, σ)) else (
  bl_bd (f_X9_lifeElsewhere σ v0) fun r4 σ5 =>
  bl_bd (f_X9_liveByDraws σ5 v0 r4 v1 v5 0 v2) fun r8 σ9 =>
  if v4 ≤ r8 then (
  b_X9_bestRule_66 k31 σ9 v0 v1 v2 v3 v4 v5) else (
  b_X9_bestRule_66 k31 σ9 v0 v1 v2 v5 r8 v5))
def f_X9_bestRule (σ : bl_St) (a0 : Nat) (a1 : Int32) (a2 : Int32) : Option (Int32 × bl_St) :=
  bl_bd (f_X9_canLive σ a0 a1 0 0) fun r12 σ13 =>
  if r12 = 0 then (
  some ((-1), σ13)) else (
  bl_bd (f_X9_lifeElsewhere σ13 a0) fun r16 σ17 =>
  bl_bd (f_X9_liveByDraws σ17 a0 r16 a1 0 0 a2) fun r20 σ21 =>
  bl_fx (fun _ _ _ _ _ _ _ => none) (b_X9_bestRule_31 ) bl_fu σ21 a0 a1 a2 0 r20 1)
def b_X9_dearest_32 (k32 : bl_St → Nat → Int32 → Int32 → Int32 → Option (Int32 × bl_St)) (σ : bl_St) (v0 : Nat) (v1 : Int32) (v2 : Int32) (v3 : Int32) : Option (Int32 × bl_St) :=
  if v3 < 0 then (
  some ((-2), σ)) else (
  bl_bd (f_X8_setPart σ (bl_R σ v0 3) v2 4 v3) fun _ σ4 =>
  bl_bd (f_X4_look σ4 (bl_R σ4 v0 8) (bl_R σ4 v0 3) 1) fun _ σ9 =>
  bl_bd (f_X4_learn σ9 (bl_R σ9 v0 8) (v1 - 1)) fun _ σ13 =>
  bl_bd (f_X4_buys σ13 (bl_R σ13 v0 8) v1 v2) fun r16 σ17 =>
  if r16 = 0 then (
  bl_let (v3 + (-1)) fun x20 =>
  k32 σ17 v0 v1 v2 x20) else (
  some (v3, σ17)))
def f_X9_dearest (σ : bl_St) (a0 : Nat) (a1 : Int32) (a2 : Int32) : Option (Int32 × bl_St) :=
  bl_bd (f_X9_isAsked σ a0 a1 a2) fun r22 σ23 =>
  if r22 = 0 then (
  some ((-1), σ23)) else (
  if a1 = 0 then (
  some ((-1), σ23)) else (
  bl_bd (f_X8_copy σ23 (bl_R σ23 a0 3) (bl_R σ23 a0 2)) fun _ σ30 =>
  bl_let (bl_CH.getD (Int32.toNatClampNeg 4) 0) fun x34 =>
  bl_fx (fun _ _ _ _ _ => none) (b_X9_dearest_32 ) bl_fu σ30 a0 a1 a2 x34))
def b_X9_spell_152 (k152 : bl_St → Nat → Int32 → Int32 → Option (Int32 × bl_St)) (σ : bl_St) (v0 : Nat) (v1 : Int32) (v2 : Int32) : Option (Int32 × bl_St) :=
  if 3 ≤ v2 then (
  bl_bd (f_X5_signAt σ (bl_R σ v0 1) v1) fun r3 σ4 =>
  some (r3, σ4)) else (
  bl_bd (f_X9_wordOf σ (2 + v2)) fun r7 σ8 =>
  bl_bd (f_X5_putWord σ8 (bl_R σ v0 1) r7) fun _ σ11 =>
  bl_gd (bl_in v2 3) (
  bl_bd (f_X5_putNumber σ11 (bl_R σ11 v0 1) (bl_I σ11 (bl_R σ11 (bl_R σ11 v0 2) 4) (Int32.toNatClampNeg v2))) fun _ σ18 =>
  bl_bd (f_X5_endPhrase σ18 (bl_R σ18 v0 1)) fun _ σ22 =>
  bl_let (v2 + 1) fun x24 =>
  k152 σ22 v0 v1 x24))
def b_X9_spell_83 (k83 : bl_St → Nat → Int32 → Int32 → Option (Int32 × bl_St)) (σ : bl_St) (v0 : Nat) (v1 : Int32) (v2 : Int32) : Option (Int32 × bl_St) :=
  if (bl_I σ (bl_R σ v0 2) 1) ≤ v2 then (
  bl_fx (fun _ _ _ _ => none) (b_X9_spell_152 ) bl_fu σ v0 v1 0) else (
  bl_bd (f_X9_wordOf σ 1) fun r29 σ30 =>
  bl_bd (f_X5_putWord σ30 (bl_R σ v0 1) r29) fun _ σ33 =>
  bl_bd (f_X8_sortPart σ33 (bl_R σ33 v0 2) v2 0) fun r37 σ38 =>
  bl_bd (f_X5_putNumber σ38 (bl_R σ33 v0 1) r37) fun _ σ41 =>
  bl_bd (f_X8_sortPart σ41 (bl_R σ41 v0 2) v2 1) fun r45 σ46 =>
  bl_bd (f_X5_putNumber σ46 (bl_R σ41 v0 1) r45) fun _ σ49 =>
  bl_bd (f_X5_endPhrase σ49 (bl_R σ49 v0 1)) fun _ σ53 =>
  bl_let (v2 + 1) fun x55 =>
  k83 σ53 v0 v1 x55)
def b_X9_spell_41 (k17 : bl_St → Nat → Int32 → Int32 → Option (Int32 × bl_St)) (k41 : bl_St → Nat → Int32 → Int32 → Int32 → Option (Int32 × bl_St)) (σ : bl_St) (v0 : Nat) (v1 : Int32) (v2 : Int32) (v3 : Int32) : Option (Int32 × bl_St) :=
  if 5 ≤ v3 then (
  bl_bd (f_X5_endPhrase σ (bl_R σ v0 1)) fun _ σ60 =>
  bl_let (v2 + 1) fun x62 =>
  k17 σ60 v0 v1 x62) else (
  bl_bd (f_X8_part σ (bl_R σ v0 2) v2 v3) fun r66 σ67 =>
  bl_bd (f_X5_putNumber σ67 (bl_R σ v0 1) r66) fun _ σ70 =>
  bl_let (v3 + 1) fun x72 =>
  k41 σ70 v0 v1 v2 x72)
def b_X9_spell_17 (k17 : bl_St → Nat → Int32 → Int32 → Option (Int32 × bl_St)) (σ : bl_St) (v0 : Nat) (v1 : Int32) (v2 : Int32) : Option (Int32 × bl_St) :=
  if (bl_I σ (bl_R σ v0 2) 0) ≤ v2 then (
  bl_fx (fun _ _ _ _ => none) (b_X9_spell_83 ) bl_fu σ v0 v1 0) else (
  bl_bd (f_X9_wordOf σ 0) fun r77 σ78 =>
  bl_bd (f_X5_putWord σ78 (bl_R σ v0 1) r77) fun _ σ81 =>
  bl_fx (fun _ _ _ _ _ => none) (b_X9_spell_41 k17) bl_fu σ81 v0 v1 v2 0)
def f_X9_spell (σ : bl_St) (a0 : Nat) (a1 : Int32) : Option (Int32 × bl_St) :=
  if (-1) ≤ a1 then (
  bl_let (bl_pI σ (bl_R σ a0 1) 1 0) fun σ85 =>
  bl_fx (fun _ _ _ _ => none) (b_X9_spell_17 ) bl_fu σ85 a0 a1 0) else (
  some ((-1), σ))
def b_X9_report_156 (k48 : bl_St → Nat → Int32 → Int32 → Int32 → Option (Int32 × bl_St)) (σ : bl_St) (v0 : Nat) (v1 : Int32) (v2 : Int32) (v3 : Int32) : Option (Int32 × bl_St) :=
  bl_bd (f_X5_endPhrase σ (bl_R σ v0 1)) fun _ σ3 =>
  bl_let (v3 + 1) fun x5 =>
  k48 σ3 v0 v1 v2 x5
def b_X9_report_117 (k48 : bl_St → Nat → Int32 → Int32 → Int32 → Option (Int32 × bl_St)) (σ : bl_St) (v0 : Nat) (v1 : Int32) (v2 : Int32) (v3 : Int32) (v5 : Int32) : Option (Int32 × bl_St) :=
  if v5 = (-2) then (
  bl_bd (f_X5_putWord σ (bl_R σ v0 1) 6) fun _ σ18 =>
  b_X9_report_156 k48 σ18 v0 v1 v2 v3) else (
  bl_bd (f_X5_putWord σ (bl_R σ v0 1) 7) fun _ σ10 =>
  bl_bd (f_X5_putNumber σ10 (bl_R σ10 v0 1) v5) fun _ σ14 =>
  b_X9_report_156 k48 σ14 v0 v1 v2 v3)
def b_X9_report_48 (k48 : bl_St → Nat → Int32 → Int32 → Int32 → Option (Int32 × bl_St)) (σ : bl_St) (v0 : Nat) (v1 : Int32) (v2 : Int32) (v3 : Int32) : Option (Int32 × bl_St) :=
  if (bl_I σ (bl_R σ v0 2) 0) ≤ v3 then (
  bl_bd (f_X5_signAt σ (bl_R σ v0 1) v2) fun r23 σ24 =>
  some (r23, σ24)) else (
  bl_bd (f_X4_buys σ (bl_R σ v0 7) v1 v3) fun r27 σ28 =>
  bl_bd (f_X4_leastTold σ28 (bl_R σ28 v0 7) 0 0 r27) fun r31 σ32 =>
  bl_bd (f_X9_wordOf σ32 0) fun r35 σ36 =>
  bl_bd (f_X5_putWord σ36 (bl_R σ32 v0 1) r35) fun _ σ39 =>
  bl_bd (f_X5_putNumber σ39 (bl_R σ39 v0 1) v3) fun _ σ43 =>
  if r27 = 0 then (
  b_X9_report_117 k48 σ43 v0 v1 v2 v3 r31) else (
  bl_bd (f_X5_putWord σ43 (bl_R σ43 v0 1) 5) fun _ σ48 =>
  b_X9_report_117 k48 σ48 v0 v1 v2 v3 r31))
def f_X9_report (σ : bl_St) (a0 : Nat) (a1 : Int32) (a2 : Int32) : Option (Int32 × bl_St) :=
  if a1 < 1 then (
  some ((-1), σ)) else (
  if 20 < a1 then (
  some ((-1), σ)) else (
  if a2 < (-1) then (
  some ((-1), σ)) else (
  if (bl_I σ (bl_R σ a0 2) 0) = 0 then (
  some ((-1), σ)) else (
  bl_let (bl_pI σ (bl_R σ a0 1) 1 0) fun σ56 =>
  bl_bd (f_X4_learn σ56 (bl_R σ56 a0 7) (a1 - 1)) fun _ σ60 =>
  bl_fx (fun _ _ _ _ _ => none) (b_X9_report_48 ) bl_fu σ60 a0 a1 a2 0))))
def f_X9_count (σ : bl_St) (a0 : Nat) (a1 : Int32) : Option (Int32 × bl_St) :=
  if a1 = 0 then (
  some ((bl_I σ (bl_R σ a0 2) 0), σ)) else if a1 = 1 then (
  some ((bl_I σ (bl_R σ a0 2) 1), σ)) else if a1 = 2 then (
  bl_bd (f_X8_chances σ (bl_R σ a0 2)) fun r7 σ8 =>
  some (r7, σ8)) else if a1 = 3 then (
  bl_bd (f_X8_odds σ (bl_R σ a0 2)) fun r12 σ13 =>
  some (r12, σ13)) else if a1 = 4 then (
  bl_bd (f_X8_own σ (bl_R σ a0 2)) fun r17 σ18 =>
  some (r17, σ18)) else if a1 = 5 then (
  some ((bl_I σ (bl_R σ a0 6) 3), σ)) else if a1 = 6 then (
  some ((bl_I σ (bl_R σ a0 0) 3), σ)) else if a1 = 7 then (
  bl_bd (f_X8_allWeights σ (bl_R σ a0 2)) fun r26 σ27 =>
  some (r26, σ27)) else if a1 = 8 then (
  some ((if ((bl_I σ (bl_R σ a0 4) 11) + (bl_I σ (bl_R σ a0 4) 12)) < 16 then ((bl_I σ (bl_R σ a0 4) 11) + (bl_I σ (bl_R σ a0 4) 12)) else 16), σ)) else if a1 = 9 then (
  some ((if (bl_I σ (bl_R σ a0 4) 6) < 16 then (bl_I σ (bl_R σ a0 4) 6) else 16), σ)) else (
  some ((-1), σ))
def f_X10_in (σ : bl_St) (a0 : Int64) (a2 : Int64) (a4 : Int64) : Option (Int32 × bl_St) :=
  if a0 < a2 then (
  some (0, σ)) else (
  if a4 < a0 then (
  some (0, σ)) else (
  some (1, σ)))
def f_X10_lesser (σ : bl_St) (a0 : Int64) (a2 : Int64) : Option (Int64 × bl_St) :=
  if a2 ≤ a0 then (
  some (a2, σ)) else (
  some (a0, σ))
def f_X10_greater (σ : bl_St) (a0 : Int64) (a2 : Int64) : Option (Int64 × bl_St) :=
  if a0 ≤ a2 then (
  some (a2, σ)) else (
  some (a0, σ))
def b_X10_starts_2 (k2 : bl_St → Nat → Int32 → Option (Unit × bl_St)) (σ : bl_St) (v0 : Nat) (v1 : Int32) : Option (Unit × bl_St) :=
  if 167 ≤ v1 then (
  bl_let (bl_pI σ v0 2 2) fun σ2 =>
  bl_let (bl_pI σ2 v0 3 3) fun σ4 =>
  some ((), σ4)) else (
  bl_gd (bl_in v1 167) (
  bl_let (bl_pI σ v0 (Int32.toNatClampNeg v1) 0) fun σ7 =>
  bl_let (v1 + 1) fun x9 =>
  k2 σ7 v0 x9))
def f_X10_starts (σ : bl_St) (a0 : Nat) : Option (Unit × bl_St) :=
  bl_fx (fun _ _ _ => none) (b_X10_starts_2 ) bl_fu σ a0 0
def b_X10_copies_2 (k2 : bl_St → Nat → Nat → Int32 → Option (Unit × bl_St)) (σ : bl_St) (v0 : Nat) (v1 : Nat) (v2 : Int32) : Option (Unit × bl_St) :=
  if 167 ≤ v2 then (
  some ((), σ)) else (
  bl_gd (bl_in v2 167) (
  bl_gd (bl_in v2 167) (
  bl_let (bl_pI σ v1 (Int32.toNatClampNeg v2) (bl_I σ v0 (Int32.toNatClampNeg v2))) fun σ4 =>
  bl_let (v2 + 1) fun x6 =>
  k2 σ4 v0 v1 x6)))
def f_X10_copies (σ : bl_St) (a0 : Nat) (a1 : Nat) : Option (Unit × bl_St) :=
  bl_fx (fun _ _ _ _ => none) (b_X10_copies_2 ) bl_fu σ a0 a1 0
def b_X10_keeps_54 (k54 : bl_St → Nat → Int32 → Option (Unit × bl_St)) (σ : bl_St) (v0 : Nat) (v1 : Int32) : Option (Unit × bl_St) :=
  if 167 ≤ v1 then (
  bl_let (bl_pI σ v0 5 ((bl_I σ v0 5) + 1)) fun σ2 =>
  some ((), σ2)) else (
  bl_gd (bl_in v1 167) (
  bl_gd (bl_in ((167 * (bl_I σ v0 5)) + v1) 2004) (
  bl_let (bl_pI σ (bl_R σ v0 4) (Int32.toNatClampNeg ((167 * (bl_I σ v0 5)) + v1)) (bl_I σ (bl_R σ v0 1) (Int32.toNatClampNeg v1))) fun σ8 =>
  bl_let (v1 + 1) fun x10 =>
  k54 σ8 v0 x10)))
def b_X10_keeps_52 (σ : bl_St) (v0 : Nat) : Option (Unit × bl_St) :=
  bl_fx (fun _ _ _ => none) (b_X10_keeps_54 ) bl_fu σ v0 0
def b_X10_keeps_13 (k13 : bl_St → Nat → Int32 → Option (Unit × bl_St)) (σ : bl_St) (v0 : Nat) (v1 : Int32) : Option (Unit × bl_St) :=
  if 2004 ≤ v1 then (
  bl_let (bl_pI σ v0 5 ((bl_I σ v0 5) - 1)) fun σ13 =>
  b_X10_keeps_52  σ13 v0) else (
  bl_gd (bl_in v1 2004) (
  bl_gd (bl_in (v1 - 167) 2004) (
  bl_let (bl_pI σ (bl_R σ v0 4) (Int32.toNatClampNeg (v1 - 167)) (bl_I σ (bl_R σ v0 4) (Int32.toNatClampNeg v1))) fun σ19 =>
  bl_let (v1 + 1) fun x21 =>
  k13 σ19 v0 x21)))
def f_X10_keeps (σ : bl_St) (a0 : Nat) : Option (Unit × bl_St) :=
  if (bl_I σ a0 5) = 12 then (
  bl_fx (fun _ _ _ => none) (b_X10_keeps_13 ) bl_fu σ a0 167) else (
  b_X10_keeps_52  σ a0)
def f_X10_isClass (σ : bl_St) (a0 : Nat) (a1 : Int32) : Option (Int32 × bl_St) :=
  bl_bd (f_X10_in σ (Int32.toInt64 a1) 0 (Int32.toInt64 ((bl_I σ (bl_R σ a0 1) 0) - 1))) fun r2 σ3 =>
  bl_gd (bl_bo r2) (
  some (r2, σ3))
def f_X10_isSort (σ : bl_St) (a0 : Nat) (a1 : Int32) : Option (Int32 × bl_St) :=
  bl_bd (f_X10_in σ (Int32.toInt64 a1) 0 (Int32.toInt64 ((bl_I σ (bl_R σ a0 1) 1) - 1))) fun r2 σ3 =>
  bl_gd (bl_bo r2) (
  some (r2, σ3))
def f_X10_ofClass (σ : bl_St) (a0 : Nat) (a1 : Int32) (a2 : Int32) : Option (Int32 × bl_St) :=
  bl_gd (bl_in ((5 + (5 * a1)) + a2) 167) (
  some ((bl_I σ (bl_R σ a0 1) (Int32.toNatClampNeg ((5 + (5 * a1)) + a2))), σ))
def f_X10_size (σ : bl_St) (a0 : Nat) (a1 : Int32) : Option (Int32 × bl_St) :=
  bl_gd (bl_in (45 + (2 * a1)) 167) (
  some ((bl_I σ (bl_R σ a0 1) (Int32.toNatClampNeg (45 + (2 * a1)))), σ))
def f_X10_weight (σ : bl_St) (a0 : Nat) (a1 : Int32) : Option (Int32 × bl_St) :=
  bl_gd (bl_in ((45 + (2 * a1)) + 1) 167) (
  some ((bl_I σ (bl_R σ a0 1) (Int32.toNatClampNeg ((45 + (2 * a1)) + 1))), σ))
def b_X10_weights_4 (k4 : bl_St → Nat → Int32 → Int32 → Option (Int32 × bl_St)) (σ : bl_St) (v0 : Nat) (v1 : Int32) (v2 : Int32) : Option (Int32 × bl_St) :=
  if (bl_I σ (bl_R σ v0 1) 1) ≤ v2 then (
  some (v1, σ)) else (
  bl_bd (f_X10_weight σ v0 v2) fun r3 σ4 =>
  bl_let (v1 + r3) fun x6 =>
  bl_let (v2 + 1) fun x8 =>
  k4 σ4 v0 x6 x8)
def f_X10_weights (σ : bl_St) (a0 : Nat) : Option (Int32 × bl_St) :=
  bl_fx (fun _ _ _ _ => none) (b_X10_weights_4 ) bl_fu σ a0 0 0
def f_X10_behind (σ : bl_St) (a0 : Nat) (a1 : Int32) (a2 : Int32) : Option (Int32 × bl_St) :=
  if a2 ≤ 2 then (
  bl_bd (f_X10_ofClass σ a0 a1 (1 + a2)) fun r2 σ3 =>
  some (r2, σ3)) else (
  bl_bd (f_X10_ofClass σ a0 a1 (1 + 2)) fun r5 σ6 =>
  some (r5, σ6))
def f_X10_toldPays (σ : bl_St) (a0 : Nat) (a1 : Int32) : Option (Int32 × bl_St) :=
  bl_bd (f_X10_size σ a0 a1) fun r2 σ3 =>
  if r2 ≤ (bl_I σ (bl_R σ a0 1) 4) then (
  bl_bd (f_X10_size σ3 a0 a1) fun r6 σ7 =>
  some (r6, σ7)) else (
  some ((bl_I σ3 (bl_R σ3 a0 1) 4), σ3))
def f_X10_becomes (σ : bl_St) (a0 : Nat) (a1 : Int32) (a2 : Int32) : Option (Int32 × bl_St) :=
  bl_gd (bl_in a1 167) (
  if (bl_I σ (bl_R σ a0 1) (Int32.toNatClampNeg a1)) = a2 then (
  some ((-1), σ)) else (
  bl_bd (f_X10_keeps σ a0) fun _ σ5 =>
  bl_gd (bl_in a1 167) (
  bl_let (bl_I σ5 (bl_R σ5 a0 1) (Int32.toNatClampNeg a1)) fun x9 =>
  bl_gd (bl_in a1 167) (
  bl_let (bl_pI σ5 (bl_R σ5 a0 1) (Int32.toNatClampNeg a1) a2) fun σ13 =>
  some (x9, σ13)))))
def b_X10_set_50 (σ : bl_St) (v0 : Nat) (v1 : Int32) (v2 : Int32) (v3 : Int32) (s0 : Int32) : Option (Int32 × bl_St) :=
  bl_bd (f_X10_in σ (Int32.toInt64 v3) 0 (Int32.toInt64 s0)) fun r1 σ2 =>
  if r1 = 0 then (
  some ((-1), σ2)) else (
  bl_bd (f_X10_becomes σ2 v0 ((5 + (5 * v1)) + v2) v3) fun r5 σ6 =>
  some (r5, σ6))
def f_X10_set (σ : bl_St) (a0 : Nat) (a1 : Int32) (a2 : Int32) (a3 : Int32) : Option (Int32 × bl_St) :=
  bl_bd (f_X10_isClass σ a0 a1) fun r8 σ9 =>
  if r8 = 0 then (
  some ((-1), σ9)) else (
  bl_bd (f_X10_in σ9 (Int32.toInt64 a2) 0 4) fun r12 σ13 =>
  if r12 = 0 then (
  some ((-1), σ13)) else (
  if a2 = 0 then (
  b_X10_set_50  σ13 a0 a1 a2 a3 999) else (
  if a2 = 4 then (
  b_X10_set_50  σ13 a0 a1 a2 a3 99) else (
  b_X10_set_50  σ13 a0 a1 a2 a3 ((bl_I σ13 (bl_R σ13 a0 1) 0) - 1)))))
def b_X10_sort_34 (σ : bl_St) (v0 : Nat) (v1 : Int32) (v2 : Int32) (v3 : Int32) (s0 : Int64) (s1 : Int64) (s2 : Int64) : Option (Int32 × bl_St) :=
  bl_bd (f_X10_in σ s2 s1 s0) fun r1 σ2 =>
  if r1 = 0 then (
  some ((-1), σ2)) else (
  bl_bd (f_X10_becomes σ2 v0 ((45 + (2 * v1)) + v2) v3) fun r5 σ6 =>
  some (r5, σ6))
def f_X10_sort (σ : bl_St) (a0 : Nat) (a1 : Int32) (a2 : Int32) (a3 : Int32) : Option (Int32 × bl_St) :=
  bl_bd (f_X10_isSort σ a0 a1) fun r8 σ9 =>
  if r8 = 0 then (
  some ((-1), σ9)) else (
  bl_bd (f_X10_in σ9 (Int32.toInt64 a2) 0 1) fun r12 σ13 =>
  if r12 = 0 then (
  some ((-1), σ13)) else (
  if a2 = 0 then (
  b_X10_sort_34  σ13 a0 a1 a2 a3 999 1 (Int32.toInt64 a3)) else (
  b_X10_sort_34  σ13 a0 a1 a2 a3 9 1 (Int32.toInt64 a3))))
def f_X10_isRule (σ : bl_St) (a0 : Int32) (a1 : Int32) : Option (Int32 × bl_St) :=
  if a0 = 0 then (
  bl_bd (f_X10_in σ (Int32.toInt64 a1) 1 3) fun r12 σ13 =>
  bl_gd (bl_bo r12) (
  some (r12, σ13))) else (
  if a0 = 1 then (
  bl_bd (f_X10_in σ (Int32.toInt64 a1) 0 12) fun r8 σ9 =>
  bl_gd (bl_bo r8) (
  some (r8, σ9))) else (
  if a0 = 2 then (
  bl_bd (f_X10_in σ (Int32.toInt64 a1) 0 99) fun r4 σ5 =>
  if r4 = 0 then (
  some (0, σ5)) else (
  some (1, σ5))) else (
  some (0, σ))))
def b_X10_rule_25 (σ : bl_St) (v0 : Nat) (v1 : Int32) (v2 : Int32) : Option (Int32 × bl_St) :=
  bl_bd (f_X10_becomes σ v0 (2 + v1) v2) fun r1 σ2 =>
  some (r1, σ2)
def f_X10_rule (σ : bl_St) (a0 : Nat) (a1 : Int32) (a2 : Int32) : Option (Int32 × bl_St) :=
  bl_bd (f_X10_isRule σ a1 a2) fun r4 σ5 =>
  if r4 = 0 then (
  some ((-1), σ5)) else (
  if a1 = 0 then (
  if (bl_I σ5 (bl_R σ5 a0 1) 56) = 1 then (
  some ((-1), σ5)) else (
  b_X10_rule_25  σ5 a0 a1 a2)) else (
  b_X10_rule_25  σ5 a0 a1 a2))
def b_X10_begins_92 (σ : bl_St) (v0 : Nat) (v1 : Int32) (s0 : Int32) (s1 : Int32) (s2 : Int32) (s3 : Nat) : Option (Unit × bl_St) :=
  bl_gd (bl_in s2 167) (
  bl_let (bl_pI σ s3 (Int32.toNatClampNeg s2) (s1 + s0)) fun σ2 =>
  bl_bd (f_X10_ofClass σ2 v0 (bl_I σ2 (bl_R σ2 v0 1) 55) 0) fun r6 σ7 =>
  bl_let (bl_pI σ7 (bl_R σ2 v0 1) 61 ((bl_I σ2 (bl_R σ2 v0 1) 61) + r6)) fun σ9 =>
  if v1 = 0 then (
  bl_let (bl_pI σ9 (bl_R σ9 v0 1) 62 ((bl_I σ9 (bl_R σ9 v0 1) 62) + 0)) fun σ13 =>
  some ((), σ13)) else (
  bl_bd (f_X10_ofClass σ9 v0 (bl_I σ9 (bl_R σ9 v0 1) 55) 4) fun r16 σ17 =>
  bl_let (bl_pI σ17 (bl_R σ9 v0 1) 62 ((bl_I σ9 (bl_R σ9 v0 1) 62) + r16)) fun σ19 =>
  some ((), σ19)))
def b_X10_begins_39 (σ : bl_St) (v0 : Nat) (v1 : Int32) (s0 : Int32) (s1 : Int32) (s2 : Nat) : Option (Unit × bl_St) :=
  bl_gd (bl_in s1 167) (
  bl_let (bl_pI σ s2 (Int32.toNatClampNeg s1) s0) fun σ22 =>
  bl_let (bl_pI σ22 (bl_R σ22 v0 1) 68 (bl_I σ22 (bl_R σ22 v0 1) 55)) fun σ26 =>
  bl_bd (f_X10_ofClass σ26 v0 (bl_I σ26 (bl_R σ26 v0 1) 55) 0) fun r30 σ31 =>
  if v1 = 0 then (
  b_X10_begins_92  σ31 v0 v1 0 r30 67 (bl_R σ26 v0 1)) else (
  bl_bd (f_X10_ofClass σ31 v0 (bl_I σ31 (bl_R σ31 v0 1) 55) 4) fun r35 σ36 =>
  b_X10_begins_92  σ36 v0 v1 r35 r30 67 (bl_R σ26 v0 1)))
def f_X10_begins (σ : bl_St) (a0 : Nat) (a1 : Int32) : Option (Unit × bl_St) :=
  bl_let (bl_pI σ (bl_R σ a0 1) 56 1) fun σ39 =>
  bl_let (bl_pI σ39 (bl_R σ39 a0 1) 57 0) fun σ42 =>
  bl_let (bl_pI σ42 (bl_R σ42 a0 1) 58 0) fun σ45 =>
  if a1 = 0 then (
  b_X10_begins_39  σ45 a0 a1 0 59 (bl_R σ45 a0 1)) else (
  b_X10_begins_39  σ45 a0 a1 1 59 (bl_R σ45 a0 1))
def f_X10_begin (σ : bl_St) (a0 : Nat) (a1 : Int32) : Option (Int32 × bl_St) :=
  if (bl_I σ (bl_R σ a0 1) 0) = 0 then (
  some ((-1), σ)) else (
  if (bl_I σ (bl_R σ a0 1) 56) = 1 then (
  some ((-1), σ)) else (
  bl_bd (f_X10_keeps σ a0) fun _ σ6 =>
  bl_bd (f_X10_begins σ6 a0 a1) fun _ σ9 =>
  some ((bl_I σ9 (bl_R σ9 a0 1) 67), σ9)))
def b_X10_writes_61 (σ : bl_St) (v0 : Nat) (v1 : Int32) (v2 : Int32) (v3 : Int32) (v4 : Int32) : Option (Unit × bl_St) :=
  bl_gd (bl_in v1 167) (
  bl_let ((v1 + 1) + (3 * (bl_I σ (bl_R σ v0 1) (Int32.toNatClampNeg v1)))) fun x3 =>
  bl_gd (bl_in x3 167) (
  bl_let (bl_pI σ (bl_R σ v0 1) (Int32.toNatClampNeg x3) v2) fun σ7 =>
  bl_gd (bl_in (x3 + 1) 167) (
  bl_let (bl_pI σ7 (bl_R σ7 v0 1) (Int32.toNatClampNeg (x3 + 1)) v3) fun σ11 =>
  bl_gd (bl_in (x3 + 2) 167) (
  bl_let (bl_pI σ11 (bl_R σ11 v0 1) (Int32.toNatClampNeg (x3 + 2)) v4) fun σ15 =>
  bl_gd (bl_in v1 167) (
  bl_gd (bl_in v1 167) (
  bl_let (bl_pI σ15 (bl_R σ15 v0 1) (Int32.toNatClampNeg v1) ((bl_I σ15 (bl_R σ15 v0 1) (Int32.toNatClampNeg v1)) + 1)) fun σ20 =>
  some ((), σ20)))))))
def b_X10_writes_14 (k14 : bl_St → Nat → Int32 → Int32 → Int32 → Int32 → Int32 → Option (Unit × bl_St)) (σ : bl_St) (v0 : Nat) (v1 : Int32) (v2 : Int32) (v3 : Int32) (v4 : Int32) (v5 : Int32) : Option (Unit × bl_St) :=
  if 48 ≤ v5 then (
  bl_gd (bl_in v1 167) (
  bl_gd (bl_in v1 167) (
  bl_let (bl_pI σ (bl_R σ v0 1) (Int32.toNatClampNeg v1) ((bl_I σ (bl_R σ v0 1) (Int32.toNatClampNeg v1)) - 1)) fun σ26 =>
  b_X10_writes_61  σ26 v0 v1 v2 v3 v4))) else (
  bl_gd (bl_in ((v1 + 1) + v5) 167) (
  bl_gd (bl_in (((v1 + 1) + v5) - 3) 167) (
  bl_let (bl_pI σ (bl_R σ v0 1) (Int32.toNatClampNeg (((v1 + 1) + v5) - 3)) (bl_I σ (bl_R σ v0 1) (Int32.toNatClampNeg ((v1 + 1) + v5)))) fun σ32 =>
  bl_let (v5 + 1) fun x34 =>
  k14 σ32 v0 v1 v2 v3 v4 x34)))
def f_X10_writes (σ : bl_St) (a0 : Nat) (a1 : Int32) (a2 : Int32) (a3 : Int32) (a4 : Int32) : Option (Unit × bl_St) :=
  bl_gd (bl_in a1 167) (
  if (bl_I σ (bl_R σ a0 1) (Int32.toNatClampNeg a1)) = 16 then (
  bl_fx (fun _ _ _ _ _ _ _ => none) (b_X10_writes_14 ) bl_fu σ a0 a1 a2 a3 a4 3) else (
  b_X10_writes_61  σ a0 a1 a2 a3 a4))
def f_X10_goesBy (σ : bl_St) (a0 : Nat) : Option (Unit × bl_St) :=
  bl_let (bl_pI σ (bl_R σ a0 1) 57 ((bl_I σ (bl_R σ a0 1) 57) + 1)) fun σ2 =>
  if (bl_I σ2 (bl_R σ2 a0 1) 2) ≤ (bl_I σ2 (bl_R σ2 a0 1) 57) then (
  bl_bd (f_X10_writes σ2 a0 118 (bl_I σ2 (bl_R σ2 a0 1) 68) (bl_I σ2 (bl_R σ2 a0 1) 67) (bl_I σ2 (bl_R σ2 a0 1) 58)) fun _ σ11 =>
  bl_bd (f_X10_behind σ11 a0 (bl_I σ11 (bl_R σ11 a0 1) 55) (bl_I σ11 (bl_R σ11 a0 1) 58)) fun r16 σ17 =>
  bl_let (bl_pI σ17 (bl_R σ11 a0 1) 55 r16) fun σ19 =>
  bl_let (bl_pI σ19 (bl_R σ19 a0 1) 60 ((bl_I σ19 (bl_R σ19 a0 1) 60) + 1)) fun σ22 =>
  bl_let (bl_pI σ22 (bl_R σ22 a0 1) 56 0) fun σ25 =>
  bl_let (bl_pI σ25 (bl_R σ25 a0 1) 57 0) fun σ28 =>
  bl_let (bl_pI σ28 (bl_R σ28 a0 1) 58 0) fun σ31 =>
  bl_let (bl_pI σ31 (bl_R σ31 a0 1) 59 0) fun σ34 =>
  some ((), σ34)) else (
  some ((), σ2))
def f_X10_quiet (σ : bl_St) (a0 : Nat) : Option (Int32 × bl_St) :=
  if (bl_I σ (bl_R σ a0 1) 56) = 0 then (
  some ((-1), σ)) else (
  bl_bd (f_X10_keeps σ a0) fun _ σ4 =>
  bl_let (((bl_I σ4 (bl_R σ4 a0 1) 2) - (bl_I σ4 (bl_R σ4 a0 1) 57)) - 1) fun x8 =>
  bl_bd (f_X10_goesBy σ4 a0) fun _ σ11 =>
  some (x8, σ11))
def b_X10_loses_38 (σ : bl_St) (v0 : Nat) (v2 : Int32) (v3 : Int32) (s0 : Int32) (s1 : Int32) (s2 : Int32) (s3 : Int32) (s4 : Nat) : Option (Int32 × bl_St) :=
  bl_bd (f_X10_writes σ s4 s3 s2 s1 s0) fun _ σ2 =>
  bl_let (bl_pI σ2 (bl_R σ2 v0 1) 67 ((bl_I σ2 (bl_R σ2 v0 1) 67) + v3)) fun σ5 =>
  if v2 = 0 then (
  bl_let (bl_pI σ5 (bl_R σ5 v0 1) 66 ((bl_I σ5 (bl_R σ5 v0 1) 66) + 1)) fun σ9 =>
  bl_let (bl_pI σ9 (bl_R σ9 v0 1) 64 ((bl_I σ9 (bl_R σ9 v0 1) 64) + v3)) fun σ12 =>
  bl_bd (f_X10_goesBy σ12 v0) fun _ σ15 =>
  some (v3, σ15)) else (
  bl_let (bl_pI σ5 (bl_R σ5 v0 1) 65 ((bl_I σ5 (bl_R σ5 v0 1) 65) + 1)) fun σ18 =>
  bl_let (bl_pI σ18 (bl_R σ18 v0 1) 63 ((bl_I σ18 (bl_R σ18 v0 1) 63) + v3)) fun σ21 =>
  if (bl_I σ21 (bl_R σ21 v0 1) 59) = 1 then (
  bl_let (bl_pI σ21 (bl_R σ21 v0 1) 59 0) fun σ32 =>
  bl_bd (f_X10_goesBy σ32 v0) fun _ σ35 =>
  some (v3, σ35)) else (
  bl_let (bl_pI σ21 (bl_R σ21 v0 1) 58 ((bl_I σ21 (bl_R σ21 v0 1) 58) + 1)) fun σ26 =>
  bl_bd (f_X10_goesBy σ26 v0) fun _ σ29 =>
  some (v3, σ29)))
def b_X10_loses_17 (σ : bl_St) (v0 : Nat) (v1 : Int32) (v2 : Int32) (s0 : Int32) : Option (Int32 × bl_St) :=
  if v2 = 0 then (
  b_X10_loses_38  σ v0 v2 s0 0 v1 (bl_I σ (bl_R σ v0 1) 60) 69 v0) else (
  b_X10_loses_38  σ v0 v2 s0 1 v1 (bl_I σ (bl_R σ v0 1) 60) 69 v0)
def f_X10_loses (σ : bl_St) (a0 : Nat) (a1 : Int32) (a2 : Int32) : Option (Int32 × bl_St) :=
  if a2 = 0 then (
  bl_bd (f_X10_size σ a0 a1) fun r40 σ41 =>
  b_X10_loses_17  σ41 a0 a1 a2 r40) else (
  bl_bd (f_X10_toldPays σ a0 a1) fun r43 σ44 =>
  b_X10_loses_17  σ44 a0 a1 a2 r43)
def f_X10_loss (σ : bl_St) (a0 : Nat) (a1 : Int32) (a2 : Int32) : Option (Int32 × bl_St) :=
  if (bl_I σ (bl_R σ a0 1) 56) = 0 then (
  some ((-1), σ)) else (
  bl_bd (f_X10_isSort σ a0 a1) fun r3 σ4 =>
  if r3 = 0 then (
  some ((-1), σ4)) else (
  bl_bd (f_X10_keeps σ4 a0) fun _ σ8 =>
  bl_bd (f_X10_loses σ8 a0 a1 a2) fun r10 σ11 =>
  some (r10, σ11)))
def f_X10_allPaid (σ : bl_St) (a0 : Nat) : Option (Int32 × bl_St) :=
  some (((((bl_I σ (bl_R σ a0 1) 61) + (bl_I σ (bl_R σ a0 1) 62)) + (bl_I σ (bl_R σ a0 1) 63)) + (bl_I σ (bl_R σ a0 1) 64)), σ)
def f_X10_draws (σ : bl_St) (a0 : Nat) (a1 : Int32) : Option (Int32 × bl_St) :=
  bl_let (bl_pI σ a0 6 (((bl_I σ a0 6) * 1103515245) + 12345)) fun σ1 =>
  bl_gd (!(decide (a1 = 0))) (
  some ((((Int32.toUInt32 (bl_I σ1 a0 6)) >>> ((Int32.toUInt32 8) &&& Int32.toUInt32 31)).toInt32 - ((Int32.toUInt32 (bl_I σ1 a0 6)) >>> ((Int32.toUInt32 8) &&& Int32.toUInt32 31)).toInt32 / a1 * a1), σ1))
def b_X10_sortDrawn_11 (k11 : bl_St → Nat → Int32 → Int32 → Option (Int32 × bl_St)) (σ : bl_St) (v0 : Nat) (v1 : Int32) (v2 : Int32) : Option (Int32 × bl_St) :=
  bl_bd (f_X10_weight σ v0 v2) fun r1 σ2 =>
  if v1 < r1 then (
  some (v2, σ2)) else (
  bl_bd (f_X10_weight σ2 v0 v2) fun r5 σ6 =>
  bl_let (v1 - r5) fun x8 =>
  bl_let (v2 + 1) fun x10 =>
  k11 σ6 v0 x8 x10)
def f_X10_sortDrawn (σ : bl_St) (a0 : Nat) : Option (Int32 × bl_St) :=
  bl_bd (f_X10_weights σ a0) fun r12 σ13 =>
  bl_bd (f_X10_draws σ13 a0 r12) fun r15 σ16 =>
  bl_fx (fun _ _ _ _ => none) (b_X10_sortDrawn_11 ) bl_fu σ16 a0 r15 0
def f_X10_countedNow (σ : bl_St) (a0 : Nat) : Option (Int32 × bl_St) :=
  if (bl_I σ (bl_R σ a0 1) 58) ≤ 2 then (
  some ((bl_I σ (bl_R σ a0 1) 58), σ)) else (
  some (2, σ))
def f_X10_slot (σ : bl_St) (a0 : Int32) (a1 : Int32) (a2 : Int32) : Option (Int32 × bl_St) :=
  some ((((6 * a0) + (2 * a1)) + a2), σ)
def f_X10_borneCost (σ : bl_St) (a0 : Nat) (a1 : Int32) (a2 : Int32) (a3 : Int32) (a4 : Int32) : Option (Int64 × bl_St) :=
  bl_bd (f_X10_size σ a0 a1) fun r1 σ2 =>
  bl_bd (f_X10_slot σ2 (a2 + 1) a3 a4) fun r5 σ6 =>
  bl_gd (bl_in r5 42) (
  some ((((Int32.toInt64 r1) * 1000) + (bl_J σ6 (bl_R σ2 a0 9) (Int32.toNatClampNeg r5))), σ6))
def b_X10_toldCost_22 (σ : bl_St) (v0 : Nat) (v1 : Int32) (v2 : Int32) (s0 : Int32) : Option (Int64 × bl_St) :=
  bl_bd (f_X10_toldPays σ v0 v1) fun r1 σ2 =>
  bl_bd (f_X10_slot σ2 (v2 + 1) s0 0) fun r5 σ6 =>
  bl_gd (bl_in r5 42) (
  some ((((Int32.toInt64 r1) * 1000) + (bl_J σ6 (bl_R σ2 v0 9) (Int32.toNatClampNeg r5))), σ6))
def f_X10_toldCost (σ : bl_St) (a0 : Nat) (a1 : Int32) (a2 : Int32) (a3 : Int32) (a4 : Int32) : Option (Int64 × bl_St) :=
  if a4 = 1 then (
  b_X10_toldCost_22  σ a0 a1 a2 a3) else (
  if 2 ≤ a3 then (
  b_X10_toldCost_22  σ a0 a1 a2 2) else (
  b_X10_toldCost_22  σ a0 a1 a2 (a3 + 1)))
def f_X10_gainOf (σ : bl_St) (a0 : Nat) (a1 : Int32) (a2 : Int32) (a3 : Int32) (a4 : Int32) : Option (Int64 × bl_St) :=
  bl_bd (f_X10_borneCost σ a0 a1 a2 a3 a4) fun r1 σ2 =>
  bl_bd (f_X10_toldCost σ2 a0 a1 a2 a3 a4) fun r4 σ5 =>
  some ((r1 - r4), σ5)
def f_X10_isGuarded (σ : bl_St) (a0 : Nat) (a1 : Int32) (a2 : Int32) : Option (Int32 × bl_St) :=
  bl_gd (bl_in ((8 * a1) + a2) 168) (
  bl_gd (bl_bo (bl_I σ (bl_R σ a0 8) (Int32.toNatClampNeg ((8 * a1) + a2)))) (
  some ((bl_I σ (bl_R σ a0 8) (Int32.toNatClampNeg ((8 * a1) + a2))), σ)))
def b_X10_lossCost_78 (σ : bl_St) (v5 : Int64) (v7 : Int64) (s0 : Int32) : Option (Int64 × bl_St) :=
  if s0 = 0 then (
  some (v7, σ)) else (
  some (v5, σ))
def b_X10_lossCost_77 (σ : bl_St) (v5 : Int64) (v7 : Int64) : Option (Int64 × bl_St) :=
  b_X10_lossCost_78  σ v5 v7 0
def b_X10_lossCost_73 (σ : bl_St) (v5 : Int64) (v7 : Int64) : Option (Int64 × bl_St) :=
  b_X10_lossCost_78  σ v5 v7 1
def f_X10_lossCost (σ : bl_St) (a0 : Nat) (a1 : Int32) (a2 : Int32) (a3 : Int32) (a4 : Int32) : Option (Int64 × bl_St) :=
  bl_bd (f_X10_toldCost σ a0 a1 a2 a3 a4) fun r2 σ3 =>
  bl_bd (f_X10_borneCost σ3 a0 a1 a2 a3 a4) fun r5 σ6 =>
  if (bl_I σ6 a0 11) = 0 then (
  if r5 ≤ r2 then (
  b_X10_lossCost_78  σ6 r2 r5 0) else (
  b_X10_lossCost_78  σ6 r2 r5 1)) else (
  if (bl_I σ6 a0 11) = 1 then (
  b_X10_lossCost_73  σ6 r2 r5) else (
  if (bl_I σ6 a0 11) = 3 then (
  bl_bd (f_X10_size σ6 a0 a1) fun r11 σ12 =>
  if r11 ≤ (bl_I σ12 a0 12) then (
  b_X10_lossCost_77  σ12 r2 r5) else (
  b_X10_lossCost_73  σ12 r2 r5)) else (
  b_X10_lossCost_77  σ6 r2 r5)))
def b_X10_chanceCost_118 (k118 : bl_St → Nat → Int32 → Int32 → Int32 → Int32 → Int64 → Int32 → Option (Int64 × bl_St)) (σ : bl_St) (v0 : Nat) (v1 : Int32) (v2 : Int32) (v3 : Int32) (v6 : Int32) (v7 : Int64) (v9 : Int32) : Option (Int64 × bl_St) :=
  if (bl_I σ (bl_R σ v0 1) 1) ≤ v9 then (
  bl_gd (!(decide ((Int32.toInt64 (12 * v6)) = 0))) (
  some ((v7 / (Int32.toInt64 (12 * v6))), σ))) else (
  bl_bd (f_X10_weight σ v0 v9) fun r5 σ6 =>
  bl_bd (f_X10_lossCost σ6 v0 v9 v1 v2 v3) fun r8 σ9 =>
  bl_let (v7 + ((Int32.toInt64 ((bl_I σ (bl_R σ v0 1) 3) * r5)) * r8)) fun x11 =>
  bl_let (v9 + 1) fun x13 =>
  k118 σ9 v0 v1 v2 v3 v6 x11 x13)
def b_X10_chanceCost_46 (k46 : bl_St → Nat → Int32 → Int32 → Int32 → Int64 → Int32 → Option (Int64 × bl_St)) (σ : bl_St) (v0 : Nat) (v1 : Int32) (v2 : Int32) (v3 : Int32) (v6 : Int64) (v8 : Int32) : Option (Int64 × bl_St) :=
  if (bl_I σ (bl_R σ v0 1) 1) ≤ v8 then (
  some (v6, σ)) else (
  if (bl_I σ (bl_R σ v0 1) 3) ≤ 0 then (
  some (v6, σ)) else (
  bl_bd (f_X10_lossCost σ v0 v8 v1 v2 v3) fun r19 σ20 =>
  bl_bd (f_X10_greater σ20 v6 r19) fun r22 σ23 =>
  bl_let (v8 + 1) fun x25 =>
  k46 σ23 v0 v1 v2 v3 r22 x25))
def b_X10_chanceCost_41 (σ : bl_St) (v0 : Nat) (v1 : Int32) (v2 : Int32) (v3 : Int32) (s0 : Int64) : Option (Int64 × bl_St) :=
  bl_fx (fun _ _ _ _ _ _ _ => none) (b_X10_chanceCost_46 ) bl_fu σ v0 v1 v2 v3 s0 0
def f_X10_chanceCost (σ : bl_St) (a0 : Nat) (a1 : Int32) (a2 : Int32) (a3 : Int32) : Option (Int64 × bl_St) :=
  bl_bd (f_X10_slot σ (a1 + 1) a2 a3) fun r28 σ29 =>
  bl_gd (bl_in r28 42) (
  bl_let (bl_J σ29 (bl_R σ a0 9) (Int32.toNatClampNeg r28)) fun x32 =>
  if (bl_I σ29 a0 13) = 0 then (
  bl_bd (f_X10_weights σ29 a0) fun r35 σ36 =>
  bl_let ((Int32.toInt64 ((12 - (bl_I σ36 (bl_R σ36 a0 1) 3)) * r35)) * x32) fun x39 =>
  bl_fx (fun _ _ _ _ _ _ _ _ => none) (b_X10_chanceCost_118 ) bl_fu σ36 a0 a1 a2 a3 r35 x39 0) else (
  if (bl_I σ29 (bl_R σ29 a0 1) 3) = 12 then (
  b_X10_chanceCost_41  σ29 a0 a1 a2 a3 (-9223372036854775808)) else (
  b_X10_chanceCost_41  σ29 a0 a1 a2 a3 x32)))
def f_X10_costAt (σ : bl_St) (a0 : Nat) (a1 : Int32) (a2 : Int32) : Option (Int64 × bl_St) :=
  bl_gd (bl_in ((8 * a1) + a2) 168) (
  some ((bl_J σ (bl_R σ a0 7) (Int32.toNatClampNeg ((8 * a1) + a2))), σ))
def b_X10_laysChances_83 (k74 : bl_St → Nat → Int32 → Int32 → Option (Unit × bl_St)) (k83 : bl_St → Nat → Int32 → Int32 → Int32 → Option (Unit × bl_St)) (σ : bl_St) (v0 : Nat) (v3 : Int32) (v4 : Int32) (v5 : Int32) : Option (Unit × bl_St) :=
  if 2 ≤ v5 then (
  bl_let (v4 + 1) fun x2 =>
  k74 σ v0 v3 x2) else (
  bl_bd (f_X10_slot σ v3 v4 v5) fun r5 σ6 =>
  bl_bd (f_X10_chanceCost σ6 v0 v3 v4 v5) fun r8 σ9 =>
  bl_gd (bl_in r5 42) (
  bl_let (bl_pJ σ9 (bl_R σ v0 9) (Int32.toNatClampNeg r5) r8) fun σ12 =>
  bl_let (v5 + 1) fun x14 =>
  k83 σ12 v0 v3 v4 x14))
def b_X10_laysChances_74 (k67 : bl_St → Nat → Int32 → Option (Unit × bl_St)) (k74 : bl_St → Nat → Int32 → Int32 → Option (Unit × bl_St)) (σ : bl_St) (v0 : Nat) (v3 : Int32) (v4 : Int32) : Option (Unit × bl_St) :=
  if 3 ≤ v4 then (
  bl_let (v3 + (-1)) fun x17 =>
  k67 σ v0 x17) else (
  bl_fx (fun _ _ _ _ _ => none) (b_X10_laysChances_83 k74) bl_fu σ v0 v3 v4 0)
def b_X10_laysChances_67 (k67 : bl_St → Nat → Int32 → Option (Unit × bl_St)) (σ : bl_St) (v0 : Nat) (v3 : Int32) : Option (Unit × bl_St) :=
  if v3 < 0 then (
  some ((), σ)) else (
  bl_fx (fun _ _ _ _ => none) (b_X10_laysChances_74 k67) bl_fu σ v0 v3 0)
def b_X10_laysChances_2 (k2 : bl_St → Nat → Int32 → Int32 → Int32 → Option (Unit × bl_St)) (σ : bl_St) (v0 : Nat) (v1 : Int32) (v2 : Int32) (v3 : Int32) : Option (Unit × bl_St) :=
  if 3 ≤ v3 then (
  bl_let ((bl_I σ v0 10) - 1) fun x21 =>
  bl_fx (fun _ _ _ => none) (b_X10_laysChances_67 ) bl_fu σ v0 x21) else (
  bl_bd (f_X10_behind σ v0 v2 v3) fun r23 σ24 =>
  bl_bd (f_X10_costAt σ24 v0 (v1 - 1) r23) fun r26 σ27 =>
  bl_bd (f_X10_slot σ27 (bl_I σ27 v0 10) v3 0) fun r30 σ31 =>
  bl_gd (bl_in r30 42) (
  bl_let (bl_pJ σ31 (bl_R σ27 v0 9) (Int32.toNatClampNeg r30) r26) fun σ34 =>
  bl_bd (f_X10_slot σ34 (bl_I σ34 v0 10) v3 1) fun r37 σ38 =>
  bl_gd (bl_in r37 42) (
  bl_let (bl_pJ σ38 (bl_R σ34 v0 9) (Int32.toNatClampNeg r37) r26) fun σ41 =>
  bl_let (v3 + 1) fun x43 =>
  k2 σ41 v0 v1 v2 x43)))
def f_X10_laysChances (σ : bl_St) (a0 : Nat) (a1 : Int32) (a2 : Int32) : Option (Unit × bl_St) :=
  bl_fx (fun _ _ _ _ _ => none) (b_X10_laysChances_2 ) bl_fu σ a0 a1 a2 0
def b_X10_laysYears_182 (k41 : bl_St → Nat → Int32 → Int32 → Int32 → Int32 → Int32 → Int32 → Option (Unit × bl_St)) (σ : bl_St) (v0 : Nat) (v1 : Int32) (v2 : Int32) (v4 : Int32) (v5 : Int32) (v6 : Int32) (v7 : Int32) (s0 : Int64) (s1 : Int32) (s2 : Nat) : Option (Unit × bl_St) :=
  bl_gd (bl_in s1 168) (
  bl_let (bl_pJ σ s2 (Int32.toNatClampNeg s1) s0) fun σ2 =>
  bl_let (v7 + 1) fun x4 =>
  k41 σ2 v0 v1 v2 v4 v5 v6 x4)
def b_X10_laysYears_141 (k41 : bl_St → Nat → Int32 → Int32 → Int32 → Int32 → Int32 → Int32 → Option (Unit × bl_St)) (σ : bl_St) (v0 : Nat) (v1 : Int32) (v2 : Int32) (v4 : Int32) (v5 : Int32) (v6 : Int32) (v7 : Int32) (v10 : Int64) (v12 : Int64) (s0 : Int32) : Option (Unit × bl_St) :=
  bl_gd (bl_in ((8 * v6) + v7) 168) (
  bl_let (bl_pI σ (bl_R σ v0 8) (Int32.toNatClampNeg ((8 * v6) + v7)) (bl_nz s0)) fun σ8 =>
  if s0 = 0 then (
  b_X10_laysYears_182 k41 σ8 v0 v1 v2 v4 v5 v6 v7 v10 ((8 * v6) + v7) (bl_R σ8 v0 7)) else (
  b_X10_laysYears_182 k41 σ8 v0 v1 v2 v4 v5 v6 v7 v12 ((8 * v6) + v7) (bl_R σ8 v0 7)))
def b_X10_laysYears_140 (k41 : bl_St → Nat → Int32 → Int32 → Int32 → Int32 → Int32 → Int32 → Option (Unit × bl_St)) (σ : bl_St) (v0 : Nat) (v1 : Int32) (v2 : Int32) (v4 : Int32) (v5 : Int32) (v6 : Int32) (v7 : Int32) (v10 : Int64) (v12 : Int64) : Option (Unit × bl_St) :=
  b_X10_laysYears_141 k41 σ v0 v1 v2 v4 v5 v6 v7 v10 v12 0
def b_X10_laysYears_41 (k32 : bl_St → Nat → Int32 → Int32 → Int32 → Int32 → Int32 → Option (Unit × bl_St)) (k41 : bl_St → Nat → Int32 → Int32 → Int32 → Int32 → Int32 → Int32 → Option (Unit × bl_St)) (σ : bl_St) (v0 : Nat) (v1 : Int32) (v2 : Int32) (v4 : Int32) (v5 : Int32) (v6 : Int32) (v7 : Int32) : Option (Unit × bl_St) :=
  if (bl_I σ (bl_R σ v0 1) 0) ≤ v7 then (
  bl_let (v6 + 1) fun x14 =>
  k32 σ v0 v1 v2 v4 v5 x14) else (
  bl_bd (f_X10_laysChances σ v0 v6 v7) fun _ σ17 =>
  bl_bd (f_X10_ofClass σ17 v0 v7 0) fun r19 σ20 =>
  bl_let (((Int32.toInt64 v4) * (Int32.toInt64 r19)) * 1000) fun x22 =>
  bl_let ((x22 - ((x22 * (Int32.toInt64 v5)) / 100)) + (bl_J σ20 (bl_R σ20 v0 9) 0)) fun x25 =>
  bl_bd (f_X10_ofClass σ20 v0 v7 4) fun r27 σ28 =>
  bl_let ((x22 + ((Int32.toInt64 r27) * 1000)) + (bl_J σ28 (bl_R σ28 v0 9) 1)) fun x31 =>
  if v2 = 0 then (
  b_X10_laysYears_140 k41 σ28 v0 v1 v2 v4 v5 v6 v7 x25 x31) else (
  if x25 ≤ x31 then (
  b_X10_laysYears_140 k41 σ28 v0 v1 v2 v4 v5 v6 v7 x25 x31) else (
  b_X10_laysYears_141 k41 σ28 v0 v1 v2 v4 v5 v6 v7 x25 x31 1)))
def b_X10_laysYears_32 (k32 : bl_St → Nat → Int32 → Int32 → Int32 → Int32 → Int32 → Option (Unit × bl_St)) (σ : bl_St) (v0 : Nat) (v1 : Int32) (v2 : Int32) (v4 : Int32) (v5 : Int32) (v6 : Int32) : Option (Unit × bl_St) :=
  if v1 < v6 then (
  some ((), σ)) else (
  bl_fx (fun _ _ _ _ _ _ _ _ => none) (b_X10_laysYears_41 k32) bl_fu σ v0 v1 v2 v4 v5 v6 0)
def b_X10_laysYears_8 (k8 : bl_St → Nat → Int32 → Int32 → Int32 → Int32 → Int32 → Option (Unit × bl_St)) (σ : bl_St) (v0 : Nat) (v1 : Int32) (v2 : Int32) (v4 : Int32) (v5 : Int32) (v6 : Int32) : Option (Unit × bl_St) :=
  if 8 ≤ v6 then (
  bl_fx (fun _ _ _ _ _ _ _ => none) (b_X10_laysYears_32 ) bl_fu σ v0 v1 v2 v4 v5 1) else (
  bl_gd (bl_in v6 168) (
  bl_let (bl_pJ σ (bl_R σ v0 7) (Int32.toNatClampNeg v6) 0) fun σ39 =>
  bl_let (v6 + 1) fun x41 =>
  k8 σ39 v0 v1 v2 v4 v5 x41))
def f_X10_laysYears (σ : bl_St) (a0 : Nat) (a1 : Int32) (a2 : Int32) (a3 : Int32) (a4 : Int32) (a5 : Int32) : Option (Unit × bl_St) :=
  bl_let (bl_pI σ a0 10 a3) fun σ43 =>
  bl_fx (fun _ _ _ _ _ _ _ => none) (b_X10_laysYears_8 ) bl_fu σ43 a0 a1 a2 a4 a5 0
def f_X10_lays (σ : bl_St) (a0 : Nat) (a1 : Int32) (a2 : Int32) (a3 : Int32) (a4 : Int32) : Option (Unit × bl_St) :=
  bl_let (bl_pI σ a0 11 a3) fun σ1 =>
  bl_let (bl_pI σ1 a0 12 a4) fun σ3 =>
  bl_let (bl_pI σ3 a0 13 0) fun σ5 =>
  bl_bd (f_X10_laysYears σ5 a0 a1 a2 (bl_I σ5 (bl_R σ5 a0 1) 2) 1 0) fun _ σ9 =>
  some ((), σ9)
def b_X10_lives_186 (k66 : bl_St → Nat → Int32 → Int32 → Int32 → Int32 → Int32 → Option (Unit × bl_St)) (σ : bl_St) (v0 : Nat) (v2 : Int32) (v3 : Int32) (v5 : Int32) (v6 : Int32) (v7 : Int32) : Option (Unit × bl_St) :=
  bl_let (v7 + 1) fun x1 =>
  k66 σ v0 v2 v3 v5 v6 x1
def b_X10_lives_176 (k66 : bl_St → Nat → Int32 → Int32 → Int32 → Int32 → Int32 → Option (Unit × bl_St)) (σ : bl_St) (v0 : Nat) (v2 : Int32) (v3 : Int32) (v5 : Int32) (v6 : Int32) (v7 : Int32) (v8 : Int32) (v9 : Int32) : Option (Unit × bl_St) :=
  bl_bd (f_X10_loses σ v0 v8 v9) fun r3 σ4 =>
  b_X10_lives_186 k66 σ4 v0 v2 v3 v5 v6 v7
def b_X10_lives_174 (k66 : bl_St → Nat → Int32 → Int32 → Int32 → Int32 → Int32 → Option (Unit × bl_St)) (σ : bl_St) (v0 : Nat) (v2 : Int32) (v3 : Int32) (v5 : Int32) (v6 : Int32) (v7 : Int32) (v8 : Int32) (s0 : Int32) : Option (Unit × bl_St) :=
  b_X10_lives_176 k66 σ v0 v2 v3 v5 v6 v7 v8 s0
def b_X10_lives_126 (k66 : bl_St → Nat → Int32 → Int32 → Int32 → Int32 → Int32 → Option (Unit × bl_St)) (σ : bl_St) (v0 : Nat) (v2 : Int32) (v3 : Int32) (v5 : Int32) (v6 : Int32) (v7 : Int32) (v8 : Int32) (s0 : Int32) : Option (Unit × bl_St) :=
  if v2 = 0 then (
  bl_bd (f_X10_laysChances σ v0 v5 (bl_I σ (bl_R σ v0 1) 55)) fun _ σ9 =>
  bl_bd (f_X10_countedNow σ9 v0) fun r11 σ12 =>
  bl_bd (f_X10_gainOf σ12 v0 v8 v7 r11 (bl_I σ12 (bl_R σ12 v0 1) 59)) fun r15 σ16 =>
  if r15 ≤ 0 then (
  b_X10_lives_174 k66 σ16 v0 v2 v3 v5 v6 v7 v8 0) else (
  b_X10_lives_174 k66 σ16 v0 v2 v3 v5 v6 v7 v8 1)) else (
  b_X10_lives_176 k66 σ v0 v2 v3 v5 v6 v7 v8 s0)
def b_X10_lives_125 (k66 : bl_St → Nat → Int32 → Int32 → Int32 → Int32 → Int32 → Option (Unit × bl_St)) (σ : bl_St) (v0 : Nat) (v2 : Int32) (v3 : Int32) (v5 : Int32) (v6 : Int32) (v7 : Int32) (v8 : Int32) : Option (Unit × bl_St) :=
  b_X10_lives_126 k66 σ v0 v2 v3 v5 v6 v7 v8 0
def b_X10_lives_121 (k66 : bl_St → Nat → Int32 → Int32 → Int32 → Int32 → Int32 → Option (Unit × bl_St)) (σ : bl_St) (v0 : Nat) (v2 : Int32) (v3 : Int32) (v5 : Int32) (v6 : Int32) (v7 : Int32) (v8 : Int32) : Option (Unit × bl_St) :=
  b_X10_lives_126 k66 σ v0 v2 v3 v5 v6 v7 v8 1
def b_X10_lives_66 (k21 : bl_St → Nat → Int32 → Int32 → Int32 → Option (Unit × bl_St)) (k66 : bl_St → Nat → Int32 → Int32 → Int32 → Int32 → Int32 → Option (Unit × bl_St)) (σ : bl_St) (v0 : Nat) (v2 : Int32) (v3 : Int32) (v5 : Int32) (v6 : Int32) (v7 : Int32) : Option (Unit × bl_St) :=
  if v6 ≤ v7 then (
  bl_let (v5 + (-1)) fun x20 =>
  k21 σ v0 v2 v3 x20) else (
  bl_bd (f_X10_draws σ v0 12) fun r22 σ23 =>
  if r22 < (bl_I σ23 (bl_R σ23 v0 1) 3) then (
  bl_bd (f_X10_sortDrawn σ23 v0) fun r27 σ28 =>
  if v2 = 1 then (
  b_X10_lives_121 k66 σ28 v0 v2 v3 v5 v6 v7 r27) else (
  if v2 = 3 then (
  bl_bd (f_X10_size σ28 v0 r27) fun r32 σ33 =>
  if r32 ≤ v3 then (
  b_X10_lives_125 k66 σ33 v0 v2 v3 v5 v6 v7 r27) else (
  b_X10_lives_121 k66 σ33 v0 v2 v3 v5 v6 v7 r27)) else (
  b_X10_lives_125 k66 σ28 v0 v2 v3 v5 v6 v7 r27))) else (
  bl_bd (f_X10_goesBy σ23 v0) fun _ σ37 =>
  b_X10_lives_186 k66 σ37 v0 v2 v3 v5 v6 v7))
def b_X10_lives_52 (k21 : bl_St → Nat → Int32 → Int32 → Int32 → Option (Unit × bl_St)) (σ : bl_St) (v0 : Nat) (v2 : Int32) (v3 : Int32) (v5 : Int32) (s0 : Int32) (s1 : Nat) : Option (Unit × bl_St) :=
  bl_bd (f_X10_begins σ s1 s0) fun _ σ40 =>
  bl_let (bl_I σ40 (bl_R σ40 v0 1) 2) fun x43 =>
  bl_fx (fun _ _ _ _ _ _ _ => none) (b_X10_lives_66 k21) bl_fu σ40 v0 v2 v3 v5 x43 0
def b_X10_lives_51 (k21 : bl_St → Nat → Int32 → Int32 → Int32 → Option (Unit × bl_St)) (σ : bl_St) (v0 : Nat) (v2 : Int32) (v3 : Int32) (v5 : Int32) (s0 : Nat) : Option (Unit × bl_St) :=
  b_X10_lives_52 k21 σ v0 v2 v3 v5 0 s0
def b_X10_lives_21 (k21 : bl_St → Nat → Int32 → Int32 → Int32 → Option (Unit × bl_St)) (σ : bl_St) (v0 : Nat) (v2 : Int32) (v3 : Int32) (v5 : Int32) : Option (Unit × bl_St) :=
  if v5 ≤ 0 then (
  some ((), σ)) else (
  if v2 = 0 then (
  bl_bd (f_X10_isGuarded σ v0 v5 (bl_I σ (bl_R σ v0 1) 55)) fun r48 σ49 =>
  if r48 = 0 then (
  b_X10_lives_51 k21 σ49 v0 v2 v3 v5 v0) else (
  b_X10_lives_52 k21 σ49 v0 v2 v3 v5 1 v0)) else (
  b_X10_lives_51 k21 σ v0 v2 v3 v5 v0))
def b_X10_lives_18 (σ : bl_St) (v0 : Nat) (v1 : Int32) (v2 : Int32) (v3 : Int32) : Option (Unit × bl_St) :=
  bl_fx (fun _ _ _ _ _ => none) (b_X10_lives_21 ) bl_fu σ v0 v2 v3 v1
def f_X10_lives (σ : bl_St) (a0 : Nat) (a1 : Int32) (a2 : Int32) (a3 : Int32) (a4 : Int32) : Option (Unit × bl_St) :=
  bl_let (bl_pI σ a0 6 a4) fun σ52 =>
  if a2 = 0 then (
  bl_bd (f_X10_lays σ52 a0 a1 1 0 0) fun _ σ56 =>
  b_X10_lives_18  σ56 a0 a1 a2 a3) else (
  b_X10_lives_18  σ52 a0 a1 a2 a3)
def b_X10_isLived_39 (σ : bl_St) (s0 : Int64) (s1 : Int64) (s2 : Int64) : Option (Int32 × bl_St) :=
  bl_bd (f_X10_in σ s2 s1 s0) fun r1 σ2 =>
  if r1 = 0 then (
  some (0, σ2)) else (
  some (1, σ2))
def f_X10_isLived (σ : bl_St) (a0 : Int32) (a1 : Int32) (a2 : Int32) : Option (Int32 × bl_St) :=
  bl_bd (f_X10_in σ (Int32.toInt64 a0) 1 20) fun r5 σ6 =>
  if r5 = 0 then (
  some (0, σ6)) else (
  bl_bd (f_X10_in σ6 (Int32.toInt64 a1) 0 3) fun r9 σ10 =>
  if r9 = 0 then (
  some (0, σ10)) else (
  if a1 = 3 then (
  b_X10_isLived_39  σ10 999 0 (Int32.toInt64 a2)) else (
  b_X10_isLived_39  σ10 0 0 (Int32.toInt64 a2))))
def f_X10_live (σ : bl_St) (a0 : Nat) (a1 : Int32) (a2 : Int32) (a3 : Int32) (a4 : Int32) : Option (Int32 × bl_St) :=
  if (bl_I σ (bl_R σ a0 1) 0) = 0 then (
  some ((-1), σ)) else (
  if (bl_I σ (bl_R σ a0 1) 56) = 1 then (
  some ((-1), σ)) else (
  bl_bd (f_X10_isLived σ a1 a2 a3) fun r5 σ6 =>
  if r5 = 0 then (
  some ((-1), σ6)) else (
  bl_bd (f_X10_keeps σ6 a0) fun _ σ10 =>
  bl_bd (f_X10_allPaid σ10 a0) fun r12 σ13 =>
  bl_bd (f_X10_lives σ13 a0 a1 a2 a3 a4) fun _ σ16 =>
  bl_bd (f_X10_allPaid σ16 a0) fun r18 σ19 =>
  some ((r18 - r12), σ19))))
def f_X10_come (σ : bl_St) (a0 : Nat) (a1 : Int32) (a2 : Int32) : Option (Int32 × bl_St) :=
  if (bl_I σ (bl_R σ a0 1) 0) = 0 then (
  some ((-1), σ)) else (
  bl_bd (f_X10_in σ (Int32.toInt64 a1) 1 999) fun r3 σ4 =>
  if r3 = 0 then (
  some ((-1), σ4)) else (
  bl_bd (f_X10_in σ4 (Int32.toInt64 a2) 1 9) fun r7 σ8 =>
  if r7 = 0 then (
  some ((-1), σ8)) else (
  if (bl_I σ8 (bl_R σ8 a0 1) 1) = 5 then (
  some ((-1), σ8)) else (
  bl_bd (f_X10_keeps σ8 a0) fun _ σ14 =>
  bl_gd (bl_in (45 + (2 * (bl_I σ14 (bl_R σ14 a0 1) 1))) 167) (
  bl_let (bl_pI σ14 (bl_R σ14 a0 1) (Int32.toNatClampNeg (45 + (2 * (bl_I σ14 (bl_R σ14 a0 1) 1)))) a1) fun σ19 =>
  bl_gd (bl_in ((45 + (2 * (bl_I σ19 (bl_R σ19 a0 1) 1))) + 1) 167) (
  bl_let (bl_pI σ19 (bl_R σ19 a0 1) (Int32.toNatClampNeg ((45 + (2 * (bl_I σ19 (bl_R σ19 a0 1) 1))) + 1)) a2) fun σ24 =>
  bl_let (bl_pI σ24 (bl_R σ24 a0 1) 1 ((bl_I σ24 (bl_R σ24 a0 1) 1) + 1)) fun σ27 =>
  some (((bl_I σ27 (bl_R σ27 a0 1) 1) - 1), σ27)))))))
def b_X10_takesOut_7 (k7 : bl_St → Nat → Int32 → Option (Unit × bl_St)) (σ : bl_St) (v0 : Nat) (v2 : Int32) : Option (Unit × bl_St) :=
  if ((45 + (2 * (bl_I σ (bl_R σ v0 1) 1))) - 2) ≤ v2 then (
  bl_let (bl_pI σ (bl_R σ v0 1) 1 ((bl_I σ (bl_R σ v0 1) 1) - 1)) fun σ4 =>
  some ((), σ4)) else (
  bl_gd (bl_in (v2 + 2) 167) (
  bl_gd (bl_in v2 167) (
  bl_let (bl_pI σ (bl_R σ v0 1) (Int32.toNatClampNeg v2) (bl_I σ (bl_R σ v0 1) (Int32.toNatClampNeg (v2 + 2)))) fun σ10 =>
  bl_let (v2 + 1) fun x12 =>
  k7 σ10 v0 x12)))
def f_X10_takesOut (σ : bl_St) (a0 : Nat) (a1 : Int32) : Option (Unit × bl_St) :=
  bl_let (45 + (2 * a1)) fun x14 =>
  bl_fx (fun _ _ _ => none) (b_X10_takesOut_7 ) bl_fu σ a0 x14
def f_X10_drop (σ : bl_St) (a0 : Nat) (a1 : Int32) : Option (Int32 × bl_St) :=
  bl_bd (f_X10_isSort σ a0 a1) fun r1 σ2 =>
  if r1 = 0 then (
  some ((-1), σ2)) else (
  if (bl_I σ2 (bl_R σ2 a0 1) 1) = 1 then (
  some ((-1), σ2)) else (
  bl_bd (f_X10_keeps σ2 a0) fun _ σ8 =>
  bl_bd (f_X10_takesOut σ8 a0 a1) fun _ σ11 =>
  some ((bl_I σ11 (bl_R σ11 a0 1) 1), σ11)))
def f_X10_move (σ : bl_St) (a0 : Nat) (a1 : Int32) : Option (Int32 × bl_St) :=
  bl_bd (f_X10_isClass σ a0 a1) fun r1 σ2 =>
  if r1 = 0 then (
  some ((-1), σ2)) else (
  if (bl_I σ2 (bl_R σ2 a0 1) 56) = 0 then (
  bl_bd (f_X10_becomes σ2 a0 55 a1) fun r7 σ8 =>
  some (r7, σ8)) else (
  some ((-1), σ2)))
def b_X10_anew_15 (k15 : bl_St → Nat → Int32 → Int32 → Option (Int32 × bl_St)) (σ : bl_St) (v0 : Nat) (v1 : Int32) (v2 : Int32) : Option (Int32 × bl_St) :=
  if 167 ≤ v2 then (
  some (v1, σ)) else (
  bl_gd (bl_in v2 167) (
  bl_let (bl_pI σ (bl_R σ v0 1) (Int32.toNatClampNeg v2) 0) fun σ4 =>
  bl_let (v2 + 1) fun x6 =>
  k15 σ4 v0 v1 x6))
def f_X10_anew (σ : bl_St) (a0 : Nat) : Option (Int32 × bl_St) :=
  bl_bd (f_X10_keeps σ a0) fun _ σ9 =>
  bl_let (bl_I σ9 (bl_R σ9 a0 1) 60) fun x12 =>
  bl_fx (fun _ _ _ _ => none) (b_X10_anew_15 ) bl_fu σ9 a0 x12 55
def b_X10_undo_21 (k21 : bl_St → Nat → Int32 → Option (Int32 × bl_St)) (σ : bl_St) (v0 : Nat) (v1 : Int32) : Option (Int32 × bl_St) :=
  if 167 ≤ v1 then (
  some ((bl_I σ v0 5), σ)) else (
  bl_gd (bl_in ((167 * (bl_I σ v0 5)) + v1) 2004) (
  bl_gd (bl_in v1 167) (
  bl_let (bl_pI σ (bl_R σ v0 1) (Int32.toNatClampNeg v1) (bl_I σ (bl_R σ v0 4) (Int32.toNatClampNeg ((167 * (bl_I σ v0 5)) + v1)))) fun σ6 =>
  bl_let (v1 + 1) fun x8 =>
  k21 σ6 v0 x8)))
def f_X10_undo (σ : bl_St) (a0 : Nat) : Option (Int32 × bl_St) :=
  if (bl_I σ a0 5) = 0 then (
  some ((-1), σ)) else (
  bl_let (bl_pI σ a0 5 ((bl_I σ a0 5) - 1)) fun σ11 =>
  bl_fx (fun _ _ _ => none) (b_X10_undo_21 ) bl_fu σ11 a0 0)
def f_X10_areYears (σ : bl_St) (a0 : Int32) : Option (Int32 × bl_St) :=
  bl_bd (f_X10_in σ (Int32.toInt64 a0) 0 20) fun r1 σ2 =>
  bl_gd (bl_bo r1) (
  some (r1, σ2))
def f_X10_bestCost (σ : bl_St) (a0 : Nat) (a1 : Int32) (a2 : Int32) : Option (Int64 × bl_St) :=
  bl_bd (f_X10_lays σ a0 a1 1 0 0) fun _ σ2 =>
  bl_bd (f_X10_costAt σ2 a0 a1 a2) fun r4 σ5 =>
  some (r4, σ5)
def f_X10_bareCost (σ : bl_St) (a0 : Nat) (a1 : Int32) (a2 : Int32) : Option (Int64 × bl_St) :=
  bl_bd (f_X10_lays σ a0 a1 0 0 0) fun _ σ2 =>
  bl_bd (f_X10_costAt σ2 a0 a1 a2) fun r4 σ5 =>
  some (r4, σ5)
def f_X10_cost (σ : bl_St) (a0 : Nat) (a1 : Int32) (a2 : Int32) : Option (Int64 × bl_St) :=
  bl_bd (f_X10_areYears σ a1) fun r1 σ2 =>
  if r1 = 0 then (
  some ((-1), σ2)) else (
  bl_bd (f_X10_isClass σ2 a0 a2) fun r5 σ6 =>
  if r5 = 0 then (
  some ((-1), σ6)) else (
  bl_bd (f_X10_bestCost σ6 a0 a1 a2) fun r9 σ10 =>
  some (r9, σ10)))
def f_X10_guards (σ : bl_St) (a0 : Nat) (a1 : Int32) (a2 : Int32) : Option (Int32 × bl_St) :=
  bl_bd (f_X10_areYears σ a1) fun r1 σ2 =>
  if r1 = 0 then (
  some ((-1), σ2)) else (
  bl_bd (f_X10_isClass σ2 a0 a2) fun r5 σ6 =>
  if r5 = 0 then (
  some ((-1), σ6)) else (
  bl_bd (f_X10_lays σ6 a0 a1 1 0 0) fun _ σ10 =>
  if a1 ≤ 0 then (
  some (0, σ10)) else (
  bl_bd (f_X10_isGuarded σ10 a0 a1 a2) fun r13 σ14 =>
  if r13 = 0 then (
  some (0, σ14)) else (
  some (1, σ14)))))
def f_X10_isChance (σ : bl_St) (a0 : Nat) (a1 : Int32) (a2 : Int32) (a3 : Int32) (a4 : Int32) (a5 : Int32) : Option (Int32 × bl_St) :=
  bl_bd (f_X10_in σ (Int32.toInt64 a1) 1 20) fun r1 σ2 =>
  if r1 = 0 then (
  some (0, σ2)) else (
  bl_bd (f_X10_isClass σ2 a0 a2) fun r5 σ6 =>
  if r5 = 0 then (
  some (0, σ6)) else (
  bl_bd (f_X10_in σ6 (Int32.toInt64 a3) 0 (Int32.toInt64 a5)) fun r9 σ10 =>
  if r9 = 0 then (
  some (0, σ10)) else (
  bl_bd (f_X10_in σ10 (Int32.toInt64 a4) 0 2) fun r13 σ14 =>
  if r13 = 0 then (
  some (0, σ14)) else (
  bl_bd (f_X10_lays σ14 a0 a1 1 0 0) fun _ σ18 =>
  bl_bd (f_X10_laysChances σ18 a0 a1 a2) fun _ σ21 =>
  some (1, σ21)))))
def f_X10_ahead (σ : bl_St) (a0 : Nat) (a1 : Int32) (a2 : Int32) (a3 : Int32) (a4 : Int32) (a5 : Int32) : Option (Int64 × bl_St) :=
  bl_bd (f_X10_isChance σ a0 a1 a2 a3 a4 (bl_I σ (bl_R σ a0 1) 2)) fun r2 σ3 =>
  if r2 = 0 then (
  some ((-1), σ3)) else (
  if a5 = 0 then (
  bl_bd (f_X10_slot σ3 a3 a4 0) fun r8 σ9 =>
  bl_gd (bl_in r8 42) (
  some ((bl_J σ9 (bl_R σ3 a0 9) (Int32.toNatClampNeg r8)), σ9))) else (
  bl_bd (f_X10_slot σ3 a3 a4 1) fun r12 σ13 =>
  bl_gd (bl_in r12 42) (
  some ((bl_J σ13 (bl_R σ3 a0 9) (Int32.toNatClampNeg r12)), σ13))))
def b_X10_leastSize_89 (k57 : bl_St → Nat → Int64 → Int64 → Int32 → Option (Int32 × bl_St)) (σ : bl_St) (v0 : Nat) (v5 : Int64) (v7 : Int64) (v9 : Int32) (s0 : Int64) : Option (Int32 × bl_St) :=
  if (((Int32.toInt64 v9) * 1000) + v7) ≤ ((s0 * 1000) + v5) then (
  bl_let (v9 + 1) fun x2 =>
  k57 σ v0 v5 v7 x2) else (
  some (v9, σ))
def b_X10_leastSize_57 (k57 : bl_St → Nat → Int64 → Int64 → Int32 → Option (Int32 × bl_St)) (σ : bl_St) (v0 : Nat) (v5 : Int64) (v7 : Int64) (v9 : Int32) : Option (Int32 × bl_St) :=
  if 9999 < v9 then (
  some ((-2), σ)) else (
  if v9 ≤ (bl_I σ (bl_R σ v0 1) 4) then (
  b_X10_leastSize_89 k57 σ v0 v5 v7 v9 (Int32.toInt64 v9)) else (
  b_X10_leastSize_89 k57 σ v0 v5 v7 v9 (Int32.toInt64 (bl_I σ (bl_R σ v0 1) 4))))
def b_X10_leastSize_21 (σ : bl_St) (v0 : Nat) (v1 : Int32) (v2 : Int32) (v3 : Int32) (s0 : Int32) : Option (Int32 × bl_St) :=
  bl_bd (f_X10_slot σ (v1 + 1) s0 0) fun r9 σ10 =>
  bl_gd (bl_in r9 42) (
  bl_let (bl_J σ10 (bl_R σ v0 9) (Int32.toNatClampNeg r9)) fun x13 =>
  bl_bd (f_X10_slot σ10 (v1 + 1) v2 v3) fun r16 σ17 =>
  bl_gd (bl_in r16 42) (
  bl_let (bl_J σ17 (bl_R σ10 v0 9) (Int32.toNatClampNeg r16)) fun x20 =>
  bl_fx (fun _ _ _ _ _ => none) (b_X10_leastSize_57 ) bl_fu σ17 v0 x13 x20 1))
def f_X10_leastSize (σ : bl_St) (a0 : Nat) (a1 : Int32) (a2 : Int32) (a3 : Int32) : Option (Int32 × bl_St) :=
  if a3 = 1 then (
  b_X10_leastSize_21  σ a0 a1 a2 a3 a2) else (
  if 2 ≤ a2 then (
  b_X10_leastSize_21  σ a0 a1 a2 a3 2) else (
  b_X10_leastSize_21  σ a0 a1 a2 a3 (a2 + 1)))
def f_X10_least (σ : bl_St) (a0 : Nat) (a1 : Int32) (a2 : Int32) (a3 : Int32) (a4 : Int32) (a5 : Int32) : Option (Int32 × bl_St) :=
  bl_bd (f_X10_isChance σ a0 a1 a2 a3 a4 ((bl_I σ (bl_R σ a0 1) 2) - 1)) fun r2 σ3 =>
  if r2 = 0 then (
  some ((-1), σ3)) else (
  if a5 = 0 then (
  bl_bd (f_X10_leastSize σ3 a0 a3 a4 0) fun r7 σ8 =>
  some (r7, σ8)) else (
  bl_bd (f_X10_leastSize σ3 a0 a3 a4 1) fun r10 σ11 =>
  some (r10, σ11)))
def b_X10_tells_72 (k28 : bl_St → Nat → Int32 → Int32 → Int32 → Int32 → Int32 → Option (Int32 × bl_St)) (σ : bl_St) (v0 : Nat) (v3 : Int32) (v4 : Int32) (v5 : Int32) (v6 : Int32) (v7 : Int32) : Option (Int32 × bl_St) :=
  bl_let (v7 + 1) fun x1 =>
  k28 σ v0 v3 v4 v5 v6 x1
def b_X10_tells_55 (k28 : bl_St → Nat → Int32 → Int32 → Int32 → Int32 → Int32 → Option (Int32 × bl_St)) (σ : bl_St) (v0 : Nat) (v3 : Int32) (v4 : Int32) (v5 : Int32) (v6 : Int32) (v7 : Int32) (s0 : Int32) (s1 : Int32) (s2 : Int32) (s3 : Int32) (s4 : Nat) : Option (Int32 × bl_St) :=
  bl_bd (f_X10_gainOf σ s4 s3 s2 s1 s0) fun r3 σ4 =>
  if r3 ≤ 0 then (
  b_X10_tells_72 k28 σ4 v0 v3 v4 v5 v6 v7) else (
  bl_let (v6 ||| (1 <<< (v7 &&& 31))) fun x7 =>
  b_X10_tells_72 k28 σ4 v0 v3 v4 v5 x7 v7)
def b_X10_tells_28 (k28 : bl_St → Nat → Int32 → Int32 → Int32 → Int32 → Int32 → Option (Int32 × bl_St)) (σ : bl_St) (v0 : Nat) (v3 : Int32) (v4 : Int32) (v5 : Int32) (v6 : Int32) (v7 : Int32) : Option (Int32 × bl_St) :=
  if (bl_I σ (bl_R σ v0 1) 1) ≤ v7 then (
  some (v6, σ)) else (
  if v5 = 0 then (
  b_X10_tells_55 k28 σ v0 v3 v4 v5 v6 v7 0 v4 v3 v7 v0) else (
  b_X10_tells_55 k28 σ v0 v3 v4 v5 v6 v7 1 v4 v3 v7 v0))
def f_X10_tells (σ : bl_St) (a0 : Nat) (a1 : Int32) (a2 : Int32) (a3 : Int32) (a4 : Int32) (a5 : Int32) : Option (Int32 × bl_St) :=
  bl_bd (f_X10_isChance σ a0 a1 a2 a3 a4 ((bl_I σ (bl_R σ a0 1) 2) - 1)) fun r13 σ14 =>
  if r13 = 0 then (
  some ((-1), σ14)) else (
  bl_fx (fun _ _ _ _ _ _ _ => none) (b_X10_tells_28 ) bl_fu σ14 a0 a3 a4 a5 0 0)
def f_X10_gain (σ : bl_St) (a0 : Nat) (a1 : Int32) (a2 : Int32) (a3 : Int32) (a4 : Int32) (a5 : Int32) (a6 : Int32) : Option (Int64 × bl_St) :=
  bl_bd (f_X10_isSort σ a0 a6) fun r1 σ2 =>
  if r1 = 0 then (
  some ((-9223372036854775808), σ2)) else (
  bl_bd (f_X10_isChance σ2 a0 a1 a2 a3 a4 ((bl_I σ2 (bl_R σ2 a0 1) 2) - 1)) fun r6 σ7 =>
  if r6 = 0 then (
  some ((-9223372036854775808), σ7)) else (
  if a5 = 0 then (
  bl_bd (f_X10_gainOf σ7 a0 a6 a3 a4 0) fun r11 σ12 =>
  some (r11, σ12)) else (
  bl_bd (f_X10_gainOf σ7 a0 a6 a3 a4 1) fun r14 σ15 =>
  some (r14, σ15))))
def b_X10_patience_29 (k29 : bl_St → Nat → Int32 → Int32 → Int32 → Option (Int32 × bl_St)) (σ : bl_St) (v0 : Nat) (v1 : Int32) (v2 : Int32) (v3 : Int32) : Option (Int32 × bl_St) :=
  if 20 < v3 then (
  some ((-2), σ)) else (
  bl_bd (f_X10_laysChances σ v0 v3 v1) fun _ σ3 =>
  bl_bd (f_X10_gainOf σ3 v0 v2 0 0 0) fun r5 σ6 =>
  if 0 < r5 then (
  bl_let (v3 + 1) fun x9 =>
  k29 σ6 v0 v1 v2 x9) else (
  some (v3, σ6)))
def f_X10_patience (σ : bl_St) (a0 : Nat) (a1 : Int32) (a2 : Int32) : Option (Int32 × bl_St) :=
  bl_bd (f_X10_isClass σ a0 a1) fun r11 σ12 =>
  if r11 = 0 then (
  some ((-1), σ12)) else (
  bl_bd (f_X10_isSort σ12 a0 a2) fun r15 σ16 =>
  if r15 = 0 then (
  some ((-1), σ16)) else (
  bl_bd (f_X10_lays σ16 a0 20 1 0 0) fun _ σ20 =>
  bl_fx (fun _ _ _ _ _ => none) (b_X10_patience_29 ) bl_fu σ20 a0 a1 a2 1))
def f_X10_worst (σ : bl_St) (a0 : Nat) (a1 : Int32) (a2 : Int32) : Option (Int64 × bl_St) :=
  bl_bd (f_X10_areYears σ a1) fun r1 σ2 =>
  if r1 = 0 then (
  some ((-1), σ2)) else (
  bl_bd (f_X10_isClass σ2 a0 a2) fun r5 σ6 =>
  if r5 = 0 then (
  some ((-1), σ6)) else (
  bl_let (bl_pI σ6 a0 11 0) fun σ9 =>
  bl_let (bl_pI σ9 a0 13 1) fun σ11 =>
  bl_bd (f_X10_laysYears σ11 a0 a1 0 (bl_I σ11 (bl_R σ11 a0 1) 2) 1 0) fun _ σ15 =>
  bl_let (bl_pI σ15 a0 13 0) fun σ17 =>
  bl_bd (f_X10_costAt σ17 a0 a1 a2) fun r19 σ20 =>
  some (r19, σ20)))
def f_X10_bare (σ : bl_St) (a0 : Nat) (a1 : Int32) (a2 : Int32) : Option (Int64 × bl_St) :=
  bl_bd (f_X10_areYears σ a1) fun r1 σ2 =>
  if r1 = 0 then (
  some ((-1), σ2)) else (
  bl_bd (f_X10_isClass σ2 a0 a2) fun r5 σ6 =>
  if r5 = 0 then (
  some ((-1), σ6)) else (
  bl_bd (f_X10_bareCost σ6 a0 a1 a2) fun r9 σ10 =>
  some (r9, σ10)))
def b_X10_by_27 (σ : bl_St) (v0 : Nat) (v1 : Int32) (v2 : Int32) (v3 : Int32) (v4 : Int32) (s0 : Int64) (s1 : Int64) (s2 : Int64) : Option (Int64 × bl_St) :=
  bl_bd (f_X10_in σ s2 s1 s0) fun r1 σ2 =>
  if r1 = 0 then (
  some ((-1), σ2)) else (
  bl_bd (f_X10_areYears σ2 v3) fun r5 σ6 =>
  if r5 = 0 then (
  some ((-1), σ6)) else (
  bl_bd (f_X10_isClass σ6 v0 v4) fun r9 σ10 =>
  if r9 = 0 then (
  some ((-1), σ10)) else (
  bl_bd (f_X10_lays σ10 v0 v3 0 v1 v2) fun _ σ14 =>
  bl_bd (f_X10_costAt σ14 v0 v3 v4) fun r16 σ17 =>
  some (r16, σ17))))
def f_X10_by (σ : bl_St) (a0 : Nat) (a1 : Int32) (a2 : Int32) (a3 : Int32) (a4 : Int32) : Option (Int64 × bl_St) :=
  bl_bd (f_X10_in σ (Int32.toInt64 a1) 0 3) fun r19 σ20 =>
  if r19 = 0 then (
  some ((-1), σ20)) else (
  if a1 = 3 then (
  b_X10_by_27  σ20 a0 a1 a2 a3 a4 999 0 (Int32.toInt64 a2)) else (
  b_X10_by_27  σ20 a0 a1 a2 a3 a4 0 0 (Int32.toInt64 a2)))
def b_X10_bestLimit_136 (k25 : bl_St → Nat → Int32 → Int32 → Int32 → Int64 → Int32 → Option (Int32 × bl_St)) (σ : bl_St) (v0 : Nat) (v1 : Int32) (v2 : Int32) (v3 : Int32) (v4 : Int64) (v6 : Int32) : Option (Int32 × bl_St) :=
  bl_let (v6 + 1) fun x1 =>
  k25 σ v0 v1 v2 v3 v4 x1
def b_X10_bestLimit_125 (k25 : bl_St → Nat → Int32 → Int32 → Int32 → Int64 → Int32 → Option (Int32 × bl_St)) (σ : bl_St) (v0 : Nat) (v1 : Int32) (v2 : Int32) (v6 : Int32) : Option (Int32 × bl_St) :=
  bl_bd (f_X10_costAt σ v0 v1 v2) fun r3 σ4 =>
  b_X10_bestLimit_136 k25 σ4 v0 v1 v2 v6 r3 v6
def b_X10_bestLimit_80 (k48 : bl_St → Nat → Int32 → Int32 → Int32 → Int64 → Int32 → Int32 → Int32 → Option (Int32 × bl_St)) (σ : bl_St) (v0 : Nat) (v1 : Int32) (v2 : Int32) (v3 : Int32) (v4 : Int64) (v6 : Int32) (v8 : Int32) (s0 : Int32) : Option (Int32 × bl_St) :=
  bl_let (v8 + 1) fun x6 =>
  k48 σ v0 v1 v2 v3 v4 v6 s0 x6
def b_X10_bestLimit_75 (k48 : bl_St → Nat → Int32 → Int32 → Int32 → Int64 → Int32 → Int32 → Int32 → Option (Int32 × bl_St)) (σ : bl_St) (v0 : Nat) (v1 : Int32) (v2 : Int32) (v3 : Int32) (v4 : Int64) (v6 : Int32) (v8 : Int32) : Option (Int32 × bl_St) :=
  b_X10_bestLimit_80 k48 σ v0 v1 v2 v3 v4 v6 v8 1
def b_X10_bestLimit_48 (k25 : bl_St → Nat → Int32 → Int32 → Int32 → Int64 → Int32 → Option (Int32 × bl_St)) (k48 : bl_St → Nat → Int32 → Int32 → Int32 → Int64 → Int32 → Int32 → Int32 → Option (Int32 × bl_St)) (σ : bl_St) (v0 : Nat) (v1 : Int32) (v2 : Int32) (v3 : Int32) (v4 : Int64) (v6 : Int32) (v7 : Int32) (v8 : Int32) : Option (Int32 × bl_St) :=
  if (bl_I σ (bl_R σ v0 1) 1) ≤ v8 then (
  if v7 = 0 then (
  b_X10_bestLimit_136 k25 σ v0 v1 v2 v3 v4 v6) else (
  bl_bd (f_X10_lays σ v0 v1 0 3 v6) fun _ σ12 =>
  if v3 = (-1) then (
  b_X10_bestLimit_125 k25 σ12 v0 v1 v2 v6) else (
  bl_bd (f_X10_costAt σ12 v0 v1 v2) fun r15 σ16 =>
  if r15 < v4 then (
  b_X10_bestLimit_125 k25 σ16 v0 v1 v2 v6) else (
  b_X10_bestLimit_136 k25 σ16 v0 v1 v2 v3 v4 v6)))) else (
  if v7 = 0 then (
  bl_bd (f_X10_size σ v0 v8) fun r20 σ21 =>
  if r20 = v6 then (
  b_X10_bestLimit_75 k48 σ21 v0 v1 v2 v3 v4 v6 v8) else (
  b_X10_bestLimit_80 k48 σ21 v0 v1 v2 v3 v4 v6 v8 0)) else (
  b_X10_bestLimit_75 k48 σ v0 v1 v2 v3 v4 v6 v8))
def b_X10_bestLimit_43 (k25 : bl_St → Nat → Int32 → Int32 → Int32 → Int64 → Int32 → Option (Int32 × bl_St)) (σ : bl_St) (v0 : Nat) (v1 : Int32) (v2 : Int32) (v3 : Int32) (v4 : Int64) (v6 : Int32) (s0 : Int32) : Option (Int32 × bl_St) :=
  bl_fx (fun _ _ _ _ _ _ _ _ _ => none) (b_X10_bestLimit_48 k25) bl_fu σ v0 v1 v2 v3 v4 v6 s0 0
def b_X10_bestLimit_25 (k25 : bl_St → Nat → Int32 → Int32 → Int32 → Int64 → Int32 → Option (Int32 × bl_St)) (σ : bl_St) (v0 : Nat) (v1 : Int32) (v2 : Int32) (v3 : Int32) (v4 : Int64) (v6 : Int32) : Option (Int32 × bl_St) :=
  if 1000 ≤ v6 then (
  some (v3, σ)) else (
  if v6 = 0 then (
  b_X10_bestLimit_43 k25 σ v0 v1 v2 v3 v4 v6 1) else (
  b_X10_bestLimit_43 k25 σ v0 v1 v2 v3 v4 v6 0))
def f_X10_bestLimit (σ : bl_St) (a0 : Nat) (a1 : Int32) (a2 : Int32) : Option (Int32 × bl_St) :=
  bl_bd (f_X10_areYears σ a1) fun r26 σ27 =>
  if r26 = 0 then (
  some ((-1), σ27)) else (
  bl_bd (f_X10_isClass σ27 a0 a2) fun r30 σ31 =>
  if r30 = 0 then (
  some ((-1), σ31)) else (
  bl_fx (fun _ _ _ _ _ _ _ => none) (b_X10_bestLimit_25 ) bl_fu σ31 a0 a1 a2 (-1) 0 0))
def f_X10_worth (σ : bl_St) (a0 : Nat) (a1 : Int32) (a2 : Int32) (a3 : Int32) : Option (Int64 × bl_St) :=
  bl_bd (f_X10_areYears σ a1) fun r1 σ2 =>
  if r1 = 0 then (
  some ((-9223372036854775808), σ2)) else (
  bl_bd (f_X10_isClass σ2 a0 a2) fun r5 σ6 =>
  if r5 = 0 then (
  some ((-9223372036854775808), σ6)) else (
  bl_bd (f_X10_isClass σ6 a0 a3) fun r9 σ10 =>
  if r9 = 0 then (
  some ((-9223372036854775808), σ10)) else (
  bl_bd (f_X10_lays σ10 a0 a1 1 0 0) fun _ σ14 =>
  bl_bd (f_X10_costAt σ14 a0 a1 a3) fun r16 σ17 =>
  bl_bd (f_X10_costAt σ17 a0 a1 a2) fun r19 σ20 =>
  some ((r16 - r19), σ20))))
def b_X10_cheapest_58 (k30 : bl_St → Nat → Int32 → Int32 → Int32 → Option (Int32 × bl_St)) (σ : bl_St) (v0 : Nat) (v1 : Int32) (v2 : Int32) (v3 : Int32) : Option (Int32 × bl_St) :=
  bl_let (v3 + 1) fun x1 =>
  k30 σ v0 v1 v2 x1
def b_X10_cheapest_30 (k30 : bl_St → Nat → Int32 → Int32 → Int32 → Option (Int32 × bl_St)) (σ : bl_St) (v0 : Nat) (v1 : Int32) (v2 : Int32) (v3 : Int32) : Option (Int32 × bl_St) :=
  if (bl_I σ (bl_R σ v0 1) 0) ≤ v3 then (
  some (v2, σ)) else (
  bl_bd (f_X10_costAt σ v0 v1 v3) fun r5 σ6 =>
  bl_bd (f_X10_costAt σ6 v0 v1 v2) fun r8 σ9 =>
  if r8 ≤ r5 then (
  b_X10_cheapest_58 k30 σ9 v0 v1 v2 v3) else (
  b_X10_cheapest_58 k30 σ9 v0 v1 v3 v3))
def f_X10_cheapest (σ : bl_St) (a0 : Nat) (a1 : Int32) : Option (Int32 × bl_St) :=
  bl_bd (f_X10_areYears σ a1) fun r12 σ13 =>
  if r12 = 0 then (
  some ((-1), σ13)) else (
  if (bl_I σ13 (bl_R σ13 a0 1) 0) = 0 then (
  some ((-1), σ13)) else (
  bl_bd (f_X10_lays σ13 a0 a1 1 0 0) fun _ σ19 =>
  bl_fx (fun _ _ _ _ _ => none) (b_X10_cheapest_30 ) bl_fu σ19 a0 a1 0 1))
def b_X10_reach_76 (k25 : bl_St → Nat → Int32 → Int32 → Int32 → Option (Int32 × bl_St)) (σ : bl_St) (v0 : Nat) (v2 : Int32) (v3 : Int32) (v4 : Int32) : Option (Int32 × bl_St) :=
  bl_let (v4 + 1) fun x1 =>
  k25 σ v0 v2 v3 x1
def b_X10_reach_51 (k25 : bl_St → Nat → Int32 → Int32 → Int32 → Option (Int32 × bl_St)) (k51 : bl_St → Nat → Int32 → Int32 → Int32 → Int32 → Option (Int32 × bl_St)) (σ : bl_St) (v0 : Nat) (v2 : Int32) (v3 : Int32) (v4 : Int32) (v5 : Int32) : Option (Int32 × bl_St) :=
  if 3 ≤ v5 then (
  b_X10_reach_76 k25 σ v0 v2 v3 v4) else (
  bl_bd (f_X10_behind σ v0 v4 v5) fun r4 σ5 =>
  bl_let (v2 ||| (1 <<< (r4 &&& 31))) fun x7 =>
  bl_let (v5 + 1) fun x9 =>
  k51 σ5 v0 x7 v3 v4 x9)
def b_X10_reach_25 (k16 : bl_St → Nat → Int32 → Int32 → Option (Int32 × bl_St)) (k25 : bl_St → Nat → Int32 → Int32 → Int32 → Option (Int32 × bl_St)) (σ : bl_St) (v0 : Nat) (v2 : Int32) (v3 : Int32) (v4 : Int32) : Option (Int32 × bl_St) :=
  if (bl_I σ (bl_R σ v0 1) 0) ≤ v4 then (
  bl_let (v3 + 1) fun x13 =>
  k16 σ v0 v2 x13) else (
  if ((v2 >>> (v4 &&& 31)) &&& 1) = 0 then (
  b_X10_reach_76 k25 σ v0 v2 v3 v4) else (
  bl_fx (fun _ _ _ _ _ _ => none) (b_X10_reach_51 k25) bl_fu σ v0 v2 v3 v4 0))
def b_X10_reach_16 (k16 : bl_St → Nat → Int32 → Int32 → Option (Int32 × bl_St)) (σ : bl_St) (v0 : Nat) (v2 : Int32) (v3 : Int32) : Option (Int32 × bl_St) :=
  if 8 ≤ v3 then (
  some (v2, σ)) else (
  bl_fx (fun _ _ _ _ _ => none) (b_X10_reach_25 k16) bl_fu σ v0 v2 v3 0)
def f_X10_reach (σ : bl_St) (a0 : Nat) (a1 : Int32) : Option (Int32 × bl_St) :=
  bl_bd (f_X10_isClass σ a0 a1) fun r17 σ18 =>
  if r17 = 0 then (
  some ((-1), σ18)) else (
  bl_let (1 <<< (a1 &&& 31)) fun x21 =>
  bl_fx (fun _ _ _ _ => none) (b_X10_reach_16 ) bl_fu σ18 a0 x21 0)
def b_X10_years_23 (k23 : bl_St → Nat → Int32 → Int32 → Int32 → Option (Int32 × bl_St)) (σ : bl_St) (v0 : Nat) (v2 : Int32) (v3 : Int32) (v4 : Int32) : Option (Int32 × bl_St) :=
  if 8 ≤ v4 then (
  some ((-2), σ)) else (
  if v3 = v2 then (
  some (v4, σ)) else (
  bl_bd (f_X10_behind σ v0 v3 0) fun r3 σ4 =>
  bl_let (v4 + 1) fun x6 =>
  k23 σ4 v0 v2 r3 x6))
def f_X10_years (σ : bl_St) (a0 : Nat) (a1 : Int32) (a2 : Int32) : Option (Int32 × bl_St) :=
  bl_bd (f_X10_isClass σ a0 a1) fun r8 σ9 =>
  if r8 = 0 then (
  some ((-1), σ9)) else (
  bl_bd (f_X10_isClass σ9 a0 a2) fun r12 σ13 =>
  if r12 = 0 then (
  some ((-1), σ13)) else (
  bl_fx (fun _ _ _ _ _ => none) (b_X10_years_23 ) bl_fu σ13 a0 a2 a1 0))
def b_X10_power_5 (k5 : bl_St → Int64 → Int32 → Int64 → Int32 → Option (Int64 × bl_St)) (σ : bl_St) (v0 : Int64) (v2 : Int32) (v3 : Int64) (v5 : Int32) : Option (Int64 × bl_St) :=
  if v2 ≤ v5 then (
  some (v3, σ)) else (
  bl_let (v3 * v0) fun x2 =>
  bl_let (v5 + 1) fun x4 =>
  k5 σ v0 v2 x2 x4)
def f_X10_power (σ : bl_St) (a0 : Int64) (a2 : Int32) : Option (Int64 × bl_St) :=
  bl_fx (fun _ _ _ _ _ => none) (b_X10_power_5 ) bl_fu σ a0 a2 1 0
def b_X10_waysOf_29 (σ : bl_St) (v0 : Nat) (v1 : Int32) (v2 : Int32) (s0 : Int64) : Option (Int64 × bl_St) :=
  bl_bd (f_X10_power σ (Int32.toInt64 (bl_I σ (bl_R σ v0 1) 3)) v1) fun r2 σ3 =>
  bl_bd (f_X10_power σ3 (Int32.toInt64 (12 - (bl_I σ3 (bl_R σ3 v0 1) 3))) (v2 - v1)) fun r6 σ7 =>
  some (((s0 * r2) * r6), σ7)
def b_X10_waysOf_23 (σ : bl_St) (v0 : Nat) (v1 : Int32) (v2 : Int32) : Option (Int64 × bl_St) :=
  b_X10_waysOf_29  σ v0 v1 v2 1
def f_X10_waysOf (σ : bl_St) (a0 : Nat) (a1 : Int32) : Option (Int64 × bl_St) :=
  bl_let (bl_I σ (bl_R σ a0 1) 2) fun x10 =>
  if a1 ≤ x10 then (
  if a1 = 0 then (
  b_X10_waysOf_23  σ a0 a1 x10) else (
  if a1 = x10 then (
  b_X10_waysOf_23  σ a0 a1 x10) else (
  b_X10_waysOf_29  σ a0 a1 x10 (Int32.toInt64 x10)))) else (
  some (0, σ))
def f_X10_ways (σ : bl_St) (a0 : Nat) (a1 : Int32) : Option (Int32 × bl_St) :=
  if (bl_I σ (bl_R σ a0 1) 0) ≤ 0 then (
  some ((-1), σ)) else (
  bl_bd (f_X10_in σ (Int32.toInt64 a1) 0 3) fun r3 σ4 =>
  if r3 = 0 then (
  some ((-1), σ4)) else (
  bl_bd (f_X10_waysOf σ4 a0 a1) fun r7 σ8 =>
  some ((Int64.toInt32 r7), σ8)))
def b_X10_movesOf_31 (k5 : bl_St → Nat → Int32 → Int32 → Int64 → Int32 → Option (Int64 × bl_St)) (σ : bl_St) (v0 : Nat) (v1 : Int32) (v2 : Int32) (v3 : Int64) (v5 : Int32) : Option (Int64 × bl_St) :=
  bl_let (v5 + 1) fun x1 =>
  k5 σ v0 v1 v2 v3 x1
def b_X10_movesOf_5 (k5 : bl_St → Nat → Int32 → Int32 → Int64 → Int32 → Option (Int64 × bl_St)) (σ : bl_St) (v0 : Nat) (v1 : Int32) (v2 : Int32) (v3 : Int64) (v5 : Int32) : Option (Int64 × bl_St) :=
  if 4 ≤ v5 then (
  some (v3, σ)) else (
  bl_bd (f_X10_behind σ v0 v1 v5) fun r4 σ5 =>
  if r4 = v2 then (
  bl_bd (f_X10_waysOf σ5 v0 v5) fun r8 σ9 =>
  bl_let (v3 + r8) fun x11 =>
  b_X10_movesOf_31 k5 σ9 v0 v1 v2 x11 v5) else (
  b_X10_movesOf_31 k5 σ5 v0 v1 v2 v3 v5))
def f_X10_movesOf (σ : bl_St) (a0 : Nat) (a1 : Int32) (a2 : Int32) : Option (Int64 × bl_St) :=
  bl_fx (fun _ _ _ _ _ _ => none) (b_X10_movesOf_5 ) bl_fu σ a0 a1 a2 0 0
def f_X10_moves (σ : bl_St) (a0 : Nat) (a1 : Int32) (a2 : Int32) : Option (Int32 × bl_St) :=
  bl_bd (f_X10_isClass σ a0 a1) fun r1 σ2 =>
  if r1 = 0 then (
  some ((-1), σ2)) else (
  bl_bd (f_X10_isClass σ2 a0 a2) fun r5 σ6 =>
  if r5 = 0 then (
  some ((-1), σ6)) else (
  bl_bd (f_X10_movesOf σ6 a0 a1 a2) fun r9 σ10 =>
  some ((Int64.toInt32 r9), σ10)))
def b_X10_spread_175 (k76 : bl_St → Nat → Int32 → Int32 → Int32 → Option (Int64 × bl_St)) (k175 : bl_St → Nat → Int32 → Int32 → Int32 → Int32 → Option (Int64 × bl_St)) (σ : bl_St) (v0 : Nat) (v1 : Int32) (v3 : Int32) (v4 : Int32) (v5 : Int32) : Option (Int64 × bl_St) :=
  if 8 ≤ v5 then (
  bl_let (v4 + 1) fun x2 =>
  k76 σ v0 v1 v3 x2) else (
  bl_gd (bl_in v5 8) (
  bl_gd (bl_in v5 8) (
  bl_let (bl_pJ σ (bl_R σ v0 14) (Int32.toNatClampNeg v5) (bl_J σ (bl_R σ v0 15) (Int32.toNatClampNeg v5))) fun σ8 =>
  bl_let (v5 + 1) fun x10 =>
  k175 σ8 v0 v1 v3 v4 x10)))
def b_X10_spread_123 (k109 : bl_St → Nat → Int32 → Int32 → Int32 → Int32 → Option (Int64 × bl_St)) (k123 : bl_St → Nat → Int32 → Int32 → Int32 → Int32 → Int32 → Option (Int64 × bl_St)) (σ : bl_St) (v0 : Nat) (v1 : Int32) (v3 : Int32) (v4 : Int32) (v5 : Int32) (v6 : Int32) : Option (Int64 × bl_St) :=
  if (bl_I σ (bl_R σ v0 1) 0) ≤ v6 then (
  bl_let (v5 + 1) fun x14 =>
  k109 σ v0 v1 v3 v4 x14) else (
  bl_gd (bl_in v6 8) (
  bl_gd (bl_in v5 8) (
  bl_bd (f_X10_movesOf σ v0 v5 v6) fun r20 σ21 =>
  bl_gd (bl_in v6 8) (
  bl_let (bl_pJ σ21 (bl_R σ v0 15) (Int32.toNatClampNeg v6) ((bl_J σ (bl_R σ v0 15) (Int32.toNatClampNeg v6)) + ((bl_J σ (bl_R σ v0 14) (Int32.toNatClampNeg v5)) * r20))) fun σ24 =>
  bl_let (v6 + 1) fun x26 =>
  k123 σ24 v0 v1 v3 v4 v5 x26))))
def b_X10_spread_109 (k76 : bl_St → Nat → Int32 → Int32 → Int32 → Option (Int64 × bl_St)) (k109 : bl_St → Nat → Int32 → Int32 → Int32 → Int32 → Option (Int64 × bl_St)) (σ : bl_St) (v0 : Nat) (v1 : Int32) (v3 : Int32) (v4 : Int32) (v5 : Int32) : Option (Int64 × bl_St) :=
  if (bl_I σ (bl_R σ v0 1) 0) ≤ v5 then (
  bl_fx (fun _ _ _ _ _ _ => none) (b_X10_spread_175 k76) bl_fu σ v0 v1 v3 v4 0) else (
  bl_fx (fun _ _ _ _ _ _ _ => none) (b_X10_spread_123 k109) bl_fu σ v0 v1 v3 v4 v5 0)
def b_X10_spread_85 (k76 : bl_St → Nat → Int32 → Int32 → Int32 → Option (Int64 × bl_St)) (k85 : bl_St → Nat → Int32 → Int32 → Int32 → Int32 → Option (Int64 × bl_St)) (σ : bl_St) (v0 : Nat) (v1 : Int32) (v3 : Int32) (v4 : Int32) (v5 : Int32) : Option (Int64 × bl_St) :=
  if 8 ≤ v5 then (
  bl_fx (fun _ _ _ _ _ _ => none) (b_X10_spread_109 k76) bl_fu σ v0 v1 v3 v4 0) else (
  bl_gd (bl_in v5 8) (
  bl_let (bl_pJ σ (bl_R σ v0 15) (Int32.toNatClampNeg v5) 0) fun σ33 =>
  bl_let (v5 + 1) fun x35 =>
  k85 σ33 v0 v1 v3 v4 x35))
def b_X10_spread_76 (k76 : bl_St → Nat → Int32 → Int32 → Int32 → Option (Int64 × bl_St)) (σ : bl_St) (v0 : Nat) (v1 : Int32) (v3 : Int32) (v4 : Int32) : Option (Int64 × bl_St) :=
  if v1 ≤ v4 then (
  bl_gd (bl_in v3 8) (
  some ((bl_J σ (bl_R σ v0 14) (Int32.toNatClampNeg v3)), σ))) else (
  bl_fx (fun _ _ _ _ _ _ => none) (b_X10_spread_85 k76) bl_fu σ v0 v1 v3 v4 0)
def b_X10_spread_66 (k42 : bl_St → Nat → Int32 → Int32 → Int32 → Int32 → Option (Int64 × bl_St)) (σ : bl_St) (v0 : Nat) (v1 : Int32) (v2 : Int32) (v3 : Int32) (v4 : Int32) (s0 : Int64) (s1 : Int32) (s2 : Nat) : Option (Int64 × bl_St) :=
  bl_gd (bl_in s1 8) (
  bl_let (bl_pJ σ s2 (Int32.toNatClampNeg s1) s0) fun σ41 =>
  bl_let (v4 + 1) fun x43 =>
  k42 σ41 v0 v1 v2 v3 x43)
def b_X10_spread_42 (k42 : bl_St → Nat → Int32 → Int32 → Int32 → Int32 → Option (Int64 × bl_St)) (σ : bl_St) (v0 : Nat) (v1 : Int32) (v2 : Int32) (v3 : Int32) (v4 : Int32) : Option (Int64 × bl_St) :=
  if 8 ≤ v4 then (
  bl_fx (fun _ _ _ _ _ => none) (b_X10_spread_76 ) bl_fu σ v0 v1 v3 0) else (
  if v4 = v2 then (
  b_X10_spread_66 k42 σ v0 v1 v2 v3 v4 1 v4 (bl_R σ v0 14)) else (
  b_X10_spread_66 k42 σ v0 v1 v2 v3 v4 0 v4 (bl_R σ v0 14)))
def f_X10_spread (σ : bl_St) (a0 : Nat) (a1 : Int32) (a2 : Int32) (a3 : Int32) : Option (Int64 × bl_St) :=
  bl_bd (f_X10_isClass σ a0 a2) fun r48 σ49 =>
  if r48 = 0 then (
  some ((-1), σ49)) else (
  bl_bd (f_X10_isClass σ49 a0 a3) fun r52 σ53 =>
  if r52 = 0 then (
  some ((-1), σ53)) else (
  bl_gd (!(decide ((bl_I σ53 (bl_R σ53 a0 1) 2) = 0))) (
  bl_bd (f_X10_in σ53 (Int32.toInt64 a1) 0 (Int32.toInt64 (16 / (bl_I σ53 (bl_R σ53 a0 1) 2)))) fun r58 σ59 =>
  if r58 = 0 then (
  some ((-1), σ59)) else (
  bl_fx (fun _ _ _ _ _ _ => none) (b_X10_spread_42 ) bl_fu σ59 a0 a1 a2 a3 0))))
def f_X10_slotOf (σ : bl_St) (a0 : Int32) (a1 : Int32) (a2 : Int32) : Option (Int32 × bl_St) :=
  some ((((9 * a0) + (3 * a1)) + a2), σ)
def f_X10_more (σ : bl_St) (a0 : Int32) : Option (Int32 × bl_St) :=
  if 2 ≤ a0 then (
  some (2, σ)) else (
  some ((a0 + 1), σ))
def b_X10_bothChance_42 (k42 : bl_St → Nat → Int32 → Int32 → Int32 → Int32 → Int64 → Int64 → Int32 → Option (Int64 × bl_St)) (σ : bl_St) (v0 : Nat) (v1 : Int32) (v2 : Int32) (v3 : Int32) (v4 : Int32) (v5 : Int64) (v7 : Int64) (v9 : Int32) : Option (Int64 × bl_St) :=
  if (bl_I σ (bl_R σ v0 1) 1) ≤ v9 then (
  bl_gd (!(decide ((Int32.toInt64 (12 * v4)) = 0))) (
  some ((v7 / (Int32.toInt64 (12 * v4))), σ))) else (
  bl_bd (f_X10_toldPays σ v0 v9) fun r4 σ5 =>
  bl_let ((Int32.toInt64 r4) * 1000) fun x7 =>
  bl_bd (f_X10_more σ5 v2) fun r10 σ11 =>
  bl_bd (f_X10_slotOf σ11 (v1 + 1) r10 v3) fun r13 σ14 =>
  bl_gd (bl_in r13 63) (
  bl_bd (f_X10_more σ14 v3) fun r18 σ19 =>
  bl_bd (f_X10_slotOf σ19 (v1 + 1) v2 r18) fun r21 σ22 =>
  bl_gd (bl_in r21 63) (
  bl_bd (f_X10_lesser σ22 (x7 + (bl_J σ14 (bl_R σ5 v0 17) (Int32.toNatClampNeg r13))) (x7 + (bl_J σ22 (bl_R σ14 v0 17) (Int32.toNatClampNeg r21)))) fun r25 σ26 =>
  bl_bd (f_X10_weight σ26 v0 v9) fun r29 σ30 =>
  bl_bd (f_X10_size σ30 v0 v9) fun r32 σ33 =>
  bl_bd (f_X10_lesser σ33 r25 (((Int32.toInt64 r32) * 1000) + v5)) fun r35 σ36 =>
  bl_let (v7 + ((Int32.toInt64 ((bl_I σ26 (bl_R σ26 v0 1) 3) * r29)) * r35)) fun x38 =>
  bl_let (v9 + 1) fun x40 =>
  k42 σ36 v0 v1 v2 v3 v4 v5 x38 x40)))
def f_X10_bothChance (σ : bl_St) (a0 : Nat) (a1 : Int32) (a2 : Int32) (a3 : Int32) : Option (Int64 × bl_St) :=
  bl_bd (f_X10_weights σ a0) fun r42 σ43 =>
  bl_bd (f_X10_slotOf σ43 (a1 + 1) a2 a3) fun r46 σ47 =>
  bl_gd (bl_in r46 63) (
  bl_let (bl_J σ47 (bl_R σ43 a0 17) (Int32.toNatClampNeg r46)) fun x50 =>
  bl_let ((Int32.toInt64 ((12 - (bl_I σ47 (bl_R σ47 a0 1) 3)) * r42)) * x50) fun x53 =>
  bl_fx (fun _ _ _ _ _ _ _ _ _ => none) (b_X10_bothChance_42 ) bl_fu σ47 a0 a1 a2 a3 r42 x50 x53 0)
def b_X10_bothYear_107 (k98 : bl_St → Nat → Int32 → Int32 → Int32 → Int32 → Option (Int64 × bl_St)) (k107 : bl_St → Nat → Int32 → Int32 → Int32 → Int32 → Int32 → Option (Int64 × bl_St)) (σ : bl_St) (v0 : Nat) (v2 : Int32) (v3 : Int32) (v5 : Int32) (v6 : Int32) (v7 : Int32) : Option (Int64 × bl_St) :=
  if 3 ≤ v7 then (
  bl_let (v6 + 1) fun x2 =>
  k98 σ v0 v2 v3 v5 x2) else (
  bl_bd (f_X10_slotOf σ v5 v6 v7) fun r5 σ6 =>
  bl_bd (f_X10_bothChance σ6 v0 v5 v6 v7) fun r8 σ9 =>
  bl_gd (bl_in r5 63) (
  bl_let (bl_pJ σ9 (bl_R σ v0 17) (Int32.toNatClampNeg r5) r8) fun σ12 =>
  bl_let (v7 + 1) fun x14 =>
  k107 σ12 v0 v2 v3 v5 v6 x14))
def b_X10_bothYear_98 (k90 : bl_St → Nat → Int32 → Int32 → Int32 → Option (Int64 × bl_St)) (k98 : bl_St → Nat → Int32 → Int32 → Int32 → Int32 → Option (Int64 × bl_St)) (σ : bl_St) (v0 : Nat) (v2 : Int32) (v3 : Int32) (v5 : Int32) (v6 : Int32) : Option (Int64 × bl_St) :=
  if 3 ≤ v6 then (
  bl_let (v5 + (-1)) fun x17 =>
  k90 σ v0 v2 v3 x17) else (
  bl_fx (fun _ _ _ _ _ _ _ => none) (b_X10_bothYear_107 k98) bl_fu σ v0 v2 v3 v5 v6 0)
def b_X10_bothYear_90 (k90 : bl_St → Nat → Int32 → Int32 → Int32 → Option (Int64 × bl_St)) (σ : bl_St) (v0 : Nat) (v2 : Int32) (v3 : Int32) (v5 : Int32) : Option (Int64 × bl_St) :=
  if v5 < 0 then (
  bl_bd (f_X10_ofClass σ v0 v2 0) fun r20 σ21 =>
  bl_bd (f_X10_ofClass σ21 v0 v3 0) fun r23 σ24 =>
  some ((((Int32.toInt64 (r20 + r23)) * 1000) + (bl_J σ24 (bl_R σ24 v0 17) 0)), σ24)) else (
  bl_fx (fun _ _ _ _ _ _ => none) (b_X10_bothYear_98 k90) bl_fu σ v0 v2 v3 v5 0)
def b_X10_bothYear_22 (k13 : bl_St → Nat → Int32 → Int32 → Int32 → Int32 → Int32 → Option (Int64 × bl_St)) (k22 : bl_St → Nat → Int32 → Int32 → Int32 → Int32 → Int32 → Int32 → Option (Int64 × bl_St)) (σ : bl_St) (v0 : Nat) (v1 : Int32) (v2 : Int32) (v3 : Int32) (v4 : Int32) (v5 : Int32) (v6 : Int32) : Option (Int64 × bl_St) :=
  if 3 ≤ v6 then (
  bl_let (v5 + 1) fun x28 =>
  k13 σ v0 v1 v2 v3 v4 x28) else (
  bl_bd (f_X10_slotOf σ v4 v5 v6) fun r31 σ32 =>
  bl_bd (f_X10_behind σ32 v0 v2 v5) fun r35 σ36 =>
  bl_bd (f_X10_behind σ36 v0 v3 v6) fun r38 σ39 =>
  bl_gd (bl_in (((64 * (v1 - 1)) + (8 * r35)) + r38) 1344) (
  bl_gd (bl_in r31 63) (
  bl_let (bl_pJ σ39 (bl_R σ v0 17) (Int32.toNatClampNeg r31) (bl_J σ39 (bl_R σ32 v0 16) (Int32.toNatClampNeg (((64 * (v1 - 1)) + (8 * r35)) + r38)))) fun σ43 =>
  bl_let (v6 + 1) fun x45 =>
  k22 σ43 v0 v1 v2 v3 v4 v5 x45)))
def b_X10_bothYear_13 (k13 : bl_St → Nat → Int32 → Int32 → Int32 → Int32 → Int32 → Option (Int64 × bl_St)) (σ : bl_St) (v0 : Nat) (v1 : Int32) (v2 : Int32) (v3 : Int32) (v4 : Int32) (v5 : Int32) : Option (Int64 × bl_St) :=
  if 3 ≤ v5 then (
  bl_let (v4 - 1) fun x48 =>
  bl_fx (fun _ _ _ _ _ => none) (b_X10_bothYear_90 ) bl_fu σ v0 v2 v3 x48) else (
  bl_fx (fun _ _ _ _ _ _ _ _ => none) (b_X10_bothYear_22 k13) bl_fu σ v0 v1 v2 v3 v4 v5 0)
def f_X10_bothYear (σ : bl_St) (a0 : Nat) (a1 : Int32) (a2 : Int32) (a3 : Int32) : Option (Int64 × bl_St) :=
  bl_let (2 * (bl_I σ (bl_R σ a0 1) 2)) fun x51 =>
  bl_fx (fun _ _ _ _ _ _ _ => none) (b_X10_bothYear_13 ) bl_fu σ a0 a1 a2 a3 x51 0
def b_X10_shared_77 (k63 : bl_St → Nat → Int32 → Int32 → Int32 → Int32 → Int32 → Option (Int64 × bl_St)) (k77 : bl_St → Nat → Int32 → Int32 → Int32 → Int32 → Int32 → Int32 → Option (Int64 × bl_St)) (σ : bl_St) (v0 : Nat) (v1 : Int32) (v2 : Int32) (v3 : Int32) (v4 : Int32) (v5 : Int32) (v6 : Int32) : Option (Int64 × bl_St) :=
  if (bl_I σ (bl_R σ v0 1) 0) ≤ v6 then (
  bl_let (v5 + 1) fun x3 =>
  k63 σ v0 v1 v2 v3 v4 x3) else (
  bl_bd (f_X10_bothYear σ v0 v4 v5 v6) fun r6 σ7 =>
  bl_gd (bl_in (((64 * v4) + (8 * v5)) + v6) 1344) (
  bl_let (bl_pJ σ7 (bl_R σ v0 16) (Int32.toNatClampNeg (((64 * v4) + (8 * v5)) + v6)) r6) fun σ10 =>
  bl_let (v6 + 1) fun x12 =>
  k77 σ10 v0 v1 v2 v3 v4 v5 x12))
def b_X10_shared_63 (k54 : bl_St → Nat → Int32 → Int32 → Int32 → Int32 → Option (Int64 × bl_St)) (k63 : bl_St → Nat → Int32 → Int32 → Int32 → Int32 → Int32 → Option (Int64 × bl_St)) (σ : bl_St) (v0 : Nat) (v1 : Int32) (v2 : Int32) (v3 : Int32) (v4 : Int32) (v5 : Int32) : Option (Int64 × bl_St) :=
  if (bl_I σ (bl_R σ v0 1) 0) ≤ v5 then (
  bl_let (v4 + 1) fun x16 =>
  k54 σ v0 v1 v2 v3 x16) else (
  bl_fx (fun _ _ _ _ _ _ _ _ => none) (b_X10_shared_77 k63) bl_fu σ v0 v1 v2 v3 v4 v5 0)
def b_X10_shared_54 (k54 : bl_St → Nat → Int32 → Int32 → Int32 → Int32 → Option (Int64 × bl_St)) (σ : bl_St) (v0 : Nat) (v1 : Int32) (v2 : Int32) (v3 : Int32) (v4 : Int32) : Option (Int64 × bl_St) :=
  if v1 < v4 then (
  bl_gd (bl_in (((64 * v1) + (8 * v2)) + v3) 1344) (
  some ((bl_J σ (bl_R σ v0 16) (Int32.toNatClampNeg (((64 * v1) + (8 * v2)) + v3))), σ))) else (
  bl_fx (fun _ _ _ _ _ _ _ => none) (b_X10_shared_63 k54) bl_fu σ v0 v1 v2 v3 v4 0)
def b_X10_shared_30 (k30 : bl_St → Nat → Int32 → Int32 → Int32 → Int32 → Option (Int64 × bl_St)) (σ : bl_St) (v0 : Nat) (v1 : Int32) (v2 : Int32) (v3 : Int32) (v4 : Int32) : Option (Int64 × bl_St) :=
  if 64 ≤ v4 then (
  bl_fx (fun _ _ _ _ _ _ => none) (b_X10_shared_54 ) bl_fu σ v0 v1 v2 v3 1) else (
  bl_gd (bl_in v4 1344) (
  bl_let (bl_pJ σ (bl_R σ v0 16) (Int32.toNatClampNeg v4) 0) fun σ24 =>
  bl_let (v4 + 1) fun x26 =>
  k30 σ24 v0 v1 v2 v3 x26))
def f_X10_shared (σ : bl_St) (a0 : Nat) (a1 : Int32) (a2 : Int32) (a3 : Int32) : Option (Int64 × bl_St) :=
  bl_bd (f_X10_areYears σ a1) fun r28 σ29 =>
  if r28 = 0 then (
  some ((-1), σ29)) else (
  bl_bd (f_X10_isClass σ29 a0 a2) fun r32 σ33 =>
  if r32 = 0 then (
  some ((-1), σ33)) else (
  bl_bd (f_X10_isClass σ33 a0 a3) fun r36 σ37 =>
  if r36 = 0 then (
  some ((-1), σ37)) else (
  bl_fx (fun _ _ _ _ _ _ => none) (b_X10_shared_30 ) bl_fu σ37 a0 a1 a2 a3 0)))
def f_X10_joinedCost (σ : bl_St) (a0 : Nat) (a1 : Int32) (a2 : Int32) (a3 : Int32) (a4 : Int32) : Option (Int64 × bl_St) :=
  bl_let (bl_pI σ a0 11 0) fun σ1 =>
  bl_let (bl_pI σ1 a0 13 0) fun σ3 =>
  bl_bd (f_X10_laysYears σ3 a0 a1 0 (2 * (bl_I σ3 (bl_R σ3 a0 1) 2)) 2 a4) fun _ σ7 =>
  bl_bd (f_X10_ofClass σ7 a0 a3 0) fun r9 σ10 =>
  bl_bd (f_X10_ofClass σ10 a0 a2 0) fun r12 σ13 =>
  if r9 ≤ r12 then (
  bl_bd (f_X10_costAt σ13 a0 a1 a2) fun r16 σ17 =>
  some (r16, σ17)) else (
  bl_bd (f_X10_costAt σ13 a0 a1 a3) fun r19 σ20 =>
  some (r19, σ20))
def f_X10_joined (σ : bl_St) (a0 : Nat) (a1 : Int32) (a2 : Int32) (a3 : Int32) (a4 : Int32) : Option (Int64 × bl_St) :=
  bl_bd (f_X10_areYears σ a1) fun r1 σ2 =>
  if r1 = 0 then (
  some ((-1), σ2)) else (
  bl_bd (f_X10_isClass σ2 a0 a2) fun r5 σ6 =>
  if r5 = 0 then (
  some ((-1), σ6)) else (
  bl_bd (f_X10_isClass σ6 a0 a3) fun r9 σ10 =>
  if r9 = 0 then (
  some ((-1), σ10)) else (
  bl_bd (f_X10_in σ10 (Int32.toInt64 a4) 0 50) fun r13 σ14 =>
  if r13 = 0 then (
  some ((-1), σ14)) else (
  bl_bd (f_X10_joinedCost σ14 a0 a1 a2 a3 a4) fun r17 σ18 =>
  some (r17, σ18)))))
def b_X10_rebate_43 (k43 : bl_St → Nat → Int32 → Int32 → Int32 → Int64 → Int32 → Option (Int32 × bl_St)) (σ : bl_St) (v0 : Nat) (v1 : Int32) (v2 : Int32) (v3 : Int32) (v4 : Int64) (v6 : Int32) : Option (Int32 × bl_St) :=
  if 50 < v6 then (
  some ((-2), σ)) else (
  bl_bd (f_X10_joinedCost σ v0 v1 v2 v3 v6) fun r2 σ3 =>
  if v4 ≤ r2 then (
  bl_let (v6 + 1) fun x6 =>
  k43 σ3 v0 v1 v2 v3 v4 x6) else (
  some (v6, σ3)))
def f_X10_rebate (σ : bl_St) (a0 : Nat) (a1 : Int32) (a2 : Int32) (a3 : Int32) : Option (Int32 × bl_St) :=
  bl_bd (f_X10_areYears σ a1) fun r8 σ9 =>
  if r8 = 0 then (
  some ((-1), σ9)) else (
  bl_bd (f_X10_isClass σ9 a0 a2) fun r12 σ13 =>
  if r12 = 0 then (
  some ((-1), σ13)) else (
  bl_bd (f_X10_isClass σ13 a0 a3) fun r16 σ17 =>
  if r16 = 0 then (
  some ((-1), σ17)) else (
  bl_bd (f_X10_bareCost σ17 a0 a1 a2) fun r20 σ21 =>
  bl_bd (f_X10_bareCost σ21 a0 a1 a3) fun r23 σ24 =>
  bl_let (r20 + r23) fun x26 =>
  bl_fx (fun _ _ _ _ _ _ _ => none) (b_X10_rebate_43 ) bl_fu σ24 a0 a1 a2 a3 x26 0)))
def f_X10_advice (σ : bl_St) (a0 : Nat) (a1 : Int32) (a2 : Int32) : Option (Int32 × bl_St) :=
  if (bl_I σ (bl_R σ a0 1) 56) = 0 then (
  some ((-1), σ)) else (
  bl_bd (f_X10_in σ (Int32.toInt64 a1) 1 20) fun r3 σ4 =>
  if r3 = 0 then (
  some ((-1), σ4)) else (
  bl_bd (f_X10_isSort σ4 a0 a2) fun r7 σ8 =>
  if r7 = 0 then (
  some ((-1), σ8)) else (
  bl_bd (f_X10_lays σ8 a0 a1 1 0 0) fun _ σ12 =>
  bl_bd (f_X10_laysChances σ12 a0 a1 (bl_I σ12 (bl_R σ12 a0 1) 55)) fun _ σ16 =>
  bl_bd (f_X10_countedNow σ16 a0) fun r19 σ20 =>
  bl_bd (f_X10_gainOf σ20 a0 a2 (bl_I σ16 (bl_R σ16 a0 1) 57) r19 (bl_I σ20 (bl_R σ20 a0 1) 59)) fun r23 σ24 =>
  if r23 ≤ 0 then (
  some (0, σ24)) else (
  some (1, σ24)))))
def b_X10_rest_14 (k14 : bl_St → Nat → Int32 → Int32 → Option (Int32 × bl_St)) (σ : bl_St) (v0 : Nat) (v2 : Int32) (v3 : Int32) : Option (Int32 × bl_St) :=
  if ((v2 >>> (v3 &&& 31)) &&& 1) = 0 then (
  bl_let (v2 ||| (1 <<< (v3 &&& 31))) fun x2 =>
  bl_bd (f_X10_behind σ v0 v3 0) fun r4 σ5 =>
  k14 σ5 v0 x2 r4) else (
  some (v3, σ))
def f_X10_rest (σ : bl_St) (a0 : Nat) (a1 : Int32) : Option (Int32 × bl_St) :=
  bl_bd (f_X10_isClass σ a0 a1) fun r7 σ8 =>
  if r7 = 0 then (
  some ((-1), σ8)) else (
  bl_fx (fun _ _ _ _ => none) (b_X10_rest_14 ) bl_fu σ8 a0 0 a1)
def f_X10_were (σ : bl_St) (a0 : Nat) (a1 : Int32) (a2 : Int32) (a3 : Int32) (a4 : Int32) : Option (Int64 × bl_St) :=
  bl_bd (f_X10_isRule σ a1 a2) fun r1 σ2 =>
  if r1 = 0 then (
  some ((-1), σ2)) else (
  bl_bd (f_X10_areYears σ2 a3) fun r5 σ6 =>
  if r5 = 0 then (
  some ((-1), σ6)) else (
  bl_bd (f_X10_isClass σ6 a0 a4) fun r9 σ10 =>
  if r9 = 0 then (
  some ((-1), σ10)) else (
  bl_gd (bl_in (2 + a1) 167) (
  bl_let (bl_I σ10 (bl_R σ10 a0 1) (Int32.toNatClampNeg (2 + a1))) fun x15 =>
  bl_gd (bl_in (2 + a1) 167) (
  bl_let (bl_pI σ10 (bl_R σ10 a0 1) (Int32.toNatClampNeg (2 + a1)) a2) fun σ19 =>
  bl_bd (f_X10_bestCost σ19 a0 a3 a4) fun r21 σ22 =>
  bl_gd (bl_in (2 + a1) 167) (
  bl_let (bl_pI σ22 (bl_R σ22 a0 1) (Int32.toNatClampNeg (2 + a1)) x15) fun σ26 =>
  some (r21, σ26)))))))
def f_X10_lacking (σ : bl_St) (a0 : Nat) (a1 : Int32) (a2 : Int32) (a3 : Int32) : Option (Int64 × bl_St) :=
  bl_bd (f_X10_isSort σ a0 a1) fun r1 σ2 =>
  if r1 = 0 then (
  some ((-1), σ2)) else (
  if (bl_I σ2 (bl_R σ2 a0 1) 1) = 1 then (
  some ((-1), σ2)) else (
  bl_bd (f_X10_areYears σ2 a2) fun r7 σ8 =>
  if r7 = 0 then (
  some ((-1), σ8)) else (
  bl_bd (f_X10_isClass σ8 a0 a3) fun r11 σ12 =>
  if r11 = 0 then (
  some ((-1), σ12)) else (
  bl_bd (f_X10_copies σ12 (bl_R σ12 a0 1) (bl_R σ12 a0 3)) fun _ σ18 =>
  bl_bd (f_X10_takesOut σ18 a0 a1) fun _ σ21 =>
  bl_bd (f_X10_bestCost σ21 a0 a2 a3) fun r23 σ24 =>
  bl_bd (f_X10_copies σ24 (bl_R σ24 a0 3) (bl_R σ24 a0 1)) fun _ σ29 =>
  some (r23, σ29)))))
def b_X10_oddsFor_77 (σ : bl_St) (v0 : Nat) (v5 : Int32) (v6 : Int32) : Option (Int32 × bl_St) :=
  bl_let (bl_pI σ (bl_R σ v0 1) 3 v5) fun σ2 =>
  some (v6, σ2)
def b_X10_oddsFor_71 (k33 : bl_St → Nat → Int64 → Int32 → Int32 → Int32 → Int32 → Int32 → Option (Int32 × bl_St)) (σ : bl_St) (v0 : Nat) (v1 : Int64) (v3 : Int32) (v4 : Int32) (v5 : Int32) (v6 : Int32) (v7 : Int32) : Option (Int32 × bl_St) :=
  bl_let (v7 + 1) fun x4 =>
  k33 σ v0 v1 v3 v4 v5 v6 x4
def b_X10_oddsFor_33 (k33 : bl_St → Nat → Int64 → Int32 → Int32 → Int32 → Int32 → Int32 → Option (Int32 × bl_St)) (σ : bl_St) (v0 : Nat) (v1 : Int64) (v3 : Int32) (v4 : Int32) (v5 : Int32) (v6 : Int32) (v7 : Int32) : Option (Int32 × bl_St) :=
  if 12 < v7 then (
  b_X10_oddsFor_77  σ v0 v5 v6) else (
  if v6 = (-2) then (
  bl_let (bl_pI σ (bl_R σ v0 1) 3 v7) fun σ9 =>
  bl_bd (f_X10_bestCost σ9 v0 v3 v4) fun r11 σ12 =>
  if r11 < v1 then (
  b_X10_oddsFor_71 k33 σ12 v0 v1 v3 v4 v5 v6 v7) else (
  b_X10_oddsFor_71 k33 σ12 v0 v1 v3 v4 v5 v7 v7)) else (
  b_X10_oddsFor_77  σ v0 v5 v6))
def f_X10_oddsFor (σ : bl_St) (a0 : Nat) (a1 : Int64) (a3 : Int32) (a4 : Int32) : Option (Int32 × bl_St) :=
  bl_bd (f_X10_areYears σ a3) fun r15 σ16 =>
  if r15 = 0 then (
  some ((-1), σ16)) else (
  bl_bd (f_X10_isClass σ16 a0 a4) fun r19 σ20 =>
  if r19 = 0 then (
  some ((-1), σ20)) else (
  bl_let (bl_I σ20 (bl_R σ20 a0 1) 3) fun x24 =>
  bl_fx (fun _ _ _ _ _ _ _ _ => none) (b_X10_oddsFor_33 ) bl_fu σ20 a0 a1 a3 a4 x24 (-2) 0))
def b_X10_bestOwn_104 (k46 : bl_St → Nat → Int32 → Int32 → Int32 → Int32 → Int32 → Int64 → Int32 → Option (Int32 × bl_St)) (σ : bl_St) (v0 : Nat) (v1 : Int32) (v2 : Int32) (v3 : Int32) (v4 : Int32) (v5 : Int32) (v6 : Int64) (v8 : Int32) : Option (Int32 × bl_St) :=
  bl_let (v8 + 1) fun x1 =>
  k46 σ v0 v1 v2 v3 v4 v5 v6 x1
def b_X10_bestOwn_96 (k46 : bl_St → Nat → Int32 → Int32 → Int32 → Int32 → Int32 → Int64 → Int32 → Option (Int32 × bl_St)) (σ : bl_St) (v0 : Nat) (v1 : Int32) (v2 : Int32) (v3 : Int32) (v4 : Int32) (v8 : Int32) (v9 : Int64) : Option (Int32 × bl_St) :=
  b_X10_bestOwn_104 k46 σ v0 v1 v2 v3 v4 v8 v9 v8
def b_X10_bestOwn_46 (k46 : bl_St → Nat → Int32 → Int32 → Int32 → Int32 → Int32 → Int64 → Int32 → Option (Int32 × bl_St)) (σ : bl_St) (v0 : Nat) (v1 : Int32) (v2 : Int32) (v3 : Int32) (v4 : Int32) (v5 : Int32) (v6 : Int64) (v8 : Int32) : Option (Int32 × bl_St) :=
  if 100 ≤ v8 then (
  bl_let (bl_pI σ (bl_R σ v0 1) 4 v4) fun σ5 =>
  some (v5, σ5)) else (
  bl_let (bl_pI σ (bl_R σ v0 1) 4 v8) fun σ8 =>
  bl_bd (f_X10_bestCost σ8 v0 v2 v3) fun r10 σ11 =>
  bl_let (r10 - (((Int32.toInt64 v1) * (Int32.toInt64 v8)) * (Int32.toInt64 v2))) fun x13 =>
  if v5 = (-1) then (
  b_X10_bestOwn_96 k46 σ11 v0 v1 v2 v3 v4 v8 x13) else (
  if x13 < v6 then (
  b_X10_bestOwn_96 k46 σ11 v0 v1 v2 v3 v4 v8 x13) else (
  b_X10_bestOwn_104 k46 σ11 v0 v1 v2 v3 v4 v5 v6 v8)))
def f_X10_bestOwn (σ : bl_St) (a0 : Nat) (a1 : Int32) (a2 : Int32) (a3 : Int32) : Option (Int32 × bl_St) :=
  bl_bd (f_X10_in σ (Int32.toInt64 a1) 0 9999) fun r17 σ18 =>
  if r17 = 0 then (
  some ((-1), σ18)) else (
  bl_bd (f_X10_areYears σ18 a2) fun r21 σ22 =>
  if r21 = 0 then (
  some ((-1), σ22)) else (
  bl_bd (f_X10_isClass σ22 a0 a3) fun r25 σ26 =>
  if r25 = 0 then (
  some ((-1), σ26)) else (
  bl_let (bl_I σ26 (bl_R σ26 a0 1) 4) fun x30 =>
  bl_fx (fun _ _ _ _ _ _ _ _ _ => none) (b_X10_bestOwn_46 ) bl_fu σ26 a0 a1 a2 a3 x30 (-1) 0 0)))
def b_X10_tries_112 (σ : bl_St) (v0 : Nat) (s0 : Int32) : Option (Int32 × bl_St) :=
  bl_bd (f_X10_copies σ (bl_R σ v0 3) (bl_R σ v0 1)) fun _ σ4 =>
  some (s0, σ4)
def f_X10_tries (σ : bl_St) (a0 : Nat) (a1 : Int32) (a2 : Int32) (a3 : Int32) (a4 : Int32) (a5 : Int32) : Option (Int32 × bl_St) :=
  bl_bd (f_X10_copies σ (bl_R σ a0 1) (bl_R σ a0 3)) fun _ σ9 =>
  bl_let (bl_pI σ9 (bl_R σ9 a0 1) 56 0) fun σ12 =>
  bl_bd (f_X10_allPaid σ12 a0) fun r14 σ15 =>
  bl_let (bl_I σ15 (bl_R σ15 a0 1) 65) fun x18 =>
  bl_let (bl_I σ15 (bl_R σ15 a0 1) 66) fun x21 =>
  bl_bd (f_X10_lives σ15 a0 a1 a2 a3 a4) fun _ σ24 =>
  if a5 = 0 then (
  bl_bd (f_X10_allPaid σ24 a0) fun r32 σ33 =>
  b_X10_tries_112  σ33 a0 (r32 - r14)) else (
  if a5 = 1 then (
  b_X10_tries_112  σ24 a0 ((bl_I σ24 (bl_R σ24 a0 1) 65) - x18)) else (
  if a5 = 2 then (
  b_X10_tries_112  σ24 a0 ((bl_I σ24 (bl_R σ24 a0 1) 66) - x21)) else (
  b_X10_tries_112  σ24 a0 (bl_I σ24 (bl_R σ24 a0 1) 55))))
def f_X10_would (σ : bl_St) (a0 : Nat) (a1 : Int32) (a2 : Int32) (a3 : Int32) (a4 : Int32) (a5 : Int32) : Option (Int32 × bl_St) :=
  if (bl_I σ (bl_R σ a0 1) 0) ≤ 0 then (
  some ((-1), σ)) else (
  bl_bd (f_X10_isLived σ a1 a2 a3) fun r3 σ4 =>
  if r3 = 0 then (
  some ((-1), σ4)) else (
  bl_bd (f_X10_in σ4 (Int32.toInt64 a5) 0 3) fun r7 σ8 =>
  if r7 = 0 then (
  some ((-1), σ8)) else (
  bl_bd (f_X10_tries σ8 a0 a1 a2 a3 a4 a5) fun r11 σ12 =>
  some (r11, σ12))))
def b_X10_bestRule_74 (k39 : bl_St → Nat → Int32 → Int32 → Int32 → Int32 → Int32 → Option (Int32 × bl_St)) (σ : bl_St) (v0 : Nat) (v1 : Int32) (v2 : Int32) (v3 : Int32) (v4 : Int32) (v5 : Int32) : Option (Int32 × bl_St) :=
  bl_let (v5 + 1) fun x1 =>
  k39 σ v0 v1 v2 v3 v4 x1
def b_X10_bestRule_39 (k39 : bl_St → Nat → Int32 → Int32 → Int32 → Int32 → Int32 → Option (Int32 × bl_St)) (σ : bl_St) (v0 : Nat) (v1 : Int32) (v2 : Int32) (v3 : Int32) (v4 : Int32) (v5 : Int32) : Option (Int32 × bl_St) :=
  if 3 ≤ v5 then (
  some (v3, σ)) else (
  bl_bd (f_X10_tries σ v0 v1 v5 0 v2 0) fun r4 σ5 =>
  if r4 < v4 then (
  b_X10_bestRule_74 k39 σ5 v0 v1 v2 v5 r4 v5) else (
  b_X10_bestRule_74 k39 σ5 v0 v1 v2 v3 v4 v5))
def f_X10_bestRule (σ : bl_St) (a0 : Nat) (a1 : Int32) (a2 : Int32) : Option (Int32 × bl_St) :=
  if (bl_I σ (bl_R σ a0 1) 0) = 0 then (
  some ((-1), σ)) else (
  bl_bd (f_X10_in σ (Int32.toInt64 a1) 1 20) fun r10 σ11 =>
  if r10 = 0 then (
  some ((-1), σ11)) else (
  bl_bd (f_X10_tries σ11 a0 a1 0 0 a2 0) fun r14 σ15 =>
  bl_fx (fun _ _ _ _ _ _ _ => none) (b_X10_bestRule_39 ) bl_fu σ15 a0 a1 a2 0 r14 1))
def b_X10_dearest_93 (σ : bl_St) (v0 : Nat) (v3 : Int32) (v4 : Int32) (v5 : Int32) : Option (Int32 × bl_St) :=
  bl_gd (bl_in v3 167) (
  bl_let (bl_pI σ (bl_R σ v0 1) (Int32.toNatClampNeg v3) v4) fun σ3 =>
  some (v5, σ3))
def b_X10_dearest_87 (k46 : bl_St → Nat → Int32 → Int32 → Int32 → Int32 → Int32 → Int32 → Option (Int32 × bl_St)) (σ : bl_St) (v0 : Nat) (v1 : Int32) (v2 : Int32) (v3 : Int32) (v4 : Int32) (v5 : Int32) (v6 : Int32) : Option (Int32 × bl_St) :=
  bl_let (v6 + (-1)) fun x5 =>
  k46 σ v0 v1 v2 v3 v4 v5 x5
def b_X10_dearest_46 (k46 : bl_St → Nat → Int32 → Int32 → Int32 → Int32 → Int32 → Int32 → Option (Int32 × bl_St)) (σ : bl_St) (v0 : Nat) (v1 : Int32) (v2 : Int32) (v3 : Int32) (v4 : Int32) (v5 : Int32) (v6 : Int32) : Option (Int32 × bl_St) :=
  if v6 < 0 then (
  b_X10_dearest_93  σ v0 v3 v4 v5) else (
  if v5 = (-2) then (
  bl_gd (bl_in v3 167) (
  bl_let (bl_pI σ (bl_R σ v0 1) (Int32.toNatClampNeg v3) v6) fun σ11 =>
  bl_bd (f_X10_lays σ11 v0 v1 1 0 0) fun _ σ14 =>
  bl_bd (f_X10_isGuarded σ14 v0 v1 v2) fun r16 σ17 =>
  if r16 = 0 then (
  b_X10_dearest_87 k46 σ17 v0 v1 v2 v3 v4 v5 v6) else (
  b_X10_dearest_87 k46 σ17 v0 v1 v2 v3 v4 v6 v6))) else (
  b_X10_dearest_93  σ v0 v3 v4 v5))
def f_X10_dearest (σ : bl_St) (a0 : Nat) (a1 : Int32) (a2 : Int32) : Option (Int32 × bl_St) :=
  bl_bd (f_X10_in σ (Int32.toInt64 a1) 1 20) fun r20 σ21 =>
  if r20 = 0 then (
  some ((-1), σ21)) else (
  bl_bd (f_X10_isClass σ21 a0 a2) fun r24 σ25 =>
  if r24 = 0 then (
  some ((-1), σ25)) else (
  bl_let ((5 + (5 * a2)) + 4) fun x28 =>
  bl_gd (bl_in x28 167) (
  bl_let (bl_I σ25 (bl_R σ25 a0 1) (Int32.toNatClampNeg x28)) fun x32 =>
  bl_fx (fun _ _ _ _ _ _ _ _ => none) (b_X10_dearest_46 ) bl_fu σ25 a0 a1 a2 x28 x32 (-2) 99)))
def f_X10_of (σ : bl_St) (a0 : Nat) (a1 : Int32) (a2 : Int32) : Option (Int32 × bl_St) :=
  bl_bd (f_X10_isClass σ a0 a1) fun r1 σ2 =>
  if r1 = 0 then (
  some ((-1), σ2)) else (
  bl_bd (f_X10_in σ2 (Int32.toInt64 a2) 0 4) fun r5 σ6 =>
  if r5 = 0 then (
  some ((-1), σ6)) else (
  bl_bd (f_X10_ofClass σ6 a0 a1 a2) fun r9 σ10 =>
  some (r9, σ10)))
def f_X10_ofSort (σ : bl_St) (a0 : Nat) (a1 : Int32) (a2 : Int32) : Option (Int32 × bl_St) :=
  bl_bd (f_X10_isSort σ a0 a1) fun r1 σ2 =>
  if r1 = 0 then (
  some ((-1), σ2)) else (
  if a2 = 0 then (
  bl_bd (f_X10_size σ2 a0 a1) fun r15 σ16 =>
  some (r15, σ16)) else (
  if a2 = 1 then (
  bl_bd (f_X10_weight σ2 a0 a1) fun r12 σ13 =>
  some (r12, σ13)) else (
  if a2 = 2 then (
  bl_bd (f_X10_weight σ2 a0 a1) fun r9 σ10 =>
  some (((bl_I σ2 (bl_R σ2 a0 1) 3) * r9), σ10)) else (
  some ((-1), σ2)))))
def f_X10_life (σ : bl_St) (a0 : Nat) (a1 : Int32) : Option (Int32 × bl_St) :=
  if a1 = 0 then (
  if (bl_I σ (bl_R σ a0 1) 0) = 0 then (
  some ((-1), σ)) else (
  some ((bl_I σ (bl_R σ a0 1) 55), σ))) else if a1 = 1 then (
  some ((bl_I σ (bl_R σ a0 1) 56), σ)) else if a1 = 2 then (
  some ((bl_I σ (bl_R σ a0 1) 57), σ)) else if a1 = 3 then (
  some ((bl_I σ (bl_R σ a0 1) 58), σ)) else if a1 = 4 then (
  some ((bl_I σ (bl_R σ a0 1) 59), σ)) else if a1 = 5 then (
  some ((bl_I σ (bl_R σ a0 1) 60), σ)) else if a1 = 6 then (
  some ((bl_I σ (bl_R σ a0 1) 61), σ)) else if a1 = 7 then (
  some ((bl_I σ (bl_R σ a0 1) 62), σ)) else if a1 = 8 then (
  some ((bl_I σ (bl_R σ a0 1) 63), σ)) else if a1 = 9 then (
  some ((bl_I σ (bl_R σ a0 1) 64), σ)) else if a1 = 10 then (
  some ((bl_I σ (bl_R σ a0 1) 65), σ)) else if a1 = 11 then (
  some ((bl_I σ (bl_R σ a0 1) 66), σ)) else if a1 = 12 then (
  bl_bd (f_X10_allPaid σ a0) fun r28 σ29 =>
  some (r28, σ29)) else (
  some ((-1), σ))
def f_X10_entry (σ : bl_St) (a0 : Nat) (a1 : Int32) (a2 : Int32) (a3 : Int32) : Option (Int32 × bl_St) :=
  bl_gd (bl_in a1 167) (
  bl_bd (f_X10_in σ (Int32.toInt64 a2) 0 (Int32.toInt64 ((bl_I σ (bl_R σ a0 1) (Int32.toNatClampNeg a1)) - 1))) fun r3 σ4 =>
  if r3 = 0 then (
  some ((-1), σ4)) else (
  bl_bd (f_X10_in σ4 (Int32.toInt64 a3) 0 2) fun r7 σ8 =>
  if r7 = 0 then (
  some ((-1), σ8)) else (
  bl_gd (bl_in a1 167) (
  bl_gd (bl_in (((a1 + 1) + (3 * (((bl_I σ8 (bl_R σ8 a0 1) (Int32.toNatClampNeg a1)) - 1) - a2))) + a3) 167) (
  some ((bl_I σ8 (bl_R σ8 a0 1) (Int32.toNatClampNeg (((a1 + 1) + (3 * (((bl_I σ8 (bl_R σ8 a0 1) (Int32.toNatClampNeg a1)) - 1) - a2))) + a3))), σ8))))))
def f_X10_book (σ : bl_St) (a0 : Nat) (a1 : Int32) (a2 : Int32) : Option (Int32 × bl_St) :=
  bl_bd (f_X10_entry σ a0 69 a1 a2) fun r1 σ2 =>
  some (r1, σ2)
def f_X10_ledger (σ : bl_St) (a0 : Nat) (a1 : Int32) (a2 : Int32) : Option (Int32 × bl_St) :=
  bl_bd (f_X10_entry σ a0 118 a1 a2) fun r1 σ2 =>
  some (r1, σ2)
def b_X10_mean_54 (k54 : bl_St → Int32 → Int32 → Int32 → Int32 → Int32 → Option (Int32 × bl_St)) (σ : bl_St) (v1 : Int32) (v2 : Int32) (v3 : Int32) (v4 : Int32) (v5 : Int32) : Option (Int32 × bl_St) :=
  if v5 = 0 then (
  if v1 = 0 then (
  bl_gd (!(decide (v4 = 0))) (
  some ((v3 / v4), σ))) else (
  bl_gd (!(decide (v4 = 0))) (
  some ((v2 / v4), σ)))) else (
  bl_gd (!(decide (v5 = 0))) (
  bl_let (v4 - v4 / v5 * v5) fun x6 =>
  k54 σ v1 v2 v3 v5 x6))
def b_X10_mean_19 (k19 : bl_St → Nat → Int32 → Int32 → Int32 → Int32 → Option (Int32 × bl_St)) (σ : bl_St) (v0 : Nat) (v1 : Int32) (v2 : Int32) (v3 : Int32) (v4 : Int32) : Option (Int32 × bl_St) :=
  if v2 ≤ v4 then (
  bl_fx (fun _ _ _ _ _ _ => none) (b_X10_mean_54 ) bl_fu σ v1 v2 v3 v3 v2) else (
  bl_gd (bl_in ((119 + (3 * v4)) + 1) 167) (
  bl_let (v3 + (bl_I σ (bl_R σ v0 1) (Int32.toNatClampNeg ((119 + (3 * v4)) + 1)))) fun x11 =>
  bl_let (v4 + 1) fun x13 =>
  k19 σ v0 v1 v2 x11 x13))
def f_X10_mean (σ : bl_St) (a0 : Nat) (a1 : Int32) : Option (Int32 × bl_St) :=
  bl_let (bl_I σ (bl_R σ a0 1) 118) fun x16 =>
  if x16 = 0 then (
  some ((-1), σ)) else (
  bl_fx (fun _ _ _ _ _ _ => none) (b_X10_mean_19 ) bl_fu σ a0 a1 x16 0 0)
def f_X10_writesSign (σ : bl_St) (a0 : Nat) (a1 : Int32) : Option (Unit × bl_St) :=
  bl_gd (bl_in (bl_I σ a0 19) 400) (
  bl_let (bl_pI σ (bl_R σ a0 18) (Int32.toNatClampNeg (bl_I σ a0 19)) a1) fun σ3 =>
  bl_let (bl_pI σ3 a0 19 ((bl_I σ3 a0 19) + 1)) fun σ5 =>
  some ((), σ5))
def b_X10_wordFrom_20 (k4 : bl_St → Nat → Int32 → Int32 → Option (Int32 × bl_St)) (σ : bl_St) (v0 : Nat) (v2 : Int32) (v3 : Int32) : Option (Int32 × bl_St) :=
  bl_let (v2 + 1) fun x1 =>
  k4 σ v0 x1 v3
def b_X10_wordFrom_4 (k4 : bl_St → Nat → Int32 → Int32 → Option (Int32 × bl_St)) (σ : bl_St) (v0 : Nat) (v2 : Int32) (v3 : Int32) : Option (Int32 × bl_St) :=
  if v3 ≤ 0 then (
  some (v2, σ)) else (
  bl_gd (bl_in v2 45) (
  if (bl_I σ (bl_R σ v0 22) (Int32.toNatClampNeg v2)) = 0 then (
  bl_let (v3 + (-1)) fun x7 =>
  b_X10_wordFrom_20 k4 σ v0 v2 x7) else (
  b_X10_wordFrom_20 k4 σ v0 v2 v3)))
def f_X10_wordFrom (σ : bl_St) (a0 : Nat) (a1 : Int32) : Option (Int32 × bl_St) :=
  bl_fx (fun _ _ _ _ => none) (b_X10_wordFrom_4 ) bl_fu σ a0 0 a1
def b_X10_writesWord_6 (k6 : bl_St → Nat → Int32 → Option (Unit × bl_St)) (σ : bl_St) (v0 : Nat) (v2 : Int32) : Option (Unit × bl_St) :=
  bl_gd (bl_in v2 45) (
  if (bl_I σ (bl_R σ v0 22) (Int32.toNatClampNeg v2)) = 0 then (
  some ((), σ)) else (
  bl_gd (bl_in v2 45) (
  bl_bd (f_X10_writesSign σ v0 (bl_I σ (bl_R σ v0 22) (Int32.toNatClampNeg v2))) fun _ σ7 =>
  bl_let (v2 + 1) fun x9 =>
  k6 σ7 v0 x9)))
def f_X10_writesWord (σ : bl_St) (a0 : Nat) (a1 : Int32) : Option (Unit × bl_St) :=
  bl_bd (f_X10_wordFrom σ a0 a1) fun r11 σ12 =>
  bl_fx (fun _ _ _ => none) (b_X10_writesWord_6 ) bl_fu σ12 a0 r11
def b_X10_writesNumber_24 (k24 : bl_St → Nat → Int32 → Int32 → Option (Unit × bl_St)) (σ : bl_St) (v0 : Nat) (v1 : Int32) (v2 : Int32) : Option (Unit × bl_St) :=
  if v2 ≤ 0 then (
  some ((), σ)) else (
  bl_gd (!(decide (v2 = 0))) (
  bl_bd (f_X10_writesSign σ v0 (48 + ((v1 / v2) - (v1 / v2) / 10 * 10))) fun _ σ4 =>
  bl_let (v2 / 10) fun x6 =>
  k24 σ4 v0 v1 x6))
def b_X10_writesNumber_8 (k8 : bl_St → Nat → Int32 → Int32 → Option (Unit × bl_St)) (σ : bl_St) (v0 : Nat) (v1 : Int32) (v2 : Int32) : Option (Unit × bl_St) :=
  bl_gd (!(decide (v2 = 0))) (
  if (v1 / v2) ≤ 9 then (
  bl_fx (fun _ _ _ _ => none) (b_X10_writesNumber_24 ) bl_fu σ v0 v1 v2) else (
  bl_let (v2 * 10) fun x10 =>
  k8 σ v0 v1 x10))
def f_X10_writesNumber (σ : bl_St) (a0 : Nat) (a1 : Int32) : Option (Unit × bl_St) :=
  bl_bd (f_X10_writesSign σ a0 32) fun _ σ13 =>
  bl_fx (fun _ _ _ _ => none) (b_X10_writesNumber_8 ) bl_fu σ13 a0 a1 1
def f_X10_toldText (σ : bl_St) (a0 : Nat) (a1 : Int32) : Option (Int32 × bl_St) :=
  if a1 = (-1) then (
  some ((bl_I σ a0 19), σ)) else (
  if (bl_I σ a0 19) ≤ a1 then (
  some ((-2), σ)) else (
  bl_gd (bl_in a1 400) (
  some ((bl_I σ (bl_R σ a0 18) (Int32.toNatClampNeg a1)), σ))))
def b_X10_writesRow_8 (k8 : bl_St → Nat → Int32 → Int32 → Int32 → Option (Unit × bl_St)) (σ : bl_St) (v0 : Nat) (v2 : Int32) (v3 : Int32) (v4 : Int32) : Option (Unit × bl_St) :=
  if v3 ≤ v4 then (
  bl_bd (f_X10_writesSign σ v0 59) fun _ σ3 =>
  some ((), σ3)) else (
  bl_gd (bl_in (v2 + v4) 167) (
  bl_bd (f_X10_writesNumber σ v0 (bl_I σ (bl_R σ v0 1) (Int32.toNatClampNeg (v2 + v4)))) fun _ σ8 =>
  bl_let (v4 + 1) fun x10 =>
  k8 σ8 v0 v2 v3 x10))
def f_X10_writesRow (σ : bl_St) (a0 : Nat) (a1 : Int32) (a2 : Int32) (a3 : Int32) : Option (Unit × bl_St) :=
  bl_bd (f_X10_writesWord σ a0 a1) fun _ σ13 =>
  bl_fx (fun _ _ _ _ _ => none) (b_X10_writesRow_8 ) bl_fu σ13 a0 a2 a3 0
def b_X10_spell_43 (k43 : bl_St → Nat → Int32 → Int32 → Option (Int32 × bl_St)) (σ : bl_St) (v0 : Nat) (v1 : Int32) (v2 : Int32) : Option (Int32 × bl_St) :=
  if (bl_I σ (bl_R σ v0 1) 1) ≤ v2 then (
  bl_bd (f_X10_writesRow σ v0 2 2 1) fun _ σ4 =>
  bl_bd (f_X10_writesRow σ4 v0 3 3 1) fun _ σ7 =>
  bl_bd (f_X10_writesRow σ7 v0 4 4 1) fun _ σ10 =>
  bl_bd (f_X10_toldText σ10 v0 v1) fun r12 σ13 =>
  some (r12, σ13)) else (
  bl_bd (f_X10_writesRow σ v0 1 (45 + (2 * v2)) 2) fun _ σ16 =>
  bl_let (v2 + 1) fun x18 =>
  k43 σ16 v0 v1 x18)
def b_X10_spell_14 (k14 : bl_St → Nat → Int32 → Int32 → Option (Int32 × bl_St)) (σ : bl_St) (v0 : Nat) (v1 : Int32) (v2 : Int32) : Option (Int32 × bl_St) :=
  if (bl_I σ (bl_R σ v0 1) 0) ≤ v2 then (
  bl_fx (fun _ _ _ _ => none) (b_X10_spell_43 ) bl_fu σ v0 v1 0) else (
  bl_bd (f_X10_writesRow σ v0 0 (5 + (5 * v2)) 5) fun _ σ23 =>
  bl_let (v2 + 1) fun x25 =>
  k14 σ23 v0 v1 x25)
def f_X10_spell (σ : bl_St) (a0 : Nat) (a1 : Int32) : Option (Int32 × bl_St) :=
  if (-1) ≤ a1 then (
  bl_let (bl_pI σ a0 19 0) fun σ28 =>
  bl_fx (fun _ _ _ _ => none) (b_X10_spell_14 ) bl_fu σ28 a0 a1 0) else (
  some ((-1), σ))
def b_X10_writesAdvice_76 (σ : bl_St) (v0 : Nat) (v4 : Int32) (s0 : Int32) (s1 : Nat) : Option (Unit × bl_St) :=
  bl_bd (f_X10_writesWord σ s1 s0) fun _ σ2 =>
  if v4 = (-2) then (
  bl_bd (f_X10_writesSign σ2 v0 59) fun _ σ6 =>
  some ((), σ6)) else (
  bl_bd (f_X10_writesNumber σ2 v0 v4) fun _ σ9 =>
  bl_bd (f_X10_writesSign σ9 v0 59) fun _ σ12 =>
  some ((), σ12))
def b_X10_writesAdvice_50 (σ : bl_St) (v0 : Nat) (s0 : Int32) (s1 : Int32) (s2 : Int32) (s3 : Nat) : Option (Unit × bl_St) :=
  bl_bd (f_X10_leastSize σ s3 s2 s1 s0) fun r14 σ15 =>
  bl_bd (f_X10_writesSign σ15 v0 32) fun _ σ18 =>
  if r14 = (-2) then (
  b_X10_writesAdvice_76  σ18 v0 r14 7 v0) else (
  b_X10_writesAdvice_76  σ18 v0 r14 6 v0)
def b_X10_writesAdvice_32 (σ : bl_St) (v0 : Nat) (v1 : Int32) (v2 : Int32) (v3 : Int32) : Option (Unit × bl_St) :=
  bl_bd (f_X10_laysChances σ v0 v1 v2) fun _ σ22 =>
  if v3 = 0 then (
  b_X10_writesAdvice_50  σ22 v0 0 0 0 v0) else (
  b_X10_writesAdvice_50  σ22 v0 1 0 0 v0)
def f_X10_writesAdvice (σ : bl_St) (a0 : Nat) (a1 : Int32) (a2 : Int32) : Option (Unit × bl_St) :=
  bl_bd (f_X10_writesWord σ a0 0) fun _ σ26 =>
  bl_bd (f_X10_writesNumber σ26 a0 a2) fun _ σ29 =>
  bl_bd (f_X10_isGuarded σ29 a0 a1 a2) fun r31 σ32 =>
  if r31 = 0 then (
  b_X10_writesAdvice_32  σ32 a0 a1 a2 r31) else (
  bl_bd (f_X10_writesSign σ32 a0 32) fun _ σ36 =>
  bl_bd (f_X10_writesWord σ36 a0 5) fun _ σ39 =>
  b_X10_writesAdvice_32  σ39 a0 a1 a2 r31)
def b_X10_report_43 (k43 : bl_St → Nat → Int32 → Int32 → Int32 → Option (Int32 × bl_St)) (σ : bl_St) (v0 : Nat) (v1 : Int32) (v2 : Int32) (v3 : Int32) : Option (Int32 × bl_St) :=
  if (bl_I σ (bl_R σ v0 1) 0) ≤ v3 then (
  bl_bd (f_X10_toldText σ v0 v2) fun r3 σ4 =>
  some (r3, σ4)) else (
  bl_bd (f_X10_writesAdvice σ v0 v1 v3) fun _ σ7 =>
  bl_let (v3 + 1) fun x9 =>
  k43 σ7 v0 v1 v2 x9)
def f_X10_report (σ : bl_St) (a0 : Nat) (a1 : Int32) (a2 : Int32) : Option (Int32 × bl_St) :=
  bl_bd (f_X10_in σ (Int32.toInt64 a1) 1 20) fun r11 σ12 =>
  if r11 = 0 then (
  some ((-1), σ12)) else (
  if a2 < (-1) then (
  some ((-1), σ12)) else (
  if (bl_I σ12 (bl_R σ12 a0 1) 0) = 0 then (
  some ((-1), σ12)) else (
  bl_let (bl_pI σ12 a0 19 0) fun σ18 =>
  bl_bd (f_X10_lays σ18 a0 a1 1 0 0) fun _ σ21 =>
  bl_fx (fun _ _ _ _ _ => none) (b_X10_report_43 ) bl_fu σ21 a0 a1 a2 0)))
def f_X10_count (σ : bl_St) (a0 : Nat) (a1 : Int32) : Option (Int32 × bl_St) :=
  if a1 = 0 then (
  some ((bl_I σ (bl_R σ a0 1) 0), σ)) else if a1 = 1 then (
  some ((bl_I σ (bl_R σ a0 1) 1), σ)) else if a1 = 2 then (
  some ((bl_I σ (bl_R σ a0 1) 2), σ)) else if a1 = 3 then (
  some ((bl_I σ (bl_R σ a0 1) 3), σ)) else if a1 = 4 then (
  some ((bl_I σ (bl_R σ a0 1) 4), σ)) else if a1 = 5 then (
  some ((bl_I σ a0 5), σ)) else if a1 = 6 then (
  some ((bl_I σ a0 21), σ)) else if a1 = 7 then (
  bl_bd (f_X10_weights σ a0) fun r14 σ15 =>
  some (r14, σ15)) else if a1 = 8 then (
  some ((bl_I σ (bl_R σ a0 1) 69), σ)) else if a1 = 9 then (
  some ((bl_I σ (bl_R σ a0 1) 118), σ)) else (
  some ((-1), σ))
def b_X10_feed_71 (k18 : bl_St → Nat → Int32 → Int32 → Int32 → Int32 → Int32 → Int32 → Option (Int32 × bl_St)) (σ : bl_St) (v0 : Nat) (v1 : Int32) (v2 : Int32) (v3 : Int32) (v4 : Int32) (v5 : Int32) (v6 : Int32) (s0 : Int32) : Option (Int32 × bl_St) :=
  bl_gd (bl_in (bl_I σ v0 21) 400) (
  bl_let (bl_pI σ (bl_R σ v0 20) (Int32.toNatClampNeg (bl_I σ v0 21)) ((s0 >>> ((24 - (8 * (v6 - v6 / 4 * 4))) &&& 31)) &&& 255)) fun σ3 =>
  bl_let (bl_pI σ3 v0 21 ((bl_I σ3 v0 21) + 1)) fun σ5 =>
  bl_let (v6 + 1) fun x7 =>
  k18 σ5 v0 v1 v2 v3 v4 v5 x7)
def b_X10_feed_18 (k18 : bl_St → Nat → Int32 → Int32 → Int32 → Int32 → Int32 → Int32 → Option (Int32 × bl_St)) (σ : bl_St) (v0 : Nat) (v1 : Int32) (v2 : Int32) (v3 : Int32) (v4 : Int32) (v5 : Int32) (v6 : Int32) : Option (Int32 × bl_St) :=
  if 20 ≤ v6 then (
  some ((bl_I σ v0 21), σ)) else (
  if 4 ≤ v6 then (
  if 8 ≤ v6 then (
  if 12 ≤ v6 then (
  if 16 ≤ v6 then (
  b_X10_feed_71 k18 σ v0 v1 v2 v3 v4 v5 v6 v5) else (
  b_X10_feed_71 k18 σ v0 v1 v2 v3 v4 v5 v6 v4)) else (
  b_X10_feed_71 k18 σ v0 v1 v2 v3 v4 v5 v6 v3)) else (
  b_X10_feed_71 k18 σ v0 v1 v2 v3 v4 v5 v6 v2)) else (
  b_X10_feed_71 k18 σ v0 v1 v2 v3 v4 v5 v6 v1))
def f_X10_feed (σ : bl_St) (a0 : Nat) (a1 : Int32) (a2 : Int32) (a3 : Int32) (a4 : Int32) (a5 : Int32) : Option (Int32 × bl_St) :=
  if ((bl_I σ a0 21) + 20) ≤ 400 then (
  bl_fx (fun _ _ _ _ _ _ _ _ => none) (b_X10_feed_18 ) bl_fu σ a0 a1 a2 a3 a4 a5 0) else (
  some ((-1), σ))
def f_X10_back (σ : bl_St) (a0 : Nat) (a1 : Int32) : Option (Int32 × bl_St) :=
  bl_bd (f_X10_in σ (Int32.toInt64 a1) 0 (Int32.toInt64 (bl_I σ a0 21))) fun r1 σ2 =>
  if r1 = 0 then (
  some ((-1), σ2)) else (
  bl_let (bl_pI σ2 a0 21 ((bl_I σ2 a0 21) - a1)) fun σ5 =>
  some ((bl_I σ5 a0 21), σ5))
def f_X10_here (σ : bl_St) (a0 : Nat) : Option (Int32 × bl_St) :=
  if (bl_I σ a0 21) ≤ (bl_I σ a0 23) then (
  some ((-1), σ)) else (
  bl_gd (bl_in (bl_I σ a0 23) 400) (
  some ((bl_I σ (bl_R σ a0 20) (Int32.toNatClampNeg (bl_I σ a0 23))), σ)))
def b_X10_goesOn_223 (k174 : bl_St → Nat → Int32 → Option (Unit × bl_St)) (σ : bl_St) (v0 : Nat) (v3 : Int32) : Option (Unit × bl_St) :=
  bl_let (bl_pI σ v0 23 ((bl_I σ v0 23) + 1)) fun σ1 =>
  k174 σ1 v0 v3
def b_X10_goesOn_174 (k174 : bl_St → Nat → Int32 → Option (Unit × bl_St)) (σ : bl_St) (v0 : Nat) (v3 : Int32) : Option (Unit × bl_St) :=
  bl_bd (f_X10_here σ v0) fun r3 σ4 =>
  bl_bd (f_X10_in σ4 (Int32.toInt64 r3) 48 57) fun r6 σ7 =>
  if r6 = 0 then (
  if v3 = 0 then (
  if ((bl_I σ7 v0 23) - (bl_I σ7 v0 25)) ≤ 3 then (
  bl_let (bl_pI σ7 v0 24 2) fun σ14 =>
  some ((), σ14)) else (
  bl_let (bl_pI σ7 v0 24 4) fun σ16 =>
  some ((), σ16))) else (
  bl_let (bl_pI σ7 v0 24 4) fun σ11 =>
  some ((), σ11))) else (
  if 3 ≤ ((bl_I σ7 v0 23) - (bl_I σ7 v0 25)) then (
  b_X10_goesOn_223 k174 σ7 v0 v3) else (
  bl_bd (f_X10_here σ7 v0) fun r19 σ20 =>
  bl_let (bl_pI σ20 v0 26 (((10 * (bl_I σ7 v0 26)) + r19) - 48)) fun σ22 =>
  b_X10_goesOn_223 k174 σ22 v0 v3))
def b_X10_goesOn_108 (k108 : bl_St → Nat → Int32 → Option (Unit × bl_St)) (σ : bl_St) (v0 : Nat) (v3 : Int32) : Option (Unit × bl_St) :=
  bl_bd (f_X10_here σ v0) fun r24 σ25 =>
  bl_bd (f_X10_in σ25 (Int32.toInt64 r24) 97 122) fun r27 σ28 =>
  if r27 = 0 then (
  if v3 = 0 then (
  bl_let (bl_pI σ28 v0 24 1) fun σ32 =>
  some ((), σ32)) else (
  bl_let (bl_pI σ28 v0 24 4) fun σ34 =>
  some ((), σ34))) else (
  bl_let (bl_pI σ28 v0 23 ((bl_I σ28 v0 23) + 1)) fun σ36 =>
  k108 σ36 v0 v3)
def b_X10_goesOn_72 (σ : bl_St) (v0 : Nat) (s0 : Int32) : Option (Unit × bl_St) :=
  bl_bd (f_X10_here σ v0) fun r38 σ39 =>
  if r38 = (-1) then (
  bl_let (bl_pI σ39 v0 24 0) fun σ59 =>
  some ((), σ59)) else (
  bl_bd (f_X10_in σ39 (Int32.toInt64 r38) 97 122) fun r42 σ43 =>
  if r42 = 0 then (
  bl_bd (f_X10_in σ43 (Int32.toInt64 r38) 48 57) fun r46 σ47 =>
  if r46 = 0 then (
  bl_let (bl_pI σ47 v0 23 ((bl_I σ47 v0 23) + 1)) fun σ50 =>
  if r38 = 59 then (
  bl_let (bl_pI σ50 v0 24 3) fun σ55 =>
  some ((), σ55)) else (
  bl_let (bl_pI σ50 v0 24 4) fun σ53 =>
  some ((), σ53))) else (
  bl_let (bl_pI σ47 v0 26 0) fun σ57 =>
  bl_fx (fun _ _ _ => none) (b_X10_goesOn_174 ) bl_fu σ57 v0 s0)) else (
  bl_fx (fun _ _ _ => none) (b_X10_goesOn_108 ) bl_fu σ43 v0 s0))
def b_X10_goesOn_71 (σ : bl_St) (v0 : Nat) : Option (Unit × bl_St) :=
  b_X10_goesOn_72  σ v0 0
def b_X10_goesOn_67 (σ : bl_St) (v0 : Nat) : Option (Unit × bl_St) :=
  b_X10_goesOn_72  σ v0 1
def b_X10_goesOn_28 (k10 : bl_St → Nat → Int32 → Int32 → Option (Unit × bl_St)) (σ : bl_St) (v0 : Nat) (v1 : Int32) (v2 : Int32) : Option (Unit × bl_St) :=
  bl_let (bl_pI σ v0 23 ((bl_I σ v0 23) + 1)) fun σ61 =>
  k10 σ61 v0 v1 v2
def b_X10_goesOn_10 (k10 : bl_St → Nat → Int32 → Int32 → Option (Unit × bl_St)) (σ : bl_St) (v0 : Nat) (v1 : Int32) (v2 : Int32) : Option (Unit × bl_St) :=
  bl_bd (f_X10_here σ v0) fun r63 σ64 =>
  if r63 = 32 then (
  b_X10_goesOn_28 k10 σ64 v0 v1 v2) else (
  bl_bd (f_X10_here σ64 v0) fun r67 σ68 =>
  if r67 = 10 then (
  b_X10_goesOn_28 k10 σ68 v0 v1 v2) else (
  bl_let (bl_pI σ68 v0 25 (bl_I σ68 v0 23)) fun σ71 =>
  if (bl_I σ71 v0 25) = v2 then (
  if v1 = 1 then (
  b_X10_goesOn_67  σ71 v0) else (
  if v1 = 2 then (
  b_X10_goesOn_67  σ71 v0) else (
  b_X10_goesOn_71  σ71 v0))) else (
  b_X10_goesOn_71  σ71 v0)))
def f_X10_goesOn (σ : bl_St) (a0 : Nat) : Option (Unit × bl_St) :=
  bl_let (bl_I σ a0 24) fun x76 =>
  bl_let (bl_I σ a0 23) fun x78 =>
  bl_fx (fun _ _ _ _ => none) (b_X10_goesOn_10 ) bl_fu σ a0 x76 x78
def b_X10_takesWord_66 (σ : bl_St) (v0 : Nat) (v2 : Int32) (v3 : Int32) : Option (Int32 × bl_St) :=
  if ((bl_I σ v0 25) + v3) = (bl_I σ v0 23) then (
  bl_gd (bl_in (v2 + v3) 45) (
  if (bl_I σ (bl_R σ v0 22) (Int32.toNatClampNeg (v2 + v3))) = 0 then (
  bl_bd (f_X10_goesOn σ v0) fun _ σ6 =>
  some (1, σ6)) else (
  some (0, σ)))) else (
  some (0, σ))
def b_X10_takesWord_25 (k25 : bl_St → Nat → Int32 → Int32 → Option (Int32 × bl_St)) (σ : bl_St) (v0 : Nat) (v2 : Int32) (v3 : Int32) : Option (Int32 × bl_St) :=
  if (bl_I σ v0 23) ≤ ((bl_I σ v0 25) + v3) then (
  b_X10_takesWord_66  σ v0 v2 v3) else (
  bl_gd (bl_in (v2 + v3) 45) (
  bl_gd (bl_in ((bl_I σ v0 25) + v3) 400) (
  if (bl_I σ (bl_R σ v0 22) (Int32.toNatClampNeg (v2 + v3))) = (bl_I σ (bl_R σ v0 20) (Int32.toNatClampNeg ((bl_I σ v0 25) + v3))) then (
  bl_let (v3 + 1) fun x14 =>
  k25 σ v0 v2 x14) else (
  b_X10_takesWord_66  σ v0 v2 v3))))
def f_X10_takesWord (σ : bl_St) (a0 : Nat) (a1 : Int32) : Option (Int32 × bl_St) :=
  if (bl_I σ a0 27) = 0 then (
  if (bl_I σ a0 24) = 1 then (
  bl_bd (f_X10_wordFrom σ a0 a1) fun r18 σ19 =>
  bl_fx (fun _ _ _ _ => none) (b_X10_takesWord_25 ) bl_fu σ19 a0 r18 0) else (
  some (0, σ))) else (
  some (0, σ))
def f_X10_needsNumber (σ : bl_St) (a0 : Nat) (a1 : Int32) (a2 : Int32) : Option (Int32 × bl_St) :=
  if (bl_I σ a0 27) = 0 then (
  if (bl_I σ a0 24) = 2 then (
  bl_bd (f_X10_in σ (Int32.toInt64 (bl_I σ a0 26)) (Int32.toInt64 a1) (Int32.toInt64 a2)) fun r7 σ8 =>
  if r7 = 0 then (
  bl_let (bl_pI σ8 a0 27 1) fun σ16 =>
  some (a1, σ16)) else (
  bl_let (bl_I σ8 a0 26) fun x11 =>
  bl_bd (f_X10_goesOn σ8 a0) fun _ σ14 =>
  some (x11, σ14))) else (
  bl_let (bl_pI σ a0 27 1) fun σ5 =>
  some (a1, σ5))) else (
  bl_let (bl_pI σ a0 27 1) fun σ2 =>
  some (a1, σ2))
def f_X10_isRoom (σ : bl_St) (a0 : Nat) (a1 : Int32) (a2 : Int32) (a3 : Int32) : Option (Int32 × bl_St) :=
  bl_gd (bl_in a1 167) (
  if a2 ≤ (bl_I σ (bl_R σ a0 2) (Int32.toNatClampNeg a1)) then (
  bl_let (bl_pI σ a0 25 a3) fun σ4 =>
  bl_let (bl_pI σ4 a0 27 1) fun σ6 =>
  some (0, σ6)) else (
  some (1, σ)))
def b_X10_readsClass_59 (k14 : bl_St → Nat → Int32 → Option (Unit × bl_St)) (σ : bl_St) (v0 : Nat) (v2 : Int32) (s0 : Int32) (s1 : Int32) (s2 : Nat) (s3 : Int32) (s4 : Nat) : Option (Unit × bl_St) :=
  bl_bd (f_X10_needsNumber σ s2 s1 s0) fun r1 σ2 =>
  bl_gd (bl_in s3 167) (
  bl_let (bl_pI σ2 s4 (Int32.toNatClampNeg s3) r1) fun σ5 =>
  bl_let (v2 + 1) fun x7 =>
  k14 σ5 v0 x7)
def b_X10_readsClass_14 (k14 : bl_St → Nat → Int32 → Option (Unit × bl_St)) (σ : bl_St) (v0 : Nat) (v2 : Int32) : Option (Unit × bl_St) :=
  if 4 < v2 then (
  bl_let (bl_pI σ (bl_R σ v0 2) 0 ((bl_I σ (bl_R σ v0 2) 0) + 1)) fun σ11 =>
  some ((), σ11)) else (
  if v2 = 0 then (
  b_X10_readsClass_59 k14 σ v0 v2 999 0 v0 ((5 + (5 * (bl_I σ (bl_R σ v0 2) 0))) + v2) (bl_R σ v0 2)) else (
  if v2 = 4 then (
  b_X10_readsClass_59 k14 σ v0 v2 99 0 v0 ((5 + (5 * (bl_I σ (bl_R σ v0 2) 0))) + v2) (bl_R σ v0 2)) else (
  b_X10_readsClass_59 k14 σ v0 v2 7 0 v0 ((5 + (5 * (bl_I σ (bl_R σ v0 2) 0))) + v2) (bl_R σ v0 2))))
def f_X10_readsClass (σ : bl_St) (a0 : Nat) (a1 : Int32) : Option (Unit × bl_St) :=
  bl_bd (f_X10_isRoom σ a0 0 8 a1) fun r17 σ18 =>
  if r17 = 0 then (
  some ((), σ18)) else (
  bl_fx (fun _ _ _ => none) (b_X10_readsClass_14 ) bl_fu σ18 a0 0)
def b_X10_readsLoss_49 (k13 : bl_St → Nat → Int32 → Option (Unit × bl_St)) (σ : bl_St) (v0 : Nat) (v2 : Int32) (s0 : Int32) (s1 : Int32) (s2 : Nat) (s3 : Int32) (s4 : Nat) : Option (Unit × bl_St) :=
  bl_bd (f_X10_needsNumber σ s2 s1 s0) fun r1 σ2 =>
  bl_gd (bl_in s3 167) (
  bl_let (bl_pI σ2 s4 (Int32.toNatClampNeg s3) r1) fun σ5 =>
  bl_let (v2 + 1) fun x7 =>
  k13 σ5 v0 x7)
def b_X10_readsLoss_13 (k13 : bl_St → Nat → Int32 → Option (Unit × bl_St)) (σ : bl_St) (v0 : Nat) (v2 : Int32) : Option (Unit × bl_St) :=
  if 2 ≤ v2 then (
  bl_let (bl_pI σ (bl_R σ v0 2) 1 ((bl_I σ (bl_R σ v0 2) 1) + 1)) fun σ11 =>
  some ((), σ11)) else (
  if v2 = 0 then (
  b_X10_readsLoss_49 k13 σ v0 v2 999 1 v0 ((45 + (2 * (bl_I σ (bl_R σ v0 2) 1))) + v2) (bl_R σ v0 2)) else (
  b_X10_readsLoss_49 k13 σ v0 v2 9 1 v0 ((45 + (2 * (bl_I σ (bl_R σ v0 2) 1))) + v2) (bl_R σ v0 2)))
def f_X10_readsLoss (σ : bl_St) (a0 : Nat) (a1 : Int32) : Option (Unit × bl_St) :=
  bl_bd (f_X10_isRoom σ a0 1 5 a1) fun r16 σ17 =>
  if r16 = 0 then (
  some ((), σ17)) else (
  bl_fx (fun _ _ _ => none) (b_X10_readsLoss_13 ) bl_fu σ17 a0 0)
def b_X10_readsOne_113 (σ : bl_St) (v0 : Nat) : Option (Unit × bl_St) :=
  if (bl_I σ v0 27) = 0 then (
  if (bl_I σ v0 24) = 3 then (
  bl_bd (f_X10_goesOn σ v0) fun _ σ6 =>
  some ((), σ6)) else (
  bl_let (bl_pI σ v0 27 1) fun σ3 =>
  some ((), σ3))) else (
  some ((), σ))
def f_X10_readsOne (σ : bl_St) (a0 : Nat) : Option (Unit × bl_St) :=
  bl_let (bl_I σ a0 25) fun x8 =>
  bl_bd (f_X10_takesWord σ a0 0) fun r10 σ11 =>
  if r10 = 0 then (
  bl_bd (f_X10_takesWord σ11 a0 1) fun r14 σ15 =>
  if r14 = 0 then (
  bl_bd (f_X10_takesWord σ15 a0 2) fun r18 σ19 =>
  if r18 = 0 then (
  bl_bd (f_X10_takesWord σ19 a0 3) fun r22 σ23 =>
  if r22 = 0 then (
  bl_bd (f_X10_takesWord σ23 a0 4) fun r26 σ27 =>
  if r26 = 0 then (
  bl_let (bl_pI σ27 a0 27 1) fun σ30 =>
  b_X10_readsOne_113  σ30 a0) else (
  bl_bd (f_X10_needsNumber σ27 a0 0 99) fun r33 σ34 =>
  bl_let (bl_pI σ34 (bl_R σ27 a0 2) 4 r33) fun σ36 =>
  b_X10_readsOne_113  σ36 a0)) else (
  bl_bd (f_X10_needsNumber σ23 a0 0 12) fun r39 σ40 =>
  bl_let (bl_pI σ40 (bl_R σ23 a0 2) 3 r39) fun σ42 =>
  b_X10_readsOne_113  σ42 a0)) else (
  bl_bd (f_X10_needsNumber σ19 a0 1 3) fun r45 σ46 =>
  bl_let (bl_pI σ46 (bl_R σ19 a0 2) 2 r45) fun σ48 =>
  b_X10_readsOne_113  σ48 a0)) else (
  bl_bd (f_X10_readsLoss σ15 a0 x8) fun _ σ51 =>
  b_X10_readsOne_113  σ51 a0)) else (
  bl_bd (f_X10_readsClass σ11 a0 x8) fun _ σ54 =>
  b_X10_readsOne_113  σ54 a0)
def b_X10_looksOver_80 (k41 : bl_St → Nat → Int32 → Int32 → Option (Unit × bl_St)) (σ : bl_St) (v0 : Nat) (v1 : Int32) (v2 : Int32) (s0 : Int32) (s1 : Nat) : Option (Unit × bl_St) :=
  bl_gd (bl_bo s0) (
  bl_let (bl_pI σ s1 27 s0) fun σ2 =>
  bl_let (v2 + 1) fun x4 =>
  k41 σ2 v0 v1 x4)
def b_X10_looksOver_75 (k41 : bl_St → Nat → Int32 → Int32 → Option (Unit × bl_St)) (σ : bl_St) (v0 : Nat) (v1 : Int32) (v2 : Int32) (s0 : Nat) : Option (Unit × bl_St) :=
  b_X10_looksOver_80 k41 σ v0 v1 v2 1 s0
def b_X10_looksOver_41 (k29 : bl_St → Nat → Int32 → Option (Unit × bl_St)) (k41 : bl_St → Nat → Int32 → Int32 → Option (Unit × bl_St)) (σ : bl_St) (v0 : Nat) (v1 : Int32) (v2 : Int32) : Option (Unit × bl_St) :=
  if 4 ≤ v2 then (
  bl_let (v1 + 1) fun x7 =>
  k29 σ v0 x7) else (
  if (bl_I σ v0 27) = 0 then (
  bl_gd (bl_in ((5 + (5 * v1)) + v2) 167) (
  if (bl_I σ (bl_R σ v0 2) (Int32.toNatClampNeg ((5 + (5 * v1)) + v2))) < (bl_I σ (bl_R σ v0 2) 0) then (
  b_X10_looksOver_80 k41 σ v0 v1 v2 0 v0) else (
  b_X10_looksOver_75 k41 σ v0 v1 v2 v0))) else (
  b_X10_looksOver_75 k41 σ v0 v1 v2 v0))
def b_X10_looksOver_29 (k29 : bl_St → Nat → Int32 → Option (Unit × bl_St)) (σ : bl_St) (v0 : Nat) (v1 : Int32) : Option (Unit × bl_St) :=
  if (bl_I σ (bl_R σ v0 2) 0) ≤ v1 then (
  some ((), σ)) else (
  bl_fx (fun _ _ _ _ => none) (b_X10_looksOver_41 k29) bl_fu σ v0 v1 1)
def b_X10_looksOver_24 (σ : bl_St) (v0 : Nat) (s0 : Int32) (s1 : Nat) : Option (Unit × bl_St) :=
  bl_gd (bl_bo s0) (
  bl_let (bl_pI σ s1 27 s0) fun σ17 =>
  bl_fx (fun _ _ _ => none) (b_X10_looksOver_29 ) bl_fu σ17 v0 0)
def b_X10_looksOver_19 (σ : bl_St) (v0 : Nat) (s0 : Nat) : Option (Unit × bl_St) :=
  b_X10_looksOver_24  σ v0 1 s0
def f_X10_looksOver (σ : bl_St) (a0 : Nat) : Option (Unit × bl_St) :=
  if (bl_I σ (bl_R σ a0 2) 0) = 0 then (
  b_X10_looksOver_19  σ a0 a0) else (
  if (bl_I σ (bl_R σ a0 2) 1) = 0 then (
  b_X10_looksOver_19  σ a0 a0) else (
  b_X10_looksOver_24  σ a0 0 a0))
def b_X10_text_58 (σ : bl_St) (v0 : Nat) : Option (Int32 × bl_St) :=
  bl_let (bl_pI σ v0 21 0) fun σ1 =>
  if (bl_I σ1 v0 27) = 0 then (
  bl_bd (f_X10_copies σ1 (bl_R σ1 v0 2) (bl_R σ1 v0 1)) fun _ σ7 =>
  bl_let (bl_pI σ7 v0 5 0) fun σ9 =>
  some ((bl_I σ9 (bl_R σ9 v0 1) 0), σ9)) else (
  some (((-4) - (bl_I σ1 v0 25)), σ1))
def b_X10_text_47 (σ : bl_St) (v0 : Nat) : Option (Int32 × bl_St) :=
  if (bl_I σ v0 27) = 0 then (
  bl_bd (f_X10_looksOver σ v0) fun _ σ14 =>
  b_X10_text_58  σ14 v0) else (
  b_X10_text_58  σ v0)
def b_X10_text_26 (k26 : bl_St → Nat → Option (Int32 × bl_St)) (σ : bl_St) (v0 : Nat) : Option (Int32 × bl_St) :=
  if (bl_I σ v0 27) = 0 then (
  if (bl_I σ v0 24) = 0 then (
  b_X10_text_47  σ v0) else (
  bl_bd (f_X10_readsOne σ v0) fun _ σ19 =>
  k26 σ19 v0)) else (
  b_X10_text_47  σ v0)
def f_X10_text (σ : bl_St) (a0 : Nat) : Option (Int32 × bl_St) :=
  bl_bd (f_X10_starts σ (bl_R σ a0 2)) fun _ σ23 =>
  bl_let (bl_pI σ23 a0 23 0) fun σ25 =>
  bl_let (bl_pI σ25 a0 24 3) fun σ27 =>
  bl_let (bl_pI σ27 a0 27 0) fun σ29 =>
  bl_bd (f_X10_goesOn σ29 a0) fun _ σ32 =>
  bl_fx (fun _ _ => none) (b_X10_text_26 ) bl_fu σ32 a0
