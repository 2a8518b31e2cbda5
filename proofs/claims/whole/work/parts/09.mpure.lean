def f_M_isBank (n : Nat) (σ : St) (x1 : Int32) : Option (Int32 × St) :=
  if x1 < 0 then
  some (0, σ)
  else
  if (sI σ 0 0 0) ≤ x1 then
  some (0, σ)
  else
  some (1, σ)

def f_M_isQueued (n : Nat) (σ : St) (x1 : Int32) : Option (Int32 × St) :=
  if x1 < 0 then
  some (0, σ)
  else
  if (sI σ 2 0 0) ≤ x1 then
  some (0, σ)
  else
  if vin x1 100 then
  if (sI σ 9 0 (Int32.toNatClampNeg x1)) = 0 then
  some (1, σ)
  else
  some (0, σ)
  else none

def f_M_before (n : Nat) (σ : St) (x1 : Int32) (x2 : Int32) : Option (Int32 × St) :=
  if vin x1 100 then
  if vin x2 100 then
  if (sI σ 6 0 (Int32.toNatClampNeg x2)) < (sI σ 6 0 (Int32.toNatClampNeg x1)) then
  some (1, σ)
  else
  if vin x1 100 then
  if vin x2 100 then
  if (sI σ 6 0 (Int32.toNatClampNeg x1)) = (sI σ 6 0 (Int32.toNatClampNeg x2)) then
  if vin x1 100 then
  if vin x2 100 then
  if (sI σ 8 0 (Int32.toNatClampNeg x2)) ≤ (sI σ 8 0 (Int32.toNatClampNeg x1)) then
  some (0, σ)
  else
  some (1, σ)
  else none
  else none
  else
  some (0, σ)
  else none
  else none
  else none
  else none

def lp_M_lineUp_2 (n : Nat) (k : St → Option (Unit × St)) : Nat → St → Int32 → Option (Unit × St)
  | 0, _, _ => none
  | fu + 1, σ, v1 =>
  if 4 ≤ v1 then
  k σ
  else
  if vin v1 4 then
  (some (wI σ 11 0 (Int32.toNatClampNeg v1) 0)).bind fun σ2 =>
  lp_M_lineUp_2 n k fu σ2 (v1 + 1)
  else none
theorem lp_M_lineUp_2_s (n : Nat) (k : St → Option (Unit × St)) (fu : Nat) (σ : St) (v1 : Int32) : lp_M_lineUp_2 n k (fu + 1) σ v1 =
  (if 4 ≤ v1 then
  k σ
  else
  if vin v1 4 then
  (some (wI σ 11 0 (Int32.toNatClampNeg v1) 0)).bind fun σ2 =>
  lp_M_lineUp_2 n k fu σ2 (v1 + 1)
  else none) := rfl

def lp_M_lineUp_43 (n : Nat) (k : St → Int32 → Option (Unit × St)) : Nat → St → Int32 → Int32 → Int32 → Option (Unit × St)
  | 0, _, _, _, _ => none
  | fu + 1, σ, v1, v2, v3 =>
  if (sI σ 2 0 0) ≤ v3 then
  k σ v2
  else
  if vin v3 100 then
  if (sI σ 9 0 (Int32.toNatClampNeg v3)) = 0 then
  if vin v3 100 then
  if vin v1 100 then
  if (sI σ 4 0 (Int32.toNatClampNeg v3)) = (sI σ 4 0 (Int32.toNatClampNeg v1)) then
  (f_M_before n σ v3 v1).bind fun o8 =>
  if o8.1 = 0 then
  lp_M_lineUp_43 n k fu o8.2 v1 v2 (v3 + 1)
  else
  lp_M_lineUp_43 n k fu o8.2 v1 (v2 + 1) (v3 + 1)
  else
  lp_M_lineUp_43 n k fu σ v1 v2 (v3 + 1)
  else none
  else none
  else
  lp_M_lineUp_43 n k fu σ v1 v2 (v3 + 1)
  else none
theorem lp_M_lineUp_43_s (n : Nat) (k : St → Int32 → Option (Unit × St)) (fu : Nat) (σ : St) (v1 : Int32) (v2 : Int32) (v3 : Int32) : lp_M_lineUp_43 n k (fu + 1) σ v1 v2 v3 =
  (if (sI σ 2 0 0) ≤ v3 then
  k σ v2
  else
  if vin v3 100 then
  if (sI σ 9 0 (Int32.toNatClampNeg v3)) = 0 then
  if vin v3 100 then
  if vin v1 100 then
  if (sI σ 4 0 (Int32.toNatClampNeg v3)) = (sI σ 4 0 (Int32.toNatClampNeg v1)) then
  (f_M_before n σ v3 v1).bind fun o8 =>
  if o8.1 = 0 then
  lp_M_lineUp_43 n k fu o8.2 v1 v2 (v3 + 1)
  else
  lp_M_lineUp_43 n k fu o8.2 v1 (v2 + 1) (v3 + 1)
  else
  lp_M_lineUp_43 n k fu σ v1 v2 (v3 + 1)
  else none
  else none
  else
  lp_M_lineUp_43 n k fu σ v1 v2 (v3 + 1)
  else none) := rfl

def lp_M_lineUp_22 (n : Nat) (k : St → Option (Unit × St)) : Nat → St → Int32 → Option (Unit × St)
  | 0, _, _ => none
  | fu + 1, σ, v1 =>
  if (sI σ 2 0 0) ≤ v1 then
  k σ
  else
  if vin v1 100 then
  if (sI σ 9 0 (Int32.toNatClampNeg v1)) = 0 then
  lp_M_lineUp_43 n (fun σ10 y2_9 =>
  if vin v1 100 then
  if vin ((6 * (sI σ10 4 0 (Int32.toNatClampNeg v1))) + y2_9) 24 then
  (some (wI σ10 10 0 (Int32.toNatClampNeg ((6 * (sI σ10 4 0 (Int32.toNatClampNeg v1))) + y2_9)) v1)).bind fun σ13 =>
  if vin v1 100 then
  if vin v1 100 then
  if vin (sI σ13 4 0 (Int32.toNatClampNeg v1)) 4 then
  if vin (sI σ13 4 0 (Int32.toNatClampNeg v1)) 4 then
  (some (wI σ13 11 0 (Int32.toNatClampNeg (sI σ13 4 0 (Int32.toNatClampNeg v1))) ((sI σ13 11 0 (Int32.toNatClampNeg (sI σ13 4 0 (Int32.toNatClampNeg v1)))) + 1))).bind fun σ18 =>
  lp_M_lineUp_22 n k fu σ18 (v1 + 1)
  else none
  else none
  else none
  else none
  else none
  else none) 1000 σ v1 0 0
  else
  lp_M_lineUp_22 n k fu σ (v1 + 1)
  else none
theorem lp_M_lineUp_22_s (n : Nat) (k : St → Option (Unit × St)) (fu : Nat) (σ : St) (v1 : Int32) : lp_M_lineUp_22 n k (fu + 1) σ v1 =
  (if (sI σ 2 0 0) ≤ v1 then
  k σ
  else
  if vin v1 100 then
  if (sI σ 9 0 (Int32.toNatClampNeg v1)) = 0 then
  lp_M_lineUp_43 n (fun σ10 y2_9 =>
  if vin v1 100 then
  if vin ((6 * (sI σ10 4 0 (Int32.toNatClampNeg v1))) + y2_9) 24 then
  (some (wI σ10 10 0 (Int32.toNatClampNeg ((6 * (sI σ10 4 0 (Int32.toNatClampNeg v1))) + y2_9)) v1)).bind fun σ13 =>
  if vin v1 100 then
  if vin v1 100 then
  if vin (sI σ13 4 0 (Int32.toNatClampNeg v1)) 4 then
  if vin (sI σ13 4 0 (Int32.toNatClampNeg v1)) 4 then
  (some (wI σ13 11 0 (Int32.toNatClampNeg (sI σ13 4 0 (Int32.toNatClampNeg v1))) ((sI σ13 11 0 (Int32.toNatClampNeg (sI σ13 4 0 (Int32.toNatClampNeg v1)))) + 1))).bind fun σ18 =>
  lp_M_lineUp_22 n k fu σ18 (v1 + 1)
  else none
  else none
  else none
  else none
  else none
  else none) 1000 σ v1 0 0
  else
  lp_M_lineUp_22 n k fu σ (v1 + 1)
  else none) := rfl

def f_M_lineUp (n : Nat) (σ : St)  : Option (Unit × St) :=
  lp_M_lineUp_2 n (fun σ3 =>
  lp_M_lineUp_22 n (fun σ19 =>
  some ((), σ19)) 1000 σ3 0) 1000 σ 0

def lp_M_now0_2 (n : Nat) (k : St → Option (Unit × St)) : Nat → St → Int32 → Option (Unit × St)
  | 0, _, _ => none
  | fu + 1, σ, v1 =>
  if 4 ≤ v1 then
  k σ
  else
  if vin v1 4 then
  if vin v1 4 then
  (some (wL σ 7 0 (Int32.toNatClampNeg v1) (sL σ 1 0 (Int32.toNatClampNeg v1)))).bind fun σ3 =>
  lp_M_now0_2 n k fu σ3 (v1 + 1)
  else none
  else none
theorem lp_M_now0_2_s (n : Nat) (k : St → Option (Unit × St)) (fu : Nat) (σ : St) (v1 : Int32) : lp_M_now0_2 n k (fu + 1) σ v1 =
  (if 4 ≤ v1 then
  k σ
  else
  if vin v1 4 then
  if vin v1 4 then
  (some (wL σ 7 0 (Int32.toNatClampNeg v1) (sL σ 1 0 (Int32.toNatClampNeg v1)))).bind fun σ3 =>
  lp_M_now0_2 n k fu σ3 (v1 + 1)
  else none
  else none) := rfl

def lp_M_now0_27 (n : Nat) (k : St → Option (Unit × St)) : Nat → St → Int32 → Option (Unit × St)
  | 0, _, _ => none
  | fu + 1, σ, v1 =>
  if 16 ≤ v1 then
  k σ
  else
  if vin v1 16 then
  if vin v1 16 then
  (some (wL σ 8 0 (Int32.toNatClampNeg v1) (sL σ 5 0 (Int32.toNatClampNeg v1)))).bind fun σ7 =>
  lp_M_now0_27 n k fu σ7 (v1 + 1)
  else none
  else none
theorem lp_M_now0_27_s (n : Nat) (k : St → Option (Unit × St)) (fu : Nat) (σ : St) (v1 : Int32) : lp_M_now0_27 n k (fu + 1) σ v1 =
  (if 16 ≤ v1 then
  k σ
  else
  if vin v1 16 then
  if vin v1 16 then
  (some (wL σ 8 0 (Int32.toNatClampNeg v1) (sL σ 5 0 (Int32.toNatClampNeg v1)))).bind fun σ7 =>
  lp_M_now0_27 n k fu σ7 (v1 + 1)
  else none
  else none) := rfl

def f_M_now0 (n : Nat) (σ : St)  : Option (Unit × St) :=
  lp_M_now0_2 n (fun σ4 =>
  lp_M_now0_27 n (fun σ8 =>
  some ((), σ8)) 1000 σ4 0) 1000 σ 0

def f_M_plan (n : Nat) (σ : St) (x1 : Int32) : Option (Unit × St) :=
  if vin x1 100 then
  if vin x1 100 then
  if vin (sI σ 4 0 (Int32.toNatClampNeg x1)) 4 then
  if vin x1 100 then
  if vin (sI σ 4 0 (Int32.toNatClampNeg x1)) 4 then
  (some (wL σ 7 0 (Int32.toNatClampNeg (sI σ 4 0 (Int32.toNatClampNeg x1))) ((sL σ 7 0 (Int32.toNatClampNeg (sI σ 4 0 (Int32.toNatClampNeg x1)))) - (sL σ 6 0 (Int32.toNatClampNeg x1))))).bind fun σ6 =>
  if vin x1 100 then
  if vin x1 100 then
  if vin (sI σ6 5 0 (Int32.toNatClampNeg x1)) 4 then
  if vin x1 100 then
  if vin (sI σ6 5 0 (Int32.toNatClampNeg x1)) 4 then
  (some (wL σ6 7 0 (Int32.toNatClampNeg (sI σ6 5 0 (Int32.toNatClampNeg x1))) ((sL σ6 7 0 (Int32.toNatClampNeg (sI σ6 5 0 (Int32.toNatClampNeg x1)))) + (sL σ6 6 0 (Int32.toNatClampNeg x1))))).bind fun σ12 =>
  if vin x1 100 then
  if vin x1 100 then
  if vin ((4 * (sI σ12 4 0 (Int32.toNatClampNeg x1))) + (sI σ12 5 0 (Int32.toNatClampNeg x1))) 16 then
  if vin x1 100 then
  if vin ((4 * (sI σ12 4 0 (Int32.toNatClampNeg x1))) + (sI σ12 5 0 (Int32.toNatClampNeg x1))) 16 then
  (some (wL σ12 8 0 (Int32.toNatClampNeg ((4 * (sI σ12 4 0 (Int32.toNatClampNeg x1))) + (sI σ12 5 0 (Int32.toNatClampNeg x1)))) ((sL σ12 8 0 (Int32.toNatClampNeg ((4 * (sI σ12 4 0 (Int32.toNatClampNeg x1))) + (sI σ12 5 0 (Int32.toNatClampNeg x1))))) + (sL σ12 6 0 (Int32.toNatClampNeg x1))))).bind fun σ18 =>
  some ((), σ18)
  else none
  else none
  else none
  else none
  else none
  else none
  else none
  else none
  else none
  else none
  else none
  else none
  else none
  else none
  else none

def lp_M_allWell_15 (n : Nat) (k : St → Int64 → Option (Int32 × St)) : Nat → St → Int32 → Int64 → Int32 → Option (Int32 × St)
  | 0, _, _, _, _ => none
  | fu + 1, σ, v1, v2, v4 =>
  if (sI σ 0 0 0) ≤ v4 then
  k σ v2
  else
  if vin ((4 * v1) + v4) 16 then
  if vin ((4 * v4) + v1) 16 then
  if vin ((4 * v1) + v4) 16 then
  if (sL σ 4 0 (Int32.toNatClampNeg ((4 * v1) + v4))) < 0 then
  lp_M_allWell_15 n k fu σ v1 (v2 + ((sL σ 8 0 (Int32.toNatClampNeg ((4 * v1) + v4))) - (sL σ 8 0 (Int32.toNatClampNeg ((4 * v4) + v1))))) (v4 + 1)
  else
  if vin ((4 * v1) + v4) 16 then
  if ((sL σ 8 0 (Int32.toNatClampNeg ((4 * v1) + v4))) - (sL σ 8 0 (Int32.toNatClampNeg ((4 * v4) + v1)))) ≤ (sL σ 4 0 (Int32.toNatClampNeg ((4 * v1) + v4))) then
  lp_M_allWell_15 n k fu σ v1 (v2 + ((sL σ 8 0 (Int32.toNatClampNeg ((4 * v1) + v4))) - (sL σ 8 0 (Int32.toNatClampNeg ((4 * v4) + v1))))) (v4 + 1)
  else
  some (0, σ)
  else none
  else none
  else none
  else none
theorem lp_M_allWell_15_s (n : Nat) (k : St → Int64 → Option (Int32 × St)) (fu : Nat) (σ : St) (v1 : Int32) (v2 : Int64) (v4 : Int32) : lp_M_allWell_15 n k (fu + 1) σ v1 v2 v4 =
  (if (sI σ 0 0 0) ≤ v4 then
  k σ v2
  else
  if vin ((4 * v1) + v4) 16 then
  if vin ((4 * v4) + v1) 16 then
  if vin ((4 * v1) + v4) 16 then
  if (sL σ 4 0 (Int32.toNatClampNeg ((4 * v1) + v4))) < 0 then
  lp_M_allWell_15 n k fu σ v1 (v2 + ((sL σ 8 0 (Int32.toNatClampNeg ((4 * v1) + v4))) - (sL σ 8 0 (Int32.toNatClampNeg ((4 * v4) + v1))))) (v4 + 1)
  else
  if vin ((4 * v1) + v4) 16 then
  if ((sL σ 8 0 (Int32.toNatClampNeg ((4 * v1) + v4))) - (sL σ 8 0 (Int32.toNatClampNeg ((4 * v4) + v1)))) ≤ (sL σ 4 0 (Int32.toNatClampNeg ((4 * v1) + v4))) then
  lp_M_allWell_15 n k fu σ v1 (v2 + ((sL σ 8 0 (Int32.toNatClampNeg ((4 * v1) + v4))) - (sL σ 8 0 (Int32.toNatClampNeg ((4 * v4) + v1))))) (v4 + 1)
  else
  some (0, σ)
  else none
  else none
  else none
  else none) := rfl

def lp_M_allWell_2 (n : Nat) (k : St → Option (Int32 × St)) : Nat → St → Int32 → Option (Int32 × St)
  | 0, _, _ => none
  | fu + 1, σ, v1 =>
  if (sI σ 0 0 0) ≤ v1 then
  k σ
  else
  lp_M_allWell_15 n (fun σ6 y2_5 =>
  if vin v1 4 then
  if vin v1 4 then
  if (sL σ6 7 0 (Int32.toNatClampNeg v1)) < (-(sL σ6 2 0 (Int32.toNatClampNeg v1))) then
  some (0, σ6)
  else
  if vin v1 4 then
  if (sL σ6 3 0 (Int32.toNatClampNeg v1)) < 0 then
  lp_M_allWell_2 n k fu σ6 (v1 + 1)
  else
  if vin v1 4 then
  if y2_5 ≤ (sL σ6 3 0 (Int32.toNatClampNeg v1)) then
  lp_M_allWell_2 n k fu σ6 (v1 + 1)
  else
  some (0, σ6)
  else none
  else none
  else none
  else none) 1000 σ v1 0 0
theorem lp_M_allWell_2_s (n : Nat) (k : St → Option (Int32 × St)) (fu : Nat) (σ : St) (v1 : Int32) : lp_M_allWell_2 n k (fu + 1) σ v1 =
  (if (sI σ 0 0 0) ≤ v1 then
  k σ
  else
  lp_M_allWell_15 n (fun σ6 y2_5 =>
  if vin v1 4 then
  if vin v1 4 then
  if (sL σ6 7 0 (Int32.toNatClampNeg v1)) < (-(sL σ6 2 0 (Int32.toNatClampNeg v1))) then
  some (0, σ6)
  else
  if vin v1 4 then
  if (sL σ6 3 0 (Int32.toNatClampNeg v1)) < 0 then
  lp_M_allWell_2 n k fu σ6 (v1 + 1)
  else
  if vin v1 4 then
  if y2_5 ≤ (sL σ6 3 0 (Int32.toNatClampNeg v1)) then
  lp_M_allWell_2 n k fu σ6 (v1 + 1)
  else
  some (0, σ6)
  else none
  else none
  else none
  else none) 1000 σ v1 0 0) := rfl

def f_M_allWell (n : Nat) (σ : St)  : Option (Int32 × St) :=
  lp_M_allWell_2 n (fun σ11 =>
  some (1, σ11)) 1000 σ 0

def f_M_ready (n : Nat) (σ : St) (x1 : Int32) (x2 : Int32) : Option (Int32 × St) :=
  (f_M_now0 n σ).bind fun o1 =>
  (f_M_plan n o1.2 x1).bind fun o2 =>
  if x2 < 0 then
  (f_M_allWell n o2.2).bind fun o3 =>
  if o3.1 = 0 ∨ o3.1 = 1 then
  some (o3.1, o3.2)
  else none
  else
  (f_M_plan n o2.2 x2).bind fun o4 =>
  (f_M_allWell n o4.2).bind fun o5 =>
  if o5.1 = 0 ∨ o5.1 = 1 then
  some (o5.1, o5.2)
  else none

def f_M_settle (n : Nat) (σ : St) (x1 : Int32) (x2 : Int32) : Option (Unit × St) :=
  if vin x1 100 then
  if vin x1 100 then
  if vin x1 100 then
  if vin x1 100 then
  if vin (sI σ 4 0 (Int32.toNatClampNeg x1)) 4 then
  if vin x1 100 then
  if vin (sI σ 4 0 (Int32.toNatClampNeg x1)) 4 then
  (some (wL σ 1 0 (Int32.toNatClampNeg (sI σ 4 0 (Int32.toNatClampNeg x1))) ((sL σ 1 0 (Int32.toNatClampNeg (sI σ 4 0 (Int32.toNatClampNeg x1)))) - (sL σ 6 0 (Int32.toNatClampNeg x1))))).bind fun σ8 =>
  if vin x1 100 then
  if vin x1 100 then
  if vin (sI σ8 5 0 (Int32.toNatClampNeg x1)) 4 then
  if vin x1 100 then
  if vin (sI σ8 5 0 (Int32.toNatClampNeg x1)) 4 then
  (some (wL σ8 1 0 (Int32.toNatClampNeg (sI σ8 5 0 (Int32.toNatClampNeg x1))) ((sL σ8 1 0 (Int32.toNatClampNeg (sI σ8 5 0 (Int32.toNatClampNeg x1)))) + (sL σ8 6 0 (Int32.toNatClampNeg x1))))).bind fun σ14 =>
  if vin ((4 * (sI σ 4 0 (Int32.toNatClampNeg x1))) + (sI σ 5 0 (Int32.toNatClampNeg x1))) 16 then
  if vin x1 100 then
  if vin ((4 * (sI σ 4 0 (Int32.toNatClampNeg x1))) + (sI σ 5 0 (Int32.toNatClampNeg x1))) 16 then
  (some (wL σ14 5 0 (Int32.toNatClampNeg ((4 * (sI σ 4 0 (Int32.toNatClampNeg x1))) + (sI σ 5 0 (Int32.toNatClampNeg x1)))) ((sL σ14 5 0 (Int32.toNatClampNeg ((4 * (sI σ 4 0 (Int32.toNatClampNeg x1))) + (sI σ 5 0 (Int32.toNatClampNeg x1))))) + (sL σ14 6 0 (Int32.toNatClampNeg x1))))).bind fun σ18 =>
  if vin x1 100 then
  (some (wL σ18 0 0 0 ((sL σ18 0 0 0) + (sL σ18 6 0 (Int32.toNatClampNeg x1))))).bind fun σ20 =>
  if vin x1 100 then
  (some (wI σ20 9 0 (Int32.toNatClampNeg x1) x2)).bind fun σ22 =>
  some ((), σ22)
  else none
  else none
  else none
  else none
  else none
  else none
  else none
  else none
  else none
  else none
  else none
  else none
  else none
  else none
  else none
  else none
  else none

def lp_M_alone_2 (n : Nat) (k : St → Option (Int32 × St)) : Nat → St → Int32 → Option (Int32 × St)
  | 0, _, _ => none
  | fu + 1, σ, v1 =>
  if (sI σ 0 0 0) ≤ v1 then
  k σ
  else
  if vin v1 4 then
  if (sI σ 11 0 (Int32.toNatClampNeg v1)) ≤ 0 then
  lp_M_alone_2 n k fu σ (v1 + 1)
  else
  if vin (6 * v1) 24 then
  (f_M_ready n σ (sI σ 10 0 (Int32.toNatClampNeg (6 * v1))) (-1)).bind fun o3 =>
  if o3.1 = 0 then
  lp_M_alone_2 n k fu o3.2 (v1 + 1)
  else
  if vin (6 * v1) 24 then
  (f_M_settle n o3.2 (sI o3.2 10 0 (Int32.toNatClampNeg (6 * v1))) 1).bind fun o5 =>
  some (1, o5.2)
  else none
  else none
  else none
theorem lp_M_alone_2_s (n : Nat) (k : St → Option (Int32 × St)) (fu : Nat) (σ : St) (v1 : Int32) : lp_M_alone_2 n k (fu + 1) σ v1 =
  (if (sI σ 0 0 0) ≤ v1 then
  k σ
  else
  if vin v1 4 then
  if (sI σ 11 0 (Int32.toNatClampNeg v1)) ≤ 0 then
  lp_M_alone_2 n k fu σ (v1 + 1)
  else
  if vin (6 * v1) 24 then
  (f_M_ready n σ (sI σ 10 0 (Int32.toNatClampNeg (6 * v1))) (-1)).bind fun o3 =>
  if o3.1 = 0 then
  lp_M_alone_2 n k fu o3.2 (v1 + 1)
  else
  if vin (6 * v1) 24 then
  (f_M_settle n o3.2 (sI o3.2 10 0 (Int32.toNatClampNeg (6 * v1))) 1).bind fun o5 =>
  some (1, o5.2)
  else none
  else none
  else none) := rfl

def f_M_alone (n : Nat) (σ : St)  : Option (Int32 × St) :=
  lp_M_alone_2 n (fun σ6 =>
  some (0, σ6)) 1000 σ 0

def lp_M_pair_14 (n : Nat) (k : St → Option (Int32 × St)) : Nat → St → Int32 → Int32 → Option (Int32 × St)
  | 0, _, _, _ => none
  | fu + 1, σ, v1, v2 =>
  if (sI σ 0 0 0) ≤ v2 then
  k σ
  else
  if vin v1 4 then
  if (sI σ 11 0 (Int32.toNatClampNeg v1)) ≤ 0 then
  lp_M_pair_14 n k fu σ v1 (v2 + 1)
  else
  if vin v2 4 then
  if (sI σ 11 0 (Int32.toNatClampNeg v2)) ≤ 0 then
  lp_M_pair_14 n k fu σ v1 (v2 + 1)
  else
  if vin (6 * v1) 24 then
  if vin (sI σ 10 0 (Int32.toNatClampNeg (6 * v1))) 100 then
  if (sI σ 5 0 (Int32.toNatClampNeg (sI σ 10 0 (Int32.toNatClampNeg (6 * v1))))) = v2 then
  if vin (6 * v2) 24 then
  if vin (sI σ 10 0 (Int32.toNatClampNeg (6 * v2))) 100 then
  if (sI σ 5 0 (Int32.toNatClampNeg (sI σ 10 0 (Int32.toNatClampNeg (6 * v2))))) = v1 then
  if vin (6 * v1) 24 then
  if vin (6 * v2) 24 then
  (f_M_ready n σ (sI σ 10 0 (Int32.toNatClampNeg (6 * v1))) (sI σ 10 0 (Int32.toNatClampNeg (6 * v2)))).bind fun o9 =>
  if o9.1 = 0 then
  lp_M_pair_14 n k fu o9.2 v1 (v2 + 1)
  else
  if vin (6 * v1) 24 then
  (f_M_settle n o9.2 (sI o9.2 10 0 (Int32.toNatClampNeg (6 * v1))) 2).bind fun o11 =>
  if vin (6 * v2) 24 then
  (f_M_settle n o11.2 (sI o11.2 10 0 (Int32.toNatClampNeg (6 * v2))) 2).bind fun o13 =>
  some (1, o13.2)
  else none
  else none
  else none
  else none
  else
  lp_M_pair_14 n k fu σ v1 (v2 + 1)
  else none
  else none
  else
  lp_M_pair_14 n k fu σ v1 (v2 + 1)
  else none
  else none
  else none
  else none
theorem lp_M_pair_14_s (n : Nat) (k : St → Option (Int32 × St)) (fu : Nat) (σ : St) (v1 : Int32) (v2 : Int32) : lp_M_pair_14 n k (fu + 1) σ v1 v2 =
  (if (sI σ 0 0 0) ≤ v2 then
  k σ
  else
  if vin v1 4 then
  if (sI σ 11 0 (Int32.toNatClampNeg v1)) ≤ 0 then
  lp_M_pair_14 n k fu σ v1 (v2 + 1)
  else
  if vin v2 4 then
  if (sI σ 11 0 (Int32.toNatClampNeg v2)) ≤ 0 then
  lp_M_pair_14 n k fu σ v1 (v2 + 1)
  else
  if vin (6 * v1) 24 then
  if vin (sI σ 10 0 (Int32.toNatClampNeg (6 * v1))) 100 then
  if (sI σ 5 0 (Int32.toNatClampNeg (sI σ 10 0 (Int32.toNatClampNeg (6 * v1))))) = v2 then
  if vin (6 * v2) 24 then
  if vin (sI σ 10 0 (Int32.toNatClampNeg (6 * v2))) 100 then
  if (sI σ 5 0 (Int32.toNatClampNeg (sI σ 10 0 (Int32.toNatClampNeg (6 * v2))))) = v1 then
  if vin (6 * v1) 24 then
  if vin (6 * v2) 24 then
  (f_M_ready n σ (sI σ 10 0 (Int32.toNatClampNeg (6 * v1))) (sI σ 10 0 (Int32.toNatClampNeg (6 * v2)))).bind fun o9 =>
  if o9.1 = 0 then
  lp_M_pair_14 n k fu o9.2 v1 (v2 + 1)
  else
  if vin (6 * v1) 24 then
  (f_M_settle n o9.2 (sI o9.2 10 0 (Int32.toNatClampNeg (6 * v1))) 2).bind fun o11 =>
  if vin (6 * v2) 24 then
  (f_M_settle n o11.2 (sI o11.2 10 0 (Int32.toNatClampNeg (6 * v2))) 2).bind fun o13 =>
  some (1, o13.2)
  else none
  else none
  else none
  else none
  else
  lp_M_pair_14 n k fu σ v1 (v2 + 1)
  else none
  else none
  else
  lp_M_pair_14 n k fu σ v1 (v2 + 1)
  else none
  else none
  else none
  else none) := rfl

def lp_M_pair_2 (n : Nat) (k : St → Option (Int32 × St)) : Nat → St → Int32 → Option (Int32 × St)
  | 0, _, _ => none
  | fu + 1, σ, v1 =>
  if (sI σ 0 0 0) ≤ v1 then
  k σ
  else
  lp_M_pair_14 n (fun σ14 =>
  lp_M_pair_2 n k fu σ14 (v1 + 1)) 1000 σ v1 (v1 + 1)
theorem lp_M_pair_2_s (n : Nat) (k : St → Option (Int32 × St)) (fu : Nat) (σ : St) (v1 : Int32) : lp_M_pair_2 n k (fu + 1) σ v1 =
  (if (sI σ 0 0 0) ≤ v1 then
  k σ
  else
  lp_M_pair_14 n (fun σ14 =>
  lp_M_pair_2 n k fu σ14 (v1 + 1)) 1000 σ v1 (v1 + 1)) := rfl

def f_M_pair (n : Nat) (σ : St)  : Option (Int32 × St) :=
  lp_M_pair_2 n (fun σ15 =>
  some (0, σ15)) 1000 σ 0

def lp_M_sweep_4 (n : Nat) (k : St → Option (Unit × St)) : Nat → St → Int32 → Int32 → Option (Unit × St)
  | 0, _, _, _ => none
  | fu + 1, σ, v1, v2 =>
  if 200 ≤ v2 then
  k σ
  else
  if v1 = 0 then
  k σ
  else
  (f_M_lineUp n σ).bind fun o1 =>
  (f_M_alone n o1.2).bind fun o2 =>
  if o2.1 = 0 then
  (f_M_pair n o2.2).bind fun o3 =>
  if o3.1 = 0 then
  lp_M_sweep_4 n k fu o3.2 0 (v2 + 1)
  else
  lp_M_sweep_4 n k fu o3.2 1 (v2 + 1)
  else
  lp_M_sweep_4 n k fu o2.2 1 (v2 + 1)
theorem lp_M_sweep_4_s (n : Nat) (k : St → Option (Unit × St)) (fu : Nat) (σ : St) (v1 : Int32) (v2 : Int32) : lp_M_sweep_4 n k (fu + 1) σ v1 v2 =
  (if 200 ≤ v2 then
  k σ
  else
  if v1 = 0 then
  k σ
  else
  (f_M_lineUp n σ).bind fun o1 =>
  (f_M_alone n o1.2).bind fun o2 =>
  if o2.1 = 0 then
  (f_M_pair n o2.2).bind fun o3 =>
  if o3.1 = 0 then
  lp_M_sweep_4 n k fu o3.2 0 (v2 + 1)
  else
  lp_M_sweep_4 n k fu o3.2 1 (v2 + 1)
  else
  lp_M_sweep_4 n k fu o2.2 1 (v2 + 1)) := rfl

def f_M_sweep (n : Nat) (σ : St)  : Option (Unit × St) :=
  lp_M_sweep_4 n (fun σ4 =>
  some ((), σ4)) 1000 σ 1 0

def lp_M_digit_4 (n : Nat) (k : St → Int32 → Option (Int32 × St)) : Nat → St → Int32 → Int32 → Int32 → Option (Int32 × St)
  | 0, _, _, _, _ => none
  | fu + 1, σ, v1, v2, v3 =>
  if v1 ≤ v3 then
  k σ v2
  else
  lp_M_digit_4 n k fu σ v1 (v2 / 7) (v3 + 1)
theorem lp_M_digit_4_s (n : Nat) (k : St → Int32 → Option (Int32 × St)) (fu : Nat) (σ : St) (v1 : Int32) (v2 : Int32) (v3 : Int32) : lp_M_digit_4 n k (fu + 1) σ v1 v2 v3 =
  (if v1 ≤ v3 then
  k σ v2
  else
  lp_M_digit_4 n k fu σ v1 (v2 / 7) (v3 + 1)) := rfl

def f_M_digit (n : Nat) (σ : St) (x1 : Int32) (x2 : Int32) : Option (Int32 × St) :=
  lp_M_digit_4 n (fun σ2 y2_1 =>
  some (y2_1 - y2_1 / 7 * 7, σ2)) 1000 σ x2 x1 0

def lp_M_good_32 (n : Nat) (k : St → Option (Int32 × St)) : Nat → St → Int32 → Int32 → Int32 → Int32 → Option (Int32 × St)
  | 0, _, _, _, _, _ => none
  | fu + 1, σ, v1, v2, v3, v4 =>
  if v3 ≤ v4 then
  k σ
  else
  if vin ((6 * v2) + v4) 24 then
  (f_M_plan n σ (sI σ 10 0 (Int32.toNatClampNeg ((6 * v2) + v4)))).bind fun o5 =>
  lp_M_good_32 n k fu o5.2 v1 v2 v3 (v4 + 1)
  else none
theorem lp_M_good_32_s (n : Nat) (k : St → Option (Int32 × St)) (fu : Nat) (σ : St) (v1 : Int32) (v2 : Int32) (v3 : Int32) (v4 : Int32) : lp_M_good_32 n k (fu + 1) σ v1 v2 v3 v4 =
  (if v3 ≤ v4 then
  k σ
  else
  if vin ((6 * v2) + v4) 24 then
  (f_M_plan n σ (sI σ 10 0 (Int32.toNatClampNeg ((6 * v2) + v4)))).bind fun o5 =>
  lp_M_good_32 n k fu o5.2 v1 v2 v3 (v4 + 1)
  else none) := rfl

def lp_M_good_6 (n : Nat) (k : St → Option (Int32 × St)) : Nat → St → Int32 → Int32 → Option (Int32 × St)
  | 0, _, _, _ => none
  | fu + 1, σ, v1, v2 =>
  if 4 ≤ v2 then
  k σ
  else
  (f_M_digit n σ v1 v2).bind fun o2 =>
  if vin v2 4 then
  if o2.1 ≤ (sI o2.2 11 0 (Int32.toNatClampNeg v2)) then
  lp_M_good_32 n (fun σ6 =>
  lp_M_good_6 n k fu σ6 v1 (v2 + 1)) 1000 o2.2 v1 v2 o2.1 0
  else
  some (0, o2.2)
  else none
theorem lp_M_good_6_s (n : Nat) (k : St → Option (Int32 × St)) (fu : Nat) (σ : St) (v1 : Int32) (v2 : Int32) : lp_M_good_6 n k (fu + 1) σ v1 v2 =
  (if 4 ≤ v2 then
  k σ
  else
  (f_M_digit n σ v1 v2).bind fun o2 =>
  if vin v2 4 then
  if o2.1 ≤ (sI o2.2 11 0 (Int32.toNatClampNeg v2)) then
  lp_M_good_32 n (fun σ6 =>
  lp_M_good_6 n k fu σ6 v1 (v2 + 1)) 1000 o2.2 v1 v2 o2.1 0
  else
  some (0, o2.2)
  else none) := rfl

def f_M_good (n : Nat) (σ : St) (x1 : Int32) : Option (Int32 × St) :=
  (f_M_now0 n σ).bind fun o1 =>
  lp_M_good_6 n (fun σ7 =>
  (f_M_allWell n σ7).bind fun o8 =>
  if o8.1 = 0 ∨ o8.1 = 1 then
  some (o8.1, o8.2)
  else none) 1000 o1.2 x1 0

def lp_M_resolve_6 (n : Nat) (k : St → Option (Int32 × St)) : Nat → St → Int32 → Option (Int32 × St)
  | 0, _, _ => none
  | fu + 1, σ, v1 =>
  if 4 ≤ v1 then
  k σ
  else
  if vin v1 4 then
  (some (wI σ 12 0 (Int32.toNatClampNeg v1) 0)).bind fun σ3 =>
  lp_M_resolve_6 n k fu σ3 (v1 + 1)
  else none
theorem lp_M_resolve_6_s (n : Nat) (k : St → Option (Int32 × St)) (fu : Nat) (σ : St) (v1 : Int32) : lp_M_resolve_6 n k (fu + 1) σ v1 =
  (if 4 ≤ v1 then
  k σ
  else
  if vin v1 4 then
  (some (wI σ 12 0 (Int32.toNatClampNeg v1) 0)).bind fun σ3 =>
  lp_M_resolve_6 n k fu σ3 (v1 + 1)
  else none) := rfl

def lp_M_resolve_43 (n : Nat) (k : St → Option (Int32 × St)) : Nat → St → Int32 → Int32 → Option (Int32 × St)
  | 0, _, _, _ => none
  | fu + 1, σ, v1, v2 =>
  if 4 ≤ v2 then
  k σ
  else
  (f_M_digit n σ v1 v2).bind fun o6 =>
  if vin v2 4 then
  if o6.1 ≤ (sI o6.2 12 0 (Int32.toNatClampNeg v2)) then
  if vin v2 4 then
  if vin v2 4 then
  (some (wI o6.2 12 0 (Int32.toNatClampNeg v2) (sI o6.2 12 0 (Int32.toNatClampNeg v2)))).bind fun σ10 =>
  lp_M_resolve_43 n k fu σ10 v1 (v2 + 1)
  else none
  else none
  else
  if vin v2 4 then
  (some (wI o6.2 12 0 (Int32.toNatClampNeg v2) o6.1)).bind fun σ12 =>
  lp_M_resolve_43 n k fu σ12 v1 (v2 + 1)
  else none
  else none
theorem lp_M_resolve_43_s (n : Nat) (k : St → Option (Int32 × St)) (fu : Nat) (σ : St) (v1 : Int32) (v2 : Int32) : lp_M_resolve_43 n k (fu + 1) σ v1 v2 =
  (if 4 ≤ v2 then
  k σ
  else
  (f_M_digit n σ v1 v2).bind fun o6 =>
  if vin v2 4 then
  if o6.1 ≤ (sI o6.2 12 0 (Int32.toNatClampNeg v2)) then
  if vin v2 4 then
  if vin v2 4 then
  (some (wI o6.2 12 0 (Int32.toNatClampNeg v2) (sI o6.2 12 0 (Int32.toNatClampNeg v2)))).bind fun σ10 =>
  lp_M_resolve_43 n k fu σ10 v1 (v2 + 1)
  else none
  else none
  else
  if vin v2 4 then
  (some (wI o6.2 12 0 (Int32.toNatClampNeg v2) o6.1)).bind fun σ12 =>
  lp_M_resolve_43 n k fu σ12 v1 (v2 + 1)
  else none
  else none) := rfl

def lp_M_resolve_26 (n : Nat) (k : St → Option (Int32 × St)) : Nat → St → Int32 → Option (Int32 × St)
  | 0, _, _ => none
  | fu + 1, σ, v1 =>
  if 2401 ≤ v1 then
  k σ
  else
  (f_M_good n σ v1).bind fun o5 =>
  if o5.1 = 0 then
  lp_M_resolve_26 n k fu o5.2 (v1 + 1)
  else
  lp_M_resolve_43 n (fun σ13 =>
  lp_M_resolve_26 n k fu σ13 (v1 + 1)) 3000 o5.2 v1 0
theorem lp_M_resolve_26_s (n : Nat) (k : St → Option (Int32 × St)) (fu : Nat) (σ : St) (v1 : Int32) : lp_M_resolve_26 n k (fu + 1) σ v1 =
  (if 2401 ≤ v1 then
  k σ
  else
  (f_M_good n σ v1).bind fun o5 =>
  if o5.1 = 0 then
  lp_M_resolve_26 n k fu o5.2 (v1 + 1)
  else
  lp_M_resolve_43 n (fun σ13 =>
  lp_M_resolve_26 n k fu σ13 (v1 + 1)) 3000 o5.2 v1 0) := rfl

def lp_M_resolve_103 (n : Nat) (k : St → Int32 → Option (Int32 × St)) : Nat → St → Int32 → Int32 → Int32 → Option (Int32 × St)
  | 0, _, _, _, _ => none
  | fu + 1, σ, v1, v2, v3 =>
  if vin v2 4 then
  if (sI σ 12 0 (Int32.toNatClampNeg v2)) ≤ v3 then
  k σ v1
  else
  if vin ((6 * v2) + v3) 24 then
  (f_M_settle n σ (sI σ 10 0 (Int32.toNatClampNeg ((6 * v2) + v3))) 3).bind fun o17 =>
  lp_M_resolve_103 n k fu o17.2 (v1 + 1) v2 (v3 + 1)
  else none
  else none
theorem lp_M_resolve_103_s (n : Nat) (k : St → Int32 → Option (Int32 × St)) (fu : Nat) (σ : St) (v1 : Int32) (v2 : Int32) (v3 : Int32) : lp_M_resolve_103 n k (fu + 1) σ v1 v2 v3 =
  (if vin v2 4 then
  if (sI σ 12 0 (Int32.toNatClampNeg v2)) ≤ v3 then
  k σ v1
  else
  if vin ((6 * v2) + v3) 24 then
  (f_M_settle n σ (sI σ 10 0 (Int32.toNatClampNeg ((6 * v2) + v3))) 3).bind fun o17 =>
  lp_M_resolve_103 n k fu o17.2 (v1 + 1) v2 (v3 + 1)
  else none
  else none) := rfl

def lp_M_resolve_96 (n : Nat) (k : St → Int32 → Option (Int32 × St)) : Nat → St → Int32 → Int32 → Option (Int32 × St)
  | 0, _, _, _ => none
  | fu + 1, σ, v1, v2 =>
  if 4 ≤ v2 then
  k σ v1
  else
  lp_M_resolve_103 n (fun σ19 y1_18 =>
  lp_M_resolve_96 n k fu σ19 y1_18 (v2 + 1)) 3000 σ v1 v2 0
theorem lp_M_resolve_96_s (n : Nat) (k : St → Int32 → Option (Int32 × St)) (fu : Nat) (σ : St) (v1 : Int32) (v2 : Int32) : lp_M_resolve_96 n k (fu + 1) σ v1 v2 =
  (if 4 ≤ v2 then
  k σ v1
  else
  lp_M_resolve_103 n (fun σ19 y1_18 =>
  lp_M_resolve_96 n k fu σ19 y1_18 (v2 + 1)) 3000 σ v1 v2 0) := rfl

def f_M_resolve (n : Nat) (σ : St)  : Option (Int32 × St) :=
  (f_M_lineUp n σ).bind fun o1 =>
  lp_M_resolve_6 n (fun σ4 =>
  lp_M_resolve_26 n (fun σ14 =>
  lp_M_resolve_96 n (fun σ21 y1_20 =>
  (f_M_sweep n σ21).bind fun o22 =>
  some (y1_20, o22.2)) 3000 σ14 0 0) 3000 σ4 0) 3000 o1.2 0

def f_M_fund (n : Nat) (σ : St) (x1 : Int32) (x2 : Int64) : Option (Int32 × St) :=
  (f_M_isBank n σ x1).bind fun o1 =>
  if o1.1 = 0 then
  some (0, o1.2)
  else
  if x2 < (-1000000000000) then
  some (0, o1.2)
  else
  if 1000000000000 < x2 then
  some (0, o1.2)
  else
  if vin x1 4 then
  if vin x1 4 then
  if (-(sL o1.2 2 0 (Int32.toNatClampNeg x1))) ≤ ((sL o1.2 1 0 (Int32.toNatClampNeg x1)) + x2) then
  if vin x1 4 then
  if vin x1 4 then
  (some (wL o1.2 1 0 (Int32.toNatClampNeg x1) ((sL o1.2 1 0 (Int32.toNatClampNeg x1)) + x2))).bind fun σ6 =>
  (f_M_sweep n σ6).bind fun o7 =>
  some (1, o7.2)
  else none
  else none
  else
  some (0, o1.2)
  else none
  else none

def f_M_credit (n : Nat) (σ : St) (x1 : Int32) (x2 : Int64) : Option (Int32 × St) :=
  (f_M_isBank n σ x1).bind fun o1 =>
  if o1.1 = 0 then
  some (0, o1.2)
  else
  if x2 < 0 then
  some (0, o1.2)
  else
  if 1000000000000000 < x2 then
  some (0, o1.2)
  else
  if vin x1 4 then
  if (-x2) ≤ (sL o1.2 1 0 (Int32.toNatClampNeg x1)) then
  if vin x1 4 then
  (some (wL o1.2 2 0 (Int32.toNatClampNeg x1) x2)).bind fun σ4 =>
  (f_M_sweep n σ4).bind fun o5 =>
  some (1, o5.2)
  else none
  else
  some (0, o1.2)
  else none

def f_M_limit (n : Nat) (σ : St) (x1 : Int32) (x2 : Int32) (x3 : Int64) : Option (Int32 × St) :=
  (f_M_isBank n σ x1).bind fun o1 =>
  if o1.1 = 0 then
  some (0, o1.2)
  else
  (f_M_isBank n o1.2 x2).bind fun o2 =>
  if o2.1 = 0 then
  some (0, o2.2)
  else
  if x1 = x2 then
  some (0, o2.2)
  else
  if x3 < (-1) then
  some (0, o2.2)
  else
  if x3 ≤ 1000000000000000 then
  if x3 < 0 then
  if vin ((4 * x1) + x2) 16 then
  (some (wL o2.2 4 0 (Int32.toNatClampNeg ((4 * x1) + x2)) x3)).bind fun σ4 =>
  (f_M_sweep n σ4).bind fun o5 =>
  some (1, o5.2)
  else none
  else
  if vin ((4 * x1) + x2) 16 then
  if vin ((4 * x2) + x1) 16 then
  if ((sL o2.2 5 0 (Int32.toNatClampNeg ((4 * x1) + x2))) - (sL o2.2 5 0 (Int32.toNatClampNeg ((4 * x2) + x1)))) ≤ x3 then
  if vin ((4 * x1) + x2) 16 then
  (some (wL o2.2 4 0 (Int32.toNatClampNeg ((4 * x1) + x2)) x3)).bind fun σ9 =>
  (f_M_sweep n σ9).bind fun o10 =>
  some (1, o10.2)
  else none
  else
  some (0, o2.2)
  else none
  else none
  else
  some (0, o2.2)

def lp_M_totalLimit_32 (n : Nat) (k : St → Int64 → Option (Int32 × St)) : Nat → St → Int32 → Int64 → Int64 → Int32 → Option (Int32 × St)
  | 0, _, _, _, _, _ => none
  | fu + 1, σ, v1, v2, v4, v6 =>
  if (sI σ 0 0 0) ≤ v6 then
  k σ v4
  else
  if vin ((4 * v1) + v6) 16 then
  if vin ((4 * v6) + v1) 16 then
  lp_M_totalLimit_32 n k fu σ v1 v2 ((v4 + (sL σ 5 0 (Int32.toNatClampNeg ((4 * v1) + v6)))) - (sL σ 5 0 (Int32.toNatClampNeg ((4 * v6) + v1)))) (v6 + 1)
  else none
  else none
theorem lp_M_totalLimit_32_s (n : Nat) (k : St → Int64 → Option (Int32 × St)) (fu : Nat) (σ : St) (v1 : Int32) (v2 : Int64) (v4 : Int64) (v6 : Int32) : lp_M_totalLimit_32 n k (fu + 1) σ v1 v2 v4 v6 =
  (if (sI σ 0 0 0) ≤ v6 then
  k σ v4
  else
  if vin ((4 * v1) + v6) 16 then
  if vin ((4 * v6) + v1) 16 then
  lp_M_totalLimit_32 n k fu σ v1 v2 ((v4 + (sL σ 5 0 (Int32.toNatClampNeg ((4 * v1) + v6)))) - (sL σ 5 0 (Int32.toNatClampNeg ((4 * v6) + v1)))) (v6 + 1)
  else none
  else none) := rfl

def f_M_totalLimit (n : Nat) (σ : St) (x1 : Int32) (x2 : Int64) : Option (Int32 × St) :=
  (f_M_isBank n σ x1).bind fun o1 =>
  if o1.1 = 0 then
  some (0, o1.2)
  else
  if x2 < (-1) then
  some (0, o1.2)
  else
  if x2 ≤ 1000000000000000 then
  lp_M_totalLimit_32 n (fun σ5 y4_4 =>
  if x2 < 0 then
  if vin x1 4 then
  (some (wL σ5 3 0 (Int32.toNatClampNeg x1) x2)).bind fun σ7 =>
  (f_M_sweep n σ7).bind fun o8 =>
  some (1, o8.2)
  else none
  else
  if y4_4 ≤ x2 then
  if vin x1 4 then
  (some (wL σ5 3 0 (Int32.toNatClampNeg x1) x2)).bind fun σ10 =>
  (f_M_sweep n σ10).bind fun o11 =>
  some (1, o11.2)
  else none
  else
  some (0, σ5)) 1000 o1.2 x1 x2 0 0
  else
  some (0, o1.2)

def lp_M_queuedAt_4 (n : Nat) (k : St → Int32 → Option (Int32 × St)) : Nat → St → Int32 → Int32 → Int32 → Option (Int32 × St)
  | 0, _, _, _, _ => none
  | fu + 1, σ, v1, v2, v3 =>
  if (sI σ 2 0 0) ≤ v3 then
  k σ v2
  else
  if vin v3 100 then
  if (sI σ 9 0 (Int32.toNatClampNeg v3)) = 0 then
  if vin v3 100 then
  if (sI σ 4 0 (Int32.toNatClampNeg v3)) = v1 then
  lp_M_queuedAt_4 n k fu σ v1 (v2 + 1) (v3 + 1)
  else
  lp_M_queuedAt_4 n k fu σ v1 v2 (v3 + 1)
  else none
  else
  lp_M_queuedAt_4 n k fu σ v1 v2 (v3 + 1)
  else none
theorem lp_M_queuedAt_4_s (n : Nat) (k : St → Int32 → Option (Int32 × St)) (fu : Nat) (σ : St) (v1 : Int32) (v2 : Int32) (v3 : Int32) : lp_M_queuedAt_4 n k (fu + 1) σ v1 v2 v3 =
  (if (sI σ 2 0 0) ≤ v3 then
  k σ v2
  else
  if vin v3 100 then
  if (sI σ 9 0 (Int32.toNatClampNeg v3)) = 0 then
  if vin v3 100 then
  if (sI σ 4 0 (Int32.toNatClampNeg v3)) = v1 then
  lp_M_queuedAt_4 n k fu σ v1 (v2 + 1) (v3 + 1)
  else
  lp_M_queuedAt_4 n k fu σ v1 v2 (v3 + 1)
  else none
  else
  lp_M_queuedAt_4 n k fu σ v1 v2 (v3 + 1)
  else none) := rfl

def f_M_queuedAt (n : Nat) (σ : St) (x1 : Int32) : Option (Int32 × St) :=
  lp_M_queuedAt_4 n (fun σ4 y2_3 =>
  some (y2_3, σ4)) 1000 σ x1 0 0

def f_M_pay (n : Nat) (σ : St) (x1 : Int32) (x2 : Int32) (x3 : Int64) (x4 : Int32) (x5 : Int32) : Option (Int32 × St) :=
  (f_M_isBank n σ x1).bind fun o1 =>
  if o1.1 = 0 then
  some ((-1), o1.2)
  else
  (f_M_isBank n o1.2 x2).bind fun o2 =>
  if o2.1 = 0 then
  some ((-1), o2.2)
  else
  if x1 = x2 then
  some ((-1), o2.2)
  else
  if x3 < 1 then
  some ((-1), o2.2)
  else
  if 1000000000000 < x3 then
  some ((-1), o2.2)
  else
  if x4 < 0 then
  some ((-1), o2.2)
  else
  if 3 < x4 then
  some ((-1), o2.2)
  else
  if x5 < (sI o2.2 1 0 0) then
  some ((-1), o2.2)
  else
  if (sI o2.2 2 0 0) < 100 then
  (f_M_queuedAt n o2.2 x1).bind fun o3 =>
  if o3.1 < 6 then
  if vin (sI o3.2 2 0 0) 100 then
  (some (wI o3.2 4 0 (Int32.toNatClampNeg (sI o3.2 2 0 0)) x1)).bind fun σ5 =>
  if vin (sI o3.2 2 0 0) 100 then
  (some (wI σ5 5 0 (Int32.toNatClampNeg (sI o3.2 2 0 0)) x2)).bind fun σ7 =>
  if vin (sI o3.2 2 0 0) 100 then
  (some (wL σ7 6 0 (Int32.toNatClampNeg (sI o3.2 2 0 0)) x3)).bind fun σ9 =>
  if vin (sI o3.2 2 0 0) 100 then
  (some (wI σ9 6 0 (Int32.toNatClampNeg (sI o3.2 2 0 0)) x4)).bind fun σ11 =>
  if vin (sI o3.2 2 0 0) 100 then
  (some (wI σ11 7 0 (Int32.toNatClampNeg (sI o3.2 2 0 0)) x5)).bind fun σ13 =>
  (some (wI σ13 3 0 0 ((sI σ13 3 0 0) + 1))).bind fun σ14 =>
  if vin (sI o3.2 2 0 0) 100 then
  (some (wI σ14 8 0 (Int32.toNatClampNeg (sI o3.2 2 0 0)) (sI σ14 3 0 0))).bind fun σ16 =>
  if vin (sI o3.2 2 0 0) 100 then
  (some (wI σ16 9 0 (Int32.toNatClampNeg (sI o3.2 2 0 0)) 0)).bind fun σ18 =>
  (some (wI σ18 2 0 0 ((sI σ18 2 0 0) + 1))).bind fun σ19 =>
  (f_M_sweep n σ19).bind fun o20 =>
  some (sI o3.2 2 0 0, o20.2)
  else none
  else none
  else none
  else none
  else none
  else none
  else none
  else
  some ((-2), o3.2)
  else
  some ((-3), o2.2)

def f_M_cancel (n : Nat) (σ : St) (x1 : Int32) : Option (Int32 × St) :=
  (f_M_isQueued n σ x1).bind fun o1 =>
  if o1.1 = 0 then
  some (0, o1.2)
  else
  if vin x1 100 then
  (some (wI o1.2 9 0 (Int32.toNatClampNeg x1) 4)).bind fun σ3 =>
  (f_M_sweep n σ3).bind fun o4 =>
  some (1, o4.2)
  else none

def f_M_urge (n : Nat) (σ : St) (x1 : Int32) (x2 : Int32) : Option (Int32 × St) :=
  (f_M_isQueued n σ x1).bind fun o1 =>
  if o1.1 = 0 then
  some (0, o1.2)
  else
  if x2 < 0 then
  some (0, o1.2)
  else
  if x2 ≤ 3 then
  if vin x1 100 then
  (some (wI o1.2 6 0 (Int32.toNatClampNeg x1) x2)).bind fun σ3 =>
  (some (wI σ3 3 0 0 ((sI σ3 3 0 0) + 1))).bind fun σ4 =>
  if vin x1 100 then
  (some (wI σ4 8 0 (Int32.toNatClampNeg x1) (sI σ4 3 0 0))).bind fun σ6 =>
  (f_M_sweep n σ6).bind fun o7 =>
  some (1, o7.2)
  else none
  else none
  else
  some (0, o1.2)

def lp_M_tick_28 (n : Nat) (k : St → Int32 → Option (Int32 × St)) : Nat → St → Int32 → Int32 → Option (Int32 × St)
  | 0, _, _, _ => none
  | fu + 1, σ, v2, v3 =>
  if (sI σ 2 0 0) ≤ v3 then
  k σ v2
  else
  if vin v3 100 then
  if (sI σ 9 0 (Int32.toNatClampNeg v3)) = 0 then
  if vin v3 100 then
  if (sI σ 1 0 0) ≤ (sI σ 7 0 (Int32.toNatClampNeg v3)) then
  lp_M_tick_28 n k fu σ v2 (v3 + 1)
  else
  if vin v3 100 then
  (some (wI σ 9 0 (Int32.toNatClampNeg v3) 5)).bind fun σ5 =>
  lp_M_tick_28 n k fu σ5 (v2 + 1) (v3 + 1)
  else none
  else none
  else
  lp_M_tick_28 n k fu σ v2 (v3 + 1)
  else none
theorem lp_M_tick_28_s (n : Nat) (k : St → Int32 → Option (Int32 × St)) (fu : Nat) (σ : St) (v2 : Int32) (v3 : Int32) : lp_M_tick_28 n k (fu + 1) σ v2 v3 =
  (if (sI σ 2 0 0) ≤ v3 then
  k σ v2
  else
  if vin v3 100 then
  if (sI σ 9 0 (Int32.toNatClampNeg v3)) = 0 then
  if vin v3 100 then
  if (sI σ 1 0 0) ≤ (sI σ 7 0 (Int32.toNatClampNeg v3)) then
  lp_M_tick_28 n k fu σ v2 (v3 + 1)
  else
  if vin v3 100 then
  (some (wI σ 9 0 (Int32.toNatClampNeg v3) 5)).bind fun σ5 =>
  lp_M_tick_28 n k fu σ5 (v2 + 1) (v3 + 1)
  else none
  else none
  else
  lp_M_tick_28 n k fu σ v2 (v3 + 1)
  else none) := rfl

def f_M_tick (n : Nat) (σ : St) (x1 : Int32) : Option (Int32 × St) :=
  if x1 < 1 then
  some ((-1), σ)
  else
  if x1 ≤ 1000 then
  (some (wI σ 1 0 0 ((sI σ 1 0 0) + x1))).bind fun σ1 =>
  lp_M_tick_28 n (fun σ7 y2_6 =>
  (f_M_sweep n σ7).bind fun o8 =>
  some (y2_6, o8.2)) 1000 σ1 0 0
  else
  some ((-1), σ)

def lp_M_close_4 (n : Nat) (k : St → Int32 → Option (Int32 × St)) : Nat → St → Int32 → Int32 → Option (Int32 × St)
  | 0, _, _, _ => none
  | fu + 1, σ, v1, v2 =>
  if (sI σ 2 0 0) ≤ v2 then
  k σ v1
  else
  if vin v2 100 then
  if (sI σ 9 0 (Int32.toNatClampNeg v2)) = 0 then
  if vin v2 100 then
  (some (wI σ 9 0 (Int32.toNatClampNeg v2) 6)).bind fun σ3 =>
  lp_M_close_4 n k fu σ3 (v1 + 1) (v2 + 1)
  else none
  else
  lp_M_close_4 n k fu σ v1 (v2 + 1)
  else none
theorem lp_M_close_4_s (n : Nat) (k : St → Int32 → Option (Int32 × St)) (fu : Nat) (σ : St) (v1 : Int32) (v2 : Int32) : lp_M_close_4 n k (fu + 1) σ v1 v2 =
  (if (sI σ 2 0 0) ≤ v2 then
  k σ v1
  else
  if vin v2 100 then
  if (sI σ 9 0 (Int32.toNatClampNeg v2)) = 0 then
  if vin v2 100 then
  (some (wI σ 9 0 (Int32.toNatClampNeg v2) 6)).bind fun σ3 =>
  lp_M_close_4 n k fu σ3 (v1 + 1) (v2 + 1)
  else none
  else
  lp_M_close_4 n k fu σ v1 (v2 + 1)
  else none) := rfl

def lp_M_close_40 (n : Nat) (k : St → Option (Int32 × St)) : Nat → St → Int32 → Int32 → Option (Int32 × St)
  | 0, _, _, _ => none
  | fu + 1, σ, v1, v2 =>
  if 16 ≤ v2 then
  k σ
  else
  if vin v2 16 then
  (some (wL σ 5 0 (Int32.toNatClampNeg v2) 0)).bind fun σ7 =>
  lp_M_close_40 n k fu σ7 v1 (v2 + 1)
  else none
theorem lp_M_close_40_s (n : Nat) (k : St → Option (Int32 × St)) (fu : Nat) (σ : St) (v1 : Int32) (v2 : Int32) : lp_M_close_40 n k (fu + 1) σ v1 v2 =
  (if 16 ≤ v2 then
  k σ
  else
  if vin v2 16 then
  (some (wL σ 5 0 (Int32.toNatClampNeg v2) 0)).bind fun σ7 =>
  lp_M_close_40 n k fu σ7 v1 (v2 + 1)
  else none) := rfl

def f_M_close (n : Nat) (σ : St)  : Option (Int32 × St) :=
  lp_M_close_4 n (fun σ5 y1_4 =>
  lp_M_close_40 n (fun σ8 =>
  some (y1_4, σ8)) 1000 σ5 y1_4 0) 1000 σ 0 0

def f_M_balance (n : Nat) (σ : St) (x1 : Int32) : Option (Int64 × St) :=
  (f_M_isBank n σ x1).bind fun o1 =>
  if o1.1 = 0 then
  some (0, o1.2)
  else
  if vin x1 4 then
  some (sL o1.2 1 0 (Int32.toNatClampNeg x1), o1.2)
  else none

def f_M_position (n : Nat) (σ : St) (x1 : Int32) (x2 : Int32) : Option (Int64 × St) :=
  (f_M_isBank n σ x1).bind fun o1 =>
  if o1.1 = 0 then
  some (0, o1.2)
  else
  (f_M_isBank n o1.2 x2).bind fun o2 =>
  if o2.1 = 0 then
  some (0, o2.2)
  else
  if vin ((4 * x1) + x2) 16 then
  if vin ((4 * x2) + x1) 16 then
  some ((sL o2.2 5 0 (Int32.toNatClampNeg ((4 * x1) + x2))) - (sL o2.2 5 0 (Int32.toNatClampNeg ((4 * x2) + x1))), o2.2)
  else none
  else none

def f_M_waiting (n : Nat) (σ : St) (x1 : Int32) : Option (Int32 × St) :=
  (f_M_isBank n σ x1).bind fun o1 =>
  if o1.1 = 0 then
  some ((-1), o1.2)
  else
  (f_M_queuedAt n o1.2 x1).bind fun o2 =>
  some (o2.1, o2.2)

def f_M_queued (n : Nat) (σ : St) (x1 : Int32) (x2 : Int32) : Option (Int32 × St) :=
  (f_M_isBank n σ x1).bind fun o1 =>
  if o1.1 = 0 then
  some ((-1), o1.2)
  else
  (f_M_lineUp n o1.2).bind fun o2 =>
  if x2 < 0 then
  some ((-1), o2.2)
  else
  if vin x1 4 then
  if x2 < (sI o2.2 11 0 (Int32.toNatClampNeg x1)) then
  if vin ((6 * x1) + x2) 24 then
  some (sI o2.2 10 0 (Int32.toNatClampNeg ((6 * x1) + x2)), o2.2)
  else none
  else
  some ((-1), o2.2)
  else none

def f_M_state (n : Nat) (σ : St) (x1 : Int32) : Option (Int32 × St) :=
  if x1 < 0 then
  some ((-1), σ)
  else
  if x1 < (sI σ 2 0 0) then
  if vin x1 100 then
  some (sI σ 9 0 (Int32.toNatClampNeg x1), σ)
  else none
  else
  some ((-1), σ)

def f_M_turnover (n : Nat) (σ : St)  : Option (Int64 × St) :=
  some (sL σ 0 0 0, σ)

def f_M_now (n : Nat) (σ : St)  : Option (Int32 × St) :=
  some (sI σ 1 0 0, σ)

