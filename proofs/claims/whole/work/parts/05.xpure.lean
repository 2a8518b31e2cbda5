def f_B_headGoesTo (n : Nat) (σ : St) (a0 : Nat) : Option (Int32 × St) :=
  if (sI σ 3 a0 0) ≤ 0 then
  some ((-1), σ)
  else
  if vin 0 6 then
  (dR σ (sR σ 1 a0 (Int32.toNatClampNeg 0))).bind fun k2 =>
  some (sI σ 6 k2 0, σ)
  else none

def lp_B_sentWith_10 (n : Nat) (k : St → Int64 → Option (Int64 × St)) : Nat → St → Nat → Int32 → Int32 → Int64 → Int32 → Option (Int64 × St)
  | 0, _, _, _, _, _, _ => none
  | fu + 1, σ, v0, v1, v2, v3, v5 =>
  if v1 ≤ v5 then
  k σ v3
  else
  if (sI σ 3 v0 0) ≤ v5 then
  k σ v3
  else
  if vin v5 6 then
  (dR σ (sR σ 1 v0 (Int32.toNatClampNeg v5))).bind fun k3 =>
  if (sI σ 6 k3 0) = v2 then
  if vin v5 6 then
  (dR σ (sR σ 1 v0 (Int32.toNatClampNeg v5))).bind fun k5 =>
  lp_B_sentWith_10 n k fu σ v0 v1 v2 (v3 + (sL σ 6 k5 0)) (v5 + 1)
  else none
  else
  lp_B_sentWith_10 n k fu σ v0 v1 v2 v3 (v5 + 1)
  else none
theorem lp_B_sentWith_10_s (n : Nat) (k : St → Int64 → Option (Int64 × St)) (fu : Nat) (σ : St) (v0 : Nat) (v1 : Int32) (v2 : Int32) (v3 : Int64) (v5 : Int32) : lp_B_sentWith_10 n k (fu + 1) σ v0 v1 v2 v3 v5 =
  (if v1 ≤ v5 then
  k σ v3
  else
  if (sI σ 3 v0 0) ≤ v5 then
  k σ v3
  else
  if vin v5 6 then
  (dR σ (sR σ 1 v0 (Int32.toNatClampNeg v5))).bind fun k3 =>
  if (sI σ 6 k3 0) = v2 then
  if vin v5 6 then
  (dR σ (sR σ 1 v0 (Int32.toNatClampNeg v5))).bind fun k5 =>
  lp_B_sentWith_10 n k fu σ v0 v1 v2 (v3 + (sL σ 6 k5 0)) (v5 + 1)
  else none
  else
  lp_B_sentWith_10 n k fu σ v0 v1 v2 v3 (v5 + 1)
  else none) := rfl

def f_B_sentWith (n : Nat) (σ : St) (a0 : Nat) (x1 : Int32) (x2 : Int32) : Option (Int64 × St) :=
  if vin x2 n then
  lp_B_sentWith_10 n (fun σ7 y3_6 =>
  some (y3_6, σ7)) 1000 σ a0 x1 x2 (sL σ 5 a0 (Int32.toNatClampNeg x2)) 0
  else none

def lp_B_remove_4 (n : Nat) (k : St → Int32 → Option (Unit × St)) : Nat → St → Nat → Nat → Int32 → Int32 → Option (Unit × St)
  | 0, _, _, _, _, _ => none
  | fu + 1, σ, v0, v1, v2, v3 =>
  if (sI σ 3 v0 0) ≤ v3 then
  k σ v2
  else
  if vin v3 6 then
  (dR σ (sR σ 1 v0 (Int32.toNatClampNeg v3))).bind fun k2 =>
  if v1 < sN σ then
  if k2 = v1 then
  lp_B_remove_4 n k fu σ v0 v1 v2 (v3 + 1)
  else
  if vin v3 6 then
  (dR σ (sR σ 1 v0 (Int32.toNatClampNeg v3))).bind fun k5 =>
  if vin v2 6 then
  (some (wR σ 1 v0 (Int32.toNatClampNeg v2) (some k5))).bind fun σ7 =>
  lp_B_remove_4 n k fu σ7 v0 v1 (v2 + 1) (v3 + 1)
  else none
  else none
  else none
  else none
theorem lp_B_remove_4_s (n : Nat) (k : St → Int32 → Option (Unit × St)) (fu : Nat) (σ : St) (v0 : Nat) (v1 : Nat) (v2 : Int32) (v3 : Int32) : lp_B_remove_4 n k (fu + 1) σ v0 v1 v2 v3 =
  (if (sI σ 3 v0 0) ≤ v3 then
  k σ v2
  else
  if vin v3 6 then
  (dR σ (sR σ 1 v0 (Int32.toNatClampNeg v3))).bind fun k2 =>
  if v1 < sN σ then
  if k2 = v1 then
  lp_B_remove_4 n k fu σ v0 v1 v2 (v3 + 1)
  else
  if vin v3 6 then
  (dR σ (sR σ 1 v0 (Int32.toNatClampNeg v3))).bind fun k5 =>
  if vin v2 6 then
  (some (wR σ 1 v0 (Int32.toNatClampNeg v2) (some k5))).bind fun σ7 =>
  lp_B_remove_4 n k fu σ7 v0 v1 (v2 + 1) (v3 + 1)
  else none
  else none
  else none
  else none) := rfl

def f_B_remove (n : Nat) (σ : St) (a0 : Nat) (x1 : Nat) : Option (Unit × St) :=
  lp_B_remove_4 n (fun σ9 y2_8 =>
  (some (wI σ9 3 a0 0 y2_8)).bind fun σ10 =>
  some ((), σ10)) 1000 σ a0 x1 0 0

def lp_B_enqueue_18 (n : Nat) (k : St → Int32 → Option (Unit × St)) : Nat → St → Nat → Nat → Int32 → Option (Unit × St)
  | 0, _, _, _, _ => none
  | fu + 1, σ, v0, v1, v2 =>
  if v2 ≤ 0 then
  k σ v2
  else
  if vin (v2 - 1) 6 then
  (dR σ (sR σ 1 v0 (Int32.toNatClampNeg (v2 - 1)))).bind fun k2 =>
  if v1 < sN σ then
  if (sI σ 8 v1 0) ≤ (sI σ 8 k2 0) then
  k σ v2
  else
  if vin (v2 - 1) 6 then
  (dR σ (sR σ 1 v0 (Int32.toNatClampNeg (v2 - 1)))).bind fun k5 =>
  if vin v2 6 then
  (some (wR σ 1 v0 (Int32.toNatClampNeg v2) (some k5))).bind fun σ7 =>
  lp_B_enqueue_18 n k fu σ7 v0 v1 (v2 + (-1))
  else none
  else none
  else none
  else none
theorem lp_B_enqueue_18_s (n : Nat) (k : St → Int32 → Option (Unit × St)) (fu : Nat) (σ : St) (v0 : Nat) (v1 : Nat) (v2 : Int32) : lp_B_enqueue_18 n k (fu + 1) σ v0 v1 v2 =
  (if v2 ≤ 0 then
  k σ v2
  else
  if vin (v2 - 1) 6 then
  (dR σ (sR σ 1 v0 (Int32.toNatClampNeg (v2 - 1)))).bind fun k2 =>
  if v1 < sN σ then
  if (sI σ 8 v1 0) ≤ (sI σ 8 k2 0) then
  k σ v2
  else
  if vin (v2 - 1) 6 then
  (dR σ (sR σ 1 v0 (Int32.toNatClampNeg (v2 - 1)))).bind fun k5 =>
  if vin v2 6 then
  (some (wR σ 1 v0 (Int32.toNatClampNeg v2) (some k5))).bind fun σ7 =>
  lp_B_enqueue_18 n k fu σ7 v0 v1 (v2 + (-1))
  else none
  else none
  else none
  else none) := rfl

def f_B_enqueue (n : Nat) (σ : St) (a0 : Nat) (x1 : Nat) : Option (Unit × St) :=
  if (sI σ 3 a0 0) < (nI 6) then
  lp_B_enqueue_18 n (fun σ9 y2_8 =>
  if x1 < sN σ9 then
  if vin y2_8 6 then
  (some (wR σ9 1 a0 (Int32.toNatClampNeg y2_8) (some x1))).bind fun σ12 =>
  (some (wI σ12 3 a0 0 ((sI σ12 3 a0 0) + 1))).bind fun σ13 =>
  some ((), σ13)
  else none
  else none) 1000 σ a0 x1 (sI σ 3 a0 0)
  else
  some ((), σ)

def f_X_isBank (n : Nat) (σ : St) (x1 : Int32) : Option (Int32 × St) :=
  if x1 < 0 then
  some (0, σ)
  else
  if (nI n) ≤ x1 then
  some (0, σ)
  else
  some (1, σ)

def f_X_areTwoBanks (n : Nat) (σ : St) (x1 : Int32) (x2 : Int32) : Option (Int32 × St) :=
  (f_X_isBank n σ x1).bind fun o1 =>
  if o1.1 = 0 then
  some (0, o1.2)
  else
  (f_X_isBank n o1.2 x2).bind fun o2 =>
  if o2.1 = 0 then
  some (0, o2.2)
  else
  if x1 = x2 then
  some (0, o2.2)
  else
  some (1, o2.2)

