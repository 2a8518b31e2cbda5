def f_B_headGoesTo (n : Nat) (σ : St) (a0 : Nat) : Option (Int32 × St) :=
  if (sI σ 3 a0 0) ≤ 0 then
  some ((-1), σ)
  else
  if vin 0 6 then
  (dR σ (sR σ 1 a0 (Int32.toNatClampNeg 0))).bind fun k2 =>
  some (sI σ 6 k2 0, σ)
  else none

def lp_B_sentWith_10 (n : Nat) (k : St → Int64 → Option (Int64 × St)) : Nat → St → Nat → Int32 → Int32 → Int64 → Int32 → Option (Int64 × St)
  | 0, _, _, _, _, _, _ => none
  | fu + 1, σ, v0, v1, v2, v3, v5 =>
  if v1 ≤ v5 then
  k σ v3
  else
  if (sI σ 3 v0 0) ≤ v5 then
  k σ v3
  else
  if vin v5 6 then
  (dR σ (sR σ 1 v0 (Int32.toNatClampNeg v5))).bind fun k3 =>
  if (sI σ 6 k3 0) = v2 then
  if vin v5 6 then
  (dR σ (sR σ 1 v0 (Int32.toNatClampNeg v5))).bind fun k5 =>
  lp_B_sentWith_10 n k fu σ v0 v1 v2 (v3 + (sL σ 6 k5 0)) (v5 + 1)
  else none
  else
  lp_B_sentWith_10 n k fu σ v0 v1 v2 v3 (v5 + 1)
  else none
theorem lp_B_sentWith_10_s (n : Nat) (k : St → Int64 → Option (Int64 × St)) (fu : Nat) (σ : St) (v0 : Nat) (v1 : Int32) (v2 : Int32) (v3 : Int64) (v5 : Int32) : lp_B_sentWith_10 n k (fu + 1) σ v0 v1 v2 v3 v5 =
  (if v1 ≤ v5 then
  k σ v3
  else
  if (sI σ 3 v0 0) ≤ v5 then
  k σ v3
  else
  if vin v5 6 then
  (dR σ (sR σ 1 v0 (Int32.toNatClampNeg v5))).bind fun k3 =>
  if (sI σ 6 k3 0) = v2 then
  if vin v5 6 then
  (dR σ (sR σ 1 v0 (Int32.toNatClampNeg v5))).bind fun k5 =>
  lp_B_sentWith_10 n k fu σ v0 v1 v2 (v3 + (sL σ 6 k5 0)) (v5 + 1)
  else none
  else
  lp_B_sentWith_10 n k fu σ v0 v1 v2 v3 (v5 + 1)
  else none) := rfl

def f_B_sentWith (n : Nat) (σ : St) (a0 : Nat) (x1 : Int32) (x2 : Int32) : Option (Int64 × St) :=
  if vin x2 n then
  lp_B_sentWith_10 n (fun σ7 y3_6 =>
  some (y3_6, σ7)) 1000 σ a0 x1 x2 (sL σ 5 a0 (Int32.toNatClampNeg x2)) 0
  else none

def lp_B_remove_4 (n : Nat) (k : St → Int32 → Option (Unit × St)) : Nat → St → Nat → Nat → Int32 → Int32 → Option (Unit × St)
  | 0, _, _, _, _, _ => none
  | fu + 1, σ, v0, v1, v2, v3 =>
  if (sI σ 3 v0 0) ≤ v3 then
  k σ v2
  else
  if vin v3 6 then
  (dR σ (sR σ 1 v0 (Int32.toNatClampNeg v3))).bind fun k2 =>
  if v1 < sN σ then
  if k2 = v1 then
  lp_B_remove_4 n k fu σ v0 v1 v2 (v3 + 1)
  else
  if vin v3 6 then
  (dR σ (sR σ 1 v0 (Int32.toNatClampNeg v3))).bind fun k5 =>
  if vin v2 6 then
  (some (wR σ 1 v0 (Int32.toNatClampNeg v2) (some k5))).bind fun σ7 =>
  lp_B_remove_4 n k fu σ7 v0 v1 (v2 + 1) (v3 + 1)
  else none
  else none
  else none
  else none
theorem lp_B_remove_4_s (n : Nat) (k : St → Int32 → Option (Unit × St)) (fu : Nat) (σ : St) (v0 : Nat) (v1 : Nat) (v2 : Int32) (v3 : Int32) : lp_B_remove_4 n k (fu + 1) σ v0 v1 v2 v3 =
  (if (sI σ 3 v0 0) ≤ v3 then
  k σ v2
  else
  if vin v3 6 then
  (dR σ (sR σ 1 v0 (Int32.toNatClampNeg v3))).bind fun k2 =>
  if v1 < sN σ then
  if k2 = v1 then
  lp_B_remove_4 n k fu σ v0 v1 v2 (v3 + 1)
  else
  if vin v3 6 then
  (dR σ (sR σ 1 v0 (Int32.toNatClampNeg v3))).bind fun k5 =>
  if vin v2 6 then
  (some (wR σ 1 v0 (Int32.toNatClampNeg v2) (some k5))).bind fun σ7 =>
  lp_B_remove_4 n k fu σ7 v0 v1 (v2 + 1) (v3 + 1)
  else none
  else none
  else none
  else none) := rfl

def f_B_remove (n : Nat) (σ : St) (a0 : Nat) (x1 : Nat) : Option (Unit × St) :=
  lp_B_remove_4 n (fun σ9 y2_8 =>
  (some (wI σ9 3 a0 0 y2_8)).bind fun σ10 =>
  some ((), σ10)) 1000 σ a0 x1 0 0

def lp_B_enqueue_18 (n : Nat) (k : St → Int32 → Option (Unit × St)) : Nat → St → Nat → Nat → Int32 → Option (Unit × St)
  | 0, _, _, _, _ => none
  | fu + 1, σ, v0, v1, v2 =>
  if v2 ≤ 0 then
  k σ v2
  else
  if vin (v2 - 1) 6 then
  (dR σ (sR σ 1 v0 (Int32.toNatClampNeg (v2 - 1)))).bind fun k2 =>
  if v1 < sN σ then
  if (sI σ 8 v1 0) ≤ (sI σ 8 k2 0) then
  k σ v2
  else
  if vin (v2 - 1) 6 then
  (dR σ (sR σ 1 v0 (Int32.toNatClampNeg (v2 - 1)))).bind fun k5 =>
  if vin v2 6 then
  (some (wR σ 1 v0 (Int32.toNatClampNeg v2) (some k5))).bind fun σ7 =>
  lp_B_enqueue_18 n k fu σ7 v0 v1 (v2 + (-1))
  else none
  else none
  else none
  else none
theorem lp_B_enqueue_18_s (n : Nat) (k : St → Int32 → Option (Unit × St)) (fu : Nat) (σ : St) (v0 : Nat) (v1 : Nat) (v2 : Int32) : lp_B_enqueue_18 n k (fu + 1) σ v0 v1 v2 =
  (if v2 ≤ 0 then
  k σ v2
  else
  if vin (v2 - 1) 6 then
  (dR σ (sR σ 1 v0 (Int32.toNatClampNeg (v2 - 1)))).bind fun k2 =>
  if v1 < sN σ then
  if (sI σ 8 v1 0) ≤ (sI σ 8 k2 0) then
  k σ v2
  else
  if vin (v2 - 1) 6 then
  (dR σ (sR σ 1 v0 (Int32.toNatClampNeg (v2 - 1)))).bind fun k5 =>
  if vin v2 6 then
  (some (wR σ 1 v0 (Int32.toNatClampNeg v2) (some k5))).bind fun σ7 =>
  lp_B_enqueue_18 n k fu σ7 v0 v1 (v2 + (-1))
  else none
  else none
  else none
  else none) := rfl

def f_B_enqueue (n : Nat) (σ : St) (a0 : Nat) (x1 : Nat) : Option (Unit × St) :=
  if (sI σ 3 a0 0) < (nI 6) then
  lp_B_enqueue_18 n (fun σ9 y2_8 =>
  if x1 < sN σ9 then
  if vin y2_8 6 then
  (some (wR σ9 1 a0 (Int32.toNatClampNeg y2_8) (some x1))).bind fun σ12 =>
  (some (wI σ12 3 a0 0 ((sI σ12 3 a0 0) + 1))).bind fun σ13 =>
  some ((), σ13)
  else none
  else none) 1000 σ a0 x1 (sI σ 3 a0 0)
  else
  some ((), σ)

def f_X_isBank (n : Nat) (σ : St) (x1 : Int32) : Option (Int32 × St) :=
  if x1 < 0 then
  some (0, σ)
  else
  if (nI n) ≤ x1 then
  some (0, σ)
  else
  some (1, σ)

def f_X_areTwoBanks (n : Nat) (σ : St) (x1 : Int32) (x2 : Int32) : Option (Int32 × St) :=
  (f_X_isBank n σ x1).bind fun o1 =>
  if o1.1 = 0 then
  some (0, o1.2)
  else
  (f_X_isBank n o1.2 x2).bind fun o2 =>
  if o2.1 = 0 then
  some (0, o2.2)
  else
  if x1 = x2 then
  some (0, o2.2)
  else
  some (1, o2.2)

def f_X_isPayment (n : Nat) (σ : St) (x1 : Int32) : Option (Int32 × St) :=
  if x1 < 0 then
  some (0, σ)
  else
  if (sI σ 0 0 0) ≤ x1 then
  some (0, σ)
  else
  some (1, σ)

def f_X_isQueued (n : Nat) (σ : St) (x1 : Int32) : Option (Int32 × St) :=
  (f_X_isPayment n σ x1).bind fun o1 =>
  if o1.1 = 0 then
  some (0, o1.2)
  else
  if vin x1 100 then
  (dR o1.2 (sR o1.2 0 0 (Int32.toNatClampNeg x1))).bind fun k3 =>
  if (sI o1.2 9 k3 0) = 0 then
  some (1, o1.2)
  else
  some (0, o1.2)
  else none

def f_X_isPriority (n : Nat) (σ : St) (x1 : Int32) : Option (Int32 × St) :=
  if x1 < 0 then
  some (0, σ)
  else
  if 3 < x1 then
  some (0, σ)
  else
  some (1, σ)

def f_X_isLimit (n : Nat) (σ : St) (x1 : Int64) : Option (Int32 × St) :=
  if x1 = (-1) then
  some (1, σ)
  else
  if x1 < 0 then
  some (0, σ)
  else
  if 1000000000000000 < x1 then
  some (0, σ)
  else
  some (1, σ)

def f_X_exceeds (n : Nat) (σ : St) (x1 : Int64) (x2 : Int64) : Option (Int32 × St) :=
  if x2 = (-1) then
  some (0, σ)
  else
  if x1 ≤ x2 then
  some (0, σ)
  else
  some (1, σ)

def f_X_positionOf (n : Nat) (σ : St) (x1 : Int32) (x2 : Int32) : Option (Int64 × St) :=
  if vin x1 n then
  if vin x2 n then
  if vin x2 n then
  if vin x1 n then
  some ((sL σ 5 (Int32.toNatClampNeg x1) (Int32.toNatClampNeg x2)) - (sL σ 5 (Int32.toNatClampNeg x2) (Int32.toNatClampNeg x1)), σ)
  else none
  else none
  else none
  else none

def lp_X_totalPositionOf_5 (n : Nat) (k : St → Int64 → Option (Int64 × St)) : Nat → St → Int32 → Int64 → Int32 → Option (Int64 × St)
  | 0, _, _, _, _ => none
  | fu + 1, σ, v1, v2, v4 =>
  if (nI n) ≤ v4 then
  k σ v2
  else
  (f_X_positionOf n σ v1 v4).bind fun o1 =>
  lp_X_totalPositionOf_5 n k fu o1.2 v1 (v2 + o1.1) (v4 + 1)
theorem lp_X_totalPositionOf_5_s (n : Nat) (k : St → Int64 → Option (Int64 × St)) (fu : Nat) (σ : St) (v1 : Int32) (v2 : Int64) (v4 : Int32) : lp_X_totalPositionOf_5 n k (fu + 1) σ v1 v2 v4 =
  (if (nI n) ≤ v4 then
  k σ v2
  else
  (f_X_positionOf n σ v1 v4).bind fun o1 =>
  lp_X_totalPositionOf_5 n k fu o1.2 v1 (v2 + o1.1) (v4 + 1)) := rfl

def f_X_totalPositionOf (n : Nat) (σ : St) (x1 : Int32) : Option (Int64 × St) :=
  lp_X_totalPositionOf_5 n (fun σ3 y2_2 =>
  some (y2_2, σ3)) 1000 σ x1 0 0

def f_X_end (n : Nat) (σ : St) (x1 : Nat) (x2 : Int32) : Option (Unit × St) :=
  if x1 < sN σ then
  if vin (sI σ 5 x1 0) n then
  (f_B_remove n σ (Int32.toNatClampNeg (sI σ 5 x1 0)) x1).bind fun o3 =>
  if x1 < sN o3.2 then
  (some (wI o3.2 9 x1 0 x2)).bind fun σ5 =>
  some ((), σ5)
  else none
  else none
  else none

def f_X_settle (n : Nat) (σ : St) (x1 : Nat) (x2 : Int32) : Option (Unit × St) :=
  (f_X_end n σ x1 x2).bind fun o1 =>
  if x1 < sN o1.2 then
  if vin (sI o1.2 5 x1 0) n then
  if x1 < sN o1.2 then
  (some (wL o1.2 1 (Int32.toNatClampNeg (sI o1.2 5 x1 0)) 0 ((sL o1.2 1 (Int32.toNatClampNeg (sI o1.2 5 x1 0)) 0) - (sL o1.2 6 x1 0)))).bind fun σ5 =>
  if x1 < sN σ5 then
  if vin (sI σ5 6 x1 0) n then
  if x1 < sN σ5 then
  if vin (sI σ5 6 x1 0) n then
  (some (wL σ5 5 (Int32.toNatClampNeg (sI o1.2 5 x1 0)) (Int32.toNatClampNeg (sI σ5 6 x1 0)) ((sL σ5 5 (Int32.toNatClampNeg (sI o1.2 5 x1 0)) (Int32.toNatClampNeg (sI σ5 6 x1 0))) + (sL σ5 6 x1 0)))).bind fun σ10 =>
  if x1 < sN σ10 then
  if vin (sI σ10 6 x1 0) n then
  if x1 < sN σ10 then
  (some (wL σ10 1 (Int32.toNatClampNeg (sI σ10 6 x1 0)) 0 ((sL σ10 1 (Int32.toNatClampNeg (sI σ10 6 x1 0)) 0) + (sL σ10 6 x1 0)))).bind fun σ14 =>
  if x1 < sN σ14 then
  (some (wL σ14 0 0 0 ((sL σ14 0 0 0) + (sL σ14 6 x1 0)))).bind fun σ16 =>
  some ((), σ16)
  else none
  else none
  else none
  else none
  else none
  else none
  else none
  else none
  else none
  else none
  else none

def lp_X_settleChosen_16 (n : Nat) (k : St → Int32 → Option (Int32 × St)) : Nat → St → Int32 → Int32 → Int32 → Int32 → Option (Int32 × St)
  | 0, _, _, _, _, _ => none
  | fu + 1, σ, v1, v2, v3, v4 =>
  if vin v3 n then
  if (sI σ 2 0 (Int32.toNatClampNeg v3)) ≤ v4 then
  k σ v2
  else
  if vin v3 n then
  if (sI σ 3 (Int32.toNatClampNeg v3) 0) ≤ 0 then
  k σ v2
  else
  if vin v3 n then
  if vin 0 6 then
  (dR σ (sR σ 1 (Int32.toNatClampNeg v3) (Int32.toNatClampNeg 0))).bind fun k5 =>
  (f_X_settle n σ k5 v1).bind fun o6 =>
  lp_X_settleChosen_16 n k fu o6.2 v1 (v2 + 1) v3 (v4 + 1)
  else none
  else none
  else none
  else none
theorem lp_X_settleChosen_16_s (n : Nat) (k : St → Int32 → Option (Int32 × St)) (fu : Nat) (σ : St) (v1 : Int32) (v2 : Int32) (v3 : Int32) (v4 : Int32) : lp_X_settleChosen_16 n k (fu + 1) σ v1 v2 v3 v4 =
  (if vin v3 n then
  if (sI σ 2 0 (Int32.toNatClampNeg v3)) ≤ v4 then
  k σ v2
  else
  if vin v3 n then
  if (sI σ 3 (Int32.toNatClampNeg v3) 0) ≤ 0 then
  k σ v2
  else
  if vin v3 n then
  if vin 0 6 then
  (dR σ (sR σ 1 (Int32.toNatClampNeg v3) (Int32.toNatClampNeg 0))).bind fun k5 =>
  (f_X_settle n σ k5 v1).bind fun o6 =>
  lp_X_settleChosen_16 n k fu o6.2 v1 (v2 + 1) v3 (v4 + 1)
  else none
  else none
  else none
  else none) := rfl

def lp_X_settleChosen_4 (n : Nat) (k : St → Int32 → Option (Int32 × St)) : Nat → St → Int32 → Int32 → Int32 → Option (Int32 × St)
  | 0, _, _, _, _ => none
  | fu + 1, σ, v1, v2, v3 =>
  if (nI n) ≤ v3 then
  k σ v2
  else
  lp_X_settleChosen_16 n (fun σ8 y2_7 =>
  lp_X_settleChosen_4 n k fu σ8 v1 y2_7 (v3 + 1)) 1000 σ v1 v2 v3 0
theorem lp_X_settleChosen_4_s (n : Nat) (k : St → Int32 → Option (Int32 × St)) (fu : Nat) (σ : St) (v1 : Int32) (v2 : Int32) (v3 : Int32) : lp_X_settleChosen_4 n k (fu + 1) σ v1 v2 v3 =
  (if (nI n) ≤ v3 then
  k σ v2
  else
  lp_X_settleChosen_16 n (fun σ8 y2_7 =>
  lp_X_settleChosen_4 n k fu σ8 v1 y2_7 (v3 + 1)) 1000 σ v1 v2 v3 0) := rfl

def f_X_settleChosen (n : Nat) (σ : St) (x1 : Int32) : Option (Int32 × St) :=
  lp_X_settleChosen_4 n (fun σ10 y2_9 =>
  some (y2_9, σ10)) 1000 σ x1 0 0

def lp_X_wouldBeWell_15 (n : Nat) (k : St → Int64 → Int64 → Option (Int32 × St)) : Nat → St → Int32 → Nat → Int64 → Int64 → Int32 → Option (Int32 × St)
  | 0, _, _, _, _, _, _ => none
  | fu + 1, σ, v1, v2, v3, v5, v7 =>
  if (nI n) ≤ v7 then
  k σ v3 v5
  else
  if vin v1 n then
  (f_B_sentWith n σ v2 (sI σ 2 0 (Int32.toNatClampNeg v1)) v7).bind fun o3 =>
  if vin v7 n then
  if vin v7 n then
  (f_B_sentWith n o3.2 (Int32.toNatClampNeg v7) (sI o3.2 2 0 (Int32.toNatClampNeg v7)) v1).bind fun o6 =>
  if vin v7 n then
  (f_X_exceeds n o6.2 (o3.1 - o6.1) (sL o6.2 4 v2 (Int32.toNatClampNeg v7))).bind fun o8 =>
  if o8.1 = 0 then
  (f_X_positionOf n o8.2 v1 v7).bind fun o9 =>
  lp_X_wouldBeWell_15 n k fu o9.2 v1 v2 (v3 + (o3.1 - o6.1)) (v5 + ((o3.1 - o6.1) - o9.1)) (v7 + 1)
  else
  some (0, o8.2)
  else none
  else none
  else none
  else none
theorem lp_X_wouldBeWell_15_s (n : Nat) (k : St → Int64 → Int64 → Option (Int32 × St)) (fu : Nat) (σ : St) (v1 : Int32) (v2 : Nat) (v3 : Int64) (v5 : Int64) (v7 : Int32) : lp_X_wouldBeWell_15 n k (fu + 1) σ v1 v2 v3 v5 v7 =
  (if (nI n) ≤ v7 then
  k σ v3 v5
  else
  if vin v1 n then
  (f_B_sentWith n σ v2 (sI σ 2 0 (Int32.toNatClampNeg v1)) v7).bind fun o3 =>
  if vin v7 n then
  if vin v7 n then
  (f_B_sentWith n o3.2 (Int32.toNatClampNeg v7) (sI o3.2 2 0 (Int32.toNatClampNeg v7)) v1).bind fun o6 =>
  if vin v7 n then
  (f_X_exceeds n o6.2 (o3.1 - o6.1) (sL o6.2 4 v2 (Int32.toNatClampNeg v7))).bind fun o8 =>
  if o8.1 = 0 then
  (f_X_positionOf n o8.2 v1 v7).bind fun o9 =>
  lp_X_wouldBeWell_15 n k fu o9.2 v1 v2 (v3 + (o3.1 - o6.1)) (v5 + ((o3.1 - o6.1) - o9.1)) (v7 + 1)
  else
  some (0, o8.2)
  else none
  else none
  else none
  else none) := rfl

def f_X_wouldBeWell (n : Nat) (σ : St) (x1 : Int32) : Option (Int32 × St) :=
  if vin x1 n then
  lp_X_wouldBeWell_15 n (fun σ12 y3_10 y5_11 =>
  if ((sL σ12 1 (Int32.toNatClampNeg x1) 0) - y5_11) < (-(sL σ12 2 (Int32.toNatClampNeg x1) 0)) then
  some (0, σ12)
  else
  (f_X_exceeds n σ12 y3_10 (sL σ12 3 (Int32.toNatClampNeg x1) 0)).bind fun o13 =>
  if o13.1 = 0 then
  some (1, o13.2)
  else
  some (0, o13.2)) 1000 σ x1 (Int32.toNatClampNeg x1) 0 0 0
  else none

def lp_X_firstUnwellBank_2 (n : Nat) (k : St → Option (Int32 × St)) : Nat → St → Int32 → Option (Int32 × St)
  | 0, _, _ => none
  | fu + 1, σ, v1 =>
  if (nI n) ≤ v1 then
  k σ
  else
  (f_X_wouldBeWell n σ v1).bind fun o1 =>
  if o1.1 = 0 then
  some (v1, o1.2)
  else
  lp_X_firstUnwellBank_2 n k fu o1.2 (v1 + 1)
theorem lp_X_firstUnwellBank_2_s (n : Nat) (k : St → Option (Int32 × St)) (fu : Nat) (σ : St) (v1 : Int32) : lp_X_firstUnwellBank_2 n k (fu + 1) σ v1 =
  (if (nI n) ≤ v1 then
  k σ
  else
  (f_X_wouldBeWell n σ v1).bind fun o1 =>
  if o1.1 = 0 then
  some (v1, o1.2)
  else
  lp_X_firstUnwellBank_2 n k fu o1.2 (v1 + 1)) := rfl

def f_X_firstUnwellBank (n : Nat) (σ : St)  : Option (Int32 × St) :=
  lp_X_firstUnwellBank_2 n (fun σ2 =>
  some ((-1), σ2)) 1000 σ 0

def f_X_chooseHeads (n : Nat) (σ : St) (x1 : Int32) (x2 : Int32) : Option (Int32 × St) :=
  if n < 1000 then
  (some (fI σ 2 0 0)).bind fun σ2 =>
  if vin x1 n then
  (some (wI σ2 2 0 (Int32.toNatClampNeg x1) 1)).bind fun σ4 =>
  if vin x2 n then
  (some (wI σ4 2 0 (Int32.toNatClampNeg x2) 1)).bind fun σ6 =>
  (f_X_firstUnwellBank n σ6).bind fun o7 =>
  if o7.1 = (-1) then
  some (1, o7.2)
  else
  some (0, o7.2)
  else none
  else none
  else none

def lp_X_chooseReadyHead_2 (n : Nat) (k : St → Option (Int32 × St)) : Nat → St → Int32 → Option (Int32 × St)
  | 0, _, _ => none
  | fu + 1, σ, v1 =>
  if (nI n) ≤ v1 then
  k σ
  else
  if vin v1 n then
  if (sI σ 3 (Int32.toNatClampNeg v1) 0) ≤ 0 then
  lp_X_chooseReadyHead_2 n k fu σ (v1 + 1)
  else
  (f_X_chooseHeads n σ v1 v1).bind fun o2 =>
  if o2.1 = 0 then
  lp_X_chooseReadyHead_2 n k fu o2.2 (v1 + 1)
  else
  some (1, o2.2)
  else none
theorem lp_X_chooseReadyHead_2_s (n : Nat) (k : St → Option (Int32 × St)) (fu : Nat) (σ : St) (v1 : Int32) : lp_X_chooseReadyHead_2 n k (fu + 1) σ v1 =
  (if (nI n) ≤ v1 then
  k σ
  else
  if vin v1 n then
  if (sI σ 3 (Int32.toNatClampNeg v1) 0) ≤ 0 then
  lp_X_chooseReadyHead_2 n k fu σ (v1 + 1)
  else
  (f_X_chooseHeads n σ v1 v1).bind fun o2 =>
  if o2.1 = 0 then
  lp_X_chooseReadyHead_2 n k fu o2.2 (v1 + 1)
  else
  some (1, o2.2)
  else none) := rfl

def f_X_chooseReadyHead (n : Nat) (σ : St)  : Option (Int32 × St) :=
  lp_X_chooseReadyHead_2 n (fun σ3 =>
  some (0, σ3)) 1000 σ 0

def lp_X_chooseReadyPair_2 (n : Nat) (k : St → Option (Int32 × St)) : Nat → St → Int32 → Option (Int32 × St)
  | 0, _, _ => none
  | fu + 1, σ, v1 =>
  if (nI n) ≤ v1 then
  k σ
  else
  if vin v1 n then
  (f_B_headGoesTo n σ (Int32.toNatClampNeg v1)).bind fun o2 =>
  if o2.1 ≤ v1 then
  lp_X_chooseReadyPair_2 n k fu o2.2 (v1 + 1)
  else
  if vin o2.1 n then
  (f_B_headGoesTo n o2.2 (Int32.toNatClampNeg o2.1)).bind fun o4 =>
  if o4.1 = v1 then
  (f_X_chooseHeads n o4.2 v1 o2.1).bind fun o5 =>
  if o5.1 = 0 then
  lp_X_chooseReadyPair_2 n k fu o5.2 (v1 + 1)
  else
  some (1, o5.2)
  else
  lp_X_chooseReadyPair_2 n k fu o4.2 (v1 + 1)
  else none
  else none
theorem lp_X_chooseReadyPair_2_s (n : Nat) (k : St → Option (Int32 × St)) (fu : Nat) (σ : St) (v1 : Int32) : lp_X_chooseReadyPair_2 n k (fu + 1) σ v1 =
  (if (nI n) ≤ v1 then
  k σ
  else
  if vin v1 n then
  (f_B_headGoesTo n σ (Int32.toNatClampNeg v1)).bind fun o2 =>
  if o2.1 ≤ v1 then
  lp_X_chooseReadyPair_2 n k fu o2.2 (v1 + 1)
  else
  if vin o2.1 n then
  (f_B_headGoesTo n o2.2 (Int32.toNatClampNeg o2.1)).bind fun o4 =>
  if o4.1 = v1 then
  (f_X_chooseHeads n o4.2 v1 o2.1).bind fun o5 =>
  if o5.1 = 0 then
  lp_X_chooseReadyPair_2 n k fu o5.2 (v1 + 1)
  else
  some (1, o5.2)
  else
  lp_X_chooseReadyPair_2 n k fu o4.2 (v1 + 1)
  else none
  else none) := rfl

def f_X_chooseReadyPair (n : Nat) (σ : St)  : Option (Int32 × St) :=
  lp_X_chooseReadyPair_2 n (fun σ6 =>
  some (0, σ6)) 1000 σ 0

def lp_X_sweep_2 (n : Nat) (k : St → Option (Unit × St)) : Nat → St → Int32 → Option (Unit × St)
  | 0, _, _ => none
  | fu + 1, σ, v1 =>
  if 24 ≤ v1 then
  k σ
  else
  (f_X_chooseReadyHead n σ).bind fun o1 =>
  if o1.1 = 0 then
  (f_X_chooseReadyPair n o1.2).bind fun o2 =>
  if o2.1 = 0 then
  some ((), o2.2)
  else
  (f_X_settleChosen n o2.2 2).bind fun o3 =>
  lp_X_sweep_2 n k fu o3.2 (v1 + 1)
  else
  (f_X_settleChosen n o1.2 1).bind fun o4 =>
  lp_X_sweep_2 n k fu o4.2 (v1 + 1)
theorem lp_X_sweep_2_s (n : Nat) (k : St → Option (Unit × St)) (fu : Nat) (σ : St) (v1 : Int32) : lp_X_sweep_2 n k (fu + 1) σ v1 =
  (if 24 ≤ v1 then
  k σ
  else
  (f_X_chooseReadyHead n σ).bind fun o1 =>
  if o1.1 = 0 then
  (f_X_chooseReadyPair n o1.2).bind fun o2 =>
  if o2.1 = 0 then
  some ((), o2.2)
  else
  (f_X_settleChosen n o2.2 2).bind fun o3 =>
  lp_X_sweep_2 n k fu o3.2 (v1 + 1)
  else
  (f_X_settleChosen n o1.2 1).bind fun o4 =>
  lp_X_sweep_2 n k fu o4.2 (v1 + 1)) := rfl

def f_X_sweep (n : Nat) (σ : St)  : Option (Unit × St) :=
  lp_X_sweep_2 n (fun σ5 =>
  some ((), σ5)) 1000 σ 0

def lp_X_chooseGreatest_2 (n : Nat) (k : St → Option (Unit × St)) : Nat → St → Int32 → Option (Unit × St)
  | 0, _, _ => none
  | fu + 1, σ, v1 =>
  if (nI n) ≤ v1 then
  k σ
  else
  if vin v1 n then
  if vin v1 n then
  (some (wI σ 2 0 (Int32.toNatClampNeg v1) (sI σ 3 (Int32.toNatClampNeg v1) 0))).bind fun σ3 =>
  lp_X_chooseGreatest_2 n k fu σ3 (v1 + 1)
  else none
  else none
theorem lp_X_chooseGreatest_2_s (n : Nat) (k : St → Option (Unit × St)) (fu : Nat) (σ : St) (v1 : Int32) : lp_X_chooseGreatest_2 n k (fu + 1) σ v1 =
  (if (nI n) ≤ v1 then
  k σ
  else
  if vin v1 n then
  if vin v1 n then
  (some (wI σ 2 0 (Int32.toNatClampNeg v1) (sI σ 3 (Int32.toNatClampNeg v1) 0))).bind fun σ3 =>
  lp_X_chooseGreatest_2 n k fu σ3 (v1 + 1)
  else none
  else none) := rfl

def lp_X_chooseGreatest_34 (n : Nat) (k : St → Option (Unit × St)) : Nat → St → Int32 → Option (Unit × St)
  | 0, _, _ => none
  | fu + 1, σ, v1 =>
  if 24 ≤ v1 then
  k σ
  else
  (f_X_firstUnwellBank n σ).bind fun o5 =>
  if o5.1 = (-1) then
  some ((), o5.2)
  else
  if vin o5.1 n then
  if vin o5.1 n then
  (some (wI o5.2 2 0 (Int32.toNatClampNeg o5.1) ((sI o5.2 2 0 (Int32.toNatClampNeg o5.1)) - 1))).bind fun σ8 =>
  lp_X_chooseGreatest_34 n k fu σ8 (v1 + 1)
  else none
  else none
theorem lp_X_chooseGreatest_34_s (n : Nat) (k : St → Option (Unit × St)) (fu : Nat) (σ : St) (v1 : Int32) : lp_X_chooseGreatest_34 n k (fu + 1) σ v1 =
  (if 24 ≤ v1 then
  k σ
  else
  (f_X_firstUnwellBank n σ).bind fun o5 =>
  if o5.1 = (-1) then
  some ((), o5.2)
  else
  if vin o5.1 n then
  if vin o5.1 n then
  (some (wI o5.2 2 0 (Int32.toNatClampNeg o5.1) ((sI o5.2 2 0 (Int32.toNatClampNeg o5.1)) - 1))).bind fun σ8 =>
  lp_X_chooseGreatest_34 n k fu σ8 (v1 + 1)
  else none
  else none) := rfl

def f_X_chooseGreatest (n : Nat) (σ : St)  : Option (Unit × St) :=
  lp_X_chooseGreatest_2 n (fun σ4 =>
  lp_X_chooseGreatest_34 n (fun σ9 =>
  some ((), σ9)) 1000 σ4 0) 1000 σ 0

def f_X_fund (n : Nat) (σ : St) (x1 : Int32) (x2 : Int64) : Option (Int32 × St) :=
  (f_X_isBank n σ x1).bind fun o1 =>
  if o1.1 = 0 then
  some (0, o1.2)
  else
  if x2 < (-1000000000000) then
  some (0, o1.2)
  else
  if x2 ≤ 1000000000000 then
  if vin x1 n then
  if (-(sL o1.2 2 (Int32.toNatClampNeg x1) 0)) ≤ ((sL o1.2 1 (Int32.toNatClampNeg x1) 0) + x2) then
  (some (wL o1.2 1 (Int32.toNatClampNeg x1) 0 ((sL o1.2 1 (Int32.toNatClampNeg x1) 0) + x2))).bind fun σ3 =>
  (f_X_sweep n σ3).bind fun o4 =>
  some (1, o4.2)
  else
  some (0, o1.2)
  else none
  else
  some (0, o1.2)

def f_X_credit (n : Nat) (σ : St) (x1 : Int32) (x2 : Int64) : Option (Int32 × St) :=
  (f_X_isBank n σ x1).bind fun o1 =>
  if o1.1 = 0 then
  some (0, o1.2)
  else
  if x2 < 0 then
  some (0, o1.2)
  else
  if 1000000000000000 < x2 then
  some (0, o1.2)
  else
  if vin x1 n then
  if (-x2) ≤ (sL o1.2 1 (Int32.toNatClampNeg x1) 0) then
  if vin x1 n then
  (some (wL o1.2 2 (Int32.toNatClampNeg x1) 0 x2)).bind fun σ4 =>
  (f_X_sweep n σ4).bind fun o5 =>
  some (1, o5.2)
  else none
  else
  some (0, o1.2)
  else none

def f_X_limit (n : Nat) (σ : St) (x1 : Int32) (x2 : Int32) (x3 : Int64) : Option (Int32 × St) :=
  (f_X_areTwoBanks n σ x1 x2).bind fun o1 =>
  if o1.1 = 0 then
  some (0, o1.2)
  else
  (f_X_isLimit n o1.2 x3).bind fun o2 =>
  if o2.1 = 0 then
  some (0, o2.2)
  else
  (f_X_positionOf n o2.2 x1 x2).bind fun o3 =>
  (f_X_exceeds n o3.2 o3.1 x3).bind fun o4 =>
  if o4.1 = 0 then
  if vin x1 n then
  if vin x2 n then
  (some (wL o4.2 4 (Int32.toNatClampNeg x1) (Int32.toNatClampNeg x2) x3)).bind fun σ7 =>
  (f_X_sweep n σ7).bind fun o8 =>
  some (1, o8.2)
  else none
  else none
  else
  some (0, o4.2)

def f_X_totalLimit (n : Nat) (σ : St) (x1 : Int32) (x2 : Int64) : Option (Int32 × St) :=
  (f_X_isBank n σ x1).bind fun o1 =>
  if o1.1 = 0 then
  some (0, o1.2)
  else
  (f_X_isLimit n o1.2 x2).bind fun o2 =>
  if o2.1 = 0 then
  some (0, o2.2)
  else
  (f_X_totalPositionOf n o2.2 x1).bind fun o3 =>
  (f_X_exceeds n o3.2 o3.1 x2).bind fun o4 =>
  if o4.1 = 0 then
  if vin x1 n then
  (some (wL o4.2 3 (Int32.toNatClampNeg x1) 0 x2)).bind fun σ6 =>
  (f_X_sweep n σ6).bind fun o7 =>
  some (1, o7.2)
  else none
  else
  some (0, o4.2)

def f_X_cancel (n : Nat) (σ : St) (x1 : Int32) : Option (Int32 × St) :=
  (f_X_isQueued n σ x1).bind fun o1 =>
  if o1.1 = 0 then
  some (0, o1.2)
  else
  if vin x1 100 then
  (dR o1.2 (sR o1.2 0 0 (Int32.toNatClampNeg x1))).bind fun k3 =>
  (f_X_end n o1.2 k3 4).bind fun o4 =>
  (f_X_sweep n o4.2).bind fun o5 =>
  some (1, o5.2)
  else none

def f_X_urge (n : Nat) (σ : St) (x1 : Int32) (x2 : Int32) : Option (Int32 × St) :=
  (f_X_isQueued n σ x1).bind fun o1 =>
  if o1.1 = 0 then
  some (0, o1.2)
  else
  (f_X_isPriority n o1.2 x2).bind fun o2 =>
  if o2.1 = 0 then
  some (0, o2.2)
  else
  if vin x1 100 then
  (dR o2.2 (sR o2.2 0 0 (Int32.toNatClampNeg x1))).bind fun k4 =>
  if vin (sI o2.2 5 k4 0) n then
  (f_B_remove n o2.2 (Int32.toNatClampNeg (sI o2.2 5 k4 0)) k4).bind fun o6 =>
  if k4 < sN o6.2 then
  (some (wI o6.2 8 k4 0 x2)).bind fun σ8 =>
  (f_B_enqueue n σ8 (Int32.toNatClampNeg (sI o2.2 5 k4 0)) k4).bind fun o9 =>
  (f_X_sweep n o9.2).bind fun o10 =>
  some (1, o10.2)
  else none
  else none
  else none

def f_X_resolve (n : Nat) (σ : St)  : Option (Int32 × St) :=
  (f_X_chooseGreatest n σ).bind fun o1 =>
  (f_X_settleChosen n o1.2 3).bind fun o2 =>
  (f_X_sweep n o2.2).bind fun o3 =>
  some (o2.1, o3.2)

def lp_X_tick_28 (n : Nat) (k : St → Int32 → Option (Int32 × St)) : Nat → St → Int32 → Int32 → Option (Int32 × St)
  | 0, _, _, _ => none
  | fu + 1, σ, v2, v3 =>
  if (sI σ 0 0 0) ≤ v3 then
  k σ v2
  else
  (f_X_isQueued n σ v3).bind fun o2 =>
  if o2.1 = 0 then
  lp_X_tick_28 n k fu o2.2 v2 (v3 + 1)
  else
  if vin v3 100 then
  (dR o2.2 (sR o2.2 0 0 (Int32.toNatClampNeg v3))).bind fun k4 =>
  if (sI o2.2 1 0 0) ≤ (sI o2.2 7 k4 0) then
  lp_X_tick_28 n k fu o2.2 v2 (v3 + 1)
  else
  if vin v3 100 then
  (dR o2.2 (sR o2.2 0 0 (Int32.toNatClampNeg v3))).bind fun k6 =>
  (f_X_end n o2.2 k6 5).bind fun o7 =>
  lp_X_tick_28 n k fu o7.2 (v2 + 1) (v3 + 1)
  else none
  else none
theorem lp_X_tick_28_s (n : Nat) (k : St → Int32 → Option (Int32 × St)) (fu : Nat) (σ : St) (v2 : Int32) (v3 : Int32) : lp_X_tick_28 n k (fu + 1) σ v2 v3 =
  (if (sI σ 0 0 0) ≤ v3 then
  k σ v2
  else
  (f_X_isQueued n σ v3).bind fun o2 =>
  if o2.1 = 0 then
  lp_X_tick_28 n k fu o2.2 v2 (v3 + 1)
  else
  if vin v3 100 then
  (dR o2.2 (sR o2.2 0 0 (Int32.toNatClampNeg v3))).bind fun k4 =>
  if (sI o2.2 1 0 0) ≤ (sI o2.2 7 k4 0) then
  lp_X_tick_28 n k fu o2.2 v2 (v3 + 1)
  else
  if vin v3 100 then
  (dR o2.2 (sR o2.2 0 0 (Int32.toNatClampNeg v3))).bind fun k6 =>
  (f_X_end n o2.2 k6 5).bind fun o7 =>
  lp_X_tick_28 n k fu o7.2 (v2 + 1) (v3 + 1)
  else none
  else none) := rfl

def f_X_tick (n : Nat) (σ : St) (x1 : Int32) : Option (Int32 × St) :=
  if x1 < 1 then
  some ((-1), σ)
  else
  if x1 ≤ 1000 then
  (some (wI σ 1 0 0 ((sI σ 1 0 0) + x1))).bind fun σ1 =>
  lp_X_tick_28 n (fun σ9 y2_8 =>
  (f_X_sweep n σ9).bind fun o10 =>
  some (y2_8, o10.2)) 1000 σ1 0 0
  else
  some ((-1), σ)

def lp_X_close_4 (n : Nat) (k : St → Int32 → Option (Int32 × St)) : Nat → St → Int32 → Int32 → Option (Int32 × St)
  | 0, _, _, _ => none
  | fu + 1, σ, v1, v2 =>
  if (sI σ 0 0 0) ≤ v2 then
  k σ v1
  else
  (f_X_isQueued n σ v2).bind fun o1 =>
  if o1.1 = 0 then
  lp_X_close_4 n k fu o1.2 v1 (v2 + 1)
  else
  if vin v2 100 then
  (dR o1.2 (sR o1.2 0 0 (Int32.toNatClampNeg v2))).bind fun k3 =>
  (f_X_end n o1.2 k3 6).bind fun o4 =>
  lp_X_close_4 n k fu o4.2 (v1 + 1) (v2 + 1)
  else none
theorem lp_X_close_4_s (n : Nat) (k : St → Int32 → Option (Int32 × St)) (fu : Nat) (σ : St) (v1 : Int32) (v2 : Int32) : lp_X_close_4 n k (fu + 1) σ v1 v2 =
  (if (sI σ 0 0 0) ≤ v2 then
  k σ v1
  else
  (f_X_isQueued n σ v2).bind fun o1 =>
  if o1.1 = 0 then
  lp_X_close_4 n k fu o1.2 v1 (v2 + 1)
  else
  if vin v2 100 then
  (dR o1.2 (sR o1.2 0 0 (Int32.toNatClampNeg v2))).bind fun k3 =>
  (f_X_end n o1.2 k3 6).bind fun o4 =>
  lp_X_close_4 n k fu o4.2 (v1 + 1) (v2 + 1)
  else none) := rfl

def lp_X_close_52 (n : Nat) (k : St → Option (Int32 × St)) : Nat → St → Int32 → Int32 → Int32 → Option (Int32 × St)
  | 0, _, _, _, _ => none
  | fu + 1, σ, v1, v3, v4 =>
  if v3 ≤ v4 then
  k σ
  else
  if vin v4 n then
  if n < 1000 then
  (some (fL σ 5 (Int32.toNatClampNeg v4) 0)).bind fun σ9 =>
  lp_X_close_52 n k fu σ9 v1 v3 (v4 + 1)
  else none
  else none
theorem lp_X_close_52_s (n : Nat) (k : St → Option (Int32 × St)) (fu : Nat) (σ : St) (v1 : Int32) (v3 : Int32) (v4 : Int32) : lp_X_close_52 n k (fu + 1) σ v1 v3 v4 =
  (if v3 ≤ v4 then
  k σ
  else
  if vin v4 n then
  if n < 1000 then
  (some (fL σ 5 (Int32.toNatClampNeg v4) 0)).bind fun σ9 =>
  lp_X_close_52 n k fu σ9 v1 v3 (v4 + 1)
  else none
  else none) := rfl

def f_X_close (n : Nat) (σ : St)  : Option (Int32 × St) :=
  lp_X_close_4 n (fun σ6 y1_5 =>
  lp_X_close_52 n (fun σ10 =>
  some (y1_5, σ10)) 1000 σ6 y1_5 (nI n) 0) 1000 σ 0 0

def f_X_balance (n : Nat) (σ : St) (x1 : Int32) : Option (Int64 × St) :=
  (f_X_isBank n σ x1).bind fun o1 =>
  if o1.1 = 0 then
  some (0, o1.2)
  else
  if vin x1 n then
  some (sL o1.2 1 (Int32.toNatClampNeg x1) 0, o1.2)
  else none

def f_X_position (n : Nat) (σ : St) (x1 : Int32) (x2 : Int32) : Option (Int64 × St) :=
  (f_X_areTwoBanks n σ x1 x2).bind fun o1 =>
  if o1.1 = 0 then
  some (0, o1.2)
  else
  (f_X_positionOf n o1.2 x1 x2).bind fun o2 =>
  some (o2.1, o2.2)

def f_X_waiting (n : Nat) (σ : St) (x1 : Int32) : Option (Int32 × St) :=
  (f_X_isBank n σ x1).bind fun o1 =>
  if o1.1 = 0 then
  some ((-1), o1.2)
  else
  if vin x1 n then
  some (sI o1.2 3 (Int32.toNatClampNeg x1) 0, o1.2)
  else none

def f_X_queued (n : Nat) (σ : St) (x1 : Int32) (x2 : Int32) : Option (Int32 × St) :=
  (f_X_isBank n σ x1).bind fun o1 =>
  if o1.1 = 0 then
  some ((-1), o1.2)
  else
  if x2 < 0 then
  some ((-1), o1.2)
  else
  if vin x1 n then
  if x2 < (sI o1.2 3 (Int32.toNatClampNeg x1) 0) then
  if vin x1 n then
  if vin x2 6 then
  (dR o1.2 (sR o1.2 1 (Int32.toNatClampNeg x1) (Int32.toNatClampNeg x2))).bind fun k5 =>
  some (sI o1.2 4 k5 0, o1.2)
  else none
  else none
  else
  some ((-1), o1.2)
  else none

def f_X_state (n : Nat) (σ : St) (x1 : Int32) : Option (Int32 × St) :=
  (f_X_isPayment n σ x1).bind fun o1 =>
  if o1.1 = 0 then
  some ((-1), o1.2)
  else
  if vin x1 100 then
  (dR o1.2 (sR o1.2 0 0 (Int32.toNatClampNeg x1))).bind fun k3 =>
  some (sI o1.2 9 k3 0, o1.2)
  else none

def f_X_turnover (n : Nat) (σ : St)  : Option (Int64 × St) :=
  some (sL σ 0 0 0, σ)

def f_X_now (n : Nat) (σ : St)  : Option (Int32 × St) :=
  some (sI σ 1 0 0, σ)

