/-! THE PURE PART. Numbers, sums, lists. -/
theorem ix_no {x : Int32} {n : Nat} (hn : n < 2 ^ 31) (h : ∀ j, j < n → x ≠ nI j) : x < 0 ∨ nI n ≤ x := by
  rcases pk_ix x hn with h1 | h1 | ⟨j, hj, rfl⟩
  · exact Or.inl h1
  · exact Or.inr h1
  · exact absurd rfl (h j hj)
theorem nI_inj {a b : Nat} (ha : a < 2 ^ 31) (hb : b < 2 ^ 31) (h : nI a = nI b) : a = b := (nI_eq ha hb).mp h
theorem n10 : ¬ (1 : Int32) = 0 := by decide
/-- the sum of the first ones -/
def sumN (f : Nat → Int64) : Nat → Int64
  | 0 => 0
  | n + 1 => sumN f n + f n
theorem sumN_congr {f g : Nat → Int64} : ∀ {n : Nat}, (∀ i, i < n → f i = g i) → sumN f n = sumN g n
  | 0, _ => rfl
  | n + 1, h => by
    show sumN f n + f n = sumN g n + g n
    rw [sumN_congr (fun i hi => h i (by omega)), h n (by omega)]
theorem sumN_zero {f : Nat → Int64} : ∀ {n : Nat}, (∀ i, i < n → f i = 0) → sumN f n = 0
  | 0, _ => rfl
  | n + 1, h => by
    show sumN f n + f n = 0
    rw [sumN_zero (fun i hi => h i (by omega)), h n (by omega)]
    rfl
theorem sumN_add (f g : Nat → Int64) : ∀ n : Nat, sumN (fun i => f i + g i) n = sumN f n + sumN g n
  | 0 => rfl
  | n + 1 => by
    show sumN (fun i => f i + g i) n + (f n + g n) = (sumN f n + f n) + (sumN g n + g n)
    rw [sumN_add f g n]
    grind
theorem sumN_one {f : Nat → Int64} {j : Nat} {v : Int64} : ∀ {n : Nat}, j < n → (∀ i, i < n → i ≠ j → f i = 0) → f j = v → sumN f n = v
  | 0, h, _, _ => absurd h (Nat.not_lt_zero _)
  | n + 1, h, h0, hv => by
    show sumN f n + f n = v
    by_cases hj : j = n
    · subst hj
      rw [sumN_zero (fun i hi => h0 i (by omega) (by omega)), hv]
      grind
    · rw [sumN_one (by omega) (fun i hi hn => h0 i (by omega) hn) hv, h0 n (by omega) (fun e => hj e.symm)]
      grind
/-- what the payments of a list add to what was sent to bank b -/
def addTo (σ : St) (b : Nat) : List Nat → Int64 → Int64
  | [], s => s
  | k :: l, s => addTo σ b l (if sI σ 6 k 0 = nI b then s + sL σ 6 k 0 else s)
/-- the desk's store is in order; Q: the banks' queues -/
def XQ (n : Nat) (σ : St) (Q : Nat → List Nat) : Prop :=
  (2 ≤ n ∧ n ≤ 4) ∧ sN σ ≤ 100 ∧ sI σ 0 0 0 = nI (sN σ) ∧ (∀ k, k < sN σ → sR σ 0 0 k = some k ∧ sI σ 4 k 0 = nI k) ∧
  (∀ k, k < sN σ → ∃ a b, a < n ∧ b < n ∧ a ≠ b ∧ sI σ 5 k 0 = nI a ∧ sI σ 6 k 0 = nI b) ∧
  (∀ a, a < n → (Q a).length ≤ 6 ∧ sI σ 3 a 0 = nI (Q a).length ∧ ∀ (i : Nat) (h : i < (Q a).length), sR σ 1 a i = some (Q a)[i]) ∧
  (∀ a, a < n → ∀ k, k ∈ Q a → k < sN σ ∧ sI σ 5 k 0 = nI a ∧ sI σ 9 k 0 = 0) ∧ VR σ
theorem X_isBank_yes {n j : Nat} (σ : St) (h : j < n) (hn : n ≤ 4) : f_X_isBank n σ (nI j) = some (1, σ) := by
  unfold f_X_isBank
  rw [if_neg (nI_pos (by omega)), if_neg (nI_ge h (by omega))]
theorem X_isBank_no {n : Nat} (σ : St) {x : Int32} (h : x < 0 ∨ nI n ≤ x) : f_X_isBank n σ x = some (0, σ) := by
  unfold f_X_isBank
  rcases h with h | h
  · rw [if_pos h]
  · by_cases h0 : x < 0
    · rw [if_pos h0]
    · rw [if_neg h0, if_pos h]
theorem X_two_yes {n a b : Nat} (σ : St) (ha : a < n) (hb : b < n) (hn : n ≤ 4) (hab : a ≠ b) : f_X_areTwoBanks n σ (nI a) (nI b) = some (1, σ) := by
  unfold f_X_areTwoBanks
  rw [X_isBank_yes σ ha hn, Option.bind_some]
  show (if (1 : Int32) = 0 then _ else _) = _
  rw [if_neg (by decide), X_isBank_yes σ hb hn, Option.bind_some]
  show (if (1 : Int32) = 0 then _ else _) = _
  rw [if_neg (by decide), if_neg (fun e => hab (nI_inj (by omega) (by omega) e))]
theorem X_two_no {n : Nat} (σ : St) {x y : Int32} (hn : n ≤ 4) (h : ¬ ∃ a b, a < n ∧ b < n ∧ a ≠ b ∧ x = nI a ∧ y = nI b) : f_X_areTwoBanks n σ x y = some (0, σ) := by
  unfold f_X_areTwoBanks
  rcases pk_ix x (show n < 2 ^ 31 by omega) with h1 | h1 | ⟨a, ha, rfl⟩
  · rw [X_isBank_no σ (Or.inl h1), Option.bind_some, if_pos rfl]
  · rw [X_isBank_no σ (Or.inr h1), Option.bind_some, if_pos rfl]
  · rw [X_isBank_yes σ ha hn, Option.bind_some]
    show (if (1 : Int32) = 0 then _ else _) = _
    rw [if_neg (by decide)]
    rcases pk_ix y (show n < 2 ^ 31 by omega) with h1 | h1 | ⟨b, hb, rfl⟩
    · rw [X_isBank_no σ (Or.inl h1), Option.bind_some, if_pos rfl]
    · rw [X_isBank_no σ (Or.inr h1), Option.bind_some, if_pos rfl]
    · rw [X_isBank_yes σ hb hn, Option.bind_some]
      show (if (1 : Int32) = 0 then _ else _) = _
      rw [if_neg (by decide)]
      by_cases hab : a = b
      · rw [if_pos (by rw [hab])]
      · exact absurd ⟨a, b, ha, hb, hab, rfl, rfl⟩ h
theorem X_pos {n a b : Nat} (σ : St) (ha : a < n) (hb : b < n) (hn : n ≤ 4) : f_X_positionOf n σ (nI a) (nI b) = some (sL σ 5 a b - sL σ 5 b a, σ) := by
  unfold f_X_positionOf
  rw [if_pos (vin_nI ha (by omega)), if_pos (vin_nI hb (by omega)), if_pos (vin_nI hb (by omega)), if_pos (vin_nI ha (by omega)), nI_clamp (by omega), nI_clamp (by omega)]
theorem X_total_lp {n a : Nat} (σ : St) (ha : a < n) (hn : n ≤ 4) (k : St → Int64 → Option (Int64 × St)) : ∀ (fu b : Nat), b ≤ n → n < fu + b → lp_X_totalPositionOf_5 n k fu σ (nI a) (sumN (fun b => sL σ 5 a b - sL σ 5 b a) b) (nI b) = k σ (sumN (fun b => sL σ 5 a b - sL σ 5 b a) n) := by
  intro fu
  induction fu with
  | zero => intro b h1 h2; omega
  | succ fu ih =>
    intro b h1 h2
    rw [lp_X_totalPositionOf_5_s]
    by_cases hb : b < n
    · rw [if_neg (nI_ge hb (by omega)), X_pos σ ha hb hn, Option.bind_some, nI_1]
      exact ih (b + 1) (by omega) (by omega)
    · have : b = n := by omega
      subst this
      rw [if_pos (nI_le (Nat.le_refl _) (by omega))]
theorem X_total {n a : Nat} (σ : St) (ha : a < n) (hn : n ≤ 4) : f_X_totalPositionOf n σ (nI a) = some (sumN (fun b => sL σ 5 a b - sL σ 5 b a) n, σ) := X_total_lp σ ha hn _ 1000 0 (by omega) (by omega)
theorem dR_q {n : Nat} {σ : St} {Q : Nat → List Nat} (h : XQ n σ Q) {a i : Nat} (ha : a < n) (hi : i < (Q a).length) : dR σ (sR σ 1 a i) = some (Q a)[i] := by
  rw [(h.2.2.2.2.2.1 a ha).2.2 i hi]
  exact dR_some (h.2.2.2.2.2.2.1 a ha _ (List.getElem_mem hi)).1
theorem X_sentWith_lp {n : Nat} {σ : St} {Q : Nat → List Nat} (h : XQ n σ Q) {a : Nat} (ha : a < n) (w b : Nat) (hw : w < 1000) (k : St → Int64 → Option (Int64 × St)) : ∀ (fu i : Nat) (s : Int64), i ≤ (Q a).length → (Q a).length < fu + i → lp_B_sentWith_10 n k fu σ a (nI w) (nI b) s (nI i) = k σ (addTo σ b (((Q a).take w).drop i) s) := by
  have hl6 := (h.2.2.2.2.2.1 a ha).1
  intro fu
  induction fu with
  | zero => intro i s h1 h2; omega
  | succ fu ih =>
    intro i s h1 h2
    rw [lp_B_sentWith_10_s]
    by_cases hw1 : w ≤ i
    · rw [if_pos (nI_le hw1 (by omega)), List.drop_eq_nil_of_le (by rw [List.length_take]; omega)]
      rfl
    · rw [if_neg (nI_ge (by omega) (by omega)), (h.2.2.2.2.2.1 a ha).2.1]
      by_cases hi : i < (Q a).length
      · have hlt : i < ((Q a).take w).length := by rw [List.length_take]; omega
        rw [if_neg (nI_ge hi (by omega)), if_pos (vin_nI (show i < 6 by omega) (by omega))]
        simp only [nI_clamp (show i < 2 ^ 31 by omega)]
        rw [dR_q h ha hi, Option.bind_some, List.drop_eq_getElem_cons hlt, nI_1]
        have hg : ((Q a).take w)[i] = (Q a)[i] := List.getElem_take
        rw [hg]
        by_cases ht : sI σ 6 (Q a)[i] 0 = nI b
        · rw [if_pos ht, if_pos (vin_nI (show i < 6 by omega) (by omega)), Option.bind_some, ih (i + 1) _ (by omega) (by omega)]
          show k σ _ = k σ (addTo σ b _ (if _ then _ else _))
          rw [if_pos ht]
        · rw [if_neg ht, ih (i + 1) _ (by omega) (by omega)]
          show k σ _ = k σ (addTo σ b _ (if _ then _ else _))
          rw [if_neg ht]
      · rw [if_pos (nI_le (by omega) (by omega)), List.drop_eq_nil_of_le (by rw [List.length_take]; omega)]
        rfl
theorem X_sentWith {n : Nat} {σ : St} {Q : Nat → List Nat} (h : XQ n σ Q) {a : Nat} (ha : a < n) (w b : Nat) (hw : w < 1000) (hb : b < n) : f_B_sentWith n σ a (nI w) (nI b) = some (addTo σ b ((Q a).take w) (sL σ 5 a b), σ) := by
  have hl6 := (h.2.2.2.2.2.1 a ha).1
  have hn := h.1.2
  unfold f_B_sentWith
  rw [if_pos (vin_nI hb (by omega)), nI_clamp (by omega)]
  exact X_sentWith_lp h ha w b hw _ 1000 0 _ (by omega) (by omega)
theorem X_exceeds {n : Nat} (σ : St) (x y : Int64) : (x ≤ y ∨ y = -1 → f_X_exceeds n σ x y = some (0, σ)) ∧ (¬ (x ≤ y ∨ y = -1) → f_X_exceeds n σ x y = some (1, σ)) := by
  unfold f_X_exceeds
  refine ⟨fun h => ?_, fun h => ?_⟩
  · by_cases h1 : y = -1
    · rw [if_pos h1]
    · rw [if_neg h1, if_pos (h.resolve_right h1)]
  · rw [if_neg (fun e => h (Or.inr e)), if_neg (fun e => h (Or.inl e))]
/-- the bank is well, with these funds and these sums sent -/
def BW (n : Nat) (lim : Nat → Nat → Int64) (tot cred F : Nat → Int64) (S : Nat → Nat → Int64) (a : Nat) : Prop := (∀ b, b < n → (S a b - S b a ≤ lim a b ∨ lim a b = -1)) ∧ ¬ F a < -(cred a) ∧ (sumN (fun b => S a b - S b a) n ≤ tot a ∨ tot a = -1)
/-- what would have been sent, with the first w a payments of each queue -/
def xS (σ : St) (Q : Nat → List Nat) (w : Nat → Nat) (a b : Nat) : Int64 := addTo σ b ((Q a).take (w a)) (sL σ 5 a b)
/-- the balances then -/
def xF (n : Nat) (σ : St) (Q : Nat → List Nat) (w : Nat → Nat) (a : Nat) : Int64 := sL σ 1 a 0 - sumN (fun b => (xS σ Q w a b - xS σ Q w b a) - (sL σ 5 a b - sL σ 5 b a)) n
def xBW (n : Nat) (σ : St) (Q : Nat → List Nat) (w : Nat → Nat) (a : Nat) : Prop := BW n (fun a b => sL σ 4 a b) (fun a => sL σ 3 a 0) (fun a => sL σ 2 a 0) (xF n σ Q w) (xS σ Q w) a
theorem X_well_lp {n : Nat} {σ : St} {Q : Nat → List Nat} (h : XQ n σ Q) {w : Nat → Nat} (hc : ∀ a, a < n → sI σ 2 0 a = nI (w a) ∧ w a < 1000) {a : Nat} (ha : a < n) (k : St → Int64 → Int64 → Option (Int32 × St)) : ∀ (fu b : Nat), b ≤ n → n < fu + b → ((∀ b', b ≤ b' → b' < n → (xS σ Q w a b' - xS σ Q w b' a ≤ sL σ 4 a b' ∨ sL σ 4 a b' = -1)) → lp_X_wouldBeWell_15 n k fu σ (nI a) a (sumN (fun b => xS σ Q w a b - xS σ Q w b a) b) (sumN (fun b => (xS σ Q w a b - xS σ Q w b a) - (sL σ 5 a b - sL σ 5 b a)) b) (nI b) = k σ (sumN (fun b => xS σ Q w a b - xS σ Q w b a) n) (sumN (fun b => (xS σ Q w a b - xS σ Q w b a) - (sL σ 5 a b - sL σ 5 b a)) n)) ∧ (¬ (∀ b', b ≤ b' → b' < n → (xS σ Q w a b' - xS σ Q w b' a ≤ sL σ 4 a b' ∨ sL σ 4 a b' = -1)) → lp_X_wouldBeWell_15 n k fu σ (nI a) a (sumN (fun b => xS σ Q w a b - xS σ Q w b a) b) (sumN (fun b => (xS σ Q w a b - xS σ Q w b a) - (sL σ 5 a b - sL σ 5 b a)) b) (nI b) = some (0, σ)) := by
  have hn := h.1.2
  intro fu
  induction fu with
  | zero => intro b h1 h2; omega
  | succ fu ih =>
    intro b h1 h2
    rw [lp_X_wouldBeWell_15_s]
    by_cases hb : b < n
    · have e1 : f_B_sentWith n σ a (sI σ 2 0 a) (nI b) = some (xS σ Q w a b, σ) := by rw [(hc a ha).1]; exact X_sentWith h ha _ _ (hc a ha).2 hb
      have e2 : f_B_sentWith n σ b (sI σ 2 0 b) (nI a) = some (xS σ Q w b a, σ) := by rw [(hc b hb).1]; exact X_sentWith h hb _ _ (hc b hb).2 ha
      rw [if_neg (nI_ge hb (by omega)), if_pos (vin_nI ha (by omega))]
      simp only [nI_clamp (show a < 2 ^ 31 by omega), nI_clamp (show b < 2 ^ 31 by omega)]
      rw [e1, Option.bind_some, if_pos (vin_nI hb (by omega)), if_pos (vin_nI hb (by omega))]
      simp only []
      rw [e2, Option.bind_some, if_pos (vin_nI hb (by omega))]
      have key : ∀ P : Nat → Prop, (∀ b', b ≤ b' → b' < n → P b') ↔ (P b ∧ ∀ b', b + 1 ≤ b' → b' < n → P b') := fun P => ⟨fun g => ⟨g b (Nat.le_refl _) hb, fun b' g1 g2 => g b' (by omega) g2⟩, fun g b' g1 g2 => by
        by_cases e : b' = b
        · rw [e]; exact g.1
        · exact g.2 b' (by omega) g2⟩
      rw [key]
      by_cases hx : xS σ Q w a b - xS σ Q w b a ≤ sL σ 4 a b ∨ sL σ 4 a b = -1
      · rw [(X_exceeds σ _ _).1 hx, Option.bind_some, if_pos rfl, X_pos σ ha hb hn, Option.bind_some, nI_1]
        obtain ⟨i1, i2⟩ := ih (b + 1) (by omega) (by omega)
        exact ⟨fun g => i1 g.2, fun g => i2 (fun g2 => g ⟨hx, g2⟩)⟩
      · rw [(X_exceeds σ _ _).2 hx, Option.bind_some, if_neg n10]
        exact ⟨fun g => absurd g.1 hx, fun _ => rfl⟩
    · have : b = n := by omega
      subst this
      rw [if_pos (nI_le (Nat.le_refl _) (by omega))]
      exact ⟨fun _ => rfl, fun g => absurd (fun b' g1 g2 => absurd g2 (by omega)) g⟩
theorem X_well {n : Nat} {σ : St} {Q : Nat → List Nat} (h : XQ n σ Q) {w : Nat → Nat} (hc : ∀ a, a < n → sI σ 2 0 a = nI (w a) ∧ w a < 1000) {a : Nat} (ha : a < n) : (xBW n σ Q w a → f_X_wouldBeWell n σ (nI a) = some (1, σ)) ∧ (¬ xBW n σ Q w a → f_X_wouldBeWell n σ (nI a) = some (0, σ)) := by
  have hn := h.1.2
  have e0 : ∀ f : Nat → Int64, (0 : Int64) = sumN f 0 := fun _ => rfl
  unfold f_X_wouldBeWell
  rw [if_pos (vin_nI ha (by omega)), nI_clamp (by omega)]
  obtain ⟨h1, h2⟩ := X_well_lp h hc ha (fun σ12 y3_10 y5_11 =>
    if ((sL σ12 1 a 0) - y5_11) < (-(sL σ12 2 a 0)) then
    some (0, σ12)
    else
    (f_X_exceeds n σ12 y3_10 (sL σ12 3 a 0)).bind fun o13 =>
    if o13.1 = 0 then
    some (1, o13.2)
    else
    some (0, o13.2)) 1000 0 (by omega) (by omega)
  by_cases g1 : ∀ b', 0 ≤ b' → b' < n → (xS σ Q w a b' - xS σ Q w b' a ≤ sL σ 4 a b' ∨ sL σ 4 a b' = -1)
  · have e1 := h1 g1
    by_cases g2 : xF n σ Q w a < -(sL σ 2 a 0)
    · refine ⟨fun g => absurd g2 g.2.1, fun _ => ?_⟩
      refine Eq.trans e1 ?_
      exact if_pos g2
    · by_cases g3 : sumN (fun b => xS σ Q w a b - xS σ Q w b a) n ≤ sL σ 3 a 0 ∨ sL σ 3 a 0 = -1
      · refine ⟨fun _ => ?_, fun g => absurd ⟨fun b hb => g1 b (Nat.zero_le _) hb, g2, g3⟩ g⟩
        refine Eq.trans e1 ?_
        refine Eq.trans (if_neg g2) ?_
        rw [(X_exceeds σ _ _).1 g3]
        rfl
      · refine ⟨fun g => absurd g.2.2 g3, fun _ => ?_⟩
        refine Eq.trans e1 ?_
        refine Eq.trans (if_neg g2) ?_
        rw [(X_exceeds σ _ _).2 g3]
        rfl
  · refine ⟨fun g => absurd (fun b' _ hb => g.1 b' hb) g1, fun _ => ?_⟩
    exact h2 g1
