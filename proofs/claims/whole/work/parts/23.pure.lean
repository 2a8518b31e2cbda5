/-- only the choice at hand differs -/
def S2 (σ σ' : St) : Prop := σ'.2 = σ.2 ∧ ∀ c i j, c ≠ 2 → sI σ' c i j = sI σ c i j
theorem S2.rf {σ : St} : S2 σ σ := ⟨rfl, fun _ _ _ _ => rfl⟩
theorem S2.tr {σ σ1 σ2 : St} (h : S2 σ σ1) (h2 : S2 σ1 σ2) : S2 σ σ2 := ⟨h2.1.trans h.1, fun c i j hc => (h2.2 c i j hc).trans (h.2 c i j hc)⟩
theorem S2.eL {σ σ' : St} (h : S2 σ σ') (c i j : Nat) : sL σ' c i j = sL σ c i j := by
  show σ'.2.1 c i j = σ.2.1 c i j
  rw [h.1]
theorem S2.eR {σ σ' : St} (h : S2 σ σ') (c i j : Nat) : sR σ' c i j = sR σ c i j := by
  show σ'.2.2.1 c i j = σ.2.2.1 c i j
  rw [h.1]
theorem S2.eN {σ σ' : St} (h : S2 σ σ') : sN σ' = sN σ := by
  show σ'.2.2.2 = σ.2.2.2
  rw [h.1]
theorem S2.w {σ : St} (i j : Nat) (v : Int32) : S2 σ (wI σ 2 i j v) := ⟨rfl, fun c i' j' hc => by rw [sI_wI, if_neg (fun q => hc q.1)]⟩
theorem S2.f {σ : St} (i : Nat) (v : Int32) : S2 σ (fI σ 2 i v) := ⟨rfl, fun c i' j' hc => by rw [sI_fI, if_neg (fun q => hc q.1)]⟩
theorem S2.toXQ {n : Nat} {σ σ' : St} {Q : Nat → List Nat} (h : S2 σ σ') (hq : XQ n σ Q) : XQ n σ' Q := by
  unfold XQ VR at *
  simp only [h.eN, h.eR, h.2 0 _ _ (by decide), h.2 4 _ _ (by decide), h.2 5 _ _ (by decide), h.2 6 _ _ (by decide), h.2 3 _ _ (by decide), h.2 9 _ _ (by decide)]
  exact hq
theorem S2.toAdd {σ σ' : St} (h : S2 σ σ') (b : Nat) : ∀ (l : List Nat) (s : Int64), addTo σ' b l s = addTo σ b l s
  | [], _ => rfl
  | k :: l, s => by
    show addTo σ' b l (if _ then _ else _) = addTo σ b l (if _ then _ else _)
    rw [h.2 6 _ _ (by decide), h.eL, S2.toAdd h b l]
theorem S2.toS {σ σ' : St} (h : S2 σ σ') (Q : Nat → List Nat) (w : Nat → Nat) (a b : Nat) : xS σ' Q w a b = xS σ Q w a b := by
  unfold xS
  rw [h.toAdd, h.eL]
theorem S2.toBW {n : Nat} {σ σ' : St} (h : S2 σ σ') (Q : Nat → List Nat) (w : Nat → Nat) (a : Nat) : xBW n σ' Q w a ↔ xBW n σ Q w a := by
  unfold xBW BW xF
  simp only [h.toS, h.eL]
theorem X_first_lp {n : Nat} {σ : St} {Q : Nat → List Nat} (h : XQ n σ Q) {w : Nat → Nat} (hc : ∀ a, a < n → sI σ 2 0 a = nI (w a) ∧ w a < 1000) (k : St → Option (Int32 × St)) : ∀ (fu i : Nat), i ≤ n → n < fu + i → ((∀ a, i ≤ a → a < n → xBW n σ Q w a) ∧ lp_X_firstUnwellBank_2 n k fu σ (nI i) = k σ) ∨ (∃ a, a < n ∧ ¬ xBW n σ Q w a ∧ lp_X_firstUnwellBank_2 n k fu σ (nI i) = some (nI a, σ)) := by
  have hn := h.1.2
  intro fu
  induction fu with
  | zero => intro i h1 h2; omega
  | succ fu ih =>
    intro i h1 h2
    rw [lp_X_firstUnwellBank_2_s]
    by_cases hi : i < n
    · rw [if_neg (nI_ge hi (by omega))]
      by_cases hw : xBW n σ Q w i
      · rw [(X_well h hc hi).1 hw, Option.bind_some, if_neg n10, nI_1]
        rcases ih (i + 1) (by omega) (by omega) with ⟨g1, g2⟩ | g
        · refine Or.inl ⟨fun a g3 g4 => ?_, g2⟩
          by_cases e : a = i
          · rw [e]; exact hw
          · exact g1 a (by omega) g4
        · exact Or.inr g
      · rw [(X_well h hc hi).2 hw, Option.bind_some, if_pos rfl]
        exact Or.inr ⟨i, hi, hw, rfl⟩
    · have : i = n := by omega
      subst this
      rw [if_pos (nI_le (Nat.le_refl _) (by omega))]
      exact Or.inl ⟨fun a g1 g2 => absurd g2 (by omega), rfl⟩
theorem X_first {n : Nat} {σ : St} {Q : Nat → List Nat} (h : XQ n σ Q) {w : Nat → Nat} (hc : ∀ a, a < n → sI σ 2 0 a = nI (w a) ∧ w a < 1000) : ((∀ a, a < n → xBW n σ Q w a) ∧ f_X_firstUnwellBank n σ = some (-1, σ)) ∨ (∃ a, a < n ∧ ¬ xBW n σ Q w a ∧ f_X_firstUnwellBank n σ = some (nI a, σ)) := by
  have hn := h.1.2
  rcases X_first_lp h hc (fun σ2 => some ((-1), σ2)) 1000 0 (by omega) (by omega) with ⟨g1, g2⟩ | g
  · exact Or.inl ⟨fun a ha => g1 a (Nat.zero_le _) ha, g2⟩
  · exact Or.inr g
/-- the heads of a and b -/
def hd (a b j : Nat) : Nat := if j = a ∨ j = b then 1 else 0
theorem X_heads {n : Nat} {σ : St} {Q : Nat → List Nat} (h : XQ n σ Q) {a b : Nat} (ha : a < n) (hb : b < n) : ∃ σ', S2 σ σ' ∧ (∀ j, j < n → sI σ' 2 0 j = nI (hd a b j)) ∧ ((∀ j, j < n → xBW n σ Q (hd a b) j) → f_X_chooseHeads n σ (nI a) (nI b) = some (1, σ')) ∧ (¬ (∀ j, j < n → xBW n σ Q (hd a b) j) → f_X_chooseHeads n σ (nI a) (nI b) = some (0, σ')) := by
  have hn := h.1.2
  have hs : S2 σ (wI (wI (fI σ 2 0 0) 2 0 a 1) 2 0 b 1) := ((S2.f 0 0).tr (S2.w 0 a 1)).tr (S2.w 0 b 1)
  have hch : ∀ j, j < n → sI (wI (wI (fI σ 2 0 0) 2 0 a 1) 2 0 b 1) 2 0 j = nI (hd a b j) := by
    intro j hj
    rw [sI_wI, sI_wI, sI_fI]
    unfold hd
    by_cases h1 : j = b
    · rw [if_pos ⟨rfl, rfl, h1⟩, if_pos (Or.inr h1)]; rfl
    · rw [if_neg (fun q => h1 q.2.2)]
      by_cases h2 : j = a
      · rw [if_pos ⟨rfl, rfl, h2⟩, if_pos (Or.inl h2)]; rfl
      · rw [if_neg (fun q => h2 q.2.2), if_pos ⟨rfl, rfl⟩, if_neg (fun q => q.elim h2 h1)]; rfl
  refine ⟨_, hs, hch, ?_⟩
  have hd1 : ∀ j, hd a b j < 1000 := fun j => by unfold hd; split <;> omega
  have e : f_X_chooseHeads n σ (nI a) (nI b) = (f_X_firstUnwellBank n (wI (wI (fI σ 2 0 0) 2 0 a 1) 2 0 b 1)).bind fun o7 => if o7.1 = (-1) then some (1, o7.2) else some (0, o7.2) := by
    unfold f_X_chooseHeads
    rw [if_pos (by omega), Option.bind_some, if_pos (vin_nI ha (by omega)), Option.bind_some, if_pos (vin_nI hb (by omega)), Option.bind_some, nI_clamp (by omega), nI_clamp (by omega)]
  rw [e]
  rcases X_first (hs.toXQ h) (w := hd a b) (fun j hj => ⟨hch j hj, hd1 j⟩) with ⟨g1, g2⟩ | ⟨j, g1, g2, g3⟩
  · rw [g2, Option.bind_some, if_pos rfl]
    exact ⟨fun _ => rfl, fun g => absurd (fun j hj => (hs.toBW Q _ j).mp (g1 j hj)) g⟩
  · rw [g3, Option.bind_some, if_neg (fun e1 => nI_pos (show j < 2 ^ 31 by omega) (by rw [show nI j = -1 from e1]; decide))]
    exact ⟨fun g => absurd ((hs.toBW Q _ j).mpr (g j g1)) g2, fun _ => rfl⟩
theorem X_ready_head_lp {n : Nat} {Q : Nat → List Nat} (k : St → Option (Int32 × St)) : ∀ (fu i : Nat) (σ : St), XQ n σ Q → i ≤ n → n < fu + i → (∃ a σ', i ≤ a ∧ a < n ∧ Q a ≠ [] ∧ (∀ j, j < n → xBW n σ Q (hd a a) j) ∧ (∀ a', i ≤ a' → a' < a → Q a' = [] ∨ ¬ ∀ j, j < n → xBW n σ Q (hd a' a') j) ∧ S2 σ σ' ∧ (∀ j, j < n → sI σ' 2 0 j = nI (hd a a j)) ∧ lp_X_chooseReadyHead_2 n k fu σ (nI i) = some (1, σ')) ∨ (∃ σ', (∀ a', i ≤ a' → a' < n → Q a' = [] ∨ ¬ ∀ j, j < n → xBW n σ Q (hd a' a') j) ∧ S2 σ σ' ∧ lp_X_chooseReadyHead_2 n k fu σ (nI i) = k σ') := by
  intro fu
  induction fu with
  | zero => intro i σ h h1 h2; omega
  | succ fu ih =>
    intro i σ h h1 h2
    have hn := h.1.2
    rw [lp_X_chooseReadyHead_2_s]
    by_cases hi : i < n
    · have step : ∀ σ1, S2 σ σ1 → (Q i = [] ∨ ¬ ∀ j, j < n → xBW n σ Q (hd i i) j) → lp_X_chooseReadyHead_2 n k fu σ1 (nI i + 1) = lp_X_chooseReadyHead_2 n k fu σ1 (nI i + 1) → ((∃ a σ', i ≤ a ∧ a < n ∧ Q a ≠ [] ∧ (∀ j, j < n → xBW n σ Q (hd a a) j) ∧ (∀ a', i ≤ a' → a' < a → Q a' = [] ∨ ¬ ∀ j, j < n → xBW n σ Q (hd a' a') j) ∧ S2 σ σ' ∧ (∀ j, j < n → sI σ' 2 0 j = nI (hd a a j)) ∧ lp_X_chooseReadyHead_2 n k fu σ1 (nI i + 1) = some (1, σ')) ∨ (∃ σ', (∀ a', i ≤ a' → a' < n → Q a' = [] ∨ ¬ ∀ j, j < n → xBW n σ Q (hd a' a') j) ∧ S2 σ σ' ∧ lp_X_chooseReadyHead_2 n k fu σ1 (nI i + 1) = k σ')) := by
        intro σ1 hs hno _
        rw [nI_1]
        rcases ih (i + 1) σ1 (hs.toXQ h) (by omega) (by omega) with ⟨a, σ', g1, g2, g3, g4, g5, g6, g7, g8⟩ | ⟨σ', g1, g2, g3⟩
        · refine Or.inl ⟨a, σ', by omega, g2, g3, fun j hj => (hs.toBW Q _ j).mp (g4 j hj), fun a' g9 g10 => ?_, hs.tr g6, g7, g8⟩
          by_cases e : a' = i
          · rw [e]; exact hno
          · rcases g5 a' (by omega) g10 with g11 | g11
            · exact Or.inl g11
            · exact Or.inr (fun g12 => g11 (fun j hj => (hs.toBW Q _ j).mpr (g12 j hj)))
        · refine Or.inr ⟨σ', fun a' g9 g10 => ?_, hs.tr g2, g3⟩
          by_cases e : a' = i
          · rw [e]; exact hno
          · rcases g1 a' (by omega) g10 with g11 | g11
            · exact Or.inl g11
            · exact Or.inr (fun g12 => g11 (fun j hj => (hs.toBW Q _ j).mpr (g12 j hj)))
      rw [if_neg (nI_ge hi (by omega)), if_pos (vin_nI hi (by omega)), nI_clamp (by omega), (h.2.2.2.2.2.1 i hi).2.1]
      have hl6 := (h.2.2.2.2.2.1 i hi).1
      by_cases hq : Q i = []
      · rw [if_pos (by rw [hq]; decide)]
        exact step σ S2.rf (Or.inl hq) rfl
      · have hlen : 0 < (Q i).length := List.length_pos_iff.mpr hq
        rw [if_neg (nI_nle hlen (by omega))]
        obtain ⟨σ', hs, hch, g1, g2⟩ := X_heads h hi hi
        by_cases hr : ∀ j, j < n → xBW n σ Q (hd i i) j
        · rw [g1 hr, Option.bind_some, if_neg n10]
          exact Or.inl ⟨i, σ', Nat.le_refl _, hi, hq, hr, fun a' g3 g4 => absurd g4 (by omega), hs, hch, rfl⟩
        · rw [g2 hr, Option.bind_some, if_pos rfl]
          exact step σ' hs (Or.inr hr) rfl
    · have : i = n := by omega
      subst this
      rw [if_pos (nI_le (Nat.le_refl _) (by omega))]
      exact Or.inr ⟨σ, fun a' g1 g2 => absurd g2 (by omega), S2.rf, rfl⟩
/-- bank a's head goes to b and b's to a -/
def mtl (σ : St) (Q : Nat → List Nat) (a b : Nat) : Prop := ∃ k l q r, Q a = k :: q ∧ Q b = l :: r ∧ sI σ 6 k 0 = nI b ∧ sI σ 6 l 0 = nI a
theorem X_headGoesTo {n : Nat} {σ : St} {Q : Nat → List Nat} (h : XQ n σ Q) {a : Nat} (ha : a < n) : (Q a = [] → f_B_headGoesTo n σ a = some (-1, σ)) ∧ (∀ k q, Q a = k :: q → f_B_headGoesTo n σ a = some (sI σ 6 k 0, σ)) := by
  have hl6 := (h.2.2.2.2.2.1 a ha).1
  unfold f_B_headGoesTo
  rw [(h.2.2.2.2.2.1 a ha).2.1]
  refine ⟨fun hq => ?_, fun k q hq => ?_⟩
  · rw [hq, if_pos (by decide)]
  · have hlen : 0 < (Q a).length := by rw [hq]; exact Nat.succ_pos _
    have e : (Q a)[0] = k := by simp [hq]
    rw [if_neg (nI_nle hlen (by omega)), if_pos (by decide), show Int32.toNatClampNeg 0 = 0 from rfl, dR_q h ha hlen, Option.bind_some, e]
/-- the pair of a and b may go -/
def prd (n : Nat) (σ : St) (Q : Nat → List Nat) (a b : Nat) : Prop := mtl σ Q a b ∧ ∀ j, j < n → xBW n σ Q (hd a b) j
theorem S2.toPr {n : Nat} {σ σ' : St} (h : S2 σ σ') (Q : Nat → List Nat) (a b : Nat) : prd n σ' Q a b ↔ prd n σ Q a b := by
  unfold prd mtl
  simp only [h.2 6 _ _ (by decide), h.toBW]
theorem X_ready_pair_lp {n : Nat} {Q : Nat → List Nat} (k : St → Option (Int32 × St)) : ∀ (fu i : Nat) (σ : St), XQ n σ Q → i ≤ n → n < fu + i → (∃ a b σ', i ≤ a ∧ a < b ∧ b < n ∧ prd n σ Q a b ∧ (∀ a' b', i ≤ a' → a' < a → a' < b' → b' < n → ¬ prd n σ Q a' b') ∧ S2 σ σ' ∧ (∀ j, j < n → sI σ' 2 0 j = nI (hd a b j)) ∧ lp_X_chooseReadyPair_2 n k fu σ (nI i) = some (1, σ')) ∨ (∃ σ', (∀ a' b', i ≤ a' → a' < b' → b' < n → ¬ prd n σ Q a' b') ∧ S2 σ σ' ∧ lp_X_chooseReadyPair_2 n k fu σ (nI i) = k σ') := by
  intro fu
  induction fu with
  | zero => intro i σ h h1 h2; omega
  | succ fu ih =>
    intro i σ h h1 h2
    have hn := h.1.2
    rw [lp_X_chooseReadyPair_2_s]
    by_cases hi : i < n
    · have step : ∀ σ1, S2 σ σ1 → (∀ b', i < b' → b' < n → ¬ prd n σ Q i b') → ((∃ a b σ', i ≤ a ∧ a < b ∧ b < n ∧ prd n σ Q a b ∧ (∀ a' b', i ≤ a' → a' < a → a' < b' → b' < n → ¬ prd n σ Q a' b') ∧ S2 σ σ' ∧ (∀ j, j < n → sI σ' 2 0 j = nI (hd a b j)) ∧ lp_X_chooseReadyPair_2 n k fu σ1 (nI i + 1) = some (1, σ')) ∨ (∃ σ', (∀ a' b', i ≤ a' → a' < b' → b' < n → ¬ prd n σ Q a' b') ∧ S2 σ σ' ∧ lp_X_chooseReadyPair_2 n k fu σ1 (nI i + 1) = k σ')) := by
        intro σ1 hs hno
        rw [nI_1]
        rcases ih (i + 1) σ1 (hs.toXQ h) (by omega) (by omega) with ⟨a, b, σ', g1, g2, g3, g4, g5, g6, g7, g8⟩ | ⟨σ', g1, g2, g3⟩
        · refine Or.inl ⟨a, b, σ', by omega, g2, g3, (hs.toPr Q a b).mp g4, fun a' b' g9 g10 g11 g12 => ?_, hs.tr g6, g7, g8⟩
          by_cases e : a' = i
          · subst e; exact hno b' g11 g12
          · exact fun g13 => g5 a' b' (by omega) g10 g11 g12 ((hs.toPr Q a' b').mpr g13)
        · refine Or.inr ⟨σ', fun a' b' g9 g10 g11 => ?_, hs.tr g2, g3⟩
          by_cases e : a' = i
          · subst e; exact hno b' g10 g11
          · exact fun g13 => g1 a' b' (by omega) g10 g11 ((hs.toPr Q a' b').mpr g13)
      rw [if_neg (nI_ge hi (by omega)), if_pos (vin_nI hi (by omega)), nI_clamp (by omega)]
      cases hq : Q i with
      | nil =>
        rw [(X_headGoesTo h hi).1 hq, Option.bind_some, if_pos (show (-1 : Int32) ≤ nI i by rw [Int32.le_iff_toInt_le, nI_toInt (by omega)]; exact Int.le_trans (by decide) (Int.natCast_nonneg _))]
        exact step σ S2.rf (fun b' _ _ g => by obtain ⟨⟨k1, l1, q1, r1, e1, -⟩, -⟩ := g; rw [hq] at e1; cases e1)
      | cons k1 q1 =>
        have hk1 := h.2.2.2.2.2.2.1 i hi k1 (by rw [hq]; exact List.mem_cons_self)
        obtain ⟨a9, b, -, hbn, hab, e5, e6⟩ := h.2.2.2.2.1 k1 hk1.1
        rw [(X_headGoesTo h hi).2 k1 q1 hq, Option.bind_some]
        simp only []
        rw [e6]
        have huniq : ∀ b', b' < n → prd n σ Q i b' → b' = b := by
          intro b' hb' g
          obtain ⟨⟨k2, l2, q2, r2, e7, -, e8, -⟩, -⟩ := g
          rw [hq] at e7
          cases e7
          rw [e6] at e8
          exact (nI_inj (by omega) (by omega) e8).symm
        by_cases hbi : b ≤ i
        · rw [if_pos (nI_le hbi (by omega))]
          exact step σ S2.rf (fun b' g1 g2 g3 => by have := huniq b' g2 g3; omega)
        · rw [if_neg (nI_ge (by omega) (by omega)), if_pos (vin_nI hbn (by omega)), nI_clamp (by omega)]
          have hno : ∀ σ1, S2 σ σ1 → ¬ prd n σ Q i b → _ := fun σ1 hs g => step σ1 hs (fun b' g1 g2 g3 => g (by rw [← huniq b' g2 g3]; exact g3))
          cases hqb : Q b with
          | nil =>
            rw [(X_headGoesTo h hbn).1 hqb, Option.bind_some, if_neg (show ¬ (-1 : Int32) = nI i from fun e => nI_pos (show i < 2 ^ 31 by omega) (by rw [← e]; decide))]
            exact hno σ S2.rf (fun g => by obtain ⟨⟨k2, l2, q2, r2, -, e7, -⟩, -⟩ := g; rw [hqb] at e7; cases e7)
          | cons l1 r1 =>
            rw [(X_headGoesTo h hbn).2 l1 r1 hqb, Option.bind_some]
            simp only []
            by_cases hl : sI σ 6 l1 0 = nI i
            · rw [if_pos hl]
              obtain ⟨σ', hs, hch, g1, g2⟩ := X_heads h hi hbn
              by_cases hr : ∀ j, j < n → xBW n σ Q (hd i b) j
              · rw [g1 hr, Option.bind_some, if_neg n10]
                exact Or.inl ⟨i, b, σ', Nat.le_refl _, by omega, hbn, ⟨⟨k1, l1, q1, r1, hq, hqb, e6, hl⟩, hr⟩, fun a' b' g3 g4 => absurd g4 (by omega), hs, hch, rfl⟩
              · rw [g2 hr, Option.bind_some, if_pos rfl]
                exact hno σ' hs (fun g => hr g.2)
            · rw [if_neg hl]
              exact hno σ S2.rf (fun g => by
                obtain ⟨⟨k2, l2, q2, r2, -, e7, -, e8⟩, -⟩ := g
                rw [hqb] at e7
                cases e7
                exact hl e8)
    · have : i = n := by omega
      subst this
      rw [if_pos (nI_le (Nat.le_refl _) (by omega))]
      exact Or.inr ⟨σ, fun a' b' g1 g2 g3 => absurd g3 (by omega), S2.rf, rfl⟩
