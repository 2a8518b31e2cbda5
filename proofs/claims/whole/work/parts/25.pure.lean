/-- bank a's queue becomes L -/
def qup (Q : Nat → List Nat) (a : Nat) (L : List Nat) : Nat → List Nat := fun b => if b = a then L else Q b
theorem qup_s (Q : Nat → List Nat) (a : Nat) (L : List Nat) : qup Q a L a = L := if_pos rfl
theorem qup_n (Q : Nat → List Nat) {a b : Nat} (L : List Nat) (h : b ≠ a) : qup Q a L b = Q b := if_neg h
/-- a payment k of bank a has left its queue, and its fate is v -/
def ED (a k : Nat) (v : Int32) (σ σ' : St) : Prop := (∀ c i j, ¬ (c = 3 ∧ i = a) → ¬ (c = 9 ∧ i = k ∧ j = 0) → sI σ' c i j = sI σ c i j) ∧ sI σ' 9 k 0 = v ∧ (∀ c i j, sL σ' c i j = sL σ c i j) ∧ sN σ' = sN σ
theorem X_remove {n : Nat} {σ : St} {Q : Nat → List Nat} (h : XQ n σ Q) {a : Nat} (ha : a < n) {x : Nat} (hx : x < sN σ) : ∃ σ', f_B_remove n σ a x = some ((), σ') ∧ (∀ c i j, ¬ (c = 3 ∧ i = a) → sI σ' c i j = sI σ c i j) ∧ (∀ c i j, sL σ' c i j = sL σ c i j) ∧ sN σ' = sN σ ∧ XQ n σ' (qup Q a ((Q a).filter (· != x))) := by
  have hl6 := (h.2.2.2.2.2.1 a ha).1
  obtain ⟨σ2, hs, h2, h3⟩ := X_remove_lp h ha hx (fun σ9 y2_8 => (some (wI σ9 3 a 0 y2_8)).bind fun σ10 => some ((), σ10)) 1000 0 σ SQ.rf (by omega) (by omega) (fun j hj => by simp at hj) (fun j hj _ => (h.2.2.2.2.2.1 a ha).2.2 j hj)
  have hI : ∀ c i j, ¬ (c = 3 ∧ i = a) → sI (wI σ2 3 a 0 (nI ((Q a).filter (· != x)).length)) c i j = sI σ c i j := fun c i j hc => by rw [sI_wI, if_neg (fun q => hc ⟨q.1, q.2.1⟩), hs.eI]
  refine ⟨_, h3, hI, fun c i j => by rw [sL_wI, hs.eL], hs.2.2.1, ?_⟩
  have eN : sN (wI σ2 3 a 0 (nI ((Q a).filter (· != x)).length)) = sN σ := hs.2.2.1
  refine ⟨h.1, by rw [eN]; exact h.2.1, by rw [hI 0 0 0 (by omega), eN]; exact h.2.2.1, fun k hk => ?_, fun k hk => ?_, fun b hb => ?_, fun b hb k hk => ?_, fun c i j k e => ?_⟩
  · rw [eN] at hk
    rw [hI 4 k 0 (by omega), sR_wI, hs.2.2.2.1 0 0 k (by omega)]
    exact h.2.2.2.1 k hk
  · rw [eN] at hk
    obtain ⟨p, q, h4⟩ := h.2.2.2.2.1 k hk
    exact ⟨p, q, by rw [hI 5 k 0 (by omega), hI 6 k 0 (by omega)]; exact h4⟩
  · by_cases hba : b = a
    · subst hba
      rw [qup_s]
      refine ⟨Nat.le_trans (List.length_filter_le _ _) hl6, by rw [sI_wI, if_pos ⟨rfl, rfl, rfl⟩], fun i hi => ?_⟩
      rw [sR_wI]
      exact h2 i hi
    · rw [qup_n _ _ hba]
      obtain ⟨g1, g2, g3⟩ := h.2.2.2.2.2.1 b hb
      refine ⟨g1, by rw [hI 3 b 0 (fun q => hba q.2)]; exact g2, fun i hi => ?_⟩
      rw [sR_wI, hs.2.2.2.1 1 b i (fun q => hba q.2)]
      exact g3 i hi
  · have hk2 : k ∈ Q b := by
      by_cases hba : b = a
      · subst hba
        rw [qup_s] at hk
        exact (List.mem_filter.mp hk).1
      · rw [qup_n _ _ hba] at hk
        exact hk
    rw [eN, hI 5 k 0 (by omega), hI 9 k 0 (by omega)]
    exact h.2.2.2.2.2.2.1 b hb k hk2
  · rw [sR_wI] at e
    rw [eN]
    by_cases hc : c = 1 ∧ i = a
    · obtain ⟨rfl, rfl⟩ := hc
      rcases hs.2.2.2.2 j k e with h4 | h4
      · exact h4
      · exact h.2.2.2.2.2.2.2 1 i j k h4
    · rw [hs.2.2.2.1 c i j hc] at e
      exact h.2.2.2.2.2.2.2 c i j k e
/-- the store is in order after a change of what XQ doesn't speak of, or of the fate of one that isn't queued -/
theorem XQ.fate {n : Nat} {σ : St} {Q : Nat → List Nat} (h : XQ n σ Q) {x : Nat} (v : Int32) (hx : ∀ a, a < n → x ∉ Q a) : XQ n (wI σ 9 x 0 v) Q := by
  refine ⟨h.1, h.2.1, h.2.2.1, fun k hk => h.2.2.2.1 k hk, fun k hk => h.2.2.2.2.1 k hk, fun b hb => h.2.2.2.2.2.1 b hb, fun b hb k hk => ?_, fun c i j k e => h.2.2.2.2.2.2.2 c i j k e⟩
  obtain ⟨h1, h2, h3⟩ := h.2.2.2.2.2.2.1 b hb k hk
  refine ⟨h1, h2, ?_⟩
  rw [sI_wI, if_neg (fun q => hx b hb (by rw [← q.2.1]; exact hk))]
  exact h3
theorem XQ.prio {n : Nat} {σ : St} {Q : Nat → List Nat} (h : XQ n σ Q) {x : Nat} (v : Int32) : XQ n (wI σ 8 x 0 v) Q := ⟨h.1, h.2.1, h.2.2.1, fun k hk => h.2.2.2.1 k hk, fun k hk => h.2.2.2.2.1 k hk, fun b hb => h.2.2.2.2.2.1 b hb, fun b hb k hk => h.2.2.2.2.2.2.1 b hb k hk, fun c i j k e => h.2.2.2.2.2.2.2 c i j k e⟩
theorem XQ.long {n : Nat} {σ : St} {Q : Nat → List Nat} (h : XQ n σ Q) (c i j : Nat) (v : Int64) : XQ n (wL σ c i j v) Q := ⟨h.1, h.2.1, h.2.2.1, fun k hk => h.2.2.2.1 k hk, fun k hk => h.2.2.2.2.1 k hk, fun b hb => h.2.2.2.2.2.1 b hb, fun b hb k hk => h.2.2.2.2.2.2.1 b hb k hk, fun c i j k e => h.2.2.2.2.2.2.2 c i j k e⟩
theorem XQ.fL {n : Nat} {σ : St} {Q : Nat → List Nat} (h : XQ n σ Q) (c i : Nat) (v : Int64) : XQ n (fL σ c i v) Q := ⟨h.1, h.2.1, h.2.2.1, fun k hk => h.2.2.2.1 k hk, fun k hk => h.2.2.2.2.1 k hk, fun b hb => h.2.2.2.2.2.1 b hb, fun b hb k hk => h.2.2.2.2.2.2.1 b hb k hk, fun c i j k e => h.2.2.2.2.2.2.2 c i j k e⟩
theorem XQ.time {n : Nat} {σ : St} {Q : Nat → List Nat} (h : XQ n σ Q) (v : Int32) : XQ n (wI σ 1 0 0 v) Q := ⟨h.1, h.2.1, h.2.2.1, fun k hk => h.2.2.2.1 k hk, fun k hk => h.2.2.2.2.1 k hk, fun b hb => h.2.2.2.2.2.1 b hb, fun b hb k hk => h.2.2.2.2.2.2.1 b hb k hk, fun c i j k e => h.2.2.2.2.2.2.2 c i j k e⟩
theorem XQ.own {n : Nat} {σ : St} {Q : Nat → List Nat} (h : XQ n σ Q) {a b k : Nat} (ha : a < n) (hb : b < n) (h1 : k ∈ Q a) (h2 : k ∈ Q b) : a = b := by
  have hn := h.1.2
  exact nI_inj (by omega) (by omega) ((h.2.2.2.2.2.2.1 a ha k h1).2.1.symm.trans (h.2.2.2.2.2.2.1 b hb k h2).2.1)
theorem X_end {n : Nat} {σ : St} {Q : Nat → List Nat} (h : XQ n σ Q) {a k : Nat} (ha : a < n) (hk : k ∈ Q a) (v : Int32) : ∃ σ', f_X_end n σ k v = some ((), σ') ∧ ED a k v σ σ' ∧ XQ n σ' (qup Q a ((Q a).filter (· != k))) := by
  have hn := h.1.2
  obtain ⟨g1, g2, g3⟩ := h.2.2.2.2.2.2.1 a ha k hk
  obtain ⟨σ2, h2, h3, h4, h5, h6⟩ := X_remove h ha g1
  refine ⟨wI σ2 9 k 0 v, ?_, ⟨fun c i j hc hc2 => by rw [sI_wI, if_neg hc2, h3 c i j hc], by rw [sI_wI, if_pos ⟨rfl, rfl, rfl⟩], fun c i j => by rw [sL_wI, h4], h5⟩, h6.fate v (fun b hb hkb => ?_)⟩
  · unfold f_X_end
    rw [if_pos g1, g2, if_pos (vin_nI ha (by omega)), nI_clamp (by omega), h2, Option.bind_some, if_pos (by rw [h5]; exact g1)]
    rfl
  · by_cases hba : b = a
    · subst hba
      rw [qup_s] at hkb
      have := (List.mem_filter.mp hkb).2
      simp at this
    · rw [qup_n _ _ hba] at hkb
      exact hba (h.own hb ha hkb hk)
/-- a payment k from a to b of amount m was settled -/
def ST (a b k : Nat) (m : Int64) (v : Int32) (σ σ' : St) : Prop := (∀ c i j, ¬ (c = 3 ∧ i = a) → ¬ (c = 9 ∧ i = k ∧ j = 0) → sI σ' c i j = sI σ c i j) ∧ sI σ' 9 k 0 = v ∧ sN σ' = sN σ ∧ (∀ i, sL σ' 1 i 0 = if i = a then sL σ 1 a 0 - m else if i = b then sL σ 1 b 0 + m else sL σ 1 i 0) ∧ (∀ i j, sL σ' 5 i j = if i = a ∧ j = b then sL σ 5 a b + m else sL σ 5 i j) ∧ sL σ' 0 0 0 = sL σ 0 0 0 + m ∧ ∀ c i j, c ≠ 0 → c ≠ 1 → c ≠ 5 → sL σ' c i j = sL σ c i j
theorem X_settle {n : Nat} {σ : St} {Q : Nat → List Nat} (h : XQ n σ Q) {a b k : Nat} (ha : a < n) (hb : b < n) (hab : a ≠ b) (hk : k ∈ Q a) (ht : sI σ 6 k 0 = nI b) (v : Int32) : ∃ σ', f_X_settle n σ k v = some ((), σ') ∧ ST a b k (sL σ 6 k 0) v σ σ' ∧ XQ n σ' (qup Q a ((Q a).filter (· != k))) := by
  have hn := h.1.2
  obtain ⟨g1, g2, g3⟩ := h.2.2.2.2.2.2.1 a ha k hk
  obtain ⟨σ1, e1, ⟨d1, d2, d3, d4⟩, hq⟩ := X_end h ha hk v
  have f5 : sI σ1 5 k 0 = nI a := by rw [d1 5 k 0 (by omega) (by omega)]; exact g2
  have f6 : sI σ1 6 k 0 = nI b := by rw [d1 6 k 0 (by omega) (by omega)]; exact ht
  have fm : sL σ1 6 k 0 = sL σ 6 k 0 := d3 6 k 0
  have hk1 : k < sN σ1 := by rw [d4]; exact g1
  have e2 : f_X_settle n σ k v = some ((), wL (wL (wL (wL σ1 1 a 0 (sL σ1 1 a 0 - sL σ1 6 k 0)) 5 a b (sL σ1 5 a b + sL σ1 6 k 0)) 1 b 0 (sL σ1 1 b 0 + sL σ1 6 k 0)) 0 0 0 (sL σ1 0 0 0 + sL σ1 6 k 0)) := by
    unfold f_X_settle
    rw [e1, Option.bind_some]
    simp only [Option.bind_some, sI_wL, sN_wL, f5, f6, nI_clamp (show a < 2 ^ 31 by omega), nI_clamp (show b < 2 ^ 31 by omega)]
    rw [if_pos hk1, if_pos (vin_nI ha (by omega)), if_pos hk1, if_pos hk1, if_pos (vin_nI hb (by omega)), if_pos hk1, if_pos (vin_nI hb (by omega)), if_pos hk1, if_pos (vin_nI hb (by omega)), if_pos hk1, if_pos hk1]
    simp [sL_wL, Ne.symm hab, hab]
  refine ⟨_, e2, ⟨fun c i j hc hc2 => d1 c i j hc hc2, d2, d4, fun i => ?_, fun i j => ?_, ?_, fun c i j h0 h1 h5 => ?_⟩, (((hq.long _ _ _ _).long _ _ _ _).long _ _ _ _).long _ _ _ _⟩
  · simp only [sL_wL, fm, d3]
    by_cases hia : i = a
    · subst hia; simp [hab]
    · by_cases hib : i = b
      · subst hib; simp [hia]
      · simp [hia, hib]
  · simp only [sL_wL, fm, d3]
    by_cases hij : i = a ∧ j = b
    · obtain ⟨rfl, rfl⟩ := hij; simp
    · simp [hij]
  · simp only [sL_wL, fm, d3]
    simp
  · simp only [sL_wL, fm, d3]
    simp [h0, h1, h5]
