/-! Queues: remove, enqueue. -/
/-- only bank a's queue differs -/
def SQ (a : Nat) (σ σ' : St) : Prop := σ'.1 = σ.1 ∧ σ'.2.1 = σ.2.1 ∧ sN σ' = sN σ ∧ (∀ c i j, ¬ (c = 1 ∧ i = a) → sR σ' c i j = sR σ c i j) ∧ ∀ j k, sR σ' 1 a j = some k → k < sN σ ∨ sR σ 1 a j = some k
theorem SQ.rf {a : Nat} {σ : St} : SQ a σ σ := ⟨rfl, rfl, rfl, fun _ _ _ _ => rfl, fun _ _ h => Or.inr h⟩
theorem SQ.w {a : Nat} {σ σ' : St} (h : SQ a σ σ') (j k : Nat) (hk : k < sN σ) : SQ a σ (wR σ' 1 a j (some k)) := by
  refine ⟨h.1, h.2.1, h.2.2.1, fun c i j' hc => ?_, fun j' k' e => ?_⟩
  · rw [sR_wR, if_neg (fun q => hc ⟨q.1, q.2.1⟩)]
    exact h.2.2.2.1 c i j' hc
  · rw [sR_wR] at e
    by_cases hj : j' = j
    · rw [if_pos ⟨rfl, rfl, hj⟩] at e
      cases e
      exact Or.inl hk
    · rw [if_neg (fun q => hj q.2.2)] at e
      exact h.2.2.2.2 j' k' e
theorem SQ.eI {a : Nat} {σ σ' : St} (h : SQ a σ σ') (c i j : Nat) : sI σ' c i j = sI σ c i j := by
  show σ'.1 c i j = σ.1 c i j
  rw [h.1]
theorem SQ.eL {a : Nat} {σ σ' : St} (h : SQ a σ σ') (c i j : Nat) : sL σ' c i j = sL σ c i j := by
  show σ'.2.1 c i j = σ.2.1 c i j
  rw [h.2.1]
theorem flt_take {p : Nat → Bool} {L : List Nat} {i : Nat} (h : i < L.length) : (L.take (i + 1)).filter p = (L.take i).filter p ++ (if p L[i] then [L[i]] else []) := by
  rw [List.take_add_one, List.filter_append]
  congr 1
  rw [List.getElem?_eq_getElem h]
  simp [List.filter_cons]
theorem X_remove_lp {n : Nat} {σ : St} {Q : Nat → List Nat} (h : XQ n σ Q) {a : Nat} (ha : a < n) {x : Nat} (hx : x < sN σ) (k : St → Int32 → Option (Unit × St)) : ∀ (fu i : Nat) (σ' : St), SQ a σ σ' → i ≤ (Q a).length → (Q a).length < fu + i → (∀ (j : Nat) (hj : j < (((Q a).take i).filter (· != x)).length), sR σ' 1 a j = some (((Q a).take i).filter (· != x))[j]) → (∀ (j : Nat) (hj : j < (Q a).length), i ≤ j → sR σ' 1 a j = some (Q a)[j]) → ∃ σ2, SQ a σ σ2 ∧ (∀ (j : Nat) (hj : j < ((Q a).filter (· != x)).length), sR σ2 1 a j = some ((Q a).filter (· != x))[j]) ∧ lp_B_remove_4 n k fu σ' a x (nI (((Q a).take i).filter (· != x)).length) (nI i) = k σ2 (nI ((Q a).filter (· != x)).length) := by
  have hl6 := (h.2.2.2.2.2.1 a ha).1
  intro fu
  induction fu with
  | zero => intro i σ' _ h1 h2; omega
  | succ fu ih =>
    intro i σ' hs h1 h2 h3 h4
    have hkl : (((Q a).take i).filter (· != x)).length ≤ i := Nat.le_trans (List.length_filter_le _ _) (by rw [List.length_take]; omega)
    rw [lp_B_remove_4_s, hs.eI, (h.2.2.2.2.2.1 a ha).2.1]
    by_cases hi : i < (Q a).length
    · have hm := h.2.2.2.2.2.2.1 a ha _ (List.getElem_mem hi)
      have hd : dR σ' (sR σ' 1 a i) = some (Q a)[i] := by
        rw [h4 i hi (Nat.le_refl _)]
        exact dR_some (by rw [hs.2.2.1]; exact hm.1)
      rw [if_neg (nI_ge hi (by omega)), if_pos (vin_nI (show i < 6 by omega) (by omega))]
      simp only [nI_clamp (show i < 2 ^ 31 by omega)]
      rw [hd, Option.bind_some, if_pos (by rw [hs.2.2.1]; exact hx), nI_1]
      have ht := flt_take (p := (· != x)) hi
      by_cases he : (Q a)[i] = x
      · rw [if_pos he]
        have ht2 : (((Q a).take (i + 1)).filter (· != x)) = ((Q a).take i).filter (· != x) := by rw [ht]; simp [he]
        rw [← ht2]
        refine ih (i + 1) σ' hs (by omega) (by omega) ?_ (fun j hj g => h4 j hj (by omega))
        rw [ht2]; exact h3
      · rw [if_neg he, if_pos (vin_nI (show i < 6 by omega) (by omega)), Option.bind_some, if_pos (vin_nI (show (((Q a).take i).filter (· != x)).length < 6 by omega) (by omega)), Option.bind_some, nI_clamp (by omega), nI_1]
        have ht2 : (((Q a).take (i + 1)).filter (· != x)) = ((Q a).take i).filter (· != x) ++ [(Q a)[i]] := by rw [ht]; simp [he]
        have hlen : (((Q a).take (i + 1)).filter (· != x)).length = (((Q a).take i).filter (· != x)).length + 1 := by rw [ht2, List.length_append]; rfl
        rw [← hlen]
        refine ih (i + 1) _ (hs.w _ _ hm.1) (by omega) (by omega) (fun j hj => ?_) (fun j hj g => ?_)
        · rw [sR_wR]
          by_cases hj2 : j = (((Q a).take i).filter (· != x)).length
          · rw [if_pos ⟨rfl, rfl, hj2⟩]
            subst hj2
            simp only [ht2]
            rw [List.getElem_append_right (Nat.le_refl _)]
            simp
          · rw [if_neg (fun q => hj2 q.2.2)]
            have hj3 : j < (((Q a).take i).filter (· != x)).length := by omega
            rw [h3 j hj3]
            simp only [ht2]
            rw [List.getElem_append_left hj3]
        · rw [sR_wR, if_neg (fun q => by omega)]
          exact h4 j hj (by omega)
    · have : i = (Q a).length := by omega
      subst this
      rw [if_pos (nI_le (Nat.le_refl _) (by omega))]
      rw [List.take_length] at h3 ⊢
      exact ⟨σ', hs, h3, rfl⟩
