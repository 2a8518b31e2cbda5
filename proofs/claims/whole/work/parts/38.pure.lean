/-! A payment takes its place in a queue. -/
theorem X_enq_lp {n : Nat} {σ : St} {Q : Nat → List Nat} (h : XQ n σ Q) {a : Nat} (ha : a < n) {x : Nat} (hx : x < sN σ) (hl : (Q a).length < 6) (K : St → Int32 → Option (Unit × St)) : ∀ (fu p : Nat) (σ' : St), SQ a σ σ' → p ≤ (Q a).length → p < fu → (∀ (j : Nat) (hj : j < (Q a).length), j < p → sR σ' 1 a j = some (Q a)[j]) → (∀ (j : Nat) (hj : j < (Q a).length), p ≤ j → sR σ' 1 a (j + 1) = some (Q a)[j]) → (∀ (j : Nat) (hj : j < (Q a).length), p ≤ j → ¬ sI σ 8 x 0 ≤ sI σ 8 (Q a)[j] 0) → ∃ p' σ2, SQ a σ σ2 ∧ p' ≤ (Q a).length ∧ (∀ (j : Nat) (hj : j < (Q a).length), j < p' → sR σ2 1 a j = some (Q a)[j]) ∧ (∀ (j : Nat) (hj : j < (Q a).length), p' ≤ j → sR σ2 1 a (j + 1) = some (Q a)[j]) ∧ (∀ (j : Nat) (hj : j < (Q a).length), p' ≤ j → ¬ sI σ 8 x 0 ≤ sI σ 8 (Q a)[j] 0) ∧ (∀ (j : Nat) (hj : j < (Q a).length), j + 1 = p' → sI σ 8 x 0 ≤ sI σ 8 (Q a)[j] 0) ∧ lp_B_enqueue_18 n K fu σ' a x (nI p) = K σ2 (nI p') := by
  intro fu
  induction fu with
  | zero => intro p σ' _ _ h2; omega
  | succ fu ih =>
    intro p σ' hs h1 h2 h3 h4 h5
    rw [lp_B_enqueue_18_s]
    cases p with
    | zero =>
      rw [if_pos (show nI 0 ≤ 0 by decide)]
      exact ⟨0, σ', hs, h1, h3, h4, h5, fun j hj e => by omega, rfl⟩
    | succ p =>
      have hp : p < (Q a).length := by omega
      have hm := h.2.2.2.2.2.2.1 a ha _ (List.getElem_mem hp)
      have hd : dR σ' (sR σ' 1 a p) = some (Q a)[p] := by
        rw [h3 p hp (by omega)]
        exact dR_some (by rw [hs.2.2.1]; exact hm.1)
      rw [if_neg (nI_nle (by omega) (by omega)), nI_pred, if_pos (vin_nI (show p < 6 by omega) (by omega))]
      simp only [nI_clamp (show p < 2 ^ 31 by omega)]
      rw [hd, Option.bind_some, if_pos (by rw [hs.2.2.1]; exact hx), hs.eI, hs.eI]
      by_cases g : sI σ 8 x 0 ≤ sI σ 8 (Q a)[p] 0
      · rw [if_pos g]
        exact ⟨p + 1, σ', hs, h1, h3, h4, h5, fun j hj e => by
          have e : j = p := by omega
          subst e
          exact g, rfl⟩
      · rw [if_neg g, if_pos (vin_nI (show p < 6 by omega) (by omega)), Option.bind_some, if_pos (vin_nI (show p + 1 < 6 by omega) (by omega)), Option.bind_some, nI_clamp (by omega), pk_m1]
        refine ih p _ (hs.w _ _ hm.1) (by omega) (by omega) (fun j hj e => ?_) (fun j hj e => ?_) (fun j hj e => ?_)
        · rw [sR_wR, if_neg (fun q => by omega)]
          exact h3 j hj (by omega)
        · rw [sR_wR]
          by_cases e2 : j = p
          · subst e2
            rw [if_pos ⟨rfl, rfl, rfl⟩]
          · rw [if_neg (fun q => by omega)]
            exact h4 j hj (by omega)
        · by_cases e2 : j = p
          · subst e2
            exact g
          · exact h5 j hj (by omega)
theorem X_enqueue {n : Nat} {σ : St} {Q : Nat → List Nat} (h : XQ n σ Q) {a : Nat} (ha : a < n) {x : Nat} (hx : x < sN σ) (hl : (Q a).length < 6) (h5 : sI σ 5 x 0 = nI a) (h9 : sI σ 9 x 0 = 0) : ∃ p σ', p ≤ (Q a).length ∧ f_B_enqueue n σ a x = some ((), σ') ∧ (∀ c i j, ¬ (c = 3 ∧ i = a) → sI σ' c i j = sI σ c i j) ∧ (∀ c i j, sL σ' c i j = sL σ c i j) ∧ sN σ' = sN σ ∧ XQ n σ' (qup Q a ((Q a).take p ++ x :: (Q a).drop p)) ∧ (∀ (j : Nat) (hj : j < (Q a).length), p ≤ j → ¬ sI σ 8 x 0 ≤ sI σ 8 (Q a)[j] 0) ∧ (∀ (j : Nat) (hj : j < (Q a).length), j + 1 = p → sI σ 8 x 0 ≤ sI σ 8 (Q a)[j] 0) := by
  have eql := (h.2.2.2.2.2.1 a ha).2.1
  obtain ⟨p, σ2, hs, q1, q2, q3, q4, q5, q6⟩ := X_enq_lp h ha hx hl (fun σ9 y2_8 =>
  if x < sN σ9 then
  if vin y2_8 6 then
  (some (wR σ9 1 a (Int32.toNatClampNeg y2_8) (some x))).bind fun σ12 =>
  (some (wI σ12 3 a 0 ((sI σ12 3 a 0) + 1))).bind fun σ13 =>
  some ((), σ13)
  else none
  else none) 1000 (Q a).length σ SQ.rf (Nat.le_refl _) (by omega) (fun j hj _ => (h.2.2.2.2.2.1 a ha).2.2 j hj) (fun j hj e => by omega) (fun j hj e => by omega)
  have hs2 := hs.w p x hx
  have hI : ∀ c i j, ¬ (c = 3 ∧ i = a) → sI (wI (wR σ2 1 a p (some x)) 3 a 0 (nI ((Q a).length + 1))) c i j = sI σ c i j := fun c i j hc => by rw [sI_wI, if_neg (fun q => hc ⟨q.1, q.2.1⟩), hs2.eI]
  have eN : sN (wI (wR σ2 1 a p (some x)) 3 a 0 (nI ((Q a).length + 1))) = sN σ := hs2.2.2.1
  refine ⟨p, wI (wR σ2 1 a p (some x)) 3 a 0 (nI ((Q a).length + 1)), q1, ?_, hI, fun c i j => by rw [sL_wI, hs2.eL], eN, ?_, q4, q5⟩
  · unfold f_B_enqueue
    rw [eql, if_pos (nI_lt hl (by omega))]
    refine Eq.trans q6 ?_
    rw [if_pos (by rw [hs.2.2.1]; exact hx), if_pos (vin_nI (show p < 6 by omega) (by omega)), nI_clamp (by omega), Option.bind_some, Option.bind_some, hs2.eI, eql, nI_1]
  · refine ⟨h.1, by rw [eN]; exact h.2.1, by rw [hI 0 0 0 (by omega), eN]; exact h.2.2.1, fun k hk => ?_, fun k hk => ?_, fun b hb => ?_, fun b hb k hk => ?_, fun c i j k e => ?_⟩
    · rw [eN] at hk
      rw [hI 4 k 0 (by omega), sR_wI, hs2.2.2.2.1 0 0 k (by omega)]
      exact h.2.2.2.1 k hk
    · rw [eN] at hk
      obtain ⟨p, q, h4⟩ := h.2.2.2.2.1 k hk
      exact ⟨p, q, by rw [hI 5 k 0 (by omega), hI 6 k 0 (by omega)]; exact h4⟩
    · by_cases hba : b = a
      · subst hba
        rw [qup_s]
        have hlen : ((Q b).take p ++ x :: (Q b).drop p).length = (Q b).length + 1 := by
          rw [List.length_append, List.length_cons, List.length_take, List.length_drop]
          omega
        refine ⟨by omega, by rw [sI_wI, if_pos ⟨rfl, rfl, rfl⟩, hlen], fun i hi => ?_⟩
        rw [hlen] at hi
        rw [sR_wI, sR_wR]
        have hlt : ((Q b).take p).length = p := by rw [List.length_take]; omega
        rcases Nat.lt_trichotomy i p with e | e | e
        · rw [if_neg (fun q => by omega), q2 i (by omega) e, List.getElem_append_left (by omega), List.getElem_take]
        · subst e
          rw [if_pos ⟨rfl, rfl, rfl⟩, List.getElem_append_right (by omega)]
          simp [hlt]
        · rw [if_neg (fun q => by omega), List.getElem_append_right (by omega)]
          obtain ⟨i, rfl⟩ : ∃ j, i = j + 1 := ⟨i - 1, by omega⟩
          rw [q3 i (by omega) (by omega)]
          have e3 : i + 1 - ((Q b).take p).length = (i - p) + 1 := by omega
          simp only [e3, List.getElem_cons_succ, List.getElem_drop]
          congr 2
          omega
      · rw [qup_n _ _ hba]
        obtain ⟨g1, g2, g3⟩ := h.2.2.2.2.2.1 b hb
        refine ⟨g1, by rw [hI 3 b 0 (fun q => hba q.2)]; exact g2, fun i hi => ?_⟩
        rw [sR_wI, hs2.2.2.2.1 1 b i (fun q => hba q.2)]
        exact g3 i hi
    · rw [eN, hI 5 k 0 (by omega), hI 9 k 0 (by omega)]
      by_cases hba : b = a
      · subst hba
        rw [qup_s] at hk
        rcases List.mem_append.mp hk with g | g
        · exact h.2.2.2.2.2.2.1 b hb k (List.mem_of_mem_take g)
        · rcases List.mem_cons.mp g with g | g
          · subst g
            exact ⟨hx, h5, h9⟩
          · exact h.2.2.2.2.2.2.1 b hb k (List.mem_of_mem_drop g)
      · rw [qup_n _ _ hba] at hk
        exact h.2.2.2.2.2.2.1 b hb k hk
    · rw [sR_wI] at e
      rw [eN]
      by_cases hc : c = 1 ∧ i = a
      · obtain ⟨rfl, rfl⟩ := hc
        rcases hs2.2.2.2.2 j k e with h4 | h4
        · exact h4
        · exact h.2.2.2.2.2.2.2 1 i j k h4
      · rw [hs2.2.2.2.1 c i j hc] at e
        exact h.2.2.2.2.2.2.2 c i j k e
theorem enq_bef {m : St} {L : List Nat} {x p : Nat} (hL : L.Pairwise (bef m)) (hp : p ≤ L.length) (hs : ∀ y, y ∈ L → sI m 8 0 y < sI m 8 0 x) (h1 : ∀ (j : Nat) (hj : j < L.length), p ≤ j → ¬ sI m 6 0 x ≤ sI m 6 0 L[j]) (h2 : ∀ (j : Nat) (hj : j < L.length), j + 1 = p → sI m 6 0 x ≤ sI m 6 0 L[j]) : (L.take p ++ x :: L.drop p).Pairwise (bef m) := by
  have hg := List.pairwise_iff_getElem.mp hL
  rw [List.pairwise_append, List.pairwise_cons]
  refine ⟨hL.sublist (List.take_sublist _ _), ⟨fun y hy => ?_, hL.sublist (List.drop_sublist _ _)⟩, fun y hy z hz => ?_⟩
  · obtain ⟨j, hj, rfl⟩ := List.mem_iff_getElem.mp hy
    rw [List.getElem_drop]
    have := h1 (p + j) (by rw [List.length_drop] at hj; omega) (by omega)
    exact Or.inl (by rw [Int32.lt_iff_toInt_lt]; rw [Int32.le_iff_toInt_le] at this; omega)
  · obtain ⟨i, hi, rfl⟩ := List.mem_iff_getElem.mp hy
    have hi2 : i < p := by rw [List.length_take] at hi; omega
    rw [List.getElem_take]
    rcases List.mem_cons.mp hz with g | g
    · subst g
      obtain ⟨p, rfl⟩ : ∃ q, p = q + 1 := ⟨p - 1, by omega⟩
      have e1 := h2 p (by omega) rfl
      have e2 := hs _ (List.getElem_mem (show i < L.length by omega))
      have e3 : sI m 6 0 L[p] ≤ sI m 6 0 L[i] := by
        by_cases e : i = p
        · subst e
          rw [Int32.le_iff_toInt_le]
          omega
        · have := hg i p (by omega) (by omega) (by omega)
          unfold bef at this
          simp only [Int32.lt_iff_toInt_lt, Int32.le_iff_toInt_le, ← Int32.toInt_inj] at this ⊢
          omega
      unfold bef
      simp only [Int32.lt_iff_toInt_lt, Int32.le_iff_toInt_le, ← Int32.toInt_inj] at e1 e2 e3 ⊢
      omega
    · obtain ⟨j, hj, rfl⟩ := List.mem_iff_getElem.mp g
      rw [List.getElem_drop]
      rw [List.length_drop] at hj
      exact hg i (p + j) (by omega) (by omega) (by omega)
theorem enq_fin {c n S : Nat} {x m : St} {Q : Nat → List Nat} (hc : c < 512) (hX : XQ n x Q) {a k : Nat} (ha : a < n) (hk : k < sN x) (hl : (Q a).length < 6) (h5 : sI x 5 k 0 = nI a) (h9 : sI x 9 k 0 = 0) (hr : MR n x m) (hq : ∀ b, b < n → (∀ j, j < sN x → sI x 9 j 0 = 0 → sI x 5 j 0 = nI b → j ∈ Q b ∨ (b = a ∧ j = k)) ∧ (Q b).Pairwise (bef m)) (hst : ∀ y, y ∈ Q a → sI m 8 0 y < sI m 8 0 k) (hlo : LOK n x) (hW : AW n x) (hB : BD n (700 * c + 1) x) (hA : AM x) (hS : Stm S x m) (hSc : S ≤ c + 1) : ∃ x3 x' m', f_B_enqueue n x a k = some ((), x3) ∧ f_X_sweep n x3 = some ((), x') ∧ f_M_sweep 0 m = some ((), m') ∧ Rel (c + 1) n x' m' := by
  obtain ⟨p, x3, e1, e2, e3, e4, e5, e6, e7, e8⟩ := X_enqueue hX ha hk hl h5 h9
  have r6 : ∀ j, j < sN x → sI m 6 0 j = sI x 8 j 0 := fun j hj => (hr.2.2.2.2.2 j hj).2.2.2.1
  have hmem : ∀ (j : Nat) (hj : j < (Q a).length), (Q a)[j] < sN x := fun j hj => (hX.2.2.2.2.2.2.1 a ha _ (List.getElem_mem hj)).1
  suffices hcore : Core (700 * c + 1) n x3 m (qup Q a ((Q a).take p ++ k :: (Q a).drop p)) by
    obtain ⟨x', m', t1, t2, t3⟩ := fin_sw (S := S) hc hcore ⟨hS.1, fun j hj => hS.2 j (by rw [e5] at hj; exact hj)⟩ hSc
    exact ⟨x3, x', m', e2, t1, t2, t3⟩
  refine ⟨⟨e6, ?_, ?_, ?_⟩, ?_, ?_, ?_⟩
  · refine ⟨hr.1, by rw [e3 1 0 0 (by omega)]; exact hr.2.1, by rw [e4]; exact hr.2.2.1, by rw [e5]; exact hr.2.2.2.1, fun b hb => ?_, fun j hj => ?_⟩
    · simp only [e4]
      exact hr.2.2.2.2.1 b hb
    · rw [e5] at hj
      rw [e3 5 j 0 (by omega), e3 6 j 0 (by omega), e3 8 j 0 (by omega), e3 7 j 0 (by omega), e3 9 j 0 (by omega), e4]
      exact hr.2.2.2.2.2 j hj
  · intro b hb
    refine ⟨fun j hj g9 g5 => ?_, ?_⟩
    · rw [e5] at hj
      rw [e3 9 j 0 (by omega)] at g9
      rw [e3 5 j 0 (by omega)] at g5
      rcases (hq b hb).1 j hj g9 g5 with g | ⟨g1, g2⟩
      · by_cases hba : b = a
        · subst hba
          rw [qup_s]
          rw [← List.take_append_drop p (Q b)] at g
          rcases List.mem_append.mp g with g | g
          · exact List.mem_append.mpr (Or.inl g)
          · exact List.mem_append.mpr (Or.inr (List.mem_cons_of_mem _ g))
        · rw [qup_n _ _ hba]
          exact g
      · subst g1
        subst g2
        rw [qup_s]
        exact List.mem_append.mpr (Or.inr List.mem_cons_self)
    · by_cases hba : b = a
      · subst hba
        rw [qup_s]
        refine enq_bef (hq b hb).2 e1 hst (fun j hj g => ?_) (fun j hj g => ?_)
        · rw [r6 _ hk, r6 _ (hmem j hj)]
          exact e7 j hj g
        · rw [r6 _ hk, r6 _ (hmem j hj)]
          exact e8 j hj g
      · rw [qup_n _ _ hba]
        exact (hq b hb).2
  · unfold LOK at *
    simp only [e4]
    exact hlo
  · unfold AW at *
    simp only [e4]
    exact hW
  · unfold BD at *
    simp only [e4]
    exact hB
  · unfold AM at *
    simp only [e4, e5]
    exact hA
theorem po_urge : PO_urge Rel := by
  intro c n x m a1 a2 hc h
  obtain ⟨Q, S, hC, hst, hS⟩ := id h
  obtain ⟨⟨hX, hr, hq, hlo⟩, hW, hB, hA⟩ := id hC
  have hN := hX.2.1
  have hn := hX.1.2
  unfold f_X_urge f_M_urge
  rcases isQ_both hC.1 a1 with ⟨g1, g2⟩ | ⟨a, k, ha, hk, hkN, rfl, g1, g2⟩
  · rw [g1, g2, Option.bind_some, Option.bind_some, if_pos rfl, if_pos rfl]
    exact ⟨0, x, m, rfl, rfl, h.up⟩
  · have vk := vin_nI (show k < 100 by omega) (show 100 < 2 ^ 31 by omega)
    rw [g1, g2, Option.bind_some, Option.bind_some, if_neg n10, if_neg n10]
    unfold f_X_isPriority
    simp only [if_pos vk, nI_clamp (show k < 2 ^ 31 by omega)]
    by_cases p1 : a2 < 0
    · rw [if_pos p1, if_pos p1, Option.bind_some, if_pos rfl]
      exact ⟨0, x, m, rfl, rfl, h.up⟩
    · rw [if_neg p1, if_neg p1]
      by_cases p2 : a2 ≤ 3
      · rw [if_pos p2, if_neg (fun g : 3 < a2 => by rw [Int32.lt_iff_toInt_lt] at g; rw [Int32.le_iff_toInt_le] at p2; omega), Option.bind_some, if_neg n10]
        simp only []
        obtain ⟨k1, k2, k3⟩ := hX.2.2.2.2.2.2.1 a ha k hk
        obtain ⟨x1, f1, f2, f3, f4, f5⟩ := X_remove hX ha hkN
        rw [(hX.2.2.2.1 k hkN).1, dR_some hkN, Option.bind_some, k2, if_pos (vin_nI ha (by omega)), nI_clamp (by omega), f1, Option.bind_some, if_pos (show k < sN x1 by rw [f4]; exact hkN), Option.bind_some, Option.bind_some, Option.bind_some, Option.bind_some]
        have e3 : sI (wI m 6 0 k a2) 3 0 0 = nI S := hst.1
        rw [e3, nI_1]
        have e4 : sI (wI (wI m 6 0 k a2) 3 0 0 (nI (S + 1))) 3 0 0 = nI (S + 1) := rfl
        rw [e4]
        have hnk : k ∉ (Q a).filter (· != k) := fun g => by
          have := (List.mem_filter.mp g).2
          simp at this
        have hst2 : ∀ j, j < sN x → j ≠ k → sI (wI (wI (wI m 6 0 k a2) 3 0 0 (nI (S + 1))) 8 0 k (nI (S + 1))) 8 0 j = sI m 8 0 j := fun j hj e => by
          rw [sI_wI, if_neg (fun q => e q.2.2)]
          rfl
        have hkk : sI (wI (wI (wI m 6 0 k a2) 3 0 0 (nI (S + 1))) 8 0 k (nI (S + 1))) 8 0 k = nI (S + 1) := by rw [sI_wI, if_pos ⟨rfl, rfl, rfl⟩]
        have hm6 : ∀ j, j ≠ k → sI (wI (wI (wI m 6 0 k a2) 3 0 0 (nI (S + 1))) 8 0 k (nI (S + 1))) 6 0 j = sI m 6 0 j := fun j e => by
          show sI (wI m 6 0 k a2) 6 0 j = _
          rw [sI_wI, if_neg (fun q => e q.2.2)]
        have hm8 : ∀ j, j ≠ k → sI (wI (wI (wI m 6 0 k a2) 3 0 0 (nI (S + 1))) 8 0 k (nI (S + 1))) 8 0 j = sI m 8 0 j := fun j e => by
          rw [sI_wI, if_neg (fun q => e q.2.2)]
          rfl
        have hpw : ∀ L : List Nat, k ∉ L → L.Pairwise (bef m) → L.Pairwise (bef (wI (wI (wI m 6 0 k a2) 3 0 0 (nI (S + 1))) 8 0 k (nI (S + 1)))) := fun L hkL hL => by
          refine List.Pairwise.imp_of_mem (fun {i j} hi hj hb => ?_) hL
          have n1 : i ≠ k := fun e => hkL (e ▸ hi)
          have n2 : j ≠ k := fun e => hkL (e ▸ hj)
          unfold bef
          rw [hm6 i n1, hm6 j n2, hm8 i n1, hm8 j n2]
          exact hb
        obtain ⟨x3, x', m', t1, t2, t3, t4⟩ := enq_fin (S := S + 1) (x := wI x1 8 k 0 a2) (m := wI (wI (wI m 6 0 k a2) 3 0 0 (nI (S + 1))) 8 0 k (nI (S + 1))) (Q := qup Q a ((Q a).filter (· != k))) (a := a) (k := k) hc (f5.prio a2) ha (by rw [sN_wI, f4]; exact hkN) (by
            rw [qup_s]
            have : ((Q a).filter (· != k)).length < (Q a).length := List.length_filter_lt_length_iff_exists.mpr ⟨k, hk, by simp⟩
            have := (hX.2.2.2.2.2.1 a ha).1
            omega) (by rw [sI_wI, if_neg (fun q => by omega), f2 5 k 0 (by omega)]; exact k2) (by rw [sI_wI, if_neg (fun q => by omega), f2 9 k 0 (by omega)]; exact k3) ⟨hr.1, hr.2.1.trans (f2 1 0 0 (by omega)).symm, hr.2.2.1.trans (f3 0 0 0).symm, by rw [sN_wI, f4]; exact hr.2.2.2.1, fun b hb => by
              simp only [sL_wI, f3]
              exact hr.2.2.2.2.1 b hb, fun j hj => by
              rw [sN_wI, f4] at hj
              obtain ⟨u1, u2, u3, u4, u5, u6⟩ := hr.2.2.2.2.2 j hj
              simp only [sL_wI, f3]
              refine ⟨?_, ?_, u3, ?_, ?_, ?_⟩
              · rw [sI_wI x1, if_neg (fun q => by omega), f2 5 j 0 (by omega)]; exact u1
              · rw [sI_wI x1, if_neg (fun q => by omega), f2 6 j 0 (by omega)]; exact u2
              · rw [sI_wI x1]
                by_cases e : j = k
                · subst e
                  rw [if_pos ⟨rfl, rfl, rfl⟩]
                  show sI (wI m 6 0 j a2) 6 0 j = _
                  rw [sI_wI, if_pos ⟨rfl, rfl, rfl⟩]
                · rw [if_neg (fun q => e q.2.1), f2 8 j 0 (by omega), hm6 j e]
                  exact u4
              · rw [sI_wI x1, if_neg (fun q => by omega), f2 7 j 0 (by omega)]; exact u5
              · rw [sI_wI x1, if_neg (fun q => by omega), f2 9 j 0 (by omega)]; exact u6⟩ (fun b hb => ⟨fun j hj g9 g5 => by
              rw [sN_wI, f4] at hj
              rw [sI_wI, if_neg (fun q => by omega), f2 9 j 0 (by omega)] at g9
              rw [sI_wI, if_neg (fun q => by omega), f2 5 j 0 (by omega)] at g5
              have hm := (hq b hb).1 j hj g9 g5
              by_cases hba : b = a
              · subst hba
                by_cases e : j = k
                · exact Or.inr ⟨rfl, e⟩
                · rw [qup_s]
                  exact Or.inl (List.mem_filter.mpr ⟨hm, by simp [e]⟩)
              · rw [qup_n _ _ hba]
                exact Or.inl hm, by
              by_cases hba : b = a
              · subst hba
                rw [qup_s]
                exact hpw _ hnk ((hq b hb).2.filter _)
              · rw [qup_n _ _ hba]
                exact hpw _ (fun g => hba (hX.own hb ha g hk)) (hq b hb).2⟩) (fun y hy => by
              rw [qup_s] at hy
              have n1 : y ≠ k := fun e => hnk (e ▸ hy)
              have hy2 := (List.mem_filter.mp hy).1
              obtain ⟨t, ht, e⟩ := hst.2 y (hX.2.2.2.2.2.2.1 a ha y hy2).1
              rw [hm8 y n1, hkk, e]
              exact nI_lt (by omega) (by omega)) (by
              unfold LOK at *
              simp only [sL_wI, f3]
              exact hlo) (by
              unfold AW at *
              simp only [sL_wI, f3]
              exact hW) (by
              have hB := hB.up (show 700 * c ≤ 700 * c + 1 by omega)
              unfold BD at *
              simp only [sL_wI, f3]
              exact hB) (by
              unfold AM at *
              simp only [sL_wI, f3, sN_wI, f4]
              exact hA) ⟨rfl, fun j hj => by
              rw [sN_wI, f4] at hj
              by_cases e : j = k
              · subst e
                exact ⟨S + 1, Nat.le_refl _, hkk⟩
              · obtain ⟨t, ht, e2⟩ := hst.2 j hj
                exact ⟨t, by omega, by rw [hm8 j e]; exact e2⟩⟩ (by omega)
        rw [t1, t3, Option.bind_some, Option.bind_some, t2, Option.bind_some]
        exact ⟨1, x', m', rfl, rfl, t4⟩
      · rw [if_neg p2, if_pos (show 3 < a2 by rw [Int32.lt_iff_toInt_lt]; rw [Int32.le_iff_toInt_le] at p2; omega), Option.bind_some, if_pos rfl]
        exact ⟨0, x, m, rfl, rfl, h.up⟩
