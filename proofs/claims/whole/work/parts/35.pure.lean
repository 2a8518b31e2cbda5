theorem Rel.m2 {c n : Nat} {x m m' : St} (h : Rel c n x m) (hm : M2 m m') : Rel c n x m' := by
  obtain ⟨Q, S, ⟨h1, h2⟩, h5, h6⟩ := h
  exact ⟨Q, S, ⟨h1.m2 hm, h2⟩, ⟨by rw [hm.1 3 _ _ (by decide) (by decide) (by decide)]; exact h5.1, fun k hk => by rw [hm.1 8 _ _ (by decide) (by decide) (by decide)]; exact h5.2 k hk⟩, h6⟩
theorem queuedAt_lp {m : St} {N a : Nat} (hN : N ≤ 100) (hcN : sI m 2 0 0 = nI N) (p : Nat → Bool) (hp : ∀ j, j < N → (p j = true ↔ sI m 9 0 j = 0 ∧ sI m 4 0 j = nI a)) (K : St → Int32 → Option (Int32 × St)) : ∀ (fu j : Nat), j ≤ N → N < fu + j → lp_M_queuedAt_4 0 K fu m (nI a) (nI (cnt p j)) (nI j) = K m (nI (cnt p N)) := by
  intro fu
  induction fu with
  | zero => intro j h1 h2; omega
  | succ fu ih =>
    intro j h1 h2
    rw [lp_M_queuedAt_4_s, hcN]
    by_cases hj : j < N
    · have vj := vin_nI (show j < 100 by omega) (show 100 < 2 ^ 31 by omega)
      simp only [nI_clamp (show j < 2 ^ 31 by omega), if_pos vj]
      rw [if_neg (nI_ge hj (by omega))]
      have hno : ¬ (sI m 9 0 j = 0 ∧ sI m 4 0 j = nI a) → lp_M_queuedAt_4 0 K fu m (nI a) (nI (cnt p j)) (nI j + 1) = K m (nI (cnt p N)) := by
        intro hn
        have e : cnt p (j + 1) = cnt p j := by
          show cnt p j + (if p j then 1 else 0) = cnt p j
          rw [if_neg (fun g => hn ((hp j hj).mp g))]
          rfl
        rw [nI_1, ← e]
        exact ih (j + 1) (by omega) (by omega)
      by_cases h3 : sI m 9 0 j = 0
      · rw [if_pos h3]
        by_cases h4 : sI m 4 0 j = nI a
        · rw [if_pos h4]
          have e : cnt p (j + 1) = cnt p j + 1 := by
            show cnt p j + (if p j then 1 else 0) = cnt p j + 1
            rw [if_pos ((hp j hj).mpr ⟨h3, h4⟩)]
          rw [nI_1, nI_1, ← e]
          exact ih (j + 1) (by omega) (by omega)
        · rw [if_neg h4]
          exact hno (fun g => h4 g.2)
      · rw [if_neg h3]
        exact hno (fun g => h3 g.1)
    · have : j = N := by omega
      subst this
      rw [if_pos (nI_le (Nat.le_refl _) (by omega))]
theorem M_queuedAt {n : Nat} {x m : St} {Q : Nat → List Nat} (h : R0 n x m Q) {a : Nat} (ha : a < n) : f_M_queuedAt 0 m (nI a) = some (nI (Q a).length, m) := by
  obtain ⟨hX, hr, hq, -⟩ := h
  have hN := hX.2.1
  have hp : ∀ j, j < sN x → (decide (j ∈ Q a) = true ↔ sI m 9 0 j = 0 ∧ sI m 4 0 j = nI a) := by
    intro j hj
    obtain ⟨r1, -, -, -, -, r6⟩ := hr.2.2.2.2.2 j hj
    rw [decide_eq_true_iff, r6, r1]
    exact ⟨fun g => ⟨(hX.2.2.2.2.2.2.1 a ha j g).2.2, (hX.2.2.2.2.2.2.1 a ha j g).2.1⟩, fun g => (hq a ha).1 j hj g.1 g.2⟩
  have e := queuedAt_lp (a := a) hN hr.2.2.2.1 (fun j => decide (j ∈ Q a)) hp (fun σ4 y2_3 => some (y2_3, σ4)) 1000 0 (by omega) (by omega)
  refine Eq.trans e ?_
  rw [cnt_list (L := Q a) (bef_nodup (hq a ha).2) (fun y hy => (hX.2.2.2.2.2.2.1 a ha y hy).1) (fun j => decide_eq_true_iff)]
theorem po_waiting : PO_waiting Rel := by
  intro c n x m a1 hc h
  obtain ⟨Q, S, hC, -⟩ := id h
  have hn := hC.1.1.1.2
  have h0 := hC.1.2.1.1
  rcases bank_or a1 hn with g | ⟨j, hj, rfl⟩
  · refine ⟨-1, x, m, ?_, ?_, h.up⟩
    · unfold f_X_waiting
      rw [X_isBank_no x g, Option.bind_some, if_pos rfl]
    · unfold f_M_waiting
      rw [M_isBank_no h0 g, Option.bind_some, if_pos rfl]
  · refine ⟨nI (Q j).length, x, m, ?_, ?_, h.up⟩
    · unfold f_X_waiting
      rw [X_isBank_yes x hj hn, Option.bind_some, if_neg n10, if_pos (vin_nI hj (by omega)), nI_clamp (by omega)]
      simp only []
      rw [(hC.1.1.2.2.2.2.2.1 j hj).2.1]
    · unfold f_M_waiting
      rw [M_isBank_yes h0 hj hn, Option.bind_some, if_neg n10]
      simp only []
      rw [M_queuedAt hC.1 hj, Option.bind_some]
theorem po_queued : PO_queued Rel := by
  intro c n x m a1 a2 hc h
  obtain ⟨Q, S, hC, -⟩ := id h
  have hn := hC.1.1.1.2
  have h0 := hC.1.2.1.1
  rcases bank_or a1 hn with g | ⟨j, hj, rfl⟩
  · refine ⟨-1, x, m, ?_, ?_, h.up⟩
    · unfold f_X_queued
      rw [X_isBank_no x g, Option.bind_some, if_pos rfl]
    · unfold f_M_queued
      rw [M_isBank_no h0 g, Option.bind_some, if_pos rfl]
  · obtain ⟨m1, q1, q2, q3⟩ := M_lineUp hC.1.1 hC.1.2.1 hC.1.2.2.1
    have hl6 := (hC.1.1.2.2.2.2.2.1 j hj).1
    have eql := (hC.1.1.2.2.2.2.2.1 j hj).2.1
    have hmh : f_M_queued 0 m (nI j) a2 = if a2 < 0 then some ((-1), m1) else if a2 < nI (Q j).length then (if vin ((6 * nI j) + a2) 24 then some (sI m1 10 0 (Int32.toNatClampNeg ((6 * nI j) + a2)), m1) else none) else some ((-1), m1) := by
      unfold f_M_queued
      rw [M_isBank_yes h0 hj hn, Option.bind_some, if_neg n10]
      simp only []
      rw [q3, Option.bind_some, if_pos (vin_nI (show j < 4 by omega) (by omega)), nI_clamp (by omega)]
      simp only []
      rw [(q2.1 j hj).1]
    have hxh : f_X_queued n x (nI j) a2 = if a2 < 0 then some ((-1), x) else if a2 < nI (Q j).length then (if vin a2 6 then (dR x (sR x 1 j (Int32.toNatClampNeg a2))).bind fun k5 => some (sI x 4 k5 0, x) else none) else some ((-1), x) := by
      unfold f_X_queued
      rw [X_isBank_yes x hj hn, Option.bind_some, if_neg n10]
      simp only [nI_clamp (show j < 2 ^ 31 by omega)]
      rw [if_pos (vin_nI hj (by omega)), if_pos (vin_nI hj (by omega)), eql]
    rw [hmh, hxh]
    by_cases g : a2 < 0
    · rw [if_pos g, if_pos g]
      exact ⟨-1, x, m1, rfl, rfl, (h.m2 q1).up⟩
    · rw [if_neg g, if_neg g]
      by_cases g2 : a2 < nI (Q j).length
      · rw [if_pos g2, if_pos g2]
        obtain ⟨i, hi, rfl⟩ := nI_of g
        have hil : i < (Q j).length := (nI_ltI (by omega) (by omega)).mp g2
        obtain ⟨k1, -⟩ := hC.1.1.2.2.2.2.2.2.1 j hj _ (List.getElem_mem hil)
        refine ⟨nI (Q j)[i], x, m1, ?_, ?_, (h.m2 q1).up⟩
        · rw [if_pos (vin_nI (show i < 6 by omega) (by omega)), nI_clamp (by omega), dR_q hC.1.1 hj hil, Option.bind_some, (hC.1.1.2.2.2.1 _ k1).2]
        · rw [i6, if_pos (vin_nI (show 6 * j + i < 24 by omega) (by omega)), nI_clamp (by omega), (q2.1 j hj).2 i hil]
      · rw [if_neg g2, if_neg g2]
        exact ⟨-1, x, m1, rfl, rfl, (h.m2 q1).up⟩
theorem MR_w1 {n : Nat} {x m : St} (h : MR n x m) (a : Nat) (v : Int64) : MR n (wL x 1 a 0 v) (wL m 1 0 a v) := by
  refine ⟨h.1, h.2.1, h.2.2.1, h.2.2.2.1, fun c hc => ?_, h.2.2.2.2.2⟩
  obtain ⟨u1, u2, u3, u4⟩ := h.2.2.2.2.1 c hc
  refine ⟨?_, u2, u3, u4⟩
  rw [sL_wL, sL_wL]
  by_cases e : c = a
  · rw [if_pos ⟨rfl, rfl, e⟩, if_pos ⟨rfl, e, rfl⟩]
  · rw [if_neg (fun q => e q.2.2), if_neg (fun q => e q.2.1)]; exact u1
theorem MR_w2 {n : Nat} {x m : St} (h : MR n x m) (a : Nat) (v : Int64) : MR n (wL x 2 a 0 v) (wL m 2 0 a v) := by
  refine ⟨h.1, h.2.1, h.2.2.1, h.2.2.2.1, fun c hc => ?_, h.2.2.2.2.2⟩
  obtain ⟨u1, u2, u3, u4⟩ := h.2.2.2.2.1 c hc
  refine ⟨u1, ?_, u3, u4⟩
  rw [sL_wL, sL_wL]
  by_cases e : c = a
  · rw [if_pos ⟨rfl, rfl, e⟩, if_pos ⟨rfl, e, rfl⟩]
  · rw [if_neg (fun q => e q.2.2), if_neg (fun q => e q.2.1)]; exact u2
theorem MR_w3 {n : Nat} {x m : St} (h : MR n x m) (a : Nat) (v : Int64) : MR n (wL x 3 a 0 v) (wL m 3 0 a v) := by
  refine ⟨h.1, h.2.1, h.2.2.1, h.2.2.2.1, fun c hc => ?_, h.2.2.2.2.2⟩
  obtain ⟨u1, u2, u3, u4⟩ := h.2.2.2.2.1 c hc
  refine ⟨u1, u2, ?_, u4⟩
  rw [sL_wL, sL_wL]
  by_cases e : c = a
  · rw [if_pos ⟨rfl, rfl, e⟩, if_pos ⟨rfl, e, rfl⟩]
  · rw [if_neg (fun q => e q.2.2), if_neg (fun q => e q.2.1)]; exact u3
theorem MR_w4 {n : Nat} {x m : St} (hn : n ≤ 4) (h : MR n x m) {a b : Nat} (ha : a < n) (hb : b < n) (v : Int64) : MR n (wL x 4 a b v) (wL m 4 0 (4 * a + b) v) := by
  refine ⟨h.1, h.2.1, h.2.2.1, h.2.2.2.1, fun c hc => ?_, h.2.2.2.2.2⟩
  obtain ⟨u1, u2, u3, u4⟩ := h.2.2.2.2.1 c hc
  refine ⟨u1, u2, u3, fun d hd => ⟨?_, (u4 d hd).2⟩⟩
  rw [sL_wL, sL_wL]
  by_cases e : c = a ∧ d = b
  · rw [if_pos ⟨rfl, rfl, by omega⟩, if_pos ⟨rfl, e⟩]
  · rw [if_neg (fun q => e (by omega)), if_neg (fun q => e q.2)]; exact (u4 d hd).1
/-- both sides go on to the sweeping -/
theorem fin_sw {c n S : Nat} {x m : St} {Q : Nat → List Nat} (hc : c < 512) (h : Core (700 * c + 1) n x m Q) (hs : Stm S x m) (hS : S ≤ c + 1) : ∃ x' m', f_X_sweep n x = some ((), x') ∧ f_M_sweep 0 m = some ((), m') ∧ Rel (c + 1) n x' m' := by
  obtain ⟨x', m', t1, t2, Q', ⟨g1, g2, g3, g4⟩, g5⟩ := sweep_core (by omega) h hs
  exact ⟨x', m', t1, t2, Q', S, ⟨g1, g2, g3.up (by omega), g4⟩, g5, hS⟩
theorem po_fund : PO_fund Rel := by
  intro c n x m a1 a2 hc h
  obtain ⟨Q, S, ⟨hR, hW, hB, hA⟩, hst, hS⟩ := id h
  have hn := hR.1.1.2
  have h0 := hR.2.1.1
  rcases bank_or a1 hn with g | ⟨j, hj, rfl⟩
  · refine ⟨0, x, m, ?_, ?_, h.up⟩
    · unfold f_X_fund
      rw [X_isBank_no x g, Option.bind_some, if_pos rfl]
    · unfold f_M_fund
      rw [M_isBank_no h0 g, Option.bind_some, if_pos rfl]
  · obtain ⟨u1, u2, -⟩ := hR.2.1.2.2.2.2.1 j hj
    have hx : f_X_fund n x (nI j) a2 = if a2 < (-1000000000000) then some (0, x) else if a2 ≤ 1000000000000 then (if (-(sL x 2 j 0)) ≤ ((sL x 1 j 0) + a2) then (f_X_sweep n (wL x 1 j 0 (sL x 1 j 0 + a2))).bind fun o4 => some (1, o4.2) else some (0, x)) else some (0, x) := by
      unfold f_X_fund
      rw [X_isBank_yes x hj hn, Option.bind_some, if_neg n10]
      simp only [nI_clamp (show j < 2 ^ 31 by omega), Option.bind_some]
      rw [if_pos (vin_nI hj (by omega))]
    have v4 := vin_nI (show j < 4 by omega) (show 4 < 2 ^ 31 by omega)
    have hm : f_M_fund 0 m (nI j) a2 = if a2 < (-1000000000000) then some (0, m) else if 1000000000000 < a2 then some (0, m) else (if (-(sL x 2 j 0)) ≤ ((sL x 1 j 0) + a2) then (f_M_sweep 0 (wL m 1 0 j (sL x 1 j 0 + a2))).bind fun o4 => some (1, o4.2) else some (0, m)) := by
      unfold f_M_fund
      rw [M_isBank_yes h0 hj hn, Option.bind_some, if_neg n10]
      simp only [nI_clamp (show j < 2 ^ 31 by omega), if_pos v4, u1, u2, Option.bind_some]
    rw [hx, hm]
    by_cases g1 : a2 < (-1000000000000)
    · rw [if_pos g1, if_pos g1]
      exact ⟨0, x, m, rfl, rfl, h.up⟩
    · rw [if_neg g1, if_neg g1]
      by_cases g2 : a2 ≤ 1000000000000
      · rw [if_pos g2, if_neg (fun g3 : 1000000000000 < a2 => by rw [Int64.lt_iff_toInt_lt] at g3; rw [Int64.le_iff_toInt_le] at g2; omega)]
        by_cases g3 : (-(sL x 2 j 0)) ≤ ((sL x 1 j 0) + a2)
        · rw [if_pos g3, if_pos g3]
          have b2 : a2.toInt ≤ 1000000000000 := by rw [Int64.le_iff_toInt_le] at g2; exact g2
          have b1 : -1000000000000 ≤ a2.toInt := by
            rw [Int64.lt_iff_toInt_lt] at g1
            have : ((-1000000000000 : Int64)).toInt = -1000000000000 := by decide
            omega
          obtain ⟨⟨c1, c2⟩, -⟩ := hB j hj
          have e9 : (sL x 1 j 0 + a2).toInt = (sL x 1 j 0).toInt + a2.toInt := i64_add (by omega) (by omega)
          obtain ⟨x', m', t1, t2, t3⟩ := fin_sw (S := S) (Q := Q) (x := wL x 1 j 0 (sL x 1 j 0 + a2)) (m := wL m 1 0 j (sL x 1 j 0 + a2)) hc ⟨⟨hR.1.long _ _ _ _, MR_w1 hR.2.1 _ _, hR.2.2.1, hR.2.2.2⟩, fun a ha => by
            obtain ⟨w1, w2, w3⟩ := hW a ha
            refine ⟨w1, ?_, w3⟩
            show ¬ sL (wL x 1 j 0 (sL x 1 j 0 + a2)) 1 a 0 < _
            rw [sL_wL]
            by_cases e : a = j
            · subst e
              rw [if_pos ⟨rfl, rfl, rfl⟩]
              intro g4
              have g4 : sL x 1 a 0 + a2 < -(sL x 2 a 0) := g4
              rw [Int64.lt_iff_toInt_lt] at g4
              rw [Int64.le_iff_toInt_le] at g3
              omega
            · rw [if_neg (fun q => e q.2.1)]
              exact w2, fun a ha => ⟨by
              rw [sL_wL]
              by_cases e : a = j
              · subst e
                rw [if_pos ⟨rfl, rfl, rfl⟩, e9]
                omega
              · rw [if_neg (fun q => e q.2.1)]
                exact ((hB.up (show 700 * c ≤ 700 * c + 1 by omega)) a ha).1, ((hB.up (show 700 * c ≤ 700 * c + 1 by omega)) a ha).2⟩, hA⟩ hst (by omega)
          rw [t1, t2]
          exact ⟨1, x', m', rfl, rfl, t3⟩
        · rw [if_neg g3, if_neg g3]
          exact ⟨0, x, m, rfl, rfl, h.up⟩
      · rw [if_neg g2, if_pos (by rw [Int64.lt_iff_toInt_lt]; rw [Int64.le_iff_toInt_le] at g2; omega)]
        exact ⟨0, x, m, rfl, rfl, h.up⟩
theorem po_credit : PO_credit Rel := by
  intro c n x m a1 a2 hc h
  obtain ⟨Q, S, ⟨hR, hW, hB, hA⟩, hst, hS⟩ := id h
  have hn := hR.1.1.2
  have h0 := hR.2.1.1
  rcases bank_or a1 hn with g | ⟨j, hj, rfl⟩
  · refine ⟨0, x, m, ?_, ?_, h.up⟩
    · unfold f_X_credit
      rw [X_isBank_no x g, Option.bind_some, if_pos rfl]
    · unfold f_M_credit
      rw [M_isBank_no h0 g, Option.bind_some, if_pos rfl]
  · obtain ⟨u1, u2, -⟩ := hR.2.1.2.2.2.2.1 j hj
    have vj := vin_nI hj (show n < 2 ^ 31 by omega)
    have v4 := vin_nI (show j < 4 by omega) (show 4 < 2 ^ 31 by omega)
    have hx : f_X_credit n x (nI j) a2 = if a2 < 0 then some (0, x) else if 1000000000000000 < a2 then some (0, x) else (if (-a2) ≤ (sL x 1 j 0) then (f_X_sweep n (wL x 2 j 0 a2)).bind fun o4 => some (1, o4.2) else some (0, x)) := by
      unfold f_X_credit
      rw [X_isBank_yes x hj hn, Option.bind_some, if_neg n10]
      simp only [nI_clamp (show j < 2 ^ 31 by omega), if_pos vj, Option.bind_some]
    have hm : f_M_credit 0 m (nI j) a2 = if a2 < 0 then some (0, m) else if 1000000000000000 < a2 then some (0, m) else (if (-a2) ≤ (sL x 1 j 0) then (f_M_sweep 0 (wL m 2 0 j a2)).bind fun o4 => some (1, o4.2) else some (0, m)) := by
      unfold f_M_credit
      rw [M_isBank_yes h0 hj hn, Option.bind_some, if_neg n10]
      simp only [nI_clamp (show j < 2 ^ 31 by omega), if_pos v4, u1, Option.bind_some]
    rw [hx, hm]
    by_cases g1 : a2 < 0
    · rw [if_pos g1, if_pos g1]
      exact ⟨0, x, m, rfl, rfl, h.up⟩
    · rw [if_neg g1, if_neg g1]
      by_cases g2 : 1000000000000000 < a2
      · rw [if_pos g2, if_pos g2]
        exact ⟨0, x, m, rfl, rfl, h.up⟩
      · rw [if_neg g2, if_neg g2]
        by_cases g3 : (-a2) ≤ (sL x 1 j 0)
        · rw [if_pos g3, if_pos g3]
          obtain ⟨x', m', t1, t2, t3⟩ := fin_sw (S := S) (Q := Q) (x := wL x 2 j 0 a2) (m := wL m 2 0 j a2) hc ⟨⟨hR.1.long _ _ _ _, MR_w2 hR.2.1 _ _, hR.2.2.1, hR.2.2.2⟩, fun a ha => by
            obtain ⟨w1, w2, w3⟩ := hW a ha
            refine ⟨w1, ?_, w3⟩
            show ¬ sL x 1 a 0 < -(sL (wL x 2 j 0 a2) 2 a 0)
            rw [sL_wL]
            by_cases e : a = j
            · subst e
              rw [if_pos ⟨rfl, rfl, rfl⟩]
              intro g4
              rw [Int64.lt_iff_toInt_lt] at g4
              rw [Int64.le_iff_toInt_le] at g3
              omega
            · rw [if_neg (fun q => e q.2.1)]
              exact w2, hB.up (by omega), hA⟩ hst (by omega)
          rw [t1, t2]
          exact ⟨1, x', m', rfl, rfl, t3⟩
        · rw [if_neg g3, if_neg g3]
          exact ⟨0, x, m, rfl, rfl, h.up⟩
