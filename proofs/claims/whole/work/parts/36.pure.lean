theorem lim_cases (v : Int64) : v < -1 ∨ v = -1 ∨ (0 ≤ v ∧ v ≤ 1000000000000000) ∨ 1000000000000000 < v := by
  simp only [Int64.lt_iff_toInt_lt, Int64.le_iff_toInt_le, ← Int64.toInt_inj]
  have e1 : ((-1 : Int64)).toInt = -1 := by decide
  have e2 : ((0 : Int64)).toInt = 0 := by decide
  have e3 : ((1000000000000000 : Int64)).toInt = 1000000000000000 := by decide
  omega
theorem X_isLimit {n : Nat} (x : St) (v : Int64) : (v < -1 ∨ 1000000000000000 < v → f_X_isLimit n x v = some (0, x)) ∧ (v = -1 ∨ (0 ≤ v ∧ v ≤ 1000000000000000) → f_X_isLimit n x v = some (1, x)) := by
  have e1 : ((-1 : Int64)).toInt = -1 := by decide
  have e2 : ((0 : Int64)).toInt = 0 := by decide
  have e3 : ((1000000000000000 : Int64)).toInt = 1000000000000000 := by decide
  unfold f_X_isLimit
  simp only [Int64.lt_iff_toInt_lt, Int64.le_iff_toInt_le, ← Int64.toInt_inj]
  refine ⟨fun g => ?_, fun g => ?_⟩
  · rw [if_neg (by omega)]
    by_cases h : v.toInt < (0 : Int64).toInt
    · rw [if_pos h]
    · rw [if_neg h, if_pos (by omega)]
  · by_cases h : v.toInt = (-1 : Int64).toInt
    · rw [if_pos h]
    · rw [if_neg h, if_neg (by omega), if_neg (by omega)]
theorem po_limit : PO_limit Rel := by
  intro c n x m a1 a2 a3 hc h
  obtain ⟨Q, S, ⟨hR, hW, hB, hA⟩, hst, hS⟩ := id h
  have hn := hR.1.1.2
  have h0 := hR.2.1.1
  have e1 : ((-1 : Int64)).toInt = -1 := by decide
  have e2 : ((0 : Int64)).toInt = 0 := by decide
  have e3 : ((1000000000000000 : Int64)).toInt = 1000000000000000 := by decide
  by_cases h2 : ∃ a b, a < n ∧ b < n ∧ a ≠ b ∧ a1 = nI a ∧ a2 = nI b
  · obtain ⟨a, b, ha, hb, hab, rfl, rfl⟩ := h2
    have v1 := vin_nI (show 4 * a + b < 16 by omega) (show 16 < 2 ^ 31 by omega)
    have v2 := vin_nI (show 4 * b + a < 16 by omega) (show 16 < 2 ^ 31 by omega)
    have s1 := ((hR.2.1.2.2.2.2.1 a ha).2.2.2 b hb).2
    have s2 := ((hR.2.1.2.2.2.2.1 b hb).2.2.2 a ha).2
    have hm : f_M_limit 0 m (nI a) (nI b) a3 = if a3 < (-1) then some (0, m) else if a3 ≤ 1000000000000000 then (if a3 < 0 then (f_M_sweep 0 (wL m 4 0 (4 * a + b) a3)).bind fun o5 => some (1, o5.2) else if (sL x 5 a b - sL x 5 b a) ≤ a3 then (f_M_sweep 0 (wL m 4 0 (4 * a + b) a3)).bind fun o5 => some (1, o5.2) else some (0, m)) else some (0, m) := by
      unfold f_M_limit
      rw [M_isBank_yes h0 ha hn, Option.bind_some, if_neg n10]
      simp only []
      rw [M_isBank_yes h0 hb hn, Option.bind_some, if_neg n10, if_neg (fun e => hab (nI_inj (by omega) (by omega) e))]
      simp only [i4, nI_clamp (show 4 * a + b < 2 ^ 31 by omega), nI_clamp (show 4 * b + a < 2 ^ 31 by omega), if_pos v1, if_pos v2, s1, s2, Option.bind_some]
    have hxp : ∀ r : Option (Int32 × St), (f_X_limit n x (nI a) (nI b) a3 = r ↔ ((f_X_isLimit n x a3).bind fun o2 => if o2.1 = 0 then some (0, o2.2) else (f_X_positionOf n o2.2 (nI a) (nI b)).bind fun o3 => (f_X_exceeds n o3.2 o3.1 a3).bind fun o4 => if o4.1 = 0 then if vin (nI a) n then if vin (nI b) n then (some (wL o4.2 4 (Int32.toNatClampNeg (nI a)) (Int32.toNatClampNeg (nI b)) a3)).bind fun σ7 => (f_X_sweep n σ7).bind fun o8 => some (1, o8.2) else none else none else some (0, o4.2)) = r) := by
      intro r
      unfold f_X_limit
      rw [X_two_yes x ha hb hn hab, Option.bind_some, if_neg n10]
    have hset : (a3 = -1 ∨ (0 ≤ a3 ∧ a3 ≤ 1000000000000000)) → (sL x 5 a b - sL x 5 b a ≤ a3 ∨ a3 = -1) → ∃ r x' m', f_X_limit n x (nI a) (nI b) a3 = some (r, x') ∧ ((f_M_sweep 0 (wL m 4 0 (4 * a + b) a3)).bind fun o5 => some (1, o5.2)) = some (r, m') ∧ Rel (c + 1) n x' m' := by
      intro g1 g2
      obtain ⟨x', m', t1, t2, t3⟩ := fin_sw (S := S) (Q := Q) (x := wL x 4 a b a3) (m := wL m 4 0 (4 * a + b) a3) hc ⟨⟨hR.1.long _ _ _ _, MR_w4 hn hR.2.1 ha hb _, hR.2.2.1, ⟨fun p q hp hq => by
        rw [sL_wL]
        by_cases e : p = a ∧ q = b
        · rw [if_pos ⟨rfl, e⟩]
          exact g1.elim Or.inl (fun g => Or.inr g.1)
        · rw [if_neg (fun g => e g.2)]
          exact hR.2.2.2.1 p q hp hq, hR.2.2.2.2⟩⟩, fun p hp => by
        obtain ⟨w1, w2, w3⟩ := hW p hp
        refine ⟨fun q hq => ?_, w2, w3⟩
        show sL x 5 p q - sL x 5 q p ≤ sL (wL x 4 a b a3) 4 p q ∨ sL (wL x 4 a b a3) 4 p q = -1
        rw [sL_wL]
        by_cases e : p = a ∧ q = b
        · rw [if_pos ⟨rfl, e⟩, e.1, e.2]
          exact g2
        · rw [if_neg (fun g => e g.2)]
          exact w1 q hq, hB.up (by omega), hA⟩ hst (by omega)
      refine ⟨1, x', m', (hxp _).mpr ?_, by rw [t2, Option.bind_some], t3⟩
      rw [(X_isLimit x a3).2 g1, Option.bind_some, if_neg n10]
      simp only []
      rw [X_pos x ha hb hn, Option.bind_some]
      simp only []
      rw [(X_exceeds x _ _).1 g2, Option.bind_some, if_pos rfl, if_pos (vin_nI ha (by omega)), if_pos (vin_nI hb (by omega)), nI_clamp (by omega), nI_clamp (by omega), Option.bind_some]
      simp only []
      rw [t1, Option.bind_some]
    rw [hm]
    rcases lim_cases a3 with g | g | g | g
    · refine ⟨0, x, m, (hxp _).mpr ?_, by rw [if_pos g], h.up⟩
      rw [(X_isLimit x a3).1 (Or.inl g), Option.bind_some, if_pos rfl]
    · obtain ⟨r, x', m', k1, k2, k3⟩ := hset (Or.inl g) (Or.inr g)
      refine ⟨r, x', m', k1, ?_, k3⟩
      rw [if_neg (by rw [g]; decide), if_pos (by rw [g]; decide), if_pos (by rw [g]; decide)]
      exact k2
    · have n1 : ¬ a3 < -1 := by
        rw [Int64.lt_iff_toInt_lt]
        have := g.1
        rw [Int64.le_iff_toInt_le] at this
        omega
      have n2 : ¬ a3 < 0 := by
        rw [Int64.lt_iff_toInt_lt]
        have := g.1
        rw [Int64.le_iff_toInt_le] at this
        omega
      rw [if_neg n1, if_pos g.2, if_neg n2]
      by_cases g2 : sL x 5 a b - sL x 5 b a ≤ a3
      · obtain ⟨r, x', m', k1, k2, k3⟩ := hset (Or.inr g) (Or.inl g2)
        exact ⟨r, x', m', k1, by rw [if_pos g2]; exact k2, k3⟩
      · have n3 : ¬ (sL x 5 a b - sL x 5 b a ≤ a3 ∨ a3 = -1) := fun g4 => g4.elim g2 (fun e => n2 (by rw [e]; decide))
        refine ⟨0, x, m, (hxp _).mpr ?_, by rw [if_neg g2], h.up⟩
        rw [(X_isLimit x a3).2 (Or.inr g), Option.bind_some, if_neg n10]
        simp only []
        rw [X_pos x ha hb hn, Option.bind_some]
        simp only []
        rw [(X_exceeds x _ _).2 n3, Option.bind_some, if_neg n10]
    · refine ⟨0, x, m, (hxp _).mpr ?_, ?_, h.up⟩
      · rw [(X_isLimit x a3).1 (Or.inr g), Option.bind_some, if_pos rfl]
      · rw [Int64.lt_iff_toInt_lt] at g
        rw [if_neg (by rw [Int64.lt_iff_toInt_lt]; omega), if_neg (by rw [Int64.le_iff_toInt_le]; omega)]
  · refine ⟨0, x, m, ?_, ?_, h.up⟩
    · unfold f_X_limit
      rw [X_two_no x hn h2, Option.bind_some, if_pos rfl]
    · unfold f_M_limit
      rcases bank_or a1 hn with g | ⟨a, ha, rfl⟩
      · rw [M_isBank_no h0 g, Option.bind_some, if_pos rfl]
      · rw [M_isBank_yes h0 ha hn, Option.bind_some, if_neg n10]
        simp only []
        rcases bank_or a2 hn with g | ⟨b, hb, rfl⟩
        · rw [M_isBank_no h0 g, Option.bind_some, if_pos rfl]
        · rw [M_isBank_yes h0 hb hn, Option.bind_some, if_neg n10]
          by_cases hab : a = b
          · subst hab
            rw [if_pos rfl]
          · exact absurd ⟨a, b, ha, hb, hab, rfl, rfl⟩ h2
theorem totalLimit_lp {n : Nat} {x m : St} (hn : n ≤ 4) (hr : MR n x m) {a : Nat} (ha : a < n) (v2 : Int64) (K : St → Int64 → Option (Int32 × St)) : ∀ (fu b : Nat), b ≤ n → n < fu + b → lp_M_totalLimit_32 0 K fu m (nI a) v2 (sumN (fun b => sL x 5 a b - sL x 5 b a) b) (nI b) = K m (sumN (fun b => sL x 5 a b - sL x 5 b a) n) := by
  intro fu
  induction fu with
  | zero => intro b h1 h2; omega
  | succ fu ih =>
    intro b h1 h2
    rw [lp_M_totalLimit_32_s, hr.1]
    by_cases hb : b < n
    · have v1 := vin_nI (show 4 * a + b < 16 by omega) (show 16 < 2 ^ 31 by omega)
      have v3 := vin_nI (show 4 * b + a < 16 by omega) (show 16 < 2 ^ 31 by omega)
      have s1 := ((hr.2.2.2.2.1 a ha).2.2.2 b hb).2
      have s2 := ((hr.2.2.2.2.1 b hb).2.2.2 a ha).2
      simp only [i4, nI_clamp (show 4 * a + b < 2 ^ 31 by omega), nI_clamp (show 4 * b + a < 2 ^ 31 by omega), if_pos v1, if_pos v3, s1, s2]
      rw [if_neg (nI_ge hb (by omega)), nI_1]
      have e : sumN (fun b => sL x 5 a b - sL x 5 b a) b + sL x 5 a b - sL x 5 b a = sumN (fun b => sL x 5 a b - sL x 5 b a) (b + 1) := by
        show _ = sumN (fun b => sL x 5 a b - sL x 5 b a) b + (sL x 5 a b - sL x 5 b a)
        grind
      rw [e]
      exact ih (b + 1) (by omega) (by omega)
    · have : b = n := by omega
      subst this
      rw [if_pos (nI_le (Nat.le_refl _) (by omega))]
theorem po_totalLimit : PO_totalLimit Rel := by
  intro c n x m a1 a2 hc h
  obtain ⟨Q, S, ⟨hR, hW, hB, hA⟩, hst, hS⟩ := id h
  have hn := hR.1.1.2
  have h0 := hR.2.1.1
  have e1 : ((-1 : Int64)).toInt = -1 := by decide
  have e2 : ((0 : Int64)).toInt = 0 := by decide
  have e3 : ((1000000000000000 : Int64)).toInt = 1000000000000000 := by decide
  rcases bank_or a1 hn with g | ⟨a, ha, rfl⟩
  · refine ⟨0, x, m, ?_, ?_, h.up⟩
    · unfold f_X_totalLimit
      rw [X_isBank_no x g, Option.bind_some, if_pos rfl]
    · unfold f_M_totalLimit
      rw [M_isBank_no h0 g, Option.bind_some, if_pos rfl]
  · have v4 := vin_nI (show a < 4 by omega) (show 4 < 2 ^ 31 by omega)
    have hm : f_M_totalLimit 0 m (nI a) a2 = if a2 < (-1) then some (0, m) else if a2 ≤ 1000000000000000 then (if a2 < 0 then (f_M_sweep 0 (wL m 3 0 a a2)).bind fun o5 => some (1, o5.2) else if sumN (fun b => sL x 5 a b - sL x 5 b a) n ≤ a2 then (f_M_sweep 0 (wL m 3 0 a a2)).bind fun o5 => some (1, o5.2) else some (0, m)) else some (0, m) := by
      unfold f_M_totalLimit
      rw [M_isBank_yes h0 ha hn, Option.bind_some, if_neg n10]
      simp only [nI_clamp (show a < 2 ^ 31 by omega), if_pos v4, Option.bind_some]
      have e := totalLimit_lp hn hR.2.1 ha a2 (fun σ5 y4_4 => if a2 < 0 then (f_M_sweep 0 (wL σ5 3 0 a a2)).bind fun o8 => some (1, o8.2) else if y4_4 ≤ a2 then (f_M_sweep 0 (wL σ5 3 0 a a2)).bind fun o11 => some (1, o11.2) else some (0, σ5)) 1000 0 (by omega) (by omega)
      have e : lp_M_totalLimit_32 0 _ 1000 m (nI a) a2 0 0 = _ := e
      rw [e]
    have hxp : ∀ r : Option (Int32 × St), (f_X_totalLimit n x (nI a) a2 = r ↔ ((f_X_isLimit n x a2).bind fun o2 => if o2.1 = 0 then some (0, o2.2) else (f_X_totalPositionOf n o2.2 (nI a)).bind fun o3 => (f_X_exceeds n o3.2 o3.1 a2).bind fun o4 => if o4.1 = 0 then if vin (nI a) n then (some (wL o4.2 3 (Int32.toNatClampNeg (nI a)) 0 a2)).bind fun σ6 => (f_X_sweep n σ6).bind fun o7 => some (1, o7.2) else none else some (0, o4.2)) = r) := by
      intro r
      unfold f_X_totalLimit
      rw [X_isBank_yes x ha hn, Option.bind_some, if_neg n10]
    have hset : (a2 = -1 ∨ (0 ≤ a2 ∧ a2 ≤ 1000000000000000)) → (sumN (fun b => sL x 5 a b - sL x 5 b a) n ≤ a2 ∨ a2 = -1) → ∃ r x' m', f_X_totalLimit n x (nI a) a2 = some (r, x') ∧ ((f_M_sweep 0 (wL m 3 0 a a2)).bind fun o5 => some (1, o5.2)) = some (r, m') ∧ Rel (c + 1) n x' m' := by
      intro g1 g2
      obtain ⟨x', m', t1, t2, t3⟩ := fin_sw (S := S) (Q := Q) (x := wL x 3 a 0 a2) (m := wL m 3 0 a a2) hc ⟨⟨hR.1.long _ _ _ _, MR_w3 hR.2.1 _ _, hR.2.2.1, ⟨hR.2.2.2.1, fun p hp => by
        rw [sL_wL]
        by_cases e : p = a
        · rw [if_pos ⟨rfl, e, rfl⟩]
          exact g1.elim Or.inl (fun g => Or.inr g.1)
        · rw [if_neg (fun g => e g.2.1)]
          exact hR.2.2.2.2 p hp⟩⟩, fun p hp => by
        obtain ⟨w1, w2, w3⟩ := hW p hp
        refine ⟨w1, w2, ?_⟩
        show sumN (fun b => sL x 5 p b - sL x 5 b p) n ≤ sL (wL x 3 a 0 a2) 3 p 0 ∨ sL (wL x 3 a 0 a2) 3 p 0 = -1
        rw [sL_wL]
        by_cases e : p = a
        · subst e
          rw [if_pos ⟨rfl, rfl, rfl⟩]
          exact g2
        · rw [if_neg (fun g => e g.2.1)]
          exact w3, hB.up (by omega), hA⟩ hst (by omega)
      refine ⟨1, x', m', (hxp _).mpr ?_, by rw [t2, Option.bind_some], t3⟩
      rw [(X_isLimit x a2).2 g1, Option.bind_some, if_neg n10]
      simp only []
      rw [X_total x ha hn, Option.bind_some]
      simp only []
      rw [(X_exceeds x _ _).1 g2, Option.bind_some, if_pos rfl, if_pos (vin_nI ha (by omega)), nI_clamp (by omega), Option.bind_some]
      simp only []
      rw [t1, Option.bind_some]
    rw [hm]
    rcases lim_cases a2 with g | g | g | g
    · refine ⟨0, x, m, (hxp _).mpr ?_, by rw [if_pos g], h.up⟩
      rw [(X_isLimit x a2).1 (Or.inl g), Option.bind_some, if_pos rfl]
    · obtain ⟨r, x', m', k1, k2, k3⟩ := hset (Or.inl g) (Or.inr g)
      refine ⟨r, x', m', k1, ?_, k3⟩
      rw [if_neg (by rw [g]; decide), if_pos (by rw [g]; decide), if_pos (by rw [g]; decide)]
      exact k2
    · have n1 : ¬ a2 < -1 := by
        rw [Int64.lt_iff_toInt_lt]
        have := g.1
        rw [Int64.le_iff_toInt_le] at this
        omega
      have n2 : ¬ a2 < 0 := by
        rw [Int64.lt_iff_toInt_lt]
        have := g.1
        rw [Int64.le_iff_toInt_le] at this
        omega
      rw [if_neg n1, if_pos g.2, if_neg n2]
      by_cases g2 : sumN (fun b => sL x 5 a b - sL x 5 b a) n ≤ a2
      · obtain ⟨r, x', m', k1, k2, k3⟩ := hset (Or.inr g) (Or.inl g2)
        exact ⟨r, x', m', k1, by rw [if_pos g2]; exact k2, k3⟩
      · have n3 : ¬ (sumN (fun b => sL x 5 a b - sL x 5 b a) n ≤ a2 ∨ a2 = -1) := fun g4 => g4.elim g2 (fun e => n2 (by rw [e]; decide))
        refine ⟨0, x, m, (hxp _).mpr ?_, by rw [if_neg g2], h.up⟩
        rw [(X_isLimit x a2).2 (Or.inr g), Option.bind_some, if_neg n10]
        simp only []
        rw [X_total x ha hn, Option.bind_some]
        simp only []
        rw [(X_exceeds x _ _).2 n3, Option.bind_some, if_neg n10]
    · refine ⟨0, x, m, (hxp _).mpr ?_, ?_, h.up⟩
      · rw [(X_isLimit x a2).1 (Or.inr g), Option.bind_some, if_pos rfl]
      · rw [Int64.lt_iff_toInt_lt] at g
        rw [if_neg (by rw [Int64.lt_iff_toInt_lt]; omega), if_neg (by rw [Int64.le_iff_toInt_le]; omega)]
/-- a payment leaves its queue on both sides -/
theorem end_both {n : Nat} {x m : St} {Q : Nat → List Nat} (h : R0 n x m Q) {a k : Nat} (ha : a < n) (hk : k ∈ Q a) {v : Int32} (hv : v ≠ 0) : ∃ x', f_X_end n x k v = some ((), x') ∧ ED a k v x x' ∧ R0 n x' (wI m 9 0 k v) (qup Q a ((Q a).filter (· != k))) := by
  obtain ⟨hX, hr, hq, hl⟩ := h
  have hn := hX.1.2
  obtain ⟨x', f1, f2, f3⟩ := X_end hX ha hk v
  obtain ⟨d1, d2, d3, d4⟩ := id f2
  refine ⟨x', f1, f2, f3, ?_, fun c hc => ⟨fun j hj h9 h5 => ?_, ?_⟩, ?_⟩
  · refine ⟨hr.1, by rw [d1 1 0 0 (by omega) (by omega)]; exact hr.2.1, by rw [d3]; exact hr.2.2.1, by rw [d4]; exact hr.2.2.2.1, fun c hc => ?_, fun j hj => ?_⟩
    · obtain ⟨u1, u2, u3, u4⟩ := hr.2.2.2.2.1 c hc
      simp only [d3]
      exact ⟨u1, u2, u3, u4⟩
    · rw [d4] at hj
      obtain ⟨u1, u2, u3, u4, u5, u6⟩ := hr.2.2.2.2.2 j hj
      rw [d1 5 j 0 (by omega) (by omega), d1 6 j 0 (by omega) (by omega), d1 8 j 0 (by omega) (by omega), d1 7 j 0 (by omega) (by omega), d3]
      refine ⟨u1, u2, u3, u4, u5, ?_⟩
      rw [sI_wI]
      by_cases e : j = k
      · subst e
        rw [if_pos ⟨rfl, rfl, rfl⟩, d2]
      · rw [if_neg (fun q => e q.2.2), d1 9 j 0 (by omega) (by omega)]
        exact u6
  · rw [d4] at hj
    have hjk : j ≠ k := by
      intro e
      rw [e, d2] at h9
      exact hv h9
    rw [d1 9 j 0 (by omega) (by omega)] at h9
    rw [d1 5 j 0 (by omega) (by omega)] at h5
    have hm := (hq c hc).1 j hj h9 h5
    by_cases hca : c = a
    · subst hca
      rw [qup_s]
      exact List.mem_filter.mpr ⟨hm, by simp [hjk]⟩
    · rw [qup_n _ _ hca]
      exact hm
  · have hbef : bef (wI m 9 0 k v) = bef m := by
      funext i j
      unfold bef
      simp [sI_wI]
    rw [hbef]
    by_cases hca : c = a
    · subst hca
      rw [qup_s]
      exact (hq c hc).2.filter _
    · rw [qup_n _ _ hca]
      exact (hq c hc).2
  · unfold LOK at *
    simp only [d3]
    exact hl
theorem Core_end {B n : Nat} {x x' m m' : St} {Q Q' : Nat → List Nat} {a k : Nat} {v : Int32} (h : Core B n x m Q) (hE : ED a k v x x') (hR : R0 n x' m' Q') : Core B n x' m' Q' := by
  obtain ⟨-, hW, hB, hA⟩ := h
  obtain ⟨d1, d2, d3, d4⟩ := hE
  refine ⟨hR, ?_, ?_, ?_⟩
  · unfold AW at *
    simp only [d3]
    exact hW
  · unfold BD at *
    simp only [d3]
    exact hB
  · unfold AM at *
    simp only [d3, d4]
    exact hA
theorem isQ_both {n : Nat} {x m : St} {Q : Nat → List Nat} (h : R0 n x m Q) (v : Int32) : (f_X_isQueued n x v = some (0, x) ∧ f_M_isQueued 0 m v = some (0, m)) ∨ ∃ a k, a < n ∧ k ∈ Q a ∧ k < sN x ∧ v = nI k ∧ f_X_isQueued n x v = some (1, x) ∧ f_M_isQueued 0 m v = some (1, m) := by
  obtain ⟨hX, hr, hq, hl⟩ := h
  have hN := hX.2.1
  have hcn := hX.2.2.1
  have hcm := hr.2.2.2.1
  unfold f_X_isQueued f_X_isPayment f_M_isQueued
  rw [hcn, hcm]
  rcases pk_ix v (show sN x < 2 ^ 31 by omega) with g | g | ⟨k, hk, rfl⟩
  · rw [if_pos g, if_pos g, Option.bind_some, if_pos rfl]
    exact Or.inl ⟨rfl, rfl⟩
  · by_cases g0 : v < 0
    · rw [if_pos g0, if_pos g0, Option.bind_some, if_pos rfl]
      exact Or.inl ⟨rfl, rfl⟩
    · rw [if_neg g0, if_neg g0, if_pos g, if_pos g, Option.bind_some, if_pos rfl]
      exact Or.inl ⟨rfl, rfl⟩
  · obtain ⟨p1, p2⟩ := hX.2.2.2.1 k hk
    have r6 := (hr.2.2.2.2.2 k hk).2.2.2.2.2
    have vk := vin_nI (show k < 100 by omega) (show 100 < 2 ^ 31 by omega)
    rw [if_neg (nI_pos (by omega)), if_neg (nI_pos (by omega)), if_neg (nI_ge hk (by omega)), if_neg (nI_ge hk (by omega)), Option.bind_some, if_neg n10, if_pos vk, if_pos vk, nI_clamp (by omega), r6]
    simp only []
    rw [p1, dR_some hk, Option.bind_some]
    by_cases h9 : sI x 9 k 0 = 0
    · rw [if_pos h9, if_pos h9]
      obtain ⟨a, b, ha, hb, hab, e5, e6⟩ := hX.2.2.2.2.1 k hk
      exact Or.inr ⟨a, k, ha, (hq a ha).1 k hk h9 e5, hk, rfl, rfl, rfl⟩
    · rw [if_neg h9, if_neg h9]
      exact Or.inl ⟨rfl, rfl⟩
theorem po_cancel : PO_cancel Rel := by
  intro c n x m a1 hc h
  obtain ⟨Q, S, hC, hst, hS⟩ := id h
  have hN := hC.1.1.2.1
  unfold f_X_cancel f_M_cancel
  rcases isQ_both hC.1 a1 with ⟨g1, g2⟩ | ⟨a, k, ha, hk, hkN, rfl, g1, g2⟩
  · rw [g1, g2, Option.bind_some, Option.bind_some, if_pos rfl, if_pos rfl]
    exact ⟨0, x, m, rfl, rfl, h.up⟩
  · have vk := vin_nI (show k < 100 by omega) (show 100 < 2 ^ 31 by omega)
    obtain ⟨x1, f1, f2, f3⟩ := end_both hC.1 ha hk (v := 4) (by decide)
    have hC1 := Core_end hC f2 f3
    obtain ⟨x', m', t1, t2, t3⟩ := fin_sw (S := S) hc ⟨hC1.1, hC1.2.1, hC1.2.2.1.up (by omega), hC1.2.2.2⟩ ⟨hst.1, fun j hj => hst.2 j (by rw [f2.2.2.2] at hj; exact hj)⟩ (by omega)
    rw [g1, g2, Option.bind_some, Option.bind_some, if_neg n10, if_neg n10, if_pos vk, if_pos vk, nI_clamp (by omega)]
    simp only []
    rw [(hC.1.1.2.2.2.1 k hkN).1, dR_some hkN, Option.bind_some, f1, Option.bind_some, Option.bind_some]
    simp only []
    rw [t1, t2]
    exact ⟨1, x', m', rfl, rfl, t3⟩
