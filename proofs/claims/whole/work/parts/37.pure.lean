theorem tick_lp {n B S N : Nat} (kx km : St → Int32 → Option (Int32 × St)) : ∀ (fu k c : Nat) (x m : St) (Q : Nat → List Nat), Core B n x m Q → Stm S x m → sN x = N → k ≤ N → N < fu + k → ∃ x' m' Q' c', lp_X_tick_28 n kx fu x (nI c) (nI k) = kx x' (nI c') ∧ lp_M_tick_28 0 km fu m (nI c) (nI k) = km m' (nI c') ∧ Core B n x' m' Q' ∧ Stm S x' m' := by
  intro fu
  induction fu with
  | zero => intro k c x m Q _ _ _ h1 h2; omega
  | succ fu ih =>
    intro k c x m Q hC hst hxN h1 h2
    subst hxN
    have hN := hC.1.1.2.1
    rw [lp_X_tick_28_s, lp_M_tick_28_s, hC.1.1.2.2.1, hC.1.2.1.2.2.2.1]
    by_cases hk : k < sN x
    · obtain ⟨r1, r2, r3, r4, r5, r6⟩ := hC.1.2.1.2.2.2.2.2 k hk
      have vk := vin_nI (show k < 100 by omega) (show 100 < 2 ^ 31 by omega)
      have hp := (hC.1.1.2.2.2.1 k hk).1
      simp only [nI_clamp (show k < 2 ^ 31 by omega), if_pos vk]
      rw [if_neg (nI_ge hk (by omega)), if_neg (nI_ge hk (by omega)), r6]
      rcases isQ_both hC.1 (nI k) with ⟨g1, g2⟩ | ⟨a, k', ha, hka, hkN, ek, g1, g2⟩
      · have h9 : ¬ sI x 9 k 0 = 0 := by
          intro h9
          obtain ⟨a, b, ha, hb, hab, e5, e6⟩ := hC.1.1.2.2.2.2.1 k hk
          have : f_X_isQueued n x (nI k) = some (1, x) := by
            unfold f_X_isQueued f_X_isPayment
            rw [hC.1.1.2.2.1, if_neg (nI_pos (by omega)), if_neg (nI_ge hk (by omega)), Option.bind_some, if_neg n10, if_pos vk, nI_clamp (by omega)]
            simp only []
            rw [hp, dR_some hk, Option.bind_some, if_pos h9]
          rw [this] at g1
          exact absurd (congrArg (fun o : Option (Int32 × St) => o.map Prod.fst) g1) (by simp)
        rw [g1, Option.bind_some, if_pos rfl, if_neg h9, nI_1]
        exact ih (k + 1) c x m Q hC hst rfl (by omega) (by omega)
      · have hkk : k' = k := nI_inj (by omega) (by omega) ek.symm
        subst hkk
        have h9 := (hC.1.1.2.2.2.2.2.2.1 a ha k' hka).2.2
        rw [g1, Option.bind_some, if_neg n10, if_pos h9]
        simp only []
        rw [hp, dR_some hk]
        simp only [Option.bind_some]
        rw [r5, hC.1.2.1.2.1]
        by_cases h7 : sI x 1 0 0 ≤ sI x 7 k' 0
        · rw [if_pos h7, if_pos h7, nI_1]
          exact ih (k' + 1) c x m Q hC hst rfl (by omega) (by omega)
        · rw [if_neg h7, if_neg h7]
          obtain ⟨x1, f1, f2, f3⟩ := end_both hC.1 ha hka (v := 5) (by decide)
          rw [f1]
          simp only [Option.bind_some]
          rw [nI_1, nI_1]
          exact ih (k' + 1) (c + 1) x1 _ _ (Core_end hC f2 f3) ⟨hst.1, fun j hj => hst.2 j (by rw [f2.2.2.2] at hj; exact hj)⟩ f2.2.2.2 (by omega) (by omega)
    · have : k = sN x := by omega
      subst this
      rw [if_pos (nI_le (Nat.le_refl _) (by omega)), if_pos (nI_le (Nat.le_refl _) (by omega))]
      exact ⟨x, m, Q, c, rfl, rfl, hC, hst⟩
theorem Core_time {B n : Nat} {x m : St} {Q : Nat → List Nat} (h : Core B n x m Q) (v : Int32) : Core B n (wI x 1 0 0 v) (wI m 1 0 0 v) Q := by
  obtain ⟨⟨hX, hr, hq, hl⟩, hW, hB, hA⟩ := h
  have hbef : bef (wI m 1 0 0 v) = bef m := by
    funext i j
    unfold bef
    simp [sI_wI]
  refine ⟨⟨hX.time v, ⟨hr.1, by rw [sI_wI, sI_wI, if_pos ⟨rfl, rfl, rfl⟩, if_pos ⟨rfl, rfl, rfl⟩], hr.2.2.1, hr.2.2.2.1, hr.2.2.2.2.1, hr.2.2.2.2.2⟩, fun a ha => ⟨(hq a ha).1, by rw [hbef]; exact (hq a ha).2⟩, hl⟩, hW, hB, hA⟩
theorem po_tick : PO_tick Rel := by
  intro c n x m a1 hc h
  obtain ⟨Q, S, hC, hst, hS⟩ := id h
  have hN := hC.1.1.2.1
  unfold f_X_tick f_M_tick
  by_cases g1 : a1 < 1
  · rw [if_pos g1, if_pos g1]
    exact ⟨-1, x, m, rfl, rfl, h.up⟩
  · rw [if_neg g1, if_neg g1]
    by_cases g2 : a1 ≤ 1000
    · rw [if_pos g2, if_pos g2, hC.1.2.1.2.1, Option.bind_some, Option.bind_some]
      have hC1 := Core_time hC (sI x 1 0 0 + a1)
      obtain ⟨x1, m1, Q1, c1, k1, k2, k3, k4⟩ := tick_lp (fun σ9 y2_8 => (f_X_sweep n σ9).bind fun o10 => some (y2_8, o10.2)) (fun σ7 y2_6 => (f_M_sweep 0 σ7).bind fun o8 => some (y2_6, o8.2)) 1000 0 0 _ _ Q hC1 (S := S) ⟨hst.1, hst.2⟩ rfl (by omega) (show sN x < 1000 + 0 by omega)
      obtain ⟨x', m', t1, t2, t3⟩ := fin_sw (S := S) hc ⟨k3.1, k3.2.1, k3.2.2.1.up (by omega), k3.2.2.2⟩ k4 (by omega)
      refine ⟨nI c1, x', m', ?_, ?_, t3⟩
      · refine Eq.trans k1 ?_
        rw [t1, Option.bind_some]
      · refine Eq.trans k2 ?_
        rw [t2, Option.bind_some]
    · rw [if_neg g2, if_neg g2]
      exact ⟨-1, x, m, rfl, rfl, h.up⟩
theorem close_lp {n B S N : Nat} (kx km : St → Int32 → Option (Int32 × St)) : ∀ (fu k c : Nat) (x m : St) (Q : Nat → List Nat), Core B n x m Q → Stm S x m → sN x = N → k ≤ N → N < fu + k → ∃ x' m' Q' c', lp_X_close_4 n kx fu x (nI c) (nI k) = kx x' (nI c') ∧ lp_M_close_4 0 km fu m (nI c) (nI k) = km m' (nI c') ∧ Core B n x' m' Q' ∧ Stm S x' m' := by
  intro fu
  induction fu with
  | zero => intro k c x m Q _ _ _ h1 h2; omega
  | succ fu ih =>
    intro k c x m Q hC hst hxN h1 h2
    subst hxN
    have hN := hC.1.1.2.1
    rw [lp_X_close_4_s, lp_M_close_4_s, hC.1.1.2.2.1, hC.1.2.1.2.2.2.1]
    by_cases hk : k < sN x
    · obtain ⟨r1, r2, r3, r4, r5, r6⟩ := hC.1.2.1.2.2.2.2.2 k hk
      have vk := vin_nI (show k < 100 by omega) (show 100 < 2 ^ 31 by omega)
      have hp := (hC.1.1.2.2.2.1 k hk).1
      simp only [nI_clamp (show k < 2 ^ 31 by omega), if_pos vk]
      rw [if_neg (nI_ge hk (by omega)), if_neg (nI_ge hk (by omega)), r6]
      rcases isQ_both hC.1 (nI k) with ⟨g1, g2⟩ | ⟨a, k', ha, hka, hkN, ek, g1, g2⟩
      · have h9 : ¬ sI x 9 k 0 = 0 := by
          intro h9
          have : f_X_isQueued n x (nI k) = some (1, x) := by
            unfold f_X_isQueued f_X_isPayment
            rw [hC.1.1.2.2.1, if_neg (nI_pos (by omega)), if_neg (nI_ge hk (by omega)), Option.bind_some, if_neg n10, if_pos vk, nI_clamp (by omega)]
            simp only []
            rw [hp, dR_some hk, Option.bind_some, if_pos h9]
          rw [this] at g1
          exact absurd (congrArg (fun o : Option (Int32 × St) => o.map Prod.fst) g1) (by simp)
        rw [g1, Option.bind_some, if_pos rfl, if_neg h9, nI_1]
        exact ih (k + 1) c x m Q hC hst rfl (by omega) (by omega)
      · have hkk : k' = k := nI_inj (by omega) (by omega) ek.symm
        subst hkk
        have h9 := (hC.1.1.2.2.2.2.2.2.1 a ha k' hka).2.2
        rw [g1, Option.bind_some, if_neg n10, if_pos h9]
        simp only []
        rw [hp, dR_some hk]
        simp only [Option.bind_some]
        obtain ⟨x1, f1, f2, f3⟩ := end_both hC.1 ha hka (v := 6) (by decide)
        rw [f1]
        simp only [Option.bind_some]
        rw [nI_1, nI_1]
        exact ih (k' + 1) (c + 1) x1 _ _ (Core_end hC f2 f3) ⟨hst.1, fun j hj => hst.2 j (by rw [f2.2.2.2] at hj; exact hj)⟩ f2.2.2.2 (by omega) (by omega)
    · have : k = sN x := by omega
      subst this
      rw [if_pos (nI_le (Nat.le_refl _) (by omega)), if_pos (nI_le (Nat.le_refl _) (by omega))]
      exact ⟨x, m, Q, c, rfl, rfl, hC, hst⟩
/-- only what was sent differs -/
def C5 (x x' : St) : Prop := x'.1 = x.1 ∧ x'.2.2 = x.2.2 ∧ ∀ c i j, c ≠ 5 → sL x' c i j = sL x c i j
theorem closeX_lp {n : Nat} (hn : n ≤ 4) (v1 : Int32) (k : St → Option (Int32 × St)) : ∀ (fu i : Nat) (x : St), i ≤ n → n < fu + i → ∃ x', lp_X_close_52 n k fu x v1 (nI n) (nI i) = k x' ∧ C5 x x' ∧ (∀ a b, i ≤ a → a < n → sL x' 5 a b = 0) ∧ (∀ a b, a < i → sL x' 5 a b = sL x 5 a b) := by
  intro fu
  induction fu with
  | zero => intro i x h1 h2; omega
  | succ fu ih =>
    intro i x h1 h2
    rw [lp_X_close_52_s]
    by_cases hi : i < n
    · rw [if_neg (nI_ge hi (by omega)), if_pos (vin_nI hi (by omega)), if_pos (by omega), Option.bind_some, nI_clamp (by omega), nI_1]
      obtain ⟨x', g1, g2, g3, g4⟩ := ih (i + 1) (fL x 5 i 0) (by omega) (by omega)
      refine ⟨x', g1, ⟨g2.1, g2.2.1, fun c a b hc => by rw [g2.2.2 c a b hc, sL_fL, if_neg (fun q => hc q.1)]⟩, fun a b ha1 ha2 => ?_, fun a b ha => ?_⟩
      · by_cases e : a = i
        · subst e
          rw [g4 a b (by omega), sL_fL, if_pos ⟨rfl, rfl⟩]
        · exact g3 a b (by omega) ha2
      · rw [g4 a b (by omega), sL_fL, if_neg (fun q => by omega)]
    · have : i = n := by omega
      subst this
      rw [if_pos (nI_le (Nat.le_refl _) (by omega))]
      exact ⟨x, rfl, ⟨rfl, rfl, fun _ _ _ _ => rfl⟩, fun a b h3 h4 => absurd h4 (by omega), fun _ _ _ => rfl⟩
theorem closeM_lp (v1 : Int32) (k : St → Option (Int32 × St)) : ∀ (fu i : Nat) (m : St), i ≤ 16 → 16 < fu + i → ∃ m', lp_M_close_40 0 k fu m v1 (nI i) = k m' ∧ C5 m m' ∧ (∀ j, i ≤ j → j < 16 → sL m' 5 0 j = 0) ∧ (∀ j, j < i → sL m' 5 0 j = sL m 5 0 j) := by
  intro fu
  induction fu with
  | zero => intro i x h1 h2; omega
  | succ fu ih =>
    intro i m h1 h2
    rw [lp_M_close_40_s]
    by_cases hi : i < 16
    · rw [if_neg (lit_nle 16 (L := 16) rfl hi (by omega)), if_pos (vin_nI hi (by omega)), Option.bind_some, nI_clamp (by omega), nI_1]
      obtain ⟨x', g1, g2, g3, g4⟩ := ih (i + 1) (wL m 5 0 i 0) (by omega) (by omega)
      refine ⟨x', g1, ⟨g2.1, g2.2.1, fun c a b hc => by rw [g2.2.2 c a b hc, sL_wL, if_neg (fun q => hc q.1)]⟩, fun j hj1 hj2 => ?_, fun j hj => ?_⟩
      · by_cases e : j = i
        · subst e
          rw [g4 j (by omega), sL_wL, if_pos ⟨rfl, rfl, rfl⟩]
        · exact g3 j (by omega) hj2
      · rw [g4 j (by omega), sL_wL, if_neg (fun q => by omega)]
    · have : i = 16 := by omega
      subst this
      rw [if_pos (lit_le 16 (L := 16) rfl (Nat.le_refl _) (by omega))]
      exact ⟨m, rfl, ⟨rfl, rfl, fun _ _ _ _ => rfl⟩, fun j h3 h4 => absurd h4 (by omega), fun _ _ => rfl⟩
theorem C5.eI {x x' : St} (h : C5 x x') (c i j : Nat) : sI x' c i j = sI x c i j := by
  show x'.1 c i j = x.1 c i j
  rw [h.1]
theorem C5.eR {x x' : St} (h : C5 x x') (c i j : Nat) : sR x' c i j = sR x c i j := by
  show x'.2.2.1 c i j = x.2.2.1 c i j
  rw [h.2.1]
theorem C5.eN {x x' : St} (h : C5 x x') : sN x' = sN x := by
  show x'.2.2.2 = x.2.2.2
  rw [h.2.1]
theorem po_close : PO_close Rel := by
  intro c n x m hc h
  obtain ⟨Q, S, hC, hst, hS⟩ := id h
  have hn := hC.1.1.1.2
  have hN := hC.1.1.2.1
  unfold f_X_close f_M_close
  obtain ⟨x1, m1, Q1, c1, k1, k2, k3, k4⟩ := close_lp (fun σ6 y1_5 => lp_X_close_52 n (fun σ10 => some (y1_5, σ10)) 1000 σ6 y1_5 (nI n) 0) (fun σ5 y1_4 => lp_M_close_40 0 (fun σ8 => some (y1_4, σ8)) 1000 σ5 y1_4 0) 1000 0 0 x m Q hC hst rfl (by omega) (by omega)
  obtain ⟨x2, l1, l2, l3, -⟩ := closeX_lp hn (nI c1) (fun σ10 => some (nI c1, σ10)) 1000 0 x1 (by omega) (by omega)
  obtain ⟨m2, o1, o2, o3, -⟩ := closeM_lp (nI c1) (fun σ8 => some (nI c1, σ8)) 1000 0 m1 (by omega) (by omega)
  refine ⟨nI c1, x2, m2, k1.trans l1, k2.trans o1, Q1, S, ?_, ⟨by rw [o2.eI]; exact k4.1, fun j hj => by rw [o2.eI]; exact k4.2 j (by rw [l2.eN] at hj; exact hj)⟩, by omega⟩
  obtain ⟨⟨hX, hr, hq, hl⟩, hW, hB, hA⟩ := k3
  have s0 : ∀ a b, a < n → sL x2 5 a b = 0 := fun a b ha => l3 a b (Nat.zero_le _) ha
  refine ⟨⟨?_, ?_, ?_, ?_⟩, fun a ha => ?_, fun a ha => ?_, ?_⟩
  · unfold XQ VR at *
    simp only [l2.eI, l2.eR, l2.eN]
    exact hX
  · refine ⟨by rw [o2.eI]; exact hr.1, by rw [o2.eI, l2.eI]; exact hr.2.1, by rw [o2.2.2 0 _ _ (by decide), l2.2.2 0 _ _ (by decide)]; exact hr.2.2.1, by rw [o2.eI, l2.eN]; exact hr.2.2.2.1, fun a ha => ?_, fun k hk => ?_⟩
    · obtain ⟨u1, u2, u3, u4⟩ := hr.2.2.2.2.1 a ha
      refine ⟨by rw [o2.2.2 1 _ _ (by decide), l2.2.2 1 _ _ (by decide)]; exact u1, by rw [o2.2.2 2 _ _ (by decide), l2.2.2 2 _ _ (by decide)]; exact u2, by rw [o2.2.2 3 _ _ (by decide), l2.2.2 3 _ _ (by decide)]; exact u3, fun b hb => ⟨by rw [o2.2.2 4 _ _ (by decide), l2.2.2 4 _ _ (by decide)]; exact (u4 b hb).1, ?_⟩⟩
      rw [s0 a b ha, o3 _ (Nat.zero_le _) (by omega)]
    · rw [l2.eN] at hk
      obtain ⟨u1, u2, u3, u4, u5, u6⟩ := hr.2.2.2.2.2 k hk
      simp only [o2.eI, l2.eI]
      rw [o2.2.2 6 _ _ (by decide), l2.2.2 6 _ _ (by decide)]
      exact ⟨u1, u2, u3, u4, u5, u6⟩
  · have hbef : bef m2 = bef m1 := by
      funext i j
      unfold bef
      simp only [o2.eI]
    unfold QO at *
    simp only [l2.eN, l2.eI, hbef]
    exact hq
  · unfold LOK at *
    simp only [l2.2.2 4 _ _ (by decide), l2.2.2 3 _ _ (by decide)]
    exact hl
  · obtain ⟨w1, w2, w3⟩ := hW a ha
    have z : (0 : Int64) - 0 = 0 := by decide
    refine ⟨fun b hb => ?_, ?_, ?_⟩
    · show sL x2 5 a b - sL x2 5 b a ≤ sL x2 4 a b ∨ sL x2 4 a b = -1
      rw [s0 a b ha, s0 b a hb, z, l2.2.2 4 _ _ (by decide)]
      exact (hl.1 a b ha hb).elim Or.inr Or.inl
    · show ¬ sL x2 1 a 0 < -(sL x2 2 a 0)
      rw [l2.2.2 1 _ _ (by decide), l2.2.2 2 _ _ (by decide)]
      exact w2
    · show sumN (fun b => sL x2 5 a b - sL x2 5 b a) n ≤ sL x2 3 a 0 ∨ sL x2 3 a 0 = -1
      rw [sumN_zero (fun b hb => by rw [s0 a b ha, s0 b a hb]; exact z), l2.2.2 3 _ _ (by decide)]
      exact (hl.2 a ha).elim Or.inr Or.inl
  · obtain ⟨b1, b2⟩ := (hB.up (show 700 * c ≤ 700 * (c + 1) by omega)) a ha
    refine ⟨by rw [l2.2.2 1 _ _ (by decide)]; exact b1, fun b hb => ?_⟩
    rw [s0 a b ha]
    have z : (0 : Int64).toInt = 0 := by decide
    rw [z]
    omega
  · unfold AM at *
    simp only [l2.eN, l2.2.2 6 _ _ (by decide)]
    exact hA
