/-! Sweeping on both sides. -/
theorem R0.m2 {n : Nat} {x m m' : St} {Q : Nat → List Nat} (h : R0 n x m Q) (hm : M2 m m') : R0 n x m' Q := ⟨h.1, hm.toMR h.2.1, hm.toQO h.2.2.1, h.2.2.2⟩
theorem R0.s2 {n : Nat} {x x' m : St} {Q : Nat → List Nat} (h : R0 n x m Q) (hs : S2 x x') : R0 n x' m Q := by
  refine ⟨hs.toXQ h.1, ?_, ?_, ?_⟩
  · have := h.2.1
    unfold MR at *
    simp only [hs.eN, hs.eL, hs.2 1 _ _ (by decide), hs.2 5 _ _ (by decide), hs.2 6 _ _ (by decide), hs.2 8 _ _ (by decide), hs.2 7 _ _ (by decide), hs.2 9 _ _ (by decide)]
    exact this
  · have := h.2.2.1
    unfold QO at *
    simp only [hs.eN, hs.2 9 _ _ (by decide), hs.2 5 _ _ (by decide)]
    exact this
  · have := h.2.2.2
    unfold LOK at *
    simp only [hs.eL]
    exact this
/-- bank a's head may go alone -/
def rdy (n : Nat) (x : St) (Q : Nat → List Nat) (a : Nat) : Prop := ∀ j, j < n → xBW n x Q (hd a a) j
theorem LU_head {n : Nat} {m : St} {Q : Nat → List Nat} (h : LU n Q m) {a k : Nat} {q : List Nat} (ha : a < n) (hk : Q a = k :: q) : sI m 10 0 (6 * a) = nI k := by
  have h1 := (h.1 a ha).2 0 (by rw [hk]; exact Nat.succ_pos _)
  rw [Nat.add_zero] at h1
  rw [h1]
  simp [hk]
theorem alone_lp {n : Nat} {x : St} {Q : Nat → List Nat} (K : St → Option (Int32 × St)) : ∀ (fu i : Nat) (m : St), R0 n x m Q → LU n Q m → i ≤ n → n < fu + i → (∀ a k q, i ≤ a → a < n → Q a = k :: q → rdy n x Q a → (∀ a', i ≤ a' → a' < a → Q a' = [] ∨ ¬ rdy n x Q a') → ∃ m1, N2 m m1 ∧ lp_M_alone_2 0 K fu m (nI i) = (f_M_settle 0 m1 (nI k) 1).bind fun o5 => some (1, o5.2)) ∧ ((∀ a', i ≤ a' → a' < n → Q a' = [] ∨ ¬ rdy n x Q a') → ∃ m1, N2 m m1 ∧ lp_M_alone_2 0 K fu m (nI i) = K m1) := by
  intro fu
  induction fu with
  | zero => intro i m _ _ h1 h2; omega
  | succ fu ih =>
    intro i m hR hL h1 h2
    have hn := hR.1.1.2
    rw [lp_M_alone_2_s, hR.2.1.1]
    by_cases hi : i < n
    · have hl6 := (hR.1.2.2.2.2.2.1 i hi).1
      have vi := vin_nI (show i < 4 by omega) (show 4 < 2 ^ 31 by omega)
      have v6 := vin_nI (show 6 * i < 24 by omega) (show 24 < 2 ^ 31 by omega)
      simp only [i60, nI_clamp (show i < 2 ^ 31 by omega), nI_clamp (show 6 * i < 2 ^ 31 by omega), if_pos vi, if_pos v6, (hL.1 i hi).1]
      rw [if_neg (nI_ge hi (by omega))]
      have step : ∀ m1, N2 m m1 → (Q i = [] ∨ ¬ rdy n x Q i) → (∀ a k q, i ≤ a → a < n → Q a = k :: q → rdy n x Q a → (∀ a', i ≤ a' → a' < a → Q a' = [] ∨ ¬ rdy n x Q a') → ∃ m2, N2 m m2 ∧ lp_M_alone_2 0 K fu m1 (nI i + 1) = (f_M_settle 0 m2 (nI k) 1).bind fun o5 => some (1, o5.2)) ∧ ((∀ a', i ≤ a' → a' < n → Q a' = [] ∨ ¬ rdy n x Q a') → ∃ m2, N2 m m2 ∧ lp_M_alone_2 0 K fu m1 (nI i + 1) = K m2) := by
        intro m1 hN hno
        rw [nI_1]
        obtain ⟨i1, i2⟩ := ih (i + 1) m1 (hR.m2 hN.toM2) (hN.toLU hL) (by omega) (by omega)
        refine ⟨fun a k q g1 g2 g3 g4 g5 => ?_, fun g => ?_⟩
        · have hai : a ≠ i := by
            intro e
            subst e
            rcases hno with e | e
            · rw [g3] at e; cases e
            · exact e g4
          obtain ⟨m2, k1, k2⟩ := i1 a k q (by omega) g2 g3 g4 (fun a' h3 h4 => g5 a' (by omega) h4)
          exact ⟨m2, hN.tr k1, k2⟩
        · obtain ⟨m2, k1, k2⟩ := i2 (fun a' h3 h4 => g a' (by omega) h4)
          exact ⟨m2, hN.tr k1, k2⟩
      cases hq : Q i with
      | nil =>
        rw [if_pos (by decide)]
        exact step m N2.rf (Or.inl hq)
      | cons k1 q1 =>
        have hlen : 0 < (Q i).length := by rw [hq]; exact Nat.succ_pos _
        have e0 : (Q i)[0] = k1 := by simp [hq]
        have hhd := LU_head hL hi hq
        rw [if_neg (nI_nle (n := (k1 :: q1).length) (Nat.succ_pos _) (by rw [← hq]; omega)), hhd]
        obtain ⟨m1, hN, g1, g2⟩ := M_ready hR.1 hR.2.1 hR.2.2.2 hi hlen
        rw [e0] at g1 g2
        by_cases hr : rdy n x Q i
        · rw [g1 hr, Option.bind_some, if_neg n10]
          refine ⟨fun a k q g3 g4 g5 g6 g7 => ?_, fun g => ?_⟩
          · have hai : a = i := by
              by_cases e : a = i
              · exact e
              · rcases g7 i (Nat.le_refl _) (by omega) with e2 | e2
                · rw [hq] at e2; cases e2
                · exact absurd hr e2
            subst hai
            rw [hq] at g5
            cases g5
            exact ⟨m1, hN, by rw [hN.1 10 0 _, hhd]⟩
          · rcases g i (Nat.le_refl _) hi with e2 | e2
            · rw [hq] at e2; cases e2
            · exact absurd hr e2
        · rw [g2 hr, Option.bind_some, if_pos rfl]
          exact step m1 hN (Or.inr hr)
    · have : i = n := by omega
      subst this
      rw [if_pos (nI_le (Nat.le_refl _) (by omega))]
      exact ⟨fun a k q g1 g2 => absurd g2 (by omega), fun _ => ⟨m, N2.rf, rfl⟩⟩
theorem pair_in {n : Nat} {x : St} {Q : Nat → List Nat} {a : Nat} (K : St → Option (Int32 × St)) : ∀ (fu b : Nat) (m : St), R0 n x m Q → LU n Q m → a < b → a < n → b ≤ n → n < fu + b → (∀ b1 k q l r, b ≤ b1 → b1 < n → prd n x Q a b1 → Q a = k :: q → Q b1 = l :: r → ∃ m1, N2 m m1 ∧ lp_M_pair_14 0 K fu m (nI a) (nI b) = (f_M_settle 0 m1 (nI k) 2).bind fun o11 => (f_M_settle 0 o11.2 (sI o11.2 10 0 (6 * b1)) 2).bind fun o13 => some (1, o13.2)) ∧ ((∀ b', b ≤ b' → b' < n → ¬ prd n x Q a b') → ∃ m1, N2 m m1 ∧ lp_M_pair_14 0 K fu m (nI a) (nI b) = K m1) := by
  intro fu
  induction fu with
  | zero => intro b m _ _ _ _ h1 h2; omega
  | succ fu ih =>
    intro b m hR hL hab ha h1 h2
    have hn := hR.1.1.2
    have hN100 := hR.1.2.1
    rw [lp_M_pair_14_s, hR.2.1.1]
    by_cases hb : b < n
    · have hl6 := (hR.1.2.2.2.2.2.1 a ha).1
      have hl6b := (hR.1.2.2.2.2.2.1 b hb).1
      have va := vin_nI (show a < 4 by omega) (show 4 < 2 ^ 31 by omega)
      have vb := vin_nI (show b < 4 by omega) (show 4 < 2 ^ 31 by omega)
      have v6a := vin_nI (show 6 * a < 24 by omega) (show 24 < 2 ^ 31 by omega)
      have v6b := vin_nI (show 6 * b < 24 by omega) (show 24 < 2 ^ 31 by omega)
      simp only [i60, nI_clamp (show a < 2 ^ 31 by omega), nI_clamp (show b < 2 ^ 31 by omega), nI_clamp (show 6 * a < 2 ^ 31 by omega), nI_clamp (show 6 * b < 2 ^ 31 by omega), if_pos va, if_pos vb, if_pos v6a, if_pos v6b, (hL.1 a ha).1, (hL.1 b hb).1]
      rw [if_neg (nI_ge hb (by omega))]
      have step : ∀ m1, N2 m m1 → ¬ prd n x Q a b → (∀ b1 k q l r, b ≤ b1 → b1 < n → prd n x Q a b1 → Q a = k :: q → Q b1 = l :: r → ∃ m2, N2 m m2 ∧ lp_M_pair_14 0 K fu m1 (nI a) (nI b + 1) = (f_M_settle 0 m2 (nI k) 2).bind fun o11 => (f_M_settle 0 o11.2 (sI o11.2 10 0 (6 * b1)) 2).bind fun o13 => some (1, o13.2)) ∧ ((∀ b', b ≤ b' → b' < n → ¬ prd n x Q a b') → ∃ m2, N2 m m2 ∧ lp_M_pair_14 0 K fu m1 (nI a) (nI b + 1) = K m2) := by
        intro m1 hN hno
        rw [nI_1]
        obtain ⟨i1, i2⟩ := ih (b + 1) m1 (hR.m2 hN.toM2) (hN.toLU hL) (by omega) ha (by omega) (by omega)
        refine ⟨fun b1 k q l r g1 g2 g3 g4 g5 => ?_, fun g => ?_⟩
        · have hbb : b1 ≠ b := by
            intro e
            subst e
            exact hno g3
          obtain ⟨m2, k1, k2⟩ := i1 b1 k q l r (by omega) g2 g3 g4 g5
          exact ⟨m2, hN.tr k1, k2⟩
        · obtain ⟨m2, k1, k2⟩ := i2 (fun b' h3 h4 => g b' (by omega) h4)
          exact ⟨m2, hN.tr k1, k2⟩
      cases hq : Q a with
      | nil =>
        rw [if_pos (by decide)]
        have hno : ¬ prd n x Q a b := fun g => by
          obtain ⟨⟨k1, l1, q1, r1, e1, -⟩, -⟩ := g
          rw [hq] at e1; cases e1
        obtain ⟨s1, s2⟩ := step m N2.rf hno
        exact ⟨fun b1 k q l r g1 g2 g3 g4 g5 => (by cases g4), s2⟩
      | cons k1 q1 =>
        rw [if_neg (nI_nle (n := (k1 :: q1).length) (Nat.succ_pos _) (by rw [← hq]; omega))]
        cases hqb : Q b with
        | nil =>
          rw [if_pos (by decide)]
          have hno : ¬ prd n x Q a b := fun g => by
            obtain ⟨⟨k2, l2, q2, r2, -, e1, -⟩, -⟩ := g
            rw [hqb] at e1; cases e1
          obtain ⟨s1, s2⟩ := step m N2.rf hno
          exact ⟨fun b1 k q l r g1 g2 g3 g4 g5 => s1 b1 k q l r g1 g2 g3 (hq.trans g4) g5, s2⟩
        | cons l1 r1 =>
          have hka := (hR.1.2.2.2.2.2.2.1 a ha k1 (by rw [hq]; exact List.mem_cons_self)).1
          have hkb := (hR.1.2.2.2.2.2.2.1 b hb l1 (by rw [hqb]; exact List.mem_cons_self)).1
          have hha := LU_head hL ha hq
          have hhb := LU_head hL hb hqb
          have ta := (hR.2.1.2.2.2.2.2 k1 hka).2.1
          have tb := (hR.2.1.2.2.2.2.2 l1 hkb).2.1
          rw [if_neg (nI_nle (n := (l1 :: r1).length) (Nat.succ_pos _) (by rw [← hqb]; omega)), hha, hhb, if_pos (vin_nI (show k1 < 100 by omega) (by omega)), nI_clamp (show k1 < 2 ^ 31 by omega), ta]
          by_cases h3 : sI x 6 k1 0 = nI b
          · rw [if_pos h3, if_pos (vin_nI (show l1 < 100 by omega) (by omega)), nI_clamp (show l1 < 2 ^ 31 by omega), tb]
            by_cases h4 : sI x 6 l1 0 = nI a
            · rw [if_pos h4]
              have hlen : 0 < (Q a).length := by rw [hq]; exact Nat.succ_pos _
              have hlenb : 0 < (Q b).length := by rw [hqb]; exact Nat.succ_pos _
              have e0 : (Q a)[0] = k1 := by simp [hq]
              have e1 : (Q b)[0] = l1 := by simp [hqb]
              obtain ⟨m1, hN, g1, g2⟩ := M_ready2 hR.1 hR.2.1 hR.2.2.2 ha hb (by omega) hlen hlenb
              rw [e0, e1] at g1 g2
              by_cases hr : ∀ j, j < n → xBW n x Q (hd a b) j
              · rw [g1 hr, Option.bind_some, if_neg n10]
                have hpr : prd n x Q a b := ⟨⟨k1, l1, q1, r1, hq, hqb, h3, h4⟩, hr⟩
                refine ⟨fun b1 k q l r k1' k2' k3' k4' k5' => ?_, fun g => absurd hpr (g b (Nat.le_refl _) hb)⟩
                have hbb : b1 = b := by
                  obtain ⟨⟨k9, l9, q9, r9, e9, -, e10, -⟩, -⟩ := k3'
                  rw [hq] at e9
                  cases e9
                  rw [h3] at e10
                  exact (nI_inj (by omega) (by omega) e10).symm
                subst hbb
                cases k4'
                exact ⟨m1, hN, by rw [hN.1 10 0 _, hha]⟩
              · rw [g2 hr, Option.bind_some, if_pos rfl]
                obtain ⟨s1, s2⟩ := step m1 hN (fun g => hr g.2)
                exact ⟨fun b1 k q l r g1 g2 g3 g4 g5 => s1 b1 k q l r g1 g2 g3 (hq.trans g4) g5, s2⟩
            · rw [if_neg h4]
              obtain ⟨s1, s2⟩ := step m N2.rf (fun g => by
                obtain ⟨⟨k2, l2, q2, r2, -, e1, -, e3⟩, -⟩ := g
                rw [hqb] at e1
                cases e1
                exact h4 e3)
              exact ⟨fun b1 k q l r g1 g2 g3 g4 g5 => s1 b1 k q l r g1 g2 g3 (hq.trans g4) g5, s2⟩
          · rw [if_neg h3]
            obtain ⟨s1, s2⟩ := step m N2.rf (fun g => by
              obtain ⟨⟨k2, l2, q2, r2, e1, -, e3, -⟩, -⟩ := g
              rw [hq] at e1
              cases e1
              exact h3 e3)
            exact ⟨fun b1 k q l r g1 g2 g3 g4 g5 => s1 b1 k q l r g1 g2 g3 (hq.trans g4) g5, s2⟩
    · have : b = n := by omega
      subst this
      rw [if_pos (nI_le (Nat.le_refl _) (by omega))]
      exact ⟨fun b1 k q l r g1 g2 => absurd g2 (by omega), fun _ => ⟨m, N2.rf, rfl⟩⟩
theorem pair_out {n : Nat} {x : St} {Q : Nat → List Nat} (K : St → Option (Int32 × St)) : ∀ (fu i : Nat) (m : St), R0 n x m Q → LU n Q m → i ≤ n → n < fu + i → (∀ a b k q l r, i ≤ a → a < b → b < n → prd n x Q a b → Q a = k :: q → Q b = l :: r → (∀ a' b', i ≤ a' → a' < a → a' < b' → b' < n → ¬ prd n x Q a' b') → ∃ m1, N2 m m1 ∧ lp_M_pair_2 0 K fu m (nI i) = (f_M_settle 0 m1 (nI k) 2).bind fun o11 => (f_M_settle 0 o11.2 (sI o11.2 10 0 (6 * b)) 2).bind fun o13 => some (1, o13.2)) ∧ ((∀ a' b', i ≤ a' → a' < b' → b' < n → ¬ prd n x Q a' b') → ∃ m1, N2 m m1 ∧ lp_M_pair_2 0 K fu m (nI i) = K m1) := by
  intro fu
  induction fu with
  | zero => intro i m _ _ h1 h2; omega
  | succ fu ih =>
    intro i m hR hL h1 h2
    have hn := hR.1.1.2
    rw [lp_M_pair_2_s, hR.2.1.1]
    by_cases hi : i < n
    · rw [if_neg (nI_ge hi (by omega)), nI_1]
      obtain ⟨p1, p2⟩ := pair_in (a := i) (fun σ14 => lp_M_pair_2 0 K fu σ14 (nI (i + 1))) 1000 (i + 1) m hR hL (by omega) hi (by omega) (by omega)
      refine ⟨fun a b k q l r g1 g2 g3 g4 g5 g6 g7 => ?_, fun g => ?_⟩
      · by_cases e : a = i
        · subst e
          exact p1 b k q l r (by omega) g3 g4 g5 g6
        · obtain ⟨m1, hN, e1⟩ := p2 (fun b' h3 h4 => g7 i b' (Nat.le_refl _) (by omega) (by omega) h4)
          obtain ⟨i1, -⟩ := ih (i + 1) m1 (hR.m2 hN.toM2) (hN.toLU hL) (by omega) (by omega)
          obtain ⟨m2, k1, k2⟩ := i1 a b k q l r (by omega) g2 g3 g4 g5 g6 (fun a' b' h3 h4 h5 h6 => g7 a' b' (by omega) h4 h5 h6)
          exact ⟨m2, hN.tr k1, e1.trans k2⟩
      · obtain ⟨m1, hN, e1⟩ := p2 (fun b' h3 h4 => g i b' (Nat.le_refl _) (by omega) h4)
        obtain ⟨-, i2⟩ := ih (i + 1) m1 (hR.m2 hN.toM2) (hN.toLU hL) (by omega) (by omega)
        obtain ⟨m2, k1, k2⟩ := i2 (fun a' b' h3 h4 h5 => g a' b' (by omega) h4 h5)
        exact ⟨m2, hN.tr k1, e1.trans k2⟩
    · have : i = n := by omega
      subst this
      rw [if_pos (nI_le (Nat.le_refl _) (by omega))]
      exact ⟨fun a b k q l r g1 g2 g3 => absurd g3 (by omega), fun _ => ⟨m, N2.rf, rfl⟩⟩
