/-! What stays true from call to call. -/
def AW (n : Nat) (x : St) : Prop := ∀ a, a < n → BW n (fun a b => sL x 4 a b) (fun a => sL x 3 a 0) (fun a => sL x 2 a 0) (fun a => sL x 1 a 0) (fun a b => sL x 5 a b) a
theorem AW_z {n : Nat} {x : St} (Q : Nat → List Nat) {a : Nat} (ha : a < n) : xBW n x Q (fun _ => 0) a ↔ BW n (fun a b => sL x 4 a b) (fun a => sL x 3 a 0) (fun a => sL x 2 a 0) (fun a => sL x 1 a 0) (fun a b => sL x 5 a b) a := by
  have e : ∀ a b, xS x Q (fun _ => 0) a b = sL x 5 a b := fun a b => by
    show addTo x b ((Q a).take 0) _ = _
    rw [List.take_zero]
    rfl
  exact BW_congr ha (fun _ _ => rfl) rfl rfl (xF_zero n x Q a) (fun b _ => e a b) (fun b _ => e b a)
def Core (B n : Nat) (x m : St) (Q : Nat → List Nat) : Prop := R0 n x m Q ∧ AW n x ∧ BD n B x ∧ AM x
def Stm (S : Nat) (x m : St) : Prop := sI m 3 0 0 = nI S ∧ ∀ k, k < sN x → ∃ t, t ≤ S ∧ sI m 8 0 k = nI t
def Rel (c n : Nat) (x m : St) : Prop := ∃ Q S, Core (700 * c) n x m Q ∧ Stm S x m ∧ S ≤ c
theorem BD.up {n B B' : Nat} {x : St} (h : BD n B x) (hb : B ≤ B') : BD n B' x := fun a ha => ⟨⟨by have := ((h a ha).1).1; omega, by have := ((h a ha).1).2; omega⟩, fun b hb2 => ⟨((h a ha).2 b hb2).1, by have := ((h a ha).2 b hb2).2; omega⟩⟩
theorem Rel.up {c n : Nat} {x m : St} (h : Rel c n x m) : Rel (c + 1) n x m := by
  obtain ⟨Q, S, ⟨h1, h2, h3, h4⟩, h5, h6⟩ := h
  exact ⟨Q, S, ⟨h1, h2, h3.up (by omega), h4⟩, h5, by omega⟩
def TT (B n N : Nat) (i : Nat) (x : St) (_ : Nat → List Nat) : Prop := i ≤ 24 → AW n x ∧ BD n (B + 24 * i) x ∧ AM x ∧ sN x = N
theorem TT_s2 {B n N : Nat} : ∀ i x y Q, TT B n N i x Q → S2 x y → TT B n N i y Q := by
  intro i x y Q h hs hi
  obtain ⟨h1, h2, h3, h4⟩ := h hi
  refine ⟨?_, ?_, ?_, hs.eN.trans h4⟩
  · unfold AW at *
    simp only [hs.eL]
    exact h1
  · unfold BD at *
    simp only [hs.eL]
    exact h2
  · unfold AM at *
    simp only [hs.eL, hs.eN]
    exact h3
theorem JJ_inv {n B : Nat} {x x' m' : St} {Q Q' : Nat → List Nat} {w : Nat → Nat} (hX : XQ n x Q) (hA : AM x) (hB : BD n B x) (hB2 : B ≤ 400000) (hw : ∀ a, a < n → xBW n x Q w a) (hJ : JJ n x Q w x' m' Q') : AW n x' ∧ BD n (B + 24) x' ∧ AM x' := by
  obtain ⟨hR, j1, j2, j3, j4, j5, j6⟩ := hJ
  refine ⟨fun a ha => ?_, fun a ha => ⟨?_, fun b hb => ?_⟩, fun k hk => ?_⟩
  · refine (BW_congr ha (fun b hb => j5 4 a b (by decide) (by decide) (by decide)) (j5 3 a 0 (by decide) (by decide) (by decide)) (j5 2 a 0 (by decide) (by decide) (by decide)) (j1 a ha) (fun b hb => j2 a b ha hb) (fun b hb => j2 b a hb ha)).mpr (hw a ha)
  · obtain ⟨-, -, e, b1, b2⟩ := x_ints hX hA hB hB2 w ha
    rw [j1 a ha, e]
    exact ⟨b1, b2⟩
  · obtain ⟨e, z1, z2⟩ := xS_int hX hA hB (by omega) w ha hb
    obtain ⟨k1, k2⟩ := (hB a ha).2 b hb
    rw [j2 a b ha hb, e]
    unfold zS
    omega
  · rw [j4] at hk
    rw [j5 6 k 0 (by decide) (by decide) (by decide)]
    exact hA k hk
theorem sweep_core {B n S : Nat} {x m : St} {Q : Nat → List Nat} (hB2 : B ≤ 399000) (h : Core B n x m Q) (hs : Stm S x m) : ∃ x' m', f_X_sweep n x = some ((), x') ∧ f_M_sweep 0 m = some ((), m') ∧ ∃ Q', Core (B + 600) n x' m' Q' ∧ Stm S x' m' := by
  obtain ⟨hR, hW, hBD, hA⟩ := h
  obtain ⟨x', m', Q', i', t1, t2, t3, t4, t5, t6⟩ := sweep_both (Q := Q) (TT B n (sN x)) TT_s2 (fun i y m1 Q1 w y' m2 Q2 h1 h2 h3 h4 h5 hi => by
    obtain ⟨g1, g2, g3, g4⟩ := h2 (by omega)
    obtain ⟨k1, k2, k3⟩ := JJ_inv h1.1 g3 g2 (by omega) h3 h5
    refine ⟨k1, k2.up (by omega), k3, h5.2.2.2.2.1.trans g4⟩) hR (fun _ => ⟨hW, hBD.up (by omega), hA, rfl⟩)
  obtain ⟨g1, g2, g3, g4⟩ := t4 t5
  refine ⟨x', m', t1, t2, Q', ⟨t3, g1, g2.up (by omega), g3⟩, ?_, fun k hk => ?_⟩
  · rw [t6 3 0 0 (by decide) (by decide) (by decide) (by decide)]
    exact hs.1
  · rw [g4] at hk
    rw [t6 8 0 k (by decide) (by decide) (by decide) (by decide)]
    exact hs.2 k hk
theorem M_isBank_yes {n j : Nat} {m : St} (h0 : sI m 0 0 0 = nI n) (h : j < n) (hn : n ≤ 4) : f_M_isBank 0 m (nI j) = some (1, m) := by
  unfold f_M_isBank
  rw [h0, if_neg (nI_pos (by omega)), if_neg (nI_ge h (by omega))]
theorem M_isBank_no {n : Nat} {m : St} (h0 : sI m 0 0 0 = nI n) {x : Int32} (h : x < 0 ∨ nI n ≤ x) : f_M_isBank 0 m x = some (0, m) := by
  unfold f_M_isBank
  rw [h0]
  rcases h with h | h
  · rw [if_pos h]
  · by_cases h0 : x < 0
    · rw [if_pos h0]
    · rw [if_neg h0, if_pos h]
/-- a bank, or none -/
theorem bank_or (x : Int32) {n : Nat} (hn : n ≤ 4) : (x < 0 ∨ nI n ≤ x) ∨ ∃ j, j < n ∧ x = nI j := by
  rcases pk_ix x (show n < 2 ^ 31 by omega) with h | h | h
  · exact Or.inl (Or.inl h)
  · exact Or.inl (Or.inr h)
  · exact Or.inr h
theorem po_turnover : PO_turnover Rel := by
  intro c n x m hc h
  obtain ⟨Q, S, hC, -⟩ := id h
  exact ⟨sL x 0 0 0, x, m, rfl, by unfold f_M_turnover; rw [hC.1.2.1.2.2.1], h.up⟩
theorem po_now : PO_now Rel := by
  intro c n x m hc h
  obtain ⟨Q, S, hC, -⟩ := id h
  exact ⟨sI x 1 0 0, x, m, rfl, by unfold f_M_now; rw [hC.1.2.1.2.1], h.up⟩
theorem po_mono : PO_mono Rel := fun _ _ _ _ h => h.up
theorem po_balance : PO_balance Rel := by
  intro c n x m a1 hc h
  obtain ⟨Q, S, hC, -⟩ := id h
  have hn := hC.1.1.1.2
  have h0 := hC.1.2.1.1
  rcases bank_or a1 hn with g | ⟨j, hj, rfl⟩
  · refine ⟨0, x, m, ?_, ?_, h.up⟩
    · unfold f_X_balance
      rw [X_isBank_no x g, Option.bind_some, if_pos rfl]
    · unfold f_M_balance
      rw [M_isBank_no h0 g, Option.bind_some, if_pos rfl]
  · refine ⟨sL x 1 j 0, x, m, ?_, ?_, h.up⟩
    · unfold f_X_balance
      rw [X_isBank_yes x hj hn, Option.bind_some, if_neg n10, if_pos (vin_nI hj (by omega)), nI_clamp (by omega)]
    · unfold f_M_balance
      rw [M_isBank_yes h0 hj hn, Option.bind_some, if_neg n10, if_pos (vin_nI (show j < 4 by omega) (by omega)), nI_clamp (by omega)]
      simp only []
      rw [(hC.1.2.1.2.2.2.2.1 j hj).1]
theorem po_position : PO_position Rel := by
  intro c n x m a1 a2 hc h
  obtain ⟨Q, S, hC, -⟩ := id h
  have hn := hC.1.1.1.2
  have h0 := hC.1.2.1.1
  rcases bank_or a1 hn with g | ⟨j, hj, rfl⟩
  · refine ⟨0, x, m, ?_, ?_, h.up⟩
    · unfold f_X_position
      rw [X_two_no x hn (fun ⟨a, b, h1, h2, h3, h4, h5⟩ => by
        subst h4
        rcases g with g | g
        · exact nI_pos (by omega) g
        · exact nI_ge h1 (by omega) g), Option.bind_some, if_pos rfl]
    · unfold f_M_position
      rw [M_isBank_no h0 g, Option.bind_some, if_pos rfl]
  · rcases bank_or a2 hn with g | ⟨i, hi, rfl⟩
    · refine ⟨0, x, m, ?_, ?_, h.up⟩
      · unfold f_X_position
        rw [X_two_no x hn (fun ⟨a, b, h1, h2, h3, h4, h5⟩ => by
          subst h5
          rcases g with g | g
          · exact nI_pos (by omega) g
          · exact nI_ge h2 (by omega) g), Option.bind_some, if_pos rfl]
      · unfold f_M_position
        rw [M_isBank_yes h0 hj hn, Option.bind_some, if_neg n10]
        simp only []
        rw [M_isBank_no h0 g, Option.bind_some, if_pos rfl]
    · have hm : f_M_position 0 m (nI j) (nI i) = some (sL x 5 j i - sL x 5 i j, m) := by
        unfold f_M_position
        rw [M_isBank_yes h0 hj hn, Option.bind_some, if_neg n10]
        simp only []
        rw [M_isBank_yes h0 hi hn, Option.bind_some, if_neg n10]
        simp only [i4, nI_clamp (show 4 * j + i < 2 ^ 31 by omega), nI_clamp (show 4 * i + j < 2 ^ 31 by omega)]
        rw [if_pos (vin_nI (show 4 * j + i < 16 by omega) (by omega)), if_pos (vin_nI (show 4 * i + j < 16 by omega) (by omega)), ((hC.1.2.1.2.2.2.2.1 j hj).2.2.2 i hi).2, ((hC.1.2.1.2.2.2.2.1 i hi).2.2.2 j hj).2]
      by_cases hji : j = i
      · subst hji
        refine ⟨0, x, m, ?_, ?_, h.up⟩
        · unfold f_X_position
          rw [X_two_no x hn (fun ⟨a, b, h1, h2, h3, h4, h5⟩ => h3 (nI_inj (by omega) (by omega) (h4.symm.trans h5))), Option.bind_some, if_pos rfl]
        · rw [hm, show sL x 5 j j - sL x 5 j j = 0 by grind]
      · refine ⟨_, x, m, ?_, hm, h.up⟩
        unfold f_X_position
        rw [X_two_yes x hj hi hn hji, Option.bind_some, if_neg n10]
        simp only []
        rw [X_pos x hj hi hn, Option.bind_some]
theorem po_state : PO_state Rel := by
  intro c n x m a1 hc h
  obtain ⟨Q, S, hC, -⟩ := id h
  have hN := hC.1.1.2.1
  have hcn := hC.1.1.2.2.1
  have hcm := hC.1.2.1.2.2.2.1
  rcases pk_ix a1 (show sN x < 2 ^ 31 by omega) with g | g | ⟨k, hk, rfl⟩
  · refine ⟨-1, x, m, ?_, ?_, h.up⟩
    · unfold f_X_state f_X_isPayment
      rw [if_pos g, Option.bind_some, if_pos rfl]
    · unfold f_M_state
      rw [if_pos g]
  · refine ⟨-1, x, m, ?_, ?_, h.up⟩
    · unfold f_X_state f_X_isPayment
      rw [hcn]
      by_cases g0 : a1 < 0
      · rw [if_pos g0, Option.bind_some, if_pos rfl]
      · rw [if_neg g0, if_pos g, Option.bind_some, if_pos rfl]
    · unfold f_M_state
      rw [hcm]
      by_cases g0 : a1 < 0
      · rw [if_pos g0]
      · rw [if_neg g0, if_neg (fun g2 => by rw [Int32.lt_iff_toInt_lt] at g2; rw [Int32.le_iff_toInt_le] at g; omega)]
  · obtain ⟨p1, p2⟩ := hC.1.1.2.2.2.1 k hk
    refine ⟨sI x 9 k 0, x, m, ?_, ?_, h.up⟩
    · unfold f_X_state f_X_isPayment
      rw [hcn, if_neg (nI_pos (by omega)), if_neg (nI_ge hk (by omega)), Option.bind_some, if_neg n10, if_pos (vin_nI (show k < 100 by omega) (by omega)), nI_clamp (by omega)]
      simp only []
      rw [p1, dR_some hk, Option.bind_some]
    · unfold f_M_state
      rw [hcm, if_neg (nI_pos (by omega)), if_pos (nI_lt hk (by omega)), if_pos (vin_nI (show k < 100 by omega) (by omega)), nI_clamp (by omega), (hC.1.2.1.2.2.2.2.2 k hk).2.2.2.2.2]
