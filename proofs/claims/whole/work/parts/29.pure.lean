/-- limits are none, or not negative -/
def LOK (n : Nat) (x : St) : Prop := (∀ a b, a < n → b < n → sL x 4 a b = -1 ∨ 0 ≤ sL x 4 a b) ∧ ∀ a, a < n → sL x 3 a 0 = -1 ∨ 0 ≤ sL x 3 a 0
theorem neg_m1 {v : Int64} (h : v = -1 ∨ 0 ≤ v) : v < 0 ↔ v = -1 := by
  rcases h with h | h
  · exact ⟨fun _ => h, fun _ => by rw [h]; decide⟩
  · refine ⟨fun g => ?_, fun g => by rw [g]; decide⟩
    rw [Int64.lt_iff_toInt_lt] at g
    rw [Int64.le_iff_toInt_le] at h
    omega
def mBW (n : Nat) (m : St) (a : Nat) : Prop := BW n (fun a b => sL m 4 0 (4 * a + b)) (fun a => sL m 3 0 a) (fun a => sL m 2 0 a) (fun a => sL m 7 0 a) (fun a b => sL m 8 0 (4 * a + b)) a
theorem i4 (a b : Nat) : (4 * nI a + nI b : Int32) = nI (4 * a + b) := by rw [show (4 : Int32) = nI 4 from rfl, pk_mul, nI_add]
theorem i6 (a b : Nat) : (6 * nI a + nI b : Int32) = nI (6 * a + b) := by rw [show (6 : Int32) = nI 6 from rfl, pk_mul, nI_add]
theorem i60 (a : Nat) : (6 * nI a : Int32) = nI (6 * a) := by rw [show (6 : Int32) = nI 6 from rfl, pk_mul]
theorem allWell_in {n : Nat} {m : St} (hn : n ≤ 4) (h0 : sI m 0 0 0 = nI n) (hl : ∀ a b, a < n → b < n → sL m 4 0 (4 * a + b) = -1 ∨ 0 ≤ sL m 4 0 (4 * a + b)) {a : Nat} (ha : a < n) (K : St → Int64 → Option (Int32 × St)) : ∀ (fu b : Nat), b ≤ n → n < fu + b → ((∀ b', b ≤ b' → b' < n → (sL m 8 0 (4 * a + b') - sL m 8 0 (4 * b' + a) ≤ sL m 4 0 (4 * a + b') ∨ sL m 4 0 (4 * a + b') = -1)) → lp_M_allWell_15 0 K fu m (nI a) (sumN (fun b => sL m 8 0 (4 * a + b) - sL m 8 0 (4 * b + a)) b) (nI b) = K m (sumN (fun b => sL m 8 0 (4 * a + b) - sL m 8 0 (4 * b + a)) n)) ∧ (¬ (∀ b', b ≤ b' → b' < n → (sL m 8 0 (4 * a + b') - sL m 8 0 (4 * b' + a) ≤ sL m 4 0 (4 * a + b') ∨ sL m 4 0 (4 * a + b') = -1)) → lp_M_allWell_15 0 K fu m (nI a) (sumN (fun b => sL m 8 0 (4 * a + b) - sL m 8 0 (4 * b + a)) b) (nI b) = some (0, m)) := by
  intro fu
  induction fu with
  | zero => intro b h1 h2; omega
  | succ fu ih =>
    intro b h1 h2
    rw [lp_M_allWell_15_s, h0]
    by_cases hb : b < n
    · have v1 := vin_nI (show 4 * a + b < 16 by omega) (show 16 < 2 ^ 31 by omega)
      have v2 := vin_nI (show 4 * b + a < 16 by omega) (show 16 < 2 ^ 31 by omega)
      simp only [i4, nI_clamp (show 4 * a + b < 2 ^ 31 by omega), nI_clamp (show 4 * b + a < 2 ^ 31 by omega)]
      rw [if_neg (nI_ge hb (by omega)), if_pos v1, if_pos v2, if_pos v1]
      have key : ∀ P : Nat → Prop, (∀ b', b ≤ b' → b' < n → P b') ↔ (P b ∧ ∀ b', b + 1 ≤ b' → b' < n → P b') := fun P => ⟨fun g => ⟨g b (Nat.le_refl _) hb, fun b' g1 g2 => g b' (by omega) g2⟩, fun g b' g1 g2 => by
        by_cases e : b' = b
        · rw [e]; exact g.1
        · exact g.2 b' (by omega) g2⟩
      rw [key]
      obtain ⟨i1, i2⟩ := ih (b + 1) (by omega) (by omega)
      rw [nI_1]
      by_cases h3 : sL m 4 0 (4 * a + b) < 0
      · rw [if_pos h3]
        have h4 := (neg_m1 (hl a b ha hb)).mp h3
        exact ⟨fun g => i1 g.2, fun g => i2 (fun g2 => g ⟨Or.inr h4, g2⟩)⟩
      · have h4 : ¬ sL m 4 0 (4 * a + b) = -1 := fun e => h3 ((neg_m1 (hl a b ha hb)).mpr e)
        rw [if_neg h3, if_pos v1]
        by_cases h5 : sL m 8 0 (4 * a + b) - sL m 8 0 (4 * b + a) ≤ sL m 4 0 (4 * a + b)
        · rw [if_pos h5]
          exact ⟨fun g => i1 g.2, fun g => i2 (fun g2 => g ⟨Or.inl h5, g2⟩)⟩
        · rw [if_neg h5]
          exact ⟨fun g => absurd g.1 (fun q => q.elim h5 h4), fun _ => rfl⟩
    · have : b = n := by omega
      subst this
      rw [if_pos (nI_le (Nat.le_refl _) (by omega))]
      exact ⟨fun _ => rfl, fun g => absurd (fun b' g1 g2 => absurd g2 (by omega)) g⟩
theorem allWell_out {n : Nat} {m : St} (hn : n ≤ 4) (h0 : sI m 0 0 0 = nI n) (hl : ∀ a b, a < n → b < n → sL m 4 0 (4 * a + b) = -1 ∨ 0 ≤ sL m 4 0 (4 * a + b)) (ht : ∀ a, a < n → sL m 3 0 a = -1 ∨ 0 ≤ sL m 3 0 a) (K : St → Option (Int32 × St)) : ∀ (fu a : Nat), a ≤ n → n < fu + a → ((∀ a', a ≤ a' → a' < n → mBW n m a') → lp_M_allWell_2 0 K fu m (nI a) = K m) ∧ (¬ (∀ a', a ≤ a' → a' < n → mBW n m a') → lp_M_allWell_2 0 K fu m (nI a) = some (0, m)) := by
  intro fu
  induction fu with
  | zero => intro a h1 h2; omega
  | succ fu ih =>
    intro a h1 h2
    rw [lp_M_allWell_2_s, h0]
    by_cases ha : a < n
    · have va := vin_nI (show a < 4 by omega) (show 4 < 2 ^ 31 by omega)
      rw [if_neg (nI_ge ha (by omega))]
      have key : ∀ P : Nat → Prop, (∀ b', a ≤ b' → b' < n → P b') ↔ (P a ∧ ∀ b', a + 1 ≤ b' → b' < n → P b') := fun P => ⟨fun g => ⟨g a (Nat.le_refl _) ha, fun b' g1 g2 => g b' (by omega) g2⟩, fun g b' g1 g2 => by
        by_cases e : b' = a
        · rw [e]; exact g.1
        · exact g.2 b' (by omega) g2⟩
      rw [key]
      obtain ⟨i1, i2⟩ := ih (a + 1) (by omega) (by omega)
      simp only [nI_clamp (show a < 2 ^ 31 by omega), if_pos va, nI_1]
      obtain ⟨j1, j2⟩ := allWell_in hn h0 hl ha (fun σ6 y2_5 =>
        if (sL σ6 7 0 a) < (-(sL σ6 2 0 a)) then
        some (0, σ6)
        else
        if (sL σ6 3 0 a) < 0 then
        lp_M_allWell_2 0 K fu σ6 (nI (a + 1))
        else
        if y2_5 ≤ (sL σ6 3 0 a) then
        lp_M_allWell_2 0 K fu σ6 (nI (a + 1))
        else
        some (0, σ6)) 1000 0 (by omega) (by omega)
      by_cases g1 : ∀ b', 0 ≤ b' → b' < n → (sL m 8 0 (4 * a + b') - sL m 8 0 (4 * b' + a) ≤ sL m 4 0 (4 * a + b') ∨ sL m 4 0 (4 * a + b') = -1)
      · have e1 := j1 g1
        have e1 : lp_M_allWell_15 0 _ 1000 m (nI a) 0 0 = _ := e1
        rw [e1]
        by_cases g2 : sL m 7 0 a < -(sL m 2 0 a)
        · rw [if_pos g2]
          exact ⟨fun g => absurd g2 g.1.2.1, fun _ => rfl⟩
        · rw [if_neg g2]
          by_cases g3 : sL m 3 0 a < 0
          · rw [if_pos g3]
            have g4 : mBW n m a := ⟨fun b hb => g1 b (Nat.zero_le _) hb, g2, Or.inr ((neg_m1 (ht a ha)).mp g3)⟩
            exact ⟨fun g => i1 g.2, fun g => i2 (fun g5 => g ⟨g4, g5⟩)⟩
          · rw [if_neg g3]
            by_cases g5 : sumN (fun b => sL m 8 0 (4 * a + b) - sL m 8 0 (4 * b + a)) n ≤ sL m 3 0 a
            · rw [if_pos g5]
              have g4 : mBW n m a := ⟨fun b hb => g1 b (Nat.zero_le _) hb, g2, Or.inl g5⟩
              exact ⟨fun g => i1 g.2, fun g => i2 (fun g5 => g ⟨g4, g5⟩)⟩
            · rw [if_neg g5]
              exact ⟨fun g => absurd g.1.2.2 (fun q => q.elim g5 (fun e => g3 ((neg_m1 (ht a ha)).mpr e))), fun _ => rfl⟩
      · have e1 := j2 g1
        have e1 : lp_M_allWell_15 0 _ 1000 m (nI a) 0 0 = _ := e1
        rw [e1]
        exact ⟨fun g => absurd (fun b' _ hb => g.1.1 b' hb) g1, fun _ => rfl⟩
    · have : a = n := by omega
      subst this
      rw [if_pos (nI_le (Nat.le_refl _) (by omega))]
      exact ⟨fun _ => rfl, fun g => absurd (fun b' g1 g2 => absurd g2 (by omega)) g⟩
theorem BW_congr {n : Nat} {lim lim' : Nat → Nat → Int64} {tot tot' cred cred' F F' : Nat → Int64} {S S' : Nat → Nat → Int64} {a : Nat} (ha : a < n) (h1 : ∀ b, b < n → lim a b = lim' a b) (h2 : tot a = tot' a) (h3 : cred a = cred' a) (h4 : F a = F' a) (h5 : ∀ b, b < n → S a b = S' a b) (h6 : ∀ b, b < n → S b a = S' b a) : BW n lim tot cred F S a ↔ BW n lim' tot' cred' F' S' a := by
  unfold BW
  rw [h2, h3, h4, sumN_congr (g := fun b => S' a b - S' b a) (fun b hb => by rw [h5 b hb, h6 b hb])]
  have e : ∀ b, b < n → (S a b - S b a ≤ lim a b ∨ lim a b = -1) = (S' a b - S' b a ≤ lim' a b ∨ lim' a b = -1) := fun b hb => by rw [h1 b hb, h5 b hb, h6 b hb]
  refine ⟨fun g => ⟨fun b hb => (e b hb) ▸ g.1 b hb, g.2⟩, fun g => ⟨fun b hb => (e b hb).symm ▸ g.1 b hb, g.2⟩⟩
theorem M_allWell {n : Nat} {x m : St} {Q : Nat → List Nat} (h : XQ n x Q) (hr : MR n x m) (hl : LOK n x) {w : Nat → Nat} (hp : PI n x Q w m) : ((∀ a, a < n → xBW n x Q w a) → f_M_allWell 0 m = some (1, m)) ∧ (¬ (∀ a, a < n → xBW n x Q w a) → f_M_allWell 0 m = some (0, m)) := by
  have hn := h.1.2
  have e : ∀ a, a < n → (mBW n m a ↔ xBW n x Q w a) := by
    intro a ha
    obtain ⟨r1, r2, r3, r4⟩ := hr.2.2.2.2.1 a ha
    exact BW_congr ha (fun b hb => (r4 b hb).1) r3 r2 (hp.1 a ha) (fun b hb => hp.2 a b ha hb) (fun b hb => hp.2 b a hb ha)
  obtain ⟨i1, i2⟩ := allWell_out hn hr.1 (fun a b ha hb => by rw [((hr.2.2.2.2.1 a ha).2.2.2 b hb).1]; exact hl.1 a b ha hb) (fun a ha => by rw [(hr.2.2.2.2.1 a ha).2.2.1]; exact hl.2 a ha) (fun σ11 => some (1, σ11)) 1000 0 (by omega) (by omega)
  exact ⟨fun g => i1 (fun a _ ha => (e a ha).mpr (g a ha)), fun g => i2 (fun g2 => g (fun a ha => (e a ha).mp (g2 a (Nat.zero_le _) ha)))⟩
theorem xBW_w {n : Nat} {x : St} {Q : Nat → List Nat} {w w' : Nat → Nat} (h : ∀ a, a < n → w a = w' a) {a : Nat} (ha : a < n) : xBW n x Q w a ↔ xBW n x Q w' a := by
  have e : ∀ a b, a < n → xS x Q w a b = xS x Q w' a b := fun a b ha => by unfold xS; rw [h a ha]
  refine BW_congr ha (fun _ _ => rfl) rfl rfl ?_ (fun b _ => e a b ha) (fun b hb => e b a hb)
  unfold xF
  rw [sumN_congr (g := fun b => (xS x Q w' a b - xS x Q w' b a) - (sL x 5 a b - sL x 5 b a)) (fun b hb => by rw [e a b ha, e b a hb])]
theorem M_ready {n : Nat} {x m : St} {Q : Nat → List Nat} (h : XQ n x Q) (hr : MR n x m) (hl : LOK n x) {a : Nat} (ha : a < n) (hq : 0 < (Q a).length) : ∃ m', N2 m m' ∧ ((∀ j, j < n → xBW n x Q (hd a a) j) → f_M_ready 0 m (nI (Q a)[0]) (-1) = some (1, m')) ∧ (¬ (∀ j, j < n → xBW n x Q (hd a a) j) → f_M_ready 0 m (nI (Q a)[0]) (-1) = some (0, m')) := by
  obtain ⟨m1, k1, k2, k3, k4⟩ := M_now0 m
  obtain ⟨m2, l1, l2, l3⟩ := PI_step h (k2.toM2.toMR hr) (PI_0 h hr k3 k4) ha hq
  have hr2 := (k2.tr l2).toM2.toMR hr
  obtain ⟨i1, i2⟩ := M_allWell h hr2 hl l3
  have ew : ∀ j, j < n → (xBW n x Q (upw (fun _ => 0) a) j ↔ xBW n x Q (hd a a) j) := fun j hj => xBW_w (fun b _ => by unfold upw hd; by_cases e : b = a <;> simp [e]) hj
  refine ⟨m2, k2.tr l2, fun g => ?_, fun g => ?_⟩
  · unfold f_M_ready
    rw [k1, Option.bind_some]
    show (f_M_plan 0 m1 (nI (Q a)[0])).bind _ = _
    rw [show f_M_plan 0 m1 (nI (Q a)[0]) = some ((), m2) from l1, Option.bind_some, if_pos (by decide), i1 (fun j hj => (ew j hj).mpr (g j hj)), Option.bind_some]
    rfl
  · unfold f_M_ready
    rw [k1, Option.bind_some]
    show (f_M_plan 0 m1 (nI (Q a)[0])).bind _ = _
    rw [show f_M_plan 0 m1 (nI (Q a)[0]) = some ((), m2) from l1, Option.bind_some, if_pos (by decide), i2 (fun g2 => g (fun j hj => (ew j hj).mp (g2 j hj))), Option.bind_some]
    rfl
theorem M_ready2 {n : Nat} {x m : St} {Q : Nat → List Nat} (h : XQ n x Q) (hr : MR n x m) (hl : LOK n x) {a b : Nat} (ha : a < n) (hb : b < n) (hab : a ≠ b) (hq : 0 < (Q a).length) (hqb : 0 < (Q b).length) : ∃ m', N2 m m' ∧ ((∀ j, j < n → xBW n x Q (hd a b) j) → f_M_ready 0 m (nI (Q a)[0]) (nI (Q b)[0]) = some (1, m')) ∧ (¬ (∀ j, j < n → xBW n x Q (hd a b) j) → f_M_ready 0 m (nI (Q a)[0]) (nI (Q b)[0]) = some (0, m')) := by
  have hN := h.2.1
  have hkb := (h.2.2.2.2.2.2.1 b hb _ (List.getElem_mem hqb)).1
  obtain ⟨m1, k1, k2, k3, k4⟩ := M_now0 m
  obtain ⟨m2, l1, l2, l3⟩ := PI_step h (k2.toM2.toMR hr) (PI_0 h hr k3 k4) ha hq
  have hw : upw (fun _ => 0) a b = 0 := if_neg (Ne.symm hab)
  have hr2 := (k2.tr l2).toM2.toMR hr
  obtain ⟨m3, o1, o2, o3⟩ := PI_step h hr2 l3 hb (by rw [hw]; exact hqb)
  simp only [hw] at o1
  have hr3 := ((k2.tr l2).tr o2).toM2.toMR hr
  obtain ⟨i1, i2⟩ := M_allWell h hr3 hl o3
  have ew : ∀ j, j < n → (xBW n x Q (upw (upw (fun _ => 0) a) b) j ↔ xBW n x Q (hd a b) j) := fun j hj => xBW_w (fun c _ => by
    unfold upw hd
    by_cases e : c = b
    · subst e; simp [Ne.symm hab]
    · by_cases e2 : c = a
      · subst e2; simp [e]
      · simp [e, e2]) hj
  have hneg : ¬ nI (Q b)[0] < 0 := nI_pos (by omega)
  refine ⟨m3, (k2.tr l2).tr o2, fun g => ?_, fun g => ?_⟩
  · unfold f_M_ready
    rw [k1, Option.bind_some]
    show (f_M_plan 0 m1 (nI (Q a)[0])).bind _ = _
    rw [show f_M_plan 0 m1 (nI (Q a)[0]) = some ((), m2) from l1, Option.bind_some, if_neg hneg]
    show (f_M_plan 0 m2 (nI (Q b)[0])).bind _ = _
    rw [o1, Option.bind_some, i1 (fun j hj => (ew j hj).mpr (g j hj)), Option.bind_some]
    rfl
  · unfold f_M_ready
    rw [k1, Option.bind_some]
    show (f_M_plan 0 m1 (nI (Q a)[0])).bind _ = _
    rw [show f_M_plan 0 m1 (nI (Q a)[0]) = some ((), m2) from l1, Option.bind_some, if_neg hneg]
    show (f_M_plan 0 m2 (nI (Q b)[0])).bind _ = _
    rw [o1, Option.bind_some, i2 (fun g2 => g (fun j hj => (ew j hj).mp (g2 j hj))), Option.bind_some]
    rfl
