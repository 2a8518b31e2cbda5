/-! The greatest heads: the desk's way. -/
theorem nI_m1 {a : Nat} (h : a < 2 ^ 31) : ¬ nI a = -1 := by
  intro e
  have e1 := congrArg Int32.toInt e
  rw [nI_toInt h] at e1
  have e2 : ((-1 : Int32)).toInt = -1 := by decide
  omega
theorem sumw_le {w : Nat → Nat} {c : Nat} : ∀ {n : Nat}, (∀ j, j < n → w j ≤ c) → sumw w n ≤ c * n
  | 0, _ => Nat.zero_le _
  | n + 1, h => by
    show sumw w n + w n ≤ c * (n + 1)
    have := sumw_le (n := n) (w := w) (c := c) (fun j hj => h j (by omega))
    have := h n (by omega)
    rw [Nat.mul_add]
    omega
theorem sumw_ge4 {w : Nat → Nat} {j : Nat} : ∀ {n : Nat}, j < n → w j ≤ sumw w n
  | 0, h => absurd h (Nat.not_lt_zero _)
  | n + 1, h => by
    show w j ≤ sumw w n + w n
    by_cases e : j = n
    · subst e; omega
    · have := sumw_ge4 (w := w) (j := j) (n := n) (by omega)
      omega
/-- one less of bank a -/
def dnw (w : Nat → Nat) (a : Nat) : Nat → Nat := fun j => if j = a then w a - 1 else w j
theorem sumw_cg4 {f g : Nat → Nat} : ∀ {n : Nat}, (∀ i, i < n → f i = g i) → sumw f n = sumw g n
  | 0, _ => rfl
  | n + 1, h => by
    show sumw f n + f n = sumw g n + g n
    rw [sumw_cg4 (fun i hi => h i (by omega)), h n (by omega)]
theorem sumw_dn {w : Nat → Nat} {a : Nat} (h1 : 1 ≤ w a) : ∀ {n : Nat}, a < n → sumw (dnw w a) n + 1 = sumw w n
  | 0, h => absurd h (Nat.not_lt_zero _)
  | n + 1, h => by
    show sumw (dnw w a) n + dnw w a n + 1 = sumw w n + w n
    by_cases e : a = n
    · subst e
      rw [sumw_cg4 (f := dnw w a) (g := w) (fun i hi => if_neg (by omega))]
      have : dnw w a a = w a - 1 := if_pos rfl
      omega
    · have := sumw_dn h1 (n := n) (by omega)
      have : dnw w a n = w n := if_neg (fun q => e q.symm)
      omega
theorem great_a {n : Nat} {σ0 : St} {Q : Nat → List Nat} (h : XQ n σ0 Q) (K : St → Option (Unit × St)) : ∀ (fu i : Nat) (σ : St), S2 σ0 σ → (∀ j, j < i → sI σ 2 0 j = nI (Q j).length) → i ≤ n → n < fu + i → ∃ σ', S2 σ0 σ' ∧ (∀ j, j < n → sI σ' 2 0 j = nI (Q j).length) ∧ lp_X_chooseGreatest_2 n K fu σ (nI i) = K σ' := by
  have hn := h.1.2
  intro fu
  induction fu with
  | zero => intro i σ _ _ h1 h2; omega
  | succ fu ih =>
    intro i σ hs hw h1 h2
    rw [lp_X_chooseGreatest_2_s]
    by_cases hi : i < n
    · rw [if_neg (nI_ge hi (by omega)), if_pos (vin_nI hi (by omega)), if_pos (vin_nI hi (by omega)), Option.bind_some, nI_clamp (by omega), nI_1, hs.2 3 i 0 (by decide), (h.2.2.2.2.2.1 i hi).2.1]
      refine ih (i + 1) _ (hs.tr (S2.w 0 i _)) (fun j hj => ?_) (by omega) (by omega)
      rw [sI_wI]
      by_cases e : j = i
      · subst e
        rw [if_pos ⟨rfl, rfl, rfl⟩]
      · rw [if_neg (fun q => e q.2.2)]
        exact hw j (by omega)
    · have : i = n := by omega
      subst this
      rw [if_pos (nI_le (Nat.le_refl _) (by omega))]
      exact ⟨σ, hs, hw, rfl⟩
/-- these heads may be settled at once -/
def Gd (n : Nat) (x : St) (Q : Nat → List Nat) (v : Nat → Nat) : Prop := (∀ j, j < n → v j ≤ (Q j).length) ∧ ∀ a, a < n → xBW n x Q v a
theorem great_b {n B : Nat} {σ0 : St} {Q : Nat → List Nat} (h : XQ n σ0 Q) (hA : AM σ0) (hB : BD n B σ0) (hB2 : B ≤ 400000) (hW : AW n σ0) : ∀ (fu i : Nat) (σ : St) (w : Nat → Nat), S2 σ0 σ → (∀ j, j < n → sI σ 2 0 j = nI (w j) ∧ w j ≤ (Q j).length) → (∀ v, Gd n σ0 Q v → ∀ j, j < n → v j ≤ w j) → sumw w n + i ≤ 24 → i ≤ 24 → 24 < fu + i → ∃ g σ', S2 σ0 σ' ∧ (∀ j, j < n → sI σ' 2 0 j = nI (g j)) ∧ Gd n σ0 Q g ∧ (∀ v, Gd n σ0 Q v → ∀ j, j < n → v j ≤ g j) ∧ lp_X_chooseGreatest_34 n (fun σ9 => some ((), σ9)) fu σ (nI i) = some ((), σ') := by
  have hn := h.1.2
  have hz : ∀ a, a < n → xBW n σ0 Q (fun _ => 0) a := fun a ha => (AW_z Q ha).mpr (hW a ha)
  intro fu
  induction fu with
  | zero => intro i σ w _ _ _ _ h1 h2; omega
  | succ fu ih =>
    intro i σ w hs hw hm hsum h1 h2
    rw [lp_X_chooseGreatest_34_s]
    by_cases hi : i < 24
    · rw [if_neg (lit_nle 24 (L := 24) rfl hi (by omega))]
      have hc : ∀ a, a < n → sI σ 2 0 a = nI (w a) ∧ w a < 1000 := fun a ha => ⟨(hw a ha).1, by have := (hw a ha).2; have := (h.2.2.2.2.2.1 a ha).1; omega⟩
      rcases X_first (hs.toXQ h) hc with ⟨f1, f2⟩ | ⟨a, ha, f1, f2⟩
      · rw [f2, Option.bind_some, if_pos rfl]
        exact ⟨w, σ, hs, fun j hj => (hw j hj).1, ⟨fun j hj => (hw j hj).2, fun a ha => (hs.toBW Q w a).mp (f1 a ha)⟩, hm, rfl⟩
      · have f1 : ¬ xBW n σ0 Q w a := fun q => f1 ((hs.toBW Q w a).mpr q)
        have hwa : 1 ≤ w a := by
          by_cases e : w a = 0
          · exact absurd (xBW_mono h hA hB hB2 (v := fun _ => 0) (w := w) (fun _ _ => Nat.zero_le _) ha e.symm (hz a ha)) f1
          · omega
        obtain ⟨t, ht⟩ : ∃ t, w a = t + 1 := ⟨w a - 1, by omega⟩
        have hd := sumw_dn hwa ha
        rw [f2, Option.bind_some, if_neg (nI_m1 (show a < 2 ^ 31 by omega)), if_pos (vin_nI ha (by omega)), if_pos (vin_nI ha (by omega)), Option.bind_some]
        simp only [nI_clamp (show a < 2 ^ 31 by omega)]
        rw [(hw a ha).1, ht, nI_pred, nI_1]
        refine ih (i + 1) _ (dnw w a) (hs.tr (S2.w 0 a _)) (fun j hj => ?_) (fun v hv j hj => ?_) (by omega) (by omega) (by omega)
        · rw [sI_wI]
          by_cases e : j = a
          · subst e
            have e2 : dnw w j j = t := by unfold dnw; rw [if_pos rfl, ht]; rfl
            rw [if_pos ⟨rfl, rfl, rfl⟩, e2]
            exact ⟨rfl, by have := (hw j hj).2; omega⟩
          · have e2 : dnw w a j = w j := if_neg e
            rw [if_neg (fun q => e q.2.2), e2]
            exact hw j hj
        · have hvw := hm v hv
          by_cases e : j = a
          · subst e
            have e2 : dnw w j j = t := by unfold dnw; rw [if_pos rfl, ht]; rfl
            rw [e2]
            have h3 := hvw j hj
            by_cases e3 : v j = w j
            · exact absurd (xBW_mono h hA hB hB2 hvw hj e3 (hv.2 j hj)) f1
            · omega
          · have e2 : dnw w a j = w j := if_neg e
            rw [e2]
            exact hvw j hj
    · have : i = 24 := by omega
      subst this
      rw [if_pos (lit_le 24 (L := 24) rfl (Nat.le_refl _) (by omega))]
      have hw0 : ∀ j, j < n → w j = 0 := fun j hj => by
        have := sumw_ge4 (w := w) hj
        omega
      refine ⟨w, σ, hs, fun j hj => (hw j hj).1, ⟨fun j hj => (hw j hj).2, fun a ha => (xBW_w (w := w) (w' := fun _ => 0) hw0 ha).mpr (hz a ha)⟩, hm, rfl⟩
theorem X_greatest {n B : Nat} {σ0 : St} {Q : Nat → List Nat} (h : XQ n σ0 Q) (hA : AM σ0) (hB : BD n B σ0) (hB2 : B ≤ 400000) (hW : AW n σ0) : ∃ g σ', S2 σ0 σ' ∧ (∀ j, j < n → sI σ' 2 0 j = nI (g j)) ∧ Gd n σ0 Q g ∧ (∀ v, Gd n σ0 Q v → ∀ j, j < n → v j ≤ g j) ∧ f_X_chooseGreatest n σ0 = some ((), σ') := by
  have hn := h.1.2
  obtain ⟨σ1, s1, s2, s3⟩ := great_a h (fun σ4 => lp_X_chooseGreatest_34 n (fun σ9 => some ((), σ9)) 1000 σ4 0) 1000 0 σ0 S2.rf (fun j hj => absurd hj (Nat.not_lt_zero _)) (by omega) (by omega)
  have hs : sumw (fun j => (Q j).length) n ≤ 6 * n := sumw_le (fun j hj => (h.2.2.2.2.2.1 j hj).1)
  obtain ⟨g, σ', t1, t2, t3, t4, t5⟩ := great_b h hA hB hB2 hW 1000 0 σ1 (fun j => (Q j).length) s1 (fun j hj => ⟨s2 j hj, Nat.le_refl _⟩) (fun v hv j hj => hv.1 j hj) (by omega) (by omega) (by omega)
  exact ⟨g, σ', t1, t2, t3, t4, s3.trans t5⟩
/-! The reference's way: every vector. -/
def dg (v j : Nat) : Nat := v / 7 ^ j % 7
theorem M_digit_lp (K : St → Int32 → Option (Int32 × St)) {v j : Nat} (hv : v < 2401) (hj : j < 5) (m : St) : ∀ (fu i : Nat), i ≤ j → j < fu + i → lp_M_digit_4 0 K fu m (nI j) (nI (v / 7 ^ i)) (nI i) = K m (nI (v / 7 ^ j)) := by
  intro fu
  induction fu with
  | zero => intro i h1 h2; omega
  | succ fu ih =>
    intro i h1 h2
    rw [lp_M_digit_4_s]
    by_cases hi : i < j
    · have hle : v / 7 ^ i ≤ v := Nat.div_le_self _ _
      rw [if_neg (nI_ge hi (by omega)), show (7 : Int32) = nI 7 from rfl, pk_div (by omega) (by omega) (by omega), Nat.div_div_eq_div_mul, ← Nat.pow_succ, nI_1]
      exact ih (i + 1) (by omega) (by omega)
    · have : i = j := by omega
      subst this
      rw [if_pos (nI_le (Nat.le_refl _) (by omega))]
theorem M_digit {v j : Nat} (hv : v < 2401) (hj : j < 5) (m : St) : f_M_digit 0 m (nI v) (nI j) = some (nI (dg v j), m) := by
  have e := M_digit_lp (fun σ2 y2_1 => some (y2_1 - y2_1 / 7 * 7, σ2)) hv hj m 1000 0 (by omega) (by omega)
  rw [Nat.pow_zero, Nat.div_one] at e
  refine Eq.trans e ?_
  have hle : v / 7 ^ j ≤ v := Nat.div_le_self _ _
  show some (nI (v / 7 ^ j) - nI (v / 7 ^ j) / nI 7 * nI 7, m) = _
  rw [pk_rem (by omega) (by omega) (by omega)]
  rfl
theorem upw_addw2 (w : Nat → Nat) (a r : Nat) : upw (addw w a r) a = addw w a (r + 1) := by
  funext j
  unfold addw upw
  by_cases h : j = a
  · simp [h]; omega
  · simp [h]
theorem good_in {n : Nat} {x m0' : St} {Q : Nat → List Nat} (h : XQ n x Q) (hr : MR n x m0') (hL : LU n Q m0') {w : Nat → Nat} {a d : Nat} (ha : a < n) (hwa : w a = 0) (hd : d ≤ (Q a).length) (v1 : Int32) (K : St → Option (Int32 × St)) : ∀ (fu i : Nat) (m : St), N2 m0' m → PI n x Q (addw w a i) m → i ≤ d → d < fu + i → ∃ m', N2 m0' m' ∧ PI n x Q (addw w a d) m' ∧ lp_M_good_32 0 K fu m v1 (nI a) (nI d) (nI i) = K m' := by
  have hn := h.1.2
  have hl6 := (h.2.2.2.2.2.1 a ha).1
  intro fu
  induction fu with
  | zero => intro i m _ _ h1 h2; omega
  | succ fu ih =>
    intro i m hs hp h1 h2
    rw [lp_M_good_32_s]
    by_cases hi : i < d
    · have ea : addw w a i a = i := by unfold addw; rw [if_pos rfl, hwa, Nat.zero_add]
      have hil : i < (Q a).length := by omega
      obtain ⟨m1, q1, q2, q3⟩ := PI_step h (hs.toM2.toMR hr) hp ha (by rw [ea]; exact hil)
      simp only [ea] at q1
      rw [upw_addw2] at q3
      rw [if_neg (nI_ge hi (by omega)), i6, if_pos (vin_nI (show 6 * a + i < 24 by omega) (by omega)), nI_clamp (by omega), hs.1, (hL.1 a ha).2 i hil, q1, Option.bind_some, nI_1]
      exact ih (i + 1) m1 (hs.tr q2) q3 (by omega) (by omega)
    · have : i = d := by omega
      subst this
      rw [if_pos (nI_le (Nat.le_refl _) (by omega))]
      exact ⟨m, hs, hp, rfl⟩
/-- the reference's vector v may be settled at once -/
def GdD (n : Nat) (x : St) (Q : Nat → List Nat) (v : Nat) : Prop := (∀ j, j < n → dg v j ≤ (Q j).length) ∧ (∀ j, n ≤ j → j < 4 → dg v j = 0) ∧ ∀ a, a < n → xBW n x Q (dg v) a
theorem good_out {n : Nat} {x m0' : St} {Q : Nat → List Nat} (h : XQ n x Q) (hr : MR n x m0') (hL : LU n Q m0') {v : Nat} (hv : v < 2401) (K : St → Option (Int32 × St)) : ∀ (fu i : Nat) (m : St), N2 m0' m → PI n x Q (below (dg v) i) m → i ≤ 4 → 4 < fu + i → ((∀ j, i ≤ j → j < n → dg v j ≤ (Q j).length) ∧ (∀ j, i ≤ j → n ≤ j → j < 4 → dg v j = 0) ∧ ∃ m', N2 m0' m' ∧ PI n x Q (below (dg v) 4) m' ∧ lp_M_good_6 0 K fu m (nI v) (nI i) = K m') ∨ (¬ ((∀ j, j < n → dg v j ≤ (Q j).length) ∧ (∀ j, n ≤ j → j < 4 → dg v j = 0)) ∧ ∃ m', N2 m0' m' ∧ lp_M_good_6 0 K fu m (nI v) (nI i) = some (0, m')) := by
  have hn := h.1.2
  intro fu
  induction fu with
  | zero => intro i m _ _ h1 h2; omega
  | succ fu ih =>
    intro i m hs hp h1 h2
    rw [lp_M_good_6_s]
    by_cases hi : i < 4
    · have hdg : dg v i < 7 := Nat.mod_lt _ (by omega)
      rw [if_neg (lit_nle 4 (L := 4) rfl hi (by omega)), M_digit hv (by omega), Option.bind_some, if_pos (vin_nI hi (by omega))]
      simp only [nI_clamp (show i < 2 ^ 31 by omega)]
      rw [hs.1]
      by_cases hin : i < n
      · have hl6 := (h.2.2.2.2.2.1 i hin).1
        rw [(hL.1 i hin).1]
        by_cases hd : dg v i ≤ (Q i).length
        · rw [if_pos (nI_le hd (by omega))]
          have hb0 : below (dg v) i i = 0 := if_neg (Nat.lt_irrefl _)
          have ea : addw (below (dg v) i) i 0 = below (dg v) i := by
            funext j
            unfold addw
            by_cases e : j = i
            · subst e; rw [if_pos rfl, Nat.add_zero]
            · rw [if_neg e]
          obtain ⟨m1, q1, q2, q3⟩ := good_in h hr hL hin hb0 hd (nI v) (fun σ6 => lp_M_good_6 0 K fu σ6 (nI v) (nI i + 1)) 1000 0 m hs (by rw [ea]; exact hp) (by omega) (by omega)
          rw [below_addw] at q2
          have q3 : lp_M_good_32 0 (fun σ6 => lp_M_good_6 0 K fu σ6 (nI v) (nI i + 1)) 1000 m (nI v) (nI i) (nI (dg v i)) 0 = lp_M_good_6 0 K fu m1 (nI v) (nI i + 1) := q3
          rw [q3, nI_1]
          rcases ih (i + 1) m1 q1 q2 (by omega) (by omega) with ⟨g1, g2, g3⟩ | g
          · refine Or.inl ⟨fun j hj hj2 => ?_, fun j hj hj2 hj3 => g2 j (by omega) hj2 hj3, g3⟩
            by_cases e : j = i
            · subst e; exact hd
            · exact g1 j (by omega) hj2
          · exact Or.inr g
        · rw [if_neg (nI_ge (by omega) (by omega))]
          exact Or.inr ⟨fun g => hd (g.1 i hin), m, hs, rfl⟩
      · rw [hL.2 i (by omega) hi]
        by_cases hd : dg v i = 0
        · have eb : below (dg v) (i + 1) = below (dg v) i := by
            funext j
            unfold below
            by_cases e : j = i
            · subst e; rw [if_pos (by omega), if_neg (by omega), hd]
            · by_cases e2 : j < i
              · rw [if_pos (by omega), if_pos e2]
              · rw [if_neg (by omega), if_neg e2]
          rw [hd, if_pos (show nI 0 ≤ 0 by decide), lp_M_good_32_s, if_pos (show nI 0 ≤ 0 by decide), nI_1]
          rcases ih (i + 1) m hs (by rw [eb]; exact hp) (by omega) (by omega) with ⟨g1, g2, g3⟩ | g
          · refine Or.inl ⟨fun j hj hj2 => absurd hj2 (by omega), fun j hj hj2 hj3 => ?_, g3⟩
            by_cases e : j = i
            · subst e; exact hd
            · exact g2 j (by omega) hj2 hj3
          · exact Or.inr g
        · rw [if_neg (nI_nle (by omega) (by omega))]
          exact Or.inr ⟨fun g => hd (g.2 i (by omega) hi), m, hs, rfl⟩
    · have : i = 4 := by omega
      subst this
      rw [if_pos (lit_le 4 (L := 4) rfl (Nat.le_refl _) (by omega))]
      exact Or.inl ⟨fun j hj hj2 => absurd hj2 (by omega), fun j hj hj2 hj3 => absurd hj3 (by omega), m, hs, hp, rfl⟩
theorem M_good {n : Nat} {x m : St} {Q : Nat → List Nat} (h : XQ n x Q) (hr : MR n x m) (hlo : LOK n x) (hL : LU n Q m) {v : Nat} (hv : v < 2401) : ∃ m', N2 m m' ∧ (GdD n x Q v → f_M_good 0 m (nI v) = some (1, m')) ∧ (¬ GdD n x Q v → f_M_good 0 m (nI v) = some (0, m')) := by
  have hn := h.1.2
  obtain ⟨m1, q1, q2, q3, q4⟩ := M_now0 m
  have hp0 := PI_0 (Q := Q) h hr q3 q4
  have e0 : below (dg v) 0 = fun _ => 0 := by
    funext j
    exact if_neg (Nat.not_lt_zero _)
  have hw : ∀ a, a < n → below (dg v) 4 a = dg v a := fun a ha => if_pos (by omega)
  have eu : f_M_good 0 m (nI v) = lp_M_good_6 0 (fun σ7 => (f_M_allWell 0 σ7).bind fun o8 => if o8.1 = 0 ∨ o8.1 = 1 then some (o8.1, o8.2) else none) 1000 m1 (nI v) (nI 0) := by
    unfold f_M_good
    rw [q1, Option.bind_some]
    rfl
  rw [eu]
  rcases good_out h hr hL hv (fun σ7 => (f_M_allWell 0 σ7).bind fun o8 => if o8.1 = 0 ∨ o8.1 = 1 then some (o8.1, o8.2) else none) 1000 0 m1 q2 (by rw [e0]; exact hp0) (by omega) (by omega) with ⟨g1, g2, m', g3, g4, g5⟩ | ⟨g1, m', g2, g3⟩
  · refine ⟨m', g3, fun hg => ?_, fun hg => ?_⟩
    · rw [g5, (M_allWell h (g3.toM2.toMR hr) hlo g4).1 (fun a ha => (xBW_w hw ha).mpr (hg.2.2 a ha)), Option.bind_some, if_pos (Or.inr rfl)]
    · rw [g5, (M_allWell h (g3.toM2.toMR hr) hlo g4).2 (fun g => hg ⟨fun j hj => g1 j (Nat.zero_le _) hj, fun j hj hj2 => g2 j (Nat.zero_le _) hj hj2, fun a ha => (xBW_w hw ha).mp (g a ha)⟩), Option.bind_some, if_pos (Or.inl rfl)]
  · exact ⟨m', g2, fun hg => absurd ⟨hg.1, hg.2.1⟩ g1, fun _ => g3⟩
