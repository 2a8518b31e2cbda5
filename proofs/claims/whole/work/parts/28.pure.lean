/-- only the plan differs -/
def N2 (m m' : St) : Prop := (∀ c i j, sI m' c i j = sI m c i j) ∧ ∀ c i j, c ≠ 7 → c ≠ 8 → sL m' c i j = sL m c i j
theorem N2.rf {m : St} : N2 m m := ⟨fun _ _ _ => rfl, fun _ _ _ _ _ => rfl⟩
theorem N2.tr {m m1 m2 : St} (h : N2 m m1) (h2 : N2 m1 m2) : N2 m m2 := ⟨fun c i j => (h2.1 c i j).trans (h.1 c i j), fun c i j a b => (h2.2 c i j a b).trans (h.2 c i j a b)⟩
theorem N2.toM2 {m m' : St} (h : N2 m m') : M2 m m' := ⟨fun c i j _ _ _ => h.1 c i j, h.2⟩
theorem N2.toLU {n : Nat} {Q : Nat → List Nat} {m m' : St} (h : N2 m m') (hl : LU n Q m) : LU n Q m' := by
  unfold LU at *
  simp only [h.1]
  exact hl
theorem now0_a (K : St → Option (Unit × St)) : ∀ (fu i : Nat) (m : St), i ≤ 4 → 4 < fu + i → ∃ m', N2 m m' ∧ (∀ j, sL m' 8 0 j = sL m 8 0 j) ∧ (∀ j, j < i → sL m' 7 0 j = sL m 7 0 j) ∧ (∀ j, i ≤ j → j < 4 → sL m' 7 0 j = sL m 1 0 j) ∧ lp_M_now0_2 0 K fu m (nI i) = K m' := by
  intro fu
  induction fu with
  | zero => intro i m h1 h2; omega
  | succ fu ih =>
    intro i m h1 h2
    rw [lp_M_now0_2_s]
    by_cases hi : i < 4
    · rw [if_neg (lit_nle 4 (L := 4) rfl hi (by omega)), if_pos (vin_nI hi (by omega)), if_pos (vin_nI hi (by omega)), Option.bind_some, nI_clamp (by omega), nI_1]
      obtain ⟨m', g1, g2, g3, g4, g5⟩ := ih (i + 1) (wL m 7 0 i (sL m 1 0 i)) (by omega) (by omega)
      have hN : N2 m (wL m 7 0 i (sL m 1 0 i)) := ⟨fun _ _ _ => rfl, fun c i' j a b => by rw [sL_wL, if_neg (fun q => a q.1)]⟩
      refine ⟨m', hN.tr g1, fun j => ?_, fun j hj => ?_, fun j hj hj2 => ?_, g5⟩
      · rw [g2, sL_wL, if_neg (fun q => by omega)]
      · rw [g3 j (by omega), sL_wL, if_neg (fun q => by omega)]
      · by_cases e : j = i
        · subst e
          rw [g3 j (by omega), sL_wL, if_pos ⟨rfl, rfl, rfl⟩]
        · rw [g4 j (by omega) hj2, sL_wL, if_neg (fun q => by omega)]
    · have : i = 4 := by omega
      subst this
      rw [if_pos (lit_le 4 (L := 4) rfl (Nat.le_refl _) (by omega))]
      exact ⟨m, N2.rf, fun _ => rfl, fun _ _ => rfl, fun j h3 h4 => absurd h4 (by omega), rfl⟩
theorem now0_b (K : St → Option (Unit × St)) : ∀ (fu i : Nat) (m : St), i ≤ 16 → 16 < fu + i → ∃ m', N2 m m' ∧ (∀ j, sL m' 7 0 j = sL m 7 0 j) ∧ (∀ j, j < i → sL m' 8 0 j = sL m 8 0 j) ∧ (∀ j, i ≤ j → j < 16 → sL m' 8 0 j = sL m 5 0 j) ∧ lp_M_now0_27 0 K fu m (nI i) = K m' := by
  intro fu
  induction fu with
  | zero => intro i m h1 h2; omega
  | succ fu ih =>
    intro i m h1 h2
    rw [lp_M_now0_27_s]
    by_cases hi : i < 16
    · rw [if_neg (lit_nle 16 (L := 16) rfl hi (by omega)), if_pos (vin_nI hi (by omega)), if_pos (vin_nI hi (by omega)), Option.bind_some, nI_clamp (by omega), nI_1]
      obtain ⟨m', g1, g2, g3, g4, g5⟩ := ih (i + 1) (wL m 8 0 i (sL m 5 0 i)) (by omega) (by omega)
      have hN : N2 m (wL m 8 0 i (sL m 5 0 i)) := ⟨fun _ _ _ => rfl, fun c i' j a b => by rw [sL_wL, if_neg (fun q => b q.1)]⟩
      refine ⟨m', hN.tr g1, fun j => ?_, fun j hj => ?_, fun j hj hj2 => ?_, g5⟩
      · rw [g2, sL_wL, if_neg (fun q => by omega)]
      · rw [g3 j (by omega), sL_wL, if_neg (fun q => by omega)]
      · by_cases e : j = i
        · subst e
          rw [g3 j (by omega), sL_wL, if_pos ⟨rfl, rfl, rfl⟩]
        · rw [g4 j (by omega) hj2, sL_wL, if_neg (fun q => by omega)]
    · have : i = 16 := by omega
      subst this
      rw [if_pos (lit_le 16 (L := 16) rfl (Nat.le_refl _) (by omega))]
      exact ⟨m, N2.rf, fun _ => rfl, fun _ _ => rfl, fun j h3 h4 => absurd h4 (by omega), rfl⟩
theorem M_now0 (m : St) : ∃ m', f_M_now0 0 m = some ((), m') ∧ N2 m m' ∧ (∀ j, j < 4 → sL m' 7 0 j = sL m 1 0 j) ∧ (∀ j, j < 16 → sL m' 8 0 j = sL m 5 0 j) := by
  unfold f_M_now0
  obtain ⟨m1, g1, g2, g3, g4, g5⟩ := now0_a (fun σ4 => lp_M_now0_27 0 (fun σ8 => some ((), σ8)) 1000 σ4 0) 1000 0 m (by omega) (by omega)
  obtain ⟨m2, k1, k2, k3, k4, k5⟩ := now0_b (fun σ8 => some ((), σ8)) 1000 0 m1 (by omega) (by omega)
  exact ⟨m2, g5.trans k5, g1.tr k1, fun j hj => by rw [k2, g4 j (Nat.zero_le _) hj], fun j hj => by rw [k4 j (Nat.zero_le _) hj, g1.2 5 0 j (by decide) (by decide)]⟩
theorem M_plan {m : St} {k p q : Nat} (hk : k < 100) (hp : p < 4) (hq : q < 4) (hpq : p ≠ q) (e4 : sI m 4 0 k = nI p) (e5 : sI m 5 0 k = nI q) : ∃ m', f_M_plan 0 m (nI k) = some ((), m') ∧ N2 m m' ∧ (∀ j, sL m' 7 0 j = if j = p then sL m 7 0 p - sL m 6 0 k else if j = q then sL m 7 0 q + sL m 6 0 k else sL m 7 0 j) ∧ (∀ j, sL m' 8 0 j = if j = 4 * p + q then sL m 8 0 (4 * p + q) + sL m 6 0 k else sL m 8 0 j) := by
  have vk := vin_nI hk (show 100 < 2 ^ 31 by omega)
  have vp := vin_nI hp (show 4 < 2 ^ 31 by omega)
  have vq := vin_nI hq (show 4 < 2 ^ 31 by omega)
  have vs := vin_nI (show 4 * p + q < 16 by omega) (show 16 < 2 ^ 31 by omega)
  have e4i : (4 * nI p + nI q : Int32) = nI (4 * p + q) := by rw [show (4 : Int32) = nI 4 from rfl, pk_mul, nI_add]
  refine ⟨wL (wL (wL m 7 0 p (sL m 7 0 p - sL m 6 0 k)) 7 0 q (sL m 7 0 q + sL m 6 0 k)) 8 0 (4 * p + q) (sL m 8 0 (4 * p + q) + sL m 6 0 k), ?_, ⟨fun _ _ _ => rfl, fun c i j a b => ?_⟩, fun j => ?_, fun j => ?_⟩
  · unfold f_M_plan
    simp only [Option.bind_some, sI_wL, nI_clamp (show k < 2 ^ 31 by omega), e4, e5, nI_clamp (show p < 2 ^ 31 by omega), nI_clamp (show q < 2 ^ 31 by omega), e4i, nI_clamp (show 4 * p + q < 2 ^ 31 by omega), if_pos vk, if_pos vp, if_pos vq, if_pos vs]
    simp [sL_wL, hpq, Ne.symm hpq]
  · simp only [sL_wL]
    simp [a, b]
  · simp only [sL_wL]
    by_cases h1 : j = p
    · subst h1; simp [hpq]
    · by_cases h2 : j = q
      · subst h2; simp [h1]
      · simp [h1, h2]
  · simp only [sL_wL]
    by_cases h1 : j = 4 * p + q
    · subst h1; simp
    · simp [h1]
theorem addTo_app (x : St) (b k : Nat) : ∀ (l : List Nat) (s : Int64), addTo x b (l ++ [k]) s = if sI x 6 k 0 = nI b then addTo x b l s + sL x 6 k 0 else addTo x b l s
  | [], s => rfl
  | y :: l, s => addTo_app x b k l _
/-- one more of bank a -/
def upw (w : Nat → Nat) (a : Nat) : Nat → Nat := fun j => if j = a then w a + 1 else w j
theorem xS_step {n : Nat} {x : St} {Q : Nat → List Nat} (h : XQ n x Q) {w : Nat → Nat} {p q : Nat} (hp : p < n) (hq : q < n) (hw : w p < (Q p).length) (e6 : sI x 6 (Q p)[w p] 0 = nI q) {a b : Nat} (hb : b < n) : xS x Q (upw w p) a b = if a = p ∧ b = q then xS x Q w p q + sL x 6 (Q p)[w p] 0 else xS x Q w a b := by
  have hn := h.1.2
  unfold xS upw
  by_cases ha : a = p
  · subst ha
    rw [if_pos rfl, List.take_add_one, List.getElem?_eq_getElem hw]
    show addTo x b ((Q a).take (w a) ++ [(Q a)[w a]]) _ = _
    rw [addTo_app, e6]
    by_cases hbq : b = q
    · subst hbq
      rw [if_pos rfl, if_pos ⟨rfl, rfl⟩]
    · rw [if_neg (fun e => hbq (nI_inj (by omega) (by omega) e).symm), if_neg (fun g => hbq g.2)]
  · rw [if_neg ha, if_neg (fun g => ha g.1)]
theorem xF_step {n : Nat} {x : St} {Q : Nat → List Nat} (h : XQ n x Q) {w : Nat → Nat} {p q : Nat} (hp : p < n) (hq : q < n) (hpq : p ≠ q) (hw : w p < (Q p).length) (e6 : sI x 6 (Q p)[w p] 0 = nI q) {a : Nat} (ha : a < n) : xF n x Q (upw w p) a = if a = p then xF n x Q w p - sL x 6 (Q p)[w p] 0 else if a = q then xF n x Q w q + sL x 6 (Q p)[w p] 0 else xF n x Q w a := by
  have key : ∀ δ : Nat → Int64, (∀ b, b < n → (xS x Q (upw w p) a b - xS x Q (upw w p) b a) - (sL x 5 a b - sL x 5 b a) = ((xS x Q w a b - xS x Q w b a) - (sL x 5 a b - sL x 5 b a)) + δ b) → xF n x Q (upw w p) a = xF n x Q w a - sumN δ n := by
    intro δ hδ
    unfold xF
    rw [sumN_congr hδ, sumN_add]
    grind
  by_cases h1 : a = p
  · subst h1
    rw [if_pos rfl, key (fun b => if b = q then sL x 6 (Q a)[w a] 0 else 0) (fun b hb => ?_), sumN_one hq (fun i _ hi => if_neg hi) (if_pos rfl)]
    rw [xS_step h hp hq hw e6 hb, xS_step h hp hq hw e6 ha]
    by_cases hbq : b = q
    · subst hbq
      rw [if_pos ⟨rfl, rfl⟩, if_neg (fun g => hpq g.2), if_pos rfl]
      grind
    · rw [if_neg (fun g => hbq g.2), if_neg (fun g => hpq g.2), if_neg hbq]
      grind
  · rw [if_neg h1]
    by_cases h2 : a = q
    · subst h2
      rw [if_pos rfl, key (fun b => if b = p then -(sL x 6 (Q p)[w p] 0) else 0) (fun b hb => ?_), sumN_one hp (fun i _ hi => if_neg hi) (if_pos rfl)]
      · grind
      · rw [xS_step h hp hq hw e6 hb, xS_step h hp hq hw e6 ha]
        rw [if_neg (fun g => h1 g.1)]
        by_cases hbp : b = p
        · subst hbp
          rw [if_pos ⟨rfl, rfl⟩, if_pos rfl]
          grind
        · rw [if_neg (fun g => hbp g.1), if_neg hbp]
          grind
    · rw [if_neg h2, key (fun _ => 0) (fun b hb => ?_), sumN_zero (fun _ _ => rfl)]
      · grind
      · rw [xS_step h hp hq hw e6 hb, xS_step h hp hq hw e6 ha, if_neg (fun g => h1 g.1), if_neg (fun g => h2 g.2)]
        grind
/-- the plan holds the first w a of each bank's queue -/
def PI (n : Nat) (x : St) (Q : Nat → List Nat) (w : Nat → Nat) (m : St) : Prop := (∀ a, a < n → sL m 7 0 a = xF n x Q w a) ∧ ∀ a b, a < n → b < n → sL m 8 0 (4 * a + b) = xS x Q w a b
theorem xF_zero (n : Nat) (x : St) (Q : Nat → List Nat) (a : Nat) : xF n x Q (fun _ => 0) a = sL x 1 a 0 := by
  unfold xF
  rw [sumN_zero (fun i _ => ?_)]
  · grind
  · show (addTo x i ((Q a).take 0) _ - addTo x a ((Q i).take 0) _) - _ = 0
    rw [List.take_zero, List.take_zero]
    show (sL x 5 a i - sL x 5 i a) - (sL x 5 a i - sL x 5 i a) = 0
    grind
theorem PI_0 {n : Nat} {x m m' : St} {Q : Nat → List Nat} (h : XQ n x Q) (hr : MR n x m) (h7 : ∀ j, j < 4 → sL m' 7 0 j = sL m 1 0 j) (h8 : ∀ j, j < 16 → sL m' 8 0 j = sL m 5 0 j) : PI n x Q (fun _ => 0) m' := by
  have hn := h.1.2
  refine ⟨fun a ha => ?_, fun a b ha hb => ?_⟩
  · rw [h7 a (by omega), (hr.2.2.2.2.1 a ha).1, xF_zero]
  · rw [h8 _ (by omega), ((hr.2.2.2.2.1 a ha).2.2.2 b hb).2]
    show _ = addTo x b ((Q a).take 0) _
    rw [List.take_zero]
    rfl
theorem PI_step {n : Nat} {x m : St} {Q : Nat → List Nat} (h : XQ n x Q) (hr : MR n x m) {w : Nat → Nat} (hp : PI n x Q w m) {a : Nat} (ha : a < n) (hw : w a < (Q a).length) : ∃ m', f_M_plan 0 m (nI (Q a)[w a]) = some ((), m') ∧ N2 m m' ∧ PI n x Q (upw w a) m' := by
  have hn := h.1.2
  have hN := h.2.1
  obtain ⟨g1, g2, g3⟩ := h.2.2.2.2.2.2.1 a ha _ (List.getElem_mem hw)
  obtain ⟨a', b, ha', hb, hab, e5, e6⟩ := h.2.2.2.2.1 _ g1
  have haa : a' = a := nI_inj (by omega) (by omega) (e5.symm.trans g2)
  subst haa
  obtain ⟨r1, r2, r3, -⟩ := hr.2.2.2.2.2 _ g1
  obtain ⟨m', k1, k2, k3, k4⟩ := M_plan (m := m) (k := (Q a')[w a']) (by omega) (show a' < 4 by omega) (show b < 4 by omega) hab (r1.trans e5) (r2.trans e6)
  refine ⟨m', k1, k2, fun c hc => ?_, fun c d hc hd => ?_⟩
  · rw [k3, xF_step h ha hb hab hw e6 hc, r3, hp.1 a' ha, hp.1 b hb, hp.1 c hc]
  · rw [k4, xS_step h ha hb hw e6 hd, r3]
    by_cases hcd : c = a' ∧ d = b
    · obtain ⟨rfl, rfl⟩ := hcd
      rw [if_pos rfl, if_pos ⟨rfl, rfl⟩, hp.2 c d hc hd]
    · rw [if_neg (fun e => hcd (by omega)), if_neg hcd, hp.2 c d hc hd]
