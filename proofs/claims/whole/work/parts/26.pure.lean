/-! The reference. -/
def MR (n : Nat) (x m : St) : Prop :=
  sI m 0 0 0 = nI n ∧ sI m 1 0 0 = sI x 1 0 0 ∧ sL m 0 0 0 = sL x 0 0 0 ∧ sI m 2 0 0 = nI (sN x) ∧
  (∀ a, a < n → sL m 1 0 a = sL x 1 a 0 ∧ sL m 2 0 a = sL x 2 a 0 ∧ sL m 3 0 a = sL x 3 a 0 ∧ ∀ b, b < n → sL m 4 0 (4 * a + b) = sL x 4 a b ∧ sL m 5 0 (4 * a + b) = sL x 5 a b) ∧
  (∀ k, k < sN x → sI m 4 0 k = sI x 5 k 0 ∧ sI m 5 0 k = sI x 6 k 0 ∧ sL m 6 0 k = sL x 6 k 0 ∧ sI m 6 0 k = sI x 8 k 0 ∧ sI m 7 0 k = sI x 7 k 0 ∧ sI m 9 0 k = sI x 9 k 0)
def bef (m : St) (j k : Nat) : Prop := sI m 6 0 k < sI m 6 0 j ∨ (sI m 6 0 j = sI m 6 0 k ∧ sI m 8 0 j < sI m 8 0 k)
def QO (n : Nat) (x m : St) (Q : Nat → List Nat) : Prop := ∀ a, a < n → (∀ k, k < sN x → sI x 9 k 0 = 0 → sI x 5 k 0 = nI a → k ∈ Q a) ∧ (Q a).Pairwise (bef m)
/-- only the reference's notes differ -/
def M2 (m m' : St) : Prop := (∀ c i j, c ≠ 10 → c ≠ 11 → c ≠ 12 → sI m' c i j = sI m c i j) ∧ ∀ c i j, c ≠ 7 → c ≠ 8 → sL m' c i j = sL m c i j
theorem M2.rf {m : St} : M2 m m := ⟨fun _ _ _ _ _ _ => rfl, fun _ _ _ _ _ => rfl⟩
theorem M2.tr {m m1 m2 : St} (h : M2 m m1) (h2 : M2 m1 m2) : M2 m m2 := ⟨fun c i j a b d => (h2.1 c i j a b d).trans (h.1 c i j a b d), fun c i j a b => (h2.2 c i j a b).trans (h.2 c i j a b)⟩
theorem M2.toMR {n : Nat} {x m m' : St} (h : M2 m m') (hr : MR n x m) : MR n x m' := by
  unfold MR at *
  simp only [h.1 0 _ _ (by decide) (by decide) (by decide), h.1 1 _ _ (by decide) (by decide) (by decide), h.1 2 _ _ (by decide) (by decide) (by decide), h.1 4 _ _ (by decide) (by decide) (by decide), h.1 5 _ _ (by decide) (by decide) (by decide), h.1 6 _ _ (by decide) (by decide) (by decide), h.1 7 _ _ (by decide) (by decide) (by decide), h.1 9 _ _ (by decide) (by decide) (by decide), h.2 0 _ _ (by decide) (by decide), h.2 1 _ _ (by decide) (by decide), h.2 2 _ _ (by decide) (by decide), h.2 3 _ _ (by decide) (by decide), h.2 4 _ _ (by decide) (by decide), h.2 5 _ _ (by decide) (by decide), h.2 6 _ _ (by decide) (by decide)]
  exact hr
theorem M2.toBef {m m' : St} (h : M2 m m') : bef m' = bef m := by
  funext j k
  unfold bef
  simp only [h.1 6 _ _ (by decide) (by decide) (by decide), h.1 8 _ _ (by decide) (by decide) (by decide)]
theorem M2.toQO {n : Nat} {x m m' : St} {Q : Nat → List Nat} (h : M2 m m') (hq : QO n x m Q) : QO n x m' Q := fun a ha => ⟨(hq a ha).1, by rw [h.toBef]; exact (hq a ha).2⟩
theorem bef_irr {m : St} {k : Nat} : ¬ bef m k k := by
  intro h
  rcases h with h | h
  · exact absurd h (by rw [Int32.lt_iff_toInt_lt]; omega)
  · exact absurd h.2 (by rw [Int32.lt_iff_toInt_lt]; omega)
theorem bef_asym {m : St} {j k : Nat} (h : bef m j k) : ¬ bef m k j := by
  intro h2
  unfold bef at h h2
  simp only [Int32.lt_iff_toInt_lt, ← Int32.toInt_inj] at h h2
  omega
theorem bef_nodup {m : St} {L : List Nat} (h : L.Pairwise (bef m)) : L.Nodup := by
  refine List.Pairwise.imp (S := fun a b => a ≠ b) (fun {a b} hb => ?_) h
  intro e
  subst e
  exact bef_irr hb
/-- how many below n -/
def cnt (p : Nat → Bool) : Nat → Nat
  | 0 => 0
  | n + 1 => cnt p n + (if p n then 1 else 0)
theorem cnt_le (p : Nat → Bool) : ∀ n, cnt p n ≤ n
  | 0 => Nat.le_refl _
  | n + 1 => by
    show cnt p n + _ ≤ n + 1
    have := cnt_le p n
    split <;> omega
theorem cnt_none {p : Nat → Bool} : ∀ {n : Nat}, (∀ j, j < n → p j = false) → cnt p n = 0
  | 0, _ => rfl
  | n + 1, h => by
    show cnt p n + (if p n then 1 else 0) = 0
    rw [cnt_none (fun j hj => h j (by omega)), h n (by omega)]
    rfl
theorem cnt_more {p q : Nat → Bool} {x : Nat} : ∀ {n : Nat}, x < n → p x = false → q x = true → (∀ j, j ≠ x → p j = q j) → cnt q n = cnt p n + 1
  | 0, h, _, _, _ => absurd h (Nat.not_lt_zero _)
  | n + 1, h, h1, h2, h3 => by
    show cnt q n + (if q n then 1 else 0) = cnt p n + (if p n then 1 else 0) + 1
    by_cases e : x = n
    · subst e
      have hc : ∀ {y : Nat}, y ≤ x → cnt q y = cnt p y := by
        intro y
        induction y with
        | zero => intro _; rfl
        | succ y ih =>
          intro hy
          show cnt q y + _ = cnt p y + _
          rw [ih (by omega), h3 y (by omega)]
      rw [hc (Nat.le_refl _), h1, h2]
      rfl
    · rw [cnt_more (by omega) h1 h2 h3, h3 n (fun e2 => e e2.symm)]
      omega
theorem cnt_list : ∀ {L : List Nat} {p : Nat → Bool} {n : Nat}, L.Nodup → (∀ x, x ∈ L → x < n) → (∀ j, p j = true ↔ j ∈ L) → cnt p n = L.length
  | [], p, n, _, _, h => cnt_none (fun j _ => by
      cases hp : p j with
      | false => rfl
      | true => exact absurd ((h j).mp hp) List.not_mem_nil)
  | x :: L, p, n, hd, hn, h => by
    have hx : x ∉ L := (List.nodup_cons.mp hd).1
    have hd2 := (List.nodup_cons.mp hd).2
    have h2 : cnt (fun j => decide (j ∈ L)) n = L.length := cnt_list hd2 (fun y hy => hn y (List.mem_cons_of_mem _ hy)) (fun j => decide_eq_true_iff)
    rw [cnt_more (p := fun j => decide (j ∈ L)) (hn x List.mem_cons_self) (decide_eq_false hx) ((h x).mpr List.mem_cons_self) (fun j hj => ?_), h2]
    · rfl
    · cases hp : p j with
      | true => exact decide_eq_true (((List.mem_cons.mp ((h j).mp hp)).resolve_left hj))
      | false => exact decide_eq_false (fun hm => by have := (h j).mpr (List.mem_cons_of_mem _ hm); rw [hp] at this; cases this)
theorem M_before {m : St} {j k : Nat} (hj : j < 100) (hk : k < 100) : (bef m j k → f_M_before 0 m (nI j) (nI k) = some (1, m)) ∧ (¬ bef m j k → f_M_before 0 m (nI j) (nI k) = some (0, m)) := by
  have vj := vin_nI hj (show 100 < 2 ^ 31 by omega)
  have vk := vin_nI hk (show 100 < 2 ^ 31 by omega)
  unfold f_M_before
  simp only [nI_clamp (show j < 2 ^ 31 by omega), nI_clamp (show k < 2 ^ 31 by omega), if_pos vj, if_pos vk]
  unfold bef
  by_cases h1 : sI m 6 0 k < sI m 6 0 j
  · rw [if_pos h1]
    exact ⟨fun _ => rfl, fun g => absurd (Or.inl h1) g⟩
  · rw [if_neg h1]
    by_cases h2 : sI m 6 0 j = sI m 6 0 k
    · rw [if_pos h2]
      by_cases h3 : sI m 8 0 k ≤ sI m 8 0 j
      · rw [if_pos h3]
        refine ⟨fun g => ?_, fun _ => rfl⟩
        rcases g with g | g
        · exact absurd g h1
        · exfalso
          have := g.2
          rw [Int32.lt_iff_toInt_lt] at this
          rw [Int32.le_iff_toInt_le] at h3
          omega
      · rw [if_neg h3]
        refine ⟨fun _ => rfl, fun g => absurd (Or.inr ⟨h2, ?_⟩) g⟩
        rw [Int32.lt_iff_toInt_lt]
        rw [Int32.le_iff_toInt_le] at h3
        omega
    · rw [if_neg h2]
      exact ⟨fun g => by rcases g with g | g; exact absurd g h1; exact absurd g.1 h2, fun _ => rfl⟩
/-- j stands ahead of k in its queue -/
def aheadB (m : St) (k j : Nat) : Prop := sI m 9 0 j = 0 ∧ sI m 4 0 j = sI m 4 0 k ∧ bef m j k
theorem M_place_lp {m : St} {N k : Nat} (hN : N ≤ 100) (hcN : sI m 2 0 0 = nI N) (hk : k < N) (p : Nat → Bool) (hp : ∀ j, j < N → (p j = true ↔ aheadB m k j)) (K : St → Int32 → Option (Unit × St)) : ∀ (fu j : Nat), j ≤ N → N < fu + j → lp_M_lineUp_43 0 K fu m (nI k) (nI (cnt p j)) (nI j) = K m (nI (cnt p N)) := by
  intro fu
  induction fu with
  | zero => intro j h1 h2; omega
  | succ fu ih =>
    intro j h1 h2
    rw [lp_M_lineUp_43_s, hcN]
    by_cases hj : j < N
    · have vj := vin_nI (show j < 100 by omega) (show 100 < 2 ^ 31 by omega)
      have vk := vin_nI (show k < 100 by omega) (show 100 < 2 ^ 31 by omega)
      rw [if_neg (nI_ge hj (by omega)), if_pos vj]
      simp only [nI_clamp (show j < 2 ^ 31 by omega), nI_clamp (show k < 2 ^ 31 by omega)]
      have hno : ¬ aheadB m k j → lp_M_lineUp_43 0 K fu m (nI k) (nI (cnt p j)) (nI j + 1) = K m (nI (cnt p N)) := by
        intro hn
        have e : cnt p (j + 1) = cnt p j := by
          show cnt p j + (if p j then 1 else 0) = cnt p j
          rw [if_neg (fun g => hn ((hp j hj).mp g))]
          rfl
        rw [nI_1, ← e]
        exact ih (j + 1) (by omega) (by omega)
      by_cases h3 : sI m 9 0 j = 0
      · rw [if_pos h3, if_pos vj, if_pos vk]
        by_cases h4 : sI m 4 0 j = sI m 4 0 k
        · rw [if_pos h4]
          by_cases h5 : bef m j k
          · rw [(M_before (by omega) (by omega)).1 h5, Option.bind_some, if_neg n10]
            have e : cnt p (j + 1) = cnt p j + 1 := by
              show cnt p j + (if p j then 1 else 0) = cnt p j + 1
              rw [if_pos ((hp j hj).mpr ⟨h3, h4, h5⟩)]
            simp only []
            rw [nI_1, nI_1, ← e]
            exact ih (j + 1) (by omega) (by omega)
          · rw [(M_before (by omega) (by omega)).2 h5, Option.bind_some, if_pos rfl]
            exact hno (fun g => h5 g.2.2)
        · rw [if_neg h4]
          exact hno (fun g => h4 g.2.1)
      · rw [if_neg h3]
        exact hno (fun g => h3 g.1)
    · have : j = N := by omega
      subst this
      rw [if_pos (nI_le (Nat.le_refl _) (by omega))]
/-- the place of a queued payment in its queue -/
theorem M_place {n : Nat} {x m : St} {Q : Nat → List Nat} (h : XQ n x Q) (hr : MR n x m) (hq : QO n x m Q) {a i : Nat} (ha : a < n) (hi : i < (Q a).length) (K : St → Int32 → Option (Unit × St)) : lp_M_lineUp_43 0 K 1000 m (nI (Q a)[i]) (nI 0) (nI 0) = K m (nI i) := by
  obtain ⟨hk1, hk2, hk3⟩ := h.2.2.2.2.2.2.1 a ha _ (List.getElem_mem hi)
  have hN := h.2.1
  have hpw := (hq a ha).2
  have hnd := bef_nodup hpw
  have hidx : ∀ (i' : Nat) (h' : i' < (Q a).length), bef m (Q a)[i'] (Q a)[i] ↔ i' < i := by
    intro i' h'
    refine ⟨fun hb => ?_, fun hlt => List.pairwise_iff_getElem.mp hpw i' i h' hi hlt⟩
    rcases Nat.lt_trichotomy i' i with g | g | g
    · exact g
    · subst g; exact absurd hb bef_irr
    · exact absurd hb (bef_asym (List.pairwise_iff_getElem.mp hpw i i' hi h' g))
  have hmem : ∀ j, j < sN x → (aheadB m (Q a)[i] j ↔ j ∈ (Q a).take i) := by
    intro j hj
    obtain ⟨r1, r2, r3, r4, r5, r6⟩ := hr.2.2.2.2.2 j hj
    obtain ⟨s1, -⟩ := hr.2.2.2.2.2 _ hk1
    unfold aheadB
    rw [r6, r1, s1, hk2]
    refine ⟨fun g => ?_, fun g => ?_⟩
    · have hjm := (hq a ha).1 j hj g.1 g.2.1
      obtain ⟨i', h', rfl⟩ := List.getElem_of_mem hjm
      exact List.mem_take_iff_getElem.mpr ⟨i', by have := (hidx i' h').mp g.2.2; omega, rfl⟩
    · obtain ⟨i', h', rfl⟩ := List.mem_take_iff_getElem.mp g
      obtain ⟨t1, t2, t3⟩ := h.2.2.2.2.2.2.1 a ha _ (List.getElem_mem (show i' < (Q a).length by omega))
      exact ⟨t3, t2, (hidx i' (by omega)).mpr (by omega)⟩
  have hp : ∀ j, j < sN x → (decide (j ∈ (Q a).take i) = true ↔ aheadB m (Q a)[i] j) := fun j hj => by rw [decide_eq_true_iff]; exact (hmem j hj).symm
  have e := M_place_lp hN hr.2.2.2.1 hk1 (fun j => decide (j ∈ (Q a).take i)) hp K 1000 0 (by omega) (by omega)
  refine Eq.trans e ?_
  rw [cnt_list (L := (Q a).take i) (hnd.sublist (List.take_sublist _ _)) (fun y hy => (h.2.2.2.2.2.2.1 a ha y (List.mem_of_mem_take hy)).1) (fun j => decide_eq_true_iff), List.length_take, Nat.min_eq_left (by omega)]
