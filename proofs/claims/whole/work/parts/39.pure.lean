/-! A new payment. -/
def ynew (x : St) (a b : Nat) (am : Int64) (pr un : Int32) : St := wI (wR (xnew x (nI (sN x)) (nI a) (nI b) am pr un) 0 0 (sN x) (some (sN x))) 0 0 0 (nI (sN x + 1))
theorem yI (x : St) (a b : Nat) (am : Int64) (pr un : Int32) (c i j : Nat) : sI (ynew x a b am pr un) c i j = if c = 0 ∧ i = 0 ∧ j = 0 then nI (sN x + 1) else if i = sN x ∧ j = 0 ∧ c = 4 then nI (sN x) else if i = sN x ∧ j = 0 ∧ c = 5 then nI a else if i = sN x ∧ j = 0 ∧ c = 6 then nI b else if i = sN x ∧ j = 0 ∧ c = 7 then un else if i = sN x ∧ j = 0 ∧ c = 8 then pr else if i = sN x ∧ j = 0 ∧ c = 9 then 0 else sI x c i j := rfl
theorem yN (x : St) (a b : Nat) (am : Int64) (pr un : Int32) : sN (ynew x a b am pr un) = sN x + 1 := rfl
theorem yR (x : St) (a b : Nat) (am : Int64) (pr un : Int32) (c i j : Nat) : sR (ynew x a b am pr un) c i j = if c = 0 ∧ i = 0 ∧ j = sN x then some (sN x) else sR x c i j := rfl
theorem yL (x : St) (a b : Nat) (am : Int64) (pr un : Int32) (c i j : Nat) : sL (ynew x a b am pr un) c i j = if i = sN x ∧ j = 0 ∧ c = 6 then am else sL x c i j := rfl
theorem yLs (x : St) (a b : Nat) (am : Int64) (pr un : Int32) {c : Nat} (hc : c ≠ 6) (i j : Nat) : sL (ynew x a b am pr un) c i j = sL x c i j := by rw [yL, if_neg (fun q => hc q.2.2)]
theorem yI0 (x : St) (a b : Nat) (am : Int64) (pr un : Int32) : sI (ynew x a b am pr un) 0 0 0 = nI (sN x + 1) := rfl
theorem yI1 (x : St) (a b : Nat) (am : Int64) (pr un : Int32) : sI (ynew x a b am pr un) 1 0 0 = sI x 1 0 0 := by rw [yI]; simp
theorem yI3 (x : St) (a b : Nat) (am : Int64) (pr un : Int32) (i : Nat) : sI (ynew x a b am pr un) 3 i 0 = sI x 3 i 0 := by rw [yI]; simp
theorem yI4 (x : St) (a b : Nat) (am : Int64) (pr un : Int32) (k : Nat) : sI (ynew x a b am pr un) 4 k 0 = if k = sN x then nI (sN x) else sI x 4 k 0 := by rw [yI]; simp
theorem yI5 (x : St) (a b : Nat) (am : Int64) (pr un : Int32) (k : Nat) : sI (ynew x a b am pr un) 5 k 0 = if k = sN x then nI a else sI x 5 k 0 := by rw [yI]; simp
theorem yI6 (x : St) (a b : Nat) (am : Int64) (pr un : Int32) (k : Nat) : sI (ynew x a b am pr un) 6 k 0 = if k = sN x then nI b else sI x 6 k 0 := by rw [yI]; simp
theorem yI7 (x : St) (a b : Nat) (am : Int64) (pr un : Int32) (k : Nat) : sI (ynew x a b am pr un) 7 k 0 = if k = sN x then un else sI x 7 k 0 := by rw [yI]; simp
theorem yI8 (x : St) (a b : Nat) (am : Int64) (pr un : Int32) (k : Nat) : sI (ynew x a b am pr un) 8 k 0 = if k = sN x then pr else sI x 8 k 0 := by rw [yI]; simp
theorem yI9 (x : St) (a b : Nat) (am : Int64) (pr un : Int32) (k : Nat) : sI (ynew x a b am pr un) 9 k 0 = if k = sN x then 0 else sI x 9 k 0 := by rw [yI]; simp
theorem yL6 (x : St) (a b : Nat) (am : Int64) (pr un : Int32) (k : Nat) : sL (ynew x a b am pr un) 6 k 0 = if k = sN x then am else sL x 6 k 0 := by rw [yL]; simp
/-- the reference's store with one payment more -/
def mnew (m : St) (N S a b : Nat) (am : Int64) (pr un : Int32) : St := wI (wI (wI (wI (wI (wI (wL (wI (wI m 4 0 N (nI a)) 5 0 N (nI b)) 6 0 N am) 6 0 N pr) 7 0 N un) 3 0 0 (nI (S + 1))) 8 0 N (nI (S + 1))) 9 0 N 0) 2 0 0 (nI (N + 1))
theorem zI (m : St) (N S a b : Nat) (am : Int64) (pr un : Int32) (c i j : Nat) : sI (mnew m N S a b am pr un) c i j = if c = 2 ∧ i = 0 ∧ j = 0 then nI (N + 1) else if c = 9 ∧ i = 0 ∧ j = N then 0 else if c = 8 ∧ i = 0 ∧ j = N then nI (S + 1) else if c = 3 ∧ i = 0 ∧ j = 0 then nI (S + 1) else if c = 7 ∧ i = 0 ∧ j = N then un else if c = 6 ∧ i = 0 ∧ j = N then pr else if c = 5 ∧ i = 0 ∧ j = N then nI b else if c = 4 ∧ i = 0 ∧ j = N then nI a else sI m c i j := rfl
theorem zL (m : St) (N S a b : Nat) (am : Int64) (pr un : Int32) (c i j : Nat) : sL (mnew m N S a b am pr un) c i j = if c = 6 ∧ i = 0 ∧ j = N then am else sL m c i j := rfl
theorem zI4 (m : St) (N S a b : Nat) (am : Int64) (pr un : Int32) (k : Nat) : sI (mnew m N S a b am pr un) 4 0 k = if k = N then nI a else sI m 4 0 k := by rw [zI]; simp
theorem zI5 (m : St) (N S a b : Nat) (am : Int64) (pr un : Int32) (k : Nat) : sI (mnew m N S a b am pr un) 5 0 k = if k = N then nI b else sI m 5 0 k := by rw [zI]; simp
theorem zI6 (m : St) (N S a b : Nat) (am : Int64) (pr un : Int32) (k : Nat) : sI (mnew m N S a b am pr un) 6 0 k = if k = N then pr else sI m 6 0 k := by rw [zI]; simp
theorem zI7 (m : St) (N S a b : Nat) (am : Int64) (pr un : Int32) (k : Nat) : sI (mnew m N S a b am pr un) 7 0 k = if k = N then un else sI m 7 0 k := by rw [zI]; simp
theorem zI8 (m : St) (N S a b : Nat) (am : Int64) (pr un : Int32) (k : Nat) : sI (mnew m N S a b am pr un) 8 0 k = if k = N then nI (S + 1) else sI m 8 0 k := by rw [zI]; simp
theorem zI9 (m : St) (N S a b : Nat) (am : Int64) (pr un : Int32) (k : Nat) : sI (mnew m N S a b am pr un) 9 0 k = if k = N then 0 else sI m 9 0 k := by rw [zI]; simp
theorem zL6 (m : St) (N S a b : Nat) (am : Int64) (pr un : Int32) (k : Nat) : sL (mnew m N S a b am pr un) 6 0 k = if k = N then am else sL m 6 0 k := by rw [zL]; simp
theorem pay_fin {c n S : Nat} {x m : St} {Q : Nat → List Nat} (hc : c < 512) (hC : Core (700 * c) n x m Q) (hst : Stm S x m) (hS : S ≤ c) {a b : Nat} (ha : a < n) (hb : b < n) (hab : a ≠ b) (am : Int64) (pr un : Int32) (h1 : 1 ≤ am.toInt) (h2 : am.toInt ≤ 1000000000000) (hN : sN x < 100) (hl : (Q a).length < 6) : ∃ x3 x' m', f_B_enqueue n (ynew x a b am pr un) a (sN x) = some ((), x3) ∧ f_X_sweep n x3 = some ((), x') ∧ f_M_sweep 0 (mnew m (sN x) S a b am pr un) = some ((), m') ∧ Rel (c + 1) n x' m' := by
  obtain ⟨⟨hX, hr, hq, hlo⟩, hW, hB, hA⟩ := id hC
  have hn := hX.1.2
  have hlt : ∀ {b' k : Nat}, b' < n → k ∈ Q b' → k ≠ sN x := fun hb' hk e => by
    have := (hX.2.2.2.2.2.2.1 _ hb' _ hk).1
    omega
  refine enq_fin (S := S + 1) (Q := Q) hc ?_ ha (by rw [yN]; omega) hl (by rw [yI5, if_pos rfl]) (by rw [yI9, if_pos rfl]) ?_ ?_ ?_ ?_ ?_ ?_ ?_ ?_ (by omega)
  · refine ⟨hX.1, by rw [yN]; omega, by rw [yI0, yN], fun k hk => ?_, fun k hk => ?_, fun b' hb' => ?_, fun b' hb' k hk => ?_, fun c' i j k e => ?_⟩
    · rw [yN] at hk
      rw [yI4, yR]
      by_cases e : k = sN x
      · rw [if_pos ⟨rfl, rfl, e⟩, if_pos e, e]
        exact ⟨rfl, rfl⟩
      · rw [if_neg (fun q => e q.2.2), if_neg e]
        exact hX.2.2.2.1 k (by omega)
    · rw [yN] at hk
      rw [yI5, yI6]
      by_cases e : k = sN x
      · rw [if_pos e, if_pos e]
        exact ⟨a, b, ha, hb, hab, rfl, rfl⟩
      · rw [if_neg e, if_neg e]
        exact hX.2.2.2.2.1 k (by omega)
    · obtain ⟨g1, g2, g3⟩ := hX.2.2.2.2.2.1 b' hb'
      refine ⟨g1, by rw [yI3]; exact g2, fun i hi => ?_⟩
      rw [yR, if_neg (fun q => by omega)]
      exact g3 i hi
    · have hk2 := hlt hb' hk
      obtain ⟨g1, g2, g3⟩ := hX.2.2.2.2.2.2.1 b' hb' k hk
      rw [yN, yI5, yI9, if_neg hk2, if_neg hk2]
      exact ⟨by omega, g2, g3⟩
    · rw [yR] at e
      rw [yN]
      by_cases e2 : c' = 0 ∧ i = 0 ∧ j = sN x
      · rw [if_pos e2] at e
        cases e
        omega
      · rw [if_neg e2] at e
        have := hX.2.2.2.2.2.2.2 c' i j k e
        omega
  · refine ⟨hr.1, by rw [yI1]; exact hr.2.1, by rw [yLs x a b am pr un (by decide)]; exact hr.2.2.1, by rw [yN]; rfl, fun a' ha' => ?_, fun k hk => ?_⟩
    · obtain ⟨u1, u2, u3, u4⟩ := hr.2.2.2.2.1 a' ha'
      simp only [yLs x a b am pr un (show 1 ≠ 6 by decide), yLs x a b am pr un (show 2 ≠ 6 by decide), yLs x a b am pr un (show 3 ≠ 6 by decide), yLs x a b am pr un (show 4 ≠ 6 by decide), yLs x a b am pr un (show 5 ≠ 6 by decide)]
      exact ⟨u1, u2, u3, u4⟩
    · rw [yN] at hk
      rw [zI4, zI5, zL6, zI6, zI7, zI9, yI5, yI6, yL6, yI8, yI7, yI9]
      by_cases e : k = sN x
      · rw [if_pos e, if_pos e, if_pos e, if_pos e, if_pos e, if_pos e]
        simp only [if_pos e]
        exact ⟨trivial, trivial, trivial, trivial, trivial, trivial⟩
      · simp only [if_neg e]
        exact hr.2.2.2.2.2 k (by omega)
  · intro b' hb'
    refine ⟨fun j hj g9 g5 => ?_, ?_⟩
    · rw [yN] at hj
      rw [yI9] at g9
      rw [yI5] at g5
      by_cases e : j = sN x
      · rw [if_pos e] at g5
        exact Or.inr ⟨(nI_inj (by omega) (by omega) g5).symm, e⟩
      · rw [if_neg e] at g9 g5
        exact Or.inl ((hq b' hb').1 j (by omega) g9 g5)
    · refine List.Pairwise.imp_of_mem (fun {i j} hi hj g => ?_) (hq b' hb').2
      unfold bef
      rw [zI6, zI6, zI8, zI8, if_neg (hlt hb' hi), if_neg (hlt hb' hj), if_neg (hlt hb' hi), if_neg (hlt hb' hj)]
      exact g
  · intro y hy
    obtain ⟨t, ht, e⟩ := hst.2 y (hX.2.2.2.2.2.2.1 a ha y hy).1
    rw [zI8, zI8, if_neg (hlt ha hy), if_pos rfl, e]
    exact nI_lt (by omega) (by omega)
  · unfold LOK at *
    simp only [yLs x a b am pr un (show 3 ≠ 6 by decide), yLs x a b am pr un (show 4 ≠ 6 by decide)]
    exact hlo
  · unfold AW at *
    simp only [yLs x a b am pr un (show 1 ≠ 6 by decide), yLs x a b am pr un (show 2 ≠ 6 by decide), yLs x a b am pr un (show 3 ≠ 6 by decide), yLs x a b am pr un (show 4 ≠ 6 by decide), yLs x a b am pr un (show 5 ≠ 6 by decide)]
    exact hW
  · have hB := hB.up (show 700 * c ≤ 700 * c + 1 by omega)
    unfold BD at *
    simp only [yLs x a b am pr un (show 1 ≠ 6 by decide), yLs x a b am pr un (show 5 ≠ 6 by decide)]
    exact hB
  · intro k hk
    rw [yN] at hk
    rw [yL6]
    by_cases e : k = sN x
    · rw [if_pos e]
      exact ⟨h1, h2⟩
    · rw [if_neg e]
      exact hA k (by omega)
  · refine ⟨rfl, fun k hk => ?_⟩
    rw [yN] at hk
    rw [zI8]
    by_cases e : k = sN x
    · rw [if_pos e]
      exact ⟨S + 1, Nat.le_refl _, rfl⟩
    · rw [if_neg e]
      obtain ⟨t, ht, e2⟩ := hst.2 k (by omega)
      exact ⟨t, by omega, e2⟩
theorem po_pay : PO_pay Rel := by
  intro c n x m a1 a2 a3 a4 a5 hc h
  obtain ⟨Q, S, hC, hst, hS⟩ := id h
  obtain ⟨⟨hX, hr, hq, hlo⟩, hW, hB, hA⟩ := id hC
  have hn := hX.1.2
  have h0 := hr.1
  have hN := hX.2.1
  unfold f_X_pay f_X_payP
  by_cases ht : ∃ a b, a < n ∧ b < n ∧ a ≠ b ∧ a1 = nI a ∧ a2 = nI b
  · obtain ⟨a, b, ha, hb, hab, rfl, rfl⟩ := ht
    have hm : f_M_pay 0 m (nI a) (nI b) a3 a4 a5 = if a3 < 1 then some ((-1), m) else if 1000000000000 < a3 then some ((-1), m) else if a4 < 0 then some ((-1), m) else if 3 < a4 then some ((-1), m) else if a5 < sI x 1 0 0 then some ((-1), m) else if sI x 0 0 0 < 100 then (if sI x 3 a 0 < 6 then (if vin (sI x 0 0 0) 100 then (f_M_sweep 0 (mnew m (sN x) S a b a3 a4 a5)).bind fun o20 => some (sI x 0 0 0, o20.2) else none) else some ((-2), m)) else some ((-3), m) := by
      unfold f_M_pay
      rw [M_isBank_yes h0 ha hn, Option.bind_some, if_neg n10]
      simp only []
      rw [M_isBank_yes h0 hb hn, Option.bind_some, if_neg n10, if_neg (fun e => hab (nI_inj (by omega) (by omega) e))]
      simp only []
      rw [M_queuedAt hC.1 ha, Option.bind_some, hr.2.1, hr.2.2.2.1, hX.2.2.1, (hX.2.2.2.2.2.1 a ha).2.1]
      simp only [Option.bind_some, hr.2.2.2.1, nI_clamp (show sN x < 2 ^ 31 by omega)]
      have s3 : ∀ M : St, sI (wI (wI (wL (wI (wI m 4 0 (sN x) (nI a)) 5 0 (sN x) (nI b)) 6 0 (sN x) a3) 6 0 (sN x) a4) 7 0 (sN x) a5) 3 0 0 + 1 = nI (S + 1) := fun _ => by
        rw [← nI_1, ← hst.1]
        rfl
      have s8 : ∀ M : St, ∀ v : Int32, sI (wI M 3 0 0 v) 3 0 0 = v := fun _ _ => rfl
      have s2 : ∀ M : St, ∀ v : Int32, sI (wI (wI (wI M 3 0 0 v) 8 0 (sN x) v) 9 0 (sN x) 0) 2 0 0 = sI M 2 0 0 := fun _ _ => rfl
      have s22 : sI (wI (wI (wL (wI (wI m 4 0 (sN x) (nI a)) 5 0 (sN x) (nI b)) 6 0 (sN x) a3) 6 0 (sN x) a4) 7 0 (sN x) a5) 2 0 0 = nI (sN x) := hr.2.2.2.1
      simp only [s3 m, s8, s2, s22, nI_1]
      by_cases v : vin (nI (sN x)) 100
      · simp only [if_pos v]
        rfl
      · simp only [if_neg v]
    rw [hm, X_two_yes x ha hb hn hab, Option.bind_some, if_neg n10]
    simp only []
    by_cases g1 : a3 < 1
    · rw [if_pos g1, if_pos g1]
      exact ⟨-1, x, m, rfl, rfl, h.up⟩
    rw [if_neg g1, if_neg g1]
    by_cases g2 : 1000000000000 < a3
    · rw [if_pos g2, if_pos g2]
      exact ⟨-1, x, m, rfl, rfl, h.up⟩
    rw [if_neg g2, if_neg g2]
    unfold f_X_isPriority
    by_cases g3 : a4 < 0
    · rw [if_pos g3, if_pos g3, Option.bind_some, if_pos rfl]
      exact ⟨-1, x, m, rfl, rfl, h.up⟩
    rw [if_neg g3, if_neg g3]
    by_cases g4 : 3 < a4
    · rw [if_pos g4, if_pos g4, Option.bind_some, if_pos rfl]
      exact ⟨-1, x, m, rfl, rfl, h.up⟩
    rw [if_neg g4, if_neg g4, Option.bind_some, if_neg n10]
    simp only []
    by_cases g5 : a5 < sI x 1 0 0
    · rw [if_pos g5, if_pos g5]
      exact ⟨-1, x, m, rfl, rfl, h.up⟩
    rw [if_neg g5, if_neg g5]
    by_cases g6 : sI x 0 0 0 < 100
    · rw [if_pos g6, if_pos g6, if_pos (vin_nI ha (by omega)), nI_clamp (by omega)]
      by_cases g7 : sI x 3 a 0 < 6
      · rw [if_pos g7, if_pos g7, if_pos hX.2.2.2.2.2.2.2]
        have hN2 : sN x < 100 := by
          rw [hX.2.2.1] at g6
          exact (nI_ltI (b := 100) (by omega) (by omega)).mp g6
        have hl : (Q a).length < 6 := by
          have := (hX.2.2.2.2.2.1 a ha).1
          rw [(hX.2.2.2.2.2.1 a ha).2.1] at g7
          exact (nI_ltI (b := 6) (by omega) (by omega)).mp g7
        obtain ⟨x3, x', m', t1, t2, t3, t4⟩ := pay_fin hc hC hst hS ha hb hab a3 a4 a5 (by
          rw [Int64.lt_iff_toInt_lt] at g1
          have : (1 : Int64).toInt = 1 := by decide
          omega) (by
          rw [Int64.lt_iff_toInt_lt] at g2
          have : (1000000000000 : Int64).toInt = 1000000000000 := by decide
          omega) hN2 hl
        have vN := vin_nI hN2 (show 100 < 2 ^ 31 by omega)
        rw [hX.2.2.1, if_pos vN, t3]
        refine ⟨nI (sN x), x', m', ?_, rfl, t4⟩
        unfold f_X_payS
        rw [if_pos (show sN x < sN (xnew x (nI (sN x)) (nI a) (nI b) a3 a4 a5) by show sN x < sN x + 1; omega), if_pos vN, Option.bind_some, Option.bind_some, if_pos (vin_nI ha (by omega)), nI_clamp (by omega), nI_clamp (by omega)]
        have e0 : sI (wR (xnew x (nI (sN x)) (nI a) (nI b) a3 a4 a5) 0 0 (sN x) (some (sN x))) 0 0 0 + 1 = nI (sN x + 1) := by
          rw [← nI_1, ← hX.2.2.1]
          show (if _ then _ else if _ then _ else if _ then _ else if _ then _ else if _ then _ else if _ then _ else sI x 0 0 0) + 1 = _
          simp
        rw [e0]
        have e1 : f_B_enqueue n (wI (wR (xnew x (nI (sN x)) (nI a) (nI b) a3 a4 a5) 0 0 (sN x) (some (sN x))) 0 0 0 (nI (sN x + 1))) a (sN x) = some ((), x3) := t1
        rw [e1, Option.bind_some, t2, Option.bind_some]
      · rw [if_neg g7, if_neg g7]
        exact ⟨-2, x, m, rfl, rfl, h.up⟩
    · rw [if_neg g6, if_neg g6]
      exact ⟨-3, x, m, rfl, rfl, h.up⟩
  · refine ⟨-1, x, m, ?_, ?_, h.up⟩
    · rw [X_two_no x hn ht, Option.bind_some, if_pos rfl]
    · unfold f_M_pay
      rcases bank_or a1 hn with g | ⟨j, hj, rfl⟩
      · rw [M_isBank_no h0 g, Option.bind_some, if_pos rfl]
      · rw [M_isBank_yes h0 hj hn, Option.bind_some, if_neg n10]
        simp only []
        rcases bank_or a2 hn with g | ⟨i, hi, rfl⟩
        · rw [M_isBank_no h0 g, Option.bind_some, if_pos rfl]
        · rw [M_isBank_yes h0 hi hn, Option.bind_some, if_neg n10]
          by_cases e : j = i
          · rw [if_pos (by rw [e])]
          · exact absurd ⟨j, i, hj, hi, e, rfl, rfl⟩ ht
