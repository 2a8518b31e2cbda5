/-! Whole numbers behind the longs. -/
theorem i64_add {a b : Int64} (h1 : -9223372036854775808 ≤ a.toInt + b.toInt) (h2 : a.toInt + b.toInt < 9223372036854775808) : (a + b).toInt = a.toInt + b.toInt := by
  rw [Int64.toInt_add, Int.bmod_def]
  split <;> omega
theorem i64_sub {a b : Int64} (h1 : -9223372036854775808 ≤ a.toInt - b.toInt) (h2 : a.toInt - b.toInt < 9223372036854775808) : (a - b).toInt = a.toInt - b.toInt := by
  rw [Int64.toInt_sub, Int.bmod_def]
  split <;> omega
def zad (x : St) (b : Nat) : List Nat → Int
  | [] => 0
  | k :: l => (if sI x 6 k 0 = nI b then (sL x 6 k 0).toInt else 0) + zad x b l
/-- amounts are 1 .. 10^12 -/
def AM (x : St) : Prop := ∀ k, k < sN x → 1 ≤ (sL x 6 k 0).toInt ∧ (sL x 6 k 0).toInt ≤ 1000000000000
theorem zad_bd {x : St} (h : AM x) (b : Nat) : ∀ {l : List Nat}, (∀ k, k ∈ l → k < sN x) → 0 ≤ zad x b l ∧ zad x b l ≤ 1000000000000 * (l.length : Int)
  | [], _ => ⟨Int.le_refl _, by simp [zad]⟩
  | k :: l, hm => by
    obtain ⟨i1, i2⟩ := zad_bd h b (l := l) (fun y hy => hm y (List.mem_cons_of_mem _ hy))
    obtain ⟨h1, h2⟩ := h k (hm k List.mem_cons_self)
    show 0 ≤ (if _ then _ else _) + zad x b l ∧ (if _ then _ else _) + zad x b l ≤ 1000000000000 * (((k :: l).length : Nat) : Int)
    rw [List.length_cons]
    split <;> omega
theorem addTo_int {x : St} (h : AM x) (b : Nat) : ∀ {l : List Nat} {s : Int64}, (∀ k, k ∈ l → k < sN x) → 0 ≤ s.toInt → s.toInt + 1000000000000 * (l.length : Int) < 4611686018427387904 → (addTo x b l s).toInt = s.toInt + zad x b l
  | [], s, _, _, _ => by show s.toInt = s.toInt + 0; omega
  | k :: l, s, hm, h0, h1 => by
    obtain ⟨g1, g2⟩ := h k (hm k List.mem_cons_self)
    rw [List.length_cons] at h1
    show (addTo x b l (if _ then _ else _)).toInt = s.toInt + ((if _ then _ else _) + zad x b l)
    by_cases e : sI x 6 k 0 = nI b
    · rw [if_pos e, if_pos e]
      have e2 : (s + sL x 6 k 0).toInt = s.toInt + (sL x 6 k 0).toInt := i64_add (by omega) (by omega)
      rw [addTo_int h b (fun y hy => hm y (List.mem_cons_of_mem _ hy)) (by rw [e2]; omega) (by rw [e2]; omega), e2]
      omega
    · rw [if_neg e, if_neg e, addTo_int h b (fun y hy => hm y (List.mem_cons_of_mem _ hy)) h0 (by omega)]
      omega
/-- balances and sums sent are within B times 10^12 -/
def BD (n : Nat) (B : Nat) (x : St) : Prop := ∀ a, a < n → (-(1000000000000 * (B : Int)) ≤ (sL x 1 a 0).toInt ∧ (sL x 1 a 0).toInt ≤ 1000000000000 * (B : Int)) ∧ ∀ b, b < n → 0 ≤ (sL x 5 a b).toInt ∧ (sL x 5 a b).toInt ≤ 1000000000000 * (B : Int)
def zS (x : St) (Q : Nat → List Nat) (w : Nat → Nat) (a b : Nat) : Int := (sL x 5 a b).toInt + zad x b ((Q a).take (w a))
theorem q_mem {n : Nat} {x : St} {Q : Nat → List Nat} (h : XQ n x Q) {a w : Nat} (ha : a < n) : (∀ k, k ∈ (Q a).take w → k < sN x) ∧ ((Q a).take w).length ≤ 6 := ⟨fun k hk => (h.2.2.2.2.2.2.1 a ha k (List.mem_of_mem_take hk)).1, by
  have := (h.2.2.2.2.2.1 a ha).1
  rw [List.length_take]; omega⟩
theorem xS_int {n B : Nat} {x : St} {Q : Nat → List Nat} (h : XQ n x Q) (hA : AM x) (hB : BD n B x) (hB2 : B ≤ 1000000) (w : Nat → Nat) {a b : Nat} (ha : a < n) (hb : b < n) : (xS x Q w a b).toInt = zS x Q w a b ∧ 0 ≤ zad x b ((Q a).take (w a)) ∧ zad x b ((Q a).take (w a)) ≤ 6000000000000 := by
  obtain ⟨g1, g2⟩ := q_mem h (w := w a) ha
  obtain ⟨k1, k2⟩ := zad_bd hA b g1
  obtain ⟨j1, j2⟩ := (hB a ha).2 b hb
  refine ⟨addTo_int hA b g1 j1 (by omega), k1, by omega⟩
def zsum (f : Nat → Int) : Nat → Int
  | 0 => 0
  | n + 1 => zsum f n + f n
theorem zsum_bd {f : Nat → Int} {C : Int} : ∀ {n : Nat}, (∀ i, i < n → -C ≤ f i ∧ f i ≤ C) → -(C * n) ≤ zsum f n ∧ zsum f n ≤ C * n
  | 0, _ => by simp [zsum]
  | n + 1, h => by
    obtain ⟨i1, i2⟩ := zsum_bd (fun i hi => h i (by omega)) (n := n)
    obtain ⟨h1, h2⟩ := h n (by omega)
    show -(C * ((n + 1 : Nat) : Int)) ≤ zsum f n + f n ∧ zsum f n + f n ≤ C * ((n + 1 : Nat) : Int)
    rw [Int.natCast_succ, Int.mul_add, Int.mul_one]
    omega
theorem zsum_le {f g : Nat → Int} : ∀ {n : Nat}, (∀ i, i < n → f i ≤ g i) → zsum f n ≤ zsum g n
  | 0, _ => Int.le_refl _
  | n + 1, h => by
    have i1 := zsum_le (fun i hi => h i (by omega)) (n := n)
    have := h n (by omega)
    show zsum f n + f n ≤ zsum g n + g n
    omega
theorem sumN_int {f : Nat → Int64} {g : Nat → Int} {C : Int} (hC : 0 ≤ C ∧ C ≤ 1000000000000000000) : ∀ {n : Nat}, n ≤ 4 → (∀ i, i < n → (f i).toInt = g i ∧ -C ≤ g i ∧ g i ≤ C) → (sumN f n).toInt = zsum g n
  | 0, _, _ => rfl
  | n + 1, hn, h => by
    have i1 := sumN_int hC (n := n) (by omega) (fun i hi => h i (by omega))
    obtain ⟨j1, j2⟩ := zsum_bd (n := n) (fun i hi => (h i (by omega)).2)
    obtain ⟨h1, h2, h3⟩ := h n (by omega)
    show (sumN f n + f n).toInt = zsum g n + g n
    have k1 : C * (n : Int) ≤ C * 3 := Int.mul_le_mul_of_nonneg_left (by omega) hC.1
    rw [i64_add (by omega) (by omega), i1, h1]
def zF (n : Nat) (x : St) (Q : Nat → List Nat) (w : Nat → Nat) (a : Nat) : Int := (sL x 1 a 0).toInt - zsum (fun b => zad x b ((Q a).take (w a)) - zad x a ((Q b).take (w b))) n
theorem x_ints {n B : Nat} {x : St} {Q : Nat → List Nat} (h : XQ n x Q) (hA : AM x) (hB : BD n B x) (hB2 : B ≤ 400000) (w : Nat → Nat) {a : Nat} (ha : a < n) : (∀ b, b < n → (xS x Q w a b - xS x Q w b a).toInt = zS x Q w a b - zS x Q w b a) ∧ (sumN (fun b => xS x Q w a b - xS x Q w b a) n).toInt = zsum (fun b => zS x Q w a b - zS x Q w b a) n ∧ (xF n x Q w a).toInt = zF n x Q w a ∧ -(1000000000000 * ((B + 24 : Nat) : Int)) ≤ zF n x Q w a ∧ zF n x Q w a ≤ 1000000000000 * ((B + 24 : Nat) : Int) := by
  have hn := h.1.2
  have key : ∀ b, b < n → (xS x Q w a b - xS x Q w b a).toInt = zS x Q w a b - zS x Q w b a ∧ -500000000000000000 ≤ zS x Q w a b - zS x Q w b a ∧ zS x Q w a b - zS x Q w b a ≤ 500000000000000000 := by
    intro b hb
    obtain ⟨g1, g2, g3⟩ := xS_int h hA hB (by omega) w ha hb
    obtain ⟨k1, k2, k3⟩ := xS_int h hA hB (by omega) w hb ha
    obtain ⟨j1, j2⟩ := (hB a ha).2 b hb
    obtain ⟨l1, l2⟩ := (hB b hb).2 a ha
    have e1 : zS x Q w a b = (sL x 5 a b).toInt + zad x b ((Q a).take (w a)) := rfl
    have e2 : zS x Q w b a = (sL x 5 b a).toInt + zad x a ((Q b).take (w b)) := rfl
    refine ⟨?_, by omega, by omega⟩
    rw [i64_sub (by omega) (by omega), g1, k1]
  have hsum := sumN_int (C := 500000000000000000) (by omega) hn key
  have kd : ∀ b, b < n → ((xS x Q w a b - xS x Q w b a) - (sL x 5 a b - sL x 5 b a)).toInt = zad x b ((Q a).take (w a)) - zad x a ((Q b).take (w b)) ∧ -6000000000000 ≤ zad x b ((Q a).take (w a)) - zad x a ((Q b).take (w b)) ∧ zad x b ((Q a).take (w a)) - zad x a ((Q b).take (w b)) ≤ 6000000000000 := by
    intro b hb
    obtain ⟨g1, g2, g3⟩ := xS_int h hA hB (by omega) w ha hb
    obtain ⟨k1, k2, k3⟩ := xS_int h hA hB (by omega) w hb ha
    obtain ⟨j1, j2⟩ := (hB a ha).2 b hb
    obtain ⟨l1, l2⟩ := (hB b hb).2 a ha
    have e1 : zS x Q w a b = (sL x 5 a b).toInt + zad x b ((Q a).take (w a)) := rfl
    have e2 : zS x Q w b a = (sL x 5 b a).toInt + zad x a ((Q b).take (w b)) := rfl
    have e3 : (sL x 5 a b - sL x 5 b a).toInt = (sL x 5 a b).toInt - (sL x 5 b a).toInt := i64_sub (by omega) (by omega)
    have e4 := (key b hb).1
    refine ⟨?_, by omega, by omega⟩
    rw [i64_sub (by rw [e3, e4]; omega) (by rw [e3, e4]; omega), e3, e4]
    omega
  have hd := sumN_int (C := 6000000000000) (by omega) hn kd
  obtain ⟨b1, b2⟩ := zsum_bd (n := n) (fun i hi => (kd i hi).2)
  obtain ⟨c1, c2⟩ := (hB a ha).1
  have e5 : zF n x Q w a = (sL x 1 a 0).toInt - zsum (fun b => zad x b ((Q a).take (w a)) - zad x a ((Q b).take (w b))) n := rfl
  refine ⟨fun b hb => (key b hb).1, hsum, ?_, by omega, by omega⟩
  unfold xF
  rw [i64_sub (by rw [hd]; omega) (by rw [hd]; omega), hd]
  rfl
theorem zad_app (x : St) (b : Nat) : ∀ l1 l2 : List Nat, zad x b (l1 ++ l2) = zad x b l1 + zad x b l2
  | [], l2 => by show zad x b l2 = 0 + _; omega
  | k :: l1, l2 => by
    show (if _ then _ else _) + zad x b (l1 ++ l2) = ((if _ then _ else _) + zad x b l1) + zad x b l2
    rw [zad_app x b l1 l2]
    omega
theorem zad_mono {n : Nat} {x : St} {Q : Nat → List Nat} (h : XQ n x Q) (hA : AM x) {a : Nat} (ha : a < n) (b : Nat) {v w : Nat} (hvw : v ≤ w) : zad x b ((Q a).take v) ≤ zad x b ((Q a).take w) := by
  have e : (Q a).take w = (Q a).take v ++ ((Q a).take w).drop v := by
    conv => lhs; rw [← List.take_append_drop v ((Q a).take w)]
    rw [List.take_take, Nat.min_eq_left hvw]
  rw [e, zad_app]
  have := (zad_bd hA b (l := ((Q a).take w).drop v) (fun k hk => (q_mem h (w := w) ha).1 k (List.mem_of_mem_drop hk))).1
  omega
/-- a bank that pays the same, while none pays less, is as well as before -/
theorem xBW_mono {n B : Nat} {x : St} {Q : Nat → List Nat} (h : XQ n x Q) (hA : AM x) (hB : BD n B x) (hB2 : B ≤ 400000) {v w : Nat → Nat} (hvw : ∀ j, j < n → v j ≤ w j) {a : Nat} (ha : a < n) (he : v a = w a) (hw : xBW n x Q v a) : xBW n x Q w a := by
  obtain ⟨v1, v2, v3, -, -⟩ := x_ints h hA hB hB2 v ha
  obtain ⟨w1, w2, w3, -, -⟩ := x_ints h hA hB hB2 w ha
  have hpos : ∀ b, b < n → zS x Q w a b - zS x Q w b a ≤ zS x Q v a b - zS x Q v b a := by
    intro b hb
    have e1 : zS x Q w a b = zS x Q v a b := by unfold zS; rw [he]
    have e2 : zS x Q v b a ≤ zS x Q w b a := by
      have := zad_mono h hA hb a (hvw b hb)
      unfold zS
      omega
    omega
  obtain ⟨g1, g2, g3⟩ := hw
  refine ⟨fun b hb => ?_, fun g => ?_, ?_⟩
  · rcases g1 b hb with g | g
    · refine Or.inl ?_
      rw [Int64.le_iff_toInt_le] at g ⊢
      rw [w1 b hb]
      rw [v1 b hb] at g
      exact Int.le_trans (hpos b hb) g
    · exact Or.inr g
  · apply g2
    rw [Int64.lt_iff_toInt_lt] at g ⊢
    rw [w3] at g
    rw [v3]
    refine Int.lt_of_le_of_lt ?_ g
    have : zsum (fun b => zad x b ((Q a).take (w a)) - zad x a ((Q b).take (w b))) n ≤ zsum (fun b => zad x b ((Q a).take (v a)) - zad x a ((Q b).take (v b))) n := zsum_le (fun b hb => by
      have := zad_mono h hA hb a (hvw b hb)
      rw [he]
      omega)
    unfold zF
    omega
  · rcases g3 with g | g
    · refine Or.inl ?_
      rw [Int64.le_iff_toInt_le] at g ⊢
      rw [w2]
      rw [v2] at g
      exact Int.le_trans (zsum_le hpos) g
    · exact Or.inr g
