theorem sumw_zero {g : Nat → Nat} : ∀ {n : Nat}, sumw g n = 0 → ∀ a, a < n → g a = 0
  | 0, _, a, h => absurd h (Nat.not_lt_zero _)
  | n + 1, h, a, ha => by
    have h : sumw g n + g n = 0 := h
    by_cases e : a = n
    · rw [e]; omega
    · exact sumw_zero (n := n) (by omega) a (by omega)
theorem sumw_ge {g : Nat → Nat} {a : Nat} : ∀ {n : Nat}, a < n → g a ≤ sumw g n
  | 0, h => absurd h (Nat.not_lt_zero _)
  | n + 1, h => by
    show g a ≤ sumw g n + g n
    by_cases e : a = n
    · rw [e]; omega
    · have := sumw_ge (g := g) (n := n) (a := a) (by omega)
      omega
theorem sumw_congr {f g : Nat → Nat} : ∀ {n : Nat}, (∀ a, a < n → f a = g a) → sumw f n = sumw g n
  | 0, _ => rfl
  | n + 1, h => by
    show sumw f n + f n = sumw g n + g n
    rw [sumw_congr (fun a ha => h a (by omega)), h n (by omega)]
theorem sumw_drop {g : Nat → Nat} {Q Q' : Nat → List Nat} : ∀ {n : Nat}, (∀ a, a < n → Q' a = (Q a).drop (g a)) → (∀ a, a < n → g a ≤ (Q a).length) → sumw (fun a => (Q' a).length) n + sumw g n = sumw (fun a => (Q a).length) n
  | 0, _, _ => rfl
  | n + 1, h, h2 => by
    have ih := sumw_drop (n := n) (fun a ha => h a (by omega)) (fun a ha => h2 a (by omega))
    show (sumw (fun a => (Q' a).length) n + (Q' n).length) + (sumw g n + g n) = sumw (fun a => (Q a).length) n + (Q n).length
    have h3 := h2 n (by omega)
    rw [h n (by omega), List.length_drop]
    omega
theorem flat_none {g : Nat → Nat} {Q : Nat → List Nat} : ∀ {n : Nat}, (∀ j, j < n → g j = 0) → flatw g Q n = []
  | 0, _ => rfl
  | n + 1, h => by
    show flatw g Q n ++ (Q n).take (g n) = []
    rw [flat_none (fun j hj => h j (by omega)), h n (by omega), List.take_zero]
    rfl
theorem flat_one {g : Nat → Nat} {Q : Nat → List Nat} {a : Nat} : ∀ {n : Nat}, a < n → (∀ j, j < n → j ≠ a → g j = 0) → flatw g Q n = (Q a).take (g a)
  | 0, h, _ => absurd h (Nat.not_lt_zero _)
  | n + 1, h, h2 => by
    show flatw g Q n ++ (Q n).take (g n) = _
    by_cases e : a = n
    · subst e
      rw [flat_none (fun j hj => h2 j (by omega) (by omega))]
      rfl
    · rw [flat_one (by omega) (fun j hj hja => h2 j (by omega) hja), h2 n (by omega) (fun e2 => e e2.symm), List.take_zero, List.append_nil]
theorem flat_two {g : Nat → Nat} {Q : Nat → List Nat} {a b : Nat} (hab : a < b) : ∀ {n : Nat}, b < n → (∀ j, j < n → j ≠ a → j ≠ b → g j = 0) → flatw g Q n = (Q a).take (g a) ++ (Q b).take (g b)
  | 0, h, _ => absurd h (Nat.not_lt_zero _)
  | n + 1, h, h2 => by
    show flatw g Q n ++ (Q n).take (g n) = _
    by_cases e : b = n
    · subst e
      rw [flat_one (a := a) (by omega) (fun j hj hja => h2 j (by omega) hja (by omega))]
    · rw [flat_two hab (by omega) (fun j hj hja hjb => h2 j (by omega) hja hjb), h2 n (by omega) (by omega) (fun e2 => e e2.symm), List.take_zero, List.append_nil]
theorem M2.fr {m m' : St} (h : M2 m m') : ∀ c i j, c ≠ 9 → c ≠ 10 → c ≠ 11 → c ≠ 12 → sI m' c i j = sI m c i j := fun c i j _ a b d => h.1 c i j a b d
theorem hd_0 {a b j : Nat} (h1 : j ≠ a) (h2 : j ≠ b) : hd a b j = 0 := if_neg (fun g => g.elim h1 h2)
theorem hd_le {Q : Nat → List Nat} {a b j : Nat} (ha : 0 < (Q a).length) (hb : 0 < (Q b).length) : hd a b j ≤ (Q j).length := by
  unfold hd
  by_cases h : j = a ∨ j = b
  · rw [if_pos h]
    rcases h with h | h
    · rw [h]; omega
    · rw [h]; omega
  · rw [if_neg h]; omega
set_option maxHeartbeats 1000000 in
theorem sweep_lp {n : Nat} (T : Nat → St → (Nat → List Nat) → Prop) (hS : ∀ i x y Q, T i x Q → S2 x y → T i y Q) (hT : ∀ i x m Q w x' m' Q', R0 n x m Q → T i x Q → (∀ a, a < n → xBW n x Q w a) → (∀ a, a < n → w a ≤ (Q a).length) → JJ n x Q w x' m' Q' → T (i + 1) x' Q') : ∀ (r fx fm t i : Nat) (x m : St) (Q : Nat → List Nat), R0 n x m Q → T i x Q → sumw (fun a => (Q a).length) n ≤ r → r ≤ 24 → r < fx → r + 2 < fm → t + r ≤ 100 → ∃ x' m' Q' i', lp_X_sweep_2 n (fun σ5 => some ((), σ5)) fx x (nI (24 - r)) = some ((), x') ∧ lp_M_sweep_4 0 (fun σ4 => some ((), σ4)) fm m 1 (nI t) = some ((), m') ∧ R0 n x' m' Q' ∧ T i' x' Q' ∧ i ≤ i' ∧ i' ≤ i + r ∧ (∀ c i j, c ≠ 9 → c ≠ 10 → c ≠ 11 → c ≠ 12 → sI m' c i j = sI m c i j) := by
  intro r
  induction r with
  | zero =>
    intro fx fm t i x m Q hR hTi h1 h2 h3 h4 h5
    have hn := hR.1.1.2
    have hz := sumw_zero (g := fun a => (Q a).length) (by omega : sumw (fun a => (Q a).length) n = 0)
    have hnil : ∀ a, a < n → Q a = [] := fun a ha => List.eq_nil_of_length_eq_zero (hz a ha)
    obtain ⟨fx, rfl⟩ : ∃ f, fx = f + 1 := ⟨fx - 1, by omega⟩
    obtain ⟨fm, rfl⟩ : ∃ f, fm = f + 2 := ⟨fm - 2, by omega⟩
    obtain ⟨m1, q1, q2, q3⟩ := M_lineUp hR.1 hR.2.1 hR.2.2.1
    obtain ⟨-, p2⟩ := alone_lp (Q := Q) (x := x) (fun σ6 => some (0, σ6)) 1000 0 m1 (hR.m2 q1) q2 (by omega) (by omega)
    obtain ⟨m2, o1, o2⟩ := p2 (fun a' _ h6 => Or.inl (hnil a' h6))
    obtain ⟨-, u2⟩ := pair_out (Q := Q) (x := x) (fun σ15 => some (0, σ15)) 1000 0 m2 ((hR.m2 q1).m2 o1.toM2) (o1.toLU q2) (by omega) (by omega)
    obtain ⟨m3, v1, v2⟩ := u2 (fun a' b' _ h6 h7 g => by
      obtain ⟨⟨k9, l9, q9, r9, e9, -⟩, -⟩ := g
      rw [hnil a' (by omega)] at e9
      cases e9)
    have hm3 : M2 m m3 := (q1.tr o1.toM2).tr v1.toM2
    refine ⟨x, m3, Q, i, ?_, ?_, hR.m2 hm3, hTi, Nat.le_refl _, by omega, hm3.fr⟩
    · rw [lp_X_sweep_2_s, if_pos (lit_le 24 (L := 24) rfl (by omega) (by omega))]
    · have o2 : f_M_alone 0 m1 = _ := o2
      have v2 : f_M_pair 0 m2 = _ := v2
      rw [lp_M_sweep_4_s, if_neg (lit_nle 200 (L := 200) rfl (by omega) (by omega)), if_neg n10, q3, Option.bind_some]
      simp only []
      rw [o2, Option.bind_some, if_pos rfl]
      simp only []
      rw [v2, Option.bind_some, if_pos rfl, nI_1, lp_M_sweep_4_s, if_neg (lit_nle 200 (L := 200) rfl (by omega) (by omega)), if_pos rfl]
  | succ r ih =>
    intro fx fm t i x m Q hR hTi h1 h2 h3 h4 h5
    have hn := hR.1.1.2
    obtain ⟨fx, rfl⟩ : ∃ f, fx = f + 1 := ⟨fx - 1, by omega⟩
    obtain ⟨fm, rfl⟩ : ∃ f, fm = f + 2 := ⟨fm - 2, by omega⟩
    have e24 : nI (24 - (r + 1)) + 1 = nI (24 - r) := by rw [nI_1]; congr 1; omega
    obtain ⟨m1, q1, q2, q3⟩ := M_lineUp hR.1 hR.2.1 hR.2.2.1
    have hR1 := hR.m2 q1
    obtain ⟨p1, p2⟩ := alone_lp (Q := Q) (x := x) (fun σ6 => some (0, σ6)) 1000 0 m1 hR1 q2 (by omega) (by omega)
    have mhead : lp_M_sweep_4 0 (fun σ4 => some ((), σ4)) (fm + 2) m 1 (nI t) = (f_M_alone 0 m1).bind fun o2 => if o2.1 = 0 then (f_M_pair 0 o2.2).bind fun o3 => if o3.1 = 0 then lp_M_sweep_4 0 (fun σ4 => some ((), σ4)) (fm + 1) o3.2 0 (nI t + 1) else lp_M_sweep_4 0 (fun σ4 => some ((), σ4)) (fm + 1) o3.2 1 (nI t + 1) else lp_M_sweep_4 0 (fun σ4 => some ((), σ4)) (fm + 1) o2.2 1 (nI t + 1) := by
      rw [lp_M_sweep_4_s, if_neg (lit_nle 200 (L := 200) rfl (by omega) (by omega)), if_neg n10, q3, Option.bind_some]
    rw [mhead, lp_X_sweep_2_s, if_neg (lit_nle 24 (L := 24) rfl (by omega) (by omega))]
    rcases X_ready_head_lp (n := n) (Q := Q) (fun σ3 => some (0, σ3)) 1000 0 x hR.1 (by omega) (by omega) with ⟨a, y, -, ha, hqa, hra, hleast, hs, hch, e1⟩ | ⟨y, hnone, hs, e1⟩
    · -- a head goes alone
      have e1 : f_X_chooseReadyHead n x = some (1, y) := e1
      obtain ⟨k, q, hk⟩ := List.exists_cons_of_ne_nil hqa
      have hlen : 0 < (Q a).length := by rw [hk]; exact Nat.succ_pos _
      obtain ⟨m2, o1, o2⟩ := p1 a k q (Nat.zero_le _) ha hk hra (fun a' h6 h7 => hleast a' h6 h7)
      have o2 : f_M_alone 0 m1 = _ := o2
      have hRy : R0 n y m2 Q := (hR1.m2 o1.toM2).s2 hs
      obtain ⟨x', m', Q', f1, f2, f3, f4⟩ := X_settleChosen hRy (v := 1) (by decide) (g := hd a a) (fun j hj => ⟨hch j hj, hd_le hlen hlen⟩)
      rw [flat_one (g := hd a a) ha (fun j _ hja => hd_0 hja hja), show hd a a a = 1 from if_pos (Or.inl rfl), hk] at f2
      have f2 : (f_M_settle 0 m2 (nI k) 1).bind (fun o => some o.2) = some m' := f2
      obtain ⟨⟨u0, m9⟩, s1, s2⟩ := og_b f2
      have s2 : m9 = m' := Option.some.inj s2
      subst s2
      rw [e1, Option.bind_some, if_neg n10]
      simp only []
      rw [f1, Option.bind_some, o2, s1, Option.bind_some, Option.bind_some, if_neg n10, e24, nI_1]
      have hb9 : ∀ j, j < n → below (hd a a) n j = hd a a j := fun j hj => if_pos hj
      have hT' := hT i y m2 Q (below (hd a a) n) x' m9 Q' hRy (hS _ _ _ _ hTi hs) (fun j hj => (xBW_w hb9 hj).mpr ((hs.toBW Q _ j).mpr (hra j hj))) (fun j hj => by rw [hb9 j hj]; exact hd_le hlen hlen) f3
      have hdec := sumw_drop (Q := Q) (Q' := Q') (g := below (hd a a) n) (n := n) f3.2.2.2.1 (fun j hj => by rw [hb9 j hj]; exact hd_le hlen hlen)
      have h1s : 1 ≤ sumw (below (hd a a) n) n := by
        have := sumw_ge (g := below (hd a a) n) ha
        rw [hb9 a ha, show hd a a a = 1 from if_pos (Or.inl rfl)] at this
        exact this
      obtain ⟨x2, m3, Q2, i2, t1, t2, t3, t4, t5, t6, t7⟩ := ih fx (fm + 1) (t + 1) (i + 1) x' m9 Q' f3.1 hT' (by omega) (by omega) (by omega) (by omega) (by omega)
      exact ⟨x2, m3, Q2, i2, t1, t2, t3, t4, by omega, by omega, fun c i j a1 a2 a3 a4 => (t7 c i j a1 a2 a3 a4).trans ((f4 c i j a1).trans ((o1.1 c i j).trans (q1.1 c i j a2 a3 a4)))⟩
    · have e1 : f_X_chooseReadyHead n x = some (0, y) := e1
      obtain ⟨m2, o1, o2⟩ := p2 (fun a' h6 h7 => hnone a' h6 h7)
      have o2 : f_M_alone 0 m1 = _ := o2
      have hR2 := hR1.m2 o1.toM2
      obtain ⟨u1, u2⟩ := pair_out (Q := Q) (x := x) (fun σ15 => some (0, σ15)) 1000 0 m2 hR2 (o1.toLU q2) (by omega) (by omega)
      rw [e1, Option.bind_some, if_pos rfl, o2, Option.bind_some, if_pos rfl]
      simp only []
      rcases X_ready_pair_lp (n := n) (Q := Q) (fun σ6 => some (0, σ6)) 1000 0 y (hs.toXQ hR.1) (by omega) (by omega) with ⟨a, b, z, -, hab, hb, hpr, hleast, hs2, hch, e2⟩ | ⟨z, hnone2, hs2, e2⟩
      · have e2 : f_X_chooseReadyPair n y = some (1, z) := e2
        have hprx := (hs.toPr Q a b).mp hpr
        obtain ⟨⟨k, l, q, r9, hka, hlb, -, -⟩, hrx⟩ := id hprx
        have hlena : 0 < (Q a).length := by rw [hka]; exact Nat.succ_pos _
        have hlenb : 0 < (Q b).length := by rw [hlb]; exact Nat.succ_pos _
        obtain ⟨m3, v1, v2⟩ := u1 a b k q l r9 (Nat.zero_le _) hab hb hprx hka hlb (fun a' b' h6 h7 h8 h9 g => hleast a' b' h6 h7 h8 h9 ((hs.toPr Q a' b').mpr g))
        have v2 : f_M_pair 0 m2 = _ := v2
        have hRz : R0 n z m3 Q := ((hR2.m2 v1.toM2).s2 hs).s2 hs2
        have hhb : sI m3 10 0 (6 * b) = nI l := LU_head (v1.toLU (o1.toLU q2)) hb hlb
        obtain ⟨x', m', Q', f1, f2, f3, f4⟩ := X_settleChosen hRz (v := 2) (by decide) (g := hd a b) (fun j hj => ⟨hch j hj, hd_le hlena hlenb⟩)
        rw [flat_two (g := hd a b) hab hb (fun j _ hja hjb => hd_0 hja hjb), show hd a b a = 1 from if_pos (Or.inl rfl), show hd a b b = 1 from if_pos (Or.inr rfl), hka, hlb] at f2
        have f2 : (f_M_settle 0 m3 (nI k) 2).bind (fun o => (f_M_settle 0 o.2 (nI l) 2).bind fun o => some o.2) = some m' := f2
        obtain ⟨b9, x9, m9, -, -, -, -, g9, -, g10, -⟩ := settle_both hRz (by omega : a < n) hka (v := 2) (by decide)
        rw [g9, Option.bind_some] at f2
        obtain ⟨⟨u0, m8⟩, s1, s2⟩ := og_b f2
        have s2 : m8 = m' := Option.some.inj s2
        subst s2
        have hhb9 : sI m9 10 0 (6 * b) = nI l := by rw [g10.1 10 0 _ (by omega)]; exact hhb
        rw [e2, Option.bind_some, if_neg n10]
        simp only []
        rw [f1, Option.bind_some, v2, g9, Option.bind_some]
        simp only []
        rw [hhb9, s1, Option.bind_some, Option.bind_some, if_neg n10, e24, nI_1]
        have hs3 := hs.tr hs2
        have hb9 : ∀ j, j < n → below (hd a b) n j = hd a b j := fun j hj => if_pos hj
        have hT' := hT i z m3 Q (below (hd a b) n) x' m8 Q' hRz (hS _ _ _ _ hTi hs3) (fun j hj => (xBW_w hb9 hj).mpr ((hs3.toBW Q _ j).mpr (hrx j hj))) (fun j hj => by rw [hb9 j hj]; exact hd_le hlena hlenb) f3
        have hdec := sumw_drop (Q := Q) (Q' := Q') (g := below (hd a b) n) (n := n) f3.2.2.2.1 (fun j hj => by rw [hb9 j hj]; exact hd_le hlena hlenb)
        have h1s : 1 ≤ sumw (below (hd a b) n) n := by
          have := sumw_ge (g := below (hd a b) n) hb
          rw [hb9 b hb, show hd a b b = 1 from if_pos (Or.inr rfl)] at this
          exact this
        obtain ⟨x2, m4, Q2, i2, t1, t2, t3, t4, t5, t6, t7⟩ := ih fx (fm + 1) (t + 1) (i + 1) x' m8 Q' f3.1 hT' (by omega) (by omega) (by omega) (by omega) (by omega)
        exact ⟨x2, m4, Q2, i2, t1, t2, t3, t4, by omega, by omega, fun c i j a1 a2 a3 a4 => (t7 c i j a1 a2 a3 a4).trans ((f4 c i j a1).trans ((v1.1 c i j).trans ((o1.1 c i j).trans (q1.1 c i j a2 a3 a4))))⟩
      · have e2 : f_X_chooseReadyPair n y = some (0, z) := e2
        obtain ⟨m3, v1, v2⟩ := u2 (fun a' b' h6 h7 h8 g => hnone2 a' b' h6 h7 h8 ((hs.toPr Q a' b').mpr g))
        have v2 : f_M_pair 0 m2 = _ := v2
        have hs3 := hs.tr hs2
        have hm3 : M2 m m3 := (q1.tr o1.toM2).tr v1.toM2
        refine ⟨z, m3, Q, i, ?_, ?_, (hR.m2 hm3).s2 hs3, hS _ _ _ _ hTi hs3, Nat.le_refl _, by omega, hm3.fr⟩
        · rw [e2, Option.bind_some, if_pos rfl]
        · rw [v2, Option.bind_some, if_pos rfl, nI_1, lp_M_sweep_4_s, if_neg (lit_nle 200 (L := 200) rfl (by omega) (by omega)), if_pos rfl]
theorem sweep_both {n : Nat} {x m : St} {Q : Nat → List Nat} (T : Nat → St → (Nat → List Nat) → Prop) (hS : ∀ i x y Q, T i x Q → S2 x y → T i y Q) (hT : ∀ i x m Q w x' m' Q', R0 n x m Q → T i x Q → (∀ a, a < n → xBW n x Q w a) → (∀ a, a < n → w a ≤ (Q a).length) → JJ n x Q w x' m' Q' → T (i + 1) x' Q') (hR : R0 n x m Q) (hT0 : T 0 x Q) : ∃ x' m' Q' i', f_X_sweep n x = some ((), x') ∧ f_M_sweep 0 m = some ((), m') ∧ R0 n x' m' Q' ∧ T i' x' Q' ∧ i' ≤ 24 ∧ (∀ c i j, c ≠ 9 → c ≠ 10 → c ≠ 11 → c ≠ 12 → sI m' c i j = sI m c i j) := by
  have hn := hR.1.1.2
  have hle : ∀ k, k ≤ n → sumw (fun a => (Q a).length) k ≤ 6 * k := by
    intro k
    induction k with
    | zero => intro _; exact Nat.le_refl _
    | succ k ih =>
      intro hk
      show sumw (fun a => (Q a).length) k + (Q k).length ≤ 6 * (k + 1)
      have := ih (by omega)
      have := (hR.1.2.2.2.2.2.1 k (by omega)).1
      omega
  have h24 := hle n (Nat.le_refl _)
  obtain ⟨x', m', Q', i', t1, t2, t3, t4, t5, t6, t7⟩ := sweep_lp T hS hT 24 1000 1000 0 0 x m Q hR hT0 (by omega) (by omega) (by omega) (by omega) (by omega)
  exact ⟨x', m', Q', i', t1, t2, t3, t4, by omega, t7⟩
