/-! Resolving: the greatest vector. -/
def E2 (m m' : St) : Prop := M2 m m' ∧ ∀ c i j, c ≠ 12 → sI m' c i j = sI m c i j
theorem E2.rf {m : St} : E2 m m := ⟨M2.rf, fun _ _ _ _ => rfl⟩
theorem E2.tr {m m1 m2 : St} (h : E2 m m1) (h2 : E2 m1 m2) : E2 m m2 := ⟨h.1.tr h2.1, fun c i j a => (h2.2 c i j a).trans (h.2 c i j a)⟩
theorem E2.n {m m' : St} (h : N2 m m') : E2 m m' := ⟨h.toM2, fun c i j _ => h.1 c i j⟩
theorem E2.w (m : St) (i j : Nat) (v : Int32) : E2 m (wI m 12 i j v) := ⟨⟨fun c i' j' _ _ h => by rw [sI_wI, if_neg (fun q => h q.1)], fun _ _ _ _ _ => rfl⟩, fun c i' j' h => by rw [sI_wI, if_neg (fun q => h q.1)]⟩
theorem E2.toLU {n : Nat} {Q : Nat → List Nat} {m m' : St} (h : E2 m m') (hl : LU n Q m) : LU n Q m' := by
  unfold LU at *
  simp only [h.2 10 _ _ (by decide), h.2 11 _ _ (by decide)]
  exact hl
theorem res_6 (K : St → Option (Int32 × St)) : ∀ (fu i : Nat) (m : St), i ≤ 4 → 4 < fu + i → (∀ j, j < i → sI m 12 0 j = nI 0) → ∃ m', E2 m m' ∧ (∀ j, j < 4 → sI m' 12 0 j = nI 0) ∧ lp_M_resolve_6 0 K fu m (nI i) = K m' := by
  intro fu
  induction fu with
  | zero => intro i m h1 h2; omega
  | succ fu ih =>
    intro i m h1 h2 h3
    rw [lp_M_resolve_6_s]
    by_cases hi : i < 4
    · rw [if_neg (lit_nle 4 (L := 4) rfl hi (by omega)), if_pos (vin_nI hi (by omega)), Option.bind_some, nI_clamp (by omega), nI_1]
      obtain ⟨m', g1, g2, g3⟩ := ih (i + 1) (wI m 12 0 i 0) (by omega) (by omega) (fun j hj => by
        rw [sI_wI]
        by_cases e : j = i
        · rw [if_pos ⟨rfl, rfl, e⟩]; rfl
        · rw [if_neg (fun q => e q.2.2)]; exact h3 j (by omega))
      exact ⟨m', (E2.w m 0 i 0).tr g1, g2, g3⟩
    · have : i = 4 := by omega
      subst this
      rw [if_pos (lit_le 4 (L := 4) rfl (Nat.le_refl _) (by omega))]
      exact ⟨m, E2.rf, h3, rfl⟩
theorem res_43 {v : Nat} (hv : v < 2401) {b : Nat → Nat} (hb : ∀ j, j < 4 → b j ≤ 6) (K : St → Option (Int32 × St)) : ∀ (fu i : Nat) (m : St), i ≤ 4 → 4 < fu + i → (∀ j, j < i → sI m 12 0 j = nI (max (dg v j) (b j))) → (∀ j, i ≤ j → j < 4 → sI m 12 0 j = nI (b j)) → ∃ m', E2 m m' ∧ (∀ j, j < 4 → sI m' 12 0 j = nI (max (dg v j) (b j))) ∧ lp_M_resolve_43 0 K fu m (nI v) (nI i) = K m' := by
  intro fu
  induction fu with
  | zero => intro i m h1 h2; omega
  | succ fu ih =>
    intro i m h1 h2 h3 h4
    rw [lp_M_resolve_43_s]
    by_cases hi : i < 4
    · have hdg : dg v i < 7 := Nat.mod_lt _ (by omega)
      have hbi := hb i hi
      have vi := vin_nI hi (show 4 < 2 ^ 31 by omega)
      rw [if_neg (lit_nle 4 (L := 4) rfl hi (by omega)), M_digit hv (by omega), Option.bind_some]
      simp only [nI_clamp (show i < 2 ^ 31 by omega), if_pos vi, Option.bind_some]
      rw [h4 i (Nat.le_refl _) hi, nI_1]
      have key : ∀ t : Nat, t = max (dg v i) (b i) → ∃ m', E2 m m' ∧ (∀ j, j < 4 → sI m' 12 0 j = nI (max (dg v j) (b j))) ∧ lp_M_resolve_43 0 K fu (wI m 12 0 i (nI t)) (nI v) (nI (i + 1)) = K m' := by
        intro t ht
        obtain ⟨m', g1, g2, g3⟩ := ih (i + 1) (wI m 12 0 i (nI t)) (by omega) (by omega) (fun j hj => by
          rw [sI_wI]
          by_cases e : j = i
          · subst e; rw [if_pos ⟨rfl, rfl, rfl⟩, ht]
          · rw [if_neg (fun q => e q.2.2)]; exact h3 j (by omega)) (fun j hj hj2 => by
          rw [sI_wI, if_neg (fun q => by omega)]; exact h4 j (by omega) hj2)
        exact ⟨m', (E2.w m 0 i _).tr g1, g2, g3⟩
      by_cases hd : dg v i ≤ b i
      · rw [if_pos (nI_le hd (by omega))]
        exact key (b i) (by omega)
      · rw [if_neg (nI_ge (by omega) (by omega))]
        exact key (dg v i) (by omega)
    · have : i = 4 := by omega
      subst this
      rw [if_pos (lit_le 4 (L := 4) rfl (Nat.le_refl _) (by omega))]
      exact ⟨m, E2.rf, h3, rfl⟩
theorem res_26 {n : Nat} {x m0' : St} {Q : Nat → List Nat} (h : XQ n x Q) (hr : MR n x m0') (hlo : LOK n x) (hL : LU n Q m0') {g : Nat → Nat} (hg6 : ∀ j, j < 4 → g j ≤ 6) (hg : ∀ u, u < 2401 → GdD n x Q u → ∀ j, j < 4 → dg u j ≤ g j) (K : St → Option (Int32 × St)) : ∀ (fu v : Nat) (m : St) (b : Nat → Nat), E2 m0' m → (∀ j, j < 4 → sI m 12 0 j = nI (b j)) → (∀ j, j < 4 → b j ≤ g j) → (∀ u, u < v → GdD n x Q u → ∀ j, j < 4 → dg u j ≤ b j) → v ≤ 2401 → 2401 < fu + v → ∃ (m' : St) (b' : Nat → Nat), E2 m0' m' ∧ (∀ j, j < 4 → sI m' 12 0 j = nI (b' j)) ∧ (∀ j, j < 4 → b' j ≤ g j) ∧ (∀ u, u < 2401 → GdD n x Q u → ∀ j, j < 4 → dg u j ≤ b' j) ∧ lp_M_resolve_26 0 K fu m (nI v) = K m' := by
  intro fu
  induction fu with
  | zero => intro v m b _ _ _ _ h1 h2; omega
  | succ fu ih =>
    intro v m b hs h12 hbg hu h1 h2
    rw [lp_M_resolve_26_s]
    by_cases hv : v < 2401
    · rw [if_neg (lit_nle 2401 (L := 2401) rfl hv (by omega))]
      obtain ⟨m1, q1, q2, q3⟩ := M_good h (hs.1.toMR hr) hlo (hs.toLU hL) hv
      have h12' : ∀ j, j < 4 → sI m1 12 0 j = nI (b j) := fun j hj => by rw [q1.1]; exact h12 j hj
      by_cases hgd : GdD n x Q v
      · rw [q2 hgd, Option.bind_some, if_neg n10]
        simp only []
        obtain ⟨m2, k1, k2, k3⟩ := res_43 hv (fun j hj => Nat.le_trans (hbg j hj) (hg6 j hj)) (fun σ13 => lp_M_resolve_26 0 K fu σ13 (nI v + 1)) 3000 0 m1 (by omega) (by omega) (fun j hj => absurd hj (Nat.not_lt_zero _)) (fun j _ hj => h12' j hj)
        obtain ⟨m', b', g1, g2, g3, g4, g5⟩ := ih (v + 1) m2 (fun j => max (dg v j) (b j)) ((hs.tr (E2.n q1)).tr k1) k2 (fun j hj => Nat.max_le.mpr ⟨hg v hv hgd j hj, hbg j hj⟩) (fun u hu2 hgu j hj => by
          by_cases e : u = v
          · subst e; exact Nat.le_max_left _ _
          · exact Nat.le_trans (hu u (by omega) hgu j hj) (Nat.le_max_right _ _)) (by omega) (by omega)
        refine ⟨m', b', g1, g2, g3, g4, ?_⟩
        refine Eq.trans k3 ?_
        show lp_M_resolve_26 0 K fu m2 (nI v + 1) = _
        rw [nI_1]
        exact g5
      · rw [q3 hgd, Option.bind_some, if_pos rfl, nI_1]
        exact ih (v + 1) m1 b (hs.tr (E2.n q1)) h12' hbg (fun u hu2 hgu j hj => by
          by_cases e : u = v
          · subst e; exact absurd hgu hgd
          · exact hu u (by omega) hgu j hj) (by omega) (by omega)
    · have : v = 2401 := by omega
      subst this
      rw [if_pos (lit_le 2401 (L := 2401) rfl (Nat.le_refl _) (by omega))]
      exact ⟨m, b, hs, h12, hbg, hu, rfl⟩
/-- every vector has its number -/
theorem enc_dg {g : Nat → Nat} (h : ∀ j, j < 4 → g j ≤ 6) : ∃ u, u < 2401 ∧ ∀ j, j < 4 → dg u j = g j := by
  have h0 := h 0 (by omega)
  have h1 := h 1 (by omega)
  have h2 := h 2 (by omega)
  have h3 := h 3 (by omega)
  refine ⟨g 0 + 7 * g 1 + 49 * g 2 + 343 * g 3, by omega, fun j hj => ?_⟩
  have hj4 : j = 0 ∨ j = 1 ∨ j = 2 ∨ j = 3 := by omega
  rcases hj4 with rfl | rfl | rfl | rfl
  · show (g 0 + 7 * g 1 + 49 * g 2 + 343 * g 3) / 1 % 7 = g 0
    omega
  · show (g 0 + 7 * g 1 + 49 * g 2 + 343 * g 3) / 7 % 7 = g 1
    omega
  · show (g 0 + 7 * g 1 + 49 * g 2 + 343 * g 3) / 49 % 7 = g 2
    omega
  · show (g 0 + 7 * g 1 + 49 * g 2 + 343 * g 3) / 343 % 7 = g 3
    omega
theorem res_103 {n : Nat} {x m0' : St} {Q : Nat → List Nat} (h : XQ n x Q) (hr : MR n x m0') (hL : LU n Q m0') {a d : Nat} (ha : a < n) (hd : d ≤ (Q a).length) (h12 : sI m0' 12 0 a = nI d) (K : St → Int32 → Option (Int32 × St)) : ∀ (fu i s : Nat) (m : St), (∀ c i j, c ≠ 9 → sI m c i j = sI m0' c i j) → i ≤ d → d < fu + i → ∃ m', msetL 3 (((Q a).take d).drop i) m = some m' ∧ (∀ c i j, c ≠ 9 → sI m' c i j = sI m0' c i j) ∧ lp_M_resolve_103 0 K fu m (nI s) (nI a) (nI i) = K m' (nI (s + (d - i))) := by
  have hn := h.1.2
  have hN := h.2.1
  have hl6 := (h.2.2.2.2.2.1 a ha).1
  intro fu
  induction fu with
  | zero => intro i s m _ h1 h2; omega
  | succ fu ih =>
    intro i s m hs h1 h2
    rw [lp_M_resolve_103_s, if_pos (vin_nI (show a < 4 by omega) (by omega)), nI_clamp (by omega), hs 12 0 a (by decide), h12]
    by_cases hi : i < d
    · have hil : i < (Q a).length := by omega
      have hlt : i < ((Q a).take d).length := by rw [List.length_take]; omega
      have hge : ((Q a).take d)[i] = (Q a)[i] := List.getElem_take
      obtain ⟨k1, k2, k3⟩ := h.2.2.2.2.2.2.1 a ha _ (List.getElem_mem hil)
      obtain ⟨a', b, ha', hb, hab, e5, e6⟩ := h.2.2.2.2.1 _ k1
      obtain ⟨r1, r2, -⟩ := hr.2.2.2.2.2 _ k1
      obtain ⟨m1, q1, q2⟩ := M_settle (m := m) (k := (Q a)[i]) (by omega) (show a' < 4 by omega) (show b < 4 by omega) hab (by rw [hs 4 0 _ (by decide), r1, e5]) (by rw [hs 5 0 _ (by decide), r2, e6]) 3
      obtain ⟨m', g1, g2, g3⟩ := ih (i + 1) (s + 1) m1 (fun c i' j hc => by rw [q2.1 c i' j (fun q => hc q.1)]; exact hs c i' j hc) (by omega) (by omega)
      refine ⟨m', ?_, g2, ?_⟩
      · rw [List.drop_eq_getElem_cons hlt, hge]
        show (f_M_settle 0 m (nI (Q a)[i]) 3).bind _ = _
        rw [q1, Option.bind_some]
        exact g1
      · rw [if_neg (nI_ge hi (by omega)), i6, if_pos (vin_nI (show 6 * a + i < 24 by omega) (by omega)), nI_clamp (by omega), hs 10 0 _ (by decide), (hL.1 a ha).2 i hil, q1, Option.bind_some, nI_1, nI_1]
        rw [show s + (d - i) = s + 1 + (d - (i + 1)) by omega]
        exact g3
    · have : i = d := by omega
      subst this
      rw [if_pos (nI_le (Nat.le_refl _) (by omega)), List.drop_eq_nil_of_le (by rw [List.length_take]; omega), Nat.sub_self]
      exact ⟨m, rfl, hs, rfl⟩
theorem res_96 {n : Nat} {x m0' : St} {Q : Nat → List Nat} (h : XQ n x Q) (hr : MR n x m0') (hL : LU n Q m0') {g : Nat → Nat} (hg : ∀ a, a < n → g a ≤ (Q a).length) (hg0 : ∀ a, n ≤ a → g a = 0) (h12 : ∀ a, a < 4 → sI m0' 12 0 a = nI (g a)) (K : St → Int32 → Option (Int32 × St)) : ∀ (fu a : Nat) (m : St), (∀ c i j, c ≠ 9 → sI m c i j = sI m0' c i j) → msetL 3 (flatw g Q a) m0' = some m → a ≤ 4 → 4 < fu + a → ∃ m', msetL 3 (flatw g Q 4) m0' = some m' ∧ lp_M_resolve_96 0 K fu m (nI (sumw g a)) (nI a) = K m' (nI (sumw g 4)) := by
  have hn := h.1.2
  intro fu
  induction fu with
  | zero => intro a m _ _ h1 h2; omega
  | succ fu ih =>
    intro a m hs hm h1 h2
    rw [lp_M_resolve_96_s]
    by_cases ha : a < 4
    · rw [if_neg (lit_nle 4 (L := 4) rfl ha (by omega))]
      by_cases han : a < n
      · have hl6 := (h.2.2.2.2.2.1 a han).1
        have hga := hg a han
        obtain ⟨m1, q1, q2, q3⟩ := res_103 h hr hL han hga (h12 a ha) (fun σ19 y1_18 => lp_M_resolve_96 0 K fu σ19 y1_18 (nI a + 1)) 3000 0 (sumw g a) m hs (by omega) (by omega)
        obtain ⟨m', g1, g2⟩ := ih (a + 1) m1 q2 (by
          show msetL 3 (flatw g Q a ++ (Q a).take (g a)) m0' = _
          rw [msetL_app, hm, Option.bind_some]
          exact q1) (by omega) (by omega)
        refine ⟨m', g1, ?_⟩
        refine Eq.trans q3 ?_
        show lp_M_resolve_96 0 K fu m1 (nI (sumw g a + (g a - 0))) (nI a + 1) = _
        rw [nI_1]
        exact g2
      · have hga := hg0 a (by omega)
        obtain ⟨m', g1, g2⟩ := ih (a + 1) m hs (by
          show msetL 3 (flatw g Q a ++ (Q a).take (g a)) m0' = _
          rw [hga, List.take_zero, List.append_nil]
          exact hm) (by omega) (by omega)
        refine ⟨m', g1, ?_⟩
        rw [lp_M_resolve_103_s, if_pos (vin_nI ha (by omega)), nI_clamp (by omega), hs 12 0 a (by decide), h12 a ha, hga, if_pos (show nI 0 ≤ 0 by decide), nI_1]
        have e : sumw g (a + 1) = sumw g a := by
          show sumw g a + g a = _
          rw [hga, Nat.add_zero]
        rw [e] at g2
        exact g2
    · have : a = 4 := by omega
      subst this
      rw [if_pos (lit_le 4 (L := 4) rfl (Nat.le_refl _) (by omega))]
      exact ⟨m, hm, rfl⟩
theorem flat_4 {n : Nat} {g : Nat → Nat} (Q : Nat → List Nat) (h : ∀ a, n ≤ a → g a = 0) : ∀ d, flatw g Q (n + d) = flatw g Q n ∧ sumw g (n + d) = sumw g n
  | 0 => ⟨rfl, rfl⟩
  | d + 1 => by
    obtain ⟨h1, h2⟩ := flat_4 Q h d
    refine ⟨?_, ?_⟩
    · show flatw g Q (n + d) ++ (Q (n + d)).take (g (n + d)) = _
      rw [h (n + d) (by omega), List.take_zero, List.append_nil, h1]
    · show sumw g (n + d) + g (n + d) = _
      rw [h (n + d) (by omega), h2, Nat.add_zero]
theorem po_resolve : PO_resolve Rel := by
  intro c n x m hc h
  obtain ⟨Q, S, hC, hst, hS⟩ := id h
  obtain ⟨hR, hW, hB, hA⟩ := id hC
  obtain ⟨hX, hr, hq, hlo⟩ := id hR
  have hn := hX.1.2
  obtain ⟨g0, x4, s2, s3, s4, s5, s6⟩ := X_greatest hX hA hB (by omega) hW
  have hgg : ∀ a, a < n → below g0 n a = g0 a := fun a ha => if_pos ha
  have hg0 : ∀ a, n ≤ a → below g0 n a = 0 := fun a ha => if_neg (by omega)
  have hgl : ∀ a, a < n → below g0 n a ≤ (Q a).length := fun a ha => by rw [hgg a ha]; exact s4.1 a ha
  have hg6 : ∀ a, a < 4 → below g0 n a ≤ 6 := fun a ha => by
    by_cases e : a < n
    · exact Nat.le_trans (hgl a e) (hX.2.2.2.2.2.1 a e).1
    · rw [hg0 a (by omega)]; omega
  obtain ⟨m1, p1, p2, p3⟩ := M_lineUp hX hr hq
  obtain ⟨m2, k1, k2, k3⟩ := res_6 (fun σ4 => lp_M_resolve_26 0 (fun σ14 => lp_M_resolve_96 0 (fun σ21 y1_20 => (f_M_sweep 0 σ21).bind fun o22 => some (y1_20, o22.2)) 3000 σ14 0 0) 3000 σ4 0) 3000 0 m1 (by omega) (by omega) (fun j hj => absurd hj (Nat.not_lt_zero _))
  obtain ⟨m3, b, u1, u2, u3, u4, u5⟩ := res_26 (g := below g0 n) hX (p1.toMR hr) hlo p2 hg6 (fun u hu hgd j hj => by
    by_cases e : j < n
    · rw [hgg j e]
      exact s5 (dg u) ⟨hgd.1, hgd.2.2⟩ j e
    · rw [hgd.2.1 j (by omega) hj]
      exact Nat.zero_le _) (fun σ14 => lp_M_resolve_96 0 (fun σ21 y1_20 => (f_M_sweep 0 σ21).bind fun o22 => some (y1_20, o22.2)) 3000 σ14 0 0) 3000 0 m2 (fun _ => 0) k1 k2 (fun _ _ => Nat.zero_le _) (fun u hu => absurd hu (Nat.not_lt_zero _)) (by omega) (by omega)
  obtain ⟨e, he, hed⟩ := enc_dg hg6
  have hge : GdD n x Q e := ⟨fun j hj => by rw [hed j (by omega)]; exact hgl j hj, fun j hj hj2 => by rw [hed j hj2]; exact hg0 j hj, fun a ha => (xBW_w (w' := g0) (fun j hj => by rw [hed j (by omega), hgg j hj]) ha).mpr (s4.2 a ha)⟩
  have h12 : ∀ j, j < 4 → sI m3 12 0 j = nI (below g0 n j) := fun j hj => by
    have h1 := u4 e he hge j hj
    rw [hed j hj] at h1
    have h2 := u3 j hj
    rw [u2 j hj, show b j = below g0 n j by omega]
  have hM : M2 m m3 := p1.tr u1.1
  have hR4 : R0 n x4 m3 Q := (hR.m2 hM).s2 s2
  obtain ⟨x5, m5, Q5, f1, f2, f3, f4⟩ := X_settleChosen hR4 (v := 3) (by decide) (g := below g0 n) (fun a ha => ⟨by rw [hgg a ha]; exact s3 a ha, hgl a ha⟩)
  obtain ⟨m6, v1, v2⟩ := res_96 hX (hM.toMR hr) (u1.toLU p2) hgl hg0 h12 (fun σ21 y1_20 => (f_M_sweep 0 σ21).bind fun o22 => some (y1_20, o22.2)) 3000 0 m3 (fun _ _ _ _ => rfl) rfl (by omega) (by omega)
  obtain ⟨w1, w2⟩ := flat_4 Q hg0 (4 - n)
  rw [show n + (4 - n) = 4 by omega] at w1 w2
  rw [w1, f2] at v1
  cases v1
  rw [w2] at v2
  have hA4 : AM x4 := by
    unfold AM at *
    simp only [s2.eL, s2.eN]
    exact hA
  have hB4 : BD n (700 * c) x4 := by
    unfold BD at *
    simp only [s2.eL]
    exact hB
  obtain ⟨i1, i2, i3⟩ := JJ_inv hR4.1 hA4 hB4 (by omega) (fun a ha => (s2.toBW Q _ a).mpr ((xBW_w (w' := g0) (fun j hj => by unfold below; rw [if_pos hj, if_pos hj]) ha).mpr (s4.2 a ha))) f3
  have hNe : sN x5 = sN x := f3.2.2.2.2.1.trans s2.eN
  obtain ⟨x', m', t1, t2, Q', t3, t4⟩ := sweep_core (B := 700 * c + 24) (S := S) (by omega) ⟨f3.1, i1, i2, i3⟩ ⟨by rw [f4 3 0 0 (by decide), hM.1 3 0 0 (by decide) (by decide) (by decide)]; exact hst.1, fun k hk => by
    rw [hNe] at hk
    rw [f4 8 0 k (by decide), hM.1 8 0 k (by decide) (by decide) (by decide)]
    exact hst.2 k hk⟩
  refine ⟨nI (sumw (below g0 n) n), x', m', ?_, ?_, Q', S, ⟨t3.1, t3.2.1, t3.2.2.1.up (by omega), t3.2.2.2⟩, t4, by omega⟩
  · unfold f_X_resolve
    rw [s6, Option.bind_some, f1, Option.bind_some, t1, Option.bind_some]
  · unfold f_M_resolve
    rw [p3, Option.bind_some]
    refine Eq.trans k3 ?_
    refine Eq.trans u5 ?_
    refine Eq.trans v2 ?_
    show (f_M_sweep 0 m5).bind _ = _
    rw [t2, Option.bind_some]
/-! The start. -/
theorem init_a (K : St → Option (Unit × St)) : ∀ (fu i : Nat) (m : St), i ≤ 4 → 4 < fu + i → (∀ j, j < i → sL m 3 0 j = -1) → ∃ m', m'.1 = m.1 ∧ (∀ c i j, c ≠ 3 → sL m' c i j = sL m c i j) ∧ (∀ j, j < 4 → sL m' 3 0 j = -1) ∧ lp_M_init_159 0 K fu m (nI i) = K m' := by
  intro fu
  induction fu with
  | zero => intro i m h1 h2; omega
  | succ fu ih =>
    intro i m h1 h2 h3
    rw [lp_M_init_159_s]
    by_cases hi : i < 4
    · rw [if_neg (lit_nle 4 (L := 4) rfl hi (by omega)), if_pos (vin_nI hi (by omega)), Option.bind_some, nI_clamp (by omega), nI_1]
      obtain ⟨m', g1, g2, g3, g4⟩ := ih (i + 1) (wL m 3 0 i (-1)) (by omega) (by omega) (fun j hj => by
        rw [sL_wL]
        by_cases e : j = i
        · rw [if_pos ⟨rfl, rfl, e⟩]
        · rw [if_neg (fun q => e q.2.2)]; exact h3 j (by omega))
      exact ⟨m', g1, fun c i' j hc => by rw [g2 c i' j hc, sL_wL, if_neg (fun q => hc q.1)], g3, g4⟩
    · have : i = 4 := by omega
      subst this
      rw [if_pos (lit_le 4 (L := 4) rfl (Nat.le_refl _) (by omega))]
      exact ⟨m, rfl, fun _ _ _ _ => rfl, h3, rfl⟩
theorem init_b (K : St → Option (Unit × St)) : ∀ (fu i : Nat) (m : St), i ≤ 16 → 16 < fu + i → (∀ j, j < i → sL m 4 0 j = -1) → ∃ m', m'.1 = m.1 ∧ (∀ c i j, c ≠ 4 → sL m' c i j = sL m c i j) ∧ (∀ j, j < 16 → sL m' 4 0 j = -1) ∧ lp_M_init_181 0 K fu m (nI i) = K m' := by
  intro fu
  induction fu with
  | zero => intro i m h1 h2; omega
  | succ fu ih =>
    intro i m h1 h2 h3
    rw [lp_M_init_181_s]
    by_cases hi : i < 16
    · rw [if_neg (lit_nle 16 (L := 16) rfl hi (by omega)), if_pos (vin_nI hi (by omega)), Option.bind_some, nI_clamp (by omega), nI_1]
      obtain ⟨m', g1, g2, g3, g4⟩ := ih (i + 1) (wL m 4 0 i (-1)) (by omega) (by omega) (fun j hj => by
        rw [sL_wL]
        by_cases e : j = i
        · rw [if_pos ⟨rfl, rfl, e⟩]
        · rw [if_neg (fun q => e q.2.2)]; exact h3 j (by omega))
      exact ⟨m', g1, fun c i' j hc => by rw [g2 c i' j hc, sL_wL, if_neg (fun q => hc q.1)], g3, g4⟩
    · have : i = 16 := by omega
      subst this
      rw [if_pos (lit_le 16 (L := 16) rfl (Nat.le_refl _) (by omega))]
      exact ⟨m, rfl, fun _ _ _ _ => rfl, h3, rfl⟩
theorem init_n {n : Nat} (h2 : 2 ≤ n) (h4 : n ≤ 4) : ∃ m, lp_M_init_159 0 (fun σ4 => lp_M_init_181 0 (fun σ7 => some ((), σ7)) 1000 σ4 0) 1000 (wI m0 0 0 0 (nI n)) 0 = some ((), m) ∧ Rel 0 n x0 m := by
  obtain ⟨m1, a1, a2, a3, a4⟩ := init_a (fun σ4 => lp_M_init_181 0 (fun σ7 => some ((), σ7)) 1000 σ4 0) 1000 0 (wI m0 0 0 0 (nI n)) (by omega) (by omega) (fun j hj => absurd hj (Nat.not_lt_zero _))
  obtain ⟨m2, b1, b2, b3, b4⟩ := init_b (fun σ7 => some ((), σ7)) 1000 0 m1 (by omega) (by omega) (fun j hj => absurd hj (Nat.not_lt_zero _))
  have hI : ∀ c i j, sI m2 c i j = sI (wI m0 0 0 0 (nI n)) c i j := fun c i j => by
    show m2.1 c i j = _
    rw [b1, a1]
    rfl
  have hL : ∀ c i j, c ≠ 3 → c ≠ 4 → sL m2 c i j = 0 := fun c i j h1 h2 => by
    rw [b2 c i j h2, a2 c i j h1]
    rfl
  refine ⟨m2, a4.trans b4, fun _ => [], 0, ⟨⟨?_, ?_, ?_, ?_⟩, ?_, ?_, ?_⟩, ⟨hI 3 0 0, fun k hk => absurd hk (Nat.not_lt_zero _)⟩, Nat.le_refl _⟩
  · refine ⟨⟨h2, h4⟩, Nat.zero_le _, rfl, fun k hk => absurd hk (Nat.not_lt_zero _), fun k hk => absurd hk (Nat.not_lt_zero _), fun a ha => ⟨Nat.zero_le _, rfl, fun i hi => absurd hi (Nat.not_lt_zero _)⟩, fun a ha k hk => absurd hk (by simp), fun c i j k e => ?_⟩
    exact absurd (show (none : Option Nat) = some k from e) (by simp)
  · refine ⟨hI 0 0 0, hI 1 0 0, hL 0 0 0 (by decide) (by decide), hI 2 0 0, fun a ha => ⟨hL 1 0 a (by decide) (by decide), hL 2 0 a (by decide) (by decide), ?_, fun b hb => ⟨b3 _ (by omega), hL 5 _ _ (by decide) (by decide)⟩⟩, fun k hk => absurd hk (Nat.not_lt_zero _)⟩
    rw [b2 3 0 a (by decide)]
    exact a3 a (by omega)
  · exact fun a ha => ⟨fun k hk => absurd hk (Nat.not_lt_zero _), List.Pairwise.nil⟩
  · exact ⟨fun a b _ _ => Or.inl rfl, fun a _ => Or.inl rfl⟩
  · exact fun a ha => ⟨fun b hb => Or.inr rfl, (by decide : ¬ (0 : Int64) < -0), Or.inr rfl⟩
  · intro a ha
    refine ⟨?_, fun b hb => ?_⟩
    · show -(1000000000000 * ((700 * 0 : Nat) : Int)) ≤ (0 : Int64).toInt ∧ (0 : Int64).toInt ≤ 1000000000000 * ((700 * 0 : Nat) : Int)
      decide
    · show 0 ≤ (0 : Int64).toInt ∧ (0 : Int64).toInt ≤ 1000000000000 * ((700 * 0 : Nat) : Int)
      decide
  · exact fun k hk => absurd hk (Nat.not_lt_zero _)
theorem po_init : PO_init Rel := by
  intro x
  obtain ⟨hn1, hn2, hn4⟩ := nb_ok x
  obtain ⟨m, h1, h2⟩ := init_n hn2 hn4
  refine ⟨m, ?_, h2⟩
  unfold f_M_initr
  by_cases g1 : 2 ≤ x
  · by_cases g2 : x ≤ 4
    · have e : nI (nb x) = x := by
        rw [← hn1]
        simp only [Int32.lt_iff_toInt_lt, Int32.le_iff_toInt_le, ← Int32.toInt_inj] at *
        have e4 : (4 : Int32).toInt = 4 := by decide
        have e2 : (2 : Int32).toInt = 2 := by decide
        split <;> split <;> omega
      rw [if_pos g1, if_pos g2, Option.bind_some]
      rw [e] at h1
      exact h1
    · have e : nI (nb x) = 4 := by
        rw [← hn1]
        simp only [Int32.lt_iff_toInt_lt, Int32.le_iff_toInt_le, ← Int32.toInt_inj] at *
        have e4 : (4 : Int32).toInt = 4 := by decide
        have e2 : (2 : Int32).toInt = 2 := by decide
        split <;> split <;> omega
      rw [if_pos g1, if_neg g2, Option.bind_some]
      rw [e] at h1
      exact h1
  · have e : nI (nb x) = 2 := by
      rw [← hn1]
      simp only [Int32.lt_iff_toInt_lt, Int32.le_iff_toInt_le, ← Int32.toInt_inj] at *
      have e4 : (4 : Int32).toInt = 4 := by decide
      have e2 : (2 : Int32).toInt = 2 := by decide
      split <;> split <;> omega
    rw [if_neg g1, Option.bind_some]
    rw [e] at h1
    exact h1
theorem pure_ok : PureOK Rel := ⟨po_init, po_mono, po_fund, po_credit, po_limit, po_totalLimit, po_pay, po_cancel, po_urge, po_resolve, po_tick, po_close, po_balance, po_position, po_waiting, po_queued, po_state, po_turnover, po_now⟩
