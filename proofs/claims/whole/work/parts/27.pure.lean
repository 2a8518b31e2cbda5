/-! lineUp, now0, plan, allWell of the reference. -/
theorem flt_more : ∀ {L : List Nat} {k : Nat}, L.Nodup → k ∈ L → (L.filter (fun y => decide (y < k + 1))).length = (L.filter (fun y => decide (y < k))).length + 1
  | [], k, _, h => absurd h List.not_mem_nil
  | y :: L, k, hd, h => by
    have hy := (List.nodup_cons.mp hd).1
    have hd2 := (List.nodup_cons.mp hd).2
    by_cases e : y = k
    · subst e
      have e2 : L.filter (fun z => decide (z < y + 1)) = L.filter (fun z => decide (z < y)) := by
        apply List.filter_congr
        intro z hz
        have : z ≠ y := fun e => hy (by rw [← e]; exact hz)
        by_cases h1 : z < y
        · rw [decide_eq_true h1, decide_eq_true (show z < y + 1 by omega)]
        · rw [decide_eq_false h1, decide_eq_false (show ¬ z < y + 1 by omega)]
      rw [List.filter_cons_of_pos (by simp), List.filter_cons_of_neg (by simp), e2]
      rfl
    · have hk : k ∈ L := (List.mem_cons.mp h).resolve_left (fun e2 => e e2.symm)
      by_cases h1 : y < k
      · rw [List.filter_cons_of_pos (by simp; omega), List.filter_cons_of_pos (by simp; omega), List.length_cons, List.length_cons, flt_more hd2 hk]
      · rw [List.filter_cons_of_neg (by simp; omega), List.filter_cons_of_neg (by simp; omega), flt_more hd2 hk]
theorem flt_same {L : List Nat} {k : Nat} (h : k ∉ L) : L.filter (fun y => decide (y < k + 1)) = L.filter (fun y => decide (y < k)) := by
  apply List.filter_congr
  intro z hz
  have : z ≠ k := fun e => h (by rw [← e]; exact hz)
  by_cases h1 : z < k
  · rw [decide_eq_true h1, decide_eq_true (show z < k + 1 by omega)]
  · rw [decide_eq_false h1, decide_eq_false (show ¬ z < k + 1 by omega)]
theorem lit_nle (c : Nat) {i : Nat} {L : Int32} (hL : L = nI c) (h : i < c) (hc : c < 2 ^ 31) : ¬ L ≤ nI i := by rw [hL]; exact nI_ge h hc
theorem lit_le (c : Nat) {i : Nat} {L : Int32} (hL : L = nI c) (h : c ≤ i) (hi : i < 2 ^ 31) : L ≤ nI i := by rw [hL]; exact nI_le h hi
theorem lineUp_0 (K : St → Option (Unit × St)) : ∀ (fu i : Nat) (m : St), i ≤ 4 → 4 < fu + i → (∀ j, j < i → sI m 11 0 j = 0) → ∃ m', M2 m m' ∧ (∀ j, j < 4 → sI m' 11 0 j = 0) ∧ lp_M_lineUp_2 0 K fu m (nI i) = K m' := by
  intro fu
  induction fu with
  | zero => intro i m h1 h2; omega
  | succ fu ih =>
    intro i m h1 h2 h3
    rw [lp_M_lineUp_2_s]
    by_cases hi : i < 4
    · rw [if_neg (lit_nle 4 (L := 4) rfl hi (by omega)), if_pos (vin_nI hi (by omega)), Option.bind_some, nI_clamp (by omega), nI_1]
      obtain ⟨m', g1, g2, g3⟩ := ih (i + 1) (wI m 11 0 i 0) (by omega) (by omega) (fun j hj => by
        rw [sI_wI]
        by_cases e : j = i
        · rw [if_pos ⟨rfl, rfl, e⟩]
        · rw [if_neg (fun q => e q.2.2)]; exact h3 j (by omega))
      refine ⟨m', ?_, g2, g3⟩
      have hM : M2 m (wI m 11 0 i 0) := ⟨fun c i' j a b d => by rw [sI_wI, if_neg (fun q => b q.1)], fun c i' j a b => rfl⟩
      exact hM.tr g1
    · have : i = 4 := by omega
      subst this
      rw [if_pos (lit_le 4 (L := 4) rfl (Nat.le_refl _) (by omega))]
      exact ⟨m, M2.rf, h3, rfl⟩
/-- the queues are written down -/
def LU (n : Nat) (Q : Nat → List Nat) (m : St) : Prop := (∀ a, a < n → sI m 11 0 a = nI (Q a).length ∧ ∀ (i : Nat) (h : i < (Q a).length), sI m 10 0 (6 * a + i) = nI (Q a)[i]) ∧ ∀ a, n ≤ a → a < 4 → sI m 11 0 a = 0
theorem lineUp_1 {n : Nat} {x : St} {Q : Nat → List Nat} (h : XQ n x Q) (K : St → Option (Unit × St)) : ∀ (fu k : Nat) (m : St), MR n x m → QO n x m Q → k ≤ sN x → sN x < fu + k → (∀ a, a < n → sI m 11 0 a = nI ((Q a).filter (fun y => decide (y < k))).length ∧ ∀ (i : Nat) (hi : i < (Q a).length), (Q a)[i] < k → sI m 10 0 (6 * a + i) = nI (Q a)[i]) → (∀ a, n ≤ a → a < 4 → sI m 11 0 a = 0) → ∃ m', M2 m m' ∧ LU n Q m' ∧ lp_M_lineUp_22 0 K fu m (nI k) = K m' := by
  have hn := h.1.2
  have hN := h.2.1
  intro fu
  induction fu with
  | zero => intro k m _ _ h1 h2; omega
  | succ fu ih =>
    intro k m hr hq h1 h2 h3 h4
    rw [lp_M_lineUp_22_s, hr.2.2.2.1]
    by_cases hk : k < sN x
    · obtain ⟨r1, r2, r3, r4, r5, r6⟩ := hr.2.2.2.2.2 k hk
      have vk := vin_nI (show k < 100 by omega) (show 100 < 2 ^ 31 by omega)
      rw [if_neg (nI_ge hk (by omega)), if_pos vk]
      simp only [nI_clamp (show k < 2 ^ 31 by omega)]
      by_cases h0 : sI m 9 0 k = 0
      · rw [if_pos h0]
        obtain ⟨a, b, ha, hb, hab, e5, e6⟩ := h.2.2.2.2.1 k hk
        have hkm : k ∈ Q a := (hq a ha).1 k hk (by rw [← r6]; exact h0) e5
        obtain ⟨i, hi, hik⟩ := List.getElem_of_mem hkm
        have hl6 := (h.2.2.2.2.2.1 a ha).1
        have hnd := bef_nodup (hq a ha).2
        have e4 : sI m 4 0 k = nI a := r1.trans e5
        have hM : M2 m (wI (wI m 10 0 (6 * a + i) (nI k)) 11 0 a (sI m 11 0 a + 1)) := ⟨fun c i' j a' b' d' => by rw [sI_wI, if_neg (fun q => b' q.1), sI_wI, if_neg (fun q => a' q.1)], fun _ _ _ _ _ => rfl⟩
        obtain ⟨m', g1, g2, g3⟩ := ih (k + 1) _ (hM.toMR hr) (hM.toQO hq) (by omega) (by omega) (fun a' ha' => ⟨by
          rw [sI_wI]
          by_cases e : a' = a
          · subst e
            rw [if_pos ⟨rfl, rfl, rfl⟩, (h3 a' ha').1, nI_1, flt_more hnd hkm]
          · rw [if_neg (fun q => e q.2.2), sI_wI, if_neg (fun q => by omega), (h3 a' ha').1, flt_same (fun hm => e (h.own ha' ha hm hkm))], fun i' hi' hlt => by
          have hl6' := (h.2.2.2.2.2.1 a' ha').1
          rw [sI_wI, if_neg (fun q => by omega), sI_wI]
          by_cases e : a' = a ∧ i' = i
          · obtain ⟨rfl, rfl⟩ := e
            rw [if_pos ⟨rfl, rfl, rfl⟩, hik]
          · rw [if_neg (fun q => e (by omega))]
            refine (h3 a' ha').2 i' hi' ?_
            have hne : (Q a')[i'] ≠ k := by
              intro e2
              have e3 : a' = a := h.own ha' ha (by rw [← e2]; exact List.getElem_mem hi') hkm
              subst e3
              refine e ⟨rfl, ?_⟩
              exact (List.getElem_inj hnd).mp (e2.trans hik.symm)
            omega⟩) (fun a' g1 g2 => by
          rw [sI_wI, if_neg (fun q => by omega), sI_wI, if_neg (fun q => by omega)]
          exact h4 a' g1 g2)
        refine ⟨m', hM.tr g1, g2, ?_⟩
        have hpl := M_place h hr hq ha hi (fun σ10 y2_9 =>
          if vin (nI k) 100 then
          if vin ((6 * (sI σ10 4 0 k)) + y2_9) 24 then
          (some (wI σ10 10 0 (Int32.toNatClampNeg ((6 * (sI σ10 4 0 k)) + y2_9)) (nI k))).bind fun σ13 =>
          if vin (nI k) 100 then
          if vin (nI k) 100 then
          if vin (sI σ13 4 0 k) 4 then
          if vin (sI σ13 4 0 k) 4 then
          (some (wI σ13 11 0 (Int32.toNatClampNeg (sI σ13 4 0 k)) ((sI σ13 11 0 (Int32.toNatClampNeg (sI σ13 4 0 k))) + 1))).bind fun σ18 =>
          lp_M_lineUp_22 0 K fu σ18 (nI k + 1)
          else none
          else none
          else none
          else none
          else none
          else none)
        rw [hik] at hpl
        refine Eq.trans hpl ?_
        have e6i : (6 * nI a + nI i : Int32) = nI (6 * a + i) := by rw [show (6 : Int32) = nI 6 from rfl, pk_mul, nI_add]
        have e13 : sI (wI m 10 0 (6 * a + i) (nI k)) 4 0 k = nI a := by rw [sI_wI, if_neg (fun q => by omega)]; exact e4
        have e11 : sI (wI m 10 0 (6 * a + i) (nI k)) 11 0 a = sI m 11 0 a := by rw [sI_wI, if_neg (fun q => by omega)]
        simp only [e4, e6i, nI_clamp (show 6 * a + i < 2 ^ 31 by omega), Option.bind_some, e13, nI_clamp (show a < 2 ^ 31 by omega), e11]
        rw [if_pos vk, if_pos (vin_nI (show 6 * a + i < 24 by omega) (by omega)), if_pos vk, if_pos vk, if_pos (vin_nI (show a < 4 by omega) (by omega)), if_pos (vin_nI (show a < 4 by omega) (by omega)), nI_1]
        exact g3
      · rw [if_neg h0, nI_1]
        have hnot : ∀ a, a < n → k ∉ Q a := fun a ha hm => h0 (by rw [r6]; exact (h.2.2.2.2.2.2.1 a ha k hm).2.2)
        refine ih (k + 1) m hr hq (by omega) (by omega) (fun a ha => ⟨?_, fun i hi g => ?_⟩) h4
        · rw [flt_same (hnot a ha)]; exact (h3 a ha).1
        · exact (h3 a ha).2 i hi (by have : (Q a)[i] ≠ k := fun e => hnot a ha (by rw [← e]; exact List.getElem_mem hi); omega)
    · have : k = sN x := by omega
      subst this
      rw [if_pos (nI_le (Nat.le_refl _) (by omega))]
      refine ⟨m, M2.rf, ⟨fun a ha => ⟨?_, fun i hi => (h3 a ha).2 i hi (h.2.2.2.2.2.2.1 a ha _ (List.getElem_mem hi)).1⟩, h4⟩, rfl⟩
      rw [(h3 a ha).1, List.filter_eq_self.mpr (fun y hy => decide_eq_true (h.2.2.2.2.2.2.1 a ha y hy).1)]
theorem M_lineUp {n : Nat} {x m : St} {Q : Nat → List Nat} (h : XQ n x Q) (hr : MR n x m) (hq : QO n x m Q) : ∃ m', M2 m m' ∧ LU n Q m' ∧ f_M_lineUp 0 m = some ((), m') := by
  have hn := h.1.2
  have hN := h.2.1
  unfold f_M_lineUp
  obtain ⟨m1, g1, g2, g3⟩ := lineUp_0 (fun σ3 => lp_M_lineUp_22 0 (fun σ19 => some ((), σ19)) 1000 σ3 0) 1000 0 m (by omega) (by omega) (fun j hj => absurd hj (Nat.not_lt_zero _))
  obtain ⟨m2, k1, k2, k3⟩ := lineUp_1 h (fun σ19 => some ((), σ19)) 1000 0 m1 (g1.toMR hr) (g1.toQO hq) (by omega) (by omega) (fun a ha => ⟨by rw [g2 a (by omega), List.filter_eq_nil_iff.mpr (fun y hy => by simp)]; rfl, fun i hi hlt => absurd hlt (Nat.not_lt_zero _)⟩) (fun a h1 h2 => g2 a h2)
  exact ⟨m2, g1.tr k1, k2, g3.trans k3⟩
