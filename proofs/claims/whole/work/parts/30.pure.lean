/-! Settling on both sides. -/
def MST (p q k : Nat) (s : Int64) (v : Int32) (m m' : St) : Prop := (∀ c i j, ¬ (c = 9 ∧ i = 0 ∧ j = k) → sI m' c i j = sI m c i j) ∧ sI m' 9 0 k = v ∧ (∀ i, sL m' 1 0 i = if i = p then sL m 1 0 p - s else if i = q then sL m 1 0 q + s else sL m 1 0 i) ∧ (∀ j, sL m' 5 0 j = if j = 4 * p + q then sL m 5 0 (4 * p + q) + s else sL m 5 0 j) ∧ sL m' 0 0 0 = sL m 0 0 0 + s ∧ ∀ c i j, c ≠ 0 → c ≠ 1 → c ≠ 5 → sL m' c i j = sL m c i j
theorem M_settle {m : St} {k p q : Nat} (hk : k < 100) (hp : p < 4) (hq : q < 4) (hpq : p ≠ q) (e4 : sI m 4 0 k = nI p) (e5 : sI m 5 0 k = nI q) (v : Int32) : ∃ m', f_M_settle 0 m (nI k) v = some ((), m') ∧ MST p q k (sL m 6 0 k) v m m' := by
  have vk := vin_nI hk (show 100 < 2 ^ 31 by omega)
  have vp := vin_nI hp (show 4 < 2 ^ 31 by omega)
  have vq := vin_nI hq (show 4 < 2 ^ 31 by omega)
  have vs := vin_nI (show 4 * p + q < 16 by omega) (show 16 < 2 ^ 31 by omega)
  refine ⟨wI (wL (wL (wL (wL m 1 0 p (sL m 1 0 p - sL m 6 0 k)) 1 0 q (sL m 1 0 q + sL m 6 0 k)) 5 0 (4 * p + q) (sL m 5 0 (4 * p + q) + sL m 6 0 k)) 0 0 0 (sL m 0 0 0 + sL m 6 0 k)) 9 0 k v, ?_, fun c i j hc => ?_, ?_, fun i => ?_, fun j => ?_, ?_, fun c i j h0 h1 h5 => ?_⟩
  · unfold f_M_settle
    simp only [Option.bind_some, sI_wL, nI_clamp (show k < 2 ^ 31 by omega), e4, e5, nI_clamp (show p < 2 ^ 31 by omega), nI_clamp (show q < 2 ^ 31 by omega), i4, nI_clamp (show 4 * p + q < 2 ^ 31 by omega), if_pos vk, if_pos vp, if_pos vq, if_pos vs]
    simp [sL_wL, hpq, Ne.symm hpq]
  · rw [sI_wI, if_neg (fun g => hc ⟨g.1, g.2.1, g.2.2⟩)]
    rfl
  · rw [sI_wI, if_pos ⟨rfl, rfl, rfl⟩]
  · simp only [sL_wI, sL_wL]
    by_cases h1 : i = p
    · subst h1; simp [hpq]
    · by_cases h2 : i = q
      · subst h2; simp [h1]
      · simp [h1, h2]
  · simp only [sL_wI, sL_wL]
    by_cases h1 : j = 4 * p + q
    · subst h1; simp
    · simp [h1]
  · simp only [sL_wI, sL_wL]
    simp
  · simp only [sL_wI, sL_wL]
    simp [h0, h1, h5]
def R0 (n : Nat) (x m : St) (Q : Nat → List Nat) : Prop := XQ n x Q ∧ MR n x m ∧ QO n x m Q ∧ LOK n x
theorem flt_head {k : Nat} {q : List Nat} (h : (k :: q).Nodup) : (k :: q).filter (· != k) = q := by
  have hk := (List.nodup_cons.mp h).1
  rw [List.filter_cons_of_neg (by simp)]
  exact List.filter_eq_self.mpr (fun y hy => by simp; exact fun e => hk (by rw [← e]; exact hy))
/-- payments of bank a leave: what stays in order -/
theorem settle_both {n : Nat} {x m : St} {Q : Nat → List Nat} (h : R0 n x m Q) {a k : Nat} {q : List Nat} (ha : a < n) (hk : Q a = k :: q) {v : Int32} (hv : v ≠ 0) : ∃ b x' m', b < n ∧ a ≠ b ∧ sI x 6 k 0 = nI b ∧ f_X_settle n x k v = some ((), x') ∧ f_M_settle 0 m (nI k) v = some ((), m') ∧ ST a b k (sL x 6 k 0) v x x' ∧ MST a b k (sL x 6 k 0) v m m' ∧ R0 n x' m' (qup Q a q) := by
  obtain ⟨hx, hr, hq, hl⟩ := h
  have hn := hx.1.2
  have hN := hx.2.1
  have hkm : k ∈ Q a := by rw [hk]; exact List.mem_cons_self
  obtain ⟨g1, g2, g3⟩ := hx.2.2.2.2.2.2.1 a ha k hkm
  obtain ⟨a', b, ha', hb, hab, e5, e6⟩ := hx.2.2.2.2.1 k g1
  have haa : a' = a := nI_inj (by omega) (by omega) (e5.symm.trans g2)
  subst haa
  obtain ⟨r1, r2, r3, r4, r5, r6⟩ := hr.2.2.2.2.2 k g1
  have hnd := bef_nodup (hq a' ha).2
  obtain ⟨x', f1, f2, f3⟩ := X_settle hx ha hb hab hkm e6 v
  obtain ⟨m', k1, k2⟩ := M_settle (m := m) (k := k) (by omega) (show a' < 4 by omega) (show b < 4 by omega) hab (r1.trans e5) (r2.trans e6) v
  rw [r3] at k2
  have hfl : (Q a').filter (· != k) = q := by rw [hk]; rw [hk] at hnd; exact flt_head hnd
  rw [hfl] at f3
  refine ⟨b, x', m', hb, hab, e6, f1, k1, f2, k2, f3, ?_, ?_, ?_⟩
  · obtain ⟨s1, s2, s3, s4, s5, s6, s7⟩ := f2
    obtain ⟨t1, t2, t3, t4, t5, t6⟩ := k2
    refine ⟨by rw [t1 0 0 0 (by omega)]; exact hr.1, by rw [t1 1 0 0 (by omega), s1 1 0 0 (by omega) (by omega)]; exact hr.2.1, by rw [t5, s6, hr.2.2.1], by rw [t1 2 0 0 (by omega), s3]; exact hr.2.2.2.1, fun c hc => ?_, fun j hj => ?_⟩
    · obtain ⟨u1, u2, u3, u4⟩ := hr.2.2.2.2.1 c hc
      refine ⟨?_, by rw [t6 2 0 c (by decide) (by decide) (by decide), s7 2 c 0 (by decide) (by decide) (by decide)]; exact u2, by rw [t6 3 0 c (by decide) (by decide) (by decide), s7 3 c 0 (by decide) (by decide) (by decide)]; exact u3, fun d hd => ⟨by rw [t6 4 0 _ (by decide) (by decide) (by decide), s7 4 c d (by decide) (by decide) (by decide)]; exact (u4 d hd).1, ?_⟩⟩
      · rw [t3, s4, u1, (hr.2.2.2.2.1 a' ha).1, (hr.2.2.2.2.1 b hb).1]
      · rw [t4, s5, (u4 d hd).2, ((hr.2.2.2.2.1 a' ha).2.2.2 b hb).2]
        by_cases hcd : c = a' ∧ d = b
        · rw [if_pos hcd, if_pos (by rw [hcd.1, hcd.2])]
        · rw [if_neg hcd, if_neg (fun e => hcd (by omega))]
    · rw [s3] at hj
      obtain ⟨u1, u2, u3, u4, u5, u6⟩ := hr.2.2.2.2.2 j hj
      refine ⟨by rw [t1 4 0 j (by omega), s1 5 j 0 (by omega) (by omega)]; exact u1, by rw [t1 5 0 j (by omega), s1 6 j 0 (by omega) (by omega)]; exact u2, by rw [t6 6 0 j (by decide) (by decide) (by decide), s7 6 j 0 (by decide) (by decide) (by decide)]; exact u3, by rw [t1 6 0 j (by omega), s1 8 j 0 (by omega) (by omega)]; exact u4, by rw [t1 7 0 j (by omega), s1 7 j 0 (by omega) (by omega)]; exact u5, ?_⟩
      by_cases hjk : j = k
      · subst hjk
        rw [t2, s2]
      · rw [t1 9 0 j (by omega), s1 9 j 0 (by omega) (by omega)]
        exact u6
  · have hbef : bef m' = bef m := by
      funext i j
      unfold bef
      rw [k2.1 6 0 i (by omega), k2.1 6 0 j (by omega), k2.1 8 0 i (by omega), k2.1 8 0 j (by omega)]
    intro c hc
    refine ⟨fun j hj h9 h5 => ?_, ?_⟩
    · rw [f2.2.2.1] at hj
      have hjk : j ≠ k := by
        intro e
        rw [e, f2.2.1] at h9
        exact hv h9
      rw [f2.1 9 j 0 (by omega) (by omega)] at h9
      rw [f2.1 5 j 0 (by omega) (by omega)] at h5
      have hm := (hq c hc).1 j hj h9 h5
      by_cases hca : c = a'
      · subst hca
        rw [qup_s]
        rw [hk] at hm
        exact (List.mem_cons.mp hm).resolve_left hjk
      · rw [qup_n _ _ hca]
        exact hm
    · rw [hbef]
      by_cases hca : c = a'
      · subst hca
        rw [qup_s]
        have := (hq c hc).2
        rw [hk] at this
        exact (List.pairwise_cons.mp this).2
      · rw [qup_n _ _ hca]
        exact (hq c hc).2
  · refine ⟨fun c d hc hd => ?_, fun c hc => ?_⟩
    · rw [f2.2.2.2.2.2.2 4 c d (by decide) (by decide) (by decide)]; exact hl.1 c d hc hd
    · rw [f2.2.2.2.2.2.2 3 c 0 (by decide) (by decide) (by decide)]; exact hl.2 c hc
/-- both sides, after the first w a payments of each queue of the start were settled -/
def JJ (n : Nat) (x0 : St) (Q0 : Nat → List Nat) (w : Nat → Nat) (x m : St) (Q : Nat → List Nat) : Prop := R0 n x m Q ∧ (∀ a, a < n → sL x 1 a 0 = xF n x0 Q0 w a) ∧ (∀ a b, a < n → b < n → sL x 5 a b = xS x0 Q0 w a b) ∧ (∀ a, a < n → Q a = (Q0 a).drop (w a)) ∧ sN x = sN x0 ∧ (∀ c i j, c ≠ 0 → c ≠ 1 → c ≠ 5 → sL x c i j = sL x0 c i j) ∧ ∀ c i j, c ≠ 3 → c ≠ 9 → sI x c i j = sI x0 c i j
theorem JJ_0 {n : Nat} {x m : St} {Q : Nat → List Nat} (h : R0 n x m Q) : JJ n x Q (fun _ => 0) x m Q := ⟨h, fun a _ => (xF_zero n x Q a).symm, fun a b _ _ => by
    show _ = addTo x b ((Q a).take 0) _
    rw [List.take_zero]
    rfl, fun a _ => rfl, rfl, fun _ _ _ _ _ _ => rfl, fun _ _ _ _ _ => rfl⟩
theorem JJ_step {n : Nat} {x0 x m : St} {Q0 Q : Nat → List Nat} {w : Nat → Nat} (h0 : XQ n x0 Q0) (h : JJ n x0 Q0 w x m Q) {a : Nat} (ha : a < n) (hw : w a < (Q0 a).length) {v : Int32} (hv : v ≠ 0) : ∃ x' m', f_X_settle n x (Q0 a)[w a] v = some ((), x') ∧ f_M_settle 0 m (nI (Q0 a)[w a]) v = some ((), m') ∧ JJ n x0 Q0 (upw w a) x' m' (qup Q a ((Q0 a).drop (w a + 1))) ∧ (∀ c i j, c ≠ 9 → sI m' c i j = sI m c i j) := by
  obtain ⟨hR, j1, j2, j3, j4, j5, j6⟩ := h
  have hk : Q a = (Q0 a)[w a] :: (Q0 a).drop (w a + 1) := by rw [j3 a ha, List.drop_eq_getElem_cons hw]
  obtain ⟨b, x', m', hb, hab, e6, f1, k1, s, t, hR'⟩ := settle_both hR ha hk hv
  have e6' : sI x0 6 (Q0 a)[w a] 0 = nI b := by rw [← j6 6 _ _ (by decide) (by decide)]; exact e6
  have em : sL x 6 (Q0 a)[w a] 0 = sL x0 6 (Q0 a)[w a] 0 := j5 6 _ _ (by decide) (by decide) (by decide)
  obtain ⟨s1, s2, s3, s4, s5, s6, s7⟩ := s
  refine ⟨x', m', f1, k1, ⟨hR', fun c hc => ?_, fun c d hc hd => ?_, fun c hc => ?_, s3.trans j4, fun c i j a1 a2 a3 => by rw [s7 c i j a1 a2 a3]; exact j5 c i j a1 a2 a3, fun c i j a1 a2 => by rw [s1 c i j (fun q => a1 q.1) (fun q => a2 q.1)]; exact j6 c i j a1 a2⟩, fun c i j hc => t.1 c i j (fun q => hc q.1)⟩
  · rw [s4, xF_step h0 ha hb hab hw e6' hc, em, j1 a ha, j1 b hb, j1 c hc]
  · rw [s5, xS_step h0 ha hb hw e6' hd, em, j2 a b ha hb, j2 c d hc hd]
  · by_cases hca : c = a
    · subst hca
      rw [qup_s]
      show _ = (Q0 c).drop (if c = c then _ else _)
      rw [if_pos rfl]
    · rw [qup_n _ _ hca, j3 c hc]
      show _ = (Q0 c).drop (if c = a then _ else _)
      rw [if_neg hca]
/-- the reference settles one after another -/
def msetL (v : Int32) : List Nat → St → Option St
  | [], m => some m
  | k :: ks, m => (f_M_settle 0 m (nI k) v).bind fun o => msetL v ks o.2
theorem msetL_app (v : Int32) : ∀ (l1 l2 : List Nat) (m : St), msetL v (l1 ++ l2) m = (msetL v l1 m).bind (msetL v l2)
  | [], l2, m => rfl
  | k :: l1, l2, m => by
    show (f_M_settle 0 m (nI k) v).bind (fun o => msetL v (l1 ++ l2) o.2) = ((f_M_settle 0 m (nI k) v).bind fun o => msetL v l1 o.2).bind (msetL v l2)
    cases f_M_settle 0 m (nI k) v with
    | none => rfl
    | some o => exact msetL_app v l1 l2 o.2
def addw (w : Nat → Nat) (a r : Nat) : Nat → Nat := fun j => if j = a then w a + r else w j
theorem upw_addw (w : Nat → Nat) (a r : Nat) : addw (upw w a) a r = addw w a (r + 1) := by
  funext j
  unfold addw upw
  by_cases h : j = a
  · simp [h]; omega
  · simp [h]
theorem X_chosen_in {n : Nat} {x0 : St} {Q0 : Nat → List Nat} (h0 : XQ n x0 Q0) {a : Nat} (ha : a < n) {v : Int32} (hv : v ≠ 0) (k : St → Int32 → Option (Int32 × St)) : ∀ (fu r i c : Nat) (w : Nat → Nat) (x m : St) (Q : Nat → List Nat), JJ n x0 Q0 w x m Q → r < fu → w a + r ≤ (Q0 a).length → sI x0 2 0 a = nI (i + r) → i + r < 1000 → ∃ x' m' Q', lp_X_settleChosen_16 n k fu x v (nI c) (nI a) (nI i) = k x' (nI (c + r)) ∧ msetL v (((Q0 a).drop (w a)).take r) m = some m' ∧ JJ n x0 Q0 (addw w a r) x' m' Q' ∧ (∀ c i j, c ≠ 9 → sI m' c i j = sI m c i j) := by
  have hn := h0.1.2
  have hl6 := (h0.2.2.2.2.2.1 a ha).1
  intro fu
  induction fu with
  | zero => intro r i c w x m Q _ h1; omega
  | succ fu ih =>
    intro r i c w x m Q hJ h1 h2 h3 h4
    rw [lp_X_settleChosen_16_s]
    have va := vin_nI ha (show n < 2 ^ 31 by omega)
    obtain ⟨hR, j1, j2, j3, j4, j5, j6⟩ := hJ
    have hc2 : sI x 2 0 a = nI (i + r) := by rw [j6 2 0 a (by decide) (by decide)]; exact h3
    simp only [nI_clamp (show a < 2 ^ 31 by omega), if_pos va, hc2]
    cases r with
    | zero =>
      rw [if_pos (nI_le (by omega) (by omega))]
      have e : addw w a 0 = w := by
        funext j
        unfold addw
        by_cases hj : j = a
        · subst hj; simp
        · simp [hj]
      exact ⟨x, m, Q, rfl, rfl, by rw [e]; exact ⟨hR, j1, j2, j3, j4, j5, j6⟩, fun _ _ _ _ => rfl⟩
    | succ r =>
      have hw : w a < (Q0 a).length := by omega
      have hQ : Q a = (Q0 a)[w a] :: (Q0 a).drop (w a + 1) := by rw [j3 a ha, List.drop_eq_getElem_cons hw]
      have hqa := hR.1.2.2.2.2.2.1 a ha
      have hlen : 0 < (Q a).length := by rw [hQ]; exact Nat.succ_pos _
      have hg : (Q a)[0] = (Q0 a)[w a] := by simp [hQ]
      rw [if_neg (nI_ge (by omega) (by omega)), hqa.2.1, if_neg (nI_nle hlen (by omega)), if_pos (by decide), show Int32.toNatClampNeg 0 = 0 from rfl, dR_q hR.1 ha hlen, Option.bind_some, hg]
      obtain ⟨x1, m1, f1, f2, f3, f4⟩ := JJ_step h0 ⟨hR, j1, j2, j3, j4, j5, j6⟩ ha hw hv
      rw [f1, Option.bind_some, nI_1, nI_1]
      have hu : upw w a a = w a + 1 := if_pos rfl
      obtain ⟨x', m', Q', g1, g2, g3, g4⟩ := ih r (i + 1) (c + 1) (upw w a) x1 m1 _ f3 (by omega) (by rw [hu]; omega) (by rw [h3]; congr 1; omega) (by omega)
      refine ⟨x', m', Q', by rw [g1]; congr 2; omega, ?_, by rw [← upw_addw]; exact g3, fun c i j hc => (g4 c i j hc).trans (f4 c i j hc)⟩
      rw [hu] at g2
      rw [List.drop_eq_getElem_cons hw, List.take_succ_cons]
      show (f_M_settle 0 m (nI (Q0 a)[w a]) v).bind _ = _
      rw [f2, Option.bind_some]
      exact g2
/-- how many in all -/
def sumw (g : Nat → Nat) : Nat → Nat
  | 0 => 0
  | n + 1 => sumw g n + g n
def flatw (g : Nat → Nat) (Q : Nat → List Nat) : Nat → List Nat
  | 0 => []
  | n + 1 => flatw g Q n ++ (Q n).take (g n)
def below (g : Nat → Nat) (a : Nat) : Nat → Nat := fun j => if j < a then g j else 0
theorem below_addw (g : Nat → Nat) (a : Nat) : addw (below g a) a (g a) = below g (a + 1) := by
  funext j
  unfold addw below
  by_cases h : j = a
  · subst h; simp
  · by_cases h2 : j < a
    · simp [h, h2, show j < a + 1 by omega]
    · simp [h, h2, show ¬ j < a + 1 by omega]
theorem X_chosen_out {n : Nat} {x0 m0' : St} {Q0 : Nat → List Nat} (h0 : XQ n x0 Q0) {v : Int32} (hv : v ≠ 0) {g : Nat → Nat} (hg : ∀ a, a < n → sI x0 2 0 a = nI (g a) ∧ g a ≤ (Q0 a).length) (k : St → Int32 → Option (Int32 × St)) : ∀ (fu a : Nat) (x m : St) (Q : Nat → List Nat), JJ n x0 Q0 (below g a) x m Q → a ≤ n → n < fu + a → msetL v (flatw g Q0 a) m0' = some m → ∃ x' m' Q', lp_X_settleChosen_4 n k fu x v (nI (sumw g a)) (nI a) = k x' (nI (sumw g n)) ∧ msetL v (flatw g Q0 n) m0' = some m' ∧ JJ n x0 Q0 (below g n) x' m' Q' ∧ (∀ c i j, c ≠ 9 → sI m' c i j = sI m c i j) := by
  have hn := h0.1.2
  intro fu
  induction fu with
  | zero => intro a x m Q _ h1 h2; omega
  | succ fu ih =>
    intro a x m Q hJ h1 h2 h3
    rw [lp_X_settleChosen_4_s]
    by_cases ha : a < n
    · have hl6 := (h0.2.2.2.2.2.1 a ha).1
      obtain ⟨e2, hga⟩ := hg a ha
      have hb : below g a a = 0 := if_neg (Nat.lt_irrefl _)
      obtain ⟨x1, m1, Q1, f1, f2, f3, f4⟩ := X_chosen_in h0 ha hv (fun σ8 y2_7 => lp_X_settleChosen_4 n k fu σ8 v y2_7 (nI a + 1)) 1000 (g a) 0 (sumw g a) (below g a) x m Q hJ (by omega) (by omega) (by rw [e2, Nat.zero_add]) (by omega)
      rw [hb, List.drop_zero] at f2
      rw [below_addw] at f3
      obtain ⟨x', m', Q', g1, g2, g3, g4⟩ := ih (a + 1) x1 m1 Q1 f3 (by omega) (by omega) (by
        show msetL v (flatw g Q0 a ++ (Q0 a).take (g a)) m0' = _
        rw [msetL_app, h3]
        exact f2)
      refine ⟨x', m', Q', ?_, g2, g3, fun c i j hc => (g4 c i j hc).trans (f4 c i j hc)⟩
      rw [if_neg (nI_ge ha (by omega))]
      refine Eq.trans f1 ?_
      show lp_X_settleChosen_4 n k fu x1 v (nI (sumw g a + g a)) (nI a + 1) = _
      rw [nI_1]
      exact g1
    · have : a = n := by omega
      subst this
      rw [if_pos (nI_le (Nat.le_refl _) (by omega))]
      exact ⟨x, m, Q, rfl, h3, hJ, fun _ _ _ _ => rfl⟩
theorem X_settleChosen {n : Nat} {x m : St} {Q : Nat → List Nat} (h : R0 n x m Q) {v : Int32} (hv : v ≠ 0) {g : Nat → Nat} (hg : ∀ a, a < n → sI x 2 0 a = nI (g a) ∧ g a ≤ (Q a).length) : ∃ x' m' Q', f_X_settleChosen n x v = some (nI (sumw g n), x') ∧ msetL v (flatw g Q n) m = some m' ∧ JJ n x Q (below g n) x' m' Q' ∧ (∀ c i j, c ≠ 9 → sI m' c i j = sI m c i j) := by
  have hn := h.1.1.2
  have e0 : below g 0 = fun _ => 0 := by
    funext j
    exact if_neg (Nat.not_lt_zero _)
  exact X_chosen_out h.1 hv hg (fun σ10 y2_9 => some (y2_9, σ10)) 1000 0 x m Q (by rw [e0]; exact JJ_0 h) (by omega) (by omega) rfl
