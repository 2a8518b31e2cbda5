def nb (x : Int32) : Nat := if x < 2 then 2 else if 4 < x then 4 else x.toNatClampNeg
theorem nb_ok (x : Int32) : (if 2 < (if x < 4 then x else 4) then (if x < 4 then x else 4) else 2) = nI (nb x) ∧ 2 ≤ nb x ∧ nb x ≤ 4 := by
  by_cases h1 : x < 2
  · have h2 : x < 4 := by rw [Int32.lt_iff_toInt_lt] at h1 ⊢; exact Int.lt_trans h1 (by decide)
    have h3 : ¬ 2 < x := by rw [Int32.lt_iff_toInt_lt] at h1 ⊢; omega
    have h4 : nb x = 2 := if_pos h1
    rw [if_pos h2, if_neg h3, h4]
    exact ⟨rfl, by omega, by omega⟩
  · by_cases h2 : 4 < x
    · have h3 : ¬ x < 4 := by rw [Int32.lt_iff_toInt_lt] at h2 ⊢; omega
      have h4 : nb x = 4 := by unfold nb; rw [if_neg h1, if_pos h2]
      rw [if_neg h3, h4]
      exact ⟨rfl, by omega, by omega⟩
    · have h0 : ¬ x < 0 := by
        intro h
        apply h1
        rw [Int32.lt_iff_toInt_lt] at h ⊢
        exact Int.lt_trans h (by decide)
      have h5 : x ≤ 4 := by rw [Int32.le_iff_toInt_le]; rw [Int32.lt_iff_toInt_lt] at h2; omega
      obtain ⟨j, hj, rfl⟩ := nI_of2 (n := 4) (M := 4) rfl h0 h5
      have h4 : nb (nI j) = j := by unfold nb; rw [if_neg h1, if_neg h2, nI_clamp (by omega)]
      rw [h4]
      match j, hj with
      | 0, _ => exact absurd (by decide) h1
      | 1, _ => exact absurd (by decide) h1
      | 2, _ => exact ⟨by decide, by omega, by omega⟩
      | 3, _ => exact ⟨by decide, by omega, by omega⟩
      | 4, _ => exact ⟨by decide, by omega, by omega⟩
/-- a new desk's store -/
def x0 : St := (fun _ _ _ => 0, fun c _ _ => if c = 3 ∨ c = 4 then -1 else 0, fun _ _ _ => none, 0)
def domC (j t i : Nat) : Prop := match t with
  | 0 => i = 0
  | 1 => i = 0
  | 4 => i < j
  | 5 => i < j
  | 6 => i < j
  | 7 => i < j
  | _ => False
def ctC (cA : Nat → ClassId) (ad : Nat → Nat → Nat) (n j t i : Nat) : va_E := match t with
  | 0 => .inr (2, [.ref (ad 1 0), .null, .int 0, .long 0, .int 0, .null])
  | 1 => .inl (cA 2, n, .inr (.inr (.inr (.inr (fun k => if k < j then some (ad 4 k) else none)))))
  | 4 => .inr (0, [.long 0, .long 0, .long (-1), .ref (ad 5 i), .ref (ad 6 i), .ref (ad 7 i), .int 0])
  | 5 => .inl (cA 0, n, .inr (.inl (fun _ => -1)))
  | 6 => .inl (cA 0, n, .inr (.inl (fun _ => 0)))
  | 7 => .inl (cA 3, 6, .inr (.inr (.inr (.inr (fun _ => none)))))
  | _ => .inr (0, [])
def adC (ad : Nat → Nat → Nat) (j q q1 q2 q3 t i : Nat) : Nat := if i = j then (match t with
  | 4 => q
  | 5 => q1
  | 6 => q2
  | 7 => q3
  | _ => ad t i) else ad t i
def ctX (cA : Nat → ClassId) (ad ad' : Nat → Nat → Nat) (n j t i : Nat) : va_E := if t = 1 then ctC cA ad n j 1 0 else ctC cA ad' n (j + 1) t i
theorem adC_ne (ad : Nat → Nat → Nat) {j q q1 q2 q3 t i : Nat} (h : i ≠ j) : adC ad j q q1 q2 q3 t i = ad t i := if_neg h
theorem adC_0 (ad : Nat → Nat → Nat) {j q q1 q2 q3 i : Nat} : adC ad j q q1 q2 q3 0 i = ad 0 i := by unfold adC; split <;> rfl
theorem adC_1 (ad : Nat → Nat → Nat) {j q q1 q2 q3 i : Nat} : adC ad j q q1 q2 q3 1 i = ad 1 i := by unfold adC; split <;> rfl
theorem adC_4 (ad : Nat → Nat → Nat) {j q q1 q2 q3 : Nat} : adC ad j q q1 q2 q3 4 j = q := if_pos rfl
theorem adC_5 (ad : Nat → Nat → Nat) {j q q1 q2 q3 : Nat} : adC ad j q q1 q2 q3 5 j = q1 := if_pos rfl
theorem adC_6 (ad : Nat → Nat → Nat) {j q q1 q2 q3 : Nat} : adC ad j q q1 q2 q3 6 j = q2 := if_pos rfl
theorem adC_7 (ad : Nat → Nat → Nat) {j q q1 q2 q3 : Nat} : adC ad j q q1 q2 q3 7 j = q3 := if_pos rfl
/-- one more bank beside those that are there -/
theorem grow_bank {D : va_G} {cA : Nat → ClassId} {ad : Nat → Nat → Nat} {n j q q1 q2 q3 : Nat} {H H2 : Heap} (hW : kw D vCl ad (domC j) (ctC cA ad n j) H) (ho : ∀ x : Nat, x < H.size → H2[x]? = H[x]?) (hb : bnk D cA n q (q1, q2, q3) H2) (h0 : H.size ≤ q ∧ H.size ≤ q1 ∧ H.size ≤ q2 ∧ H.size ≤ q3 ∧ q ≠ q1 ∧ q ≠ q2 ∧ q ≠ q3 ∧ q1 ≠ q2 ∧ q1 ≠ q3 ∧ q2 ≠ q3) : kw D vCl (adC ad j q q1 q2 q3) (domC (j + 1)) (ctX cA ad (adC ad j q q1 q2 q3) n j) H2 := by
  obtain ⟨b1, b2, b3, b4⟩ := hb
  have key : ∀ t i, domC (j + 1) t i → (domC j t i ∧ adC ad j q q1 q2 q3 t i = ad t i ∧ ctX cA ad (adC ad j q q1 q2 q3) n j t i = ctC cA ad n j t i) ∨ (i = j ∧ (t = 4 ∨ t = 5 ∨ t = 6 ∨ t = 7)) := by
    intro t i h
    match t, h with
    | 0, h =>
      have h : i = 0 := h
      exact Or.inl ⟨h, adC_0 ad, by show ctC cA (adC ad j q q1 q2 q3) n (j + 1) 0 i = _; simp only [ctC, adC_1]⟩
    | 1, h =>
      have h : i = 0 := h
      exact Or.inl ⟨h, adC_1 ad, rfl⟩
    | 4, h =>
      have h : i < j + 1 := h
      by_cases hi : i = j
      · exact Or.inr ⟨hi, by omega⟩
      · exact Or.inl ⟨show i < j by omega, adC_ne ad hi, by show ctC cA (adC ad j q q1 q2 q3) n (j + 1) 4 i = _; simp only [ctC, adC_ne ad hi]⟩
    | 5, h =>
      have h : i < j + 1 := h
      by_cases hi : i = j
      · exact Or.inr ⟨hi, by omega⟩
      · exact Or.inl ⟨show i < j by omega, adC_ne ad hi, rfl⟩
    | 6, h =>
      have h : i < j + 1 := h
      by_cases hi : i = j
      · exact Or.inr ⟨hi, by omega⟩
      · exact Or.inl ⟨show i < j by omega, adC_ne ad hi, rfl⟩
    | 7, h =>
      have h : i < j + 1 := h
      by_cases hi : i = j
      · exact Or.inr ⟨hi, by omega⟩
      · exact Or.inl ⟨show i < j by omega, adC_ne ad hi, rfl⟩
  refine hW.grow ho (fun t i h => ?_) (fun t i t' i' h1 h2 hs he => ?_)
  · rcases key t i h with h3 | ⟨rfl, rfl | rfl | rfl | rfl⟩
    · exact Or.inl h3
    · refine Or.inr ⟨by rw [adC_4]; omega, ?_⟩
      show va_at D vCl (adC ad i q q1 q2 q3 4 i, ctC cA (adC ad i q q1 q2 q3) n (i + 1) 4 i) H2
      simp only [ctC, adC_4, adC_5, adC_6, adC_7]
      exact b1
    · refine Or.inr ⟨by rw [adC_5]; omega, ?_⟩
      rw [adC_5]; exact b2
    · refine Or.inr ⟨by rw [adC_6]; omega, ?_⟩
      rw [adC_6]; exact b3
    · refine Or.inr ⟨by rw [adC_7]; omega, ?_⟩
      rw [adC_7]; exact b4
  · have new : ∀ t i, domC (j + 1) t i → H.size ≤ adC ad j q q1 q2 q3 t i → i = j ∧ (t = 4 ∨ t = 5 ∨ t = 6 ∨ t = 7) := by
      intro t i h hs
      rcases key t i h with ⟨h3, h4, -⟩ | h3
      · rw [h4] at hs
        have h5 : ad t i < H.size := (hW.1 t i h3).lt
        omega
      · exact h3
    obtain ⟨rfl, g1⟩ := new t i h1 hs
    obtain ⟨rfl, g2⟩ := new t' i' h2 (by rw [← he]; exact hs)
    refine ⟨?_, rfl⟩
    rcases g1 with rfl | rfl | rfl | rfl <;> rcases g2 with rfl | rfl | rfl | rfl <;> first | rfl | (simp only [adC_4, adC_5, adC_6, adC_7] at he; omega)
set_option maxHeartbeats 4000000 in
set_option maxRecDepth 100000 in
theorem lp_X_init {p : Program} {l : Launch} {e : Env} {s : State} {m : MethodId} {args : Array Value} {below : List Frame} {meth : Method} {c : Code} {Q : State → Prop} (D : va_G) (cA : Nat → ClassId) (n : Nat) (hn : 2 ≤ n ∧ n ≤ 4) (b : Nat) (x : Int32) (hx : p.tables.exec = Jvm.exec) (hb : c.code = prog_1_method_1_code) (hml : c.maxLocals = 4) (hts : ∀ w ∈ ws_X_init, w.before args s = true) (hown : s.vm.findClass "GridlockDesk" = some m.cls) (hK : va_K D vCl (atys cA) s) (hAOP : va_AO "GridlockDesk$Payment" s) (hk : ∀ (ad : Nat → Nat → Nat) (H : Heap) (locs : List Loc) (ls : Array Slot), lv_has ls 4 [(0, .ref b), (2, .int (nI n))] → ad 0 0 = b → kw D vCl ad (domC n) (ctC cA ad n n) H → (∀ t i, domC n t i → ad t i = b ∨ s.heap.size ≤ ad t i) → va_S (fun q => q = b ∨ s.heap.size ≤ q) s.heap H locs → W p l e (headSpec ws_X_init ({ frames := 2, cells := 19, slots := 192, locals := 45 })).room s m args below meth c H locs (1 + 4 * n) (n + n * (2 * n + 13)) Q (F0 m 49 ls [])) : ∀ (k j : Nat), j + k = n → ∀ (ad : Nat → Nat → Nat) (H : Heap) (locs : List Loc) (ls : Array Slot), lv_has ls 4 [(0, .ref b), (2, .int (nI n)), (3, .int (nI j))] → ad 0 0 = b → kw D vCl ad (domC j) (ctC cA ad n j) H → (∀ t i, domC j t i → ad t i = b ∨ s.heap.size ≤ ad t i) → va_S (fun q => q = b ∨ s.heap.size ≤ q) s.heap H locs → W p l e (headSpec ws_X_init ({ frames := 2, cells := 19, slots := 192, locals := 45 })).room s m args below meth c H locs (1 + 4 * j) (n + j * (2 * n + 13)) Q (F0 m 24 ls []) := by
  have ht : ∀ w ∈ TB, w.before args s = true := fun w h => hts w (List.mem_cons_of_mem _ h)
  intro k
  induction k with
  | zero =>
    intro j hj ad H locs ls hl h0 hW hA hS
    have hjn : j = n := by omega
    subst hjn
    refine lv_iload_n hx hb d_X_init_24 rfl (lv_at hl 2 rfl) ?_
    refine lv_iload_n hx hb d_X_init_25 rfl (lv_at hl 1 rfl) ?_
    refine lv_icmp_ge (tgt := 49) hx hb d_X_init_26 rfl (fun _ => ?_) (fun hc => absurd (nI_le (Nat.le_refl _) (by omega)) hc)
    exact hk ad H locs ls (lv_sub hl [0, 1] rfl) h0 hW hA hS
  | succ k ih =>
    intro j hj ad H locs ls hl h0 hW hA hS
    have hjn : j < n := by omega
    refine lv_iload_n hx hb d_X_init_24 rfl (lv_at hl 2 rfl) ?_
    refine lv_iload_n hx hb d_X_init_25 rfl (lv_at hl 1 rfl) ?_
    refine lv_icmp_ge (tgt := 49) hx hb d_X_init_26 rfl (fun hc => absurd hc (nI_ge hjn (by omega))) (fun _ => ?_)
    refine lv_aload_n hx hb d_X_init_29 rfl (lv_at hl 0 rfl) ?_
    refine W.eq (g2 := F0 m 30 ls [.ref (ad 0 0)]) (by rw [h0]) ?_
    refine va_get (D := D) (ci := 2) (C := "GridlockDesk") (T := T_X) (N := 6) hx hb ht hin_X hown hK (hW.one (t := 0) (i := 0) rfl) 0 rfl rfl 0 (by decide) (ht _ tw_93) (fun _ h9 => h9) rfl d_X_init_30 ?_
    refine lv_iload_n hx hb d_X_init_33 rfl (lv_at hl 2 rfl) ?_
    have hm1 : j * (2 * n + 13) ≤ 3 * 21 := Nat.mul_le_mul (by omega) (by omega)
    have hm2 : (j + 1) * (2 * n + 13) = j * (2 * n + 13) + (2 * n + 13) := by rw [Nat.add_mul, Nat.one_mul]
    refine k_new (D := D) (ci := 0) (fs := [.long 0, .long 0, .long 0, .null, .null, .null, .int 0]) (C := "GridlockDesk$Bank") (T := T_B) (N := 7) hx hb ht hin_B ft_B ft_B_ok hown (ht _ tw_51) (ht _ tw_53) (ht _ tw_33) hK hS rfl (fun i hi => by match i, hi with
      | 0, _ => rfl
      | 1, _ => rfl
      | 2, _ => rfl
      | 3, _ => rfl
      | 4, _ => rfl
      | 5, _ => rfl
      | 6, _ => rfl) (show 1 + 4 * j + 1 ≤ 19 by omega) (show n + j * (2 * n + 13) + 7 ≤ 192 by omega) d_X_init_34 (fun q H1 hq hz hat ho hS1 => ?_)
    refine lv_dup hx hb d_X_init_37 rfl ?_
    refine lv_iload_n hx hb d_X_init_38 rfl (lv_at hl 1 rfl) ?_
    have hfree : ∀ x : Nat, (x = q ∨ H1.size ≤ x) → s.heap.size ≤ x := by
      intro x h
      have := hS.1
      rcases h with h | h <;> omega
    refine va_callv (va_runI (As := [.int (nI n)]) (rest := [.ref q, .int (nI j), .ref (ad 1 0)]) ⟨hx, hb, hml, hown, hts⟩ (m_B_init l D cA n (by omega) q H1.size) (cwI 1 hts (tb_C tw_56) rfl rfl rfl (ht _ tw_33) (ht _ tw_54) (ht _ tw_55) rfl (by decide +kernel) ⟨Nat.le_of_ble_eq_true rfl, Nat.le_of_ble_eq_true rfl⟩) ⟨fun a U g mk q => by obtain ⟨q0, q1, q2, q3⟩ := q; exact ⟨q0, q1, va_K.moved (u := U) (U := U.calling g mk a) (Vm.Alike.refl U.vm) q2, va_AO.moved (u := U) (U := U.calling g mk a) (Vm.Alike.refl U.vm) q3⟩, fun U hU hWm => ⟨rfl, ⟨by rw [hU]; exact hat, by rw [hU]⟩, va_K.moved hWm.alike hK, va_AO.moved hWm.alike hAOP⟩⟩ rfl rfl hl.1 rfl (lv_room (Nat.le_of_ble_eq_true rfl)) d_X_init_39 ⟨(show 1 + 4 * j + 1 + 3 ≤ 19 by omega), (show n + j * (2 * n + 13) + 7 + (n + n + 6) ≤ 192 by omega)⟩) hS1 (fun x _ h => Or.inr (hfree x h)) (fun x h => Or.inr (hfree x h)) (fun u t H2 locs2 ht2 hvm hp hB hz2 hk2 hS2 => ?_)
    obtain ⟨q1, q2, q3⟩ := u
    obtain ⟨p1, p2, p3, p4, p5, p6⟩ := hp
    rw [ht2] at hB
    have ho2 : ∀ x : Nat, x < H.size → H2[x]? = H[x]? := fun x hx9 => (hk2 x (by omega) (fun h => by rcases h with h | h <;> omega)).trans (ho x hx9)
    have hp0 : H.size ≤ q ∧ H.size ≤ q1 ∧ H.size ≤ q2 ∧ H.size ≤ q3 ∧ q ≠ q1 ∧ q ≠ q2 ∧ q ≠ q3 ∧ q1 ≠ q2 ∧ q1 ≠ q3 ∧ q2 ≠ q3 := by
      have p1 : H1.size ≤ q1 := p1
      have p2 : H1.size ≤ q2 := p2
      have p3 : H1.size ≤ q3 := p3
      exact ⟨by omega, by omega, by omega, by omega, by omega, by omega, by omega, p4, p5, p6⟩
    have hW2 := grow_bank hW ho2 hB hp0
    have hA2 : ∀ t i, domC (j + 1) t i → adC ad j q q1 q2 q3 t i = b ∨ s.heap.size ≤ adC ad j q q1 q2 q3 t i := by
      intro t i h
      by_cases hlt : adC ad j q q1 q2 q3 t i < H.size
      · by_cases hi : i = j
        · match t, h with
          | 0, h => rw [adC_0]; exact hA 0 i h
          | 1, h => rw [adC_1]; exact hA 1 i h
          | 4, h => subst hi; rw [adC_4] at hlt; omega
          | 5, h => subst hi; rw [adC_5] at hlt; omega
          | 6, h => subst hi; rw [adC_6] at hlt; omega
          | 7, h => subst hi; rw [adC_7] at hlt; omega
        · rw [adC_ne ad hi]
          match t, h with
          | 0, h => exact hA 0 i h
          | 1, h => exact hA 1 i h
          | 4, h => exact hA 4 i (show i < j by have h : i < j + 1 := h; omega)
          | 5, h => exact hA 5 i (show i < j by have h : i < j + 1 := h; omega)
          | 6, h => exact hA 6 i (show i < j by have h : i < j + 1 := h; omega)
          | 7, h => exact hA 7 i (show i < j by have h : i < j + 1 := h; omega)
      · have := hS.1
        exact Or.inr (by omega)
    refine W.eq (g2 := F0 m 42 ls [.ref (adC ad j q q1 q2 q3 4 j), .int (nI j), .ref (adC ad j q q1 q2 q3 1 0)]) (by rw [adC_4, adC_1]) ?_
    refine k_aast (t := 1) (i := 0) (tv := 4) (iv := j) (ct' := ctC cA (adC ad j q q1 q2 q3) n (j + 1)) hx hb hK hW2 hS2 rfl (by rw [adC_1]; exact hA 1 0 rfl) 2 0 (show j < j + 1 by omega) rfl rfl rfl rfl (vp_in_nI hjn (by omega)) d_X_init_42 (fun t' i' h => ?_) (fun H3 locs3 hW3 hS3 => ?_)
    · match t', h with
      | 0, h => rw [if_neg (by omega)]; rfl
      | 1, h =>
        have h : i' = 0 := h
        subst h
        rw [if_pos ⟨rfl, rfl⟩, nI_clamp (by omega)]
        simp only [ctC]
        congr 7
        funext k9
        by_cases h1 : k9 = j
        · subst h1
          simp [va_up]
        · by_cases h2 : k9 < j
          · simp [va_up, h1, h2, adC_ne ad h1, show k9 < j + 1 by omega]
          · simp [va_up, h1, h2, show ¬ k9 < j + 1 by omega]
      | 4, h => rw [if_neg (by omega)]; rfl
      | 5, h => rw [if_neg (by omega)]; rfl
      | 6, h => rw [if_neg (by omega)]; rfl
      | 7, h => rw [if_neg (by omega)]; rfl
    · refine lv_iinc (k := 2) (v := nI (j + 1)) (lv' := [(3, .int (nI (j + 1))), (0, .ref b), (2, .int (nI n))]) hx hb d_X_init_43 hl rfl (nI_1 j) (by decide) rfl (fun ls hl => ?_)
      refine lv_goto (tgt := 24) hx hb d_X_init_46 rfl ?_
      refine W.cs (cells' := 1 + 4 * (j + 1)) (slots' := n + (j + 1) * (2 * n + 13)) (by omega) (by omega) ?_
      exact ih (j + 1) (by omega) _ _ _ ls (lv_sub hl [1, 2, 0] rfl) (by rw [adC_0]; exact h0) hW3 hA2 hS3
set_option maxHeartbeats 4000000 in
set_option maxRecDepth 100000 in
theorem m_X_init (l : Launch) (D : va_G) (cA : Nat → ClassId) (b sz : Nat) (x : Int32) : Met l y_X_init ws_X_init ({ frames := 2, cells := 19, slots := 192, locals := 45 }) (va_Pc [.ref b, .int x] (fun U => (va_at D vCl (b, .inr (2, [.null, .null, .int 0, .long 0, .int 0, .null])) U.heap ∧ U.heap.size = sz) ∧ va_K D vCl (atys cA) U ∧ va_AO "GridlockDesk$Bank" U ∧ va_AO "GridlockDesk$Payment" U)) (va_Qv (fun (u : Nat → Nat → Nat) => u 0 0 = b) (fun u t => CW D cA u (nb x) (fun q => q = b ∨ sz ≤ q) x0 t.heap ∧ va_K D vCl (atys cA) t) (fun q => q = b ∨ sz ≤ q)) 19 192 (fun q => q = b ∨ sz ≤ q) := by
  refine Met.ofW (cc := prog_1_method_1_code) (maxL := 4) (ret := none) (by decide) rfl ?_
  intro p e s m args below meth c s₁ B hml hv
  obtain ⟨rfl, ⟨hat, hsz⟩, hK, hAOB, hAOP⟩ := hv
  have hx := B.exec
  have hb := B.bytes
  have hr := B.returns
  have hts := atoms_spec (ws := ws_X_init) B.pre
  have ht : ∀ w ∈ TB, w.before _ s = true := fun w h => hts w (List.mem_cons_of_mem _ h)
  have hown : s.vm.findClass "GridlockDesk" = some m.cls := findClass_of_methodNamed B.named
  have hlocks := B.notSynchronized
  have hin2 : meth.name = "<init>" := (name_of_methodNamed B.named B.method).1
  subst hsz
  have hl := lv_entry ([.ref b, .int x]) (n := 4) (Nat.le_of_ble_eq_true rfl)
  rw [lg_entry_eq]
  generalize (lg_sl ([.ref b, .int x]) ++ List.replicate (4 - (lg_sl ([.ref b, .int x])).length) Slot.unset).toArray = ls at hl ⊢
  have hl : lv_has ls 4 [(0, .ref b), (1, .int x)] := hl
  have hS : va_S (fun q => q = b ∨ s.heap.size ≤ q) s.heap s.heap [] := va_S.rf
  have hW : kw D vCl (fun _ _ => b) (fun t i => t = 0 ∧ i = 0) (fun _ _ => .inr (2, [.null, .null, .int 0, .long 0, .int 0, .null])) s.heap := ⟨fun _ _ _ => hat, fun t i t' i' h1 h2 _ => ⟨h1.1.trans h2.1.symm, h1.2.trans h2.2.symm⟩⟩
  obtain ⟨hn1, hn2⟩ := nb_ok x
  refine lv_aload_n hx hb d_X_init_0 rfl (lv_at hl 0 rfl) ?_
  refine W.objInit hx hb hown (ht _ tw_42) (ht _ tw_43) (ht _ tw_44) rfl (by rw [hml]; exact hl.1) rfl d_X_init_1 (Nat.le_of_ble_eq_true rfl) (Nat.le_of_ble_eq_true rfl) ?_
  refine W.eq (g2 := F0 m 4 ls []) rfl ?_
  refine lv_iconst (v := 2) hx hb d_X_init_4 (by decide) ?_
  refine lv_iconst (v := 4) hx hb d_X_init_5 (by decide) ?_
  refine lv_iload_n hx hb d_X_init_6 rfl (lv_at hl 1 rfl) ?_
  refine va_mmin hx hb (by rw [hml]; exact hl.1.symm) hown (ht _ tw_45) (ht _ tw_46) (ht _ tw_32) (ht _ tw_47) (Nat.le_of_ble_eq_true rfl) (Nat.le_of_ble_eq_true rfl) (Nat.le_of_ble_eq_true rfl) (Nat.le_of_ble_eq_true rfl) d_X_init_7 ?_
  refine va_mmax hx hb (by rw [hml]; exact hl.1.symm) hown (ht _ tw_48) (ht _ tw_49) (ht _ tw_32) (ht _ tw_50) (Nat.le_of_ble_eq_true rfl) (Nat.le_of_ble_eq_true rfl) (Nat.le_of_ble_eq_true rfl) (Nat.le_of_ble_eq_true rfl) d_X_init_10 ?_
  rw [hn1]
  generalize nb x = n at hn2 ⊢
  refine lv_istore_n (lv' := [(2, .int _), (0, .ref _), (1, .int _)]) hx hb d_X_init_13 rfl hl (by decide) rfl (fun ls hl => ?_)
  refine lv_aload_n hx hb d_X_init_14 rfl (lv_at hl 1 rfl) ?_
  refine lv_iload_n hx hb d_X_init_15 rfl (lv_at hl 0 rfl) ?_
  have z1 := hS.1
  refine k_newq (D := D) (cl := vCl) (tys := atys cA) (C := "GridlockDesk$Bank") (N' := n) hx hb hown (ht _ tw_51) hAOB hK hS 2 rfl (nI_pos (by omega)) (nI_clamp (by omega)) (by omega) (Nat.le_of_ble_eq_true rfl) (show 0 + n ≤ 192 by omega) d_X_init_16 (fun q1 H1 hq1 hz1 hat1 ho1 hS => ?_)
  replace hW := hW.one_more ho1 hq1 hat1 1 0 (fun h => by cases h.1)
  refine k_putF (ci := 2) (C := "GridlockDesk") (T := T_X) (N := 6) (ty := .array (.object "GridlockDesk$Bank")) (t := 0) (i := 0) hx hb ht hin_X ft_X ft_X_ok nm_X hown hK hW hS (Or.inr ⟨rfl, rfl⟩) (Or.inl rfl) rfl rfl 0 (by decide) (ht _ tw_93) (fun _ h9 => h9) rfl hin2 rfl (by decide +kernel) rfl rfl (Nat.le_of_ble_eq_true rfl) d_X_init_19 (fun _ _ _ => rfl) (fun H locs hW hS => ?_)
  refine lv_iconst (v := 0) hx hb d_X_init_22 (by decide) ?_
  refine lv_istore_n (lv' := [(3, .int _), (2, .int _), (0, .ref _), (1, .int _)]) hx hb d_X_init_23 rfl hl (by decide) rfl (fun ls hl => ?_)
  have hW0 : kw D vCl (kup (fun _ _ => b) 1 0 q1) (domC 0) (ctC cA (kup (fun _ _ => b) 1 0 q1) n 0) H := by
    refine ⟨fun t i h => ?_, fun t i t' i' h1 h2 he => ?_⟩
    · match t, h with
      | 0, h =>
        have h : i = 0 := h
        subst h
        exact hW.1 0 0 (Or.inr ⟨rfl, rfl⟩)
      | 1, h =>
        have h : i = 0 := h
        subst h
        exact hW.1 1 0 (Or.inl ⟨rfl, rfl⟩)
      | 4, h => exact absurd h (Nat.not_lt_zero _)
      | 5, h => exact absurd h (Nat.not_lt_zero _)
      | 6, h => exact absurd h (Nat.not_lt_zero _)
      | 7, h => exact absurd h (Nat.not_lt_zero _)
    · have key : ∀ t i, domC 0 t i → (t = 1 ∧ i = 0) ∨ (t = 0 ∧ i = 0) := by
        intro t i h
        match t, h with
        | 0, h => exact Or.inr ⟨rfl, h⟩
        | 1, h => exact Or.inl ⟨rfl, h⟩
        | 4, h => exact absurd h (Nat.not_lt_zero _)
        | 5, h => exact absurd h (Nat.not_lt_zero _)
        | 6, h => exact absurd h (Nat.not_lt_zero _)
        | 7, h => exact absurd h (Nat.not_lt_zero _)
      exact hW.2 t i t' i' (key t i h1) (key t' i' h2) he
  have hA0 : ∀ t i, domC 0 t i → kup (fun _ _ => b) 1 0 q1 t i = b ∨ s.heap.size ≤ kup (fun _ _ => b) 1 0 q1 t i := by
    intro t i h
    unfold kup
    split
    · exact Or.inr (by omega)
    · exact Or.inl rfl
  refine W.cs (cells' := 1 + 4 * 0) (slots' := n + 0 * (2 * n + 13)) rfl (by omega) ?_
  refine lp_X_init D cA n hn2 b x hx hb hml hts hown hK hAOP (fun ad H locs ls hl h0 hW hA hS => ?_) n 0 (by omega) (kup (fun _ _ => b) 1 0 q1) _ _ ls (lv_sub hl [2, 1, 0] rfl) rfl hW0 hA0 hS
  have hm1 : n * (2 * n + 13) ≤ 4 * 21 := Nat.mul_le_mul (by omega) (by omega)
  refine lv_aload_n hx hb d_X_init_49 rfl (lv_at hl 0 rfl) ?_
  refine lv_bipush (v := 100) hx hb d_X_init_50 (by decide) ?_
  have z2 := hS.1
  refine k_newq (D := D) (cl := vCl) (tys := atys cA) (C := "GridlockDesk$Payment") (N' := 100) hx hb hown (ht _ tw_92) hAOP hK hS 3 rfl (by decide) rfl (by decide) (show 1 + 4 * n + 1 ≤ 19 by omega) (show n + n * (2 * n + 13) + 100 ≤ 192 by omega) d_X_init_52 (fun q2 H2 hq2 hz2 hat2 ho2 hS => ?_)
  replace hW := hW.one_more ho2 hq2 hat2 2 0 (fun h => h)
  refine W.eq (g2 := F0 m 55 ls [.ref q2, .ref (kup ad 2 0 q2 0 0)]) (by rw [kup_ne _ _ (by omega), h0]) ?_
  refine k_putF (ci := 2) (C := "GridlockDesk") (T := T_X) (N := 6) (ty := .array (.object "GridlockDesk$Payment")) (t := 0) (i := 0) hx hb ht hin_X ft_X ft_X_ok nm_X hown hK hW hS (Or.inr rfl) (by rw [kup_ne _ _ (by omega)]; exact hA 0 0 rfl) rfl rfl 1 (by decide) (ht _ tw_94) (fun _ h9 => h9) rfl hin2 rfl (by decide +kernel) rfl rfl (Nat.le_of_ble_eq_true rfl) d_X_init_55 (fun _ _ _ => rfl) (fun H locs hW hS => ?_)
  refine lv_aload_n hx hb d_X_init_58 rfl (lv_at hl 0 rfl) ?_
  refine lv_iload_n hx hb d_X_init_59 rfl (lv_at hl 1 rfl) ?_
  have z3 := hS.1
  refine k_newa (D := D) (cl := vCl) (tys := atys cA) (atype := .int) (ty := .int) (a0 := (n, .inl (fun _ => 0))) hx hb (ht _ tw_112) rfl (fun _ h => by cases h) hK hS 1 rfl rfl (nI_pos (by omega)) (nI_clamp (by omega)) (by show n * 4 ≤ _; omega) (show 1 + 4 * n + 1 + 1 ≤ 19 by omega) (show n + n * (2 * n + 13) + 100 + n ≤ 192 by omega) d_X_init_60 (fun q3 H3 hq3 hz3 hat3 ho3 hS => ?_)
  have hlt2 : q2 < q3 := by
    have h9 : kup ad 2 0 q2 2 0 < _ := (hW.1 2 0 (Or.inl ⟨rfl, rfl⟩)).lt
    rw [kup_self] at h9
    omega
  replace hW := hW.one_more ho3 hq3 hat3 3 0 (fun h => by rcases h with h | h; cases h.1; exact h)
  refine W.eq (g2 := F0 m 62 ls [.ref q3, .ref (kup (kup ad 2 0 q2) 3 0 q3 0 0)]) (by rw [kup_ne _ _ (by omega), kup_ne _ _ (by omega), h0]) ?_
  refine k_putF (ci := 2) (C := "GridlockDesk") (T := T_X) (N := 6) (ty := .array .int) (t := 0) (i := 0) hx hb ht hin_X ft_X ft_X_ok nm_X hown hK hW hS (Or.inr (Or.inr rfl)) (by rw [kup_ne _ _ (by omega), kup_ne _ _ (by omega)]; exact hA 0 0 rfl) rfl rfl 5 (by decide) (ht _ tw_98) (fun _ h9 => h9) rfl hin2 rfl (by decide +kernel) rfl rfl (Nat.le_of_ble_eq_true rfl) d_X_init_62 (fun _ _ _ => rfl) (fun H locs hW hS => ?_)
  have hdom : ∀ t i, cdom n x0 t i → (t = 3 ∧ i = 0) ∨ (t = 2 ∧ i = 0) ∨ domC n t i := by
    intro t i h
    match t, h with
    | 0, h => exact Or.inr (Or.inr h)
    | 1, h => exact Or.inr (Or.inr h)
    | 2, h => exact Or.inr (Or.inl ⟨rfl, h⟩)
    | 3, h => exact Or.inl ⟨rfl, h⟩
    | 4, h => exact Or.inr (Or.inr h)
    | 5, h => exact Or.inr (Or.inr h)
    | 6, h => exact Or.inr (Or.inr h)
    | 7, h => exact Or.inr (Or.inr h)
    | 8, h => exact absurd h (Nat.not_lt_zero _)
  have hF : CW D cA (kup (kup ad 2 0 q2) 3 0 q3) n (fun q => q = b ∨ s.heap.size ≤ q) x0 H := by
    refine ⟨⟨fun t i h => ?_, fun t i t' i' h1 h2 he => hW.2 t i t' i' (hdom t i h1) (hdom t' i' h2) he⟩, fun t i h => ?_⟩
    · have h9 := hW.1 t i (hdom t i h)
      match t, h, h9 with
      | 0, h, h9 => have h : i = 0 := h; subst h; exact h9
      | 1, h, h9 =>
        have h : i = 0 := h
        subst h
        refine Eq.trans (show H[kup (kup ad 2 0 q2) 3 0 q3 1 0]? = some (vp_cell (cA 2) (n, .inr (.inr (.inr (.inr (fun k => if k < n then some (ad 4 k) else none)))))) from h9) ?_
        show _ = some (vp_cell (cA 2) (n, .inr (.inr (.inr (.inr (fun j => some (kup (kup ad 2 0 q2) 3 0 q3 4 j)))))))
        rw [vp_cell_q, vp_cell_q]
        refine congrArg some (arrV_congr (fun j hj => ?_))
        show va_rf (if j < n then some (ad 4 j) else none) = va_rf (some (kup (kup ad 2 0 q2) 3 0 q3 4 j))
        rw [if_pos hj, kup_ne _ _ (by omega), kup_ne _ _ (by omega)]
      | 2, h, h9 => have h : i = 0 := h; subst h; exact h9
      | 3, h, h9 => have h : i = 0 := h; subst h; exact h9
      | 4, h, h9 => exact h9
      | 5, h, h9 => exact h9
      | 6, h, h9 => exact h9
      | 7, h, h9 => exact h9
      | 8, h, h9 => exact absurd h (Nat.not_lt_zero _)
    · have h9 := hdom t i h
      show kup (kup ad 2 0 q2) 3 0 q3 t i = b ∨ s.heap.size ≤ kup (kup ad 2 0 q2) 3 0 q3 t i
      by_cases h3 : t = 3 ∧ i = 0
      · obtain ⟨rfl, rfl⟩ := h3
        rw [kup_self]; exact Or.inr (by omega)
      · rw [kup_ne _ _ h3]
        by_cases h2 : t = 2 ∧ i = 0
        · obtain ⟨rfl, rfl⟩ := h2
          rw [kup_self]; exact Or.inr (by omega)
        · rw [kup_ne _ _ h2]
          exact hA t i ((h9.resolve_left h3).resolve_left h2)
  refine W.widen (k := 19) (n := 192) (by omega) (by omega) ?_
  exact W.vret hx hb hr (fun t ht hWm => ⟨⟨kup (kup ad 2 0 q2) 3 0 q3, rfl, (show kup (kup ad 2 0 q2) 3 0 q3 0 0 = b by rw [kup_ne _ _ (by omega), kup_ne _ _ (by omega)]; exact h0), by rw [ht]; exact hF, va_K.moved hWm.alike hK⟩, hS.F ht⟩) hS.2.2 d_X_init_65
