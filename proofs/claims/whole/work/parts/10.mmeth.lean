set_option maxHeartbeats 4000000 in
set_option maxRecDepth 100000 in
theorem m_M_isBank (l : Launch) (D : va_G) (cA : Nat → ClassId) (ad : Nat → Nat → Nat) (n : Nat) (A : Nat → Prop) (σ : St) (x1 : Int32)  (out : Int32 × St) (hf : f_M_isBank n σ x1 = some out) : Met l y_M_isBank ws_M_isBank ({ frames := 0, cells := 0, slots := 0, locals := 0 }) (va_Pc [.ref (ad 0 0), .int x1] (fun U => MW D cA ad n A σ U.heap ∧ va_K D vCl (atys cA) U)) (va_Qi (fun r u => (r, u) = out) (fun u t => MW D cA ad n A u t.heap ∧ va_K D vCl (atys cA) t) A) 0 0 A := by
  refine Met.ofW (cc := prog_5_method_2_code) (maxL := 2) (ret := (some .boolean)) (by decide) rfl ?_
  intro p e s m args below meth c s₁ B hml hv
  obtain ⟨rfl, hW, hK⟩ := hv
  have hx := B.exec
  have hb := B.bytes
  have hr := B.returns
  have hts := atoms_spec (ws := ws_M_isBank) B.pre
  have ht : ∀ w ∈ TB, w.before _ s = true := fun w h => hts w (List.mem_cons_of_mem _ h)
  have hown : s.vm.findClass "GridlockDeskModel" = some m.cls := findClass_of_methodNamed B.named
  have hlocks := B.notSynchronized
  have hS : va_S A s.heap s.heap [] := va_S.rf
  have hl := lv_entry ([.ref (ad 0 0), .int x1]) (n := 2) (Nat.le_of_ble_eq_true rfl)
  rw [lg_entry_eq]
  generalize (lg_sl ([.ref (ad 0 0), .int x1]) ++ List.replicate (2 - (lg_sl ([.ref (ad 0 0), .int x1])).length) Slot.unset).toArray = ls at hl ⊢
  have hl : lv_has ls 2 [(0, .ref (ad 0 0)), (1, .int x1)] := hl
  unfold f_M_isBank at hf

  refine lv_iload_n hx hb d_M_isBank_0 rfl (lv_at hl 1 rfl) ?_
  refine lv_if_lt (tgt := 16) hx hb d_M_isBank_1 rfl (fun hc => ?_) (fun hc => ?_)
  · replace hf := og_t hc hf
    refine lv_iconst (v := 0) hx hb d_M_isBank_16 (by decide) ?_
    exact W.zret hx hb hr rfl (fun t ht hWm => ⟨⟨_, _, rfl, Option.some.inj hf, by rw [ht]; exact hW, va_K.moved hWm.alike hK⟩, hS.F ht⟩) hS.2.2 d_M_isBank_17
  · replace hf := og_f hc hf
    refine lv_iload_n hx hb d_M_isBank_4 rfl (lv_at hl 1 rfl) ?_
    refine lv_aload_n hx hb d_M_isBank_5 rfl (lv_at hl 0 rfl) ?_
    refine va_get (D := D) (ci := 3) (C := "GridlockDeskModel") (T := T_M) (N := 22) hx hb ht hin_M hown hK (hW.1.one (t := 0) rfl) 0 rfl rfl 0 (by decide) (ht _ tw_325) (fun _ h9 => h9) rfl d_M_isBank_6 ?_
    refine lv_icmp_ge (tgt := 16) hx hb d_M_isBank_9 rfl (fun hc => ?_) (fun hc => ?_)
    · replace hf := og_t hc hf
      refine lv_iconst (v := 0) hx hb d_M_isBank_16 (by decide) ?_
      exact W.zret hx hb hr rfl (fun t ht hWm => ⟨⟨_, _, rfl, Option.some.inj hf, by rw [ht]; exact hW, va_K.moved hWm.alike hK⟩, hS.F ht⟩) hS.2.2 d_M_isBank_17
    · replace hf := og_f hc hf
      refine lv_iconst (v := 1) hx hb d_M_isBank_12 (by decide) ?_
      refine lv_goto (tgt := 17) hx hb d_M_isBank_13 rfl ?_
      exact W.zret hx hb hr rfl (fun t ht hWm => ⟨⟨_, _, rfl, Option.some.inj hf, by rw [ht]; exact hW, va_K.moved hWm.alike hK⟩, hS.F ht⟩) hS.2.2 d_M_isBank_17

set_option maxHeartbeats 4000000 in
set_option maxRecDepth 100000 in
theorem m_M_isQueued (l : Launch) (D : va_G) (cA : Nat → ClassId) (ad : Nat → Nat → Nat) (n : Nat) (A : Nat → Prop) (σ : St) (x1 : Int32)  (out : Int32 × St) (hf : f_M_isQueued n σ x1 = some out) : Met l y_M_isQueued ws_M_isQueued ({ frames := 0, cells := 0, slots := 0, locals := 0 }) (va_Pc [.ref (ad 0 0), .int x1] (fun U => MW D cA ad n A σ U.heap ∧ va_K D vCl (atys cA) U)) (va_Qi (fun r u => (r, u) = out) (fun u t => MW D cA ad n A u t.heap ∧ va_K D vCl (atys cA) t) A) 0 0 A := by
  refine Met.ofW (cc := prog_5_method_3_code) (maxL := 2) (ret := (some .boolean)) (by decide) rfl ?_
  intro p e s m args below meth c s₁ B hml hv
  obtain ⟨rfl, hW, hK⟩ := hv
  have hx := B.exec
  have hb := B.bytes
  have hr := B.returns
  have hts := atoms_spec (ws := ws_M_isQueued) B.pre
  have ht : ∀ w ∈ TB, w.before _ s = true := fun w h => hts w (List.mem_cons_of_mem _ h)
  have hown : s.vm.findClass "GridlockDeskModel" = some m.cls := findClass_of_methodNamed B.named
  have hlocks := B.notSynchronized
  have hS : va_S A s.heap s.heap [] := va_S.rf
  have hl := lv_entry ([.ref (ad 0 0), .int x1]) (n := 2) (Nat.le_of_ble_eq_true rfl)
  rw [lg_entry_eq]
  generalize (lg_sl ([.ref (ad 0 0), .int x1]) ++ List.replicate (2 - (lg_sl ([.ref (ad 0 0), .int x1])).length) Slot.unset).toArray = ls at hl ⊢
  have hl : lv_has ls 2 [(0, .ref (ad 0 0)), (1, .int x1)] := hl
  unfold f_M_isQueued at hf

  refine lv_iload_n hx hb d_M_isQueued_0 rfl (lv_at hl 1 rfl) ?_
  refine lv_if_lt (tgt := 25) hx hb d_M_isQueued_1 rfl (fun hc => ?_) (fun hc => ?_)
  · replace hf := og_t hc hf
    refine lv_iconst (v := 0) hx hb d_M_isQueued_25 (by decide) ?_
    exact W.zret hx hb hr rfl (fun t ht hWm => ⟨⟨_, _, rfl, Option.some.inj hf, by rw [ht]; exact hW, va_K.moved hWm.alike hK⟩, hS.F ht⟩) hS.2.2 d_M_isQueued_26
  · replace hf := og_f hc hf
    refine lv_iload_n hx hb d_M_isQueued_4 rfl (lv_at hl 1 rfl) ?_
    refine lv_aload_n hx hb d_M_isQueued_5 rfl (lv_at hl 0 rfl) ?_
    refine va_get (D := D) (ci := 3) (C := "GridlockDeskModel") (T := T_M) (N := 22) hx hb ht hin_M hown hK (hW.1.one (t := 0) rfl) 0 rfl rfl 8 (by decide) (ht _ tw_333) (fun _ h9 => h9) rfl d_M_isQueued_6 ?_
    refine lv_icmp_ge (tgt := 25) hx hb d_M_isQueued_9 rfl (fun hc => ?_) (fun hc => ?_)
    · replace hf := og_t hc hf
      refine lv_iconst (v := 0) hx hb d_M_isQueued_25 (by decide) ?_
      exact W.zret hx hb hr rfl (fun t ht hWm => ⟨⟨_, _, rfl, Option.some.inj hf, by rw [ht]; exact hW, va_K.moved hWm.alike hK⟩, hS.F ht⟩) hS.2.2 d_M_isQueued_26
    · replace hf := og_f hc hf
      refine lv_aload_n hx hb d_M_isQueued_12 rfl (lv_at hl 0 rfl) ?_
      refine va_get (D := D) (ci := 3) (C := "GridlockDeskModel") (T := T_M) (N := 22) hx hb ht hin_M hown hK (hW.1.one (t := 0) rfl) 0 rfl rfl 16 (by decide) (ht _ tw_341) (fun _ h9 => h9) rfl d_M_isQueued_13 ?_
      refine lv_iload_n hx hb d_M_isQueued_16 rfl (lv_at hl 1 rfl) ?_
      obtain ⟨hin1, hf⟩ := og_if hf
      refine va_iald (D := D) hx hb hK (hW.1.one (t := 12) rfl) 0 1 rfl rfl hin1 d_M_isQueued_17 ?_
      refine lv_if_ne (tgt := 25) hx hb d_M_isQueued_18 rfl (fun hc => ?_) (fun hc => ?_)
      · replace hf := og_f hc hf
        refine lv_iconst (v := 0) hx hb d_M_isQueued_25 (by decide) ?_
        exact W.zret hx hb hr rfl (fun t ht hWm => ⟨⟨_, _, rfl, Option.some.inj hf, by rw [ht]; exact hW, va_K.moved hWm.alike hK⟩, hS.F ht⟩) hS.2.2 d_M_isQueued_26
      · replace hf := og_t hc hf
        refine lv_iconst (v := 1) hx hb d_M_isQueued_21 (by decide) ?_
        refine lv_goto (tgt := 26) hx hb d_M_isQueued_22 rfl ?_
        exact W.zret hx hb hr rfl (fun t ht hWm => ⟨⟨_, _, rfl, Option.some.inj hf, by rw [ht]; exact hW, va_K.moved hWm.alike hK⟩, hS.F ht⟩) hS.2.2 d_M_isQueued_26

set_option maxHeartbeats 4000000 in
set_option maxRecDepth 100000 in
theorem m_M_before (l : Launch) (D : va_G) (cA : Nat → ClassId) (ad : Nat → Nat → Nat) (n : Nat) (A : Nat → Prop) (σ : St) (x1 : Int32) (x2 : Int32)  (out : Int32 × St) (hf : f_M_before n σ x1 x2 = some out) : Met l y_M_before ws_M_before ({ frames := 0, cells := 0, slots := 0, locals := 0 }) (va_Pc [.ref (ad 0 0), .int x1, .int x2] (fun U => MW D cA ad n A σ U.heap ∧ va_K D vCl (atys cA) U)) (va_Qi (fun r u => (r, u) = out) (fun u t => MW D cA ad n A u t.heap ∧ va_K D vCl (atys cA) t) A) 0 0 A := by
  refine Met.ofW (cc := prog_5_method_4_code) (maxL := 3) (ret := (some .boolean)) (by decide) rfl ?_
  intro p e s m args below meth c s₁ B hml hv
  obtain ⟨rfl, hW, hK⟩ := hv
  have hx := B.exec
  have hb := B.bytes
  have hr := B.returns
  have hts := atoms_spec (ws := ws_M_before) B.pre
  have ht : ∀ w ∈ TB, w.before _ s = true := fun w h => hts w (List.mem_cons_of_mem _ h)
  have hown : s.vm.findClass "GridlockDeskModel" = some m.cls := findClass_of_methodNamed B.named
  have hlocks := B.notSynchronized
  have hS : va_S A s.heap s.heap [] := va_S.rf
  have hl := lv_entry ([.ref (ad 0 0), .int x1, .int x2]) (n := 3) (Nat.le_of_ble_eq_true rfl)
  rw [lg_entry_eq]
  generalize (lg_sl ([.ref (ad 0 0), .int x1, .int x2]) ++ List.replicate (3 - (lg_sl ([.ref (ad 0 0), .int x1, .int x2])).length) Slot.unset).toArray = ls at hl ⊢
  have hl : lv_has ls 3 [(0, .ref (ad 0 0)), (1, .int x1), (2, .int x2)] := hl
  unfold f_M_before at hf

  refine lv_aload_n hx hb d_M_before_0 rfl (lv_at hl 0 rfl) ?_
  refine va_get (D := D) (ci := 3) (C := "GridlockDeskModel") (T := T_M) (N := 22) hx hb ht hin_M hown hK (hW.1.one (t := 0) rfl) 0 rfl rfl 13 (by decide) (ht _ tw_338) (fun _ h9 => h9) rfl d_M_before_1 ?_
  refine lv_iload_n hx hb d_M_before_4 rfl (lv_at hl 1 rfl) ?_
  obtain ⟨hin1, hf⟩ := og_if hf
  refine va_iald (D := D) hx hb hK (hW.1.one (t := 9) rfl) 0 1 rfl rfl hin1 d_M_before_5 ?_
  refine lv_aload_n hx hb d_M_before_6 rfl (lv_at hl 0 rfl) ?_
  refine va_get (D := D) (ci := 3) (C := "GridlockDeskModel") (T := T_M) (N := 22) hx hb ht hin_M hown hK (hW.1.one (t := 0) rfl) 0 rfl rfl 13 (by decide) (ht _ tw_338) (fun _ h9 => h9) rfl d_M_before_7 ?_
  refine lv_iload_n hx hb d_M_before_10 rfl (lv_at hl 2 rfl) ?_
  obtain ⟨hin2, hf⟩ := og_if hf
  refine va_iald (D := D) hx hb hK (hW.1.one (t := 9) rfl) 0 1 rfl rfl hin2 d_M_before_11 ?_
  refine lv_icmp_gt (tgt := 45) hx hb d_M_before_12 rfl (fun hc => ?_) (fun hc => ?_)
  · replace hf := og_t hc hf
    refine lv_iconst (v := 1) hx hb d_M_before_45 (by decide) ?_
    refine lv_goto (tgt := 50) hx hb d_M_before_46 rfl ?_
    exact W.zret hx hb hr rfl (fun t ht hWm => ⟨⟨_, _, rfl, Option.some.inj hf, by rw [ht]; exact hW, va_K.moved hWm.alike hK⟩, hS.F ht⟩) hS.2.2 d_M_before_50
  · replace hf := og_f hc hf
    refine lv_aload_n hx hb d_M_before_15 rfl (lv_at hl 0 rfl) ?_
    refine va_get (D := D) (ci := 3) (C := "GridlockDeskModel") (T := T_M) (N := 22) hx hb ht hin_M hown hK (hW.1.one (t := 0) rfl) 0 rfl rfl 13 (by decide) (ht _ tw_338) (fun _ h9 => h9) rfl d_M_before_16 ?_
    refine lv_iload_n hx hb d_M_before_19 rfl (lv_at hl 1 rfl) ?_
    obtain ⟨hin3, hf⟩ := og_if hf
    refine va_iald (D := D) hx hb hK (hW.1.one (t := 9) rfl) 0 1 rfl rfl hin3 d_M_before_20 ?_
    refine lv_aload_n hx hb d_M_before_21 rfl (lv_at hl 0 rfl) ?_
    refine va_get (D := D) (ci := 3) (C := "GridlockDeskModel") (T := T_M) (N := 22) hx hb ht hin_M hown hK (hW.1.one (t := 0) rfl) 0 rfl rfl 13 (by decide) (ht _ tw_338) (fun _ h9 => h9) rfl d_M_before_22 ?_
    refine lv_iload_n hx hb d_M_before_25 rfl (lv_at hl 2 rfl) ?_
    obtain ⟨hin4, hf⟩ := og_if hf
    refine va_iald (D := D) hx hb hK (hW.1.one (t := 9) rfl) 0 1 rfl rfl hin4 d_M_before_26 ?_
    refine lv_icmp_ne (tgt := 49) hx hb d_M_before_27 rfl (fun hc => ?_) (fun hc => ?_)
    · replace hf := og_f hc hf
      refine lv_iconst (v := 0) hx hb d_M_before_49 (by decide) ?_
      exact W.zret hx hb hr rfl (fun t ht hWm => ⟨⟨_, _, rfl, Option.some.inj hf, by rw [ht]; exact hW, va_K.moved hWm.alike hK⟩, hS.F ht⟩) hS.2.2 d_M_before_50
    · replace hf := og_t hc hf
      refine lv_aload_n hx hb d_M_before_30 rfl (lv_at hl 0 rfl) ?_
      refine va_get (D := D) (ci := 3) (C := "GridlockDeskModel") (T := T_M) (N := 22) hx hb ht hin_M hown hK (hW.1.one (t := 0) rfl) 0 rfl rfl 15 (by decide) (ht _ tw_340) (fun _ h9 => h9) rfl d_M_before_31 ?_
      refine lv_iload_n hx hb d_M_before_34 rfl (lv_at hl 1 rfl) ?_
      obtain ⟨hin5, hf⟩ := og_if hf
      refine va_iald (D := D) hx hb hK (hW.1.one (t := 11) rfl) 0 1 rfl rfl hin5 d_M_before_35 ?_
      refine lv_aload_n hx hb d_M_before_36 rfl (lv_at hl 0 rfl) ?_
      refine va_get (D := D) (ci := 3) (C := "GridlockDeskModel") (T := T_M) (N := 22) hx hb ht hin_M hown hK (hW.1.one (t := 0) rfl) 0 rfl rfl 15 (by decide) (ht _ tw_340) (fun _ h9 => h9) rfl d_M_before_37 ?_
      refine lv_iload_n hx hb d_M_before_40 rfl (lv_at hl 2 rfl) ?_
      obtain ⟨hin6, hf⟩ := og_if hf
      refine va_iald (D := D) hx hb hK (hW.1.one (t := 11) rfl) 0 1 rfl rfl hin6 d_M_before_41 ?_
      refine lv_icmp_ge (tgt := 49) hx hb d_M_before_42 rfl (fun hc => ?_) (fun hc => ?_)
      · replace hf := og_t hc hf
        refine lv_iconst (v := 0) hx hb d_M_before_49 (by decide) ?_
        exact W.zret hx hb hr rfl (fun t ht hWm => ⟨⟨_, _, rfl, Option.some.inj hf, by rw [ht]; exact hW, va_K.moved hWm.alike hK⟩, hS.F ht⟩) hS.2.2 d_M_before_50
      · replace hf := og_f hc hf
        refine lv_iconst (v := 1) hx hb d_M_before_45 (by decide) ?_
        refine lv_goto (tgt := 50) hx hb d_M_before_46 rfl ?_
        exact W.zret hx hb hr rfl (fun t ht hWm => ⟨⟨_, _, rfl, Option.some.inj hf, by rw [ht]; exact hW, va_K.moved hWm.alike hK⟩, hS.F ht⟩) hS.2.2 d_M_before_50

set_option maxHeartbeats 4000000 in
set_option maxRecDepth 100000 in
theorem lp_M_lineUp_2_ok {p : Program} {l : Launch} {e : Env} {s : State} {m : MethodId} {args : Array Value} {below : List Frame} {meth : Method} {c : Code} (D : va_G) (cA : Nat → ClassId) (ad : Nat → Nat → Nat) (n : Nat) (A : Nat → Prop) (hx : p.tables.exec = Jvm.exec) (hb : c.code = prog_5_method_5_code) (hml : c.maxLocals = 5) (hr : meth.sig.returnType = none) (hts : ∀ w ∈ ws_M_lineUp, w.before args s = true) (hown : s.vm.findClass "GridlockDeskModel" = some m.cls) (hlocks : meth.locks = false) (hK : va_K D vCl (atys cA) s) (k : St → Option (Unit × St)) (out : Unit × St)  (hk : ∀ (σ : St)  (H : Heap) (locs : List Loc) (ls : Array Slot), lv_has ls 5 [(0, .ref (ad 0 0))] → MW D cA ad n A σ H → va_S A s.heap H locs → k σ  = some out → W p l e (headSpec ws_M_lineUp ({ frames := 1, cells := 0, slots := 0, locals := 22 })).room s m args below meth c H locs 0 0 (MQ below (va_Qv (fun u => ((), u) = out) (fun u t => MW D cA ad n A u t.heap ∧ va_K D vCl (atys cA) t) A) args s 0 0 A) (F0 m 20 ls [])) : ∀ (fu : Nat) (σ : St) (v1 : Int32) (H : Heap) (locs : List Loc) (ls : Array Slot), lv_has ls 5 [(0, .ref (ad 0 0)), (1, .int v1)] → MW D cA ad n A σ H → va_S A s.heap H locs → lp_M_lineUp_2 n k fu σ v1 = some out → W p l e (headSpec ws_M_lineUp ({ frames := 1, cells := 0, slots := 0, locals := 22 })).room s m args below meth c H locs 0 0 (MQ below (va_Qv (fun u => ((), u) = out) (fun u t => MW D cA ad n A u t.heap ∧ va_K D vCl (atys cA) t) A) args s 0 0 A) (F0 m 2 ls []) := by
  intro fu
  induction fu with
  | zero =>
    intro σ v1 H locs ls  hl hW hS hf
    exact og_n hf
  | succ fu ih =>
    intro σ v1 H locs ls  hl hW hS hf
    rw [lp_M_lineUp_2_s] at hf
    have ht : ∀ w ∈ TB, w.before args s = true := fun w h => hts w (List.mem_cons_of_mem _ h)
    refine lv_iload_n hx hb d_M_lineUp_2 rfl (lv_at hl 1 rfl) ?_
    refine lv_iconst (v := 4) hx hb d_M_lineUp_3 (by decide) ?_
    refine lv_icmp_ge (tgt := 20) hx hb d_M_lineUp_4 rfl (fun hc => ?_) (fun hc => ?_)
    · replace hf := og_t hc hf
      exact hk _  _ _ _  (lv_sub hl [0] rfl) hW hS hf
    · replace hf := og_f hc hf
      refine lv_aload_n hx hb d_M_lineUp_7 rfl (lv_at hl 0 rfl) ?_
      refine va_get (D := D) (ci := 3) (C := "GridlockDeskModel") (T := T_M) (N := 22) hx hb ht hin_M hown hK (hW.1.one (t := 0) rfl) 0 rfl rfl 18 (by decide) (ht _ tw_343) (fun _ h9 => h9) rfl d_M_lineUp_8 ?_
      refine lv_iload_n hx hb d_M_lineUp_11 rfl (lv_at hl 1 rfl) ?_
      refine lv_iconst (v := 0) hx hb d_M_lineUp_12 (by decide) ?_
      obtain ⟨hin1, hf⟩ := og_if hf
      obtain ⟨σ2, eσ2, hf⟩ := og_b hf
      cases eσ2
      refine k_iast  (t := 14) hx hb hK hW.1 hS rfl (hW.2 _ _ rfl) 1 rfl rfl hin1 d_M_lineUp_13 mm_wI11 (fun H locs hW1 hS => ?_)
      have hW := MW.wI hW1 hW.2
      refine lv_iinc (k := 1) (v := _ + 1) (lv' := [(1, .int _), (0, .ref _)]) hx hb d_M_lineUp_14 hl rfl rfl (by decide) rfl (fun ls hl => ?_)
      refine lv_goto (tgt := 2) hx hb d_M_lineUp_17 rfl ?_
      exact ih _ _ _ _ _  (lv_sub hl [1, 0] rfl) hW hS hf

set_option maxHeartbeats 4000000 in
set_option maxRecDepth 100000 in
theorem lp_M_lineUp_43_ok {p : Program} {l : Launch} {e : Env} {s : State} {m : MethodId} {args : Array Value} {below : List Frame} {meth : Method} {c : Code} (D : va_G) (cA : Nat → ClassId) (ad : Nat → Nat → Nat) (n : Nat) (A : Nat → Prop) (hx : p.tables.exec = Jvm.exec) (hb : c.code = prog_5_method_5_code) (hml : c.maxLocals = 5) (hr : meth.sig.returnType = none) (hts : ∀ w ∈ ws_M_lineUp, w.before args s = true) (hown : s.vm.findClass "GridlockDeskModel" = some m.cls) (hlocks : meth.locks = false) (hK : va_K D vCl (atys cA) s) (k : St → Int32 → Option (Unit × St)) (out : Unit × St) (v1 : Int32) (hk : ∀ (σ : St) (v2 : Int32) (H : Heap) (locs : List Loc) (ls : Array Slot), lv_has ls 5 [(0, .ref (ad 0 0)), (1, .int v1), (2, .int v2)] → MW D cA ad n A σ H → va_S A s.heap H locs → k σ v2 = some out → W p l e (headSpec ws_M_lineUp ({ frames := 1, cells := 0, slots := 0, locals := 22 })).room s m args below meth c H locs 0 0 (MQ below (va_Qv (fun u => ((), u) = out) (fun u t => MW D cA ad n A u t.heap ∧ va_K D vCl (atys cA) t) A) args s 0 0 A) (F0 m 110 ls [])) : ∀ (fu : Nat) (σ : St) (v2 : Int32) (v3 : Int32) (H : Heap) (locs : List Loc) (ls : Array Slot), lv_has ls 5 [(0, .ref (ad 0 0)), (1, .int v1), (2, .int v2), (3, .int v3)] → MW D cA ad n A σ H → va_S A s.heap H locs → lp_M_lineUp_43 n k fu σ v1 v2 v3 = some out → W p l e (headSpec ws_M_lineUp ({ frames := 1, cells := 0, slots := 0, locals := 22 })).room s m args below meth c H locs 0 0 (MQ below (va_Qv (fun u => ((), u) = out) (fun u t => MW D cA ad n A u t.heap ∧ va_K D vCl (atys cA) t) A) args s 0 0 A) (F0 m 43 ls []) := by
  intro fu
  induction fu with
  | zero =>
    intro σ v2 v3 H locs ls  hl hW hS hf
    exact og_n hf
  | succ fu ih =>
    intro σ v2 v3 H locs ls  hl hW hS hf
    rw [lp_M_lineUp_43_s] at hf
    have ht : ∀ w ∈ TB, w.before args s = true := fun w h => hts w (List.mem_cons_of_mem _ h)
    refine lv_iload_n hx hb d_M_lineUp_43 rfl (lv_at hl 3 rfl) ?_
    refine lv_aload_n hx hb d_M_lineUp_44 rfl (lv_at hl 0 rfl) ?_
    refine va_get (D := D) (ci := 3) (C := "GridlockDeskModel") (T := T_M) (N := 22) hx hb ht hin_M hown hK (hW.1.one (t := 0) rfl) 0 rfl rfl 8 (by decide) (ht _ tw_333) (fun _ h9 => h9) rfl d_M_lineUp_45 ?_
    refine lv_icmp_ge (tgt := 110) hx hb d_M_lineUp_48 rfl (fun hc => ?_) (fun hc => ?_)
    · replace hf := og_t hc hf
      exact hk _ _ _ _ _  (lv_sub hl [0, 1, 2] rfl) hW hS hf
    · replace hf := og_f hc hf
      refine lv_aload_n hx hb d_M_lineUp_51 rfl (lv_at hl 0 rfl) ?_
      refine va_get (D := D) (ci := 3) (C := "GridlockDeskModel") (T := T_M) (N := 22) hx hb ht hin_M hown hK (hW.1.one (t := 0) rfl) 0 rfl rfl 16 (by decide) (ht _ tw_341) (fun _ h9 => h9) rfl d_M_lineUp_52 ?_
      refine lv_iload_n hx hb d_M_lineUp_55 rfl (lv_at hl 3 rfl) ?_
      obtain ⟨hin5, hf⟩ := og_if hf
      refine va_iald (D := D) hx hb hK (hW.1.one (t := 12) rfl) 0 1 rfl rfl hin5 d_M_lineUp_56 ?_
      refine lv_if_ne (tgt := 88) hx hb d_M_lineUp_57 rfl (fun hc => ?_) (fun hc => ?_)
      · replace hf := og_f hc hf
        refine lv_iconst (v := 0) hx hb d_M_lineUp_88 (by decide) ?_
        refine lv_istore (lv' := [(4, .int _), (0, .ref _), (1, .int _), (2, .int _), (3, .int _)]) hx hb d_M_lineUp_89 hl (by decide) rfl (fun ls hl => ?_)
        refine lv_iload hx hb d_M_lineUp_91 (lv_at hl 0 rfl) ?_
        refine lv_if_eq (tgt := 102) hx hb d_M_lineUp_93 rfl (fun _ => ?_) (fun hc => absurd (by decide) hc)
        refine lv_iload_n hx hb d_M_lineUp_102 rfl (lv_at hl 3 rfl) ?_
        refine lv_istore_n (lv' := [(2, .int _), (4, .int _), (0, .ref _), (1, .int _), (3, .int _)]) hx hb d_M_lineUp_103 rfl hl (by decide) rfl (fun ls hl => ?_)
        refine lv_iinc (k := 4) (v := _ + 1) (lv' := [(3, .int _), (2, .int _), (4, .int _), (0, .ref _), (1, .int _)]) hx hb d_M_lineUp_104 hl rfl rfl (by decide) rfl (fun ls hl => ?_)
        refine lv_goto (tgt := 43) hx hb d_M_lineUp_107 rfl ?_
        exact ih _ _ _ _ _ _  (lv_sub hl [3, 4, 1, 0] rfl) hW hS hf
      · replace hf := og_t hc hf
        refine lv_aload_n hx hb d_M_lineUp_60 rfl (lv_at hl 0 rfl) ?_
        refine va_get (D := D) (ci := 3) (C := "GridlockDeskModel") (T := T_M) (N := 22) hx hb ht hin_M hown hK (hW.1.one (t := 0) rfl) 0 rfl rfl 10 (by decide) (ht _ tw_335) (fun _ h9 => h9) rfl d_M_lineUp_61 ?_
        refine lv_iload_n hx hb d_M_lineUp_64 rfl (lv_at hl 3 rfl) ?_
        obtain ⟨hin6, hf⟩ := og_if hf
        refine va_iald (D := D) hx hb hK (hW.1.one (t := 6) rfl) 0 1 rfl rfl hin6 d_M_lineUp_65 ?_
        refine lv_aload_n hx hb d_M_lineUp_66 rfl (lv_at hl 0 rfl) ?_
        refine va_get (D := D) (ci := 3) (C := "GridlockDeskModel") (T := T_M) (N := 22) hx hb ht hin_M hown hK (hW.1.one (t := 0) rfl) 0 rfl rfl 10 (by decide) (ht _ tw_335) (fun _ h9 => h9) rfl d_M_lineUp_67 ?_
        refine lv_iload_n hx hb d_M_lineUp_70 rfl (lv_at hl 1 rfl) ?_
        obtain ⟨hin7, hf⟩ := og_if hf
        refine va_iald (D := D) hx hb hK (hW.1.one (t := 6) rfl) 0 1 rfl rfl hin7 d_M_lineUp_71 ?_
        refine lv_icmp_ne (tgt := 88) hx hb d_M_lineUp_72 rfl (fun hc => ?_) (fun hc => ?_)
        · replace hf := og_f hc hf
          refine lv_iconst (v := 0) hx hb d_M_lineUp_88 (by decide) ?_
          refine lv_istore (lv' := [(4, .int _), (0, .ref _), (1, .int _), (2, .int _), (3, .int _)]) hx hb d_M_lineUp_89 hl (by decide) rfl (fun ls hl => ?_)
          refine lv_iload hx hb d_M_lineUp_91 (lv_at hl 0 rfl) ?_
          refine lv_if_eq (tgt := 102) hx hb d_M_lineUp_93 rfl (fun _ => ?_) (fun hc => absurd (by decide) hc)
          refine lv_iload_n hx hb d_M_lineUp_102 rfl (lv_at hl 3 rfl) ?_
          refine lv_istore_n (lv' := [(2, .int _), (4, .int _), (0, .ref _), (1, .int _), (3, .int _)]) hx hb d_M_lineUp_103 rfl hl (by decide) rfl (fun ls hl => ?_)
          refine lv_iinc (k := 4) (v := _ + 1) (lv' := [(3, .int _), (2, .int _), (4, .int _), (0, .ref _), (1, .int _)]) hx hb d_M_lineUp_104 hl rfl rfl (by decide) rfl (fun ls hl => ?_)
          refine lv_goto (tgt := 43) hx hb d_M_lineUp_107 rfl ?_
          exact ih _ _ _ _ _ _  (lv_sub hl [3, 4, 1, 0] rfl) hW hS hf
        · replace hf := og_t hc hf
          refine lv_aload_n hx hb d_M_lineUp_75 rfl (lv_at hl 0 rfl) ?_
          refine lv_iload_n hx hb d_M_lineUp_76 rfl (lv_at hl 3 rfl) ?_
          refine lv_iload_n hx hb d_M_lineUp_77 rfl (lv_at hl 1 rfl) ?_
          obtain ⟨o8, ho8, hf⟩ := og_b hf
          refine kc_i (P := (fun u H => MW D cA ad n A u H)) (va_runV (C := "GridlockDeskModel") (As := [.int _, .int _]) (rest := []) ⟨hx, hb, hml, hown, hts⟩ (m_M_before l D cA ad n A _  _ _  o8 ho8) (cwV 2 hts (tb_V tw_400 tw_402 tw_17 tw_35 tw_403) rfl rfl rfl (by decide +kernel) ⟨Nat.le_of_ble_eq_true rfl, Nat.le_of_ble_eq_true rfl⟩) ⟨k_blind, kw.recv hK hW.1 (t := 0) rfl rfl rfl, k_pre hW hK⟩ rfl rfl hl.1 rfl (lv_room (Nat.le_of_ble_eq_true rfl)) d_M_lineUp_78 ⟨Nat.zero_le _, Nat.zero_le _⟩) hS (fun H locs hW hS => ?_)
          refine lv_if_eq (tgt := 88) hx hb d_M_lineUp_81 rfl (fun hc => ?_) (fun hc => ?_)
          · replace hf := og_t hc hf
            refine lv_iconst (v := 0) hx hb d_M_lineUp_88 (by decide) ?_
            refine lv_istore (lv' := [(4, .int _), (0, .ref _), (1, .int _), (2, .int _), (3, .int _)]) hx hb d_M_lineUp_89 hl (by decide) rfl (fun ls hl => ?_)
            refine lv_iload hx hb d_M_lineUp_91 (lv_at hl 0 rfl) ?_
            refine lv_if_eq (tgt := 102) hx hb d_M_lineUp_93 rfl (fun _ => ?_) (fun hc => absurd (by decide) hc)
            refine lv_iload_n hx hb d_M_lineUp_102 rfl (lv_at hl 3 rfl) ?_
            refine lv_istore_n (lv' := [(2, .int _), (4, .int _), (0, .ref _), (1, .int _), (3, .int _)]) hx hb d_M_lineUp_103 rfl hl (by decide) rfl (fun ls hl => ?_)
            refine lv_iinc (k := 4) (v := _ + 1) (lv' := [(3, .int _), (2, .int _), (4, .int _), (0, .ref _), (1, .int _)]) hx hb d_M_lineUp_104 hl rfl rfl (by decide) rfl (fun ls hl => ?_)
            refine lv_goto (tgt := 43) hx hb d_M_lineUp_107 rfl ?_
            exact ih _ _ _ _ _ _  (lv_sub hl [3, 4, 1, 0] rfl) hW hS hf
          · replace hf := og_f hc hf
            refine lv_iconst (v := 1) hx hb d_M_lineUp_84 (by decide) ?_
            refine lv_goto (tgt := 89) hx hb d_M_lineUp_85 rfl ?_
            refine lv_istore (lv' := [(4, .int _), (0, .ref _), (1, .int _), (2, .int _), (3, .int _)]) hx hb d_M_lineUp_89 hl (by decide) rfl (fun ls hl => ?_)
            refine lv_iload hx hb d_M_lineUp_91 (lv_at hl 0 rfl) ?_
            refine lv_if_eq (tgt := 102) hx hb d_M_lineUp_93 rfl (fun hc => absurd hc (by decide)) (fun _ => ?_)
            refine lv_iload_n hx hb d_M_lineUp_96 rfl (lv_at hl 3 rfl) ?_
            refine lv_iconst (v := 1) hx hb d_M_lineUp_97 (by decide) ?_
            refine lv_iadd hx hb d_M_lineUp_98 ?_
            refine lv_goto (tgt := 103) hx hb d_M_lineUp_99 rfl ?_
            refine lv_istore_n (lv' := [(2, .int _), (4, .int _), (0, .ref _), (1, .int _), (3, .int _)]) hx hb d_M_lineUp_103 rfl hl (by decide) rfl (fun ls hl => ?_)
            refine lv_iinc (k := 4) (v := _ + 1) (lv' := [(3, .int _), (2, .int _), (4, .int _), (0, .ref _), (1, .int _)]) hx hb d_M_lineUp_104 hl rfl rfl (by decide) rfl (fun ls hl => ?_)
            refine lv_goto (tgt := 43) hx hb d_M_lineUp_107 rfl ?_
            exact ih _ _ _ _ _ _  (lv_sub hl [3, 4, 1, 0] rfl) hW hS hf

set_option maxHeartbeats 4000000 in
set_option maxRecDepth 100000 in
theorem lp_M_lineUp_22_ok {p : Program} {l : Launch} {e : Env} {s : State} {m : MethodId} {args : Array Value} {below : List Frame} {meth : Method} {c : Code} (D : va_G) (cA : Nat → ClassId) (ad : Nat → Nat → Nat) (n : Nat) (A : Nat → Prop) (hx : p.tables.exec = Jvm.exec) (hb : c.code = prog_5_method_5_code) (hml : c.maxLocals = 5) (hr : meth.sig.returnType = none) (hts : ∀ w ∈ ws_M_lineUp, w.before args s = true) (hown : s.vm.findClass "GridlockDeskModel" = some m.cls) (hlocks : meth.locks = false) (hK : va_K D vCl (atys cA) s) (k : St → Option (Unit × St)) (out : Unit × St)  (hk : ∀ (σ : St)  (H : Heap) (locs : List Loc) (ls : Array Slot), lv_has ls 5 [] → MW D cA ad n A σ H → va_S A s.heap H locs → k σ  = some out → W p l e (headSpec ws_M_lineUp ({ frames := 1, cells := 0, slots := 0, locals := 22 })).room s m args below meth c H locs 0 0 (MQ below (va_Qv (fun u => ((), u) = out) (fun u t => MW D cA ad n A u t.heap ∧ va_K D vCl (atys cA) t) A) args s 0 0 A) (F0 m 157 ls [])) : ∀ (fu : Nat) (σ : St) (v1 : Int32) (H : Heap) (locs : List Loc) (ls : Array Slot), lv_has ls 5 [(0, .ref (ad 0 0)), (1, .int v1)] → MW D cA ad n A σ H → va_S A s.heap H locs → lp_M_lineUp_22 n k fu σ v1 = some out → W p l e (headSpec ws_M_lineUp ({ frames := 1, cells := 0, slots := 0, locals := 22 })).room s m args below meth c H locs 0 0 (MQ below (va_Qv (fun u => ((), u) = out) (fun u t => MW D cA ad n A u t.heap ∧ va_K D vCl (atys cA) t) A) args s 0 0 A) (F0 m 22 ls []) := by
  intro fu
  induction fu with
  | zero =>
    intro σ v1 H locs ls  hl hW hS hf
    exact og_n hf
  | succ fu ih =>
    intro σ v1 H locs ls  hl hW hS hf
    rw [lp_M_lineUp_22_s] at hf
    have ht : ∀ w ∈ TB, w.before args s = true := fun w h => hts w (List.mem_cons_of_mem _ h)
    refine lv_iload_n hx hb d_M_lineUp_22 rfl (lv_at hl 1 rfl) ?_
    refine lv_aload_n hx hb d_M_lineUp_23 rfl (lv_at hl 0 rfl) ?_
    refine va_get (D := D) (ci := 3) (C := "GridlockDeskModel") (T := T_M) (N := 22) hx hb ht hin_M hown hK (hW.1.one (t := 0) rfl) 0 rfl rfl 8 (by decide) (ht _ tw_333) (fun _ h9 => h9) rfl d_M_lineUp_24 ?_
    refine lv_icmp_ge (tgt := 157) hx hb d_M_lineUp_27 rfl (fun hc => ?_) (fun hc => ?_)
    · replace hf := og_t hc hf
      exact hk _  _ _ _  (lv_sub hl [] rfl) hW hS hf
    · replace hf := og_f hc hf
      refine lv_aload_n hx hb d_M_lineUp_30 rfl (lv_at hl 0 rfl) ?_
      refine va_get (D := D) (ci := 3) (C := "GridlockDeskModel") (T := T_M) (N := 22) hx hb ht hin_M hown hK (hW.1.one (t := 0) rfl) 0 rfl rfl 16 (by decide) (ht _ tw_341) (fun _ h9 => h9) rfl d_M_lineUp_31 ?_
      refine lv_iload_n hx hb d_M_lineUp_34 rfl (lv_at hl 1 rfl) ?_
      obtain ⟨hin4, hf⟩ := og_if hf
      refine va_iald (D := D) hx hb hK (hW.1.one (t := 12) rfl) 0 1 rfl rfl hin4 d_M_lineUp_35 ?_
      refine lv_if_ne (tgt := 151) hx hb d_M_lineUp_36 rfl (fun hc => ?_) (fun hc => ?_)
      · replace hf := og_f hc hf
        refine lv_iinc (k := 1) (v := _ + 1) (lv' := [(1, .int _), (0, .ref _)]) hx hb d_M_lineUp_151 hl rfl rfl (by decide) rfl (fun ls hl => ?_)
        refine lv_goto (tgt := 22) hx hb d_M_lineUp_154 rfl ?_
        exact ih _ _ _ _ _  (lv_sub hl [1, 0] rfl) hW hS hf
      · replace hf := og_t hc hf
        refine lv_iconst (v := 0) hx hb d_M_lineUp_39 (by decide) ?_
        refine lv_istore_n (lv' := [(2, .int _), (0, .ref _), (1, .int _)]) hx hb d_M_lineUp_40 rfl hl (by decide) rfl (fun ls hl => ?_)
        refine lv_iconst (v := 0) hx hb d_M_lineUp_41 (by decide) ?_
        refine lv_istore_n (lv' := [(3, .int _), (2, .int _), (0, .ref _), (1, .int _)]) hx hb d_M_lineUp_42 rfl hl (by decide) rfl (fun ls hl => ?_)
        refine lp_M_lineUp_43_ok D cA ad n A hx hb hml hr hts hown hlocks hK _ _ _ (fun σ10 y2_9 H locs ls  hl hW hS hf => ?_) _ _ _ _ _ _ _  (lv_sub hl [2, 3, 1, 0] rfl) hW hS hf
        refine lv_aload_n hx hb d_M_lineUp_110 rfl (lv_at hl 0 rfl) ?_
        refine va_get (D := D) (ci := 3) (C := "GridlockDeskModel") (T := T_M) (N := 22) hx hb ht hin_M hown hK (hW.1.one (t := 0) rfl) 0 rfl rfl 17 (by decide) (ht _ tw_342) (fun _ h9 => h9) rfl d_M_lineUp_111 ?_
        refine lv_bipush (v := 6) hx hb d_M_lineUp_114 (by decide) ?_
        refine lv_aload_n hx hb d_M_lineUp_116 rfl (lv_at hl 0 rfl) ?_
        refine va_get (D := D) (ci := 3) (C := "GridlockDeskModel") (T := T_M) (N := 22) hx hb ht hin_M hown hK (hW.1.one (t := 0) rfl) 0 rfl rfl 10 (by decide) (ht _ tw_335) (fun _ h9 => h9) rfl d_M_lineUp_117 ?_
        refine lv_iload_n hx hb d_M_lineUp_120 rfl (lv_at hl 1 rfl) ?_
        obtain ⟨hin11, hf⟩ := og_if hf
        refine va_iald (D := D) hx hb hK (hW.1.one (t := 6) rfl) 0 1 rfl rfl hin11 d_M_lineUp_121 ?_
        refine lv_imul hx hb d_M_lineUp_122 ?_
        refine lv_iload_n hx hb d_M_lineUp_123 rfl (lv_at hl 2 rfl) ?_
        refine lv_iadd hx hb d_M_lineUp_124 ?_
        refine lv_iload_n hx hb d_M_lineUp_125 rfl (lv_at hl 1 rfl) ?_
        obtain ⟨hin12, hf⟩ := og_if hf
        obtain ⟨σ13, eσ13, hf⟩ := og_b hf
        cases eσ13
        refine k_iast  (t := 13) hx hb hK hW.1 hS rfl (hW.2 _ _ rfl) 1 rfl rfl hin12 d_M_lineUp_126 mm_wI10 (fun H locs hW1 hS => ?_)
        have hW := MW.wI hW1 hW.2
        refine lv_aload_n hx hb d_M_lineUp_127 rfl (lv_at hl 0 rfl) ?_
        refine va_get (D := D) (ci := 3) (C := "GridlockDeskModel") (T := T_M) (N := 22) hx hb ht hin_M hown hK (hW.1.one (t := 0) rfl) 0 rfl rfl 18 (by decide) (ht _ tw_343) (fun _ h9 => h9) rfl d_M_lineUp_128 ?_
        refine lv_aload_n hx hb d_M_lineUp_131 rfl (lv_at hl 0 rfl) ?_
        refine va_get (D := D) (ci := 3) (C := "GridlockDeskModel") (T := T_M) (N := 22) hx hb ht hin_M hown hK (hW.1.one (t := 0) rfl) 0 rfl rfl 10 (by decide) (ht _ tw_335) (fun _ h9 => h9) rfl d_M_lineUp_132 ?_
        refine lv_iload_n hx hb d_M_lineUp_135 rfl (lv_at hl 1 rfl) ?_
        obtain ⟨hin14, hf⟩ := og_if hf
        refine va_iald (D := D) hx hb hK (hW.1.one (t := 6) rfl) 0 1 rfl rfl hin14 d_M_lineUp_136 ?_
        refine lv_aload_n hx hb d_M_lineUp_137 rfl (lv_at hl 0 rfl) ?_
        refine va_get (D := D) (ci := 3) (C := "GridlockDeskModel") (T := T_M) (N := 22) hx hb ht hin_M hown hK (hW.1.one (t := 0) rfl) 0 rfl rfl 18 (by decide) (ht _ tw_343) (fun _ h9 => h9) rfl d_M_lineUp_138 ?_
        refine lv_aload_n hx hb d_M_lineUp_141 rfl (lv_at hl 0 rfl) ?_
        refine va_get (D := D) (ci := 3) (C := "GridlockDeskModel") (T := T_M) (N := 22) hx hb ht hin_M hown hK (hW.1.one (t := 0) rfl) 0 rfl rfl 10 (by decide) (ht _ tw_335) (fun _ h9 => h9) rfl d_M_lineUp_142 ?_
        refine lv_iload_n hx hb d_M_lineUp_145 rfl (lv_at hl 1 rfl) ?_
        obtain ⟨hin15, hf⟩ := og_if hf
        refine va_iald (D := D) hx hb hK (hW.1.one (t := 6) rfl) 0 1 rfl rfl hin15 d_M_lineUp_146 ?_
        obtain ⟨hin16, hf⟩ := og_if hf
        refine va_iald (D := D) hx hb hK (hW.1.one (t := 14) rfl) 0 1 rfl rfl hin16 d_M_lineUp_147 ?_
        refine lv_iconst (v := 1) hx hb d_M_lineUp_148 (by decide) ?_
        refine lv_iadd hx hb d_M_lineUp_149 ?_
        obtain ⟨hin17, hf⟩ := og_if hf
        obtain ⟨σ18, eσ18, hf⟩ := og_b hf
        cases eσ18
        refine k_iast  (t := 14) hx hb hK hW.1 hS rfl (hW.2 _ _ rfl) 1 rfl rfl hin17 d_M_lineUp_150 mm_wI11 (fun H locs hW1 hS => ?_)
        have hW := MW.wI hW1 hW.2
        refine lv_iinc (k := 1) (v := _ + 1) (lv' := [(1, .int _), (0, .ref _), (2, .int _)]) hx hb d_M_lineUp_151 hl rfl rfl (by decide) rfl (fun ls hl => ?_)
        refine lv_goto (tgt := 22) hx hb d_M_lineUp_154 rfl ?_
        exact ih _ _ _ _ _  (lv_sub hl [1, 0] rfl) hW hS hf

set_option maxHeartbeats 4000000 in
set_option maxRecDepth 100000 in
theorem m_M_lineUp (l : Launch) (D : va_G) (cA : Nat → ClassId) (ad : Nat → Nat → Nat) (n : Nat) (A : Nat → Prop) (σ : St)   (out : Unit × St) (hf : f_M_lineUp n σ  = some out) : Met l y_M_lineUp ws_M_lineUp ({ frames := 1, cells := 0, slots := 0, locals := 22 }) (va_Pc [.ref (ad 0 0)] (fun U => MW D cA ad n A σ U.heap ∧ va_K D vCl (atys cA) U)) (va_Qv (fun u => ((), u) = out) (fun u t => MW D cA ad n A u t.heap ∧ va_K D vCl (atys cA) t) A) 0 0 A := by
  refine Met.ofW (cc := prog_5_method_5_code) (maxL := 5) (ret := none) (by decide) rfl ?_
  intro p e s m args below meth c s₁ B hml hv
  obtain ⟨rfl, hW, hK⟩ := hv
  have hx := B.exec
  have hb := B.bytes
  have hr := B.returns
  have hts := atoms_spec (ws := ws_M_lineUp) B.pre
  have ht : ∀ w ∈ TB, w.before _ s = true := fun w h => hts w (List.mem_cons_of_mem _ h)
  have hown : s.vm.findClass "GridlockDeskModel" = some m.cls := findClass_of_methodNamed B.named
  have hlocks := B.notSynchronized
  have hS : va_S A s.heap s.heap [] := va_S.rf
  have hl := lv_entry ([.ref (ad 0 0)]) (n := 5) (Nat.le_of_ble_eq_true rfl)
  rw [lg_entry_eq]
  generalize (lg_sl ([.ref (ad 0 0)]) ++ List.replicate (5 - (lg_sl ([.ref (ad 0 0)])).length) Slot.unset).toArray = ls at hl ⊢
  have hl : lv_has ls 5 [(0, .ref (ad 0 0))] := hl
  unfold f_M_lineUp at hf

  refine lv_iconst (v := 0) hx hb d_M_lineUp_0 (by decide) ?_
  refine lv_istore_n (lv' := [(1, .int _), (0, .ref _)]) hx hb d_M_lineUp_1 rfl hl (by decide) rfl (fun ls hl => ?_)
  refine lp_M_lineUp_2_ok D cA ad n A hx hb hml hr hts hown hlocks hK _ _  (fun σ3 H locs ls  hl hW hS hf => ?_) _ _ _ _ _ _  (lv_sub hl [1, 0] rfl) hW hS hf
  refine lv_iconst (v := 0) hx hb d_M_lineUp_20 (by decide) ?_
  refine lv_istore_n (lv' := [(1, .int _), (0, .ref _)]) hx hb d_M_lineUp_21 rfl hl (by decide) rfl (fun ls hl => ?_)
  refine lp_M_lineUp_22_ok D cA ad n A hx hb hml hr hts hown hlocks hK _ _  (fun σ19 H locs ls  hl hW hS hf => ?_) _ _ _ _ _ _  (lv_sub hl [1, 0] rfl) hW hS hf
  exact W.vret hx hb hr (fun t ht hWm => ⟨⟨_, rfl, Option.some.inj hf, by rw [ht]; exact hW, va_K.moved hWm.alike hK⟩, hS.F ht⟩) hS.2.2 d_M_lineUp_157

set_option maxHeartbeats 4000000 in
set_option maxRecDepth 100000 in
theorem lp_M_now0_2_ok {p : Program} {l : Launch} {e : Env} {s : State} {m : MethodId} {args : Array Value} {below : List Frame} {meth : Method} {c : Code} (D : va_G) (cA : Nat → ClassId) (ad : Nat → Nat → Nat) (n : Nat) (A : Nat → Prop) (hx : p.tables.exec = Jvm.exec) (hb : c.code = prog_5_method_6_code) (hml : c.maxLocals = 2) (hr : meth.sig.returnType = none) (hts : ∀ w ∈ ws_M_now0, w.before args s = true) (hown : s.vm.findClass "GridlockDeskModel" = some m.cls) (hlocks : meth.locks = false) (hK : va_K D vCl (atys cA) s) (k : St → Option (Unit × St)) (out : Unit × St)  (hk : ∀ (σ : St)  (H : Heap) (locs : List Loc) (ls : Array Slot), lv_has ls 2 [(0, .ref (ad 0 0))] → MW D cA ad n A σ H → va_S A s.heap H locs → k σ  = some out → W p l e (headSpec ws_M_now0 ({ frames := 0, cells := 0, slots := 0, locals := 0 })).room s m args below meth c H locs 0 0 (MQ below (va_Qv (fun u => ((), u) = out) (fun u t => MW D cA ad n A u t.heap ∧ va_K D vCl (atys cA) t) A) args s 0 0 A) (F0 m 25 ls [])) : ∀ (fu : Nat) (σ : St) (v1 : Int32) (H : Heap) (locs : List Loc) (ls : Array Slot), lv_has ls 2 [(0, .ref (ad 0 0)), (1, .int v1)] → MW D cA ad n A σ H → va_S A s.heap H locs → lp_M_now0_2 n k fu σ v1 = some out → W p l e (headSpec ws_M_now0 ({ frames := 0, cells := 0, slots := 0, locals := 0 })).room s m args below meth c H locs 0 0 (MQ below (va_Qv (fun u => ((), u) = out) (fun u t => MW D cA ad n A u t.heap ∧ va_K D vCl (atys cA) t) A) args s 0 0 A) (F0 m 2 ls []) := by
  intro fu
  induction fu with
  | zero =>
    intro σ v1 H locs ls  hl hW hS hf
    exact og_n hf
  | succ fu ih =>
    intro σ v1 H locs ls  hl hW hS hf
    rw [lp_M_now0_2_s] at hf
    have ht : ∀ w ∈ TB, w.before args s = true := fun w h => hts w (List.mem_cons_of_mem _ h)
    refine lv_iload_n hx hb d_M_now0_2 rfl (lv_at hl 1 rfl) ?_
    refine lv_iconst (v := 4) hx hb d_M_now0_3 (by decide) ?_
    refine lv_icmp_ge (tgt := 25) hx hb d_M_now0_4 rfl (fun hc => ?_) (fun hc => ?_)
    · replace hf := og_t hc hf
      exact hk _  _ _ _  (lv_sub hl [0] rfl) hW hS hf
    · replace hf := og_f hc hf
      refine lv_aload_n hx hb d_M_now0_7 rfl (lv_at hl 0 rfl) ?_
      refine va_get (D := D) (ci := 3) (C := "GridlockDeskModel") (T := T_M) (N := 22) hx hb ht hin_M hown hK (hW.1.one (t := 0) rfl) 0 rfl rfl 19 (by decide) (ht _ tw_344) (fun _ h9 => h9) rfl d_M_now0_8 ?_
      refine lv_iload_n hx hb d_M_now0_11 rfl (lv_at hl 1 rfl) ?_
      refine lv_aload_n hx hb d_M_now0_12 rfl (lv_at hl 0 rfl) ?_
      refine va_get (D := D) (ci := 3) (C := "GridlockDeskModel") (T := T_M) (N := 22) hx hb ht hin_M hown hK (hW.1.one (t := 0) rfl) 0 rfl rfl 3 (by decide) (ht _ tw_328) (fun _ h9 => h9) rfl d_M_now0_13 ?_
      refine lv_iload_n hx hb d_M_now0_16 rfl (lv_at hl 1 rfl) ?_
      obtain ⟨hin1, hf⟩ := og_if hf
      refine va_lald (D := D) hx hb hK (hW.1.one (t := 1) rfl) 0 0 rfl rfl hin1 d_M_now0_17 ?_
      obtain ⟨hin2, hf⟩ := og_if hf
      obtain ⟨σ3, eσ3, hf⟩ := og_b hf
      cases eσ3
      refine k_last  (t := 15) hx hb hK hW.1 hS rfl (hW.2 _ _ rfl) 0 rfl rfl hin2 d_M_now0_18 mm_wL7 (fun H locs hW1 hS => ?_)
      have hW := MW.wL hW1 hW.2
      refine lv_iinc (k := 1) (v := _ + 1) (lv' := [(1, .int _), (0, .ref _)]) hx hb d_M_now0_19 hl rfl rfl (by decide) rfl (fun ls hl => ?_)
      refine lv_goto (tgt := 2) hx hb d_M_now0_22 rfl ?_
      exact ih _ _ _ _ _  (lv_sub hl [1, 0] rfl) hW hS hf

set_option maxHeartbeats 4000000 in
set_option maxRecDepth 100000 in
theorem lp_M_now0_27_ok {p : Program} {l : Launch} {e : Env} {s : State} {m : MethodId} {args : Array Value} {below : List Frame} {meth : Method} {c : Code} (D : va_G) (cA : Nat → ClassId) (ad : Nat → Nat → Nat) (n : Nat) (A : Nat → Prop) (hx : p.tables.exec = Jvm.exec) (hb : c.code = prog_5_method_6_code) (hml : c.maxLocals = 2) (hr : meth.sig.returnType = none) (hts : ∀ w ∈ ws_M_now0, w.before args s = true) (hown : s.vm.findClass "GridlockDeskModel" = some m.cls) (hlocks : meth.locks = false) (hK : va_K D vCl (atys cA) s) (k : St → Option (Unit × St)) (out : Unit × St)  (hk : ∀ (σ : St)  (H : Heap) (locs : List Loc) (ls : Array Slot), lv_has ls 2 [] → MW D cA ad n A σ H → va_S A s.heap H locs → k σ  = some out → W p l e (headSpec ws_M_now0 ({ frames := 0, cells := 0, slots := 0, locals := 0 })).room s m args below meth c H locs 0 0 (MQ below (va_Qv (fun u => ((), u) = out) (fun u t => MW D cA ad n A u t.heap ∧ va_K D vCl (atys cA) t) A) args s 0 0 A) (F0 m 51 ls [])) : ∀ (fu : Nat) (σ : St) (v1 : Int32) (H : Heap) (locs : List Loc) (ls : Array Slot), lv_has ls 2 [(0, .ref (ad 0 0)), (1, .int v1)] → MW D cA ad n A σ H → va_S A s.heap H locs → lp_M_now0_27 n k fu σ v1 = some out → W p l e (headSpec ws_M_now0 ({ frames := 0, cells := 0, slots := 0, locals := 0 })).room s m args below meth c H locs 0 0 (MQ below (va_Qv (fun u => ((), u) = out) (fun u t => MW D cA ad n A u t.heap ∧ va_K D vCl (atys cA) t) A) args s 0 0 A) (F0 m 27 ls []) := by
  intro fu
  induction fu with
  | zero =>
    intro σ v1 H locs ls  hl hW hS hf
    exact og_n hf
  | succ fu ih =>
    intro σ v1 H locs ls  hl hW hS hf
    rw [lp_M_now0_27_s] at hf
    have ht : ∀ w ∈ TB, w.before args s = true := fun w h => hts w (List.mem_cons_of_mem _ h)
    refine lv_iload_n hx hb d_M_now0_27 rfl (lv_at hl 1 rfl) ?_
    refine lv_bipush (v := 16) hx hb d_M_now0_28 (by decide) ?_
    refine lv_icmp_ge (tgt := 51) hx hb d_M_now0_30 rfl (fun hc => ?_) (fun hc => ?_)
    · replace hf := og_t hc hf
      exact hk _  _ _ _  (lv_sub hl [] rfl) hW hS hf
    · replace hf := og_f hc hf
      refine lv_aload_n hx hb d_M_now0_33 rfl (lv_at hl 0 rfl) ?_
      refine va_get (D := D) (ci := 3) (C := "GridlockDeskModel") (T := T_M) (N := 22) hx hb ht hin_M hown hK (hW.1.one (t := 0) rfl) 0 rfl rfl 20 (by decide) (ht _ tw_345) (fun _ h9 => h9) rfl d_M_now0_34 ?_
      refine lv_iload_n hx hb d_M_now0_37 rfl (lv_at hl 1 rfl) ?_
      refine lv_aload_n hx hb d_M_now0_38 rfl (lv_at hl 0 rfl) ?_
      refine va_get (D := D) (ci := 3) (C := "GridlockDeskModel") (T := T_M) (N := 22) hx hb ht hin_M hown hK (hW.1.one (t := 0) rfl) 0 rfl rfl 7 (by decide) (ht _ tw_332) (fun _ h9 => h9) rfl d_M_now0_39 ?_
      refine lv_iload_n hx hb d_M_now0_42 rfl (lv_at hl 1 rfl) ?_
      obtain ⟨hin5, hf⟩ := og_if hf
      refine va_lald (D := D) hx hb hK (hW.1.one (t := 5) rfl) 0 0 rfl rfl hin5 d_M_now0_43 ?_
      obtain ⟨hin6, hf⟩ := og_if hf
      obtain ⟨σ7, eσ7, hf⟩ := og_b hf
      cases eσ7
      refine k_last  (t := 16) hx hb hK hW.1 hS rfl (hW.2 _ _ rfl) 0 rfl rfl hin6 d_M_now0_44 mm_wL8 (fun H locs hW1 hS => ?_)
      have hW := MW.wL hW1 hW.2
      refine lv_iinc (k := 1) (v := _ + 1) (lv' := [(1, .int _), (0, .ref _)]) hx hb d_M_now0_45 hl rfl rfl (by decide) rfl (fun ls hl => ?_)
      refine lv_goto (tgt := 27) hx hb d_M_now0_48 rfl ?_
      exact ih _ _ _ _ _  (lv_sub hl [1, 0] rfl) hW hS hf

set_option maxHeartbeats 4000000 in
set_option maxRecDepth 100000 in
theorem m_M_now0 (l : Launch) (D : va_G) (cA : Nat → ClassId) (ad : Nat → Nat → Nat) (n : Nat) (A : Nat → Prop) (σ : St)   (out : Unit × St) (hf : f_M_now0 n σ  = some out) : Met l y_M_now0 ws_M_now0 ({ frames := 0, cells := 0, slots := 0, locals := 0 }) (va_Pc [.ref (ad 0 0)] (fun U => MW D cA ad n A σ U.heap ∧ va_K D vCl (atys cA) U)) (va_Qv (fun u => ((), u) = out) (fun u t => MW D cA ad n A u t.heap ∧ va_K D vCl (atys cA) t) A) 0 0 A := by
  refine Met.ofW (cc := prog_5_method_6_code) (maxL := 2) (ret := none) (by decide) rfl ?_
  intro p e s m args below meth c s₁ B hml hv
  obtain ⟨rfl, hW, hK⟩ := hv
  have hx := B.exec
  have hb := B.bytes
  have hr := B.returns
  have hts := atoms_spec (ws := ws_M_now0) B.pre
  have ht : ∀ w ∈ TB, w.before _ s = true := fun w h => hts w (List.mem_cons_of_mem _ h)
  have hown : s.vm.findClass "GridlockDeskModel" = some m.cls := findClass_of_methodNamed B.named
  have hlocks := B.notSynchronized
  have hS : va_S A s.heap s.heap [] := va_S.rf
  have hl := lv_entry ([.ref (ad 0 0)]) (n := 2) (Nat.le_of_ble_eq_true rfl)
  rw [lg_entry_eq]
  generalize (lg_sl ([.ref (ad 0 0)]) ++ List.replicate (2 - (lg_sl ([.ref (ad 0 0)])).length) Slot.unset).toArray = ls at hl ⊢
  have hl : lv_has ls 2 [(0, .ref (ad 0 0))] := hl
  unfold f_M_now0 at hf

  refine lv_iconst (v := 0) hx hb d_M_now0_0 (by decide) ?_
  refine lv_istore_n (lv' := [(1, .int _), (0, .ref _)]) hx hb d_M_now0_1 rfl hl (by decide) rfl (fun ls hl => ?_)
  refine lp_M_now0_2_ok D cA ad n A hx hb hml hr hts hown hlocks hK _ _  (fun σ4 H locs ls  hl hW hS hf => ?_) _ _ _ _ _ _  (lv_sub hl [1, 0] rfl) hW hS hf
  refine lv_iconst (v := 0) hx hb d_M_now0_25 (by decide) ?_
  refine lv_istore_n (lv' := [(1, .int _), (0, .ref _)]) hx hb d_M_now0_26 rfl hl (by decide) rfl (fun ls hl => ?_)
  refine lp_M_now0_27_ok D cA ad n A hx hb hml hr hts hown hlocks hK _ _  (fun σ8 H locs ls  hl hW hS hf => ?_) _ _ _ _ _ _  (lv_sub hl [1, 0] rfl) hW hS hf
  exact W.vret hx hb hr (fun t ht hWm => ⟨⟨_, rfl, Option.some.inj hf, by rw [ht]; exact hW, va_K.moved hWm.alike hK⟩, hS.F ht⟩) hS.2.2 d_M_now0_51

set_option maxHeartbeats 4000000 in
set_option maxRecDepth 100000 in
theorem m_M_plan (l : Launch) (D : va_G) (cA : Nat → ClassId) (ad : Nat → Nat → Nat) (n : Nat) (A : Nat → Prop) (σ : St) (x1 : Int32)  (out : Unit × St) (hf : f_M_plan n σ x1 = some out) : Met l y_M_plan ws_M_plan ({ frames := 0, cells := 0, slots := 0, locals := 0 }) (va_Pc [.ref (ad 0 0), .int x1] (fun U => MW D cA ad n A σ U.heap ∧ va_K D vCl (atys cA) U)) (va_Qv (fun u => ((), u) = out) (fun u t => MW D cA ad n A u t.heap ∧ va_K D vCl (atys cA) t) A) 0 0 A := by
  refine Met.ofW (cc := prog_5_method_7_code) (maxL := 3) (ret := none) (by decide) rfl ?_
  intro p e s m args below meth c s₁ B hml hv
  obtain ⟨rfl, hW, hK⟩ := hv
  have hx := B.exec
  have hb := B.bytes
  have hr := B.returns
  have hts := atoms_spec (ws := ws_M_plan) B.pre
  have ht : ∀ w ∈ TB, w.before _ s = true := fun w h => hts w (List.mem_cons_of_mem _ h)
  have hown : s.vm.findClass "GridlockDeskModel" = some m.cls := findClass_of_methodNamed B.named
  have hlocks := B.notSynchronized
  have hS : va_S A s.heap s.heap [] := va_S.rf
  have hl := lv_entry ([.ref (ad 0 0), .int x1]) (n := 3) (Nat.le_of_ble_eq_true rfl)
  rw [lg_entry_eq]
  generalize (lg_sl ([.ref (ad 0 0), .int x1]) ++ List.replicate (3 - (lg_sl ([.ref (ad 0 0), .int x1])).length) Slot.unset).toArray = ls at hl ⊢
  have hl : lv_has ls 3 [(0, .ref (ad 0 0)), (1, .int x1)] := hl
  unfold f_M_plan at hf

  refine lv_aload_n hx hb d_M_plan_0 rfl (lv_at hl 0 rfl) ?_
  refine va_get (D := D) (ci := 3) (C := "GridlockDeskModel") (T := T_M) (N := 22) hx hb ht hin_M hown hK (hW.1.one (t := 0) rfl) 0 rfl rfl 19 (by decide) (ht _ tw_344) (fun _ h9 => h9) rfl d_M_plan_1 ?_
  refine lv_aload_n hx hb d_M_plan_4 rfl (lv_at hl 0 rfl) ?_
  refine va_get (D := D) (ci := 3) (C := "GridlockDeskModel") (T := T_M) (N := 22) hx hb ht hin_M hown hK (hW.1.one (t := 0) rfl) 0 rfl rfl 10 (by decide) (ht _ tw_335) (fun _ h9 => h9) rfl d_M_plan_5 ?_
  refine lv_iload_n hx hb d_M_plan_8 rfl (lv_at hl 1 rfl) ?_
  obtain ⟨hin1, hf⟩ := og_if hf
  refine va_iald (D := D) hx hb hK (hW.1.one (t := 6) rfl) 0 1 rfl rfl hin1 d_M_plan_9 ?_
  refine lv_aload_n hx hb d_M_plan_10 rfl (lv_at hl 0 rfl) ?_
  refine va_get (D := D) (ci := 3) (C := "GridlockDeskModel") (T := T_M) (N := 22) hx hb ht hin_M hown hK (hW.1.one (t := 0) rfl) 0 rfl rfl 19 (by decide) (ht _ tw_344) (fun _ h9 => h9) rfl d_M_plan_11 ?_
  refine lv_aload_n hx hb d_M_plan_14 rfl (lv_at hl 0 rfl) ?_
  refine va_get (D := D) (ci := 3) (C := "GridlockDeskModel") (T := T_M) (N := 22) hx hb ht hin_M hown hK (hW.1.one (t := 0) rfl) 0 rfl rfl 10 (by decide) (ht _ tw_335) (fun _ h9 => h9) rfl d_M_plan_15 ?_
  refine lv_iload_n hx hb d_M_plan_18 rfl (lv_at hl 1 rfl) ?_
  obtain ⟨hin2, hf⟩ := og_if hf
  refine va_iald (D := D) hx hb hK (hW.1.one (t := 6) rfl) 0 1 rfl rfl hin2 d_M_plan_19 ?_
  obtain ⟨hin3, hf⟩ := og_if hf
  refine va_lald (D := D) hx hb hK (hW.1.one (t := 15) rfl) 0 0 rfl rfl hin3 d_M_plan_20 ?_
  refine lv_aload_n hx hb d_M_plan_21 rfl (lv_at hl 0 rfl) ?_
  refine va_get (D := D) (ci := 3) (C := "GridlockDeskModel") (T := T_M) (N := 22) hx hb ht hin_M hown hK (hW.1.one (t := 0) rfl) 0 rfl rfl 12 (by decide) (ht _ tw_337) (fun _ h9 => h9) rfl d_M_plan_22 ?_
  refine lv_iload_n hx hb d_M_plan_25 rfl (lv_at hl 1 rfl) ?_
  obtain ⟨hin4, hf⟩ := og_if hf
  refine va_lald (D := D) hx hb hK (hW.1.one (t := 8) rfl) 0 0 rfl rfl hin4 d_M_plan_26 ?_
  refine lv_lsub hx hb d_M_plan_27 ?_
  obtain ⟨hin5, hf⟩ := og_if hf
  obtain ⟨σ6, eσ6, hf⟩ := og_b hf
  cases eσ6
  refine k_last  (t := 15) hx hb hK hW.1 hS rfl (hW.2 _ _ rfl) 0 rfl rfl hin5 d_M_plan_28 mm_wL7 (fun H locs hW1 hS => ?_)
  have hW := MW.wL hW1 hW.2
  refine lv_aload_n hx hb d_M_plan_29 rfl (lv_at hl 0 rfl) ?_
  refine va_get (D := D) (ci := 3) (C := "GridlockDeskModel") (T := T_M) (N := 22) hx hb ht hin_M hown hK (hW.1.one (t := 0) rfl) 0 rfl rfl 19 (by decide) (ht _ tw_344) (fun _ h9 => h9) rfl d_M_plan_30 ?_
  refine lv_aload_n hx hb d_M_plan_33 rfl (lv_at hl 0 rfl) ?_
  refine va_get (D := D) (ci := 3) (C := "GridlockDeskModel") (T := T_M) (N := 22) hx hb ht hin_M hown hK (hW.1.one (t := 0) rfl) 0 rfl rfl 11 (by decide) (ht _ tw_336) (fun _ h9 => h9) rfl d_M_plan_34 ?_
  refine lv_iload_n hx hb d_M_plan_37 rfl (lv_at hl 1 rfl) ?_
  obtain ⟨hin7, hf⟩ := og_if hf
  refine va_iald (D := D) hx hb hK (hW.1.one (t := 7) rfl) 0 1 rfl rfl hin7 d_M_plan_38 ?_
  refine lv_aload_n hx hb d_M_plan_39 rfl (lv_at hl 0 rfl) ?_
  refine va_get (D := D) (ci := 3) (C := "GridlockDeskModel") (T := T_M) (N := 22) hx hb ht hin_M hown hK (hW.1.one (t := 0) rfl) 0 rfl rfl 19 (by decide) (ht _ tw_344) (fun _ h9 => h9) rfl d_M_plan_40 ?_
  refine lv_aload_n hx hb d_M_plan_43 rfl (lv_at hl 0 rfl) ?_
  refine va_get (D := D) (ci := 3) (C := "GridlockDeskModel") (T := T_M) (N := 22) hx hb ht hin_M hown hK (hW.1.one (t := 0) rfl) 0 rfl rfl 11 (by decide) (ht _ tw_336) (fun _ h9 => h9) rfl d_M_plan_44 ?_
  refine lv_iload_n hx hb d_M_plan_47 rfl (lv_at hl 1 rfl) ?_
  obtain ⟨hin8, hf⟩ := og_if hf
  refine va_iald (D := D) hx hb hK (hW.1.one (t := 7) rfl) 0 1 rfl rfl hin8 d_M_plan_48 ?_
  obtain ⟨hin9, hf⟩ := og_if hf
  refine va_lald (D := D) hx hb hK (hW.1.one (t := 15) rfl) 0 0 rfl rfl hin9 d_M_plan_49 ?_
  refine lv_aload_n hx hb d_M_plan_50 rfl (lv_at hl 0 rfl) ?_
  refine va_get (D := D) (ci := 3) (C := "GridlockDeskModel") (T := T_M) (N := 22) hx hb ht hin_M hown hK (hW.1.one (t := 0) rfl) 0 rfl rfl 12 (by decide) (ht _ tw_337) (fun _ h9 => h9) rfl d_M_plan_51 ?_
  refine lv_iload_n hx hb d_M_plan_54 rfl (lv_at hl 1 rfl) ?_
  obtain ⟨hin10, hf⟩ := og_if hf
  refine va_lald (D := D) hx hb hK (hW.1.one (t := 8) rfl) 0 0 rfl rfl hin10 d_M_plan_55 ?_
  refine lv_ladd hx hb d_M_plan_56 ?_
  obtain ⟨hin11, hf⟩ := og_if hf
  obtain ⟨σ12, eσ12, hf⟩ := og_b hf
  cases eσ12
  refine k_last  (t := 15) hx hb hK hW.1 hS rfl (hW.2 _ _ rfl) 0 rfl rfl hin11 d_M_plan_57 mm_wL7 (fun H locs hW1 hS => ?_)
  have hW := MW.wL hW1 hW.2
  refine lv_iconst (v := 4) hx hb d_M_plan_58 (by decide) ?_
  refine lv_aload_n hx hb d_M_plan_59 rfl (lv_at hl 0 rfl) ?_
  refine va_get (D := D) (ci := 3) (C := "GridlockDeskModel") (T := T_M) (N := 22) hx hb ht hin_M hown hK (hW.1.one (t := 0) rfl) 0 rfl rfl 10 (by decide) (ht _ tw_335) (fun _ h9 => h9) rfl d_M_plan_60 ?_
  refine lv_iload_n hx hb d_M_plan_63 rfl (lv_at hl 1 rfl) ?_
  obtain ⟨hin13, hf⟩ := og_if hf
  refine va_iald (D := D) hx hb hK (hW.1.one (t := 6) rfl) 0 1 rfl rfl hin13 d_M_plan_64 ?_
  refine lv_imul hx hb d_M_plan_65 ?_
  refine lv_aload_n hx hb d_M_plan_66 rfl (lv_at hl 0 rfl) ?_
  refine va_get (D := D) (ci := 3) (C := "GridlockDeskModel") (T := T_M) (N := 22) hx hb ht hin_M hown hK (hW.1.one (t := 0) rfl) 0 rfl rfl 11 (by decide) (ht _ tw_336) (fun _ h9 => h9) rfl d_M_plan_67 ?_
  refine lv_iload_n hx hb d_M_plan_70 rfl (lv_at hl 1 rfl) ?_
  obtain ⟨hin14, hf⟩ := og_if hf
  refine va_iald (D := D) hx hb hK (hW.1.one (t := 7) rfl) 0 1 rfl rfl hin14 d_M_plan_71 ?_
  refine lv_iadd hx hb d_M_plan_72 ?_
  refine lv_istore_n (lv' := [(2, .int _), (0, .ref _), (1, .int _)]) hx hb d_M_plan_73 rfl hl (by decide) rfl (fun ls hl => ?_)
  refine lv_aload_n hx hb d_M_plan_74 rfl (lv_at hl 1 rfl) ?_
  refine va_get (D := D) (ci := 3) (C := "GridlockDeskModel") (T := T_M) (N := 22) hx hb ht hin_M hown hK (hW.1.one (t := 0) rfl) 0 rfl rfl 20 (by decide) (ht _ tw_345) (fun _ h9 => h9) rfl d_M_plan_75 ?_
  refine lv_iload_n hx hb d_M_plan_78 rfl (lv_at hl 0 rfl) ?_
  refine lv_aload_n hx hb d_M_plan_79 rfl (lv_at hl 1 rfl) ?_
  refine va_get (D := D) (ci := 3) (C := "GridlockDeskModel") (T := T_M) (N := 22) hx hb ht hin_M hown hK (hW.1.one (t := 0) rfl) 0 rfl rfl 20 (by decide) (ht _ tw_345) (fun _ h9 => h9) rfl d_M_plan_80 ?_
  refine lv_iload_n hx hb d_M_plan_83 rfl (lv_at hl 0 rfl) ?_
  obtain ⟨hin15, hf⟩ := og_if hf
  refine va_lald (D := D) hx hb hK (hW.1.one (t := 16) rfl) 0 0 rfl rfl hin15 d_M_plan_84 ?_
  refine lv_aload_n hx hb d_M_plan_85 rfl (lv_at hl 1 rfl) ?_
  refine va_get (D := D) (ci := 3) (C := "GridlockDeskModel") (T := T_M) (N := 22) hx hb ht hin_M hown hK (hW.1.one (t := 0) rfl) 0 rfl rfl 12 (by decide) (ht _ tw_337) (fun _ h9 => h9) rfl d_M_plan_86 ?_
  refine lv_iload_n hx hb d_M_plan_89 rfl (lv_at hl 2 rfl) ?_
  obtain ⟨hin16, hf⟩ := og_if hf
  refine va_lald (D := D) hx hb hK (hW.1.one (t := 8) rfl) 0 0 rfl rfl hin16 d_M_plan_90 ?_
  refine lv_ladd hx hb d_M_plan_91 ?_
  obtain ⟨hin17, hf⟩ := og_if hf
  obtain ⟨σ18, eσ18, hf⟩ := og_b hf
  cases eσ18
  refine k_last  (t := 16) hx hb hK hW.1 hS rfl (hW.2 _ _ rfl) 0 rfl rfl hin17 d_M_plan_92 mm_wL8 (fun H locs hW1 hS => ?_)
  have hW := MW.wL hW1 hW.2
  exact W.vret hx hb hr (fun t ht hWm => ⟨⟨_, rfl, Option.some.inj hf, by rw [ht]; exact hW, va_K.moved hWm.alike hK⟩, hS.F ht⟩) hS.2.2 d_M_plan_93

set_option maxHeartbeats 4000000 in
set_option maxRecDepth 100000 in
theorem lp_M_allWell_15_ok {p : Program} {l : Launch} {e : Env} {s : State} {m : MethodId} {args : Array Value} {below : List Frame} {meth : Method} {c : Code} (D : va_G) (cA : Nat → ClassId) (ad : Nat → Nat → Nat) (n : Nat) (A : Nat → Prop) (hx : p.tables.exec = Jvm.exec) (hb : c.code = prog_5_method_8_code) (hml : c.maxLocals = 7) (hr : meth.sig.returnType = (some .boolean)) (hts : ∀ w ∈ ws_M_allWell, w.before args s = true) (hown : s.vm.findClass "GridlockDeskModel" = some m.cls) (hlocks : meth.locks = false) (hK : va_K D vCl (atys cA) s) (k : St → Int64 → Option (Int32 × St)) (out : Int32 × St) (v1 : Int32) (hk : ∀ (σ : St) (v2 : Int64) (H : Heap) (locs : List Loc) (ls : Array Slot), lv_has ls 7 [(0, .ref (ad 0 0)), (1, .int v1), (2, .long v2)] → MW D cA ad n A σ H → va_S A s.heap H locs → k σ v2 = some out → W p l e (headSpec ws_M_allWell ({ frames := 0, cells := 0, slots := 0, locals := 0 })).room s m args below meth c H locs 0 0 (MQ below (va_Qi (fun r u => (r, u) = out) (fun u t => MW D cA ad n A u t.heap ∧ va_K D vCl (atys cA) t) A) args s 0 0 A) (F0 m 95 ls [])) : ∀ (fu : Nat) (σ : St) (v2 : Int64) (v4 : Int32) (H : Heap) (locs : List Loc) (ls : Array Slot), lv_has ls 7 [(0, .ref (ad 0 0)), (1, .int v1), (2, .long v2), (4, .int v4)] → MW D cA ad n A σ H → va_S A s.heap H locs → lp_M_allWell_15 n k fu σ v1 v2 v4 = some out → W p l e (headSpec ws_M_allWell ({ frames := 0, cells := 0, slots := 0, locals := 0 })).room s m args below meth c H locs 0 0 (MQ below (va_Qi (fun r u => (r, u) = out) (fun u t => MW D cA ad n A u t.heap ∧ va_K D vCl (atys cA) t) A) args s 0 0 A) (F0 m 15 ls []) := by
  intro fu
  induction fu with
  | zero =>
    intro σ v2 v4 H locs ls  hl hW hS hf
    exact og_n hf
  | succ fu ih =>
    intro σ v2 v4 H locs ls  hl hW hS hf
    rw [lp_M_allWell_15_s] at hf
    have ht : ∀ w ∈ TB, w.before args s = true := fun w h => hts w (List.mem_cons_of_mem _ h)
    refine lv_iload hx hb d_M_allWell_15 (lv_at hl 3 rfl) ?_
    refine lv_aload_n hx hb d_M_allWell_17 rfl (lv_at hl 0 rfl) ?_
    refine va_get (D := D) (ci := 3) (C := "GridlockDeskModel") (T := T_M) (N := 22) hx hb ht hin_M hown hK (hW.1.one (t := 0) rfl) 0 rfl rfl 0 (by decide) (ht _ tw_325) (fun _ h9 => h9) rfl d_M_allWell_18 ?_
    refine lv_icmp_ge (tgt := 95) hx hb d_M_allWell_21 rfl (fun hc => ?_) (fun hc => ?_)
    · replace hf := og_t hc hf
      exact hk _ _ _ _ _  (lv_sub hl [0, 1, 2] rfl) hW hS hf
    · replace hf := og_f hc hf
      refine lv_aload_n hx hb d_M_allWell_24 rfl (lv_at hl 0 rfl) ?_
      refine va_get (D := D) (ci := 3) (C := "GridlockDeskModel") (T := T_M) (N := 22) hx hb ht hin_M hown hK (hW.1.one (t := 0) rfl) 0 rfl rfl 20 (by decide) (ht _ tw_345) (fun _ h9 => h9) rfl d_M_allWell_25 ?_
      refine lv_iconst (v := 4) hx hb d_M_allWell_28 (by decide) ?_
      refine lv_iload_n hx hb d_M_allWell_29 rfl (lv_at hl 1 rfl) ?_
      refine lv_imul hx hb d_M_allWell_30 ?_
      refine lv_iload hx hb d_M_allWell_31 (lv_at hl 3 rfl) ?_
      refine lv_iadd hx hb d_M_allWell_33 ?_
      obtain ⟨hin1, hf⟩ := og_if hf
      refine va_lald (D := D) hx hb hK (hW.1.one (t := 16) rfl) 0 0 rfl rfl hin1 d_M_allWell_34 ?_
      refine lv_aload_n hx hb d_M_allWell_35 rfl (lv_at hl 0 rfl) ?_
      refine va_get (D := D) (ci := 3) (C := "GridlockDeskModel") (T := T_M) (N := 22) hx hb ht hin_M hown hK (hW.1.one (t := 0) rfl) 0 rfl rfl 20 (by decide) (ht _ tw_345) (fun _ h9 => h9) rfl d_M_allWell_36 ?_
      refine lv_iconst (v := 4) hx hb d_M_allWell_39 (by decide) ?_
      refine lv_iload hx hb d_M_allWell_40 (lv_at hl 3 rfl) ?_
      refine lv_imul hx hb d_M_allWell_42 ?_
      refine lv_iload_n hx hb d_M_allWell_43 rfl (lv_at hl 1 rfl) ?_
      refine lv_iadd hx hb d_M_allWell_44 ?_
      obtain ⟨hin2, hf⟩ := og_if hf
      refine va_lald (D := D) hx hb hK (hW.1.one (t := 16) rfl) 0 0 rfl rfl hin2 d_M_allWell_45 ?_
      refine lv_lsub hx hb d_M_allWell_46 ?_
      refine lv_lstore (lv' := [(5, .long _), (0, .ref _), (1, .int _), (2, .long _), (4, .int _)]) hx hb d_M_allWell_47 hl (by decide) rfl (fun ls hl => ?_)
      refine lv_lload_n hx hb d_M_allWell_49 rfl (lv_at hl 3 rfl) ?_
      refine lv_lload hx hb d_M_allWell_50 (lv_at hl 0 rfl) ?_
      refine lv_ladd hx hb d_M_allWell_52 ?_
      refine lv_lstore_n (lv' := [(2, .long _), (5, .long _), (0, .ref _), (1, .int _), (4, .int _)]) hx hb d_M_allWell_53 rfl hl (by decide) rfl (fun ls hl => ?_)
      refine lv_aload_n hx hb d_M_allWell_54 rfl (lv_at hl 2 rfl) ?_
      refine va_get (D := D) (ci := 3) (C := "GridlockDeskModel") (T := T_M) (N := 22) hx hb ht hin_M hown hK (hW.1.one (t := 0) rfl) 0 rfl rfl 6 (by decide) (ht _ tw_331) (fun _ h9 => h9) rfl d_M_allWell_55 ?_
      refine lv_iconst (v := 4) hx hb d_M_allWell_58 (by decide) ?_
      refine lv_iload_n hx hb d_M_allWell_59 rfl (lv_at hl 3 rfl) ?_
      refine lv_imul hx hb d_M_allWell_60 ?_
      refine lv_iload hx hb d_M_allWell_61 (lv_at hl 4 rfl) ?_
      refine lv_iadd hx hb d_M_allWell_63 ?_
      obtain ⟨hin3, hf⟩ := og_if hf
      refine va_lald (D := D) hx hb hK (hW.1.one (t := 4) rfl) 0 0 rfl rfl hin3 d_M_allWell_64 ?_
      refine lv_lconst (v := 0) hx hb d_M_allWell_65 (by decide) ?_
      refine lc_lt (tgt := 89) hx hb d_M_allWell_66 d_M_allWell_67 rfl (fun hc => ?_) (fun hc => ?_)
      · replace hf := og_t hc hf
        refine lv_iinc (k := 4) (v := _ + 1) (lv' := [(4, .int _), (2, .long _), (5, .long _), (0, .ref _), (1, .int _)]) hx hb d_M_allWell_89 hl rfl rfl (by decide) rfl (fun ls hl => ?_)
        refine lv_goto (tgt := 15) hx hb d_M_allWell_92 rfl ?_
        exact ih _ _ _ _ _ _  (lv_sub hl [3, 4, 1, 0] rfl) hW hS hf
      · replace hf := og_f hc hf
        refine lv_lload hx hb d_M_allWell_70 (lv_at hl 1 rfl) ?_
        refine lv_aload_n hx hb d_M_allWell_72 rfl (lv_at hl 2 rfl) ?_
        refine va_get (D := D) (ci := 3) (C := "GridlockDeskModel") (T := T_M) (N := 22) hx hb ht hin_M hown hK (hW.1.one (t := 0) rfl) 0 rfl rfl 6 (by decide) (ht _ tw_331) (fun _ h9 => h9) rfl d_M_allWell_73 ?_
        refine lv_iconst (v := 4) hx hb d_M_allWell_76 (by decide) ?_
        refine lv_iload_n hx hb d_M_allWell_77 rfl (lv_at hl 3 rfl) ?_
        refine lv_imul hx hb d_M_allWell_78 ?_
        refine lv_iload hx hb d_M_allWell_79 (lv_at hl 4 rfl) ?_
        refine lv_iadd hx hb d_M_allWell_81 ?_
        obtain ⟨hin4, hf⟩ := og_if hf
        refine va_lald (D := D) hx hb hK (hW.1.one (t := 4) rfl) 0 0 rfl rfl hin4 d_M_allWell_82 ?_
        refine lc_le (tgt := 89) hx hb d_M_allWell_83 d_M_allWell_84 rfl (fun hc => ?_) (fun hc => ?_)
        · replace hf := og_t hc hf
          refine lv_iinc (k := 4) (v := _ + 1) (lv' := [(4, .int _), (2, .long _), (5, .long _), (0, .ref _), (1, .int _)]) hx hb d_M_allWell_89 hl rfl rfl (by decide) rfl (fun ls hl => ?_)
          refine lv_goto (tgt := 15) hx hb d_M_allWell_92 rfl ?_
          exact ih _ _ _ _ _ _  (lv_sub hl [3, 4, 1, 0] rfl) hW hS hf
        · replace hf := og_f hc hf
          refine lv_iconst (v := 0) hx hb d_M_allWell_87 (by decide) ?_
          exact W.zret hx hb hr rfl (fun t ht hWm => ⟨⟨_, _, rfl, Option.some.inj hf, by rw [ht]; exact hW, va_K.moved hWm.alike hK⟩, hS.F ht⟩) hS.2.2 d_M_allWell_88

set_option maxHeartbeats 4000000 in
set_option maxRecDepth 100000 in
theorem lp_M_allWell_2_ok {p : Program} {l : Launch} {e : Env} {s : State} {m : MethodId} {args : Array Value} {below : List Frame} {meth : Method} {c : Code} (D : va_G) (cA : Nat → ClassId) (ad : Nat → Nat → Nat) (n : Nat) (A : Nat → Prop) (hx : p.tables.exec = Jvm.exec) (hb : c.code = prog_5_method_8_code) (hml : c.maxLocals = 7) (hr : meth.sig.returnType = (some .boolean)) (hts : ∀ w ∈ ws_M_allWell, w.before args s = true) (hown : s.vm.findClass "GridlockDeskModel" = some m.cls) (hlocks : meth.locks = false) (hK : va_K D vCl (atys cA) s) (k : St → Option (Int32 × St)) (out : Int32 × St)  (hk : ∀ (σ : St)  (H : Heap) (locs : List Loc) (ls : Array Slot), lv_has ls 7 [] → MW D cA ad n A σ H → va_S A s.heap H locs → k σ  = some out → W p l e (headSpec ws_M_allWell ({ frames := 0, cells := 0, slots := 0, locals := 0 })).room s m args below meth c H locs 0 0 (MQ below (va_Qi (fun r u => (r, u) = out) (fun u t => MW D cA ad n A u t.heap ∧ va_K D vCl (atys cA) t) A) args s 0 0 A) (F0 m 142 ls [])) : ∀ (fu : Nat) (σ : St) (v1 : Int32) (H : Heap) (locs : List Loc) (ls : Array Slot), lv_has ls 7 [(0, .ref (ad 0 0)), (1, .int v1)] → MW D cA ad n A σ H → va_S A s.heap H locs → lp_M_allWell_2 n k fu σ v1 = some out → W p l e (headSpec ws_M_allWell ({ frames := 0, cells := 0, slots := 0, locals := 0 })).room s m args below meth c H locs 0 0 (MQ below (va_Qi (fun r u => (r, u) = out) (fun u t => MW D cA ad n A u t.heap ∧ va_K D vCl (atys cA) t) A) args s 0 0 A) (F0 m 2 ls []) := by
  intro fu
  induction fu with
  | zero =>
    intro σ v1 H locs ls  hl hW hS hf
    exact og_n hf
  | succ fu ih =>
    intro σ v1 H locs ls  hl hW hS hf
    rw [lp_M_allWell_2_s] at hf
    have ht : ∀ w ∈ TB, w.before args s = true := fun w h => hts w (List.mem_cons_of_mem _ h)
    refine lv_iload_n hx hb d_M_allWell_2 rfl (lv_at hl 1 rfl) ?_
    refine lv_aload_n hx hb d_M_allWell_3 rfl (lv_at hl 0 rfl) ?_
    refine va_get (D := D) (ci := 3) (C := "GridlockDeskModel") (T := T_M) (N := 22) hx hb ht hin_M hown hK (hW.1.one (t := 0) rfl) 0 rfl rfl 0 (by decide) (ht _ tw_325) (fun _ h9 => h9) rfl d_M_allWell_4 ?_
    refine lv_icmp_ge (tgt := 142) hx hb d_M_allWell_7 rfl (fun hc => ?_) (fun hc => ?_)
    · replace hf := og_t hc hf
      exact hk _  _ _ _  (lv_sub hl [] rfl) hW hS hf
    · replace hf := og_f hc hf
      refine lv_lconst (v := 0) hx hb d_M_allWell_10 (by decide) ?_
      refine lv_lstore_n (lv' := [(2, .long _), (0, .ref _), (1, .int _)]) hx hb d_M_allWell_11 rfl hl (by decide) rfl (fun ls hl => ?_)
      refine lv_iconst (v := 0) hx hb d_M_allWell_12 (by decide) ?_
      refine lv_istore (lv' := [(4, .int _), (2, .long _), (0, .ref _), (1, .int _)]) hx hb d_M_allWell_13 hl (by decide) rfl (fun ls hl => ?_)
      refine lp_M_allWell_15_ok D cA ad n A hx hb hml hr hts hown hlocks hK _ _ _ (fun σ6 y2_5 H locs ls  hl hW hS hf => ?_) _ _ _ _ _ _ _  (lv_sub hl [2, 3, 1, 0] rfl) hW hS hf
      refine lv_aload_n hx hb d_M_allWell_95 rfl (lv_at hl 0 rfl) ?_
      refine va_get (D := D) (ci := 3) (C := "GridlockDeskModel") (T := T_M) (N := 22) hx hb ht hin_M hown hK (hW.1.one (t := 0) rfl) 0 rfl rfl 19 (by decide) (ht _ tw_344) (fun _ h9 => h9) rfl d_M_allWell_96 ?_
      refine lv_iload_n hx hb d_M_allWell_99 rfl (lv_at hl 1 rfl) ?_
      obtain ⟨hin7, hf⟩ := og_if hf
      refine va_lald (D := D) hx hb hK (hW.1.one (t := 15) rfl) 0 0 rfl rfl hin7 d_M_allWell_100 ?_
      refine lv_aload_n hx hb d_M_allWell_101 rfl (lv_at hl 0 rfl) ?_
      refine va_get (D := D) (ci := 3) (C := "GridlockDeskModel") (T := T_M) (N := 22) hx hb ht hin_M hown hK (hW.1.one (t := 0) rfl) 0 rfl rfl 4 (by decide) (ht _ tw_329) (fun _ h9 => h9) rfl d_M_allWell_102 ?_
      refine lv_iload_n hx hb d_M_allWell_105 rfl (lv_at hl 1 rfl) ?_
      obtain ⟨hin8, hf⟩ := og_if hf
      refine va_lald (D := D) hx hb hK (hW.1.one (t := 2) rfl) 0 0 rfl rfl hin8 d_M_allWell_106 ?_
      refine lv_lneg hx hb d_M_allWell_107 ?_
      refine lc_lt (tgt := 134) hx hb d_M_allWell_108 d_M_allWell_109 rfl (fun hc => ?_) (fun hc => ?_)
      · replace hf := og_t hc hf
        refine lv_iconst (v := 0) hx hb d_M_allWell_134 (by decide) ?_
        exact W.zret hx hb hr rfl (fun t ht hWm => ⟨⟨_, _, rfl, Option.some.inj hf, by rw [ht]; exact hW, va_K.moved hWm.alike hK⟩, hS.F ht⟩) hS.2.2 d_M_allWell_135
      · replace hf := og_f hc hf
        refine lv_aload_n hx hb d_M_allWell_112 rfl (lv_at hl 0 rfl) ?_
        refine va_get (D := D) (ci := 3) (C := "GridlockDeskModel") (T := T_M) (N := 22) hx hb ht hin_M hown hK (hW.1.one (t := 0) rfl) 0 rfl rfl 5 (by decide) (ht _ tw_330) (fun _ h9 => h9) rfl d_M_allWell_113 ?_
        refine lv_iload_n hx hb d_M_allWell_116 rfl (lv_at hl 1 rfl) ?_
        obtain ⟨hin9, hf⟩ := og_if hf
        refine va_lald (D := D) hx hb hK (hW.1.one (t := 3) rfl) 0 0 rfl rfl hin9 d_M_allWell_117 ?_
        refine lv_lconst (v := 0) hx hb d_M_allWell_118 (by decide) ?_
        refine lc_lt (tgt := 136) hx hb d_M_allWell_119 d_M_allWell_120 rfl (fun hc => ?_) (fun hc => ?_)
        · replace hf := og_t hc hf
          refine lv_iinc (k := 1) (v := _ + 1) (lv' := [(1, .int _), (0, .ref _), (2, .long _)]) hx hb d_M_allWell_136 hl rfl rfl (by decide) rfl (fun ls hl => ?_)
          refine lv_goto (tgt := 2) hx hb d_M_allWell_139 rfl ?_
          exact ih _ _ _ _ _  (lv_sub hl [1, 0] rfl) hW hS hf
        · replace hf := og_f hc hf
          refine lv_lload_n hx hb d_M_allWell_123 rfl (lv_at hl 2 rfl) ?_
          refine lv_aload_n hx hb d_M_allWell_124 rfl (lv_at hl 0 rfl) ?_
          refine va_get (D := D) (ci := 3) (C := "GridlockDeskModel") (T := T_M) (N := 22) hx hb ht hin_M hown hK (hW.1.one (t := 0) rfl) 0 rfl rfl 5 (by decide) (ht _ tw_330) (fun _ h9 => h9) rfl d_M_allWell_125 ?_
          refine lv_iload_n hx hb d_M_allWell_128 rfl (lv_at hl 1 rfl) ?_
          obtain ⟨hin10, hf⟩ := og_if hf
          refine va_lald (D := D) hx hb hK (hW.1.one (t := 3) rfl) 0 0 rfl rfl hin10 d_M_allWell_129 ?_
          refine lc_le (tgt := 136) hx hb d_M_allWell_130 d_M_allWell_131 rfl (fun hc => ?_) (fun hc => ?_)
          · replace hf := og_t hc hf
            refine lv_iinc (k := 1) (v := _ + 1) (lv' := [(1, .int _), (0, .ref _), (2, .long _)]) hx hb d_M_allWell_136 hl rfl rfl (by decide) rfl (fun ls hl => ?_)
            refine lv_goto (tgt := 2) hx hb d_M_allWell_139 rfl ?_
            exact ih _ _ _ _ _  (lv_sub hl [1, 0] rfl) hW hS hf
          · replace hf := og_f hc hf
            refine lv_iconst (v := 0) hx hb d_M_allWell_134 (by decide) ?_
            exact W.zret hx hb hr rfl (fun t ht hWm => ⟨⟨_, _, rfl, Option.some.inj hf, by rw [ht]; exact hW, va_K.moved hWm.alike hK⟩, hS.F ht⟩) hS.2.2 d_M_allWell_135

set_option maxHeartbeats 4000000 in
set_option maxRecDepth 100000 in
theorem m_M_allWell (l : Launch) (D : va_G) (cA : Nat → ClassId) (ad : Nat → Nat → Nat) (n : Nat) (A : Nat → Prop) (σ : St)   (out : Int32 × St) (hf : f_M_allWell n σ  = some out) : Met l y_M_allWell ws_M_allWell ({ frames := 0, cells := 0, slots := 0, locals := 0 }) (va_Pc [.ref (ad 0 0)] (fun U => MW D cA ad n A σ U.heap ∧ va_K D vCl (atys cA) U)) (va_Qi (fun r u => (r, u) = out) (fun u t => MW D cA ad n A u t.heap ∧ va_K D vCl (atys cA) t) A) 0 0 A := by
  refine Met.ofW (cc := prog_5_method_8_code) (maxL := 7) (ret := (some .boolean)) (by decide) rfl ?_
  intro p e s m args below meth c s₁ B hml hv
  obtain ⟨rfl, hW, hK⟩ := hv
  have hx := B.exec
  have hb := B.bytes
  have hr := B.returns
  have hts := atoms_spec (ws := ws_M_allWell) B.pre
  have ht : ∀ w ∈ TB, w.before _ s = true := fun w h => hts w (List.mem_cons_of_mem _ h)
  have hown : s.vm.findClass "GridlockDeskModel" = some m.cls := findClass_of_methodNamed B.named
  have hlocks := B.notSynchronized
  have hS : va_S A s.heap s.heap [] := va_S.rf
  have hl := lv_entry ([.ref (ad 0 0)]) (n := 7) (Nat.le_of_ble_eq_true rfl)
  rw [lg_entry_eq]
  generalize (lg_sl ([.ref (ad 0 0)]) ++ List.replicate (7 - (lg_sl ([.ref (ad 0 0)])).length) Slot.unset).toArray = ls at hl ⊢
  have hl : lv_has ls 7 [(0, .ref (ad 0 0))] := hl
  unfold f_M_allWell at hf

  refine lv_iconst (v := 0) hx hb d_M_allWell_0 (by decide) ?_
  refine lv_istore_n (lv' := [(1, .int _), (0, .ref _)]) hx hb d_M_allWell_1 rfl hl (by decide) rfl (fun ls hl => ?_)
  refine lp_M_allWell_2_ok D cA ad n A hx hb hml hr hts hown hlocks hK _ _  (fun σ11 H locs ls  hl hW hS hf => ?_) _ _ _ _ _ _  (lv_sub hl [1, 0] rfl) hW hS hf
  refine lv_iconst (v := 1) hx hb d_M_allWell_142 (by decide) ?_
  exact W.zret hx hb hr rfl (fun t ht hWm => ⟨⟨_, _, rfl, Option.some.inj hf, by rw [ht]; exact hW, va_K.moved hWm.alike hK⟩, hS.F ht⟩) hS.2.2 d_M_allWell_143

set_option maxHeartbeats 4000000 in
set_option maxRecDepth 100000 in
theorem m_M_ready (l : Launch) (D : va_G) (cA : Nat → ClassId) (ad : Nat → Nat → Nat) (n : Nat) (A : Nat → Prop) (σ : St) (x1 : Int32) (x2 : Int32)  (out : Int32 × St) (hf : f_M_ready n σ x1 x2 = some out) : Met l y_M_ready ws_M_ready ({ frames := 1, cells := 0, slots := 0, locals := 26 }) (va_Pc [.ref (ad 0 0), .int x1, .int x2] (fun U => MW D cA ad n A σ U.heap ∧ va_K D vCl (atys cA) U)) (va_Qi (fun r u => (r, u) = out) (fun u t => MW D cA ad n A u t.heap ∧ va_K D vCl (atys cA) t) A) 0 0 A := by
  refine Met.ofW (cc := prog_5_method_9_code) (maxL := 3) (ret := (some .boolean)) (by decide) rfl ?_
  intro p e s m args below meth c s₁ B hml hv
  obtain ⟨rfl, hW, hK⟩ := hv
  have hx := B.exec
  have hb := B.bytes
  have hr := B.returns
  have hts := atoms_spec (ws := ws_M_ready) B.pre
  have ht : ∀ w ∈ TB, w.before _ s = true := fun w h => hts w (List.mem_cons_of_mem _ h)
  have hown : s.vm.findClass "GridlockDeskModel" = some m.cls := findClass_of_methodNamed B.named
  have hlocks := B.notSynchronized
  have hS : va_S A s.heap s.heap [] := va_S.rf
  have hl := lv_entry ([.ref (ad 0 0), .int x1, .int x2]) (n := 3) (Nat.le_of_ble_eq_true rfl)
  rw [lg_entry_eq]
  generalize (lg_sl ([.ref (ad 0 0), .int x1, .int x2]) ++ List.replicate (3 - (lg_sl ([.ref (ad 0 0), .int x1, .int x2])).length) Slot.unset).toArray = ls at hl ⊢
  have hl : lv_has ls 3 [(0, .ref (ad 0 0)), (1, .int x1), (2, .int x2)] := hl
  unfold f_M_ready at hf

  refine lv_aload_n hx hb d_M_ready_0 rfl (lv_at hl 0 rfl) ?_
  obtain ⟨o1, ho1, hf⟩ := og_b hf
  refine kc_v (P := (fun u H => MW D cA ad n A u H)) (va_runV (C := "GridlockDeskModel") (As := []) (rest := []) ⟨hx, hb, hml, hown, hts⟩ (m_M_now0 l D cA ad n A _    o1 ho1) (cwV 0 hts (tb_V tw_408 tw_410 tw_19 tw_35 tw_411) rfl rfl rfl (by decide +kernel) ⟨Nat.le_of_ble_eq_true rfl, Nat.le_of_ble_eq_true rfl⟩) ⟨k_blind, kw.recv hK hW.1 (t := 0) rfl rfl rfl, k_pre hW hK⟩ rfl rfl hl.1 rfl (lv_room (Nat.le_of_ble_eq_true rfl)) d_M_ready_1 ⟨Nat.zero_le _, Nat.zero_le _⟩) hS (fun H locs hW hS => ?_)
  refine lv_aload_n hx hb d_M_ready_4 rfl (lv_at hl 0 rfl) ?_
  refine lv_iload_n hx hb d_M_ready_5 rfl (lv_at hl 1 rfl) ?_
  obtain ⟨o2, ho2, hf⟩ := og_b hf
  refine kc_v (P := (fun u H => MW D cA ad n A u H)) (va_runV (C := "GridlockDeskModel") (As := [.int _]) (rest := []) ⟨hx, hb, hml, hown, hts⟩ (m_M_plan l D cA ad n A _  _  o2 ho2) (cwV 1 hts (tb_V tw_415 tw_417 tw_20 tw_35 tw_418) rfl rfl rfl (by decide +kernel) ⟨Nat.le_of_ble_eq_true rfl, Nat.le_of_ble_eq_true rfl⟩) ⟨k_blind, kw.recv hK hW.1 (t := 0) rfl rfl rfl, k_pre hW hK⟩ rfl rfl hl.1 rfl (lv_room (Nat.le_of_ble_eq_true rfl)) d_M_ready_6 ⟨Nat.zero_le _, Nat.zero_le _⟩) hS (fun H locs hW hS => ?_)
  refine lv_iload_n hx hb d_M_ready_9 rfl (lv_at hl 2 rfl) ?_
  refine lv_if_lt (tgt := 18) hx hb d_M_ready_10 rfl (fun hc => ?_) (fun hc => ?_)
  · replace hf := og_t hc hf
    refine lv_aload_n hx hb d_M_ready_18 rfl (lv_at hl 0 rfl) ?_
    obtain ⟨o3, ho3, hf⟩ := og_b hf
    refine kc_i (P := (fun u H => MW D cA ad n A u H)) (va_runV (C := "GridlockDeskModel") (As := []) (rest := []) ⟨hx, hb, hml, hown, hts⟩ (m_M_allWell l D cA ad n A _    o3 ho3) (cwV 0 hts (tb_V tw_419 tw_421 tw_21 tw_35 tw_422) rfl rfl rfl (by decide +kernel) ⟨Nat.le_of_ble_eq_true rfl, Nat.le_of_ble_eq_true rfl⟩) ⟨k_blind, kw.recv hK hW.1 (t := 0) rfl rfl rfl, k_pre hW hK⟩ rfl rfl hl.1 rfl (lv_room (Nat.le_of_ble_eq_true rfl)) d_M_ready_19 ⟨Nat.zero_le _, Nat.zero_le _⟩) hS (fun H locs hW hS => ?_)
    obtain ⟨hz01, hf⟩ := og_if hf
    exact W.zret hx hb hr (nz_ok hz01) (fun t ht hWm => ⟨⟨_, _, rfl, Option.some.inj hf, by rw [ht]; exact hW, va_K.moved hWm.alike hK⟩, hS.F ht⟩) hS.2.2 d_M_ready_22
  · replace hf := og_f hc hf
    refine lv_aload_n hx hb d_M_ready_13 rfl (lv_at hl 0 rfl) ?_
    refine lv_iload_n hx hb d_M_ready_14 rfl (lv_at hl 2 rfl) ?_
    obtain ⟨o4, ho4, hf⟩ := og_b hf
    refine kc_v (P := (fun u H => MW D cA ad n A u H)) (va_runV (C := "GridlockDeskModel") (As := [.int _]) (rest := []) ⟨hx, hb, hml, hown, hts⟩ (m_M_plan l D cA ad n A _  _  o4 ho4) (cwV 1 hts (tb_V tw_415 tw_417 tw_20 tw_35 tw_418) rfl rfl rfl (by decide +kernel) ⟨Nat.le_of_ble_eq_true rfl, Nat.le_of_ble_eq_true rfl⟩) ⟨k_blind, kw.recv hK hW.1 (t := 0) rfl rfl rfl, k_pre hW hK⟩ rfl rfl hl.1 rfl (lv_room (Nat.le_of_ble_eq_true rfl)) d_M_ready_15 ⟨Nat.zero_le _, Nat.zero_le _⟩) hS (fun H locs hW hS => ?_)
    refine lv_aload_n hx hb d_M_ready_18 rfl (lv_at hl 0 rfl) ?_
    obtain ⟨o5, ho5, hf⟩ := og_b hf
    refine kc_i (P := (fun u H => MW D cA ad n A u H)) (va_runV (C := "GridlockDeskModel") (As := []) (rest := []) ⟨hx, hb, hml, hown, hts⟩ (m_M_allWell l D cA ad n A _    o5 ho5) (cwV 0 hts (tb_V tw_419 tw_421 tw_21 tw_35 tw_422) rfl rfl rfl (by decide +kernel) ⟨Nat.le_of_ble_eq_true rfl, Nat.le_of_ble_eq_true rfl⟩) ⟨k_blind, kw.recv hK hW.1 (t := 0) rfl rfl rfl, k_pre hW hK⟩ rfl rfl hl.1 rfl (lv_room (Nat.le_of_ble_eq_true rfl)) d_M_ready_19 ⟨Nat.zero_le _, Nat.zero_le _⟩) hS (fun H locs hW hS => ?_)
    obtain ⟨hz01, hf⟩ := og_if hf
    exact W.zret hx hb hr (nz_ok hz01) (fun t ht hWm => ⟨⟨_, _, rfl, Option.some.inj hf, by rw [ht]; exact hW, va_K.moved hWm.alike hK⟩, hS.F ht⟩) hS.2.2 d_M_ready_22

set_option maxHeartbeats 4000000 in
set_option maxRecDepth 100000 in
theorem m_M_settle (l : Launch) (D : va_G) (cA : Nat → ClassId) (ad : Nat → Nat → Nat) (n : Nat) (A : Nat → Prop) (σ : St) (x1 : Int32) (x2 : Int32)  (out : Unit × St) (hf : f_M_settle n σ x1 x2 = some out) : Met l y_M_settle ws_M_settle ({ frames := 0, cells := 0, slots := 0, locals := 0 }) (va_Pc [.ref (ad 0 0), .int x1, .int x2] (fun U => MW D cA ad n A σ U.heap ∧ va_K D vCl (atys cA) U)) (va_Qv (fun u => ((), u) = out) (fun u t => MW D cA ad n A u t.heap ∧ va_K D vCl (atys cA) t) A) 0 0 A := by
  refine Met.ofW (cc := prog_5_method_10_code) (maxL := 4) (ret := none) (by decide) rfl ?_
  intro p e s m args below meth c s₁ B hml hv
  obtain ⟨rfl, hW, hK⟩ := hv
  have hx := B.exec
  have hb := B.bytes
  have hr := B.returns
  have hts := atoms_spec (ws := ws_M_settle) B.pre
  have ht : ∀ w ∈ TB, w.before _ s = true := fun w h => hts w (List.mem_cons_of_mem _ h)
  have hown : s.vm.findClass "GridlockDeskModel" = some m.cls := findClass_of_methodNamed B.named
  have hlocks := B.notSynchronized
  have hS : va_S A s.heap s.heap [] := va_S.rf
  have hl := lv_entry ([.ref (ad 0 0), .int x1, .int x2]) (n := 4) (Nat.le_of_ble_eq_true rfl)
  rw [lg_entry_eq]
  generalize (lg_sl ([.ref (ad 0 0), .int x1, .int x2]) ++ List.replicate (4 - (lg_sl ([.ref (ad 0 0), .int x1, .int x2])).length) Slot.unset).toArray = ls at hl ⊢
  have hl : lv_has ls 4 [(0, .ref (ad 0 0)), (1, .int x1), (2, .int x2)] := hl
  unfold f_M_settle at hf

  refine lv_iconst (v := 4) hx hb d_M_settle_0 (by decide) ?_
  refine lv_aload_n hx hb d_M_settle_1 rfl (lv_at hl 0 rfl) ?_
  refine va_get (D := D) (ci := 3) (C := "GridlockDeskModel") (T := T_M) (N := 22) hx hb ht hin_M hown hK (hW.1.one (t := 0) rfl) 0 rfl rfl 10 (by decide) (ht _ tw_335) (fun _ h9 => h9) rfl d_M_settle_2 ?_
  refine lv_iload_n hx hb d_M_settle_5 rfl (lv_at hl 1 rfl) ?_
  obtain ⟨hin1, hf⟩ := og_if hf
  refine va_iald (D := D) hx hb hK (hW.1.one (t := 6) rfl) 0 1 rfl rfl hin1 d_M_settle_6 ?_
  refine lv_imul hx hb d_M_settle_7 ?_
  refine lv_aload_n hx hb d_M_settle_8 rfl (lv_at hl 0 rfl) ?_
  refine va_get (D := D) (ci := 3) (C := "GridlockDeskModel") (T := T_M) (N := 22) hx hb ht hin_M hown hK (hW.1.one (t := 0) rfl) 0 rfl rfl 11 (by decide) (ht _ tw_336) (fun _ h9 => h9) rfl d_M_settle_9 ?_
  refine lv_iload_n hx hb d_M_settle_12 rfl (lv_at hl 1 rfl) ?_
  obtain ⟨hin2, hf⟩ := og_if hf
  refine va_iald (D := D) hx hb hK (hW.1.one (t := 7) rfl) 0 1 rfl rfl hin2 d_M_settle_13 ?_
  refine lv_iadd hx hb d_M_settle_14 ?_
  refine lv_istore_n (lv' := [(3, .int _), (0, .ref _), (1, .int _), (2, .int _)]) hx hb d_M_settle_15 rfl hl (by decide) rfl (fun ls hl => ?_)
  refine lv_aload_n hx hb d_M_settle_16 rfl (lv_at hl 1 rfl) ?_
  refine va_get (D := D) (ci := 3) (C := "GridlockDeskModel") (T := T_M) (N := 22) hx hb ht hin_M hown hK (hW.1.one (t := 0) rfl) 0 rfl rfl 3 (by decide) (ht _ tw_328) (fun _ h9 => h9) rfl d_M_settle_17 ?_
  refine lv_aload_n hx hb d_M_settle_20 rfl (lv_at hl 1 rfl) ?_
  refine va_get (D := D) (ci := 3) (C := "GridlockDeskModel") (T := T_M) (N := 22) hx hb ht hin_M hown hK (hW.1.one (t := 0) rfl) 0 rfl rfl 10 (by decide) (ht _ tw_335) (fun _ h9 => h9) rfl d_M_settle_21 ?_
  refine lv_iload_n hx hb d_M_settle_24 rfl (lv_at hl 2 rfl) ?_
  obtain ⟨hin3, hf⟩ := og_if hf
  refine va_iald (D := D) hx hb hK (hW.1.one (t := 6) rfl) 0 1 rfl rfl hin3 d_M_settle_25 ?_
  refine lv_aload_n hx hb d_M_settle_26 rfl (lv_at hl 1 rfl) ?_
  refine va_get (D := D) (ci := 3) (C := "GridlockDeskModel") (T := T_M) (N := 22) hx hb ht hin_M hown hK (hW.1.one (t := 0) rfl) 0 rfl rfl 3 (by decide) (ht _ tw_328) (fun _ h9 => h9) rfl d_M_settle_27 ?_
  refine lv_aload_n hx hb d_M_settle_30 rfl (lv_at hl 1 rfl) ?_
  refine va_get (D := D) (ci := 3) (C := "GridlockDeskModel") (T := T_M) (N := 22) hx hb ht hin_M hown hK (hW.1.one (t := 0) rfl) 0 rfl rfl 10 (by decide) (ht _ tw_335) (fun _ h9 => h9) rfl d_M_settle_31 ?_
  refine lv_iload_n hx hb d_M_settle_34 rfl (lv_at hl 2 rfl) ?_
  obtain ⟨hin4, hf⟩ := og_if hf
  refine va_iald (D := D) hx hb hK (hW.1.one (t := 6) rfl) 0 1 rfl rfl hin4 d_M_settle_35 ?_
  obtain ⟨hin5, hf⟩ := og_if hf
  refine va_lald (D := D) hx hb hK (hW.1.one (t := 1) rfl) 0 0 rfl rfl hin5 d_M_settle_36 ?_
  refine lv_aload_n hx hb d_M_settle_37 rfl (lv_at hl 1 rfl) ?_
  refine va_get (D := D) (ci := 3) (C := "GridlockDeskModel") (T := T_M) (N := 22) hx hb ht hin_M hown hK (hW.1.one (t := 0) rfl) 0 rfl rfl 12 (by decide) (ht _ tw_337) (fun _ h9 => h9) rfl d_M_settle_38 ?_
  refine lv_iload_n hx hb d_M_settle_41 rfl (lv_at hl 2 rfl) ?_
  obtain ⟨hin6, hf⟩ := og_if hf
  refine va_lald (D := D) hx hb hK (hW.1.one (t := 8) rfl) 0 0 rfl rfl hin6 d_M_settle_42 ?_
  refine lv_lsub hx hb d_M_settle_43 ?_
  obtain ⟨hin7, hf⟩ := og_if hf
  obtain ⟨σ8, eσ8, hf⟩ := og_b hf
  cases eσ8
  refine k_last  (t := 1) hx hb hK hW.1 hS rfl (hW.2 _ _ rfl) 0 rfl rfl hin7 d_M_settle_44 mm_wL1 (fun H locs hW1 hS => ?_)
  have hW := MW.wL hW1 hW.2
  refine lv_aload_n hx hb d_M_settle_45 rfl (lv_at hl 1 rfl) ?_
  refine va_get (D := D) (ci := 3) (C := "GridlockDeskModel") (T := T_M) (N := 22) hx hb ht hin_M hown hK (hW.1.one (t := 0) rfl) 0 rfl rfl 3 (by decide) (ht _ tw_328) (fun _ h9 => h9) rfl d_M_settle_46 ?_
  refine lv_aload_n hx hb d_M_settle_49 rfl (lv_at hl 1 rfl) ?_
  refine va_get (D := D) (ci := 3) (C := "GridlockDeskModel") (T := T_M) (N := 22) hx hb ht hin_M hown hK (hW.1.one (t := 0) rfl) 0 rfl rfl 11 (by decide) (ht _ tw_336) (fun _ h9 => h9) rfl d_M_settle_50 ?_
  refine lv_iload_n hx hb d_M_settle_53 rfl (lv_at hl 2 rfl) ?_
  obtain ⟨hin9, hf⟩ := og_if hf
  refine va_iald (D := D) hx hb hK (hW.1.one (t := 7) rfl) 0 1 rfl rfl hin9 d_M_settle_54 ?_
  refine lv_aload_n hx hb d_M_settle_55 rfl (lv_at hl 1 rfl) ?_
  refine va_get (D := D) (ci := 3) (C := "GridlockDeskModel") (T := T_M) (N := 22) hx hb ht hin_M hown hK (hW.1.one (t := 0) rfl) 0 rfl rfl 3 (by decide) (ht _ tw_328) (fun _ h9 => h9) rfl d_M_settle_56 ?_
  refine lv_aload_n hx hb d_M_settle_59 rfl (lv_at hl 1 rfl) ?_
  refine va_get (D := D) (ci := 3) (C := "GridlockDeskModel") (T := T_M) (N := 22) hx hb ht hin_M hown hK (hW.1.one (t := 0) rfl) 0 rfl rfl 11 (by decide) (ht _ tw_336) (fun _ h9 => h9) rfl d_M_settle_60 ?_
  refine lv_iload_n hx hb d_M_settle_63 rfl (lv_at hl 2 rfl) ?_
  obtain ⟨hin10, hf⟩ := og_if hf
  refine va_iald (D := D) hx hb hK (hW.1.one (t := 7) rfl) 0 1 rfl rfl hin10 d_M_settle_64 ?_
  obtain ⟨hin11, hf⟩ := og_if hf
  refine va_lald (D := D) hx hb hK (hW.1.one (t := 1) rfl) 0 0 rfl rfl hin11 d_M_settle_65 ?_
  refine lv_aload_n hx hb d_M_settle_66 rfl (lv_at hl 1 rfl) ?_
  refine va_get (D := D) (ci := 3) (C := "GridlockDeskModel") (T := T_M) (N := 22) hx hb ht hin_M hown hK (hW.1.one (t := 0) rfl) 0 rfl rfl 12 (by decide) (ht _ tw_337) (fun _ h9 => h9) rfl d_M_settle_67 ?_
  refine lv_iload_n hx hb d_M_settle_70 rfl (lv_at hl 2 rfl) ?_
  obtain ⟨hin12, hf⟩ := og_if hf
  refine va_lald (D := D) hx hb hK (hW.1.one (t := 8) rfl) 0 0 rfl rfl hin12 d_M_settle_71 ?_
  refine lv_ladd hx hb d_M_settle_72 ?_
  obtain ⟨hin13, hf⟩ := og_if hf
  obtain ⟨σ14, eσ14, hf⟩ := og_b hf
  cases eσ14
  refine k_last  (t := 1) hx hb hK hW.1 hS rfl (hW.2 _ _ rfl) 0 rfl rfl hin13 d_M_settle_73 mm_wL1 (fun H locs hW1 hS => ?_)
  have hW := MW.wL hW1 hW.2
  refine lv_aload_n hx hb d_M_settle_74 rfl (lv_at hl 1 rfl) ?_
  refine va_get (D := D) (ci := 3) (C := "GridlockDeskModel") (T := T_M) (N := 22) hx hb ht hin_M hown hK (hW.1.one (t := 0) rfl) 0 rfl rfl 7 (by decide) (ht _ tw_332) (fun _ h9 => h9) rfl d_M_settle_75 ?_
  refine lv_iload_n hx hb d_M_settle_78 rfl (lv_at hl 0 rfl) ?_
  refine lv_aload_n hx hb d_M_settle_79 rfl (lv_at hl 1 rfl) ?_
  refine va_get (D := D) (ci := 3) (C := "GridlockDeskModel") (T := T_M) (N := 22) hx hb ht hin_M hown hK (hW.1.one (t := 0) rfl) 0 rfl rfl 7 (by decide) (ht _ tw_332) (fun _ h9 => h9) rfl d_M_settle_80 ?_
  refine lv_iload_n hx hb d_M_settle_83 rfl (lv_at hl 0 rfl) ?_
  obtain ⟨hin15, hf⟩ := og_if hf
  refine va_lald (D := D) hx hb hK (hW.1.one (t := 5) rfl) 0 0 rfl rfl hin15 d_M_settle_84 ?_
  refine lv_aload_n hx hb d_M_settle_85 rfl (lv_at hl 1 rfl) ?_
  refine va_get (D := D) (ci := 3) (C := "GridlockDeskModel") (T := T_M) (N := 22) hx hb ht hin_M hown hK (hW.1.one (t := 0) rfl) 0 rfl rfl 12 (by decide) (ht _ tw_337) (fun _ h9 => h9) rfl d_M_settle_86 ?_
  refine lv_iload_n hx hb d_M_settle_89 rfl (lv_at hl 2 rfl) ?_
  obtain ⟨hin16, hf⟩ := og_if hf
  refine va_lald (D := D) hx hb hK (hW.1.one (t := 8) rfl) 0 0 rfl rfl hin16 d_M_settle_90 ?_
  refine lv_ladd hx hb d_M_settle_91 ?_
  obtain ⟨hin17, hf⟩ := og_if hf
  obtain ⟨σ18, eσ18, hf⟩ := og_b hf
  cases eσ18
  refine k_last  (t := 5) hx hb hK hW.1 hS rfl (hW.2 _ _ rfl) 0 rfl rfl hin17 d_M_settle_92 mm_wL5 (fun H locs hW1 hS => ?_)
  have hW := MW.wL hW1 hW.2
  refine lv_aload_n hx hb d_M_settle_93 rfl (lv_at hl 1 rfl) ?_
  refine lv_aload_n hx hb d_M_settle_94 rfl (lv_at hl 1 rfl) ?_
  refine va_get (D := D) (ci := 3) (C := "GridlockDeskModel") (T := T_M) (N := 22) hx hb ht hin_M hown hK (hW.1.one (t := 0) rfl) 0 rfl rfl 2 (by decide) (ht _ tw_327) (fun _ h9 => h9) rfl d_M_settle_95 ?_
  refine lv_aload_n hx hb d_M_settle_98 rfl (lv_at hl 1 rfl) ?_
  refine va_get (D := D) (ci := 3) (C := "GridlockDeskModel") (T := T_M) (N := 22) hx hb ht hin_M hown hK (hW.1.one (t := 0) rfl) 0 rfl rfl 12 (by decide) (ht _ tw_337) (fun _ h9 => h9) rfl d_M_settle_99 ?_
  refine lv_iload_n hx hb d_M_settle_102 rfl (lv_at hl 2 rfl) ?_
  obtain ⟨hin19, hf⟩ := og_if hf
  refine va_lald (D := D) hx hb hK (hW.1.one (t := 8) rfl) 0 0 rfl rfl hin19 d_M_settle_103 ?_
  refine lv_ladd hx hb d_M_settle_104 ?_
  obtain ⟨σ20, eσ20, hf⟩ := og_b hf
  cases eσ20
  refine k_put  (ci := 3) (C := "GridlockDeskModel") (T := T_M) (N := 22) (ty := .long) (t := 0) hx hb ht hin_M ft_M ft_M_ok nm_M hown hK hW.1 hS rfl (hW.2 _ _ rfl) rfl rfl 2 (by decide) (ht _ tw_327) (fun _ h9 => h9) rfl (by decide +kernel) rfl rfl (Nat.le_of_ble_eq_true rfl) d_M_settle_105 mm_wL0 (fun H locs hW1 hS => ?_)
  have hW := MW.wL hW1 hW.2
  refine lv_aload_n hx hb d_M_settle_108 rfl (lv_at hl 1 rfl) ?_
  refine va_get (D := D) (ci := 3) (C := "GridlockDeskModel") (T := T_M) (N := 22) hx hb ht hin_M hown hK (hW.1.one (t := 0) rfl) 0 rfl rfl 16 (by decide) (ht _ tw_341) (fun _ h9 => h9) rfl d_M_settle_109 ?_
  refine lv_iload_n hx hb d_M_settle_112 rfl (lv_at hl 2 rfl) ?_
  refine lv_iload_n hx hb d_M_settle_113 rfl (lv_at hl 3 rfl) ?_
  obtain ⟨hin21, hf⟩ := og_if hf
  obtain ⟨σ22, eσ22, hf⟩ := og_b hf
  cases eσ22
  refine k_iast  (t := 12) hx hb hK hW.1 hS rfl (hW.2 _ _ rfl) 1 rfl rfl hin21 d_M_settle_114 mm_wI9 (fun H locs hW1 hS => ?_)
  have hW := MW.wI hW1 hW.2
  exact W.vret hx hb hr (fun t ht hWm => ⟨⟨_, rfl, Option.some.inj hf, by rw [ht]; exact hW, va_K.moved hWm.alike hK⟩, hS.F ht⟩) hS.2.2 d_M_settle_115

set_option maxHeartbeats 4000000 in
set_option maxRecDepth 100000 in
theorem lp_M_alone_2_ok {p : Program} {l : Launch} {e : Env} {s : State} {m : MethodId} {args : Array Value} {below : List Frame} {meth : Method} {c : Code} (D : va_G) (cA : Nat → ClassId) (ad : Nat → Nat → Nat) (n : Nat) (A : Nat → Prop) (hx : p.tables.exec = Jvm.exec) (hb : c.code = prog_5_method_11_code) (hml : c.maxLocals = 2) (hr : meth.sig.returnType = (some .boolean)) (hts : ∀ w ∈ ws_M_alone, w.before args s = true) (hown : s.vm.findClass "GridlockDeskModel" = some m.cls) (hlocks : meth.locks = false) (hK : va_K D vCl (atys cA) s) (k : St → Option (Int32 × St)) (out : Int32 × St)  (hk : ∀ (σ : St)  (H : Heap) (locs : List Loc) (ls : Array Slot), lv_has ls 2 [] → MW D cA ad n A σ H → va_S A s.heap H locs → k σ  = some out → W p l e (headSpec ws_M_alone ({ frames := 2, cells := 0, slots := 0, locals := 48 })).room s m args below meth c H locs 0 0 (MQ below (va_Qi (fun r u => (r, u) = out) (fun u t => MW D cA ad n A u t.heap ∧ va_K D vCl (atys cA) t) A) args s 0 0 A) (F0 m 58 ls [])) : ∀ (fu : Nat) (σ : St) (v1 : Int32) (H : Heap) (locs : List Loc) (ls : Array Slot), lv_has ls 2 [(0, .ref (ad 0 0)), (1, .int v1)] → MW D cA ad n A σ H → va_S A s.heap H locs → lp_M_alone_2 n k fu σ v1 = some out → W p l e (headSpec ws_M_alone ({ frames := 2, cells := 0, slots := 0, locals := 48 })).room s m args below meth c H locs 0 0 (MQ below (va_Qi (fun r u => (r, u) = out) (fun u t => MW D cA ad n A u t.heap ∧ va_K D vCl (atys cA) t) A) args s 0 0 A) (F0 m 2 ls []) := by
  intro fu
  induction fu with
  | zero =>
    intro σ v1 H locs ls  hl hW hS hf
    exact og_n hf
  | succ fu ih =>
    intro σ v1 H locs ls  hl hW hS hf
    rw [lp_M_alone_2_s] at hf
    have ht : ∀ w ∈ TB, w.before args s = true := fun w h => hts w (List.mem_cons_of_mem _ h)
    refine lv_iload_n hx hb d_M_alone_2 rfl (lv_at hl 1 rfl) ?_
    refine lv_aload_n hx hb d_M_alone_3 rfl (lv_at hl 0 rfl) ?_
    refine va_get (D := D) (ci := 3) (C := "GridlockDeskModel") (T := T_M) (N := 22) hx hb ht hin_M hown hK (hW.1.one (t := 0) rfl) 0 rfl rfl 0 (by decide) (ht _ tw_325) (fun _ h9 => h9) rfl d_M_alone_4 ?_
    refine lv_icmp_ge (tgt := 58) hx hb d_M_alone_7 rfl (fun hc => ?_) (fun hc => ?_)
    · replace hf := og_t hc hf
      exact hk _  _ _ _  (lv_sub hl [] rfl) hW hS hf
    · replace hf := og_f hc hf
      refine lv_aload_n hx hb d_M_alone_10 rfl (lv_at hl 0 rfl) ?_
      refine va_get (D := D) (ci := 3) (C := "GridlockDeskModel") (T := T_M) (N := 22) hx hb ht hin_M hown hK (hW.1.one (t := 0) rfl) 0 rfl rfl 18 (by decide) (ht _ tw_343) (fun _ h9 => h9) rfl d_M_alone_11 ?_
      refine lv_iload_n hx hb d_M_alone_14 rfl (lv_at hl 1 rfl) ?_
      obtain ⟨hin1, hf⟩ := og_if hf
      refine va_iald (D := D) hx hb hK (hW.1.one (t := 14) rfl) 0 1 rfl rfl hin1 d_M_alone_15 ?_
      refine lv_if_le (tgt := 52) hx hb d_M_alone_16 rfl (fun hc => ?_) (fun hc => ?_)
      · replace hf := og_t hc hf
        refine lv_iinc (k := 1) (v := _ + 1) (lv' := [(1, .int _), (0, .ref _)]) hx hb d_M_alone_52 hl rfl rfl (by decide) rfl (fun ls hl => ?_)
        refine lv_goto (tgt := 2) hx hb d_M_alone_55 rfl ?_
        exact ih _ _ _ _ _  (lv_sub hl [1, 0] rfl) hW hS hf
      · replace hf := og_f hc hf
        refine lv_aload_n hx hb d_M_alone_19 rfl (lv_at hl 0 rfl) ?_
        refine lv_aload_n hx hb d_M_alone_20 rfl (lv_at hl 0 rfl) ?_
        refine va_get (D := D) (ci := 3) (C := "GridlockDeskModel") (T := T_M) (N := 22) hx hb ht hin_M hown hK (hW.1.one (t := 0) rfl) 0 rfl rfl 17 (by decide) (ht _ tw_342) (fun _ h9 => h9) rfl d_M_alone_21 ?_
        refine lv_bipush (v := 6) hx hb d_M_alone_24 (by decide) ?_
        refine lv_iload_n hx hb d_M_alone_26 rfl (lv_at hl 1 rfl) ?_
        refine lv_imul hx hb d_M_alone_27 ?_
        obtain ⟨hin2, hf⟩ := og_if hf
        refine va_iald (D := D) hx hb hK (hW.1.one (t := 13) rfl) 0 1 rfl rfl hin2 d_M_alone_28 ?_
        refine lv_iconst (v := (-1)) hx hb d_M_alone_29 (by decide) ?_
        obtain ⟨o3, ho3, hf⟩ := og_b hf
        refine kc_i (P := (fun u H => MW D cA ad n A u H)) (va_runV (C := "GridlockDeskModel") (As := [.int _, .int _]) (rest := []) ⟨hx, hb, hml, hown, hts⟩ (m_M_ready l D cA ad n A _  _ _  o3 ho3) (cwV 2 hts (tb_V tw_435 tw_437 tw_25 tw_35 tw_438) rfl rfl rfl (by decide +kernel) ⟨Nat.le_of_ble_eq_true rfl, Nat.le_of_ble_eq_true rfl⟩) ⟨k_blind, kw.recv hK hW.1 (t := 0) rfl rfl rfl, k_pre hW hK⟩ rfl rfl hl.1 rfl (lv_room (Nat.le_of_ble_eq_true rfl)) d_M_alone_30 ⟨Nat.zero_le _, Nat.zero_le _⟩) hS (fun H locs hW hS => ?_)
        refine lv_if_eq (tgt := 52) hx hb d_M_alone_33 rfl (fun hc => ?_) (fun hc => ?_)
        · replace hf := og_t hc hf
          refine lv_iinc (k := 1) (v := _ + 1) (lv' := [(1, .int _), (0, .ref _)]) hx hb d_M_alone_52 hl rfl rfl (by decide) rfl (fun ls hl => ?_)
          refine lv_goto (tgt := 2) hx hb d_M_alone_55 rfl ?_
          exact ih _ _ _ _ _  (lv_sub hl [1, 0] rfl) hW hS hf
        · replace hf := og_f hc hf
          refine lv_aload_n hx hb d_M_alone_36 rfl (lv_at hl 0 rfl) ?_
          refine lv_aload_n hx hb d_M_alone_37 rfl (lv_at hl 0 rfl) ?_
          refine va_get (D := D) (ci := 3) (C := "GridlockDeskModel") (T := T_M) (N := 22) hx hb ht hin_M hown hK (hW.1.one (t := 0) rfl) 0 rfl rfl 17 (by decide) (ht _ tw_342) (fun _ h9 => h9) rfl d_M_alone_38 ?_
          refine lv_bipush (v := 6) hx hb d_M_alone_41 (by decide) ?_
          refine lv_iload_n hx hb d_M_alone_43 rfl (lv_at hl 1 rfl) ?_
          refine lv_imul hx hb d_M_alone_44 ?_
          obtain ⟨hin4, hf⟩ := og_if hf
          refine va_iald (D := D) hx hb hK (hW.1.one (t := 13) rfl) 0 1 rfl rfl hin4 d_M_alone_45 ?_
          refine lv_iconst (v := 1) hx hb d_M_alone_46 (by decide) ?_
          obtain ⟨o5, ho5, hf⟩ := og_b hf
          refine kc_v (P := (fun u H => MW D cA ad n A u H)) (va_runV (C := "GridlockDeskModel") (As := [.int _, .int _]) (rest := []) ⟨hx, hb, hml, hown, hts⟩ (m_M_settle l D cA ad n A _  _ _  o5 ho5) (cwV 2 hts (tb_V tw_423 tw_425 tw_22 tw_35 tw_426) rfl rfl rfl (by decide +kernel) ⟨Nat.le_of_ble_eq_true rfl, Nat.le_of_ble_eq_true rfl⟩) ⟨k_blind, kw.recv hK hW.1 (t := 0) rfl rfl rfl, k_pre hW hK⟩ rfl rfl hl.1 rfl (lv_room (Nat.le_of_ble_eq_true rfl)) d_M_alone_47 ⟨Nat.zero_le _, Nat.zero_le _⟩) hS (fun H locs hW hS => ?_)
          refine lv_iconst (v := 1) hx hb d_M_alone_50 (by decide) ?_
          exact W.zret hx hb hr rfl (fun t ht hWm => ⟨⟨_, _, rfl, Option.some.inj hf, by rw [ht]; exact hW, va_K.moved hWm.alike hK⟩, hS.F ht⟩) hS.2.2 d_M_alone_51

set_option maxHeartbeats 4000000 in
set_option maxRecDepth 100000 in
theorem m_M_alone (l : Launch) (D : va_G) (cA : Nat → ClassId) (ad : Nat → Nat → Nat) (n : Nat) (A : Nat → Prop) (σ : St)   (out : Int32 × St) (hf : f_M_alone n σ  = some out) : Met l y_M_alone ws_M_alone ({ frames := 2, cells := 0, slots := 0, locals := 48 }) (va_Pc [.ref (ad 0 0)] (fun U => MW D cA ad n A σ U.heap ∧ va_K D vCl (atys cA) U)) (va_Qi (fun r u => (r, u) = out) (fun u t => MW D cA ad n A u t.heap ∧ va_K D vCl (atys cA) t) A) 0 0 A := by
  refine Met.ofW (cc := prog_5_method_11_code) (maxL := 2) (ret := (some .boolean)) (by decide) rfl ?_
  intro p e s m args below meth c s₁ B hml hv
  obtain ⟨rfl, hW, hK⟩ := hv
  have hx := B.exec
  have hb := B.bytes
  have hr := B.returns
  have hts := atoms_spec (ws := ws_M_alone) B.pre
  have ht : ∀ w ∈ TB, w.before _ s = true := fun w h => hts w (List.mem_cons_of_mem _ h)
  have hown : s.vm.findClass "GridlockDeskModel" = some m.cls := findClass_of_methodNamed B.named
  have hlocks := B.notSynchronized
  have hS : va_S A s.heap s.heap [] := va_S.rf
  have hl := lv_entry ([.ref (ad 0 0)]) (n := 2) (Nat.le_of_ble_eq_true rfl)
  rw [lg_entry_eq]
  generalize (lg_sl ([.ref (ad 0 0)]) ++ List.replicate (2 - (lg_sl ([.ref (ad 0 0)])).length) Slot.unset).toArray = ls at hl ⊢
  have hl : lv_has ls 2 [(0, .ref (ad 0 0))] := hl
  unfold f_M_alone at hf

  refine lv_iconst (v := 0) hx hb d_M_alone_0 (by decide) ?_
  refine lv_istore_n (lv' := [(1, .int _), (0, .ref _)]) hx hb d_M_alone_1 rfl hl (by decide) rfl (fun ls hl => ?_)
  refine lp_M_alone_2_ok D cA ad n A hx hb hml hr hts hown hlocks hK _ _  (fun σ6 H locs ls  hl hW hS hf => ?_) _ _ _ _ _ _  (lv_sub hl [1, 0] rfl) hW hS hf
  refine lv_iconst (v := 0) hx hb d_M_alone_58 (by decide) ?_
  exact W.zret hx hb hr rfl (fun t ht hWm => ⟨⟨_, _, rfl, Option.some.inj hf, by rw [ht]; exact hW, va_K.moved hWm.alike hK⟩, hS.F ht⟩) hS.2.2 d_M_alone_59

set_option maxHeartbeats 4000000 in
set_option maxRecDepth 100000 in
theorem lp_M_pair_14_ok {p : Program} {l : Launch} {e : Env} {s : State} {m : MethodId} {args : Array Value} {below : List Frame} {meth : Method} {c : Code} (D : va_G) (cA : Nat → ClassId) (ad : Nat → Nat → Nat) (n : Nat) (A : Nat → Prop) (hx : p.tables.exec = Jvm.exec) (hb : c.code = prog_5_method_12_code) (hml : c.maxLocals = 4) (hr : meth.sig.returnType = (some .boolean)) (hts : ∀ w ∈ ws_M_pair, w.before args s = true) (hown : s.vm.findClass "GridlockDeskModel" = some m.cls) (hlocks : meth.locks = false) (hK : va_K D vCl (atys cA) s) (k : St → Option (Int32 × St)) (out : Int32 × St) (v1 : Int32) (hk : ∀ (σ : St)  (H : Heap) (locs : List Loc) (ls : Array Slot), lv_has ls 4 [(0, .ref (ad 0 0)), (1, .int v1)] → MW D cA ad n A σ H → va_S A s.heap H locs → k σ  = some out → W p l e (headSpec ws_M_pair ({ frames := 2, cells := 0, slots := 0, locals := 48 })).room s m args below meth c H locs 0 0 (MQ below (va_Qi (fun r u => (r, u) = out) (fun u t => MW D cA ad n A u t.heap ∧ va_K D vCl (atys cA) t) A) args s 0 0 A) (F0 m 147 ls [])) : ∀ (fu : Nat) (σ : St) (v2 : Int32) (H : Heap) (locs : List Loc) (ls : Array Slot), lv_has ls 4 [(0, .ref (ad 0 0)), (1, .int v1), (2, .int v2)] → MW D cA ad n A σ H → va_S A s.heap H locs → lp_M_pair_14 n k fu σ v1 v2 = some out → W p l e (headSpec ws_M_pair ({ frames := 2, cells := 0, slots := 0, locals := 48 })).room s m args below meth c H locs 0 0 (MQ below (va_Qi (fun r u => (r, u) = out) (fun u t => MW D cA ad n A u t.heap ∧ va_K D vCl (atys cA) t) A) args s 0 0 A) (F0 m 14 ls []) := by
  intro fu
  induction fu with
  | zero =>
    intro σ v2 H locs ls  hl hW hS hf
    exact og_n hf
  | succ fu ih =>
    intro σ v2 H locs ls  hl hW hS hf
    rw [lp_M_pair_14_s] at hf
    have ht : ∀ w ∈ TB, w.before args s = true := fun w h => hts w (List.mem_cons_of_mem _ h)
    refine lv_iload_n hx hb d_M_pair_14 rfl (lv_at hl 2 rfl) ?_
    refine lv_aload_n hx hb d_M_pair_15 rfl (lv_at hl 0 rfl) ?_
    refine va_get (D := D) (ci := 3) (C := "GridlockDeskModel") (T := T_M) (N := 22) hx hb ht hin_M hown hK (hW.1.one (t := 0) rfl) 0 rfl rfl 0 (by decide) (ht _ tw_325) (fun _ h9 => h9) rfl d_M_pair_16 ?_
    refine lv_icmp_ge (tgt := 147) hx hb d_M_pair_19 rfl (fun hc => ?_) (fun hc => ?_)
    · replace hf := og_t hc hf
      exact hk _  _ _ _  (lv_sub hl [0, 1] rfl) hW hS hf
    · replace hf := og_f hc hf
      refine lv_aload_n hx hb d_M_pair_22 rfl (lv_at hl 0 rfl) ?_
      refine va_get (D := D) (ci := 3) (C := "GridlockDeskModel") (T := T_M) (N := 22) hx hb ht hin_M hown hK (hW.1.one (t := 0) rfl) 0 rfl rfl 18 (by decide) (ht _ tw_343) (fun _ h9 => h9) rfl d_M_pair_23 ?_
      refine lv_iload_n hx hb d_M_pair_26 rfl (lv_at hl 1 rfl) ?_
      obtain ⟨hin1, hf⟩ := og_if hf
      refine va_iald (D := D) hx hb hK (hW.1.one (t := 14) rfl) 0 1 rfl rfl hin1 d_M_pair_27 ?_
      refine lv_if_le (tgt := 80) hx hb d_M_pair_28 rfl (fun hc => ?_) (fun hc => ?_)
      · replace hf := og_t hc hf
        refine lv_iconst (v := 0) hx hb d_M_pair_80 (by decide) ?_
        refine lv_istore_n (lv' := [(3, .int _), (0, .ref _), (1, .int _), (2, .int _)]) hx hb d_M_pair_81 rfl hl (by decide) rfl (fun ls hl => ?_)
        refine lv_iload_n hx hb d_M_pair_82 rfl (lv_at hl 0 rfl) ?_
        refine lv_if_eq (tgt := 141) hx hb d_M_pair_83 rfl (fun _ => ?_) (fun hc => absurd (by decide) hc)
        refine lv_iinc (k := 3) (v := _ + 1) (lv' := [(2, .int _), (3, .int _), (0, .ref _), (1, .int _)]) hx hb d_M_pair_141 hl rfl rfl (by decide) rfl (fun ls hl => ?_)
        refine lv_goto (tgt := 14) hx hb d_M_pair_144 rfl ?_
        exact ih _ _ _ _ _  (lv_sub hl [2, 3, 0] rfl) hW hS hf
      · replace hf := og_f hc hf
        refine lv_aload_n hx hb d_M_pair_31 rfl (lv_at hl 0 rfl) ?_
        refine va_get (D := D) (ci := 3) (C := "GridlockDeskModel") (T := T_M) (N := 22) hx hb ht hin_M hown hK (hW.1.one (t := 0) rfl) 0 rfl rfl 18 (by decide) (ht _ tw_343) (fun _ h9 => h9) rfl d_M_pair_32 ?_
        refine lv_iload_n hx hb d_M_pair_35 rfl (lv_at hl 2 rfl) ?_
        obtain ⟨hin2, hf⟩ := og_if hf
        refine va_iald (D := D) hx hb hK (hW.1.one (t := 14) rfl) 0 1 rfl rfl hin2 d_M_pair_36 ?_
        refine lv_if_le (tgt := 80) hx hb d_M_pair_37 rfl (fun hc => ?_) (fun hc => ?_)
        · replace hf := og_t hc hf
          refine lv_iconst (v := 0) hx hb d_M_pair_80 (by decide) ?_
          refine lv_istore_n (lv' := [(3, .int _), (0, .ref _), (1, .int _), (2, .int _)]) hx hb d_M_pair_81 rfl hl (by decide) rfl (fun ls hl => ?_)
          refine lv_iload_n hx hb d_M_pair_82 rfl (lv_at hl 0 rfl) ?_
          refine lv_if_eq (tgt := 141) hx hb d_M_pair_83 rfl (fun _ => ?_) (fun hc => absurd (by decide) hc)
          refine lv_iinc (k := 3) (v := _ + 1) (lv' := [(2, .int _), (3, .int _), (0, .ref _), (1, .int _)]) hx hb d_M_pair_141 hl rfl rfl (by decide) rfl (fun ls hl => ?_)
          refine lv_goto (tgt := 14) hx hb d_M_pair_144 rfl ?_
          exact ih _ _ _ _ _  (lv_sub hl [2, 3, 0] rfl) hW hS hf
        · replace hf := og_f hc hf
          refine lv_aload_n hx hb d_M_pair_40 rfl (lv_at hl 0 rfl) ?_
          refine va_get (D := D) (ci := 3) (C := "GridlockDeskModel") (T := T_M) (N := 22) hx hb ht hin_M hown hK (hW.1.one (t := 0) rfl) 0 rfl rfl 11 (by decide) (ht _ tw_336) (fun _ h9 => h9) rfl d_M_pair_41 ?_
          refine lv_aload_n hx hb d_M_pair_44 rfl (lv_at hl 0 rfl) ?_
          refine va_get (D := D) (ci := 3) (C := "GridlockDeskModel") (T := T_M) (N := 22) hx hb ht hin_M hown hK (hW.1.one (t := 0) rfl) 0 rfl rfl 17 (by decide) (ht _ tw_342) (fun _ h9 => h9) rfl d_M_pair_45 ?_
          refine lv_bipush (v := 6) hx hb d_M_pair_48 (by decide) ?_
          refine lv_iload_n hx hb d_M_pair_50 rfl (lv_at hl 1 rfl) ?_
          refine lv_imul hx hb d_M_pair_51 ?_
          obtain ⟨hin3, hf⟩ := og_if hf
          refine va_iald (D := D) hx hb hK (hW.1.one (t := 13) rfl) 0 1 rfl rfl hin3 d_M_pair_52 ?_
          obtain ⟨hin4, hf⟩ := og_if hf
          refine va_iald (D := D) hx hb hK (hW.1.one (t := 7) rfl) 0 1 rfl rfl hin4 d_M_pair_53 ?_
          refine lv_iload_n hx hb d_M_pair_54 rfl (lv_at hl 2 rfl) ?_
          refine lv_icmp_ne (tgt := 80) hx hb d_M_pair_55 rfl (fun hc => ?_) (fun hc => ?_)
          · replace hf := og_f hc hf
            refine lv_iconst (v := 0) hx hb d_M_pair_80 (by decide) ?_
            refine lv_istore_n (lv' := [(3, .int _), (0, .ref _), (1, .int _), (2, .int _)]) hx hb d_M_pair_81 rfl hl (by decide) rfl (fun ls hl => ?_)
            refine lv_iload_n hx hb d_M_pair_82 rfl (lv_at hl 0 rfl) ?_
            refine lv_if_eq (tgt := 141) hx hb d_M_pair_83 rfl (fun _ => ?_) (fun hc => absurd (by decide) hc)
            refine lv_iinc (k := 3) (v := _ + 1) (lv' := [(2, .int _), (3, .int _), (0, .ref _), (1, .int _)]) hx hb d_M_pair_141 hl rfl rfl (by decide) rfl (fun ls hl => ?_)
            refine lv_goto (tgt := 14) hx hb d_M_pair_144 rfl ?_
            exact ih _ _ _ _ _  (lv_sub hl [2, 3, 0] rfl) hW hS hf
          · replace hf := og_t hc hf
            refine lv_aload_n hx hb d_M_pair_58 rfl (lv_at hl 0 rfl) ?_
            refine va_get (D := D) (ci := 3) (C := "GridlockDeskModel") (T := T_M) (N := 22) hx hb ht hin_M hown hK (hW.1.one (t := 0) rfl) 0 rfl rfl 11 (by decide) (ht _ tw_336) (fun _ h9 => h9) rfl d_M_pair_59 ?_
            refine lv_aload_n hx hb d_M_pair_62 rfl (lv_at hl 0 rfl) ?_
            refine va_get (D := D) (ci := 3) (C := "GridlockDeskModel") (T := T_M) (N := 22) hx hb ht hin_M hown hK (hW.1.one (t := 0) rfl) 0 rfl rfl 17 (by decide) (ht _ tw_342) (fun _ h9 => h9) rfl d_M_pair_63 ?_
            refine lv_bipush (v := 6) hx hb d_M_pair_66 (by decide) ?_
            refine lv_iload_n hx hb d_M_pair_68 rfl (lv_at hl 2 rfl) ?_
            refine lv_imul hx hb d_M_pair_69 ?_
            obtain ⟨hin5, hf⟩ := og_if hf
            refine va_iald (D := D) hx hb hK (hW.1.one (t := 13) rfl) 0 1 rfl rfl hin5 d_M_pair_70 ?_
            obtain ⟨hin6, hf⟩ := og_if hf
            refine va_iald (D := D) hx hb hK (hW.1.one (t := 7) rfl) 0 1 rfl rfl hin6 d_M_pair_71 ?_
            refine lv_iload_n hx hb d_M_pair_72 rfl (lv_at hl 1 rfl) ?_
            refine lv_icmp_ne (tgt := 80) hx hb d_M_pair_73 rfl (fun hc => ?_) (fun hc => ?_)
            · replace hf := og_f hc hf
              refine lv_iconst (v := 0) hx hb d_M_pair_80 (by decide) ?_
              refine lv_istore_n (lv' := [(3, .int _), (0, .ref _), (1, .int _), (2, .int _)]) hx hb d_M_pair_81 rfl hl (by decide) rfl (fun ls hl => ?_)
              refine lv_iload_n hx hb d_M_pair_82 rfl (lv_at hl 0 rfl) ?_
              refine lv_if_eq (tgt := 141) hx hb d_M_pair_83 rfl (fun _ => ?_) (fun hc => absurd (by decide) hc)
              refine lv_iinc (k := 3) (v := _ + 1) (lv' := [(2, .int _), (3, .int _), (0, .ref _), (1, .int _)]) hx hb d_M_pair_141 hl rfl rfl (by decide) rfl (fun ls hl => ?_)
              refine lv_goto (tgt := 14) hx hb d_M_pair_144 rfl ?_
              exact ih _ _ _ _ _  (lv_sub hl [2, 3, 0] rfl) hW hS hf
            · replace hf := og_t hc hf
              refine lv_iconst (v := 1) hx hb d_M_pair_76 (by decide) ?_
              refine lv_goto (tgt := 81) hx hb d_M_pair_77 rfl ?_
              refine lv_istore_n (lv' := [(3, .int _), (0, .ref _), (1, .int _), (2, .int _)]) hx hb d_M_pair_81 rfl hl (by decide) rfl (fun ls hl => ?_)
              refine lv_iload_n hx hb d_M_pair_82 rfl (lv_at hl 0 rfl) ?_
              refine lv_if_eq (tgt := 141) hx hb d_M_pair_83 rfl (fun hc => absurd hc (by decide)) (fun _ => ?_)
              refine lv_aload_n hx hb d_M_pair_86 rfl (lv_at hl 1 rfl) ?_
              refine lv_aload_n hx hb d_M_pair_87 rfl (lv_at hl 1 rfl) ?_
              refine va_get (D := D) (ci := 3) (C := "GridlockDeskModel") (T := T_M) (N := 22) hx hb ht hin_M hown hK (hW.1.one (t := 0) rfl) 0 rfl rfl 17 (by decide) (ht _ tw_342) (fun _ h9 => h9) rfl d_M_pair_88 ?_
              refine lv_bipush (v := 6) hx hb d_M_pair_91 (by decide) ?_
              refine lv_iload_n hx hb d_M_pair_93 rfl (lv_at hl 2 rfl) ?_
              refine lv_imul hx hb d_M_pair_94 ?_
              obtain ⟨hin7, hf⟩ := og_if hf
              refine va_iald (D := D) hx hb hK (hW.1.one (t := 13) rfl) 0 1 rfl rfl hin7 d_M_pair_95 ?_
              refine lv_aload_n hx hb d_M_pair_96 rfl (lv_at hl 1 rfl) ?_
              refine va_get (D := D) (ci := 3) (C := "GridlockDeskModel") (T := T_M) (N := 22) hx hb ht hin_M hown hK (hW.1.one (t := 0) rfl) 0 rfl rfl 17 (by decide) (ht _ tw_342) (fun _ h9 => h9) rfl d_M_pair_97 ?_
              refine lv_bipush (v := 6) hx hb d_M_pair_100 (by decide) ?_
              refine lv_iload_n hx hb d_M_pair_102 rfl (lv_at hl 3 rfl) ?_
              refine lv_imul hx hb d_M_pair_103 ?_
              obtain ⟨hin8, hf⟩ := og_if hf
              refine va_iald (D := D) hx hb hK (hW.1.one (t := 13) rfl) 0 1 rfl rfl hin8 d_M_pair_104 ?_
              obtain ⟨o9, ho9, hf⟩ := og_b hf
              refine kc_i (P := (fun u H => MW D cA ad n A u H)) (va_runV (C := "GridlockDeskModel") (As := [.int _, .int _]) (rest := []) ⟨hx, hb, hml, hown, hts⟩ (m_M_ready l D cA ad n A _  _ _  o9 ho9) (cwV 2 hts (tb_V tw_435 tw_437 tw_25 tw_35 tw_438) rfl rfl rfl (by decide +kernel) ⟨Nat.le_of_ble_eq_true rfl, Nat.le_of_ble_eq_true rfl⟩) ⟨k_blind, kw.recv hK hW.1 (t := 0) rfl rfl rfl, k_pre hW hK⟩ rfl rfl hl.1 rfl (lv_room (Nat.le_of_ble_eq_true rfl)) d_M_pair_105 ⟨Nat.zero_le _, Nat.zero_le _⟩) hS (fun H locs hW hS => ?_)
              refine lv_if_eq (tgt := 141) hx hb d_M_pair_108 rfl (fun hc => ?_) (fun hc => ?_)
              · replace hf := og_t hc hf
                refine lv_iinc (k := 3) (v := _ + 1) (lv' := [(2, .int _), (3, .int _), (0, .ref _), (1, .int _)]) hx hb d_M_pair_141 hl rfl rfl (by decide) rfl (fun ls hl => ?_)
                refine lv_goto (tgt := 14) hx hb d_M_pair_144 rfl ?_
                exact ih _ _ _ _ _  (lv_sub hl [2, 3, 0] rfl) hW hS hf
              · replace hf := og_f hc hf
                refine lv_aload_n hx hb d_M_pair_111 rfl (lv_at hl 1 rfl) ?_
                refine lv_aload_n hx hb d_M_pair_112 rfl (lv_at hl 1 rfl) ?_
                refine va_get (D := D) (ci := 3) (C := "GridlockDeskModel") (T := T_M) (N := 22) hx hb ht hin_M hown hK (hW.1.one (t := 0) rfl) 0 rfl rfl 17 (by decide) (ht _ tw_342) (fun _ h9 => h9) rfl d_M_pair_113 ?_
                refine lv_bipush (v := 6) hx hb d_M_pair_116 (by decide) ?_
                refine lv_iload_n hx hb d_M_pair_118 rfl (lv_at hl 2 rfl) ?_
                refine lv_imul hx hb d_M_pair_119 ?_
                obtain ⟨hin10, hf⟩ := og_if hf
                refine va_iald (D := D) hx hb hK (hW.1.one (t := 13) rfl) 0 1 rfl rfl hin10 d_M_pair_120 ?_
                refine lv_iconst (v := 2) hx hb d_M_pair_121 (by decide) ?_
                obtain ⟨o11, ho11, hf⟩ := og_b hf
                refine kc_v (P := (fun u H => MW D cA ad n A u H)) (va_runV (C := "GridlockDeskModel") (As := [.int _, .int _]) (rest := []) ⟨hx, hb, hml, hown, hts⟩ (m_M_settle l D cA ad n A _  _ _  o11 ho11) (cwV 2 hts (tb_V tw_423 tw_425 tw_22 tw_35 tw_426) rfl rfl rfl (by decide +kernel) ⟨Nat.le_of_ble_eq_true rfl, Nat.le_of_ble_eq_true rfl⟩) ⟨k_blind, kw.recv hK hW.1 (t := 0) rfl rfl rfl, k_pre hW hK⟩ rfl rfl hl.1 rfl (lv_room (Nat.le_of_ble_eq_true rfl)) d_M_pair_122 ⟨Nat.zero_le _, Nat.zero_le _⟩) hS (fun H locs hW hS => ?_)
                refine lv_aload_n hx hb d_M_pair_125 rfl (lv_at hl 1 rfl) ?_
                refine lv_aload_n hx hb d_M_pair_126 rfl (lv_at hl 1 rfl) ?_
                refine va_get (D := D) (ci := 3) (C := "GridlockDeskModel") (T := T_M) (N := 22) hx hb ht hin_M hown hK (hW.1.one (t := 0) rfl) 0 rfl rfl 17 (by decide) (ht _ tw_342) (fun _ h9 => h9) rfl d_M_pair_127 ?_
                refine lv_bipush (v := 6) hx hb d_M_pair_130 (by decide) ?_
                refine lv_iload_n hx hb d_M_pair_132 rfl (lv_at hl 3 rfl) ?_
                refine lv_imul hx hb d_M_pair_133 ?_
                obtain ⟨hin12, hf⟩ := og_if hf
                refine va_iald (D := D) hx hb hK (hW.1.one (t := 13) rfl) 0 1 rfl rfl hin12 d_M_pair_134 ?_
                refine lv_iconst (v := 2) hx hb d_M_pair_135 (by decide) ?_
                obtain ⟨o13, ho13, hf⟩ := og_b hf
                refine kc_v (P := (fun u H => MW D cA ad n A u H)) (va_runV (C := "GridlockDeskModel") (As := [.int _, .int _]) (rest := []) ⟨hx, hb, hml, hown, hts⟩ (m_M_settle l D cA ad n A _  _ _  o13 ho13) (cwV 2 hts (tb_V tw_423 tw_425 tw_22 tw_35 tw_426) rfl rfl rfl (by decide +kernel) ⟨Nat.le_of_ble_eq_true rfl, Nat.le_of_ble_eq_true rfl⟩) ⟨k_blind, kw.recv hK hW.1 (t := 0) rfl rfl rfl, k_pre hW hK⟩ rfl rfl hl.1 rfl (lv_room (Nat.le_of_ble_eq_true rfl)) d_M_pair_136 ⟨Nat.zero_le _, Nat.zero_le _⟩) hS (fun H locs hW hS => ?_)
                refine lv_iconst (v := 1) hx hb d_M_pair_139 (by decide) ?_
                exact W.zret hx hb hr rfl (fun t ht hWm => ⟨⟨_, _, rfl, Option.some.inj hf, by rw [ht]; exact hW, va_K.moved hWm.alike hK⟩, hS.F ht⟩) hS.2.2 d_M_pair_140

set_option maxHeartbeats 4000000 in
set_option maxRecDepth 100000 in
theorem lp_M_pair_2_ok {p : Program} {l : Launch} {e : Env} {s : State} {m : MethodId} {args : Array Value} {below : List Frame} {meth : Method} {c : Code} (D : va_G) (cA : Nat → ClassId) (ad : Nat → Nat → Nat) (n : Nat) (A : Nat → Prop) (hx : p.tables.exec = Jvm.exec) (hb : c.code = prog_5_method_12_code) (hml : c.maxLocals = 4) (hr : meth.sig.returnType = (some .boolean)) (hts : ∀ w ∈ ws_M_pair, w.before args s = true) (hown : s.vm.findClass "GridlockDeskModel" = some m.cls) (hlocks : meth.locks = false) (hK : va_K D vCl (atys cA) s) (k : St → Option (Int32 × St)) (out : Int32 × St)  (hk : ∀ (σ : St)  (H : Heap) (locs : List Loc) (ls : Array Slot), lv_has ls 4 [] → MW D cA ad n A σ H → va_S A s.heap H locs → k σ  = some out → W p l e (headSpec ws_M_pair ({ frames := 2, cells := 0, slots := 0, locals := 48 })).room s m args below meth c H locs 0 0 (MQ below (va_Qi (fun r u => (r, u) = out) (fun u t => MW D cA ad n A u t.heap ∧ va_K D vCl (atys cA) t) A) args s 0 0 A) (F0 m 153 ls [])) : ∀ (fu : Nat) (σ : St) (v1 : Int32) (H : Heap) (locs : List Loc) (ls : Array Slot), lv_has ls 4 [(0, .ref (ad 0 0)), (1, .int v1)] → MW D cA ad n A σ H → va_S A s.heap H locs → lp_M_pair_2 n k fu σ v1 = some out → W p l e (headSpec ws_M_pair ({ frames := 2, cells := 0, slots := 0, locals := 48 })).room s m args below meth c H locs 0 0 (MQ below (va_Qi (fun r u => (r, u) = out) (fun u t => MW D cA ad n A u t.heap ∧ va_K D vCl (atys cA) t) A) args s 0 0 A) (F0 m 2 ls []) := by
  intro fu
  induction fu with
  | zero =>
    intro σ v1 H locs ls  hl hW hS hf
    exact og_n hf
  | succ fu ih =>
    intro σ v1 H locs ls  hl hW hS hf
    rw [lp_M_pair_2_s] at hf
    have ht : ∀ w ∈ TB, w.before args s = true := fun w h => hts w (List.mem_cons_of_mem _ h)
    refine lv_iload_n hx hb d_M_pair_2 rfl (lv_at hl 1 rfl) ?_
    refine lv_aload_n hx hb d_M_pair_3 rfl (lv_at hl 0 rfl) ?_
    refine va_get (D := D) (ci := 3) (C := "GridlockDeskModel") (T := T_M) (N := 22) hx hb ht hin_M hown hK (hW.1.one (t := 0) rfl) 0 rfl rfl 0 (by decide) (ht _ tw_325) (fun _ h9 => h9) rfl d_M_pair_4 ?_
    refine lv_icmp_ge (tgt := 153) hx hb d_M_pair_7 rfl (fun hc => ?_) (fun hc => ?_)
    · replace hf := og_t hc hf
      exact hk _  _ _ _  (lv_sub hl [] rfl) hW hS hf
    · replace hf := og_f hc hf
      refine lv_iload_n hx hb d_M_pair_10 rfl (lv_at hl 1 rfl) ?_
      refine lv_iconst (v := 1) hx hb d_M_pair_11 (by decide) ?_
      refine lv_iadd hx hb d_M_pair_12 ?_
      refine lv_istore_n (lv' := [(2, .int _), (0, .ref _), (1, .int _)]) hx hb d_M_pair_13 rfl hl (by decide) rfl (fun ls hl => ?_)
      refine lp_M_pair_14_ok D cA ad n A hx hb hml hr hts hown hlocks hK _ _ _ (fun σ14 H locs ls  hl hW hS hf => ?_) _ _ _ _ _ _  (lv_sub hl [1, 2, 0] rfl) hW hS hf
      refine lv_iinc (k := 1) (v := _ + 1) (lv' := [(1, .int _), (0, .ref _)]) hx hb d_M_pair_147 hl rfl rfl (by decide) rfl (fun ls hl => ?_)
      refine lv_goto (tgt := 2) hx hb d_M_pair_150 rfl ?_
      exact ih _ _ _ _ _  (lv_sub hl [1, 0] rfl) hW hS hf

set_option maxHeartbeats 4000000 in
set_option maxRecDepth 100000 in
theorem m_M_pair (l : Launch) (D : va_G) (cA : Nat → ClassId) (ad : Nat → Nat → Nat) (n : Nat) (A : Nat → Prop) (σ : St)   (out : Int32 × St) (hf : f_M_pair n σ  = some out) : Met l y_M_pair ws_M_pair ({ frames := 2, cells := 0, slots := 0, locals := 48 }) (va_Pc [.ref (ad 0 0)] (fun U => MW D cA ad n A σ U.heap ∧ va_K D vCl (atys cA) U)) (va_Qi (fun r u => (r, u) = out) (fun u t => MW D cA ad n A u t.heap ∧ va_K D vCl (atys cA) t) A) 0 0 A := by
  refine Met.ofW (cc := prog_5_method_12_code) (maxL := 4) (ret := (some .boolean)) (by decide) rfl ?_
  intro p e s m args below meth c s₁ B hml hv
  obtain ⟨rfl, hW, hK⟩ := hv
  have hx := B.exec
  have hb := B.bytes
  have hr := B.returns
  have hts := atoms_spec (ws := ws_M_pair) B.pre
  have ht : ∀ w ∈ TB, w.before _ s = true := fun w h => hts w (List.mem_cons_of_mem _ h)
  have hown : s.vm.findClass "GridlockDeskModel" = some m.cls := findClass_of_methodNamed B.named
  have hlocks := B.notSynchronized
  have hS : va_S A s.heap s.heap [] := va_S.rf
  have hl := lv_entry ([.ref (ad 0 0)]) (n := 4) (Nat.le_of_ble_eq_true rfl)
  rw [lg_entry_eq]
  generalize (lg_sl ([.ref (ad 0 0)]) ++ List.replicate (4 - (lg_sl ([.ref (ad 0 0)])).length) Slot.unset).toArray = ls at hl ⊢
  have hl : lv_has ls 4 [(0, .ref (ad 0 0))] := hl
  unfold f_M_pair at hf

  refine lv_iconst (v := 0) hx hb d_M_pair_0 (by decide) ?_
  refine lv_istore_n (lv' := [(1, .int _), (0, .ref _)]) hx hb d_M_pair_1 rfl hl (by decide) rfl (fun ls hl => ?_)
  refine lp_M_pair_2_ok D cA ad n A hx hb hml hr hts hown hlocks hK _ _  (fun σ15 H locs ls  hl hW hS hf => ?_) _ _ _ _ _ _  (lv_sub hl [1, 0] rfl) hW hS hf
  refine lv_iconst (v := 0) hx hb d_M_pair_153 (by decide) ?_
  exact W.zret hx hb hr rfl (fun t ht hWm => ⟨⟨_, _, rfl, Option.some.inj hf, by rw [ht]; exact hW, va_K.moved hWm.alike hK⟩, hS.F ht⟩) hS.2.2 d_M_pair_154

set_option maxHeartbeats 4000000 in
set_option maxRecDepth 100000 in
theorem lp_M_sweep_4_ok {p : Program} {l : Launch} {e : Env} {s : State} {m : MethodId} {args : Array Value} {below : List Frame} {meth : Method} {c : Code} (D : va_G) (cA : Nat → ClassId) (ad : Nat → Nat → Nat) (n : Nat) (A : Nat → Prop) (hx : p.tables.exec = Jvm.exec) (hb : c.code = prog_5_method_13_code) (hml : c.maxLocals = 3) (hr : meth.sig.returnType = none) (hts : ∀ w ∈ ws_M_sweep, w.before args s = true) (hown : s.vm.findClass "GridlockDeskModel" = some m.cls) (hlocks : meth.locks = false) (hK : va_K D vCl (atys cA) s) (k : St → Option (Unit × St)) (out : Unit × St)  (hk : ∀ (σ : St)  (H : Heap) (locs : List Loc) (ls : Array Slot), lv_has ls 3 [] → MW D cA ad n A σ H → va_S A s.heap H locs → k σ  = some out → W p l e (headSpec ws_M_sweep ({ frames := 3, cells := 0, slots := 0, locals := 71 })).room s m args below meth c H locs 0 0 (MQ below (va_Qv (fun u => ((), u) = out) (fun u t => MW D cA ad n A u t.heap ∧ va_K D vCl (atys cA) t) A) args s 0 0 A) (F0 m 45 ls [])) : ∀ (fu : Nat) (σ : St) (v1 : Int32) (v2 : Int32) (H : Heap) (locs : List Loc) (ls : Array Slot), lv_has ls 3 [(0, .ref (ad 0 0)), (1, .int v1), (2, .int v2)] → MW D cA ad n A σ H → va_S A s.heap H locs → lp_M_sweep_4 n k fu σ v1 v2 = some out → W p l e (headSpec ws_M_sweep ({ frames := 3, cells := 0, slots := 0, locals := 71 })).room s m args below meth c H locs 0 0 (MQ below (va_Qv (fun u => ((), u) = out) (fun u t => MW D cA ad n A u t.heap ∧ va_K D vCl (atys cA) t) A) args s 0 0 A) (F0 m 4 ls []) := by
  intro fu
  induction fu with
  | zero =>
    intro σ v1 v2 H locs ls  hl hW hS hf
    exact og_n hf
  | succ fu ih =>
    intro σ v1 v2 H locs ls  hl hW hS hf
    rw [lp_M_sweep_4_s] at hf
    have ht : ∀ w ∈ TB, w.before args s = true := fun w h => hts w (List.mem_cons_of_mem _ h)
    refine lv_iload_n hx hb d_M_sweep_4 rfl (lv_at hl 2 rfl) ?_
    refine lv_sipush (v := 200) hx hb d_M_sweep_5 (by decide) ?_
    refine lv_icmp_ge (tgt := 45) hx hb d_M_sweep_8 rfl (fun hc => ?_) (fun hc => ?_)
    · replace hf := og_t hc hf
      exact hk _  _ _ _  (lv_sub hl [] rfl) hW hS hf
    · replace hf := og_f hc hf
      refine lv_iload_n hx hb d_M_sweep_11 rfl (lv_at hl 1 rfl) ?_
      refine lv_if_eq (tgt := 45) hx hb d_M_sweep_12 rfl (fun hc => ?_) (fun hc => ?_)
      · replace hf := og_t hc hf
        exact hk _  _ _ _  (lv_sub hl [] rfl) hW hS hf
      · replace hf := og_f hc hf
        refine lv_aload_n hx hb d_M_sweep_15 rfl (lv_at hl 0 rfl) ?_
        obtain ⟨o1, ho1, hf⟩ := og_b hf
        refine kc_v (P := (fun u H => MW D cA ad n A u H)) (va_runV (C := "GridlockDeskModel") (As := []) (rest := []) ⟨hx, hb, hml, hown, hts⟩ (m_M_lineUp l D cA ad n A _    o1 ho1) (cwV 0 hts (tb_V tw_396 tw_398 tw_16 tw_35 tw_399) rfl rfl rfl (by decide +kernel) ⟨Nat.le_of_ble_eq_true rfl, Nat.le_of_ble_eq_true rfl⟩) ⟨k_blind, kw.recv hK hW.1 (t := 0) rfl rfl rfl, k_pre hW hK⟩ rfl rfl hl.1 rfl (lv_room (Nat.le_of_ble_eq_true rfl)) d_M_sweep_16 ⟨Nat.zero_le _, Nat.zero_le _⟩) hS (fun H locs hW hS => ?_)
        refine lv_aload_n hx hb d_M_sweep_19 rfl (lv_at hl 0 rfl) ?_
        obtain ⟨o2, ho2, hf⟩ := og_b hf
        refine kc_i (P := (fun u H => MW D cA ad n A u H)) (va_runV (C := "GridlockDeskModel") (As := []) (rest := []) ⟨hx, hb, hml, hown, hts⟩ (m_M_alone l D cA ad n A _    o2 ho2) (cwV 0 hts (tb_V tw_431 tw_433 tw_24 tw_35 tw_434) rfl rfl rfl (by decide +kernel) ⟨Nat.le_of_ble_eq_true rfl, Nat.le_of_ble_eq_true rfl⟩) ⟨k_blind, kw.recv hK hW.1 (t := 0) rfl rfl rfl, k_pre hW hK⟩ rfl rfl hl.1 rfl (lv_room (Nat.le_of_ble_eq_true rfl)) d_M_sweep_20 ⟨Nat.zero_le _, Nat.zero_le _⟩) hS (fun H locs hW hS => ?_)
        refine lv_if_ne (tgt := 33) hx hb d_M_sweep_23 rfl (fun hc => ?_) (fun hc => ?_)
        · replace hf := og_f hc hf
          refine lv_iconst (v := 1) hx hb d_M_sweep_33 (by decide) ?_
          refine lv_goto (tgt := 38) hx hb d_M_sweep_34 rfl ?_
          refine lv_istore_n (lv' := [(1, .int _), (0, .ref _), (2, .int _)]) hx hb d_M_sweep_38 rfl hl (by decide) rfl (fun ls hl => ?_)
          refine lv_iinc (k := 2) (v := _ + 1) (lv' := [(2, .int _), (1, .int _), (0, .ref _)]) hx hb d_M_sweep_39 hl rfl rfl (by decide) rfl (fun ls hl => ?_)
          refine lv_goto (tgt := 4) hx hb d_M_sweep_42 rfl ?_
          exact ih _ _ _ _ _ _  (lv_sub hl [2, 1, 0] rfl) hW hS hf
        · replace hf := og_t hc hf
          refine lv_aload_n hx hb d_M_sweep_26 rfl (lv_at hl 0 rfl) ?_
          obtain ⟨o3, ho3, hf⟩ := og_b hf
          refine kc_i (P := (fun u H => MW D cA ad n A u H)) (va_runV (C := "GridlockDeskModel") (As := []) (rest := []) ⟨hx, hb, hml, hown, hts⟩ (m_M_pair l D cA ad n A _    o3 ho3) (cwV 0 hts (tb_V tw_439 tw_441 tw_26 tw_35 tw_442) rfl rfl rfl (by decide +kernel) ⟨Nat.le_of_ble_eq_true rfl, Nat.le_of_ble_eq_true rfl⟩) ⟨k_blind, kw.recv hK hW.1 (t := 0) rfl rfl rfl, k_pre hW hK⟩ rfl rfl hl.1 rfl (lv_room (Nat.le_of_ble_eq_true rfl)) d_M_sweep_27 ⟨Nat.zero_le _, Nat.zero_le _⟩) hS (fun H locs hW hS => ?_)
          refine lv_if_eq (tgt := 37) hx hb d_M_sweep_30 rfl (fun hc => ?_) (fun hc => ?_)
          · replace hf := og_t hc hf
            refine lv_iconst (v := 0) hx hb d_M_sweep_37 (by decide) ?_
            refine lv_istore_n (lv' := [(1, .int _), (0, .ref _), (2, .int _)]) hx hb d_M_sweep_38 rfl hl (by decide) rfl (fun ls hl => ?_)
            refine lv_iinc (k := 2) (v := _ + 1) (lv' := [(2, .int _), (1, .int _), (0, .ref _)]) hx hb d_M_sweep_39 hl rfl rfl (by decide) rfl (fun ls hl => ?_)
            refine lv_goto (tgt := 4) hx hb d_M_sweep_42 rfl ?_
            exact ih _ _ _ _ _ _  (lv_sub hl [2, 1, 0] rfl) hW hS hf
          · replace hf := og_f hc hf
            refine lv_iconst (v := 1) hx hb d_M_sweep_33 (by decide) ?_
            refine lv_goto (tgt := 38) hx hb d_M_sweep_34 rfl ?_
            refine lv_istore_n (lv' := [(1, .int _), (0, .ref _), (2, .int _)]) hx hb d_M_sweep_38 rfl hl (by decide) rfl (fun ls hl => ?_)
            refine lv_iinc (k := 2) (v := _ + 1) (lv' := [(2, .int _), (1, .int _), (0, .ref _)]) hx hb d_M_sweep_39 hl rfl rfl (by decide) rfl (fun ls hl => ?_)
            refine lv_goto (tgt := 4) hx hb d_M_sweep_42 rfl ?_
            exact ih _ _ _ _ _ _  (lv_sub hl [2, 1, 0] rfl) hW hS hf

set_option maxHeartbeats 4000000 in
set_option maxRecDepth 100000 in
theorem m_M_sweep (l : Launch) (D : va_G) (cA : Nat → ClassId) (ad : Nat → Nat → Nat) (n : Nat) (A : Nat → Prop) (σ : St)   (out : Unit × St) (hf : f_M_sweep n σ  = some out) : Met l y_M_sweep ws_M_sweep ({ frames := 3, cells := 0, slots := 0, locals := 71 }) (va_Pc [.ref (ad 0 0)] (fun U => MW D cA ad n A σ U.heap ∧ va_K D vCl (atys cA) U)) (va_Qv (fun u => ((), u) = out) (fun u t => MW D cA ad n A u t.heap ∧ va_K D vCl (atys cA) t) A) 0 0 A := by
  refine Met.ofW (cc := prog_5_method_13_code) (maxL := 3) (ret := none) (by decide) rfl ?_
  intro p e s m args below meth c s₁ B hml hv
  obtain ⟨rfl, hW, hK⟩ := hv
  have hx := B.exec
  have hb := B.bytes
  have hr := B.returns
  have hts := atoms_spec (ws := ws_M_sweep) B.pre
  have ht : ∀ w ∈ TB, w.before _ s = true := fun w h => hts w (List.mem_cons_of_mem _ h)
  have hown : s.vm.findClass "GridlockDeskModel" = some m.cls := findClass_of_methodNamed B.named
  have hlocks := B.notSynchronized
  have hS : va_S A s.heap s.heap [] := va_S.rf
  have hl := lv_entry ([.ref (ad 0 0)]) (n := 3) (Nat.le_of_ble_eq_true rfl)
  rw [lg_entry_eq]
  generalize (lg_sl ([.ref (ad 0 0)]) ++ List.replicate (3 - (lg_sl ([.ref (ad 0 0)])).length) Slot.unset).toArray = ls at hl ⊢
  have hl : lv_has ls 3 [(0, .ref (ad 0 0))] := hl
  unfold f_M_sweep at hf

  refine lv_iconst (v := 1) hx hb d_M_sweep_0 (by decide) ?_
  refine lv_istore_n (lv' := [(1, .int _), (0, .ref _)]) hx hb d_M_sweep_1 rfl hl (by decide) rfl (fun ls hl => ?_)
  refine lv_iconst (v := 0) hx hb d_M_sweep_2 (by decide) ?_
  refine lv_istore_n (lv' := [(2, .int _), (1, .int _), (0, .ref _)]) hx hb d_M_sweep_3 rfl hl (by decide) rfl (fun ls hl => ?_)
  refine lp_M_sweep_4_ok D cA ad n A hx hb hml hr hts hown hlocks hK _ _  (fun σ4 H locs ls  hl hW hS hf => ?_) _ _ _ _ _ _ _  (lv_sub hl [2, 1, 0] rfl) hW hS hf
  exact W.vret hx hb hr (fun t ht hWm => ⟨⟨_, rfl, Option.some.inj hf, by rw [ht]; exact hW, va_K.moved hWm.alike hK⟩, hS.F ht⟩) hS.2.2 d_M_sweep_45

set_option maxHeartbeats 4000000 in
set_option maxRecDepth 100000 in
theorem lp_M_digit_4_ok {p : Program} {l : Launch} {e : Env} {s : State} {m : MethodId} {args : Array Value} {below : List Frame} {meth : Method} {c : Code} (D : va_G) (cA : Nat → ClassId) (ad : Nat → Nat → Nat) (n : Nat) (A : Nat → Prop) (hx : p.tables.exec = Jvm.exec) (hb : c.code = prog_5_method_14_code) (hml : c.maxLocals = 4) (hr : meth.sig.returnType = (some .int)) (hts : ∀ w ∈ ws_M_digit, w.before args s = true) (hown : s.vm.findClass "GridlockDeskModel" = some m.cls) (hlocks : meth.locks = false) (hK : va_K D vCl (atys cA) s) (k : St → Int32 → Option (Int32 × St)) (out : Int32 × St) (v1 : Int32) (hk : ∀ (σ : St) (v2 : Int32) (H : Heap) (locs : List Loc) (ls : Array Slot), lv_has ls 4 [(2, .int v2)] → MW D cA ad n A σ H → va_S A s.heap H locs → k σ v2 = some out → W p l e (headSpec ws_M_digit ({ frames := 0, cells := 0, slots := 0, locals := 0 })).room s m args below meth c H locs 0 0 (MQ below (va_Qi (fun r u => (r, u) = out) (fun u t => MW D cA ad n A u t.heap ∧ va_K D vCl (atys cA) t) A) args s 0 0 A) (F0 m 20 ls [])) : ∀ (fu : Nat) (σ : St) (v2 : Int32) (v3 : Int32) (H : Heap) (locs : List Loc) (ls : Array Slot), lv_has ls 4 [(1, .int v1), (2, .int v2), (3, .int v3)] → MW D cA ad n A σ H → va_S A s.heap H locs → lp_M_digit_4 n k fu σ v1 v2 v3 = some out → W p l e (headSpec ws_M_digit ({ frames := 0, cells := 0, slots := 0, locals := 0 })).room s m args below meth c H locs 0 0 (MQ below (va_Qi (fun r u => (r, u) = out) (fun u t => MW D cA ad n A u t.heap ∧ va_K D vCl (atys cA) t) A) args s 0 0 A) (F0 m 4 ls []) := by
  intro fu
  induction fu with
  | zero =>
    intro σ v2 v3 H locs ls  hl hW hS hf
    exact og_n hf
  | succ fu ih =>
    intro σ v2 v3 H locs ls  hl hW hS hf
    rw [lp_M_digit_4_s] at hf
    have ht : ∀ w ∈ TB, w.before args s = true := fun w h => hts w (List.mem_cons_of_mem _ h)
    refine lv_iload_n hx hb d_M_digit_4 rfl (lv_at hl 2 rfl) ?_
    refine lv_iload_n hx hb d_M_digit_5 rfl (lv_at hl 0 rfl) ?_
    refine lv_icmp_ge (tgt := 20) hx hb d_M_digit_6 rfl (fun hc => ?_) (fun hc => ?_)
    · replace hf := og_t hc hf
      exact hk _ _ _ _ _  (lv_sub hl [1] rfl) hW hS hf
    · replace hf := og_f hc hf
      refine lv_iload_n hx hb d_M_digit_9 rfl (lv_at hl 1 rfl) ?_
      refine lv_bipush (v := 7) hx hb d_M_digit_10 (by decide) ?_
      refine lv_idiv hx hb d_M_digit_12 (by decide) ?_
      refine lv_istore_n (lv' := [(2, .int _), (1, .int _), (3, .int _)]) hx hb d_M_digit_13 rfl hl (by decide) rfl (fun ls hl => ?_)
      refine lv_iinc (k := 2) (v := _ + 1) (lv' := [(3, .int _), (2, .int _), (1, .int _)]) hx hb d_M_digit_14 hl rfl rfl (by decide) rfl (fun ls hl => ?_)
      refine lv_goto (tgt := 4) hx hb d_M_digit_17 rfl ?_
      exact ih _ _ _ _ _ _  (lv_sub hl [2, 1, 0] rfl) hW hS hf

set_option maxHeartbeats 4000000 in
set_option maxRecDepth 100000 in
theorem m_M_digit (l : Launch) (D : va_G) (cA : Nat → ClassId) (ad : Nat → Nat → Nat) (n : Nat) (A : Nat → Prop) (σ : St) (x1 : Int32) (x2 : Int32)  (out : Int32 × St) (hf : f_M_digit n σ x1 x2 = some out) : Met l y_M_digit ws_M_digit ({ frames := 0, cells := 0, slots := 0, locals := 0 }) (va_Pc [.int x1, .int x2] (fun U => MW D cA ad n A σ U.heap ∧ va_K D vCl (atys cA) U)) (va_Qi (fun r u => (r, u) = out) (fun u t => MW D cA ad n A u t.heap ∧ va_K D vCl (atys cA) t) A) 0 0 A := by
  refine Met.ofW (cc := prog_5_method_14_code) (maxL := 4) (ret := (some .int)) (by decide) rfl ?_
  intro p e s m args below meth c s₁ B hml hv
  obtain ⟨rfl, hW, hK⟩ := hv
  have hx := B.exec
  have hb := B.bytes
  have hr := B.returns
  have hts := atoms_spec (ws := ws_M_digit) B.pre
  have ht : ∀ w ∈ TB, w.before _ s = true := fun w h => hts w (List.mem_cons_of_mem _ h)
  have hown : s.vm.findClass "GridlockDeskModel" = some m.cls := findClass_of_methodNamed B.named
  have hlocks := B.notSynchronized
  have hS : va_S A s.heap s.heap [] := va_S.rf
  have hl := lv_entry ([.int x1, .int x2]) (n := 4) (Nat.le_of_ble_eq_true rfl)
  rw [lg_entry_eq]
  generalize (lg_sl ([.int x1, .int x2]) ++ List.replicate (4 - (lg_sl ([.int x1, .int x2])).length) Slot.unset).toArray = ls at hl ⊢
  have hl : lv_has ls 4 [(0, .int x1), (1, .int x2)] := hl
  unfold f_M_digit at hf

  refine lv_iload_n hx hb d_M_digit_0 rfl (lv_at hl 0 rfl) ?_
  refine lv_istore_n (lv' := [(2, .int _), (0, .int _), (1, .int _)]) hx hb d_M_digit_1 rfl hl (by decide) rfl (fun ls hl => ?_)
  refine lv_iconst (v := 0) hx hb d_M_digit_2 (by decide) ?_
  refine lv_istore_n (lv' := [(3, .int _), (2, .int _), (0, .int _), (1, .int _)]) hx hb d_M_digit_3 rfl hl (by decide) rfl (fun ls hl => ?_)
  refine lp_M_digit_4_ok D cA ad n A hx hb hml hr hts hown hlocks hK _ _ _ (fun σ2 y2_1 H locs ls  hl hW hS hf => ?_) _ _ _ _ _ _ _  (lv_sub hl [3, 1, 0] rfl) hW hS hf
  refine lv_iload_n hx hb d_M_digit_20 rfl (lv_at hl 0 rfl) ?_
  refine lv_bipush (v := 7) hx hb d_M_digit_21 (by decide) ?_
  refine lv_irem hx hb d_M_digit_23 (by decide) ?_
  exact W.iret hx hb hr (fun t ht hWm => ⟨⟨_, _, rfl, Option.some.inj hf, by rw [ht]; exact hW, va_K.moved hWm.alike hK⟩, hS.F ht⟩) hS.2.2 d_M_digit_24

set_option maxHeartbeats 4000000 in
set_option maxRecDepth 100000 in
theorem lp_M_good_32_ok {p : Program} {l : Launch} {e : Env} {s : State} {m : MethodId} {args : Array Value} {below : List Frame} {meth : Method} {c : Code} (D : va_G) (cA : Nat → ClassId) (ad : Nat → Nat → Nat) (n : Nat) (A : Nat → Prop) (hx : p.tables.exec = Jvm.exec) (hb : c.code = prog_5_method_15_code) (hml : c.maxLocals = 5) (hr : meth.sig.returnType = (some .boolean)) (hts : ∀ w ∈ ws_M_good, w.before args s = true) (hown : s.vm.findClass "GridlockDeskModel" = some m.cls) (hlocks : meth.locks = false) (hK : va_K D vCl (atys cA) s) (k : St → Option (Int32 × St)) (out : Int32 × St) (v1 : Int32) (v2 : Int32) (v3 : Int32) (hk : ∀ (σ : St)  (H : Heap) (locs : List Loc) (ls : Array Slot), lv_has ls 5 [(0, .ref (ad 0 0)), (1, .int v1), (2, .int v2)] → MW D cA ad n A σ H → va_S A s.heap H locs → k σ  = some out → W p l e (headSpec ws_M_good ({ frames := 1, cells := 0, slots := 0, locals := 26 })).room s m args below meth c H locs 0 0 (MQ below (va_Qi (fun r u => (r, u) = out) (fun u t => MW D cA ad n A u t.heap ∧ va_K D vCl (atys cA) t) A) args s 0 0 A) (F0 m 60 ls [])) : ∀ (fu : Nat) (σ : St) (v4 : Int32) (H : Heap) (locs : List Loc) (ls : Array Slot), lv_has ls 5 [(0, .ref (ad 0 0)), (1, .int v1), (2, .int v2), (3, .int v3), (4, .int v4)] → MW D cA ad n A σ H → va_S A s.heap H locs → lp_M_good_32 n k fu σ v1 v2 v3 v4 = some out → W p l e (headSpec ws_M_good ({ frames := 1, cells := 0, slots := 0, locals := 26 })).room s m args below meth c H locs 0 0 (MQ below (va_Qi (fun r u => (r, u) = out) (fun u t => MW D cA ad n A u t.heap ∧ va_K D vCl (atys cA) t) A) args s 0 0 A) (F0 m 32 ls []) := by
  intro fu
  induction fu with
  | zero =>
    intro σ v4 H locs ls  hl hW hS hf
    exact og_n hf
  | succ fu ih =>
    intro σ v4 H locs ls  hl hW hS hf
    rw [lp_M_good_32_s] at hf
    have ht : ∀ w ∈ TB, w.before args s = true := fun w h => hts w (List.mem_cons_of_mem _ h)
    refine lv_iload hx hb d_M_good_32 (lv_at hl 4 rfl) ?_
    refine lv_iload_n hx hb d_M_good_34 rfl (lv_at hl 3 rfl) ?_
    refine lv_icmp_ge (tgt := 60) hx hb d_M_good_35 rfl (fun hc => ?_) (fun hc => ?_)
    · replace hf := og_t hc hf
      exact hk _  _ _ _  (lv_sub hl [0, 1, 2] rfl) hW hS hf
    · replace hf := og_f hc hf
      refine lv_aload_n hx hb d_M_good_38 rfl (lv_at hl 0 rfl) ?_
      refine lv_aload_n hx hb d_M_good_39 rfl (lv_at hl 0 rfl) ?_
      refine va_get (D := D) (ci := 3) (C := "GridlockDeskModel") (T := T_M) (N := 22) hx hb ht hin_M hown hK (hW.1.one (t := 0) rfl) 0 rfl rfl 17 (by decide) (ht _ tw_342) (fun _ h9 => h9) rfl d_M_good_40 ?_
      refine lv_bipush (v := 6) hx hb d_M_good_43 (by decide) ?_
      refine lv_iload_n hx hb d_M_good_45 rfl (lv_at hl 2 rfl) ?_
      refine lv_imul hx hb d_M_good_46 ?_
      refine lv_iload hx hb d_M_good_47 (lv_at hl 4 rfl) ?_
      refine lv_iadd hx hb d_M_good_49 ?_
      obtain ⟨hin4, hf⟩ := og_if hf
      refine va_iald (D := D) hx hb hK (hW.1.one (t := 13) rfl) 0 1 rfl rfl hin4 d_M_good_50 ?_
      obtain ⟨o5, ho5, hf⟩ := og_b hf
      refine kc_v (P := (fun u H => MW D cA ad n A u H)) (va_runV (C := "GridlockDeskModel") (As := [.int _]) (rest := []) ⟨hx, hb, hml, hown, hts⟩ (m_M_plan l D cA ad n A _  _  o5 ho5) (cwV 1 hts (tb_V tw_415 tw_417 tw_20 tw_35 tw_418) rfl rfl rfl (by decide +kernel) ⟨Nat.le_of_ble_eq_true rfl, Nat.le_of_ble_eq_true rfl⟩) ⟨k_blind, kw.recv hK hW.1 (t := 0) rfl rfl rfl, k_pre hW hK⟩ rfl rfl hl.1 rfl (lv_room (Nat.le_of_ble_eq_true rfl)) d_M_good_51 ⟨Nat.zero_le _, Nat.zero_le _⟩) hS (fun H locs hW hS => ?_)
      refine lv_iinc (k := 4) (v := _ + 1) (lv' := [(4, .int _), (0, .ref _), (1, .int _), (2, .int _), (3, .int _)]) hx hb d_M_good_54 hl rfl rfl (by decide) rfl (fun ls hl => ?_)
      refine lv_goto (tgt := 32) hx hb d_M_good_57 rfl ?_
      exact ih _ _ _ _ _  (lv_sub hl [1, 2, 3, 4, 0] rfl) hW hS hf

set_option maxHeartbeats 4000000 in
set_option maxRecDepth 100000 in
theorem lp_M_good_6_ok {p : Program} {l : Launch} {e : Env} {s : State} {m : MethodId} {args : Array Value} {below : List Frame} {meth : Method} {c : Code} (D : va_G) (cA : Nat → ClassId) (ad : Nat → Nat → Nat) (n : Nat) (A : Nat → Prop) (hx : p.tables.exec = Jvm.exec) (hb : c.code = prog_5_method_15_code) (hml : c.maxLocals = 5) (hr : meth.sig.returnType = (some .boolean)) (hts : ∀ w ∈ ws_M_good, w.before args s = true) (hown : s.vm.findClass "GridlockDeskModel" = some m.cls) (hlocks : meth.locks = false) (hK : va_K D vCl (atys cA) s) (k : St → Option (Int32 × St)) (out : Int32 × St) (v1 : Int32) (hk : ∀ (σ : St)  (H : Heap) (locs : List Loc) (ls : Array Slot), lv_has ls 5 [(0, .ref (ad 0 0))] → MW D cA ad n A σ H → va_S A s.heap H locs → k σ  = some out → W p l e (headSpec ws_M_good ({ frames := 1, cells := 0, slots := 0, locals := 26 })).room s m args below meth c H locs 0 0 (MQ below (va_Qi (fun r u => (r, u) = out) (fun u t => MW D cA ad n A u t.heap ∧ va_K D vCl (atys cA) t) A) args s 0 0 A) (F0 m 66 ls [])) : ∀ (fu : Nat) (σ : St) (v2 : Int32) (H : Heap) (locs : List Loc) (ls : Array Slot), lv_has ls 5 [(0, .ref (ad 0 0)), (1, .int v1), (2, .int v2)] → MW D cA ad n A σ H → va_S A s.heap H locs → lp_M_good_6 n k fu σ v1 v2 = some out → W p l e (headSpec ws_M_good ({ frames := 1, cells := 0, slots := 0, locals := 26 })).room s m args below meth c H locs 0 0 (MQ below (va_Qi (fun r u => (r, u) = out) (fun u t => MW D cA ad n A u t.heap ∧ va_K D vCl (atys cA) t) A) args s 0 0 A) (F0 m 6 ls []) := by
  intro fu
  induction fu with
  | zero =>
    intro σ v2 H locs ls  hl hW hS hf
    exact og_n hf
  | succ fu ih =>
    intro σ v2 H locs ls  hl hW hS hf
    rw [lp_M_good_6_s] at hf
    have ht : ∀ w ∈ TB, w.before args s = true := fun w h => hts w (List.mem_cons_of_mem _ h)
    refine lv_iload_n hx hb d_M_good_6 rfl (lv_at hl 2 rfl) ?_
    refine lv_iconst (v := 4) hx hb d_M_good_7 (by decide) ?_
    refine lv_icmp_ge (tgt := 66) hx hb d_M_good_8 rfl (fun hc => ?_) (fun hc => ?_)
    · replace hf := og_t hc hf
      exact hk _  _ _ _  (lv_sub hl [0] rfl) hW hS hf
    · replace hf := og_f hc hf
      refine lv_iload_n hx hb d_M_good_11 rfl (lv_at hl 1 rfl) ?_
      refine lv_iload_n hx hb d_M_good_12 rfl (lv_at hl 2 rfl) ?_
      obtain ⟨o2, ho2, hf⟩ := og_b hf
      refine kc_i (P := (fun u H => MW D cA ad n A u H)) (va_runS (As := [.int _, .int _]) (rest := []) ⟨hx, hb, hml, hown, hts⟩ (m_M_digit l D cA ad n A _  _ _  o2 ho2) (va_cwS 2 hts (tb_S tw_412 tw_413 tw_35 tw_414) rfl rfl rfl (by decide +kernel) ⟨Nat.le_of_ble_eq_true rfl, Nat.le_of_ble_eq_true rfl⟩) ⟨k_blind, k_pre hW hK⟩ rfl rfl hl.1 rfl (lv_room (Nat.le_of_ble_eq_true rfl)) d_M_good_13 ⟨Nat.zero_le _, Nat.zero_le _⟩) hS (fun H locs hW hS => ?_)
      refine lv_istore_n (lv' := [(3, .int _), (0, .ref _), (1, .int _), (2, .int _)]) hx hb d_M_good_16 rfl hl (by decide) rfl (fun ls hl => ?_)
      refine lv_iload_n hx hb d_M_good_17 rfl (lv_at hl 0 rfl) ?_
      refine lv_aload_n hx hb d_M_good_18 rfl (lv_at hl 1 rfl) ?_
      refine va_get (D := D) (ci := 3) (C := "GridlockDeskModel") (T := T_M) (N := 22) hx hb ht hin_M hown hK (hW.1.one (t := 0) rfl) 0 rfl rfl 18 (by decide) (ht _ tw_343) (fun _ h9 => h9) rfl d_M_good_19 ?_
      refine lv_iload_n hx hb d_M_good_22 rfl (lv_at hl 3 rfl) ?_
      obtain ⟨hin3, hf⟩ := og_if hf
      refine va_iald (D := D) hx hb hK (hW.1.one (t := 14) rfl) 0 1 rfl rfl hin3 d_M_good_23 ?_
      refine lv_icmp_le (tgt := 29) hx hb d_M_good_24 rfl (fun hc => ?_) (fun hc => ?_)
      · replace hf := og_t hc hf
        refine lv_iconst (v := 0) hx hb d_M_good_29 (by decide) ?_
        refine lv_istore (lv' := [(4, .int _), (3, .int _), (0, .ref _), (1, .int _), (2, .int _)]) hx hb d_M_good_30 hl (by decide) rfl (fun ls hl => ?_)
        refine lp_M_good_32_ok D cA ad n A hx hb hml hr hts hown hlocks hK _ _ _ _ _ (fun σ6 H locs ls  hl hW hS hf => ?_) _ _ _ _ _ _  (lv_sub hl [2, 3, 4, 1, 0] rfl) hW hS hf
        refine lv_iinc (k := 2) (v := _ + 1) (lv' := [(2, .int _), (0, .ref _), (1, .int _)]) hx hb d_M_good_60 hl rfl rfl (by decide) rfl (fun ls hl => ?_)
        refine lv_goto (tgt := 6) hx hb d_M_good_63 rfl ?_
        exact ih _ _ _ _ _  (lv_sub hl [1, 2, 0] rfl) hW hS hf
      · replace hf := og_f hc hf
        refine lv_iconst (v := 0) hx hb d_M_good_27 (by decide) ?_
        exact W.zret hx hb hr rfl (fun t ht hWm => ⟨⟨_, _, rfl, Option.some.inj hf, by rw [ht]; exact hW, va_K.moved hWm.alike hK⟩, hS.F ht⟩) hS.2.2 d_M_good_28

set_option maxHeartbeats 4000000 in
set_option maxRecDepth 100000 in
theorem m_M_good (l : Launch) (D : va_G) (cA : Nat → ClassId) (ad : Nat → Nat → Nat) (n : Nat) (A : Nat → Prop) (σ : St) (x1 : Int32)  (out : Int32 × St) (hf : f_M_good n σ x1 = some out) : Met l y_M_good ws_M_good ({ frames := 1, cells := 0, slots := 0, locals := 26 }) (va_Pc [.ref (ad 0 0), .int x1] (fun U => MW D cA ad n A σ U.heap ∧ va_K D vCl (atys cA) U)) (va_Qi (fun r u => (r, u) = out) (fun u t => MW D cA ad n A u t.heap ∧ va_K D vCl (atys cA) t) A) 0 0 A := by
  refine Met.ofW (cc := prog_5_method_15_code) (maxL := 5) (ret := (some .boolean)) (by decide) rfl ?_
  intro p e s m args below meth c s₁ B hml hv
  obtain ⟨rfl, hW, hK⟩ := hv
  have hx := B.exec
  have hb := B.bytes
  have hr := B.returns
  have hts := atoms_spec (ws := ws_M_good) B.pre
  have ht : ∀ w ∈ TB, w.before _ s = true := fun w h => hts w (List.mem_cons_of_mem _ h)
  have hown : s.vm.findClass "GridlockDeskModel" = some m.cls := findClass_of_methodNamed B.named
  have hlocks := B.notSynchronized
  have hS : va_S A s.heap s.heap [] := va_S.rf
  have hl := lv_entry ([.ref (ad 0 0), .int x1]) (n := 5) (Nat.le_of_ble_eq_true rfl)
  rw [lg_entry_eq]
  generalize (lg_sl ([.ref (ad 0 0), .int x1]) ++ List.replicate (5 - (lg_sl ([.ref (ad 0 0), .int x1])).length) Slot.unset).toArray = ls at hl ⊢
  have hl : lv_has ls 5 [(0, .ref (ad 0 0)), (1, .int x1)] := hl
  unfold f_M_good at hf

  refine lv_aload_n hx hb d_M_good_0 rfl (lv_at hl 0 rfl) ?_
  obtain ⟨o1, ho1, hf⟩ := og_b hf
  refine kc_v (P := (fun u H => MW D cA ad n A u H)) (va_runV (C := "GridlockDeskModel") (As := []) (rest := []) ⟨hx, hb, hml, hown, hts⟩ (m_M_now0 l D cA ad n A _    o1 ho1) (cwV 0 hts (tb_V tw_408 tw_410 tw_19 tw_35 tw_411) rfl rfl rfl (by decide +kernel) ⟨Nat.le_of_ble_eq_true rfl, Nat.le_of_ble_eq_true rfl⟩) ⟨k_blind, kw.recv hK hW.1 (t := 0) rfl rfl rfl, k_pre hW hK⟩ rfl rfl hl.1 rfl (lv_room (Nat.le_of_ble_eq_true rfl)) d_M_good_1 ⟨Nat.zero_le _, Nat.zero_le _⟩) hS (fun H locs hW hS => ?_)
  refine lv_iconst (v := 0) hx hb d_M_good_4 (by decide) ?_
  refine lv_istore_n (lv' := [(2, .int _), (0, .ref _), (1, .int _)]) hx hb d_M_good_5 rfl hl (by decide) rfl (fun ls hl => ?_)
  refine lp_M_good_6_ok D cA ad n A hx hb hml hr hts hown hlocks hK _ _ _ (fun σ7 H locs ls  hl hW hS hf => ?_) _ _ _ _ _ _  (lv_sub hl [1, 2, 0] rfl) hW hS hf
  refine lv_aload_n hx hb d_M_good_66 rfl (lv_at hl 0 rfl) ?_
  obtain ⟨o8, ho8, hf⟩ := og_b hf
  refine kc_i (P := (fun u H => MW D cA ad n A u H)) (va_runV (C := "GridlockDeskModel") (As := []) (rest := []) ⟨hx, hb, hml, hown, hts⟩ (m_M_allWell l D cA ad n A _    o8 ho8) (cwV 0 hts (tb_V tw_419 tw_421 tw_21 tw_35 tw_422) rfl rfl rfl (by decide +kernel) ⟨Nat.le_of_ble_eq_true rfl, Nat.le_of_ble_eq_true rfl⟩) ⟨k_blind, kw.recv hK hW.1 (t := 0) rfl rfl rfl, k_pre hW hK⟩ rfl rfl hl.1 rfl (lv_room (Nat.le_of_ble_eq_true rfl)) d_M_good_67 ⟨Nat.zero_le _, Nat.zero_le _⟩) hS (fun H locs hW hS => ?_)
  obtain ⟨hz01, hf⟩ := og_if hf
  exact W.zret hx hb hr (nz_ok hz01) (fun t ht hWm => ⟨⟨_, _, rfl, Option.some.inj hf, by rw [ht]; exact hW, va_K.moved hWm.alike hK⟩, hS.F ht⟩) hS.2.2 d_M_good_70

set_option maxHeartbeats 4000000 in
set_option maxRecDepth 100000 in
theorem lp_M_resolve_6_ok {p : Program} {l : Launch} {e : Env} {s : State} {m : MethodId} {args : Array Value} {below : List Frame} {meth : Method} {c : Code} (D : va_G) (cA : Nat → ClassId) (ad : Nat → Nat → Nat) (n : Nat) (A : Nat → Prop) (hx : p.tables.exec = Jvm.exec) (hb : c.code = prog_5_method_16_code) (hml : c.maxLocals = 4) (hr : meth.sig.returnType = (some .int)) (hts : ∀ w ∈ ws_M_resolve, w.before args s = true) (hown : s.vm.findClass "GridlockDeskModel" = some m.cls) (hlocks : meth.locks = false) (hK : va_K D vCl (atys cA) s) (k : St → Option (Int32 × St)) (out : Int32 × St)  (hk : ∀ (σ : St)  (H : Heap) (locs : List Loc) (ls : Array Slot), lv_has ls 4 [(0, .ref (ad 0 0))] → MW D cA ad n A σ H → va_S A s.heap H locs → k σ  = some out → W p l e (headSpec ws_M_resolve ({ frames := 4, cells := 0, slots := 0, locals := 93 })).room s m args below meth c H locs 0 0 (MQ below (va_Qi (fun r u => (r, u) = out) (fun u t => MW D cA ad n A u t.heap ∧ va_K D vCl (atys cA) t) A) args s 0 0 A) (F0 m 24 ls [])) : ∀ (fu : Nat) (σ : St) (v1 : Int32) (H : Heap) (locs : List Loc) (ls : Array Slot), lv_has ls 4 [(0, .ref (ad 0 0)), (1, .int v1)] → MW D cA ad n A σ H → va_S A s.heap H locs → lp_M_resolve_6 n k fu σ v1 = some out → W p l e (headSpec ws_M_resolve ({ frames := 4, cells := 0, slots := 0, locals := 93 })).room s m args below meth c H locs 0 0 (MQ below (va_Qi (fun r u => (r, u) = out) (fun u t => MW D cA ad n A u t.heap ∧ va_K D vCl (atys cA) t) A) args s 0 0 A) (F0 m 6 ls []) := by
  intro fu
  induction fu with
  | zero =>
    intro σ v1 H locs ls  hl hW hS hf
    exact og_n hf
  | succ fu ih =>
    intro σ v1 H locs ls  hl hW hS hf
    rw [lp_M_resolve_6_s] at hf
    have ht : ∀ w ∈ TB, w.before args s = true := fun w h => hts w (List.mem_cons_of_mem _ h)
    refine lv_iload_n hx hb d_M_resolve_6 rfl (lv_at hl 1 rfl) ?_
    refine lv_iconst (v := 4) hx hb d_M_resolve_7 (by decide) ?_
    refine lv_icmp_ge (tgt := 24) hx hb d_M_resolve_8 rfl (fun hc => ?_) (fun hc => ?_)
    · replace hf := og_t hc hf
      exact hk _  _ _ _  (lv_sub hl [0] rfl) hW hS hf
    · replace hf := og_f hc hf
      refine lv_aload_n hx hb d_M_resolve_11 rfl (lv_at hl 0 rfl) ?_
      refine va_get (D := D) (ci := 3) (C := "GridlockDeskModel") (T := T_M) (N := 22) hx hb ht hin_M hown hK (hW.1.one (t := 0) rfl) 0 rfl rfl 21 (by decide) (ht _ tw_346) (fun _ h9 => h9) rfl d_M_resolve_12 ?_
      refine lv_iload_n hx hb d_M_resolve_15 rfl (lv_at hl 1 rfl) ?_
      refine lv_iconst (v := 0) hx hb d_M_resolve_16 (by decide) ?_
      obtain ⟨hin2, hf⟩ := og_if hf
      obtain ⟨σ3, eσ3, hf⟩ := og_b hf
      cases eσ3
      refine k_iast  (t := 17) hx hb hK hW.1 hS rfl (hW.2 _ _ rfl) 1 rfl rfl hin2 d_M_resolve_17 mm_wI12 (fun H locs hW1 hS => ?_)
      have hW := MW.wI hW1 hW.2
      refine lv_iinc (k := 1) (v := _ + 1) (lv' := [(1, .int _), (0, .ref _)]) hx hb d_M_resolve_18 hl rfl rfl (by decide) rfl (fun ls hl => ?_)
      refine lv_goto (tgt := 6) hx hb d_M_resolve_21 rfl ?_
      exact ih _ _ _ _ _  (lv_sub hl [1, 0] rfl) hW hS hf

set_option maxHeartbeats 4000000 in
set_option maxRecDepth 100000 in
theorem lp_M_resolve_43_ok {p : Program} {l : Launch} {e : Env} {s : State} {m : MethodId} {args : Array Value} {below : List Frame} {meth : Method} {c : Code} (D : va_G) (cA : Nat → ClassId) (ad : Nat → Nat → Nat) (n : Nat) (A : Nat → Prop) (hx : p.tables.exec = Jvm.exec) (hb : c.code = prog_5_method_16_code) (hml : c.maxLocals = 4) (hr : meth.sig.returnType = (some .int)) (hts : ∀ w ∈ ws_M_resolve, w.before args s = true) (hown : s.vm.findClass "GridlockDeskModel" = some m.cls) (hlocks : meth.locks = false) (hK : va_K D vCl (atys cA) s) (k : St → Option (Int32 × St)) (out : Int32 × St) (v1 : Int32) (hk : ∀ (σ : St)  (H : Heap) (locs : List Loc) (ls : Array Slot), lv_has ls 4 [(0, .ref (ad 0 0)), (1, .int v1)] → MW D cA ad n A σ H → va_S A s.heap H locs → k σ  = some out → W p l e (headSpec ws_M_resolve ({ frames := 4, cells := 0, slots := 0, locals := 93 })).room s m args below meth c H locs 0 0 (MQ below (va_Qi (fun r u => (r, u) = out) (fun u t => MW D cA ad n A u t.heap ∧ va_K D vCl (atys cA) t) A) args s 0 0 A) (F0 m 86 ls [])) : ∀ (fu : Nat) (σ : St) (v2 : Int32) (H : Heap) (locs : List Loc) (ls : Array Slot), lv_has ls 4 [(0, .ref (ad 0 0)), (1, .int v1), (2, .int v2)] → MW D cA ad n A σ H → va_S A s.heap H locs → lp_M_resolve_43 n k fu σ v1 v2 = some out → W p l e (headSpec ws_M_resolve ({ frames := 4, cells := 0, slots := 0, locals := 93 })).room s m args below meth c H locs 0 0 (MQ below (va_Qi (fun r u => (r, u) = out) (fun u t => MW D cA ad n A u t.heap ∧ va_K D vCl (atys cA) t) A) args s 0 0 A) (F0 m 43 ls []) := by
  intro fu
  induction fu with
  | zero =>
    intro σ v2 H locs ls  hl hW hS hf
    exact og_n hf
  | succ fu ih =>
    intro σ v2 H locs ls  hl hW hS hf
    rw [lp_M_resolve_43_s] at hf
    have ht : ∀ w ∈ TB, w.before args s = true := fun w h => hts w (List.mem_cons_of_mem _ h)
    refine lv_iload_n hx hb d_M_resolve_43 rfl (lv_at hl 2 rfl) ?_
    refine lv_iconst (v := 4) hx hb d_M_resolve_44 (by decide) ?_
    refine lv_icmp_ge (tgt := 86) hx hb d_M_resolve_45 rfl (fun hc => ?_) (fun hc => ?_)
    · replace hf := og_t hc hf
      exact hk _  _ _ _  (lv_sub hl [0, 1] rfl) hW hS hf
    · replace hf := og_f hc hf
      refine lv_iload_n hx hb d_M_resolve_48 rfl (lv_at hl 1 rfl) ?_
      refine lv_iload_n hx hb d_M_resolve_49 rfl (lv_at hl 2 rfl) ?_
      obtain ⟨o6, ho6, hf⟩ := og_b hf
      refine kc_i (P := (fun u H => MW D cA ad n A u H)) (va_runS (As := [.int _, .int _]) (rest := []) ⟨hx, hb, hml, hown, hts⟩ (m_M_digit l D cA ad n A _  _ _  o6 ho6) (va_cwS 2 hts (tb_S tw_412 tw_413 tw_35 tw_414) rfl rfl rfl (by decide +kernel) ⟨Nat.le_of_ble_eq_true rfl, Nat.le_of_ble_eq_true rfl⟩) ⟨k_blind, k_pre hW hK⟩ rfl rfl hl.1 rfl (lv_room (Nat.le_of_ble_eq_true rfl)) d_M_resolve_50 ⟨Nat.zero_le _, Nat.zero_le _⟩) hS (fun H locs hW hS => ?_)
      refine lv_istore_n (lv' := [(3, .int _), (0, .ref _), (1, .int _), (2, .int _)]) hx hb d_M_resolve_53 rfl hl (by decide) rfl (fun ls hl => ?_)
      refine lv_aload_n hx hb d_M_resolve_54 rfl (lv_at hl 1 rfl) ?_
      refine va_get (D := D) (ci := 3) (C := "GridlockDeskModel") (T := T_M) (N := 22) hx hb ht hin_M hown hK (hW.1.one (t := 0) rfl) 0 rfl rfl 21 (by decide) (ht _ tw_346) (fun _ h9 => h9) rfl d_M_resolve_55 ?_
      refine lv_iload_n hx hb d_M_resolve_58 rfl (lv_at hl 3 rfl) ?_
      refine lv_iload_n hx hb d_M_resolve_59 rfl (lv_at hl 0 rfl) ?_
      refine lv_aload_n hx hb d_M_resolve_60 rfl (lv_at hl 1 rfl) ?_
      refine va_get (D := D) (ci := 3) (C := "GridlockDeskModel") (T := T_M) (N := 22) hx hb ht hin_M hown hK (hW.1.one (t := 0) rfl) 0 rfl rfl 21 (by decide) (ht _ tw_346) (fun _ h9 => h9) rfl d_M_resolve_61 ?_
      refine lv_iload_n hx hb d_M_resolve_64 rfl (lv_at hl 3 rfl) ?_
      obtain ⟨hin7, hf⟩ := og_if hf
      refine va_iald (D := D) hx hb hK (hW.1.one (t := 17) rfl) 0 1 rfl rfl hin7 d_M_resolve_65 ?_
      refine lv_icmp_le (tgt := 73) hx hb d_M_resolve_66 rfl (fun hc => ?_) (fun hc => ?_)
      · replace hf := og_t hc hf
        refine lv_aload_n hx hb d_M_resolve_73 rfl (lv_at hl 1 rfl) ?_
        refine va_get (D := D) (ci := 3) (C := "GridlockDeskModel") (T := T_M) (N := 22) hx hb ht hin_M hown hK (hW.1.one (t := 0) rfl) 0 rfl rfl 21 (by decide) (ht _ tw_346) (fun _ h9 => h9) rfl d_M_resolve_74 ?_
        refine lv_iload_n hx hb d_M_resolve_77 rfl (lv_at hl 3 rfl) ?_
        obtain ⟨hin8, hf⟩ := og_if hf
        refine va_iald (D := D) hx hb hK (hW.1.one (t := 17) rfl) 0 1 rfl rfl hin8 d_M_resolve_78 ?_
        obtain ⟨hin9, hf⟩ := og_if hf
        obtain ⟨σ10, eσ10, hf⟩ := og_b hf
        cases eσ10
        refine k_iast  (t := 17) hx hb hK hW.1 hS rfl (hW.2 _ _ rfl) 1 rfl rfl hin9 d_M_resolve_79 mm_wI12 (fun H locs hW1 hS => ?_)
        have hW := MW.wI hW1 hW.2
        refine lv_iinc (k := 3) (v := _ + 1) (lv' := [(2, .int _), (3, .int _), (0, .ref _), (1, .int _)]) hx hb d_M_resolve_80 hl rfl rfl (by decide) rfl (fun ls hl => ?_)
        refine lv_goto (tgt := 43) hx hb d_M_resolve_83 rfl ?_
        exact ih _ _ _ _ _  (lv_sub hl [2, 3, 0] rfl) hW hS hf
      · replace hf := og_f hc hf
        refine lv_iload_n hx hb d_M_resolve_69 rfl (lv_at hl 0 rfl) ?_
        refine lv_goto (tgt := 79) hx hb d_M_resolve_70 rfl ?_
        obtain ⟨hin11, hf⟩ := og_if hf
        obtain ⟨σ12, eσ12, hf⟩ := og_b hf
        cases eσ12
        refine k_iast  (t := 17) hx hb hK hW.1 hS rfl (hW.2 _ _ rfl) 1 rfl rfl hin11 d_M_resolve_79 mm_wI12 (fun H locs hW1 hS => ?_)
        have hW := MW.wI hW1 hW.2
        refine lv_iinc (k := 3) (v := _ + 1) (lv' := [(2, .int _), (3, .int _), (0, .ref _), (1, .int _)]) hx hb d_M_resolve_80 hl rfl rfl (by decide) rfl (fun ls hl => ?_)
        refine lv_goto (tgt := 43) hx hb d_M_resolve_83 rfl ?_
        exact ih _ _ _ _ _  (lv_sub hl [2, 3, 0] rfl) hW hS hf

set_option maxHeartbeats 4000000 in
set_option maxRecDepth 100000 in
theorem lp_M_resolve_26_ok {p : Program} {l : Launch} {e : Env} {s : State} {m : MethodId} {args : Array Value} {below : List Frame} {meth : Method} {c : Code} (D : va_G) (cA : Nat → ClassId) (ad : Nat → Nat → Nat) (n : Nat) (A : Nat → Prop) (hx : p.tables.exec = Jvm.exec) (hb : c.code = prog_5_method_16_code) (hml : c.maxLocals = 4) (hr : meth.sig.returnType = (some .int)) (hts : ∀ w ∈ ws_M_resolve, w.before args s = true) (hown : s.vm.findClass "GridlockDeskModel" = some m.cls) (hlocks : meth.locks = false) (hK : va_K D vCl (atys cA) s) (k : St → Option (Int32 × St)) (out : Int32 × St)  (hk : ∀ (σ : St)  (H : Heap) (locs : List Loc) (ls : Array Slot), lv_has ls 4 [(0, .ref (ad 0 0))] → MW D cA ad n A σ H → va_S A s.heap H locs → k σ  = some out → W p l e (headSpec ws_M_resolve ({ frames := 4, cells := 0, slots := 0, locals := 93 })).room s m args below meth c H locs 0 0 (MQ below (va_Qi (fun r u => (r, u) = out) (fun u t => MW D cA ad n A u t.heap ∧ va_K D vCl (atys cA) t) A) args s 0 0 A) (F0 m 92 ls [])) : ∀ (fu : Nat) (σ : St) (v1 : Int32) (H : Heap) (locs : List Loc) (ls : Array Slot), lv_has ls 4 [(0, .ref (ad 0 0)), (1, .int v1)] → MW D cA ad n A σ H → va_S A s.heap H locs → lp_M_resolve_26 n k fu σ v1 = some out → W p l e (headSpec ws_M_resolve ({ frames := 4, cells := 0, slots := 0, locals := 93 })).room s m args below meth c H locs 0 0 (MQ below (va_Qi (fun r u => (r, u) = out) (fun u t => MW D cA ad n A u t.heap ∧ va_K D vCl (atys cA) t) A) args s 0 0 A) (F0 m 26 ls []) := by
  intro fu
  induction fu with
  | zero =>
    intro σ v1 H locs ls  hl hW hS hf
    exact og_n hf
  | succ fu ih =>
    intro σ v1 H locs ls  hl hW hS hf
    rw [lp_M_resolve_26_s] at hf
    have ht : ∀ w ∈ TB, w.before args s = true := fun w h => hts w (List.mem_cons_of_mem _ h)
    refine lv_iload_n hx hb d_M_resolve_26 rfl (lv_at hl 1 rfl) ?_
    refine lv_sipush (v := 2401) hx hb d_M_resolve_27 (by decide) ?_
    refine lv_icmp_ge (tgt := 92) hx hb d_M_resolve_30 rfl (fun hc => ?_) (fun hc => ?_)
    · replace hf := og_t hc hf
      exact hk _  _ _ _  (lv_sub hl [0] rfl) hW hS hf
    · replace hf := og_f hc hf
      refine lv_aload_n hx hb d_M_resolve_33 rfl (lv_at hl 0 rfl) ?_
      refine lv_iload_n hx hb d_M_resolve_34 rfl (lv_at hl 1 rfl) ?_
      obtain ⟨o5, ho5, hf⟩ := og_b hf
      refine kc_i (P := (fun u H => MW D cA ad n A u H)) (va_runV (C := "GridlockDeskModel") (As := [.int _]) (rest := []) ⟨hx, hb, hml, hown, hts⟩ (m_M_good l D cA ad n A _  _  o5 ho5) (cwV 1 hts (tb_V tw_404 tw_406 tw_18 tw_35 tw_407) rfl rfl rfl (by decide +kernel) ⟨Nat.le_of_ble_eq_true rfl, Nat.le_of_ble_eq_true rfl⟩) ⟨k_blind, kw.recv hK hW.1 (t := 0) rfl rfl rfl, k_pre hW hK⟩ rfl rfl hl.1 rfl (lv_room (Nat.le_of_ble_eq_true rfl)) d_M_resolve_35 ⟨Nat.zero_le _, Nat.zero_le _⟩) hS (fun H locs hW hS => ?_)
      refine lv_if_eq (tgt := 86) hx hb d_M_resolve_38 rfl (fun hc => ?_) (fun hc => ?_)
      · replace hf := og_t hc hf
        refine lv_iinc (k := 1) (v := _ + 1) (lv' := [(1, .int _), (0, .ref _)]) hx hb d_M_resolve_86 hl rfl rfl (by decide) rfl (fun ls hl => ?_)
        refine lv_goto (tgt := 26) hx hb d_M_resolve_89 rfl ?_
        exact ih _ _ _ _ _  (lv_sub hl [1, 0] rfl) hW hS hf
      · replace hf := og_f hc hf
        refine lv_iconst (v := 0) hx hb d_M_resolve_41 (by decide) ?_
        refine lv_istore_n (lv' := [(2, .int _), (0, .ref _), (1, .int _)]) hx hb d_M_resolve_42 rfl hl (by decide) rfl (fun ls hl => ?_)
        refine lp_M_resolve_43_ok D cA ad n A hx hb hml hr hts hown hlocks hK _ _ _ (fun σ13 H locs ls  hl hW hS hf => ?_) _ _ _ _ _ _  (lv_sub hl [1, 2, 0] rfl) hW hS hf
        refine lv_iinc (k := 1) (v := _ + 1) (lv' := [(1, .int _), (0, .ref _)]) hx hb d_M_resolve_86 hl rfl rfl (by decide) rfl (fun ls hl => ?_)
        refine lv_goto (tgt := 26) hx hb d_M_resolve_89 rfl ?_
        exact ih _ _ _ _ _  (lv_sub hl [1, 0] rfl) hW hS hf

set_option maxHeartbeats 4000000 in
set_option maxRecDepth 100000 in
theorem lp_M_resolve_103_ok {p : Program} {l : Launch} {e : Env} {s : State} {m : MethodId} {args : Array Value} {below : List Frame} {meth : Method} {c : Code} (D : va_G) (cA : Nat → ClassId) (ad : Nat → Nat → Nat) (n : Nat) (A : Nat → Prop) (hx : p.tables.exec = Jvm.exec) (hb : c.code = prog_5_method_16_code) (hml : c.maxLocals = 4) (hr : meth.sig.returnType = (some .int)) (hts : ∀ w ∈ ws_M_resolve, w.before args s = true) (hown : s.vm.findClass "GridlockDeskModel" = some m.cls) (hlocks : meth.locks = false) (hK : va_K D vCl (atys cA) s) (k : St → Int32 → Option (Int32 × St)) (out : Int32 × St) (v2 : Int32) (hk : ∀ (σ : St) (v1 : Int32) (H : Heap) (locs : List Loc) (ls : Array Slot), lv_has ls 4 [(0, .ref (ad 0 0)), (1, .int v1), (2, .int v2)] → MW D cA ad n A σ H → va_S A s.heap H locs → k σ v1 = some out → W p l e (headSpec ws_M_resolve ({ frames := 4, cells := 0, slots := 0, locals := 93 })).room s m args below meth c H locs 0 0 (MQ below (va_Qi (fun r u => (r, u) = out) (fun u t => MW D cA ad n A u t.heap ∧ va_K D vCl (atys cA) t) A) args s 0 0 A) (F0 m 138 ls [])) : ∀ (fu : Nat) (σ : St) (v1 : Int32) (v3 : Int32) (H : Heap) (locs : List Loc) (ls : Array Slot), lv_has ls 4 [(0, .ref (ad 0 0)), (1, .int v1), (2, .int v2), (3, .int v3)] → MW D cA ad n A σ H → va_S A s.heap H locs → lp_M_resolve_103 n k fu σ v1 v2 v3 = some out → W p l e (headSpec ws_M_resolve ({ frames := 4, cells := 0, slots := 0, locals := 93 })).room s m args below meth c H locs 0 0 (MQ below (va_Qi (fun r u => (r, u) = out) (fun u t => MW D cA ad n A u t.heap ∧ va_K D vCl (atys cA) t) A) args s 0 0 A) (F0 m 103 ls []) := by
  intro fu
  induction fu with
  | zero =>
    intro σ v1 v3 H locs ls  hl hW hS hf
    exact og_n hf
  | succ fu ih =>
    intro σ v1 v3 H locs ls  hl hW hS hf
    rw [lp_M_resolve_103_s] at hf
    have ht : ∀ w ∈ TB, w.before args s = true := fun w h => hts w (List.mem_cons_of_mem _ h)
    refine lv_iload_n hx hb d_M_resolve_103 rfl (lv_at hl 3 rfl) ?_
    refine lv_aload_n hx hb d_M_resolve_104 rfl (lv_at hl 0 rfl) ?_
    refine va_get (D := D) (ci := 3) (C := "GridlockDeskModel") (T := T_M) (N := 22) hx hb ht hin_M hown hK (hW.1.one (t := 0) rfl) 0 rfl rfl 21 (by decide) (ht _ tw_346) (fun _ h9 => h9) rfl d_M_resolve_105 ?_
    refine lv_iload_n hx hb d_M_resolve_108 rfl (lv_at hl 2 rfl) ?_
    obtain ⟨hin15, hf⟩ := og_if hf
    refine va_iald (D := D) hx hb hK (hW.1.one (t := 17) rfl) 0 1 rfl rfl hin15 d_M_resolve_109 ?_
    refine lv_icmp_ge (tgt := 138) hx hb d_M_resolve_110 rfl (fun hc => ?_) (fun hc => ?_)
    · replace hf := og_t hc hf
      exact hk _ _ _ _ _  (lv_sub hl [0, 1, 2] rfl) hW hS hf
    · replace hf := og_f hc hf
      refine lv_aload_n hx hb d_M_resolve_113 rfl (lv_at hl 0 rfl) ?_
      refine lv_aload_n hx hb d_M_resolve_114 rfl (lv_at hl 0 rfl) ?_
      refine va_get (D := D) (ci := 3) (C := "GridlockDeskModel") (T := T_M) (N := 22) hx hb ht hin_M hown hK (hW.1.one (t := 0) rfl) 0 rfl rfl 17 (by decide) (ht _ tw_342) (fun _ h9 => h9) rfl d_M_resolve_115 ?_
      refine lv_bipush (v := 6) hx hb d_M_resolve_118 (by decide) ?_
      refine lv_iload_n hx hb d_M_resolve_120 rfl (lv_at hl 2 rfl) ?_
      refine lv_imul hx hb d_M_resolve_121 ?_
      refine lv_iload_n hx hb d_M_resolve_122 rfl (lv_at hl 3 rfl) ?_
      refine lv_iadd hx hb d_M_resolve_123 ?_
      obtain ⟨hin16, hf⟩ := og_if hf
      refine va_iald (D := D) hx hb hK (hW.1.one (t := 13) rfl) 0 1 rfl rfl hin16 d_M_resolve_124 ?_
      refine lv_iconst (v := 3) hx hb d_M_resolve_125 (by decide) ?_
      obtain ⟨o17, ho17, hf⟩ := og_b hf
      refine kc_v (P := (fun u H => MW D cA ad n A u H)) (va_runV (C := "GridlockDeskModel") (As := [.int _, .int _]) (rest := []) ⟨hx, hb, hml, hown, hts⟩ (m_M_settle l D cA ad n A _  _ _  o17 ho17) (cwV 2 hts (tb_V tw_423 tw_425 tw_22 tw_35 tw_426) rfl rfl rfl (by decide +kernel) ⟨Nat.le_of_ble_eq_true rfl, Nat.le_of_ble_eq_true rfl⟩) ⟨k_blind, kw.recv hK hW.1 (t := 0) rfl rfl rfl, k_pre hW hK⟩ rfl rfl hl.1 rfl (lv_room (Nat.le_of_ble_eq_true rfl)) d_M_resolve_126 ⟨Nat.zero_le _, Nat.zero_le _⟩) hS (fun H locs hW hS => ?_)
      refine lv_iinc (k := 1) (v := _ + 1) (lv' := [(1, .int _), (0, .ref _), (2, .int _), (3, .int _)]) hx hb d_M_resolve_129 hl rfl rfl (by decide) rfl (fun ls hl => ?_)
      refine lv_iinc (k := 3) (v := _ + 1) (lv' := [(3, .int _), (1, .int _), (0, .ref _), (2, .int _)]) hx hb d_M_resolve_132 hl rfl rfl (by decide) rfl (fun ls hl => ?_)
      refine lv_goto (tgt := 103) hx hb d_M_resolve_135 rfl ?_
      exact ih _ _ _ _ _ _  (lv_sub hl [2, 1, 3, 0] rfl) hW hS hf

set_option maxHeartbeats 4000000 in
set_option maxRecDepth 100000 in
theorem lp_M_resolve_96_ok {p : Program} {l : Launch} {e : Env} {s : State} {m : MethodId} {args : Array Value} {below : List Frame} {meth : Method} {c : Code} (D : va_G) (cA : Nat → ClassId) (ad : Nat → Nat → Nat) (n : Nat) (A : Nat → Prop) (hx : p.tables.exec = Jvm.exec) (hb : c.code = prog_5_method_16_code) (hml : c.maxLocals = 4) (hr : meth.sig.returnType = (some .int)) (hts : ∀ w ∈ ws_M_resolve, w.before args s = true) (hown : s.vm.findClass "GridlockDeskModel" = some m.cls) (hlocks : meth.locks = false) (hK : va_K D vCl (atys cA) s) (k : St → Int32 → Option (Int32 × St)) (out : Int32 × St)  (hk : ∀ (σ : St) (v1 : Int32) (H : Heap) (locs : List Loc) (ls : Array Slot), lv_has ls 4 [(0, .ref (ad 0 0)), (1, .int v1)] → MW D cA ad n A σ H → va_S A s.heap H locs → k σ v1 = some out → W p l e (headSpec ws_M_resolve ({ frames := 4, cells := 0, slots := 0, locals := 93 })).room s m args below meth c H locs 0 0 (MQ below (va_Qi (fun r u => (r, u) = out) (fun u t => MW D cA ad n A u t.heap ∧ va_K D vCl (atys cA) t) A) args s 0 0 A) (F0 m 144 ls [])) : ∀ (fu : Nat) (σ : St) (v1 : Int32) (v2 : Int32) (H : Heap) (locs : List Loc) (ls : Array Slot), lv_has ls 4 [(0, .ref (ad 0 0)), (1, .int v1), (2, .int v2)] → MW D cA ad n A σ H → va_S A s.heap H locs → lp_M_resolve_96 n k fu σ v1 v2 = some out → W p l e (headSpec ws_M_resolve ({ frames := 4, cells := 0, slots := 0, locals := 93 })).room s m args below meth c H locs 0 0 (MQ below (va_Qi (fun r u => (r, u) = out) (fun u t => MW D cA ad n A u t.heap ∧ va_K D vCl (atys cA) t) A) args s 0 0 A) (F0 m 96 ls []) := by
  intro fu
  induction fu with
  | zero =>
    intro σ v1 v2 H locs ls  hl hW hS hf
    exact og_n hf
  | succ fu ih =>
    intro σ v1 v2 H locs ls  hl hW hS hf
    rw [lp_M_resolve_96_s] at hf
    have ht : ∀ w ∈ TB, w.before args s = true := fun w h => hts w (List.mem_cons_of_mem _ h)
    refine lv_iload_n hx hb d_M_resolve_96 rfl (lv_at hl 2 rfl) ?_
    refine lv_iconst (v := 4) hx hb d_M_resolve_97 (by decide) ?_
    refine lv_icmp_ge (tgt := 144) hx hb d_M_resolve_98 rfl (fun hc => ?_) (fun hc => ?_)
    · replace hf := og_t hc hf
      exact hk _ _ _ _ _  (lv_sub hl [0, 1] rfl) hW hS hf
    · replace hf := og_f hc hf
      refine lv_iconst (v := 0) hx hb d_M_resolve_101 (by decide) ?_
      refine lv_istore_n (lv' := [(3, .int _), (0, .ref _), (1, .int _), (2, .int _)]) hx hb d_M_resolve_102 rfl hl (by decide) rfl (fun ls hl => ?_)
      refine lp_M_resolve_103_ok D cA ad n A hx hb hml hr hts hown hlocks hK _ _ _ (fun σ19 y1_18 H locs ls  hl hW hS hf => ?_) _ _ _ _ _ _ _  (lv_sub hl [1, 2, 3, 0] rfl) hW hS hf
      refine lv_iinc (k := 2) (v := _ + 1) (lv' := [(2, .int _), (0, .ref _), (1, .int _)]) hx hb d_M_resolve_138 hl rfl rfl (by decide) rfl (fun ls hl => ?_)
      refine lv_goto (tgt := 96) hx hb d_M_resolve_141 rfl ?_
      exact ih _ _ _ _ _ _  (lv_sub hl [1, 2, 0] rfl) hW hS hf

set_option maxHeartbeats 4000000 in
set_option maxRecDepth 100000 in
theorem m_M_resolve (l : Launch) (D : va_G) (cA : Nat → ClassId) (ad : Nat → Nat → Nat) (n : Nat) (A : Nat → Prop) (σ : St)   (out : Int32 × St) (hf : f_M_resolve n σ  = some out) : Met l y_M_resolve ws_M_resolve ({ frames := 4, cells := 0, slots := 0, locals := 93 }) (va_Pc [.ref (ad 0 0)] (fun U => MW D cA ad n A σ U.heap ∧ va_K D vCl (atys cA) U)) (va_Qi (fun r u => (r, u) = out) (fun u t => MW D cA ad n A u t.heap ∧ va_K D vCl (atys cA) t) A) 0 0 A := by
  refine Met.ofW (cc := prog_5_method_16_code) (maxL := 4) (ret := (some .int)) (by decide) rfl ?_
  intro p e s m args below meth c s₁ B hml hv
  obtain ⟨rfl, hW, hK⟩ := hv
  have hx := B.exec
  have hb := B.bytes
  have hr := B.returns
  have hts := atoms_spec (ws := ws_M_resolve) B.pre
  have ht : ∀ w ∈ TB, w.before _ s = true := fun w h => hts w (List.mem_cons_of_mem _ h)
  have hown : s.vm.findClass "GridlockDeskModel" = some m.cls := findClass_of_methodNamed B.named
  have hlocks := B.notSynchronized
  have hS : va_S A s.heap s.heap [] := va_S.rf
  have hl := lv_entry ([.ref (ad 0 0)]) (n := 4) (Nat.le_of_ble_eq_true rfl)
  rw [lg_entry_eq]
  generalize (lg_sl ([.ref (ad 0 0)]) ++ List.replicate (4 - (lg_sl ([.ref (ad 0 0)])).length) Slot.unset).toArray = ls at hl ⊢
  have hl : lv_has ls 4 [(0, .ref (ad 0 0))] := hl
  unfold f_M_resolve at hf

  refine lv_aload_n hx hb d_M_resolve_0 rfl (lv_at hl 0 rfl) ?_
  obtain ⟨o1, ho1, hf⟩ := og_b hf
  refine kc_v (P := (fun u H => MW D cA ad n A u H)) (va_runV (C := "GridlockDeskModel") (As := []) (rest := []) ⟨hx, hb, hml, hown, hts⟩ (m_M_lineUp l D cA ad n A _    o1 ho1) (cwV 0 hts (tb_V tw_396 tw_398 tw_16 tw_35 tw_399) rfl rfl rfl (by decide +kernel) ⟨Nat.le_of_ble_eq_true rfl, Nat.le_of_ble_eq_true rfl⟩) ⟨k_blind, kw.recv hK hW.1 (t := 0) rfl rfl rfl, k_pre hW hK⟩ rfl rfl hl.1 rfl (lv_room (Nat.le_of_ble_eq_true rfl)) d_M_resolve_1 ⟨Nat.zero_le _, Nat.zero_le _⟩) hS (fun H locs hW hS => ?_)
  refine lv_iconst (v := 0) hx hb d_M_resolve_4 (by decide) ?_
  refine lv_istore_n (lv' := [(1, .int _), (0, .ref _)]) hx hb d_M_resolve_5 rfl hl (by decide) rfl (fun ls hl => ?_)
  refine lp_M_resolve_6_ok D cA ad n A hx hb hml hr hts hown hlocks hK _ _  (fun σ4 H locs ls  hl hW hS hf => ?_) _ _ _ _ _ _  (lv_sub hl [1, 0] rfl) hW hS hf
  refine lv_iconst (v := 0) hx hb d_M_resolve_24 (by decide) ?_
  refine lv_istore_n (lv' := [(1, .int _), (0, .ref _)]) hx hb d_M_resolve_25 rfl hl (by decide) rfl (fun ls hl => ?_)
  refine lp_M_resolve_26_ok D cA ad n A hx hb hml hr hts hown hlocks hK _ _  (fun σ14 H locs ls  hl hW hS hf => ?_) _ _ _ _ _ _  (lv_sub hl [1, 0] rfl) hW hS hf
  refine lv_iconst (v := 0) hx hb d_M_resolve_92 (by decide) ?_
  refine lv_istore_n (lv' := [(1, .int _), (0, .ref _)]) hx hb d_M_resolve_93 rfl hl (by decide) rfl (fun ls hl => ?_)
  refine lv_iconst (v := 0) hx hb d_M_resolve_94 (by decide) ?_
  refine lv_istore_n (lv' := [(2, .int _), (1, .int _), (0, .ref _)]) hx hb d_M_resolve_95 rfl hl (by decide) rfl (fun ls hl => ?_)
  refine lp_M_resolve_96_ok D cA ad n A hx hb hml hr hts hown hlocks hK _ _  (fun σ21 y1_20 H locs ls  hl hW hS hf => ?_) _ _ _ _ _ _ _  (lv_sub hl [2, 1, 0] rfl) hW hS hf
  refine lv_aload_n hx hb d_M_resolve_144 rfl (lv_at hl 0 rfl) ?_
  obtain ⟨o22, ho22, hf⟩ := og_b hf
  refine kc_v (P := (fun u H => MW D cA ad n A u H)) (va_runV (C := "GridlockDeskModel") (As := []) (rest := []) ⟨hx, hb, hml, hown, hts⟩ (m_M_sweep l D cA ad n A _    o22 ho22) (cwV 0 hts (tb_V tw_427 tw_429 tw_23 tw_35 tw_430) rfl rfl rfl (by decide +kernel) ⟨Nat.le_of_ble_eq_true rfl, Nat.le_of_ble_eq_true rfl⟩) ⟨k_blind, kw.recv hK hW.1 (t := 0) rfl rfl rfl, k_pre hW hK⟩ rfl rfl hl.1 rfl (lv_room (Nat.le_of_ble_eq_true rfl)) d_M_resolve_145 ⟨Nat.zero_le _, Nat.zero_le _⟩) hS (fun H locs hW hS => ?_)
  refine lv_iload_n hx hb d_M_resolve_148 rfl (lv_at hl 1 rfl) ?_
  exact W.iret hx hb hr (fun t ht hWm => ⟨⟨_, _, rfl, Option.some.inj hf, by rw [ht]; exact hW, va_K.moved hWm.alike hK⟩, hS.F ht⟩) hS.2.2 d_M_resolve_149

set_option maxHeartbeats 4000000 in
set_option maxRecDepth 100000 in
theorem m_M_fund (l : Launch) (D : va_G) (cA : Nat → ClassId) (ad : Nat → Nat → Nat) (n : Nat) (A : Nat → Prop) (σ : St) (x1 : Int32) (x2 : Int64)  (out : Int32 × St) (hf : f_M_fund n σ x1 x2 = some out) : Met l y_M_fund ws_M_fund ({ frames := 4, cells := 0, slots := 0, locals := 93 }) (va_Pc [.ref (ad 0 0), .int x1, .long x2] (fun U => MW D cA ad n A σ U.heap ∧ va_K D vCl (atys cA) U)) (va_Qi (fun r u => (r, u) = out) (fun u t => MW D cA ad n A u t.heap ∧ va_K D vCl (atys cA) t) A) 0 0 A := by
  refine Met.ofW (cc := prog_5_method_17_code) (maxL := 4) (ret := (some .boolean)) (by decide) rfl ?_
  intro p e s m args below meth c s₁ B hml hv
  obtain ⟨rfl, hW, hK⟩ := hv
  have hx := B.exec
  have hb := B.bytes
  have hr := B.returns
  have hts := atoms_spec (ws := ws_M_fund) B.pre
  have ht : ∀ w ∈ TB, w.before _ s = true := fun w h => hts w (List.mem_cons_of_mem _ h)
  have hown : s.vm.findClass "GridlockDeskModel" = some m.cls := findClass_of_methodNamed B.named
  have hlocks := B.notSynchronized
  have hS : va_S A s.heap s.heap [] := va_S.rf
  have hl := lv_entry ([.ref (ad 0 0), .int x1, .long x2]) (n := 4) (Nat.le_of_ble_eq_true rfl)
  rw [lg_entry_eq]
  generalize (lg_sl ([.ref (ad 0 0), .int x1, .long x2]) ++ List.replicate (4 - (lg_sl ([.ref (ad 0 0), .int x1, .long x2])).length) Slot.unset).toArray = ls at hl ⊢
  have hl : lv_has ls 4 [(0, .ref (ad 0 0)), (1, .int x1), (2, .long x2)] := hl
  unfold f_M_fund at hf

  refine lv_aload_n hx hb d_M_fund_0 rfl (lv_at hl 0 rfl) ?_
  refine lv_iload_n hx hb d_M_fund_1 rfl (lv_at hl 1 rfl) ?_
  obtain ⟨o1, ho1, hf⟩ := og_b hf
  refine kc_i (P := (fun u H => MW D cA ad n A u H)) (va_runV (C := "GridlockDeskModel") (As := [.int _]) (rest := []) ⟨hx, hb, hml, hown, hts⟩ (m_M_isBank l D cA ad n A _  _  o1 ho1) (cwV 1 hts (tb_V tw_447 tw_449 tw_27 tw_35 tw_450) rfl rfl rfl (by decide +kernel) ⟨Nat.le_of_ble_eq_true rfl, Nat.le_of_ble_eq_true rfl⟩) ⟨k_blind, kw.recv hK hW.1 (t := 0) rfl rfl rfl, k_pre hW hK⟩ rfl rfl hl.1 rfl (lv_room (Nat.le_of_ble_eq_true rfl)) d_M_fund_2 ⟨Nat.zero_le _, Nat.zero_le _⟩) hS (fun H locs hW hS => ?_)
  refine lv_if_eq (tgt := 43) hx hb d_M_fund_5 rfl (fun hc => ?_) (fun hc => ?_)
  · replace hf := og_t hc hf
    refine lv_iconst (v := 0) hx hb d_M_fund_43 (by decide) ?_
    exact W.zret hx hb hr rfl (fun t ht hWm => ⟨⟨_, _, rfl, Option.some.inj hf, by rw [ht]; exact hW, va_K.moved hWm.alike hK⟩, hS.F ht⟩) hS.2.2 d_M_fund_44
  · replace hf := og_f hc hf
    refine lv_lload_n hx hb d_M_fund_8 rfl (lv_at hl 2 rfl) ?_
    refine lv_ldc2 (v := (-1000000000000)) hx hb hown (ht _ tw_451) d_M_fund_9 ?_
    refine lc_lt (tgt := 43) hx hb d_M_fund_12 d_M_fund_13 rfl (fun hc => ?_) (fun hc => ?_)
    · replace hf := og_t hc hf
      refine lv_iconst (v := 0) hx hb d_M_fund_43 (by decide) ?_
      exact W.zret hx hb hr rfl (fun t ht hWm => ⟨⟨_, _, rfl, Option.some.inj hf, by rw [ht]; exact hW, va_K.moved hWm.alike hK⟩, hS.F ht⟩) hS.2.2 d_M_fund_44
    · replace hf := og_f hc hf
      refine lv_lload_n hx hb d_M_fund_16 rfl (lv_at hl 2 rfl) ?_
      refine lv_ldc2 (v := 1000000000000) hx hb hown (ht _ tw_452) d_M_fund_17 ?_
      refine lc_gt (tgt := 43) hx hb d_M_fund_20 d_M_fund_21 rfl (fun hc => ?_) (fun hc => ?_)
      · replace hf := og_t hc hf
        refine lv_iconst (v := 0) hx hb d_M_fund_43 (by decide) ?_
        exact W.zret hx hb hr rfl (fun t ht hWm => ⟨⟨_, _, rfl, Option.some.inj hf, by rw [ht]; exact hW, va_K.moved hWm.alike hK⟩, hS.F ht⟩) hS.2.2 d_M_fund_44
      · replace hf := og_f hc hf
        refine lv_aload_n hx hb d_M_fund_24 rfl (lv_at hl 0 rfl) ?_
        refine va_get (D := D) (ci := 3) (C := "GridlockDeskModel") (T := T_M) (N := 22) hx hb ht hin_M hown hK (hW.1.one (t := 0) rfl) 0 rfl rfl 3 (by decide) (ht _ tw_328) (fun _ h9 => h9) rfl d_M_fund_25 ?_
        refine lv_iload_n hx hb d_M_fund_28 rfl (lv_at hl 1 rfl) ?_
        obtain ⟨hin2, hf⟩ := og_if hf
        refine va_lald (D := D) hx hb hK (hW.1.one (t := 1) rfl) 0 0 rfl rfl hin2 d_M_fund_29 ?_
        refine lv_lload_n hx hb d_M_fund_30 rfl (lv_at hl 2 rfl) ?_
        refine lv_ladd hx hb d_M_fund_31 ?_
        refine lv_aload_n hx hb d_M_fund_32 rfl (lv_at hl 0 rfl) ?_
        refine va_get (D := D) (ci := 3) (C := "GridlockDeskModel") (T := T_M) (N := 22) hx hb ht hin_M hown hK (hW.1.one (t := 0) rfl) 0 rfl rfl 4 (by decide) (ht _ tw_329) (fun _ h9 => h9) rfl d_M_fund_33 ?_
        refine lv_iload_n hx hb d_M_fund_36 rfl (lv_at hl 1 rfl) ?_
        obtain ⟨hin3, hf⟩ := og_if hf
        refine va_lald (D := D) hx hb hK (hW.1.one (t := 2) rfl) 0 0 rfl rfl hin3 d_M_fund_37 ?_
        refine lv_lneg hx hb d_M_fund_38 ?_
        refine lc_ge (tgt := 45) hx hb d_M_fund_39 d_M_fund_40 rfl (fun hc => ?_) (fun hc => ?_)
        · replace hf := og_t hc hf
          refine lv_aload_n hx hb d_M_fund_45 rfl (lv_at hl 0 rfl) ?_
          refine va_get (D := D) (ci := 3) (C := "GridlockDeskModel") (T := T_M) (N := 22) hx hb ht hin_M hown hK (hW.1.one (t := 0) rfl) 0 rfl rfl 3 (by decide) (ht _ tw_328) (fun _ h9 => h9) rfl d_M_fund_46 ?_
          refine lv_iload_n hx hb d_M_fund_49 rfl (lv_at hl 1 rfl) ?_
          refine lv_aload_n hx hb d_M_fund_50 rfl (lv_at hl 0 rfl) ?_
          refine va_get (D := D) (ci := 3) (C := "GridlockDeskModel") (T := T_M) (N := 22) hx hb ht hin_M hown hK (hW.1.one (t := 0) rfl) 0 rfl rfl 3 (by decide) (ht _ tw_328) (fun _ h9 => h9) rfl d_M_fund_51 ?_
          refine lv_iload_n hx hb d_M_fund_54 rfl (lv_at hl 1 rfl) ?_
          obtain ⟨hin4, hf⟩ := og_if hf
          refine va_lald (D := D) hx hb hK (hW.1.one (t := 1) rfl) 0 0 rfl rfl hin4 d_M_fund_55 ?_
          refine lv_lload_n hx hb d_M_fund_56 rfl (lv_at hl 2 rfl) ?_
          refine lv_ladd hx hb d_M_fund_57 ?_
          obtain ⟨hin5, hf⟩ := og_if hf
          obtain ⟨σ6, eσ6, hf⟩ := og_b hf
          cases eσ6
          refine k_last  (t := 1) hx hb hK hW.1 hS rfl (hW.2 _ _ rfl) 0 rfl rfl hin5 d_M_fund_58 mm_wL1 (fun H locs hW1 hS => ?_)
          have hW := MW.wL hW1 hW.2
          refine lv_aload_n hx hb d_M_fund_59 rfl (lv_at hl 0 rfl) ?_
          obtain ⟨o7, ho7, hf⟩ := og_b hf
          refine kc_v (P := (fun u H => MW D cA ad n A u H)) (va_runV (C := "GridlockDeskModel") (As := []) (rest := []) ⟨hx, hb, hml, hown, hts⟩ (m_M_sweep l D cA ad n A _    o7 ho7) (cwV 0 hts (tb_V tw_427 tw_429 tw_23 tw_35 tw_430) rfl rfl rfl (by decide +kernel) ⟨Nat.le_of_ble_eq_true rfl, Nat.le_of_ble_eq_true rfl⟩) ⟨k_blind, kw.recv hK hW.1 (t := 0) rfl rfl rfl, k_pre hW hK⟩ rfl rfl hl.1 rfl (lv_room (Nat.le_of_ble_eq_true rfl)) d_M_fund_60 ⟨Nat.zero_le _, Nat.zero_le _⟩) hS (fun H locs hW hS => ?_)
          refine lv_iconst (v := 1) hx hb d_M_fund_63 (by decide) ?_
          exact W.zret hx hb hr rfl (fun t ht hWm => ⟨⟨_, _, rfl, Option.some.inj hf, by rw [ht]; exact hW, va_K.moved hWm.alike hK⟩, hS.F ht⟩) hS.2.2 d_M_fund_64
        · replace hf := og_f hc hf
          refine lv_iconst (v := 0) hx hb d_M_fund_43 (by decide) ?_
          exact W.zret hx hb hr rfl (fun t ht hWm => ⟨⟨_, _, rfl, Option.some.inj hf, by rw [ht]; exact hW, va_K.moved hWm.alike hK⟩, hS.F ht⟩) hS.2.2 d_M_fund_44

set_option maxHeartbeats 4000000 in
set_option maxRecDepth 100000 in
theorem m_M_credit (l : Launch) (D : va_G) (cA : Nat → ClassId) (ad : Nat → Nat → Nat) (n : Nat) (A : Nat → Prop) (σ : St) (x1 : Int32) (x2 : Int64)  (out : Int32 × St) (hf : f_M_credit n σ x1 x2 = some out) : Met l y_M_credit ws_M_credit ({ frames := 4, cells := 0, slots := 0, locals := 93 }) (va_Pc [.ref (ad 0 0), .int x1, .long x2] (fun U => MW D cA ad n A σ U.heap ∧ va_K D vCl (atys cA) U)) (va_Qi (fun r u => (r, u) = out) (fun u t => MW D cA ad n A u t.heap ∧ va_K D vCl (atys cA) t) A) 0 0 A := by
  refine Met.ofW (cc := prog_5_method_18_code) (maxL := 4) (ret := (some .boolean)) (by decide) rfl ?_
  intro p e s m args below meth c s₁ B hml hv
  obtain ⟨rfl, hW, hK⟩ := hv
  have hx := B.exec
  have hb := B.bytes
  have hr := B.returns
  have hts := atoms_spec (ws := ws_M_credit) B.pre
  have ht : ∀ w ∈ TB, w.before _ s = true := fun w h => hts w (List.mem_cons_of_mem _ h)
  have hown : s.vm.findClass "GridlockDeskModel" = some m.cls := findClass_of_methodNamed B.named
  have hlocks := B.notSynchronized
  have hS : va_S A s.heap s.heap [] := va_S.rf
  have hl := lv_entry ([.ref (ad 0 0), .int x1, .long x2]) (n := 4) (Nat.le_of_ble_eq_true rfl)
  rw [lg_entry_eq]
  generalize (lg_sl ([.ref (ad 0 0), .int x1, .long x2]) ++ List.replicate (4 - (lg_sl ([.ref (ad 0 0), .int x1, .long x2])).length) Slot.unset).toArray = ls at hl ⊢
  have hl : lv_has ls 4 [(0, .ref (ad 0 0)), (1, .int x1), (2, .long x2)] := hl
  unfold f_M_credit at hf

  refine lv_aload_n hx hb d_M_credit_0 rfl (lv_at hl 0 rfl) ?_
  refine lv_iload_n hx hb d_M_credit_1 rfl (lv_at hl 1 rfl) ?_
  obtain ⟨o1, ho1, hf⟩ := og_b hf
  refine kc_i (P := (fun u H => MW D cA ad n A u H)) (va_runV (C := "GridlockDeskModel") (As := [.int _]) (rest := []) ⟨hx, hb, hml, hown, hts⟩ (m_M_isBank l D cA ad n A _  _  o1 ho1) (cwV 1 hts (tb_V tw_447 tw_449 tw_27 tw_35 tw_450) rfl rfl rfl (by decide +kernel) ⟨Nat.le_of_ble_eq_true rfl, Nat.le_of_ble_eq_true rfl⟩) ⟨k_blind, kw.recv hK hW.1 (t := 0) rfl rfl rfl, k_pre hW hK⟩ rfl rfl hl.1 rfl (lv_room (Nat.le_of_ble_eq_true rfl)) d_M_credit_2 ⟨Nat.zero_le _, Nat.zero_le _⟩) hS (fun H locs hW hS => ?_)
  refine lv_if_eq (tgt := 34) hx hb d_M_credit_5 rfl (fun hc => ?_) (fun hc => ?_)
  · replace hf := og_t hc hf
    refine lv_iconst (v := 0) hx hb d_M_credit_34 (by decide) ?_
    exact W.zret hx hb hr rfl (fun t ht hWm => ⟨⟨_, _, rfl, Option.some.inj hf, by rw [ht]; exact hW, va_K.moved hWm.alike hK⟩, hS.F ht⟩) hS.2.2 d_M_credit_35
  · replace hf := og_f hc hf
    refine lv_lload_n hx hb d_M_credit_8 rfl (lv_at hl 2 rfl) ?_
    refine lv_lconst (v := 0) hx hb d_M_credit_9 (by decide) ?_
    refine lc_lt (tgt := 34) hx hb d_M_credit_10 d_M_credit_11 rfl (fun hc => ?_) (fun hc => ?_)
    · replace hf := og_t hc hf
      refine lv_iconst (v := 0) hx hb d_M_credit_34 (by decide) ?_
      exact W.zret hx hb hr rfl (fun t ht hWm => ⟨⟨_, _, rfl, Option.some.inj hf, by rw [ht]; exact hW, va_K.moved hWm.alike hK⟩, hS.F ht⟩) hS.2.2 d_M_credit_35
    · replace hf := og_f hc hf
      refine lv_lload_n hx hb d_M_credit_14 rfl (lv_at hl 2 rfl) ?_
      refine lv_ldc2 (v := 1000000000000000) hx hb hown (ht _ tw_457) d_M_credit_15 ?_
      refine lc_gt (tgt := 34) hx hb d_M_credit_18 d_M_credit_19 rfl (fun hc => ?_) (fun hc => ?_)
      · replace hf := og_t hc hf
        refine lv_iconst (v := 0) hx hb d_M_credit_34 (by decide) ?_
        exact W.zret hx hb hr rfl (fun t ht hWm => ⟨⟨_, _, rfl, Option.some.inj hf, by rw [ht]; exact hW, va_K.moved hWm.alike hK⟩, hS.F ht⟩) hS.2.2 d_M_credit_35
      · replace hf := og_f hc hf
        refine lv_aload_n hx hb d_M_credit_22 rfl (lv_at hl 0 rfl) ?_
        refine va_get (D := D) (ci := 3) (C := "GridlockDeskModel") (T := T_M) (N := 22) hx hb ht hin_M hown hK (hW.1.one (t := 0) rfl) 0 rfl rfl 3 (by decide) (ht _ tw_328) (fun _ h9 => h9) rfl d_M_credit_23 ?_
        refine lv_iload_n hx hb d_M_credit_26 rfl (lv_at hl 1 rfl) ?_
        obtain ⟨hin2, hf⟩ := og_if hf
        refine va_lald (D := D) hx hb hK (hW.1.one (t := 1) rfl) 0 0 rfl rfl hin2 d_M_credit_27 ?_
        refine lv_lload_n hx hb d_M_credit_28 rfl (lv_at hl 2 rfl) ?_
        refine lv_lneg hx hb d_M_credit_29 ?_
        refine lc_ge (tgt := 36) hx hb d_M_credit_30 d_M_credit_31 rfl (fun hc => ?_) (fun hc => ?_)
        · replace hf := og_t hc hf
          refine lv_aload_n hx hb d_M_credit_36 rfl (lv_at hl 0 rfl) ?_
          refine va_get (D := D) (ci := 3) (C := "GridlockDeskModel") (T := T_M) (N := 22) hx hb ht hin_M hown hK (hW.1.one (t := 0) rfl) 0 rfl rfl 4 (by decide) (ht _ tw_329) (fun _ h9 => h9) rfl d_M_credit_37 ?_
          refine lv_iload_n hx hb d_M_credit_40 rfl (lv_at hl 1 rfl) ?_
          refine lv_lload_n hx hb d_M_credit_41 rfl (lv_at hl 2 rfl) ?_
          obtain ⟨hin3, hf⟩ := og_if hf
          obtain ⟨σ4, eσ4, hf⟩ := og_b hf
          cases eσ4
          refine k_last  (t := 2) hx hb hK hW.1 hS rfl (hW.2 _ _ rfl) 0 rfl rfl hin3 d_M_credit_42 mm_wL2 (fun H locs hW1 hS => ?_)
          have hW := MW.wL hW1 hW.2
          refine lv_aload_n hx hb d_M_credit_43 rfl (lv_at hl 0 rfl) ?_
          obtain ⟨o5, ho5, hf⟩ := og_b hf
          refine kc_v (P := (fun u H => MW D cA ad n A u H)) (va_runV (C := "GridlockDeskModel") (As := []) (rest := []) ⟨hx, hb, hml, hown, hts⟩ (m_M_sweep l D cA ad n A _    o5 ho5) (cwV 0 hts (tb_V tw_427 tw_429 tw_23 tw_35 tw_430) rfl rfl rfl (by decide +kernel) ⟨Nat.le_of_ble_eq_true rfl, Nat.le_of_ble_eq_true rfl⟩) ⟨k_blind, kw.recv hK hW.1 (t := 0) rfl rfl rfl, k_pre hW hK⟩ rfl rfl hl.1 rfl (lv_room (Nat.le_of_ble_eq_true rfl)) d_M_credit_44 ⟨Nat.zero_le _, Nat.zero_le _⟩) hS (fun H locs hW hS => ?_)
          refine lv_iconst (v := 1) hx hb d_M_credit_47 (by decide) ?_
          exact W.zret hx hb hr rfl (fun t ht hWm => ⟨⟨_, _, rfl, Option.some.inj hf, by rw [ht]; exact hW, va_K.moved hWm.alike hK⟩, hS.F ht⟩) hS.2.2 d_M_credit_48
        · replace hf := og_f hc hf
          refine lv_iconst (v := 0) hx hb d_M_credit_34 (by decide) ?_
          exact W.zret hx hb hr rfl (fun t ht hWm => ⟨⟨_, _, rfl, Option.some.inj hf, by rw [ht]; exact hW, va_K.moved hWm.alike hK⟩, hS.F ht⟩) hS.2.2 d_M_credit_35

set_option maxHeartbeats 4000000 in
set_option maxRecDepth 100000 in
theorem m_M_limit (l : Launch) (D : va_G) (cA : Nat → ClassId) (ad : Nat → Nat → Nat) (n : Nat) (A : Nat → Prop) (σ : St) (x1 : Int32) (x2 : Int32) (x3 : Int64)  (out : Int32 × St) (hf : f_M_limit n σ x1 x2 x3 = some out) : Met l y_M_limit ws_M_limit ({ frames := 4, cells := 0, slots := 0, locals := 93 }) (va_Pc [.ref (ad 0 0), .int x1, .int x2, .long x3] (fun U => MW D cA ad n A σ U.heap ∧ va_K D vCl (atys cA) U)) (va_Qi (fun r u => (r, u) = out) (fun u t => MW D cA ad n A u t.heap ∧ va_K D vCl (atys cA) t) A) 0 0 A := by
  refine Met.ofW (cc := prog_5_method_19_code) (maxL := 5) (ret := (some .boolean)) (by decide) rfl ?_
  intro p e s m args below meth c s₁ B hml hv
  obtain ⟨rfl, hW, hK⟩ := hv
  have hx := B.exec
  have hb := B.bytes
  have hr := B.returns
  have hts := atoms_spec (ws := ws_M_limit) B.pre
  have ht : ∀ w ∈ TB, w.before _ s = true := fun w h => hts w (List.mem_cons_of_mem _ h)
  have hown : s.vm.findClass "GridlockDeskModel" = some m.cls := findClass_of_methodNamed B.named
  have hlocks := B.notSynchronized
  have hS : va_S A s.heap s.heap [] := va_S.rf
  have hl := lv_entry ([.ref (ad 0 0), .int x1, .int x2, .long x3]) (n := 5) (Nat.le_of_ble_eq_true rfl)
  rw [lg_entry_eq]
  generalize (lg_sl ([.ref (ad 0 0), .int x1, .int x2, .long x3]) ++ List.replicate (5 - (lg_sl ([.ref (ad 0 0), .int x1, .int x2, .long x3])).length) Slot.unset).toArray = ls at hl ⊢
  have hl : lv_has ls 5 [(0, .ref (ad 0 0)), (1, .int x1), (2, .int x2), (3, .long x3)] := hl
  unfold f_M_limit at hf

  refine lv_aload_n hx hb d_M_limit_0 rfl (lv_at hl 0 rfl) ?_
  refine lv_iload_n hx hb d_M_limit_1 rfl (lv_at hl 1 rfl) ?_
  obtain ⟨o1, ho1, hf⟩ := og_b hf
  refine kc_i (P := (fun u H => MW D cA ad n A u H)) (va_runV (C := "GridlockDeskModel") (As := [.int _]) (rest := []) ⟨hx, hb, hml, hown, hts⟩ (m_M_isBank l D cA ad n A _  _  o1 ho1) (cwV 1 hts (tb_V tw_447 tw_449 tw_27 tw_35 tw_450) rfl rfl rfl (by decide +kernel) ⟨Nat.le_of_ble_eq_true rfl, Nat.le_of_ble_eq_true rfl⟩) ⟨k_blind, kw.recv hK hW.1 (t := 0) rfl rfl rfl, k_pre hW hK⟩ rfl rfl hl.1 rfl (lv_room (Nat.le_of_ble_eq_true rfl)) d_M_limit_2 ⟨Nat.zero_le _, Nat.zero_le _⟩) hS (fun H locs hW hS => ?_)
  refine lv_if_eq (tgt := 37) hx hb d_M_limit_5 rfl (fun hc => ?_) (fun hc => ?_)
  · replace hf := og_t hc hf
    refine lv_iconst (v := 0) hx hb d_M_limit_37 (by decide) ?_
    exact W.zret hx hb hr rfl (fun t ht hWm => ⟨⟨_, _, rfl, Option.some.inj hf, by rw [ht]; exact hW, va_K.moved hWm.alike hK⟩, hS.F ht⟩) hS.2.2 d_M_limit_38
  · replace hf := og_f hc hf
    refine lv_aload_n hx hb d_M_limit_8 rfl (lv_at hl 0 rfl) ?_
    refine lv_iload_n hx hb d_M_limit_9 rfl (lv_at hl 2 rfl) ?_
    obtain ⟨o2, ho2, hf⟩ := og_b hf
    refine kc_i (P := (fun u H => MW D cA ad n A u H)) (va_runV (C := "GridlockDeskModel") (As := [.int _]) (rest := []) ⟨hx, hb, hml, hown, hts⟩ (m_M_isBank l D cA ad n A _  _  o2 ho2) (cwV 1 hts (tb_V tw_447 tw_449 tw_27 tw_35 tw_450) rfl rfl rfl (by decide +kernel) ⟨Nat.le_of_ble_eq_true rfl, Nat.le_of_ble_eq_true rfl⟩) ⟨k_blind, kw.recv hK hW.1 (t := 0) rfl rfl rfl, k_pre hW hK⟩ rfl rfl hl.1 rfl (lv_room (Nat.le_of_ble_eq_true rfl)) d_M_limit_10 ⟨Nat.zero_le _, Nat.zero_le _⟩) hS (fun H locs hW hS => ?_)
    refine lv_if_eq (tgt := 37) hx hb d_M_limit_13 rfl (fun hc => ?_) (fun hc => ?_)
    · replace hf := og_t hc hf
      refine lv_iconst (v := 0) hx hb d_M_limit_37 (by decide) ?_
      exact W.zret hx hb hr rfl (fun t ht hWm => ⟨⟨_, _, rfl, Option.some.inj hf, by rw [ht]; exact hW, va_K.moved hWm.alike hK⟩, hS.F ht⟩) hS.2.2 d_M_limit_38
    · replace hf := og_f hc hf
      refine lv_iload_n hx hb d_M_limit_16 rfl (lv_at hl 1 rfl) ?_
      refine lv_iload_n hx hb d_M_limit_17 rfl (lv_at hl 2 rfl) ?_
      refine lv_icmp_eq (tgt := 37) hx hb d_M_limit_18 rfl (fun hc => ?_) (fun hc => ?_)
      · replace hf := og_t hc hf
        refine lv_iconst (v := 0) hx hb d_M_limit_37 (by decide) ?_
        exact W.zret hx hb hr rfl (fun t ht hWm => ⟨⟨_, _, rfl, Option.some.inj hf, by rw [ht]; exact hW, va_K.moved hWm.alike hK⟩, hS.F ht⟩) hS.2.2 d_M_limit_38
      · replace hf := og_f hc hf
        refine lv_lload_n hx hb d_M_limit_21 rfl (lv_at hl 3 rfl) ?_
        refine lv_ldc2 (v := (-1)) hx hb hown (ht _ tw_324) d_M_limit_22 ?_
        refine lc_lt (tgt := 37) hx hb d_M_limit_25 d_M_limit_26 rfl (fun hc => ?_) (fun hc => ?_)
        · replace hf := og_t hc hf
          refine lv_iconst (v := 0) hx hb d_M_limit_37 (by decide) ?_
          exact W.zret hx hb hr rfl (fun t ht hWm => ⟨⟨_, _, rfl, Option.some.inj hf, by rw [ht]; exact hW, va_K.moved hWm.alike hK⟩, hS.F ht⟩) hS.2.2 d_M_limit_38
        · replace hf := og_f hc hf
          refine lv_lload_n hx hb d_M_limit_29 rfl (lv_at hl 3 rfl) ?_
          refine lv_ldc2 (v := 1000000000000000) hx hb hown (ht _ tw_457) d_M_limit_30 ?_
          refine lc_le (tgt := 39) hx hb d_M_limit_33 d_M_limit_34 rfl (fun hc => ?_) (fun hc => ?_)
          · replace hf := og_t hc hf
            refine lv_lload_n hx hb d_M_limit_39 rfl (lv_at hl 3 rfl) ?_
            refine lv_lconst (v := 0) hx hb d_M_limit_40 (by decide) ?_
            refine lc_lt (tgt := 73) hx hb d_M_limit_41 d_M_limit_42 rfl (fun hc => ?_) (fun hc => ?_)
            · replace hf := og_t hc hf
              refine lv_aload_n hx hb d_M_limit_73 rfl (lv_at hl 0 rfl) ?_
              refine va_get (D := D) (ci := 3) (C := "GridlockDeskModel") (T := T_M) (N := 22) hx hb ht hin_M hown hK (hW.1.one (t := 0) rfl) 0 rfl rfl 6 (by decide) (ht _ tw_331) (fun _ h9 => h9) rfl d_M_limit_74 ?_
              refine lv_iconst (v := 4) hx hb d_M_limit_77 (by decide) ?_
              refine lv_iload_n hx hb d_M_limit_78 rfl (lv_at hl 1 rfl) ?_
              refine lv_imul hx hb d_M_limit_79 ?_
              refine lv_iload_n hx hb d_M_limit_80 rfl (lv_at hl 2 rfl) ?_
              refine lv_iadd hx hb d_M_limit_81 ?_
              refine lv_lload_n hx hb d_M_limit_82 rfl (lv_at hl 3 rfl) ?_
              obtain ⟨hin3, hf⟩ := og_if hf
              obtain ⟨σ4, eσ4, hf⟩ := og_b hf
              cases eσ4
              refine k_last  (t := 4) hx hb hK hW.1 hS rfl (hW.2 _ _ rfl) 0 rfl rfl hin3 d_M_limit_83 mm_wL4 (fun H locs hW1 hS => ?_)
              have hW := MW.wL hW1 hW.2
              refine lv_aload_n hx hb d_M_limit_84 rfl (lv_at hl 0 rfl) ?_
              obtain ⟨o5, ho5, hf⟩ := og_b hf
              refine kc_v (P := (fun u H => MW D cA ad n A u H)) (va_runV (C := "GridlockDeskModel") (As := []) (rest := []) ⟨hx, hb, hml, hown, hts⟩ (m_M_sweep l D cA ad n A _    o5 ho5) (cwV 0 hts (tb_V tw_427 tw_429 tw_23 tw_35 tw_430) rfl rfl rfl (by decide +kernel) ⟨Nat.le_of_ble_eq_true rfl, Nat.le_of_ble_eq_true rfl⟩) ⟨k_blind, kw.recv hK hW.1 (t := 0) rfl rfl rfl, k_pre hW hK⟩ rfl rfl hl.1 rfl (lv_room (Nat.le_of_ble_eq_true rfl)) d_M_limit_85 ⟨Nat.zero_le _, Nat.zero_le _⟩) hS (fun H locs hW hS => ?_)
              refine lv_iconst (v := 1) hx hb d_M_limit_88 (by decide) ?_
              exact W.zret hx hb hr rfl (fun t ht hWm => ⟨⟨_, _, rfl, Option.some.inj hf, by rw [ht]; exact hW, va_K.moved hWm.alike hK⟩, hS.F ht⟩) hS.2.2 d_M_limit_89
            · replace hf := og_f hc hf
              refine lv_aload_n hx hb d_M_limit_45 rfl (lv_at hl 0 rfl) ?_
              refine va_get (D := D) (ci := 3) (C := "GridlockDeskModel") (T := T_M) (N := 22) hx hb ht hin_M hown hK (hW.1.one (t := 0) rfl) 0 rfl rfl 7 (by decide) (ht _ tw_332) (fun _ h9 => h9) rfl d_M_limit_46 ?_
              refine lv_iconst (v := 4) hx hb d_M_limit_49 (by decide) ?_
              refine lv_iload_n hx hb d_M_limit_50 rfl (lv_at hl 1 rfl) ?_
              refine lv_imul hx hb d_M_limit_51 ?_
              refine lv_iload_n hx hb d_M_limit_52 rfl (lv_at hl 2 rfl) ?_
              refine lv_iadd hx hb d_M_limit_53 ?_
              obtain ⟨hin6, hf⟩ := og_if hf
              refine va_lald (D := D) hx hb hK (hW.1.one (t := 5) rfl) 0 0 rfl rfl hin6 d_M_limit_54 ?_
              refine lv_aload_n hx hb d_M_limit_55 rfl (lv_at hl 0 rfl) ?_
              refine va_get (D := D) (ci := 3) (C := "GridlockDeskModel") (T := T_M) (N := 22) hx hb ht hin_M hown hK (hW.1.one (t := 0) rfl) 0 rfl rfl 7 (by decide) (ht _ tw_332) (fun _ h9 => h9) rfl d_M_limit_56 ?_
              refine lv_iconst (v := 4) hx hb d_M_limit_59 (by decide) ?_
              refine lv_iload_n hx hb d_M_limit_60 rfl (lv_at hl 2 rfl) ?_
              refine lv_imul hx hb d_M_limit_61 ?_
              refine lv_iload_n hx hb d_M_limit_62 rfl (lv_at hl 1 rfl) ?_
              refine lv_iadd hx hb d_M_limit_63 ?_
              obtain ⟨hin7, hf⟩ := og_if hf
              refine va_lald (D := D) hx hb hK (hW.1.one (t := 5) rfl) 0 0 rfl rfl hin7 d_M_limit_64 ?_
              refine lv_lsub hx hb d_M_limit_65 ?_
              refine lv_lload_n hx hb d_M_limit_66 rfl (lv_at hl 3 rfl) ?_
              refine lc_le (tgt := 73) hx hb d_M_limit_67 d_M_limit_68 rfl (fun hc => ?_) (fun hc => ?_)
              · replace hf := og_t hc hf
                refine lv_aload_n hx hb d_M_limit_73 rfl (lv_at hl 0 rfl) ?_
                refine va_get (D := D) (ci := 3) (C := "GridlockDeskModel") (T := T_M) (N := 22) hx hb ht hin_M hown hK (hW.1.one (t := 0) rfl) 0 rfl rfl 6 (by decide) (ht _ tw_331) (fun _ h9 => h9) rfl d_M_limit_74 ?_
                refine lv_iconst (v := 4) hx hb d_M_limit_77 (by decide) ?_
                refine lv_iload_n hx hb d_M_limit_78 rfl (lv_at hl 1 rfl) ?_
                refine lv_imul hx hb d_M_limit_79 ?_
                refine lv_iload_n hx hb d_M_limit_80 rfl (lv_at hl 2 rfl) ?_
                refine lv_iadd hx hb d_M_limit_81 ?_
                refine lv_lload_n hx hb d_M_limit_82 rfl (lv_at hl 3 rfl) ?_
                obtain ⟨hin8, hf⟩ := og_if hf
                obtain ⟨σ9, eσ9, hf⟩ := og_b hf
                cases eσ9
                refine k_last  (t := 4) hx hb hK hW.1 hS rfl (hW.2 _ _ rfl) 0 rfl rfl hin8 d_M_limit_83 mm_wL4 (fun H locs hW1 hS => ?_)
                have hW := MW.wL hW1 hW.2
                refine lv_aload_n hx hb d_M_limit_84 rfl (lv_at hl 0 rfl) ?_
                obtain ⟨o10, ho10, hf⟩ := og_b hf
                refine kc_v (P := (fun u H => MW D cA ad n A u H)) (va_runV (C := "GridlockDeskModel") (As := []) (rest := []) ⟨hx, hb, hml, hown, hts⟩ (m_M_sweep l D cA ad n A _    o10 ho10) (cwV 0 hts (tb_V tw_427 tw_429 tw_23 tw_35 tw_430) rfl rfl rfl (by decide +kernel) ⟨Nat.le_of_ble_eq_true rfl, Nat.le_of_ble_eq_true rfl⟩) ⟨k_blind, kw.recv hK hW.1 (t := 0) rfl rfl rfl, k_pre hW hK⟩ rfl rfl hl.1 rfl (lv_room (Nat.le_of_ble_eq_true rfl)) d_M_limit_85 ⟨Nat.zero_le _, Nat.zero_le _⟩) hS (fun H locs hW hS => ?_)
                refine lv_iconst (v := 1) hx hb d_M_limit_88 (by decide) ?_
                exact W.zret hx hb hr rfl (fun t ht hWm => ⟨⟨_, _, rfl, Option.some.inj hf, by rw [ht]; exact hW, va_K.moved hWm.alike hK⟩, hS.F ht⟩) hS.2.2 d_M_limit_89
              · replace hf := og_f hc hf
                refine lv_iconst (v := 0) hx hb d_M_limit_71 (by decide) ?_
                exact W.zret hx hb hr rfl (fun t ht hWm => ⟨⟨_, _, rfl, Option.some.inj hf, by rw [ht]; exact hW, va_K.moved hWm.alike hK⟩, hS.F ht⟩) hS.2.2 d_M_limit_72
          · replace hf := og_f hc hf
            refine lv_iconst (v := 0) hx hb d_M_limit_37 (by decide) ?_
            exact W.zret hx hb hr rfl (fun t ht hWm => ⟨⟨_, _, rfl, Option.some.inj hf, by rw [ht]; exact hW, va_K.moved hWm.alike hK⟩, hS.F ht⟩) hS.2.2 d_M_limit_38

set_option maxHeartbeats 4000000 in
set_option maxRecDepth 100000 in
theorem lp_M_totalLimit_32_ok {p : Program} {l : Launch} {e : Env} {s : State} {m : MethodId} {args : Array Value} {below : List Frame} {meth : Method} {c : Code} (D : va_G) (cA : Nat → ClassId) (ad : Nat → Nat → Nat) (n : Nat) (A : Nat → Prop) (hx : p.tables.exec = Jvm.exec) (hb : c.code = prog_5_method_20_code) (hml : c.maxLocals = 7) (hr : meth.sig.returnType = (some .boolean)) (hts : ∀ w ∈ ws_M_totalLimit, w.before args s = true) (hown : s.vm.findClass "GridlockDeskModel" = some m.cls) (hlocks : meth.locks = false) (hK : va_K D vCl (atys cA) s) (k : St → Int64 → Option (Int32 × St)) (out : Int32 × St) (v1 : Int32) (v2 : Int64) (hk : ∀ (σ : St) (v4 : Int64) (H : Heap) (locs : List Loc) (ls : Array Slot), lv_has ls 7 [(0, .ref (ad 0 0)), (1, .int v1), (2, .long v2), (4, .long v4)] → MW D cA ad n A σ H → va_S A s.heap H locs → k σ v4 = some out → W p l e (headSpec ws_M_totalLimit ({ frames := 4, cells := 0, slots := 0, locals := 93 })).room s m args below meth c H locs 0 0 (MQ below (va_Qi (fun r u => (r, u) = out) (fun u t => MW D cA ad n A u t.heap ∧ va_K D vCl (atys cA) t) A) args s 0 0 A) (F0 m 75 ls [])) : ∀ (fu : Nat) (σ : St) (v4 : Int64) (v6 : Int32) (H : Heap) (locs : List Loc) (ls : Array Slot), lv_has ls 7 [(0, .ref (ad 0 0)), (1, .int v1), (2, .long v2), (4, .long v4), (6, .int v6)] → MW D cA ad n A σ H → va_S A s.heap H locs → lp_M_totalLimit_32 n k fu σ v1 v2 v4 v6 = some out → W p l e (headSpec ws_M_totalLimit ({ frames := 4, cells := 0, slots := 0, locals := 93 })).room s m args below meth c H locs 0 0 (MQ below (va_Qi (fun r u => (r, u) = out) (fun u t => MW D cA ad n A u t.heap ∧ va_K D vCl (atys cA) t) A) args s 0 0 A) (F0 m 32 ls []) := by
  intro fu
  induction fu with
  | zero =>
    intro σ v4 v6 H locs ls  hl hW hS hf
    exact og_n hf
  | succ fu ih =>
    intro σ v4 v6 H locs ls  hl hW hS hf
    rw [lp_M_totalLimit_32_s] at hf
    have ht : ∀ w ∈ TB, w.before args s = true := fun w h => hts w (List.mem_cons_of_mem _ h)
    refine lv_iload hx hb d_M_totalLimit_32 (lv_at hl 4 rfl) ?_
    refine lv_aload_n hx hb d_M_totalLimit_34 rfl (lv_at hl 0 rfl) ?_
    refine va_get (D := D) (ci := 3) (C := "GridlockDeskModel") (T := T_M) (N := 22) hx hb ht hin_M hown hK (hW.1.one (t := 0) rfl) 0 rfl rfl 0 (by decide) (ht _ tw_325) (fun _ h9 => h9) rfl d_M_totalLimit_35 ?_
    refine lv_icmp_ge (tgt := 75) hx hb d_M_totalLimit_38 rfl (fun hc => ?_) (fun hc => ?_)
    · replace hf := og_t hc hf
      exact hk _ _ _ _ _  (lv_sub hl [0, 1, 2, 3] rfl) hW hS hf
    · replace hf := og_f hc hf
      refine lv_lload hx hb d_M_totalLimit_41 (lv_at hl 3 rfl) ?_
      refine lv_aload_n hx hb d_M_totalLimit_43 rfl (lv_at hl 0 rfl) ?_
      refine va_get (D := D) (ci := 3) (C := "GridlockDeskModel") (T := T_M) (N := 22) hx hb ht hin_M hown hK (hW.1.one (t := 0) rfl) 0 rfl rfl 7 (by decide) (ht _ tw_332) (fun _ h9 => h9) rfl d_M_totalLimit_44 ?_
      refine lv_iconst (v := 4) hx hb d_M_totalLimit_47 (by decide) ?_
      refine lv_iload_n hx hb d_M_totalLimit_48 rfl (lv_at hl 1 rfl) ?_
      refine lv_imul hx hb d_M_totalLimit_49 ?_
      refine lv_iload hx hb d_M_totalLimit_50 (lv_at hl 4 rfl) ?_
      refine lv_iadd hx hb d_M_totalLimit_52 ?_
      obtain ⟨hin2, hf⟩ := og_if hf
      refine va_lald (D := D) hx hb hK (hW.1.one (t := 5) rfl) 0 0 rfl rfl hin2 d_M_totalLimit_53 ?_
      refine lv_ladd hx hb d_M_totalLimit_54 ?_
      refine lv_aload_n hx hb d_M_totalLimit_55 rfl (lv_at hl 0 rfl) ?_
      refine va_get (D := D) (ci := 3) (C := "GridlockDeskModel") (T := T_M) (N := 22) hx hb ht hin_M hown hK (hW.1.one (t := 0) rfl) 0 rfl rfl 7 (by decide) (ht _ tw_332) (fun _ h9 => h9) rfl d_M_totalLimit_56 ?_
      refine lv_iconst (v := 4) hx hb d_M_totalLimit_59 (by decide) ?_
      refine lv_iload hx hb d_M_totalLimit_60 (lv_at hl 4 rfl) ?_
      refine lv_imul hx hb d_M_totalLimit_62 ?_
      refine lv_iload_n hx hb d_M_totalLimit_63 rfl (lv_at hl 1 rfl) ?_
      refine lv_iadd hx hb d_M_totalLimit_64 ?_
      obtain ⟨hin3, hf⟩ := og_if hf
      refine va_lald (D := D) hx hb hK (hW.1.one (t := 5) rfl) 0 0 rfl rfl hin3 d_M_totalLimit_65 ?_
      refine lv_lsub hx hb d_M_totalLimit_66 ?_
      refine lv_lstore (lv' := [(4, .long _), (0, .ref _), (1, .int _), (2, .long _), (6, .int _)]) hx hb d_M_totalLimit_67 hl (by decide) rfl (fun ls hl => ?_)
      refine lv_iinc (k := 4) (v := _ + 1) (lv' := [(6, .int _), (4, .long _), (0, .ref _), (1, .int _), (2, .long _)]) hx hb d_M_totalLimit_69 hl rfl rfl (by decide) rfl (fun ls hl => ?_)
      refine lv_goto (tgt := 32) hx hb d_M_totalLimit_72 rfl ?_
      exact ih _ _ _ _ _ _  (lv_sub hl [2, 3, 4, 1, 0] rfl) hW hS hf

set_option maxHeartbeats 4000000 in
set_option maxRecDepth 100000 in
theorem m_M_totalLimit (l : Launch) (D : va_G) (cA : Nat → ClassId) (ad : Nat → Nat → Nat) (n : Nat) (A : Nat → Prop) (σ : St) (x1 : Int32) (x2 : Int64)  (out : Int32 × St) (hf : f_M_totalLimit n σ x1 x2 = some out) : Met l y_M_totalLimit ws_M_totalLimit ({ frames := 4, cells := 0, slots := 0, locals := 93 }) (va_Pc [.ref (ad 0 0), .int x1, .long x2] (fun U => MW D cA ad n A σ U.heap ∧ va_K D vCl (atys cA) U)) (va_Qi (fun r u => (r, u) = out) (fun u t => MW D cA ad n A u t.heap ∧ va_K D vCl (atys cA) t) A) 0 0 A := by
  refine Met.ofW (cc := prog_5_method_20_code) (maxL := 7) (ret := (some .boolean)) (by decide) rfl ?_
  intro p e s m args below meth c s₁ B hml hv
  obtain ⟨rfl, hW, hK⟩ := hv
  have hx := B.exec
  have hb := B.bytes
  have hr := B.returns
  have hts := atoms_spec (ws := ws_M_totalLimit) B.pre
  have ht : ∀ w ∈ TB, w.before _ s = true := fun w h => hts w (List.mem_cons_of_mem _ h)
  have hown : s.vm.findClass "GridlockDeskModel" = some m.cls := findClass_of_methodNamed B.named
  have hlocks := B.notSynchronized
  have hS : va_S A s.heap s.heap [] := va_S.rf
  have hl := lv_entry ([.ref (ad 0 0), .int x1, .long x2]) (n := 7) (Nat.le_of_ble_eq_true rfl)
  rw [lg_entry_eq]
  generalize (lg_sl ([.ref (ad 0 0), .int x1, .long x2]) ++ List.replicate (7 - (lg_sl ([.ref (ad 0 0), .int x1, .long x2])).length) Slot.unset).toArray = ls at hl ⊢
  have hl : lv_has ls 7 [(0, .ref (ad 0 0)), (1, .int x1), (2, .long x2)] := hl
  unfold f_M_totalLimit at hf

  refine lv_aload_n hx hb d_M_totalLimit_0 rfl (lv_at hl 0 rfl) ?_
  refine lv_iload_n hx hb d_M_totalLimit_1 rfl (lv_at hl 1 rfl) ?_
  obtain ⟨o1, ho1, hf⟩ := og_b hf
  refine kc_i (P := (fun u H => MW D cA ad n A u H)) (va_runV (C := "GridlockDeskModel") (As := [.int _]) (rest := []) ⟨hx, hb, hml, hown, hts⟩ (m_M_isBank l D cA ad n A _  _  o1 ho1) (cwV 1 hts (tb_V tw_447 tw_449 tw_27 tw_35 tw_450) rfl rfl rfl (by decide +kernel) ⟨Nat.le_of_ble_eq_true rfl, Nat.le_of_ble_eq_true rfl⟩) ⟨k_blind, kw.recv hK hW.1 (t := 0) rfl rfl rfl, k_pre hW hK⟩ rfl rfl hl.1 rfl (lv_room (Nat.le_of_ble_eq_true rfl)) d_M_totalLimit_2 ⟨Nat.zero_le _, Nat.zero_le _⟩) hS (fun H locs hW hS => ?_)
  refine lv_if_eq (tgt := 24) hx hb d_M_totalLimit_5 rfl (fun hc => ?_) (fun hc => ?_)
  · replace hf := og_t hc hf
    refine lv_iconst (v := 0) hx hb d_M_totalLimit_24 (by decide) ?_
    exact W.zret hx hb hr rfl (fun t ht hWm => ⟨⟨_, _, rfl, Option.some.inj hf, by rw [ht]; exact hW, va_K.moved hWm.alike hK⟩, hS.F ht⟩) hS.2.2 d_M_totalLimit_25
  · replace hf := og_f hc hf
    refine lv_lload_n hx hb d_M_totalLimit_8 rfl (lv_at hl 2 rfl) ?_
    refine lv_ldc2 (v := (-1)) hx hb hown (ht _ tw_324) d_M_totalLimit_9 ?_
    refine lc_lt (tgt := 24) hx hb d_M_totalLimit_12 d_M_totalLimit_13 rfl (fun hc => ?_) (fun hc => ?_)
    · replace hf := og_t hc hf
      refine lv_iconst (v := 0) hx hb d_M_totalLimit_24 (by decide) ?_
      exact W.zret hx hb hr rfl (fun t ht hWm => ⟨⟨_, _, rfl, Option.some.inj hf, by rw [ht]; exact hW, va_K.moved hWm.alike hK⟩, hS.F ht⟩) hS.2.2 d_M_totalLimit_25
    · replace hf := og_f hc hf
      refine lv_lload_n hx hb d_M_totalLimit_16 rfl (lv_at hl 2 rfl) ?_
      refine lv_ldc2 (v := 1000000000000000) hx hb hown (ht _ tw_457) d_M_totalLimit_17 ?_
      refine lc_le (tgt := 26) hx hb d_M_totalLimit_20 d_M_totalLimit_21 rfl (fun hc => ?_) (fun hc => ?_)
      · replace hf := og_t hc hf
        refine lv_lconst (v := 0) hx hb d_M_totalLimit_26 (by decide) ?_
        refine lv_lstore (lv' := [(4, .long _), (0, .ref _), (1, .int _), (2, .long _)]) hx hb d_M_totalLimit_27 hl (by decide) rfl (fun ls hl => ?_)
        refine lv_iconst (v := 0) hx hb d_M_totalLimit_29 (by decide) ?_
        refine lv_istore (lv' := [(6, .int _), (4, .long _), (0, .ref _), (1, .int _), (2, .long _)]) hx hb d_M_totalLimit_30 hl (by decide) rfl (fun ls hl => ?_)
        refine lp_M_totalLimit_32_ok D cA ad n A hx hb hml hr hts hown hlocks hK _ _ _ _ (fun σ5 y4_4 H locs ls  hl hW hS hf => ?_) _ _ _ _ _ _ _  (lv_sub hl [2, 3, 4, 1, 0] rfl) hW hS hf
        refine lv_lload_n hx hb d_M_totalLimit_75 rfl (lv_at hl 2 rfl) ?_
        refine lv_lconst (v := 0) hx hb d_M_totalLimit_76 (by decide) ?_
        refine lc_lt (tgt := 90) hx hb d_M_totalLimit_77 d_M_totalLimit_78 rfl (fun hc => ?_) (fun hc => ?_)
        · replace hf := og_t hc hf
          refine lv_aload_n hx hb d_M_totalLimit_90 rfl (lv_at hl 0 rfl) ?_
          refine va_get (D := D) (ci := 3) (C := "GridlockDeskModel") (T := T_M) (N := 22) hx hb ht hin_M hown hK (hW.1.one (t := 0) rfl) 0 rfl rfl 5 (by decide) (ht _ tw_330) (fun _ h9 => h9) rfl d_M_totalLimit_91 ?_
          refine lv_iload_n hx hb d_M_totalLimit_94 rfl (lv_at hl 1 rfl) ?_
          refine lv_lload_n hx hb d_M_totalLimit_95 rfl (lv_at hl 2 rfl) ?_
          obtain ⟨hin6, hf⟩ := og_if hf
          obtain ⟨σ7, eσ7, hf⟩ := og_b hf
          cases eσ7
          refine k_last  (t := 3) hx hb hK hW.1 hS rfl (hW.2 _ _ rfl) 0 rfl rfl hin6 d_M_totalLimit_96 mm_wL3 (fun H locs hW1 hS => ?_)
          have hW := MW.wL hW1 hW.2
          refine lv_aload_n hx hb d_M_totalLimit_97 rfl (lv_at hl 0 rfl) ?_
          obtain ⟨o8, ho8, hf⟩ := og_b hf
          refine kc_v (P := (fun u H => MW D cA ad n A u H)) (va_runV (C := "GridlockDeskModel") (As := []) (rest := []) ⟨hx, hb, hml, hown, hts⟩ (m_M_sweep l D cA ad n A _    o8 ho8) (cwV 0 hts (tb_V tw_427 tw_429 tw_23 tw_35 tw_430) rfl rfl rfl (by decide +kernel) ⟨Nat.le_of_ble_eq_true rfl, Nat.le_of_ble_eq_true rfl⟩) ⟨k_blind, kw.recv hK hW.1 (t := 0) rfl rfl rfl, k_pre hW hK⟩ rfl rfl hl.1 rfl (lv_room (Nat.le_of_ble_eq_true rfl)) d_M_totalLimit_98 ⟨Nat.zero_le _, Nat.zero_le _⟩) hS (fun H locs hW hS => ?_)
          refine lv_iconst (v := 1) hx hb d_M_totalLimit_101 (by decide) ?_
          exact W.zret hx hb hr rfl (fun t ht hWm => ⟨⟨_, _, rfl, Option.some.inj hf, by rw [ht]; exact hW, va_K.moved hWm.alike hK⟩, hS.F ht⟩) hS.2.2 d_M_totalLimit_102
        · replace hf := og_f hc hf
          refine lv_lload hx hb d_M_totalLimit_81 (lv_at hl 3 rfl) ?_
          refine lv_lload_n hx hb d_M_totalLimit_83 rfl (lv_at hl 2 rfl) ?_
          refine lc_le (tgt := 90) hx hb d_M_totalLimit_84 d_M_totalLimit_85 rfl (fun hc => ?_) (fun hc => ?_)
          · replace hf := og_t hc hf
            refine lv_aload_n hx hb d_M_totalLimit_90 rfl (lv_at hl 0 rfl) ?_
            refine va_get (D := D) (ci := 3) (C := "GridlockDeskModel") (T := T_M) (N := 22) hx hb ht hin_M hown hK (hW.1.one (t := 0) rfl) 0 rfl rfl 5 (by decide) (ht _ tw_330) (fun _ h9 => h9) rfl d_M_totalLimit_91 ?_
            refine lv_iload_n hx hb d_M_totalLimit_94 rfl (lv_at hl 1 rfl) ?_
            refine lv_lload_n hx hb d_M_totalLimit_95 rfl (lv_at hl 2 rfl) ?_
            obtain ⟨hin9, hf⟩ := og_if hf
            obtain ⟨σ10, eσ10, hf⟩ := og_b hf
            cases eσ10
            refine k_last  (t := 3) hx hb hK hW.1 hS rfl (hW.2 _ _ rfl) 0 rfl rfl hin9 d_M_totalLimit_96 mm_wL3 (fun H locs hW1 hS => ?_)
            have hW := MW.wL hW1 hW.2
            refine lv_aload_n hx hb d_M_totalLimit_97 rfl (lv_at hl 0 rfl) ?_
            obtain ⟨o11, ho11, hf⟩ := og_b hf
            refine kc_v (P := (fun u H => MW D cA ad n A u H)) (va_runV (C := "GridlockDeskModel") (As := []) (rest := []) ⟨hx, hb, hml, hown, hts⟩ (m_M_sweep l D cA ad n A _    o11 ho11) (cwV 0 hts (tb_V tw_427 tw_429 tw_23 tw_35 tw_430) rfl rfl rfl (by decide +kernel) ⟨Nat.le_of_ble_eq_true rfl, Nat.le_of_ble_eq_true rfl⟩) ⟨k_blind, kw.recv hK hW.1 (t := 0) rfl rfl rfl, k_pre hW hK⟩ rfl rfl hl.1 rfl (lv_room (Nat.le_of_ble_eq_true rfl)) d_M_totalLimit_98 ⟨Nat.zero_le _, Nat.zero_le _⟩) hS (fun H locs hW hS => ?_)
            refine lv_iconst (v := 1) hx hb d_M_totalLimit_101 (by decide) ?_
            exact W.zret hx hb hr rfl (fun t ht hWm => ⟨⟨_, _, rfl, Option.some.inj hf, by rw [ht]; exact hW, va_K.moved hWm.alike hK⟩, hS.F ht⟩) hS.2.2 d_M_totalLimit_102
          · replace hf := og_f hc hf
            refine lv_iconst (v := 0) hx hb d_M_totalLimit_88 (by decide) ?_
            exact W.zret hx hb hr rfl (fun t ht hWm => ⟨⟨_, _, rfl, Option.some.inj hf, by rw [ht]; exact hW, va_K.moved hWm.alike hK⟩, hS.F ht⟩) hS.2.2 d_M_totalLimit_89
      · replace hf := og_f hc hf
        refine lv_iconst (v := 0) hx hb d_M_totalLimit_24 (by decide) ?_
        exact W.zret hx hb hr rfl (fun t ht hWm => ⟨⟨_, _, rfl, Option.some.inj hf, by rw [ht]; exact hW, va_K.moved hWm.alike hK⟩, hS.F ht⟩) hS.2.2 d_M_totalLimit_25

set_option maxHeartbeats 4000000 in
set_option maxRecDepth 100000 in
theorem lp_M_queuedAt_4_ok {p : Program} {l : Launch} {e : Env} {s : State} {m : MethodId} {args : Array Value} {below : List Frame} {meth : Method} {c : Code} (D : va_G) (cA : Nat → ClassId) (ad : Nat → Nat → Nat) (n : Nat) (A : Nat → Prop) (hx : p.tables.exec = Jvm.exec) (hb : c.code = prog_5_method_21_code) (hml : c.maxLocals = 4) (hr : meth.sig.returnType = (some .int)) (hts : ∀ w ∈ ws_M_queuedAt, w.before args s = true) (hown : s.vm.findClass "GridlockDeskModel" = some m.cls) (hlocks : meth.locks = false) (hK : va_K D vCl (atys cA) s) (k : St → Int32 → Option (Int32 × St)) (out : Int32 × St) (v1 : Int32) (hk : ∀ (σ : St) (v2 : Int32) (H : Heap) (locs : List Loc) (ls : Array Slot), lv_has ls 4 [(2, .int v2)] → MW D cA ad n A σ H → va_S A s.heap H locs → k σ v2 = some out → W p l e (headSpec ws_M_queuedAt ({ frames := 0, cells := 0, slots := 0, locals := 0 })).room s m args below meth c H locs 0 0 (MQ below (va_Qi (fun r u => (r, u) = out) (fun u t => MW D cA ad n A u t.heap ∧ va_K D vCl (atys cA) t) A) args s 0 0 A) (F0 m 45 ls [])) : ∀ (fu : Nat) (σ : St) (v2 : Int32) (v3 : Int32) (H : Heap) (locs : List Loc) (ls : Array Slot), lv_has ls 4 [(0, .ref (ad 0 0)), (1, .int v1), (2, .int v2), (3, .int v3)] → MW D cA ad n A σ H → va_S A s.heap H locs → lp_M_queuedAt_4 n k fu σ v1 v2 v3 = some out → W p l e (headSpec ws_M_queuedAt ({ frames := 0, cells := 0, slots := 0, locals := 0 })).room s m args below meth c H locs 0 0 (MQ below (va_Qi (fun r u => (r, u) = out) (fun u t => MW D cA ad n A u t.heap ∧ va_K D vCl (atys cA) t) A) args s 0 0 A) (F0 m 4 ls []) := by
  intro fu
  induction fu with
  | zero =>
    intro σ v2 v3 H locs ls  hl hW hS hf
    exact og_n hf
  | succ fu ih =>
    intro σ v2 v3 H locs ls  hl hW hS hf
    rw [lp_M_queuedAt_4_s] at hf
    have ht : ∀ w ∈ TB, w.before args s = true := fun w h => hts w (List.mem_cons_of_mem _ h)
    refine lv_iload_n hx hb d_M_queuedAt_4 rfl (lv_at hl 3 rfl) ?_
    refine lv_aload_n hx hb d_M_queuedAt_5 rfl (lv_at hl 0 rfl) ?_
    refine va_get (D := D) (ci := 3) (C := "GridlockDeskModel") (T := T_M) (N := 22) hx hb ht hin_M hown hK (hW.1.one (t := 0) rfl) 0 rfl rfl 8 (by decide) (ht _ tw_333) (fun _ h9 => h9) rfl d_M_queuedAt_6 ?_
    refine lv_icmp_ge (tgt := 45) hx hb d_M_queuedAt_9 rfl (fun hc => ?_) (fun hc => ?_)
    · replace hf := og_t hc hf
      exact hk _ _ _ _ _  (lv_sub hl [2] rfl) hW hS hf
    · replace hf := og_f hc hf
      refine lv_aload_n hx hb d_M_queuedAt_12 rfl (lv_at hl 0 rfl) ?_
      refine va_get (D := D) (ci := 3) (C := "GridlockDeskModel") (T := T_M) (N := 22) hx hb ht hin_M hown hK (hW.1.one (t := 0) rfl) 0 rfl rfl 16 (by decide) (ht _ tw_341) (fun _ h9 => h9) rfl d_M_queuedAt_13 ?_
      refine lv_iload_n hx hb d_M_queuedAt_16 rfl (lv_at hl 3 rfl) ?_
      obtain ⟨hin1, hf⟩ := og_if hf
      refine va_iald (D := D) hx hb hK (hW.1.one (t := 12) rfl) 0 1 rfl rfl hin1 d_M_queuedAt_17 ?_
      refine lv_if_ne (tgt := 37) hx hb d_M_queuedAt_18 rfl (fun hc => ?_) (fun hc => ?_)
      · replace hf := og_f hc hf
        refine lv_iload_n hx hb d_M_queuedAt_37 rfl (lv_at hl 2 rfl) ?_
        refine lv_istore_n (lv' := [(2, .int _), (0, .ref _), (1, .int _), (3, .int _)]) hx hb d_M_queuedAt_38 rfl hl (by decide) rfl (fun ls hl => ?_)
        refine lv_iinc (k := 3) (v := _ + 1) (lv' := [(3, .int _), (2, .int _), (0, .ref _), (1, .int _)]) hx hb d_M_queuedAt_39 hl rfl rfl (by decide) rfl (fun ls hl => ?_)
        refine lv_goto (tgt := 4) hx hb d_M_queuedAt_42 rfl ?_
        exact ih _ _ _ _ _ _  (lv_sub hl [2, 3, 1, 0] rfl) hW hS hf
      · replace hf := og_t hc hf
        refine lv_aload_n hx hb d_M_queuedAt_21 rfl (lv_at hl 0 rfl) ?_
        refine va_get (D := D) (ci := 3) (C := "GridlockDeskModel") (T := T_M) (N := 22) hx hb ht hin_M hown hK (hW.1.one (t := 0) rfl) 0 rfl rfl 10 (by decide) (ht _ tw_335) (fun _ h9 => h9) rfl d_M_queuedAt_22 ?_
        refine lv_iload_n hx hb d_M_queuedAt_25 rfl (lv_at hl 3 rfl) ?_
        obtain ⟨hin2, hf⟩ := og_if hf
        refine va_iald (D := D) hx hb hK (hW.1.one (t := 6) rfl) 0 1 rfl rfl hin2 d_M_queuedAt_26 ?_
        refine lv_iload_n hx hb d_M_queuedAt_27 rfl (lv_at hl 1 rfl) ?_
        refine lv_icmp_ne (tgt := 37) hx hb d_M_queuedAt_28 rfl (fun hc => ?_) (fun hc => ?_)
        · replace hf := og_f hc hf
          refine lv_iload_n hx hb d_M_queuedAt_37 rfl (lv_at hl 2 rfl) ?_
          refine lv_istore_n (lv' := [(2, .int _), (0, .ref _), (1, .int _), (3, .int _)]) hx hb d_M_queuedAt_38 rfl hl (by decide) rfl (fun ls hl => ?_)
          refine lv_iinc (k := 3) (v := _ + 1) (lv' := [(3, .int _), (2, .int _), (0, .ref _), (1, .int _)]) hx hb d_M_queuedAt_39 hl rfl rfl (by decide) rfl (fun ls hl => ?_)
          refine lv_goto (tgt := 4) hx hb d_M_queuedAt_42 rfl ?_
          exact ih _ _ _ _ _ _  (lv_sub hl [2, 3, 1, 0] rfl) hW hS hf
        · replace hf := og_t hc hf
          refine lv_iload_n hx hb d_M_queuedAt_31 rfl (lv_at hl 2 rfl) ?_
          refine lv_iconst (v := 1) hx hb d_M_queuedAt_32 (by decide) ?_
          refine lv_iadd hx hb d_M_queuedAt_33 ?_
          refine lv_goto (tgt := 38) hx hb d_M_queuedAt_34 rfl ?_
          refine lv_istore_n (lv' := [(2, .int _), (0, .ref _), (1, .int _), (3, .int _)]) hx hb d_M_queuedAt_38 rfl hl (by decide) rfl (fun ls hl => ?_)
          refine lv_iinc (k := 3) (v := _ + 1) (lv' := [(3, .int _), (2, .int _), (0, .ref _), (1, .int _)]) hx hb d_M_queuedAt_39 hl rfl rfl (by decide) rfl (fun ls hl => ?_)
          refine lv_goto (tgt := 4) hx hb d_M_queuedAt_42 rfl ?_
          exact ih _ _ _ _ _ _  (lv_sub hl [2, 3, 1, 0] rfl) hW hS hf

set_option maxHeartbeats 4000000 in
set_option maxRecDepth 100000 in
theorem m_M_queuedAt (l : Launch) (D : va_G) (cA : Nat → ClassId) (ad : Nat → Nat → Nat) (n : Nat) (A : Nat → Prop) (σ : St) (x1 : Int32)  (out : Int32 × St) (hf : f_M_queuedAt n σ x1 = some out) : Met l y_M_queuedAt ws_M_queuedAt ({ frames := 0, cells := 0, slots := 0, locals := 0 }) (va_Pc [.ref (ad 0 0), .int x1] (fun U => MW D cA ad n A σ U.heap ∧ va_K D vCl (atys cA) U)) (va_Qi (fun r u => (r, u) = out) (fun u t => MW D cA ad n A u t.heap ∧ va_K D vCl (atys cA) t) A) 0 0 A := by
  refine Met.ofW (cc := prog_5_method_21_code) (maxL := 4) (ret := (some .int)) (by decide) rfl ?_
  intro p e s m args below meth c s₁ B hml hv
  obtain ⟨rfl, hW, hK⟩ := hv
  have hx := B.exec
  have hb := B.bytes
  have hr := B.returns
  have hts := atoms_spec (ws := ws_M_queuedAt) B.pre
  have ht : ∀ w ∈ TB, w.before _ s = true := fun w h => hts w (List.mem_cons_of_mem _ h)
  have hown : s.vm.findClass "GridlockDeskModel" = some m.cls := findClass_of_methodNamed B.named
  have hlocks := B.notSynchronized
  have hS : va_S A s.heap s.heap [] := va_S.rf
  have hl := lv_entry ([.ref (ad 0 0), .int x1]) (n := 4) (Nat.le_of_ble_eq_true rfl)
  rw [lg_entry_eq]
  generalize (lg_sl ([.ref (ad 0 0), .int x1]) ++ List.replicate (4 - (lg_sl ([.ref (ad 0 0), .int x1])).length) Slot.unset).toArray = ls at hl ⊢
  have hl : lv_has ls 4 [(0, .ref (ad 0 0)), (1, .int x1)] := hl
  unfold f_M_queuedAt at hf

  refine lv_iconst (v := 0) hx hb d_M_queuedAt_0 (by decide) ?_
  refine lv_istore_n (lv' := [(2, .int _), (0, .ref _), (1, .int _)]) hx hb d_M_queuedAt_1 rfl hl (by decide) rfl (fun ls hl => ?_)
  refine lv_iconst (v := 0) hx hb d_M_queuedAt_2 (by decide) ?_
  refine lv_istore_n (lv' := [(3, .int _), (2, .int _), (0, .ref _), (1, .int _)]) hx hb d_M_queuedAt_3 rfl hl (by decide) rfl (fun ls hl => ?_)
  refine lp_M_queuedAt_4_ok D cA ad n A hx hb hml hr hts hown hlocks hK _ _ _ (fun σ4 y2_3 H locs ls  hl hW hS hf => ?_) _ _ _ _ _ _ _  (lv_sub hl [2, 3, 1, 0] rfl) hW hS hf
  refine lv_iload_n hx hb d_M_queuedAt_45 rfl (lv_at hl 0 rfl) ?_
  exact W.iret hx hb hr (fun t ht hWm => ⟨⟨_, _, rfl, Option.some.inj hf, by rw [ht]; exact hW, va_K.moved hWm.alike hK⟩, hS.F ht⟩) hS.2.2 d_M_queuedAt_46

set_option maxHeartbeats 4000000 in
set_option maxRecDepth 100000 in
theorem m_M_pay (l : Launch) (D : va_G) (cA : Nat → ClassId) (ad : Nat → Nat → Nat) (n : Nat) (A : Nat → Prop) (σ : St) (x1 : Int32) (x2 : Int32) (x3 : Int64) (x4 : Int32) (x5 : Int32)  (out : Int32 × St) (hf : f_M_pay n σ x1 x2 x3 x4 x5 = some out) : Met l y_M_pay ws_M_pay ({ frames := 4, cells := 0, slots := 0, locals := 93 }) (va_Pc [.ref (ad 0 0), .int x1, .int x2, .long x3, .int x4, .int x5] (fun U => MW D cA ad n A σ U.heap ∧ va_K D vCl (atys cA) U)) (va_Qi (fun r u => (r, u) = out) (fun u t => MW D cA ad n A u t.heap ∧ va_K D vCl (atys cA) t) A) 0 0 A := by
  refine Met.ofW (cc := prog_5_method_22_code) (maxL := 9) (ret := (some .int)) (by decide) rfl ?_
  intro p e s m args below meth c s₁ B hml hv
  obtain ⟨rfl, hW, hK⟩ := hv
  have hx := B.exec
  have hb := B.bytes
  have hr := B.returns
  have hts := atoms_spec (ws := ws_M_pay) B.pre
  have ht : ∀ w ∈ TB, w.before _ s = true := fun w h => hts w (List.mem_cons_of_mem _ h)
  have hown : s.vm.findClass "GridlockDeskModel" = some m.cls := findClass_of_methodNamed B.named
  have hlocks := B.notSynchronized
  have hS : va_S A s.heap s.heap [] := va_S.rf
  have hl := lv_entry ([.ref (ad 0 0), .int x1, .int x2, .long x3, .int x4, .int x5]) (n := 9) (Nat.le_of_ble_eq_true rfl)
  rw [lg_entry_eq]
  generalize (lg_sl ([.ref (ad 0 0), .int x1, .int x2, .long x3, .int x4, .int x5]) ++ List.replicate (9 - (lg_sl ([.ref (ad 0 0), .int x1, .int x2, .long x3, .int x4, .int x5])).length) Slot.unset).toArray = ls at hl ⊢
  have hl : lv_has ls 9 [(0, .ref (ad 0 0)), (1, .int x1), (2, .int x2), (3, .long x3), (5, .int x4), (6, .int x5)] := hl
  unfold f_M_pay at hf

  refine lv_aload_n hx hb d_M_pay_0 rfl (lv_at hl 0 rfl) ?_
  refine lv_iload_n hx hb d_M_pay_1 rfl (lv_at hl 1 rfl) ?_
  obtain ⟨o1, ho1, hf⟩ := og_b hf
  refine kc_i (P := (fun u H => MW D cA ad n A u H)) (va_runV (C := "GridlockDeskModel") (As := [.int _]) (rest := []) ⟨hx, hb, hml, hown, hts⟩ (m_M_isBank l D cA ad n A _  _  o1 ho1) (cwV 1 hts (tb_V tw_447 tw_449 tw_27 tw_35 tw_450) rfl rfl rfl (by decide +kernel) ⟨Nat.le_of_ble_eq_true rfl, Nat.le_of_ble_eq_true rfl⟩) ⟨k_blind, kw.recv hK hW.1 (t := 0) rfl rfl rfl, k_pre hW hK⟩ rfl rfl hl.1 rfl (lv_room (Nat.le_of_ble_eq_true rfl)) d_M_pay_2 ⟨Nat.zero_le _, Nat.zero_le _⟩) hS (fun H locs hW hS => ?_)
  refine lv_if_eq (tgt := 59) hx hb d_M_pay_5 rfl (fun hc => ?_) (fun hc => ?_)
  · replace hf := og_t hc hf
    refine lv_iconst (v := 0) hx hb d_M_pay_59 (by decide) ?_
    refine lv_istore (lv' := [(7, .int _), (0, .ref _), (1, .int _), (2, .int _), (3, .long _), (5, .int _), (6, .int _)]) hx hb d_M_pay_60 hl (by decide) rfl (fun ls hl => ?_)
    refine lv_iload hx hb d_M_pay_62 (lv_at hl 0 rfl) ?_
    refine lv_if_ne (tgt := 69) hx hb d_M_pay_64 rfl (fun hc => absurd (by decide) hc) (fun _ => ?_)
    refine lv_iconst (v := (-1)) hx hb d_M_pay_67 (by decide) ?_
    exact W.iret hx hb hr (fun t ht hWm => ⟨⟨_, _, rfl, Option.some.inj hf, by rw [ht]; exact hW, va_K.moved hWm.alike hK⟩, hS.F ht⟩) hS.2.2 d_M_pay_68
  · replace hf := og_f hc hf
    refine lv_aload_n hx hb d_M_pay_8 rfl (lv_at hl 0 rfl) ?_
    refine lv_iload_n hx hb d_M_pay_9 rfl (lv_at hl 2 rfl) ?_
    obtain ⟨o2, ho2, hf⟩ := og_b hf
    refine kc_i (P := (fun u H => MW D cA ad n A u H)) (va_runV (C := "GridlockDeskModel") (As := [.int _]) (rest := []) ⟨hx, hb, hml, hown, hts⟩ (m_M_isBank l D cA ad n A _  _  o2 ho2) (cwV 1 hts (tb_V tw_447 tw_449 tw_27 tw_35 tw_450) rfl rfl rfl (by decide +kernel) ⟨Nat.le_of_ble_eq_true rfl, Nat.le_of_ble_eq_true rfl⟩) ⟨k_blind, kw.recv hK hW.1 (t := 0) rfl rfl rfl, k_pre hW hK⟩ rfl rfl hl.1 rfl (lv_room (Nat.le_of_ble_eq_true rfl)) d_M_pay_10 ⟨Nat.zero_le _, Nat.zero_le _⟩) hS (fun H locs hW hS => ?_)
    refine lv_if_eq (tgt := 59) hx hb d_M_pay_13 rfl (fun hc => ?_) (fun hc => ?_)
    · replace hf := og_t hc hf
      refine lv_iconst (v := 0) hx hb d_M_pay_59 (by decide) ?_
      refine lv_istore (lv' := [(7, .int _), (0, .ref _), (1, .int _), (2, .int _), (3, .long _), (5, .int _), (6, .int _)]) hx hb d_M_pay_60 hl (by decide) rfl (fun ls hl => ?_)
      refine lv_iload hx hb d_M_pay_62 (lv_at hl 0 rfl) ?_
      refine lv_if_ne (tgt := 69) hx hb d_M_pay_64 rfl (fun hc => absurd (by decide) hc) (fun _ => ?_)
      refine lv_iconst (v := (-1)) hx hb d_M_pay_67 (by decide) ?_
      exact W.iret hx hb hr (fun t ht hWm => ⟨⟨_, _, rfl, Option.some.inj hf, by rw [ht]; exact hW, va_K.moved hWm.alike hK⟩, hS.F ht⟩) hS.2.2 d_M_pay_68
    · replace hf := og_f hc hf
      refine lv_iload_n hx hb d_M_pay_16 rfl (lv_at hl 1 rfl) ?_
      refine lv_iload_n hx hb d_M_pay_17 rfl (lv_at hl 2 rfl) ?_
      refine lv_icmp_eq (tgt := 59) hx hb d_M_pay_18 rfl (fun hc => ?_) (fun hc => ?_)
      · replace hf := og_t hc hf
        refine lv_iconst (v := 0) hx hb d_M_pay_59 (by decide) ?_
        refine lv_istore (lv' := [(7, .int _), (0, .ref _), (1, .int _), (2, .int _), (3, .long _), (5, .int _), (6, .int _)]) hx hb d_M_pay_60 hl (by decide) rfl (fun ls hl => ?_)
        refine lv_iload hx hb d_M_pay_62 (lv_at hl 0 rfl) ?_
        refine lv_if_ne (tgt := 69) hx hb d_M_pay_64 rfl (fun hc => absurd (by decide) hc) (fun _ => ?_)
        refine lv_iconst (v := (-1)) hx hb d_M_pay_67 (by decide) ?_
        exact W.iret hx hb hr (fun t ht hWm => ⟨⟨_, _, rfl, Option.some.inj hf, by rw [ht]; exact hW, va_K.moved hWm.alike hK⟩, hS.F ht⟩) hS.2.2 d_M_pay_68
      · replace hf := og_f hc hf
        refine lv_lload_n hx hb d_M_pay_21 rfl (lv_at hl 3 rfl) ?_
        refine lv_lconst (v := 1) hx hb d_M_pay_22 (by decide) ?_
        refine lc_lt (tgt := 59) hx hb d_M_pay_23 d_M_pay_24 rfl (fun hc => ?_) (fun hc => ?_)
        · replace hf := og_t hc hf
          refine lv_iconst (v := 0) hx hb d_M_pay_59 (by decide) ?_
          refine lv_istore (lv' := [(7, .int _), (0, .ref _), (1, .int _), (2, .int _), (3, .long _), (5, .int _), (6, .int _)]) hx hb d_M_pay_60 hl (by decide) rfl (fun ls hl => ?_)
          refine lv_iload hx hb d_M_pay_62 (lv_at hl 0 rfl) ?_
          refine lv_if_ne (tgt := 69) hx hb d_M_pay_64 rfl (fun hc => absurd (by decide) hc) (fun _ => ?_)
          refine lv_iconst (v := (-1)) hx hb d_M_pay_67 (by decide) ?_
          exact W.iret hx hb hr (fun t ht hWm => ⟨⟨_, _, rfl, Option.some.inj hf, by rw [ht]; exact hW, va_K.moved hWm.alike hK⟩, hS.F ht⟩) hS.2.2 d_M_pay_68
        · replace hf := og_f hc hf
          refine lv_lload_n hx hb d_M_pay_27 rfl (lv_at hl 3 rfl) ?_
          refine lv_ldc2 (v := 1000000000000) hx hb hown (ht _ tw_452) d_M_pay_28 ?_
          refine lc_gt (tgt := 59) hx hb d_M_pay_31 d_M_pay_32 rfl (fun hc => ?_) (fun hc => ?_)
          · replace hf := og_t hc hf
            refine lv_iconst (v := 0) hx hb d_M_pay_59 (by decide) ?_
            refine lv_istore (lv' := [(7, .int _), (0, .ref _), (1, .int _), (2, .int _), (3, .long _), (5, .int _), (6, .int _)]) hx hb d_M_pay_60 hl (by decide) rfl (fun ls hl => ?_)
            refine lv_iload hx hb d_M_pay_62 (lv_at hl 0 rfl) ?_
            refine lv_if_ne (tgt := 69) hx hb d_M_pay_64 rfl (fun hc => absurd (by decide) hc) (fun _ => ?_)
            refine lv_iconst (v := (-1)) hx hb d_M_pay_67 (by decide) ?_
            exact W.iret hx hb hr (fun t ht hWm => ⟨⟨_, _, rfl, Option.some.inj hf, by rw [ht]; exact hW, va_K.moved hWm.alike hK⟩, hS.F ht⟩) hS.2.2 d_M_pay_68
          · replace hf := og_f hc hf
            refine lv_iload hx hb d_M_pay_35 (lv_at hl 4 rfl) ?_
            refine lv_if_lt (tgt := 59) hx hb d_M_pay_37 rfl (fun hc => ?_) (fun hc => ?_)
            · replace hf := og_t hc hf
              refine lv_iconst (v := 0) hx hb d_M_pay_59 (by decide) ?_
              refine lv_istore (lv' := [(7, .int _), (0, .ref _), (1, .int _), (2, .int _), (3, .long _), (5, .int _), (6, .int _)]) hx hb d_M_pay_60 hl (by decide) rfl (fun ls hl => ?_)
              refine lv_iload hx hb d_M_pay_62 (lv_at hl 0 rfl) ?_
              refine lv_if_ne (tgt := 69) hx hb d_M_pay_64 rfl (fun hc => absurd (by decide) hc) (fun _ => ?_)
              refine lv_iconst (v := (-1)) hx hb d_M_pay_67 (by decide) ?_
              exact W.iret hx hb hr (fun t ht hWm => ⟨⟨_, _, rfl, Option.some.inj hf, by rw [ht]; exact hW, va_K.moved hWm.alike hK⟩, hS.F ht⟩) hS.2.2 d_M_pay_68
            · replace hf := og_f hc hf
              refine lv_iload hx hb d_M_pay_40 (lv_at hl 4 rfl) ?_
              refine lv_iconst (v := 3) hx hb d_M_pay_42 (by decide) ?_
              refine lv_icmp_gt (tgt := 59) hx hb d_M_pay_43 rfl (fun hc => ?_) (fun hc => ?_)
              · replace hf := og_t hc hf
                refine lv_iconst (v := 0) hx hb d_M_pay_59 (by decide) ?_
                refine lv_istore (lv' := [(7, .int _), (0, .ref _), (1, .int _), (2, .int _), (3, .long _), (5, .int _), (6, .int _)]) hx hb d_M_pay_60 hl (by decide) rfl (fun ls hl => ?_)
                refine lv_iload hx hb d_M_pay_62 (lv_at hl 0 rfl) ?_
                refine lv_if_ne (tgt := 69) hx hb d_M_pay_64 rfl (fun hc => absurd (by decide) hc) (fun _ => ?_)
                refine lv_iconst (v := (-1)) hx hb d_M_pay_67 (by decide) ?_
                exact W.iret hx hb hr (fun t ht hWm => ⟨⟨_, _, rfl, Option.some.inj hf, by rw [ht]; exact hW, va_K.moved hWm.alike hK⟩, hS.F ht⟩) hS.2.2 d_M_pay_68
              · replace hf := og_f hc hf
                refine lv_iload hx hb d_M_pay_46 (lv_at hl 5 rfl) ?_
                refine lv_aload_n hx hb d_M_pay_48 rfl (lv_at hl 0 rfl) ?_
                refine va_get (D := D) (ci := 3) (C := "GridlockDeskModel") (T := T_M) (N := 22) hx hb ht hin_M hown hK (hW.1.one (t := 0) rfl) 0 rfl rfl 1 (by decide) (ht _ tw_326) (fun _ h9 => h9) rfl d_M_pay_49 ?_
                refine lv_icmp_lt (tgt := 59) hx hb d_M_pay_52 rfl (fun hc => ?_) (fun hc => ?_)
                · replace hf := og_t hc hf
                  refine lv_iconst (v := 0) hx hb d_M_pay_59 (by decide) ?_
                  refine lv_istore (lv' := [(7, .int _), (0, .ref _), (1, .int _), (2, .int _), (3, .long _), (5, .int _), (6, .int _)]) hx hb d_M_pay_60 hl (by decide) rfl (fun ls hl => ?_)
                  refine lv_iload hx hb d_M_pay_62 (lv_at hl 0 rfl) ?_
                  refine lv_if_ne (tgt := 69) hx hb d_M_pay_64 rfl (fun hc => absurd (by decide) hc) (fun _ => ?_)
                  refine lv_iconst (v := (-1)) hx hb d_M_pay_67 (by decide) ?_
                  exact W.iret hx hb hr (fun t ht hWm => ⟨⟨_, _, rfl, Option.some.inj hf, by rw [ht]; exact hW, va_K.moved hWm.alike hK⟩, hS.F ht⟩) hS.2.2 d_M_pay_68
                · replace hf := og_f hc hf
                  refine lv_iconst (v := 1) hx hb d_M_pay_55 (by decide) ?_
                  refine lv_goto (tgt := 60) hx hb d_M_pay_56 rfl ?_
                  refine lv_istore (lv' := [(7, .int _), (0, .ref _), (1, .int _), (2, .int _), (3, .long _), (5, .int _), (6, .int _)]) hx hb d_M_pay_60 hl (by decide) rfl (fun ls hl => ?_)
                  refine lv_iload hx hb d_M_pay_62 (lv_at hl 0 rfl) ?_
                  refine lv_if_ne (tgt := 69) hx hb d_M_pay_64 rfl (fun _ => ?_) (fun hc => absurd hc (by decide))
                  refine lv_aload_n hx hb d_M_pay_69 rfl (lv_at hl 1 rfl) ?_
                  refine va_get (D := D) (ci := 3) (C := "GridlockDeskModel") (T := T_M) (N := 22) hx hb ht hin_M hown hK (hW.1.one (t := 0) rfl) 0 rfl rfl 8 (by decide) (ht _ tw_333) (fun _ h9 => h9) rfl d_M_pay_70 ?_
                  refine lv_bipush (v := 100) hx hb d_M_pay_73 (by decide) ?_
                  refine lv_icmp_lt (tgt := 81) hx hb d_M_pay_75 rfl (fun hc => ?_) (fun hc => ?_)
                  · replace hf := og_t hc hf
                    refine lv_aload_n hx hb d_M_pay_81 rfl (lv_at hl 1 rfl) ?_
                    refine lv_iload_n hx hb d_M_pay_82 rfl (lv_at hl 2 rfl) ?_
                    obtain ⟨o3, ho3, hf⟩ := og_b hf
                    refine kc_i (P := (fun u H => MW D cA ad n A u H)) (va_runV (C := "GridlockDeskModel") (As := [.int _]) (rest := []) ⟨hx, hb, hml, hown, hts⟩ (m_M_queuedAt l D cA ad n A _  _  o3 ho3) (cwV 1 hts (tb_V tw_470 tw_472 tw_28 tw_35 tw_473) rfl rfl rfl (by decide +kernel) ⟨Nat.le_of_ble_eq_true rfl, Nat.le_of_ble_eq_true rfl⟩) ⟨k_blind, kw.recv hK hW.1 (t := 0) rfl rfl rfl, k_pre hW hK⟩ rfl rfl hl.1 rfl (lv_room (Nat.le_of_ble_eq_true rfl)) d_M_pay_83 ⟨Nat.zero_le _, Nat.zero_le _⟩) hS (fun H locs hW hS => ?_)
                    refine lv_bipush (v := 6) hx hb d_M_pay_86 (by decide) ?_
                    refine lv_icmp_lt (tgt := 94) hx hb d_M_pay_88 rfl (fun hc => ?_) (fun hc => ?_)
                    · replace hf := og_t hc hf
                      refine lv_aload_n hx hb d_M_pay_94 rfl (lv_at hl 1 rfl) ?_
                      refine va_get (D := D) (ci := 3) (C := "GridlockDeskModel") (T := T_M) (N := 22) hx hb ht hin_M hown hK (hW.1.one (t := 0) rfl) 0 rfl rfl 8 (by decide) (ht _ tw_333) (fun _ h9 => h9) rfl d_M_pay_95 ?_
                      refine lv_istore (lv' := [(8, .int _), (7, .int _), (0, .ref _), (1, .int _), (2, .int _), (3, .long _), (5, .int _), (6, .int _)]) hx hb d_M_pay_98 hl (by decide) rfl (fun ls hl => ?_)
                      refine lv_aload_n hx hb d_M_pay_100 rfl (lv_at hl 2 rfl) ?_
                      refine va_get (D := D) (ci := 3) (C := "GridlockDeskModel") (T := T_M) (N := 22) hx hb ht hin_M hown hK (hW.1.one (t := 0) rfl) 0 rfl rfl 10 (by decide) (ht _ tw_335) (fun _ h9 => h9) rfl d_M_pay_101 ?_
                      refine lv_iload hx hb d_M_pay_104 (lv_at hl 0 rfl) ?_
                      refine lv_iload_n hx hb d_M_pay_106 rfl (lv_at hl 3 rfl) ?_
                      obtain ⟨hin4, hf⟩ := og_if hf
                      obtain ⟨σ5, eσ5, hf⟩ := og_b hf
                      cases eσ5
                      refine k_iast  (t := 6) hx hb hK hW.1 hS rfl (hW.2 _ _ rfl) 1 rfl rfl hin4 d_M_pay_107 mm_wI4 (fun H locs hW1 hS => ?_)
                      have hW := MW.wI hW1 hW.2
                      refine lv_aload_n hx hb d_M_pay_108 rfl (lv_at hl 2 rfl) ?_
                      refine va_get (D := D) (ci := 3) (C := "GridlockDeskModel") (T := T_M) (N := 22) hx hb ht hin_M hown hK (hW.1.one (t := 0) rfl) 0 rfl rfl 11 (by decide) (ht _ tw_336) (fun _ h9 => h9) rfl d_M_pay_109 ?_
                      refine lv_iload hx hb d_M_pay_112 (lv_at hl 0 rfl) ?_
                      refine lv_iload_n hx hb d_M_pay_114 rfl (lv_at hl 4 rfl) ?_
                      obtain ⟨hin6, hf⟩ := og_if hf
                      obtain ⟨σ7, eσ7, hf⟩ := og_b hf
                      cases eσ7
                      refine k_iast  (t := 7) hx hb hK hW.1 hS rfl (hW.2 _ _ rfl) 1 rfl rfl hin6 d_M_pay_115 mm_wI5 (fun H locs hW1 hS => ?_)
                      have hW := MW.wI hW1 hW.2
                      refine lv_aload_n hx hb d_M_pay_116 rfl (lv_at hl 2 rfl) ?_
                      refine va_get (D := D) (ci := 3) (C := "GridlockDeskModel") (T := T_M) (N := 22) hx hb ht hin_M hown hK (hW.1.one (t := 0) rfl) 0 rfl rfl 12 (by decide) (ht _ tw_337) (fun _ h9 => h9) rfl d_M_pay_117 ?_
                      refine lv_iload hx hb d_M_pay_120 (lv_at hl 0 rfl) ?_
                      refine lv_lload_n hx hb d_M_pay_122 rfl (lv_at hl 5 rfl) ?_
                      obtain ⟨hin8, hf⟩ := og_if hf
                      obtain ⟨σ9, eσ9, hf⟩ := og_b hf
                      cases eσ9
                      refine k_last  (t := 8) hx hb hK hW.1 hS rfl (hW.2 _ _ rfl) 0 rfl rfl hin8 d_M_pay_123 mm_wL6 (fun H locs hW1 hS => ?_)
                      have hW := MW.wL hW1 hW.2
                      refine lv_aload_n hx hb d_M_pay_124 rfl (lv_at hl 2 rfl) ?_
                      refine va_get (D := D) (ci := 3) (C := "GridlockDeskModel") (T := T_M) (N := 22) hx hb ht hin_M hown hK (hW.1.one (t := 0) rfl) 0 rfl rfl 13 (by decide) (ht _ tw_338) (fun _ h9 => h9) rfl d_M_pay_125 ?_
                      refine lv_iload hx hb d_M_pay_128 (lv_at hl 0 rfl) ?_
                      refine lv_iload hx hb d_M_pay_130 (lv_at hl 6 rfl) ?_
                      obtain ⟨hin10, hf⟩ := og_if hf
                      obtain ⟨σ11, eσ11, hf⟩ := og_b hf
                      cases eσ11
                      refine k_iast  (t := 9) hx hb hK hW.1 hS rfl (hW.2 _ _ rfl) 1 rfl rfl hin10 d_M_pay_132 mm_wI6 (fun H locs hW1 hS => ?_)
                      have hW := MW.wI hW1 hW.2
                      refine lv_aload_n hx hb d_M_pay_133 rfl (lv_at hl 2 rfl) ?_
                      refine va_get (D := D) (ci := 3) (C := "GridlockDeskModel") (T := T_M) (N := 22) hx hb ht hin_M hown hK (hW.1.one (t := 0) rfl) 0 rfl rfl 14 (by decide) (ht _ tw_339) (fun _ h9 => h9) rfl d_M_pay_134 ?_
                      refine lv_iload hx hb d_M_pay_137 (lv_at hl 0 rfl) ?_
                      refine lv_iload hx hb d_M_pay_139 (lv_at hl 7 rfl) ?_
                      obtain ⟨hin12, hf⟩ := og_if hf
                      obtain ⟨σ13, eσ13, hf⟩ := og_b hf
                      cases eσ13
                      refine k_iast  (t := 10) hx hb hK hW.1 hS rfl (hW.2 _ _ rfl) 1 rfl rfl hin12 d_M_pay_141 mm_wI7 (fun H locs hW1 hS => ?_)
                      have hW := MW.wI hW1 hW.2
                      refine lv_aload_n hx hb d_M_pay_142 rfl (lv_at hl 2 rfl) ?_
                      refine lv_dup hx hb d_M_pay_143 rfl ?_
                      refine va_get (D := D) (ci := 3) (C := "GridlockDeskModel") (T := T_M) (N := 22) hx hb ht hin_M hown hK (hW.1.one (t := 0) rfl) 0 rfl rfl 9 (by decide) (ht _ tw_334) (fun _ h9 => h9) rfl d_M_pay_144 ?_
                      refine lv_iconst (v := 1) hx hb d_M_pay_147 (by decide) ?_
                      refine lv_iadd hx hb d_M_pay_148 ?_
                      obtain ⟨σ14, eσ14, hf⟩ := og_b hf
                      cases eσ14
                      refine k_put  (ci := 3) (C := "GridlockDeskModel") (T := T_M) (N := 22) (ty := .int) (t := 0) hx hb ht hin_M ft_M ft_M_ok nm_M hown hK hW.1 hS rfl (hW.2 _ _ rfl) rfl rfl 9 (by decide) (ht _ tw_334) (fun _ h9 => h9) rfl (by decide +kernel) rfl rfl (Nat.le_of_ble_eq_true rfl) d_M_pay_149 mm_wI3 (fun H locs hW1 hS => ?_)
                      have hW := MW.wI hW1 hW.2
                      refine lv_aload_n hx hb d_M_pay_152 rfl (lv_at hl 2 rfl) ?_
                      refine va_get (D := D) (ci := 3) (C := "GridlockDeskModel") (T := T_M) (N := 22) hx hb ht hin_M hown hK (hW.1.one (t := 0) rfl) 0 rfl rfl 15 (by decide) (ht _ tw_340) (fun _ h9 => h9) rfl d_M_pay_153 ?_
                      refine lv_iload hx hb d_M_pay_156 (lv_at hl 0 rfl) ?_
                      refine lv_aload_n hx hb d_M_pay_158 rfl (lv_at hl 2 rfl) ?_
                      refine va_get (D := D) (ci := 3) (C := "GridlockDeskModel") (T := T_M) (N := 22) hx hb ht hin_M hown hK (hW.1.one (t := 0) rfl) 0 rfl rfl 9 (by decide) (ht _ tw_334) (fun _ h9 => h9) rfl d_M_pay_159 ?_
                      obtain ⟨hin15, hf⟩ := og_if hf
                      obtain ⟨σ16, eσ16, hf⟩ := og_b hf
                      cases eσ16
                      refine k_iast  (t := 11) hx hb hK hW.1 hS rfl (hW.2 _ _ rfl) 1 rfl rfl hin15 d_M_pay_162 mm_wI8 (fun H locs hW1 hS => ?_)
                      have hW := MW.wI hW1 hW.2
                      refine lv_aload_n hx hb d_M_pay_163 rfl (lv_at hl 2 rfl) ?_
                      refine va_get (D := D) (ci := 3) (C := "GridlockDeskModel") (T := T_M) (N := 22) hx hb ht hin_M hown hK (hW.1.one (t := 0) rfl) 0 rfl rfl 16 (by decide) (ht _ tw_341) (fun _ h9 => h9) rfl d_M_pay_164 ?_
                      refine lv_iload hx hb d_M_pay_167 (lv_at hl 0 rfl) ?_
                      refine lv_iconst (v := 0) hx hb d_M_pay_169 (by decide) ?_
                      obtain ⟨hin17, hf⟩ := og_if hf
                      obtain ⟨σ18, eσ18, hf⟩ := og_b hf
                      cases eσ18
                      refine k_iast  (t := 12) hx hb hK hW.1 hS rfl (hW.2 _ _ rfl) 1 rfl rfl hin17 d_M_pay_170 mm_wI9 (fun H locs hW1 hS => ?_)
                      have hW := MW.wI hW1 hW.2
                      refine lv_aload_n hx hb d_M_pay_171 rfl (lv_at hl 2 rfl) ?_
                      refine lv_dup hx hb d_M_pay_172 rfl ?_
                      refine va_get (D := D) (ci := 3) (C := "GridlockDeskModel") (T := T_M) (N := 22) hx hb ht hin_M hown hK (hW.1.one (t := 0) rfl) 0 rfl rfl 8 (by decide) (ht _ tw_333) (fun _ h9 => h9) rfl d_M_pay_173 ?_
                      refine lv_iconst (v := 1) hx hb d_M_pay_176 (by decide) ?_
                      refine lv_iadd hx hb d_M_pay_177 ?_
                      obtain ⟨σ19, eσ19, hf⟩ := og_b hf
                      cases eσ19
                      refine k_put  (ci := 3) (C := "GridlockDeskModel") (T := T_M) (N := 22) (ty := .int) (t := 0) hx hb ht hin_M ft_M ft_M_ok nm_M hown hK hW.1 hS rfl (hW.2 _ _ rfl) rfl rfl 8 (by decide) (ht _ tw_333) (fun _ h9 => h9) rfl (by decide +kernel) rfl rfl (Nat.le_of_ble_eq_true rfl) d_M_pay_178 mm_wI2 (fun H locs hW1 hS => ?_)
                      have hW := MW.wI hW1 hW.2
                      refine lv_aload_n hx hb d_M_pay_181 rfl (lv_at hl 2 rfl) ?_
                      obtain ⟨o20, ho20, hf⟩ := og_b hf
                      refine kc_v (P := (fun u H => MW D cA ad n A u H)) (va_runV (C := "GridlockDeskModel") (As := []) (rest := []) ⟨hx, hb, hml, hown, hts⟩ (m_M_sweep l D cA ad n A _    o20 ho20) (cwV 0 hts (tb_V tw_427 tw_429 tw_23 tw_35 tw_430) rfl rfl rfl (by decide +kernel) ⟨Nat.le_of_ble_eq_true rfl, Nat.le_of_ble_eq_true rfl⟩) ⟨k_blind, kw.recv hK hW.1 (t := 0) rfl rfl rfl, k_pre hW hK⟩ rfl rfl hl.1 rfl (lv_room (Nat.le_of_ble_eq_true rfl)) d_M_pay_182 ⟨Nat.zero_le _, Nat.zero_le _⟩) hS (fun H locs hW hS => ?_)
                      refine lv_iload hx hb d_M_pay_185 (lv_at hl 0 rfl) ?_
                      exact W.iret hx hb hr (fun t ht hWm => ⟨⟨_, _, rfl, Option.some.inj hf, by rw [ht]; exact hW, va_K.moved hWm.alike hK⟩, hS.F ht⟩) hS.2.2 d_M_pay_187
                    · replace hf := og_f hc hf
                      refine lv_bipush (v := (-2)) hx hb d_M_pay_91 (by decide) ?_
                      exact W.iret hx hb hr (fun t ht hWm => ⟨⟨_, _, rfl, Option.some.inj hf, by rw [ht]; exact hW, va_K.moved hWm.alike hK⟩, hS.F ht⟩) hS.2.2 d_M_pay_93
                  · replace hf := og_f hc hf
                    refine lv_bipush (v := (-3)) hx hb d_M_pay_78 (by decide) ?_
                    exact W.iret hx hb hr (fun t ht hWm => ⟨⟨_, _, rfl, Option.some.inj hf, by rw [ht]; exact hW, va_K.moved hWm.alike hK⟩, hS.F ht⟩) hS.2.2 d_M_pay_80

set_option maxHeartbeats 4000000 in
set_option maxRecDepth 100000 in
theorem m_M_cancel (l : Launch) (D : va_G) (cA : Nat → ClassId) (ad : Nat → Nat → Nat) (n : Nat) (A : Nat → Prop) (σ : St) (x1 : Int32)  (out : Int32 × St) (hf : f_M_cancel n σ x1 = some out) : Met l y_M_cancel ws_M_cancel ({ frames := 4, cells := 0, slots := 0, locals := 93 }) (va_Pc [.ref (ad 0 0), .int x1] (fun U => MW D cA ad n A σ U.heap ∧ va_K D vCl (atys cA) U)) (va_Qi (fun r u => (r, u) = out) (fun u t => MW D cA ad n A u t.heap ∧ va_K D vCl (atys cA) t) A) 0 0 A := by
  refine Met.ofW (cc := prog_5_method_23_code) (maxL := 2) (ret := (some .boolean)) (by decide) rfl ?_
  intro p e s m args below meth c s₁ B hml hv
  obtain ⟨rfl, hW, hK⟩ := hv
  have hx := B.exec
  have hb := B.bytes
  have hr := B.returns
  have hts := atoms_spec (ws := ws_M_cancel) B.pre
  have ht : ∀ w ∈ TB, w.before _ s = true := fun w h => hts w (List.mem_cons_of_mem _ h)
  have hown : s.vm.findClass "GridlockDeskModel" = some m.cls := findClass_of_methodNamed B.named
  have hlocks := B.notSynchronized
  have hS : va_S A s.heap s.heap [] := va_S.rf
  have hl := lv_entry ([.ref (ad 0 0), .int x1]) (n := 2) (Nat.le_of_ble_eq_true rfl)
  rw [lg_entry_eq]
  generalize (lg_sl ([.ref (ad 0 0), .int x1]) ++ List.replicate (2 - (lg_sl ([.ref (ad 0 0), .int x1])).length) Slot.unset).toArray = ls at hl ⊢
  have hl : lv_has ls 2 [(0, .ref (ad 0 0)), (1, .int x1)] := hl
  unfold f_M_cancel at hf

  refine lv_aload_n hx hb d_M_cancel_0 rfl (lv_at hl 0 rfl) ?_
  refine lv_iload_n hx hb d_M_cancel_1 rfl (lv_at hl 1 rfl) ?_
  obtain ⟨o1, ho1, hf⟩ := og_b hf
  refine kc_i (P := (fun u H => MW D cA ad n A u H)) (va_runV (C := "GridlockDeskModel") (As := [.int _]) (rest := []) ⟨hx, hb, hml, hown, hts⟩ (m_M_isQueued l D cA ad n A _  _  o1 ho1) (cwV 1 hts (tb_V tw_478 tw_480 tw_29 tw_35 tw_481) rfl rfl rfl (by decide +kernel) ⟨Nat.le_of_ble_eq_true rfl, Nat.le_of_ble_eq_true rfl⟩) ⟨k_blind, kw.recv hK hW.1 (t := 0) rfl rfl rfl, k_pre hW hK⟩ rfl rfl hl.1 rfl (lv_room (Nat.le_of_ble_eq_true rfl)) d_M_cancel_2 ⟨Nat.zero_le _, Nat.zero_le _⟩) hS (fun H locs hW hS => ?_)
  refine lv_if_ne (tgt := 10) hx hb d_M_cancel_5 rfl (fun hc => ?_) (fun hc => ?_)
  · replace hf := og_f hc hf
    refine lv_aload_n hx hb d_M_cancel_10 rfl (lv_at hl 0 rfl) ?_
    refine va_get (D := D) (ci := 3) (C := "GridlockDeskModel") (T := T_M) (N := 22) hx hb ht hin_M hown hK (hW.1.one (t := 0) rfl) 0 rfl rfl 16 (by decide) (ht _ tw_341) (fun _ h9 => h9) rfl d_M_cancel_11 ?_
    refine lv_iload_n hx hb d_M_cancel_14 rfl (lv_at hl 1 rfl) ?_
    refine lv_iconst (v := 4) hx hb d_M_cancel_15 (by decide) ?_
    obtain ⟨hin2, hf⟩ := og_if hf
    obtain ⟨σ3, eσ3, hf⟩ := og_b hf
    cases eσ3
    refine k_iast  (t := 12) hx hb hK hW.1 hS rfl (hW.2 _ _ rfl) 1 rfl rfl hin2 d_M_cancel_16 mm_wI9 (fun H locs hW1 hS => ?_)
    have hW := MW.wI hW1 hW.2
    refine lv_aload_n hx hb d_M_cancel_17 rfl (lv_at hl 0 rfl) ?_
    obtain ⟨o4, ho4, hf⟩ := og_b hf
    refine kc_v (P := (fun u H => MW D cA ad n A u H)) (va_runV (C := "GridlockDeskModel") (As := []) (rest := []) ⟨hx, hb, hml, hown, hts⟩ (m_M_sweep l D cA ad n A _    o4 ho4) (cwV 0 hts (tb_V tw_427 tw_429 tw_23 tw_35 tw_430) rfl rfl rfl (by decide +kernel) ⟨Nat.le_of_ble_eq_true rfl, Nat.le_of_ble_eq_true rfl⟩) ⟨k_blind, kw.recv hK hW.1 (t := 0) rfl rfl rfl, k_pre hW hK⟩ rfl rfl hl.1 rfl (lv_room (Nat.le_of_ble_eq_true rfl)) d_M_cancel_18 ⟨Nat.zero_le _, Nat.zero_le _⟩) hS (fun H locs hW hS => ?_)
    refine lv_iconst (v := 1) hx hb d_M_cancel_21 (by decide) ?_
    exact W.zret hx hb hr rfl (fun t ht hWm => ⟨⟨_, _, rfl, Option.some.inj hf, by rw [ht]; exact hW, va_K.moved hWm.alike hK⟩, hS.F ht⟩) hS.2.2 d_M_cancel_22
  · replace hf := og_t hc hf
    refine lv_iconst (v := 0) hx hb d_M_cancel_8 (by decide) ?_
    exact W.zret hx hb hr rfl (fun t ht hWm => ⟨⟨_, _, rfl, Option.some.inj hf, by rw [ht]; exact hW, va_K.moved hWm.alike hK⟩, hS.F ht⟩) hS.2.2 d_M_cancel_9

set_option maxHeartbeats 4000000 in
set_option maxRecDepth 100000 in
theorem m_M_urge (l : Launch) (D : va_G) (cA : Nat → ClassId) (ad : Nat → Nat → Nat) (n : Nat) (A : Nat → Prop) (σ : St) (x1 : Int32) (x2 : Int32)  (out : Int32 × St) (hf : f_M_urge n σ x1 x2 = some out) : Met l y_M_urge ws_M_urge ({ frames := 4, cells := 0, slots := 0, locals := 93 }) (va_Pc [.ref (ad 0 0), .int x1, .int x2] (fun U => MW D cA ad n A σ U.heap ∧ va_K D vCl (atys cA) U)) (va_Qi (fun r u => (r, u) = out) (fun u t => MW D cA ad n A u t.heap ∧ va_K D vCl (atys cA) t) A) 0 0 A := by
  refine Met.ofW (cc := prog_5_method_24_code) (maxL := 3) (ret := (some .boolean)) (by decide) rfl ?_
  intro p e s m args below meth c s₁ B hml hv
  obtain ⟨rfl, hW, hK⟩ := hv
  have hx := B.exec
  have hb := B.bytes
  have hr := B.returns
  have hts := atoms_spec (ws := ws_M_urge) B.pre
  have ht : ∀ w ∈ TB, w.before _ s = true := fun w h => hts w (List.mem_cons_of_mem _ h)
  have hown : s.vm.findClass "GridlockDeskModel" = some m.cls := findClass_of_methodNamed B.named
  have hlocks := B.notSynchronized
  have hS : va_S A s.heap s.heap [] := va_S.rf
  have hl := lv_entry ([.ref (ad 0 0), .int x1, .int x2]) (n := 3) (Nat.le_of_ble_eq_true rfl)
  rw [lg_entry_eq]
  generalize (lg_sl ([.ref (ad 0 0), .int x1, .int x2]) ++ List.replicate (3 - (lg_sl ([.ref (ad 0 0), .int x1, .int x2])).length) Slot.unset).toArray = ls at hl ⊢
  have hl : lv_has ls 3 [(0, .ref (ad 0 0)), (1, .int x1), (2, .int x2)] := hl
  unfold f_M_urge at hf

  refine lv_aload_n hx hb d_M_urge_0 rfl (lv_at hl 0 rfl) ?_
  refine lv_iload_n hx hb d_M_urge_1 rfl (lv_at hl 1 rfl) ?_
  obtain ⟨o1, ho1, hf⟩ := og_b hf
  refine kc_i (P := (fun u H => MW D cA ad n A u H)) (va_runV (C := "GridlockDeskModel") (As := [.int _]) (rest := []) ⟨hx, hb, hml, hown, hts⟩ (m_M_isQueued l D cA ad n A _  _  o1 ho1) (cwV 1 hts (tb_V tw_478 tw_480 tw_29 tw_35 tw_481) rfl rfl rfl (by decide +kernel) ⟨Nat.le_of_ble_eq_true rfl, Nat.le_of_ble_eq_true rfl⟩) ⟨k_blind, kw.recv hK hW.1 (t := 0) rfl rfl rfl, k_pre hW hK⟩ rfl rfl hl.1 rfl (lv_room (Nat.le_of_ble_eq_true rfl)) d_M_urge_2 ⟨Nat.zero_le _, Nat.zero_le _⟩) hS (fun H locs hW hS => ?_)
  refine lv_if_eq (tgt := 17) hx hb d_M_urge_5 rfl (fun hc => ?_) (fun hc => ?_)
  · replace hf := og_t hc hf
    refine lv_iconst (v := 0) hx hb d_M_urge_17 (by decide) ?_
    exact W.zret hx hb hr rfl (fun t ht hWm => ⟨⟨_, _, rfl, Option.some.inj hf, by rw [ht]; exact hW, va_K.moved hWm.alike hK⟩, hS.F ht⟩) hS.2.2 d_M_urge_18
  · replace hf := og_f hc hf
    refine lv_iload_n hx hb d_M_urge_8 rfl (lv_at hl 2 rfl) ?_
    refine lv_if_lt (tgt := 17) hx hb d_M_urge_9 rfl (fun hc => ?_) (fun hc => ?_)
    · replace hf := og_t hc hf
      refine lv_iconst (v := 0) hx hb d_M_urge_17 (by decide) ?_
      exact W.zret hx hb hr rfl (fun t ht hWm => ⟨⟨_, _, rfl, Option.some.inj hf, by rw [ht]; exact hW, va_K.moved hWm.alike hK⟩, hS.F ht⟩) hS.2.2 d_M_urge_18
    · replace hf := og_f hc hf
      refine lv_iload_n hx hb d_M_urge_12 rfl (lv_at hl 2 rfl) ?_
      refine lv_iconst (v := 3) hx hb d_M_urge_13 (by decide) ?_
      refine lv_icmp_le (tgt := 19) hx hb d_M_urge_14 rfl (fun hc => ?_) (fun hc => ?_)
      · replace hf := og_t hc hf
        refine lv_aload_n hx hb d_M_urge_19 rfl (lv_at hl 0 rfl) ?_
        refine va_get (D := D) (ci := 3) (C := "GridlockDeskModel") (T := T_M) (N := 22) hx hb ht hin_M hown hK (hW.1.one (t := 0) rfl) 0 rfl rfl 13 (by decide) (ht _ tw_338) (fun _ h9 => h9) rfl d_M_urge_20 ?_
        refine lv_iload_n hx hb d_M_urge_23 rfl (lv_at hl 1 rfl) ?_
        refine lv_iload_n hx hb d_M_urge_24 rfl (lv_at hl 2 rfl) ?_
        obtain ⟨hin2, hf⟩ := og_if hf
        obtain ⟨σ3, eσ3, hf⟩ := og_b hf
        cases eσ3
        refine k_iast  (t := 9) hx hb hK hW.1 hS rfl (hW.2 _ _ rfl) 1 rfl rfl hin2 d_M_urge_25 mm_wI6 (fun H locs hW1 hS => ?_)
        have hW := MW.wI hW1 hW.2
        refine lv_aload_n hx hb d_M_urge_26 rfl (lv_at hl 0 rfl) ?_
        refine lv_dup hx hb d_M_urge_27 rfl ?_
        refine va_get (D := D) (ci := 3) (C := "GridlockDeskModel") (T := T_M) (N := 22) hx hb ht hin_M hown hK (hW.1.one (t := 0) rfl) 0 rfl rfl 9 (by decide) (ht _ tw_334) (fun _ h9 => h9) rfl d_M_urge_28 ?_
        refine lv_iconst (v := 1) hx hb d_M_urge_31 (by decide) ?_
        refine lv_iadd hx hb d_M_urge_32 ?_
        obtain ⟨σ4, eσ4, hf⟩ := og_b hf
        cases eσ4
        refine k_put  (ci := 3) (C := "GridlockDeskModel") (T := T_M) (N := 22) (ty := .int) (t := 0) hx hb ht hin_M ft_M ft_M_ok nm_M hown hK hW.1 hS rfl (hW.2 _ _ rfl) rfl rfl 9 (by decide) (ht _ tw_334) (fun _ h9 => h9) rfl (by decide +kernel) rfl rfl (Nat.le_of_ble_eq_true rfl) d_M_urge_33 mm_wI3 (fun H locs hW1 hS => ?_)
        have hW := MW.wI hW1 hW.2
        refine lv_aload_n hx hb d_M_urge_36 rfl (lv_at hl 0 rfl) ?_
        refine va_get (D := D) (ci := 3) (C := "GridlockDeskModel") (T := T_M) (N := 22) hx hb ht hin_M hown hK (hW.1.one (t := 0) rfl) 0 rfl rfl 15 (by decide) (ht _ tw_340) (fun _ h9 => h9) rfl d_M_urge_37 ?_
        refine lv_iload_n hx hb d_M_urge_40 rfl (lv_at hl 1 rfl) ?_
        refine lv_aload_n hx hb d_M_urge_41 rfl (lv_at hl 0 rfl) ?_
        refine va_get (D := D) (ci := 3) (C := "GridlockDeskModel") (T := T_M) (N := 22) hx hb ht hin_M hown hK (hW.1.one (t := 0) rfl) 0 rfl rfl 9 (by decide) (ht _ tw_334) (fun _ h9 => h9) rfl d_M_urge_42 ?_
        obtain ⟨hin5, hf⟩ := og_if hf
        obtain ⟨σ6, eσ6, hf⟩ := og_b hf
        cases eσ6
        refine k_iast  (t := 11) hx hb hK hW.1 hS rfl (hW.2 _ _ rfl) 1 rfl rfl hin5 d_M_urge_45 mm_wI8 (fun H locs hW1 hS => ?_)
        have hW := MW.wI hW1 hW.2
        refine lv_aload_n hx hb d_M_urge_46 rfl (lv_at hl 0 rfl) ?_
        obtain ⟨o7, ho7, hf⟩ := og_b hf
        refine kc_v (P := (fun u H => MW D cA ad n A u H)) (va_runV (C := "GridlockDeskModel") (As := []) (rest := []) ⟨hx, hb, hml, hown, hts⟩ (m_M_sweep l D cA ad n A _    o7 ho7) (cwV 0 hts (tb_V tw_427 tw_429 tw_23 tw_35 tw_430) rfl rfl rfl (by decide +kernel) ⟨Nat.le_of_ble_eq_true rfl, Nat.le_of_ble_eq_true rfl⟩) ⟨k_blind, kw.recv hK hW.1 (t := 0) rfl rfl rfl, k_pre hW hK⟩ rfl rfl hl.1 rfl (lv_room (Nat.le_of_ble_eq_true rfl)) d_M_urge_47 ⟨Nat.zero_le _, Nat.zero_le _⟩) hS (fun H locs hW hS => ?_)
        refine lv_iconst (v := 1) hx hb d_M_urge_50 (by decide) ?_
        exact W.zret hx hb hr rfl (fun t ht hWm => ⟨⟨_, _, rfl, Option.some.inj hf, by rw [ht]; exact hW, va_K.moved hWm.alike hK⟩, hS.F ht⟩) hS.2.2 d_M_urge_51
      · replace hf := og_f hc hf
        refine lv_iconst (v := 0) hx hb d_M_urge_17 (by decide) ?_
        exact W.zret hx hb hr rfl (fun t ht hWm => ⟨⟨_, _, rfl, Option.some.inj hf, by rw [ht]; exact hW, va_K.moved hWm.alike hK⟩, hS.F ht⟩) hS.2.2 d_M_urge_18

set_option maxHeartbeats 4000000 in
set_option maxRecDepth 100000 in
theorem lp_M_tick_28_ok {p : Program} {l : Launch} {e : Env} {s : State} {m : MethodId} {args : Array Value} {below : List Frame} {meth : Method} {c : Code} (D : va_G) (cA : Nat → ClassId) (ad : Nat → Nat → Nat) (n : Nat) (A : Nat → Prop) (hx : p.tables.exec = Jvm.exec) (hb : c.code = prog_5_method_25_code) (hml : c.maxLocals = 4) (hr : meth.sig.returnType = (some .int)) (hts : ∀ w ∈ ws_M_tick, w.before args s = true) (hown : s.vm.findClass "GridlockDeskModel" = some m.cls) (hlocks : meth.locks = false) (hK : va_K D vCl (atys cA) s) (k : St → Int32 → Option (Int32 × St)) (out : Int32 × St)  (hk : ∀ (σ : St) (v2 : Int32) (H : Heap) (locs : List Loc) (ls : Array Slot), lv_has ls 4 [(0, .ref (ad 0 0)), (2, .int v2)] → MW D cA ad n A σ H → va_S A s.heap H locs → k σ v2 = some out → W p l e (headSpec ws_M_tick ({ frames := 4, cells := 0, slots := 0, locals := 93 })).room s m args below meth c H locs 0 0 (MQ below (va_Qi (fun r u => (r, u) = out) (fun u t => MW D cA ad n A u t.heap ∧ va_K D vCl (atys cA) t) A) args s 0 0 A) (F0 m 74 ls [])) : ∀ (fu : Nat) (σ : St) (v2 : Int32) (v3 : Int32) (H : Heap) (locs : List Loc) (ls : Array Slot), lv_has ls 4 [(0, .ref (ad 0 0)), (2, .int v2), (3, .int v3)] → MW D cA ad n A σ H → va_S A s.heap H locs → lp_M_tick_28 n k fu σ v2 v3 = some out → W p l e (headSpec ws_M_tick ({ frames := 4, cells := 0, slots := 0, locals := 93 })).room s m args below meth c H locs 0 0 (MQ below (va_Qi (fun r u => (r, u) = out) (fun u t => MW D cA ad n A u t.heap ∧ va_K D vCl (atys cA) t) A) args s 0 0 A) (F0 m 28 ls []) := by
  intro fu
  induction fu with
  | zero =>
    intro σ v2 v3 H locs ls  hl hW hS hf
    exact og_n hf
  | succ fu ih =>
    intro σ v2 v3 H locs ls  hl hW hS hf
    rw [lp_M_tick_28_s] at hf
    have ht : ∀ w ∈ TB, w.before args s = true := fun w h => hts w (List.mem_cons_of_mem _ h)
    refine lv_iload_n hx hb d_M_tick_28 rfl (lv_at hl 2 rfl) ?_
    refine lv_aload_n hx hb d_M_tick_29 rfl (lv_at hl 0 rfl) ?_
    refine va_get (D := D) (ci := 3) (C := "GridlockDeskModel") (T := T_M) (N := 22) hx hb ht hin_M hown hK (hW.1.one (t := 0) rfl) 0 rfl rfl 8 (by decide) (ht _ tw_333) (fun _ h9 => h9) rfl d_M_tick_30 ?_
    refine lv_icmp_ge (tgt := 74) hx hb d_M_tick_33 rfl (fun hc => ?_) (fun hc => ?_)
    · replace hf := og_t hc hf
      exact hk _ _ _ _ _  (lv_sub hl [0, 1] rfl) hW hS hf
    · replace hf := og_f hc hf
      refine lv_aload_n hx hb d_M_tick_36 rfl (lv_at hl 0 rfl) ?_
      refine va_get (D := D) (ci := 3) (C := "GridlockDeskModel") (T := T_M) (N := 22) hx hb ht hin_M hown hK (hW.1.one (t := 0) rfl) 0 rfl rfl 16 (by decide) (ht _ tw_341) (fun _ h9 => h9) rfl d_M_tick_37 ?_
      refine lv_iload_n hx hb d_M_tick_40 rfl (lv_at hl 2 rfl) ?_
      obtain ⟨hin2, hf⟩ := og_if hf
      refine va_iald (D := D) hx hb hK (hW.1.one (t := 12) rfl) 0 1 rfl rfl hin2 d_M_tick_41 ?_
      refine lv_if_ne (tgt := 68) hx hb d_M_tick_42 rfl (fun hc => ?_) (fun hc => ?_)
      · replace hf := og_f hc hf
        refine lv_iinc (k := 2) (v := _ + 1) (lv' := [(3, .int _), (0, .ref _), (2, .int _)]) hx hb d_M_tick_68 hl rfl rfl (by decide) rfl (fun ls hl => ?_)
        refine lv_goto (tgt := 28) hx hb d_M_tick_71 rfl ?_
        exact ih _ _ _ _ _ _  (lv_sub hl [1, 2, 0] rfl) hW hS hf
      · replace hf := og_t hc hf
        refine lv_aload_n hx hb d_M_tick_45 rfl (lv_at hl 0 rfl) ?_
        refine va_get (D := D) (ci := 3) (C := "GridlockDeskModel") (T := T_M) (N := 22) hx hb ht hin_M hown hK (hW.1.one (t := 0) rfl) 0 rfl rfl 14 (by decide) (ht _ tw_339) (fun _ h9 => h9) rfl d_M_tick_46 ?_
        refine lv_iload_n hx hb d_M_tick_49 rfl (lv_at hl 2 rfl) ?_
        obtain ⟨hin3, hf⟩ := og_if hf
        refine va_iald (D := D) hx hb hK (hW.1.one (t := 10) rfl) 0 1 rfl rfl hin3 d_M_tick_50 ?_
        refine lv_aload_n hx hb d_M_tick_51 rfl (lv_at hl 0 rfl) ?_
        refine va_get (D := D) (ci := 3) (C := "GridlockDeskModel") (T := T_M) (N := 22) hx hb ht hin_M hown hK (hW.1.one (t := 0) rfl) 0 rfl rfl 1 (by decide) (ht _ tw_326) (fun _ h9 => h9) rfl d_M_tick_52 ?_
        refine lv_icmp_ge (tgt := 68) hx hb d_M_tick_55 rfl (fun hc => ?_) (fun hc => ?_)
        · replace hf := og_t hc hf
          refine lv_iinc (k := 2) (v := _ + 1) (lv' := [(3, .int _), (0, .ref _), (2, .int _)]) hx hb d_M_tick_68 hl rfl rfl (by decide) rfl (fun ls hl => ?_)
          refine lv_goto (tgt := 28) hx hb d_M_tick_71 rfl ?_
          exact ih _ _ _ _ _ _  (lv_sub hl [1, 2, 0] rfl) hW hS hf
        · replace hf := og_f hc hf
          refine lv_aload_n hx hb d_M_tick_58 rfl (lv_at hl 0 rfl) ?_
          refine va_get (D := D) (ci := 3) (C := "GridlockDeskModel") (T := T_M) (N := 22) hx hb ht hin_M hown hK (hW.1.one (t := 0) rfl) 0 rfl rfl 16 (by decide) (ht _ tw_341) (fun _ h9 => h9) rfl d_M_tick_59 ?_
          refine lv_iload_n hx hb d_M_tick_62 rfl (lv_at hl 2 rfl) ?_
          refine lv_iconst (v := 5) hx hb d_M_tick_63 (by decide) ?_
          obtain ⟨hin4, hf⟩ := og_if hf
          obtain ⟨σ5, eσ5, hf⟩ := og_b hf
          cases eσ5
          refine k_iast  (t := 12) hx hb hK hW.1 hS rfl (hW.2 _ _ rfl) 1 rfl rfl hin4 d_M_tick_64 mm_wI9 (fun H locs hW1 hS => ?_)
          have hW := MW.wI hW1 hW.2
          refine lv_iinc (k := 1) (v := _ + 1) (lv' := [(2, .int _), (0, .ref _), (3, .int _)]) hx hb d_M_tick_65 hl rfl rfl (by decide) rfl (fun ls hl => ?_)
          refine lv_iinc (k := 2) (v := _ + 1) (lv' := [(3, .int _), (2, .int _), (0, .ref _)]) hx hb d_M_tick_68 hl rfl rfl (by decide) rfl (fun ls hl => ?_)
          refine lv_goto (tgt := 28) hx hb d_M_tick_71 rfl ?_
          exact ih _ _ _ _ _ _  (lv_sub hl [2, 1, 0] rfl) hW hS hf

set_option maxHeartbeats 4000000 in
set_option maxRecDepth 100000 in
theorem m_M_tick (l : Launch) (D : va_G) (cA : Nat → ClassId) (ad : Nat → Nat → Nat) (n : Nat) (A : Nat → Prop) (σ : St) (x1 : Int32)  (out : Int32 × St) (hf : f_M_tick n σ x1 = some out) : Met l y_M_tick ws_M_tick ({ frames := 4, cells := 0, slots := 0, locals := 93 }) (va_Pc [.ref (ad 0 0), .int x1] (fun U => MW D cA ad n A σ U.heap ∧ va_K D vCl (atys cA) U)) (va_Qi (fun r u => (r, u) = out) (fun u t => MW D cA ad n A u t.heap ∧ va_K D vCl (atys cA) t) A) 0 0 A := by
  refine Met.ofW (cc := prog_5_method_25_code) (maxL := 4) (ret := (some .int)) (by decide) rfl ?_
  intro p e s m args below meth c s₁ B hml hv
  obtain ⟨rfl, hW, hK⟩ := hv
  have hx := B.exec
  have hb := B.bytes
  have hr := B.returns
  have hts := atoms_spec (ws := ws_M_tick) B.pre
  have ht : ∀ w ∈ TB, w.before _ s = true := fun w h => hts w (List.mem_cons_of_mem _ h)
  have hown : s.vm.findClass "GridlockDeskModel" = some m.cls := findClass_of_methodNamed B.named
  have hlocks := B.notSynchronized
  have hS : va_S A s.heap s.heap [] := va_S.rf
  have hl := lv_entry ([.ref (ad 0 0), .int x1]) (n := 4) (Nat.le_of_ble_eq_true rfl)
  rw [lg_entry_eq]
  generalize (lg_sl ([.ref (ad 0 0), .int x1]) ++ List.replicate (4 - (lg_sl ([.ref (ad 0 0), .int x1])).length) Slot.unset).toArray = ls at hl ⊢
  have hl : lv_has ls 4 [(0, .ref (ad 0 0)), (1, .int x1)] := hl
  unfold f_M_tick at hf

  refine lv_iload_n hx hb d_M_tick_0 rfl (lv_at hl 1 rfl) ?_
  refine lv_iconst (v := 1) hx hb d_M_tick_1 (by decide) ?_
  refine lv_icmp_lt (tgt := 12) hx hb d_M_tick_2 rfl (fun hc => ?_) (fun hc => ?_)
  · replace hf := og_t hc hf
    refine lv_iconst (v := (-1)) hx hb d_M_tick_12 (by decide) ?_
    exact W.iret hx hb hr (fun t ht hWm => ⟨⟨_, _, rfl, Option.some.inj hf, by rw [ht]; exact hW, va_K.moved hWm.alike hK⟩, hS.F ht⟩) hS.2.2 d_M_tick_13
  · replace hf := og_f hc hf
    refine lv_iload_n hx hb d_M_tick_5 rfl (lv_at hl 1 rfl) ?_
    refine lv_sipush (v := 1000) hx hb d_M_tick_6 (by decide) ?_
    refine lv_icmp_le (tgt := 14) hx hb d_M_tick_9 rfl (fun hc => ?_) (fun hc => ?_)
    · replace hf := og_t hc hf
      refine lv_aload_n hx hb d_M_tick_14 rfl (lv_at hl 0 rfl) ?_
      refine lv_aload_n hx hb d_M_tick_15 rfl (lv_at hl 0 rfl) ?_
      refine va_get (D := D) (ci := 3) (C := "GridlockDeskModel") (T := T_M) (N := 22) hx hb ht hin_M hown hK (hW.1.one (t := 0) rfl) 0 rfl rfl 1 (by decide) (ht _ tw_326) (fun _ h9 => h9) rfl d_M_tick_16 ?_
      refine lv_iload_n hx hb d_M_tick_19 rfl (lv_at hl 1 rfl) ?_
      refine lv_iadd hx hb d_M_tick_20 ?_
      obtain ⟨σ1, eσ1, hf⟩ := og_b hf
      cases eσ1
      refine k_put  (ci := 3) (C := "GridlockDeskModel") (T := T_M) (N := 22) (ty := .int) (t := 0) hx hb ht hin_M ft_M ft_M_ok nm_M hown hK hW.1 hS rfl (hW.2 _ _ rfl) rfl rfl 1 (by decide) (ht _ tw_326) (fun _ h9 => h9) rfl (by decide +kernel) rfl rfl (Nat.le_of_ble_eq_true rfl) d_M_tick_21 mm_wI1 (fun H locs hW1 hS => ?_)
      have hW := MW.wI hW1 hW.2
      refine lv_iconst (v := 0) hx hb d_M_tick_24 (by decide) ?_
      refine lv_istore_n (lv' := [(2, .int _), (0, .ref _), (1, .int _)]) hx hb d_M_tick_25 rfl hl (by decide) rfl (fun ls hl => ?_)
      refine lv_iconst (v := 0) hx hb d_M_tick_26 (by decide) ?_
      refine lv_istore_n (lv' := [(3, .int _), (2, .int _), (0, .ref _), (1, .int _)]) hx hb d_M_tick_27 rfl hl (by decide) rfl (fun ls hl => ?_)
      refine lp_M_tick_28_ok D cA ad n A hx hb hml hr hts hown hlocks hK _ _  (fun σ7 y2_6 H locs ls  hl hW hS hf => ?_) _ _ _ _ _ _ _  (lv_sub hl [2, 1, 0] rfl) hW hS hf
      refine lv_aload_n hx hb d_M_tick_74 rfl (lv_at hl 0 rfl) ?_
      obtain ⟨o8, ho8, hf⟩ := og_b hf
      refine kc_v (P := (fun u H => MW D cA ad n A u H)) (va_runV (C := "GridlockDeskModel") (As := []) (rest := []) ⟨hx, hb, hml, hown, hts⟩ (m_M_sweep l D cA ad n A _    o8 ho8) (cwV 0 hts (tb_V tw_427 tw_429 tw_23 tw_35 tw_430) rfl rfl rfl (by decide +kernel) ⟨Nat.le_of_ble_eq_true rfl, Nat.le_of_ble_eq_true rfl⟩) ⟨k_blind, kw.recv hK hW.1 (t := 0) rfl rfl rfl, k_pre hW hK⟩ rfl rfl hl.1 rfl (lv_room (Nat.le_of_ble_eq_true rfl)) d_M_tick_75 ⟨Nat.zero_le _, Nat.zero_le _⟩) hS (fun H locs hW hS => ?_)
      refine lv_iload_n hx hb d_M_tick_78 rfl (lv_at hl 1 rfl) ?_
      exact W.iret hx hb hr (fun t ht hWm => ⟨⟨_, _, rfl, Option.some.inj hf, by rw [ht]; exact hW, va_K.moved hWm.alike hK⟩, hS.F ht⟩) hS.2.2 d_M_tick_79
    · replace hf := og_f hc hf
      refine lv_iconst (v := (-1)) hx hb d_M_tick_12 (by decide) ?_
      exact W.iret hx hb hr (fun t ht hWm => ⟨⟨_, _, rfl, Option.some.inj hf, by rw [ht]; exact hW, va_K.moved hWm.alike hK⟩, hS.F ht⟩) hS.2.2 d_M_tick_13

set_option maxHeartbeats 4000000 in
set_option maxRecDepth 100000 in
theorem lp_M_close_4_ok {p : Program} {l : Launch} {e : Env} {s : State} {m : MethodId} {args : Array Value} {below : List Frame} {meth : Method} {c : Code} (D : va_G) (cA : Nat → ClassId) (ad : Nat → Nat → Nat) (n : Nat) (A : Nat → Prop) (hx : p.tables.exec = Jvm.exec) (hb : c.code = prog_5_method_26_code) (hml : c.maxLocals = 3) (hr : meth.sig.returnType = (some .int)) (hts : ∀ w ∈ ws_M_close, w.before args s = true) (hown : s.vm.findClass "GridlockDeskModel" = some m.cls) (hlocks : meth.locks = false) (hK : va_K D vCl (atys cA) s) (k : St → Int32 → Option (Int32 × St)) (out : Int32 × St)  (hk : ∀ (σ : St) (v1 : Int32) (H : Heap) (locs : List Loc) (ls : Array Slot), lv_has ls 3 [(0, .ref (ad 0 0)), (1, .int v1)] → MW D cA ad n A σ H → va_S A s.heap H locs → k σ v1 = some out → W p l e (headSpec ws_M_close ({ frames := 0, cells := 0, slots := 0, locals := 0 })).room s m args below meth c H locs 0 0 (MQ below (va_Qi (fun r u => (r, u) = out) (fun u t => MW D cA ad n A u t.heap ∧ va_K D vCl (atys cA) t) A) args s 0 0 A) (F0 m 38 ls [])) : ∀ (fu : Nat) (σ : St) (v1 : Int32) (v2 : Int32) (H : Heap) (locs : List Loc) (ls : Array Slot), lv_has ls 3 [(0, .ref (ad 0 0)), (1, .int v1), (2, .int v2)] → MW D cA ad n A σ H → va_S A s.heap H locs → lp_M_close_4 n k fu σ v1 v2 = some out → W p l e (headSpec ws_M_close ({ frames := 0, cells := 0, slots := 0, locals := 0 })).room s m args below meth c H locs 0 0 (MQ below (va_Qi (fun r u => (r, u) = out) (fun u t => MW D cA ad n A u t.heap ∧ va_K D vCl (atys cA) t) A) args s 0 0 A) (F0 m 4 ls []) := by
  intro fu
  induction fu with
  | zero =>
    intro σ v1 v2 H locs ls  hl hW hS hf
    exact og_n hf
  | succ fu ih =>
    intro σ v1 v2 H locs ls  hl hW hS hf
    rw [lp_M_close_4_s] at hf
    have ht : ∀ w ∈ TB, w.before args s = true := fun w h => hts w (List.mem_cons_of_mem _ h)
    refine lv_iload_n hx hb d_M_close_4 rfl (lv_at hl 2 rfl) ?_
    refine lv_aload_n hx hb d_M_close_5 rfl (lv_at hl 0 rfl) ?_
    refine va_get (D := D) (ci := 3) (C := "GridlockDeskModel") (T := T_M) (N := 22) hx hb ht hin_M hown hK (hW.1.one (t := 0) rfl) 0 rfl rfl 8 (by decide) (ht _ tw_333) (fun _ h9 => h9) rfl d_M_close_6 ?_
    refine lv_icmp_ge (tgt := 38) hx hb d_M_close_9 rfl (fun hc => ?_) (fun hc => ?_)
    · replace hf := og_t hc hf
      exact hk _ _ _ _ _  (lv_sub hl [0, 1] rfl) hW hS hf
    · replace hf := og_f hc hf
      refine lv_aload_n hx hb d_M_close_12 rfl (lv_at hl 0 rfl) ?_
      refine va_get (D := D) (ci := 3) (C := "GridlockDeskModel") (T := T_M) (N := 22) hx hb ht hin_M hown hK (hW.1.one (t := 0) rfl) 0 rfl rfl 16 (by decide) (ht _ tw_341) (fun _ h9 => h9) rfl d_M_close_13 ?_
      refine lv_iload_n hx hb d_M_close_16 rfl (lv_at hl 2 rfl) ?_
      obtain ⟨hin1, hf⟩ := og_if hf
      refine va_iald (D := D) hx hb hK (hW.1.one (t := 12) rfl) 0 1 rfl rfl hin1 d_M_close_17 ?_
      refine lv_if_ne (tgt := 32) hx hb d_M_close_18 rfl (fun hc => ?_) (fun hc => ?_)
      · replace hf := og_f hc hf
        refine lv_iinc (k := 2) (v := _ + 1) (lv' := [(2, .int _), (0, .ref _), (1, .int _)]) hx hb d_M_close_32 hl rfl rfl (by decide) rfl (fun ls hl => ?_)
        refine lv_goto (tgt := 4) hx hb d_M_close_35 rfl ?_
        exact ih _ _ _ _ _ _  (lv_sub hl [1, 2, 0] rfl) hW hS hf
      · replace hf := og_t hc hf
        refine lv_aload_n hx hb d_M_close_21 rfl (lv_at hl 0 rfl) ?_
        refine va_get (D := D) (ci := 3) (C := "GridlockDeskModel") (T := T_M) (N := 22) hx hb ht hin_M hown hK (hW.1.one (t := 0) rfl) 0 rfl rfl 16 (by decide) (ht _ tw_341) (fun _ h9 => h9) rfl d_M_close_22 ?_
        refine lv_iload_n hx hb d_M_close_25 rfl (lv_at hl 2 rfl) ?_
        refine lv_bipush (v := 6) hx hb d_M_close_26 (by decide) ?_
        obtain ⟨hin2, hf⟩ := og_if hf
        obtain ⟨σ3, eσ3, hf⟩ := og_b hf
        cases eσ3
        refine k_iast  (t := 12) hx hb hK hW.1 hS rfl (hW.2 _ _ rfl) 1 rfl rfl hin2 d_M_close_28 mm_wI9 (fun H locs hW1 hS => ?_)
        have hW := MW.wI hW1 hW.2
        refine lv_iinc (k := 1) (v := _ + 1) (lv' := [(1, .int _), (0, .ref _), (2, .int _)]) hx hb d_M_close_29 hl rfl rfl (by decide) rfl (fun ls hl => ?_)
        refine lv_iinc (k := 2) (v := _ + 1) (lv' := [(2, .int _), (1, .int _), (0, .ref _)]) hx hb d_M_close_32 hl rfl rfl (by decide) rfl (fun ls hl => ?_)
        refine lv_goto (tgt := 4) hx hb d_M_close_35 rfl ?_
        exact ih _ _ _ _ _ _  (lv_sub hl [2, 1, 0] rfl) hW hS hf

set_option maxHeartbeats 4000000 in
set_option maxRecDepth 100000 in
theorem lp_M_close_40_ok {p : Program} {l : Launch} {e : Env} {s : State} {m : MethodId} {args : Array Value} {below : List Frame} {meth : Method} {c : Code} (D : va_G) (cA : Nat → ClassId) (ad : Nat → Nat → Nat) (n : Nat) (A : Nat → Prop) (hx : p.tables.exec = Jvm.exec) (hb : c.code = prog_5_method_26_code) (hml : c.maxLocals = 3) (hr : meth.sig.returnType = (some .int)) (hts : ∀ w ∈ ws_M_close, w.before args s = true) (hown : s.vm.findClass "GridlockDeskModel" = some m.cls) (hlocks : meth.locks = false) (hK : va_K D vCl (atys cA) s) (k : St → Option (Int32 × St)) (out : Int32 × St) (v1 : Int32) (hk : ∀ (σ : St)  (H : Heap) (locs : List Loc) (ls : Array Slot), lv_has ls 3 [(1, .int v1)] → MW D cA ad n A σ H → va_S A s.heap H locs → k σ  = some out → W p l e (headSpec ws_M_close ({ frames := 0, cells := 0, slots := 0, locals := 0 })).room s m args below meth c H locs 0 0 (MQ below (va_Qi (fun r u => (r, u) = out) (fun u t => MW D cA ad n A u t.heap ∧ va_K D vCl (atys cA) t) A) args s 0 0 A) (F0 m 59 ls [])) : ∀ (fu : Nat) (σ : St) (v2 : Int32) (H : Heap) (locs : List Loc) (ls : Array Slot), lv_has ls 3 [(0, .ref (ad 0 0)), (1, .int v1), (2, .int v2)] → MW D cA ad n A σ H → va_S A s.heap H locs → lp_M_close_40 n k fu σ v1 v2 = some out → W p l e (headSpec ws_M_close ({ frames := 0, cells := 0, slots := 0, locals := 0 })).room s m args below meth c H locs 0 0 (MQ below (va_Qi (fun r u => (r, u) = out) (fun u t => MW D cA ad n A u t.heap ∧ va_K D vCl (atys cA) t) A) args s 0 0 A) (F0 m 40 ls []) := by
  intro fu
  induction fu with
  | zero =>
    intro σ v2 H locs ls  hl hW hS hf
    exact og_n hf
  | succ fu ih =>
    intro σ v2 H locs ls  hl hW hS hf
    rw [lp_M_close_40_s] at hf
    have ht : ∀ w ∈ TB, w.before args s = true := fun w h => hts w (List.mem_cons_of_mem _ h)
    refine lv_iload_n hx hb d_M_close_40 rfl (lv_at hl 2 rfl) ?_
    refine lv_bipush (v := 16) hx hb d_M_close_41 (by decide) ?_
    refine lv_icmp_ge (tgt := 59) hx hb d_M_close_43 rfl (fun hc => ?_) (fun hc => ?_)
    · replace hf := og_t hc hf
      exact hk _  _ _ _  (lv_sub hl [1] rfl) hW hS hf
    · replace hf := og_f hc hf
      refine lv_aload_n hx hb d_M_close_46 rfl (lv_at hl 0 rfl) ?_
      refine va_get (D := D) (ci := 3) (C := "GridlockDeskModel") (T := T_M) (N := 22) hx hb ht hin_M hown hK (hW.1.one (t := 0) rfl) 0 rfl rfl 7 (by decide) (ht _ tw_332) (fun _ h9 => h9) rfl d_M_close_47 ?_
      refine lv_iload_n hx hb d_M_close_50 rfl (lv_at hl 2 rfl) ?_
      refine lv_lconst (v := 0) hx hb d_M_close_51 (by decide) ?_
      obtain ⟨hin6, hf⟩ := og_if hf
      obtain ⟨σ7, eσ7, hf⟩ := og_b hf
      cases eσ7
      refine k_last  (t := 5) hx hb hK hW.1 hS rfl (hW.2 _ _ rfl) 0 rfl rfl hin6 d_M_close_52 mm_wL5 (fun H locs hW1 hS => ?_)
      have hW := MW.wL hW1 hW.2
      refine lv_iinc (k := 2) (v := _ + 1) (lv' := [(2, .int _), (0, .ref _), (1, .int _)]) hx hb d_M_close_53 hl rfl rfl (by decide) rfl (fun ls hl => ?_)
      refine lv_goto (tgt := 40) hx hb d_M_close_56 rfl ?_
      exact ih _ _ _ _ _  (lv_sub hl [1, 2, 0] rfl) hW hS hf

set_option maxHeartbeats 4000000 in
set_option maxRecDepth 100000 in
theorem m_M_close (l : Launch) (D : va_G) (cA : Nat → ClassId) (ad : Nat → Nat → Nat) (n : Nat) (A : Nat → Prop) (σ : St)   (out : Int32 × St) (hf : f_M_close n σ  = some out) : Met l y_M_close ws_M_close ({ frames := 0, cells := 0, slots := 0, locals := 0 }) (va_Pc [.ref (ad 0 0)] (fun U => MW D cA ad n A σ U.heap ∧ va_K D vCl (atys cA) U)) (va_Qi (fun r u => (r, u) = out) (fun u t => MW D cA ad n A u t.heap ∧ va_K D vCl (atys cA) t) A) 0 0 A := by
  refine Met.ofW (cc := prog_5_method_26_code) (maxL := 3) (ret := (some .int)) (by decide) rfl ?_
  intro p e s m args below meth c s₁ B hml hv
  obtain ⟨rfl, hW, hK⟩ := hv
  have hx := B.exec
  have hb := B.bytes
  have hr := B.returns
  have hts := atoms_spec (ws := ws_M_close) B.pre
  have ht : ∀ w ∈ TB, w.before _ s = true := fun w h => hts w (List.mem_cons_of_mem _ h)
  have hown : s.vm.findClass "GridlockDeskModel" = some m.cls := findClass_of_methodNamed B.named
  have hlocks := B.notSynchronized
  have hS : va_S A s.heap s.heap [] := va_S.rf
  have hl := lv_entry ([.ref (ad 0 0)]) (n := 3) (Nat.le_of_ble_eq_true rfl)
  rw [lg_entry_eq]
  generalize (lg_sl ([.ref (ad 0 0)]) ++ List.replicate (3 - (lg_sl ([.ref (ad 0 0)])).length) Slot.unset).toArray = ls at hl ⊢
  have hl : lv_has ls 3 [(0, .ref (ad 0 0))] := hl
  unfold f_M_close at hf

  refine lv_iconst (v := 0) hx hb d_M_close_0 (by decide) ?_
  refine lv_istore_n (lv' := [(1, .int _), (0, .ref _)]) hx hb d_M_close_1 rfl hl (by decide) rfl (fun ls hl => ?_)
  refine lv_iconst (v := 0) hx hb d_M_close_2 (by decide) ?_
  refine lv_istore_n (lv' := [(2, .int _), (1, .int _), (0, .ref _)]) hx hb d_M_close_3 rfl hl (by decide) rfl (fun ls hl => ?_)
  refine lp_M_close_4_ok D cA ad n A hx hb hml hr hts hown hlocks hK _ _  (fun σ5 y1_4 H locs ls  hl hW hS hf => ?_) _ _ _ _ _ _ _  (lv_sub hl [2, 1, 0] rfl) hW hS hf
  refine lv_iconst (v := 0) hx hb d_M_close_38 (by decide) ?_
  refine lv_istore_n (lv' := [(2, .int _), (0, .ref _), (1, .int _)]) hx hb d_M_close_39 rfl hl (by decide) rfl (fun ls hl => ?_)
  refine lp_M_close_40_ok D cA ad n A hx hb hml hr hts hown hlocks hK _ _ _ (fun σ8 H locs ls  hl hW hS hf => ?_) _ _ _ _ _ _  (lv_sub hl [1, 2, 0] rfl) hW hS hf
  refine lv_iload_n hx hb d_M_close_59 rfl (lv_at hl 0 rfl) ?_
  exact W.iret hx hb hr (fun t ht hWm => ⟨⟨_, _, rfl, Option.some.inj hf, by rw [ht]; exact hW, va_K.moved hWm.alike hK⟩, hS.F ht⟩) hS.2.2 d_M_close_60

set_option maxHeartbeats 4000000 in
set_option maxRecDepth 100000 in
theorem m_M_balance (l : Launch) (D : va_G) (cA : Nat → ClassId) (ad : Nat → Nat → Nat) (n : Nat) (A : Nat → Prop) (σ : St) (x1 : Int32)  (out : Int64 × St) (hf : f_M_balance n σ x1 = some out) : Met l y_M_balance ws_M_balance ({ frames := 1, cells := 0, slots := 0, locals := 21 }) (va_Pc [.ref (ad 0 0), .int x1] (fun U => MW D cA ad n A σ U.heap ∧ va_K D vCl (atys cA) U)) (va_Ql (fun r u => (r, u) = out) (fun u t => MW D cA ad n A u t.heap ∧ va_K D vCl (atys cA) t) A) 0 0 A := by
  refine Met.ofW (cc := prog_5_method_27_code) (maxL := 2) (ret := (some .long)) (by decide) rfl ?_
  intro p e s m args below meth c s₁ B hml hv
  obtain ⟨rfl, hW, hK⟩ := hv
  have hx := B.exec
  have hb := B.bytes
  have hr := B.returns
  have hts := atoms_spec (ws := ws_M_balance) B.pre
  have ht : ∀ w ∈ TB, w.before _ s = true := fun w h => hts w (List.mem_cons_of_mem _ h)
  have hown : s.vm.findClass "GridlockDeskModel" = some m.cls := findClass_of_methodNamed B.named
  have hlocks := B.notSynchronized
  have hS : va_S A s.heap s.heap [] := va_S.rf
  have hl := lv_entry ([.ref (ad 0 0), .int x1]) (n := 2) (Nat.le_of_ble_eq_true rfl)
  rw [lg_entry_eq]
  generalize (lg_sl ([.ref (ad 0 0), .int x1]) ++ List.replicate (2 - (lg_sl ([.ref (ad 0 0), .int x1])).length) Slot.unset).toArray = ls at hl ⊢
  have hl : lv_has ls 2 [(0, .ref (ad 0 0)), (1, .int x1)] := hl
  unfold f_M_balance at hf

  refine lv_aload_n hx hb d_M_balance_0 rfl (lv_at hl 0 rfl) ?_
  refine lv_iload_n hx hb d_M_balance_1 rfl (lv_at hl 1 rfl) ?_
  obtain ⟨o1, ho1, hf⟩ := og_b hf
  refine kc_i (P := (fun u H => MW D cA ad n A u H)) (va_runV (C := "GridlockDeskModel") (As := [.int _]) (rest := []) ⟨hx, hb, hml, hown, hts⟩ (m_M_isBank l D cA ad n A _  _  o1 ho1) (cwV 1 hts (tb_V tw_447 tw_449 tw_27 tw_35 tw_450) rfl rfl rfl (by decide +kernel) ⟨Nat.le_of_ble_eq_true rfl, Nat.le_of_ble_eq_true rfl⟩) ⟨k_blind, kw.recv hK hW.1 (t := 0) rfl rfl rfl, k_pre hW hK⟩ rfl rfl hl.1 rfl (lv_room (Nat.le_of_ble_eq_true rfl)) d_M_balance_2 ⟨Nat.zero_le _, Nat.zero_le _⟩) hS (fun H locs hW hS => ?_)
  refine lv_if_eq (tgt := 17) hx hb d_M_balance_5 rfl (fun hc => ?_) (fun hc => ?_)
  · replace hf := og_t hc hf
    refine lv_lconst (v := 0) hx hb d_M_balance_17 (by decide) ?_
    exact W.lret hx hb hr (fun t ht hWm => ⟨⟨_, _, rfl, Option.some.inj hf, by rw [ht]; exact hW, va_K.moved hWm.alike hK⟩, hS.F ht⟩) hS.2.2 d_M_balance_18
  · replace hf := og_f hc hf
    refine lv_aload_n hx hb d_M_balance_8 rfl (lv_at hl 0 rfl) ?_
    refine va_get (D := D) (ci := 3) (C := "GridlockDeskModel") (T := T_M) (N := 22) hx hb ht hin_M hown hK (hW.1.one (t := 0) rfl) 0 rfl rfl 3 (by decide) (ht _ tw_328) (fun _ h9 => h9) rfl d_M_balance_9 ?_
    refine lv_iload_n hx hb d_M_balance_12 rfl (lv_at hl 1 rfl) ?_
    obtain ⟨hin2, hf⟩ := og_if hf
    refine va_lald (D := D) hx hb hK (hW.1.one (t := 1) rfl) 0 0 rfl rfl hin2 d_M_balance_13 ?_
    refine lv_goto (tgt := 18) hx hb d_M_balance_14 rfl ?_
    exact W.lret hx hb hr (fun t ht hWm => ⟨⟨_, _, rfl, Option.some.inj hf, by rw [ht]; exact hW, va_K.moved hWm.alike hK⟩, hS.F ht⟩) hS.2.2 d_M_balance_18

set_option maxHeartbeats 4000000 in
set_option maxRecDepth 100000 in
theorem m_M_position (l : Launch) (D : va_G) (cA : Nat → ClassId) (ad : Nat → Nat → Nat) (n : Nat) (A : Nat → Prop) (σ : St) (x1 : Int32) (x2 : Int32)  (out : Int64 × St) (hf : f_M_position n σ x1 x2 = some out) : Met l y_M_position ws_M_position ({ frames := 1, cells := 0, slots := 0, locals := 21 }) (va_Pc [.ref (ad 0 0), .int x1, .int x2] (fun U => MW D cA ad n A σ U.heap ∧ va_K D vCl (atys cA) U)) (va_Ql (fun r u => (r, u) = out) (fun u t => MW D cA ad n A u t.heap ∧ va_K D vCl (atys cA) t) A) 0 0 A := by
  refine Met.ofW (cc := prog_5_method_28_code) (maxL := 3) (ret := (some .long)) (by decide) rfl ?_
  intro p e s m args below meth c s₁ B hml hv
  obtain ⟨rfl, hW, hK⟩ := hv
  have hx := B.exec
  have hb := B.bytes
  have hr := B.returns
  have hts := atoms_spec (ws := ws_M_position) B.pre
  have ht : ∀ w ∈ TB, w.before _ s = true := fun w h => hts w (List.mem_cons_of_mem _ h)
  have hown : s.vm.findClass "GridlockDeskModel" = some m.cls := findClass_of_methodNamed B.named
  have hlocks := B.notSynchronized
  have hS : va_S A s.heap s.heap [] := va_S.rf
  have hl := lv_entry ([.ref (ad 0 0), .int x1, .int x2]) (n := 3) (Nat.le_of_ble_eq_true rfl)
  rw [lg_entry_eq]
  generalize (lg_sl ([.ref (ad 0 0), .int x1, .int x2]) ++ List.replicate (3 - (lg_sl ([.ref (ad 0 0), .int x1, .int x2])).length) Slot.unset).toArray = ls at hl ⊢
  have hl : lv_has ls 3 [(0, .ref (ad 0 0)), (1, .int x1), (2, .int x2)] := hl
  unfold f_M_position at hf

  refine lv_aload_n hx hb d_M_position_0 rfl (lv_at hl 0 rfl) ?_
  refine lv_iload_n hx hb d_M_position_1 rfl (lv_at hl 1 rfl) ?_
  obtain ⟨o1, ho1, hf⟩ := og_b hf
  refine kc_i (P := (fun u H => MW D cA ad n A u H)) (va_runV (C := "GridlockDeskModel") (As := [.int _]) (rest := []) ⟨hx, hb, hml, hown, hts⟩ (m_M_isBank l D cA ad n A _  _  o1 ho1) (cwV 1 hts (tb_V tw_447 tw_449 tw_27 tw_35 tw_450) rfl rfl rfl (by decide +kernel) ⟨Nat.le_of_ble_eq_true rfl, Nat.le_of_ble_eq_true rfl⟩) ⟨k_blind, kw.recv hK hW.1 (t := 0) rfl rfl rfl, k_pre hW hK⟩ rfl rfl hl.1 rfl (lv_room (Nat.le_of_ble_eq_true rfl)) d_M_position_2 ⟨Nat.zero_le _, Nat.zero_le _⟩) hS (fun H locs hW hS => ?_)
  refine lv_if_eq (tgt := 40) hx hb d_M_position_5 rfl (fun hc => ?_) (fun hc => ?_)
  · replace hf := og_t hc hf
    refine lv_lconst (v := 0) hx hb d_M_position_40 (by decide) ?_
    exact W.lret hx hb hr (fun t ht hWm => ⟨⟨_, _, rfl, Option.some.inj hf, by rw [ht]; exact hW, va_K.moved hWm.alike hK⟩, hS.F ht⟩) hS.2.2 d_M_position_41
  · replace hf := og_f hc hf
    refine lv_aload_n hx hb d_M_position_8 rfl (lv_at hl 0 rfl) ?_
    refine lv_iload_n hx hb d_M_position_9 rfl (lv_at hl 2 rfl) ?_
    obtain ⟨o2, ho2, hf⟩ := og_b hf
    refine kc_i (P := (fun u H => MW D cA ad n A u H)) (va_runV (C := "GridlockDeskModel") (As := [.int _]) (rest := []) ⟨hx, hb, hml, hown, hts⟩ (m_M_isBank l D cA ad n A _  _  o2 ho2) (cwV 1 hts (tb_V tw_447 tw_449 tw_27 tw_35 tw_450) rfl rfl rfl (by decide +kernel) ⟨Nat.le_of_ble_eq_true rfl, Nat.le_of_ble_eq_true rfl⟩) ⟨k_blind, kw.recv hK hW.1 (t := 0) rfl rfl rfl, k_pre hW hK⟩ rfl rfl hl.1 rfl (lv_room (Nat.le_of_ble_eq_true rfl)) d_M_position_10 ⟨Nat.zero_le _, Nat.zero_le _⟩) hS (fun H locs hW hS => ?_)
    refine lv_if_eq (tgt := 40) hx hb d_M_position_13 rfl (fun hc => ?_) (fun hc => ?_)
    · replace hf := og_t hc hf
      refine lv_lconst (v := 0) hx hb d_M_position_40 (by decide) ?_
      exact W.lret hx hb hr (fun t ht hWm => ⟨⟨_, _, rfl, Option.some.inj hf, by rw [ht]; exact hW, va_K.moved hWm.alike hK⟩, hS.F ht⟩) hS.2.2 d_M_position_41
    · replace hf := og_f hc hf
      refine lv_aload_n hx hb d_M_position_16 rfl (lv_at hl 0 rfl) ?_
      refine va_get (D := D) (ci := 3) (C := "GridlockDeskModel") (T := T_M) (N := 22) hx hb ht hin_M hown hK (hW.1.one (t := 0) rfl) 0 rfl rfl 7 (by decide) (ht _ tw_332) (fun _ h9 => h9) rfl d_M_position_17 ?_
      refine lv_iconst (v := 4) hx hb d_M_position_20 (by decide) ?_
      refine lv_iload_n hx hb d_M_position_21 rfl (lv_at hl 1 rfl) ?_
      refine lv_imul hx hb d_M_position_22 ?_
      refine lv_iload_n hx hb d_M_position_23 rfl (lv_at hl 2 rfl) ?_
      refine lv_iadd hx hb d_M_position_24 ?_
      obtain ⟨hin3, hf⟩ := og_if hf
      refine va_lald (D := D) hx hb hK (hW.1.one (t := 5) rfl) 0 0 rfl rfl hin3 d_M_position_25 ?_
      refine lv_aload_n hx hb d_M_position_26 rfl (lv_at hl 0 rfl) ?_
      refine va_get (D := D) (ci := 3) (C := "GridlockDeskModel") (T := T_M) (N := 22) hx hb ht hin_M hown hK (hW.1.one (t := 0) rfl) 0 rfl rfl 7 (by decide) (ht _ tw_332) (fun _ h9 => h9) rfl d_M_position_27 ?_
      refine lv_iconst (v := 4) hx hb d_M_position_30 (by decide) ?_
      refine lv_iload_n hx hb d_M_position_31 rfl (lv_at hl 2 rfl) ?_
      refine lv_imul hx hb d_M_position_32 ?_
      refine lv_iload_n hx hb d_M_position_33 rfl (lv_at hl 1 rfl) ?_
      refine lv_iadd hx hb d_M_position_34 ?_
      obtain ⟨hin4, hf⟩ := og_if hf
      refine va_lald (D := D) hx hb hK (hW.1.one (t := 5) rfl) 0 0 rfl rfl hin4 d_M_position_35 ?_
      refine lv_lsub hx hb d_M_position_36 ?_
      refine lv_goto (tgt := 41) hx hb d_M_position_37 rfl ?_
      exact W.lret hx hb hr (fun t ht hWm => ⟨⟨_, _, rfl, Option.some.inj hf, by rw [ht]; exact hW, va_K.moved hWm.alike hK⟩, hS.F ht⟩) hS.2.2 d_M_position_41

set_option maxHeartbeats 4000000 in
set_option maxRecDepth 100000 in
theorem m_M_waiting (l : Launch) (D : va_G) (cA : Nat → ClassId) (ad : Nat → Nat → Nat) (n : Nat) (A : Nat → Prop) (σ : St) (x1 : Int32)  (out : Int32 × St) (hf : f_M_waiting n σ x1 = some out) : Met l y_M_waiting ws_M_waiting ({ frames := 1, cells := 0, slots := 0, locals := 23 }) (va_Pc [.ref (ad 0 0), .int x1] (fun U => MW D cA ad n A σ U.heap ∧ va_K D vCl (atys cA) U)) (va_Qi (fun r u => (r, u) = out) (fun u t => MW D cA ad n A u t.heap ∧ va_K D vCl (atys cA) t) A) 0 0 A := by
  refine Met.ofW (cc := prog_5_method_29_code) (maxL := 2) (ret := (some .int)) (by decide) rfl ?_
  intro p e s m args below meth c s₁ B hml hv
  obtain ⟨rfl, hW, hK⟩ := hv
  have hx := B.exec
  have hb := B.bytes
  have hr := B.returns
  have hts := atoms_spec (ws := ws_M_waiting) B.pre
  have ht : ∀ w ∈ TB, w.before _ s = true := fun w h => hts w (List.mem_cons_of_mem _ h)
  have hown : s.vm.findClass "GridlockDeskModel" = some m.cls := findClass_of_methodNamed B.named
  have hlocks := B.notSynchronized
  have hS : va_S A s.heap s.heap [] := va_S.rf
  have hl := lv_entry ([.ref (ad 0 0), .int x1]) (n := 2) (Nat.le_of_ble_eq_true rfl)
  rw [lg_entry_eq]
  generalize (lg_sl ([.ref (ad 0 0), .int x1]) ++ List.replicate (2 - (lg_sl ([.ref (ad 0 0), .int x1])).length) Slot.unset).toArray = ls at hl ⊢
  have hl : lv_has ls 2 [(0, .ref (ad 0 0)), (1, .int x1)] := hl
  unfold f_M_waiting at hf

  refine lv_aload_n hx hb d_M_waiting_0 rfl (lv_at hl 0 rfl) ?_
  refine lv_iload_n hx hb d_M_waiting_1 rfl (lv_at hl 1 rfl) ?_
  obtain ⟨o1, ho1, hf⟩ := og_b hf
  refine kc_i (P := (fun u H => MW D cA ad n A u H)) (va_runV (C := "GridlockDeskModel") (As := [.int _]) (rest := []) ⟨hx, hb, hml, hown, hts⟩ (m_M_isBank l D cA ad n A _  _  o1 ho1) (cwV 1 hts (tb_V tw_447 tw_449 tw_27 tw_35 tw_450) rfl rfl rfl (by decide +kernel) ⟨Nat.le_of_ble_eq_true rfl, Nat.le_of_ble_eq_true rfl⟩) ⟨k_blind, kw.recv hK hW.1 (t := 0) rfl rfl rfl, k_pre hW hK⟩ rfl rfl hl.1 rfl (lv_room (Nat.le_of_ble_eq_true rfl)) d_M_waiting_2 ⟨Nat.zero_le _, Nat.zero_le _⟩) hS (fun H locs hW hS => ?_)
  refine lv_if_eq (tgt := 16) hx hb d_M_waiting_5 rfl (fun hc => ?_) (fun hc => ?_)
  · replace hf := og_t hc hf
    refine lv_iconst (v := (-1)) hx hb d_M_waiting_16 (by decide) ?_
    exact W.iret hx hb hr (fun t ht hWm => ⟨⟨_, _, rfl, Option.some.inj hf, by rw [ht]; exact hW, va_K.moved hWm.alike hK⟩, hS.F ht⟩) hS.2.2 d_M_waiting_17
  · replace hf := og_f hc hf
    refine lv_aload_n hx hb d_M_waiting_8 rfl (lv_at hl 0 rfl) ?_
    refine lv_iload_n hx hb d_M_waiting_9 rfl (lv_at hl 1 rfl) ?_
    obtain ⟨o2, ho2, hf⟩ := og_b hf
    refine kc_i (P := (fun u H => MW D cA ad n A u H)) (va_runV (C := "GridlockDeskModel") (As := [.int _]) (rest := []) ⟨hx, hb, hml, hown, hts⟩ (m_M_queuedAt l D cA ad n A _  _  o2 ho2) (cwV 1 hts (tb_V tw_470 tw_472 tw_28 tw_35 tw_473) rfl rfl rfl (by decide +kernel) ⟨Nat.le_of_ble_eq_true rfl, Nat.le_of_ble_eq_true rfl⟩) ⟨k_blind, kw.recv hK hW.1 (t := 0) rfl rfl rfl, k_pre hW hK⟩ rfl rfl hl.1 rfl (lv_room (Nat.le_of_ble_eq_true rfl)) d_M_waiting_10 ⟨Nat.zero_le _, Nat.zero_le _⟩) hS (fun H locs hW hS => ?_)
    refine lv_goto (tgt := 17) hx hb d_M_waiting_13 rfl ?_
    exact W.iret hx hb hr (fun t ht hWm => ⟨⟨_, _, rfl, Option.some.inj hf, by rw [ht]; exact hW, va_K.moved hWm.alike hK⟩, hS.F ht⟩) hS.2.2 d_M_waiting_17

set_option maxHeartbeats 4000000 in
set_option maxRecDepth 100000 in
theorem m_M_queued (l : Launch) (D : va_G) (cA : Nat → ClassId) (ad : Nat → Nat → Nat) (n : Nat) (A : Nat → Prop) (σ : St) (x1 : Int32) (x2 : Int32)  (out : Int32 × St) (hf : f_M_queued n σ x1 x2 = some out) : Met l y_M_queued ws_M_queued ({ frames := 2, cells := 0, slots := 0, locals := 46 }) (va_Pc [.ref (ad 0 0), .int x1, .int x2] (fun U => MW D cA ad n A σ U.heap ∧ va_K D vCl (atys cA) U)) (va_Qi (fun r u => (r, u) = out) (fun u t => MW D cA ad n A u t.heap ∧ va_K D vCl (atys cA) t) A) 0 0 A := by
  refine Met.ofW (cc := prog_5_method_30_code) (maxL := 3) (ret := (some .int)) (by decide) rfl ?_
  intro p e s m args below meth c s₁ B hml hv
  obtain ⟨rfl, hW, hK⟩ := hv
  have hx := B.exec
  have hb := B.bytes
  have hr := B.returns
  have hts := atoms_spec (ws := ws_M_queued) B.pre
  have ht : ∀ w ∈ TB, w.before _ s = true := fun w h => hts w (List.mem_cons_of_mem _ h)
  have hown : s.vm.findClass "GridlockDeskModel" = some m.cls := findClass_of_methodNamed B.named
  have hlocks := B.notSynchronized
  have hS : va_S A s.heap s.heap [] := va_S.rf
  have hl := lv_entry ([.ref (ad 0 0), .int x1, .int x2]) (n := 3) (Nat.le_of_ble_eq_true rfl)
  rw [lg_entry_eq]
  generalize (lg_sl ([.ref (ad 0 0), .int x1, .int x2]) ++ List.replicate (3 - (lg_sl ([.ref (ad 0 0), .int x1, .int x2])).length) Slot.unset).toArray = ls at hl ⊢
  have hl : lv_has ls 3 [(0, .ref (ad 0 0)), (1, .int x1), (2, .int x2)] := hl
  unfold f_M_queued at hf

  refine lv_aload_n hx hb d_M_queued_0 rfl (lv_at hl 0 rfl) ?_
  refine lv_iload_n hx hb d_M_queued_1 rfl (lv_at hl 1 rfl) ?_
  obtain ⟨o1, ho1, hf⟩ := og_b hf
  refine kc_i (P := (fun u H => MW D cA ad n A u H)) (va_runV (C := "GridlockDeskModel") (As := [.int _]) (rest := []) ⟨hx, hb, hml, hown, hts⟩ (m_M_isBank l D cA ad n A _  _  o1 ho1) (cwV 1 hts (tb_V tw_447 tw_449 tw_27 tw_35 tw_450) rfl rfl rfl (by decide +kernel) ⟨Nat.le_of_ble_eq_true rfl, Nat.le_of_ble_eq_true rfl⟩) ⟨k_blind, kw.recv hK hW.1 (t := 0) rfl rfl rfl, k_pre hW hK⟩ rfl rfl hl.1 rfl (lv_room (Nat.le_of_ble_eq_true rfl)) d_M_queued_2 ⟨Nat.zero_le _, Nat.zero_le _⟩) hS (fun H locs hW hS => ?_)
  refine lv_if_ne (tgt := 10) hx hb d_M_queued_5 rfl (fun hc => ?_) (fun hc => ?_)
  · replace hf := og_f hc hf
    refine lv_aload_n hx hb d_M_queued_10 rfl (lv_at hl 0 rfl) ?_
    obtain ⟨o2, ho2, hf⟩ := og_b hf
    refine kc_v (P := (fun u H => MW D cA ad n A u H)) (va_runV (C := "GridlockDeskModel") (As := []) (rest := []) ⟨hx, hb, hml, hown, hts⟩ (m_M_lineUp l D cA ad n A _    o2 ho2) (cwV 0 hts (tb_V tw_396 tw_398 tw_16 tw_35 tw_399) rfl rfl rfl (by decide +kernel) ⟨Nat.le_of_ble_eq_true rfl, Nat.le_of_ble_eq_true rfl⟩) ⟨k_blind, kw.recv hK hW.1 (t := 0) rfl rfl rfl, k_pre hW hK⟩ rfl rfl hl.1 rfl (lv_room (Nat.le_of_ble_eq_true rfl)) d_M_queued_11 ⟨Nat.zero_le _, Nat.zero_le _⟩) hS (fun H locs hW hS => ?_)
    refine lv_iload_n hx hb d_M_queued_14 rfl (lv_at hl 2 rfl) ?_
    refine lv_if_lt (tgt := 28) hx hb d_M_queued_15 rfl (fun hc => ?_) (fun hc => ?_)
    · replace hf := og_t hc hf
      refine lv_iconst (v := (-1)) hx hb d_M_queued_28 (by decide) ?_
      refine lv_goto (tgt := 43) hx hb d_M_queued_29 rfl ?_
      exact W.iret hx hb hr (fun t ht hWm => ⟨⟨_, _, rfl, Option.some.inj hf, by rw [ht]; exact hW, va_K.moved hWm.alike hK⟩, hS.F ht⟩) hS.2.2 d_M_queued_43
    · replace hf := og_f hc hf
      refine lv_iload_n hx hb d_M_queued_18 rfl (lv_at hl 2 rfl) ?_
      refine lv_aload_n hx hb d_M_queued_19 rfl (lv_at hl 0 rfl) ?_
      refine va_get (D := D) (ci := 3) (C := "GridlockDeskModel") (T := T_M) (N := 22) hx hb ht hin_M hown hK (hW.1.one (t := 0) rfl) 0 rfl rfl 18 (by decide) (ht _ tw_343) (fun _ h9 => h9) rfl d_M_queued_20 ?_
      refine lv_iload_n hx hb d_M_queued_23 rfl (lv_at hl 1 rfl) ?_
      obtain ⟨hin3, hf⟩ := og_if hf
      refine va_iald (D := D) hx hb hK (hW.1.one (t := 14) rfl) 0 1 rfl rfl hin3 d_M_queued_24 ?_
      refine lv_icmp_lt (tgt := 32) hx hb d_M_queued_25 rfl (fun hc => ?_) (fun hc => ?_)
      · replace hf := og_t hc hf
        refine lv_aload_n hx hb d_M_queued_32 rfl (lv_at hl 0 rfl) ?_
        refine va_get (D := D) (ci := 3) (C := "GridlockDeskModel") (T := T_M) (N := 22) hx hb ht hin_M hown hK (hW.1.one (t := 0) rfl) 0 rfl rfl 17 (by decide) (ht _ tw_342) (fun _ h9 => h9) rfl d_M_queued_33 ?_
        refine lv_bipush (v := 6) hx hb d_M_queued_36 (by decide) ?_
        refine lv_iload_n hx hb d_M_queued_38 rfl (lv_at hl 1 rfl) ?_
        refine lv_imul hx hb d_M_queued_39 ?_
        refine lv_iload_n hx hb d_M_queued_40 rfl (lv_at hl 2 rfl) ?_
        refine lv_iadd hx hb d_M_queued_41 ?_
        obtain ⟨hin4, hf⟩ := og_if hf
        refine va_iald (D := D) hx hb hK (hW.1.one (t := 13) rfl) 0 1 rfl rfl hin4 d_M_queued_42 ?_
        exact W.iret hx hb hr (fun t ht hWm => ⟨⟨_, _, rfl, Option.some.inj hf, by rw [ht]; exact hW, va_K.moved hWm.alike hK⟩, hS.F ht⟩) hS.2.2 d_M_queued_43
      · replace hf := og_f hc hf
        refine lv_iconst (v := (-1)) hx hb d_M_queued_28 (by decide) ?_
        refine lv_goto (tgt := 43) hx hb d_M_queued_29 rfl ?_
        exact W.iret hx hb hr (fun t ht hWm => ⟨⟨_, _, rfl, Option.some.inj hf, by rw [ht]; exact hW, va_K.moved hWm.alike hK⟩, hS.F ht⟩) hS.2.2 d_M_queued_43
  · replace hf := og_t hc hf
    refine lv_iconst (v := (-1)) hx hb d_M_queued_8 (by decide) ?_
    exact W.iret hx hb hr (fun t ht hWm => ⟨⟨_, _, rfl, Option.some.inj hf, by rw [ht]; exact hW, va_K.moved hWm.alike hK⟩, hS.F ht⟩) hS.2.2 d_M_queued_9

set_option maxHeartbeats 4000000 in
set_option maxRecDepth 100000 in
theorem m_M_state (l : Launch) (D : va_G) (cA : Nat → ClassId) (ad : Nat → Nat → Nat) (n : Nat) (A : Nat → Prop) (σ : St) (x1 : Int32)  (out : Int32 × St) (hf : f_M_state n σ x1 = some out) : Met l y_M_state ws_M_state ({ frames := 0, cells := 0, slots := 0, locals := 0 }) (va_Pc [.ref (ad 0 0), .int x1] (fun U => MW D cA ad n A σ U.heap ∧ va_K D vCl (atys cA) U)) (va_Qi (fun r u => (r, u) = out) (fun u t => MW D cA ad n A u t.heap ∧ va_K D vCl (atys cA) t) A) 0 0 A := by
  refine Met.ofW (cc := prog_5_method_31_code) (maxL := 2) (ret := (some .int)) (by decide) rfl ?_
  intro p e s m args below meth c s₁ B hml hv
  obtain ⟨rfl, hW, hK⟩ := hv
  have hx := B.exec
  have hb := B.bytes
  have hr := B.returns
  have hts := atoms_spec (ws := ws_M_state) B.pre
  have ht : ∀ w ∈ TB, w.before _ s = true := fun w h => hts w (List.mem_cons_of_mem _ h)
  have hown : s.vm.findClass "GridlockDeskModel" = some m.cls := findClass_of_methodNamed B.named
  have hlocks := B.notSynchronized
  have hS : va_S A s.heap s.heap [] := va_S.rf
  have hl := lv_entry ([.ref (ad 0 0), .int x1]) (n := 2) (Nat.le_of_ble_eq_true rfl)
  rw [lg_entry_eq]
  generalize (lg_sl ([.ref (ad 0 0), .int x1]) ++ List.replicate (2 - (lg_sl ([.ref (ad 0 0), .int x1])).length) Slot.unset).toArray = ls at hl ⊢
  have hl : lv_has ls 2 [(0, .ref (ad 0 0)), (1, .int x1)] := hl
  unfold f_M_state at hf

  refine lv_iload_n hx hb d_M_state_0 rfl (lv_at hl 1 rfl) ?_
  refine lv_if_lt (tgt := 12) hx hb d_M_state_1 rfl (fun hc => ?_) (fun hc => ?_)
  · replace hf := og_t hc hf
    refine lv_iconst (v := (-1)) hx hb d_M_state_12 (by decide) ?_
    refine lv_goto (tgt := 22) hx hb d_M_state_13 rfl ?_
    exact W.iret hx hb hr (fun t ht hWm => ⟨⟨_, _, rfl, Option.some.inj hf, by rw [ht]; exact hW, va_K.moved hWm.alike hK⟩, hS.F ht⟩) hS.2.2 d_M_state_22
  · replace hf := og_f hc hf
    refine lv_iload_n hx hb d_M_state_4 rfl (lv_at hl 1 rfl) ?_
    refine lv_aload_n hx hb d_M_state_5 rfl (lv_at hl 0 rfl) ?_
    refine va_get (D := D) (ci := 3) (C := "GridlockDeskModel") (T := T_M) (N := 22) hx hb ht hin_M hown hK (hW.1.one (t := 0) rfl) 0 rfl rfl 8 (by decide) (ht _ tw_333) (fun _ h9 => h9) rfl d_M_state_6 ?_
    refine lv_icmp_lt (tgt := 16) hx hb d_M_state_9 rfl (fun hc => ?_) (fun hc => ?_)
    · replace hf := og_t hc hf
      refine lv_aload_n hx hb d_M_state_16 rfl (lv_at hl 0 rfl) ?_
      refine va_get (D := D) (ci := 3) (C := "GridlockDeskModel") (T := T_M) (N := 22) hx hb ht hin_M hown hK (hW.1.one (t := 0) rfl) 0 rfl rfl 16 (by decide) (ht _ tw_341) (fun _ h9 => h9) rfl d_M_state_17 ?_
      refine lv_iload_n hx hb d_M_state_20 rfl (lv_at hl 1 rfl) ?_
      obtain ⟨hin1, hf⟩ := og_if hf
      refine va_iald (D := D) hx hb hK (hW.1.one (t := 12) rfl) 0 1 rfl rfl hin1 d_M_state_21 ?_
      exact W.iret hx hb hr (fun t ht hWm => ⟨⟨_, _, rfl, Option.some.inj hf, by rw [ht]; exact hW, va_K.moved hWm.alike hK⟩, hS.F ht⟩) hS.2.2 d_M_state_22
    · replace hf := og_f hc hf
      refine lv_iconst (v := (-1)) hx hb d_M_state_12 (by decide) ?_
      refine lv_goto (tgt := 22) hx hb d_M_state_13 rfl ?_
      exact W.iret hx hb hr (fun t ht hWm => ⟨⟨_, _, rfl, Option.some.inj hf, by rw [ht]; exact hW, va_K.moved hWm.alike hK⟩, hS.F ht⟩) hS.2.2 d_M_state_22

set_option maxHeartbeats 4000000 in
set_option maxRecDepth 100000 in
theorem m_M_turnover (l : Launch) (D : va_G) (cA : Nat → ClassId) (ad : Nat → Nat → Nat) (n : Nat) (A : Nat → Prop) (σ : St)   (out : Int64 × St) (hf : f_M_turnover n σ  = some out) : Met l y_M_turnover ws_M_turnover ({ frames := 0, cells := 0, slots := 0, locals := 0 }) (va_Pc [.ref (ad 0 0)] (fun U => MW D cA ad n A σ U.heap ∧ va_K D vCl (atys cA) U)) (va_Ql (fun r u => (r, u) = out) (fun u t => MW D cA ad n A u t.heap ∧ va_K D vCl (atys cA) t) A) 0 0 A := by
  refine Met.ofW (cc := prog_5_method_32_code) (maxL := 1) (ret := (some .long)) (by decide) rfl ?_
  intro p e s m args below meth c s₁ B hml hv
  obtain ⟨rfl, hW, hK⟩ := hv
  have hx := B.exec
  have hb := B.bytes
  have hr := B.returns
  have hts := atoms_spec (ws := ws_M_turnover) B.pre
  have ht : ∀ w ∈ TB, w.before _ s = true := fun w h => hts w (List.mem_cons_of_mem _ h)
  have hown : s.vm.findClass "GridlockDeskModel" = some m.cls := findClass_of_methodNamed B.named
  have hlocks := B.notSynchronized
  have hS : va_S A s.heap s.heap [] := va_S.rf
  have hl := lv_entry ([.ref (ad 0 0)]) (n := 1) (Nat.le_of_ble_eq_true rfl)
  rw [lg_entry_eq]
  generalize (lg_sl ([.ref (ad 0 0)]) ++ List.replicate (1 - (lg_sl ([.ref (ad 0 0)])).length) Slot.unset).toArray = ls at hl ⊢
  have hl : lv_has ls 1 [(0, .ref (ad 0 0))] := hl
  unfold f_M_turnover at hf

  refine lv_aload_n hx hb d_M_turnover_0 rfl (lv_at hl 0 rfl) ?_
  refine va_get (D := D) (ci := 3) (C := "GridlockDeskModel") (T := T_M) (N := 22) hx hb ht hin_M hown hK (hW.1.one (t := 0) rfl) 0 rfl rfl 2 (by decide) (ht _ tw_327) (fun _ h9 => h9) rfl d_M_turnover_1 ?_
  exact W.lret hx hb hr (fun t ht hWm => ⟨⟨_, _, rfl, Option.some.inj hf, by rw [ht]; exact hW, va_K.moved hWm.alike hK⟩, hS.F ht⟩) hS.2.2 d_M_turnover_4

set_option maxHeartbeats 4000000 in
set_option maxRecDepth 100000 in
theorem m_M_now (l : Launch) (D : va_G) (cA : Nat → ClassId) (ad : Nat → Nat → Nat) (n : Nat) (A : Nat → Prop) (σ : St)   (out : Int32 × St) (hf : f_M_now n σ  = some out) : Met l y_M_now ws_M_now ({ frames := 0, cells := 0, slots := 0, locals := 0 }) (va_Pc [.ref (ad 0 0)] (fun U => MW D cA ad n A σ U.heap ∧ va_K D vCl (atys cA) U)) (va_Qi (fun r u => (r, u) = out) (fun u t => MW D cA ad n A u t.heap ∧ va_K D vCl (atys cA) t) A) 0 0 A := by
  refine Met.ofW (cc := prog_5_method_33_code) (maxL := 1) (ret := (some .int)) (by decide) rfl ?_
  intro p e s m args below meth c s₁ B hml hv
  obtain ⟨rfl, hW, hK⟩ := hv
  have hx := B.exec
  have hb := B.bytes
  have hr := B.returns
  have hts := atoms_spec (ws := ws_M_now) B.pre
  have ht : ∀ w ∈ TB, w.before _ s = true := fun w h => hts w (List.mem_cons_of_mem _ h)
  have hown : s.vm.findClass "GridlockDeskModel" = some m.cls := findClass_of_methodNamed B.named
  have hlocks := B.notSynchronized
  have hS : va_S A s.heap s.heap [] := va_S.rf
  have hl := lv_entry ([.ref (ad 0 0)]) (n := 1) (Nat.le_of_ble_eq_true rfl)
  rw [lg_entry_eq]
  generalize (lg_sl ([.ref (ad 0 0)]) ++ List.replicate (1 - (lg_sl ([.ref (ad 0 0)])).length) Slot.unset).toArray = ls at hl ⊢
  have hl : lv_has ls 1 [(0, .ref (ad 0 0))] := hl
  unfold f_M_now at hf

  refine lv_aload_n hx hb d_M_now_0 rfl (lv_at hl 0 rfl) ?_
  refine va_get (D := D) (ci := 3) (C := "GridlockDeskModel") (T := T_M) (N := 22) hx hb ht hin_M hown hK (hW.1.one (t := 0) rfl) 0 rfl rfl 1 (by decide) (ht _ tw_326) (fun _ h9 => h9) rfl d_M_now_1 ?_
  exact W.iret hx hb hr (fun t ht hWm => ⟨⟨_, _, rfl, Option.some.inj hf, by rw [ht]; exact hW, va_K.moved hWm.alike hK⟩, hS.F ht⟩) hS.2.2 d_M_now_4

