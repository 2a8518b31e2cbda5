set_option maxHeartbeats 4000000 in
set_option maxRecDepth 100000 in
theorem m_B_headGoesTo (l : Launch) (D : va_G) (cA : Nat → ClassId) (ad : Nat → Nat → Nat) (n : Nat) (A : Nat → Prop) (σ : St) (a0 : Nat) (ha0 : a0 < n) (out : Int32 × St) (hf : f_B_headGoesTo n σ a0 = some out) : Met l y_B_headGoesTo ws_B_headGoesTo ({ frames := 0, cells := 0, slots := 0, locals := 0 }) (va_Pc [.ref (ad 4 a0)] (fun U => CW D cA ad n A σ U.heap ∧ va_K D vCl (atys cA) U)) (va_Qi (fun r u => (r, u) = out) (fun u t => CW D cA ad n A u t.heap ∧ va_K D vCl (atys cA) t) A) 0 0 A := by
  refine Met.ofW (cc := prog_2_method_4_code) (maxL := 1) (ret := (some .int)) (by decide) rfl ?_
  intro p e s m args below meth c s₁ B hml hv
  obtain ⟨rfl, hW, hK⟩ := hv
  have hx := B.exec
  have hb := B.bytes
  have hr := B.returns
  have hts := atoms_spec (ws := ws_B_headGoesTo) B.pre
  have ht : ∀ w ∈ TB, w.before _ s = true := fun w h => hts w (List.mem_cons_of_mem _ h)
  have hown : s.vm.findClass "GridlockDesk$Bank" = some m.cls := findClass_of_methodNamed B.named
  have hlocks := B.notSynchronized
  have hS : va_S A s.heap s.heap [] := va_S.rf
  have hl := lv_entry ([.ref (ad 4 a0)]) (n := 1) (Nat.le_of_ble_eq_true rfl)
  rw [lg_entry_eq]
  generalize (lg_sl ([.ref (ad 4 a0)]) ++ List.replicate (1 - (lg_sl ([.ref (ad 4 a0)])).length) Slot.unset).toArray = ls at hl ⊢
  have hl : lv_has ls 1 [(0, .ref (ad 4 a0))] := hl
  unfold f_B_headGoesTo at hf

  refine lv_aload_n hx hb d_B_headGoesTo_0 rfl (lv_at hl 0 rfl) ?_
  refine va_get (D := D) (ci := 0) (C := "GridlockDesk$Bank") (T := T_B) (N := 7) hx hb ht hin_B hown hK (hW.1.one (t := 4) ha0) 0 rfl rfl 6 (by decide) (ht _ tw_74) (fun _ h9 => h9) rfl d_B_headGoesTo_1 ?_
  refine lv_if_le (tgt := 19) hx hb d_B_headGoesTo_4 rfl (fun hc => ?_) (fun hc => ?_)
  · replace hf := og_t hc hf
    refine lv_iconst (v := (-1)) hx hb d_B_headGoesTo_19 (by decide) ?_
    exact W.iret hx hb hr (fun t ht hWm => ⟨⟨_, _, rfl, Option.some.inj hf, by rw [ht]; exact hW, va_K.moved hWm.alike hK⟩, hS.F ht⟩) hS.2.2 d_B_headGoesTo_20
  · replace hf := og_f hc hf
    refine lv_aload_n hx hb d_B_headGoesTo_7 rfl (lv_at hl 0 rfl) ?_
    refine va_get (D := D) (ci := 0) (C := "GridlockDesk$Bank") (T := T_B) (N := 7) hx hb ht hin_B hown hK (hW.1.one (t := 4) ha0) 0 rfl rfl 5 (by decide) (ht _ tw_72) (fun _ h9 => h9) rfl d_B_headGoesTo_8 ?_
    refine lv_iconst (v := 0) hx hb d_B_headGoesTo_11 (by decide) ?_
    obtain ⟨hin1, hf⟩ := og_if hf
    refine va_aldq (D := D) hx hb hK (hW.1.one (t := 7) ha0) 0 3 rfl rfl hin1 d_B_headGoesTo_12 ?_
    obtain ⟨k2, hk2, hf⟩ := og_b hf
    obtain ⟨ek2, hk2⟩ := dR_spec hk2
    rw [ek2]
    refine W.eq (g2 := F0 m 13 ls [.ref (ad 8 k2)]) rfl ?_
    refine va_get (D := D) (ci := 1) (C := "GridlockDesk$Payment") (T := T_P) (N := 7) hx hb ht hin_P hown hK (hW.1.one (t := 8) hk2) 0 rfl rfl 2 (by decide) (ht _ tw_223) (fun _ h9 => h9) rfl d_B_headGoesTo_13 ?_
    refine lv_goto (tgt := 20) hx hb d_B_headGoesTo_16 rfl ?_
    exact W.iret hx hb hr (fun t ht hWm => ⟨⟨_, _, rfl, Option.some.inj hf, by rw [ht]; exact hW, va_K.moved hWm.alike hK⟩, hS.F ht⟩) hS.2.2 d_B_headGoesTo_20

set_option maxHeartbeats 4000000 in
set_option maxRecDepth 100000 in
theorem lp_B_sentWith_10_ok {p : Program} {l : Launch} {e : Env} {s : State} {m : MethodId} {args : Array Value} {below : List Frame} {meth : Method} {c : Code} (D : va_G) (cA : Nat → ClassId) (ad : Nat → Nat → Nat) (n : Nat) (A : Nat → Prop) (hx : p.tables.exec = Jvm.exec) (hb : c.code = prog_2_method_5_code) (hml : c.maxLocals = 6) (hr : meth.sig.returnType = (some .long)) (hts : ∀ w ∈ ws_B_sentWith, w.before args s = true) (hown : s.vm.findClass "GridlockDesk$Bank" = some m.cls) (hlocks : meth.locks = false) (hK : va_K D vCl (atys cA) s) (k : St → Int64 → Option (Int64 × St)) (out : Int64 × St) (v0 : Nat) (v1 : Int32) (v2 : Int32) (hk : ∀ (σ : St) (v3 : Int64) (H : Heap) (locs : List Loc) (ls : Array Slot), lv_has ls 6 [(3, .long v3)] → CW D cA ad n A σ H → va_S A s.heap H locs → k σ v3 = some out → W p l e (headSpec ws_B_sentWith ({ frames := 0, cells := 0, slots := 0, locals := 0 })).room s m args below meth c H locs 0 0 (MQ below (va_Ql (fun r u => (r, u) = out) (fun u t => CW D cA ad n A u t.heap ∧ va_K D vCl (atys cA) t) A) args s 0 0 A) (F0 m 58 ls [])) : ∀ (fu : Nat) (σ : St) (v3 : Int64) (v5 : Int32) (H : Heap) (locs : List Loc) (ls : Array Slot), v0 < n → lv_has ls 6 [(0, .ref (ad 4 v0)), (1, .int v1), (2, .int v2), (3, .long v3), (5, .int v5)] → CW D cA ad n A σ H → va_S A s.heap H locs → lp_B_sentWith_10 n k fu σ v0 v1 v2 v3 v5 = some out → W p l e (headSpec ws_B_sentWith ({ frames := 0, cells := 0, slots := 0, locals := 0 })).room s m args below meth c H locs 0 0 (MQ below (va_Ql (fun r u => (r, u) = out) (fun u t => CW D cA ad n A u t.heap ∧ va_K D vCl (atys cA) t) A) args s 0 0 A) (F0 m 10 ls []) := by
  intro fu
  induction fu with
  | zero =>
    intro σ v3 v5 H locs ls hv0 hl hW hS hf
    exact og_n hf
  | succ fu ih =>
    intro σ v3 v5 H locs ls hv0 hl hW hS hf
    rw [lp_B_sentWith_10_s] at hf
    have ht : ∀ w ∈ TB, w.before args s = true := fun w h => hts w (List.mem_cons_of_mem _ h)
    refine lv_iload hx hb d_B_sentWith_10 (lv_at hl 4 rfl) ?_
    refine lv_iload_n hx hb d_B_sentWith_12 rfl (lv_at hl 1 rfl) ?_
    refine lv_icmp_ge (tgt := 58) hx hb d_B_sentWith_13 rfl (fun hc => ?_) (fun hc => ?_)
    · replace hf := og_t hc hf
      exact hk _ _ _ _ _  (lv_sub hl [3] rfl) hW hS hf
    · replace hf := og_f hc hf
      refine lv_iload hx hb d_B_sentWith_16 (lv_at hl 4 rfl) ?_
      refine lv_aload_n hx hb d_B_sentWith_18 rfl (lv_at hl 0 rfl) ?_
      refine va_get (D := D) (ci := 0) (C := "GridlockDesk$Bank") (T := T_B) (N := 7) hx hb ht hin_B hown hK (hW.1.one (t := 4) hv0) 0 rfl rfl 6 (by decide) (ht _ tw_74) (fun _ h9 => h9) rfl d_B_sentWith_19 ?_
      refine lv_icmp_ge (tgt := 58) hx hb d_B_sentWith_22 rfl (fun hc => ?_) (fun hc => ?_)
      · replace hf := og_t hc hf
        exact hk _ _ _ _ _  (lv_sub hl [3] rfl) hW hS hf
      · replace hf := og_f hc hf
        refine lv_aload_n hx hb d_B_sentWith_25 rfl (lv_at hl 0 rfl) ?_
        refine va_get (D := D) (ci := 0) (C := "GridlockDesk$Bank") (T := T_B) (N := 7) hx hb ht hin_B hown hK (hW.1.one (t := 4) hv0) 0 rfl rfl 5 (by decide) (ht _ tw_72) (fun _ h9 => h9) rfl d_B_sentWith_26 ?_
        refine lv_iload hx hb d_B_sentWith_29 (lv_at hl 4 rfl) ?_
        obtain ⟨hin2, hf⟩ := og_if hf
        refine va_aldq (D := D) hx hb hK (hW.1.one (t := 7) hv0) 0 3 rfl rfl hin2 d_B_sentWith_31 ?_
        obtain ⟨k3, hk3, hf⟩ := og_b hf
        obtain ⟨ek3, hk3⟩ := dR_spec hk3
        rw [ek3]
        refine W.eq (g2 := F0 m 32 ls [.ref (ad 8 k3)]) rfl ?_
        refine va_get (D := D) (ci := 1) (C := "GridlockDesk$Payment") (T := T_P) (N := 7) hx hb ht hin_P hown hK (hW.1.one (t := 8) hk3) 0 rfl rfl 2 (by decide) (ht _ tw_223) (fun _ h9 => h9) rfl d_B_sentWith_32 ?_
        refine lv_iload_n hx hb d_B_sentWith_35 rfl (lv_at hl 2 rfl) ?_
        refine lv_icmp_ne (tgt := 52) hx hb d_B_sentWith_36 rfl (fun hc => ?_) (fun hc => ?_)
        · replace hf := og_f hc hf
          refine lv_iinc (k := 4) (v := _ + 1) (lv' := [(5, .int _), (0, .ref _), (1, .int _), (2, .int _), (3, .long _)]) hx hb d_B_sentWith_52 hl rfl rfl (by decide) rfl (fun ls hl => ?_)
          refine lv_goto (tgt := 10) hx hb d_B_sentWith_55 rfl ?_
          exact ih _ _ _ _ _ _ hv0 (lv_sub hl [1, 2, 3, 4, 0] rfl) hW hS hf
        · replace hf := og_t hc hf
          refine lv_lload_n hx hb d_B_sentWith_39 rfl (lv_at hl 3 rfl) ?_
          refine lv_aload_n hx hb d_B_sentWith_40 rfl (lv_at hl 0 rfl) ?_
          refine va_get (D := D) (ci := 0) (C := "GridlockDesk$Bank") (T := T_B) (N := 7) hx hb ht hin_B hown hK (hW.1.one (t := 4) hv0) 0 rfl rfl 5 (by decide) (ht _ tw_72) (fun _ h9 => h9) rfl d_B_sentWith_41 ?_
          refine lv_iload hx hb d_B_sentWith_44 (lv_at hl 4 rfl) ?_
          obtain ⟨hin4, hf⟩ := og_if hf
          refine va_aldq (D := D) hx hb hK (hW.1.one (t := 7) hv0) 0 3 rfl rfl hin4 d_B_sentWith_46 ?_
          obtain ⟨k5, hk5, hf⟩ := og_b hf
          obtain ⟨ek5, hk5⟩ := dR_spec hk5
          rw [ek5]
          refine W.eq (g2 := F0 m 47 ls [.ref (ad 8 k5), _]) rfl ?_
          refine va_get (D := D) (ci := 1) (C := "GridlockDesk$Payment") (T := T_P) (N := 7) hx hb ht hin_P hown hK (hW.1.one (t := 8) hk5) 0 rfl rfl 3 (by decide) (ht _ tw_226) (fun _ h9 => h9) rfl d_B_sentWith_47 ?_
          refine lv_ladd hx hb d_B_sentWith_50 ?_
          refine lv_lstore_n (lv' := [(3, .long _), (0, .ref _), (1, .int _), (2, .int _), (5, .int _)]) hx hb d_B_sentWith_51 rfl hl (by decide) rfl (fun ls hl => ?_)
          refine lv_iinc (k := 4) (v := _ + 1) (lv' := [(5, .int _), (3, .long _), (0, .ref _), (1, .int _), (2, .int _)]) hx hb d_B_sentWith_52 hl rfl rfl (by decide) rfl (fun ls hl => ?_)
          refine lv_goto (tgt := 10) hx hb d_B_sentWith_55 rfl ?_
          exact ih _ _ _ _ _ _ hv0 (lv_sub hl [2, 3, 4, 1, 0] rfl) hW hS hf

set_option maxHeartbeats 4000000 in
set_option maxRecDepth 100000 in
theorem m_B_sentWith (l : Launch) (D : va_G) (cA : Nat → ClassId) (ad : Nat → Nat → Nat) (n : Nat) (A : Nat → Prop) (σ : St) (a0 : Nat) (x1 : Int32) (x2 : Int32) (ha0 : a0 < n) (out : Int64 × St) (hf : f_B_sentWith n σ a0 x1 x2 = some out) : Met l y_B_sentWith ws_B_sentWith ({ frames := 0, cells := 0, slots := 0, locals := 0 }) (va_Pc [.ref (ad 4 a0), .int x1, .int x2] (fun U => CW D cA ad n A σ U.heap ∧ va_K D vCl (atys cA) U)) (va_Ql (fun r u => (r, u) = out) (fun u t => CW D cA ad n A u t.heap ∧ va_K D vCl (atys cA) t) A) 0 0 A := by
  refine Met.ofW (cc := prog_2_method_5_code) (maxL := 6) (ret := (some .long)) (by decide) rfl ?_
  intro p e s m args below meth c s₁ B hml hv
  obtain ⟨rfl, hW, hK⟩ := hv
  have hx := B.exec
  have hb := B.bytes
  have hr := B.returns
  have hts := atoms_spec (ws := ws_B_sentWith) B.pre
  have ht : ∀ w ∈ TB, w.before _ s = true := fun w h => hts w (List.mem_cons_of_mem _ h)
  have hown : s.vm.findClass "GridlockDesk$Bank" = some m.cls := findClass_of_methodNamed B.named
  have hlocks := B.notSynchronized
  have hS : va_S A s.heap s.heap [] := va_S.rf
  have hl := lv_entry ([.ref (ad 4 a0), .int x1, .int x2]) (n := 6) (Nat.le_of_ble_eq_true rfl)
  rw [lg_entry_eq]
  generalize (lg_sl ([.ref (ad 4 a0), .int x1, .int x2]) ++ List.replicate (6 - (lg_sl ([.ref (ad 4 a0), .int x1, .int x2])).length) Slot.unset).toArray = ls at hl ⊢
  have hl : lv_has ls 6 [(0, .ref (ad 4 a0)), (1, .int x1), (2, .int x2)] := hl
  unfold f_B_sentWith at hf

  refine lv_aload_n hx hb d_B_sentWith_0 rfl (lv_at hl 0 rfl) ?_
  refine va_get (D := D) (ci := 0) (C := "GridlockDesk$Bank") (T := T_B) (N := 7) hx hb ht hin_B hown hK (hW.1.one (t := 4) ha0) 0 rfl rfl 4 (by decide) (ht _ tw_70) (fun _ h9 => h9) rfl d_B_sentWith_1 ?_
  refine lv_iload_n hx hb d_B_sentWith_4 rfl (lv_at hl 2 rfl) ?_
  obtain ⟨hin1, hf⟩ := og_if hf
  refine va_lald (D := D) hx hb hK (hW.1.one (t := 6) ha0) 0 0 rfl rfl hin1 d_B_sentWith_5 ?_
  refine lv_lstore_n (lv' := [(3, .long _), (0, .ref _), (1, .int _), (2, .int _)]) hx hb d_B_sentWith_6 rfl hl (by decide) rfl (fun ls hl => ?_)
  refine lv_iconst (v := 0) hx hb d_B_sentWith_7 (by decide) ?_
  refine lv_istore (lv' := [(5, .int _), (3, .long _), (0, .ref _), (1, .int _), (2, .int _)]) hx hb d_B_sentWith_8 hl (by decide) rfl (fun ls hl => ?_)
  refine lp_B_sentWith_10_ok D cA ad n A hx hb hml hr hts hown hlocks hK _ _ _ _ _ (fun σ7 y3_6 H locs ls  hl hW hS hf => ?_) _ _ _ _ _ _ _ ha0 (lv_sub hl [2, 3, 4, 1, 0] rfl) hW hS hf
  refine lv_lload_n hx hb d_B_sentWith_58 rfl (lv_at hl 0 rfl) ?_
  exact W.lret hx hb hr (fun t ht hWm => ⟨⟨_, _, rfl, Option.some.inj hf, by rw [ht]; exact hW, va_K.moved hWm.alike hK⟩, hS.F ht⟩) hS.2.2 d_B_sentWith_59

set_option maxHeartbeats 4000000 in
set_option maxRecDepth 100000 in
theorem lp_B_remove_4_ok {p : Program} {l : Launch} {e : Env} {s : State} {m : MethodId} {args : Array Value} {below : List Frame} {meth : Method} {c : Code} (D : va_G) (cA : Nat → ClassId) (ad : Nat → Nat → Nat) (n : Nat) (A : Nat → Prop) (hx : p.tables.exec = Jvm.exec) (hb : c.code = prog_2_method_3_code) (hml : c.maxLocals = 4) (hr : meth.sig.returnType = none) (hts : ∀ w ∈ ws_B_remove, w.before args s = true) (hown : s.vm.findClass "GridlockDesk$Bank" = some m.cls) (hlocks : meth.locks = false) (hK : va_K D vCl (atys cA) s) (k : St → Int32 → Option (Unit × St)) (out : Unit × St) (v0 : Nat) (v1 : Nat) (hk : ∀ (σ : St) (v2 : Int32) (H : Heap) (locs : List Loc) (ls : Array Slot), lv_has ls 4 [(0, .ref (ad 4 v0)), (2, .int v2)] → CW D cA ad n A σ H → va_S A s.heap H locs → k σ v2 = some out → W p l e (headSpec ws_B_remove ({ frames := 0, cells := 0, slots := 0, locals := 0 })).room s m args below meth c H locs 0 0 (MQ below (va_Qv (fun u => ((), u) = out) (fun u t => CW D cA ad n A u t.heap ∧ va_K D vCl (atys cA) t) A) args s 0 0 A) (F0 m 43 ls [])) : ∀ (fu : Nat) (σ : St) (v2 : Int32) (v3 : Int32) (H : Heap) (locs : List Loc) (ls : Array Slot), v0 < n → lv_has ls 4 [(0, .ref (ad 4 v0)), (1, .ref (ad 8 v1)), (2, .int v2), (3, .int v3)] → CW D cA ad n A σ H → va_S A s.heap H locs → lp_B_remove_4 n k fu σ v0 v1 v2 v3 = some out → W p l e (headSpec ws_B_remove ({ frames := 0, cells := 0, slots := 0, locals := 0 })).room s m args below meth c H locs 0 0 (MQ below (va_Qv (fun u => ((), u) = out) (fun u t => CW D cA ad n A u t.heap ∧ va_K D vCl (atys cA) t) A) args s 0 0 A) (F0 m 4 ls []) := by
  intro fu
  induction fu with
  | zero =>
    intro σ v2 v3 H locs ls hv0 hl hW hS hf
    exact og_n hf
  | succ fu ih =>
    intro σ v2 v3 H locs ls hv0 hl hW hS hf
    rw [lp_B_remove_4_s] at hf
    have ht : ∀ w ∈ TB, w.before args s = true := fun w h => hts w (List.mem_cons_of_mem _ h)
    refine lv_iload_n hx hb d_B_remove_4 rfl (lv_at hl 3 rfl) ?_
    refine lv_aload_n hx hb d_B_remove_5 rfl (lv_at hl 0 rfl) ?_
    refine va_get (D := D) (ci := 0) (C := "GridlockDesk$Bank") (T := T_B) (N := 7) hx hb ht hin_B hown hK (hW.1.one (t := 4) hv0) 0 rfl rfl 6 (by decide) (ht _ tw_74) (fun _ h9 => h9) rfl d_B_remove_6 ?_
    refine lv_icmp_ge (tgt := 43) hx hb d_B_remove_9 rfl (fun hc => ?_) (fun hc => ?_)
    · replace hf := og_t hc hf
      exact hk _ _ _ _ _  (lv_sub hl [0, 2] rfl) hW hS hf
    · replace hf := og_f hc hf
      refine lv_aload_n hx hb d_B_remove_12 rfl (lv_at hl 0 rfl) ?_
      refine va_get (D := D) (ci := 0) (C := "GridlockDesk$Bank") (T := T_B) (N := 7) hx hb ht hin_B hown hK (hW.1.one (t := 4) hv0) 0 rfl rfl 5 (by decide) (ht _ tw_72) (fun _ h9 => h9) rfl d_B_remove_13 ?_
      refine lv_iload_n hx hb d_B_remove_16 rfl (lv_at hl 3 rfl) ?_
      obtain ⟨hin1, hf⟩ := og_if hf
      refine va_aldq (D := D) hx hb hK (hW.1.one (t := 7) hv0) 0 3 rfl rfl hin1 d_B_remove_17 ?_
      refine lv_aload_n hx hb d_B_remove_18 rfl (lv_at hl 1 rfl) ?_
      obtain ⟨k2, hk2, hf⟩ := og_b hf
      obtain ⟨ek2, hk2⟩ := dR_spec hk2
      rw [ek2]
      refine W.eq (g2 := F0 m 19 ls [_, .ref (ad 8 k2)]) rfl ?_
      obtain ⟨hn3, hf⟩ := og_if hf
      refine W.eq (g2 := F0 m 19 ls (va_rf (some (ad 8 _)) :: va_rf (some (ad 8 _)) :: [])) rfl ?_
      refine lv_acmp_eq (tgt := 37) hx hb d_B_remove_19 rfl (fun hc => ?_) (fun hc => ?_)
      · replace hc := (kw_inj (t := 8) hW.1 hk2 hn3).mp hc
        replace hf := og_t hc hf
        refine lv_iinc (k := 3) (v := _ + 1) (lv' := [(3, .int _), (0, .ref _), (1, .ref _), (2, .int _)]) hx hb d_B_remove_37 hl rfl rfl (by decide) rfl (fun ls hl => ?_)
        refine lv_goto (tgt := 4) hx hb d_B_remove_40 rfl ?_
        exact ih _ _ _ _ _ _ hv0 (lv_sub hl [1, 2, 3, 0] rfl) hW hS hf
      · replace hc := fun z => hc ((kw_inj (t := 8) hW.1 hk2 hn3).mpr z)
        replace hf := og_f hc hf
        refine lv_aload_n hx hb d_B_remove_22 rfl (lv_at hl 0 rfl) ?_
        refine va_get (D := D) (ci := 0) (C := "GridlockDesk$Bank") (T := T_B) (N := 7) hx hb ht hin_B hown hK (hW.1.one (t := 4) hv0) 0 rfl rfl 5 (by decide) (ht _ tw_72) (fun _ h9 => h9) rfl d_B_remove_23 ?_
        refine lv_iload_n hx hb d_B_remove_26 rfl (lv_at hl 2 rfl) ?_
        refine lv_aload_n hx hb d_B_remove_27 rfl (lv_at hl 0 rfl) ?_
        refine va_get (D := D) (ci := 0) (C := "GridlockDesk$Bank") (T := T_B) (N := 7) hx hb ht hin_B hown hK (hW.1.one (t := 4) hv0) 0 rfl rfl 5 (by decide) (ht _ tw_72) (fun _ h9 => h9) rfl d_B_remove_28 ?_
        refine lv_iload_n hx hb d_B_remove_31 rfl (lv_at hl 3 rfl) ?_
        obtain ⟨hin4, hf⟩ := og_if hf
        refine va_aldq (D := D) hx hb hK (hW.1.one (t := 7) hv0) 0 3 rfl rfl hin4 d_B_remove_32 ?_
        obtain ⟨k5, hk5, hf⟩ := og_b hf
        obtain ⟨ek5, hk5⟩ := dR_spec hk5
        rw [ek5]
        refine W.eq (g2 := F0 m 33 ls [.ref (ad 8 k5), _, _]) rfl ?_
        obtain ⟨hin6, hf⟩ := og_if hf
        obtain ⟨σ7, eσ7, hf⟩ := og_b hf
        cases eσ7
        refine k_aast  (t := 7) (tv := 8) hx hb hK hW.1 hS hv0 (hW.2 _ _ hv0) 3 1 hk5 rfl rfl rfl rfl hin6 d_B_remove_33 cc_wR1 (fun H locs hW1 hS => ?_)
        have hW := CW.wR hW1 hW.2
        refine lv_iinc (k := 2) (v := _ + 1) (lv' := [(2, .int _), (0, .ref _), (1, .ref _), (3, .int _)]) hx hb d_B_remove_34 hl rfl rfl (by decide) rfl (fun ls hl => ?_)
        refine lv_iinc (k := 3) (v := _ + 1) (lv' := [(3, .int _), (2, .int _), (0, .ref _), (1, .ref _)]) hx hb d_B_remove_37 hl rfl rfl (by decide) rfl (fun ls hl => ?_)
        refine lv_goto (tgt := 4) hx hb d_B_remove_40 rfl ?_
        exact ih _ _ _ _ _ _ hv0 (lv_sub hl [2, 3, 1, 0] rfl) hW hS hf

set_option maxHeartbeats 4000000 in
set_option maxRecDepth 100000 in
theorem m_B_remove (l : Launch) (D : va_G) (cA : Nat → ClassId) (ad : Nat → Nat → Nat) (n : Nat) (A : Nat → Prop) (σ : St) (a0 : Nat) (x1 : Nat) (ha0 : a0 < n) (out : Unit × St) (hf : f_B_remove n σ a0 x1 = some out) : Met l y_B_remove ws_B_remove ({ frames := 0, cells := 0, slots := 0, locals := 0 }) (va_Pc [.ref (ad 4 a0), .ref (ad 8 x1)] (fun U => CW D cA ad n A σ U.heap ∧ va_K D vCl (atys cA) U)) (va_Qv (fun u => ((), u) = out) (fun u t => CW D cA ad n A u t.heap ∧ va_K D vCl (atys cA) t) A) 0 0 A := by
  refine Met.ofW (cc := prog_2_method_3_code) (maxL := 4) (ret := none) (by decide) rfl ?_
  intro p e s m args below meth c s₁ B hml hv
  obtain ⟨rfl, hW, hK⟩ := hv
  have hx := B.exec
  have hb := B.bytes
  have hr := B.returns
  have hts := atoms_spec (ws := ws_B_remove) B.pre
  have ht : ∀ w ∈ TB, w.before _ s = true := fun w h => hts w (List.mem_cons_of_mem _ h)
  have hown : s.vm.findClass "GridlockDesk$Bank" = some m.cls := findClass_of_methodNamed B.named
  have hlocks := B.notSynchronized
  have hS : va_S A s.heap s.heap [] := va_S.rf
  have hl := lv_entry ([.ref (ad 4 a0), .ref (ad 8 x1)]) (n := 4) (Nat.le_of_ble_eq_true rfl)
  rw [lg_entry_eq]
  generalize (lg_sl ([.ref (ad 4 a0), .ref (ad 8 x1)]) ++ List.replicate (4 - (lg_sl ([.ref (ad 4 a0), .ref (ad 8 x1)])).length) Slot.unset).toArray = ls at hl ⊢
  have hl : lv_has ls 4 [(0, .ref (ad 4 a0)), (1, .ref (ad 8 x1))] := hl
  unfold f_B_remove at hf

  refine lv_iconst (v := 0) hx hb d_B_remove_0 (by decide) ?_
  refine lv_istore_n (lv' := [(2, .int _), (0, .ref _), (1, .ref _)]) hx hb d_B_remove_1 rfl hl (by decide) rfl (fun ls hl => ?_)
  refine lv_iconst (v := 0) hx hb d_B_remove_2 (by decide) ?_
  refine lv_istore_n (lv' := [(3, .int _), (2, .int _), (0, .ref _), (1, .ref _)]) hx hb d_B_remove_3 rfl hl (by decide) rfl (fun ls hl => ?_)
  refine lp_B_remove_4_ok D cA ad n A hx hb hml hr hts hown hlocks hK _ _ _ _ (fun σ9 y2_8 H locs ls  hl hW hS hf => ?_) _ _ _ _ _ _ _ ha0 (lv_sub hl [2, 3, 1, 0] rfl) hW hS hf
  refine lv_aload_n hx hb d_B_remove_43 rfl (lv_at hl 0 rfl) ?_
  refine lv_iload_n hx hb d_B_remove_44 rfl (lv_at hl 1 rfl) ?_
  obtain ⟨σ10, eσ10, hf⟩ := og_b hf
  cases eσ10
  refine k_put  (ci := 0) (C := "GridlockDesk$Bank") (T := T_B) (N := 7) (ty := .int) (t := 4) hx hb ht hin_B ft_B ft_B_ok nm_B hown hK hW.1 hS ha0 (hW.2 _ _ ha0) rfl rfl 6 (by decide) (ht _ tw_74) (fun _ h9 => h9) rfl (by decide +kernel) rfl rfl (Nat.le_of_ble_eq_true rfl) d_B_remove_45 cc_wI3 (fun H locs hW1 hS => ?_)
  have hW := CW.wI hW1 hW.2
  exact W.vret hx hb hr (fun t ht hWm => ⟨⟨_, rfl, Option.some.inj hf, by rw [ht]; exact hW, va_K.moved hWm.alike hK⟩, hS.F ht⟩) hS.2.2 d_B_remove_48

set_option maxHeartbeats 4000000 in
set_option maxRecDepth 100000 in
theorem lp_B_enqueue_18_ok {p : Program} {l : Launch} {e : Env} {s : State} {m : MethodId} {args : Array Value} {below : List Frame} {meth : Method} {c : Code} (D : va_G) (cA : Nat → ClassId) (ad : Nat → Nat → Nat) (n : Nat) (A : Nat → Prop) (hx : p.tables.exec = Jvm.exec) (hb : c.code = prog_2_method_2_code) (hml : c.maxLocals = 3) (hr : meth.sig.returnType = none) (hts : ∀ w ∈ ws_B_enqueue, w.before args s = true) (hown : s.vm.findClass "GridlockDesk$Bank" = some m.cls) (hlocks : meth.locks = false) (hK : va_K D vCl (atys cA) s) (k : St → Int32 → Option (Unit × St)) (out : Unit × St) (v0 : Nat) (v1 : Nat) (hk : ∀ (σ : St) (v2 : Int32) (H : Heap) (locs : List Loc) (ls : Array Slot), lv_has ls 3 [(0, .ref (ad 4 v0)), (1, .ref (ad 8 v1)), (2, .int v2)] → CW D cA ad n A σ H → va_S A s.heap H locs → k σ v2 = some out → W p l e (headSpec ws_B_enqueue ({ frames := 0, cells := 0, slots := 0, locals := 0 })).room s m args below meth c H locs 0 0 (MQ below (va_Qv (fun u => ((), u) = out) (fun u t => CW D cA ad n A u t.heap ∧ va_K D vCl (atys cA) t) A) args s 0 0 A) (F0 m 60 ls [])) : ∀ (fu : Nat) (σ : St) (v2 : Int32) (H : Heap) (locs : List Loc) (ls : Array Slot), v0 < n → lv_has ls 3 [(0, .ref (ad 4 v0)), (1, .ref (ad 8 v1)), (2, .int v2)] → CW D cA ad n A σ H → va_S A s.heap H locs → lp_B_enqueue_18 n k fu σ v0 v1 v2 = some out → W p l e (headSpec ws_B_enqueue ({ frames := 0, cells := 0, slots := 0, locals := 0 })).room s m args below meth c H locs 0 0 (MQ below (va_Qv (fun u => ((), u) = out) (fun u t => CW D cA ad n A u t.heap ∧ va_K D vCl (atys cA) t) A) args s 0 0 A) (F0 m 18 ls []) := by
  intro fu
  induction fu with
  | zero =>
    intro σ v2 H locs ls hv0 hl hW hS hf
    exact og_n hf
  | succ fu ih =>
    intro σ v2 H locs ls hv0 hl hW hS hf
    rw [lp_B_enqueue_18_s] at hf
    have ht : ∀ w ∈ TB, w.before args s = true := fun w h => hts w (List.mem_cons_of_mem _ h)
    refine lv_iload_n hx hb d_B_enqueue_18 rfl (lv_at hl 2 rfl) ?_
    refine lv_if_le (tgt := 60) hx hb d_B_enqueue_19 rfl (fun hc => ?_) (fun hc => ?_)
    · replace hf := og_t hc hf
      exact hk _ _ _ _ _  (lv_sub hl [0, 1, 2] rfl) hW hS hf
    · replace hf := og_f hc hf
      refine lv_aload_n hx hb d_B_enqueue_22 rfl (lv_at hl 0 rfl) ?_
      refine va_get (D := D) (ci := 0) (C := "GridlockDesk$Bank") (T := T_B) (N := 7) hx hb ht hin_B hown hK (hW.1.one (t := 4) hv0) 0 rfl rfl 5 (by decide) (ht _ tw_72) (fun _ h9 => h9) rfl d_B_enqueue_23 ?_
      refine lv_iload_n hx hb d_B_enqueue_26 rfl (lv_at hl 2 rfl) ?_
      refine lv_iconst (v := 1) hx hb d_B_enqueue_27 (by decide) ?_
      refine lv_isub hx hb d_B_enqueue_28 ?_
      obtain ⟨hin1, hf⟩ := og_if hf
      refine va_aldq (D := D) hx hb hK (hW.1.one (t := 7) hv0) 0 3 rfl rfl hin1 d_B_enqueue_29 ?_
      obtain ⟨k2, hk2, hf⟩ := og_b hf
      obtain ⟨ek2, hk2⟩ := dR_spec hk2
      rw [ek2]
      refine W.eq (g2 := F0 m 30 ls [.ref (ad 8 k2)]) rfl ?_
      refine va_get (D := D) (ci := 1) (C := "GridlockDesk$Payment") (T := T_P) (N := 7) hx hb ht hin_P hown hK (hW.1.one (t := 8) hk2) 0 rfl rfl 5 (by decide) (ht _ tw_231) (fun _ h9 => h9) rfl d_B_enqueue_30 ?_
      refine lv_aload_n hx hb d_B_enqueue_33 rfl (lv_at hl 1 rfl) ?_
      obtain ⟨hn3, hf⟩ := og_if hf
      refine va_get (D := D) (ci := 1) (C := "GridlockDesk$Payment") (T := T_P) (N := 7) hx hb ht hin_P hown hK (hW.1.one (t := 8) hn3) 0 rfl rfl 5 (by decide) (ht _ tw_231) (fun _ h9 => h9) rfl d_B_enqueue_34 ?_
      refine lv_icmp_ge (tgt := 60) hx hb d_B_enqueue_37 rfl (fun hc => ?_) (fun hc => ?_)
      · replace hf := og_t hc hf
        exact hk _ _ _ _ _  (lv_sub hl [0, 1, 2] rfl) hW hS hf
      · replace hf := og_f hc hf
        refine lv_aload_n hx hb d_B_enqueue_40 rfl (lv_at hl 0 rfl) ?_
        refine va_get (D := D) (ci := 0) (C := "GridlockDesk$Bank") (T := T_B) (N := 7) hx hb ht hin_B hown hK (hW.1.one (t := 4) hv0) 0 rfl rfl 5 (by decide) (ht _ tw_72) (fun _ h9 => h9) rfl d_B_enqueue_41 ?_
        refine lv_iload_n hx hb d_B_enqueue_44 rfl (lv_at hl 2 rfl) ?_
        refine lv_aload_n hx hb d_B_enqueue_45 rfl (lv_at hl 0 rfl) ?_
        refine va_get (D := D) (ci := 0) (C := "GridlockDesk$Bank") (T := T_B) (N := 7) hx hb ht hin_B hown hK (hW.1.one (t := 4) hv0) 0 rfl rfl 5 (by decide) (ht _ tw_72) (fun _ h9 => h9) rfl d_B_enqueue_46 ?_
        refine lv_iload_n hx hb d_B_enqueue_49 rfl (lv_at hl 2 rfl) ?_
        refine lv_iconst (v := 1) hx hb d_B_enqueue_50 (by decide) ?_
        refine lv_isub hx hb d_B_enqueue_51 ?_
        obtain ⟨hin4, hf⟩ := og_if hf
        refine va_aldq (D := D) hx hb hK (hW.1.one (t := 7) hv0) 0 3 rfl rfl hin4 d_B_enqueue_52 ?_
        obtain ⟨k5, hk5, hf⟩ := og_b hf
        obtain ⟨ek5, hk5⟩ := dR_spec hk5
        rw [ek5]
        refine W.eq (g2 := F0 m 53 ls [.ref (ad 8 k5), _, _]) rfl ?_
        obtain ⟨hin6, hf⟩ := og_if hf
        obtain ⟨σ7, eσ7, hf⟩ := og_b hf
        cases eσ7
        refine k_aast  (t := 7) (tv := 8) hx hb hK hW.1 hS hv0 (hW.2 _ _ hv0) 3 1 hk5 rfl rfl rfl rfl hin6 d_B_enqueue_53 cc_wR1 (fun H locs hW1 hS => ?_)
        have hW := CW.wR hW1 hW.2
        refine lv_iinc (k := 2) (v := _ + (-1)) (lv' := [(2, .int _), (0, .ref _), (1, .ref _)]) hx hb d_B_enqueue_54 hl rfl rfl (by decide) rfl (fun ls hl => ?_)
        refine lv_goto (tgt := 18) hx hb d_B_enqueue_57 rfl ?_
        exact ih _ _ _ _ _ hv0 (lv_sub hl [1, 2, 0] rfl) hW hS hf

set_option maxHeartbeats 4000000 in
set_option maxRecDepth 100000 in
theorem m_B_enqueue (l : Launch) (D : va_G) (cA : Nat → ClassId) (ad : Nat → Nat → Nat) (n : Nat) (A : Nat → Prop) (σ : St) (a0 : Nat) (x1 : Nat) (ha0 : a0 < n) (out : Unit × St) (hf : f_B_enqueue n σ a0 x1 = some out) : Met l y_B_enqueue ws_B_enqueue ({ frames := 0, cells := 0, slots := 0, locals := 0 }) (va_Pc [.ref (ad 4 a0), .ref (ad 8 x1)] (fun U => CW D cA ad n A σ U.heap ∧ va_K D vCl (atys cA) U)) (va_Qv (fun u => ((), u) = out) (fun u t => CW D cA ad n A u t.heap ∧ va_K D vCl (atys cA) t) A) 0 0 A := by
  refine Met.ofW (cc := prog_2_method_2_code) (maxL := 3) (ret := none) (by decide) rfl ?_
  intro p e s m args below meth c s₁ B hml hv
  obtain ⟨rfl, hW, hK⟩ := hv
  have hx := B.exec
  have hb := B.bytes
  have hr := B.returns
  have hts := atoms_spec (ws := ws_B_enqueue) B.pre
  have ht : ∀ w ∈ TB, w.before _ s = true := fun w h => hts w (List.mem_cons_of_mem _ h)
  have hown : s.vm.findClass "GridlockDesk$Bank" = some m.cls := findClass_of_methodNamed B.named
  have hlocks := B.notSynchronized
  have hS : va_S A s.heap s.heap [] := va_S.rf
  have hl := lv_entry ([.ref (ad 4 a0), .ref (ad 8 x1)]) (n := 3) (Nat.le_of_ble_eq_true rfl)
  rw [lg_entry_eq]
  generalize (lg_sl ([.ref (ad 4 a0), .ref (ad 8 x1)]) ++ List.replicate (3 - (lg_sl ([.ref (ad 4 a0), .ref (ad 8 x1)])).length) Slot.unset).toArray = ls at hl ⊢
  have hl : lv_has ls 3 [(0, .ref (ad 4 a0)), (1, .ref (ad 8 x1))] := hl
  unfold f_B_enqueue at hf

  refine lv_aload_n hx hb d_B_enqueue_0 rfl (lv_at hl 0 rfl) ?_
  refine va_get (D := D) (ci := 0) (C := "GridlockDesk$Bank") (T := T_B) (N := 7) hx hb ht hin_B hown hK (hW.1.one (t := 4) ha0) 0 rfl rfl 6 (by decide) (ht _ tw_74) (fun _ h9 => h9) rfl d_B_enqueue_1 ?_
  refine lv_aload_n hx hb d_B_enqueue_4 rfl (lv_at hl 0 rfl) ?_
  refine va_get (D := D) (ci := 0) (C := "GridlockDesk$Bank") (T := T_B) (N := 7) hx hb ht hin_B hown hK (hW.1.one (t := 4) ha0) 0 rfl rfl 5 (by decide) (ht _ tw_72) (fun _ h9 => h9) rfl d_B_enqueue_5 ?_
  refine va_alen (D := D) (v := nI 6) hx hb hK (hW.1.one (t := 7) ha0) 0 3 rfl rfl rfl d_B_enqueue_8 ?_
  refine lv_icmp_lt (tgt := 13) hx hb d_B_enqueue_9 rfl (fun hc => ?_) (fun hc => ?_)
  · replace hf := og_t hc hf
    refine lv_aload_n hx hb d_B_enqueue_13 rfl (lv_at hl 0 rfl) ?_
    refine va_get (D := D) (ci := 0) (C := "GridlockDesk$Bank") (T := T_B) (N := 7) hx hb ht hin_B hown hK (hW.1.one (t := 4) ha0) 0 rfl rfl 6 (by decide) (ht _ tw_74) (fun _ h9 => h9) rfl d_B_enqueue_14 ?_
    refine lv_istore_n (lv' := [(2, .int _), (0, .ref _), (1, .ref _)]) hx hb d_B_enqueue_17 rfl hl (by decide) rfl (fun ls hl => ?_)
    refine lp_B_enqueue_18_ok D cA ad n A hx hb hml hr hts hown hlocks hK _ _ _ _ (fun σ9 y2_8 H locs ls  hl hW hS hf => ?_) _ _ _ _ _ _ ha0 (lv_sub hl [1, 2, 0] rfl) hW hS hf
    refine lv_aload_n hx hb d_B_enqueue_60 rfl (lv_at hl 0 rfl) ?_
    refine va_get (D := D) (ci := 0) (C := "GridlockDesk$Bank") (T := T_B) (N := 7) hx hb ht hin_B hown hK (hW.1.one (t := 4) ha0) 0 rfl rfl 5 (by decide) (ht _ tw_72) (fun _ h9 => h9) rfl d_B_enqueue_61 ?_
    refine lv_iload_n hx hb d_B_enqueue_64 rfl (lv_at hl 2 rfl) ?_
    refine lv_aload_n hx hb d_B_enqueue_65 rfl (lv_at hl 1 rfl) ?_
    obtain ⟨hn10, hf⟩ := og_if hf
    obtain ⟨hin11, hf⟩ := og_if hf
    obtain ⟨σ12, eσ12, hf⟩ := og_b hf
    cases eσ12
    refine k_aast  (t := 7) (tv := 8) hx hb hK hW.1 hS ha0 (hW.2 _ _ ha0) 3 1 hn10 rfl rfl rfl rfl hin11 d_B_enqueue_66 cc_wR1 (fun H locs hW1 hS => ?_)
    have hW := CW.wR hW1 hW.2
    refine lv_aload_n hx hb d_B_enqueue_67 rfl (lv_at hl 0 rfl) ?_
    refine lv_dup hx hb d_B_enqueue_68 rfl ?_
    refine va_get (D := D) (ci := 0) (C := "GridlockDesk$Bank") (T := T_B) (N := 7) hx hb ht hin_B hown hK (hW.1.one (t := 4) ha0) 0 rfl rfl 6 (by decide) (ht _ tw_74) (fun _ h9 => h9) rfl d_B_enqueue_69 ?_
    refine lv_iconst (v := 1) hx hb d_B_enqueue_72 (by decide) ?_
    refine lv_iadd hx hb d_B_enqueue_73 ?_
    obtain ⟨σ13, eσ13, hf⟩ := og_b hf
    cases eσ13
    refine k_put  (ci := 0) (C := "GridlockDesk$Bank") (T := T_B) (N := 7) (ty := .int) (t := 4) hx hb ht hin_B ft_B ft_B_ok nm_B hown hK hW.1 hS ha0 (hW.2 _ _ ha0) rfl rfl 6 (by decide) (ht _ tw_74) (fun _ h9 => h9) rfl (by decide +kernel) rfl rfl (Nat.le_of_ble_eq_true rfl) d_B_enqueue_74 cc_wI3 (fun H locs hW1 hS => ?_)
    have hW := CW.wI hW1 hW.2
    exact W.vret hx hb hr (fun t ht hWm => ⟨⟨_, rfl, Option.some.inj hf, by rw [ht]; exact hW, va_K.moved hWm.alike hK⟩, hS.F ht⟩) hS.2.2 d_B_enqueue_77
  · replace hf := og_f hc hf
    exact W.vret hx hb hr (fun t ht hWm => ⟨⟨_, rfl, Option.some.inj hf, by rw [ht]; exact hW, va_K.moved hWm.alike hK⟩, hS.F ht⟩) hS.2.2 d_B_enqueue_12

set_option maxHeartbeats 4000000 in
set_option maxRecDepth 100000 in
theorem m_X_isBank (l : Launch) (D : va_G) (cA : Nat → ClassId) (ad : Nat → Nat → Nat) (n : Nat) (A : Nat → Prop) (σ : St) (x1 : Int32)  (out : Int32 × St) (hf : f_X_isBank n σ x1 = some out) : Met l y_X_isBank ws_X_isBank ({ frames := 0, cells := 0, slots := 0, locals := 0 }) (va_Pc [.ref (ad 0 0), .int x1] (fun U => CW D cA ad n A σ U.heap ∧ va_K D vCl (atys cA) U)) (va_Qi (fun r u => (r, u) = out) (fun u t => CW D cA ad n A u t.heap ∧ va_K D vCl (atys cA) t) A) 0 0 A := by
  refine Met.ofW (cc := prog_1_method_19_code) (maxL := 2) (ret := (some .boolean)) (by decide) rfl ?_
  intro p e s m args below meth c s₁ B hml hv
  obtain ⟨rfl, hW, hK⟩ := hv
  have hx := B.exec
  have hb := B.bytes
  have hr := B.returns
  have hts := atoms_spec (ws := ws_X_isBank) B.pre
  have ht : ∀ w ∈ TB, w.before _ s = true := fun w h => hts w (List.mem_cons_of_mem _ h)
  have hown : s.vm.findClass "GridlockDesk" = some m.cls := findClass_of_methodNamed B.named
  have hlocks := B.notSynchronized
  have hS : va_S A s.heap s.heap [] := va_S.rf
  have hl := lv_entry ([.ref (ad 0 0), .int x1]) (n := 2) (Nat.le_of_ble_eq_true rfl)
  rw [lg_entry_eq]
  generalize (lg_sl ([.ref (ad 0 0), .int x1]) ++ List.replicate (2 - (lg_sl ([.ref (ad 0 0), .int x1])).length) Slot.unset).toArray = ls at hl ⊢
  have hl : lv_has ls 2 [(0, .ref (ad 0 0)), (1, .int x1)] := hl
  unfold f_X_isBank at hf

  refine lv_iload_n hx hb d_X_isBank_0 rfl (lv_at hl 1 rfl) ?_
  refine lv_if_lt (tgt := 17) hx hb d_X_isBank_1 rfl (fun hc => ?_) (fun hc => ?_)
  · replace hf := og_t hc hf
    refine lv_iconst (v := 0) hx hb d_X_isBank_17 (by decide) ?_
    exact W.zret hx hb hr rfl (fun t ht hWm => ⟨⟨_, _, rfl, Option.some.inj hf, by rw [ht]; exact hW, va_K.moved hWm.alike hK⟩, hS.F ht⟩) hS.2.2 d_X_isBank_18
  · replace hf := og_f hc hf
    refine lv_iload_n hx hb d_X_isBank_4 rfl (lv_at hl 1 rfl) ?_
    refine lv_aload_n hx hb d_X_isBank_5 rfl (lv_at hl 0 rfl) ?_
    refine va_get (D := D) (ci := 2) (C := "GridlockDesk") (T := T_X) (N := 6) hx hb ht hin_X hown hK (hW.1.one (t := 0) rfl) 0 rfl rfl 0 (by decide) (ht _ tw_93) (fun _ h9 => h9) rfl d_X_isBank_6 ?_
    refine va_alen (D := D) (v := nI n) hx hb hK (hW.1.one (t := 1) rfl) 0 2 rfl rfl rfl d_X_isBank_9 ?_
    refine lv_icmp_ge (tgt := 17) hx hb d_X_isBank_10 rfl (fun hc => ?_) (fun hc => ?_)
    · replace hf := og_t hc hf
      refine lv_iconst (v := 0) hx hb d_X_isBank_17 (by decide) ?_
      exact W.zret hx hb hr rfl (fun t ht hWm => ⟨⟨_, _, rfl, Option.some.inj hf, by rw [ht]; exact hW, va_K.moved hWm.alike hK⟩, hS.F ht⟩) hS.2.2 d_X_isBank_18
    · replace hf := og_f hc hf
      refine lv_iconst (v := 1) hx hb d_X_isBank_13 (by decide) ?_
      refine lv_goto (tgt := 18) hx hb d_X_isBank_14 rfl ?_
      exact W.zret hx hb hr rfl (fun t ht hWm => ⟨⟨_, _, rfl, Option.some.inj hf, by rw [ht]; exact hW, va_K.moved hWm.alike hK⟩, hS.F ht⟩) hS.2.2 d_X_isBank_18

set_option maxHeartbeats 4000000 in
set_option maxRecDepth 100000 in
theorem m_X_areTwoBanks (l : Launch) (D : va_G) (cA : Nat → ClassId) (ad : Nat → Nat → Nat) (n : Nat) (A : Nat → Prop) (σ : St) (x1 : Int32) (x2 : Int32)  (out : Int32 × St) (hf : f_X_areTwoBanks n σ x1 x2 = some out) : Met l y_X_areTwoBanks ws_X_areTwoBanks ({ frames := 1, cells := 0, slots := 0, locals := 21 }) (va_Pc [.ref (ad 0 0), .int x1, .int x2] (fun U => CW D cA ad n A σ U.heap ∧ va_K D vCl (atys cA) U)) (va_Qi (fun r u => (r, u) = out) (fun u t => CW D cA ad n A u t.heap ∧ va_K D vCl (atys cA) t) A) 0 0 A := by
  refine Met.ofW (cc := prog_1_method_20_code) (maxL := 3) (ret := (some .boolean)) (by decide) rfl ?_
  intro p e s m args below meth c s₁ B hml hv
  obtain ⟨rfl, hW, hK⟩ := hv
  have hx := B.exec
  have hb := B.bytes
  have hr := B.returns
  have hts := atoms_spec (ws := ws_X_areTwoBanks) B.pre
  have ht : ∀ w ∈ TB, w.before _ s = true := fun w h => hts w (List.mem_cons_of_mem _ h)
  have hown : s.vm.findClass "GridlockDesk" = some m.cls := findClass_of_methodNamed B.named
  have hlocks := B.notSynchronized
  have hS : va_S A s.heap s.heap [] := va_S.rf
  have hl := lv_entry ([.ref (ad 0 0), .int x1, .int x2]) (n := 3) (Nat.le_of_ble_eq_true rfl)
  rw [lg_entry_eq]
  generalize (lg_sl ([.ref (ad 0 0), .int x1, .int x2]) ++ List.replicate (3 - (lg_sl ([.ref (ad 0 0), .int x1, .int x2])).length) Slot.unset).toArray = ls at hl ⊢
  have hl : lv_has ls 3 [(0, .ref (ad 0 0)), (1, .int x1), (2, .int x2)] := hl
  unfold f_X_areTwoBanks at hf

  refine lv_aload_n hx hb d_X_areTwoBanks_0 rfl (lv_at hl 0 rfl) ?_
  refine lv_iload_n hx hb d_X_areTwoBanks_1 rfl (lv_at hl 1 rfl) ?_
  obtain ⟨o1, ho1, hf⟩ := og_b hf
  refine kc_i (P := (fun u H => CW D cA ad n A u H)) (va_runV (C := "GridlockDesk") (As := [.int _]) (rest := []) ⟨hx, hb, hml, hown, hts⟩ (m_X_isBank l D cA ad n A _  _  o1 ho1) (cwV 1 hts (tb_V tw_117 tw_119 tw_0 tw_31 tw_120) rfl rfl rfl (by decide +kernel) ⟨Nat.le_of_ble_eq_true rfl, Nat.le_of_ble_eq_true rfl⟩) ⟨k_blind, kw.recv hK hW.1 (t := 0) rfl rfl rfl, k_pre hW hK⟩ rfl rfl hl.1 rfl (lv_room (Nat.le_of_ble_eq_true rfl)) d_X_areTwoBanks_2 ⟨Nat.zero_le _, Nat.zero_le _⟩) hS (fun H locs hW hS => ?_)
  refine lv_if_eq (tgt := 25) hx hb d_X_areTwoBanks_5 rfl (fun hc => ?_) (fun hc => ?_)
  · replace hf := og_t hc hf
    refine lv_iconst (v := 0) hx hb d_X_areTwoBanks_25 (by decide) ?_
    exact W.zret hx hb hr rfl (fun t ht hWm => ⟨⟨_, _, rfl, Option.some.inj hf, by rw [ht]; exact hW, va_K.moved hWm.alike hK⟩, hS.F ht⟩) hS.2.2 d_X_areTwoBanks_26
  · replace hf := og_f hc hf
    refine lv_aload_n hx hb d_X_areTwoBanks_8 rfl (lv_at hl 0 rfl) ?_
    refine lv_iload_n hx hb d_X_areTwoBanks_9 rfl (lv_at hl 2 rfl) ?_
    obtain ⟨o2, ho2, hf⟩ := og_b hf
    refine kc_i (P := (fun u H => CW D cA ad n A u H)) (va_runV (C := "GridlockDesk") (As := [.int _]) (rest := []) ⟨hx, hb, hml, hown, hts⟩ (m_X_isBank l D cA ad n A _  _  o2 ho2) (cwV 1 hts (tb_V tw_117 tw_119 tw_0 tw_31 tw_120) rfl rfl rfl (by decide +kernel) ⟨Nat.le_of_ble_eq_true rfl, Nat.le_of_ble_eq_true rfl⟩) ⟨k_blind, kw.recv hK hW.1 (t := 0) rfl rfl rfl, k_pre hW hK⟩ rfl rfl hl.1 rfl (lv_room (Nat.le_of_ble_eq_true rfl)) d_X_areTwoBanks_10 ⟨Nat.zero_le _, Nat.zero_le _⟩) hS (fun H locs hW hS => ?_)
    refine lv_if_eq (tgt := 25) hx hb d_X_areTwoBanks_13 rfl (fun hc => ?_) (fun hc => ?_)
    · replace hf := og_t hc hf
      refine lv_iconst (v := 0) hx hb d_X_areTwoBanks_25 (by decide) ?_
      exact W.zret hx hb hr rfl (fun t ht hWm => ⟨⟨_, _, rfl, Option.some.inj hf, by rw [ht]; exact hW, va_K.moved hWm.alike hK⟩, hS.F ht⟩) hS.2.2 d_X_areTwoBanks_26
    · replace hf := og_f hc hf
      refine lv_iload_n hx hb d_X_areTwoBanks_16 rfl (lv_at hl 1 rfl) ?_
      refine lv_iload_n hx hb d_X_areTwoBanks_17 rfl (lv_at hl 2 rfl) ?_
      refine lv_icmp_eq (tgt := 25) hx hb d_X_areTwoBanks_18 rfl (fun hc => ?_) (fun hc => ?_)
      · replace hf := og_t hc hf
        refine lv_iconst (v := 0) hx hb d_X_areTwoBanks_25 (by decide) ?_
        exact W.zret hx hb hr rfl (fun t ht hWm => ⟨⟨_, _, rfl, Option.some.inj hf, by rw [ht]; exact hW, va_K.moved hWm.alike hK⟩, hS.F ht⟩) hS.2.2 d_X_areTwoBanks_26
      · replace hf := og_f hc hf
        refine lv_iconst (v := 1) hx hb d_X_areTwoBanks_21 (by decide) ?_
        refine lv_goto (tgt := 26) hx hb d_X_areTwoBanks_22 rfl ?_
        exact W.zret hx hb hr rfl (fun t ht hWm => ⟨⟨_, _, rfl, Option.some.inj hf, by rw [ht]; exact hW, va_K.moved hWm.alike hK⟩, hS.F ht⟩) hS.2.2 d_X_areTwoBanks_26

set_option maxHeartbeats 4000000 in
set_option maxRecDepth 100000 in
theorem m_X_isPayment (l : Launch) (D : va_G) (cA : Nat → ClassId) (ad : Nat → Nat → Nat) (n : Nat) (A : Nat → Prop) (σ : St) (x1 : Int32)  (out : Int32 × St) (hf : f_X_isPayment n σ x1 = some out) : Met l y_X_isPayment ws_X_isPayment ({ frames := 0, cells := 0, slots := 0, locals := 0 }) (va_Pc [.ref (ad 0 0), .int x1] (fun U => CW D cA ad n A σ U.heap ∧ va_K D vCl (atys cA) U)) (va_Qi (fun r u => (r, u) = out) (fun u t => CW D cA ad n A u t.heap ∧ va_K D vCl (atys cA) t) A) 0 0 A := by
  refine Met.ofW (cc := prog_1_method_21_code) (maxL := 2) (ret := (some .boolean)) (by decide) rfl ?_
  intro p e s m args below meth c s₁ B hml hv
  obtain ⟨rfl, hW, hK⟩ := hv
  have hx := B.exec
  have hb := B.bytes
  have hr := B.returns
  have hts := atoms_spec (ws := ws_X_isPayment) B.pre
  have ht : ∀ w ∈ TB, w.before _ s = true := fun w h => hts w (List.mem_cons_of_mem _ h)
  have hown : s.vm.findClass "GridlockDesk" = some m.cls := findClass_of_methodNamed B.named
  have hlocks := B.notSynchronized
  have hS : va_S A s.heap s.heap [] := va_S.rf
  have hl := lv_entry ([.ref (ad 0 0), .int x1]) (n := 2) (Nat.le_of_ble_eq_true rfl)
  rw [lg_entry_eq]
  generalize (lg_sl ([.ref (ad 0 0), .int x1]) ++ List.replicate (2 - (lg_sl ([.ref (ad 0 0), .int x1])).length) Slot.unset).toArray = ls at hl ⊢
  have hl : lv_has ls 2 [(0, .ref (ad 0 0)), (1, .int x1)] := hl
  unfold f_X_isPayment at hf

  refine lv_iload_n hx hb d_X_isPayment_0 rfl (lv_at hl 1 rfl) ?_
  refine lv_if_lt (tgt := 16) hx hb d_X_isPayment_1 rfl (fun hc => ?_) (fun hc => ?_)
  · replace hf := og_t hc hf
    refine lv_iconst (v := 0) hx hb d_X_isPayment_16 (by decide) ?_
    exact W.zret hx hb hr rfl (fun t ht hWm => ⟨⟨_, _, rfl, Option.some.inj hf, by rw [ht]; exact hW, va_K.moved hWm.alike hK⟩, hS.F ht⟩) hS.2.2 d_X_isPayment_17
  · replace hf := og_f hc hf
    refine lv_iload_n hx hb d_X_isPayment_4 rfl (lv_at hl 1 rfl) ?_
    refine lv_aload_n hx hb d_X_isPayment_5 rfl (lv_at hl 0 rfl) ?_
    refine va_get (D := D) (ci := 2) (C := "GridlockDesk") (T := T_X) (N := 6) hx hb ht hin_X hown hK (hW.1.one (t := 0) rfl) 0 rfl rfl 2 (by decide) (ht _ tw_95) (fun _ h9 => h9) rfl d_X_isPayment_6 ?_
    refine lv_icmp_ge (tgt := 16) hx hb d_X_isPayment_9 rfl (fun hc => ?_) (fun hc => ?_)
    · replace hf := og_t hc hf
      refine lv_iconst (v := 0) hx hb d_X_isPayment_16 (by decide) ?_
      exact W.zret hx hb hr rfl (fun t ht hWm => ⟨⟨_, _, rfl, Option.some.inj hf, by rw [ht]; exact hW, va_K.moved hWm.alike hK⟩, hS.F ht⟩) hS.2.2 d_X_isPayment_17
    · replace hf := og_f hc hf
      refine lv_iconst (v := 1) hx hb d_X_isPayment_12 (by decide) ?_
      refine lv_goto (tgt := 17) hx hb d_X_isPayment_13 rfl ?_
      exact W.zret hx hb hr rfl (fun t ht hWm => ⟨⟨_, _, rfl, Option.some.inj hf, by rw [ht]; exact hW, va_K.moved hWm.alike hK⟩, hS.F ht⟩) hS.2.2 d_X_isPayment_17

set_option maxHeartbeats 4000000 in
set_option maxRecDepth 100000 in
theorem m_X_isQueued (l : Launch) (D : va_G) (cA : Nat → ClassId) (ad : Nat → Nat → Nat) (n : Nat) (A : Nat → Prop) (σ : St) (x1 : Int32)  (out : Int32 × St) (hf : f_X_isQueued n σ x1 = some out) : Met l y_X_isQueued ws_X_isQueued ({ frames := 1, cells := 0, slots := 0, locals := 21 }) (va_Pc [.ref (ad 0 0), .int x1] (fun U => CW D cA ad n A σ U.heap ∧ va_K D vCl (atys cA) U)) (va_Qi (fun r u => (r, u) = out) (fun u t => CW D cA ad n A u t.heap ∧ va_K D vCl (atys cA) t) A) 0 0 A := by
  refine Met.ofW (cc := prog_1_method_22_code) (maxL := 2) (ret := (some .boolean)) (by decide) rfl ?_
  intro p e s m args below meth c s₁ B hml hv
  obtain ⟨rfl, hW, hK⟩ := hv
  have hx := B.exec
  have hb := B.bytes
  have hr := B.returns
  have hts := atoms_spec (ws := ws_X_isQueued) B.pre
  have ht : ∀ w ∈ TB, w.before _ s = true := fun w h => hts w (List.mem_cons_of_mem _ h)
  have hown : s.vm.findClass "GridlockDesk" = some m.cls := findClass_of_methodNamed B.named
  have hlocks := B.notSynchronized
  have hS : va_S A s.heap s.heap [] := va_S.rf
  have hl := lv_entry ([.ref (ad 0 0), .int x1]) (n := 2) (Nat.le_of_ble_eq_true rfl)
  rw [lg_entry_eq]
  generalize (lg_sl ([.ref (ad 0 0), .int x1]) ++ List.replicate (2 - (lg_sl ([.ref (ad 0 0), .int x1])).length) Slot.unset).toArray = ls at hl ⊢
  have hl : lv_has ls 2 [(0, .ref (ad 0 0)), (1, .int x1)] := hl
  unfold f_X_isQueued at hf

  refine lv_aload_n hx hb d_X_isQueued_0 rfl (lv_at hl 0 rfl) ?_
  refine lv_iload_n hx hb d_X_isQueued_1 rfl (lv_at hl 1 rfl) ?_
  obtain ⟨o1, ho1, hf⟩ := og_b hf
  refine kc_i (P := (fun u H => CW D cA ad n A u H)) (va_runV (C := "GridlockDesk") (As := [.int _]) (rest := []) ⟨hx, hb, hml, hown, hts⟩ (m_X_isPayment l D cA ad n A _  _  o1 ho1) (cwV 1 hts (tb_V tw_262 tw_264 tw_14 tw_31 tw_265) rfl rfl rfl (by decide +kernel) ⟨Nat.le_of_ble_eq_true rfl, Nat.le_of_ble_eq_true rfl⟩) ⟨k_blind, kw.recv hK hW.1 (t := 0) rfl rfl rfl, k_pre hW hK⟩ rfl rfl hl.1 rfl (lv_room (Nat.le_of_ble_eq_true rfl)) d_X_isQueued_2 ⟨Nat.zero_le _, Nat.zero_le _⟩) hS (fun H locs hW hS => ?_)
  refine lv_if_eq (tgt := 24) hx hb d_X_isQueued_5 rfl (fun hc => ?_) (fun hc => ?_)
  · replace hf := og_t hc hf
    refine lv_iconst (v := 0) hx hb d_X_isQueued_24 (by decide) ?_
    exact W.zret hx hb hr rfl (fun t ht hWm => ⟨⟨_, _, rfl, Option.some.inj hf, by rw [ht]; exact hW, va_K.moved hWm.alike hK⟩, hS.F ht⟩) hS.2.2 d_X_isQueued_25
  · replace hf := og_f hc hf
    refine lv_aload_n hx hb d_X_isQueued_8 rfl (lv_at hl 0 rfl) ?_
    refine va_get (D := D) (ci := 2) (C := "GridlockDesk") (T := T_X) (N := 6) hx hb ht hin_X hown hK (hW.1.one (t := 0) rfl) 0 rfl rfl 1 (by decide) (ht _ tw_94) (fun _ h9 => h9) rfl d_X_isQueued_9 ?_
    refine lv_iload_n hx hb d_X_isQueued_12 rfl (lv_at hl 1 rfl) ?_
    obtain ⟨hin2, hf⟩ := og_if hf
    refine va_aldq (D := D) hx hb hK (hW.1.one (t := 2) rfl) 0 3 rfl rfl hin2 d_X_isQueued_13 ?_
    obtain ⟨k3, hk3, hf⟩ := og_b hf
    obtain ⟨ek3, hk3⟩ := dR_spec hk3
    rw [ek3]
    refine W.eq (g2 := F0 m 14 ls [.ref (ad 8 k3)]) rfl ?_
    refine va_get (D := D) (ci := 1) (C := "GridlockDesk$Payment") (T := T_P) (N := 7) hx hb ht hin_P hown hK (hW.1.one (t := 8) hk3) 0 rfl rfl 6 (by decide) (ht _ tw_234) (fun _ h9 => h9) rfl d_X_isQueued_14 ?_
    refine lv_if_ne (tgt := 24) hx hb d_X_isQueued_17 rfl (fun hc => ?_) (fun hc => ?_)
    · replace hf := og_f hc hf
      refine lv_iconst (v := 0) hx hb d_X_isQueued_24 (by decide) ?_
      exact W.zret hx hb hr rfl (fun t ht hWm => ⟨⟨_, _, rfl, Option.some.inj hf, by rw [ht]; exact hW, va_K.moved hWm.alike hK⟩, hS.F ht⟩) hS.2.2 d_X_isQueued_25
    · replace hf := og_t hc hf
      refine lv_iconst (v := 1) hx hb d_X_isQueued_20 (by decide) ?_
      refine lv_goto (tgt := 25) hx hb d_X_isQueued_21 rfl ?_
      exact W.zret hx hb hr rfl (fun t ht hWm => ⟨⟨_, _, rfl, Option.some.inj hf, by rw [ht]; exact hW, va_K.moved hWm.alike hK⟩, hS.F ht⟩) hS.2.2 d_X_isQueued_25

set_option maxHeartbeats 4000000 in
set_option maxRecDepth 100000 in
theorem m_X_isPriority (l : Launch) (D : va_G) (cA : Nat → ClassId) (ad : Nat → Nat → Nat) (n : Nat) (A : Nat → Prop) (σ : St) (x1 : Int32)  (out : Int32 × St) (hf : f_X_isPriority n σ x1 = some out) : Met l y_X_isPriority ws_X_isPriority ({ frames := 0, cells := 0, slots := 0, locals := 0 }) (va_Pc [.int x1] (fun U => CW D cA ad n A σ U.heap ∧ va_K D vCl (atys cA) U)) (va_Qi (fun r u => (r, u) = out) (fun u t => CW D cA ad n A u t.heap ∧ va_K D vCl (atys cA) t) A) 0 0 A := by
  refine Met.ofW (cc := prog_1_method_23_code) (maxL := 1) (ret := (some .boolean)) (by decide) rfl ?_
  intro p e s m args below meth c s₁ B hml hv
  obtain ⟨rfl, hW, hK⟩ := hv
  have hx := B.exec
  have hb := B.bytes
  have hr := B.returns
  have hts := atoms_spec (ws := ws_X_isPriority) B.pre
  have ht : ∀ w ∈ TB, w.before _ s = true := fun w h => hts w (List.mem_cons_of_mem _ h)
  have hown : s.vm.findClass "GridlockDesk" = some m.cls := findClass_of_methodNamed B.named
  have hlocks := B.notSynchronized
  have hS : va_S A s.heap s.heap [] := va_S.rf
  have hl := lv_entry ([.int x1]) (n := 1) (Nat.le_of_ble_eq_true rfl)
  rw [lg_entry_eq]
  generalize (lg_sl ([.int x1]) ++ List.replicate (1 - (lg_sl ([.int x1])).length) Slot.unset).toArray = ls at hl ⊢
  have hl : lv_has ls 1 [(0, .int x1)] := hl
  unfold f_X_isPriority at hf

  refine lv_iload_n hx hb d_X_isPriority_0 rfl (lv_at hl 0 rfl) ?_
  refine lv_if_lt (tgt := 13) hx hb d_X_isPriority_1 rfl (fun hc => ?_) (fun hc => ?_)
  · replace hf := og_t hc hf
    refine lv_iconst (v := 0) hx hb d_X_isPriority_13 (by decide) ?_
    exact W.zret hx hb hr rfl (fun t ht hWm => ⟨⟨_, _, rfl, Option.some.inj hf, by rw [ht]; exact hW, va_K.moved hWm.alike hK⟩, hS.F ht⟩) hS.2.2 d_X_isPriority_14
  · replace hf := og_f hc hf
    refine lv_iload_n hx hb d_X_isPriority_4 rfl (lv_at hl 0 rfl) ?_
    refine lv_iconst (v := 3) hx hb d_X_isPriority_5 (by decide) ?_
    refine lv_icmp_gt (tgt := 13) hx hb d_X_isPriority_6 rfl (fun hc => ?_) (fun hc => ?_)
    · replace hf := og_t hc hf
      refine lv_iconst (v := 0) hx hb d_X_isPriority_13 (by decide) ?_
      exact W.zret hx hb hr rfl (fun t ht hWm => ⟨⟨_, _, rfl, Option.some.inj hf, by rw [ht]; exact hW, va_K.moved hWm.alike hK⟩, hS.F ht⟩) hS.2.2 d_X_isPriority_14
    · replace hf := og_f hc hf
      refine lv_iconst (v := 1) hx hb d_X_isPriority_9 (by decide) ?_
      refine lv_goto (tgt := 14) hx hb d_X_isPriority_10 rfl ?_
      exact W.zret hx hb hr rfl (fun t ht hWm => ⟨⟨_, _, rfl, Option.some.inj hf, by rw [ht]; exact hW, va_K.moved hWm.alike hK⟩, hS.F ht⟩) hS.2.2 d_X_isPriority_14

set_option maxHeartbeats 4000000 in
set_option maxRecDepth 100000 in
theorem m_X_isLimit (l : Launch) (D : va_G) (cA : Nat → ClassId) (ad : Nat → Nat → Nat) (n : Nat) (A : Nat → Prop) (σ : St) (x1 : Int64)  (out : Int32 × St) (hf : f_X_isLimit n σ x1 = some out) : Met l y_X_isLimit ws_X_isLimit ({ frames := 0, cells := 0, slots := 0, locals := 0 }) (va_Pc [.long x1] (fun U => CW D cA ad n A σ U.heap ∧ va_K D vCl (atys cA) U)) (va_Qi (fun r u => (r, u) = out) (fun u t => CW D cA ad n A u t.heap ∧ va_K D vCl (atys cA) t) A) 0 0 A := by
  refine Met.ofW (cc := prog_1_method_24_code) (maxL := 2) (ret := (some .boolean)) (by decide) rfl ?_
  intro p e s m args below meth c s₁ B hml hv
  obtain ⟨rfl, hW, hK⟩ := hv
  have hx := B.exec
  have hb := B.bytes
  have hr := B.returns
  have hts := atoms_spec (ws := ws_X_isLimit) B.pre
  have ht : ∀ w ∈ TB, w.before _ s = true := fun w h => hts w (List.mem_cons_of_mem _ h)
  have hown : s.vm.findClass "GridlockDesk" = some m.cls := findClass_of_methodNamed B.named
  have hlocks := B.notSynchronized
  have hS : va_S A s.heap s.heap [] := va_S.rf
  have hl := lv_entry ([.long x1]) (n := 2) (Nat.le_of_ble_eq_true rfl)
  rw [lg_entry_eq]
  generalize (lg_sl ([.long x1]) ++ List.replicate (2 - (lg_sl ([.long x1])).length) Slot.unset).toArray = ls at hl ⊢
  have hl : lv_has ls 2 [(0, .long x1)] := hl
  unfold f_X_isLimit at hf

  refine lv_lload_n hx hb d_X_isLimit_0 rfl (lv_at hl 0 rfl) ?_
  refine lv_ldc2 (v := (-1)) hx hb hown (ht _ tw_153) d_X_isLimit_1 ?_
  refine lc_eq (tgt := 22) hx hb d_X_isLimit_4 d_X_isLimit_5 rfl (fun hc => ?_) (fun hc => ?_)
  · replace hf := og_t hc hf
    refine lv_iconst (v := 1) hx hb d_X_isLimit_22 (by decide) ?_
    refine lv_goto (tgt := 27) hx hb d_X_isLimit_23 rfl ?_
    exact W.zret hx hb hr rfl (fun t ht hWm => ⟨⟨_, _, rfl, Option.some.inj hf, by rw [ht]; exact hW, va_K.moved hWm.alike hK⟩, hS.F ht⟩) hS.2.2 d_X_isLimit_27
  · replace hf := og_f hc hf
    refine lv_lload_n hx hb d_X_isLimit_8 rfl (lv_at hl 0 rfl) ?_
    refine lv_lconst (v := 0) hx hb d_X_isLimit_9 (by decide) ?_
    refine lc_lt (tgt := 26) hx hb d_X_isLimit_10 d_X_isLimit_11 rfl (fun hc => ?_) (fun hc => ?_)
    · replace hf := og_t hc hf
      refine lv_iconst (v := 0) hx hb d_X_isLimit_26 (by decide) ?_
      exact W.zret hx hb hr rfl (fun t ht hWm => ⟨⟨_, _, rfl, Option.some.inj hf, by rw [ht]; exact hW, va_K.moved hWm.alike hK⟩, hS.F ht⟩) hS.2.2 d_X_isLimit_27
    · replace hf := og_f hc hf
      refine lv_lload_n hx hb d_X_isLimit_14 rfl (lv_at hl 0 rfl) ?_
      refine lv_ldc2 (v := 1000000000000000) hx hb hown (ht _ tw_186) d_X_isLimit_15 ?_
      refine lc_gt (tgt := 26) hx hb d_X_isLimit_18 d_X_isLimit_19 rfl (fun hc => ?_) (fun hc => ?_)
      · replace hf := og_t hc hf
        refine lv_iconst (v := 0) hx hb d_X_isLimit_26 (by decide) ?_
        exact W.zret hx hb hr rfl (fun t ht hWm => ⟨⟨_, _, rfl, Option.some.inj hf, by rw [ht]; exact hW, va_K.moved hWm.alike hK⟩, hS.F ht⟩) hS.2.2 d_X_isLimit_27
      · replace hf := og_f hc hf
        refine lv_iconst (v := 1) hx hb d_X_isLimit_22 (by decide) ?_
        refine lv_goto (tgt := 27) hx hb d_X_isLimit_23 rfl ?_
        exact W.zret hx hb hr rfl (fun t ht hWm => ⟨⟨_, _, rfl, Option.some.inj hf, by rw [ht]; exact hW, va_K.moved hWm.alike hK⟩, hS.F ht⟩) hS.2.2 d_X_isLimit_27

set_option maxHeartbeats 4000000 in
set_option maxRecDepth 100000 in
theorem m_X_exceeds (l : Launch) (D : va_G) (cA : Nat → ClassId) (ad : Nat → Nat → Nat) (n : Nat) (A : Nat → Prop) (σ : St) (x1 : Int64) (x2 : Int64)  (out : Int32 × St) (hf : f_X_exceeds n σ x1 x2 = some out) : Met l y_X_exceeds ws_X_exceeds ({ frames := 0, cells := 0, slots := 0, locals := 0 }) (va_Pc [.long x1, .long x2] (fun U => CW D cA ad n A σ U.heap ∧ va_K D vCl (atys cA) U)) (va_Qi (fun r u => (r, u) = out) (fun u t => CW D cA ad n A u t.heap ∧ va_K D vCl (atys cA) t) A) 0 0 A := by
  refine Met.ofW (cc := prog_1_method_25_code) (maxL := 4) (ret := (some .boolean)) (by decide) rfl ?_
  intro p e s m args below meth c s₁ B hml hv
  obtain ⟨rfl, hW, hK⟩ := hv
  have hx := B.exec
  have hb := B.bytes
  have hr := B.returns
  have hts := atoms_spec (ws := ws_X_exceeds) B.pre
  have ht : ∀ w ∈ TB, w.before _ s = true := fun w h => hts w (List.mem_cons_of_mem _ h)
  have hown : s.vm.findClass "GridlockDesk" = some m.cls := findClass_of_methodNamed B.named
  have hlocks := B.notSynchronized
  have hS : va_S A s.heap s.heap [] := va_S.rf
  have hl := lv_entry ([.long x1, .long x2]) (n := 4) (Nat.le_of_ble_eq_true rfl)
  rw [lg_entry_eq]
  generalize (lg_sl ([.long x1, .long x2]) ++ List.replicate (4 - (lg_sl ([.long x1, .long x2])).length) Slot.unset).toArray = ls at hl ⊢
  have hl : lv_has ls 4 [(0, .long x1), (2, .long x2)] := hl
  unfold f_X_exceeds at hf

  refine lv_lload_n hx hb d_X_exceeds_0 rfl (lv_at hl 1 rfl) ?_
  refine lv_ldc2 (v := (-1)) hx hb hown (ht _ tw_153) d_X_exceeds_1 ?_
  refine lc_eq (tgt := 18) hx hb d_X_exceeds_4 d_X_exceeds_5 rfl (fun hc => ?_) (fun hc => ?_)
  · replace hf := og_t hc hf
    refine lv_iconst (v := 0) hx hb d_X_exceeds_18 (by decide) ?_
    exact W.zret hx hb hr rfl (fun t ht hWm => ⟨⟨_, _, rfl, Option.some.inj hf, by rw [ht]; exact hW, va_K.moved hWm.alike hK⟩, hS.F ht⟩) hS.2.2 d_X_exceeds_19
  · replace hf := og_f hc hf
    refine lv_lload_n hx hb d_X_exceeds_8 rfl (lv_at hl 0 rfl) ?_
    refine lv_lload_n hx hb d_X_exceeds_9 rfl (lv_at hl 1 rfl) ?_
    refine lc_le (tgt := 18) hx hb d_X_exceeds_10 d_X_exceeds_11 rfl (fun hc => ?_) (fun hc => ?_)
    · replace hf := og_t hc hf
      refine lv_iconst (v := 0) hx hb d_X_exceeds_18 (by decide) ?_
      exact W.zret hx hb hr rfl (fun t ht hWm => ⟨⟨_, _, rfl, Option.some.inj hf, by rw [ht]; exact hW, va_K.moved hWm.alike hK⟩, hS.F ht⟩) hS.2.2 d_X_exceeds_19
    · replace hf := og_f hc hf
      refine lv_iconst (v := 1) hx hb d_X_exceeds_14 (by decide) ?_
      refine lv_goto (tgt := 19) hx hb d_X_exceeds_15 rfl ?_
      exact W.zret hx hb hr rfl (fun t ht hWm => ⟨⟨_, _, rfl, Option.some.inj hf, by rw [ht]; exact hW, va_K.moved hWm.alike hK⟩, hS.F ht⟩) hS.2.2 d_X_exceeds_19

set_option maxHeartbeats 4000000 in
set_option maxRecDepth 100000 in
theorem m_X_positionOf (l : Launch) (D : va_G) (cA : Nat → ClassId) (ad : Nat → Nat → Nat) (n : Nat) (A : Nat → Prop) (σ : St) (x1 : Int32) (x2 : Int32)  (out : Int64 × St) (hf : f_X_positionOf n σ x1 x2 = some out) : Met l y_X_positionOf ws_X_positionOf ({ frames := 0, cells := 0, slots := 0, locals := 0 }) (va_Pc [.ref (ad 0 0), .int x1, .int x2] (fun U => CW D cA ad n A σ U.heap ∧ va_K D vCl (atys cA) U)) (va_Ql (fun r u => (r, u) = out) (fun u t => CW D cA ad n A u t.heap ∧ va_K D vCl (atys cA) t) A) 0 0 A := by
  refine Met.ofW (cc := prog_1_method_26_code) (maxL := 3) (ret := (some .long)) (by decide) rfl ?_
  intro p e s m args below meth c s₁ B hml hv
  obtain ⟨rfl, hW, hK⟩ := hv
  have hx := B.exec
  have hb := B.bytes
  have hr := B.returns
  have hts := atoms_spec (ws := ws_X_positionOf) B.pre
  have ht : ∀ w ∈ TB, w.before _ s = true := fun w h => hts w (List.mem_cons_of_mem _ h)
  have hown : s.vm.findClass "GridlockDesk" = some m.cls := findClass_of_methodNamed B.named
  have hlocks := B.notSynchronized
  have hS : va_S A s.heap s.heap [] := va_S.rf
  have hl := lv_entry ([.ref (ad 0 0), .int x1, .int x2]) (n := 3) (Nat.le_of_ble_eq_true rfl)
  rw [lg_entry_eq]
  generalize (lg_sl ([.ref (ad 0 0), .int x1, .int x2]) ++ List.replicate (3 - (lg_sl ([.ref (ad 0 0), .int x1, .int x2])).length) Slot.unset).toArray = ls at hl ⊢
  have hl : lv_has ls 3 [(0, .ref (ad 0 0)), (1, .int x1), (2, .int x2)] := hl
  unfold f_X_positionOf at hf

  refine lv_aload_n hx hb d_X_positionOf_0 rfl (lv_at hl 0 rfl) ?_
  refine va_get (D := D) (ci := 2) (C := "GridlockDesk") (T := T_X) (N := 6) hx hb ht hin_X hown hK (hW.1.one (t := 0) rfl) 0 rfl rfl 0 (by decide) (ht _ tw_93) (fun _ h9 => h9) rfl d_X_positionOf_1 ?_
  refine lv_iload_n hx hb d_X_positionOf_4 rfl (lv_at hl 1 rfl) ?_
  obtain ⟨hin1, hf⟩ := og_if hf
  refine va_aldq (D := D) hx hb hK (hW.1.one (t := 1) rfl) 0 2 rfl rfl hin1 d_X_positionOf_5 ?_
  refine W.eq (g2 := F0 m 6 ls (.ref (ad 4 _) :: [])) rfl ?_
  refine va_get (D := D) (ci := 0) (C := "GridlockDesk$Bank") (T := T_B) (N := 7) hx hb ht hin_B hown hK (hW.1.one (t := 4) (vin_lt hin1)) 0 rfl rfl 4 (by decide) (ht _ tw_71) (fun _ h9 => h9) rfl d_X_positionOf_6 ?_
  refine lv_iload_n hx hb d_X_positionOf_9 rfl (lv_at hl 2 rfl) ?_
  obtain ⟨hin2, hf⟩ := og_if hf
  refine va_lald (D := D) hx hb hK (hW.1.one (t := 6) (vin_lt hin1)) 0 0 rfl rfl hin2 d_X_positionOf_10 ?_
  refine lv_aload_n hx hb d_X_positionOf_11 rfl (lv_at hl 0 rfl) ?_
  refine va_get (D := D) (ci := 2) (C := "GridlockDesk") (T := T_X) (N := 6) hx hb ht hin_X hown hK (hW.1.one (t := 0) rfl) 0 rfl rfl 0 (by decide) (ht _ tw_93) (fun _ h9 => h9) rfl d_X_positionOf_12 ?_
  refine lv_iload_n hx hb d_X_positionOf_15 rfl (lv_at hl 2 rfl) ?_
  obtain ⟨hin3, hf⟩ := og_if hf
  refine va_aldq (D := D) hx hb hK (hW.1.one (t := 1) rfl) 0 2 rfl rfl hin3 d_X_positionOf_16 ?_
  refine W.eq (g2 := F0 m 17 ls (.ref (ad 4 _) :: [_])) rfl ?_
  refine va_get (D := D) (ci := 0) (C := "GridlockDesk$Bank") (T := T_B) (N := 7) hx hb ht hin_B hown hK (hW.1.one (t := 4) (vin_lt hin3)) 0 rfl rfl 4 (by decide) (ht _ tw_71) (fun _ h9 => h9) rfl d_X_positionOf_17 ?_
  refine lv_iload_n hx hb d_X_positionOf_20 rfl (lv_at hl 1 rfl) ?_
  obtain ⟨hin4, hf⟩ := og_if hf
  refine va_lald (D := D) hx hb hK (hW.1.one (t := 6) (vin_lt hin3)) 0 0 rfl rfl hin4 d_X_positionOf_21 ?_
  refine lv_lsub hx hb d_X_positionOf_22 ?_
  exact W.lret hx hb hr (fun t ht hWm => ⟨⟨_, _, rfl, Option.some.inj hf, by rw [ht]; exact hW, va_K.moved hWm.alike hK⟩, hS.F ht⟩) hS.2.2 d_X_positionOf_23

set_option maxHeartbeats 4000000 in
set_option maxRecDepth 100000 in
theorem lp_X_totalPositionOf_5_ok {p : Program} {l : Launch} {e : Env} {s : State} {m : MethodId} {args : Array Value} {below : List Frame} {meth : Method} {c : Code} (D : va_G) (cA : Nat → ClassId) (ad : Nat → Nat → Nat) (n : Nat) (A : Nat → Prop) (hx : p.tables.exec = Jvm.exec) (hb : c.code = prog_1_method_27_code) (hml : c.maxLocals = 5) (hr : meth.sig.returnType = (some .long)) (hts : ∀ w ∈ ws_X_totalPositionOf, w.before args s = true) (hown : s.vm.findClass "GridlockDesk" = some m.cls) (hlocks : meth.locks = false) (hK : va_K D vCl (atys cA) s) (k : St → Int64 → Option (Int64 × St)) (out : Int64 × St) (v1 : Int32) (hk : ∀ (σ : St) (v2 : Int64) (H : Heap) (locs : List Loc) (ls : Array Slot), lv_has ls 5 [(2, .long v2)] → CW D cA ad n A σ H → va_S A s.heap H locs → k σ v2 = some out → W p l e (headSpec ws_X_totalPositionOf ({ frames := 1, cells := 0, slots := 0, locals := 22 })).room s m args below meth c H locs 0 0 (MQ below (va_Ql (fun r u => (r, u) = out) (fun u t => CW D cA ad n A u t.heap ∧ va_K D vCl (atys cA) t) A) args s 0 0 A) (F0 m 31 ls [])) : ∀ (fu : Nat) (σ : St) (v2 : Int64) (v4 : Int32) (H : Heap) (locs : List Loc) (ls : Array Slot), lv_has ls 5 [(0, .ref (ad 0 0)), (1, .int v1), (2, .long v2), (4, .int v4)] → CW D cA ad n A σ H → va_S A s.heap H locs → lp_X_totalPositionOf_5 n k fu σ v1 v2 v4 = some out → W p l e (headSpec ws_X_totalPositionOf ({ frames := 1, cells := 0, slots := 0, locals := 22 })).room s m args below meth c H locs 0 0 (MQ below (va_Ql (fun r u => (r, u) = out) (fun u t => CW D cA ad n A u t.heap ∧ va_K D vCl (atys cA) t) A) args s 0 0 A) (F0 m 5 ls []) := by
  intro fu
  induction fu with
  | zero =>
    intro σ v2 v4 H locs ls  hl hW hS hf
    exact og_n hf
  | succ fu ih =>
    intro σ v2 v4 H locs ls  hl hW hS hf
    rw [lp_X_totalPositionOf_5_s] at hf
    have ht : ∀ w ∈ TB, w.before args s = true := fun w h => hts w (List.mem_cons_of_mem _ h)
    refine lv_iload hx hb d_X_totalPositionOf_5 (lv_at hl 3 rfl) ?_
    refine lv_aload_n hx hb d_X_totalPositionOf_7 rfl (lv_at hl 0 rfl) ?_
    refine va_get (D := D) (ci := 2) (C := "GridlockDesk") (T := T_X) (N := 6) hx hb ht hin_X hown hK (hW.1.one (t := 0) rfl) 0 rfl rfl 0 (by decide) (ht _ tw_93) (fun _ h9 => h9) rfl d_X_totalPositionOf_8 ?_
    refine va_alen (D := D) (v := nI n) hx hb hK (hW.1.one (t := 1) rfl) 0 2 rfl rfl rfl d_X_totalPositionOf_11 ?_
    refine lv_icmp_ge (tgt := 31) hx hb d_X_totalPositionOf_12 rfl (fun hc => ?_) (fun hc => ?_)
    · replace hf := og_t hc hf
      exact hk _ _ _ _ _  (lv_sub hl [2] rfl) hW hS hf
    · replace hf := og_f hc hf
      refine lv_lload_n hx hb d_X_totalPositionOf_15 rfl (lv_at hl 2 rfl) ?_
      refine lv_aload_n hx hb d_X_totalPositionOf_16 rfl (lv_at hl 0 rfl) ?_
      refine lv_iload_n hx hb d_X_totalPositionOf_17 rfl (lv_at hl 1 rfl) ?_
      refine lv_iload hx hb d_X_totalPositionOf_18 (lv_at hl 3 rfl) ?_
      obtain ⟨o1, ho1, hf⟩ := og_b hf
      refine kc_l (P := (fun u H => CW D cA ad n A u H)) (va_runV (C := "GridlockDesk") (As := [.int _, .int _]) (rest := [.long _]) ⟨hx, hb, hml, hown, hts⟩ (m_X_positionOf l D cA ad n A _  _ _  o1 ho1) (cwV 2 hts (tb_V tw_154 tw_156 tw_6 tw_31 tw_157) rfl rfl rfl (by decide +kernel) ⟨Nat.le_of_ble_eq_true rfl, Nat.le_of_ble_eq_true rfl⟩) ⟨k_blind, kw.recv hK hW.1 (t := 0) rfl rfl rfl, k_pre hW hK⟩ rfl rfl hl.1 rfl (lv_room (Nat.le_of_ble_eq_true rfl)) d_X_totalPositionOf_20 ⟨Nat.zero_le _, Nat.zero_le _⟩) hS (fun H locs hW hS => ?_)
      refine lv_ladd hx hb d_X_totalPositionOf_23 ?_
      refine lv_lstore_n (lv' := [(2, .long _), (0, .ref _), (1, .int _), (4, .int _)]) hx hb d_X_totalPositionOf_24 rfl hl (by decide) rfl (fun ls hl => ?_)
      refine lv_iinc (k := 3) (v := _ + 1) (lv' := [(4, .int _), (2, .long _), (0, .ref _), (1, .int _)]) hx hb d_X_totalPositionOf_25 hl rfl rfl (by decide) rfl (fun ls hl => ?_)
      refine lv_goto (tgt := 5) hx hb d_X_totalPositionOf_28 rfl ?_
      exact ih _ _ _ _ _ _  (lv_sub hl [2, 3, 1, 0] rfl) hW hS hf

set_option maxHeartbeats 4000000 in
set_option maxRecDepth 100000 in
theorem m_X_totalPositionOf (l : Launch) (D : va_G) (cA : Nat → ClassId) (ad : Nat → Nat → Nat) (n : Nat) (A : Nat → Prop) (σ : St) (x1 : Int32)  (out : Int64 × St) (hf : f_X_totalPositionOf n σ x1 = some out) : Met l y_X_totalPositionOf ws_X_totalPositionOf ({ frames := 1, cells := 0, slots := 0, locals := 22 }) (va_Pc [.ref (ad 0 0), .int x1] (fun U => CW D cA ad n A σ U.heap ∧ va_K D vCl (atys cA) U)) (va_Ql (fun r u => (r, u) = out) (fun u t => CW D cA ad n A u t.heap ∧ va_K D vCl (atys cA) t) A) 0 0 A := by
  refine Met.ofW (cc := prog_1_method_27_code) (maxL := 5) (ret := (some .long)) (by decide) rfl ?_
  intro p e s m args below meth c s₁ B hml hv
  obtain ⟨rfl, hW, hK⟩ := hv
  have hx := B.exec
  have hb := B.bytes
  have hr := B.returns
  have hts := atoms_spec (ws := ws_X_totalPositionOf) B.pre
  have ht : ∀ w ∈ TB, w.before _ s = true := fun w h => hts w (List.mem_cons_of_mem _ h)
  have hown : s.vm.findClass "GridlockDesk" = some m.cls := findClass_of_methodNamed B.named
  have hlocks := B.notSynchronized
  have hS : va_S A s.heap s.heap [] := va_S.rf
  have hl := lv_entry ([.ref (ad 0 0), .int x1]) (n := 5) (Nat.le_of_ble_eq_true rfl)
  rw [lg_entry_eq]
  generalize (lg_sl ([.ref (ad 0 0), .int x1]) ++ List.replicate (5 - (lg_sl ([.ref (ad 0 0), .int x1])).length) Slot.unset).toArray = ls at hl ⊢
  have hl : lv_has ls 5 [(0, .ref (ad 0 0)), (1, .int x1)] := hl
  unfold f_X_totalPositionOf at hf

  refine lv_lconst (v := 0) hx hb d_X_totalPositionOf_0 (by decide) ?_
  refine lv_lstore_n (lv' := [(2, .long _), (0, .ref _), (1, .int _)]) hx hb d_X_totalPositionOf_1 rfl hl (by decide) rfl (fun ls hl => ?_)
  refine lv_iconst (v := 0) hx hb d_X_totalPositionOf_2 (by decide) ?_
  refine lv_istore (lv' := [(4, .int _), (2, .long _), (0, .ref _), (1, .int _)]) hx hb d_X_totalPositionOf_3 hl (by decide) rfl (fun ls hl => ?_)
  refine lp_X_totalPositionOf_5_ok D cA ad n A hx hb hml hr hts hown hlocks hK _ _ _ (fun σ3 y2_2 H locs ls  hl hW hS hf => ?_) _ _ _ _ _ _ _  (lv_sub hl [2, 3, 1, 0] rfl) hW hS hf
  refine lv_lload_n hx hb d_X_totalPositionOf_31 rfl (lv_at hl 0 rfl) ?_
  exact W.lret hx hb hr (fun t ht hWm => ⟨⟨_, _, rfl, Option.some.inj hf, by rw [ht]; exact hW, va_K.moved hWm.alike hK⟩, hS.F ht⟩) hS.2.2 d_X_totalPositionOf_32

set_option maxHeartbeats 4000000 in
set_option maxRecDepth 100000 in
theorem m_X_end (l : Launch) (D : va_G) (cA : Nat → ClassId) (ad : Nat → Nat → Nat) (n : Nat) (A : Nat → Prop) (σ : St) (x1 : Nat) (x2 : Int32)  (out : Unit × St) (hf : f_X_end n σ x1 x2 = some out) : Met l y_X_end ws_X_end ({ frames := 1, cells := 0, slots := 0, locals := 23 }) (va_Pc [.ref (ad 0 0), .ref (ad 8 x1), .int x2] (fun U => CW D cA ad n A σ U.heap ∧ va_K D vCl (atys cA) U)) (va_Qv (fun u => ((), u) = out) (fun u t => CW D cA ad n A u t.heap ∧ va_K D vCl (atys cA) t) A) 0 0 A := by
  refine Met.ofW (cc := prog_1_method_37_code) (maxL := 3) (ret := none) (by decide) rfl ?_
  intro p e s m args below meth c s₁ B hml hv
  obtain ⟨rfl, hW, hK⟩ := hv
  have hx := B.exec
  have hb := B.bytes
  have hr := B.returns
  have hts := atoms_spec (ws := ws_X_end) B.pre
  have ht : ∀ w ∈ TB, w.before _ s = true := fun w h => hts w (List.mem_cons_of_mem _ h)
  have hown : s.vm.findClass "GridlockDesk" = some m.cls := findClass_of_methodNamed B.named
  have hlocks := B.notSynchronized
  have hS : va_S A s.heap s.heap [] := va_S.rf
  have hl := lv_entry ([.ref (ad 0 0), .ref (ad 8 x1), .int x2]) (n := 3) (Nat.le_of_ble_eq_true rfl)
  rw [lg_entry_eq]
  generalize (lg_sl ([.ref (ad 0 0), .ref (ad 8 x1), .int x2]) ++ List.replicate (3 - (lg_sl ([.ref (ad 0 0), .ref (ad 8 x1), .int x2])).length) Slot.unset).toArray = ls at hl ⊢
  have hl : lv_has ls 3 [(0, .ref (ad 0 0)), (1, .ref (ad 8 x1)), (2, .int x2)] := hl
  unfold f_X_end at hf

  refine lv_aload_n hx hb d_X_end_0 rfl (lv_at hl 0 rfl) ?_
  refine va_get (D := D) (ci := 2) (C := "GridlockDesk") (T := T_X) (N := 6) hx hb ht hin_X hown hK (hW.1.one (t := 0) rfl) 0 rfl rfl 0 (by decide) (ht _ tw_93) (fun _ h9 => h9) rfl d_X_end_1 ?_
  refine lv_aload_n hx hb d_X_end_4 rfl (lv_at hl 1 rfl) ?_
  obtain ⟨hn1, hf⟩ := og_if hf
  refine va_get (D := D) (ci := 1) (C := "GridlockDesk$Payment") (T := T_P) (N := 7) hx hb ht hin_P hown hK (hW.1.one (t := 8) hn1) 0 rfl rfl 1 (by decide) (ht _ tw_221) (fun _ h9 => h9) rfl d_X_end_5 ?_
  obtain ⟨hin2, hf⟩ := og_if hf
  refine va_aldq (D := D) hx hb hK (hW.1.one (t := 1) rfl) 0 2 rfl rfl hin2 d_X_end_8 ?_
  refine W.eq (g2 := F0 m 9 ls (.ref (ad 4 _) :: [])) rfl ?_
  refine lv_aload_n hx hb d_X_end_9 rfl (lv_at hl 1 rfl) ?_
  obtain ⟨o3, ho3, hf⟩ := og_b hf
  refine kc_v (P := (fun u H => CW D cA ad n A u H)) (va_runV (C := "GridlockDesk$Bank") (As := [.ref _]) (rest := []) ⟨hx, hb, hml, hown, hts⟩ (m_B_remove l D cA ad n A _ _ _ (vin_lt hin2) o3 ho3) (cwV 1 hts (tb_V tw_170 tw_171 tw_172 tw_33 tw_173) rfl rfl rfl (by decide +kernel) ⟨Nat.le_of_ble_eq_true rfl, Nat.le_of_ble_eq_true rfl⟩) ⟨k_blind, kw.recv hK hW.1 (t := 4) (vin_lt hin2) rfl rfl, k_pre hW hK⟩ rfl rfl hl.1 rfl (lv_room (Nat.le_of_ble_eq_true rfl)) d_X_end_10 ⟨Nat.zero_le _, Nat.zero_le _⟩) hS (fun H locs hW hS => ?_)
  refine lv_aload_n hx hb d_X_end_13 rfl (lv_at hl 1 rfl) ?_
  refine lv_iload_n hx hb d_X_end_14 rfl (lv_at hl 2 rfl) ?_
  obtain ⟨hn4, hf⟩ := og_if hf
  obtain ⟨σ5, eσ5, hf⟩ := og_b hf
  cases eσ5
  refine k_put  (ci := 1) (C := "GridlockDesk$Payment") (T := T_P) (N := 7) (ty := .int) (t := 8) hx hb ht hin_P ft_P ft_P_ok nm_P hown hK hW.1 hS hn4 (hW.2 _ _ hn4) rfl rfl 6 (by decide) (ht _ tw_234) (fun _ h9 => h9) rfl (by decide +kernel) rfl rfl (Nat.le_of_ble_eq_true rfl) d_X_end_15 cc_wI9 (fun H locs hW1 hS => ?_)
  have hW := CW.wI hW1 hW.2
  exact W.vret hx hb hr (fun t ht hWm => ⟨⟨_, rfl, Option.some.inj hf, by rw [ht]; exact hW, va_K.moved hWm.alike hK⟩, hS.F ht⟩) hS.2.2 d_X_end_18

set_option maxHeartbeats 4000000 in
set_option maxRecDepth 100000 in
theorem m_X_settle (l : Launch) (D : va_G) (cA : Nat → ClassId) (ad : Nat → Nat → Nat) (n : Nat) (A : Nat → Prop) (σ : St) (x1 : Nat) (x2 : Int32)  (out : Unit × St) (hf : f_X_settle n σ x1 x2 = some out) : Met l y_X_settle ws_X_settle ({ frames := 2, cells := 0, slots := 0, locals := 45 }) (va_Pc [.ref (ad 0 0), .ref (ad 8 x1), .int x2] (fun U => CW D cA ad n A σ U.heap ∧ va_K D vCl (atys cA) U)) (va_Qv (fun u => ((), u) = out) (fun u t => CW D cA ad n A u t.heap ∧ va_K D vCl (atys cA) t) A) 0 0 A := by
  refine Met.ofW (cc := prog_1_method_36_code) (maxL := 4) (ret := none) (by decide) rfl ?_
  intro p e s m args below meth c s₁ B hml hv
  obtain ⟨rfl, hW, hK⟩ := hv
  have hx := B.exec
  have hb := B.bytes
  have hr := B.returns
  have hts := atoms_spec (ws := ws_X_settle) B.pre
  have ht : ∀ w ∈ TB, w.before _ s = true := fun w h => hts w (List.mem_cons_of_mem _ h)
  have hown : s.vm.findClass "GridlockDesk" = some m.cls := findClass_of_methodNamed B.named
  have hlocks := B.notSynchronized
  have hS : va_S A s.heap s.heap [] := va_S.rf
  have hl := lv_entry ([.ref (ad 0 0), .ref (ad 8 x1), .int x2]) (n := 4) (Nat.le_of_ble_eq_true rfl)
  rw [lg_entry_eq]
  generalize (lg_sl ([.ref (ad 0 0), .ref (ad 8 x1), .int x2]) ++ List.replicate (4 - (lg_sl ([.ref (ad 0 0), .ref (ad 8 x1), .int x2])).length) Slot.unset).toArray = ls at hl ⊢
  have hl : lv_has ls 4 [(0, .ref (ad 0 0)), (1, .ref (ad 8 x1)), (2, .int x2)] := hl
  unfold f_X_settle at hf

  refine lv_aload_n hx hb d_X_settle_0 rfl (lv_at hl 0 rfl) ?_
  refine lv_aload_n hx hb d_X_settle_1 rfl (lv_at hl 1 rfl) ?_
  refine lv_iload_n hx hb d_X_settle_2 rfl (lv_at hl 2 rfl) ?_
  obtain ⟨o1, ho1, hf⟩ := og_b hf
  refine kc_v (P := (fun u H => CW D cA ad n A u H)) (va_runV (C := "GridlockDesk") (As := [.ref _, .int _]) (rest := []) ⟨hx, hb, hml, hown, hts⟩ (m_X_end l D cA ad n A _  _ _  o1 ho1) (cwV 2 hts (tb_V tw_166 tw_168 tw_9 tw_31 tw_169) rfl rfl rfl (by decide +kernel) ⟨Nat.le_of_ble_eq_true rfl, Nat.le_of_ble_eq_true rfl⟩) ⟨k_blind, kw.recv hK hW.1 (t := 0) rfl rfl rfl, k_pre hW hK⟩ rfl rfl hl.1 rfl (lv_room (Nat.le_of_ble_eq_true rfl)) d_X_settle_3 ⟨Nat.zero_le _, Nat.zero_le _⟩) hS (fun H locs hW hS => ?_)
  refine lv_aload_n hx hb d_X_settle_6 rfl (lv_at hl 0 rfl) ?_
  refine va_get (D := D) (ci := 2) (C := "GridlockDesk") (T := T_X) (N := 6) hx hb ht hin_X hown hK (hW.1.one (t := 0) rfl) 0 rfl rfl 0 (by decide) (ht _ tw_93) (fun _ h9 => h9) rfl d_X_settle_7 ?_
  refine lv_aload_n hx hb d_X_settle_10 rfl (lv_at hl 1 rfl) ?_
  obtain ⟨hn2, hf⟩ := og_if hf
  refine va_get (D := D) (ci := 1) (C := "GridlockDesk$Payment") (T := T_P) (N := 7) hx hb ht hin_P hown hK (hW.1.one (t := 8) hn2) 0 rfl rfl 1 (by decide) (ht _ tw_221) (fun _ h9 => h9) rfl d_X_settle_11 ?_
  obtain ⟨hin3, hf⟩ := og_if hf
  refine va_aldq (D := D) hx hb hK (hW.1.one (t := 1) rfl) 0 2 rfl rfl hin3 d_X_settle_14 ?_
  refine W.eq (g2 := F0 m 15 ls (.ref (ad 4 _) :: [])) rfl ?_
  refine lv_astore_n (lv' := [(3, .ref _), (0, .ref _), (1, .ref _), (2, .int _)]) hx hb d_X_settle_15 rfl hl (by decide) rfl (fun ls hl => ?_)
  refine lv_aload_n hx hb d_X_settle_16 rfl (lv_at hl 0 rfl) ?_
  refine lv_dup hx hb d_X_settle_17 rfl ?_
  refine va_get (D := D) (ci := 0) (C := "GridlockDesk$Bank") (T := T_B) (N := 7) hx hb ht hin_B hown hK (hW.1.one (t := 4) (vin_lt hin3)) 0 rfl rfl 0 (by decide) (ht _ tw_64) (fun _ h9 => h9) rfl d_X_settle_18 ?_
  refine lv_aload_n hx hb d_X_settle_21 rfl (lv_at hl 2 rfl) ?_
  obtain ⟨hn4, hf⟩ := og_if hf
  refine va_get (D := D) (ci := 1) (C := "GridlockDesk$Payment") (T := T_P) (N := 7) hx hb ht hin_P hown hK (hW.1.one (t := 8) hn4) 0 rfl rfl 3 (by decide) (ht _ tw_227) (fun _ h9 => h9) rfl d_X_settle_22 ?_
  refine lv_lsub hx hb d_X_settle_25 ?_
  obtain ⟨σ5, eσ5, hf⟩ := og_b hf
  cases eσ5
  refine k_put  (ci := 0) (C := "GridlockDesk$Bank") (T := T_B) (N := 7) (ty := .long) (t := 4) hx hb ht hin_B ft_B ft_B_ok nm_B hown hK hW.1 hS (vin_lt hin3) (hW.2 _ _ (vin_lt hin3)) rfl rfl 0 (by decide) (ht _ tw_64) (fun _ h9 => h9) rfl (by decide +kernel) rfl rfl (Nat.le_of_ble_eq_true rfl) d_X_settle_26 cc_wL1 (fun H locs hW1 hS => ?_)
  have hW := CW.wL hW1 hW.2
  refine lv_aload_n hx hb d_X_settle_29 rfl (lv_at hl 0 rfl) ?_
  refine va_get (D := D) (ci := 0) (C := "GridlockDesk$Bank") (T := T_B) (N := 7) hx hb ht hin_B hown hK (hW.1.one (t := 4) (vin_lt hin3)) 0 rfl rfl 4 (by decide) (ht _ tw_71) (fun _ h9 => h9) rfl d_X_settle_30 ?_
  refine lv_aload_n hx hb d_X_settle_33 rfl (lv_at hl 2 rfl) ?_
  obtain ⟨hn6, hf⟩ := og_if hf
  refine va_get (D := D) (ci := 1) (C := "GridlockDesk$Payment") (T := T_P) (N := 7) hx hb ht hin_P hown hK (hW.1.one (t := 8) hn6) 0 rfl rfl 2 (by decide) (ht _ tw_224) (fun _ h9 => h9) rfl d_X_settle_34 ?_
  refine lv_dup2_11 hx hb d_X_settle_37 rfl rfl ?_
  obtain ⟨hin7, hf⟩ := og_if hf
  refine va_lald (D := D) hx hb hK (hW.1.one (t := 6) (vin_lt hin3)) 0 0 rfl rfl hin7 d_X_settle_38 ?_
  refine lv_aload_n hx hb d_X_settle_39 rfl (lv_at hl 2 rfl) ?_
  obtain ⟨hn8, hf⟩ := og_if hf
  refine va_get (D := D) (ci := 1) (C := "GridlockDesk$Payment") (T := T_P) (N := 7) hx hb ht hin_P hown hK (hW.1.one (t := 8) hn8) 0 rfl rfl 3 (by decide) (ht _ tw_227) (fun _ h9 => h9) rfl d_X_settle_40 ?_
  refine lv_ladd hx hb d_X_settle_43 ?_
  obtain ⟨hin9, hf⟩ := og_if hf
  obtain ⟨σ10, eσ10, hf⟩ := og_b hf
  cases eσ10
  refine k_last  (t := 6) hx hb hK hW.1 hS (vin_lt hin3) (hW.2 _ _ (vin_lt hin3)) 0 rfl rfl hin9 d_X_settle_44 cc_wL5 (fun H locs hW1 hS => ?_)
  have hW := CW.wL hW1 hW.2
  refine lv_aload_n hx hb d_X_settle_45 rfl (lv_at hl 1 rfl) ?_
  refine va_get (D := D) (ci := 2) (C := "GridlockDesk") (T := T_X) (N := 6) hx hb ht hin_X hown hK (hW.1.one (t := 0) rfl) 0 rfl rfl 0 (by decide) (ht _ tw_93) (fun _ h9 => h9) rfl d_X_settle_46 ?_
  refine lv_aload_n hx hb d_X_settle_49 rfl (lv_at hl 2 rfl) ?_
  obtain ⟨hn11, hf⟩ := og_if hf
  refine va_get (D := D) (ci := 1) (C := "GridlockDesk$Payment") (T := T_P) (N := 7) hx hb ht hin_P hown hK (hW.1.one (t := 8) hn11) 0 rfl rfl 2 (by decide) (ht _ tw_224) (fun _ h9 => h9) rfl d_X_settle_50 ?_
  obtain ⟨hin12, hf⟩ := og_if hf
  refine va_aldq (D := D) hx hb hK (hW.1.one (t := 1) rfl) 0 2 rfl rfl hin12 d_X_settle_53 ?_
  refine W.eq (g2 := F0 m 54 ls (.ref (ad 4 _) :: [])) rfl ?_
  refine lv_dup hx hb d_X_settle_54 rfl ?_
  refine va_get (D := D) (ci := 0) (C := "GridlockDesk$Bank") (T := T_B) (N := 7) hx hb ht hin_B hown hK (hW.1.one (t := 4) (vin_lt hin12)) 0 rfl rfl 0 (by decide) (ht _ tw_64) (fun _ h9 => h9) rfl d_X_settle_55 ?_
  refine lv_aload_n hx hb d_X_settle_58 rfl (lv_at hl 2 rfl) ?_
  obtain ⟨hn13, hf⟩ := og_if hf
  refine va_get (D := D) (ci := 1) (C := "GridlockDesk$Payment") (T := T_P) (N := 7) hx hb ht hin_P hown hK (hW.1.one (t := 8) hn13) 0 rfl rfl 3 (by decide) (ht _ tw_227) (fun _ h9 => h9) rfl d_X_settle_59 ?_
  refine lv_ladd hx hb d_X_settle_62 ?_
  obtain ⟨σ14, eσ14, hf⟩ := og_b hf
  cases eσ14
  refine k_put  (ci := 0) (C := "GridlockDesk$Bank") (T := T_B) (N := 7) (ty := .long) (t := 4) hx hb ht hin_B ft_B ft_B_ok nm_B hown hK hW.1 hS (vin_lt hin12) (hW.2 _ _ (vin_lt hin12)) rfl rfl 0 (by decide) (ht _ tw_64) (fun _ h9 => h9) rfl (by decide +kernel) rfl rfl (Nat.le_of_ble_eq_true rfl) d_X_settle_63 cc_wL1 (fun H locs hW1 hS => ?_)
  have hW := CW.wL hW1 hW.2
  refine lv_aload_n hx hb d_X_settle_66 rfl (lv_at hl 1 rfl) ?_
  refine lv_dup hx hb d_X_settle_67 rfl ?_
  refine va_get (D := D) (ci := 2) (C := "GridlockDesk") (T := T_X) (N := 6) hx hb ht hin_X hown hK (hW.1.one (t := 0) rfl) 0 rfl rfl 3 (by decide) (ht _ tw_96) (fun _ h9 => h9) rfl d_X_settle_68 ?_
  refine lv_aload_n hx hb d_X_settle_71 rfl (lv_at hl 2 rfl) ?_
  obtain ⟨hn15, hf⟩ := og_if hf
  refine va_get (D := D) (ci := 1) (C := "GridlockDesk$Payment") (T := T_P) (N := 7) hx hb ht hin_P hown hK (hW.1.one (t := 8) hn15) 0 rfl rfl 3 (by decide) (ht _ tw_227) (fun _ h9 => h9) rfl d_X_settle_72 ?_
  refine lv_ladd hx hb d_X_settle_75 ?_
  obtain ⟨σ16, eσ16, hf⟩ := og_b hf
  cases eσ16
  refine k_put  (ci := 2) (C := "GridlockDesk") (T := T_X) (N := 6) (ty := .long) (t := 0) hx hb ht hin_X ft_X ft_X_ok nm_X hown hK hW.1 hS rfl (hW.2 _ _ rfl) rfl rfl 3 (by decide) (ht _ tw_96) (fun _ h9 => h9) rfl (by decide +kernel) rfl rfl (Nat.le_of_ble_eq_true rfl) d_X_settle_76 cc_wL0 (fun H locs hW1 hS => ?_)
  have hW := CW.wL hW1 hW.2
  exact W.vret hx hb hr (fun t ht hWm => ⟨⟨_, rfl, Option.some.inj hf, by rw [ht]; exact hW, va_K.moved hWm.alike hK⟩, hS.F ht⟩) hS.2.2 d_X_settle_79

set_option maxHeartbeats 4000000 in
set_option maxRecDepth 100000 in
theorem lp_X_settleChosen_16_ok {p : Program} {l : Launch} {e : Env} {s : State} {m : MethodId} {args : Array Value} {below : List Frame} {meth : Method} {c : Code} (D : va_G) (cA : Nat → ClassId) (ad : Nat → Nat → Nat) (n : Nat) (A : Nat → Prop) (hx : p.tables.exec = Jvm.exec) (hb : c.code = prog_1_method_35_code) (hml : c.maxLocals = 5) (hr : meth.sig.returnType = (some .int)) (hts : ∀ w ∈ ws_X_settleChosen, w.before args s = true) (hown : s.vm.findClass "GridlockDesk" = some m.cls) (hlocks : meth.locks = false) (hK : va_K D vCl (atys cA) s) (k : St → Int32 → Option (Int32 × St)) (out : Int32 × St) (v1 : Int32) (v3 : Int32) (hk : ∀ (σ : St) (v2 : Int32) (H : Heap) (locs : List Loc) (ls : Array Slot), lv_has ls 5 [(0, .ref (ad 0 0)), (1, .int v1), (2, .int v2), (3, .int v3)] → CW D cA ad n A σ H → va_S A s.heap H locs → k σ v2 = some out → W p l e (headSpec ws_X_settleChosen ({ frames := 3, cells := 0, slots := 0, locals := 68 })).room s m args below meth c H locs 0 0 (MQ below (va_Qi (fun r u => (r, u) = out) (fun u t => CW D cA ad n A u t.heap ∧ va_K D vCl (atys cA) t) A) args s 0 0 A) (F0 m 64 ls [])) : ∀ (fu : Nat) (σ : St) (v2 : Int32) (v4 : Int32) (H : Heap) (locs : List Loc) (ls : Array Slot), lv_has ls 5 [(0, .ref (ad 0 0)), (1, .int v1), (2, .int v2), (3, .int v3), (4, .int v4)] → CW D cA ad n A σ H → va_S A s.heap H locs → lp_X_settleChosen_16 n k fu σ v1 v2 v3 v4 = some out → W p l e (headSpec ws_X_settleChosen ({ frames := 3, cells := 0, slots := 0, locals := 68 })).room s m args below meth c H locs 0 0 (MQ below (va_Qi (fun r u => (r, u) = out) (fun u t => CW D cA ad n A u t.heap ∧ va_K D vCl (atys cA) t) A) args s 0 0 A) (F0 m 16 ls []) := by
  intro fu
  induction fu with
  | zero =>
    intro σ v2 v4 H locs ls  hl hW hS hf
    exact og_n hf
  | succ fu ih =>
    intro σ v2 v4 H locs ls  hl hW hS hf
    rw [lp_X_settleChosen_16_s] at hf
    have ht : ∀ w ∈ TB, w.before args s = true := fun w h => hts w (List.mem_cons_of_mem _ h)
    refine lv_iload hx hb d_X_settleChosen_16 (lv_at hl 4 rfl) ?_
    refine lv_aload_n hx hb d_X_settleChosen_18 rfl (lv_at hl 0 rfl) ?_
    refine va_get (D := D) (ci := 2) (C := "GridlockDesk") (T := T_X) (N := 6) hx hb ht hin_X hown hK (hW.1.one (t := 0) rfl) 0 rfl rfl 5 (by decide) (ht _ tw_98) (fun _ h9 => h9) rfl d_X_settleChosen_19 ?_
    refine lv_iload_n hx hb d_X_settleChosen_22 rfl (lv_at hl 3 rfl) ?_
    obtain ⟨hin1, hf⟩ := og_if hf
    refine va_iald (D := D) hx hb hK (hW.1.one (t := 3) rfl) 0 1 rfl rfl hin1 d_X_settleChosen_23 ?_
    refine lv_icmp_ge (tgt := 64) hx hb d_X_settleChosen_24 rfl (fun hc => ?_) (fun hc => ?_)
    · replace hf := og_t hc hf
      exact hk _ _ _ _ _  (lv_sub hl [0, 1, 2, 3] rfl) hW hS hf
    · replace hf := og_f hc hf
      refine lv_aload_n hx hb d_X_settleChosen_27 rfl (lv_at hl 0 rfl) ?_
      refine va_get (D := D) (ci := 2) (C := "GridlockDesk") (T := T_X) (N := 6) hx hb ht hin_X hown hK (hW.1.one (t := 0) rfl) 0 rfl rfl 0 (by decide) (ht _ tw_93) (fun _ h9 => h9) rfl d_X_settleChosen_28 ?_
      refine lv_iload_n hx hb d_X_settleChosen_31 rfl (lv_at hl 3 rfl) ?_
      obtain ⟨hin2, hf⟩ := og_if hf
      refine va_aldq (D := D) hx hb hK (hW.1.one (t := 1) rfl) 0 2 rfl rfl hin2 d_X_settleChosen_32 ?_
      refine W.eq (g2 := F0 m 33 ls (.ref (ad 4 _) :: [])) rfl ?_
      refine va_get (D := D) (ci := 0) (C := "GridlockDesk$Bank") (T := T_B) (N := 7) hx hb ht hin_B hown hK (hW.1.one (t := 4) (vin_lt hin2)) 0 rfl rfl 6 (by decide) (ht _ tw_75) (fun _ h9 => h9) rfl d_X_settleChosen_33 ?_
      refine lv_if_le (tgt := 64) hx hb d_X_settleChosen_36 rfl (fun hc => ?_) (fun hc => ?_)
      · replace hf := og_t hc hf
        exact hk _ _ _ _ _  (lv_sub hl [0, 1, 2, 3] rfl) hW hS hf
      · replace hf := og_f hc hf
        refine lv_aload_n hx hb d_X_settleChosen_39 rfl (lv_at hl 0 rfl) ?_
        refine lv_aload_n hx hb d_X_settleChosen_40 rfl (lv_at hl 0 rfl) ?_
        refine va_get (D := D) (ci := 2) (C := "GridlockDesk") (T := T_X) (N := 6) hx hb ht hin_X hown hK (hW.1.one (t := 0) rfl) 0 rfl rfl 0 (by decide) (ht _ tw_93) (fun _ h9 => h9) rfl d_X_settleChosen_41 ?_
        refine lv_iload_n hx hb d_X_settleChosen_44 rfl (lv_at hl 3 rfl) ?_
        obtain ⟨hin3, hf⟩ := og_if hf
        refine va_aldq (D := D) hx hb hK (hW.1.one (t := 1) rfl) 0 2 rfl rfl hin3 d_X_settleChosen_45 ?_
        refine W.eq (g2 := F0 m 46 ls (.ref (ad 4 _) :: [_])) rfl ?_
        refine va_get (D := D) (ci := 0) (C := "GridlockDesk$Bank") (T := T_B) (N := 7) hx hb ht hin_B hown hK (hW.1.one (t := 4) (vin_lt hin3)) 0 rfl rfl 5 (by decide) (ht _ tw_73) (fun _ h9 => h9) rfl d_X_settleChosen_46 ?_
        refine lv_iconst (v := 0) hx hb d_X_settleChosen_49 (by decide) ?_
        obtain ⟨hin4, hf⟩ := og_if hf
        refine va_aldq (D := D) hx hb hK (hW.1.one (t := 7) (vin_lt hin3)) 0 3 rfl rfl hin4 d_X_settleChosen_50 ?_
        refine lv_iload_n hx hb d_X_settleChosen_51 rfl (lv_at hl 1 rfl) ?_
        obtain ⟨k5, hk5, hf⟩ := og_b hf
        obtain ⟨ek5, hk5⟩ := dR_spec hk5
        rw [ek5]
        refine W.eq (g2 := F0 m 52 ls [_, .ref (ad 8 k5), _]) rfl ?_
        obtain ⟨o6, ho6, hf⟩ := og_b hf
        refine kc_v (P := (fun u H => CW D cA ad n A u H)) (va_runV (C := "GridlockDesk") (As := [.ref _, .int _]) (rest := []) ⟨hx, hb, hml, hown, hts⟩ (m_X_settle l D cA ad n A _  _ _  o6 ho6) (cwV 2 hts (tb_V tw_162 tw_164 tw_8 tw_31 tw_165) rfl rfl rfl (by decide +kernel) ⟨Nat.le_of_ble_eq_true rfl, Nat.le_of_ble_eq_true rfl⟩) ⟨k_blind, kw.recv hK hW.1 (t := 0) rfl rfl rfl, k_pre hW hK⟩ rfl rfl hl.1 rfl (lv_room (Nat.le_of_ble_eq_true rfl)) d_X_settleChosen_52 ⟨Nat.zero_le _, Nat.zero_le _⟩) hS (fun H locs hW hS => ?_)
        refine lv_iinc (k := 2) (v := _ + 1) (lv' := [(2, .int _), (0, .ref _), (1, .int _), (3, .int _), (4, .int _)]) hx hb d_X_settleChosen_55 hl rfl rfl (by decide) rfl (fun ls hl => ?_)
        refine lv_iinc (k := 4) (v := _ + 1) (lv' := [(4, .int _), (2, .int _), (0, .ref _), (1, .int _), (3, .int _)]) hx hb d_X_settleChosen_58 hl rfl rfl (by decide) rfl (fun ls hl => ?_)
        refine lv_goto (tgt := 16) hx hb d_X_settleChosen_61 rfl ?_
        exact ih _ _ _ _ _ _  (lv_sub hl [2, 3, 1, 4, 0] rfl) hW hS hf

set_option maxHeartbeats 4000000 in
set_option maxRecDepth 100000 in
theorem lp_X_settleChosen_4_ok {p : Program} {l : Launch} {e : Env} {s : State} {m : MethodId} {args : Array Value} {below : List Frame} {meth : Method} {c : Code} (D : va_G) (cA : Nat → ClassId) (ad : Nat → Nat → Nat) (n : Nat) (A : Nat → Prop) (hx : p.tables.exec = Jvm.exec) (hb : c.code = prog_1_method_35_code) (hml : c.maxLocals = 5) (hr : meth.sig.returnType = (some .int)) (hts : ∀ w ∈ ws_X_settleChosen, w.before args s = true) (hown : s.vm.findClass "GridlockDesk" = some m.cls) (hlocks : meth.locks = false) (hK : va_K D vCl (atys cA) s) (k : St → Int32 → Option (Int32 × St)) (out : Int32 × St) (v1 : Int32) (hk : ∀ (σ : St) (v2 : Int32) (H : Heap) (locs : List Loc) (ls : Array Slot), lv_has ls 5 [(2, .int v2)] → CW D cA ad n A σ H → va_S A s.heap H locs → k σ v2 = some out → W p l e (headSpec ws_X_settleChosen ({ frames := 3, cells := 0, slots := 0, locals := 68 })).room s m args below meth c H locs 0 0 (MQ below (va_Qi (fun r u => (r, u) = out) (fun u t => CW D cA ad n A u t.heap ∧ va_K D vCl (atys cA) t) A) args s 0 0 A) (F0 m 70 ls [])) : ∀ (fu : Nat) (σ : St) (v2 : Int32) (v3 : Int32) (H : Heap) (locs : List Loc) (ls : Array Slot), lv_has ls 5 [(0, .ref (ad 0 0)), (1, .int v1), (2, .int v2), (3, .int v3)] → CW D cA ad n A σ H → va_S A s.heap H locs → lp_X_settleChosen_4 n k fu σ v1 v2 v3 = some out → W p l e (headSpec ws_X_settleChosen ({ frames := 3, cells := 0, slots := 0, locals := 68 })).room s m args below meth c H locs 0 0 (MQ below (va_Qi (fun r u => (r, u) = out) (fun u t => CW D cA ad n A u t.heap ∧ va_K D vCl (atys cA) t) A) args s 0 0 A) (F0 m 4 ls []) := by
  intro fu
  induction fu with
  | zero =>
    intro σ v2 v3 H locs ls  hl hW hS hf
    exact og_n hf
  | succ fu ih =>
    intro σ v2 v3 H locs ls  hl hW hS hf
    rw [lp_X_settleChosen_4_s] at hf
    have ht : ∀ w ∈ TB, w.before args s = true := fun w h => hts w (List.mem_cons_of_mem _ h)
    refine lv_iload_n hx hb d_X_settleChosen_4 rfl (lv_at hl 3 rfl) ?_
    refine lv_aload_n hx hb d_X_settleChosen_5 rfl (lv_at hl 0 rfl) ?_
    refine va_get (D := D) (ci := 2) (C := "GridlockDesk") (T := T_X) (N := 6) hx hb ht hin_X hown hK (hW.1.one (t := 0) rfl) 0 rfl rfl 0 (by decide) (ht _ tw_93) (fun _ h9 => h9) rfl d_X_settleChosen_6 ?_
    refine va_alen (D := D) (v := nI n) hx hb hK (hW.1.one (t := 1) rfl) 0 2 rfl rfl rfl d_X_settleChosen_9 ?_
    refine lv_icmp_ge (tgt := 70) hx hb d_X_settleChosen_10 rfl (fun hc => ?_) (fun hc => ?_)
    · replace hf := og_t hc hf
      exact hk _ _ _ _ _  (lv_sub hl [2] rfl) hW hS hf
    · replace hf := og_f hc hf
      refine lv_iconst (v := 0) hx hb d_X_settleChosen_13 (by decide) ?_
      refine lv_istore (lv' := [(4, .int _), (0, .ref _), (1, .int _), (2, .int _), (3, .int _)]) hx hb d_X_settleChosen_14 hl (by decide) rfl (fun ls hl => ?_)
      refine lp_X_settleChosen_16_ok D cA ad n A hx hb hml hr hts hown hlocks hK _ _ _ _ (fun σ8 y2_7 H locs ls  hl hW hS hf => ?_) _ _ _ _ _ _ _  (lv_sub hl [1, 2, 3, 4, 0] rfl) hW hS hf
      refine lv_iinc (k := 3) (v := _ + 1) (lv' := [(3, .int _), (0, .ref _), (1, .int _), (2, .int _)]) hx hb d_X_settleChosen_64 hl rfl rfl (by decide) rfl (fun ls hl => ?_)
      refine lv_goto (tgt := 4) hx hb d_X_settleChosen_67 rfl ?_
      exact ih _ _ _ _ _ _  (lv_sub hl [1, 2, 3, 0] rfl) hW hS hf

set_option maxHeartbeats 4000000 in
set_option maxRecDepth 100000 in
theorem m_X_settleChosen (l : Launch) (D : va_G) (cA : Nat → ClassId) (ad : Nat → Nat → Nat) (n : Nat) (A : Nat → Prop) (σ : St) (x1 : Int32)  (out : Int32 × St) (hf : f_X_settleChosen n σ x1 = some out) : Met l y_X_settleChosen ws_X_settleChosen ({ frames := 3, cells := 0, slots := 0, locals := 68 }) (va_Pc [.ref (ad 0 0), .int x1] (fun U => CW D cA ad n A σ U.heap ∧ va_K D vCl (atys cA) U)) (va_Qi (fun r u => (r, u) = out) (fun u t => CW D cA ad n A u t.heap ∧ va_K D vCl (atys cA) t) A) 0 0 A := by
  refine Met.ofW (cc := prog_1_method_35_code) (maxL := 5) (ret := (some .int)) (by decide) rfl ?_
  intro p e s m args below meth c s₁ B hml hv
  obtain ⟨rfl, hW, hK⟩ := hv
  have hx := B.exec
  have hb := B.bytes
  have hr := B.returns
  have hts := atoms_spec (ws := ws_X_settleChosen) B.pre
  have ht : ∀ w ∈ TB, w.before _ s = true := fun w h => hts w (List.mem_cons_of_mem _ h)
  have hown : s.vm.findClass "GridlockDesk" = some m.cls := findClass_of_methodNamed B.named
  have hlocks := B.notSynchronized
  have hS : va_S A s.heap s.heap [] := va_S.rf
  have hl := lv_entry ([.ref (ad 0 0), .int x1]) (n := 5) (Nat.le_of_ble_eq_true rfl)
  rw [lg_entry_eq]
  generalize (lg_sl ([.ref (ad 0 0), .int x1]) ++ List.replicate (5 - (lg_sl ([.ref (ad 0 0), .int x1])).length) Slot.unset).toArray = ls at hl ⊢
  have hl : lv_has ls 5 [(0, .ref (ad 0 0)), (1, .int x1)] := hl
  unfold f_X_settleChosen at hf

  refine lv_iconst (v := 0) hx hb d_X_settleChosen_0 (by decide) ?_
  refine lv_istore_n (lv' := [(2, .int _), (0, .ref _), (1, .int _)]) hx hb d_X_settleChosen_1 rfl hl (by decide) rfl (fun ls hl => ?_)
  refine lv_iconst (v := 0) hx hb d_X_settleChosen_2 (by decide) ?_
  refine lv_istore_n (lv' := [(3, .int _), (2, .int _), (0, .ref _), (1, .int _)]) hx hb d_X_settleChosen_3 rfl hl (by decide) rfl (fun ls hl => ?_)
  refine lp_X_settleChosen_4_ok D cA ad n A hx hb hml hr hts hown hlocks hK _ _ _ (fun σ10 y2_9 H locs ls  hl hW hS hf => ?_) _ _ _ _ _ _ _  (lv_sub hl [2, 3, 1, 0] rfl) hW hS hf
  refine lv_iload_n hx hb d_X_settleChosen_70 rfl (lv_at hl 0 rfl) ?_
  exact W.iret hx hb hr (fun t ht hWm => ⟨⟨_, _, rfl, Option.some.inj hf, by rw [ht]; exact hW, va_K.moved hWm.alike hK⟩, hS.F ht⟩) hS.2.2 d_X_settleChosen_71

set_option maxHeartbeats 4000000 in
set_option maxRecDepth 100000 in
theorem lp_X_wouldBeWell_15_ok {p : Program} {l : Launch} {e : Env} {s : State} {m : MethodId} {args : Array Value} {below : List Frame} {meth : Method} {c : Code} (D : va_G) (cA : Nat → ClassId) (ad : Nat → Nat → Nat) (n : Nat) (A : Nat → Prop) (hx : p.tables.exec = Jvm.exec) (hb : c.code = prog_1_method_34_code) (hml : c.maxLocals = 10) (hr : meth.sig.returnType = (some .boolean)) (hts : ∀ w ∈ ws_X_wouldBeWell, w.before args s = true) (hown : s.vm.findClass "GridlockDesk" = some m.cls) (hlocks : meth.locks = false) (hK : va_K D vCl (atys cA) s) (k : St → Int64 → Int64 → Option (Int32 × St)) (out : Int32 × St) (v1 : Int32) (v2 : Nat) (hk : ∀ (σ : St) (v3 : Int64) (v5 : Int64) (H : Heap) (locs : List Loc) (ls : Array Slot), lv_has ls 10 [(2, .ref (ad 4 v2)), (3, .long v3), (5, .long v5)] → CW D cA ad n A σ H → va_S A s.heap H locs → k σ v3 v5 = some out → W p l e (headSpec ws_X_wouldBeWell ({ frames := 1, cells := 0, slots := 0, locals := 25 })).room s m args below meth c H locs 0 0 (MQ below (va_Qi (fun r u => (r, u) = out) (fun u t => CW D cA ad n A u t.heap ∧ va_K D vCl (atys cA) t) A) args s 0 0 A) (F0 m 101 ls [])) : ∀ (fu : Nat) (σ : St) (v3 : Int64) (v5 : Int64) (v7 : Int32) (H : Heap) (locs : List Loc) (ls : Array Slot), v2 < n → lv_has ls 10 [(0, .ref (ad 0 0)), (1, .int v1), (2, .ref (ad 4 v2)), (3, .long v3), (5, .long v5), (7, .int v7)] → CW D cA ad n A σ H → va_S A s.heap H locs → lp_X_wouldBeWell_15 n k fu σ v1 v2 v3 v5 v7 = some out → W p l e (headSpec ws_X_wouldBeWell ({ frames := 1, cells := 0, slots := 0, locals := 25 })).room s m args below meth c H locs 0 0 (MQ below (va_Qi (fun r u => (r, u) = out) (fun u t => CW D cA ad n A u t.heap ∧ va_K D vCl (atys cA) t) A) args s 0 0 A) (F0 m 15 ls []) := by
  intro fu
  induction fu with
  | zero =>
    intro σ v3 v5 v7 H locs ls hv2 hl hW hS hf
    exact og_n hf
  | succ fu ih =>
    intro σ v3 v5 v7 H locs ls hv2 hl hW hS hf
    rw [lp_X_wouldBeWell_15_s] at hf
    have ht : ∀ w ∈ TB, w.before args s = true := fun w h => hts w (List.mem_cons_of_mem _ h)
    refine lv_iload hx hb d_X_wouldBeWell_15 (lv_at hl 5 rfl) ?_
    refine lv_aload_n hx hb d_X_wouldBeWell_17 rfl (lv_at hl 0 rfl) ?_
    refine va_get (D := D) (ci := 2) (C := "GridlockDesk") (T := T_X) (N := 6) hx hb ht hin_X hown hK (hW.1.one (t := 0) rfl) 0 rfl rfl 0 (by decide) (ht _ tw_93) (fun _ h9 => h9) rfl d_X_wouldBeWell_18 ?_
    refine va_alen (D := D) (v := nI n) hx hb hK (hW.1.one (t := 1) rfl) 0 2 rfl rfl rfl d_X_wouldBeWell_21 ?_
    refine lv_icmp_ge (tgt := 101) hx hb d_X_wouldBeWell_22 rfl (fun hc => ?_) (fun hc => ?_)
    · replace hf := og_t hc hf
      exact hk _ _ _ _ _ _  (lv_sub hl [2, 3, 4] rfl) hW hS hf
    · replace hf := og_f hc hf
      refine lv_aload_n hx hb d_X_wouldBeWell_25 rfl (lv_at hl 2 rfl) ?_
      refine lv_aload_n hx hb d_X_wouldBeWell_26 rfl (lv_at hl 0 rfl) ?_
      refine va_get (D := D) (ci := 2) (C := "GridlockDesk") (T := T_X) (N := 6) hx hb ht hin_X hown hK (hW.1.one (t := 0) rfl) 0 rfl rfl 5 (by decide) (ht _ tw_98) (fun _ h9 => h9) rfl d_X_wouldBeWell_27 ?_
      refine lv_iload_n hx hb d_X_wouldBeWell_30 rfl (lv_at hl 1 rfl) ?_
      obtain ⟨hin2, hf⟩ := og_if hf
      refine va_iald (D := D) hx hb hK (hW.1.one (t := 3) rfl) 0 1 rfl rfl hin2 d_X_wouldBeWell_31 ?_
      refine lv_iload hx hb d_X_wouldBeWell_32 (lv_at hl 5 rfl) ?_
      obtain ⟨o3, ho3, hf⟩ := og_b hf
      refine kc_l (P := (fun u H => CW D cA ad n A u H)) (va_runV (C := "GridlockDesk$Bank") (As := [.int _, .int _]) (rest := []) ⟨hx, hb, hml, hown, hts⟩ (m_B_sentWith l D cA ad n A _ _ _ _ hv2 o3 ho3) (cwV 2 hts (tb_V tw_146 tw_147 tw_148 tw_33 tw_149) rfl rfl rfl (by decide +kernel) ⟨Nat.le_of_ble_eq_true rfl, Nat.le_of_ble_eq_true rfl⟩) ⟨k_blind, kw.recv hK hW.1 (t := 4) hv2 rfl rfl, k_pre hW hK⟩ rfl rfl hl.1 rfl (lv_room (Nat.le_of_ble_eq_true rfl)) d_X_wouldBeWell_34 ⟨Nat.zero_le _, Nat.zero_le _⟩) hS (fun H locs hW hS => ?_)
      refine lv_aload_n hx hb d_X_wouldBeWell_37 rfl (lv_at hl 0 rfl) ?_
      refine va_get (D := D) (ci := 2) (C := "GridlockDesk") (T := T_X) (N := 6) hx hb ht hin_X hown hK (hW.1.one (t := 0) rfl) 0 rfl rfl 0 (by decide) (ht _ tw_93) (fun _ h9 => h9) rfl d_X_wouldBeWell_38 ?_
      refine lv_iload hx hb d_X_wouldBeWell_41 (lv_at hl 5 rfl) ?_
      obtain ⟨hin4, hf⟩ := og_if hf
      refine va_aldq (D := D) hx hb hK (hW.1.one (t := 1) rfl) 0 2 rfl rfl hin4 d_X_wouldBeWell_43 ?_
      refine W.eq (g2 := F0 m 44 ls (.ref (ad 4 _) :: [_])) rfl ?_
      refine lv_aload_n hx hb d_X_wouldBeWell_44 rfl (lv_at hl 0 rfl) ?_
      refine va_get (D := D) (ci := 2) (C := "GridlockDesk") (T := T_X) (N := 6) hx hb ht hin_X hown hK (hW.1.one (t := 0) rfl) 0 rfl rfl 5 (by decide) (ht _ tw_98) (fun _ h9 => h9) rfl d_X_wouldBeWell_45 ?_
      refine lv_iload hx hb d_X_wouldBeWell_48 (lv_at hl 5 rfl) ?_
      obtain ⟨hin5, hf⟩ := og_if hf
      refine va_iald (D := D) hx hb hK (hW.1.one (t := 3) rfl) 0 1 rfl rfl hin5 d_X_wouldBeWell_50 ?_
      refine lv_iload_n hx hb d_X_wouldBeWell_51 rfl (lv_at hl 1 rfl) ?_
      obtain ⟨o6, ho6, hf⟩ := og_b hf
      refine kc_l (P := (fun u H => CW D cA ad n A u H)) (va_runV (C := "GridlockDesk$Bank") (As := [.int _, .int _]) (rest := [.long _]) ⟨hx, hb, hml, hown, hts⟩ (m_B_sentWith l D cA ad n A _ _ _ _ (vin_lt hin4) o6 ho6) (cwV 2 hts (tb_V tw_146 tw_147 tw_148 tw_33 tw_149) rfl rfl rfl (by decide +kernel) ⟨Nat.le_of_ble_eq_true rfl, Nat.le_of_ble_eq_true rfl⟩) ⟨k_blind, kw.recv hK hW.1 (t := 4) (vin_lt hin4) rfl rfl, k_pre hW hK⟩ rfl rfl hl.1 rfl (lv_room (Nat.le_of_ble_eq_true rfl)) d_X_wouldBeWell_52 ⟨Nat.zero_le _, Nat.zero_le _⟩) hS (fun H locs hW hS => ?_)
      refine lv_lsub hx hb d_X_wouldBeWell_55 ?_
      refine lv_lstore (lv' := [(8, .long _), (0, .ref _), (1, .int _), (2, .ref _), (3, .long _), (5, .long _), (7, .int _)]) hx hb d_X_wouldBeWell_56 hl (by decide) rfl (fun ls hl => ?_)
      refine lv_lload hx hb d_X_wouldBeWell_58 (lv_at hl 0 rfl) ?_
      refine lv_aload_n hx hb d_X_wouldBeWell_60 rfl (lv_at hl 3 rfl) ?_
      refine va_get (D := D) (ci := 0) (C := "GridlockDesk$Bank") (T := T_B) (N := 7) hx hb ht hin_B hown hK (hW.1.one (t := 4) hv2) 0 rfl rfl 3 (by decide) (ht _ tw_69) (fun _ h9 => h9) rfl d_X_wouldBeWell_61 ?_
      refine lv_iload hx hb d_X_wouldBeWell_64 (lv_at hl 6 rfl) ?_
      obtain ⟨hin7, hf⟩ := og_if hf
      refine va_lald (D := D) hx hb hK (hW.1.one (t := 5) hv2) 0 0 rfl rfl hin7 d_X_wouldBeWell_66 ?_
      obtain ⟨o8, ho8, hf⟩ := og_b hf
      refine kc_i (P := (fun u H => CW D cA ad n A u H)) (va_runS (As := [.long _, .long _]) (rest := []) ⟨hx, hb, hml, hown, hts⟩ (m_X_exceeds l D cA ad n A _  _ _  o8 ho8) (va_cwS 2 hts (tb_S tw_150 tw_151 tw_31 tw_152) rfl rfl rfl (by decide +kernel) ⟨Nat.le_of_ble_eq_true rfl, Nat.le_of_ble_eq_true rfl⟩) ⟨k_blind, k_pre hW hK⟩ rfl rfl hl.1 rfl (lv_room (Nat.le_of_ble_eq_true rfl)) d_X_wouldBeWell_67 ⟨Nat.zero_le _, Nat.zero_le _⟩) hS (fun H locs hW hS => ?_)
      refine lv_if_eq (tgt := 75) hx hb d_X_wouldBeWell_70 rfl (fun hc => ?_) (fun hc => ?_)
      · replace hf := og_t hc hf
        refine lv_lload_n hx hb d_X_wouldBeWell_75 rfl (lv_at hl 4 rfl) ?_
        refine lv_lload hx hb d_X_wouldBeWell_76 (lv_at hl 0 rfl) ?_
        refine lv_ladd hx hb d_X_wouldBeWell_78 ?_
        refine lv_lstore_n (lv' := [(3, .long _), (8, .long _), (0, .ref _), (1, .int _), (2, .ref _), (5, .long _), (7, .int _)]) hx hb d_X_wouldBeWell_79 rfl hl (by decide) rfl (fun ls hl => ?_)
        refine lv_lload hx hb d_X_wouldBeWell_80 (lv_at hl 5 rfl) ?_
        refine lv_lload hx hb d_X_wouldBeWell_82 (lv_at hl 1 rfl) ?_
        refine lv_aload_n hx hb d_X_wouldBeWell_84 rfl (lv_at hl 2 rfl) ?_
        refine lv_iload_n hx hb d_X_wouldBeWell_85 rfl (lv_at hl 3 rfl) ?_
        refine lv_iload hx hb d_X_wouldBeWell_86 (lv_at hl 6 rfl) ?_
        obtain ⟨o9, ho9, hf⟩ := og_b hf
        refine kc_l (P := (fun u H => CW D cA ad n A u H)) (va_runV (C := "GridlockDesk") (As := [.int _, .int _]) (rest := [.long _, .long _]) ⟨hx, hb, hml, hown, hts⟩ (m_X_positionOf l D cA ad n A _  _ _  o9 ho9) (cwV 2 hts (tb_V tw_154 tw_156 tw_6 tw_31 tw_157) rfl rfl rfl (by decide +kernel) ⟨Nat.le_of_ble_eq_true rfl, Nat.le_of_ble_eq_true rfl⟩) ⟨k_blind, kw.recv hK hW.1 (t := 0) rfl rfl rfl, k_pre hW hK⟩ rfl rfl hl.1 rfl (lv_room (Nat.le_of_ble_eq_true rfl)) d_X_wouldBeWell_88 ⟨Nat.zero_le _, Nat.zero_le _⟩) hS (fun H locs hW hS => ?_)
        refine lv_lsub hx hb d_X_wouldBeWell_91 ?_
        refine lv_ladd hx hb d_X_wouldBeWell_92 ?_
        refine lv_lstore (lv' := [(5, .long _), (3, .long _), (8, .long _), (0, .ref _), (1, .int _), (2, .ref _), (7, .int _)]) hx hb d_X_wouldBeWell_93 hl (by decide) rfl (fun ls hl => ?_)
        refine lv_iinc (k := 6) (v := _ + 1) (lv' := [(7, .int _), (5, .long _), (3, .long _), (8, .long _), (0, .ref _), (1, .int _), (2, .ref _)]) hx hb d_X_wouldBeWell_95 hl rfl rfl (by decide) rfl (fun ls hl => ?_)
        refine lv_goto (tgt := 15) hx hb d_X_wouldBeWell_98 rfl ?_
        exact ih _ _ _ _ _ _ _ hv2 (lv_sub hl [4, 5, 6, 2, 1, 0] rfl) hW hS hf
      · replace hf := og_f hc hf
        refine lv_iconst (v := 0) hx hb d_X_wouldBeWell_73 (by decide) ?_
        exact W.zret hx hb hr rfl (fun t ht hWm => ⟨⟨_, _, rfl, Option.some.inj hf, by rw [ht]; exact hW, va_K.moved hWm.alike hK⟩, hS.F ht⟩) hS.2.2 d_X_wouldBeWell_74

set_option maxHeartbeats 4000000 in
set_option maxRecDepth 100000 in
theorem m_X_wouldBeWell (l : Launch) (D : va_G) (cA : Nat → ClassId) (ad : Nat → Nat → Nat) (n : Nat) (A : Nat → Prop) (σ : St) (x1 : Int32)  (out : Int32 × St) (hf : f_X_wouldBeWell n σ x1 = some out) : Met l y_X_wouldBeWell ws_X_wouldBeWell ({ frames := 1, cells := 0, slots := 0, locals := 25 }) (va_Pc [.ref (ad 0 0), .int x1] (fun U => CW D cA ad n A σ U.heap ∧ va_K D vCl (atys cA) U)) (va_Qi (fun r u => (r, u) = out) (fun u t => CW D cA ad n A u t.heap ∧ va_K D vCl (atys cA) t) A) 0 0 A := by
  refine Met.ofW (cc := prog_1_method_34_code) (maxL := 10) (ret := (some .boolean)) (by decide) rfl ?_
  intro p e s m args below meth c s₁ B hml hv
  obtain ⟨rfl, hW, hK⟩ := hv
  have hx := B.exec
  have hb := B.bytes
  have hr := B.returns
  have hts := atoms_spec (ws := ws_X_wouldBeWell) B.pre
  have ht : ∀ w ∈ TB, w.before _ s = true := fun w h => hts w (List.mem_cons_of_mem _ h)
  have hown : s.vm.findClass "GridlockDesk" = some m.cls := findClass_of_methodNamed B.named
  have hlocks := B.notSynchronized
  have hS : va_S A s.heap s.heap [] := va_S.rf
  have hl := lv_entry ([.ref (ad 0 0), .int x1]) (n := 10) (Nat.le_of_ble_eq_true rfl)
  rw [lg_entry_eq]
  generalize (lg_sl ([.ref (ad 0 0), .int x1]) ++ List.replicate (10 - (lg_sl ([.ref (ad 0 0), .int x1])).length) Slot.unset).toArray = ls at hl ⊢
  have hl : lv_has ls 10 [(0, .ref (ad 0 0)), (1, .int x1)] := hl
  unfold f_X_wouldBeWell at hf

  refine lv_aload_n hx hb d_X_wouldBeWell_0 rfl (lv_at hl 0 rfl) ?_
  refine va_get (D := D) (ci := 2) (C := "GridlockDesk") (T := T_X) (N := 6) hx hb ht hin_X hown hK (hW.1.one (t := 0) rfl) 0 rfl rfl 0 (by decide) (ht _ tw_93) (fun _ h9 => h9) rfl d_X_wouldBeWell_1 ?_
  refine lv_iload_n hx hb d_X_wouldBeWell_4 rfl (lv_at hl 1 rfl) ?_
  obtain ⟨hin1, hf⟩ := og_if hf
  refine va_aldq (D := D) hx hb hK (hW.1.one (t := 1) rfl) 0 2 rfl rfl hin1 d_X_wouldBeWell_5 ?_
  refine W.eq (g2 := F0 m 6 ls (.ref (ad 4 _) :: [])) rfl ?_
  refine lv_astore_n (lv' := [(2, .ref _), (0, .ref _), (1, .int _)]) hx hb d_X_wouldBeWell_6 rfl hl (by decide) rfl (fun ls hl => ?_)
  refine lv_lconst (v := 0) hx hb d_X_wouldBeWell_7 (by decide) ?_
  refine lv_lstore_n (lv' := [(3, .long _), (2, .ref _), (0, .ref _), (1, .int _)]) hx hb d_X_wouldBeWell_8 rfl hl (by decide) rfl (fun ls hl => ?_)
  refine lv_lconst (v := 0) hx hb d_X_wouldBeWell_9 (by decide) ?_
  refine lv_lstore (lv' := [(5, .long _), (3, .long _), (2, .ref _), (0, .ref _), (1, .int _)]) hx hb d_X_wouldBeWell_10 hl (by decide) rfl (fun ls hl => ?_)
  refine lv_iconst (v := 0) hx hb d_X_wouldBeWell_12 (by decide) ?_
  refine lv_istore (lv' := [(7, .int _), (5, .long _), (3, .long _), (2, .ref _), (0, .ref _), (1, .int _)]) hx hb d_X_wouldBeWell_13 hl (by decide) rfl (fun ls hl => ?_)
  refine lp_X_wouldBeWell_15_ok D cA ad n A hx hb hml hr hts hown hlocks hK _ _ _ _ (fun σ12 y3_10 y5_11 H locs ls  hl hW hS hf => ?_) _ _ _ _ _ _ _ _ (vin_lt hin1) (lv_sub hl [4, 5, 3, 2, 1, 0] rfl) hW hS hf
  refine lv_aload_n hx hb d_X_wouldBeWell_101 rfl (lv_at hl 0 rfl) ?_
  refine va_get (D := D) (ci := 0) (C := "GridlockDesk$Bank") (T := T_B) (N := 7) hx hb ht hin_B hown hK (hW.1.one (t := 4) (vin_lt hin1)) 0 rfl rfl 0 (by decide) (ht _ tw_64) (fun _ h9 => h9) rfl d_X_wouldBeWell_102 ?_
  refine lv_lload hx hb d_X_wouldBeWell_105 (lv_at hl 2 rfl) ?_
  refine lv_lsub hx hb d_X_wouldBeWell_107 ?_
  refine lv_aload_n hx hb d_X_wouldBeWell_108 rfl (lv_at hl 0 rfl) ?_
  refine va_get (D := D) (ci := 0) (C := "GridlockDesk$Bank") (T := T_B) (N := 7) hx hb ht hin_B hown hK (hW.1.one (t := 4) (vin_lt hin1)) 0 rfl rfl 1 (by decide) (ht _ tw_65) (fun _ h9 => h9) rfl d_X_wouldBeWell_109 ?_
  refine lv_lneg hx hb d_X_wouldBeWell_112 ?_
  refine lc_lt (tgt := 132) hx hb d_X_wouldBeWell_113 d_X_wouldBeWell_114 rfl (fun hc => ?_) (fun hc => ?_)
  · replace hf := og_t hc hf
    refine lv_iconst (v := 0) hx hb d_X_wouldBeWell_132 (by decide) ?_
    exact W.zret hx hb hr rfl (fun t ht hWm => ⟨⟨_, _, rfl, Option.some.inj hf, by rw [ht]; exact hW, va_K.moved hWm.alike hK⟩, hS.F ht⟩) hS.2.2 d_X_wouldBeWell_133
  · replace hf := og_f hc hf
    refine lv_lload_n hx hb d_X_wouldBeWell_117 rfl (lv_at hl 1 rfl) ?_
    refine lv_aload_n hx hb d_X_wouldBeWell_118 rfl (lv_at hl 0 rfl) ?_
    refine va_get (D := D) (ci := 0) (C := "GridlockDesk$Bank") (T := T_B) (N := 7) hx hb ht hin_B hown hK (hW.1.one (t := 4) (vin_lt hin1)) 0 rfl rfl 2 (by decide) (ht _ tw_67) (fun _ h9 => h9) rfl d_X_wouldBeWell_119 ?_
    obtain ⟨o13, ho13, hf⟩ := og_b hf
    refine kc_i (P := (fun u H => CW D cA ad n A u H)) (va_runS (As := [.long _, .long _]) (rest := []) ⟨hx, hb, hml, hown, hts⟩ (m_X_exceeds l D cA ad n A _  _ _  o13 ho13) (va_cwS 2 hts (tb_S tw_150 tw_151 tw_31 tw_152) rfl rfl rfl (by decide +kernel) ⟨Nat.le_of_ble_eq_true rfl, Nat.le_of_ble_eq_true rfl⟩) ⟨k_blind, k_pre hW hK⟩ rfl rfl hl.1 rfl (lv_room (Nat.le_of_ble_eq_true rfl)) d_X_wouldBeWell_122 ⟨Nat.zero_le _, Nat.zero_le _⟩) hS (fun H locs hW hS => ?_)
    refine lv_if_ne (tgt := 132) hx hb d_X_wouldBeWell_125 rfl (fun hc => ?_) (fun hc => ?_)
    · replace hf := og_f hc hf
      refine lv_iconst (v := 0) hx hb d_X_wouldBeWell_132 (by decide) ?_
      exact W.zret hx hb hr rfl (fun t ht hWm => ⟨⟨_, _, rfl, Option.some.inj hf, by rw [ht]; exact hW, va_K.moved hWm.alike hK⟩, hS.F ht⟩) hS.2.2 d_X_wouldBeWell_133
    · replace hf := og_t hc hf
      refine lv_iconst (v := 1) hx hb d_X_wouldBeWell_128 (by decide) ?_
      refine lv_goto (tgt := 133) hx hb d_X_wouldBeWell_129 rfl ?_
      exact W.zret hx hb hr rfl (fun t ht hWm => ⟨⟨_, _, rfl, Option.some.inj hf, by rw [ht]; exact hW, va_K.moved hWm.alike hK⟩, hS.F ht⟩) hS.2.2 d_X_wouldBeWell_133

set_option maxHeartbeats 4000000 in
set_option maxRecDepth 100000 in
theorem lp_X_firstUnwellBank_2_ok {p : Program} {l : Launch} {e : Env} {s : State} {m : MethodId} {args : Array Value} {below : List Frame} {meth : Method} {c : Code} (D : va_G) (cA : Nat → ClassId) (ad : Nat → Nat → Nat) (n : Nat) (A : Nat → Prop) (hx : p.tables.exec = Jvm.exec) (hb : c.code = prog_1_method_33_code) (hml : c.maxLocals = 2) (hr : meth.sig.returnType = (some .int)) (hts : ∀ w ∈ ws_X_firstUnwellBank, w.before args s = true) (hown : s.vm.findClass "GridlockDesk" = some m.cls) (hlocks : meth.locks = false) (hK : va_K D vCl (atys cA) s) (k : St → Option (Int32 × St)) (out : Int32 × St)  (hk : ∀ (σ : St)  (H : Heap) (locs : List Loc) (ls : Array Slot), lv_has ls 2 [] → CW D cA ad n A σ H → va_S A s.heap H locs → k σ  = some out → W p l e (headSpec ws_X_firstUnwellBank ({ frames := 2, cells := 0, slots := 0, locals := 54 })).room s m args below meth c H locs 0 0 (MQ below (va_Qi (fun r u => (r, u) = out) (fun u t => CW D cA ad n A u t.heap ∧ va_K D vCl (atys cA) t) A) args s 0 0 A) (F0 m 27 ls [])) : ∀ (fu : Nat) (σ : St) (v1 : Int32) (H : Heap) (locs : List Loc) (ls : Array Slot), lv_has ls 2 [(0, .ref (ad 0 0)), (1, .int v1)] → CW D cA ad n A σ H → va_S A s.heap H locs → lp_X_firstUnwellBank_2 n k fu σ v1 = some out → W p l e (headSpec ws_X_firstUnwellBank ({ frames := 2, cells := 0, slots := 0, locals := 54 })).room s m args below meth c H locs 0 0 (MQ below (va_Qi (fun r u => (r, u) = out) (fun u t => CW D cA ad n A u t.heap ∧ va_K D vCl (atys cA) t) A) args s 0 0 A) (F0 m 2 ls []) := by
  intro fu
  induction fu with
  | zero =>
    intro σ v1 H locs ls  hl hW hS hf
    exact og_n hf
  | succ fu ih =>
    intro σ v1 H locs ls  hl hW hS hf
    rw [lp_X_firstUnwellBank_2_s] at hf
    have ht : ∀ w ∈ TB, w.before args s = true := fun w h => hts w (List.mem_cons_of_mem _ h)
    refine lv_iload_n hx hb d_X_firstUnwellBank_2 rfl (lv_at hl 1 rfl) ?_
    refine lv_aload_n hx hb d_X_firstUnwellBank_3 rfl (lv_at hl 0 rfl) ?_
    refine va_get (D := D) (ci := 2) (C := "GridlockDesk") (T := T_X) (N := 6) hx hb ht hin_X hown hK (hW.1.one (t := 0) rfl) 0 rfl rfl 0 (by decide) (ht _ tw_93) (fun _ h9 => h9) rfl d_X_firstUnwellBank_4 ?_
    refine va_alen (D := D) (v := nI n) hx hb hK (hW.1.one (t := 1) rfl) 0 2 rfl rfl rfl d_X_firstUnwellBank_7 ?_
    refine lv_icmp_ge (tgt := 27) hx hb d_X_firstUnwellBank_8 rfl (fun hc => ?_) (fun hc => ?_)
    · replace hf := og_t hc hf
      exact hk _  _ _ _  (lv_sub hl [] rfl) hW hS hf
    · replace hf := og_f hc hf
      refine lv_aload_n hx hb d_X_firstUnwellBank_11 rfl (lv_at hl 0 rfl) ?_
      refine lv_iload_n hx hb d_X_firstUnwellBank_12 rfl (lv_at hl 1 rfl) ?_
      obtain ⟨o1, ho1, hf⟩ := og_b hf
      refine kc_i (P := (fun u H => CW D cA ad n A u H)) (va_runV (C := "GridlockDesk") (As := [.int _]) (rest := []) ⟨hx, hb, hml, hown, hts⟩ (m_X_wouldBeWell l D cA ad n A _  _  o1 ho1) (cwV 1 hts (tb_V tw_142 tw_144 tw_5 tw_31 tw_145) rfl rfl rfl (by decide +kernel) ⟨Nat.le_of_ble_eq_true rfl, Nat.le_of_ble_eq_true rfl⟩) ⟨k_blind, kw.recv hK hW.1 (t := 0) rfl rfl rfl, k_pre hW hK⟩ rfl rfl hl.1 rfl (lv_room (Nat.le_of_ble_eq_true rfl)) d_X_firstUnwellBank_13 ⟨Nat.zero_le _, Nat.zero_le _⟩) hS (fun H locs hW hS => ?_)
      refine lv_if_ne (tgt := 21) hx hb d_X_firstUnwellBank_16 rfl (fun hc => ?_) (fun hc => ?_)
      · replace hf := og_f hc hf
        refine lv_iinc (k := 1) (v := _ + 1) (lv' := [(1, .int _), (0, .ref _)]) hx hb d_X_firstUnwellBank_21 hl rfl rfl (by decide) rfl (fun ls hl => ?_)
        refine lv_goto (tgt := 2) hx hb d_X_firstUnwellBank_24 rfl ?_
        exact ih _ _ _ _ _  (lv_sub hl [1, 0] rfl) hW hS hf
      · replace hf := og_t hc hf
        refine lv_iload_n hx hb d_X_firstUnwellBank_19 rfl (lv_at hl 1 rfl) ?_
        exact W.iret hx hb hr (fun t ht hWm => ⟨⟨_, _, rfl, Option.some.inj hf, by rw [ht]; exact hW, va_K.moved hWm.alike hK⟩, hS.F ht⟩) hS.2.2 d_X_firstUnwellBank_20

set_option maxHeartbeats 4000000 in
set_option maxRecDepth 100000 in
theorem m_X_firstUnwellBank (l : Launch) (D : va_G) (cA : Nat → ClassId) (ad : Nat → Nat → Nat) (n : Nat) (A : Nat → Prop) (σ : St)   (out : Int32 × St) (hf : f_X_firstUnwellBank n σ  = some out) : Met l y_X_firstUnwellBank ws_X_firstUnwellBank ({ frames := 2, cells := 0, slots := 0, locals := 54 }) (va_Pc [.ref (ad 0 0)] (fun U => CW D cA ad n A σ U.heap ∧ va_K D vCl (atys cA) U)) (va_Qi (fun r u => (r, u) = out) (fun u t => CW D cA ad n A u t.heap ∧ va_K D vCl (atys cA) t) A) 0 0 A := by
  refine Met.ofW (cc := prog_1_method_33_code) (maxL := 2) (ret := (some .int)) (by decide) rfl ?_
  intro p e s m args below meth c s₁ B hml hv
  obtain ⟨rfl, hW, hK⟩ := hv
  have hx := B.exec
  have hb := B.bytes
  have hr := B.returns
  have hts := atoms_spec (ws := ws_X_firstUnwellBank) B.pre
  have ht : ∀ w ∈ TB, w.before _ s = true := fun w h => hts w (List.mem_cons_of_mem _ h)
  have hown : s.vm.findClass "GridlockDesk" = some m.cls := findClass_of_methodNamed B.named
  have hlocks := B.notSynchronized
  have hS : va_S A s.heap s.heap [] := va_S.rf
  have hl := lv_entry ([.ref (ad 0 0)]) (n := 2) (Nat.le_of_ble_eq_true rfl)
  rw [lg_entry_eq]
  generalize (lg_sl ([.ref (ad 0 0)]) ++ List.replicate (2 - (lg_sl ([.ref (ad 0 0)])).length) Slot.unset).toArray = ls at hl ⊢
  have hl : lv_has ls 2 [(0, .ref (ad 0 0))] := hl
  unfold f_X_firstUnwellBank at hf

  refine lv_iconst (v := 0) hx hb d_X_firstUnwellBank_0 (by decide) ?_
  refine lv_istore_n (lv' := [(1, .int _), (0, .ref _)]) hx hb d_X_firstUnwellBank_1 rfl hl (by decide) rfl (fun ls hl => ?_)
  refine lp_X_firstUnwellBank_2_ok D cA ad n A hx hb hml hr hts hown hlocks hK _ _  (fun σ2 H locs ls  hl hW hS hf => ?_) _ _ _ _ _ _  (lv_sub hl [1, 0] rfl) hW hS hf
  refine lv_iconst (v := (-1)) hx hb d_X_firstUnwellBank_27 (by decide) ?_
  exact W.iret hx hb hr (fun t ht hWm => ⟨⟨_, _, rfl, Option.some.inj hf, by rw [ht]; exact hW, va_K.moved hWm.alike hK⟩, hS.F ht⟩) hS.2.2 d_X_firstUnwellBank_28

set_option maxHeartbeats 4000000 in
set_option maxRecDepth 100000 in
theorem m_X_chooseHeads (l : Launch) (D : va_G) (cA : Nat → ClassId) (ad : Nat → Nat → Nat) (n : Nat) (A : Nat → Prop) (σ : St) (x1 : Int32) (x2 : Int32)  (out : Int32 × St) (hf : f_X_chooseHeads n σ x1 x2 = some out) : Met l y_X_chooseHeads ws_X_chooseHeads ({ frames := 3, cells := 0, slots := 0, locals := 75 }) (va_Pc [.ref (ad 0 0), .int x1, .int x2] (fun U => CW D cA ad n A σ U.heap ∧ va_K D vCl (atys cA) U)) (va_Qi (fun r u => (r, u) = out) (fun u t => CW D cA ad n A u t.heap ∧ va_K D vCl (atys cA) t) A) 0 0 A := by
  refine Met.ofW (cc := prog_1_method_31_code) (maxL := 3) (ret := (some .boolean)) (by decide) rfl ?_
  intro p e s m args below meth c s₁ B hml hv
  obtain ⟨rfl, hW, hK⟩ := hv
  have hx := B.exec
  have hb := B.bytes
  have hr := B.returns
  have hts := atoms_spec (ws := ws_X_chooseHeads) B.pre
  have ht : ∀ w ∈ TB, w.before _ s = true := fun w h => hts w (List.mem_cons_of_mem _ h)
  have hown : s.vm.findClass "GridlockDesk" = some m.cls := findClass_of_methodNamed B.named
  have hlocks := B.notSynchronized
  have hS : va_S A s.heap s.heap [] := va_S.rf
  have hl := lv_entry ([.ref (ad 0 0), .int x1, .int x2]) (n := 3) (Nat.le_of_ble_eq_true rfl)
  rw [lg_entry_eq]
  generalize (lg_sl ([.ref (ad 0 0), .int x1, .int x2]) ++ List.replicate (3 - (lg_sl ([.ref (ad 0 0), .int x1, .int x2])).length) Slot.unset).toArray = ls at hl ⊢
  have hl : lv_has ls 3 [(0, .ref (ad 0 0)), (1, .int x1), (2, .int x2)] := hl
  unfold f_X_chooseHeads at hf

  refine lv_aload_n hx hb d_X_chooseHeads_0 rfl (lv_at hl 0 rfl) ?_
  refine va_get (D := D) (ci := 2) (C := "GridlockDesk") (T := T_X) (N := 6) hx hb ht hin_X hown hK (hW.1.one (t := 0) rfl) 0 rfl rfl 5 (by decide) (ht _ tw_98) (fun _ h9 => h9) rfl d_X_chooseHeads_1 ?_
  refine lv_iconst (v := 0) hx hb d_X_chooseHeads_4 (by decide) ?_
  obtain ⟨hn1, hf⟩ := og_if hf
  obtain ⟨σ2, eσ2, hf⟩ := og_b hf
  cases eσ2
  refine k_fillI (t := 3) hx hb hml hown hts tw_135 hK hW.1 hS rfl (hW.2 _ _ rfl) rfl hn1 ⟨Nat.le_of_ble_eq_true rfl, Nat.le_of_ble_eq_true rfl⟩ hl.1 (Nat.le_of_ble_eq_true rfl) ⟨Nat.zero_le _, Nat.zero_le _⟩ d_X_chooseHeads_5 cc_fI2 (fun H locs hW1 hS => ?_)
  have hW := CW.fI hW1 hW.2
  refine lv_aload_n hx hb d_X_chooseHeads_8 rfl (lv_at hl 0 rfl) ?_
  refine va_get (D := D) (ci := 2) (C := "GridlockDesk") (T := T_X) (N := 6) hx hb ht hin_X hown hK (hW.1.one (t := 0) rfl) 0 rfl rfl 5 (by decide) (ht _ tw_98) (fun _ h9 => h9) rfl d_X_chooseHeads_9 ?_
  refine lv_iload_n hx hb d_X_chooseHeads_12 rfl (lv_at hl 1 rfl) ?_
  refine lv_iconst (v := 1) hx hb d_X_chooseHeads_13 (by decide) ?_
  obtain ⟨hin3, hf⟩ := og_if hf
  obtain ⟨σ4, eσ4, hf⟩ := og_b hf
  cases eσ4
  refine k_iast  (t := 3) hx hb hK hW.1 hS rfl (hW.2 _ _ rfl) 1 rfl rfl hin3 d_X_chooseHeads_14 cc_wI2 (fun H locs hW1 hS => ?_)
  have hW := CW.wI hW1 hW.2
  refine lv_aload_n hx hb d_X_chooseHeads_15 rfl (lv_at hl 0 rfl) ?_
  refine va_get (D := D) (ci := 2) (C := "GridlockDesk") (T := T_X) (N := 6) hx hb ht hin_X hown hK (hW.1.one (t := 0) rfl) 0 rfl rfl 5 (by decide) (ht _ tw_98) (fun _ h9 => h9) rfl d_X_chooseHeads_16 ?_
  refine lv_iload_n hx hb d_X_chooseHeads_19 rfl (lv_at hl 2 rfl) ?_
  refine lv_iconst (v := 1) hx hb d_X_chooseHeads_20 (by decide) ?_
  obtain ⟨hin5, hf⟩ := og_if hf
  obtain ⟨σ6, eσ6, hf⟩ := og_b hf
  cases eσ6
  refine k_iast  (t := 3) hx hb hK hW.1 hS rfl (hW.2 _ _ rfl) 1 rfl rfl hin5 d_X_chooseHeads_21 cc_wI2 (fun H locs hW1 hS => ?_)
  have hW := CW.wI hW1 hW.2
  refine lv_aload_n hx hb d_X_chooseHeads_22 rfl (lv_at hl 0 rfl) ?_
  obtain ⟨o7, ho7, hf⟩ := og_b hf
  refine kc_i (P := (fun u H => CW D cA ad n A u H)) (va_runV (C := "GridlockDesk") (As := []) (rest := []) ⟨hx, hb, hml, hown, hts⟩ (m_X_firstUnwellBank l D cA ad n A _    o7 ho7) (cwV 0 hts (tb_V tw_138 tw_140 tw_4 tw_31 tw_141) rfl rfl rfl (by decide +kernel) ⟨Nat.le_of_ble_eq_true rfl, Nat.le_of_ble_eq_true rfl⟩) ⟨k_blind, kw.recv hK hW.1 (t := 0) rfl rfl rfl, k_pre hW hK⟩ rfl rfl hl.1 rfl (lv_room (Nat.le_of_ble_eq_true rfl)) d_X_chooseHeads_23 ⟨Nat.zero_le _, Nat.zero_le _⟩) hS (fun H locs hW hS => ?_)
  refine lv_iconst (v := (-1)) hx hb d_X_chooseHeads_26 (by decide) ?_
  refine lv_icmp_ne (tgt := 34) hx hb d_X_chooseHeads_27 rfl (fun hc => ?_) (fun hc => ?_)
  · replace hf := og_f hc hf
    refine lv_iconst (v := 0) hx hb d_X_chooseHeads_34 (by decide) ?_
    exact W.zret hx hb hr rfl (fun t ht hWm => ⟨⟨_, _, rfl, Option.some.inj hf, by rw [ht]; exact hW, va_K.moved hWm.alike hK⟩, hS.F ht⟩) hS.2.2 d_X_chooseHeads_35
  · replace hf := og_t hc hf
    refine lv_iconst (v := 1) hx hb d_X_chooseHeads_30 (by decide) ?_
    refine lv_goto (tgt := 35) hx hb d_X_chooseHeads_31 rfl ?_
    exact W.zret hx hb hr rfl (fun t ht hWm => ⟨⟨_, _, rfl, Option.some.inj hf, by rw [ht]; exact hW, va_K.moved hWm.alike hK⟩, hS.F ht⟩) hS.2.2 d_X_chooseHeads_35

set_option maxHeartbeats 4000000 in
set_option maxRecDepth 100000 in
theorem lp_X_chooseReadyHead_2_ok {p : Program} {l : Launch} {e : Env} {s : State} {m : MethodId} {args : Array Value} {below : List Frame} {meth : Method} {c : Code} (D : va_G) (cA : Nat → ClassId) (ad : Nat → Nat → Nat) (n : Nat) (A : Nat → Prop) (hx : p.tables.exec = Jvm.exec) (hb : c.code = prog_1_method_29_code) (hml : c.maxLocals = 2) (hr : meth.sig.returnType = (some .boolean)) (hts : ∀ w ∈ ws_X_chooseReadyHead, w.before args s = true) (hown : s.vm.findClass "GridlockDesk" = some m.cls) (hlocks : meth.locks = false) (hK : va_K D vCl (atys cA) s) (k : St → Option (Int32 × St)) (out : Int32 × St)  (hk : ∀ (σ : St)  (H : Heap) (locs : List Loc) (ls : Array Slot), lv_has ls 2 [] → CW D cA ad n A σ H → va_S A s.heap H locs → k σ  = some out → W p l e (headSpec ws_X_chooseReadyHead ({ frames := 4, cells := 0, slots := 0, locals := 97 })).room s m args below meth c H locs 0 0 (MQ below (va_Qi (fun r u => (r, u) = out) (fun u t => CW D cA ad n A u t.heap ∧ va_K D vCl (atys cA) t) A) args s 0 0 A) (F0 m 40 ls [])) : ∀ (fu : Nat) (σ : St) (v1 : Int32) (H : Heap) (locs : List Loc) (ls : Array Slot), lv_has ls 2 [(0, .ref (ad 0 0)), (1, .int v1)] → CW D cA ad n A σ H → va_S A s.heap H locs → lp_X_chooseReadyHead_2 n k fu σ v1 = some out → W p l e (headSpec ws_X_chooseReadyHead ({ frames := 4, cells := 0, slots := 0, locals := 97 })).room s m args below meth c H locs 0 0 (MQ below (va_Qi (fun r u => (r, u) = out) (fun u t => CW D cA ad n A u t.heap ∧ va_K D vCl (atys cA) t) A) args s 0 0 A) (F0 m 2 ls []) := by
  intro fu
  induction fu with
  | zero =>
    intro σ v1 H locs ls  hl hW hS hf
    exact og_n hf
  | succ fu ih =>
    intro σ v1 H locs ls  hl hW hS hf
    rw [lp_X_chooseReadyHead_2_s] at hf
    have ht : ∀ w ∈ TB, w.before args s = true := fun w h => hts w (List.mem_cons_of_mem _ h)
    refine lv_iload_n hx hb d_X_chooseReadyHead_2 rfl (lv_at hl 1 rfl) ?_
    refine lv_aload_n hx hb d_X_chooseReadyHead_3 rfl (lv_at hl 0 rfl) ?_
    refine va_get (D := D) (ci := 2) (C := "GridlockDesk") (T := T_X) (N := 6) hx hb ht hin_X hown hK (hW.1.one (t := 0) rfl) 0 rfl rfl 0 (by decide) (ht _ tw_93) (fun _ h9 => h9) rfl d_X_chooseReadyHead_4 ?_
    refine va_alen (D := D) (v := nI n) hx hb hK (hW.1.one (t := 1) rfl) 0 2 rfl rfl rfl d_X_chooseReadyHead_7 ?_
    refine lv_icmp_ge (tgt := 40) hx hb d_X_chooseReadyHead_8 rfl (fun hc => ?_) (fun hc => ?_)
    · replace hf := og_t hc hf
      exact hk _  _ _ _  (lv_sub hl [] rfl) hW hS hf
    · replace hf := og_f hc hf
      refine lv_aload_n hx hb d_X_chooseReadyHead_11 rfl (lv_at hl 0 rfl) ?_
      refine va_get (D := D) (ci := 2) (C := "GridlockDesk") (T := T_X) (N := 6) hx hb ht hin_X hown hK (hW.1.one (t := 0) rfl) 0 rfl rfl 0 (by decide) (ht _ tw_93) (fun _ h9 => h9) rfl d_X_chooseReadyHead_12 ?_
      refine lv_iload_n hx hb d_X_chooseReadyHead_15 rfl (lv_at hl 1 rfl) ?_
      obtain ⟨hin1, hf⟩ := og_if hf
      refine va_aldq (D := D) hx hb hK (hW.1.one (t := 1) rfl) 0 2 rfl rfl hin1 d_X_chooseReadyHead_16 ?_
      refine W.eq (g2 := F0 m 17 ls (.ref (ad 4 _) :: [])) rfl ?_
      refine va_get (D := D) (ci := 0) (C := "GridlockDesk$Bank") (T := T_B) (N := 7) hx hb ht hin_B hown hK (hW.1.one (t := 4) (vin_lt hin1)) 0 rfl rfl 6 (by decide) (ht _ tw_75) (fun _ h9 => h9) rfl d_X_chooseReadyHead_17 ?_
      refine lv_if_le (tgt := 34) hx hb d_X_chooseReadyHead_20 rfl (fun hc => ?_) (fun hc => ?_)
      · replace hf := og_t hc hf
        refine lv_iinc (k := 1) (v := _ + 1) (lv' := [(1, .int _), (0, .ref _)]) hx hb d_X_chooseReadyHead_34 hl rfl rfl (by decide) rfl (fun ls hl => ?_)
        refine lv_goto (tgt := 2) hx hb d_X_chooseReadyHead_37 rfl ?_
        exact ih _ _ _ _ _  (lv_sub hl [1, 0] rfl) hW hS hf
      · replace hf := og_f hc hf
        refine lv_aload_n hx hb d_X_chooseReadyHead_23 rfl (lv_at hl 0 rfl) ?_
        refine lv_iload_n hx hb d_X_chooseReadyHead_24 rfl (lv_at hl 1 rfl) ?_
        refine lv_iload_n hx hb d_X_chooseReadyHead_25 rfl (lv_at hl 1 rfl) ?_
        obtain ⟨o2, ho2, hf⟩ := og_b hf
        refine kc_i (P := (fun u H => CW D cA ad n A u H)) (va_runV (C := "GridlockDesk") (As := [.int _, .int _]) (rest := []) ⟨hx, hb, hml, hown, hts⟩ (m_X_chooseHeads l D cA ad n A _  _ _  o2 ho2) (cwV 2 hts (tb_V tw_131 tw_133 tw_3 tw_31 tw_134) rfl rfl rfl (by decide +kernel) ⟨Nat.le_of_ble_eq_true rfl, Nat.le_of_ble_eq_true rfl⟩) ⟨k_blind, kw.recv hK hW.1 (t := 0) rfl rfl rfl, k_pre hW hK⟩ rfl rfl hl.1 rfl (lv_room (Nat.le_of_ble_eq_true rfl)) d_X_chooseReadyHead_26 ⟨Nat.zero_le _, Nat.zero_le _⟩) hS (fun H locs hW hS => ?_)
        refine lv_if_eq (tgt := 34) hx hb d_X_chooseReadyHead_29 rfl (fun hc => ?_) (fun hc => ?_)
        · replace hf := og_t hc hf
          refine lv_iinc (k := 1) (v := _ + 1) (lv' := [(1, .int _), (0, .ref _)]) hx hb d_X_chooseReadyHead_34 hl rfl rfl (by decide) rfl (fun ls hl => ?_)
          refine lv_goto (tgt := 2) hx hb d_X_chooseReadyHead_37 rfl ?_
          exact ih _ _ _ _ _  (lv_sub hl [1, 0] rfl) hW hS hf
        · replace hf := og_f hc hf
          refine lv_iconst (v := 1) hx hb d_X_chooseReadyHead_32 (by decide) ?_
          exact W.zret hx hb hr rfl (fun t ht hWm => ⟨⟨_, _, rfl, Option.some.inj hf, by rw [ht]; exact hW, va_K.moved hWm.alike hK⟩, hS.F ht⟩) hS.2.2 d_X_chooseReadyHead_33

set_option maxHeartbeats 4000000 in
set_option maxRecDepth 100000 in
theorem m_X_chooseReadyHead (l : Launch) (D : va_G) (cA : Nat → ClassId) (ad : Nat → Nat → Nat) (n : Nat) (A : Nat → Prop) (σ : St)   (out : Int32 × St) (hf : f_X_chooseReadyHead n σ  = some out) : Met l y_X_chooseReadyHead ws_X_chooseReadyHead ({ frames := 4, cells := 0, slots := 0, locals := 97 }) (va_Pc [.ref (ad 0 0)] (fun U => CW D cA ad n A σ U.heap ∧ va_K D vCl (atys cA) U)) (va_Qi (fun r u => (r, u) = out) (fun u t => CW D cA ad n A u t.heap ∧ va_K D vCl (atys cA) t) A) 0 0 A := by
  refine Met.ofW (cc := prog_1_method_29_code) (maxL := 2) (ret := (some .boolean)) (by decide) rfl ?_
  intro p e s m args below meth c s₁ B hml hv
  obtain ⟨rfl, hW, hK⟩ := hv
  have hx := B.exec
  have hb := B.bytes
  have hr := B.returns
  have hts := atoms_spec (ws := ws_X_chooseReadyHead) B.pre
  have ht : ∀ w ∈ TB, w.before _ s = true := fun w h => hts w (List.mem_cons_of_mem _ h)
  have hown : s.vm.findClass "GridlockDesk" = some m.cls := findClass_of_methodNamed B.named
  have hlocks := B.notSynchronized
  have hS : va_S A s.heap s.heap [] := va_S.rf
  have hl := lv_entry ([.ref (ad 0 0)]) (n := 2) (Nat.le_of_ble_eq_true rfl)
  rw [lg_entry_eq]
  generalize (lg_sl ([.ref (ad 0 0)]) ++ List.replicate (2 - (lg_sl ([.ref (ad 0 0)])).length) Slot.unset).toArray = ls at hl ⊢
  have hl : lv_has ls 2 [(0, .ref (ad 0 0))] := hl
  unfold f_X_chooseReadyHead at hf

  refine lv_iconst (v := 0) hx hb d_X_chooseReadyHead_0 (by decide) ?_
  refine lv_istore_n (lv' := [(1, .int _), (0, .ref _)]) hx hb d_X_chooseReadyHead_1 rfl hl (by decide) rfl (fun ls hl => ?_)
  refine lp_X_chooseReadyHead_2_ok D cA ad n A hx hb hml hr hts hown hlocks hK _ _  (fun σ3 H locs ls  hl hW hS hf => ?_) _ _ _ _ _ _  (lv_sub hl [1, 0] rfl) hW hS hf
  refine lv_iconst (v := 0) hx hb d_X_chooseReadyHead_40 (by decide) ?_
  exact W.zret hx hb hr rfl (fun t ht hWm => ⟨⟨_, _, rfl, Option.some.inj hf, by rw [ht]; exact hW, va_K.moved hWm.alike hK⟩, hS.F ht⟩) hS.2.2 d_X_chooseReadyHead_41

set_option maxHeartbeats 4000000 in
set_option maxRecDepth 100000 in
theorem lp_X_chooseReadyPair_2_ok {p : Program} {l : Launch} {e : Env} {s : State} {m : MethodId} {args : Array Value} {below : List Frame} {meth : Method} {c : Code} (D : va_G) (cA : Nat → ClassId) (ad : Nat → Nat → Nat) (n : Nat) (A : Nat → Prop) (hx : p.tables.exec = Jvm.exec) (hb : c.code = prog_1_method_30_code) (hml : c.maxLocals = 3) (hr : meth.sig.returnType = (some .boolean)) (hts : ∀ w ∈ ws_X_chooseReadyPair, w.before args s = true) (hown : s.vm.findClass "GridlockDesk" = some m.cls) (hlocks : meth.locks = false) (hK : va_K D vCl (atys cA) s) (k : St → Option (Int32 × St)) (out : Int32 × St)  (hk : ∀ (σ : St)  (H : Heap) (locs : List Loc) (ls : Array Slot), lv_has ls 3 [] → CW D cA ad n A σ H → va_S A s.heap H locs → k σ  = some out → W p l e (headSpec ws_X_chooseReadyPair ({ frames := 4, cells := 0, slots := 0, locals := 97 })).room s m args below meth c H locs 0 0 (MQ below (va_Qi (fun r u => (r, u) = out) (fun u t => CW D cA ad n A u t.heap ∧ va_K D vCl (atys cA) t) A) args s 0 0 A) (F0 m 56 ls [])) : ∀ (fu : Nat) (σ : St) (v1 : Int32) (H : Heap) (locs : List Loc) (ls : Array Slot), lv_has ls 3 [(0, .ref (ad 0 0)), (1, .int v1)] → CW D cA ad n A σ H → va_S A s.heap H locs → lp_X_chooseReadyPair_2 n k fu σ v1 = some out → W p l e (headSpec ws_X_chooseReadyPair ({ frames := 4, cells := 0, slots := 0, locals := 97 })).room s m args below meth c H locs 0 0 (MQ below (va_Qi (fun r u => (r, u) = out) (fun u t => CW D cA ad n A u t.heap ∧ va_K D vCl (atys cA) t) A) args s 0 0 A) (F0 m 2 ls []) := by
  intro fu
  induction fu with
  | zero =>
    intro σ v1 H locs ls  hl hW hS hf
    exact og_n hf
  | succ fu ih =>
    intro σ v1 H locs ls  hl hW hS hf
    rw [lp_X_chooseReadyPair_2_s] at hf
    have ht : ∀ w ∈ TB, w.before args s = true := fun w h => hts w (List.mem_cons_of_mem _ h)
    refine lv_iload_n hx hb d_X_chooseReadyPair_2 rfl (lv_at hl 1 rfl) ?_
    refine lv_aload_n hx hb d_X_chooseReadyPair_3 rfl (lv_at hl 0 rfl) ?_
    refine va_get (D := D) (ci := 2) (C := "GridlockDesk") (T := T_X) (N := 6) hx hb ht hin_X hown hK (hW.1.one (t := 0) rfl) 0 rfl rfl 0 (by decide) (ht _ tw_93) (fun _ h9 => h9) rfl d_X_chooseReadyPair_4 ?_
    refine va_alen (D := D) (v := nI n) hx hb hK (hW.1.one (t := 1) rfl) 0 2 rfl rfl rfl d_X_chooseReadyPair_7 ?_
    refine lv_icmp_ge (tgt := 56) hx hb d_X_chooseReadyPair_8 rfl (fun hc => ?_) (fun hc => ?_)
    · replace hf := og_t hc hf
      exact hk _  _ _ _  (lv_sub hl [] rfl) hW hS hf
    · replace hf := og_f hc hf
      refine lv_aload_n hx hb d_X_chooseReadyPair_11 rfl (lv_at hl 0 rfl) ?_
      refine va_get (D := D) (ci := 2) (C := "GridlockDesk") (T := T_X) (N := 6) hx hb ht hin_X hown hK (hW.1.one (t := 0) rfl) 0 rfl rfl 0 (by decide) (ht _ tw_93) (fun _ h9 => h9) rfl d_X_chooseReadyPair_12 ?_
      refine lv_iload_n hx hb d_X_chooseReadyPair_15 rfl (lv_at hl 1 rfl) ?_
      obtain ⟨hin1, hf⟩ := og_if hf
      refine va_aldq (D := D) hx hb hK (hW.1.one (t := 1) rfl) 0 2 rfl rfl hin1 d_X_chooseReadyPair_16 ?_
      refine W.eq (g2 := F0 m 17 ls (.ref (ad 4 _) :: [])) rfl ?_
      obtain ⟨o2, ho2, hf⟩ := og_b hf
      refine kc_i (P := (fun u H => CW D cA ad n A u H)) (va_runV (C := "GridlockDesk$Bank") (As := []) (rest := []) ⟨hx, hb, hml, hown, hts⟩ (m_B_headGoesTo l D cA ad n A _ _  (vin_lt hin1) o2 ho2) (cwV 0 hts (tb_V tw_178 tw_179 tw_180 tw_33 tw_181) rfl rfl rfl (by decide +kernel) ⟨Nat.le_of_ble_eq_true rfl, Nat.le_of_ble_eq_true rfl⟩) ⟨k_blind, kw.recv hK hW.1 (t := 4) (vin_lt hin1) rfl rfl, k_pre hW hK⟩ rfl rfl hl.1 rfl (lv_room (Nat.le_of_ble_eq_true rfl)) d_X_chooseReadyPair_17 ⟨Nat.zero_le _, Nat.zero_le _⟩) hS (fun H locs hW hS => ?_)
      refine lv_istore_n (lv' := [(2, .int _), (0, .ref _), (1, .int _)]) hx hb d_X_chooseReadyPair_20 rfl hl (by decide) rfl (fun ls hl => ?_)
      refine lv_iload_n hx hb d_X_chooseReadyPair_21 rfl (lv_at hl 0 rfl) ?_
      refine lv_iload_n hx hb d_X_chooseReadyPair_22 rfl (lv_at hl 2 rfl) ?_
      refine lv_icmp_le (tgt := 50) hx hb d_X_chooseReadyPair_23 rfl (fun hc => ?_) (fun hc => ?_)
      · replace hf := og_t hc hf
        refine lv_iinc (k := 2) (v := _ + 1) (lv' := [(1, .int _), (2, .int _), (0, .ref _)]) hx hb d_X_chooseReadyPair_50 hl rfl rfl (by decide) rfl (fun ls hl => ?_)
        refine lv_goto (tgt := 2) hx hb d_X_chooseReadyPair_53 rfl ?_
        exact ih _ _ _ _ _  (lv_sub hl [2, 0] rfl) hW hS hf
      · replace hf := og_f hc hf
        refine lv_aload_n hx hb d_X_chooseReadyPair_26 rfl (lv_at hl 1 rfl) ?_
        refine va_get (D := D) (ci := 2) (C := "GridlockDesk") (T := T_X) (N := 6) hx hb ht hin_X hown hK (hW.1.one (t := 0) rfl) 0 rfl rfl 0 (by decide) (ht _ tw_93) (fun _ h9 => h9) rfl d_X_chooseReadyPair_27 ?_
        refine lv_iload_n hx hb d_X_chooseReadyPair_30 rfl (lv_at hl 0 rfl) ?_
        obtain ⟨hin3, hf⟩ := og_if hf
        refine va_aldq (D := D) hx hb hK (hW.1.one (t := 1) rfl) 0 2 rfl rfl hin3 d_X_chooseReadyPair_31 ?_
        refine W.eq (g2 := F0 m 32 ls (.ref (ad 4 _) :: [])) rfl ?_
        obtain ⟨o4, ho4, hf⟩ := og_b hf
        refine kc_i (P := (fun u H => CW D cA ad n A u H)) (va_runV (C := "GridlockDesk$Bank") (As := []) (rest := []) ⟨hx, hb, hml, hown, hts⟩ (m_B_headGoesTo l D cA ad n A _ _  (vin_lt hin3) o4 ho4) (cwV 0 hts (tb_V tw_178 tw_179 tw_180 tw_33 tw_181) rfl rfl rfl (by decide +kernel) ⟨Nat.le_of_ble_eq_true rfl, Nat.le_of_ble_eq_true rfl⟩) ⟨k_blind, kw.recv hK hW.1 (t := 4) (vin_lt hin3) rfl rfl, k_pre hW hK⟩ rfl rfl hl.1 rfl (lv_room (Nat.le_of_ble_eq_true rfl)) d_X_chooseReadyPair_32 ⟨Nat.zero_le _, Nat.zero_le _⟩) hS (fun H locs hW hS => ?_)
        refine lv_iload_n hx hb d_X_chooseReadyPair_35 rfl (lv_at hl 2 rfl) ?_
        refine lv_icmp_ne (tgt := 50) hx hb d_X_chooseReadyPair_36 rfl (fun hc => ?_) (fun hc => ?_)
        · replace hf := og_f hc hf
          refine lv_iinc (k := 2) (v := _ + 1) (lv' := [(1, .int _), (2, .int _), (0, .ref _)]) hx hb d_X_chooseReadyPair_50 hl rfl rfl (by decide) rfl (fun ls hl => ?_)
          refine lv_goto (tgt := 2) hx hb d_X_chooseReadyPair_53 rfl ?_
          exact ih _ _ _ _ _  (lv_sub hl [2, 0] rfl) hW hS hf
        · replace hf := og_t hc hf
          refine lv_aload_n hx hb d_X_chooseReadyPair_39 rfl (lv_at hl 1 rfl) ?_
          refine lv_iload_n hx hb d_X_chooseReadyPair_40 rfl (lv_at hl 2 rfl) ?_
          refine lv_iload_n hx hb d_X_chooseReadyPair_41 rfl (lv_at hl 0 rfl) ?_
          obtain ⟨o5, ho5, hf⟩ := og_b hf
          refine kc_i (P := (fun u H => CW D cA ad n A u H)) (va_runV (C := "GridlockDesk") (As := [.int _, .int _]) (rest := []) ⟨hx, hb, hml, hown, hts⟩ (m_X_chooseHeads l D cA ad n A _  _ _  o5 ho5) (cwV 2 hts (tb_V tw_131 tw_133 tw_3 tw_31 tw_134) rfl rfl rfl (by decide +kernel) ⟨Nat.le_of_ble_eq_true rfl, Nat.le_of_ble_eq_true rfl⟩) ⟨k_blind, kw.recv hK hW.1 (t := 0) rfl rfl rfl, k_pre hW hK⟩ rfl rfl hl.1 rfl (lv_room (Nat.le_of_ble_eq_true rfl)) d_X_chooseReadyPair_42 ⟨Nat.zero_le _, Nat.zero_le _⟩) hS (fun H locs hW hS => ?_)
          refine lv_if_eq (tgt := 50) hx hb d_X_chooseReadyPair_45 rfl (fun hc => ?_) (fun hc => ?_)
          · replace hf := og_t hc hf
            refine lv_iinc (k := 2) (v := _ + 1) (lv' := [(1, .int _), (2, .int _), (0, .ref _)]) hx hb d_X_chooseReadyPair_50 hl rfl rfl (by decide) rfl (fun ls hl => ?_)
            refine lv_goto (tgt := 2) hx hb d_X_chooseReadyPair_53 rfl ?_
            exact ih _ _ _ _ _  (lv_sub hl [2, 0] rfl) hW hS hf
          · replace hf := og_f hc hf
            refine lv_iconst (v := 1) hx hb d_X_chooseReadyPair_48 (by decide) ?_
            exact W.zret hx hb hr rfl (fun t ht hWm => ⟨⟨_, _, rfl, Option.some.inj hf, by rw [ht]; exact hW, va_K.moved hWm.alike hK⟩, hS.F ht⟩) hS.2.2 d_X_chooseReadyPair_49

set_option maxHeartbeats 4000000 in
set_option maxRecDepth 100000 in
theorem m_X_chooseReadyPair (l : Launch) (D : va_G) (cA : Nat → ClassId) (ad : Nat → Nat → Nat) (n : Nat) (A : Nat → Prop) (σ : St)   (out : Int32 × St) (hf : f_X_chooseReadyPair n σ  = some out) : Met l y_X_chooseReadyPair ws_X_chooseReadyPair ({ frames := 4, cells := 0, slots := 0, locals := 97 }) (va_Pc [.ref (ad 0 0)] (fun U => CW D cA ad n A σ U.heap ∧ va_K D vCl (atys cA) U)) (va_Qi (fun r u => (r, u) = out) (fun u t => CW D cA ad n A u t.heap ∧ va_K D vCl (atys cA) t) A) 0 0 A := by
  refine Met.ofW (cc := prog_1_method_30_code) (maxL := 3) (ret := (some .boolean)) (by decide) rfl ?_
  intro p e s m args below meth c s₁ B hml hv
  obtain ⟨rfl, hW, hK⟩ := hv
  have hx := B.exec
  have hb := B.bytes
  have hr := B.returns
  have hts := atoms_spec (ws := ws_X_chooseReadyPair) B.pre
  have ht : ∀ w ∈ TB, w.before _ s = true := fun w h => hts w (List.mem_cons_of_mem _ h)
  have hown : s.vm.findClass "GridlockDesk" = some m.cls := findClass_of_methodNamed B.named
  have hlocks := B.notSynchronized
  have hS : va_S A s.heap s.heap [] := va_S.rf
  have hl := lv_entry ([.ref (ad 0 0)]) (n := 3) (Nat.le_of_ble_eq_true rfl)
  rw [lg_entry_eq]
  generalize (lg_sl ([.ref (ad 0 0)]) ++ List.replicate (3 - (lg_sl ([.ref (ad 0 0)])).length) Slot.unset).toArray = ls at hl ⊢
  have hl : lv_has ls 3 [(0, .ref (ad 0 0))] := hl
  unfold f_X_chooseReadyPair at hf

  refine lv_iconst (v := 0) hx hb d_X_chooseReadyPair_0 (by decide) ?_
  refine lv_istore_n (lv' := [(1, .int _), (0, .ref _)]) hx hb d_X_chooseReadyPair_1 rfl hl (by decide) rfl (fun ls hl => ?_)
  refine lp_X_chooseReadyPair_2_ok D cA ad n A hx hb hml hr hts hown hlocks hK _ _  (fun σ6 H locs ls  hl hW hS hf => ?_) _ _ _ _ _ _  (lv_sub hl [1, 0] rfl) hW hS hf
  refine lv_iconst (v := 0) hx hb d_X_chooseReadyPair_56 (by decide) ?_
  exact W.zret hx hb hr rfl (fun t ht hWm => ⟨⟨_, _, rfl, Option.some.inj hf, by rw [ht]; exact hW, va_K.moved hWm.alike hK⟩, hS.F ht⟩) hS.2.2 d_X_chooseReadyPair_57

set_option maxHeartbeats 4000000 in
set_option maxRecDepth 100000 in
theorem lp_X_sweep_2_ok {p : Program} {l : Launch} {e : Env} {s : State} {m : MethodId} {args : Array Value} {below : List Frame} {meth : Method} {c : Code} (D : va_G) (cA : Nat → ClassId) (ad : Nat → Nat → Nat) (n : Nat) (A : Nat → Prop) (hx : p.tables.exec = Jvm.exec) (hb : c.code = prog_1_method_28_code) (hml : c.maxLocals = 2) (hr : meth.sig.returnType = none) (hts : ∀ w ∈ ws_X_sweep, w.before args s = true) (hown : s.vm.findClass "GridlockDesk" = some m.cls) (hlocks : meth.locks = false) (hK : va_K D vCl (atys cA) s) (k : St → Option (Unit × St)) (out : Unit × St)  (hk : ∀ (σ : St)  (H : Heap) (locs : List Loc) (ls : Array Slot), lv_has ls 2 [] → CW D cA ad n A σ H → va_S A s.heap H locs → k σ  = some out → W p l e (headSpec ws_X_sweep ({ frames := 5, cells := 0, slots := 0, locals := 119 })).room s m args below meth c H locs 0 0 (MQ below (va_Qv (fun u => ((), u) = out) (fun u t => CW D cA ad n A u t.heap ∧ va_K D vCl (atys cA) t) A) args s 0 0 A) (F0 m 47 ls [])) : ∀ (fu : Nat) (σ : St) (v1 : Int32) (H : Heap) (locs : List Loc) (ls : Array Slot), lv_has ls 2 [(0, .ref (ad 0 0)), (1, .int v1)] → CW D cA ad n A σ H → va_S A s.heap H locs → lp_X_sweep_2 n k fu σ v1 = some out → W p l e (headSpec ws_X_sweep ({ frames := 5, cells := 0, slots := 0, locals := 119 })).room s m args below meth c H locs 0 0 (MQ below (va_Qv (fun u => ((), u) = out) (fun u t => CW D cA ad n A u t.heap ∧ va_K D vCl (atys cA) t) A) args s 0 0 A) (F0 m 2 ls []) := by
  intro fu
  induction fu with
  | zero =>
    intro σ v1 H locs ls  hl hW hS hf
    exact og_n hf
  | succ fu ih =>
    intro σ v1 H locs ls  hl hW hS hf
    rw [lp_X_sweep_2_s] at hf
    have ht : ∀ w ∈ TB, w.before args s = true := fun w h => hts w (List.mem_cons_of_mem _ h)
    refine lv_iload_n hx hb d_X_sweep_2 rfl (lv_at hl 1 rfl) ?_
    refine lv_bipush (v := 24) hx hb d_X_sweep_3 (by decide) ?_
    refine lv_icmp_ge (tgt := 47) hx hb d_X_sweep_5 rfl (fun hc => ?_) (fun hc => ?_)
    · replace hf := og_t hc hf
      exact hk _  _ _ _  (lv_sub hl [] rfl) hW hS hf
    · replace hf := og_f hc hf
      refine lv_aload_n hx hb d_X_sweep_8 rfl (lv_at hl 0 rfl) ?_
      obtain ⟨o1, ho1, hf⟩ := og_b hf
      refine kc_i (P := (fun u H => CW D cA ad n A u H)) (va_runV (C := "GridlockDesk") (As := []) (rest := []) ⟨hx, hb, hml, hown, hts⟩ (m_X_chooseReadyHead l D cA ad n A _    o1 ho1) (cwV 0 hts (tb_V tw_127 tw_129 tw_2 tw_31 tw_130) rfl rfl rfl (by decide +kernel) ⟨Nat.le_of_ble_eq_true rfl, Nat.le_of_ble_eq_true rfl⟩) ⟨k_blind, kw.recv hK hW.1 (t := 0) rfl rfl rfl, k_pre hW hK⟩ rfl rfl hl.1 rfl (lv_room (Nat.le_of_ble_eq_true rfl)) d_X_sweep_9 ⟨Nat.zero_le _, Nat.zero_le _⟩) hS (fun H locs hW hS => ?_)
      refine lv_if_eq (tgt := 24) hx hb d_X_sweep_12 rfl (fun hc => ?_) (fun hc => ?_)
      · replace hf := og_t hc hf
        refine lv_aload_n hx hb d_X_sweep_24 rfl (lv_at hl 0 rfl) ?_
        obtain ⟨o2, ho2, hf⟩ := og_b hf
        refine kc_i (P := (fun u H => CW D cA ad n A u H)) (va_runV (C := "GridlockDesk") (As := []) (rest := []) ⟨hx, hb, hml, hown, hts⟩ (m_X_chooseReadyPair l D cA ad n A _    o2 ho2) (cwV 0 hts (tb_V tw_174 tw_176 tw_10 tw_31 tw_177) rfl rfl rfl (by decide +kernel) ⟨Nat.le_of_ble_eq_true rfl, Nat.le_of_ble_eq_true rfl⟩) ⟨k_blind, kw.recv hK hW.1 (t := 0) rfl rfl rfl, k_pre hW hK⟩ rfl rfl hl.1 rfl (lv_room (Nat.le_of_ble_eq_true rfl)) d_X_sweep_25 ⟨Nat.zero_le _, Nat.zero_le _⟩) hS (fun H locs hW hS => ?_)
        refine lv_if_eq (tgt := 40) hx hb d_X_sweep_28 rfl (fun hc => ?_) (fun hc => ?_)
        · replace hf := og_t hc hf
          exact W.vret hx hb hr (fun t ht hWm => ⟨⟨_, rfl, Option.some.inj hf, by rw [ht]; exact hW, va_K.moved hWm.alike hK⟩, hS.F ht⟩) hS.2.2 d_X_sweep_40
        · replace hf := og_f hc hf
          refine lv_aload_n hx hb d_X_sweep_31 rfl (lv_at hl 0 rfl) ?_
          refine lv_iconst (v := 2) hx hb d_X_sweep_32 (by decide) ?_
          obtain ⟨o3, ho3, hf⟩ := og_b hf
          refine kc_i (P := (fun u H => CW D cA ad n A u H)) (va_runV (C := "GridlockDesk") (As := [.int _]) (rest := []) ⟨hx, hb, hml, hown, hts⟩ (m_X_settleChosen l D cA ad n A _  _  o3 ho3) (cwV 1 hts (tb_V tw_158 tw_160 tw_7 tw_31 tw_161) rfl rfl rfl (by decide +kernel) ⟨Nat.le_of_ble_eq_true rfl, Nat.le_of_ble_eq_true rfl⟩) ⟨k_blind, kw.recv hK hW.1 (t := 0) rfl rfl rfl, k_pre hW hK⟩ rfl rfl hl.1 rfl (lv_room (Nat.le_of_ble_eq_true rfl)) d_X_sweep_33 ⟨Nat.zero_le _, Nat.zero_le _⟩) hS (fun H locs hW hS => ?_)
          refine lv_pop hx hb d_X_sweep_36 rfl ?_
          refine lv_goto (tgt := 41) hx hb d_X_sweep_37 rfl ?_
          refine lv_iinc (k := 1) (v := _ + 1) (lv' := [(1, .int _), (0, .ref _)]) hx hb d_X_sweep_41 hl rfl rfl (by decide) rfl (fun ls hl => ?_)
          refine lv_goto (tgt := 2) hx hb d_X_sweep_44 rfl ?_
          exact ih _ _ _ _ _  (lv_sub hl [1, 0] rfl) hW hS hf
      · replace hf := og_f hc hf
        refine lv_aload_n hx hb d_X_sweep_15 rfl (lv_at hl 0 rfl) ?_
        refine lv_iconst (v := 1) hx hb d_X_sweep_16 (by decide) ?_
        obtain ⟨o4, ho4, hf⟩ := og_b hf
        refine kc_i (P := (fun u H => CW D cA ad n A u H)) (va_runV (C := "GridlockDesk") (As := [.int _]) (rest := []) ⟨hx, hb, hml, hown, hts⟩ (m_X_settleChosen l D cA ad n A _  _  o4 ho4) (cwV 1 hts (tb_V tw_158 tw_160 tw_7 tw_31 tw_161) rfl rfl rfl (by decide +kernel) ⟨Nat.le_of_ble_eq_true rfl, Nat.le_of_ble_eq_true rfl⟩) ⟨k_blind, kw.recv hK hW.1 (t := 0) rfl rfl rfl, k_pre hW hK⟩ rfl rfl hl.1 rfl (lv_room (Nat.le_of_ble_eq_true rfl)) d_X_sweep_17 ⟨Nat.zero_le _, Nat.zero_le _⟩) hS (fun H locs hW hS => ?_)
        refine lv_pop hx hb d_X_sweep_20 rfl ?_
        refine lv_goto (tgt := 41) hx hb d_X_sweep_21 rfl ?_
        refine lv_iinc (k := 1) (v := _ + 1) (lv' := [(1, .int _), (0, .ref _)]) hx hb d_X_sweep_41 hl rfl rfl (by decide) rfl (fun ls hl => ?_)
        refine lv_goto (tgt := 2) hx hb d_X_sweep_44 rfl ?_
        exact ih _ _ _ _ _  (lv_sub hl [1, 0] rfl) hW hS hf

set_option maxHeartbeats 4000000 in
set_option maxRecDepth 100000 in
theorem m_X_sweep (l : Launch) (D : va_G) (cA : Nat → ClassId) (ad : Nat → Nat → Nat) (n : Nat) (A : Nat → Prop) (σ : St)   (out : Unit × St) (hf : f_X_sweep n σ  = some out) : Met l y_X_sweep ws_X_sweep ({ frames := 5, cells := 0, slots := 0, locals := 119 }) (va_Pc [.ref (ad 0 0)] (fun U => CW D cA ad n A σ U.heap ∧ va_K D vCl (atys cA) U)) (va_Qv (fun u => ((), u) = out) (fun u t => CW D cA ad n A u t.heap ∧ va_K D vCl (atys cA) t) A) 0 0 A := by
  refine Met.ofW (cc := prog_1_method_28_code) (maxL := 2) (ret := none) (by decide) rfl ?_
  intro p e s m args below meth c s₁ B hml hv
  obtain ⟨rfl, hW, hK⟩ := hv
  have hx := B.exec
  have hb := B.bytes
  have hr := B.returns
  have hts := atoms_spec (ws := ws_X_sweep) B.pre
  have ht : ∀ w ∈ TB, w.before _ s = true := fun w h => hts w (List.mem_cons_of_mem _ h)
  have hown : s.vm.findClass "GridlockDesk" = some m.cls := findClass_of_methodNamed B.named
  have hlocks := B.notSynchronized
  have hS : va_S A s.heap s.heap [] := va_S.rf
  have hl := lv_entry ([.ref (ad 0 0)]) (n := 2) (Nat.le_of_ble_eq_true rfl)
  rw [lg_entry_eq]
  generalize (lg_sl ([.ref (ad 0 0)]) ++ List.replicate (2 - (lg_sl ([.ref (ad 0 0)])).length) Slot.unset).toArray = ls at hl ⊢
  have hl : lv_has ls 2 [(0, .ref (ad 0 0))] := hl
  unfold f_X_sweep at hf

  refine lv_iconst (v := 0) hx hb d_X_sweep_0 (by decide) ?_
  refine lv_istore_n (lv' := [(1, .int _), (0, .ref _)]) hx hb d_X_sweep_1 rfl hl (by decide) rfl (fun ls hl => ?_)
  refine lp_X_sweep_2_ok D cA ad n A hx hb hml hr hts hown hlocks hK _ _  (fun σ5 H locs ls  hl hW hS hf => ?_) _ _ _ _ _ _  (lv_sub hl [1, 0] rfl) hW hS hf
  exact W.vret hx hb hr (fun t ht hWm => ⟨⟨_, rfl, Option.some.inj hf, by rw [ht]; exact hW, va_K.moved hWm.alike hK⟩, hS.F ht⟩) hS.2.2 d_X_sweep_47

set_option maxHeartbeats 4000000 in
set_option maxRecDepth 100000 in
theorem lp_X_chooseGreatest_2_ok {p : Program} {l : Launch} {e : Env} {s : State} {m : MethodId} {args : Array Value} {below : List Frame} {meth : Method} {c : Code} (D : va_G) (cA : Nat → ClassId) (ad : Nat → Nat → Nat) (n : Nat) (A : Nat → Prop) (hx : p.tables.exec = Jvm.exec) (hb : c.code = prog_1_method_32_code) (hml : c.maxLocals = 3) (hr : meth.sig.returnType = none) (hts : ∀ w ∈ ws_X_chooseGreatest, w.before args s = true) (hown : s.vm.findClass "GridlockDesk" = some m.cls) (hlocks : meth.locks = false) (hK : va_K D vCl (atys cA) s) (k : St → Option (Unit × St)) (out : Unit × St)  (hk : ∀ (σ : St)  (H : Heap) (locs : List Loc) (ls : Array Slot), lv_has ls 3 [(0, .ref (ad 0 0))] → CW D cA ad n A σ H → va_S A s.heap H locs → k σ  = some out → W p l e (headSpec ws_X_chooseGreatest ({ frames := 3, cells := 0, slots := 0, locals := 75 })).room s m args below meth c H locs 0 0 (MQ below (va_Qv (fun u => ((), u) = out) (fun u t => CW D cA ad n A u t.heap ∧ va_K D vCl (atys cA) t) A) args s 0 0 A) (F0 m 32 ls [])) : ∀ (fu : Nat) (σ : St) (v1 : Int32) (H : Heap) (locs : List Loc) (ls : Array Slot), lv_has ls 3 [(0, .ref (ad 0 0)), (1, .int v1)] → CW D cA ad n A σ H → va_S A s.heap H locs → lp_X_chooseGreatest_2 n k fu σ v1 = some out → W p l e (headSpec ws_X_chooseGreatest ({ frames := 3, cells := 0, slots := 0, locals := 75 })).room s m args below meth c H locs 0 0 (MQ below (va_Qv (fun u => ((), u) = out) (fun u t => CW D cA ad n A u t.heap ∧ va_K D vCl (atys cA) t) A) args s 0 0 A) (F0 m 2 ls []) := by
  intro fu
  induction fu with
  | zero =>
    intro σ v1 H locs ls  hl hW hS hf
    exact og_n hf
  | succ fu ih =>
    intro σ v1 H locs ls  hl hW hS hf
    rw [lp_X_chooseGreatest_2_s] at hf
    have ht : ∀ w ∈ TB, w.before args s = true := fun w h => hts w (List.mem_cons_of_mem _ h)
    refine lv_iload_n hx hb d_X_chooseGreatest_2 rfl (lv_at hl 1 rfl) ?_
    refine lv_aload_n hx hb d_X_chooseGreatest_3 rfl (lv_at hl 0 rfl) ?_
    refine va_get (D := D) (ci := 2) (C := "GridlockDesk") (T := T_X) (N := 6) hx hb ht hin_X hown hK (hW.1.one (t := 0) rfl) 0 rfl rfl 0 (by decide) (ht _ tw_93) (fun _ h9 => h9) rfl d_X_chooseGreatest_4 ?_
    refine va_alen (D := D) (v := nI n) hx hb hK (hW.1.one (t := 1) rfl) 0 2 rfl rfl rfl d_X_chooseGreatest_7 ?_
    refine lv_icmp_ge (tgt := 32) hx hb d_X_chooseGreatest_8 rfl (fun hc => ?_) (fun hc => ?_)
    · replace hf := og_t hc hf
      exact hk _  _ _ _  (lv_sub hl [0] rfl) hW hS hf
    · replace hf := og_f hc hf
      refine lv_aload_n hx hb d_X_chooseGreatest_11 rfl (lv_at hl 0 rfl) ?_
      refine va_get (D := D) (ci := 2) (C := "GridlockDesk") (T := T_X) (N := 6) hx hb ht hin_X hown hK (hW.1.one (t := 0) rfl) 0 rfl rfl 5 (by decide) (ht _ tw_98) (fun _ h9 => h9) rfl d_X_chooseGreatest_12 ?_
      refine lv_iload_n hx hb d_X_chooseGreatest_15 rfl (lv_at hl 1 rfl) ?_
      refine lv_aload_n hx hb d_X_chooseGreatest_16 rfl (lv_at hl 0 rfl) ?_
      refine va_get (D := D) (ci := 2) (C := "GridlockDesk") (T := T_X) (N := 6) hx hb ht hin_X hown hK (hW.1.one (t := 0) rfl) 0 rfl rfl 0 (by decide) (ht _ tw_93) (fun _ h9 => h9) rfl d_X_chooseGreatest_17 ?_
      refine lv_iload_n hx hb d_X_chooseGreatest_20 rfl (lv_at hl 1 rfl) ?_
      obtain ⟨hin1, hf⟩ := og_if hf
      refine va_aldq (D := D) hx hb hK (hW.1.one (t := 1) rfl) 0 2 rfl rfl hin1 d_X_chooseGreatest_21 ?_
      refine W.eq (g2 := F0 m 22 ls (.ref (ad 4 _) :: [_, _])) rfl ?_
      refine va_get (D := D) (ci := 0) (C := "GridlockDesk$Bank") (T := T_B) (N := 7) hx hb ht hin_B hown hK (hW.1.one (t := 4) (vin_lt hin1)) 0 rfl rfl 6 (by decide) (ht _ tw_75) (fun _ h9 => h9) rfl d_X_chooseGreatest_22 ?_
      obtain ⟨hin2, hf⟩ := og_if hf
      obtain ⟨σ3, eσ3, hf⟩ := og_b hf
      cases eσ3
      refine k_iast  (t := 3) hx hb hK hW.1 hS rfl (hW.2 _ _ rfl) 1 rfl rfl hin2 d_X_chooseGreatest_25 cc_wI2 (fun H locs hW1 hS => ?_)
      have hW := CW.wI hW1 hW.2
      refine lv_iinc (k := 1) (v := _ + 1) (lv' := [(1, .int _), (0, .ref _)]) hx hb d_X_chooseGreatest_26 hl rfl rfl (by decide) rfl (fun ls hl => ?_)
      refine lv_goto (tgt := 2) hx hb d_X_chooseGreatest_29 rfl ?_
      exact ih _ _ _ _ _  (lv_sub hl [1, 0] rfl) hW hS hf

set_option maxHeartbeats 4000000 in
set_option maxRecDepth 100000 in
theorem lp_X_chooseGreatest_34_ok {p : Program} {l : Launch} {e : Env} {s : State} {m : MethodId} {args : Array Value} {below : List Frame} {meth : Method} {c : Code} (D : va_G) (cA : Nat → ClassId) (ad : Nat → Nat → Nat) (n : Nat) (A : Nat → Prop) (hx : p.tables.exec = Jvm.exec) (hb : c.code = prog_1_method_32_code) (hml : c.maxLocals = 3) (hr : meth.sig.returnType = none) (hts : ∀ w ∈ ws_X_chooseGreatest, w.before args s = true) (hown : s.vm.findClass "GridlockDesk" = some m.cls) (hlocks : meth.locks = false) (hK : va_K D vCl (atys cA) s) (k : St → Option (Unit × St)) (out : Unit × St)  (hk : ∀ (σ : St)  (H : Heap) (locs : List Loc) (ls : Array Slot), lv_has ls 3 [] → CW D cA ad n A σ H → va_S A s.heap H locs → k σ  = some out → W p l e (headSpec ws_X_chooseGreatest ({ frames := 3, cells := 0, slots := 0, locals := 75 })).room s m args below meth c H locs 0 0 (MQ below (va_Qv (fun u => ((), u) = out) (fun u t => CW D cA ad n A u t.heap ∧ va_K D vCl (atys cA) t) A) args s 0 0 A) (F0 m 67 ls [])) : ∀ (fu : Nat) (σ : St) (v1 : Int32) (H : Heap) (locs : List Loc) (ls : Array Slot), lv_has ls 3 [(0, .ref (ad 0 0)), (1, .int v1)] → CW D cA ad n A σ H → va_S A s.heap H locs → lp_X_chooseGreatest_34 n k fu σ v1 = some out → W p l e (headSpec ws_X_chooseGreatest ({ frames := 3, cells := 0, slots := 0, locals := 75 })).room s m args below meth c H locs 0 0 (MQ below (va_Qv (fun u => ((), u) = out) (fun u t => CW D cA ad n A u t.heap ∧ va_K D vCl (atys cA) t) A) args s 0 0 A) (F0 m 34 ls []) := by
  intro fu
  induction fu with
  | zero =>
    intro σ v1 H locs ls  hl hW hS hf
    exact og_n hf
  | succ fu ih =>
    intro σ v1 H locs ls  hl hW hS hf
    rw [lp_X_chooseGreatest_34_s] at hf
    have ht : ∀ w ∈ TB, w.before args s = true := fun w h => hts w (List.mem_cons_of_mem _ h)
    refine lv_iload_n hx hb d_X_chooseGreatest_34 rfl (lv_at hl 1 rfl) ?_
    refine lv_bipush (v := 24) hx hb d_X_chooseGreatest_35 (by decide) ?_
    refine lv_icmp_ge (tgt := 67) hx hb d_X_chooseGreatest_37 rfl (fun hc => ?_) (fun hc => ?_)
    · replace hf := og_t hc hf
      exact hk _  _ _ _  (lv_sub hl [] rfl) hW hS hf
    · replace hf := og_f hc hf
      refine lv_aload_n hx hb d_X_chooseGreatest_40 rfl (lv_at hl 0 rfl) ?_
      obtain ⟨o5, ho5, hf⟩ := og_b hf
      refine kc_i (P := (fun u H => CW D cA ad n A u H)) (va_runV (C := "GridlockDesk") (As := []) (rest := []) ⟨hx, hb, hml, hown, hts⟩ (m_X_firstUnwellBank l D cA ad n A _    o5 ho5) (cwV 0 hts (tb_V tw_138 tw_140 tw_4 tw_31 tw_141) rfl rfl rfl (by decide +kernel) ⟨Nat.le_of_ble_eq_true rfl, Nat.le_of_ble_eq_true rfl⟩) ⟨k_blind, kw.recv hK hW.1 (t := 0) rfl rfl rfl, k_pre hW hK⟩ rfl rfl hl.1 rfl (lv_room (Nat.le_of_ble_eq_true rfl)) d_X_chooseGreatest_41 ⟨Nat.zero_le _, Nat.zero_le _⟩) hS (fun H locs hW hS => ?_)
      refine lv_istore_n (lv' := [(2, .int _), (0, .ref _), (1, .int _)]) hx hb d_X_chooseGreatest_44 rfl hl (by decide) rfl (fun ls hl => ?_)
      refine lv_iload_n hx hb d_X_chooseGreatest_45 rfl (lv_at hl 0 rfl) ?_
      refine lv_iconst (v := (-1)) hx hb d_X_chooseGreatest_46 (by decide) ?_
      refine lv_icmp_ne (tgt := 51) hx hb d_X_chooseGreatest_47 rfl (fun hc => ?_) (fun hc => ?_)
      · replace hf := og_f hc hf
        refine lv_aload_n hx hb d_X_chooseGreatest_51 rfl (lv_at hl 1 rfl) ?_
        refine va_get (D := D) (ci := 2) (C := "GridlockDesk") (T := T_X) (N := 6) hx hb ht hin_X hown hK (hW.1.one (t := 0) rfl) 0 rfl rfl 5 (by decide) (ht _ tw_98) (fun _ h9 => h9) rfl d_X_chooseGreatest_52 ?_
        refine lv_iload_n hx hb d_X_chooseGreatest_55 rfl (lv_at hl 0 rfl) ?_
        refine lv_dup2_11 hx hb d_X_chooseGreatest_56 rfl rfl ?_
        obtain ⟨hin6, hf⟩ := og_if hf
        refine va_iald (D := D) hx hb hK (hW.1.one (t := 3) rfl) 0 1 rfl rfl hin6 d_X_chooseGreatest_57 ?_
        refine lv_iconst (v := 1) hx hb d_X_chooseGreatest_58 (by decide) ?_
        refine lv_isub hx hb d_X_chooseGreatest_59 ?_
        obtain ⟨hin7, hf⟩ := og_if hf
        obtain ⟨σ8, eσ8, hf⟩ := og_b hf
        cases eσ8
        refine k_iast  (t := 3) hx hb hK hW.1 hS rfl (hW.2 _ _ rfl) 1 rfl rfl hin7 d_X_chooseGreatest_60 cc_wI2 (fun H locs hW1 hS => ?_)
        have hW := CW.wI hW1 hW.2
        refine lv_iinc (k := 2) (v := _ + 1) (lv' := [(1, .int _), (2, .int _), (0, .ref _)]) hx hb d_X_chooseGreatest_61 hl rfl rfl (by decide) rfl (fun ls hl => ?_)
        refine lv_goto (tgt := 34) hx hb d_X_chooseGreatest_64 rfl ?_
        exact ih _ _ _ _ _  (lv_sub hl [2, 0] rfl) hW hS hf
      · replace hf := og_t hc hf
        exact W.vret hx hb hr (fun t ht hWm => ⟨⟨_, rfl, Option.some.inj hf, by rw [ht]; exact hW, va_K.moved hWm.alike hK⟩, hS.F ht⟩) hS.2.2 d_X_chooseGreatest_50

set_option maxHeartbeats 4000000 in
set_option maxRecDepth 100000 in
theorem m_X_chooseGreatest (l : Launch) (D : va_G) (cA : Nat → ClassId) (ad : Nat → Nat → Nat) (n : Nat) (A : Nat → Prop) (σ : St)   (out : Unit × St) (hf : f_X_chooseGreatest n σ  = some out) : Met l y_X_chooseGreatest ws_X_chooseGreatest ({ frames := 3, cells := 0, slots := 0, locals := 75 }) (va_Pc [.ref (ad 0 0)] (fun U => CW D cA ad n A σ U.heap ∧ va_K D vCl (atys cA) U)) (va_Qv (fun u => ((), u) = out) (fun u t => CW D cA ad n A u t.heap ∧ va_K D vCl (atys cA) t) A) 0 0 A := by
  refine Met.ofW (cc := prog_1_method_32_code) (maxL := 3) (ret := none) (by decide) rfl ?_
  intro p e s m args below meth c s₁ B hml hv
  obtain ⟨rfl, hW, hK⟩ := hv
  have hx := B.exec
  have hb := B.bytes
  have hr := B.returns
  have hts := atoms_spec (ws := ws_X_chooseGreatest) B.pre
  have ht : ∀ w ∈ TB, w.before _ s = true := fun w h => hts w (List.mem_cons_of_mem _ h)
  have hown : s.vm.findClass "GridlockDesk" = some m.cls := findClass_of_methodNamed B.named
  have hlocks := B.notSynchronized
  have hS : va_S A s.heap s.heap [] := va_S.rf
  have hl := lv_entry ([.ref (ad 0 0)]) (n := 3) (Nat.le_of_ble_eq_true rfl)
  rw [lg_entry_eq]
  generalize (lg_sl ([.ref (ad 0 0)]) ++ List.replicate (3 - (lg_sl ([.ref (ad 0 0)])).length) Slot.unset).toArray = ls at hl ⊢
  have hl : lv_has ls 3 [(0, .ref (ad 0 0))] := hl
  unfold f_X_chooseGreatest at hf

  refine lv_iconst (v := 0) hx hb d_X_chooseGreatest_0 (by decide) ?_
  refine lv_istore_n (lv' := [(1, .int _), (0, .ref _)]) hx hb d_X_chooseGreatest_1 rfl hl (by decide) rfl (fun ls hl => ?_)
  refine lp_X_chooseGreatest_2_ok D cA ad n A hx hb hml hr hts hown hlocks hK _ _  (fun σ4 H locs ls  hl hW hS hf => ?_) _ _ _ _ _ _  (lv_sub hl [1, 0] rfl) hW hS hf
  refine lv_iconst (v := 0) hx hb d_X_chooseGreatest_32 (by decide) ?_
  refine lv_istore_n (lv' := [(1, .int _), (0, .ref _)]) hx hb d_X_chooseGreatest_33 rfl hl (by decide) rfl (fun ls hl => ?_)
  refine lp_X_chooseGreatest_34_ok D cA ad n A hx hb hml hr hts hown hlocks hK _ _  (fun σ9 H locs ls  hl hW hS hf => ?_) _ _ _ _ _ _  (lv_sub hl [1, 0] rfl) hW hS hf
  exact W.vret hx hb hr (fun t ht hWm => ⟨⟨_, rfl, Option.some.inj hf, by rw [ht]; exact hW, va_K.moved hWm.alike hK⟩, hS.F ht⟩) hS.2.2 d_X_chooseGreatest_67

set_option maxHeartbeats 4000000 in
set_option maxRecDepth 100000 in
theorem m_X_fund (l : Launch) (D : va_G) (cA : Nat → ClassId) (ad : Nat → Nat → Nat) (n : Nat) (A : Nat → Prop) (σ : St) (x1 : Int32) (x2 : Int64)  (out : Int32 × St) (hf : f_X_fund n σ x1 x2 = some out) : Met l y_X_fund ws_X_fund ({ frames := 6, cells := 0, slots := 0, locals := 140 }) (va_Pc [.ref (ad 0 0), .int x1, .long x2] (fun U => CW D cA ad n A σ U.heap ∧ va_K D vCl (atys cA) U)) (va_Qi (fun r u => (r, u) = out) (fun u t => CW D cA ad n A u t.heap ∧ va_K D vCl (atys cA) t) A) 0 0 A := by
  refine Met.ofW (cc := prog_1_method_2_code) (maxL := 5) (ret := (some .boolean)) (by decide) rfl ?_
  intro p e s m args below meth c s₁ B hml hv
  obtain ⟨rfl, hW, hK⟩ := hv
  have hx := B.exec
  have hb := B.bytes
  have hr := B.returns
  have hts := atoms_spec (ws := ws_X_fund) B.pre
  have ht : ∀ w ∈ TB, w.before _ s = true := fun w h => hts w (List.mem_cons_of_mem _ h)
  have hown : s.vm.findClass "GridlockDesk" = some m.cls := findClass_of_methodNamed B.named
  have hlocks := B.notSynchronized
  have hS : va_S A s.heap s.heap [] := va_S.rf
  have hl := lv_entry ([.ref (ad 0 0), .int x1, .long x2]) (n := 5) (Nat.le_of_ble_eq_true rfl)
  rw [lg_entry_eq]
  generalize (lg_sl ([.ref (ad 0 0), .int x1, .long x2]) ++ List.replicate (5 - (lg_sl ([.ref (ad 0 0), .int x1, .long x2])).length) Slot.unset).toArray = ls at hl ⊢
  have hl : lv_has ls 5 [(0, .ref (ad 0 0)), (1, .int x1), (2, .long x2)] := hl
  unfold f_X_fund at hf

  refine lv_aload_n hx hb d_X_fund_0 rfl (lv_at hl 0 rfl) ?_
  refine lv_iload_n hx hb d_X_fund_1 rfl (lv_at hl 1 rfl) ?_
  obtain ⟨o1, ho1, hf⟩ := og_b hf
  refine kc_i (P := (fun u H => CW D cA ad n A u H)) (va_runV (C := "GridlockDesk") (As := [.int _]) (rest := []) ⟨hx, hb, hml, hown, hts⟩ (m_X_isBank l D cA ad n A _  _  o1 ho1) (cwV 1 hts (tb_V tw_117 tw_119 tw_0 tw_31 tw_120) rfl rfl rfl (by decide +kernel) ⟨Nat.le_of_ble_eq_true rfl, Nat.le_of_ble_eq_true rfl⟩) ⟨k_blind, kw.recv hK hW.1 (t := 0) rfl rfl rfl, k_pre hW hK⟩ rfl rfl hl.1 rfl (lv_room (Nat.le_of_ble_eq_true rfl)) d_X_fund_2 ⟨Nat.zero_le _, Nat.zero_le _⟩) hS (fun H locs hW hS => ?_)
  refine lv_if_eq (tgt := 24) hx hb d_X_fund_5 rfl (fun hc => ?_) (fun hc => ?_)
  · replace hf := og_t hc hf
    refine lv_iconst (v := 0) hx hb d_X_fund_24 (by decide) ?_
    exact W.zret hx hb hr rfl (fun t ht hWm => ⟨⟨_, _, rfl, Option.some.inj hf, by rw [ht]; exact hW, va_K.moved hWm.alike hK⟩, hS.F ht⟩) hS.2.2 d_X_fund_25
  · replace hf := og_f hc hf
    refine lv_lload_n hx hb d_X_fund_8 rfl (lv_at hl 2 rfl) ?_
    refine lv_ldc2 (v := (-1000000000000)) hx hb hown (ht _ tw_121) d_X_fund_9 ?_
    refine lc_lt (tgt := 24) hx hb d_X_fund_12 d_X_fund_13 rfl (fun hc => ?_) (fun hc => ?_)
    · replace hf := og_t hc hf
      refine lv_iconst (v := 0) hx hb d_X_fund_24 (by decide) ?_
      exact W.zret hx hb hr rfl (fun t ht hWm => ⟨⟨_, _, rfl, Option.some.inj hf, by rw [ht]; exact hW, va_K.moved hWm.alike hK⟩, hS.F ht⟩) hS.2.2 d_X_fund_25
    · replace hf := og_f hc hf
      refine lv_lload_n hx hb d_X_fund_16 rfl (lv_at hl 2 rfl) ?_
      refine lv_ldc2 (v := 1000000000000) hx hb hown (ht _ tw_122) d_X_fund_17 ?_
      refine lc_le (tgt := 26) hx hb d_X_fund_20 d_X_fund_21 rfl (fun hc => ?_) (fun hc => ?_)
      · replace hf := og_t hc hf
        refine lv_aload_n hx hb d_X_fund_26 rfl (lv_at hl 0 rfl) ?_
        refine va_get (D := D) (ci := 2) (C := "GridlockDesk") (T := T_X) (N := 6) hx hb ht hin_X hown hK (hW.1.one (t := 0) rfl) 0 rfl rfl 0 (by decide) (ht _ tw_93) (fun _ h9 => h9) rfl d_X_fund_27 ?_
        refine lv_iload_n hx hb d_X_fund_30 rfl (lv_at hl 1 rfl) ?_
        obtain ⟨hin2, hf⟩ := og_if hf
        refine va_aldq (D := D) hx hb hK (hW.1.one (t := 1) rfl) 0 2 rfl rfl hin2 d_X_fund_31 ?_
        refine W.eq (g2 := F0 m 32 ls (.ref (ad 4 _) :: [])) rfl ?_
        refine lv_astore (lv' := [(4, .ref _), (0, .ref _), (1, .int _), (2, .long _)]) hx hb d_X_fund_32 hl (by decide) rfl (fun ls hl => ?_)
        refine lv_aload hx hb d_X_fund_34 (lv_at hl 0 rfl) ?_
        refine va_get (D := D) (ci := 0) (C := "GridlockDesk$Bank") (T := T_B) (N := 7) hx hb ht hin_B hown hK (hW.1.one (t := 4) (vin_lt hin2)) 0 rfl rfl 0 (by decide) (ht _ tw_64) (fun _ h9 => h9) rfl d_X_fund_36 ?_
        refine lv_lload_n hx hb d_X_fund_39 rfl (lv_at hl 3 rfl) ?_
        refine lv_ladd hx hb d_X_fund_40 ?_
        refine lv_aload hx hb d_X_fund_41 (lv_at hl 0 rfl) ?_
        refine va_get (D := D) (ci := 0) (C := "GridlockDesk$Bank") (T := T_B) (N := 7) hx hb ht hin_B hown hK (hW.1.one (t := 4) (vin_lt hin2)) 0 rfl rfl 1 (by decide) (ht _ tw_65) (fun _ h9 => h9) rfl d_X_fund_43 ?_
        refine lv_lneg hx hb d_X_fund_46 ?_
        refine lc_ge (tgt := 53) hx hb d_X_fund_47 d_X_fund_48 rfl (fun hc => ?_) (fun hc => ?_)
        · replace hf := og_t hc hf
          refine lv_aload hx hb d_X_fund_53 (lv_at hl 0 rfl) ?_
          refine lv_dup hx hb d_X_fund_55 rfl ?_
          refine va_get (D := D) (ci := 0) (C := "GridlockDesk$Bank") (T := T_B) (N := 7) hx hb ht hin_B hown hK (hW.1.one (t := 4) (vin_lt hin2)) 0 rfl rfl 0 (by decide) (ht _ tw_64) (fun _ h9 => h9) rfl d_X_fund_56 ?_
          refine lv_lload_n hx hb d_X_fund_59 rfl (lv_at hl 3 rfl) ?_
          refine lv_ladd hx hb d_X_fund_60 ?_
          obtain ⟨σ3, eσ3, hf⟩ := og_b hf
          cases eσ3
          refine k_put  (ci := 0) (C := "GridlockDesk$Bank") (T := T_B) (N := 7) (ty := .long) (t := 4) hx hb ht hin_B ft_B ft_B_ok nm_B hown hK hW.1 hS (vin_lt hin2) (hW.2 _ _ (vin_lt hin2)) rfl rfl 0 (by decide) (ht _ tw_64) (fun _ h9 => h9) rfl (by decide +kernel) rfl rfl (Nat.le_of_ble_eq_true rfl) d_X_fund_61 cc_wL1 (fun H locs hW1 hS => ?_)
          have hW := CW.wL hW1 hW.2
          refine lv_aload_n hx hb d_X_fund_64 rfl (lv_at hl 1 rfl) ?_
          obtain ⟨o4, ho4, hf⟩ := og_b hf
          refine kc_v (P := (fun u H => CW D cA ad n A u H)) (va_runV (C := "GridlockDesk") (As := []) (rest := []) ⟨hx, hb, hml, hown, hts⟩ (m_X_sweep l D cA ad n A _    o4 ho4) (cwV 0 hts (tb_V tw_123 tw_125 tw_1 tw_31 tw_126) rfl rfl rfl (by decide +kernel) ⟨Nat.le_of_ble_eq_true rfl, Nat.le_of_ble_eq_true rfl⟩) ⟨k_blind, kw.recv hK hW.1 (t := 0) rfl rfl rfl, k_pre hW hK⟩ rfl rfl hl.1 rfl (lv_room (Nat.le_of_ble_eq_true rfl)) d_X_fund_65 ⟨Nat.zero_le _, Nat.zero_le _⟩) hS (fun H locs hW hS => ?_)
          refine lv_iconst (v := 1) hx hb d_X_fund_68 (by decide) ?_
          exact W.zret hx hb hr rfl (fun t ht hWm => ⟨⟨_, _, rfl, Option.some.inj hf, by rw [ht]; exact hW, va_K.moved hWm.alike hK⟩, hS.F ht⟩) hS.2.2 d_X_fund_69
        · replace hf := og_f hc hf
          refine lv_iconst (v := 0) hx hb d_X_fund_51 (by decide) ?_
          exact W.zret hx hb hr rfl (fun t ht hWm => ⟨⟨_, _, rfl, Option.some.inj hf, by rw [ht]; exact hW, va_K.moved hWm.alike hK⟩, hS.F ht⟩) hS.2.2 d_X_fund_52
      · replace hf := og_f hc hf
        refine lv_iconst (v := 0) hx hb d_X_fund_24 (by decide) ?_
        exact W.zret hx hb hr rfl (fun t ht hWm => ⟨⟨_, _, rfl, Option.some.inj hf, by rw [ht]; exact hW, va_K.moved hWm.alike hK⟩, hS.F ht⟩) hS.2.2 d_X_fund_25

set_option maxHeartbeats 4000000 in
set_option maxRecDepth 100000 in
theorem m_X_credit (l : Launch) (D : va_G) (cA : Nat → ClassId) (ad : Nat → Nat → Nat) (n : Nat) (A : Nat → Prop) (σ : St) (x1 : Int32) (x2 : Int64)  (out : Int32 × St) (hf : f_X_credit n σ x1 x2 = some out) : Met l y_X_credit ws_X_credit ({ frames := 6, cells := 0, slots := 0, locals := 140 }) (va_Pc [.ref (ad 0 0), .int x1, .long x2] (fun U => CW D cA ad n A σ U.heap ∧ va_K D vCl (atys cA) U)) (va_Qi (fun r u => (r, u) = out) (fun u t => CW D cA ad n A u t.heap ∧ va_K D vCl (atys cA) t) A) 0 0 A := by
  refine Met.ofW (cc := prog_1_method_3_code) (maxL := 4) (ret := (some .boolean)) (by decide) rfl ?_
  intro p e s m args below meth c s₁ B hml hv
  obtain ⟨rfl, hW, hK⟩ := hv
  have hx := B.exec
  have hb := B.bytes
  have hr := B.returns
  have hts := atoms_spec (ws := ws_X_credit) B.pre
  have ht : ∀ w ∈ TB, w.before _ s = true := fun w h => hts w (List.mem_cons_of_mem _ h)
  have hown : s.vm.findClass "GridlockDesk" = some m.cls := findClass_of_methodNamed B.named
  have hlocks := B.notSynchronized
  have hS : va_S A s.heap s.heap [] := va_S.rf
  have hl := lv_entry ([.ref (ad 0 0), .int x1, .long x2]) (n := 4) (Nat.le_of_ble_eq_true rfl)
  rw [lg_entry_eq]
  generalize (lg_sl ([.ref (ad 0 0), .int x1, .long x2]) ++ List.replicate (4 - (lg_sl ([.ref (ad 0 0), .int x1, .long x2])).length) Slot.unset).toArray = ls at hl ⊢
  have hl : lv_has ls 4 [(0, .ref (ad 0 0)), (1, .int x1), (2, .long x2)] := hl
  unfold f_X_credit at hf

  refine lv_aload_n hx hb d_X_credit_0 rfl (lv_at hl 0 rfl) ?_
  refine lv_iload_n hx hb d_X_credit_1 rfl (lv_at hl 1 rfl) ?_
  obtain ⟨o1, ho1, hf⟩ := og_b hf
  refine kc_i (P := (fun u H => CW D cA ad n A u H)) (va_runV (C := "GridlockDesk") (As := [.int _]) (rest := []) ⟨hx, hb, hml, hown, hts⟩ (m_X_isBank l D cA ad n A _  _  o1 ho1) (cwV 1 hts (tb_V tw_117 tw_119 tw_0 tw_31 tw_120) rfl rfl rfl (by decide +kernel) ⟨Nat.le_of_ble_eq_true rfl, Nat.le_of_ble_eq_true rfl⟩) ⟨k_blind, kw.recv hK hW.1 (t := 0) rfl rfl rfl, k_pre hW hK⟩ rfl rfl hl.1 rfl (lv_room (Nat.le_of_ble_eq_true rfl)) d_X_credit_2 ⟨Nat.zero_le _, Nat.zero_le _⟩) hS (fun H locs hW hS => ?_)
  refine lv_if_eq (tgt := 37) hx hb d_X_credit_5 rfl (fun hc => ?_) (fun hc => ?_)
  · replace hf := og_t hc hf
    refine lv_iconst (v := 0) hx hb d_X_credit_37 (by decide) ?_
    exact W.zret hx hb hr rfl (fun t ht hWm => ⟨⟨_, _, rfl, Option.some.inj hf, by rw [ht]; exact hW, va_K.moved hWm.alike hK⟩, hS.F ht⟩) hS.2.2 d_X_credit_38
  · replace hf := og_f hc hf
    refine lv_lload_n hx hb d_X_credit_8 rfl (lv_at hl 2 rfl) ?_
    refine lv_lconst (v := 0) hx hb d_X_credit_9 (by decide) ?_
    refine lc_lt (tgt := 37) hx hb d_X_credit_10 d_X_credit_11 rfl (fun hc => ?_) (fun hc => ?_)
    · replace hf := og_t hc hf
      refine lv_iconst (v := 0) hx hb d_X_credit_37 (by decide) ?_
      exact W.zret hx hb hr rfl (fun t ht hWm => ⟨⟨_, _, rfl, Option.some.inj hf, by rw [ht]; exact hW, va_K.moved hWm.alike hK⟩, hS.F ht⟩) hS.2.2 d_X_credit_38
    · replace hf := og_f hc hf
      refine lv_lload_n hx hb d_X_credit_14 rfl (lv_at hl 2 rfl) ?_
      refine lv_ldc2 (v := 1000000000000000) hx hb hown (ht _ tw_186) d_X_credit_15 ?_
      refine lc_gt (tgt := 37) hx hb d_X_credit_18 d_X_credit_19 rfl (fun hc => ?_) (fun hc => ?_)
      · replace hf := og_t hc hf
        refine lv_iconst (v := 0) hx hb d_X_credit_37 (by decide) ?_
        exact W.zret hx hb hr rfl (fun t ht hWm => ⟨⟨_, _, rfl, Option.some.inj hf, by rw [ht]; exact hW, va_K.moved hWm.alike hK⟩, hS.F ht⟩) hS.2.2 d_X_credit_38
      · replace hf := og_f hc hf
        refine lv_aload_n hx hb d_X_credit_22 rfl (lv_at hl 0 rfl) ?_
        refine va_get (D := D) (ci := 2) (C := "GridlockDesk") (T := T_X) (N := 6) hx hb ht hin_X hown hK (hW.1.one (t := 0) rfl) 0 rfl rfl 0 (by decide) (ht _ tw_93) (fun _ h9 => h9) rfl d_X_credit_23 ?_
        refine lv_iload_n hx hb d_X_credit_26 rfl (lv_at hl 1 rfl) ?_
        obtain ⟨hin2, hf⟩ := og_if hf
        refine va_aldq (D := D) hx hb hK (hW.1.one (t := 1) rfl) 0 2 rfl rfl hin2 d_X_credit_27 ?_
        refine W.eq (g2 := F0 m 28 ls (.ref (ad 4 _) :: [])) rfl ?_
        refine va_get (D := D) (ci := 0) (C := "GridlockDesk$Bank") (T := T_B) (N := 7) hx hb ht hin_B hown hK (hW.1.one (t := 4) (vin_lt hin2)) 0 rfl rfl 0 (by decide) (ht _ tw_64) (fun _ h9 => h9) rfl d_X_credit_28 ?_
        refine lv_lload_n hx hb d_X_credit_31 rfl (lv_at hl 2 rfl) ?_
        refine lv_lneg hx hb d_X_credit_32 ?_
        refine lc_ge (tgt := 39) hx hb d_X_credit_33 d_X_credit_34 rfl (fun hc => ?_) (fun hc => ?_)
        · replace hf := og_t hc hf
          refine lv_aload_n hx hb d_X_credit_39 rfl (lv_at hl 0 rfl) ?_
          refine va_get (D := D) (ci := 2) (C := "GridlockDesk") (T := T_X) (N := 6) hx hb ht hin_X hown hK (hW.1.one (t := 0) rfl) 0 rfl rfl 0 (by decide) (ht _ tw_93) (fun _ h9 => h9) rfl d_X_credit_40 ?_
          refine lv_iload_n hx hb d_X_credit_43 rfl (lv_at hl 1 rfl) ?_
          obtain ⟨hin3, hf⟩ := og_if hf
          refine va_aldq (D := D) hx hb hK (hW.1.one (t := 1) rfl) 0 2 rfl rfl hin3 d_X_credit_44 ?_
          refine W.eq (g2 := F0 m 45 ls (.ref (ad 4 _) :: [])) rfl ?_
          refine lv_lload_n hx hb d_X_credit_45 rfl (lv_at hl 2 rfl) ?_
          obtain ⟨σ4, eσ4, hf⟩ := og_b hf
          cases eσ4
          refine k_put  (ci := 0) (C := "GridlockDesk$Bank") (T := T_B) (N := 7) (ty := .long) (t := 4) hx hb ht hin_B ft_B ft_B_ok nm_B hown hK hW.1 hS (vin_lt hin3) (hW.2 _ _ (vin_lt hin3)) rfl rfl 1 (by decide) (ht _ tw_65) (fun _ h9 => h9) rfl (by decide +kernel) rfl rfl (Nat.le_of_ble_eq_true rfl) d_X_credit_46 cc_wL2 (fun H locs hW1 hS => ?_)
          have hW := CW.wL hW1 hW.2
          refine lv_aload_n hx hb d_X_credit_49 rfl (lv_at hl 0 rfl) ?_
          obtain ⟨o5, ho5, hf⟩ := og_b hf
          refine kc_v (P := (fun u H => CW D cA ad n A u H)) (va_runV (C := "GridlockDesk") (As := []) (rest := []) ⟨hx, hb, hml, hown, hts⟩ (m_X_sweep l D cA ad n A _    o5 ho5) (cwV 0 hts (tb_V tw_123 tw_125 tw_1 tw_31 tw_126) rfl rfl rfl (by decide +kernel) ⟨Nat.le_of_ble_eq_true rfl, Nat.le_of_ble_eq_true rfl⟩) ⟨k_blind, kw.recv hK hW.1 (t := 0) rfl rfl rfl, k_pre hW hK⟩ rfl rfl hl.1 rfl (lv_room (Nat.le_of_ble_eq_true rfl)) d_X_credit_50 ⟨Nat.zero_le _, Nat.zero_le _⟩) hS (fun H locs hW hS => ?_)
          refine lv_iconst (v := 1) hx hb d_X_credit_53 (by decide) ?_
          exact W.zret hx hb hr rfl (fun t ht hWm => ⟨⟨_, _, rfl, Option.some.inj hf, by rw [ht]; exact hW, va_K.moved hWm.alike hK⟩, hS.F ht⟩) hS.2.2 d_X_credit_54
        · replace hf := og_f hc hf
          refine lv_iconst (v := 0) hx hb d_X_credit_37 (by decide) ?_
          exact W.zret hx hb hr rfl (fun t ht hWm => ⟨⟨_, _, rfl, Option.some.inj hf, by rw [ht]; exact hW, va_K.moved hWm.alike hK⟩, hS.F ht⟩) hS.2.2 d_X_credit_38

set_option maxHeartbeats 4000000 in
set_option maxRecDepth 100000 in
theorem m_X_limit (l : Launch) (D : va_G) (cA : Nat → ClassId) (ad : Nat → Nat → Nat) (n : Nat) (A : Nat → Prop) (σ : St) (x1 : Int32) (x2 : Int32) (x3 : Int64)  (out : Int32 × St) (hf : f_X_limit n σ x1 x2 x3 = some out) : Met l y_X_limit ws_X_limit ({ frames := 6, cells := 0, slots := 0, locals := 140 }) (va_Pc [.ref (ad 0 0), .int x1, .int x2, .long x3] (fun U => CW D cA ad n A σ U.heap ∧ va_K D vCl (atys cA) U)) (va_Qi (fun r u => (r, u) = out) (fun u t => CW D cA ad n A u t.heap ∧ va_K D vCl (atys cA) t) A) 0 0 A := by
  refine Met.ofW (cc := prog_1_method_4_code) (maxL := 5) (ret := (some .boolean)) (by decide) rfl ?_
  intro p e s m args below meth c s₁ B hml hv
  obtain ⟨rfl, hW, hK⟩ := hv
  have hx := B.exec
  have hb := B.bytes
  have hr := B.returns
  have hts := atoms_spec (ws := ws_X_limit) B.pre
  have ht : ∀ w ∈ TB, w.before _ s = true := fun w h => hts w (List.mem_cons_of_mem _ h)
  have hown : s.vm.findClass "GridlockDesk" = some m.cls := findClass_of_methodNamed B.named
  have hlocks := B.notSynchronized
  have hS : va_S A s.heap s.heap [] := va_S.rf
  have hl := lv_entry ([.ref (ad 0 0), .int x1, .int x2, .long x3]) (n := 5) (Nat.le_of_ble_eq_true rfl)
  rw [lg_entry_eq]
  generalize (lg_sl ([.ref (ad 0 0), .int x1, .int x2, .long x3]) ++ List.replicate (5 - (lg_sl ([.ref (ad 0 0), .int x1, .int x2, .long x3])).length) Slot.unset).toArray = ls at hl ⊢
  have hl : lv_has ls 5 [(0, .ref (ad 0 0)), (1, .int x1), (2, .int x2), (3, .long x3)] := hl
  unfold f_X_limit at hf

  refine lv_aload_n hx hb d_X_limit_0 rfl (lv_at hl 0 rfl) ?_
  refine lv_iload_n hx hb d_X_limit_1 rfl (lv_at hl 1 rfl) ?_
  refine lv_iload_n hx hb d_X_limit_2 rfl (lv_at hl 2 rfl) ?_
  obtain ⟨o1, ho1, hf⟩ := og_b hf
  refine kc_i (P := (fun u H => CW D cA ad n A u H)) (va_runV (C := "GridlockDesk") (As := [.int _, .int _]) (rest := []) ⟨hx, hb, hml, hown, hts⟩ (m_X_areTwoBanks l D cA ad n A _  _ _  o1 ho1) (cwV 2 hts (tb_V tw_191 tw_193 tw_11 tw_31 tw_194) rfl rfl rfl (by decide +kernel) ⟨Nat.le_of_ble_eq_true rfl, Nat.le_of_ble_eq_true rfl⟩) ⟨k_blind, kw.recv hK hW.1 (t := 0) rfl rfl rfl, k_pre hW hK⟩ rfl rfl hl.1 rfl (lv_room (Nat.le_of_ble_eq_true rfl)) d_X_limit_3 ⟨Nat.zero_le _, Nat.zero_le _⟩) hS (fun H locs hW hS => ?_)
  refine lv_if_eq (tgt := 29) hx hb d_X_limit_6 rfl (fun hc => ?_) (fun hc => ?_)
  · replace hf := og_t hc hf
    refine lv_iconst (v := 0) hx hb d_X_limit_29 (by decide) ?_
    exact W.zret hx hb hr rfl (fun t ht hWm => ⟨⟨_, _, rfl, Option.some.inj hf, by rw [ht]; exact hW, va_K.moved hWm.alike hK⟩, hS.F ht⟩) hS.2.2 d_X_limit_30
  · replace hf := og_f hc hf
    refine lv_lload_n hx hb d_X_limit_9 rfl (lv_at hl 3 rfl) ?_
    obtain ⟨o2, ho2, hf⟩ := og_b hf
    refine kc_i (P := (fun u H => CW D cA ad n A u H)) (va_runS (As := [.long _]) (rest := []) ⟨hx, hb, hml, hown, hts⟩ (m_X_isLimit l D cA ad n A _  _  o2 ho2) (va_cwS 1 hts (tb_S tw_195 tw_196 tw_31 tw_197) rfl rfl rfl (by decide +kernel) ⟨Nat.le_of_ble_eq_true rfl, Nat.le_of_ble_eq_true rfl⟩) ⟨k_blind, k_pre hW hK⟩ rfl rfl hl.1 rfl (lv_room (Nat.le_of_ble_eq_true rfl)) d_X_limit_10 ⟨Nat.zero_le _, Nat.zero_le _⟩) hS (fun H locs hW hS => ?_)
    refine lv_if_eq (tgt := 29) hx hb d_X_limit_13 rfl (fun hc => ?_) (fun hc => ?_)
    · replace hf := og_t hc hf
      refine lv_iconst (v := 0) hx hb d_X_limit_29 (by decide) ?_
      exact W.zret hx hb hr rfl (fun t ht hWm => ⟨⟨_, _, rfl, Option.some.inj hf, by rw [ht]; exact hW, va_K.moved hWm.alike hK⟩, hS.F ht⟩) hS.2.2 d_X_limit_30
    · replace hf := og_f hc hf
      refine lv_aload_n hx hb d_X_limit_16 rfl (lv_at hl 0 rfl) ?_
      refine lv_iload_n hx hb d_X_limit_17 rfl (lv_at hl 1 rfl) ?_
      refine lv_iload_n hx hb d_X_limit_18 rfl (lv_at hl 2 rfl) ?_
      obtain ⟨o3, ho3, hf⟩ := og_b hf
      refine kc_l (P := (fun u H => CW D cA ad n A u H)) (va_runV (C := "GridlockDesk") (As := [.int _, .int _]) (rest := []) ⟨hx, hb, hml, hown, hts⟩ (m_X_positionOf l D cA ad n A _  _ _  o3 ho3) (cwV 2 hts (tb_V tw_154 tw_156 tw_6 tw_31 tw_157) rfl rfl rfl (by decide +kernel) ⟨Nat.le_of_ble_eq_true rfl, Nat.le_of_ble_eq_true rfl⟩) ⟨k_blind, kw.recv hK hW.1 (t := 0) rfl rfl rfl, k_pre hW hK⟩ rfl rfl hl.1 rfl (lv_room (Nat.le_of_ble_eq_true rfl)) d_X_limit_19 ⟨Nat.zero_le _, Nat.zero_le _⟩) hS (fun H locs hW hS => ?_)
      refine lv_lload_n hx hb d_X_limit_22 rfl (lv_at hl 3 rfl) ?_
      obtain ⟨o4, ho4, hf⟩ := og_b hf
      refine kc_i (P := (fun u H => CW D cA ad n A u H)) (va_runS (As := [.long _, .long _]) (rest := []) ⟨hx, hb, hml, hown, hts⟩ (m_X_exceeds l D cA ad n A _  _ _  o4 ho4) (va_cwS 2 hts (tb_S tw_150 tw_151 tw_31 tw_152) rfl rfl rfl (by decide +kernel) ⟨Nat.le_of_ble_eq_true rfl, Nat.le_of_ble_eq_true rfl⟩) ⟨k_blind, k_pre hW hK⟩ rfl rfl hl.1 rfl (lv_room (Nat.le_of_ble_eq_true rfl)) d_X_limit_23 ⟨Nat.zero_le _, Nat.zero_le _⟩) hS (fun H locs hW hS => ?_)
      refine lv_if_eq (tgt := 31) hx hb d_X_limit_26 rfl (fun hc => ?_) (fun hc => ?_)
      · replace hf := og_t hc hf
        refine lv_aload_n hx hb d_X_limit_31 rfl (lv_at hl 0 rfl) ?_
        refine va_get (D := D) (ci := 2) (C := "GridlockDesk") (T := T_X) (N := 6) hx hb ht hin_X hown hK (hW.1.one (t := 0) rfl) 0 rfl rfl 0 (by decide) (ht _ tw_93) (fun _ h9 => h9) rfl d_X_limit_32 ?_
        refine lv_iload_n hx hb d_X_limit_35 rfl (lv_at hl 1 rfl) ?_
        obtain ⟨hin5, hf⟩ := og_if hf
        refine va_aldq (D := D) hx hb hK (hW.1.one (t := 1) rfl) 0 2 rfl rfl hin5 d_X_limit_36 ?_
        refine W.eq (g2 := F0 m 37 ls (.ref (ad 4 _) :: [])) rfl ?_
        refine va_get (D := D) (ci := 0) (C := "GridlockDesk$Bank") (T := T_B) (N := 7) hx hb ht hin_B hown hK (hW.1.one (t := 4) (vin_lt hin5)) 0 rfl rfl 3 (by decide) (ht _ tw_69) (fun _ h9 => h9) rfl d_X_limit_37 ?_
        refine lv_iload_n hx hb d_X_limit_40 rfl (lv_at hl 2 rfl) ?_
        refine lv_lload_n hx hb d_X_limit_41 rfl (lv_at hl 3 rfl) ?_
        obtain ⟨hin6, hf⟩ := og_if hf
        obtain ⟨σ7, eσ7, hf⟩ := og_b hf
        cases eσ7
        refine k_last  (t := 5) hx hb hK hW.1 hS (vin_lt hin5) (hW.2 _ _ (vin_lt hin5)) 0 rfl rfl hin6 d_X_limit_42 cc_wL4 (fun H locs hW1 hS => ?_)
        have hW := CW.wL hW1 hW.2
        refine lv_aload_n hx hb d_X_limit_43 rfl (lv_at hl 0 rfl) ?_
        obtain ⟨o8, ho8, hf⟩ := og_b hf
        refine kc_v (P := (fun u H => CW D cA ad n A u H)) (va_runV (C := "GridlockDesk") (As := []) (rest := []) ⟨hx, hb, hml, hown, hts⟩ (m_X_sweep l D cA ad n A _    o8 ho8) (cwV 0 hts (tb_V tw_123 tw_125 tw_1 tw_31 tw_126) rfl rfl rfl (by decide +kernel) ⟨Nat.le_of_ble_eq_true rfl, Nat.le_of_ble_eq_true rfl⟩) ⟨k_blind, kw.recv hK hW.1 (t := 0) rfl rfl rfl, k_pre hW hK⟩ rfl rfl hl.1 rfl (lv_room (Nat.le_of_ble_eq_true rfl)) d_X_limit_44 ⟨Nat.zero_le _, Nat.zero_le _⟩) hS (fun H locs hW hS => ?_)
        refine lv_iconst (v := 1) hx hb d_X_limit_47 (by decide) ?_
        exact W.zret hx hb hr rfl (fun t ht hWm => ⟨⟨_, _, rfl, Option.some.inj hf, by rw [ht]; exact hW, va_K.moved hWm.alike hK⟩, hS.F ht⟩) hS.2.2 d_X_limit_48
      · replace hf := og_f hc hf
        refine lv_iconst (v := 0) hx hb d_X_limit_29 (by decide) ?_
        exact W.zret hx hb hr rfl (fun t ht hWm => ⟨⟨_, _, rfl, Option.some.inj hf, by rw [ht]; exact hW, va_K.moved hWm.alike hK⟩, hS.F ht⟩) hS.2.2 d_X_limit_30

set_option maxHeartbeats 4000000 in
set_option maxRecDepth 100000 in
theorem m_X_totalLimit (l : Launch) (D : va_G) (cA : Nat → ClassId) (ad : Nat → Nat → Nat) (n : Nat) (A : Nat → Prop) (σ : St) (x1 : Int32) (x2 : Int64)  (out : Int32 × St) (hf : f_X_totalLimit n σ x1 x2 = some out) : Met l y_X_totalLimit ws_X_totalLimit ({ frames := 6, cells := 0, slots := 0, locals := 140 }) (va_Pc [.ref (ad 0 0), .int x1, .long x2] (fun U => CW D cA ad n A σ U.heap ∧ va_K D vCl (atys cA) U)) (va_Qi (fun r u => (r, u) = out) (fun u t => CW D cA ad n A u t.heap ∧ va_K D vCl (atys cA) t) A) 0 0 A := by
  refine Met.ofW (cc := prog_1_method_5_code) (maxL := 4) (ret := (some .boolean)) (by decide) rfl ?_
  intro p e s m args below meth c s₁ B hml hv
  obtain ⟨rfl, hW, hK⟩ := hv
  have hx := B.exec
  have hb := B.bytes
  have hr := B.returns
  have hts := atoms_spec (ws := ws_X_totalLimit) B.pre
  have ht : ∀ w ∈ TB, w.before _ s = true := fun w h => hts w (List.mem_cons_of_mem _ h)
  have hown : s.vm.findClass "GridlockDesk" = some m.cls := findClass_of_methodNamed B.named
  have hlocks := B.notSynchronized
  have hS : va_S A s.heap s.heap [] := va_S.rf
  have hl := lv_entry ([.ref (ad 0 0), .int x1, .long x2]) (n := 4) (Nat.le_of_ble_eq_true rfl)
  rw [lg_entry_eq]
  generalize (lg_sl ([.ref (ad 0 0), .int x1, .long x2]) ++ List.replicate (4 - (lg_sl ([.ref (ad 0 0), .int x1, .long x2])).length) Slot.unset).toArray = ls at hl ⊢
  have hl : lv_has ls 4 [(0, .ref (ad 0 0)), (1, .int x1), (2, .long x2)] := hl
  unfold f_X_totalLimit at hf

  refine lv_aload_n hx hb d_X_totalLimit_0 rfl (lv_at hl 0 rfl) ?_
  refine lv_iload_n hx hb d_X_totalLimit_1 rfl (lv_at hl 1 rfl) ?_
  obtain ⟨o1, ho1, hf⟩ := og_b hf
  refine kc_i (P := (fun u H => CW D cA ad n A u H)) (va_runV (C := "GridlockDesk") (As := [.int _]) (rest := []) ⟨hx, hb, hml, hown, hts⟩ (m_X_isBank l D cA ad n A _  _  o1 ho1) (cwV 1 hts (tb_V tw_117 tw_119 tw_0 tw_31 tw_120) rfl rfl rfl (by decide +kernel) ⟨Nat.le_of_ble_eq_true rfl, Nat.le_of_ble_eq_true rfl⟩) ⟨k_blind, kw.recv hK hW.1 (t := 0) rfl rfl rfl, k_pre hW hK⟩ rfl rfl hl.1 rfl (lv_room (Nat.le_of_ble_eq_true rfl)) d_X_totalLimit_2 ⟨Nat.zero_le _, Nat.zero_le _⟩) hS (fun H locs hW hS => ?_)
  refine lv_if_eq (tgt := 27) hx hb d_X_totalLimit_5 rfl (fun hc => ?_) (fun hc => ?_)
  · replace hf := og_t hc hf
    refine lv_iconst (v := 0) hx hb d_X_totalLimit_27 (by decide) ?_
    exact W.zret hx hb hr rfl (fun t ht hWm => ⟨⟨_, _, rfl, Option.some.inj hf, by rw [ht]; exact hW, va_K.moved hWm.alike hK⟩, hS.F ht⟩) hS.2.2 d_X_totalLimit_28
  · replace hf := og_f hc hf
    refine lv_lload_n hx hb d_X_totalLimit_8 rfl (lv_at hl 2 rfl) ?_
    obtain ⟨o2, ho2, hf⟩ := og_b hf
    refine kc_i (P := (fun u H => CW D cA ad n A u H)) (va_runS (As := [.long _]) (rest := []) ⟨hx, hb, hml, hown, hts⟩ (m_X_isLimit l D cA ad n A _  _  o2 ho2) (va_cwS 1 hts (tb_S tw_195 tw_196 tw_31 tw_197) rfl rfl rfl (by decide +kernel) ⟨Nat.le_of_ble_eq_true rfl, Nat.le_of_ble_eq_true rfl⟩) ⟨k_blind, k_pre hW hK⟩ rfl rfl hl.1 rfl (lv_room (Nat.le_of_ble_eq_true rfl)) d_X_totalLimit_9 ⟨Nat.zero_le _, Nat.zero_le _⟩) hS (fun H locs hW hS => ?_)
    refine lv_if_eq (tgt := 27) hx hb d_X_totalLimit_12 rfl (fun hc => ?_) (fun hc => ?_)
    · replace hf := og_t hc hf
      refine lv_iconst (v := 0) hx hb d_X_totalLimit_27 (by decide) ?_
      exact W.zret hx hb hr rfl (fun t ht hWm => ⟨⟨_, _, rfl, Option.some.inj hf, by rw [ht]; exact hW, va_K.moved hWm.alike hK⟩, hS.F ht⟩) hS.2.2 d_X_totalLimit_28
    · replace hf := og_f hc hf
      refine lv_aload_n hx hb d_X_totalLimit_15 rfl (lv_at hl 0 rfl) ?_
      refine lv_iload_n hx hb d_X_totalLimit_16 rfl (lv_at hl 1 rfl) ?_
      obtain ⟨o3, ho3, hf⟩ := og_b hf
      refine kc_l (P := (fun u H => CW D cA ad n A u H)) (va_runV (C := "GridlockDesk") (As := [.int _]) (rest := []) ⟨hx, hb, hml, hown, hts⟩ (m_X_totalPositionOf l D cA ad n A _  _  o3 ho3) (cwV 1 hts (tb_V tw_202 tw_204 tw_12 tw_31 tw_205) rfl rfl rfl (by decide +kernel) ⟨Nat.le_of_ble_eq_true rfl, Nat.le_of_ble_eq_true rfl⟩) ⟨k_blind, kw.recv hK hW.1 (t := 0) rfl rfl rfl, k_pre hW hK⟩ rfl rfl hl.1 rfl (lv_room (Nat.le_of_ble_eq_true rfl)) d_X_totalLimit_17 ⟨Nat.zero_le _, Nat.zero_le _⟩) hS (fun H locs hW hS => ?_)
      refine lv_lload_n hx hb d_X_totalLimit_20 rfl (lv_at hl 2 rfl) ?_
      obtain ⟨o4, ho4, hf⟩ := og_b hf
      refine kc_i (P := (fun u H => CW D cA ad n A u H)) (va_runS (As := [.long _, .long _]) (rest := []) ⟨hx, hb, hml, hown, hts⟩ (m_X_exceeds l D cA ad n A _  _ _  o4 ho4) (va_cwS 2 hts (tb_S tw_150 tw_151 tw_31 tw_152) rfl rfl rfl (by decide +kernel) ⟨Nat.le_of_ble_eq_true rfl, Nat.le_of_ble_eq_true rfl⟩) ⟨k_blind, k_pre hW hK⟩ rfl rfl hl.1 rfl (lv_room (Nat.le_of_ble_eq_true rfl)) d_X_totalLimit_21 ⟨Nat.zero_le _, Nat.zero_le _⟩) hS (fun H locs hW hS => ?_)
      refine lv_if_eq (tgt := 29) hx hb d_X_totalLimit_24 rfl (fun hc => ?_) (fun hc => ?_)
      · replace hf := og_t hc hf
        refine lv_aload_n hx hb d_X_totalLimit_29 rfl (lv_at hl 0 rfl) ?_
        refine va_get (D := D) (ci := 2) (C := "GridlockDesk") (T := T_X) (N := 6) hx hb ht hin_X hown hK (hW.1.one (t := 0) rfl) 0 rfl rfl 0 (by decide) (ht _ tw_93) (fun _ h9 => h9) rfl d_X_totalLimit_30 ?_
        refine lv_iload_n hx hb d_X_totalLimit_33 rfl (lv_at hl 1 rfl) ?_
        obtain ⟨hin5, hf⟩ := og_if hf
        refine va_aldq (D := D) hx hb hK (hW.1.one (t := 1) rfl) 0 2 rfl rfl hin5 d_X_totalLimit_34 ?_
        refine W.eq (g2 := F0 m 35 ls (.ref (ad 4 _) :: [])) rfl ?_
        refine lv_lload_n hx hb d_X_totalLimit_35 rfl (lv_at hl 2 rfl) ?_
        obtain ⟨σ6, eσ6, hf⟩ := og_b hf
        cases eσ6
        refine k_put  (ci := 0) (C := "GridlockDesk$Bank") (T := T_B) (N := 7) (ty := .long) (t := 4) hx hb ht hin_B ft_B ft_B_ok nm_B hown hK hW.1 hS (vin_lt hin5) (hW.2 _ _ (vin_lt hin5)) rfl rfl 2 (by decide) (ht _ tw_67) (fun _ h9 => h9) rfl (by decide +kernel) rfl rfl (Nat.le_of_ble_eq_true rfl) d_X_totalLimit_36 cc_wL3 (fun H locs hW1 hS => ?_)
        have hW := CW.wL hW1 hW.2
        refine lv_aload_n hx hb d_X_totalLimit_39 rfl (lv_at hl 0 rfl) ?_
        obtain ⟨o7, ho7, hf⟩ := og_b hf
        refine kc_v (P := (fun u H => CW D cA ad n A u H)) (va_runV (C := "GridlockDesk") (As := []) (rest := []) ⟨hx, hb, hml, hown, hts⟩ (m_X_sweep l D cA ad n A _    o7 ho7) (cwV 0 hts (tb_V tw_123 tw_125 tw_1 tw_31 tw_126) rfl rfl rfl (by decide +kernel) ⟨Nat.le_of_ble_eq_true rfl, Nat.le_of_ble_eq_true rfl⟩) ⟨k_blind, kw.recv hK hW.1 (t := 0) rfl rfl rfl, k_pre hW hK⟩ rfl rfl hl.1 rfl (lv_room (Nat.le_of_ble_eq_true rfl)) d_X_totalLimit_40 ⟨Nat.zero_le _, Nat.zero_le _⟩) hS (fun H locs hW hS => ?_)
        refine lv_iconst (v := 1) hx hb d_X_totalLimit_43 (by decide) ?_
        exact W.zret hx hb hr rfl (fun t ht hWm => ⟨⟨_, _, rfl, Option.some.inj hf, by rw [ht]; exact hW, va_K.moved hWm.alike hK⟩, hS.F ht⟩) hS.2.2 d_X_totalLimit_44
      · replace hf := og_f hc hf
        refine lv_iconst (v := 0) hx hb d_X_totalLimit_27 (by decide) ?_
        exact W.zret hx hb hr rfl (fun t ht hWm => ⟨⟨_, _, rfl, Option.some.inj hf, by rw [ht]; exact hW, va_K.moved hWm.alike hK⟩, hS.F ht⟩) hS.2.2 d_X_totalLimit_28

set_option maxHeartbeats 4000000 in
set_option maxRecDepth 100000 in
theorem m_X_cancel (l : Launch) (D : va_G) (cA : Nat → ClassId) (ad : Nat → Nat → Nat) (n : Nat) (A : Nat → Prop) (σ : St) (x1 : Int32)  (out : Int32 × St) (hf : f_X_cancel n σ x1 = some out) : Met l y_X_cancel ws_X_cancel ({ frames := 6, cells := 0, slots := 0, locals := 140 }) (va_Pc [.ref (ad 0 0), .int x1] (fun U => CW D cA ad n A σ U.heap ∧ va_K D vCl (atys cA) U)) (va_Qi (fun r u => (r, u) = out) (fun u t => CW D cA ad n A u t.heap ∧ va_K D vCl (atys cA) t) A) 0 0 A := by
  refine Met.ofW (cc := prog_1_method_7_code) (maxL := 2) (ret := (some .boolean)) (by decide) rfl ?_
  intro p e s m args below meth c s₁ B hml hv
  obtain ⟨rfl, hW, hK⟩ := hv
  have hx := B.exec
  have hb := B.bytes
  have hr := B.returns
  have hts := atoms_spec (ws := ws_X_cancel) B.pre
  have ht : ∀ w ∈ TB, w.before _ s = true := fun w h => hts w (List.mem_cons_of_mem _ h)
  have hown : s.vm.findClass "GridlockDesk" = some m.cls := findClass_of_methodNamed B.named
  have hlocks := B.notSynchronized
  have hS : va_S A s.heap s.heap [] := va_S.rf
  have hl := lv_entry ([.ref (ad 0 0), .int x1]) (n := 2) (Nat.le_of_ble_eq_true rfl)
  rw [lg_entry_eq]
  generalize (lg_sl ([.ref (ad 0 0), .int x1]) ++ List.replicate (2 - (lg_sl ([.ref (ad 0 0), .int x1])).length) Slot.unset).toArray = ls at hl ⊢
  have hl : lv_has ls 2 [(0, .ref (ad 0 0)), (1, .int x1)] := hl
  unfold f_X_cancel at hf

  refine lv_aload_n hx hb d_X_cancel_0 rfl (lv_at hl 0 rfl) ?_
  refine lv_iload_n hx hb d_X_cancel_1 rfl (lv_at hl 1 rfl) ?_
  obtain ⟨o1, ho1, hf⟩ := og_b hf
  refine kc_i (P := (fun u H => CW D cA ad n A u H)) (va_runV (C := "GridlockDesk") (As := [.int _]) (rest := []) ⟨hx, hb, hml, hown, hts⟩ (m_X_isQueued l D cA ad n A _  _  o1 ho1) (cwV 1 hts (tb_V tw_258 tw_260 tw_13 tw_31 tw_261) rfl rfl rfl (by decide +kernel) ⟨Nat.le_of_ble_eq_true rfl, Nat.le_of_ble_eq_true rfl⟩) ⟨k_blind, kw.recv hK hW.1 (t := 0) rfl rfl rfl, k_pre hW hK⟩ rfl rfl hl.1 rfl (lv_room (Nat.le_of_ble_eq_true rfl)) d_X_cancel_2 ⟨Nat.zero_le _, Nat.zero_le _⟩) hS (fun H locs hW hS => ?_)
  refine lv_if_ne (tgt := 10) hx hb d_X_cancel_5 rfl (fun hc => ?_) (fun hc => ?_)
  · replace hf := og_f hc hf
    refine lv_aload_n hx hb d_X_cancel_10 rfl (lv_at hl 0 rfl) ?_
    refine lv_aload_n hx hb d_X_cancel_11 rfl (lv_at hl 0 rfl) ?_
    refine va_get (D := D) (ci := 2) (C := "GridlockDesk") (T := T_X) (N := 6) hx hb ht hin_X hown hK (hW.1.one (t := 0) rfl) 0 rfl rfl 1 (by decide) (ht _ tw_94) (fun _ h9 => h9) rfl d_X_cancel_12 ?_
    refine lv_iload_n hx hb d_X_cancel_15 rfl (lv_at hl 1 rfl) ?_
    obtain ⟨hin2, hf⟩ := og_if hf
    refine va_aldq (D := D) hx hb hK (hW.1.one (t := 2) rfl) 0 3 rfl rfl hin2 d_X_cancel_16 ?_
    refine lv_iconst (v := 4) hx hb d_X_cancel_17 (by decide) ?_
    obtain ⟨k3, hk3, hf⟩ := og_b hf
    obtain ⟨ek3, hk3⟩ := dR_spec hk3
    rw [ek3]
    refine W.eq (g2 := F0 m 18 ls [_, .ref (ad 8 k3), _]) rfl ?_
    obtain ⟨o4, ho4, hf⟩ := og_b hf
    refine kc_v (P := (fun u H => CW D cA ad n A u H)) (va_runV (C := "GridlockDesk") (As := [.ref _, .int _]) (rest := []) ⟨hx, hb, hml, hown, hts⟩ (m_X_end l D cA ad n A _  _ _  o4 ho4) (cwV 2 hts (tb_V tw_166 tw_168 tw_9 tw_31 tw_169) rfl rfl rfl (by decide +kernel) ⟨Nat.le_of_ble_eq_true rfl, Nat.le_of_ble_eq_true rfl⟩) ⟨k_blind, kw.recv hK hW.1 (t := 0) rfl rfl rfl, k_pre hW hK⟩ rfl rfl hl.1 rfl (lv_room (Nat.le_of_ble_eq_true rfl)) d_X_cancel_18 ⟨Nat.zero_le _, Nat.zero_le _⟩) hS (fun H locs hW hS => ?_)
    refine lv_aload_n hx hb d_X_cancel_21 rfl (lv_at hl 0 rfl) ?_
    obtain ⟨o5, ho5, hf⟩ := og_b hf
    refine kc_v (P := (fun u H => CW D cA ad n A u H)) (va_runV (C := "GridlockDesk") (As := []) (rest := []) ⟨hx, hb, hml, hown, hts⟩ (m_X_sweep l D cA ad n A _    o5 ho5) (cwV 0 hts (tb_V tw_123 tw_125 tw_1 tw_31 tw_126) rfl rfl rfl (by decide +kernel) ⟨Nat.le_of_ble_eq_true rfl, Nat.le_of_ble_eq_true rfl⟩) ⟨k_blind, kw.recv hK hW.1 (t := 0) rfl rfl rfl, k_pre hW hK⟩ rfl rfl hl.1 rfl (lv_room (Nat.le_of_ble_eq_true rfl)) d_X_cancel_22 ⟨Nat.zero_le _, Nat.zero_le _⟩) hS (fun H locs hW hS => ?_)
    refine lv_iconst (v := 1) hx hb d_X_cancel_25 (by decide) ?_
    exact W.zret hx hb hr rfl (fun t ht hWm => ⟨⟨_, _, rfl, Option.some.inj hf, by rw [ht]; exact hW, va_K.moved hWm.alike hK⟩, hS.F ht⟩) hS.2.2 d_X_cancel_26
  · replace hf := og_t hc hf
    refine lv_iconst (v := 0) hx hb d_X_cancel_8 (by decide) ?_
    exact W.zret hx hb hr rfl (fun t ht hWm => ⟨⟨_, _, rfl, Option.some.inj hf, by rw [ht]; exact hW, va_K.moved hWm.alike hK⟩, hS.F ht⟩) hS.2.2 d_X_cancel_9

set_option maxHeartbeats 4000000 in
set_option maxRecDepth 100000 in
theorem m_X_urge (l : Launch) (D : va_G) (cA : Nat → ClassId) (ad : Nat → Nat → Nat) (n : Nat) (A : Nat → Prop) (σ : St) (x1 : Int32) (x2 : Int32)  (out : Int32 × St) (hf : f_X_urge n σ x1 x2 = some out) : Met l y_X_urge ws_X_urge ({ frames := 6, cells := 0, slots := 0, locals := 140 }) (va_Pc [.ref (ad 0 0), .int x1, .int x2] (fun U => CW D cA ad n A σ U.heap ∧ va_K D vCl (atys cA) U)) (va_Qi (fun r u => (r, u) = out) (fun u t => CW D cA ad n A u t.heap ∧ va_K D vCl (atys cA) t) A) 0 0 A := by
  refine Met.ofW (cc := prog_1_method_8_code) (maxL := 5) (ret := (some .boolean)) (by decide) rfl ?_
  intro p e s m args below meth c s₁ B hml hv
  obtain ⟨rfl, hW, hK⟩ := hv
  have hx := B.exec
  have hb := B.bytes
  have hr := B.returns
  have hts := atoms_spec (ws := ws_X_urge) B.pre
  have ht : ∀ w ∈ TB, w.before _ s = true := fun w h => hts w (List.mem_cons_of_mem _ h)
  have hown : s.vm.findClass "GridlockDesk" = some m.cls := findClass_of_methodNamed B.named
  have hlocks := B.notSynchronized
  have hS : va_S A s.heap s.heap [] := va_S.rf
  have hl := lv_entry ([.ref (ad 0 0), .int x1, .int x2]) (n := 5) (Nat.le_of_ble_eq_true rfl)
  rw [lg_entry_eq]
  generalize (lg_sl ([.ref (ad 0 0), .int x1, .int x2]) ++ List.replicate (5 - (lg_sl ([.ref (ad 0 0), .int x1, .int x2])).length) Slot.unset).toArray = ls at hl ⊢
  have hl : lv_has ls 5 [(0, .ref (ad 0 0)), (1, .int x1), (2, .int x2)] := hl
  unfold f_X_urge at hf

  refine lv_aload_n hx hb d_X_urge_0 rfl (lv_at hl 0 rfl) ?_
  refine lv_iload_n hx hb d_X_urge_1 rfl (lv_at hl 1 rfl) ?_
  obtain ⟨o1, ho1, hf⟩ := og_b hf
  refine kc_i (P := (fun u H => CW D cA ad n A u H)) (va_runV (C := "GridlockDesk") (As := [.int _]) (rest := []) ⟨hx, hb, hml, hown, hts⟩ (m_X_isQueued l D cA ad n A _  _  o1 ho1) (cwV 1 hts (tb_V tw_258 tw_260 tw_13 tw_31 tw_261) rfl rfl rfl (by decide +kernel) ⟨Nat.le_of_ble_eq_true rfl, Nat.le_of_ble_eq_true rfl⟩) ⟨k_blind, kw.recv hK hW.1 (t := 0) rfl rfl rfl, k_pre hW hK⟩ rfl rfl hl.1 rfl (lv_room (Nat.le_of_ble_eq_true rfl)) d_X_urge_2 ⟨Nat.zero_le _, Nat.zero_le _⟩) hS (fun H locs hW hS => ?_)
  refine lv_if_eq (tgt := 15) hx hb d_X_urge_5 rfl (fun hc => ?_) (fun hc => ?_)
  · replace hf := og_t hc hf
    refine lv_iconst (v := 0) hx hb d_X_urge_15 (by decide) ?_
    exact W.zret hx hb hr rfl (fun t ht hWm => ⟨⟨_, _, rfl, Option.some.inj hf, by rw [ht]; exact hW, va_K.moved hWm.alike hK⟩, hS.F ht⟩) hS.2.2 d_X_urge_16
  · replace hf := og_f hc hf
    refine lv_iload_n hx hb d_X_urge_8 rfl (lv_at hl 2 rfl) ?_
    obtain ⟨o2, ho2, hf⟩ := og_b hf
    refine kc_i (P := (fun u H => CW D cA ad n A u H)) (va_runS (As := [.int _]) (rest := []) ⟨hx, hb, hml, hown, hts⟩ (m_X_isPriority l D cA ad n A _  _  o2 ho2) (va_cwS 1 hts (tb_S tw_210 tw_211 tw_31 tw_212) rfl rfl rfl (by decide +kernel) ⟨Nat.le_of_ble_eq_true rfl, Nat.le_of_ble_eq_true rfl⟩) ⟨k_blind, k_pre hW hK⟩ rfl rfl hl.1 rfl (lv_room (Nat.le_of_ble_eq_true rfl)) d_X_urge_9 ⟨Nat.zero_le _, Nat.zero_le _⟩) hS (fun H locs hW hS => ?_)
    refine lv_if_ne (tgt := 17) hx hb d_X_urge_12 rfl (fun hc => ?_) (fun hc => ?_)
    · replace hf := og_f hc hf
      refine lv_aload_n hx hb d_X_urge_17 rfl (lv_at hl 0 rfl) ?_
      refine va_get (D := D) (ci := 2) (C := "GridlockDesk") (T := T_X) (N := 6) hx hb ht hin_X hown hK (hW.1.one (t := 0) rfl) 0 rfl rfl 1 (by decide) (ht _ tw_94) (fun _ h9 => h9) rfl d_X_urge_18 ?_
      refine lv_iload_n hx hb d_X_urge_21 rfl (lv_at hl 1 rfl) ?_
      obtain ⟨hin3, hf⟩ := og_if hf
      refine va_aldq (D := D) hx hb hK (hW.1.one (t := 2) rfl) 0 3 rfl rfl hin3 d_X_urge_22 ?_
      obtain ⟨k4, hk4, hf⟩ := og_b hf
      obtain ⟨ek4, hk4⟩ := dR_spec hk4
      rw [ek4]
      refine W.eq (g2 := F0 m 23 ls [.ref (ad 8 k4)]) rfl ?_
      refine lv_astore_n (lv' := [(3, .ref _), (0, .ref _), (1, .int _), (2, .int _)]) hx hb d_X_urge_23 rfl hl (by decide) rfl (fun ls hl => ?_)
      refine lv_aload_n hx hb d_X_urge_24 rfl (lv_at hl 1 rfl) ?_
      refine va_get (D := D) (ci := 2) (C := "GridlockDesk") (T := T_X) (N := 6) hx hb ht hin_X hown hK (hW.1.one (t := 0) rfl) 0 rfl rfl 0 (by decide) (ht _ tw_93) (fun _ h9 => h9) rfl d_X_urge_25 ?_
      refine lv_aload_n hx hb d_X_urge_28 rfl (lv_at hl 0 rfl) ?_
      refine va_get (D := D) (ci := 1) (C := "GridlockDesk$Payment") (T := T_P) (N := 7) hx hb ht hin_P hown hK (hW.1.one (t := 8) hk4) 0 rfl rfl 1 (by decide) (ht _ tw_221) (fun _ h9 => h9) rfl d_X_urge_29 ?_
      obtain ⟨hin5, hf⟩ := og_if hf
      refine va_aldq (D := D) hx hb hK (hW.1.one (t := 1) rfl) 0 2 rfl rfl hin5 d_X_urge_32 ?_
      refine W.eq (g2 := F0 m 33 ls (.ref (ad 4 _) :: [])) rfl ?_
      refine lv_astore (lv' := [(4, .ref _), (3, .ref _), (0, .ref _), (1, .int _), (2, .int _)]) hx hb d_X_urge_33 hl (by decide) rfl (fun ls hl => ?_)
      refine lv_aload hx hb d_X_urge_35 (lv_at hl 0 rfl) ?_
      refine lv_aload_n hx hb d_X_urge_37 rfl (lv_at hl 1 rfl) ?_
      obtain ⟨o6, ho6, hf⟩ := og_b hf
      refine kc_v (P := (fun u H => CW D cA ad n A u H)) (va_runV (C := "GridlockDesk$Bank") (As := [.ref _]) (rest := []) ⟨hx, hb, hml, hown, hts⟩ (m_B_remove l D cA ad n A _ _ _ (vin_lt hin5) o6 ho6) (cwV 1 hts (tb_V tw_170 tw_171 tw_172 tw_33 tw_173) rfl rfl rfl (by decide +kernel) ⟨Nat.le_of_ble_eq_true rfl, Nat.le_of_ble_eq_true rfl⟩) ⟨k_blind, kw.recv hK hW.1 (t := 4) (vin_lt hin5) rfl rfl, k_pre hW hK⟩ rfl rfl hl.1 rfl (lv_room (Nat.le_of_ble_eq_true rfl)) d_X_urge_38 ⟨Nat.zero_le _, Nat.zero_le _⟩) hS (fun H locs hW hS => ?_)
      refine lv_aload_n hx hb d_X_urge_41 rfl (lv_at hl 1 rfl) ?_
      refine lv_iload_n hx hb d_X_urge_42 rfl (lv_at hl 4 rfl) ?_
      obtain ⟨hn7, hf⟩ := og_if hf
      obtain ⟨σ8, eσ8, hf⟩ := og_b hf
      cases eσ8
      refine k_put  (ci := 1) (C := "GridlockDesk$Payment") (T := T_P) (N := 7) (ty := .int) (t := 8) hx hb ht hin_P ft_P ft_P_ok nm_P hown hK hW.1 hS hn7 (hW.2 _ _ hn7) rfl rfl 5 (by decide) (ht _ tw_232) (fun _ h9 => h9) rfl (by decide +kernel) rfl rfl (Nat.le_of_ble_eq_true rfl) d_X_urge_43 cc_wI8 (fun H locs hW1 hS => ?_)
      have hW := CW.wI hW1 hW.2
      refine lv_aload hx hb d_X_urge_46 (lv_at hl 0 rfl) ?_
      refine lv_aload_n hx hb d_X_urge_48 rfl (lv_at hl 1 rfl) ?_
      obtain ⟨o9, ho9, hf⟩ := og_b hf
      refine kc_v (P := (fun u H => CW D cA ad n A u H)) (va_runV (C := "GridlockDesk$Bank") (As := [.ref _]) (rest := []) ⟨hx, hb, hml, hown, hts⟩ (m_B_enqueue l D cA ad n A _ _ _ (vin_lt hin5) o9 ho9) (cwV 1 hts (tb_V tw_250 tw_251 tw_252 tw_33 tw_253) rfl rfl rfl (by decide +kernel) ⟨Nat.le_of_ble_eq_true rfl, Nat.le_of_ble_eq_true rfl⟩) ⟨k_blind, kw.recv hK hW.1 (t := 4) (vin_lt hin5) rfl rfl, k_pre hW hK⟩ rfl rfl hl.1 rfl (lv_room (Nat.le_of_ble_eq_true rfl)) d_X_urge_49 ⟨Nat.zero_le _, Nat.zero_le _⟩) hS (fun H locs hW hS => ?_)
      refine lv_aload_n hx hb d_X_urge_52 rfl (lv_at hl 2 rfl) ?_
      obtain ⟨o10, ho10, hf⟩ := og_b hf
      refine kc_v (P := (fun u H => CW D cA ad n A u H)) (va_runV (C := "GridlockDesk") (As := []) (rest := []) ⟨hx, hb, hml, hown, hts⟩ (m_X_sweep l D cA ad n A _    o10 ho10) (cwV 0 hts (tb_V tw_123 tw_125 tw_1 tw_31 tw_126) rfl rfl rfl (by decide +kernel) ⟨Nat.le_of_ble_eq_true rfl, Nat.le_of_ble_eq_true rfl⟩) ⟨k_blind, kw.recv hK hW.1 (t := 0) rfl rfl rfl, k_pre hW hK⟩ rfl rfl hl.1 rfl (lv_room (Nat.le_of_ble_eq_true rfl)) d_X_urge_53 ⟨Nat.zero_le _, Nat.zero_le _⟩) hS (fun H locs hW hS => ?_)
      refine lv_iconst (v := 1) hx hb d_X_urge_56 (by decide) ?_
      exact W.zret hx hb hr rfl (fun t ht hWm => ⟨⟨_, _, rfl, Option.some.inj hf, by rw [ht]; exact hW, va_K.moved hWm.alike hK⟩, hS.F ht⟩) hS.2.2 d_X_urge_57
    · replace hf := og_t hc hf
      refine lv_iconst (v := 0) hx hb d_X_urge_15 (by decide) ?_
      exact W.zret hx hb hr rfl (fun t ht hWm => ⟨⟨_, _, rfl, Option.some.inj hf, by rw [ht]; exact hW, va_K.moved hWm.alike hK⟩, hS.F ht⟩) hS.2.2 d_X_urge_16

set_option maxHeartbeats 4000000 in
set_option maxRecDepth 100000 in
theorem m_X_resolve (l : Launch) (D : va_G) (cA : Nat → ClassId) (ad : Nat → Nat → Nat) (n : Nat) (A : Nat → Prop) (σ : St)   (out : Int32 × St) (hf : f_X_resolve n σ  = some out) : Met l y_X_resolve ws_X_resolve ({ frames := 6, cells := 0, slots := 0, locals := 140 }) (va_Pc [.ref (ad 0 0)] (fun U => CW D cA ad n A σ U.heap ∧ va_K D vCl (atys cA) U)) (va_Qi (fun r u => (r, u) = out) (fun u t => CW D cA ad n A u t.heap ∧ va_K D vCl (atys cA) t) A) 0 0 A := by
  refine Met.ofW (cc := prog_1_method_9_code) (maxL := 2) (ret := (some .int)) (by decide) rfl ?_
  intro p e s m args below meth c s₁ B hml hv
  obtain ⟨rfl, hW, hK⟩ := hv
  have hx := B.exec
  have hb := B.bytes
  have hr := B.returns
  have hts := atoms_spec (ws := ws_X_resolve) B.pre
  have ht : ∀ w ∈ TB, w.before _ s = true := fun w h => hts w (List.mem_cons_of_mem _ h)
  have hown : s.vm.findClass "GridlockDesk" = some m.cls := findClass_of_methodNamed B.named
  have hlocks := B.notSynchronized
  have hS : va_S A s.heap s.heap [] := va_S.rf
  have hl := lv_entry ([.ref (ad 0 0)]) (n := 2) (Nat.le_of_ble_eq_true rfl)
  rw [lg_entry_eq]
  generalize (lg_sl ([.ref (ad 0 0)]) ++ List.replicate (2 - (lg_sl ([.ref (ad 0 0)])).length) Slot.unset).toArray = ls at hl ⊢
  have hl : lv_has ls 2 [(0, .ref (ad 0 0))] := hl
  unfold f_X_resolve at hf

  refine lv_aload_n hx hb d_X_resolve_0 rfl (lv_at hl 0 rfl) ?_
  obtain ⟨o1, ho1, hf⟩ := og_b hf
  refine kc_v (P := (fun u H => CW D cA ad n A u H)) (va_runV (C := "GridlockDesk") (As := []) (rest := []) ⟨hx, hb, hml, hown, hts⟩ (m_X_chooseGreatest l D cA ad n A _    o1 ho1) (cwV 0 hts (tb_V tw_274 tw_276 tw_15 tw_31 tw_277) rfl rfl rfl (by decide +kernel) ⟨Nat.le_of_ble_eq_true rfl, Nat.le_of_ble_eq_true rfl⟩) ⟨k_blind, kw.recv hK hW.1 (t := 0) rfl rfl rfl, k_pre hW hK⟩ rfl rfl hl.1 rfl (lv_room (Nat.le_of_ble_eq_true rfl)) d_X_resolve_1 ⟨Nat.zero_le _, Nat.zero_le _⟩) hS (fun H locs hW hS => ?_)
  refine lv_aload_n hx hb d_X_resolve_4 rfl (lv_at hl 0 rfl) ?_
  refine lv_iconst (v := 3) hx hb d_X_resolve_5 (by decide) ?_
  obtain ⟨o2, ho2, hf⟩ := og_b hf
  refine kc_i (P := (fun u H => CW D cA ad n A u H)) (va_runV (C := "GridlockDesk") (As := [.int _]) (rest := []) ⟨hx, hb, hml, hown, hts⟩ (m_X_settleChosen l D cA ad n A _  _  o2 ho2) (cwV 1 hts (tb_V tw_158 tw_160 tw_7 tw_31 tw_161) rfl rfl rfl (by decide +kernel) ⟨Nat.le_of_ble_eq_true rfl, Nat.le_of_ble_eq_true rfl⟩) ⟨k_blind, kw.recv hK hW.1 (t := 0) rfl rfl rfl, k_pre hW hK⟩ rfl rfl hl.1 rfl (lv_room (Nat.le_of_ble_eq_true rfl)) d_X_resolve_6 ⟨Nat.zero_le _, Nat.zero_le _⟩) hS (fun H locs hW hS => ?_)
  refine lv_istore_n (lv' := [(1, .int _), (0, .ref _)]) hx hb d_X_resolve_9 rfl hl (by decide) rfl (fun ls hl => ?_)
  refine lv_aload_n hx hb d_X_resolve_10 rfl (lv_at hl 1 rfl) ?_
  obtain ⟨o3, ho3, hf⟩ := og_b hf
  refine kc_v (P := (fun u H => CW D cA ad n A u H)) (va_runV (C := "GridlockDesk") (As := []) (rest := []) ⟨hx, hb, hml, hown, hts⟩ (m_X_sweep l D cA ad n A _    o3 ho3) (cwV 0 hts (tb_V tw_123 tw_125 tw_1 tw_31 tw_126) rfl rfl rfl (by decide +kernel) ⟨Nat.le_of_ble_eq_true rfl, Nat.le_of_ble_eq_true rfl⟩) ⟨k_blind, kw.recv hK hW.1 (t := 0) rfl rfl rfl, k_pre hW hK⟩ rfl rfl hl.1 rfl (lv_room (Nat.le_of_ble_eq_true rfl)) d_X_resolve_11 ⟨Nat.zero_le _, Nat.zero_le _⟩) hS (fun H locs hW hS => ?_)
  refine lv_iload_n hx hb d_X_resolve_14 rfl (lv_at hl 0 rfl) ?_
  exact W.iret hx hb hr (fun t ht hWm => ⟨⟨_, _, rfl, Option.some.inj hf, by rw [ht]; exact hW, va_K.moved hWm.alike hK⟩, hS.F ht⟩) hS.2.2 d_X_resolve_15

set_option maxHeartbeats 4000000 in
set_option maxRecDepth 100000 in
theorem lp_X_tick_28_ok {p : Program} {l : Launch} {e : Env} {s : State} {m : MethodId} {args : Array Value} {below : List Frame} {meth : Method} {c : Code} (D : va_G) (cA : Nat → ClassId) (ad : Nat → Nat → Nat) (n : Nat) (A : Nat → Prop) (hx : p.tables.exec = Jvm.exec) (hb : c.code = prog_1_method_10_code) (hml : c.maxLocals = 4) (hr : meth.sig.returnType = (some .int)) (hts : ∀ w ∈ ws_X_tick, w.before args s = true) (hown : s.vm.findClass "GridlockDesk" = some m.cls) (hlocks : meth.locks = false) (hK : va_K D vCl (atys cA) s) (k : St → Int32 → Option (Int32 × St)) (out : Int32 × St)  (hk : ∀ (σ : St) (v2 : Int32) (H : Heap) (locs : List Loc) (ls : Array Slot), lv_has ls 4 [(0, .ref (ad 0 0)), (2, .int v2)] → CW D cA ad n A σ H → va_S A s.heap H locs → k σ v2 = some out → W p l e (headSpec ws_X_tick ({ frames := 6, cells := 0, slots := 0, locals := 140 })).room s m args below meth c H locs 0 0 (MQ below (va_Qi (fun r u => (r, u) = out) (fun u t => CW D cA ad n A u t.heap ∧ va_K D vCl (atys cA) t) A) args s 0 0 A) (F0 m 80 ls [])) : ∀ (fu : Nat) (σ : St) (v2 : Int32) (v3 : Int32) (H : Heap) (locs : List Loc) (ls : Array Slot), lv_has ls 4 [(0, .ref (ad 0 0)), (2, .int v2), (3, .int v3)] → CW D cA ad n A σ H → va_S A s.heap H locs → lp_X_tick_28 n k fu σ v2 v3 = some out → W p l e (headSpec ws_X_tick ({ frames := 6, cells := 0, slots := 0, locals := 140 })).room s m args below meth c H locs 0 0 (MQ below (va_Qi (fun r u => (r, u) = out) (fun u t => CW D cA ad n A u t.heap ∧ va_K D vCl (atys cA) t) A) args s 0 0 A) (F0 m 28 ls []) := by
  intro fu
  induction fu with
  | zero =>
    intro σ v2 v3 H locs ls  hl hW hS hf
    exact og_n hf
  | succ fu ih =>
    intro σ v2 v3 H locs ls  hl hW hS hf
    rw [lp_X_tick_28_s] at hf
    have ht : ∀ w ∈ TB, w.before args s = true := fun w h => hts w (List.mem_cons_of_mem _ h)
    refine lv_iload_n hx hb d_X_tick_28 rfl (lv_at hl 2 rfl) ?_
    refine lv_aload_n hx hb d_X_tick_29 rfl (lv_at hl 0 rfl) ?_
    refine va_get (D := D) (ci := 2) (C := "GridlockDesk") (T := T_X) (N := 6) hx hb ht hin_X hown hK (hW.1.one (t := 0) rfl) 0 rfl rfl 2 (by decide) (ht _ tw_95) (fun _ h9 => h9) rfl d_X_tick_30 ?_
    refine lv_icmp_ge (tgt := 80) hx hb d_X_tick_33 rfl (fun hc => ?_) (fun hc => ?_)
    · replace hf := og_t hc hf
      exact hk _ _ _ _ _  (lv_sub hl [0, 1] rfl) hW hS hf
    · replace hf := og_f hc hf
      refine lv_aload_n hx hb d_X_tick_36 rfl (lv_at hl 0 rfl) ?_
      refine lv_iload_n hx hb d_X_tick_37 rfl (lv_at hl 2 rfl) ?_
      obtain ⟨o2, ho2, hf⟩ := og_b hf
      refine kc_i (P := (fun u H => CW D cA ad n A u H)) (va_runV (C := "GridlockDesk") (As := [.int _]) (rest := []) ⟨hx, hb, hml, hown, hts⟩ (m_X_isQueued l D cA ad n A _  _  o2 ho2) (cwV 1 hts (tb_V tw_258 tw_260 tw_13 tw_31 tw_261) rfl rfl rfl (by decide +kernel) ⟨Nat.le_of_ble_eq_true rfl, Nat.le_of_ble_eq_true rfl⟩) ⟨k_blind, kw.recv hK hW.1 (t := 0) rfl rfl rfl, k_pre hW hK⟩ rfl rfl hl.1 rfl (lv_room (Nat.le_of_ble_eq_true rfl)) d_X_tick_38 ⟨Nat.zero_le _, Nat.zero_le _⟩) hS (fun H locs hW hS => ?_)
      refine lv_if_eq (tgt := 74) hx hb d_X_tick_41 rfl (fun hc => ?_) (fun hc => ?_)
      · replace hf := og_t hc hf
        refine lv_iinc (k := 2) (v := _ + 1) (lv' := [(3, .int _), (0, .ref _), (2, .int _)]) hx hb d_X_tick_74 hl rfl rfl (by decide) rfl (fun ls hl => ?_)
        refine lv_goto (tgt := 28) hx hb d_X_tick_77 rfl ?_
        exact ih _ _ _ _ _ _  (lv_sub hl [1, 2, 0] rfl) hW hS hf
      · replace hf := og_f hc hf
        refine lv_aload_n hx hb d_X_tick_44 rfl (lv_at hl 0 rfl) ?_
        refine va_get (D := D) (ci := 2) (C := "GridlockDesk") (T := T_X) (N := 6) hx hb ht hin_X hown hK (hW.1.one (t := 0) rfl) 0 rfl rfl 1 (by decide) (ht _ tw_94) (fun _ h9 => h9) rfl d_X_tick_45 ?_
        refine lv_iload_n hx hb d_X_tick_48 rfl (lv_at hl 2 rfl) ?_
        obtain ⟨hin3, hf⟩ := og_if hf
        refine va_aldq (D := D) hx hb hK (hW.1.one (t := 2) rfl) 0 3 rfl rfl hin3 d_X_tick_49 ?_
        obtain ⟨k4, hk4, hf⟩ := og_b hf
        obtain ⟨ek4, hk4⟩ := dR_spec hk4
        rw [ek4]
        refine W.eq (g2 := F0 m 50 ls [.ref (ad 8 k4)]) rfl ?_
        refine va_get (D := D) (ci := 1) (C := "GridlockDesk$Payment") (T := T_P) (N := 7) hx hb ht hin_P hown hK (hW.1.one (t := 8) hk4) 0 rfl rfl 4 (by decide) (ht _ tw_229) (fun _ h9 => h9) rfl d_X_tick_50 ?_
        refine lv_aload_n hx hb d_X_tick_53 rfl (lv_at hl 0 rfl) ?_
        refine va_get (D := D) (ci := 2) (C := "GridlockDesk") (T := T_X) (N := 6) hx hb ht hin_X hown hK (hW.1.one (t := 0) rfl) 0 rfl rfl 4 (by decide) (ht _ tw_97) (fun _ h9 => h9) rfl d_X_tick_54 ?_
        refine lv_icmp_ge (tgt := 74) hx hb d_X_tick_57 rfl (fun hc => ?_) (fun hc => ?_)
        · replace hf := og_t hc hf
          refine lv_iinc (k := 2) (v := _ + 1) (lv' := [(3, .int _), (0, .ref _), (2, .int _)]) hx hb d_X_tick_74 hl rfl rfl (by decide) rfl (fun ls hl => ?_)
          refine lv_goto (tgt := 28) hx hb d_X_tick_77 rfl ?_
          exact ih _ _ _ _ _ _  (lv_sub hl [1, 2, 0] rfl) hW hS hf
        · replace hf := og_f hc hf
          refine lv_aload_n hx hb d_X_tick_60 rfl (lv_at hl 0 rfl) ?_
          refine lv_aload_n hx hb d_X_tick_61 rfl (lv_at hl 0 rfl) ?_
          refine va_get (D := D) (ci := 2) (C := "GridlockDesk") (T := T_X) (N := 6) hx hb ht hin_X hown hK (hW.1.one (t := 0) rfl) 0 rfl rfl 1 (by decide) (ht _ tw_94) (fun _ h9 => h9) rfl d_X_tick_62 ?_
          refine lv_iload_n hx hb d_X_tick_65 rfl (lv_at hl 2 rfl) ?_
          obtain ⟨hin5, hf⟩ := og_if hf
          refine va_aldq (D := D) hx hb hK (hW.1.one (t := 2) rfl) 0 3 rfl rfl hin5 d_X_tick_66 ?_
          refine lv_iconst (v := 5) hx hb d_X_tick_67 (by decide) ?_
          obtain ⟨k6, hk6, hf⟩ := og_b hf
          obtain ⟨ek6, hk6⟩ := dR_spec hk6
          rw [ek6]
          refine W.eq (g2 := F0 m 68 ls [_, .ref (ad 8 k6), _]) rfl ?_
          obtain ⟨o7, ho7, hf⟩ := og_b hf
          refine kc_v (P := (fun u H => CW D cA ad n A u H)) (va_runV (C := "GridlockDesk") (As := [.ref _, .int _]) (rest := []) ⟨hx, hb, hml, hown, hts⟩ (m_X_end l D cA ad n A _  _ _  o7 ho7) (cwV 2 hts (tb_V tw_166 tw_168 tw_9 tw_31 tw_169) rfl rfl rfl (by decide +kernel) ⟨Nat.le_of_ble_eq_true rfl, Nat.le_of_ble_eq_true rfl⟩) ⟨k_blind, kw.recv hK hW.1 (t := 0) rfl rfl rfl, k_pre hW hK⟩ rfl rfl hl.1 rfl (lv_room (Nat.le_of_ble_eq_true rfl)) d_X_tick_68 ⟨Nat.zero_le _, Nat.zero_le _⟩) hS (fun H locs hW hS => ?_)
          refine lv_iinc (k := 1) (v := _ + 1) (lv' := [(2, .int _), (0, .ref _), (3, .int _)]) hx hb d_X_tick_71 hl rfl rfl (by decide) rfl (fun ls hl => ?_)
          refine lv_iinc (k := 2) (v := _ + 1) (lv' := [(3, .int _), (2, .int _), (0, .ref _)]) hx hb d_X_tick_74 hl rfl rfl (by decide) rfl (fun ls hl => ?_)
          refine lv_goto (tgt := 28) hx hb d_X_tick_77 rfl ?_
          exact ih _ _ _ _ _ _  (lv_sub hl [2, 1, 0] rfl) hW hS hf

set_option maxHeartbeats 4000000 in
set_option maxRecDepth 100000 in
theorem m_X_tick (l : Launch) (D : va_G) (cA : Nat → ClassId) (ad : Nat → Nat → Nat) (n : Nat) (A : Nat → Prop) (σ : St) (x1 : Int32)  (out : Int32 × St) (hf : f_X_tick n σ x1 = some out) : Met l y_X_tick ws_X_tick ({ frames := 6, cells := 0, slots := 0, locals := 140 }) (va_Pc [.ref (ad 0 0), .int x1] (fun U => CW D cA ad n A σ U.heap ∧ va_K D vCl (atys cA) U)) (va_Qi (fun r u => (r, u) = out) (fun u t => CW D cA ad n A u t.heap ∧ va_K D vCl (atys cA) t) A) 0 0 A := by
  refine Met.ofW (cc := prog_1_method_10_code) (maxL := 4) (ret := (some .int)) (by decide) rfl ?_
  intro p e s m args below meth c s₁ B hml hv
  obtain ⟨rfl, hW, hK⟩ := hv
  have hx := B.exec
  have hb := B.bytes
  have hr := B.returns
  have hts := atoms_spec (ws := ws_X_tick) B.pre
  have ht : ∀ w ∈ TB, w.before _ s = true := fun w h => hts w (List.mem_cons_of_mem _ h)
  have hown : s.vm.findClass "GridlockDesk" = some m.cls := findClass_of_methodNamed B.named
  have hlocks := B.notSynchronized
  have hS : va_S A s.heap s.heap [] := va_S.rf
  have hl := lv_entry ([.ref (ad 0 0), .int x1]) (n := 4) (Nat.le_of_ble_eq_true rfl)
  rw [lg_entry_eq]
  generalize (lg_sl ([.ref (ad 0 0), .int x1]) ++ List.replicate (4 - (lg_sl ([.ref (ad 0 0), .int x1])).length) Slot.unset).toArray = ls at hl ⊢
  have hl : lv_has ls 4 [(0, .ref (ad 0 0)), (1, .int x1)] := hl
  unfold f_X_tick at hf

  refine lv_iload_n hx hb d_X_tick_0 rfl (lv_at hl 1 rfl) ?_
  refine lv_iconst (v := 1) hx hb d_X_tick_1 (by decide) ?_
  refine lv_icmp_lt (tgt := 12) hx hb d_X_tick_2 rfl (fun hc => ?_) (fun hc => ?_)
  · replace hf := og_t hc hf
    refine lv_iconst (v := (-1)) hx hb d_X_tick_12 (by decide) ?_
    exact W.iret hx hb hr (fun t ht hWm => ⟨⟨_, _, rfl, Option.some.inj hf, by rw [ht]; exact hW, va_K.moved hWm.alike hK⟩, hS.F ht⟩) hS.2.2 d_X_tick_13
  · replace hf := og_f hc hf
    refine lv_iload_n hx hb d_X_tick_5 rfl (lv_at hl 1 rfl) ?_
    refine lv_sipush (v := 1000) hx hb d_X_tick_6 (by decide) ?_
    refine lv_icmp_le (tgt := 14) hx hb d_X_tick_9 rfl (fun hc => ?_) (fun hc => ?_)
    · replace hf := og_t hc hf
      refine lv_aload_n hx hb d_X_tick_14 rfl (lv_at hl 0 rfl) ?_
      refine lv_dup hx hb d_X_tick_15 rfl ?_
      refine va_get (D := D) (ci := 2) (C := "GridlockDesk") (T := T_X) (N := 6) hx hb ht hin_X hown hK (hW.1.one (t := 0) rfl) 0 rfl rfl 4 (by decide) (ht _ tw_97) (fun _ h9 => h9) rfl d_X_tick_16 ?_
      refine lv_iload_n hx hb d_X_tick_19 rfl (lv_at hl 1 rfl) ?_
      refine lv_iadd hx hb d_X_tick_20 ?_
      obtain ⟨σ1, eσ1, hf⟩ := og_b hf
      cases eσ1
      refine k_put  (ci := 2) (C := "GridlockDesk") (T := T_X) (N := 6) (ty := .int) (t := 0) hx hb ht hin_X ft_X ft_X_ok nm_X hown hK hW.1 hS rfl (hW.2 _ _ rfl) rfl rfl 4 (by decide) (ht _ tw_97) (fun _ h9 => h9) rfl (by decide +kernel) rfl rfl (Nat.le_of_ble_eq_true rfl) d_X_tick_21 cc_wI1 (fun H locs hW1 hS => ?_)
      have hW := CW.wI hW1 hW.2
      refine lv_iconst (v := 0) hx hb d_X_tick_24 (by decide) ?_
      refine lv_istore_n (lv' := [(2, .int _), (0, .ref _), (1, .int _)]) hx hb d_X_tick_25 rfl hl (by decide) rfl (fun ls hl => ?_)
      refine lv_iconst (v := 0) hx hb d_X_tick_26 (by decide) ?_
      refine lv_istore_n (lv' := [(3, .int _), (2, .int _), (0, .ref _), (1, .int _)]) hx hb d_X_tick_27 rfl hl (by decide) rfl (fun ls hl => ?_)
      refine lp_X_tick_28_ok D cA ad n A hx hb hml hr hts hown hlocks hK _ _  (fun σ9 y2_8 H locs ls  hl hW hS hf => ?_) _ _ _ _ _ _ _  (lv_sub hl [2, 1, 0] rfl) hW hS hf
      refine lv_aload_n hx hb d_X_tick_80 rfl (lv_at hl 0 rfl) ?_
      obtain ⟨o10, ho10, hf⟩ := og_b hf
      refine kc_v (P := (fun u H => CW D cA ad n A u H)) (va_runV (C := "GridlockDesk") (As := []) (rest := []) ⟨hx, hb, hml, hown, hts⟩ (m_X_sweep l D cA ad n A _    o10 ho10) (cwV 0 hts (tb_V tw_123 tw_125 tw_1 tw_31 tw_126) rfl rfl rfl (by decide +kernel) ⟨Nat.le_of_ble_eq_true rfl, Nat.le_of_ble_eq_true rfl⟩) ⟨k_blind, kw.recv hK hW.1 (t := 0) rfl rfl rfl, k_pre hW hK⟩ rfl rfl hl.1 rfl (lv_room (Nat.le_of_ble_eq_true rfl)) d_X_tick_81 ⟨Nat.zero_le _, Nat.zero_le _⟩) hS (fun H locs hW hS => ?_)
      refine lv_iload_n hx hb d_X_tick_84 rfl (lv_at hl 1 rfl) ?_
      exact W.iret hx hb hr (fun t ht hWm => ⟨⟨_, _, rfl, Option.some.inj hf, by rw [ht]; exact hW, va_K.moved hWm.alike hK⟩, hS.F ht⟩) hS.2.2 d_X_tick_85
    · replace hf := og_f hc hf
      refine lv_iconst (v := (-1)) hx hb d_X_tick_12 (by decide) ?_
      exact W.iret hx hb hr (fun t ht hWm => ⟨⟨_, _, rfl, Option.some.inj hf, by rw [ht]; exact hW, va_K.moved hWm.alike hK⟩, hS.F ht⟩) hS.2.2 d_X_tick_13

set_option maxHeartbeats 4000000 in
set_option maxRecDepth 100000 in
theorem lp_X_close_4_ok {p : Program} {l : Launch} {e : Env} {s : State} {m : MethodId} {args : Array Value} {below : List Frame} {meth : Method} {c : Code} (D : va_G) (cA : Nat → ClassId) (ad : Nat → Nat → Nat) (n : Nat) (A : Nat → Prop) (hx : p.tables.exec = Jvm.exec) (hb : c.code = prog_1_method_11_code) (hml : c.maxLocals = 6) (hr : meth.sig.returnType = (some .int)) (hts : ∀ w ∈ ws_X_close, w.before args s = true) (hown : s.vm.findClass "GridlockDesk" = some m.cls) (hlocks : meth.locks = false) (hK : va_K D vCl (atys cA) s) (k : St → Int32 → Option (Int32 × St)) (out : Int32 × St)  (hk : ∀ (σ : St) (v1 : Int32) (H : Heap) (locs : List Loc) (ls : Array Slot), lv_has ls 6 [(0, .ref (ad 0 0)), (1, .int v1)] → CW D cA ad n A σ H → va_S A s.heap H locs → k σ v1 = some out → W p l e (headSpec ws_X_close ({ frames := 2, cells := 0, slots := 0, locals := 45 })).room s m args below meth c H locs 0 0 (MQ below (va_Qi (fun r u => (r, u) = out) (fun u t => CW D cA ad n A u t.heap ∧ va_K D vCl (atys cA) t) A) args s 0 0 A) (F0 m 41 ls [])) : ∀ (fu : Nat) (σ : St) (v1 : Int32) (v2 : Int32) (H : Heap) (locs : List Loc) (ls : Array Slot), lv_has ls 6 [(0, .ref (ad 0 0)), (1, .int v1), (2, .int v2)] → CW D cA ad n A σ H → va_S A s.heap H locs → lp_X_close_4 n k fu σ v1 v2 = some out → W p l e (headSpec ws_X_close ({ frames := 2, cells := 0, slots := 0, locals := 45 })).room s m args below meth c H locs 0 0 (MQ below (va_Qi (fun r u => (r, u) = out) (fun u t => CW D cA ad n A u t.heap ∧ va_K D vCl (atys cA) t) A) args s 0 0 A) (F0 m 4 ls []) := by
  intro fu
  induction fu with
  | zero =>
    intro σ v1 v2 H locs ls  hl hW hS hf
    exact og_n hf
  | succ fu ih =>
    intro σ v1 v2 H locs ls  hl hW hS hf
    rw [lp_X_close_4_s] at hf
    have ht : ∀ w ∈ TB, w.before args s = true := fun w h => hts w (List.mem_cons_of_mem _ h)
    refine lv_iload_n hx hb d_X_close_4 rfl (lv_at hl 2 rfl) ?_
    refine lv_aload_n hx hb d_X_close_5 rfl (lv_at hl 0 rfl) ?_
    refine va_get (D := D) (ci := 2) (C := "GridlockDesk") (T := T_X) (N := 6) hx hb ht hin_X hown hK (hW.1.one (t := 0) rfl) 0 rfl rfl 2 (by decide) (ht _ tw_95) (fun _ h9 => h9) rfl d_X_close_6 ?_
    refine lv_icmp_ge (tgt := 41) hx hb d_X_close_9 rfl (fun hc => ?_) (fun hc => ?_)
    · replace hf := og_t hc hf
      exact hk _ _ _ _ _  (lv_sub hl [0, 1] rfl) hW hS hf
    · replace hf := og_f hc hf
      refine lv_aload_n hx hb d_X_close_12 rfl (lv_at hl 0 rfl) ?_
      refine lv_iload_n hx hb d_X_close_13 rfl (lv_at hl 2 rfl) ?_
      obtain ⟨o1, ho1, hf⟩ := og_b hf
      refine kc_i (P := (fun u H => CW D cA ad n A u H)) (va_runV (C := "GridlockDesk") (As := [.int _]) (rest := []) ⟨hx, hb, hml, hown, hts⟩ (m_X_isQueued l D cA ad n A _  _  o1 ho1) (cwV 1 hts (tb_V tw_258 tw_260 tw_13 tw_31 tw_261) rfl rfl rfl (by decide +kernel) ⟨Nat.le_of_ble_eq_true rfl, Nat.le_of_ble_eq_true rfl⟩) ⟨k_blind, kw.recv hK hW.1 (t := 0) rfl rfl rfl, k_pre hW hK⟩ rfl rfl hl.1 rfl (lv_room (Nat.le_of_ble_eq_true rfl)) d_X_close_14 ⟨Nat.zero_le _, Nat.zero_le _⟩) hS (fun H locs hW hS => ?_)
      refine lv_if_eq (tgt := 35) hx hb d_X_close_17 rfl (fun hc => ?_) (fun hc => ?_)
      · replace hf := og_t hc hf
        refine lv_iinc (k := 2) (v := _ + 1) (lv' := [(2, .int _), (0, .ref _), (1, .int _)]) hx hb d_X_close_35 hl rfl rfl (by decide) rfl (fun ls hl => ?_)
        refine lv_goto (tgt := 4) hx hb d_X_close_38 rfl ?_
        exact ih _ _ _ _ _ _  (lv_sub hl [1, 2, 0] rfl) hW hS hf
      · replace hf := og_f hc hf
        refine lv_aload_n hx hb d_X_close_20 rfl (lv_at hl 0 rfl) ?_
        refine lv_aload_n hx hb d_X_close_21 rfl (lv_at hl 0 rfl) ?_
        refine va_get (D := D) (ci := 2) (C := "GridlockDesk") (T := T_X) (N := 6) hx hb ht hin_X hown hK (hW.1.one (t := 0) rfl) 0 rfl rfl 1 (by decide) (ht _ tw_94) (fun _ h9 => h9) rfl d_X_close_22 ?_
        refine lv_iload_n hx hb d_X_close_25 rfl (lv_at hl 2 rfl) ?_
        obtain ⟨hin2, hf⟩ := og_if hf
        refine va_aldq (D := D) hx hb hK (hW.1.one (t := 2) rfl) 0 3 rfl rfl hin2 d_X_close_26 ?_
        refine lv_bipush (v := 6) hx hb d_X_close_27 (by decide) ?_
        obtain ⟨k3, hk3, hf⟩ := og_b hf
        obtain ⟨ek3, hk3⟩ := dR_spec hk3
        rw [ek3]
        refine W.eq (g2 := F0 m 29 ls [_, .ref (ad 8 k3), _]) rfl ?_
        obtain ⟨o4, ho4, hf⟩ := og_b hf
        refine kc_v (P := (fun u H => CW D cA ad n A u H)) (va_runV (C := "GridlockDesk") (As := [.ref _, .int _]) (rest := []) ⟨hx, hb, hml, hown, hts⟩ (m_X_end l D cA ad n A _  _ _  o4 ho4) (cwV 2 hts (tb_V tw_166 tw_168 tw_9 tw_31 tw_169) rfl rfl rfl (by decide +kernel) ⟨Nat.le_of_ble_eq_true rfl, Nat.le_of_ble_eq_true rfl⟩) ⟨k_blind, kw.recv hK hW.1 (t := 0) rfl rfl rfl, k_pre hW hK⟩ rfl rfl hl.1 rfl (lv_room (Nat.le_of_ble_eq_true rfl)) d_X_close_29 ⟨Nat.zero_le _, Nat.zero_le _⟩) hS (fun H locs hW hS => ?_)
        refine lv_iinc (k := 1) (v := _ + 1) (lv' := [(1, .int _), (0, .ref _), (2, .int _)]) hx hb d_X_close_32 hl rfl rfl (by decide) rfl (fun ls hl => ?_)
        refine lv_iinc (k := 2) (v := _ + 1) (lv' := [(2, .int _), (1, .int _), (0, .ref _)]) hx hb d_X_close_35 hl rfl rfl (by decide) rfl (fun ls hl => ?_)
        refine lv_goto (tgt := 4) hx hb d_X_close_38 rfl ?_
        exact ih _ _ _ _ _ _  (lv_sub hl [2, 1, 0] rfl) hW hS hf

set_option maxHeartbeats 4000000 in
set_option maxRecDepth 100000 in
theorem lp_X_close_52_ok {p : Program} {l : Launch} {e : Env} {s : State} {m : MethodId} {args : Array Value} {below : List Frame} {meth : Method} {c : Code} (D : va_G) (cA : Nat → ClassId) (ad : Nat → Nat → Nat) (n : Nat) (A : Nat → Prop) (hx : p.tables.exec = Jvm.exec) (hb : c.code = prog_1_method_11_code) (hml : c.maxLocals = 6) (hr : meth.sig.returnType = (some .int)) (hts : ∀ w ∈ ws_X_close, w.before args s = true) (hown : s.vm.findClass "GridlockDesk" = some m.cls) (hlocks : meth.locks = false) (hK : va_K D vCl (atys cA) s) (k : St → Option (Int32 × St)) (out : Int32 × St) (v1 : Int32) (v3 : Int32) (hk : ∀ (σ : St)  (H : Heap) (locs : List Loc) (ls : Array Slot), lv_has ls 6 [(1, .int v1)] → CW D cA ad n A σ H → va_S A s.heap H locs → k σ  = some out → W p l e (headSpec ws_X_close ({ frames := 2, cells := 0, slots := 0, locals := 45 })).room s m args below meth c H locs 0 0 (MQ below (va_Qi (fun r u => (r, u) = out) (fun u t => CW D cA ad n A u t.heap ∧ va_K D vCl (atys cA) t) A) args s 0 0 A) (F0 m 79 ls [])) : ∀ (fu : Nat) (σ : St) (v4 : Int32) (H : Heap) (locs : List Loc) (ls : Array Slot), lv_has ls 6 [(1, .int v1), (2, .ref (ad 1 0)), (3, .int v3), (4, .int v4)] → CW D cA ad n A σ H → va_S A s.heap H locs → lp_X_close_52 n k fu σ v1 v3 v4 = some out → W p l e (headSpec ws_X_close ({ frames := 2, cells := 0, slots := 0, locals := 45 })).room s m args below meth c H locs 0 0 (MQ below (va_Qi (fun r u => (r, u) = out) (fun u t => CW D cA ad n A u t.heap ∧ va_K D vCl (atys cA) t) A) args s 0 0 A) (F0 m 52 ls []) := by
  intro fu
  induction fu with
  | zero =>
    intro σ v4 H locs ls  hl hW hS hf
    exact og_n hf
  | succ fu ih =>
    intro σ v4 H locs ls  hl hW hS hf
    rw [lp_X_close_52_s] at hf
    have ht : ∀ w ∈ TB, w.before args s = true := fun w h => hts w (List.mem_cons_of_mem _ h)
    refine lv_iload hx hb d_X_close_52 (lv_at hl 3 rfl) ?_
    refine lv_iload_n hx hb d_X_close_54 rfl (lv_at hl 2 rfl) ?_
    refine lv_icmp_ge (tgt := 79) hx hb d_X_close_55 rfl (fun hc => ?_) (fun hc => ?_)
    · replace hf := og_t hc hf
      exact hk _  _ _ _  (lv_sub hl [0] rfl) hW hS hf
    · replace hf := og_f hc hf
      refine lv_aload_n hx hb d_X_close_58 rfl (lv_at hl 1 rfl) ?_
      refine lv_iload hx hb d_X_close_59 (lv_at hl 3 rfl) ?_
      obtain ⟨hin7, hf⟩ := og_if hf
      refine va_aldq (D := D) hx hb hK (hW.1.one (t := 1) rfl) 0 2 rfl rfl hin7 d_X_close_61 ?_
      refine W.eq (g2 := F0 m 62 ls (.ref (ad 4 _) :: [])) rfl ?_
      refine lv_astore (lv' := [(5, .ref _), (1, .int _), (2, .ref _), (3, .int _), (4, .int _)]) hx hb d_X_close_62 hl (by decide) rfl (fun ls hl => ?_)
      refine lv_aload hx hb d_X_close_64 (lv_at hl 0 rfl) ?_
      refine va_get (D := D) (ci := 0) (C := "GridlockDesk$Bank") (T := T_B) (N := 7) hx hb ht hin_B hown hK (hW.1.one (t := 4) (vin_lt hin7)) 0 rfl rfl 4 (by decide) (ht _ tw_71) (fun _ h9 => h9) rfl d_X_close_66 ?_
      refine lv_lconst (v := 0) hx hb d_X_close_69 (by decide) ?_
      obtain ⟨hn8, hf⟩ := og_if hf
      obtain ⟨σ9, eσ9, hf⟩ := og_b hf
      cases eσ9
      refine k_fillJ (t := 6) hx hb hml hown hts tw_286 hK hW.1 hS (vin_lt hin7) (hW.2 _ _ (vin_lt hin7)) rfl hn8 ⟨Nat.le_of_ble_eq_true rfl, Nat.le_of_ble_eq_true rfl⟩ hl.1 (Nat.le_of_ble_eq_true rfl) ⟨Nat.zero_le _, Nat.zero_le _⟩ d_X_close_70 cc_fL5 (fun H locs hW1 hS => ?_)
      have hW := CW.fL hW1 hW.2
      refine lv_iinc (k := 4) (v := _ + 1) (lv' := [(4, .int _), (5, .ref _), (1, .int _), (2, .ref _), (3, .int _)]) hx hb d_X_close_73 hl rfl rfl (by decide) rfl (fun ls hl => ?_)
      refine lv_goto (tgt := 52) hx hb d_X_close_76 rfl ?_
      exact ih _ _ _ _ _  (lv_sub hl [2, 3, 4, 0] rfl) hW hS hf

set_option maxHeartbeats 4000000 in
set_option maxRecDepth 100000 in
theorem m_X_close (l : Launch) (D : va_G) (cA : Nat → ClassId) (ad : Nat → Nat → Nat) (n : Nat) (A : Nat → Prop) (σ : St)   (out : Int32 × St) (hf : f_X_close n σ  = some out) : Met l y_X_close ws_X_close ({ frames := 2, cells := 0, slots := 0, locals := 45 }) (va_Pc [.ref (ad 0 0)] (fun U => CW D cA ad n A σ U.heap ∧ va_K D vCl (atys cA) U)) (va_Qi (fun r u => (r, u) = out) (fun u t => CW D cA ad n A u t.heap ∧ va_K D vCl (atys cA) t) A) 0 0 A := by
  refine Met.ofW (cc := prog_1_method_11_code) (maxL := 6) (ret := (some .int)) (by decide) rfl ?_
  intro p e s m args below meth c s₁ B hml hv
  obtain ⟨rfl, hW, hK⟩ := hv
  have hx := B.exec
  have hb := B.bytes
  have hr := B.returns
  have hts := atoms_spec (ws := ws_X_close) B.pre
  have ht : ∀ w ∈ TB, w.before _ s = true := fun w h => hts w (List.mem_cons_of_mem _ h)
  have hown : s.vm.findClass "GridlockDesk" = some m.cls := findClass_of_methodNamed B.named
  have hlocks := B.notSynchronized
  have hS : va_S A s.heap s.heap [] := va_S.rf
  have hl := lv_entry ([.ref (ad 0 0)]) (n := 6) (Nat.le_of_ble_eq_true rfl)
  rw [lg_entry_eq]
  generalize (lg_sl ([.ref (ad 0 0)]) ++ List.replicate (6 - (lg_sl ([.ref (ad 0 0)])).length) Slot.unset).toArray = ls at hl ⊢
  have hl : lv_has ls 6 [(0, .ref (ad 0 0))] := hl
  unfold f_X_close at hf

  refine lv_iconst (v := 0) hx hb d_X_close_0 (by decide) ?_
  refine lv_istore_n (lv' := [(1, .int _), (0, .ref _)]) hx hb d_X_close_1 rfl hl (by decide) rfl (fun ls hl => ?_)
  refine lv_iconst (v := 0) hx hb d_X_close_2 (by decide) ?_
  refine lv_istore_n (lv' := [(2, .int _), (1, .int _), (0, .ref _)]) hx hb d_X_close_3 rfl hl (by decide) rfl (fun ls hl => ?_)
  refine lp_X_close_4_ok D cA ad n A hx hb hml hr hts hown hlocks hK _ _  (fun σ6 y1_5 H locs ls  hl hW hS hf => ?_) _ _ _ _ _ _ _  (lv_sub hl [2, 1, 0] rfl) hW hS hf
  refine lv_aload_n hx hb d_X_close_41 rfl (lv_at hl 0 rfl) ?_
  refine va_get (D := D) (ci := 2) (C := "GridlockDesk") (T := T_X) (N := 6) hx hb ht hin_X hown hK (hW.1.one (t := 0) rfl) 0 rfl rfl 0 (by decide) (ht _ tw_93) (fun _ h9 => h9) rfl d_X_close_42 ?_
  refine lv_astore_n (lv' := [(2, .ref _), (0, .ref _), (1, .int _)]) hx hb d_X_close_45 rfl hl (by decide) rfl (fun ls hl => ?_)
  refine lv_aload_n hx hb d_X_close_46 rfl (lv_at hl 0 rfl) ?_
  refine va_alen (D := D) (v := nI n) hx hb hK (hW.1.one (t := 1) rfl) 0 2 rfl rfl rfl d_X_close_47 ?_
  refine lv_istore_n (lv' := [(3, .int _), (2, .ref _), (0, .ref _), (1, .int _)]) hx hb d_X_close_48 rfl hl (by decide) rfl (fun ls hl => ?_)
  refine lv_iconst (v := 0) hx hb d_X_close_49 (by decide) ?_
  refine lv_istore (lv' := [(4, .int _), (3, .int _), (2, .ref _), (0, .ref _), (1, .int _)]) hx hb d_X_close_50 hl (by decide) rfl (fun ls hl => ?_)
  refine lp_X_close_52_ok D cA ad n A hx hb hml hr hts hown hlocks hK _ _ _ _ (fun σ10 H locs ls  hl hW hS hf => ?_) _ _ _ _ _ _  (lv_sub hl [4, 2, 1, 0] rfl) hW hS hf
  refine lv_iload_n hx hb d_X_close_79 rfl (lv_at hl 0 rfl) ?_
  exact W.iret hx hb hr (fun t ht hWm => ⟨⟨_, _, rfl, Option.some.inj hf, by rw [ht]; exact hW, va_K.moved hWm.alike hK⟩, hS.F ht⟩) hS.2.2 d_X_close_80

set_option maxHeartbeats 4000000 in
set_option maxRecDepth 100000 in
theorem m_X_balance (l : Launch) (D : va_G) (cA : Nat → ClassId) (ad : Nat → Nat → Nat) (n : Nat) (A : Nat → Prop) (σ : St) (x1 : Int32)  (out : Int64 × St) (hf : f_X_balance n σ x1 = some out) : Met l y_X_balance ws_X_balance ({ frames := 1, cells := 0, slots := 0, locals := 21 }) (va_Pc [.ref (ad 0 0), .int x1] (fun U => CW D cA ad n A σ U.heap ∧ va_K D vCl (atys cA) U)) (va_Ql (fun r u => (r, u) = out) (fun u t => CW D cA ad n A u t.heap ∧ va_K D vCl (atys cA) t) A) 0 0 A := by
  refine Met.ofW (cc := prog_1_method_12_code) (maxL := 2) (ret := (some .long)) (by decide) rfl ?_
  intro p e s m args below meth c s₁ B hml hv
  obtain ⟨rfl, hW, hK⟩ := hv
  have hx := B.exec
  have hb := B.bytes
  have hr := B.returns
  have hts := atoms_spec (ws := ws_X_balance) B.pre
  have ht : ∀ w ∈ TB, w.before _ s = true := fun w h => hts w (List.mem_cons_of_mem _ h)
  have hown : s.vm.findClass "GridlockDesk" = some m.cls := findClass_of_methodNamed B.named
  have hlocks := B.notSynchronized
  have hS : va_S A s.heap s.heap [] := va_S.rf
  have hl := lv_entry ([.ref (ad 0 0), .int x1]) (n := 2) (Nat.le_of_ble_eq_true rfl)
  rw [lg_entry_eq]
  generalize (lg_sl ([.ref (ad 0 0), .int x1]) ++ List.replicate (2 - (lg_sl ([.ref (ad 0 0), .int x1])).length) Slot.unset).toArray = ls at hl ⊢
  have hl : lv_has ls 2 [(0, .ref (ad 0 0)), (1, .int x1)] := hl
  unfold f_X_balance at hf

  refine lv_aload_n hx hb d_X_balance_0 rfl (lv_at hl 0 rfl) ?_
  refine lv_iload_n hx hb d_X_balance_1 rfl (lv_at hl 1 rfl) ?_
  obtain ⟨o1, ho1, hf⟩ := og_b hf
  refine kc_i (P := (fun u H => CW D cA ad n A u H)) (va_runV (C := "GridlockDesk") (As := [.int _]) (rest := []) ⟨hx, hb, hml, hown, hts⟩ (m_X_isBank l D cA ad n A _  _  o1 ho1) (cwV 1 hts (tb_V tw_117 tw_119 tw_0 tw_31 tw_120) rfl rfl rfl (by decide +kernel) ⟨Nat.le_of_ble_eq_true rfl, Nat.le_of_ble_eq_true rfl⟩) ⟨k_blind, kw.recv hK hW.1 (t := 0) rfl rfl rfl, k_pre hW hK⟩ rfl rfl hl.1 rfl (lv_room (Nat.le_of_ble_eq_true rfl)) d_X_balance_2 ⟨Nat.zero_le _, Nat.zero_le _⟩) hS (fun H locs hW hS => ?_)
  refine lv_if_eq (tgt := 20) hx hb d_X_balance_5 rfl (fun hc => ?_) (fun hc => ?_)
  · replace hf := og_t hc hf
    refine lv_lconst (v := 0) hx hb d_X_balance_20 (by decide) ?_
    exact W.lret hx hb hr (fun t ht hWm => ⟨⟨_, _, rfl, Option.some.inj hf, by rw [ht]; exact hW, va_K.moved hWm.alike hK⟩, hS.F ht⟩) hS.2.2 d_X_balance_21
  · replace hf := og_f hc hf
    refine lv_aload_n hx hb d_X_balance_8 rfl (lv_at hl 0 rfl) ?_
    refine va_get (D := D) (ci := 2) (C := "GridlockDesk") (T := T_X) (N := 6) hx hb ht hin_X hown hK (hW.1.one (t := 0) rfl) 0 rfl rfl 0 (by decide) (ht _ tw_93) (fun _ h9 => h9) rfl d_X_balance_9 ?_
    refine lv_iload_n hx hb d_X_balance_12 rfl (lv_at hl 1 rfl) ?_
    obtain ⟨hin2, hf⟩ := og_if hf
    refine va_aldq (D := D) hx hb hK (hW.1.one (t := 1) rfl) 0 2 rfl rfl hin2 d_X_balance_13 ?_
    refine W.eq (g2 := F0 m 14 ls (.ref (ad 4 _) :: [])) rfl ?_
    refine va_get (D := D) (ci := 0) (C := "GridlockDesk$Bank") (T := T_B) (N := 7) hx hb ht hin_B hown hK (hW.1.one (t := 4) (vin_lt hin2)) 0 rfl rfl 0 (by decide) (ht _ tw_64) (fun _ h9 => h9) rfl d_X_balance_14 ?_
    refine lv_goto (tgt := 21) hx hb d_X_balance_17 rfl ?_
    exact W.lret hx hb hr (fun t ht hWm => ⟨⟨_, _, rfl, Option.some.inj hf, by rw [ht]; exact hW, va_K.moved hWm.alike hK⟩, hS.F ht⟩) hS.2.2 d_X_balance_21

set_option maxHeartbeats 4000000 in
set_option maxRecDepth 100000 in
theorem m_X_position (l : Launch) (D : va_G) (cA : Nat → ClassId) (ad : Nat → Nat → Nat) (n : Nat) (A : Nat → Prop) (σ : St) (x1 : Int32) (x2 : Int32)  (out : Int64 × St) (hf : f_X_position n σ x1 x2 = some out) : Met l y_X_position ws_X_position ({ frames := 2, cells := 0, slots := 0, locals := 43 }) (va_Pc [.ref (ad 0 0), .int x1, .int x2] (fun U => CW D cA ad n A σ U.heap ∧ va_K D vCl (atys cA) U)) (va_Ql (fun r u => (r, u) = out) (fun u t => CW D cA ad n A u t.heap ∧ va_K D vCl (atys cA) t) A) 0 0 A := by
  refine Met.ofW (cc := prog_1_method_13_code) (maxL := 3) (ret := (some .long)) (by decide) rfl ?_
  intro p e s m args below meth c s₁ B hml hv
  obtain ⟨rfl, hW, hK⟩ := hv
  have hx := B.exec
  have hb := B.bytes
  have hr := B.returns
  have hts := atoms_spec (ws := ws_X_position) B.pre
  have ht : ∀ w ∈ TB, w.before _ s = true := fun w h => hts w (List.mem_cons_of_mem _ h)
  have hown : s.vm.findClass "GridlockDesk" = some m.cls := findClass_of_methodNamed B.named
  have hlocks := B.notSynchronized
  have hS : va_S A s.heap s.heap [] := va_S.rf
  have hl := lv_entry ([.ref (ad 0 0), .int x1, .int x2]) (n := 3) (Nat.le_of_ble_eq_true rfl)
  rw [lg_entry_eq]
  generalize (lg_sl ([.ref (ad 0 0), .int x1, .int x2]) ++ List.replicate (3 - (lg_sl ([.ref (ad 0 0), .int x1, .int x2])).length) Slot.unset).toArray = ls at hl ⊢
  have hl : lv_has ls 3 [(0, .ref (ad 0 0)), (1, .int x1), (2, .int x2)] := hl
  unfold f_X_position at hf

  refine lv_aload_n hx hb d_X_position_0 rfl (lv_at hl 0 rfl) ?_
  refine lv_iload_n hx hb d_X_position_1 rfl (lv_at hl 1 rfl) ?_
  refine lv_iload_n hx hb d_X_position_2 rfl (lv_at hl 2 rfl) ?_
  obtain ⟨o1, ho1, hf⟩ := og_b hf
  refine kc_i (P := (fun u H => CW D cA ad n A u H)) (va_runV (C := "GridlockDesk") (As := [.int _, .int _]) (rest := []) ⟨hx, hb, hml, hown, hts⟩ (m_X_areTwoBanks l D cA ad n A _  _ _  o1 ho1) (cwV 2 hts (tb_V tw_191 tw_193 tw_11 tw_31 tw_194) rfl rfl rfl (by decide +kernel) ⟨Nat.le_of_ble_eq_true rfl, Nat.le_of_ble_eq_true rfl⟩) ⟨k_blind, kw.recv hK hW.1 (t := 0) rfl rfl rfl, k_pre hW hK⟩ rfl rfl hl.1 rfl (lv_room (Nat.le_of_ble_eq_true rfl)) d_X_position_3 ⟨Nat.zero_le _, Nat.zero_le _⟩) hS (fun H locs hW hS => ?_)
  refine lv_if_eq (tgt := 18) hx hb d_X_position_6 rfl (fun hc => ?_) (fun hc => ?_)
  · replace hf := og_t hc hf
    refine lv_lconst (v := 0) hx hb d_X_position_18 (by decide) ?_
    exact W.lret hx hb hr (fun t ht hWm => ⟨⟨_, _, rfl, Option.some.inj hf, by rw [ht]; exact hW, va_K.moved hWm.alike hK⟩, hS.F ht⟩) hS.2.2 d_X_position_19
  · replace hf := og_f hc hf
    refine lv_aload_n hx hb d_X_position_9 rfl (lv_at hl 0 rfl) ?_
    refine lv_iload_n hx hb d_X_position_10 rfl (lv_at hl 1 rfl) ?_
    refine lv_iload_n hx hb d_X_position_11 rfl (lv_at hl 2 rfl) ?_
    obtain ⟨o2, ho2, hf⟩ := og_b hf
    refine kc_l (P := (fun u H => CW D cA ad n A u H)) (va_runV (C := "GridlockDesk") (As := [.int _, .int _]) (rest := []) ⟨hx, hb, hml, hown, hts⟩ (m_X_positionOf l D cA ad n A _  _ _  o2 ho2) (cwV 2 hts (tb_V tw_154 tw_156 tw_6 tw_31 tw_157) rfl rfl rfl (by decide +kernel) ⟨Nat.le_of_ble_eq_true rfl, Nat.le_of_ble_eq_true rfl⟩) ⟨k_blind, kw.recv hK hW.1 (t := 0) rfl rfl rfl, k_pre hW hK⟩ rfl rfl hl.1 rfl (lv_room (Nat.le_of_ble_eq_true rfl)) d_X_position_12 ⟨Nat.zero_le _, Nat.zero_le _⟩) hS (fun H locs hW hS => ?_)
    refine lv_goto (tgt := 19) hx hb d_X_position_15 rfl ?_
    exact W.lret hx hb hr (fun t ht hWm => ⟨⟨_, _, rfl, Option.some.inj hf, by rw [ht]; exact hW, va_K.moved hWm.alike hK⟩, hS.F ht⟩) hS.2.2 d_X_position_19

set_option maxHeartbeats 4000000 in
set_option maxRecDepth 100000 in
theorem m_X_waiting (l : Launch) (D : va_G) (cA : Nat → ClassId) (ad : Nat → Nat → Nat) (n : Nat) (A : Nat → Prop) (σ : St) (x1 : Int32)  (out : Int32 × St) (hf : f_X_waiting n σ x1 = some out) : Met l y_X_waiting ws_X_waiting ({ frames := 1, cells := 0, slots := 0, locals := 21 }) (va_Pc [.ref (ad 0 0), .int x1] (fun U => CW D cA ad n A σ U.heap ∧ va_K D vCl (atys cA) U)) (va_Qi (fun r u => (r, u) = out) (fun u t => CW D cA ad n A u t.heap ∧ va_K D vCl (atys cA) t) A) 0 0 A := by
  refine Met.ofW (cc := prog_1_method_14_code) (maxL := 2) (ret := (some .int)) (by decide) rfl ?_
  intro p e s m args below meth c s₁ B hml hv
  obtain ⟨rfl, hW, hK⟩ := hv
  have hx := B.exec
  have hb := B.bytes
  have hr := B.returns
  have hts := atoms_spec (ws := ws_X_waiting) B.pre
  have ht : ∀ w ∈ TB, w.before _ s = true := fun w h => hts w (List.mem_cons_of_mem _ h)
  have hown : s.vm.findClass "GridlockDesk" = some m.cls := findClass_of_methodNamed B.named
  have hlocks := B.notSynchronized
  have hS : va_S A s.heap s.heap [] := va_S.rf
  have hl := lv_entry ([.ref (ad 0 0), .int x1]) (n := 2) (Nat.le_of_ble_eq_true rfl)
  rw [lg_entry_eq]
  generalize (lg_sl ([.ref (ad 0 0), .int x1]) ++ List.replicate (2 - (lg_sl ([.ref (ad 0 0), .int x1])).length) Slot.unset).toArray = ls at hl ⊢
  have hl : lv_has ls 2 [(0, .ref (ad 0 0)), (1, .int x1)] := hl
  unfold f_X_waiting at hf

  refine lv_aload_n hx hb d_X_waiting_0 rfl (lv_at hl 0 rfl) ?_
  refine lv_iload_n hx hb d_X_waiting_1 rfl (lv_at hl 1 rfl) ?_
  obtain ⟨o1, ho1, hf⟩ := og_b hf
  refine kc_i (P := (fun u H => CW D cA ad n A u H)) (va_runV (C := "GridlockDesk") (As := [.int _]) (rest := []) ⟨hx, hb, hml, hown, hts⟩ (m_X_isBank l D cA ad n A _  _  o1 ho1) (cwV 1 hts (tb_V tw_117 tw_119 tw_0 tw_31 tw_120) rfl rfl rfl (by decide +kernel) ⟨Nat.le_of_ble_eq_true rfl, Nat.le_of_ble_eq_true rfl⟩) ⟨k_blind, kw.recv hK hW.1 (t := 0) rfl rfl rfl, k_pre hW hK⟩ rfl rfl hl.1 rfl (lv_room (Nat.le_of_ble_eq_true rfl)) d_X_waiting_2 ⟨Nat.zero_le _, Nat.zero_le _⟩) hS (fun H locs hW hS => ?_)
  refine lv_if_eq (tgt := 20) hx hb d_X_waiting_5 rfl (fun hc => ?_) (fun hc => ?_)
  · replace hf := og_t hc hf
    refine lv_iconst (v := (-1)) hx hb d_X_waiting_20 (by decide) ?_
    exact W.iret hx hb hr (fun t ht hWm => ⟨⟨_, _, rfl, Option.some.inj hf, by rw [ht]; exact hW, va_K.moved hWm.alike hK⟩, hS.F ht⟩) hS.2.2 d_X_waiting_21
  · replace hf := og_f hc hf
    refine lv_aload_n hx hb d_X_waiting_8 rfl (lv_at hl 0 rfl) ?_
    refine va_get (D := D) (ci := 2) (C := "GridlockDesk") (T := T_X) (N := 6) hx hb ht hin_X hown hK (hW.1.one (t := 0) rfl) 0 rfl rfl 0 (by decide) (ht _ tw_93) (fun _ h9 => h9) rfl d_X_waiting_9 ?_
    refine lv_iload_n hx hb d_X_waiting_12 rfl (lv_at hl 1 rfl) ?_
    obtain ⟨hin2, hf⟩ := og_if hf
    refine va_aldq (D := D) hx hb hK (hW.1.one (t := 1) rfl) 0 2 rfl rfl hin2 d_X_waiting_13 ?_
    refine W.eq (g2 := F0 m 14 ls (.ref (ad 4 _) :: [])) rfl ?_
    refine va_get (D := D) (ci := 0) (C := "GridlockDesk$Bank") (T := T_B) (N := 7) hx hb ht hin_B hown hK (hW.1.one (t := 4) (vin_lt hin2)) 0 rfl rfl 6 (by decide) (ht _ tw_75) (fun _ h9 => h9) rfl d_X_waiting_14 ?_
    refine lv_goto (tgt := 21) hx hb d_X_waiting_17 rfl ?_
    exact W.iret hx hb hr (fun t ht hWm => ⟨⟨_, _, rfl, Option.some.inj hf, by rw [ht]; exact hW, va_K.moved hWm.alike hK⟩, hS.F ht⟩) hS.2.2 d_X_waiting_21

set_option maxHeartbeats 4000000 in
set_option maxRecDepth 100000 in
theorem m_X_queued (l : Launch) (D : va_G) (cA : Nat → ClassId) (ad : Nat → Nat → Nat) (n : Nat) (A : Nat → Prop) (σ : St) (x1 : Int32) (x2 : Int32)  (out : Int32 × St) (hf : f_X_queued n σ x1 x2 = some out) : Met l y_X_queued ws_X_queued ({ frames := 1, cells := 0, slots := 0, locals := 21 }) (va_Pc [.ref (ad 0 0), .int x1, .int x2] (fun U => CW D cA ad n A σ U.heap ∧ va_K D vCl (atys cA) U)) (va_Qi (fun r u => (r, u) = out) (fun u t => CW D cA ad n A u t.heap ∧ va_K D vCl (atys cA) t) A) 0 0 A := by
  refine Met.ofW (cc := prog_1_method_15_code) (maxL := 3) (ret := (some .int)) (by decide) rfl ?_
  intro p e s m args below meth c s₁ B hml hv
  obtain ⟨rfl, hW, hK⟩ := hv
  have hx := B.exec
  have hb := B.bytes
  have hr := B.returns
  have hts := atoms_spec (ws := ws_X_queued) B.pre
  have ht : ∀ w ∈ TB, w.before _ s = true := fun w h => hts w (List.mem_cons_of_mem _ h)
  have hown : s.vm.findClass "GridlockDesk" = some m.cls := findClass_of_methodNamed B.named
  have hlocks := B.notSynchronized
  have hS : va_S A s.heap s.heap [] := va_S.rf
  have hl := lv_entry ([.ref (ad 0 0), .int x1, .int x2]) (n := 3) (Nat.le_of_ble_eq_true rfl)
  rw [lg_entry_eq]
  generalize (lg_sl ([.ref (ad 0 0), .int x1, .int x2]) ++ List.replicate (3 - (lg_sl ([.ref (ad 0 0), .int x1, .int x2])).length) Slot.unset).toArray = ls at hl ⊢
  have hl : lv_has ls 3 [(0, .ref (ad 0 0)), (1, .int x1), (2, .int x2)] := hl
  unfold f_X_queued at hf

  refine lv_aload_n hx hb d_X_queued_0 rfl (lv_at hl 0 rfl) ?_
  refine lv_iload_n hx hb d_X_queued_1 rfl (lv_at hl 1 rfl) ?_
  obtain ⟨o1, ho1, hf⟩ := og_b hf
  refine kc_i (P := (fun u H => CW D cA ad n A u H)) (va_runV (C := "GridlockDesk") (As := [.int _]) (rest := []) ⟨hx, hb, hml, hown, hts⟩ (m_X_isBank l D cA ad n A _  _  o1 ho1) (cwV 1 hts (tb_V tw_117 tw_119 tw_0 tw_31 tw_120) rfl rfl rfl (by decide +kernel) ⟨Nat.le_of_ble_eq_true rfl, Nat.le_of_ble_eq_true rfl⟩) ⟨k_blind, kw.recv hK hW.1 (t := 0) rfl rfl rfl, k_pre hW hK⟩ rfl rfl hl.1 rfl (lv_room (Nat.le_of_ble_eq_true rfl)) d_X_queued_2 ⟨Nat.zero_le _, Nat.zero_le _⟩) hS (fun H locs hW hS => ?_)
  refine lv_if_eq (tgt := 25) hx hb d_X_queued_5 rfl (fun hc => ?_) (fun hc => ?_)
  · replace hf := og_t hc hf
    refine lv_iconst (v := (-1)) hx hb d_X_queued_25 (by decide) ?_
    exact W.iret hx hb hr (fun t ht hWm => ⟨⟨_, _, rfl, Option.some.inj hf, by rw [ht]; exact hW, va_K.moved hWm.alike hK⟩, hS.F ht⟩) hS.2.2 d_X_queued_26
  · replace hf := og_f hc hf
    refine lv_iload_n hx hb d_X_queued_8 rfl (lv_at hl 2 rfl) ?_
    refine lv_if_lt (tgt := 25) hx hb d_X_queued_9 rfl (fun hc => ?_) (fun hc => ?_)
    · replace hf := og_t hc hf
      refine lv_iconst (v := (-1)) hx hb d_X_queued_25 (by decide) ?_
      exact W.iret hx hb hr (fun t ht hWm => ⟨⟨_, _, rfl, Option.some.inj hf, by rw [ht]; exact hW, va_K.moved hWm.alike hK⟩, hS.F ht⟩) hS.2.2 d_X_queued_26
    · replace hf := og_f hc hf
      refine lv_iload_n hx hb d_X_queued_12 rfl (lv_at hl 2 rfl) ?_
      refine lv_aload_n hx hb d_X_queued_13 rfl (lv_at hl 0 rfl) ?_
      refine va_get (D := D) (ci := 2) (C := "GridlockDesk") (T := T_X) (N := 6) hx hb ht hin_X hown hK (hW.1.one (t := 0) rfl) 0 rfl rfl 0 (by decide) (ht _ tw_93) (fun _ h9 => h9) rfl d_X_queued_14 ?_
      refine lv_iload_n hx hb d_X_queued_17 rfl (lv_at hl 1 rfl) ?_
      obtain ⟨hin2, hf⟩ := og_if hf
      refine va_aldq (D := D) hx hb hK (hW.1.one (t := 1) rfl) 0 2 rfl rfl hin2 d_X_queued_18 ?_
      refine W.eq (g2 := F0 m 19 ls (.ref (ad 4 _) :: [_])) rfl ?_
      refine va_get (D := D) (ci := 0) (C := "GridlockDesk$Bank") (T := T_B) (N := 7) hx hb ht hin_B hown hK (hW.1.one (t := 4) (vin_lt hin2)) 0 rfl rfl 6 (by decide) (ht _ tw_75) (fun _ h9 => h9) rfl d_X_queued_19 ?_
      refine lv_icmp_lt (tgt := 27) hx hb d_X_queued_22 rfl (fun hc => ?_) (fun hc => ?_)
      · replace hf := og_t hc hf
        refine lv_aload_n hx hb d_X_queued_27 rfl (lv_at hl 0 rfl) ?_
        refine va_get (D := D) (ci := 2) (C := "GridlockDesk") (T := T_X) (N := 6) hx hb ht hin_X hown hK (hW.1.one (t := 0) rfl) 0 rfl rfl 0 (by decide) (ht _ tw_93) (fun _ h9 => h9) rfl d_X_queued_28 ?_
        refine lv_iload_n hx hb d_X_queued_31 rfl (lv_at hl 1 rfl) ?_
        obtain ⟨hin3, hf⟩ := og_if hf
        refine va_aldq (D := D) hx hb hK (hW.1.one (t := 1) rfl) 0 2 rfl rfl hin3 d_X_queued_32 ?_
        refine W.eq (g2 := F0 m 33 ls (.ref (ad 4 _) :: [])) rfl ?_
        refine va_get (D := D) (ci := 0) (C := "GridlockDesk$Bank") (T := T_B) (N := 7) hx hb ht hin_B hown hK (hW.1.one (t := 4) (vin_lt hin3)) 0 rfl rfl 5 (by decide) (ht _ tw_73) (fun _ h9 => h9) rfl d_X_queued_33 ?_
        refine lv_iload_n hx hb d_X_queued_36 rfl (lv_at hl 2 rfl) ?_
        obtain ⟨hin4, hf⟩ := og_if hf
        refine va_aldq (D := D) hx hb hK (hW.1.one (t := 7) (vin_lt hin3)) 0 3 rfl rfl hin4 d_X_queued_37 ?_
        obtain ⟨k5, hk5, hf⟩ := og_b hf
        obtain ⟨ek5, hk5⟩ := dR_spec hk5
        rw [ek5]
        refine W.eq (g2 := F0 m 38 ls [.ref (ad 8 k5)]) rfl ?_
        refine va_get (D := D) (ci := 1) (C := "GridlockDesk$Payment") (T := T_P) (N := 7) hx hb ht hin_P hown hK (hW.1.one (t := 8) hk5) 0 rfl rfl 0 (by decide) (ht _ tw_219) (fun _ h9 => h9) rfl d_X_queued_38 ?_
        exact W.iret hx hb hr (fun t ht hWm => ⟨⟨_, _, rfl, Option.some.inj hf, by rw [ht]; exact hW, va_K.moved hWm.alike hK⟩, hS.F ht⟩) hS.2.2 d_X_queued_41
      · replace hf := og_f hc hf
        refine lv_iconst (v := (-1)) hx hb d_X_queued_25 (by decide) ?_
        exact W.iret hx hb hr (fun t ht hWm => ⟨⟨_, _, rfl, Option.some.inj hf, by rw [ht]; exact hW, va_K.moved hWm.alike hK⟩, hS.F ht⟩) hS.2.2 d_X_queued_26

set_option maxHeartbeats 4000000 in
set_option maxRecDepth 100000 in
theorem m_X_state (l : Launch) (D : va_G) (cA : Nat → ClassId) (ad : Nat → Nat → Nat) (n : Nat) (A : Nat → Prop) (σ : St) (x1 : Int32)  (out : Int32 × St) (hf : f_X_state n σ x1 = some out) : Met l y_X_state ws_X_state ({ frames := 1, cells := 0, slots := 0, locals := 21 }) (va_Pc [.ref (ad 0 0), .int x1] (fun U => CW D cA ad n A σ U.heap ∧ va_K D vCl (atys cA) U)) (va_Qi (fun r u => (r, u) = out) (fun u t => CW D cA ad n A u t.heap ∧ va_K D vCl (atys cA) t) A) 0 0 A := by
  refine Met.ofW (cc := prog_1_method_16_code) (maxL := 2) (ret := (some .int)) (by decide) rfl ?_
  intro p e s m args below meth c s₁ B hml hv
  obtain ⟨rfl, hW, hK⟩ := hv
  have hx := B.exec
  have hb := B.bytes
  have hr := B.returns
  have hts := atoms_spec (ws := ws_X_state) B.pre
  have ht : ∀ w ∈ TB, w.before _ s = true := fun w h => hts w (List.mem_cons_of_mem _ h)
  have hown : s.vm.findClass "GridlockDesk" = some m.cls := findClass_of_methodNamed B.named
  have hlocks := B.notSynchronized
  have hS : va_S A s.heap s.heap [] := va_S.rf
  have hl := lv_entry ([.ref (ad 0 0), .int x1]) (n := 2) (Nat.le_of_ble_eq_true rfl)
  rw [lg_entry_eq]
  generalize (lg_sl ([.ref (ad 0 0), .int x1]) ++ List.replicate (2 - (lg_sl ([.ref (ad 0 0), .int x1])).length) Slot.unset).toArray = ls at hl ⊢
  have hl : lv_has ls 2 [(0, .ref (ad 0 0)), (1, .int x1)] := hl
  unfold f_X_state at hf

  refine lv_aload_n hx hb d_X_state_0 rfl (lv_at hl 0 rfl) ?_
  refine lv_iload_n hx hb d_X_state_1 rfl (lv_at hl 1 rfl) ?_
  obtain ⟨o1, ho1, hf⟩ := og_b hf
  refine kc_i (P := (fun u H => CW D cA ad n A u H)) (va_runV (C := "GridlockDesk") (As := [.int _]) (rest := []) ⟨hx, hb, hml, hown, hts⟩ (m_X_isPayment l D cA ad n A _  _  o1 ho1) (cwV 1 hts (tb_V tw_262 tw_264 tw_14 tw_31 tw_265) rfl rfl rfl (by decide +kernel) ⟨Nat.le_of_ble_eq_true rfl, Nat.le_of_ble_eq_true rfl⟩) ⟨k_blind, kw.recv hK hW.1 (t := 0) rfl rfl rfl, k_pre hW hK⟩ rfl rfl hl.1 rfl (lv_room (Nat.le_of_ble_eq_true rfl)) d_X_state_2 ⟨Nat.zero_le _, Nat.zero_le _⟩) hS (fun H locs hW hS => ?_)
  refine lv_if_eq (tgt := 20) hx hb d_X_state_5 rfl (fun hc => ?_) (fun hc => ?_)
  · replace hf := og_t hc hf
    refine lv_iconst (v := (-1)) hx hb d_X_state_20 (by decide) ?_
    exact W.iret hx hb hr (fun t ht hWm => ⟨⟨_, _, rfl, Option.some.inj hf, by rw [ht]; exact hW, va_K.moved hWm.alike hK⟩, hS.F ht⟩) hS.2.2 d_X_state_21
  · replace hf := og_f hc hf
    refine lv_aload_n hx hb d_X_state_8 rfl (lv_at hl 0 rfl) ?_
    refine va_get (D := D) (ci := 2) (C := "GridlockDesk") (T := T_X) (N := 6) hx hb ht hin_X hown hK (hW.1.one (t := 0) rfl) 0 rfl rfl 1 (by decide) (ht _ tw_94) (fun _ h9 => h9) rfl d_X_state_9 ?_
    refine lv_iload_n hx hb d_X_state_12 rfl (lv_at hl 1 rfl) ?_
    obtain ⟨hin2, hf⟩ := og_if hf
    refine va_aldq (D := D) hx hb hK (hW.1.one (t := 2) rfl) 0 3 rfl rfl hin2 d_X_state_13 ?_
    obtain ⟨k3, hk3, hf⟩ := og_b hf
    obtain ⟨ek3, hk3⟩ := dR_spec hk3
    rw [ek3]
    refine W.eq (g2 := F0 m 14 ls [.ref (ad 8 k3)]) rfl ?_
    refine va_get (D := D) (ci := 1) (C := "GridlockDesk$Payment") (T := T_P) (N := 7) hx hb ht hin_P hown hK (hW.1.one (t := 8) hk3) 0 rfl rfl 6 (by decide) (ht _ tw_234) (fun _ h9 => h9) rfl d_X_state_14 ?_
    refine lv_goto (tgt := 21) hx hb d_X_state_17 rfl ?_
    exact W.iret hx hb hr (fun t ht hWm => ⟨⟨_, _, rfl, Option.some.inj hf, by rw [ht]; exact hW, va_K.moved hWm.alike hK⟩, hS.F ht⟩) hS.2.2 d_X_state_21

set_option maxHeartbeats 4000000 in
set_option maxRecDepth 100000 in
theorem m_X_turnover (l : Launch) (D : va_G) (cA : Nat → ClassId) (ad : Nat → Nat → Nat) (n : Nat) (A : Nat → Prop) (σ : St)   (out : Int64 × St) (hf : f_X_turnover n σ  = some out) : Met l y_X_turnover ws_X_turnover ({ frames := 0, cells := 0, slots := 0, locals := 0 }) (va_Pc [.ref (ad 0 0)] (fun U => CW D cA ad n A σ U.heap ∧ va_K D vCl (atys cA) U)) (va_Ql (fun r u => (r, u) = out) (fun u t => CW D cA ad n A u t.heap ∧ va_K D vCl (atys cA) t) A) 0 0 A := by
  refine Met.ofW (cc := prog_1_method_17_code) (maxL := 1) (ret := (some .long)) (by decide) rfl ?_
  intro p e s m args below meth c s₁ B hml hv
  obtain ⟨rfl, hW, hK⟩ := hv
  have hx := B.exec
  have hb := B.bytes
  have hr := B.returns
  have hts := atoms_spec (ws := ws_X_turnover) B.pre
  have ht : ∀ w ∈ TB, w.before _ s = true := fun w h => hts w (List.mem_cons_of_mem _ h)
  have hown : s.vm.findClass "GridlockDesk" = some m.cls := findClass_of_methodNamed B.named
  have hlocks := B.notSynchronized
  have hS : va_S A s.heap s.heap [] := va_S.rf
  have hl := lv_entry ([.ref (ad 0 0)]) (n := 1) (Nat.le_of_ble_eq_true rfl)
  rw [lg_entry_eq]
  generalize (lg_sl ([.ref (ad 0 0)]) ++ List.replicate (1 - (lg_sl ([.ref (ad 0 0)])).length) Slot.unset).toArray = ls at hl ⊢
  have hl : lv_has ls 1 [(0, .ref (ad 0 0))] := hl
  unfold f_X_turnover at hf

  refine lv_aload_n hx hb d_X_turnover_0 rfl (lv_at hl 0 rfl) ?_
  refine va_get (D := D) (ci := 2) (C := "GridlockDesk") (T := T_X) (N := 6) hx hb ht hin_X hown hK (hW.1.one (t := 0) rfl) 0 rfl rfl 3 (by decide) (ht _ tw_96) (fun _ h9 => h9) rfl d_X_turnover_1 ?_
  exact W.lret hx hb hr (fun t ht hWm => ⟨⟨_, _, rfl, Option.some.inj hf, by rw [ht]; exact hW, va_K.moved hWm.alike hK⟩, hS.F ht⟩) hS.2.2 d_X_turnover_4

set_option maxHeartbeats 4000000 in
set_option maxRecDepth 100000 in
theorem m_X_now (l : Launch) (D : va_G) (cA : Nat → ClassId) (ad : Nat → Nat → Nat) (n : Nat) (A : Nat → Prop) (σ : St)   (out : Int32 × St) (hf : f_X_now n σ  = some out) : Met l y_X_now ws_X_now ({ frames := 0, cells := 0, slots := 0, locals := 0 }) (va_Pc [.ref (ad 0 0)] (fun U => CW D cA ad n A σ U.heap ∧ va_K D vCl (atys cA) U)) (va_Qi (fun r u => (r, u) = out) (fun u t => CW D cA ad n A u t.heap ∧ va_K D vCl (atys cA) t) A) 0 0 A := by
  refine Met.ofW (cc := prog_1_method_18_code) (maxL := 1) (ret := (some .int)) (by decide) rfl ?_
  intro p e s m args below meth c s₁ B hml hv
  obtain ⟨rfl, hW, hK⟩ := hv
  have hx := B.exec
  have hb := B.bytes
  have hr := B.returns
  have hts := atoms_spec (ws := ws_X_now) B.pre
  have ht : ∀ w ∈ TB, w.before _ s = true := fun w h => hts w (List.mem_cons_of_mem _ h)
  have hown : s.vm.findClass "GridlockDesk" = some m.cls := findClass_of_methodNamed B.named
  have hlocks := B.notSynchronized
  have hS : va_S A s.heap s.heap [] := va_S.rf
  have hl := lv_entry ([.ref (ad 0 0)]) (n := 1) (Nat.le_of_ble_eq_true rfl)
  rw [lg_entry_eq]
  generalize (lg_sl ([.ref (ad 0 0)]) ++ List.replicate (1 - (lg_sl ([.ref (ad 0 0)])).length) Slot.unset).toArray = ls at hl ⊢
  have hl : lv_has ls 1 [(0, .ref (ad 0 0))] := hl
  unfold f_X_now at hf

  refine lv_aload_n hx hb d_X_now_0 rfl (lv_at hl 0 rfl) ?_
  refine va_get (D := D) (ci := 2) (C := "GridlockDesk") (T := T_X) (N := 6) hx hb ht hin_X hown hK (hW.1.one (t := 0) rfl) 0 rfl rfl 4 (by decide) (ht _ tw_97) (fun _ h9 => h9) rfl d_X_now_1 ?_
  exact W.iret hx hb hr (fun t ht hWm => ⟨⟨_, _, rfl, Option.some.inj hf, by rw [ht]; exact hW, va_K.moved hWm.alike hK⟩, hS.F ht⟩) hS.2.2 d_X_now_4

