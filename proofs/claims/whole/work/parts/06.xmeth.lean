set_option maxHeartbeats 4000000 in
set_option maxRecDepth 100000 in
theorem m_B_headGoesTo (l : Launch) (D : va_G) (cA : Nat → ClassId) (ad : Nat → Nat → Nat) (n : Nat) (A : Nat → Prop) (σ : St) (a0 : Nat) (ha0 : a0 < n) (out : Int32 × St) (hf : f_B_headGoesTo n σ a0 = some out) : Met l y_B_headGoesTo ws_B_headGoesTo ({ frames := 0, cells := 0, slots := 0, locals := 0 }) (va_Pc [.ref (ad 4 a0)] (fun U => CW D cA ad n A σ U.heap ∧ va_K D vCl (atys cA) U)) (va_Qi (fun r u => (r, u) = out) (fun u t => CW D cA ad n A u t.heap ∧ va_K D vCl (atys cA) t) A) 0 0 A := by
  refine Met.ofW (cc := prog_2_method_4_code) (maxL := 1) (ret := (some .int)) (by decide) rfl ?_
  intro p e s m args below meth c s₁ B hml hv
  obtain ⟨rfl, hW, hK⟩ := hv
  have hx := B.exec
  have hb := B.bytes
  have hr := B.returns
  have hts := atoms_spec (ws := ws_B_headGoesTo) B.pre
  have ht : ∀ w ∈ TB, w.before _ s = true := fun w h => hts w (List.mem_cons_of_mem _ h)
  have hown : s.vm.findClass "GridlockDesk$Bank" = some m.cls := findClass_of_methodNamed B.named
  have hlocks := B.notSynchronized
  have hS : va_S A s.heap s.heap [] := va_S.rf
  have hl := lv_entry ([.ref (ad 4 a0)]) (n := 1) (Nat.le_of_ble_eq_true rfl)
  rw [lg_entry_eq]
  generalize (lg_sl ([.ref (ad 4 a0)]) ++ List.replicate (1 - (lg_sl ([.ref (ad 4 a0)])).length) Slot.unset).toArray = ls at hl ⊢
  have hl : lv_has ls 1 [(0, .ref (ad 4 a0))] := hl
  unfold f_B_headGoesTo at hf
  refine lv_aload_n hx hb d_B_headGoesTo_0 rfl (lv_at hl 0 rfl) ?_
  refine va_get (D := D) (ci := 0) (C := "GridlockDesk$Bank") (T := T_B) (N := 7) hx hb ht hin_B hown hK (hW.1.one (t := 4) ha0) 0 rfl rfl 6 (by decide) (ht _ tw_74) (fun _ h9 => h9) rfl d_B_headGoesTo_1 ?_
  refine lv_if_le (tgt := 19) hx hb d_B_headGoesTo_4 rfl (fun hc => ?_) (fun hc => ?_)
  · replace hf := og_t hc hf
    refine lv_iconst (v := (-1)) hx hb d_B_headGoesTo_19 (by decide) ?_
    exact W.iret hx hb hr (fun t ht hWm => ⟨⟨_, _, rfl, Option.some.inj hf, by rw [ht]; exact hW, va_K.moved hWm.alike hK⟩, hS.F ht⟩) hS.2.2 d_B_headGoesTo_20
  · replace hf := og_f hc hf
    refine lv_aload_n hx hb d_B_headGoesTo_7 rfl (lv_at hl 0 rfl) ?_
    refine va_get (D := D) (ci := 0) (C := "GridlockDesk$Bank") (T := T_B) (N := 7) hx hb ht hin_B hown hK (hW.1.one (t := 4) ha0) 0 rfl rfl 5 (by decide) (ht _ tw_72) (fun _ h9 => h9) rfl d_B_headGoesTo_8 ?_
    refine lv_iconst (v := 0) hx hb d_B_headGoesTo_11 (by decide) ?_
    obtain ⟨hin1, hf⟩ := og_if hf
    refine va_aldq (D := D) hx hb hK (hW.1.one (t := 7) ha0) 0 3 rfl rfl hin1 d_B_headGoesTo_12 ?_
    obtain ⟨k2, hk2, hf⟩ := og_b hf
    obtain ⟨ek2, hk2⟩ := dR_spec hk2
    rw [ek2]
    refine W.eq (g2 := F0 m 13 ls [.ref (ad 8 k2)]) rfl ?_
    refine va_get (D := D) (ci := 1) (C := "GridlockDesk$Payment") (T := T_P) (N := 7) hx hb ht hin_P hown hK (hW.1.one (t := 8) hk2) 0 rfl rfl 2 (by decide) (ht _ tw_223) (fun _ h9 => h9) rfl d_B_headGoesTo_13 ?_
    refine lv_goto (tgt := 20) hx hb d_B_headGoesTo_16 rfl ?_
    exact W.iret hx hb hr (fun t ht hWm => ⟨⟨_, _, rfl, Option.some.inj hf, by rw [ht]; exact hW, va_K.moved hWm.alike hK⟩, hS.F ht⟩) hS.2.2 d_B_headGoesTo_20

set_option maxHeartbeats 4000000 in
set_option maxRecDepth 100000 in
theorem lp_B_sentWith_10_ok {p : Program} {l : Launch} {e : Env} {s : State} {m : MethodId} {args : Array Value} {below : List Frame} {meth : Method} {c : Code} (D : va_G) (cA : Nat → ClassId) (ad : Nat → Nat → Nat) (n : Nat) (A : Nat → Prop) (hx : p.tables.exec = Jvm.exec) (hb : c.code = prog_2_method_5_code) (hml : c.maxLocals = 6) (hr : meth.sig.returnType = (some .long)) (hts : ∀ w ∈ ws_B_sentWith, w.before args s = true) (hown : s.vm.findClass "GridlockDesk$Bank" = some m.cls) (hlocks : meth.locks = false) (hK : va_K D vCl (atys cA) s) (k : St → Int64 → Option (Int64 × St)) (out : Int64 × St) (v0 : Nat) (v1 : Int32) (v2 : Int32) (hk : ∀ (σ : St) (v3 : Int64) (H : Heap) (locs : List Loc) (ls : Array Slot), lv_has ls 6 [(3, .long v3)] → CW D cA ad n A σ H → va_S A s.heap H locs → k σ v3 = some out → W p l e (headSpec ws_B_sentWith ({ frames := 0, cells := 0, slots := 0, locals := 0 })).room s m args below meth c H locs 0 0 (MQ below (va_Ql (fun r u => (r, u) = out) (fun u t => CW D cA ad n A u t.heap ∧ va_K D vCl (atys cA) t) A) args s 0 0 A) (F0 m 58 ls [])) : ∀ (fu : Nat) (σ : St) (v3 : Int64) (v5 : Int32) (H : Heap) (locs : List Loc) (ls : Array Slot), v0 < n → lv_has ls 6 [(0, .ref (ad 4 v0)), (1, .int v1), (2, .int v2), (3, .long v3), (5, .int v5)] → CW D cA ad n A σ H → va_S A s.heap H locs → lp_B_sentWith_10 n k fu σ v0 v1 v2 v3 v5 = some out → W p l e (headSpec ws_B_sentWith ({ frames := 0, cells := 0, slots := 0, locals := 0 })).room s m args below meth c H locs 0 0 (MQ below (va_Ql (fun r u => (r, u) = out) (fun u t => CW D cA ad n A u t.heap ∧ va_K D vCl (atys cA) t) A) args s 0 0 A) (F0 m 10 ls []) := by
  intro fu
  induction fu with
  | zero =>
    intro σ v3 v5 H locs ls hv0 hl hW hS hf
    exact og_n hf
  | succ fu ih =>
    intro σ v3 v5 H locs ls hv0 hl hW hS hf
    rw [lp_B_sentWith_10_s] at hf
    have ht : ∀ w ∈ TB, w.before args s = true := fun w h => hts w (List.mem_cons_of_mem _ h)
    refine lv_iload hx hb d_B_sentWith_10 (lv_at hl 4 rfl) ?_
    refine lv_iload_n hx hb d_B_sentWith_12 rfl (lv_at hl 1 rfl) ?_
    refine lv_icmp_ge (tgt := 58) hx hb d_B_sentWith_13 rfl (fun hc => ?_) (fun hc => ?_)
    · replace hf := og_t hc hf
      exact hk _ _ _ _ _  (lv_sub hl [3] rfl) hW hS hf
    · replace hf := og_f hc hf
      refine lv_iload hx hb d_B_sentWith_16 (lv_at hl 4 rfl) ?_
      refine lv_aload_n hx hb d_B_sentWith_18 rfl (lv_at hl 0 rfl) ?_
      refine va_get (D := D) (ci := 0) (C := "GridlockDesk$Bank") (T := T_B) (N := 7) hx hb ht hin_B hown hK (hW.1.one (t := 4) hv0) 0 rfl rfl 6 (by decide) (ht _ tw_74) (fun _ h9 => h9) rfl d_B_sentWith_19 ?_
      refine lv_icmp_ge (tgt := 58) hx hb d_B_sentWith_22 rfl (fun hc => ?_) (fun hc => ?_)
      · replace hf := og_t hc hf
        exact hk _ _ _ _ _  (lv_sub hl [3] rfl) hW hS hf
      · replace hf := og_f hc hf
        refine lv_aload_n hx hb d_B_sentWith_25 rfl (lv_at hl 0 rfl) ?_
        refine va_get (D := D) (ci := 0) (C := "GridlockDesk$Bank") (T := T_B) (N := 7) hx hb ht hin_B hown hK (hW.1.one (t := 4) hv0) 0 rfl rfl 5 (by decide) (ht _ tw_72) (fun _ h9 => h9) rfl d_B_sentWith_26 ?_
        refine lv_iload hx hb d_B_sentWith_29 (lv_at hl 4 rfl) ?_
        obtain ⟨hin2, hf⟩ := og_if hf
        refine va_aldq (D := D) hx hb hK (hW.1.one (t := 7) hv0) 0 3 rfl rfl hin2 d_B_sentWith_31 ?_
        obtain ⟨k3, hk3, hf⟩ := og_b hf
        obtain ⟨ek3, hk3⟩ := dR_spec hk3
        rw [ek3]
        refine W.eq (g2 := F0 m 32 ls [.ref (ad 8 k3)]) rfl ?_
        refine va_get (D := D) (ci := 1) (C := "GridlockDesk$Payment") (T := T_P) (N := 7) hx hb ht hin_P hown hK (hW.1.one (t := 8) hk3) 0 rfl rfl 2 (by decide) (ht _ tw_223) (fun _ h9 => h9) rfl d_B_sentWith_32 ?_
        refine lv_iload_n hx hb d_B_sentWith_35 rfl (lv_at hl 2 rfl) ?_
        refine lv_icmp_ne (tgt := 52) hx hb d_B_sentWith_36 rfl (fun hc => ?_) (fun hc => ?_)
        · replace hf := og_f hc hf
          refine lv_iinc (k := 4) (v := _ + 1) (lv' := [(5, .int _), (0, .ref _), (1, .int _), (2, .int _), (3, .long _)]) hx hb d_B_sentWith_52 hl rfl rfl (by decide) rfl (fun ls hl => ?_)
          refine lv_goto (tgt := 10) hx hb d_B_sentWith_55 rfl ?_
          exact ih _ _ _ _ _ _ hv0 (lv_sub hl [1, 2, 3, 4, 0] rfl) hW hS hf
        · replace hf := og_t hc hf
          refine lv_lload_n hx hb d_B_sentWith_39 rfl (lv_at hl 3 rfl) ?_
          refine lv_aload_n hx hb d_B_sentWith_40 rfl (lv_at hl 0 rfl) ?_
          refine va_get (D := D) (ci := 0) (C := "GridlockDesk$Bank") (T := T_B) (N := 7) hx hb ht hin_B hown hK (hW.1.one (t := 4) hv0) 0 rfl rfl 5 (by decide) (ht _ tw_72) (fun _ h9 => h9) rfl d_B_sentWith_41 ?_
          refine lv_iload hx hb d_B_sentWith_44 (lv_at hl 4 rfl) ?_
          obtain ⟨hin4, hf⟩ := og_if hf
          refine va_aldq (D := D) hx hb hK (hW.1.one (t := 7) hv0) 0 3 rfl rfl hin4 d_B_sentWith_46 ?_
          obtain ⟨k5, hk5, hf⟩ := og_b hf
          obtain ⟨ek5, hk5⟩ := dR_spec hk5
          rw [ek5]
          refine W.eq (g2 := F0 m 47 ls [.ref (ad 8 k5), _]) rfl ?_
          refine va_get (D := D) (ci := 1) (C := "GridlockDesk$Payment") (T := T_P) (N := 7) hx hb ht hin_P hown hK (hW.1.one (t := 8) hk5) 0 rfl rfl 3 (by decide) (ht _ tw_226) (fun _ h9 => h9) rfl d_B_sentWith_47 ?_
          refine lv_ladd hx hb d_B_sentWith_50 ?_
          refine lv_lstore_n (lv' := [(3, .long _), (0, .ref _), (1, .int _), (2, .int _), (5, .int _)]) hx hb d_B_sentWith_51 rfl hl (by decide) rfl (fun ls hl => ?_)
          refine lv_iinc (k := 4) (v := _ + 1) (lv' := [(5, .int _), (3, .long _), (0, .ref _), (1, .int _), (2, .int _)]) hx hb d_B_sentWith_52 hl rfl rfl (by decide) rfl (fun ls hl => ?_)
          refine lv_goto (tgt := 10) hx hb d_B_sentWith_55 rfl ?_
          exact ih _ _ _ _ _ _ hv0 (lv_sub hl [2, 3, 4, 1, 0] rfl) hW hS hf

set_option maxHeartbeats 4000000 in
set_option maxRecDepth 100000 in
theorem m_B_sentWith (l : Launch) (D : va_G) (cA : Nat → ClassId) (ad : Nat → Nat → Nat) (n : Nat) (A : Nat → Prop) (σ : St) (a0 : Nat) (x1 : Int32) (x2 : Int32) (ha0 : a0 < n) (out : Int64 × St) (hf : f_B_sentWith n σ a0 x1 x2 = some out) : Met l y_B_sentWith ws_B_sentWith ({ frames := 0, cells := 0, slots := 0, locals := 0 }) (va_Pc [.ref (ad 4 a0), .int x1, .int x2] (fun U => CW D cA ad n A σ U.heap ∧ va_K D vCl (atys cA) U)) (va_Ql (fun r u => (r, u) = out) (fun u t => CW D cA ad n A u t.heap ∧ va_K D vCl (atys cA) t) A) 0 0 A := by
  refine Met.ofW (cc := prog_2_method_5_code) (maxL := 6) (ret := (some .long)) (by decide) rfl ?_
  intro p e s m args below meth c s₁ B hml hv
  obtain ⟨rfl, hW, hK⟩ := hv
  have hx := B.exec
  have hb := B.bytes
  have hr := B.returns
  have hts := atoms_spec (ws := ws_B_sentWith) B.pre
  have ht : ∀ w ∈ TB, w.before _ s = true := fun w h => hts w (List.mem_cons_of_mem _ h)
  have hown : s.vm.findClass "GridlockDesk$Bank" = some m.cls := findClass_of_methodNamed B.named
  have hlocks := B.notSynchronized
  have hS : va_S A s.heap s.heap [] := va_S.rf
  have hl := lv_entry ([.ref (ad 4 a0), .int x1, .int x2]) (n := 6) (Nat.le_of_ble_eq_true rfl)
  rw [lg_entry_eq]
  generalize (lg_sl ([.ref (ad 4 a0), .int x1, .int x2]) ++ List.replicate (6 - (lg_sl ([.ref (ad 4 a0), .int x1, .int x2])).length) Slot.unset).toArray = ls at hl ⊢
  have hl : lv_has ls 6 [(0, .ref (ad 4 a0)), (1, .int x1), (2, .int x2)] := hl
  unfold f_B_sentWith at hf
  refine lv_aload_n hx hb d_B_sentWith_0 rfl (lv_at hl 0 rfl) ?_
  refine va_get (D := D) (ci := 0) (C := "GridlockDesk$Bank") (T := T_B) (N := 7) hx hb ht hin_B hown hK (hW.1.one (t := 4) ha0) 0 rfl rfl 4 (by decide) (ht _ tw_70) (fun _ h9 => h9) rfl d_B_sentWith_1 ?_
  refine lv_iload_n hx hb d_B_sentWith_4 rfl (lv_at hl 2 rfl) ?_
  obtain ⟨hin1, hf⟩ := og_if hf
  refine va_lald (D := D) hx hb hK (hW.1.one (t := 6) ha0) 0 0 rfl rfl hin1 d_B_sentWith_5 ?_
  refine lv_lstore_n (lv' := [(3, .long _), (0, .ref _), (1, .int _), (2, .int _)]) hx hb d_B_sentWith_6 rfl hl (by decide) rfl (fun ls hl => ?_)
  refine lv_iconst (v := 0) hx hb d_B_sentWith_7 (by decide) ?_
  refine lv_istore (lv' := [(5, .int _), (3, .long _), (0, .ref _), (1, .int _), (2, .int _)]) hx hb d_B_sentWith_8 hl (by decide) rfl (fun ls hl => ?_)
  refine lp_B_sentWith_10_ok D cA ad n A hx hb hml hr hts hown hlocks hK _ _ _ _ _ (fun σ7 y3_6 H locs ls  hl hW hS hf => ?_) _ _ _ _ _ _ _ ha0 (lv_sub hl [2, 3, 4, 1, 0] rfl) hW hS hf
  refine lv_lload_n hx hb d_B_sentWith_58 rfl (lv_at hl 0 rfl) ?_
  exact W.lret hx hb hr (fun t ht hWm => ⟨⟨_, _, rfl, Option.some.inj hf, by rw [ht]; exact hW, va_K.moved hWm.alike hK⟩, hS.F ht⟩) hS.2.2 d_B_sentWith_59

set_option maxHeartbeats 4000000 in
set_option maxRecDepth 100000 in
theorem lp_B_remove_4_ok {p : Program} {l : Launch} {e : Env} {s : State} {m : MethodId} {args : Array Value} {below : List Frame} {meth : Method} {c : Code} (D : va_G) (cA : Nat → ClassId) (ad : Nat → Nat → Nat) (n : Nat) (A : Nat → Prop) (hx : p.tables.exec = Jvm.exec) (hb : c.code = prog_2_method_3_code) (hml : c.maxLocals = 4) (hr : meth.sig.returnType = none) (hts : ∀ w ∈ ws_B_remove, w.before args s = true) (hown : s.vm.findClass "GridlockDesk$Bank" = some m.cls) (hlocks : meth.locks = false) (hK : va_K D vCl (atys cA) s) (k : St → Int32 → Option (Unit × St)) (out : Unit × St) (v0 : Nat) (v1 : Nat) (hk : ∀ (σ : St) (v2 : Int32) (H : Heap) (locs : List Loc) (ls : Array Slot), lv_has ls 4 [(0, .ref (ad 4 v0)), (2, .int v2)] → CW D cA ad n A σ H → va_S A s.heap H locs → k σ v2 = some out → W p l e (headSpec ws_B_remove ({ frames := 0, cells := 0, slots := 0, locals := 0 })).room s m args below meth c H locs 0 0 (MQ below (va_Qv (fun u => ((), u) = out) (fun u t => CW D cA ad n A u t.heap ∧ va_K D vCl (atys cA) t) A) args s 0 0 A) (F0 m 43 ls [])) : ∀ (fu : Nat) (σ : St) (v2 : Int32) (v3 : Int32) (H : Heap) (locs : List Loc) (ls : Array Slot), v0 < n → lv_has ls 4 [(0, .ref (ad 4 v0)), (1, .ref (ad 8 v1)), (2, .int v2), (3, .int v3)] → CW D cA ad n A σ H → va_S A s.heap H locs → lp_B_remove_4 n k fu σ v0 v1 v2 v3 = some out → W p l e (headSpec ws_B_remove ({ frames := 0, cells := 0, slots := 0, locals := 0 })).room s m args below meth c H locs 0 0 (MQ below (va_Qv (fun u => ((), u) = out) (fun u t => CW D cA ad n A u t.heap ∧ va_K D vCl (atys cA) t) A) args s 0 0 A) (F0 m 4 ls []) := by
  intro fu
  induction fu with
  | zero =>
    intro σ v2 v3 H locs ls hv0 hl hW hS hf
    exact og_n hf
  | succ fu ih =>
    intro σ v2 v3 H locs ls hv0 hl hW hS hf
    rw [lp_B_remove_4_s] at hf
    have ht : ∀ w ∈ TB, w.before args s = true := fun w h => hts w (List.mem_cons_of_mem _ h)
    refine lv_iload_n hx hb d_B_remove_4 rfl (lv_at hl 3 rfl) ?_
    refine lv_aload_n hx hb d_B_remove_5 rfl (lv_at hl 0 rfl) ?_
    refine va_get (D := D) (ci := 0) (C := "GridlockDesk$Bank") (T := T_B) (N := 7) hx hb ht hin_B hown hK (hW.1.one (t := 4) hv0) 0 rfl rfl 6 (by decide) (ht _ tw_74) (fun _ h9 => h9) rfl d_B_remove_6 ?_
    refine lv_icmp_ge (tgt := 43) hx hb d_B_remove_9 rfl (fun hc => ?_) (fun hc => ?_)
    · replace hf := og_t hc hf
      exact hk _ _ _ _ _  (lv_sub hl [0, 2] rfl) hW hS hf
    · replace hf := og_f hc hf
      refine lv_aload_n hx hb d_B_remove_12 rfl (lv_at hl 0 rfl) ?_
      refine va_get (D := D) (ci := 0) (C := "GridlockDesk$Bank") (T := T_B) (N := 7) hx hb ht hin_B hown hK (hW.1.one (t := 4) hv0) 0 rfl rfl 5 (by decide) (ht _ tw_72) (fun _ h9 => h9) rfl d_B_remove_13 ?_
      refine lv_iload_n hx hb d_B_remove_16 rfl (lv_at hl 3 rfl) ?_
      obtain ⟨hin1, hf⟩ := og_if hf
      refine va_aldq (D := D) hx hb hK (hW.1.one (t := 7) hv0) 0 3 rfl rfl hin1 d_B_remove_17 ?_
      refine lv_aload_n hx hb d_B_remove_18 rfl (lv_at hl 1 rfl) ?_
      obtain ⟨k2, hk2, hf⟩ := og_b hf
      obtain ⟨ek2, hk2⟩ := dR_spec hk2
      rw [ek2]
      refine W.eq (g2 := F0 m 19 ls [_, .ref (ad 8 k2)]) rfl ?_
      obtain ⟨hn3, hf⟩ := og_if hf
      refine W.eq (g2 := F0 m 19 ls (va_rf (some (ad 8 _)) :: va_rf (some (ad 8 _)) :: [])) rfl ?_
      refine lv_acmp_eq (tgt := 37) hx hb d_B_remove_19 rfl (fun hc => ?_) (fun hc => ?_)
      · replace hc := (kw_inj (t := 8) hW.1 hk2 hn3).mp hc
        replace hf := og_t hc hf
        refine lv_iinc (k := 3) (v := _ + 1) (lv' := [(3, .int _), (0, .ref _), (1, .ref _), (2, .int _)]) hx hb d_B_remove_37 hl rfl rfl (by decide) rfl (fun ls hl => ?_)
        refine lv_goto (tgt := 4) hx hb d_B_remove_40 rfl ?_
        exact ih _ _ _ _ _ _ hv0 (lv_sub hl [1, 2, 3, 0] rfl) hW hS hf
      · replace hc := fun z => hc ((kw_inj (t := 8) hW.1 hk2 hn3).mpr z)
        replace hf := og_f hc hf
        refine lv_aload_n hx hb d_B_remove_22 rfl (lv_at hl 0 rfl) ?_
        refine va_get (D := D) (ci := 0) (C := "GridlockDesk$Bank") (T := T_B) (N := 7) hx hb ht hin_B hown hK (hW.1.one (t := 4) hv0) 0 rfl rfl 5 (by decide) (ht _ tw_72) (fun _ h9 => h9) rfl d_B_remove_23 ?_
        refine lv_iload_n hx hb d_B_remove_26 rfl (lv_at hl 2 rfl) ?_
        refine lv_aload_n hx hb d_B_remove_27 rfl (lv_at hl 0 rfl) ?_
        refine va_get (D := D) (ci := 0) (C := "GridlockDesk$Bank") (T := T_B) (N := 7) hx hb ht hin_B hown hK (hW.1.one (t := 4) hv0) 0 rfl rfl 5 (by decide) (ht _ tw_72) (fun _ h9 => h9) rfl d_B_remove_28 ?_
        refine lv_iload_n hx hb d_B_remove_31 rfl (lv_at hl 3 rfl) ?_
        obtain ⟨hin4, hf⟩ := og_if hf
        refine va_aldq (D := D) hx hb hK (hW.1.one (t := 7) hv0) 0 3 rfl rfl hin4 d_B_remove_32 ?_
        obtain ⟨k5, hk5, hf⟩ := og_b hf
        obtain ⟨ek5, hk5⟩ := dR_spec hk5
        rw [ek5]
        refine W.eq (g2 := F0 m 33 ls [.ref (ad 8 k5), _, _]) rfl ?_
        obtain ⟨hin6, hf⟩ := og_if hf
        obtain ⟨σ7, eσ7, hf⟩ := og_b hf
        cases eσ7
        refine k_aast  (t := 7) (tv := 8) hx hb hK hW.1 hS hv0 (hW.2 _ _ hv0) 3 1 hk5 rfl rfl rfl rfl hin6 d_B_remove_33 cc_wR1 (fun H locs hW1 hS => ?_)
        have hW := CW.wR hW1 hW.2
        refine lv_iinc (k := 2) (v := _ + 1) (lv' := [(2, .int _), (0, .ref _), (1, .ref _), (3, .int _)]) hx hb d_B_remove_34 hl rfl rfl (by decide) rfl (fun ls hl => ?_)
        refine lv_iinc (k := 3) (v := _ + 1) (lv' := [(3, .int _), (2, .int _), (0, .ref _), (1, .ref _)]) hx hb d_B_remove_37 hl rfl rfl (by decide) rfl (fun ls hl => ?_)
        refine lv_goto (tgt := 4) hx hb d_B_remove_40 rfl ?_
        exact ih _ _ _ _ _ _ hv0 (lv_sub hl [2, 3, 1, 0] rfl) hW hS hf

set_option maxHeartbeats 4000000 in
set_option maxRecDepth 100000 in
theorem m_B_remove (l : Launch) (D : va_G) (cA : Nat → ClassId) (ad : Nat → Nat → Nat) (n : Nat) (A : Nat → Prop) (σ : St) (a0 : Nat) (x1 : Nat) (ha0 : a0 < n) (out : Unit × St) (hf : f_B_remove n σ a0 x1 = some out) : Met l y_B_remove ws_B_remove ({ frames := 0, cells := 0, slots := 0, locals := 0 }) (va_Pc [.ref (ad 4 a0), .ref (ad 8 x1)] (fun U => CW D cA ad n A σ U.heap ∧ va_K D vCl (atys cA) U)) (va_Qv (fun u => ((), u) = out) (fun u t => CW D cA ad n A u t.heap ∧ va_K D vCl (atys cA) t) A) 0 0 A := by
  refine Met.ofW (cc := prog_2_method_3_code) (maxL := 4) (ret := none) (by decide) rfl ?_
  intro p e s m args below meth c s₁ B hml hv
  obtain ⟨rfl, hW, hK⟩ := hv
  have hx := B.exec
  have hb := B.bytes
  have hr := B.returns
  have hts := atoms_spec (ws := ws_B_remove) B.pre
  have ht : ∀ w ∈ TB, w.before _ s = true := fun w h => hts w (List.mem_cons_of_mem _ h)
  have hown : s.vm.findClass "GridlockDesk$Bank" = some m.cls := findClass_of_methodNamed B.named
  have hlocks := B.notSynchronized
  have hS : va_S A s.heap s.heap [] := va_S.rf
  have hl := lv_entry ([.ref (ad 4 a0), .ref (ad 8 x1)]) (n := 4) (Nat.le_of_ble_eq_true rfl)
  rw [lg_entry_eq]
  generalize (lg_sl ([.ref (ad 4 a0), .ref (ad 8 x1)]) ++ List.replicate (4 - (lg_sl ([.ref (ad 4 a0), .ref (ad 8 x1)])).length) Slot.unset).toArray = ls at hl ⊢
  have hl : lv_has ls 4 [(0, .ref (ad 4 a0)), (1, .ref (ad 8 x1))] := hl
  unfold f_B_remove at hf
  refine lv_iconst (v := 0) hx hb d_B_remove_0 (by decide) ?_
  refine lv_istore_n (lv' := [(2, .int _), (0, .ref _), (1, .ref _)]) hx hb d_B_remove_1 rfl hl (by decide) rfl (fun ls hl => ?_)
  refine lv_iconst (v := 0) hx hb d_B_remove_2 (by decide) ?_
  refine lv_istore_n (lv' := [(3, .int _), (2, .int _), (0, .ref _), (1, .ref _)]) hx hb d_B_remove_3 rfl hl (by decide) rfl (fun ls hl => ?_)
  refine lp_B_remove_4_ok D cA ad n A hx hb hml hr hts hown hlocks hK _ _ _ _ (fun σ9 y2_8 H locs ls  hl hW hS hf => ?_) _ _ _ _ _ _ _ ha0 (lv_sub hl [2, 3, 1, 0] rfl) hW hS hf
  refine lv_aload_n hx hb d_B_remove_43 rfl (lv_at hl 0 rfl) ?_
  refine lv_iload_n hx hb d_B_remove_44 rfl (lv_at hl 1 rfl) ?_
  obtain ⟨σ10, eσ10, hf⟩ := og_b hf
  cases eσ10
  refine k_put  (ci := 0) (C := "GridlockDesk$Bank") (T := T_B) (N := 7) (ty := .int) (t := 4) hx hb ht hin_B ft_B ft_B_ok nm_B hown hK hW.1 hS ha0 (hW.2 _ _ ha0) rfl rfl 6 (by decide) (ht _ tw_74) (fun _ h9 => h9) rfl (by decide +kernel) rfl rfl (Nat.le_of_ble_eq_true rfl) d_B_remove_45 cc_wI3 (fun H locs hW1 hS => ?_)
  have hW := CW.wI hW1 hW.2
  exact W.vret hx hb hr (fun t ht hWm => ⟨⟨_, rfl, Option.some.inj hf, by rw [ht]; exact hW, va_K.moved hWm.alike hK⟩, hS.F ht⟩) hS.2.2 d_B_remove_48

set_option maxHeartbeats 4000000 in
set_option maxRecDepth 100000 in
theorem lp_B_enqueue_18_ok {p : Program} {l : Launch} {e : Env} {s : State} {m : MethodId} {args : Array Value} {below : List Frame} {meth : Method} {c : Code} (D : va_G) (cA : Nat → ClassId) (ad : Nat → Nat → Nat) (n : Nat) (A : Nat → Prop) (hx : p.tables.exec = Jvm.exec) (hb : c.code = prog_2_method_2_code) (hml : c.maxLocals = 3) (hr : meth.sig.returnType = none) (hts : ∀ w ∈ ws_B_enqueue, w.before args s = true) (hown : s.vm.findClass "GridlockDesk$Bank" = some m.cls) (hlocks : meth.locks = false) (hK : va_K D vCl (atys cA) s) (k : St → Int32 → Option (Unit × St)) (out : Unit × St) (v0 : Nat) (v1 : Nat) (hk : ∀ (σ : St) (v2 : Int32) (H : Heap) (locs : List Loc) (ls : Array Slot), lv_has ls 3 [(0, .ref (ad 4 v0)), (1, .ref (ad 8 v1)), (2, .int v2)] → CW D cA ad n A σ H → va_S A s.heap H locs → k σ v2 = some out → W p l e (headSpec ws_B_enqueue ({ frames := 0, cells := 0, slots := 0, locals := 0 })).room s m args below meth c H locs 0 0 (MQ below (va_Qv (fun u => ((), u) = out) (fun u t => CW D cA ad n A u t.heap ∧ va_K D vCl (atys cA) t) A) args s 0 0 A) (F0 m 60 ls [])) : ∀ (fu : Nat) (σ : St) (v2 : Int32) (H : Heap) (locs : List Loc) (ls : Array Slot), v0 < n → lv_has ls 3 [(0, .ref (ad 4 v0)), (1, .ref (ad 8 v1)), (2, .int v2)] → CW D cA ad n A σ H → va_S A s.heap H locs → lp_B_enqueue_18 n k fu σ v0 v1 v2 = some out → W p l e (headSpec ws_B_enqueue ({ frames := 0, cells := 0, slots := 0, locals := 0 })).room s m args below meth c H locs 0 0 (MQ below (va_Qv (fun u => ((), u) = out) (fun u t => CW D cA ad n A u t.heap ∧ va_K D vCl (atys cA) t) A) args s 0 0 A) (F0 m 18 ls []) := by
  intro fu
  induction fu with
  | zero =>
    intro σ v2 H locs ls hv0 hl hW hS hf
    exact og_n hf
  | succ fu ih =>
    intro σ v2 H locs ls hv0 hl hW hS hf
    rw [lp_B_enqueue_18_s] at hf
    have ht : ∀ w ∈ TB, w.before args s = true := fun w h => hts w (List.mem_cons_of_mem _ h)
    refine lv_iload_n hx hb d_B_enqueue_18 rfl (lv_at hl 2 rfl) ?_
    refine lv_if_le (tgt := 60) hx hb d_B_enqueue_19 rfl (fun hc => ?_) (fun hc => ?_)
    · replace hf := og_t hc hf
      exact hk _ _ _ _ _  (lv_sub hl [0, 1, 2] rfl) hW hS hf
    · replace hf := og_f hc hf
      refine lv_aload_n hx hb d_B_enqueue_22 rfl (lv_at hl 0 rfl) ?_
      refine va_get (D := D) (ci := 0) (C := "GridlockDesk$Bank") (T := T_B) (N := 7) hx hb ht hin_B hown hK (hW.1.one (t := 4) hv0) 0 rfl rfl 5 (by decide) (ht _ tw_72) (fun _ h9 => h9) rfl d_B_enqueue_23 ?_
      refine lv_iload_n hx hb d_B_enqueue_26 rfl (lv_at hl 2 rfl) ?_
      refine lv_iconst (v := 1) hx hb d_B_enqueue_27 (by decide) ?_
      refine lv_isub hx hb d_B_enqueue_28 ?_
      obtain ⟨hin1, hf⟩ := og_if hf
      refine va_aldq (D := D) hx hb hK (hW.1.one (t := 7) hv0) 0 3 rfl rfl hin1 d_B_enqueue_29 ?_
      obtain ⟨k2, hk2, hf⟩ := og_b hf
      obtain ⟨ek2, hk2⟩ := dR_spec hk2
      rw [ek2]
      refine W.eq (g2 := F0 m 30 ls [.ref (ad 8 k2)]) rfl ?_
      refine va_get (D := D) (ci := 1) (C := "GridlockDesk$Payment") (T := T_P) (N := 7) hx hb ht hin_P hown hK (hW.1.one (t := 8) hk2) 0 rfl rfl 5 (by decide) (ht _ tw_231) (fun _ h9 => h9) rfl d_B_enqueue_30 ?_
      refine lv_aload_n hx hb d_B_enqueue_33 rfl (lv_at hl 1 rfl) ?_
      obtain ⟨hn3, hf⟩ := og_if hf
      refine va_get (D := D) (ci := 1) (C := "GridlockDesk$Payment") (T := T_P) (N := 7) hx hb ht hin_P hown hK (hW.1.one (t := 8) hn3) 0 rfl rfl 5 (by decide) (ht _ tw_231) (fun _ h9 => h9) rfl d_B_enqueue_34 ?_
      refine lv_icmp_ge (tgt := 60) hx hb d_B_enqueue_37 rfl (fun hc => ?_) (fun hc => ?_)
      · replace hf := og_t hc hf
        exact hk _ _ _ _ _  (lv_sub hl [0, 1, 2] rfl) hW hS hf
      · replace hf := og_f hc hf
        refine lv_aload_n hx hb d_B_enqueue_40 rfl (lv_at hl 0 rfl) ?_
        refine va_get (D := D) (ci := 0) (C := "GridlockDesk$Bank") (T := T_B) (N := 7) hx hb ht hin_B hown hK (hW.1.one (t := 4) hv0) 0 rfl rfl 5 (by decide) (ht _ tw_72) (fun _ h9 => h9) rfl d_B_enqueue_41 ?_
        refine lv_iload_n hx hb d_B_enqueue_44 rfl (lv_at hl 2 rfl) ?_
        refine lv_aload_n hx hb d_B_enqueue_45 rfl (lv_at hl 0 rfl) ?_
        refine va_get (D := D) (ci := 0) (C := "GridlockDesk$Bank") (T := T_B) (N := 7) hx hb ht hin_B hown hK (hW.1.one (t := 4) hv0) 0 rfl rfl 5 (by decide) (ht _ tw_72) (fun _ h9 => h9) rfl d_B_enqueue_46 ?_
        refine lv_iload_n hx hb d_B_enqueue_49 rfl (lv_at hl 2 rfl) ?_
        refine lv_iconst (v := 1) hx hb d_B_enqueue_50 (by decide) ?_
        refine lv_isub hx hb d_B_enqueue_51 ?_
        obtain ⟨hin4, hf⟩ := og_if hf
        refine va_aldq (D := D) hx hb hK (hW.1.one (t := 7) hv0) 0 3 rfl rfl hin4 d_B_enqueue_52 ?_
        obtain ⟨k5, hk5, hf⟩ := og_b hf
        obtain ⟨ek5, hk5⟩ := dR_spec hk5
        rw [ek5]
        refine W.eq (g2 := F0 m 53 ls [.ref (ad 8 k5), _, _]) rfl ?_
        obtain ⟨hin6, hf⟩ := og_if hf
        obtain ⟨σ7, eσ7, hf⟩ := og_b hf
        cases eσ7
        refine k_aast  (t := 7) (tv := 8) hx hb hK hW.1 hS hv0 (hW.2 _ _ hv0) 3 1 hk5 rfl rfl rfl rfl hin6 d_B_enqueue_53 cc_wR1 (fun H locs hW1 hS => ?_)
        have hW := CW.wR hW1 hW.2
        refine lv_iinc (k := 2) (v := _ + (-1)) (lv' := [(2, .int _), (0, .ref _), (1, .ref _)]) hx hb d_B_enqueue_54 hl rfl rfl (by decide) rfl (fun ls hl => ?_)
        refine lv_goto (tgt := 18) hx hb d_B_enqueue_57 rfl ?_
        exact ih _ _ _ _ _ hv0 (lv_sub hl [1, 2, 0] rfl) hW hS hf

set_option maxHeartbeats 4000000 in
set_option maxRecDepth 100000 in
theorem m_B_enqueue (l : Launch) (D : va_G) (cA : Nat → ClassId) (ad : Nat → Nat → Nat) (n : Nat) (A : Nat → Prop) (σ : St) (a0 : Nat) (x1 : Nat) (ha0 : a0 < n) (out : Unit × St) (hf : f_B_enqueue n σ a0 x1 = some out) : Met l y_B_enqueue ws_B_enqueue ({ frames := 0, cells := 0, slots := 0, locals := 0 }) (va_Pc [.ref (ad 4 a0), .ref (ad 8 x1)] (fun U => CW D cA ad n A σ U.heap ∧ va_K D vCl (atys cA) U)) (va_Qv (fun u => ((), u) = out) (fun u t => CW D cA ad n A u t.heap ∧ va_K D vCl (atys cA) t) A) 0 0 A := by
  refine Met.ofW (cc := prog_2_method_2_code) (maxL := 3) (ret := none) (by decide) rfl ?_
  intro p e s m args below meth c s₁ B hml hv
  obtain ⟨rfl, hW, hK⟩ := hv
  have hx := B.exec
  have hb := B.bytes
  have hr := B.returns
  have hts := atoms_spec (ws := ws_B_enqueue) B.pre
  have ht : ∀ w ∈ TB, w.before _ s = true := fun w h => hts w (List.mem_cons_of_mem _ h)
  have hown : s.vm.findClass "GridlockDesk$Bank" = some m.cls := findClass_of_methodNamed B.named
  have hlocks := B.notSynchronized
  have hS : va_S A s.heap s.heap [] := va_S.rf
  have hl := lv_entry ([.ref (ad 4 a0), .ref (ad 8 x1)]) (n := 3) (Nat.le_of_ble_eq_true rfl)
  rw [lg_entry_eq]
  generalize (lg_sl ([.ref (ad 4 a0), .ref (ad 8 x1)]) ++ List.replicate (3 - (lg_sl ([.ref (ad 4 a0), .ref (ad 8 x1)])).length) Slot.unset).toArray = ls at hl ⊢
  have hl : lv_has ls 3 [(0, .ref (ad 4 a0)), (1, .ref (ad 8 x1))] := hl
  unfold f_B_enqueue at hf
  refine lv_aload_n hx hb d_B_enqueue_0 rfl (lv_at hl 0 rfl) ?_
  refine va_get (D := D) (ci := 0) (C := "GridlockDesk$Bank") (T := T_B) (N := 7) hx hb ht hin_B hown hK (hW.1.one (t := 4) ha0) 0 rfl rfl 6 (by decide) (ht _ tw_74) (fun _ h9 => h9) rfl d_B_enqueue_1 ?_
  refine lv_aload_n hx hb d_B_enqueue_4 rfl (lv_at hl 0 rfl) ?_
  refine va_get (D := D) (ci := 0) (C := "GridlockDesk$Bank") (T := T_B) (N := 7) hx hb ht hin_B hown hK (hW.1.one (t := 4) ha0) 0 rfl rfl 5 (by decide) (ht _ tw_72) (fun _ h9 => h9) rfl d_B_enqueue_5 ?_
  refine va_alen (D := D) (v := nI 6) hx hb hK (hW.1.one (t := 7) ha0) 0 3 rfl rfl rfl d_B_enqueue_8 ?_
  refine lv_icmp_lt (tgt := 13) hx hb d_B_enqueue_9 rfl (fun hc => ?_) (fun hc => ?_)
  · replace hf := og_t hc hf
    refine lv_aload_n hx hb d_B_enqueue_13 rfl (lv_at hl 0 rfl) ?_
    refine va_get (D := D) (ci := 0) (C := "GridlockDesk$Bank") (T := T_B) (N := 7) hx hb ht hin_B hown hK (hW.1.one (t := 4) ha0) 0 rfl rfl 6 (by decide) (ht _ tw_74) (fun _ h9 => h9) rfl d_B_enqueue_14 ?_
    refine lv_istore_n (lv' := [(2, .int _), (0, .ref _), (1, .ref _)]) hx hb d_B_enqueue_17 rfl hl (by decide) rfl (fun ls hl => ?_)
    refine lp_B_enqueue_18_ok D cA ad n A hx hb hml hr hts hown hlocks hK _ _ _ _ (fun σ9 y2_8 H locs ls  hl hW hS hf => ?_) _ _ _ _ _ _ ha0 (lv_sub hl [1, 2, 0] rfl) hW hS hf
    refine lv_aload_n hx hb d_B_enqueue_60 rfl (lv_at hl 0 rfl) ?_
    refine va_get (D := D) (ci := 0) (C := "GridlockDesk$Bank") (T := T_B) (N := 7) hx hb ht hin_B hown hK (hW.1.one (t := 4) ha0) 0 rfl rfl 5 (by decide) (ht _ tw_72) (fun _ h9 => h9) rfl d_B_enqueue_61 ?_
    refine lv_iload_n hx hb d_B_enqueue_64 rfl (lv_at hl 2 rfl) ?_
    refine lv_aload_n hx hb d_B_enqueue_65 rfl (lv_at hl 1 rfl) ?_
    obtain ⟨hn10, hf⟩ := og_if hf
    obtain ⟨hin11, hf⟩ := og_if hf
    obtain ⟨σ12, eσ12, hf⟩ := og_b hf
    cases eσ12
    refine k_aast  (t := 7) (tv := 8) hx hb hK hW.1 hS ha0 (hW.2 _ _ ha0) 3 1 hn10 rfl rfl rfl rfl hin11 d_B_enqueue_66 cc_wR1 (fun H locs hW1 hS => ?_)
    have hW := CW.wR hW1 hW.2
    refine lv_aload_n hx hb d_B_enqueue_67 rfl (lv_at hl 0 rfl) ?_
    refine lv_dup hx hb d_B_enqueue_68 rfl ?_
    refine va_get (D := D) (ci := 0) (C := "GridlockDesk$Bank") (T := T_B) (N := 7) hx hb ht hin_B hown hK (hW.1.one (t := 4) ha0) 0 rfl rfl 6 (by decide) (ht _ tw_74) (fun _ h9 => h9) rfl d_B_enqueue_69 ?_
    refine lv_iconst (v := 1) hx hb d_B_enqueue_72 (by decide) ?_
    refine lv_iadd hx hb d_B_enqueue_73 ?_
    obtain ⟨σ13, eσ13, hf⟩ := og_b hf
    cases eσ13
    refine k_put  (ci := 0) (C := "GridlockDesk$Bank") (T := T_B) (N := 7) (ty := .int) (t := 4) hx hb ht hin_B ft_B ft_B_ok nm_B hown hK hW.1 hS ha0 (hW.2 _ _ ha0) rfl rfl 6 (by decide) (ht _ tw_74) (fun _ h9 => h9) rfl (by decide +kernel) rfl rfl (Nat.le_of_ble_eq_true rfl) d_B_enqueue_74 cc_wI3 (fun H locs hW1 hS => ?_)
    have hW := CW.wI hW1 hW.2
    exact W.vret hx hb hr (fun t ht hWm => ⟨⟨_, rfl, Option.some.inj hf, by rw [ht]; exact hW, va_K.moved hWm.alike hK⟩, hS.F ht⟩) hS.2.2 d_B_enqueue_77
  · replace hf := og_f hc hf
    exact W.vret hx hb hr (fun t ht hWm => ⟨⟨_, rfl, Option.some.inj hf, by rw [ht]; exact hW, va_K.moved hWm.alike hK⟩, hS.F ht⟩) hS.2.2 d_B_enqueue_12

set_option maxHeartbeats 4000000 in
set_option maxRecDepth 100000 in
theorem m_X_isBank (l : Launch) (D : va_G) (cA : Nat → ClassId) (ad : Nat → Nat → Nat) (n : Nat) (A : Nat → Prop) (σ : St) (x1 : Int32)  (out : Int32 × St) (hf : f_X_isBank n σ x1 = some out) : Met l y_X_isBank ws_X_isBank ({ frames := 0, cells := 0, slots := 0, locals := 0 }) (va_Pc [.ref (ad 0 0), .int x1] (fun U => CW D cA ad n A σ U.heap ∧ va_K D vCl (atys cA) U)) (va_Qi (fun r u => (r, u) = out) (fun u t => CW D cA ad n A u t.heap ∧ va_K D vCl (atys cA) t) A) 0 0 A := by
  refine Met.ofW (cc := prog_1_method_19_code) (maxL := 2) (ret := (some .boolean)) (by decide) rfl ?_
  intro p e s m args below meth c s₁ B hml hv
  obtain ⟨rfl, hW, hK⟩ := hv
  have hx := B.exec
  have hb := B.bytes
  have hr := B.returns
  have hts := atoms_spec (ws := ws_X_isBank) B.pre
  have ht : ∀ w ∈ TB, w.before _ s = true := fun w h => hts w (List.mem_cons_of_mem _ h)
  have hown : s.vm.findClass "GridlockDesk" = some m.cls := findClass_of_methodNamed B.named
  have hlocks := B.notSynchronized
  have hS : va_S A s.heap s.heap [] := va_S.rf
  have hl := lv_entry ([.ref (ad 0 0), .int x1]) (n := 2) (Nat.le_of_ble_eq_true rfl)
  rw [lg_entry_eq]
  generalize (lg_sl ([.ref (ad 0 0), .int x1]) ++ List.replicate (2 - (lg_sl ([.ref (ad 0 0), .int x1])).length) Slot.unset).toArray = ls at hl ⊢
  have hl : lv_has ls 2 [(0, .ref (ad 0 0)), (1, .int x1)] := hl
  unfold f_X_isBank at hf
  refine lv_iload_n hx hb d_X_isBank_0 rfl (lv_at hl 1 rfl) ?_
  refine lv_if_lt (tgt := 17) hx hb d_X_isBank_1 rfl (fun hc => ?_) (fun hc => ?_)
  · replace hf := og_t hc hf
    refine lv_iconst (v := 0) hx hb d_X_isBank_17 (by decide) ?_
    exact W.zret hx hb hr rfl (fun t ht hWm => ⟨⟨_, _, rfl, Option.some.inj hf, by rw [ht]; exact hW, va_K.moved hWm.alike hK⟩, hS.F ht⟩) hS.2.2 d_X_isBank_18
  · replace hf := og_f hc hf
    refine lv_iload_n hx hb d_X_isBank_4 rfl (lv_at hl 1 rfl) ?_
    refine lv_aload_n hx hb d_X_isBank_5 rfl (lv_at hl 0 rfl) ?_
    refine va_get (D := D) (ci := 2) (C := "GridlockDesk") (T := T_X) (N := 6) hx hb ht hin_X hown hK (hW.1.one (t := 0) rfl) 0 rfl rfl 0 (by decide) (ht _ tw_93) (fun _ h9 => h9) rfl d_X_isBank_6 ?_
    refine va_alen (D := D) (v := nI n) hx hb hK (hW.1.one (t := 1) rfl) 0 2 rfl rfl rfl d_X_isBank_9 ?_
    refine lv_icmp_ge (tgt := 17) hx hb d_X_isBank_10 rfl (fun hc => ?_) (fun hc => ?_)
    · replace hf := og_t hc hf
      refine lv_iconst (v := 0) hx hb d_X_isBank_17 (by decide) ?_
      exact W.zret hx hb hr rfl (fun t ht hWm => ⟨⟨_, _, rfl, Option.some.inj hf, by rw [ht]; exact hW, va_K.moved hWm.alike hK⟩, hS.F ht⟩) hS.2.2 d_X_isBank_18
    · replace hf := og_f hc hf
      refine lv_iconst (v := 1) hx hb d_X_isBank_13 (by decide) ?_
      refine lv_goto (tgt := 18) hx hb d_X_isBank_14 rfl ?_
      exact W.zret hx hb hr rfl (fun t ht hWm => ⟨⟨_, _, rfl, Option.some.inj hf, by rw [ht]; exact hW, va_K.moved hWm.alike hK⟩, hS.F ht⟩) hS.2.2 d_X_isBank_18

set_option maxHeartbeats 4000000 in
set_option maxRecDepth 100000 in
theorem m_X_areTwoBanks (l : Launch) (D : va_G) (cA : Nat → ClassId) (ad : Nat → Nat → Nat) (n : Nat) (A : Nat → Prop) (σ : St) (x1 : Int32) (x2 : Int32)  (out : Int32 × St) (hf : f_X_areTwoBanks n σ x1 x2 = some out) : Met l y_X_areTwoBanks ws_X_areTwoBanks ({ frames := 1, cells := 0, slots := 0, locals := 21 }) (va_Pc [.ref (ad 0 0), .int x1, .int x2] (fun U => CW D cA ad n A σ U.heap ∧ va_K D vCl (atys cA) U)) (va_Qi (fun r u => (r, u) = out) (fun u t => CW D cA ad n A u t.heap ∧ va_K D vCl (atys cA) t) A) 0 0 A := by
  refine Met.ofW (cc := prog_1_method_20_code) (maxL := 3) (ret := (some .boolean)) (by decide) rfl ?_
  intro p e s m args below meth c s₁ B hml hv
  obtain ⟨rfl, hW, hK⟩ := hv
  have hx := B.exec
  have hb := B.bytes
  have hr := B.returns
  have hts := atoms_spec (ws := ws_X_areTwoBanks) B.pre
  have ht : ∀ w ∈ TB, w.before _ s = true := fun w h => hts w (List.mem_cons_of_mem _ h)
  have hown : s.vm.findClass "GridlockDesk" = some m.cls := findClass_of_methodNamed B.named
  have hlocks := B.notSynchronized
  have hS : va_S A s.heap s.heap [] := va_S.rf
  have hl := lv_entry ([.ref (ad 0 0), .int x1, .int x2]) (n := 3) (Nat.le_of_ble_eq_true rfl)
  rw [lg_entry_eq]
  generalize (lg_sl ([.ref (ad 0 0), .int x1, .int x2]) ++ List.replicate (3 - (lg_sl ([.ref (ad 0 0), .int x1, .int x2])).length) Slot.unset).toArray = ls at hl ⊢
  have hl : lv_has ls 3 [(0, .ref (ad 0 0)), (1, .int x1), (2, .int x2)] := hl
  unfold f_X_areTwoBanks at hf
  refine lv_aload_n hx hb d_X_areTwoBanks_0 rfl (lv_at hl 0 rfl) ?_
  refine lv_iload_n hx hb d_X_areTwoBanks_1 rfl (lv_at hl 1 rfl) ?_
  obtain ⟨o1, ho1, hf⟩ := og_b hf
  refine kc_i (P := (fun u H => CW D cA ad n A u H)) (va_runV (C := "GridlockDesk") (As := [.int _]) (rest := []) ⟨hx, hb, hml, hown, hts⟩ (m_X_isBank l D cA ad n A _  _  o1 ho1) (cwV 1 hts (tb_V tw_117 tw_119 tw_0 tw_31 tw_120) rfl rfl rfl (by decide +kernel) ⟨Nat.le_of_ble_eq_true rfl, Nat.le_of_ble_eq_true rfl⟩) ⟨k_blind, kw.recv hK hW.1 (t := 0) rfl rfl rfl, k_pre hW hK⟩ rfl rfl hl.1 rfl (lv_room (Nat.le_of_ble_eq_true rfl)) d_X_areTwoBanks_2 ⟨Nat.zero_le _, Nat.zero_le _⟩) hS (fun H locs hW hS => ?_)
  refine lv_if_eq (tgt := 25) hx hb d_X_areTwoBanks_5 rfl (fun hc => ?_) (fun hc => ?_)
  · replace hf := og_t hc hf
    refine lv_iconst (v := 0) hx hb d_X_areTwoBanks_25 (by decide) ?_
    exact W.zret hx hb hr rfl (fun t ht hWm => ⟨⟨_, _, rfl, Option.some.inj hf, by rw [ht]; exact hW, va_K.moved hWm.alike hK⟩, hS.F ht⟩) hS.2.2 d_X_areTwoBanks_26
  · replace hf := og_f hc hf
    refine lv_aload_n hx hb d_X_areTwoBanks_8 rfl (lv_at hl 0 rfl) ?_
    refine lv_iload_n hx hb d_X_areTwoBanks_9 rfl (lv_at hl 2 rfl) ?_
    obtain ⟨o2, ho2, hf⟩ := og_b hf
    refine kc_i (P := (fun u H => CW D cA ad n A u H)) (va_runV (C := "GridlockDesk") (As := [.int _]) (rest := []) ⟨hx, hb, hml, hown, hts⟩ (m_X_isBank l D cA ad n A _  _  o2 ho2) (cwV 1 hts (tb_V tw_117 tw_119 tw_0 tw_31 tw_120) rfl rfl rfl (by decide +kernel) ⟨Nat.le_of_ble_eq_true rfl, Nat.le_of_ble_eq_true rfl⟩) ⟨k_blind, kw.recv hK hW.1 (t := 0) rfl rfl rfl, k_pre hW hK⟩ rfl rfl hl.1 rfl (lv_room (Nat.le_of_ble_eq_true rfl)) d_X_areTwoBanks_10 ⟨Nat.zero_le _, Nat.zero_le _⟩) hS (fun H locs hW hS => ?_)
    refine lv_if_eq (tgt := 25) hx hb d_X_areTwoBanks_13 rfl (fun hc => ?_) (fun hc => ?_)
    · replace hf := og_t hc hf
      refine lv_iconst (v := 0) hx hb d_X_areTwoBanks_25 (by decide) ?_
      exact W.zret hx hb hr rfl (fun t ht hWm => ⟨⟨_, _, rfl, Option.some.inj hf, by rw [ht]; exact hW, va_K.moved hWm.alike hK⟩, hS.F ht⟩) hS.2.2 d_X_areTwoBanks_26
    · replace hf := og_f hc hf
      refine lv_iload_n hx hb d_X_areTwoBanks_16 rfl (lv_at hl 1 rfl) ?_
      refine lv_iload_n hx hb d_X_areTwoBanks_17 rfl (lv_at hl 2 rfl) ?_
      refine lv_icmp_eq (tgt := 25) hx hb d_X_areTwoBanks_18 rfl (fun hc => ?_) (fun hc => ?_)
      · replace hf := og_t hc hf
        refine lv_iconst (v := 0) hx hb d_X_areTwoBanks_25 (by decide) ?_
        exact W.zret hx hb hr rfl (fun t ht hWm => ⟨⟨_, _, rfl, Option.some.inj hf, by rw [ht]; exact hW, va_K.moved hWm.alike hK⟩, hS.F ht⟩) hS.2.2 d_X_areTwoBanks_26
      · replace hf := og_f hc hf
        refine lv_iconst (v := 1) hx hb d_X_areTwoBanks_21 (by decide) ?_
        refine lv_goto (tgt := 26) hx hb d_X_areTwoBanks_22 rfl ?_
        exact W.zret hx hb hr rfl (fun t ht hWm => ⟨⟨_, _, rfl, Option.some.inj hf, by rw [ht]; exact hW, va_K.moved hWm.alike hK⟩, hS.F ht⟩) hS.2.2 d_X_areTwoBanks_26

