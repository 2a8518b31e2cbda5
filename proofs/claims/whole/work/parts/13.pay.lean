def f_X_payP (n : Nat) (k : St → Int32 → Option (Int32 × St)) (σ : St) (x1 : Int32) (x2 : Int32) (x3 : Int64) (x4 : Int32) (x5 : Int32) : Option (Int32 × St) :=
  (f_X_areTwoBanks n σ x1 x2).bind fun o1 =>
  if o1.1 = 0 then
  some ((-1), o1.2)
  else
  if x3 < 1 then
  some ((-1), o1.2)
  else
  if 1000000000000 < x3 then
  some ((-1), o1.2)
  else
  (f_X_isPriority n o1.2 x4).bind fun o2 =>
  if o2.1 = 0 then
  some ((-1), o2.2)
  else
  if x5 < (sI o2.2 1 0 0) then
  some ((-1), o2.2)
  else
  if (sI o2.2 0 0 0) < 100 then
  if vin x1 n then
  if (sI o2.2 3 (Int32.toNatClampNeg x1) 0) < 6 then
  k o2.2 (sI o2.2 0 0 0)
  else
  some ((-2), o2.2)
  else none
  else
  some ((-3), o2.2)
def f_X_payS (n : Nat) (σ : St) (x1 : Int32) (v8 : Int32) (v9 : Nat) : Option (Int32 × St) :=
  if v9 < sN σ then
  if vin v8 100 then
  (some (wR σ 0 0 (Int32.toNatClampNeg v8) (some v9))).bind fun σ3 =>
  (some (wI σ3 0 0 0 ((sI σ3 0 0 0) + 1))).bind fun σ4 =>
  if vin x1 n then
  (f_B_enqueue n σ4 (Int32.toNatClampNeg x1) v9).bind fun o6 =>
  (f_X_sweep n o6.2).bind fun o7 =>
  some (v8, o7.2)
  else none
  else none
  else none
/-- one more payment -/
def xnew (σ : St) (num fr to : Int32) (am : Int64) (pr un : Int32) : St := (fun c i j => if i = sN σ ∧ j = 0 ∧ c = 4 then num else if i = sN σ ∧ j = 0 ∧ c = 5 then fr else if i = sN σ ∧ j = 0 ∧ c = 6 then to else if i = sN σ ∧ j = 0 ∧ c = 7 then un else if i = sN σ ∧ j = 0 ∧ c = 8 then pr else if i = sN σ ∧ j = 0 ∧ c = 9 then 0 else σ.1 c i j, fun c i j => if i = sN σ ∧ j = 0 ∧ c = 6 then am else σ.2.1 c i j, σ.2.2.1, sN σ + 1)
/-- no reference points beyond the payments that are there -/
def VR (σ : St) : Prop := ∀ c i j k, sR σ c i j = some k → k < sN σ
noncomputable def f_X_pay (n : Nat) (σ : St) (x1 : Int32) (x2 : Int32) (x3 : Int64) (x4 : Int32) (x5 : Int32) : Option (Int32 × St) := f_X_payP n (fun σ1 v8 => @ite _ (VR σ1) (Classical.propDecidable _) (f_X_payS n (xnew σ1 v8 x1 x2 x3 x4 x5) x1 v8 (sN σ1)) none) σ x1 x2 x3 x4 x5
set_option maxHeartbeats 4000000 in
set_option maxRecDepth 100000 in
theorem pp_X_pay {p : Program} {l : Launch} {e : Env} {s : State} {m : MethodId} {args : Array Value} {below : List Frame} {meth : Method} {c : Code} {Q : State → Prop} (D : va_G) (cA : Nat → ClassId) (ad : Nat → Nat → Nat) (n : Nat) (A : Nat → Prop) (hx : p.tables.exec = Jvm.exec) (hb : c.code = prog_1_method_6_code) (hml : c.maxLocals = 10) (hts : ∀ w ∈ ws_X_pay, w.before args s = true) (hown : s.vm.findClass "GridlockDesk" = some m.cls) (hK : va_K D vCl (atys cA) s) (x1 : Int32) (x2 : Int32) (x3 : Int64) (x4 : Int32) (x5 : Int32) (k : St → Int32 → Option (Int32 × St)) (out : Int32 × St) (hret : ∀ (r : Int32) (σ : St) (H : Heap) (locs : List Loc) (ls : Array Slot) (pc : Nat), decode prog_1_method_6_code pc = .ok (.ireturn, 1) → some (r, σ) = some out → CW D cA ad n A σ H → va_S A s.heap H locs → W p l e (headSpec ws_X_pay ({ frames := 6, cells := 1, slots := 7, locals := 140 })).room s m args below meth c H locs 0 0 Q (F0 m pc ls [.int r])) (hk : ∀ (σ : St) (v8 : Int32) (H : Heap) (locs : List Loc) (ls : Array Slot), lv_has ls 10 [(0, .ref (ad 0 0)), (1, .int x1), (2, .int x2), (3, .long x3), (5, .int x4), (6, .int x5), (8, .int v8)] → CW D cA ad n A σ H → va_S A s.heap H locs → k σ v8 = some out → W p l e (headSpec ws_X_pay ({ frames := 6, cells := 1, slots := 7, locals := 140 })).room s m args below meth c H locs 0 0 Q (F0 m 89 ls [])) (σ : St) (H : Heap) (locs : List Loc) (ls : Array Slot) (hl : lv_has ls 10 [(0, .ref (ad 0 0)), (1, .int x1), (2, .int x2), (3, .long x3), (5, .int x4), (6, .int x5)]) (hW : CW D cA ad n A σ H) (hS : va_S A s.heap H locs) (hf : f_X_payP n k σ x1 x2 x3 x4 x5 = some out) : W p l e (headSpec ws_X_pay ({ frames := 6, cells := 1, slots := 7, locals := 140 })).room s m args below meth c H locs 0 0 Q (F0 m 0 ls []) := by
  have ht : ∀ w ∈ TB, w.before args s = true := fun w h => hts w (List.mem_cons_of_mem _ h)
  unfold f_X_payP at hf
  refine lv_aload_n hx hb d_X_pay_0 rfl (lv_at hl 0 rfl) ?_
  refine lv_iload_n hx hb d_X_pay_1 rfl (lv_at hl 1 rfl) ?_
  refine lv_iload_n hx hb d_X_pay_2 rfl (lv_at hl 2 rfl) ?_
  obtain ⟨o1, ho1, hf⟩ := og_b hf
  refine kc_i (P := (fun u H => CW D cA ad n A u H)) (va_runV (C := "GridlockDesk") (As := [.int _, .int _]) (rest := []) ⟨hx, hb, hml, hown, hts⟩ (m_X_areTwoBanks l D cA ad n A _  _ _  o1 ho1) (cwV 2 hts (tb_V tw_191 tw_193 tw_11 tw_31 tw_194) rfl rfl rfl (by decide +kernel) ⟨Nat.le_of_ble_eq_true rfl, Nat.le_of_ble_eq_true rfl⟩) ⟨k_blind, kw.recv hK hW.1 (t := 0) rfl rfl rfl, k_pre hW hK⟩ rfl rfl hl.1 rfl (lv_room (Nat.le_of_ble_eq_true rfl)) d_X_pay_3 ⟨Nat.le_of_ble_eq_true rfl, Nat.le_of_ble_eq_true rfl⟩) hS (fun H locs hW hS => ?_)
  refine lv_if_eq (tgt := 44) hx hb d_X_pay_6 rfl (fun hc => ?_) (fun hc => ?_)
  · replace hf := og_t hc hf
    refine lv_iconst (v := 0) hx hb d_X_pay_44 (by decide) ?_
    refine lv_istore (lv' := [(7, .int _), (0, .ref _), (1, .int _), (2, .int _), (3, .long _), (5, .int _), (6, .int _)]) hx hb d_X_pay_45 hl (by decide) rfl (fun ls hl => ?_)
    refine lv_iload hx hb d_X_pay_47 (lv_at hl 0 rfl) ?_
    refine lv_if_ne (tgt := 54) hx hb d_X_pay_49 rfl (fun hc => absurd (by decide) hc) (fun _ => ?_)
    refine lv_iconst (v := (-1)) hx hb d_X_pay_52 (by decide) ?_
    exact hret _ _ _ _ _ _ d_X_pay_53 hf hW hS
  · replace hf := og_f hc hf
    refine lv_lload_n hx hb d_X_pay_9 rfl (lv_at hl 3 rfl) ?_
    refine lv_lconst (v := 1) hx hb d_X_pay_10 (by decide) ?_
    refine lc_lt (tgt := 44) hx hb d_X_pay_11 d_X_pay_12 rfl (fun hc => ?_) (fun hc => ?_)
    · replace hf := og_t hc hf
      refine lv_iconst (v := 0) hx hb d_X_pay_44 (by decide) ?_
      refine lv_istore (lv' := [(7, .int _), (0, .ref _), (1, .int _), (2, .int _), (3, .long _), (5, .int _), (6, .int _)]) hx hb d_X_pay_45 hl (by decide) rfl (fun ls hl => ?_)
      refine lv_iload hx hb d_X_pay_47 (lv_at hl 0 rfl) ?_
      refine lv_if_ne (tgt := 54) hx hb d_X_pay_49 rfl (fun hc => absurd (by decide) hc) (fun _ => ?_)
      refine lv_iconst (v := (-1)) hx hb d_X_pay_52 (by decide) ?_
      exact hret _ _ _ _ _ _ d_X_pay_53 hf hW hS
    · replace hf := og_f hc hf
      refine lv_lload_n hx hb d_X_pay_15 rfl (lv_at hl 3 rfl) ?_
      refine lv_ldc2 (v := 1000000000000) hx hb hown (ht _ tw_122) d_X_pay_16 ?_
      refine lc_gt (tgt := 44) hx hb d_X_pay_19 d_X_pay_20 rfl (fun hc => ?_) (fun hc => ?_)
      · replace hf := og_t hc hf
        refine lv_iconst (v := 0) hx hb d_X_pay_44 (by decide) ?_
        refine lv_istore (lv' := [(7, .int _), (0, .ref _), (1, .int _), (2, .int _), (3, .long _), (5, .int _), (6, .int _)]) hx hb d_X_pay_45 hl (by decide) rfl (fun ls hl => ?_)
        refine lv_iload hx hb d_X_pay_47 (lv_at hl 0 rfl) ?_
        refine lv_if_ne (tgt := 54) hx hb d_X_pay_49 rfl (fun hc => absurd (by decide) hc) (fun _ => ?_)
        refine lv_iconst (v := (-1)) hx hb d_X_pay_52 (by decide) ?_
        exact hret _ _ _ _ _ _ d_X_pay_53 hf hW hS
      · replace hf := og_f hc hf
        refine lv_iload hx hb d_X_pay_23 (lv_at hl 4 rfl) ?_
        obtain ⟨o2, ho2, hf⟩ := og_b hf
        refine kc_i (P := (fun u H => CW D cA ad n A u H)) (va_runS (As := [.int _]) (rest := []) ⟨hx, hb, hml, hown, hts⟩ (m_X_isPriority l D cA ad n A _  _  o2 ho2) (va_cwS 1 hts (tb_S tw_210 tw_211 tw_31 tw_212) rfl rfl rfl (by decide +kernel) ⟨Nat.le_of_ble_eq_true rfl, Nat.le_of_ble_eq_true rfl⟩) ⟨k_blind, k_pre hW hK⟩ rfl rfl hl.1 rfl (lv_room (Nat.le_of_ble_eq_true rfl)) d_X_pay_25 ⟨Nat.le_of_ble_eq_true rfl, Nat.le_of_ble_eq_true rfl⟩) hS (fun H locs hW hS => ?_)
        refine lv_if_eq (tgt := 44) hx hb d_X_pay_28 rfl (fun hc => ?_) (fun hc => ?_)
        · replace hf := og_t hc hf
          refine lv_iconst (v := 0) hx hb d_X_pay_44 (by decide) ?_
          refine lv_istore (lv' := [(7, .int _), (0, .ref _), (1, .int _), (2, .int _), (3, .long _), (5, .int _), (6, .int _)]) hx hb d_X_pay_45 hl (by decide) rfl (fun ls hl => ?_)
          refine lv_iload hx hb d_X_pay_47 (lv_at hl 0 rfl) ?_
          refine lv_if_ne (tgt := 54) hx hb d_X_pay_49 rfl (fun hc => absurd (by decide) hc) (fun _ => ?_)
          refine lv_iconst (v := (-1)) hx hb d_X_pay_52 (by decide) ?_
          exact hret _ _ _ _ _ _ d_X_pay_53 hf hW hS
        · replace hf := og_f hc hf
          refine lv_iload hx hb d_X_pay_31 (lv_at hl 5 rfl) ?_
          refine lv_aload_n hx hb d_X_pay_33 rfl (lv_at hl 0 rfl) ?_
          refine va_get (D := D) (ci := 2) (C := "GridlockDesk") (T := T_X) (N := 6) hx hb ht hin_X hown hK (hW.1.one (t := 0) rfl) 0 rfl rfl 4 (by decide) (ht _ tw_97) (fun _ h9 => h9) rfl d_X_pay_34 ?_
          refine lv_icmp_lt (tgt := 44) hx hb d_X_pay_37 rfl (fun hc => ?_) (fun hc => ?_)
          · replace hf := og_t hc hf
            refine lv_iconst (v := 0) hx hb d_X_pay_44 (by decide) ?_
            refine lv_istore (lv' := [(7, .int _), (0, .ref _), (1, .int _), (2, .int _), (3, .long _), (5, .int _), (6, .int _)]) hx hb d_X_pay_45 hl (by decide) rfl (fun ls hl => ?_)
            refine lv_iload hx hb d_X_pay_47 (lv_at hl 0 rfl) ?_
            refine lv_if_ne (tgt := 54) hx hb d_X_pay_49 rfl (fun hc => absurd (by decide) hc) (fun _ => ?_)
            refine lv_iconst (v := (-1)) hx hb d_X_pay_52 (by decide) ?_
            exact hret _ _ _ _ _ _ d_X_pay_53 hf hW hS
          · replace hf := og_f hc hf
            refine lv_iconst (v := 1) hx hb d_X_pay_40 (by decide) ?_
            refine lv_goto (tgt := 45) hx hb d_X_pay_41 rfl ?_
            refine lv_istore (lv' := [(7, .int _), (0, .ref _), (1, .int _), (2, .int _), (3, .long _), (5, .int _), (6, .int _)]) hx hb d_X_pay_45 hl (by decide) rfl (fun ls hl => ?_)
            refine lv_iload hx hb d_X_pay_47 (lv_at hl 0 rfl) ?_
            refine lv_if_ne (tgt := 54) hx hb d_X_pay_49 rfl (fun _ => ?_) (fun hc => absurd hc (by decide))
            refine lv_aload_n hx hb d_X_pay_54 rfl (lv_at hl 1 rfl) ?_
            refine va_get (D := D) (ci := 2) (C := "GridlockDesk") (T := T_X) (N := 6) hx hb ht hin_X hown hK (hW.1.one (t := 0) rfl) 0 rfl rfl 2 (by decide) (ht _ tw_95) (fun _ h9 => h9) rfl d_X_pay_55 ?_
            refine lv_bipush (v := 100) hx hb d_X_pay_58 (by decide) ?_
            refine lv_icmp_lt (tgt := 66) hx hb d_X_pay_60 rfl (fun hc => ?_) (fun hc => ?_)
            · replace hf := og_t hc hf
              refine lv_aload_n hx hb d_X_pay_66 rfl (lv_at hl 1 rfl) ?_
              refine va_get (D := D) (ci := 2) (C := "GridlockDesk") (T := T_X) (N := 6) hx hb ht hin_X hown hK (hW.1.one (t := 0) rfl) 0 rfl rfl 0 (by decide) (ht _ tw_93) (fun _ h9 => h9) rfl d_X_pay_67 ?_
              refine lv_iload_n hx hb d_X_pay_70 rfl (lv_at hl 2 rfl) ?_
              obtain ⟨hin3, hf⟩ := og_if hf
              refine va_aldq (D := D) hx hb hK (hW.1.one (t := 1) rfl) 0 2 rfl rfl hin3 d_X_pay_71 ?_
              refine W.eq (g2 := F0 m 72 ls (.ref (ad 4 _) :: [])) rfl ?_
              refine va_get (D := D) (ci := 0) (C := "GridlockDesk$Bank") (T := T_B) (N := 7) hx hb ht hin_B hown hK (hW.1.one (t := 4) (vin_lt hin3)) 0 rfl rfl 6 (by decide) (ht _ tw_75) (fun _ h9 => h9) rfl d_X_pay_72 ?_
              refine lv_bipush (v := 6) hx hb d_X_pay_75 (by decide) ?_
              refine lv_icmp_lt (tgt := 83) hx hb d_X_pay_77 rfl (fun hc => ?_) (fun hc => ?_)
              · replace hf := og_t hc hf
                refine lv_aload_n hx hb d_X_pay_83 rfl (lv_at hl 1 rfl) ?_
                refine va_get (D := D) (ci := 2) (C := "GridlockDesk") (T := T_X) (N := 6) hx hb ht hin_X hown hK (hW.1.one (t := 0) rfl) 0 rfl rfl 2 (by decide) (ht _ tw_95) (fun _ h9 => h9) rfl d_X_pay_84 ?_
                refine lv_istore (lv' := [(8, .int _), (7, .int _), (0, .ref _), (1, .int _), (2, .int _), (3, .long _), (5, .int _), (6, .int _)]) hx hb d_X_pay_87 hl (by decide) rfl (fun ls hl => ?_)
                exact hk _ _ _ _ _  (lv_sub hl [2, 3, 4, 5, 6, 7, 0] rfl) hW hS hf
              · replace hf := og_f hc hf
                refine lv_bipush (v := (-2)) hx hb d_X_pay_80 (by decide) ?_
                exact hret _ _ _ _ _ _ d_X_pay_82 hf hW hS
            · replace hf := og_f hc hf
              refine lv_bipush (v := (-3)) hx hb d_X_pay_63 (by decide) ?_
              exact hret _ _ _ _ _ _ d_X_pay_65 hf hW hS
set_option maxHeartbeats 4000000 in
set_option maxRecDepth 100000 in
theorem ss_X_pay {p : Program} {l : Launch} {e : Env} {s : State} {m : MethodId} {args : Array Value} {below : List Frame} {meth : Method} {c : Code} {Q : State → Prop} (D : va_G) (cA : Nat → ClassId) (ad : Nat → Nat → Nat) (n : Nat) (A : Nat → Prop) (hx : p.tables.exec = Jvm.exec) (hb : c.code = prog_1_method_6_code) (hml : c.maxLocals = 10) (hts : ∀ w ∈ ws_X_pay, w.before args s = true) (hown : s.vm.findClass "GridlockDesk" = some m.cls) (hK : va_K D vCl (atys cA) s) (out : Int32 × St) (hret : ∀ (r : Int32) (σ : St) (H : Heap) (locs : List Loc) (ls : Array Slot) (pc : Nat), decode prog_1_method_6_code pc = .ok (.ireturn, 1) → some (r, σ) = some out → CW D cA ad n A σ H → va_S A s.heap H locs → W p l e (headSpec ws_X_pay ({ frames := 6, cells := 1, slots := 7, locals := 140 })).room s m args below meth c H locs 1 7 Q (F0 m pc ls [.int r])) (x1 : Int32) (v8 : Int32) (v9 : Nat) (σ : St) (H : Heap) (locs : List Loc) (ls : Array Slot) (hl : lv_has ls 10 [(0, .ref (ad 0 0)), (1, .int x1), (8, .int v8), (9, .ref (ad 8 v9))]) (hW : CW D cA ad n A σ H) (hS : va_S A s.heap H locs) (hf : f_X_payS n σ x1 v8 v9 = some out) : W p l e (headSpec ws_X_pay ({ frames := 6, cells := 1, slots := 7, locals := 140 })).room s m args below meth c H locs 1 7 Q (F0 m 107 ls []) := by
  have ht : ∀ w ∈ TB, w.before args s = true := fun w h => hts w (List.mem_cons_of_mem _ h)
  unfold f_X_payS at hf
  refine lv_aload_n hx hb d_X_pay_107 rfl (lv_at hl 0 rfl) ?_
  refine va_get (D := D) (ci := 2) (C := "GridlockDesk") (T := T_X) (N := 6) hx hb ht hin_X hown hK (hW.1.one (t := 0) rfl) 0 rfl rfl 1 (by decide) (ht _ tw_94) (fun _ h9 => h9) rfl d_X_pay_108 ?_
  refine lv_iload hx hb d_X_pay_111 (lv_at hl 2 rfl) ?_
  refine lv_aload hx hb d_X_pay_113 (lv_at hl 3 rfl) ?_
  obtain ⟨hn1, hf⟩ := og_if hf
  obtain ⟨hin2, hf⟩ := og_if hf
  obtain ⟨σ3, eσ3, hf⟩ := og_b hf
  cases eσ3
  refine k_aast  (t := 2) (tv := 8) hx hb hK hW.1 hS rfl (hW.2 _ _ rfl) 3 1 hn1 rfl rfl rfl rfl hin2 d_X_pay_115 cc_wR0 (fun H locs hW1 hS => ?_)
  have hW := CW.wR hW1 hW.2
  refine lv_aload_n hx hb d_X_pay_116 rfl (lv_at hl 0 rfl) ?_
  refine lv_dup hx hb d_X_pay_117 rfl ?_
  refine va_get (D := D) (ci := 2) (C := "GridlockDesk") (T := T_X) (N := 6) hx hb ht hin_X hown hK (hW.1.one (t := 0) rfl) 0 rfl rfl 2 (by decide) (ht _ tw_95) (fun _ h9 => h9) rfl d_X_pay_118 ?_
  refine lv_iconst (v := 1) hx hb d_X_pay_121 (by decide) ?_
  refine lv_iadd hx hb d_X_pay_122 ?_
  obtain ⟨σ4, eσ4, hf⟩ := og_b hf
  cases eσ4
  refine k_put  (ci := 2) (C := "GridlockDesk") (T := T_X) (N := 6) (ty := .int) (t := 0) hx hb ht hin_X ft_X ft_X_ok nm_X hown hK hW.1 hS rfl (hW.2 _ _ rfl) rfl rfl 2 (by decide) (ht _ tw_95) (fun _ h9 => h9) rfl (by decide +kernel) rfl rfl (Nat.le_of_ble_eq_true rfl) d_X_pay_123 cc_wI0 (fun H locs hW1 hS => ?_)
  have hW := CW.wI hW1 hW.2
  refine lv_aload_n hx hb d_X_pay_126 rfl (lv_at hl 0 rfl) ?_
  refine va_get (D := D) (ci := 2) (C := "GridlockDesk") (T := T_X) (N := 6) hx hb ht hin_X hown hK (hW.1.one (t := 0) rfl) 0 rfl rfl 0 (by decide) (ht _ tw_93) (fun _ h9 => h9) rfl d_X_pay_127 ?_
  refine lv_iload_n hx hb d_X_pay_130 rfl (lv_at hl 1 rfl) ?_
  obtain ⟨hin5, hf⟩ := og_if hf
  refine va_aldq (D := D) hx hb hK (hW.1.one (t := 1) rfl) 0 2 rfl rfl hin5 d_X_pay_131 ?_
  refine W.eq (g2 := F0 m 132 ls (.ref (ad 4 _) :: [])) rfl ?_
  refine lv_aload hx hb d_X_pay_132 (lv_at hl 3 rfl) ?_
  obtain ⟨o6, ho6, hf⟩ := og_b hf
  refine kc_v (P := (fun u H => CW D cA ad n A u H)) (va_runV (C := "GridlockDesk$Bank") (As := [.ref _]) (rest := []) ⟨hx, hb, hml, hown, hts⟩ (m_B_enqueue l D cA ad n A _ _ _ (vin_lt hin5) o6 ho6) (cwV 1 hts (tb_V tw_250 tw_251 tw_252 tw_33 tw_253) rfl rfl rfl (by decide +kernel) ⟨Nat.le_of_ble_eq_true rfl, Nat.le_of_ble_eq_true rfl⟩) ⟨k_blind, kw.recv hK hW.1 (t := 4) (vin_lt hin5) rfl rfl, k_pre hW hK⟩ rfl rfl hl.1 rfl (lv_room (Nat.le_of_ble_eq_true rfl)) d_X_pay_134 ⟨Nat.le_of_ble_eq_true rfl, Nat.le_of_ble_eq_true rfl⟩) hS (fun H locs hW hS => ?_)
  refine lv_aload_n hx hb d_X_pay_137 rfl (lv_at hl 0 rfl) ?_
  obtain ⟨o7, ho7, hf⟩ := og_b hf
  refine kc_v (P := (fun u H => CW D cA ad n A u H)) (va_runV (C := "GridlockDesk") (As := []) (rest := []) ⟨hx, hb, hml, hown, hts⟩ (m_X_sweep l D cA ad n A _    o7 ho7) (cwV 0 hts (tb_V tw_123 tw_125 tw_1 tw_31 tw_126) rfl rfl rfl (by decide +kernel) ⟨Nat.le_of_ble_eq_true rfl, Nat.le_of_ble_eq_true rfl⟩) ⟨k_blind, kw.recv hK hW.1 (t := 0) rfl rfl rfl, k_pre hW hK⟩ rfl rfl hl.1 rfl (lv_room (Nat.le_of_ble_eq_true rfl)) d_X_pay_138 ⟨Nat.le_of_ble_eq_true rfl, Nat.le_of_ble_eq_true rfl⟩) hS (fun H locs hW hS => ?_)
  refine lv_iload hx hb d_X_pay_141 (lv_at hl 2 rfl) ?_
  exact hret _ _ _ _ _ _ d_X_pay_143 hf hW hS
theorem xnew_ct (cA : Nat → ClassId) (ad : Nat → Nat → Nat) (n : Nat) (σ : St) (hv : VR σ) (num fr to : Int32) (am : Int64) (pr un : Int32) (q : Nat) : ∀ t i, cdom n (xnew σ num fr to am pr un) t i → (cdom n σ t i ∧ kup ad 8 (sN σ) q t i = ad t i ∧ cct cA (kup ad 8 (sN σ) q) n (xnew σ num fr to am pr un) t i = cct cA ad n σ t i) ∨ (t = 8 ∧ i = sN σ) := by
  intro t i h
  have hmap : ∀ c i j, (sR (xnew σ num fr to am pr un) c i j).map (kup ad 8 (sN σ) q 8) = (sR σ c i j).map (ad 8) := by
    intro c i j
    show (sR σ c i j).map _ = _
    cases hk : sR σ c i j with
    | none => rfl
    | some k =>
      have := hv c i j k hk
      show some _ = some _
      rw [kup_ne _ _ (by omega)]
  match t, h with
  | 0, h => exact Or.inl ⟨h, by rw [kup_ne _ _ (by omega)], by simp [cct, kup, xnew, sI, sL]⟩
  | 1, h => exact Or.inl ⟨h, by rw [kup_ne _ _ (by omega)], by simp [cct, kup]⟩
  | 2, h => exact Or.inl ⟨h, by rw [kup_ne _ _ (by omega)], by simp only [cct, hmap]⟩
  | 3, h => exact Or.inl ⟨h, by rw [kup_ne _ _ (by omega)], by simp [cct, xnew, sI]⟩
  | 4, h => exact Or.inl ⟨h, by rw [kup_ne _ _ (by omega)], by simp [cct, kup, xnew, sI, sL]⟩
  | 5, h => exact Or.inl ⟨h, by rw [kup_ne _ _ (by omega)], by simp [cct, xnew, sL]⟩
  | 6, h => exact Or.inl ⟨h, by rw [kup_ne _ _ (by omega)], by simp [cct, xnew, sL]⟩
  | 7, h => exact Or.inl ⟨h, by rw [kup_ne _ _ (by omega)], by simp only [cct, hmap]⟩
  | 8, h =>
    have h : i < sN σ + 1 := h
    by_cases hi : i = sN σ
    · exact Or.inr ⟨rfl, hi⟩
    · exact Or.inl ⟨show i < sN σ by omega, by rw [kup_ne _ _ (by omega)], by simp [cct, xnew, sI, sL, hi]⟩
set_option maxHeartbeats 4000000 in
set_option maxRecDepth 100000 in
theorem m_X_pay (l : Launch) (D : va_G) (cA : Nat → ClassId) (ad : Nat → Nat → Nat) (n : Nat) (A : Nat → Prop) (sz : Nat) (hAn : ∀ q, sz ≤ q → A q) (σ : St) (x1 : Int32) (x2 : Int32) (x3 : Int64) (x4 : Int32) (x5 : Int32) (out : Int32 × St) (hf : f_X_pay n σ x1 x2 x3 x4 x5 = some out) : Met l y_X_pay ws_X_pay ({ frames := 6, cells := 1, slots := 7, locals := 140 }) (va_Pc [.ref (ad 0 0), .int x1, .int x2, .long x3, .int x4, .int x5] (fun U => (CW D cA ad n A σ U.heap ∧ U.heap.size = sz) ∧ va_K D vCl (atys cA) U)) (va_Qi (fun (r : Int32) (u : (Nat → Nat → Nat) × St) => (r, u.2) = out ∧ u.1 0 0 = ad 0 0) (fun u t => CW D cA u.1 n A u.2 t.heap ∧ va_K D vCl (atys cA) t) A) 1 7 A := by
  refine Met.ofW (cc := prog_1_method_6_code) (maxL := 10) (ret := (some .int)) (by decide) rfl ?_
  intro p e s m args below meth c s₁ B hml hv
  obtain ⟨rfl, ⟨hW, hsz⟩, hK⟩ := hv
  have hx := B.exec
  have hb := B.bytes
  have hr := B.returns
  have hts := atoms_spec (ws := ws_X_pay) B.pre
  have ht : ∀ w ∈ TB, w.before _ s = true := fun w h => hts w (List.mem_cons_of_mem _ h)
  have hown : s.vm.findClass "GridlockDesk" = some m.cls := findClass_of_methodNamed B.named
  have hlocks := B.notSynchronized
  have hS : va_S A s.heap s.heap [] := va_S.rf
  subst hsz
  have hl := lv_entry ([.ref (ad 0 0), .int x1, .int x2, .long x3, .int x4, .int x5]) (n := 10) (Nat.le_of_ble_eq_true rfl)
  rw [lg_entry_eq]
  generalize (lg_sl ([.ref (ad 0 0), .int x1, .int x2, .long x3, .int x4, .int x5]) ++ List.replicate (10 - (lg_sl ([.ref (ad 0 0), .int x1, .int x2, .long x3, .int x4, .int x5])).length) Slot.unset).toArray = ls at hl ⊢
  have hl : lv_has ls 10 [(0, .ref (ad 0 0)), (1, .int x1), (2, .int x2), (3, .long x3), (5, .int x4), (6, .int x5)] := hl
  unfold f_X_pay at hf
  refine pp_X_pay D cA ad n A hx hb hml hts hown hK x1 x2 x3 x4 x5 _ out (fun r σ H locs ls pc hdg he hW hS => ?_) (fun σ v8 H locs ls hl hW hS hf => ?_) σ _ _ ls hl hW hS hf
  · refine W.widen (k := 1) (n := 7) (by omega) (by omega) ?_
    exact W.iret hx hb hr (fun t ht hWm => ⟨⟨r, (ad, σ), rfl, ⟨Option.some.inj he, rfl⟩, by rw [ht]; exact hW, va_K.moved hWm.alike hK⟩, hS.F ht⟩) hS.2.2 hdg
  · obtain ⟨hv, hf⟩ := @og_if _ (Classical.propDecidable _) _ _ _ hf
    refine k_new (D := D) (ci := 1) (fs := [.int 0, .int 0, .int 0, .long 0, .int 0, .int 0, .int 0]) (C := "GridlockDesk$Payment") (T := T_P) (N := 7) hx hb ht hin_P ft_P ft_P_ok hown (ht _ tw_92) (ht _ tw_213) (ht _ tw_36) hK hS rfl (fun j hj => by match j, hj with
      | 0, _ => rfl
      | 1, _ => rfl
      | 2, _ => rfl
      | 3, _ => rfl
      | 4, _ => rfl
      | 5, _ => rfl
      | 6, _ => rfl) (Nat.le_of_ble_eq_true rfl) (Nat.le_of_ble_eq_true rfl) d_X_pay_89 (fun q H1 hq hz hat ho hS1 => ?_)
    refine lv_dup hx hb d_X_pay_92 rfl ?_
    refine lv_iload hx hb d_X_pay_93 (lv_at hl 6 rfl) ?_
    refine lv_iload_n hx hb d_X_pay_95 rfl (lv_at hl 1 rfl) ?_
    refine lv_iload_n hx hb d_X_pay_96 rfl (lv_at hl 2 rfl) ?_
    refine lv_lload_n hx hb d_X_pay_97 rfl (lv_at hl 3 rfl) ?_
    refine lv_iload hx hb d_X_pay_98 (lv_at hl 4 rfl) ?_
    refine lv_iload hx hb d_X_pay_100 (lv_at hl 5 rfl) ?_
    have hAq : A q := hAn q (by rw [hq]; exact hS.1)
    have hW0 : PW D cA (fun _ _ => q) 0 (fun x => x = q) (fun _ _ _ => 0, fun _ _ _ => 0, fun _ _ _ => none, 0) H1 := by
      refine ⟨⟨fun t' i' h => ?_, fun t1 i1 t2 i2 h1 h2 _ => ?_⟩, fun _ _ _ => rfl⟩
      · match t', h with
        | 0, h => exact hat
      · match t1, t2, h1, h2 with
        | 0, 0, h1, h2 => exact ⟨rfl, Eq.trans h1 (Eq.symm h2)⟩
    refine va_callv (va_runI (As := [.int v8, .int x1, .int x2, .long x3, .int x4, .int x5]) (rest := [.ref q]) ⟨hx, hb, hml, hown, hts⟩ (m_P_init l D cA (fun _ _ => q) 0 (fun x => x = q) (fun _ _ _ => 0, fun _ _ _ => 0, fun _ _ _ => none, 0) v8 x1 x2 x3 x4 x5 ((), _) rfl) (cwI 6 hts (tb_C tw_216) rfl rfl rfl (ht _ tw_36) (ht _ tw_214) (ht _ tw_215) rfl (by decide +kernel) ⟨Nat.le_of_ble_eq_true rfl, Nat.le_of_ble_eq_true rfl⟩) ⟨k_blind, k_pre hW0 hK⟩ rfl rfl hl.1 rfl (lv_room (Nat.le_of_ble_eq_true rfl)) d_X_pay_102 ⟨Nat.le_of_ble_eq_true rfl, Nat.le_of_ble_eq_true rfl⟩) hS1 (fun x _ h => by rw [h]; exact hAq) (fun x h => by rw [h]; exact hAq) (fun u t H2 locs2 ht2 hvm hp hB hz2 hk2 hS2 => ?_)
    refine lv_astore (lv' := [(9, .ref _), (0, .ref _), (1, .int _), (2, .int _), (3, .long _), (5, .int _), (6, .int _), (8, .int _)]) hx hb d_X_pay_105 hl (by decide) rfl (fun ls hl => ?_)
    have hat2 := hB.1.1.1 0 0 rfl
    rw [ht2] at hat2
    have hu := (Prod.mk.inj hp).2
    subst hu
    have ho2 : ∀ x : Nat, x < H.size → H2[x]? = H[x]? := fun x hx9 => (hk2 x (by omega) (by omega)).trans (ho x hx9)
    have hW2 : CW D cA (kup ad 8 (sN σ) q) n A (xnew σ v8 x1 x2 x3 x4 x5) H2 := by
      refine ⟨hW.1.grow ho2 (fun t' i' hd => ?_) (fun t1 i1 t2 i2 h1 h2 hs he => ?_), fun t' i' hd => ?_⟩
      · rcases xnew_ct cA ad n σ hv v8 x1 x2 x3 x4 x5 q t' i' hd with h3 | ⟨rfl, rfl⟩
        · exact Or.inl h3
        · refine Or.inr ?_
          rw [kup_self]
          refine ⟨by omega, ?_⟩
          have e8 : cct cA (kup ad 8 (sN σ) q) n (xnew σ v8 x1 x2 x3 x4 x5) 8 (sN σ) = .inr (1, [.int v8, .int x1, .int x2, .long x3, .int x5, .int x4, .int 0]) := by simp [cct, xnew, sI, sL]
          rw [e8]
          exact hat2
      · have key : ∀ t' i', cdom n (xnew σ v8 x1 x2 x3 x4 x5) t' i' → H.size ≤ kup ad 8 (sN σ) q t' i' → t' = 8 ∧ i' = sN σ := by
          intro t' i' hd hs
          rcases xnew_ct cA ad n σ hv v8 x1 x2 x3 x4 x5 q t' i' hd with ⟨h3, h4, -⟩ | h3
          · rw [h4] at hs
            have h5 : ad t' i' < H.size := (hW.1.1 t' i' h3).lt
            omega
          · exact h3
        obtain ⟨rfl, rfl⟩ := key t1 i1 h1 hs
        obtain ⟨rfl, rfl⟩ := key t2 i2 h2 (by rw [← he]; exact hs)
        exact ⟨rfl, rfl⟩
      · rcases xnew_ct cA ad n σ hv v8 x1 x2 x3 x4 x5 q t' i' hd with ⟨h3, h4, -⟩ | ⟨rfl, rfl⟩
        · rw [h4]; exact hW.2 t' i' h3
        · rw [kup_self]; exact hAq
    have e9 : q = kup ad 8 (sN σ) q 8 (sN σ) := (kup_self ad 8 (sN σ) q).symm
    have e0 : ad 0 0 = kup ad 8 (sN σ) q 0 0 := by rw [kup_ne _ _ (by omega)]
    have hl2 := lv_sub hl (l' := [(0, .ref (ad 0 0)), (1, .int x1), (8, .int v8), (9, .ref q)]) [1, 2, 7, 0] rfl
    have hl3 : lv_has ls 10 [(0, .ref (kup ad 8 (sN σ) q 0 0)), (1, .int x1), (8, .int v8), (9, .ref (kup ad 8 (sN σ) q 8 (sN σ)))] := by rw [← e9, ← e0]; exact hl2
    refine ss_X_pay D cA (kup ad 8 (sN σ) q) n A hx hb hml hts hown hK out (fun r σ' H locs ls pc hdg he hW hS => ?_) x1 v8 (sN σ) _ _ _ ls hl3 hW2 hS2 hf
    exact W.iret hx hb hr (fun t ht hWm => ⟨⟨r, (kup ad 8 (sN σ) q, σ'), rfl, ⟨Option.some.inj he, e0.symm⟩, by rw [ht]; exact hW, va_K.moved hWm.alike hK⟩, hS.F ht⟩) hS.2.2 hdg

