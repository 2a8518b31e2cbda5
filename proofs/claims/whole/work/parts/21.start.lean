/-! THE CLAIM OUT OF ONE WALK OF THE LAW'S BODY. Your part is whole_start (and what it stands on); all else here is the same for every law, but numbers. -/
def R_law : String := "GridlockDeskLaw"
def lw_P (b : Addr) (xs : List Int32) (args : Array Value) (s : State) : Prop := args = #[.ref b] ∧ s.IntsAt b xs ∧ xs.length ≤ 3585 ∧ (Jvm.Cond.and given_1 narrow_1).before args s = true
def lw_Q (_ : Array Value) (s : State) (o : Outcome) (t : State) : Prop := o = .returned (some (.int 1)) ∧ Framed s o t [] 600000 7302250
def lw_Z (below : List Frame) (a : Array Value) (s : State) : State → Prop := fun t => ∃ o, t.status = .running ∧ Ended t below o ∧ lw_Q a s o t
/-- the law's own end, with 1 on the stack, nothing written that was there before, its room as the claim has it -/
theorem lw_ret {p : Program} {l : Launch} {e : Env} {s : State} {m : MethodId} {below : List Frame} {meth : Method} {c : Code} {b : Nat} (hx : p.tables.exec = Jvm.exec) (hb : c.code = code) (hr : meth.sig.returnType = ret) (hlocks : meth.locks = false) {pc : Nat} {H : Heap} {ls : Array Slot} (hdg : decode code pc = .ok (.ireturn, 1)) : W p l e room_1 s m #[Value.ref b] below meth c H [] 600000 7302250 (lw_Z below #[Value.ref b] s) (F0 m pc ls [.int 1]) := by
  intro T hT X
  obtain ⟨fs, hret, hrun, hended, hW, hframe⟩ := X.leave (v := some (.int 1)) (hlocks := hlocks) (fun h => by rw [hr] at h; cases h)
  have hmeth' : T.vm.method? m = some meth := X.method'
  refine ⟨T.setFrames fs, ?_, .returned (some (.int 1)), hrun, hended, rfl, ⟨_, rfl⟩, hW, hframe⟩
  jvm_step X.here [X.here.top, hx, hb, hdg, hmeth', hr, ret, narrow_b1]
  (try refine ⟨rfl, ?_⟩); (try refine ⟨rfl, ?_⟩)
  first | (intro acts; rw [hret _ acts rfl rfl rfl]) | rw [hret _ _ rfl rfl rfl]
  exact Steps.refl _
/-- what holds at the law's entry: the machine, the code, the tables' words (any of lw_tbl by 'hts w (by decide +kernel)'), the script of L ints xs at the cell b, what the Statement gives of the start (any of its parts by flat_of_before) -/
def lw_At (p : Program) (s : State) (m : MethodId) (meth : Method) (c : Code) (b L : Nat) (xs : Nat → Int32) : Prop :=
  p.tables.exec = Jvm.exec ∧ c.code = code ∧ meth.sig.returnType = ret ∧ c.maxLocals = 4 ∧ s.vm.findClass R_law = some m.cls ∧ (∀ w ∈ lw_tbl, w.before #[Value.ref b] s = true) ∧ va_X b L xs s s.heap ∧ b < s.heap.size ∧ meth.locks = false ∧ (Jvm.Cond.and given_1 narrow_1).before #[Value.ref b] s = true
set_option maxHeartbeats 4000000 in
set_option maxRecDepth 100000 in
theorem lw_known {s : State} {args : Array Value} (hts : ∀ w ∈ lw_tbl, w.before args s = true) : ∃ (D : va_G) (cA : Nat → ClassId), va_K D vCl (atys cA) s ∧ va_AO "GridlockDesk$Bank" s ∧ va_AO "GridlockDesk$Payment" s := by
  have ht : ∀ w ∈ TB, w.before args s = true := fun w h => hts w (lb_in h)
  obtain ⟨c0, i0, k0⟩ := u_known ht hin_B (ht _ tw_53)
  obtain ⟨c1, i1, k1⟩ := u_known ht hin_P (ht _ tw_213)
  obtain ⟨c2, i2, k2⟩ := u_known ht hin_X (ht _ tw_38)
  obtain ⟨c3, i3, k3⟩ := u_known ht hin_M (ht _ tw_319)
  obtain ⟨aJ, kJ, pJ, fJ1, fJ2, fJ3⟩ := Cond.arrayClass_spec (ht _ tw_91)
  obtain ⟨aI, kI, pI, fI1, fI2, fI3⟩ := Cond.arrayClass_spec (ht _ tw_112)
  have oB : va_AO "GridlockDesk$Bank" s := va_AO.of (hts (.arrayOver (.object "GridlockDesk$Bank")) (List.mem_of_getElem? (i := 52) (by decide +kernel)))
  have oP : va_AO "GridlockDesk$Payment" s := va_AO.of (hts (.arrayOver (.object "GridlockDesk$Payment")) (List.mem_of_getElem? (i := 63) (by decide +kernel)))
  obtain ⟨pB, aB, kB, fB1, fB2, fB3, fB4, fB5⟩ := Cond.arrayOver_spec oB
  obtain ⟨pP, aP, kP, fP1, fP2, fP3, fP4, fP5⟩ := Cond.arrayOver_spec oP
  refine ⟨(fun c => match c with | 0 => c0 | 1 => c1 | 2 => c2 | _ => c3, fun c => match c with | 0 => i0 | 1 => i1 | 2 => i2 | _ => i3), fun k => match k with | 0 => aJ | 1 => aI | 2 => aB | _ => aP, ⟨fun c q hq => ?_, fun k q hq => ?_⟩, oB, oP⟩
  · match c, hq with
    | 0, hq => cases hq; exact k0
    | 1, hq => cases hq; exact k1
    | 2, hq => cases hq; exact k2
    | 3, hq => cases hq; exact k3
  · match k, hq with
    | 0, hq => cases hq; exact ⟨fun n z => ⟨fun k h => (by cases h), kJ, fJ2, pJ, fJ3⟩, fJ1⟩
    | 1, hq => cases hq; exact ⟨fun n z => ⟨fun k h => (by cases h), kI, fI2, pI, fI3⟩, fI1⟩
    | 2, hq => cases hq; exact ⟨fun n z => ⟨fun k h => (by cases h), kB, fB3, pB, fB4⟩, kB, pB, fB3, fB4, fB1, fB5⟩
    | 3, hq => cases hq; exact ⟨fun n z => ⟨fun k h => (by cases h), kP, fP3, pP, fP4⟩, kP, pP, fP3, fP4, fP1, fP5⟩
set_option maxHeartbeats 8000000 in
set_option maxRecDepth 100000 in
theorem whole_start_of {p : Program} {e : Env} {s : State} {m : MethodId} {below : List Frame} {meth : Method} {c : Code} (l : Launch) {b L : Nat} {xs : Nat → Int32} {Rel : Nat → Nat → St → St → Prop} (hP : PureOK Rel) (hL : L ≤ 3585) (C0 : lw_At p s m meth c b L xs) : W p l e room_1 s m #[Value.ref b] below meth c s.heap [] 0 0 (lw_Z below #[Value.ref b] s) (entryFrame m ([Value.ref b] : List Value).toArray 4) := by
  obtain ⟨hx, hb, hr, hml, hown, hts, hX, hbl, hlocks, hgv⟩ := C0
  have ht : ∀ w ∈ TB, w.before #[Value.ref b] s = true := fun w h => hts w (lb_in h)
  obtain ⟨D, cA, hK, hAOB, hAOP⟩ := lw_known hts
  have hS : va_S (fun q => s.heap.size ≤ q) s.heap s.heap [] := va_S.rf
  have hl := lv_entry ([.ref b]) (n := 4) (Nat.le_of_ble_eq_true rfl)
  rw [lg_entry_eq]
  generalize (lg_sl ([.ref b]) ++ List.replicate (4 - (lg_sl ([.ref b])).length) Slot.unset).toArray = ls at hl ⊢
  have hl : lv_has ls 4 [(0, .ref b)] := hl
  refine k_new (D := D) (ci := 2) (fs := [.null, .null, .int 0, .long 0, .int 0, .null]) (C := "GridlockDesk") (T := T_X) (N := 6) hx hb ht hin_X ft_X ft_X_ok hown (ht _ tw_37) (ht _ tw_38) (ht _ tw_31) hK hS rfl (fun j hj => by match j, hj with
      | 0, _ => rfl
      | 1, _ => rfl
      | 2, _ => rfl
      | 3, _ => rfl
      | 4, _ => rfl
      | 5, _ => rfl) (Nat.le_of_ble_eq_true rfl) (Nat.le_of_ble_eq_true rfl) d_L_law_0 (fun q0 H1 hq0 hz1 hat1 ho1 hS => ?_)
  refine lv_dup hx hb d_L_law_3 rfl ?_
  refine lv_aload_n hx hb d_L_law_4 rfl (lv_at hl 0 rfl) ?_
  refine lv_iconst (v := 0) hx hb d_L_law_5 (by decide) ?_
  refine va_calli (va_runS (As := [.ref b, .int 0]) (rest := [.ref q0, .ref q0]) ⟨hx, hb, hml, hown, hts⟩ (m_L_cell l b L xs hL) (va_cwS 2 hts (lb_S tw_315 tw_316 tw_30 tw_317) rfl rfl rfl (by decide +kernel) ⟨Nat.le_of_ble_eq_true rfl, Nat.le_of_ble_eq_true rfl⟩) ⟨fun a U g mk q => by obtain ⟨q0, q1, q2⟩ := q; exact ⟨q0, va_X.moved (u := U) (U := U.calling g mk a) (Vm.Alike.refl U.vm) q1, q2⟩, fun U hU hWm => ⟨rfl, by rw [hU]; exact va_X.moved hWm.alike (hX.kept (ho1 b hbl)), by rw [hU]; omega⟩⟩ rfl rfl hl.1 rfl (lv_room (Nat.le_of_ble_eq_true rfl)) d_L_law_6 ⟨Nat.le_of_ble_eq_true rfl, Nat.le_of_ble_eq_true rfl⟩) hS (fun _ _ h => h.elim) (fun _ h => h.elim) (fun r u t H2 locs2 ht2 hvm2 hp2 hB2 hz2 hk2 hS => ?_)
  generalize hrx : (if 0 < L then xs 0 else 0) = x at hp2
  subst hp2
  have ho2 : ∀ y : Nat, y < H1.size → H2[y]? = H1[y]? := fun y hy => hk2 y hy (fun h => h)
  have hat2 := hat1.kept (ho2 q0 hat1.lt)
  have hfreeX : ∀ q : Nat, (q = q0 ∨ H2.size ≤ q) → s.heap.size ≤ q := by
    intro q h
    rcases h with h | h <;> omega
  refine va_callv (va_runI (As := [.int r]) (rest := [.ref q0]) ⟨hx, hb, hml, hown, hts⟩ (m_X_init l D cA q0 H2.size r) (cwI 1 hts (lb_C tw_41) rfl rfl rfl (ht _ tw_31) (ht _ tw_39) (ht _ tw_40) rfl (by decide +kernel) ⟨Nat.le_of_ble_eq_true rfl, Nat.le_of_ble_eq_true rfl⟩) ⟨fun a U g mk q => by obtain ⟨q0, q1, q2, q3, q4⟩ := q; exact ⟨q0, q1, va_K.moved (u := U) (U := U.calling g mk a) (Vm.Alike.refl U.vm) q2, va_AO.moved (u := U) (U := U.calling g mk a) (Vm.Alike.refl U.vm) q3, va_AO.moved (u := U) (U := U.calling g mk a) (Vm.Alike.refl U.vm) q4⟩, fun U hU hWm => ⟨rfl, ⟨by rw [hU]; exact hat2, by rw [hU]⟩, va_K.moved hWm.alike hK, va_AO.moved hWm.alike hAOB, va_AO.moved hWm.alike hAOP⟩⟩ rfl rfl hl.1 rfl (lv_room (Nat.le_of_ble_eq_true rfl)) d_L_law_9 ⟨Nat.le_of_ble_eq_true rfl, Nat.le_of_ble_eq_true rfl⟩) hS (fun q _ h => hfreeX q h) (fun q h => hfreeX q h) (fun adx t3 H3 locs3 ht3 hvm3 hp3 hB3 hz3 hk3 hS => ?_)
  obtain ⟨hCX, -⟩ := hB3
  rw [ht3] at hCX
  have ho3 : ∀ y : Nat, y < s.heap.size → H3[y]? = s.heap[y]? := fun y hy => ((hk3 y (by omega) (fun h => by rcases h with h | h <;> omega)).trans (ho2 y (by omega))).trans (ho1 y hy)
  refine lv_astore_n (lv' := [(1, .ref q0), (0, .ref b)]) hx hb d_L_law_12 rfl hl (by decide) rfl (fun ls hl => ?_)
  refine k_new (D := D) (ci := 3) (fs := [.int 0, .int 0, .long 0, .null, .null, .null, .null, .null, .int 0, .int 0, .null, .null, .null, .null, .null, .null, .null, .null, .null, .null, .null, .null]) (C := "GridlockDeskModel") (T := T_M) (N := 22) hx hb ht hin_M ft_M ft_M_ok hown (ht _ tw_318) (ht _ tw_319) (ht _ tw_35) hK hS rfl (fun j hj => by match j, hj with
      | 0, _ => rfl
      | 1, _ => rfl
      | 2, _ => rfl
      | 3, _ => rfl
      | 4, _ => rfl
      | 5, _ => rfl
      | 6, _ => rfl
      | 7, _ => rfl
      | 8, _ => rfl
      | 9, _ => rfl
      | 10, _ => rfl
      | 11, _ => rfl
      | 12, _ => rfl
      | 13, _ => rfl
      | 14, _ => rfl
      | 15, _ => rfl
      | 16, _ => rfl
      | 17, _ => rfl
      | 18, _ => rfl
      | 19, _ => rfl
      | 20, _ => rfl
      | 21, _ => rfl
      | j + 22, h => exact absurd h (by omega)) (Nat.le_of_ble_eq_true rfl) (Nat.le_of_ble_eq_true rfl) d_L_law_13 (fun q1 H4 hq1 hz4 hat4 ho4 hS => ?_)
  refine lv_dup hx hb d_L_law_16 rfl ?_
  refine lv_aload_n hx hb d_L_law_17 rfl (lv_at hl 1 rfl) ?_
  refine lv_iconst (v := 0) hx hb d_L_law_18 (by decide) ?_
  refine va_calli (va_runS (As := [.ref b, .int 0]) (rest := [.ref q1, .ref q1]) ⟨hx, hb, hml, hown, hts⟩ (m_L_cell l b L xs hL) (va_cwS 2 hts (lb_S tw_315 tw_316 tw_30 tw_317) rfl rfl rfl (by decide +kernel) ⟨Nat.le_of_ble_eq_true rfl, Nat.le_of_ble_eq_true rfl⟩) ⟨fun a U g mk q => by obtain ⟨q0, q1, q2⟩ := q; exact ⟨q0, va_X.moved (u := U) (U := U.calling g mk a) (Vm.Alike.refl U.vm) q1, q2⟩, fun U hU hWm => ⟨rfl, by rw [hU]; exact va_X.moved hWm.alike (hX.kept ((ho4 b (by omega)).trans (ho3 b hbl))), by rw [hU]; omega⟩⟩ rfl rfl hl.1 rfl (lv_room (Nat.le_of_ble_eq_true rfl)) d_L_law_19 ⟨Nat.le_of_ble_eq_true rfl, Nat.le_of_ble_eq_true rfl⟩) hS (fun _ _ h => h.elim) (fun _ h => h.elim) (fun r5 u5 t5 H5 locs5 ht5 hvm5 hp5 hB5 hz5 hk5 hS => ?_)
  rw [hrx] at hp5
  subst hp5
  have ho5 : ∀ y : Nat, y < H4.size → H5[y]? = H4[y]? := fun y hy => hk5 y hy (fun h => h)
  have hat5 := hat4.kept (ho5 q1 hat4.lt)
  have hfreeM : ∀ q : Nat, (q = q1 ∨ H5.size ≤ q) → s.heap.size ≤ q := by
    intro q h
    rcases h with h | h <;> omega
  obtain ⟨σm, hfm, hR⟩ := hP.1 r5
  refine va_callv (va_runI (As := [.int r5]) (rest := [.ref q1]) ⟨hx, hb, hml, hown, hts⟩ (m_M_init l D cA q1 H5.size r5 ((), σm) hfm) (cwI 1 hts (lb_C tw_322) rfl rfl rfl (ht _ tw_35) (ht _ tw_320) (ht _ tw_321) rfl (by decide +kernel) ⟨Nat.le_of_ble_eq_true rfl, Nat.le_of_ble_eq_true rfl⟩) ⟨fun a U g mk q => by obtain ⟨q0, q1, q2⟩ := q; exact ⟨q0, q1, va_K.moved (u := U) (U := U.calling g mk a) (Vm.Alike.refl U.vm) q2⟩, fun U hU hWm => ⟨rfl, ⟨by rw [hU]; exact hat5, by rw [hU]⟩, va_K.moved hWm.alike hK⟩⟩ rfl rfl hl.1 rfl (lv_room (Nat.le_of_ble_eq_true rfl)) d_L_law_22 ⟨Nat.le_of_ble_eq_true rfl, Nat.le_of_ble_eq_true rfl⟩) hS (fun q _ h => hfreeM q h) (fun q h => hfreeM q h) (fun adm t6 H6 locs6 ht6 hvm6 hp6 hB6 hz6 hk6 hS => ?_)
  obtain ⟨hCM, -⟩ := hB6
  rw [ht6] at hCM
  have ho6 : ∀ y : Nat, y < H3.size → H6[y]? = H3[y]? := fun y hy => ((hk6 y (by omega) (fun h => by rcases h with h | h <;> omega)).trans (ho5 y (by omega))).trans (ho4 y hy)
  have hPM : ∀ q, PM adm q → H3.size ≤ q := by
    intro q h
    obtain ⟨t', i', hd, rfl⟩ := h
    have h9 : adm t' i' = q1 ∨ H5.size ≤ adm t' i' := hCM.2 t' i' hd
    rcases h9 with h9 | h9 <;> omega
  have hLW : LWd D cA s.heap.size adx adm (nb r5) x0 σm H6 := by
    refine ⟨⟨hCX.1.kept (fun t' i' hd => ho6 _ (hCX.1.1 t' i' hd).lt), fun t' i' hd => ⟨hfreeX _ (hCX.2 t' i' hd), fun h => ?_⟩⟩, ⟨hCM.1, fun t' i' hd => ⟨t', i', hd, rfl⟩⟩, fun q h => by have := hPM q h; omega⟩
    have h1 := hPM _ h
    have h2 : adx t' i' < H3.size := (hCX.1.1 t' i' hd).lt
    omega
  refine lv_astore_n (lv' := [(2, .ref q1), (1, .ref q0), (0, .ref b)]) hx hb d_L_law_25 rfl hl (by decide) rfl (fun ls hl => ?_)
  refine lv_iconst (v := nI 1) hx hb d_L_law_26 (by decide) ?_
  refine lv_istore_n (lv' := [(3, .int (nI 1)), (2, .ref q1), (1, .ref q0), (0, .ref b)]) hx hb d_L_law_27 rfl hl (by decide) rfl (fun ls hl => ?_)
  refine W.widen (k := 100 + 0) (n := 2000 + 7 * 0) (Nat.le_of_ble_eq_true rfl) (Nat.le_of_ble_eq_true rfl) ?_
  refine lw_loop D cA adx adm (nb r5) b L xs hL hx hb hml hts hown hX hbl hK rfl hr hlocks hP q0 q1 hp6 (fun H locs ls cells slots h1 h2 hS => ?_) 512 1 0 rfl rfl adx x0 σm H6 _ ls (lv_sub hl [3, 2, 1, 0] rfl) hp3 hR hLW hS
  refine lv_iconst (v := 1) hx hb d_L_law_756 (by decide) ?_
  refine va_forget (fun q hq => hS.2.2 q hq) ?_
  refine W.widen h1 h2 ?_
  exact lw_ret hx hb hr hlocks d_L_law_757
