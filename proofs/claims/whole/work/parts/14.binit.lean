/-- what a bank is made of -/
def bnk (D : va_G) (cA : Nat → ClassId) (n b : Nat) (u : Nat × Nat × Nat) (H : Heap) : Prop := va_at D vCl (b, .inr (0, [.long 0, .long 0, .long (-1), .ref u.1, .ref u.2.1, .ref u.2.2, .int 0])) H ∧ va_at D vCl (u.1, .inl (cA 0, n, .inr (.inl (fun _ => -1)))) H ∧ va_at D vCl (u.2.1, .inl (cA 0, n, .inr (.inl (fun _ => 0)))) H ∧ va_at D vCl (u.2.2, .inl (cA 3, 6, .inr (.inr (.inr (.inr (fun _ => none)))))) H
set_option maxHeartbeats 4000000 in
set_option maxRecDepth 100000 in
theorem m_B_init (l : Launch) (D : va_G) (cA : Nat → ClassId) (n : Nat) (hn : n < 1000) (b sz : Nat) : Met l y_B_init ws_B_init ({ frames := 1, cells := 3, slots := n + n + 6, locals := 24 }) (va_Pc [.ref b, .int (nI n)] (fun U => (va_at D vCl (b, .inr (0, [.long 0, .long 0, .long 0, .null, .null, .null, .int 0])) U.heap ∧ U.heap.size = sz) ∧ va_K D vCl (atys cA) U ∧ va_AO "GridlockDesk$Payment" U)) (va_Qv (fun (u : Nat × Nat × Nat) => sz ≤ u.1 ∧ sz ≤ u.2.1 ∧ sz ≤ u.2.2 ∧ u.1 ≠ u.2.1 ∧ u.1 ≠ u.2.2 ∧ u.2.1 ≠ u.2.2) (fun u t => bnk D cA n b u t.heap) (fun q => q = b ∨ sz ≤ q)) 3 (n + n + 6) (fun q => q = b ∨ sz ≤ q) := by
  refine Met.ofW (cc := prog_2_method_1_code) (maxL := 2) (ret := none) (by decide) rfl ?_
  intro p e s m args below meth c s₁ B hml hv
  obtain ⟨rfl, ⟨hat, hsz⟩, hK, hAO⟩ := hv
  have hx := B.exec
  have hb := B.bytes
  have hr := B.returns
  have hts := atoms_spec (ws := ws_B_init) B.pre
  have ht : ∀ w ∈ TB, w.before _ s = true := fun w h => hts w (List.mem_cons_of_mem _ h)
  have hown : s.vm.findClass "GridlockDesk$Bank" = some m.cls := findClass_of_methodNamed B.named
  have hlocks := B.notSynchronized
  have hin2 : meth.name = "<init>" := (name_of_methodNamed B.named B.method).1
  subst hsz
  have hl := lv_entry ([.ref b, .int (nI n)]) (n := 2) (Nat.le_of_ble_eq_true rfl)
  rw [lg_entry_eq]
  generalize (lg_sl ([.ref b, .int (nI n)]) ++ List.replicate (2 - (lg_sl ([.ref b, .int (nI n)])).length) Slot.unset).toArray = ls at hl ⊢
  have hl : lv_has ls 2 [(0, .ref b), (1, .int (nI n))] := hl
  have hS : va_S (fun q => q = b ∨ s.heap.size ≤ q) s.heap s.heap [] := va_S.rf
  have hW : kw D vCl (fun _ _ => b) (fun t i => t = 0 ∧ i = 0) (fun _ _ => .inr (0, [.long 0, .long 0, .long 0, .null, .null, .null, .int 0])) s.heap := ⟨fun _ _ _ => hat, fun t i t' i' h1 h2 _ => ⟨h1.1.trans h2.1.symm, h1.2.trans h2.2.symm⟩⟩
  refine lv_aload_n hx hb d_B_init_0 rfl (lv_at hl 0 rfl) ?_
  refine W.objInit hx hb hown (ht _ tw_57) (ht _ tw_43) (ht _ tw_44) rfl (by rw [hml]; exact hl.1) rfl d_B_init_1 (Nat.le_of_ble_eq_true rfl) (Nat.le_of_ble_eq_true rfl) ?_
  refine W.eq (g2 := F0 m 4 ls []) rfl ?_
  refine lv_aload_n hx hb d_B_init_4 rfl (lv_at hl 0 rfl) ?_
  refine lv_ldc2 (v := (-1)) hx hb hown (ht _ tw_58) d_B_init_5 ?_
  refine k_put (ci := 0) (C := "GridlockDesk$Bank") (T := T_B) (N := 7) (ty := .long) (t := 0) (i := 0) hx hb ht hin_B ft_B ft_B_ok nm_B hown hK hW hS ⟨rfl, rfl⟩ (Or.inl rfl) rfl rfl 2 (by decide) (ht _ tw_66) (fun _ h9 => h9) rfl (by decide +kernel) rfl rfl (Nat.le_of_ble_eq_true rfl) d_B_init_8 (fun _ _ _ => rfl) (fun H locs hW hS => ?_)
  refine lv_aload_n hx hb d_B_init_11 rfl (lv_at hl 0 rfl) ?_
  refine lv_iload_n hx hb d_B_init_12 rfl (lv_at hl 1 rfl) ?_
  have z1 := hS.1
  refine k_newa (D := D) (cl := vCl) (tys := atys cA) (atype := .long) (ty := .long) (a0 := (n, .inr (.inl (fun _ => 0)))) hx hb (ht _ tw_91) rfl (fun _ h => by cases h) hK hS 0 rfl rfl (nI_pos (by omega)) (nI_clamp (by omega)) (by show n * 8 ≤ _; omega) (Nat.le_of_ble_eq_true rfl) (show 0 + n ≤ n + n + 6 by omega) d_B_init_13 (fun q1 H1 hq1 hz1 hat1 ho1 hS => ?_)
  replace hW := hW.one_more ho1 hq1 hat1 1 0 (fun h => by cases h.1)
  refine k_putF (ci := 0) (C := "GridlockDesk$Bank") (T := T_B) (N := 7) (ty := .array .long) (t := 0) (i := 0) hx hb ht hin_B ft_B ft_B_ok nm_B hown hK hW hS (Or.inr ⟨rfl, rfl⟩) (Or.inl rfl) rfl rfl 3 (by decide) (ht _ tw_68) (fun _ h9 => h9) rfl hin2 rfl (by decide +kernel) rfl rfl (Nat.le_of_ble_eq_true rfl) d_B_init_15 (fun _ _ _ => rfl) (fun H locs hW hS => ?_)
  refine lv_aload_n hx hb d_B_init_18 rfl (lv_at hl 0 rfl) ?_
  refine va_get (D := D) (ci := 0) (v := .ref q1) (C := "GridlockDesk$Bank") (T := T_B) (N := 7) hx hb ht hin_B hown hK (hW.one (t := 0) (i := 0) (Or.inr ⟨rfl, rfl⟩)) 0 rfl rfl 3 (by decide) (ht _ tw_68) (fun _ h9 => h9) rfl d_B_init_19 ?_
  refine lv_ldc2 (v := (-1)) hx hb hown (ht _ tw_58) d_B_init_22 ?_
  refine k_fillJ (t := 1) (i := 0) (n := n) (f := fun _ => 0) hx hb hml hown hts tw_59 hK hW hS (Or.inl ⟨rfl, rfl⟩) (Or.inr (show s.heap.size ≤ q1 by omega)) rfl hn ⟨Nat.le_of_ble_eq_true rfl, Nat.le_of_ble_eq_true rfl⟩ hl.1 (Nat.le_of_ble_eq_true rfl) ⟨(show 0 + 1 + 0 ≤ 3 by omega), (show 0 + n + 0 ≤ n + n + 6 by omega)⟩ d_B_init_25 (fun _ _ _ => rfl) (fun H2 locs hW hS => ?_)
  refine lv_aload_n hx hb d_B_init_28 rfl (lv_at hl 0 rfl) ?_
  refine lv_iload_n hx hb d_B_init_29 rfl (lv_at hl 1 rfl) ?_
  have z2 := hS.1
  refine k_newa (D := D) (cl := vCl) (tys := atys cA) (atype := .long) (ty := .long) (a0 := (n, .inr (.inl (fun _ => 0)))) hx hb (ht _ tw_91) rfl (fun _ h => by cases h) hK hS 0 rfl rfl (nI_pos (by omega)) (nI_clamp (by omega)) (by show n * 8 ≤ _; omega) (Nat.le_of_ble_eq_true rfl) (show 0 + n + n ≤ n + n + 6 by omega) d_B_init_30 (fun q2 H3 hq2 hz2 hat2 ho2 hS => ?_)
  have hlt1 : q1 < H2.size := (hW.1 1 0 (Or.inl ⟨rfl, rfl⟩)).lt
  replace hW := hW.one_more ho2 hq2 hat2 2 0 (fun h => by rcases h with h | h <;> cases h.1)
  refine k_putF (ci := 0) (C := "GridlockDesk$Bank") (T := T_B) (N := 7) (ty := .array .long) (t := 0) (i := 0) hx hb ht hin_B ft_B ft_B_ok nm_B hown hK hW hS (Or.inr (Or.inr ⟨rfl, rfl⟩)) (Or.inl rfl) rfl rfl 4 (by decide) (ht _ tw_70) (fun _ h9 => h9) rfl hin2 rfl (by decide +kernel) rfl rfl (Nat.le_of_ble_eq_true rfl) d_B_init_32 (fun _ _ _ => rfl) (fun H locs hW hS => ?_)
  refine lv_aload_n hx hb d_B_init_35 rfl (lv_at hl 0 rfl) ?_
  refine lv_bipush (v := 6) hx hb d_B_init_36 (by decide) ?_
  have hlt2 : q2 < H.size := (hW.1 2 0 (Or.inl ⟨rfl, rfl⟩)).lt
  have hlt12 : q1 < H.size := (hW.1 1 0 (Or.inr (Or.inl ⟨rfl, rfl⟩))).lt
  have z3 := hS.1
  refine k_newq (D := D) (cl := vCl) (tys := atys cA) (C := "GridlockDesk$Payment") (N' := 6) hx hb hown (ht _ tw_62) hAO hK hS 3 rfl (by decide) rfl (by decide) (Nat.le_of_ble_eq_true rfl) (show 0 + n + n + 6 ≤ n + n + 6 by omega) d_B_init_38 (fun q3 H4 hq3 hz3 hat3 ho3 hS => ?_)
  replace hW := hW.one_more ho3 hq3 hat3 3 0 (fun h => by rcases h with h | h | h <;> cases h.1)
  refine k_putF (ci := 0) (C := "GridlockDesk$Bank") (T := T_B) (N := 7) (ty := .array (.object "GridlockDesk$Payment")) (t := 0) (i := 0) hx hb ht hin_B ft_B ft_B_ok nm_B hown hK hW hS (Or.inr (Or.inr (Or.inr ⟨rfl, rfl⟩))) (Or.inl rfl) rfl rfl 5 (by decide) (ht _ tw_72) (fun _ h9 => h9) rfl hin2 rfl (by decide +kernel) rfl rfl (Nat.le_of_ble_eq_true rfl) d_B_init_41 (fun _ _ _ => rfl) (fun H locs hW hS => ?_)
  refine W.cs (cells' := 3) (slots' := n + n + 6) rfl (by omega) ?_
  have hu : s.heap.size ≤ q1 ∧ s.heap.size ≤ q2 ∧ s.heap.size ≤ q3 ∧ q1 ≠ q2 ∧ q1 ≠ q3 ∧ q2 ≠ q3 := by refine ⟨?_, ?_, ?_, ?_, ?_, ?_⟩ <;> omega
  exact W.vret hx hb hr (fun t ht hWm => ⟨⟨(q1, q2, q3), rfl, hu, by rw [ht]; exact hW.1 0 0 (Or.inr (Or.inr (Or.inr ⟨rfl, rfl⟩))), by rw [ht]; exact hW.1 1 0 (Or.inr (Or.inr (Or.inl ⟨rfl, rfl⟩))), by rw [ht]; exact hW.1 2 0 (Or.inr (Or.inl ⟨rfl, rfl⟩)), by rw [ht]; exact hW.1 3 0 (Or.inl ⟨rfl, rfl⟩)⟩, hS.F ht⟩) hS.2.2 d_B_init_44
