def pdom (n : Nat) (σ : St) (t i : Nat) : Prop := match t with
  | 0 => i = 0
  | _ => False
def pct (cA : Nat → ClassId) (ad : Nat → Nat → Nat) (n : Nat) (σ : St) (t i : Nat) : va_E := match t with
  | 0 => .inr (1, [.int (sI σ 0 i 0), .int (sI σ 1 i 0), .int (sI σ 2 i 0), .long (sL σ 0 i 0), .int (sI σ 3 i 0), .int (sI σ 4 i 0), .int (sI σ 5 i 0)])
  | _ => .inr (0, [])
def PW (D : va_G) (cA : Nat → ClassId) (ad : Nat → Nat → Nat) (n : Nat) (A : Nat → Prop) (σ : St) (H : Heap) : Prop := kw D vCl ad (pdom n σ) (pct cA ad n σ) H ∧ ∀ t i, pdom n σ t i → A (ad t i)
theorem PW.wI {D : va_G} {cA : Nat → ClassId} {ad : Nat → Nat → Nat} {n : Nat} {A : Nat → Prop} {σ : St} {H : Heap} {c i : Nat} {j : Nat} {v : Int32} (h : kw D vCl ad (pdom n σ) (pct cA ad n (wI σ c i j v)) H) (hA : ∀ t i, pdom n σ t i → A (ad t i)) : PW D cA ad n A (wI σ c i j v) H := ⟨h, hA⟩
theorem PW.wL {D : va_G} {cA : Nat → ClassId} {ad : Nat → Nat → Nat} {n : Nat} {A : Nat → Prop} {σ : St} {H : Heap} {c i : Nat} {j : Nat} {v : Int64} (h : kw D vCl ad (pdom n σ) (pct cA ad n (wL σ c i j v)) H) (hA : ∀ t i, pdom n σ t i → A (ad t i)) : PW D cA ad n A (wL σ c i j v) H := ⟨h, hA⟩
theorem PW.wR {D : va_G} {cA : Nat → ClassId} {ad : Nat → Nat → Nat} {n : Nat} {A : Nat → Prop} {σ : St} {H : Heap} {c i : Nat} {j : Nat} {v : Option Nat} (h : kw D vCl ad (pdom n σ) (pct cA ad n (wR σ c i j v)) H) (hA : ∀ t i, pdom n σ t i → A (ad t i)) : PW D cA ad n A (wR σ c i j v) H := ⟨h, hA⟩
theorem PW.fI {D : va_G} {cA : Nat → ClassId} {ad : Nat → Nat → Nat} {n : Nat} {A : Nat → Prop} {σ : St} {H : Heap} {c i : Nat} {v : Int32} (h : kw D vCl ad (pdom n σ) (pct cA ad n (fI σ c i v)) H) (hA : ∀ t i, pdom n σ t i → A (ad t i)) : PW D cA ad n A (fI σ c i v) H := ⟨h, hA⟩
theorem PW.fL {D : va_G} {cA : Nat → ClassId} {ad : Nat → Nat → Nat} {n : Nat} {A : Nat → Prop} {σ : St} {H : Heap} {c i : Nat} {v : Int64} (h : kw D vCl ad (pdom n σ) (pct cA ad n (fL σ c i v)) H) (hA : ∀ t i, pdom n σ t i → A (ad t i)) : PW D cA ad n A (fL σ c i v) H := ⟨h, hA⟩
theorem pp_wI0 {cA : Nat → ClassId} {ad : Nat → Nat → Nat} {n : Nat} {σ : St} {v : Int32} : ∀ t' i', pdom n σ t' i' → pct cA ad n (wI σ 0 0 0 v) t' i' = if t' = 0 ∧ i' = 0 then .inr (1, List.set [.int (sI σ 0 0 0), .int (sI σ 1 0 0), .int (sI σ 2 0 0), .long (sL σ 0 0 0), .int (sI σ 3 0 0), .int (sI σ 4 0 0), .int (sI σ 5 0 0)] 0 (.int v)) else pct cA ad n σ t' i' := by
  intro t' i' h
  match t', h with
  | 0, h =>
    have h : i' = 0 := h
    subst h
    rw [if_pos ⟨rfl, rfl⟩]
    first | rfl | (simp [pct, sI_wI, sL_wI, sR_wI]; done) | (simp [pct, sI_wI, sL_wI, sR_wI]; funext jj; by_cases hj : jj = j <;> simp [sI_wI, sL_wI, sR_wI, hj])
theorem pp_wI1 {cA : Nat → ClassId} {ad : Nat → Nat → Nat} {n : Nat} {σ : St} {v : Int32} : ∀ t' i', pdom n σ t' i' → pct cA ad n (wI σ 1 0 0 v) t' i' = if t' = 0 ∧ i' = 0 then .inr (1, List.set [.int (sI σ 0 0 0), .int (sI σ 1 0 0), .int (sI σ 2 0 0), .long (sL σ 0 0 0), .int (sI σ 3 0 0), .int (sI σ 4 0 0), .int (sI σ 5 0 0)] 1 (.int v)) else pct cA ad n σ t' i' := by
  intro t' i' h
  match t', h with
  | 0, h =>
    have h : i' = 0 := h
    subst h
    rw [if_pos ⟨rfl, rfl⟩]
    first | rfl | (simp [pct, sI_wI, sL_wI, sR_wI]; done) | (simp [pct, sI_wI, sL_wI, sR_wI]; funext jj; by_cases hj : jj = j <;> simp [sI_wI, sL_wI, sR_wI, hj])
theorem pp_wI2 {cA : Nat → ClassId} {ad : Nat → Nat → Nat} {n : Nat} {σ : St} {v : Int32} : ∀ t' i', pdom n σ t' i' → pct cA ad n (wI σ 2 0 0 v) t' i' = if t' = 0 ∧ i' = 0 then .inr (1, List.set [.int (sI σ 0 0 0), .int (sI σ 1 0 0), .int (sI σ 2 0 0), .long (sL σ 0 0 0), .int (sI σ 3 0 0), .int (sI σ 4 0 0), .int (sI σ 5 0 0)] 2 (.int v)) else pct cA ad n σ t' i' := by
  intro t' i' h
  match t', h with
  | 0, h =>
    have h : i' = 0 := h
    subst h
    rw [if_pos ⟨rfl, rfl⟩]
    first | rfl | (simp [pct, sI_wI, sL_wI, sR_wI]; done) | (simp [pct, sI_wI, sL_wI, sR_wI]; funext jj; by_cases hj : jj = j <;> simp [sI_wI, sL_wI, sR_wI, hj])
theorem pp_wL0 {cA : Nat → ClassId} {ad : Nat → Nat → Nat} {n : Nat} {σ : St} {v : Int64} : ∀ t' i', pdom n σ t' i' → pct cA ad n (wL σ 0 0 0 v) t' i' = if t' = 0 ∧ i' = 0 then .inr (1, List.set [.int (sI σ 0 0 0), .int (sI σ 1 0 0), .int (sI σ 2 0 0), .long (sL σ 0 0 0), .int (sI σ 3 0 0), .int (sI σ 4 0 0), .int (sI σ 5 0 0)] 3 (.long v)) else pct cA ad n σ t' i' := by
  intro t' i' h
  match t', h with
  | 0, h =>
    have h : i' = 0 := h
    subst h
    rw [if_pos ⟨rfl, rfl⟩]
    first | rfl | (simp [pct, sI_wL, sL_wL, sR_wL]; done) | (simp [pct, sI_wL, sL_wL, sR_wL]; funext jj; by_cases hj : jj = j <;> simp [sI_wL, sL_wL, sR_wL, hj])
theorem pp_wI3 {cA : Nat → ClassId} {ad : Nat → Nat → Nat} {n : Nat} {σ : St} {v : Int32} : ∀ t' i', pdom n σ t' i' → pct cA ad n (wI σ 3 0 0 v) t' i' = if t' = 0 ∧ i' = 0 then .inr (1, List.set [.int (sI σ 0 0 0), .int (sI σ 1 0 0), .int (sI σ 2 0 0), .long (sL σ 0 0 0), .int (sI σ 3 0 0), .int (sI σ 4 0 0), .int (sI σ 5 0 0)] 4 (.int v)) else pct cA ad n σ t' i' := by
  intro t' i' h
  match t', h with
  | 0, h =>
    have h : i' = 0 := h
    subst h
    rw [if_pos ⟨rfl, rfl⟩]
    first | rfl | (simp [pct, sI_wI, sL_wI, sR_wI]; done) | (simp [pct, sI_wI, sL_wI, sR_wI]; funext jj; by_cases hj : jj = j <;> simp [sI_wI, sL_wI, sR_wI, hj])
theorem pp_wI4 {cA : Nat → ClassId} {ad : Nat → Nat → Nat} {n : Nat} {σ : St} {v : Int32} : ∀ t' i', pdom n σ t' i' → pct cA ad n (wI σ 4 0 0 v) t' i' = if t' = 0 ∧ i' = 0 then .inr (1, List.set [.int (sI σ 0 0 0), .int (sI σ 1 0 0), .int (sI σ 2 0 0), .long (sL σ 0 0 0), .int (sI σ 3 0 0), .int (sI σ 4 0 0), .int (sI σ 5 0 0)] 5 (.int v)) else pct cA ad n σ t' i' := by
  intro t' i' h
  match t', h with
  | 0, h =>
    have h : i' = 0 := h
    subst h
    rw [if_pos ⟨rfl, rfl⟩]
    first | rfl | (simp [pct, sI_wI, sL_wI, sR_wI]; done) | (simp [pct, sI_wI, sL_wI, sR_wI]; funext jj; by_cases hj : jj = j <;> simp [sI_wI, sL_wI, sR_wI, hj])
theorem pp_wI5 {cA : Nat → ClassId} {ad : Nat → Nat → Nat} {n : Nat} {σ : St} {v : Int32} : ∀ t' i', pdom n σ t' i' → pct cA ad n (wI σ 5 0 0 v) t' i' = if t' = 0 ∧ i' = 0 then .inr (1, List.set [.int (sI σ 0 0 0), .int (sI σ 1 0 0), .int (sI σ 2 0 0), .long (sL σ 0 0 0), .int (sI σ 3 0 0), .int (sI σ 4 0 0), .int (sI σ 5 0 0)] 6 (.int v)) else pct cA ad n σ t' i' := by
  intro t' i' h
  match t', h with
  | 0, h =>
    have h : i' = 0 := h
    subst h
    rw [if_pos ⟨rfl, rfl⟩]
    first | rfl | (simp [pct, sI_wI, sL_wI, sR_wI]; done) | (simp [pct, sI_wI, sL_wI, sR_wI]; funext jj; by_cases hj : jj = j <;> simp [sI_wI, sL_wI, sR_wI, hj])
def f_P_init (n : Nat) (σ : St) (x1 : Int32) (x2 : Int32) (x3 : Int32) (x4 : Int64) (x5 : Int32) (x6 : Int32) : Option (Unit × St) :=
  (some (wI σ 0 0 0 x1)).bind fun σ1 =>
  (some (wI σ1 1 0 0 x2)).bind fun σ2 =>
  (some (wI σ2 2 0 0 x3)).bind fun σ3 =>
  (some (wL σ3 0 0 0 x4)).bind fun σ4 =>
  (some (wI σ4 4 0 0 x5)).bind fun σ5 =>
  (some (wI σ5 3 0 0 x6)).bind fun σ6 =>
  (some (wI σ6 5 0 0 0)).bind fun σ7 =>
  some ((), σ7)

set_option maxHeartbeats 4000000 in
set_option maxRecDepth 100000 in
theorem m_P_init (l : Launch) (D : va_G) (cA : Nat → ClassId) (ad : Nat → Nat → Nat) (n : Nat) (A : Nat → Prop) (σ : St) (x1 : Int32) (x2 : Int32) (x3 : Int32) (x4 : Int64) (x5 : Int32) (x6 : Int32)  (out : Unit × St) (hf : f_P_init n σ x1 x2 x3 x4 x5 x6 = some out) : Met l y_P_init ws_P_init ({ frames := 1, cells := 0, slots := 0, locals := 12 }) (va_Pc [.ref (ad 0 0), .int x1, .int x2, .int x3, .long x4, .int x5, .int x6] (fun U => PW D cA ad n A σ U.heap ∧ va_K D vCl (atys cA) U)) (va_Qv (fun u => ((), u) = out) (fun u t => PW D cA ad n A u t.heap ∧ va_K D vCl (atys cA) t) A) 0 0 A := by
  refine Met.ofW (cc := prog_3_method_1_code) (maxL := 8) (ret := none) (by decide) rfl ?_
  intro p e s m args below meth c s₁ B hml hv
  obtain ⟨rfl, hW, hK⟩ := hv
  have hx := B.exec
  have hb := B.bytes
  have hr := B.returns
  have hts := atoms_spec (ws := ws_P_init) B.pre
  have ht : ∀ w ∈ TB, w.before _ s = true := fun w h => hts w (List.mem_cons_of_mem _ h)
  have hown : s.vm.findClass "GridlockDesk$Payment" = some m.cls := findClass_of_methodNamed B.named
  have hlocks := B.notSynchronized
  have hS : va_S A s.heap s.heap [] := va_S.rf
  have hl := lv_entry ([.ref (ad 0 0), .int x1, .int x2, .int x3, .long x4, .int x5, .int x6]) (n := 8) (Nat.le_of_ble_eq_true rfl)
  rw [lg_entry_eq]
  generalize (lg_sl ([.ref (ad 0 0), .int x1, .int x2, .int x3, .long x4, .int x5, .int x6]) ++ List.replicate (8 - (lg_sl ([.ref (ad 0 0), .int x1, .int x2, .int x3, .long x4, .int x5, .int x6])).length) Slot.unset).toArray = ls at hl ⊢
  have hl : lv_has ls 8 [(0, .ref (ad 0 0)), (1, .int x1), (2, .int x2), (3, .int x3), (4, .long x4), (6, .int x5), (7, .int x6)] := hl
  unfold f_P_init at hf
  have hin2 : meth.name = "<init>" := (name_of_methodNamed B.named B.method).1
  refine lv_aload_n hx hb d_P_init_0 rfl (lv_at hl 0 rfl) ?_
  refine W.objInit hx hb hown (ht _ tw_217) (ht _ tw_43) (ht _ tw_44) rfl (by rw [hml]; exact hl.1) rfl d_P_init_1 (Nat.le_of_ble_eq_true rfl) (Nat.le_of_ble_eq_true rfl) ?_
  refine W.eq (g2 := F0 m 4 ls []) rfl ?_
  refine lv_aload_n hx hb d_P_init_4 rfl (lv_at hl 0 rfl) ?_
  refine lv_iload_n hx hb d_P_init_5 rfl (lv_at hl 1 rfl) ?_
  obtain ⟨σ1, eσ1, hf⟩ := og_b hf
  cases eσ1
  refine k_putF  (ci := 1) (C := "GridlockDesk$Payment") (T := T_P) (N := 7) (ty := .int) (t := 0) hx hb ht hin_P ft_P ft_P_ok nm_P hown hK hW.1 hS rfl (hW.2 _ _ rfl) rfl rfl 0 (by decide) (ht _ tw_218) (fun _ h9 => h9) rfl hin2 rfl (by decide +kernel) rfl rfl (Nat.le_of_ble_eq_true rfl) d_P_init_6 pp_wI0 (fun H locs hW1 hS => ?_)
  have hW := PW.wI hW1 hW.2
  refine lv_aload_n hx hb d_P_init_9 rfl (lv_at hl 0 rfl) ?_
  refine lv_iload_n hx hb d_P_init_10 rfl (lv_at hl 2 rfl) ?_
  obtain ⟨σ2, eσ2, hf⟩ := og_b hf
  cases eσ2
  refine k_putF  (ci := 1) (C := "GridlockDesk$Payment") (T := T_P) (N := 7) (ty := .int) (t := 0) hx hb ht hin_P ft_P ft_P_ok nm_P hown hK hW.1 hS rfl (hW.2 _ _ rfl) rfl rfl 1 (by decide) (ht _ tw_220) (fun _ h9 => h9) rfl hin2 rfl (by decide +kernel) rfl rfl (Nat.le_of_ble_eq_true rfl) d_P_init_11 pp_wI1 (fun H locs hW1 hS => ?_)
  have hW := PW.wI hW1 hW.2
  refine lv_aload_n hx hb d_P_init_14 rfl (lv_at hl 0 rfl) ?_
  refine lv_iload_n hx hb d_P_init_15 rfl (lv_at hl 3 rfl) ?_
  obtain ⟨σ3, eσ3, hf⟩ := og_b hf
  cases eσ3
  refine k_putF  (ci := 1) (C := "GridlockDesk$Payment") (T := T_P) (N := 7) (ty := .int) (t := 0) hx hb ht hin_P ft_P ft_P_ok nm_P hown hK hW.1 hS rfl (hW.2 _ _ rfl) rfl rfl 2 (by decide) (ht _ tw_222) (fun _ h9 => h9) rfl hin2 rfl (by decide +kernel) rfl rfl (Nat.le_of_ble_eq_true rfl) d_P_init_16 pp_wI2 (fun H locs hW1 hS => ?_)
  have hW := PW.wI hW1 hW.2
  refine lv_aload_n hx hb d_P_init_19 rfl (lv_at hl 0 rfl) ?_
  refine lv_lload hx hb d_P_init_20 (lv_at hl 4 rfl) ?_
  obtain ⟨σ4, eσ4, hf⟩ := og_b hf
  cases eσ4
  refine k_putF  (ci := 1) (C := "GridlockDesk$Payment") (T := T_P) (N := 7) (ty := .long) (t := 0) hx hb ht hin_P ft_P ft_P_ok nm_P hown hK hW.1 hS rfl (hW.2 _ _ rfl) rfl rfl 3 (by decide) (ht _ tw_225) (fun _ h9 => h9) rfl hin2 rfl (by decide +kernel) rfl rfl (Nat.le_of_ble_eq_true rfl) d_P_init_22 pp_wL0 (fun H locs hW1 hS => ?_)
  have hW := PW.wL hW1 hW.2
  refine lv_aload_n hx hb d_P_init_25 rfl (lv_at hl 0 rfl) ?_
  refine lv_iload hx hb d_P_init_26 (lv_at hl 5 rfl) ?_
  obtain ⟨σ5, eσ5, hf⟩ := og_b hf
  cases eσ5
  refine k_put  (ci := 1) (C := "GridlockDesk$Payment") (T := T_P) (N := 7) (ty := .int) (t := 0) hx hb ht hin_P ft_P ft_P_ok nm_P hown hK hW.1 hS rfl (hW.2 _ _ rfl) rfl rfl 5 (by decide) (ht _ tw_230) (fun _ h9 => h9) rfl (by decide +kernel) rfl rfl (Nat.le_of_ble_eq_true rfl) d_P_init_28 pp_wI4 (fun H locs hW1 hS => ?_)
  have hW := PW.wI hW1 hW.2
  refine lv_aload_n hx hb d_P_init_31 rfl (lv_at hl 0 rfl) ?_
  refine lv_iload hx hb d_P_init_32 (lv_at hl 6 rfl) ?_
  obtain ⟨σ6, eσ6, hf⟩ := og_b hf
  cases eσ6
  refine k_putF  (ci := 1) (C := "GridlockDesk$Payment") (T := T_P) (N := 7) (ty := .int) (t := 0) hx hb ht hin_P ft_P ft_P_ok nm_P hown hK hW.1 hS rfl (hW.2 _ _ rfl) rfl rfl 4 (by decide) (ht _ tw_228) (fun _ h9 => h9) rfl hin2 rfl (by decide +kernel) rfl rfl (Nat.le_of_ble_eq_true rfl) d_P_init_34 pp_wI3 (fun H locs hW1 hS => ?_)
  have hW := PW.wI hW1 hW.2
  refine lv_aload_n hx hb d_P_init_37 rfl (lv_at hl 0 rfl) ?_
  refine lv_iconst (v := 0) hx hb d_P_init_38 (by decide) ?_
  obtain ⟨σ7, eσ7, hf⟩ := og_b hf
  cases eσ7
  refine k_put  (ci := 1) (C := "GridlockDesk$Payment") (T := T_P) (N := 7) (ty := .int) (t := 0) hx hb ht hin_P ft_P ft_P_ok nm_P hown hK hW.1 hS rfl (hW.2 _ _ rfl) rfl rfl 6 (by decide) (ht _ tw_233) (fun _ h9 => h9) rfl (by decide +kernel) rfl rfl (Nat.le_of_ble_eq_true rfl) d_P_init_39 pp_wI5 (fun H locs hW1 hS => ?_)
  have hW := PW.wI hW1 hW.2
  exact W.vret hx hb hr (fun t ht hWm => ⟨⟨_, rfl, Option.some.inj hf, by rw [ht]; exact hW, va_K.moved hWm.alike hK⟩, hS.F ht⟩) hS.2.2 d_P_init_42

