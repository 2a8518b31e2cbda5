def fdI (n : Nat) (σ : St) (t i : Nat) : Prop := match t with
  | 0 => i = 0
  | _ => False
def fctI (cA : Nat → ClassId) (ad : Nat → Nat → Nat) (n : Nat) (σ : St) (t i : Nat) : va_E := match t with
  | 0 => .inl (cA 1, n, .inl (fun j => sI σ 0 i j))
  | _ => .inr (0, [])
def FWI (D : va_G) (cA : Nat → ClassId) (ad : Nat → Nat → Nat) (n : Nat) (A : Nat → Prop) (σ : St) (H : Heap) : Prop := kw D vCl ad (fdI n σ) (fctI cA ad n σ) H ∧ ∀ t i, fdI n σ t i → A (ad t i)
theorem FWI.wI {D : va_G} {cA : Nat → ClassId} {ad : Nat → Nat → Nat} {n : Nat} {A : Nat → Prop} {σ : St} {H : Heap} {c i : Nat} {j : Nat} {v : Int32} (h : kw D vCl ad (fdI n σ) (fctI cA ad n (wI σ c i j v)) H) (hA : ∀ t i, fdI n σ t i → A (ad t i)) : FWI D cA ad n A (wI σ c i j v) H := ⟨h, hA⟩
theorem FWI.wL {D : va_G} {cA : Nat → ClassId} {ad : Nat → Nat → Nat} {n : Nat} {A : Nat → Prop} {σ : St} {H : Heap} {c i : Nat} {j : Nat} {v : Int64} (h : kw D vCl ad (fdI n σ) (fctI cA ad n (wL σ c i j v)) H) (hA : ∀ t i, fdI n σ t i → A (ad t i)) : FWI D cA ad n A (wL σ c i j v) H := ⟨h, hA⟩
theorem FWI.wR {D : va_G} {cA : Nat → ClassId} {ad : Nat → Nat → Nat} {n : Nat} {A : Nat → Prop} {σ : St} {H : Heap} {c i : Nat} {j : Nat} {v : Option Nat} (h : kw D vCl ad (fdI n σ) (fctI cA ad n (wR σ c i j v)) H) (hA : ∀ t i, fdI n σ t i → A (ad t i)) : FWI D cA ad n A (wR σ c i j v) H := ⟨h, hA⟩
theorem FWI.fI {D : va_G} {cA : Nat → ClassId} {ad : Nat → Nat → Nat} {n : Nat} {A : Nat → Prop} {σ : St} {H : Heap} {c i : Nat} {v : Int32} (h : kw D vCl ad (fdI n σ) (fctI cA ad n (fI σ c i v)) H) (hA : ∀ t i, fdI n σ t i → A (ad t i)) : FWI D cA ad n A (fI σ c i v) H := ⟨h, hA⟩
theorem FWI.fL {D : va_G} {cA : Nat → ClassId} {ad : Nat → Nat → Nat} {n : Nat} {A : Nat → Prop} {σ : St} {H : Heap} {c i : Nat} {v : Int64} (h : kw D vCl ad (fdI n σ) (fctI cA ad n (fL σ c i v)) H) (hA : ∀ t i, fdI n σ t i → A (ad t i)) : FWI D cA ad n A (fL σ c i v) H := ⟨h, hA⟩
theorem fi_wI0 {cA : Nat → ClassId} {ad : Nat → Nat → Nat} {n : Nat} {σ : St} {j : Nat} {v : Int32} : ∀ t' i', fdI n σ t' i' → fctI cA ad n (wI σ 0 0 j v) t' i' = if t' = 0 ∧ i' = 0 then .inl (cA 1, n, .inl (upd (fun j => sI σ 0 0 j) j v)) else fctI cA ad n σ t' i' := by
  intro t' i' h
  match t', h with
  | 0, h =>
    have h : i' = 0 := h
    subst h
    rw [if_pos ⟨rfl, rfl⟩]
    first | rfl | (simp [fctI, sI_wI, sL_wI, sR_wI, upd]; done) | (simp [fctI, sI_wI, sL_wI, sR_wI, upd]; funext jj; by_cases hj : jj = j <;> simp [sI_wI, sL_wI, sR_wI, upd, hj])
theorem fi_fI0 {cA : Nat → ClassId} {ad : Nat → Nat → Nat} {n : Nat} {σ : St} {v : Int32} : ∀ t' i', fdI n σ t' i' → fctI cA ad n (fI σ 0 0 v) t' i' = if t' = 0 ∧ i' = 0 then .inl (cA 1, n, .inl (fun _ => v)) else fctI cA ad n σ t' i' := by
  intro t' i' h
  match t', h with
  | 0, h =>
    have h : i' = 0 := h
    subst h
    rw [if_pos ⟨rfl, rfl⟩]
    first | rfl | (simp [fctI, sI_fI, sL_fI, sR_fI]; done) | (simp [fctI, sI_fI, sL_fI, sR_fI]; funext jj; by_cases hj : jj = j <;> simp [sI_fI, sL_fI, sR_fI, hj])
def fdJ (n : Nat) (σ : St) (t i : Nat) : Prop := match t with
  | 0 => i = 0
  | _ => False
def fctJ (cA : Nat → ClassId) (ad : Nat → Nat → Nat) (n : Nat) (σ : St) (t i : Nat) : va_E := match t with
  | 0 => .inl (cA 0, n, .inr (.inl (fun j => sL σ 0 i j)))
  | _ => .inr (0, [])
def FWJ (D : va_G) (cA : Nat → ClassId) (ad : Nat → Nat → Nat) (n : Nat) (A : Nat → Prop) (σ : St) (H : Heap) : Prop := kw D vCl ad (fdJ n σ) (fctJ cA ad n σ) H ∧ ∀ t i, fdJ n σ t i → A (ad t i)
theorem FWJ.wI {D : va_G} {cA : Nat → ClassId} {ad : Nat → Nat → Nat} {n : Nat} {A : Nat → Prop} {σ : St} {H : Heap} {c i : Nat} {j : Nat} {v : Int32} (h : kw D vCl ad (fdJ n σ) (fctJ cA ad n (wI σ c i j v)) H) (hA : ∀ t i, fdJ n σ t i → A (ad t i)) : FWJ D cA ad n A (wI σ c i j v) H := ⟨h, hA⟩
theorem FWJ.wL {D : va_G} {cA : Nat → ClassId} {ad : Nat → Nat → Nat} {n : Nat} {A : Nat → Prop} {σ : St} {H : Heap} {c i : Nat} {j : Nat} {v : Int64} (h : kw D vCl ad (fdJ n σ) (fctJ cA ad n (wL σ c i j v)) H) (hA : ∀ t i, fdJ n σ t i → A (ad t i)) : FWJ D cA ad n A (wL σ c i j v) H := ⟨h, hA⟩
theorem FWJ.wR {D : va_G} {cA : Nat → ClassId} {ad : Nat → Nat → Nat} {n : Nat} {A : Nat → Prop} {σ : St} {H : Heap} {c i : Nat} {j : Nat} {v : Option Nat} (h : kw D vCl ad (fdJ n σ) (fctJ cA ad n (wR σ c i j v)) H) (hA : ∀ t i, fdJ n σ t i → A (ad t i)) : FWJ D cA ad n A (wR σ c i j v) H := ⟨h, hA⟩
theorem FWJ.fI {D : va_G} {cA : Nat → ClassId} {ad : Nat → Nat → Nat} {n : Nat} {A : Nat → Prop} {σ : St} {H : Heap} {c i : Nat} {v : Int32} (h : kw D vCl ad (fdJ n σ) (fctJ cA ad n (fI σ c i v)) H) (hA : ∀ t i, fdJ n σ t i → A (ad t i)) : FWJ D cA ad n A (fI σ c i v) H := ⟨h, hA⟩
theorem FWJ.fL {D : va_G} {cA : Nat → ClassId} {ad : Nat → Nat → Nat} {n : Nat} {A : Nat → Prop} {σ : St} {H : Heap} {c i : Nat} {v : Int64} (h : kw D vCl ad (fdJ n σ) (fctJ cA ad n (fL σ c i v)) H) (hA : ∀ t i, fdJ n σ t i → A (ad t i)) : FWJ D cA ad n A (fL σ c i v) H := ⟨h, hA⟩
theorem fj_wL0 {cA : Nat → ClassId} {ad : Nat → Nat → Nat} {n : Nat} {σ : St} {j : Nat} {v : Int64} : ∀ t' i', fdJ n σ t' i' → fctJ cA ad n (wL σ 0 0 j v) t' i' = if t' = 0 ∧ i' = 0 then .inl (cA 0, n, .inr (.inl (vp_updL (fun j => sL σ 0 0 j) j v))) else fctJ cA ad n σ t' i' := by
  intro t' i' h
  match t', h with
  | 0, h =>
    have h : i' = 0 := h
    subst h
    rw [if_pos ⟨rfl, rfl⟩]
    first | rfl | (simp [fctJ, sI_wL, sL_wL, sR_wL, vp_updL]; done) | (simp [fctJ, sI_wL, sL_wL, sR_wL, vp_updL]; funext jj; by_cases hj : jj = j <;> simp [sI_wL, sL_wL, sR_wL, vp_updL, hj])
theorem fj_fL0 {cA : Nat → ClassId} {ad : Nat → Nat → Nat} {n : Nat} {σ : St} {v : Int64} : ∀ t' i', fdJ n σ t' i' → fctJ cA ad n (fL σ 0 0 v) t' i' = if t' = 0 ∧ i' = 0 then .inl (cA 0, n, .inr (.inl (fun _ => v))) else fctJ cA ad n σ t' i' := by
  intro t' i' h
  match t', h with
  | 0, h =>
    have h : i' = 0 := h
    subst h
    rw [if_pos ⟨rfl, rfl⟩]
    first | rfl | (simp [fctJ, sI_fL, sL_fL, sR_fL]; done) | (simp [fctJ, sI_fL, sL_fL, sR_fL]; funext jj; by_cases hj : jj = j <;> simp [sI_fL, sL_fL, sR_fL, hj])
def lp_J_fillI_5 (n : Nat) (k : St → Option (Unit × St)) : Nat → St → Int32 → Int32 → Int32 → Option (Unit × St)
  | 0, _, _, _, _ => none
  | fu + 1, σ, v1, v2, v3 =>
  if v3 ≤ v2 then
  k σ
  else
  if vin v2 n then
  (some (wI σ 0 0 (Int32.toNatClampNeg v2) v1)).bind fun σ2 =>
  lp_J_fillI_5 n k fu σ2 v1 (v2 + 1) v3
  else none
theorem lp_J_fillI_5_s (n : Nat) (k : St → Option (Unit × St)) (fu : Nat) (σ : St) (v1 : Int32) (v2 : Int32) (v3 : Int32) : lp_J_fillI_5 n k (fu + 1) σ v1 v2 v3 =
  (if v3 ≤ v2 then
  k σ
  else
  if vin v2 n then
  (some (wI σ 0 0 (Int32.toNatClampNeg v2) v1)).bind fun σ2 =>
  lp_J_fillI_5 n k fu σ2 v1 (v2 + 1) v3
  else none) := rfl

def f_J_fillI (n : Nat) (σ : St) (x2 : Int32) : Option (Unit × St) :=
  lp_J_fillI_5 n (fun σ3 =>
  some ((), σ3)) 1000 σ x2 0 (nI n)
set_option maxHeartbeats 4000000 in
set_option maxRecDepth 100000 in
theorem lp_J_fillI_5_ok {p : Program} {l : Launch} {e : Env} {s : State} {m : MethodId} {args : Array Value} {below : List Frame} {meth : Method} {c : Code} (D : va_G) (cA : Nat → ClassId) (ad : Nat → Nat → Nat) (n : Nat) (A : Nat → Prop) (hx : p.tables.exec = Jvm.exec) (hb : c.code = prog_7_method_103_code) (hml : c.maxLocals = 4) (hr : meth.sig.returnType = none) (hts : ∀ w ∈ ws_J_fillI, w.before args s = true) (hown : s.vm.findClass "java/util/Arrays" = some m.cls) (hlocks : meth.locks = false) (hK : va_K D vCl (atys cA) s) (k : St → Option (Unit × St)) (out : Unit × St) (v1 : Int32) (v3 : Int32) (hk : ∀ (σ : St)  (H : Heap) (locs : List Loc) (ls : Array Slot), lv_has ls 4 [] → FWI D cA ad n A σ H → va_S A s.heap H locs → k σ  = some out → W p l e (headSpec ws_J_fillI ({ frames := 0, cells := 0, slots := 0, locals := 0 })).room s m args below meth c H locs 0 0 (MQ below (va_Qv (fun u => ((), u) = out) (fun u t => FWI D cA ad n A u t.heap ∧ va_K D vCl (atys cA) t) A) args s 0 0 A) (F0 m 20 ls [])) : ∀ (fu : Nat) (σ : St) (v2 : Int32) (H : Heap) (locs : List Loc) (ls : Array Slot), lv_has ls 4 [(0, .ref (ad 0 0)), (1, .int v1), (2, .int v2), (3, .int v3)] → FWI D cA ad n A σ H → va_S A s.heap H locs → lp_J_fillI_5 n k fu σ v1 v2 v3 = some out → W p l e (headSpec ws_J_fillI ({ frames := 0, cells := 0, slots := 0, locals := 0 })).room s m args below meth c H locs 0 0 (MQ below (va_Qv (fun u => ((), u) = out) (fun u t => FWI D cA ad n A u t.heap ∧ va_K D vCl (atys cA) t) A) args s 0 0 A) (F0 m 5 ls []) := by
  intro fu
  induction fu with
  | zero =>
    intro σ v2 H locs ls  hl hW hS hf
    exact og_n hf
  | succ fu ih =>
    intro σ v2 H locs ls  hl hW hS hf
    rw [lp_J_fillI_5_s] at hf
    have ht : ∀ w ∈ TB, w.before args s = true := fun w h => hts w (List.mem_cons_of_mem _ h)
    refine lv_iload_n hx hb d_J_fillI_5 rfl (lv_at hl 2 rfl) ?_
    refine lv_iload_n hx hb d_J_fillI_6 rfl (lv_at hl 3 rfl) ?_
    refine lv_icmp_ge (tgt := 20) hx hb d_J_fillI_7 rfl (fun hc => ?_) (fun hc => ?_)
    · replace hf := og_t hc hf
      exact hk _  _ _ _  (lv_sub hl [] rfl) hW hS hf
    · replace hf := og_f hc hf
      refine lv_aload_n hx hb d_J_fillI_10 rfl (lv_at hl 0 rfl) ?_
      refine lv_iload_n hx hb d_J_fillI_11 rfl (lv_at hl 2 rfl) ?_
      refine lv_iload_n hx hb d_J_fillI_12 rfl (lv_at hl 1 rfl) ?_
      obtain ⟨hin1, hf⟩ := og_if hf
      obtain ⟨σ2, eσ2, hf⟩ := og_b hf
      cases eσ2
      refine k_iast  (t := 0) hx hb hK hW.1 hS rfl (hW.2 _ _ rfl) 1 rfl rfl hin1 d_J_fillI_13 fi_wI0 (fun H locs hW1 hS => ?_)
      have hW := FWI.wI hW1 hW.2
      refine lv_iinc (k := 2) (v := _ + 1) (lv' := [(2, .int _), (0, .ref _), (1, .int _), (3, .int _)]) hx hb d_J_fillI_14 hl rfl rfl (by decide) rfl (fun ls hl => ?_)
      refine lv_goto (tgt := 5) hx hb d_J_fillI_17 rfl ?_
      exact ih _ _ _ _ _  (lv_sub hl [1, 2, 0, 3] rfl) hW hS hf

set_option maxHeartbeats 4000000 in
set_option maxRecDepth 100000 in
theorem m_J_fillI (l : Launch) (D : va_G) (cA : Nat → ClassId) (ad : Nat → Nat → Nat) (n : Nat) (A : Nat → Prop) (σ : St) (x2 : Int32)  (out : Unit × St) (hf : f_J_fillI n σ x2 = some out) : Met l y_J_fillI ws_J_fillI ({ frames := 0, cells := 0, slots := 0, locals := 0 }) (va_Pc [.ref (ad 0 0), .int x2] (fun U => FWI D cA ad n A σ U.heap ∧ va_K D vCl (atys cA) U)) (va_Qv (fun u => ((), u) = out) (fun u t => FWI D cA ad n A u t.heap ∧ va_K D vCl (atys cA) t) A) 0 0 A := by
  refine Met.ofW (cc := prog_7_method_103_code) (maxL := 4) (ret := none) (by decide) rfl ?_
  intro p e s m args below meth c s₁ B hml hv
  obtain ⟨rfl, hW, hK⟩ := hv
  have hx := B.exec
  have hb := B.bytes
  have hr := B.returns
  have hts := atoms_spec (ws := ws_J_fillI) B.pre
  have ht : ∀ w ∈ TB, w.before _ s = true := fun w h => hts w (List.mem_cons_of_mem _ h)
  have hown : s.vm.findClass "java/util/Arrays" = some m.cls := findClass_of_methodNamed B.named
  have hlocks := B.notSynchronized
  have hS : va_S A s.heap s.heap [] := va_S.rf
  have hl := lv_entry ([.ref (ad 0 0), .int x2]) (n := 4) (Nat.le_of_ble_eq_true rfl)
  rw [lg_entry_eq]
  generalize (lg_sl ([.ref (ad 0 0), .int x2]) ++ List.replicate (4 - (lg_sl ([.ref (ad 0 0), .int x2])).length) Slot.unset).toArray = ls at hl ⊢
  have hl : lv_has ls 4 [(0, .ref (ad 0 0)), (1, .int x2)] := hl
  unfold f_J_fillI at hf

  refine lv_iconst (v := 0) hx hb d_J_fillI_0 (by decide) ?_
  refine lv_istore_n (lv' := [(2, .int _), (0, .ref _), (1, .int _)]) hx hb d_J_fillI_1 rfl hl (by decide) rfl (fun ls hl => ?_)
  refine lv_aload_n hx hb d_J_fillI_2 rfl (lv_at hl 1 rfl) ?_
  refine va_alen (D := D) (v := nI n) hx hb hK (hW.1.one (t := 0) rfl) 0 1 rfl rfl rfl d_J_fillI_3 ?_
  refine lv_istore_n (lv' := [(3, .int _), (2, .int _), (0, .ref _), (1, .int _)]) hx hb d_J_fillI_4 rfl hl (by decide) rfl (fun ls hl => ?_)
  refine lp_J_fillI_5_ok D cA ad n A hx hb hml hr hts hown hlocks hK _ _ _ _ (fun σ3 H locs ls  hl hW hS hf => ?_) _ _ _ _ _ _  (lv_sub hl [2, 3, 1, 0] rfl) hW hS hf
  exact W.vret hx hb hr (fun t ht hWm => ⟨⟨_, rfl, Option.some.inj hf, by rw [ht]; exact hW, va_K.moved hWm.alike hK⟩, hS.F ht⟩) hS.2.2 d_J_fillI_20

def lp_J_fillJ_6 (n : Nat) (k : St → Option (Unit × St)) : Nat → St → Int64 → Int32 → Int32 → Option (Unit × St)
  | 0, _, _, _, _ => none
  | fu + 1, σ, v1, v3, v4 =>
  if v4 ≤ v3 then
  k σ
  else
  if vin v3 n then
  (some (wL σ 0 0 (Int32.toNatClampNeg v3) v1)).bind fun σ2 =>
  lp_J_fillJ_6 n k fu σ2 v1 (v3 + 1) v4
  else none
theorem lp_J_fillJ_6_s (n : Nat) (k : St → Option (Unit × St)) (fu : Nat) (σ : St) (v1 : Int64) (v3 : Int32) (v4 : Int32) : lp_J_fillJ_6 n k (fu + 1) σ v1 v3 v4 =
  (if v4 ≤ v3 then
  k σ
  else
  if vin v3 n then
  (some (wL σ 0 0 (Int32.toNatClampNeg v3) v1)).bind fun σ2 =>
  lp_J_fillJ_6 n k fu σ2 v1 (v3 + 1) v4
  else none) := rfl

def f_J_fillJ (n : Nat) (σ : St) (x2 : Int64) : Option (Unit × St) :=
  lp_J_fillJ_6 n (fun σ3 =>
  some ((), σ3)) 1000 σ x2 0 (nI n)
set_option maxHeartbeats 4000000 in
set_option maxRecDepth 100000 in
theorem lp_J_fillJ_6_ok {p : Program} {l : Launch} {e : Env} {s : State} {m : MethodId} {args : Array Value} {below : List Frame} {meth : Method} {c : Code} (D : va_G) (cA : Nat → ClassId) (ad : Nat → Nat → Nat) (n : Nat) (A : Nat → Prop) (hx : p.tables.exec = Jvm.exec) (hb : c.code = prog_7_method_101_code) (hml : c.maxLocals = 5) (hr : meth.sig.returnType = none) (hts : ∀ w ∈ ws_J_fillJ, w.before args s = true) (hown : s.vm.findClass "java/util/Arrays" = some m.cls) (hlocks : meth.locks = false) (hK : va_K D vCl (atys cA) s) (k : St → Option (Unit × St)) (out : Unit × St) (v1 : Int64) (v4 : Int32) (hk : ∀ (σ : St)  (H : Heap) (locs : List Loc) (ls : Array Slot), lv_has ls 5 [] → FWJ D cA ad n A σ H → va_S A s.heap H locs → k σ  = some out → W p l e (headSpec ws_J_fillJ ({ frames := 0, cells := 0, slots := 0, locals := 0 })).room s m args below meth c H locs 0 0 (MQ below (va_Qv (fun u => ((), u) = out) (fun u t => FWJ D cA ad n A u t.heap ∧ va_K D vCl (atys cA) t) A) args s 0 0 A) (F0 m 22 ls [])) : ∀ (fu : Nat) (σ : St) (v3 : Int32) (H : Heap) (locs : List Loc) (ls : Array Slot), lv_has ls 5 [(0, .ref (ad 0 0)), (1, .long v1), (3, .int v3), (4, .int v4)] → FWJ D cA ad n A σ H → va_S A s.heap H locs → lp_J_fillJ_6 n k fu σ v1 v3 v4 = some out → W p l e (headSpec ws_J_fillJ ({ frames := 0, cells := 0, slots := 0, locals := 0 })).room s m args below meth c H locs 0 0 (MQ below (va_Qv (fun u => ((), u) = out) (fun u t => FWJ D cA ad n A u t.heap ∧ va_K D vCl (atys cA) t) A) args s 0 0 A) (F0 m 6 ls []) := by
  intro fu
  induction fu with
  | zero =>
    intro σ v3 H locs ls  hl hW hS hf
    exact og_n hf
  | succ fu ih =>
    intro σ v3 H locs ls  hl hW hS hf
    rw [lp_J_fillJ_6_s] at hf
    have ht : ∀ w ∈ TB, w.before args s = true := fun w h => hts w (List.mem_cons_of_mem _ h)
    refine lv_iload_n hx hb d_J_fillJ_6 rfl (lv_at hl 2 rfl) ?_
    refine lv_iload hx hb d_J_fillJ_7 (lv_at hl 3 rfl) ?_
    refine lv_icmp_ge (tgt := 22) hx hb d_J_fillJ_9 rfl (fun hc => ?_) (fun hc => ?_)
    · replace hf := og_t hc hf
      exact hk _  _ _ _  (lv_sub hl [] rfl) hW hS hf
    · replace hf := og_f hc hf
      refine lv_aload_n hx hb d_J_fillJ_12 rfl (lv_at hl 0 rfl) ?_
      refine lv_iload_n hx hb d_J_fillJ_13 rfl (lv_at hl 2 rfl) ?_
      refine lv_lload_n hx hb d_J_fillJ_14 rfl (lv_at hl 1 rfl) ?_
      obtain ⟨hin1, hf⟩ := og_if hf
      obtain ⟨σ2, eσ2, hf⟩ := og_b hf
      cases eσ2
      refine k_last  (t := 0) hx hb hK hW.1 hS rfl (hW.2 _ _ rfl) 0 rfl rfl hin1 d_J_fillJ_15 fj_wL0 (fun H locs hW1 hS => ?_)
      have hW := FWJ.wL hW1 hW.2
      refine lv_iinc (k := 2) (v := _ + 1) (lv' := [(3, .int _), (0, .ref _), (1, .long _), (4, .int _)]) hx hb d_J_fillJ_16 hl rfl rfl (by decide) rfl (fun ls hl => ?_)
      refine lv_goto (tgt := 6) hx hb d_J_fillJ_19 rfl ?_
      exact ih _ _ _ _ _  (lv_sub hl [1, 2, 0, 3] rfl) hW hS hf

set_option maxHeartbeats 4000000 in
set_option maxRecDepth 100000 in
theorem m_J_fillJ (l : Launch) (D : va_G) (cA : Nat → ClassId) (ad : Nat → Nat → Nat) (n : Nat) (A : Nat → Prop) (σ : St) (x2 : Int64)  (out : Unit × St) (hf : f_J_fillJ n σ x2 = some out) : Met l y_J_fillJ ws_J_fillJ ({ frames := 0, cells := 0, slots := 0, locals := 0 }) (va_Pc [.ref (ad 0 0), .long x2] (fun U => FWJ D cA ad n A σ U.heap ∧ va_K D vCl (atys cA) U)) (va_Qv (fun u => ((), u) = out) (fun u t => FWJ D cA ad n A u t.heap ∧ va_K D vCl (atys cA) t) A) 0 0 A := by
  refine Met.ofW (cc := prog_7_method_101_code) (maxL := 5) (ret := none) (by decide) rfl ?_
  intro p e s m args below meth c s₁ B hml hv
  obtain ⟨rfl, hW, hK⟩ := hv
  have hx := B.exec
  have hb := B.bytes
  have hr := B.returns
  have hts := atoms_spec (ws := ws_J_fillJ) B.pre
  have ht : ∀ w ∈ TB, w.before _ s = true := fun w h => hts w (List.mem_cons_of_mem _ h)
  have hown : s.vm.findClass "java/util/Arrays" = some m.cls := findClass_of_methodNamed B.named
  have hlocks := B.notSynchronized
  have hS : va_S A s.heap s.heap [] := va_S.rf
  have hl := lv_entry ([.ref (ad 0 0), .long x2]) (n := 5) (Nat.le_of_ble_eq_true rfl)
  rw [lg_entry_eq]
  generalize (lg_sl ([.ref (ad 0 0), .long x2]) ++ List.replicate (5 - (lg_sl ([.ref (ad 0 0), .long x2])).length) Slot.unset).toArray = ls at hl ⊢
  have hl : lv_has ls 5 [(0, .ref (ad 0 0)), (1, .long x2)] := hl
  unfold f_J_fillJ at hf

  refine lv_iconst (v := 0) hx hb d_J_fillJ_0 (by decide) ?_
  refine lv_istore_n (lv' := [(3, .int _), (0, .ref _), (1, .long _)]) hx hb d_J_fillJ_1 rfl hl (by decide) rfl (fun ls hl => ?_)
  refine lv_aload_n hx hb d_J_fillJ_2 rfl (lv_at hl 1 rfl) ?_
  refine va_alen (D := D) (v := nI n) hx hb hK (hW.1.one (t := 0) rfl) 0 0 rfl rfl rfl d_J_fillJ_3 ?_
  refine lv_istore (lv' := [(4, .int _), (3, .int _), (0, .ref _), (1, .long _)]) hx hb d_J_fillJ_4 hl (by decide) rfl (fun ls hl => ?_)
  refine lp_J_fillJ_6_ok D cA ad n A hx hb hml hr hts hown hlocks hK _ _ _ _ (fun σ3 H locs ls  hl hW hS hf => ?_) _ _ _ _ _ _  (lv_sub hl [2, 3, 1, 0] rfl) hW hS hf
  exact W.vret hx hb hr (fun t ht hWm => ⟨⟨_, rfl, Option.some.inj hf, by rw [ht]; exact hW, va_K.moved hWm.alike hK⟩, hS.F ht⟩) hS.2.2 d_J_fillJ_22

theorem arrV_congr {cI : ClassId} {N : Nat} {f g : Nat → Value} (h : ∀ j, j < N → f j = g j) : arrV cI N f = arrV cI N g := by
  unfold arrV
  congr 2
  funext j
  exact h j.val j.isLt
theorem fillI_lp (n : Nat) (hn : n < 1000) (x : Int32) (k : St → Option (Unit × St)) : ∀ (fu i : Nat) (σ : St), i ≤ n → n < fu + i → ∃ σ', lp_J_fillI_5 n k fu σ x (nI i) (nI n) = k σ' ∧ (∀ j, j < i → sI σ' 0 0 j = sI σ 0 0 j) ∧ ∀ j, i ≤ j → j < n → sI σ' 0 0 j = x := by
  intro fu
  induction fu with
  | zero => intro i σ h1 h2; omega
  | succ fu ih =>
    intro i σ h1 h2
    rw [lp_J_fillI_5_s]
    by_cases hi : i < n
    · rw [if_neg (nI_ge hi (by omega)), if_pos (vin_nI hi (by omega)), Option.bind_some, nI_1, nI_clamp (by omega)]
      obtain ⟨σ', h3, h4, h5⟩ := ih (i + 1) (wI σ 0 0 i x) (by omega) (by omega)
      refine ⟨σ', h3, fun j hj => ?_, fun j hj hj2 => ?_⟩
      · rw [h4 j (by omega), sI_wI, if_neg (by omega)]
      · by_cases hji : j = i
        · subst hji
          rw [h4 j (by omega), sI_wI, if_pos ⟨rfl, rfl, rfl⟩]
        · exact h5 j (by omega) hj2
    · have : i = n := by omega
      subst this
      rw [if_pos (nI_le (Nat.le_refl _) (by omega))]
      exact ⟨σ, rfl, fun _ _ => rfl, fun j h6 h7 => absurd h7 (by omega)⟩
theorem fillI_f (n : Nat) (hn : n < 1000) (x : Int32) (σ : St) : ∃ σ', f_J_fillI n σ x = some ((), σ') ∧ ∀ j, j < n → sI σ' 0 0 j = x := by
  obtain ⟨σ', h1, -, h3⟩ := fillI_lp n hn x (fun σ => some ((), σ)) 1000 0 σ (by omega) (by omega)
  exact ⟨σ', h1, fun j hj => h3 j (by omega) hj⟩
theorem fillJ_lp (n : Nat) (hn : n < 1000) (x : Int64) (k : St → Option (Unit × St)) : ∀ (fu i : Nat) (σ : St), i ≤ n → n < fu + i → ∃ σ', lp_J_fillJ_6 n k fu σ x (nI i) (nI n) = k σ' ∧ (∀ j, j < i → sL σ' 0 0 j = sL σ 0 0 j) ∧ ∀ j, i ≤ j → j < n → sL σ' 0 0 j = x := by
  intro fu
  induction fu with
  | zero => intro i σ h1 h2; omega
  | succ fu ih =>
    intro i σ h1 h2
    rw [lp_J_fillJ_6_s]
    by_cases hi : i < n
    · rw [if_neg (nI_ge hi (by omega)), if_pos (vin_nI hi (by omega)), Option.bind_some, nI_1, nI_clamp (by omega)]
      obtain ⟨σ', h3, h4, h5⟩ := ih (i + 1) (wL σ 0 0 i x) (by omega) (by omega)
      refine ⟨σ', h3, fun j hj => ?_, fun j hj hj2 => ?_⟩
      · rw [h4 j (by omega), sL_wL, if_neg (by omega)]
      · by_cases hji : j = i
        · subst hji
          rw [h4 j (by omega), sL_wL, if_pos ⟨rfl, rfl, rfl⟩]
        · exact h5 j (by omega) hj2
    · have : i = n := by omega
      subst this
      rw [if_pos (nI_le (Nat.le_refl _) (by omega))]
      exact ⟨σ, rfl, fun _ _ => rfl, fun j h6 h7 => absurd h7 (by omega)⟩
theorem fillJ_f (n : Nat) (hn : n < 1000) (x : Int64) (σ : St) : ∃ σ', f_J_fillJ n σ x = some ((), σ') ∧ ∀ j, j < n → sL σ' 0 0 j = x := by
  obtain ⟨σ', h1, -, h3⟩ := fillJ_lp n hn x (fun σ => some ((), σ)) 1000 0 σ (by omega) (by omega)
  exact ⟨σ', h1, fun j hj => h3 j (by omega) hj⟩
section KF
variable {p : Program} {l : Launch} {e : Env} {R : Room} {s : State} {m : MethodId} {args : Array Value} {below : List Frame} {meth : Method} {c : Code} {H : Heap} {locs : List Loc} {cells slots : Nat} {Q : State → Prop}
variable {cc : ByteArray} {pc nL : Nat} {ls : Array Slot} {rest : List Value} {D : va_G} {cA : Nat → ClassId} {A : Nat → Prop} {H0 : Heap} {ad : Nat → Nat → Nat} {dom : Nat → Nat → Prop} {ct ct' : Nat → Nat → va_E}
set_option maxHeartbeats 4000000 in
theorem k_fillI (hexec : p.tables.exec = Jvm.exec) (hb : c.code = cc) (hml : c.maxLocals = nL) {own : String} {index : Nat} {c0 : Cond} (hown : s.vm.findClass own = some m.cls) (hts : ∀ w ∈ (c0 :: TB), w.before args s = true) (hlk : Cond.methodLink own index y_J_fillI ∈ TB) (hK : va_K D vCl (atys cA) s) (hW : kw D vCl ad dom ct H) (hS : va_S A H0 H locs) {t i : Nat} (hd : dom t i) (hAa : A (ad t i)) {n : Nat} {f : Nat → Int32} (he : ct t i = .inl (cA 1, n, .inl f)) (hn : n < 1000) {x : Int32} (hR : 1 ≤ R.frames ∧ 23 ≤ R.locals) (hls : ls.size = nL) (hrest : (rest.map fun v => v.category).sum ≤ 8) (hroom : cells + 0 ≤ R.cells ∧ slots + 0 ≤ R.slots) (hdg : decode cc pc = .ok (.invokestatic index, 3))
    (hct : ∀ t' i', dom t' i' → ct' t' i' = if t' = t ∧ i' = i then .inl (cA 1, n, .inl (fun _ => x)) else ct t' i') (kk : ∀ (H1 : Heap) (locs1 : List Loc), kw D vCl ad dom ct' H1 → va_S A H0 H1 locs1 → W p l e R s m args below meth c H1 locs1 cells slots Q (F0 m (pc + 3) ls rest)) : W p l e R s m args below meth c H locs cells slots Q (F0 m pc ls (.int x :: .ref (ad t i) :: rest)) := by
  have hat := hW.1 t i hd
  rw [he] at hat
  obtain ⟨σ', hf, hv⟩ := fillI_f n hn x (fun _ _ j => f j, fun _ _ _ => 0, fun _ _ _ => none, 0)
  have hW0 : FWI D cA (fun _ _ => ad t i) n (fun q => q = ad t i) (fun _ _ j => f j, fun _ _ _ => 0, fun _ _ _ => none, 0) H := by
    refine ⟨⟨fun t' i' h => ?_, fun t1 i1 t2 i2 h1 h2 _ => ?_⟩, fun _ _ _ => rfl⟩
    · match t', h with
      | 0, h => exact hat
    · match t1, t2, h1, h2 with
      | 0, 0, h1, h2 => exact ⟨rfl, Eq.trans h1 (Eq.symm h2)⟩
  refine va_callv (va_runS (As := [.ref (ad t i), .int x]) (rest := rest) ⟨hexec, hb, hml, hown, hts⟩ (m_J_fillI l D cA (fun _ _ => ad t i) n (fun q => q = ad t i) _ x ((), σ') hf) (va_cwS 2 hts (tb_S hlk tw_136 tw_34 tw_137) rfl rfl rfl (by decide +kernel) ⟨hR.1, hR.2⟩) ⟨k_blind, k_pre hW0 hK⟩ rfl rfl hls rfl (lv_room hrest) hdg hroom) hS (fun q _ h => by rw [h]; exact hAa) (fun q h => by rw [h]; exact hAa) (fun u t1 H1 locs1 ht hvm hp hB hz hk hS => ?_)
  refine kk H1 locs1 (hW.put hd (e := .inl (cA 1, n, .inl (fun _ => x))) ?_ (fun q hq hne => hk q hq hne) hct) hS
  cases hp
  have h2 := hB.1.1.1 0 0 rfl
  rw [ht] at h2
  show H1[ad t i]? = some (vp_cell _ _)
  refine Eq.trans (show H1[ad t i]? = some (vp_cell (cA 1) (n, .inl (fun j => sI σ' 0 0 j))) from h2) ?_
  rw [vp_cell_i, vp_cell_i, arrV_congr (fun j hj => by rw [hv j hj])]
set_option maxHeartbeats 4000000 in
theorem k_fillJ (hexec : p.tables.exec = Jvm.exec) (hb : c.code = cc) (hml : c.maxLocals = nL) {own : String} {index : Nat} {c0 : Cond} (hown : s.vm.findClass own = some m.cls) (hts : ∀ w ∈ (c0 :: TB), w.before args s = true) (hlk : Cond.methodLink own index y_J_fillJ ∈ TB) (hK : va_K D vCl (atys cA) s) (hW : kw D vCl ad dom ct H) (hS : va_S A H0 H locs) {t i : Nat} (hd : dom t i) (hAa : A (ad t i)) {n : Nat} {f : Nat → Int64} (he : ct t i = .inl (cA 0, n, .inr (.inl f))) (hn : n < 1000) {x : Int64} (hR : 1 ≤ R.frames ∧ 24 ≤ R.locals) (hls : ls.size = nL) (hrest : (rest.map fun v => v.category).sum ≤ 8) (hroom : cells + 0 ≤ R.cells ∧ slots + 0 ≤ R.slots) (hdg : decode cc pc = .ok (.invokestatic index, 3))
    (hct : ∀ t' i', dom t' i' → ct' t' i' = if t' = t ∧ i' = i then .inl (cA 0, n, .inr (.inl (fun _ => x))) else ct t' i') (kk : ∀ (H1 : Heap) (locs1 : List Loc), kw D vCl ad dom ct' H1 → va_S A H0 H1 locs1 → W p l e R s m args below meth c H1 locs1 cells slots Q (F0 m (pc + 3) ls rest)) : W p l e R s m args below meth c H locs cells slots Q (F0 m pc ls (.long x :: .ref (ad t i) :: rest)) := by
  have hat := hW.1 t i hd
  rw [he] at hat
  obtain ⟨σ', hf, hv⟩ := fillJ_f n hn x (fun _ _ _ => 0, fun _ _ j => f j, fun _ _ _ => none, 0)
  have hW0 : FWJ D cA (fun _ _ => ad t i) n (fun q => q = ad t i) (fun _ _ _ => 0, fun _ _ j => f j, fun _ _ _ => none, 0) H := by
    refine ⟨⟨fun t' i' h => ?_, fun t1 i1 t2 i2 h1 h2 _ => ?_⟩, fun _ _ _ => rfl⟩
    · match t', h with
      | 0, h => exact hat
    · match t1, t2, h1, h2 with
      | 0, 0, h1, h2 => exact ⟨rfl, Eq.trans h1 (Eq.symm h2)⟩
  refine va_callv (va_runS (As := [.ref (ad t i), .long x]) (rest := rest) ⟨hexec, hb, hml, hown, hts⟩ (m_J_fillJ l D cA (fun _ _ => ad t i) n (fun q => q = ad t i) _ x ((), σ') hf) (va_cwS 2 hts (tb_S hlk tw_60 tw_34 tw_61) rfl rfl rfl (by decide +kernel) ⟨hR.1, hR.2⟩) ⟨k_blind, k_pre hW0 hK⟩ rfl rfl hls rfl (lv_room hrest) hdg hroom) hS (fun q _ h => by rw [h]; exact hAa) (fun q h => by rw [h]; exact hAa) (fun u t1 H1 locs1 ht hvm hp hB hz hk hS => ?_)
  refine kk H1 locs1 (hW.put hd (e := .inl (cA 0, n, .inr (.inl (fun _ => x)))) ?_ (fun q hq hne => hk q hq hne) hct) hS
  cases hp
  have h2 := hB.1.1.1 0 0 rfl
  rw [ht] at h2
  show H1[ad t i]? = some (vp_cell _ _)
  refine Eq.trans (show H1[ad t i]? = some (vp_cell (cA 0) (n, .inr (.inl (fun j => sL σ' 0 0 j)))) from h2) ?_
  rw [vp_cell_l, vp_cell_l, arrV_congr (fun j hj => by rw [hv j hj])]
end KF
