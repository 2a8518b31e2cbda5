def lp_M_init_159 (n : Nat) (k : St → Option (Unit × St)) : Nat → St → Int32 → Option (Unit × St)
  | 0, _, _ => none
  | fu + 1, σ, v2 =>
  if 4 ≤ v2 then
  k σ
  else
  if vin v2 4 then
  (some (wL σ 3 0 (Int32.toNatClampNeg v2) (-1))).bind fun σ3 =>
  lp_M_init_159 n k fu σ3 (v2 + 1)
  else none
theorem lp_M_init_159_s (n : Nat) (k : St → Option (Unit × St)) (fu : Nat) (σ : St) (v2 : Int32) : lp_M_init_159 n k (fu + 1) σ v2 =
  (if 4 ≤ v2 then
  k σ
  else
  if vin v2 4 then
  (some (wL σ 3 0 (Int32.toNatClampNeg v2) (-1))).bind fun σ3 =>
  lp_M_init_159 n k fu σ3 (v2 + 1)
  else none) := rfl

def lp_M_init_181 (n : Nat) (k : St → Option (Unit × St)) : Nat → St → Int32 → Option (Unit × St)
  | 0, _, _ => none
  | fu + 1, σ, v2 =>
  if 16 ≤ v2 then
  k σ
  else
  if vin v2 16 then
  (some (wL σ 4 0 (Int32.toNatClampNeg v2) (-1))).bind fun σ6 =>
  lp_M_init_181 n k fu σ6 (v2 + 1)
  else none
theorem lp_M_init_181_s (n : Nat) (k : St → Option (Unit × St)) (fu : Nat) (σ : St) (v2 : Int32) : lp_M_init_181 n k (fu + 1) σ v2 =
  (if 16 ≤ v2 then
  k σ
  else
  if vin v2 16 then
  (some (wL σ 4 0 (Int32.toNatClampNeg v2) (-1))).bind fun σ6 =>
  lp_M_init_181 n k fu σ6 (v2 + 1)
  else none) := rfl

def f_M_initr (n : Nat) (k : St → Option (Unit × St)) (σ : St) (x1 : Int32) : Option (Unit × St) :=
  if 2 ≤ x1 then
  if x1 ≤ 4 then
  (some (wI σ 0 0 0 x1)).bind fun σ1 =>
  lp_M_init_159 n (fun σ4 =>
  lp_M_init_181 n (fun σ7 =>
  k σ7) 1000 σ4 0) 1000 σ1 0
  else
  (some (wI σ 0 0 0 4)).bind fun σ8 =>
  lp_M_init_159 n (fun σ11 =>
  lp_M_init_181 n (fun σ14 =>
  k σ14) 1000 σ11 0) 1000 σ8 0
  else
  (some (wI σ 0 0 0 2)).bind fun σ15 =>
  lp_M_init_159 n (fun σ18 =>
  lp_M_init_181 n (fun σ21 =>
  k σ21) 1000 σ18 0) 1000 σ15 0
set_option maxHeartbeats 4000000 in
set_option maxRecDepth 100000 in
theorem lp_M_init_159_ok {p : Program} {l : Launch} {e : Env} {s : State} {m : MethodId} {args : Array Value} {below : List Frame} {meth : Method} {c : Code} {Q : State → Prop} {R : Room} (D : va_G) (cA : Nat → ClassId) (ad : Nat → Nat → Nat) (n : Nat) (A : Nat → Prop) (hx : p.tables.exec = Jvm.exec) (hb : c.code = prog_5_method_1_code) (hml : c.maxLocals = 3) (hr : meth.sig.returnType = none) (hts : ∀ w ∈ ws_M_init, w.before args s = true) (hown : s.vm.findClass "GridlockDeskModel" = some m.cls) (hlocks : meth.locks = false) (hK : va_K D vCl (atys cA) s) (k : St → Option (Unit × St)) (out : Unit × St)  (hk : ∀ (σ : St)  (H : Heap) (locs : List Loc) (ls : Array Slot), lv_has ls 3 [(0, .ref (ad 0 0))] → MW D cA ad n A σ H → va_S A s.heap H locs → k σ  = some out → W p l e R s m args below meth c H locs 17 796 Q (F0 m 179 ls [])) : ∀ (fu : Nat) (σ : St) (v2 : Int32) (H : Heap) (locs : List Loc) (ls : Array Slot), lv_has ls 3 [(0, .ref (ad 0 0)), (2, .int v2)] → MW D cA ad n A σ H → va_S A s.heap H locs → lp_M_init_159 n k fu σ v2 = some out → W p l e R s m args below meth c H locs 17 796 Q (F0 m 159 ls []) := by
  intro fu
  induction fu with
  | zero =>
    intro σ v2 H locs ls  hl hW hS hf
    exact og_n hf
  | succ fu ih =>
    intro σ v2 H locs ls  hl hW hS hf
    rw [lp_M_init_159_s] at hf
    have ht : ∀ w ∈ TB, w.before args s = true := fun w h => hts w (List.mem_cons_of_mem _ h)
    refine lv_iload_n hx hb d_M_init_159 rfl (lv_at hl 1 rfl) ?_
    refine lv_iconst (v := 4) hx hb d_M_init_160 (by decide) ?_
    refine lv_icmp_ge (tgt := 179) hx hb d_M_init_161 rfl (fun hc => ?_) (fun hc => ?_)
    · replace hf := og_t hc hf
      exact hk _  _ _ _  (lv_sub hl [0] rfl) hW hS hf
    · replace hf := og_f hc hf
      refine lv_aload_n hx hb d_M_init_164 rfl (lv_at hl 0 rfl) ?_
      refine va_get (D := D) (ci := 3) (C := "GridlockDeskModel") (T := T_M) (N := 22) hx hb ht hin_M hown hK (hW.1.one (t := 0) rfl) 0 rfl rfl 5 (by decide) (ht _ tw_330) (fun _ h9 => h9) rfl d_M_init_165 ?_
      refine lv_iload_n hx hb d_M_init_168 rfl (lv_at hl 1 rfl) ?_
      refine lv_ldc2 (v := (-1)) hx hb hown (ht _ tw_324) d_M_init_169 ?_
      obtain ⟨hin2, hf⟩ := og_if hf
      obtain ⟨σ3, eσ3, hf⟩ := og_b hf
      cases eσ3
      refine k_last  (t := 3) hx hb hK hW.1 hS rfl (hW.2 _ _ rfl) 0 rfl rfl hin2 d_M_init_172 mm_wL3 (fun H locs hW1 hS => ?_)
      have hW := MW.wL hW1 hW.2
      refine lv_iinc (k := 1) (v := _ + 1) (lv' := [(2, .int _), (0, .ref _)]) hx hb d_M_init_173 hl rfl rfl (by decide) rfl (fun ls hl => ?_)
      refine lv_goto (tgt := 159) hx hb d_M_init_176 rfl ?_
      exact ih _ _ _ _ _  (lv_sub hl [1, 0] rfl) hW hS hf

set_option maxHeartbeats 4000000 in
set_option maxRecDepth 100000 in
theorem lp_M_init_181_ok {p : Program} {l : Launch} {e : Env} {s : State} {m : MethodId} {args : Array Value} {below : List Frame} {meth : Method} {c : Code} {Q : State → Prop} {R : Room} (D : va_G) (cA : Nat → ClassId) (ad : Nat → Nat → Nat) (n : Nat) (A : Nat → Prop) (hx : p.tables.exec = Jvm.exec) (hb : c.code = prog_5_method_1_code) (hml : c.maxLocals = 3) (hr : meth.sig.returnType = none) (hts : ∀ w ∈ ws_M_init, w.before args s = true) (hown : s.vm.findClass "GridlockDeskModel" = some m.cls) (hlocks : meth.locks = false) (hK : va_K D vCl (atys cA) s) (k : St → Option (Unit × St)) (out : Unit × St)  (hk : ∀ (σ : St)  (H : Heap) (locs : List Loc) (ls : Array Slot), lv_has ls 3 [] → MW D cA ad n A σ H → va_S A s.heap H locs → k σ  = some out → W p l e R s m args below meth c H locs 17 796 Q (F0 m 202 ls [])) : ∀ (fu : Nat) (σ : St) (v2 : Int32) (H : Heap) (locs : List Loc) (ls : Array Slot), lv_has ls 3 [(0, .ref (ad 0 0)), (2, .int v2)] → MW D cA ad n A σ H → va_S A s.heap H locs → lp_M_init_181 n k fu σ v2 = some out → W p l e R s m args below meth c H locs 17 796 Q (F0 m 181 ls []) := by
  intro fu
  induction fu with
  | zero =>
    intro σ v2 H locs ls  hl hW hS hf
    exact og_n hf
  | succ fu ih =>
    intro σ v2 H locs ls  hl hW hS hf
    rw [lp_M_init_181_s] at hf
    have ht : ∀ w ∈ TB, w.before args s = true := fun w h => hts w (List.mem_cons_of_mem _ h)
    refine lv_iload_n hx hb d_M_init_181 rfl (lv_at hl 1 rfl) ?_
    refine lv_bipush (v := 16) hx hb d_M_init_182 (by decide) ?_
    refine lv_icmp_ge (tgt := 202) hx hb d_M_init_184 rfl (fun hc => ?_) (fun hc => ?_)
    · replace hf := og_t hc hf
      exact hk _  _ _ _  (lv_sub hl [] rfl) hW hS hf
    · replace hf := og_f hc hf
      refine lv_aload_n hx hb d_M_init_187 rfl (lv_at hl 0 rfl) ?_
      refine va_get (D := D) (ci := 3) (C := "GridlockDeskModel") (T := T_M) (N := 22) hx hb ht hin_M hown hK (hW.1.one (t := 0) rfl) 0 rfl rfl 6 (by decide) (ht _ tw_331) (fun _ h9 => h9) rfl d_M_init_188 ?_
      refine lv_iload_n hx hb d_M_init_191 rfl (lv_at hl 1 rfl) ?_
      refine lv_ldc2 (v := (-1)) hx hb hown (ht _ tw_324) d_M_init_192 ?_
      obtain ⟨hin5, hf⟩ := og_if hf
      obtain ⟨σ6, eσ6, hf⟩ := og_b hf
      cases eσ6
      refine k_last  (t := 4) hx hb hK hW.1 hS rfl (hW.2 _ _ rfl) 0 rfl rfl hin5 d_M_init_195 mm_wL4 (fun H locs hW1 hS => ?_)
      have hW := MW.wL hW1 hW.2
      refine lv_iinc (k := 1) (v := _ + 1) (lv' := [(2, .int _), (0, .ref _)]) hx hb d_M_init_196 hl rfl rfl (by decide) rfl (fun ls hl => ?_)
      refine lv_goto (tgt := 181) hx hb d_M_init_199 rfl ?_
      exact ih _ _ _ _ _  (lv_sub hl [1, 0] rfl) hW hS hf

set_option maxHeartbeats 4000000 in
set_option maxRecDepth 100000 in
theorem r_M_init {p : Program} {l : Launch} {e : Env} {s : State} {m : MethodId} {args : Array Value} {below : List Frame} {meth : Method} {c : Code} {Q : State → Prop} {R : Room} (D : va_G) (cA : Nat → ClassId) (ad : Nat → Nat → Nat) (n : Nat) (A : Nat → Prop) (hx : p.tables.exec = Jvm.exec) (hb : c.code = prog_5_method_1_code) (hml : c.maxLocals = 3) (hr : meth.sig.returnType = none) (hts : ∀ w ∈ ws_M_init, w.before args s = true) (hown : s.vm.findClass "GridlockDeskModel" = some m.cls) (hlocks : meth.locks = false) (hK : va_K D vCl (atys cA) s) (x1 : Int32) (k : St → Option (Unit × St)) (out : Unit × St) (hk : ∀ (σ : St) (H : Heap) (locs : List Loc) (ls : Array Slot), lv_has ls 3 [] → MW D cA ad n A σ H → va_S A s.heap H locs → k σ = some out → W p l e R s m args below meth c H locs 17 796 Q (F0 m 202 ls [])) (σ : St) (H : Heap) (locs : List Loc) (ls : Array Slot) (hl : lv_has ls 3 [(0, .ref (ad 0 0)), (1, .int x1)]) (hW : MW D cA ad n A σ H) (hS : va_S A s.heap H locs) (hf : f_M_initr n k σ x1 = some out) : W p l e R s m args below meth c H locs 17 796 Q (F0 m 134 ls []) := by
  have ht : ∀ w ∈ TB, w.before args s = true := fun w h => hts w (List.mem_cons_of_mem _ h)
  unfold f_M_initr at hf
  refine lv_aload_n hx hb d_M_init_134 rfl (lv_at hl 0 rfl) ?_
  refine lv_iload_n hx hb d_M_init_135 rfl (lv_at hl 1 rfl) ?_
  refine lv_iconst (v := 2) hx hb d_M_init_136 (by decide) ?_
  refine lv_icmp_ge (tgt := 144) hx hb d_M_init_137 rfl (fun hc => ?_) (fun hc => ?_)
  · replace hf := og_t hc hf
    refine lv_iload_n hx hb d_M_init_144 rfl (lv_at hl 1 rfl) ?_
    refine lv_iconst (v := 4) hx hb d_M_init_145 (by decide) ?_
    refine lv_icmp_le (tgt := 153) hx hb d_M_init_146 rfl (fun hc => ?_) (fun hc => ?_)
    · replace hf := og_t hc hf
      refine lv_iload_n hx hb d_M_init_153 rfl (lv_at hl 1 rfl) ?_
      obtain ⟨σ1, eσ1, hf⟩ := og_b hf
      cases eσ1
      refine k_put  (ci := 3) (C := "GridlockDeskModel") (T := T_M) (N := 22) (ty := .int) (t := 0) hx hb ht hin_M ft_M ft_M_ok nm_M hown hK hW.1 hS rfl (hW.2 _ _ rfl) rfl rfl 0 (by decide) (ht _ tw_325) (fun _ h9 => h9) rfl (by decide +kernel) rfl rfl (Nat.le_of_ble_eq_true rfl) d_M_init_154 mm_wI0 (fun H locs hW1 hS => ?_)
      have hW := MW.wI hW1 hW.2
      refine lv_iconst (v := 0) hx hb d_M_init_157 (by decide) ?_
      refine lv_istore_n (lv' := [(2, .int _), (0, .ref _), (1, .int _)]) hx hb d_M_init_158 rfl hl (by decide) rfl (fun ls hl => ?_)
      refine lp_M_init_159_ok D cA ad n A hx hb hml hr hts hown hlocks hK _ _  (fun σ4 H locs ls  hl hW hS hf => ?_) _ _ _ _ _ _  (lv_sub hl [1, 0] rfl) hW hS hf
      refine lv_iconst (v := 0) hx hb d_M_init_179 (by decide) ?_
      refine lv_istore_n (lv' := [(2, .int _), (0, .ref _)]) hx hb d_M_init_180 rfl hl (by decide) rfl (fun ls hl => ?_)
      refine lp_M_init_181_ok D cA ad n A hx hb hml hr hts hown hlocks hK _ _  (fun σ7 H locs ls  hl hW hS hf => ?_) _ _ _ _ _ _  (lv_sub hl [1, 0] rfl) hW hS hf
      exact hk _  _ _ _  (lv_sub hl [] rfl) hW hS hf
    · replace hf := og_f hc hf
      refine lv_iconst (v := 4) hx hb d_M_init_149 (by decide) ?_
      refine lv_goto (tgt := 154) hx hb d_M_init_150 rfl ?_
      obtain ⟨σ8, eσ8, hf⟩ := og_b hf
      cases eσ8
      refine k_put  (ci := 3) (C := "GridlockDeskModel") (T := T_M) (N := 22) (ty := .int) (t := 0) hx hb ht hin_M ft_M ft_M_ok nm_M hown hK hW.1 hS rfl (hW.2 _ _ rfl) rfl rfl 0 (by decide) (ht _ tw_325) (fun _ h9 => h9) rfl (by decide +kernel) rfl rfl (Nat.le_of_ble_eq_true rfl) d_M_init_154 mm_wI0 (fun H locs hW1 hS => ?_)
      have hW := MW.wI hW1 hW.2
      refine lv_iconst (v := 0) hx hb d_M_init_157 (by decide) ?_
      refine lv_istore_n (lv' := [(2, .int _), (0, .ref _), (1, .int _)]) hx hb d_M_init_158 rfl hl (by decide) rfl (fun ls hl => ?_)
      refine lp_M_init_159_ok D cA ad n A hx hb hml hr hts hown hlocks hK _ _  (fun σ11 H locs ls  hl hW hS hf => ?_) _ _ _ _ _ _  (lv_sub hl [1, 0] rfl) hW hS hf
      refine lv_iconst (v := 0) hx hb d_M_init_179 (by decide) ?_
      refine lv_istore_n (lv' := [(2, .int _), (0, .ref _)]) hx hb d_M_init_180 rfl hl (by decide) rfl (fun ls hl => ?_)
      refine lp_M_init_181_ok D cA ad n A hx hb hml hr hts hown hlocks hK _ _  (fun σ14 H locs ls  hl hW hS hf => ?_) _ _ _ _ _ _  (lv_sub hl [1, 0] rfl) hW hS hf
      exact hk _  _ _ _  (lv_sub hl [] rfl) hW hS hf
  · replace hf := og_f hc hf
    refine lv_iconst (v := 2) hx hb d_M_init_140 (by decide) ?_
    refine lv_goto (tgt := 154) hx hb d_M_init_141 rfl ?_
    obtain ⟨σ15, eσ15, hf⟩ := og_b hf
    cases eσ15
    refine k_put  (ci := 3) (C := "GridlockDeskModel") (T := T_M) (N := 22) (ty := .int) (t := 0) hx hb ht hin_M ft_M ft_M_ok nm_M hown hK hW.1 hS rfl (hW.2 _ _ rfl) rfl rfl 0 (by decide) (ht _ tw_325) (fun _ h9 => h9) rfl (by decide +kernel) rfl rfl (Nat.le_of_ble_eq_true rfl) d_M_init_154 mm_wI0 (fun H locs hW1 hS => ?_)
    have hW := MW.wI hW1 hW.2
    refine lv_iconst (v := 0) hx hb d_M_init_157 (by decide) ?_
    refine lv_istore_n (lv' := [(2, .int _), (0, .ref _), (1, .int _)]) hx hb d_M_init_158 rfl hl (by decide) rfl (fun ls hl => ?_)
    refine lp_M_init_159_ok D cA ad n A hx hb hml hr hts hown hlocks hK _ _  (fun σ18 H locs ls  hl hW hS hf => ?_) _ _ _ _ _ _  (lv_sub hl [1, 0] rfl) hW hS hf
    refine lv_iconst (v := 0) hx hb d_M_init_179 (by decide) ?_
    refine lv_istore_n (lv' := [(2, .int _), (0, .ref _)]) hx hb d_M_init_180 rfl hl (by decide) rfl (fun ls hl => ?_)
    refine lp_M_init_181_ok D cA ad n A hx hb hml hr hts hown hlocks hK _ _  (fun σ21 H locs ls  hl hW hS hf => ?_) _ _ _ _ _ _  (lv_sub hl [1, 0] rfl) hW hS hf
    exact hk _  _ _ _  (lv_sub hl [] rfl) hW hS hf
/-- a new reference's store, ahead of its loops -/
def m0 : St := (fun _ _ _ => 0, fun _ _ _ => 0, fun _ _ _ => none, 0)
set_option maxHeartbeats 8000000 in
set_option maxRecDepth 100000 in
theorem m_M_init (l : Launch) (D : va_G) (cA : Nat → ClassId) (b sz : Nat) (x : Int32) (out : Unit × St) (hf : f_M_initr 0 (fun σ => some ((), σ)) m0 x = some out) : Met l y_M_init ws_M_init ({ frames := 1, cells := 17, slots := 796, locals := 12 }) (va_Pc [.ref b, .int x] (fun U => (va_at D vCl (b, .inr (3, [.int 0, .int 0, .long 0, .null, .null, .null, .null, .null, .int 0, .int 0, .null, .null, .null, .null, .null, .null, .null, .null, .null, .null, .null, .null])) U.heap ∧ U.heap.size = sz) ∧ va_K D vCl (atys cA) U)) (va_Qv (fun (u : Nat → Nat → Nat) => u 0 0 = b) (fun u t => MW D cA u 0 (fun q => q = b ∨ sz ≤ q) out.2 t.heap ∧ va_K D vCl (atys cA) t) (fun q => q = b ∨ sz ≤ q)) 17 796 (fun q => q = b ∨ sz ≤ q) := by
  refine Met.ofW (cc := prog_5_method_1_code) (maxL := 3) (ret := none) (by decide) rfl ?_
  intro p e s m args below meth c s₁ B hml hv
  obtain ⟨rfl, ⟨hat, hsz⟩, hK⟩ := hv
  have hx := B.exec
  have hb := B.bytes
  have hr := B.returns
  have hts := atoms_spec (ws := ws_M_init) B.pre
  have ht : ∀ w ∈ TB, w.before _ s = true := fun w h => hts w (List.mem_cons_of_mem _ h)
  have hown : s.vm.findClass "GridlockDeskModel" = some m.cls := findClass_of_methodNamed B.named
  have hlocks := B.notSynchronized
  have hin2 : meth.name = "<init>" := (name_of_methodNamed B.named B.method).1
  subst hsz
  have hl := lv_entry ([.ref b, .int x]) (n := 3) (Nat.le_of_ble_eq_true rfl)
  rw [lg_entry_eq]
  generalize (lg_sl ([.ref b, .int x]) ++ List.replicate (3 - (lg_sl ([.ref b, .int x])).length) Slot.unset).toArray = ls at hl ⊢
  have hl : lv_has ls 3 [(0, .ref b), (1, .int x)] := hl
  have hS : va_S (fun q => q = b ∨ s.heap.size ≤ q) s.heap s.heap [] := va_S.rf
  have hW : kw D vCl (fun _ _ => b) (fun t i => t = 0 ∧ i = 0) (fun _ _ => .inr (3, [.int 0, .int 0, .long 0, .null, .null, .null, .null, .null, .int 0, .int 0, .null, .null, .null, .null, .null, .null, .null, .null, .null, .null, .null, .null])) s.heap := ⟨fun _ _ _ => hat, fun t i t' i' h1 h2 _ => ⟨h1.1.trans h2.1.symm, h1.2.trans h2.2.symm⟩⟩
  refine lv_aload_n hx hb d_M_init_0 rfl (lv_at hl 0 rfl) ?_
  refine W.objInit hx hb hown (ht _ tw_323) (ht _ tw_43) (ht _ tw_44) rfl (by rw [hml]; exact hl.1) rfl d_M_init_1 (Nat.le_of_ble_eq_true rfl) (Nat.le_of_ble_eq_true rfl) ?_
  refine W.eq (g2 := F0 m 4 ls []) rfl ?_
  refine lv_aload_n hx hb d_M_init_4 rfl (lv_at hl 0 rfl) ?_
  refine lv_iconst (v := 4) hx hb d_M_init_5 (by decide) ?_
  have z1 := hS.1
  refine k_newa (D := D) (cl := vCl) (tys := atys cA) (atype := .long) (ty := .long) (N' := 4) (a0 := (4, .inr (.inl (fun _ => 0)))) hx hb (ht _ tw_91) rfl (fun _ h => by cases h) hK hS 0 rfl rfl (by decide) rfl (by decide) (Nat.le_of_ble_eq_true rfl) (Nat.le_of_ble_eq_true rfl) d_M_init_6 (fun q1 H1 hq1 hz1 hat1 ho1 hS => ?_)
  replace hW := hW.one_more ho1 hq1 hat1 1 0 (fun h => by cases h.1)
  refine k_putF (ci := 3) (C := "GridlockDeskModel") (T := T_M) (N := 22) (ty := .array .long) (t := 0) (i := 0) hx hb ht hin_M ft_M ft_M_ok nm_M hown hK hW hS (Or.inr ⟨rfl, rfl⟩) (Or.inl rfl) rfl rfl 3 (by decide) (ht _ tw_328) (fun _ h9 => h9) rfl hin2 rfl (by decide +kernel) rfl rfl (Nat.le_of_ble_eq_true rfl) d_M_init_8 (fun _ _ _ => rfl) (fun H locs hW hS => ?_)
  refine lv_aload_n hx hb d_M_init_11 rfl (lv_at hl 0 rfl) ?_
  refine lv_iconst (v := 4) hx hb d_M_init_12 (by decide) ?_
  have z2 := hS.1
  refine k_newa (D := D) (cl := vCl) (tys := atys cA) (atype := .long) (ty := .long) (N' := 4) (a0 := (4, .inr (.inl (fun _ => 0)))) hx hb (ht _ tw_91) rfl (fun _ h => by cases h) hK hS 0 rfl rfl (by decide) rfl (by decide) (Nat.le_of_ble_eq_true rfl) (Nat.le_of_ble_eq_true rfl) d_M_init_13 (fun q2 H1 hq2 hz2 hat1 ho1 hS => ?_)
  replace hW := hW.one_more ho1 hq2 hat1 2 0 (fun h => by rcases h with h | h <;> cases h.1)
  refine k_putF (ci := 3) (C := "GridlockDeskModel") (T := T_M) (N := 22) (ty := .array .long) (t := 0) (i := 0) hx hb ht hin_M ft_M ft_M_ok nm_M hown hK hW hS (Or.inr (Or.inr ⟨rfl, rfl⟩)) (Or.inl rfl) rfl rfl 4 (by decide) (ht _ tw_329) (fun _ h9 => h9) rfl hin2 rfl (by decide +kernel) rfl rfl (Nat.le_of_ble_eq_true rfl) d_M_init_15 (fun _ _ _ => rfl) (fun H locs hW hS => ?_)
  refine lv_aload_n hx hb d_M_init_18 rfl (lv_at hl 0 rfl) ?_
  refine lv_iconst (v := 4) hx hb d_M_init_19 (by decide) ?_
  have z3 := hS.1
  refine k_newa (D := D) (cl := vCl) (tys := atys cA) (atype := .long) (ty := .long) (N' := 4) (a0 := (4, .inr (.inl (fun _ => 0)))) hx hb (ht _ tw_91) rfl (fun _ h => by cases h) hK hS 0 rfl rfl (by decide) rfl (by decide) (Nat.le_of_ble_eq_true rfl) (Nat.le_of_ble_eq_true rfl) d_M_init_20 (fun q3 H1 hq3 hz3 hat1 ho1 hS => ?_)
  replace hW := hW.one_more ho1 hq3 hat1 3 0 (fun h => by rcases h with h | h | h <;> cases h.1)
  refine k_putF (ci := 3) (C := "GridlockDeskModel") (T := T_M) (N := 22) (ty := .array .long) (t := 0) (i := 0) hx hb ht hin_M ft_M ft_M_ok nm_M hown hK hW hS (Or.inr (Or.inr (Or.inr ⟨rfl, rfl⟩))) (Or.inl rfl) rfl rfl 5 (by decide) (ht _ tw_330) (fun _ h9 => h9) rfl hin2 rfl (by decide +kernel) rfl rfl (Nat.le_of_ble_eq_true rfl) d_M_init_22 (fun _ _ _ => rfl) (fun H locs hW hS => ?_)
  refine lv_aload_n hx hb d_M_init_25 rfl (lv_at hl 0 rfl) ?_
  refine lv_bipush (v := 16) hx hb d_M_init_26 (by decide) ?_
  have z4 := hS.1
  refine k_newa (D := D) (cl := vCl) (tys := atys cA) (atype := .long) (ty := .long) (N' := 16) (a0 := (16, .inr (.inl (fun _ => 0)))) hx hb (ht _ tw_91) rfl (fun _ h => by cases h) hK hS 0 rfl rfl (by decide) rfl (by decide) (Nat.le_of_ble_eq_true rfl) (Nat.le_of_ble_eq_true rfl) d_M_init_28 (fun q4 H1 hq4 hz4 hat1 ho1 hS => ?_)
  replace hW := hW.one_more ho1 hq4 hat1 4 0 (fun h => by rcases h with h | h | h | h <;> cases h.1)
  refine k_putF (ci := 3) (C := "GridlockDeskModel") (T := T_M) (N := 22) (ty := .array .long) (t := 0) (i := 0) hx hb ht hin_M ft_M ft_M_ok nm_M hown hK hW hS (Or.inr (Or.inr (Or.inr (Or.inr ⟨rfl, rfl⟩)))) (Or.inl rfl) rfl rfl 6 (by decide) (ht _ tw_331) (fun _ h9 => h9) rfl hin2 rfl (by decide +kernel) rfl rfl (Nat.le_of_ble_eq_true rfl) d_M_init_30 (fun _ _ _ => rfl) (fun H locs hW hS => ?_)
  refine lv_aload_n hx hb d_M_init_33 rfl (lv_at hl 0 rfl) ?_
  refine lv_bipush (v := 16) hx hb d_M_init_34 (by decide) ?_
  have z5 := hS.1
  refine k_newa (D := D) (cl := vCl) (tys := atys cA) (atype := .long) (ty := .long) (N' := 16) (a0 := (16, .inr (.inl (fun _ => 0)))) hx hb (ht _ tw_91) rfl (fun _ h => by cases h) hK hS 0 rfl rfl (by decide) rfl (by decide) (Nat.le_of_ble_eq_true rfl) (Nat.le_of_ble_eq_true rfl) d_M_init_36 (fun q5 H1 hq5 hz5 hat1 ho1 hS => ?_)
  replace hW := hW.one_more ho1 hq5 hat1 5 0 (fun h => by rcases h with h | h | h | h | h <;> cases h.1)
  refine k_putF (ci := 3) (C := "GridlockDeskModel") (T := T_M) (N := 22) (ty := .array .long) (t := 0) (i := 0) hx hb ht hin_M ft_M ft_M_ok nm_M hown hK hW hS (Or.inr (Or.inr (Or.inr (Or.inr (Or.inr ⟨rfl, rfl⟩))))) (Or.inl rfl) rfl rfl 7 (by decide) (ht _ tw_332) (fun _ h9 => h9) rfl hin2 rfl (by decide +kernel) rfl rfl (Nat.le_of_ble_eq_true rfl) d_M_init_38 (fun _ _ _ => rfl) (fun H locs hW hS => ?_)
  refine lv_aload_n hx hb d_M_init_41 rfl (lv_at hl 0 rfl) ?_
  refine lv_bipush (v := 100) hx hb d_M_init_42 (by decide) ?_
  have z6 := hS.1
  refine k_newa (D := D) (cl := vCl) (tys := atys cA) (atype := .int) (ty := .int) (N' := 100) (a0 := (100, .inl (fun _ => 0))) hx hb (ht _ tw_112) rfl (fun _ h => by cases h) hK hS 1 rfl rfl (by decide) rfl (by decide) (Nat.le_of_ble_eq_true rfl) (Nat.le_of_ble_eq_true rfl) d_M_init_44 (fun q6 H1 hq6 hz6 hat1 ho1 hS => ?_)
  replace hW := hW.one_more ho1 hq6 hat1 6 0 (fun h => by rcases h with h | h | h | h | h | h <;> cases h.1)
  refine k_putF (ci := 3) (C := "GridlockDeskModel") (T := T_M) (N := 22) (ty := .array .int) (t := 0) (i := 0) hx hb ht hin_M ft_M ft_M_ok nm_M hown hK hW hS (Or.inr (Or.inr (Or.inr (Or.inr (Or.inr (Or.inr ⟨rfl, rfl⟩)))))) (Or.inl rfl) rfl rfl 10 (by decide) (ht _ tw_335) (fun _ h9 => h9) rfl hin2 rfl (by decide +kernel) rfl rfl (Nat.le_of_ble_eq_true rfl) d_M_init_46 (fun _ _ _ => rfl) (fun H locs hW hS => ?_)
  refine lv_aload_n hx hb d_M_init_49 rfl (lv_at hl 0 rfl) ?_
  refine lv_bipush (v := 100) hx hb d_M_init_50 (by decide) ?_
  have z7 := hS.1
  refine k_newa (D := D) (cl := vCl) (tys := atys cA) (atype := .int) (ty := .int) (N' := 100) (a0 := (100, .inl (fun _ => 0))) hx hb (ht _ tw_112) rfl (fun _ h => by cases h) hK hS 1 rfl rfl (by decide) rfl (by decide) (Nat.le_of_ble_eq_true rfl) (Nat.le_of_ble_eq_true rfl) d_M_init_52 (fun q7 H1 hq7 hz7 hat1 ho1 hS => ?_)
  replace hW := hW.one_more ho1 hq7 hat1 7 0 (fun h => by rcases h with h | h | h | h | h | h | h <;> cases h.1)
  refine k_putF (ci := 3) (C := "GridlockDeskModel") (T := T_M) (N := 22) (ty := .array .int) (t := 0) (i := 0) hx hb ht hin_M ft_M ft_M_ok nm_M hown hK hW hS (Or.inr (Or.inr (Or.inr (Or.inr (Or.inr (Or.inr (Or.inr ⟨rfl, rfl⟩))))))) (Or.inl rfl) rfl rfl 11 (by decide) (ht _ tw_336) (fun _ h9 => h9) rfl hin2 rfl (by decide +kernel) rfl rfl (Nat.le_of_ble_eq_true rfl) d_M_init_54 (fun _ _ _ => rfl) (fun H locs hW hS => ?_)
  refine lv_aload_n hx hb d_M_init_57 rfl (lv_at hl 0 rfl) ?_
  refine lv_bipush (v := 100) hx hb d_M_init_58 (by decide) ?_
  have z8 := hS.1
  refine k_newa (D := D) (cl := vCl) (tys := atys cA) (atype := .long) (ty := .long) (N' := 100) (a0 := (100, .inr (.inl (fun _ => 0)))) hx hb (ht _ tw_91) rfl (fun _ h => by cases h) hK hS 0 rfl rfl (by decide) rfl (by decide) (Nat.le_of_ble_eq_true rfl) (Nat.le_of_ble_eq_true rfl) d_M_init_60 (fun q8 H1 hq8 hz8 hat1 ho1 hS => ?_)
  replace hW := hW.one_more ho1 hq8 hat1 8 0 (fun h => by rcases h with h | h | h | h | h | h | h | h <;> cases h.1)
  refine k_putF (ci := 3) (C := "GridlockDeskModel") (T := T_M) (N := 22) (ty := .array .long) (t := 0) (i := 0) hx hb ht hin_M ft_M ft_M_ok nm_M hown hK hW hS (Or.inr (Or.inr (Or.inr (Or.inr (Or.inr (Or.inr (Or.inr (Or.inr ⟨rfl, rfl⟩)))))))) (Or.inl rfl) rfl rfl 12 (by decide) (ht _ tw_337) (fun _ h9 => h9) rfl hin2 rfl (by decide +kernel) rfl rfl (Nat.le_of_ble_eq_true rfl) d_M_init_62 (fun _ _ _ => rfl) (fun H locs hW hS => ?_)
  refine lv_aload_n hx hb d_M_init_65 rfl (lv_at hl 0 rfl) ?_
  refine lv_bipush (v := 100) hx hb d_M_init_66 (by decide) ?_
  have z9 := hS.1
  refine k_newa (D := D) (cl := vCl) (tys := atys cA) (atype := .int) (ty := .int) (N' := 100) (a0 := (100, .inl (fun _ => 0))) hx hb (ht _ tw_112) rfl (fun _ h => by cases h) hK hS 1 rfl rfl (by decide) rfl (by decide) (Nat.le_of_ble_eq_true rfl) (Nat.le_of_ble_eq_true rfl) d_M_init_68 (fun q9 H1 hq9 hz9 hat1 ho1 hS => ?_)
  replace hW := hW.one_more ho1 hq9 hat1 9 0 (fun h => by rcases h with h | h | h | h | h | h | h | h | h <;> cases h.1)
  refine k_putF (ci := 3) (C := "GridlockDeskModel") (T := T_M) (N := 22) (ty := .array .int) (t := 0) (i := 0) hx hb ht hin_M ft_M ft_M_ok nm_M hown hK hW hS (Or.inr (Or.inr (Or.inr (Or.inr (Or.inr (Or.inr (Or.inr (Or.inr (Or.inr ⟨rfl, rfl⟩))))))))) (Or.inl rfl) rfl rfl 13 (by decide) (ht _ tw_338) (fun _ h9 => h9) rfl hin2 rfl (by decide +kernel) rfl rfl (Nat.le_of_ble_eq_true rfl) d_M_init_70 (fun _ _ _ => rfl) (fun H locs hW hS => ?_)
  refine lv_aload_n hx hb d_M_init_73 rfl (lv_at hl 0 rfl) ?_
  refine lv_bipush (v := 100) hx hb d_M_init_74 (by decide) ?_
  have z10 := hS.1
  refine k_newa (D := D) (cl := vCl) (tys := atys cA) (atype := .int) (ty := .int) (N' := 100) (a0 := (100, .inl (fun _ => 0))) hx hb (ht _ tw_112) rfl (fun _ h => by cases h) hK hS 1 rfl rfl (by decide) rfl (by decide) (Nat.le_of_ble_eq_true rfl) (Nat.le_of_ble_eq_true rfl) d_M_init_76 (fun q10 H1 hq10 hz10 hat1 ho1 hS => ?_)
  replace hW := hW.one_more ho1 hq10 hat1 10 0 (fun h => by rcases h with h | h | h | h | h | h | h | h | h | h <;> cases h.1)
  refine k_putF (ci := 3) (C := "GridlockDeskModel") (T := T_M) (N := 22) (ty := .array .int) (t := 0) (i := 0) hx hb ht hin_M ft_M ft_M_ok nm_M hown hK hW hS (Or.inr (Or.inr (Or.inr (Or.inr (Or.inr (Or.inr (Or.inr (Or.inr (Or.inr (Or.inr ⟨rfl, rfl⟩)))))))))) (Or.inl rfl) rfl rfl 14 (by decide) (ht _ tw_339) (fun _ h9 => h9) rfl hin2 rfl (by decide +kernel) rfl rfl (Nat.le_of_ble_eq_true rfl) d_M_init_78 (fun _ _ _ => rfl) (fun H locs hW hS => ?_)
  refine lv_aload_n hx hb d_M_init_81 rfl (lv_at hl 0 rfl) ?_
  refine lv_bipush (v := 100) hx hb d_M_init_82 (by decide) ?_
  have z11 := hS.1
  refine k_newa (D := D) (cl := vCl) (tys := atys cA) (atype := .int) (ty := .int) (N' := 100) (a0 := (100, .inl (fun _ => 0))) hx hb (ht _ tw_112) rfl (fun _ h => by cases h) hK hS 1 rfl rfl (by decide) rfl (by decide) (Nat.le_of_ble_eq_true rfl) (Nat.le_of_ble_eq_true rfl) d_M_init_84 (fun q11 H1 hq11 hz11 hat1 ho1 hS => ?_)
  replace hW := hW.one_more ho1 hq11 hat1 11 0 (fun h => by rcases h with h | h | h | h | h | h | h | h | h | h | h <;> cases h.1)
  refine k_putF (ci := 3) (C := "GridlockDeskModel") (T := T_M) (N := 22) (ty := .array .int) (t := 0) (i := 0) hx hb ht hin_M ft_M ft_M_ok nm_M hown hK hW hS (Or.inr (Or.inr (Or.inr (Or.inr (Or.inr (Or.inr (Or.inr (Or.inr (Or.inr (Or.inr (Or.inr ⟨rfl, rfl⟩))))))))))) (Or.inl rfl) rfl rfl 15 (by decide) (ht _ tw_340) (fun _ h9 => h9) rfl hin2 rfl (by decide +kernel) rfl rfl (Nat.le_of_ble_eq_true rfl) d_M_init_86 (fun _ _ _ => rfl) (fun H locs hW hS => ?_)
  refine lv_aload_n hx hb d_M_init_89 rfl (lv_at hl 0 rfl) ?_
  refine lv_bipush (v := 100) hx hb d_M_init_90 (by decide) ?_
  have z12 := hS.1
  refine k_newa (D := D) (cl := vCl) (tys := atys cA) (atype := .int) (ty := .int) (N' := 100) (a0 := (100, .inl (fun _ => 0))) hx hb (ht _ tw_112) rfl (fun _ h => by cases h) hK hS 1 rfl rfl (by decide) rfl (by decide) (Nat.le_of_ble_eq_true rfl) (Nat.le_of_ble_eq_true rfl) d_M_init_92 (fun q12 H1 hq12 hz12 hat1 ho1 hS => ?_)
  replace hW := hW.one_more ho1 hq12 hat1 12 0 (fun h => by rcases h with h | h | h | h | h | h | h | h | h | h | h | h <;> cases h.1)
  refine k_putF (ci := 3) (C := "GridlockDeskModel") (T := T_M) (N := 22) (ty := .array .int) (t := 0) (i := 0) hx hb ht hin_M ft_M ft_M_ok nm_M hown hK hW hS (Or.inr (Or.inr (Or.inr (Or.inr (Or.inr (Or.inr (Or.inr (Or.inr (Or.inr (Or.inr (Or.inr (Or.inr ⟨rfl, rfl⟩)))))))))))) (Or.inl rfl) rfl rfl 16 (by decide) (ht _ tw_341) (fun _ h9 => h9) rfl hin2 rfl (by decide +kernel) rfl rfl (Nat.le_of_ble_eq_true rfl) d_M_init_94 (fun _ _ _ => rfl) (fun H locs hW hS => ?_)
  refine lv_aload_n hx hb d_M_init_97 rfl (lv_at hl 0 rfl) ?_
  refine lv_bipush (v := 24) hx hb d_M_init_98 (by decide) ?_
  have z13 := hS.1
  refine k_newa (D := D) (cl := vCl) (tys := atys cA) (atype := .int) (ty := .int) (N' := 24) (a0 := (24, .inl (fun _ => 0))) hx hb (ht _ tw_112) rfl (fun _ h => by cases h) hK hS 1 rfl rfl (by decide) rfl (by decide) (Nat.le_of_ble_eq_true rfl) (Nat.le_of_ble_eq_true rfl) d_M_init_100 (fun q13 H1 hq13 hz13 hat1 ho1 hS => ?_)
  replace hW := hW.one_more ho1 hq13 hat1 13 0 (fun h => by rcases h with h | h | h | h | h | h | h | h | h | h | h | h | h <;> cases h.1)
  refine k_putF (ci := 3) (C := "GridlockDeskModel") (T := T_M) (N := 22) (ty := .array .int) (t := 0) (i := 0) hx hb ht hin_M ft_M ft_M_ok nm_M hown hK hW hS (Or.inr (Or.inr (Or.inr (Or.inr (Or.inr (Or.inr (Or.inr (Or.inr (Or.inr (Or.inr (Or.inr (Or.inr (Or.inr ⟨rfl, rfl⟩))))))))))))) (Or.inl rfl) rfl rfl 17 (by decide) (ht _ tw_342) (fun _ h9 => h9) rfl hin2 rfl (by decide +kernel) rfl rfl (Nat.le_of_ble_eq_true rfl) d_M_init_102 (fun _ _ _ => rfl) (fun H locs hW hS => ?_)
  refine lv_aload_n hx hb d_M_init_105 rfl (lv_at hl 0 rfl) ?_
  refine lv_iconst (v := 4) hx hb d_M_init_106 (by decide) ?_
  have z14 := hS.1
  refine k_newa (D := D) (cl := vCl) (tys := atys cA) (atype := .int) (ty := .int) (N' := 4) (a0 := (4, .inl (fun _ => 0))) hx hb (ht _ tw_112) rfl (fun _ h => by cases h) hK hS 1 rfl rfl (by decide) rfl (by decide) (Nat.le_of_ble_eq_true rfl) (Nat.le_of_ble_eq_true rfl) d_M_init_107 (fun q14 H1 hq14 hz14 hat1 ho1 hS => ?_)
  replace hW := hW.one_more ho1 hq14 hat1 14 0 (fun h => by rcases h with h | h | h | h | h | h | h | h | h | h | h | h | h | h <;> cases h.1)
  refine k_putF (ci := 3) (C := "GridlockDeskModel") (T := T_M) (N := 22) (ty := .array .int) (t := 0) (i := 0) hx hb ht hin_M ft_M ft_M_ok nm_M hown hK hW hS (Or.inr (Or.inr (Or.inr (Or.inr (Or.inr (Or.inr (Or.inr (Or.inr (Or.inr (Or.inr (Or.inr (Or.inr (Or.inr (Or.inr ⟨rfl, rfl⟩)))))))))))))) (Or.inl rfl) rfl rfl 18 (by decide) (ht _ tw_343) (fun _ h9 => h9) rfl hin2 rfl (by decide +kernel) rfl rfl (Nat.le_of_ble_eq_true rfl) d_M_init_109 (fun _ _ _ => rfl) (fun H locs hW hS => ?_)
  refine lv_aload_n hx hb d_M_init_112 rfl (lv_at hl 0 rfl) ?_
  refine lv_iconst (v := 4) hx hb d_M_init_113 (by decide) ?_
  have z15 := hS.1
  refine k_newa (D := D) (cl := vCl) (tys := atys cA) (atype := .long) (ty := .long) (N' := 4) (a0 := (4, .inr (.inl (fun _ => 0)))) hx hb (ht _ tw_91) rfl (fun _ h => by cases h) hK hS 0 rfl rfl (by decide) rfl (by decide) (Nat.le_of_ble_eq_true rfl) (Nat.le_of_ble_eq_true rfl) d_M_init_114 (fun q15 H1 hq15 hz15 hat1 ho1 hS => ?_)
  replace hW := hW.one_more ho1 hq15 hat1 15 0 (fun h => by rcases h with h | h | h | h | h | h | h | h | h | h | h | h | h | h | h <;> cases h.1)
  refine k_putF (ci := 3) (C := "GridlockDeskModel") (T := T_M) (N := 22) (ty := .array .long) (t := 0) (i := 0) hx hb ht hin_M ft_M ft_M_ok nm_M hown hK hW hS (Or.inr (Or.inr (Or.inr (Or.inr (Or.inr (Or.inr (Or.inr (Or.inr (Or.inr (Or.inr (Or.inr (Or.inr (Or.inr (Or.inr (Or.inr ⟨rfl, rfl⟩))))))))))))))) (Or.inl rfl) rfl rfl 19 (by decide) (ht _ tw_344) (fun _ h9 => h9) rfl hin2 rfl (by decide +kernel) rfl rfl (Nat.le_of_ble_eq_true rfl) d_M_init_116 (fun _ _ _ => rfl) (fun H locs hW hS => ?_)
  refine lv_aload_n hx hb d_M_init_119 rfl (lv_at hl 0 rfl) ?_
  refine lv_bipush (v := 16) hx hb d_M_init_120 (by decide) ?_
  have z16 := hS.1
  refine k_newa (D := D) (cl := vCl) (tys := atys cA) (atype := .long) (ty := .long) (N' := 16) (a0 := (16, .inr (.inl (fun _ => 0)))) hx hb (ht _ tw_91) rfl (fun _ h => by cases h) hK hS 0 rfl rfl (by decide) rfl (by decide) (Nat.le_of_ble_eq_true rfl) (Nat.le_of_ble_eq_true rfl) d_M_init_122 (fun q16 H1 hq16 hz16 hat1 ho1 hS => ?_)
  replace hW := hW.one_more ho1 hq16 hat1 16 0 (fun h => by rcases h with h | h | h | h | h | h | h | h | h | h | h | h | h | h | h | h <;> cases h.1)
  refine k_putF (ci := 3) (C := "GridlockDeskModel") (T := T_M) (N := 22) (ty := .array .long) (t := 0) (i := 0) hx hb ht hin_M ft_M ft_M_ok nm_M hown hK hW hS (Or.inr (Or.inr (Or.inr (Or.inr (Or.inr (Or.inr (Or.inr (Or.inr (Or.inr (Or.inr (Or.inr (Or.inr (Or.inr (Or.inr (Or.inr (Or.inr ⟨rfl, rfl⟩)))))))))))))))) (Or.inl rfl) rfl rfl 20 (by decide) (ht _ tw_345) (fun _ h9 => h9) rfl hin2 rfl (by decide +kernel) rfl rfl (Nat.le_of_ble_eq_true rfl) d_M_init_124 (fun _ _ _ => rfl) (fun H locs hW hS => ?_)
  refine lv_aload_n hx hb d_M_init_127 rfl (lv_at hl 0 rfl) ?_
  refine lv_iconst (v := 4) hx hb d_M_init_128 (by decide) ?_
  have z17 := hS.1
  refine k_newa (D := D) (cl := vCl) (tys := atys cA) (atype := .int) (ty := .int) (N' := 4) (a0 := (4, .inl (fun _ => 0))) hx hb (ht _ tw_112) rfl (fun _ h => by cases h) hK hS 1 rfl rfl (by decide) rfl (by decide) (Nat.le_of_ble_eq_true rfl) (Nat.le_of_ble_eq_true rfl) d_M_init_129 (fun q17 H1 hq17 hz17 hat1 ho1 hS => ?_)
  replace hW := hW.one_more ho1 hq17 hat1 17 0 (fun h => by rcases h with h | h | h | h | h | h | h | h | h | h | h | h | h | h | h | h | h <;> cases h.1)
  refine k_putF (ci := 3) (C := "GridlockDeskModel") (T := T_M) (N := 22) (ty := .array .int) (t := 0) (i := 0) hx hb ht hin_M ft_M ft_M_ok nm_M hown hK hW hS (Or.inr (Or.inr (Or.inr (Or.inr (Or.inr (Or.inr (Or.inr (Or.inr (Or.inr (Or.inr (Or.inr (Or.inr (Or.inr (Or.inr (Or.inr (Or.inr (Or.inr ⟨rfl, rfl⟩))))))))))))))))) (Or.inl rfl) rfl rfl 21 (by decide) (ht _ tw_346) (fun _ h9 => h9) rfl hin2 rfl (by decide +kernel) rfl rfl (Nat.le_of_ble_eq_true rfl) d_M_init_131 (fun _ _ _ => rfl) (fun H locs hW hS => ?_)
  have hM : MW D cA (kup (kup (kup (kup (kup (kup (kup (kup (kup (kup (kup (kup (kup (kup (kup (kup (kup (fun _ _ => b) 1 0 q1) 2 0 q2) 3 0 q3) 4 0 q4) 5 0 q5) 6 0 q6) 7 0 q7) 8 0 q8) 9 0 q9) 10 0 q10) 11 0 q11) 12 0 q12) 13 0 q13) 14 0 q14) 15 0 q15) 16 0 q16) 17 0 q17) 0 (fun q => q = b ∨ s.heap.size ≤ q) m0 H := by
    have hdom : ∀ t i, mdom 0 m0 t i → (t = 17 ∧ i = 0) ∨ (t = 16 ∧ i = 0) ∨ (t = 15 ∧ i = 0) ∨ (t = 14 ∧ i = 0) ∨ (t = 13 ∧ i = 0) ∨ (t = 12 ∧ i = 0) ∨ (t = 11 ∧ i = 0) ∨ (t = 10 ∧ i = 0) ∨ (t = 9 ∧ i = 0) ∨ (t = 8 ∧ i = 0) ∨ (t = 7 ∧ i = 0) ∨ (t = 6 ∧ i = 0) ∨ (t = 5 ∧ i = 0) ∨ (t = 4 ∧ i = 0) ∨ (t = 3 ∧ i = 0) ∨ (t = 2 ∧ i = 0) ∨ (t = 1 ∧ i = 0) ∨ (t = 0 ∧ i = 0) := by
      intro t i h
      match t, h with
      | 0, h => have h : i = 0 := h; subst h; exact Or.inr (Or.inr (Or.inr (Or.inr (Or.inr (Or.inr (Or.inr (Or.inr (Or.inr (Or.inr (Or.inr (Or.inr (Or.inr (Or.inr (Or.inr (Or.inr (Or.inr ⟨rfl, rfl⟩))))))))))))))))
      | 1, h => have h : i = 0 := h; subst h; exact Or.inr (Or.inr (Or.inr (Or.inr (Or.inr (Or.inr (Or.inr (Or.inr (Or.inr (Or.inr (Or.inr (Or.inr (Or.inr (Or.inr (Or.inr (Or.inr (Or.inl ⟨rfl, rfl⟩))))))))))))))))
      | 2, h => have h : i = 0 := h; subst h; exact Or.inr (Or.inr (Or.inr (Or.inr (Or.inr (Or.inr (Or.inr (Or.inr (Or.inr (Or.inr (Or.inr (Or.inr (Or.inr (Or.inr (Or.inr (Or.inl ⟨rfl, rfl⟩)))))))))))))))
      | 3, h => have h : i = 0 := h; subst h; exact Or.inr (Or.inr (Or.inr (Or.inr (Or.inr (Or.inr (Or.inr (Or.inr (Or.inr (Or.inr (Or.inr (Or.inr (Or.inr (Or.inr (Or.inl ⟨rfl, rfl⟩))))))))))))))
      | 4, h => have h : i = 0 := h; subst h; exact Or.inr (Or.inr (Or.inr (Or.inr (Or.inr (Or.inr (Or.inr (Or.inr (Or.inr (Or.inr (Or.inr (Or.inr (Or.inr (Or.inl ⟨rfl, rfl⟩)))))))))))))
      | 5, h => have h : i = 0 := h; subst h; exact Or.inr (Or.inr (Or.inr (Or.inr (Or.inr (Or.inr (Or.inr (Or.inr (Or.inr (Or.inr (Or.inr (Or.inr (Or.inl ⟨rfl, rfl⟩))))))))))))
      | 6, h => have h : i = 0 := h; subst h; exact Or.inr (Or.inr (Or.inr (Or.inr (Or.inr (Or.inr (Or.inr (Or.inr (Or.inr (Or.inr (Or.inr (Or.inl ⟨rfl, rfl⟩)))))))))))
      | 7, h => have h : i = 0 := h; subst h; exact Or.inr (Or.inr (Or.inr (Or.inr (Or.inr (Or.inr (Or.inr (Or.inr (Or.inr (Or.inr (Or.inl ⟨rfl, rfl⟩))))))))))
      | 8, h => have h : i = 0 := h; subst h; exact Or.inr (Or.inr (Or.inr (Or.inr (Or.inr (Or.inr (Or.inr (Or.inr (Or.inr (Or.inl ⟨rfl, rfl⟩)))))))))
      | 9, h => have h : i = 0 := h; subst h; exact Or.inr (Or.inr (Or.inr (Or.inr (Or.inr (Or.inr (Or.inr (Or.inr (Or.inl ⟨rfl, rfl⟩))))))))
      | 10, h => have h : i = 0 := h; subst h; exact Or.inr (Or.inr (Or.inr (Or.inr (Or.inr (Or.inr (Or.inr (Or.inl ⟨rfl, rfl⟩)))))))
      | 11, h => have h : i = 0 := h; subst h; exact Or.inr (Or.inr (Or.inr (Or.inr (Or.inr (Or.inr (Or.inl ⟨rfl, rfl⟩))))))
      | 12, h => have h : i = 0 := h; subst h; exact Or.inr (Or.inr (Or.inr (Or.inr (Or.inr (Or.inl ⟨rfl, rfl⟩)))))
      | 13, h => have h : i = 0 := h; subst h; exact Or.inr (Or.inr (Or.inr (Or.inr (Or.inl ⟨rfl, rfl⟩))))
      | 14, h => have h : i = 0 := h; subst h; exact Or.inr (Or.inr (Or.inr (Or.inl ⟨rfl, rfl⟩)))
      | 15, h => have h : i = 0 := h; subst h; exact Or.inr (Or.inr (Or.inl ⟨rfl, rfl⟩))
      | 16, h => have h : i = 0 := h; subst h; exact Or.inr (Or.inl ⟨rfl, rfl⟩)
      | 17, h => have h : i = 0 := h; subst h; exact Or.inl ⟨rfl, rfl⟩
    refine ⟨⟨fun t i h => ?_, fun t i t' i' h1 h2 he => hW.2 t i t' i' (hdom t i h1) (hdom t' i' h2) he⟩, fun t i h => ?_⟩
    · match t, h with
      | 0, h => have h : i = 0 := h; subst h; exact hW.1 0 0 (Or.inr (Or.inr (Or.inr (Or.inr (Or.inr (Or.inr (Or.inr (Or.inr (Or.inr (Or.inr (Or.inr (Or.inr (Or.inr (Or.inr (Or.inr (Or.inr (Or.inr ⟨rfl, rfl⟩)))))))))))))))))
      | 1, h => have h : i = 0 := h; subst h; exact hW.1 1 0 (Or.inr (Or.inr (Or.inr (Or.inr (Or.inr (Or.inr (Or.inr (Or.inr (Or.inr (Or.inr (Or.inr (Or.inr (Or.inr (Or.inr (Or.inr (Or.inr (Or.inl ⟨rfl, rfl⟩)))))))))))))))))
      | 2, h => have h : i = 0 := h; subst h; exact hW.1 2 0 (Or.inr (Or.inr (Or.inr (Or.inr (Or.inr (Or.inr (Or.inr (Or.inr (Or.inr (Or.inr (Or.inr (Or.inr (Or.inr (Or.inr (Or.inr (Or.inl ⟨rfl, rfl⟩))))))))))))))))
      | 3, h => have h : i = 0 := h; subst h; exact hW.1 3 0 (Or.inr (Or.inr (Or.inr (Or.inr (Or.inr (Or.inr (Or.inr (Or.inr (Or.inr (Or.inr (Or.inr (Or.inr (Or.inr (Or.inr (Or.inl ⟨rfl, rfl⟩)))))))))))))))
      | 4, h => have h : i = 0 := h; subst h; exact hW.1 4 0 (Or.inr (Or.inr (Or.inr (Or.inr (Or.inr (Or.inr (Or.inr (Or.inr (Or.inr (Or.inr (Or.inr (Or.inr (Or.inr (Or.inl ⟨rfl, rfl⟩))))))))))))))
      | 5, h => have h : i = 0 := h; subst h; exact hW.1 5 0 (Or.inr (Or.inr (Or.inr (Or.inr (Or.inr (Or.inr (Or.inr (Or.inr (Or.inr (Or.inr (Or.inr (Or.inr (Or.inl ⟨rfl, rfl⟩)))))))))))))
      | 6, h => have h : i = 0 := h; subst h; exact hW.1 6 0 (Or.inr (Or.inr (Or.inr (Or.inr (Or.inr (Or.inr (Or.inr (Or.inr (Or.inr (Or.inr (Or.inr (Or.inl ⟨rfl, rfl⟩))))))))))))
      | 7, h => have h : i = 0 := h; subst h; exact hW.1 7 0 (Or.inr (Or.inr (Or.inr (Or.inr (Or.inr (Or.inr (Or.inr (Or.inr (Or.inr (Or.inr (Or.inl ⟨rfl, rfl⟩)))))))))))
      | 8, h => have h : i = 0 := h; subst h; exact hW.1 8 0 (Or.inr (Or.inr (Or.inr (Or.inr (Or.inr (Or.inr (Or.inr (Or.inr (Or.inr (Or.inl ⟨rfl, rfl⟩))))))))))
      | 9, h => have h : i = 0 := h; subst h; exact hW.1 9 0 (Or.inr (Or.inr (Or.inr (Or.inr (Or.inr (Or.inr (Or.inr (Or.inr (Or.inl ⟨rfl, rfl⟩)))))))))
      | 10, h => have h : i = 0 := h; subst h; exact hW.1 10 0 (Or.inr (Or.inr (Or.inr (Or.inr (Or.inr (Or.inr (Or.inr (Or.inl ⟨rfl, rfl⟩))))))))
      | 11, h => have h : i = 0 := h; subst h; exact hW.1 11 0 (Or.inr (Or.inr (Or.inr (Or.inr (Or.inr (Or.inr (Or.inl ⟨rfl, rfl⟩)))))))
      | 12, h => have h : i = 0 := h; subst h; exact hW.1 12 0 (Or.inr (Or.inr (Or.inr (Or.inr (Or.inr (Or.inl ⟨rfl, rfl⟩))))))
      | 13, h => have h : i = 0 := h; subst h; exact hW.1 13 0 (Or.inr (Or.inr (Or.inr (Or.inr (Or.inl ⟨rfl, rfl⟩)))))
      | 14, h => have h : i = 0 := h; subst h; exact hW.1 14 0 (Or.inr (Or.inr (Or.inr (Or.inl ⟨rfl, rfl⟩))))
      | 15, h => have h : i = 0 := h; subst h; exact hW.1 15 0 (Or.inr (Or.inr (Or.inl ⟨rfl, rfl⟩)))
      | 16, h => have h : i = 0 := h; subst h; exact hW.1 16 0 (Or.inr (Or.inl ⟨rfl, rfl⟩))
      | 17, h => have h : i = 0 := h; subst h; exact hW.1 17 0 (Or.inl ⟨rfl, rfl⟩)
    · match t, h with
      | 0, h => have h : i = 0 := h; subst h; exact Or.inl rfl
      | 1, h => have h : i = 0 := h; subst h; exact Or.inr (show s.heap.size ≤ q1 by omega)
      | 2, h => have h : i = 0 := h; subst h; exact Or.inr (show s.heap.size ≤ q2 by omega)
      | 3, h => have h : i = 0 := h; subst h; exact Or.inr (show s.heap.size ≤ q3 by omega)
      | 4, h => have h : i = 0 := h; subst h; exact Or.inr (show s.heap.size ≤ q4 by omega)
      | 5, h => have h : i = 0 := h; subst h; exact Or.inr (show s.heap.size ≤ q5 by omega)
      | 6, h => have h : i = 0 := h; subst h; exact Or.inr (show s.heap.size ≤ q6 by omega)
      | 7, h => have h : i = 0 := h; subst h; exact Or.inr (show s.heap.size ≤ q7 by omega)
      | 8, h => have h : i = 0 := h; subst h; exact Or.inr (show s.heap.size ≤ q8 by omega)
      | 9, h => have h : i = 0 := h; subst h; exact Or.inr (show s.heap.size ≤ q9 by omega)
      | 10, h => have h : i = 0 := h; subst h; exact Or.inr (show s.heap.size ≤ q10 by omega)
      | 11, h => have h : i = 0 := h; subst h; exact Or.inr (show s.heap.size ≤ q11 by omega)
      | 12, h => have h : i = 0 := h; subst h; exact Or.inr (show s.heap.size ≤ q12 by omega)
      | 13, h => have h : i = 0 := h; subst h; exact Or.inr (show s.heap.size ≤ q13 by omega)
      | 14, h => have h : i = 0 := h; subst h; exact Or.inr (show s.heap.size ≤ q14 by omega)
      | 15, h => have h : i = 0 := h; subst h; exact Or.inr (show s.heap.size ≤ q15 by omega)
      | 16, h => have h : i = 0 := h; subst h; exact Or.inr (show s.heap.size ≤ q16 by omega)
      | 17, h => have h : i = 0 := h; subst h; exact Or.inr (show s.heap.size ≤ q17 by omega)
  refine r_M_init D cA (kup (kup (kup (kup (kup (kup (kup (kup (kup (kup (kup (kup (kup (kup (kup (kup (kup (fun _ _ => b) 1 0 q1) 2 0 q2) 3 0 q3) 4 0 q4) 5 0 q5) 6 0 q6) 7 0 q7) 8 0 q8) 9 0 q9) 10 0 q10) 11 0 q11) 12 0 q12) 13 0 q13) 14 0 q14) 15 0 q15) 16 0 q16) 17 0 q17) 0 _ hx hb hml hr hts hown hlocks hK x _ out (fun σ H locs ls hl hW hS he => ?_) m0 _ _ ls hl hM hS hf
  have he := Option.some.inj he
  exact W.vret hx hb hr (fun t ht hWm => ⟨⟨(kup (kup (kup (kup (kup (kup (kup (kup (kup (kup (kup (kup (kup (kup (kup (kup (kup (fun _ _ => b) 1 0 q1) 2 0 q2) 3 0 q3) 4 0 q4) 5 0 q5) 6 0 q6) 7 0 q7) 8 0 q8) 9 0 q9) 10 0 q10) 11 0 q11) 12 0 q12) 13 0 q13) 14 0 q14) 15 0 q15) 16 0 q16) 17 0 q17), rfl, rfl, by rw [ht, ← he]; exact hW, va_K.moved hWm.alike hK⟩, hS.F ht⟩) hS.2.2 d_M_init_202
