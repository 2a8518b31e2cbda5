theorem lb_in {w : Cond} (h : w ∈ TB) : w ∈ lw_tbl := (List.mem_filter.mp h).1
theorem lb_V {own C : String} {idx k : Nat} {y : MethodName} {b : ByteArray} {r : Option FieldType} (h1 : Cond.methodLink own idx y ∈ TB) (h2 : Cond.instanceMethod y ∈ TB) (h3 : Cond.selects C y y ∈ TB) (h4 : Cond.initialized C ∈ TB) (h5 : Cond.code y b k r ∈ TB) : GoodIn lw_tbl (wsV own idx C y (.code y b k r :: TB)) := by
  intro w hw
  obtain ⟨h6, h7⟩ := tb_V (c0 := .code y b k r) h1 h2 h3 h4 h5 w hw
  refine ⟨?_, h7⟩
  rcases List.mem_cons.mp h6 with rfl | h
  · exact lb_in h5
  · exact lb_in h
theorem lb_S {own : String} {idx k : Nat} {y : MethodName} {b : ByteArray} {r : Option FieldType} (h1 : Cond.methodLink own idx y ∈ TB) (h2 : Cond.static y ∈ TB) (h4 : Cond.initialized y.cls ∈ TB) (h5 : Cond.code y b k r ∈ TB) : GoodIn lw_tbl (va_wsS own idx y (.code y b k r :: TB)) := by
  intro w hw
  obtain ⟨h6, h7⟩ := tb_S (c0 := .code y b k r) h1 h2 h4 h5 w hw
  refine ⟨?_, h7⟩
  rcases List.mem_cons.mp h6 with rfl | h
  · exact lb_in h5
  · exact lb_in h
theorem lb_C {b : ByteArray} {k : Nat} {y : MethodName} {r : Option FieldType} (h5 : Cond.code y b k r ∈ TB) : GoodIn lw_tbl (.code y b k r :: TB) := by
  intro w hw
  obtain ⟨h6, h7⟩ := tb_C (c0 := .code y b k r) h5 w hw
  refine ⟨?_, h7⟩
  rcases List.mem_cons.mp h6 with rfl | h
  · exact lb_in h5
  · exact lb_in h
set_option maxHeartbeats 4000000 in
set_option maxRecDepth 100000 in
/-- cell(s, k) -/
theorem m_L_cell (l : Launch) (b L : Nat) (xs : Nat → Int32) (hL : L ≤ 3585) : Met l y_L_cell ws_L_cell ({ frames := 0, cells := 0, slots := 0, locals := 0 }) (va_Pc [.ref b, .int 0] (fun U => va_X b L xs U U.heap ∧ b < U.heap.size)) (va_Qi (fun (r : Int32) (_ : Unit) => r = if 0 < L then xs 0 else 0) (fun _ _ => True) (fun _ => False)) 0 0 (fun _ => False) := by
  refine Met.ofW (cc := method_2_code) (maxL := 2) (ret := (some .int)) (by decide) rfl ?_
  intro p e s m args below meth c s₁ B hml hv
  obtain ⟨rfl, hX, hbl⟩ := hv
  have hx := B.exec
  have hb := B.bytes
  have hr := B.returns
  have hlocks := B.notSynchronized
  have hS : va_S (fun _ => False) s.heap s.heap [] := va_S.rf
  have hl := lv_entry ([.ref b, .int 0]) (n := 2) (Nat.le_of_ble_eq_true rfl)
  rw [lg_entry_eq]
  generalize (lg_sl ([.ref b, .int 0]) ++ List.replicate (2 - (lg_sl ([.ref b, .int 0])).length) Slot.unset).toArray = ls at hl ⊢
  have hl : lv_has ls 2 [(0, .ref b), (1, .int 0)] := hl
  refine lv_iload_n hx hb d_L_cell_0 rfl (lv_at hl 1 rfl) ?_
  refine lv_aload_n hx hb d_L_cell_1 rfl (lv_at hl 0 rfl) ?_
  refine va_slen hx hb hX hbl (fun h => h) hS d_L_cell_2 ?_
  refine lv_icmp_ge (tgt := 12) hx hb d_L_cell_3 rfl (fun hc => ?_) (fun hc => ?_)
  · have h0 : ¬ 0 < L := fun h => absurd hc (show ¬ nI L ≤ nI 0 from nI_ge h (by omega))
    refine lv_iconst (v := 0) hx hb d_L_cell_12 (by decide) ?_
    exact W.iret hx hb hr (fun t ht hWm => ⟨⟨0, (), rfl, by rw [if_neg h0], trivial⟩, hS.F ht⟩) hS.2.2 d_L_cell_13
  · have h0 : 0 < L := Nat.pos_of_ne_zero fun h => hc (by rw [h]; exact (show nI 0 ≤ nI 0 from nI_le (Nat.le_refl _) (by omega)))
    refine lv_aload_n hx hb d_L_cell_6 rfl (lv_at hl 0 rfl) ?_
    refine lv_iload_n hx hb d_L_cell_7 rfl (lv_at hl 1 rfl) ?_
    refine va_sld hx hb hX hbl (fun h => h) hS (show vp_in (nI 0) L from vp_in_nI h0 (by omega)) d_L_cell_8 ?_
    refine lv_goto (tgt := 13) hx hb d_L_cell_9 rfl ?_
    exact W.iret hx hb hr (fun t ht hWm => ⟨⟨_, (), rfl, by rw [if_pos h0]; rfl, trivial⟩, hS.F ht⟩) hS.2.2 d_L_cell_13
/-- the reference's cells -/
def PM (adm : Nat → Nat → Nat) (q : Nat) : Prop := ∃ t i, mdom 0 m0 t i ∧ q = adm t i
def AX (z : Nat) (adm : Nat → Nat → Nat) (q : Nat) : Prop := z ≤ q ∧ ¬ PM adm q
theorem mdom_eq (σ σ' : St) (t i : Nat) : mdom 0 σ t i = mdom 0 σ' t i := rfl
/-- the two worlds -/
def LWd (D : va_G) (cA : Nat → ClassId) (z : Nat) (adx adm : Nat → Nat → Nat) (n : Nat) (σx σm : St) (H : Heap) : Prop := CW D cA adx n (AX z adm) σx H ∧ MW D cA adm 0 (PM adm) σm H ∧ ∀ q, PM adm q → z ≤ q
theorem LWd.ofX {D : va_G} {cA : Nat → ClassId} {z : Nat} {adx adx' adm : Nat → Nat → Nat} {n : Nat} {σx σx' σm : St} {H H1 : Heap} (h : LWd D cA z adx adm n σx σm H) (hx : CW D cA adx' n (AX z adm) σx' H1) (hk : ∀ q : Nat, q < H.size → ¬ AX z adm q → H1[q]? = H[q]?) : LWd D cA z adx' adm n σx' σm H1 :=
  ⟨hx, ⟨h.2.1.1.kept (fun t i hd => hk _ (h.2.1.1.1 t i hd).lt (fun q => q.2 (h.2.1.2 t i hd))), h.2.1.2⟩, h.2.2⟩
theorem LWd.ofM {D : va_G} {cA : Nat → ClassId} {z : Nat} {adx adm : Nat → Nat → Nat} {n : Nat} {σx σm σm' : St} {H H1 : Heap} (h : LWd D cA z adx adm n σx σm H) (hm : MW D cA adm 0 (PM adm) σm' H1) (hk : ∀ q : Nat, q < H.size → ¬ PM adm q → H1[q]? = H[q]?) : LWd D cA z adx adm n σx σm' H1 :=
  ⟨⟨h.1.1.kept (fun t i hd => hk _ (h.1.1.1 t i hd).lt (h.1.2 t i hd).2), h.1.2⟩, hm, h.2.2⟩
section LC
variable {p : Program} {l : Launch} {e : Env} {R : Room} {s : State} {m : MethodId} {args : Array Value} {below : List Frame} {meth : Method} {c : Code} {H : Heap} {locs : List Loc} {cells slots : Nat} {Q : State → Prop}
variable {pc : Nat} {ls : Array Slot} {rest st0 : List Value} {a : Array Value} {D : va_G} {cA : Nat → ClassId} {z n : Nat} {adx adm : Nat → Nat → Nat} {σx σm : St} {Kp : State → Prop}
theorem lx_i {out : Int32 × St} (hr : va_Run p l e R s m args below meth c H locs cells slots 0 0 (F0 m pc ls st0) rest (va_Qi (fun r u => (r, u) = out) (fun u t => CW D cA adx n (AX s.heap.size adm) u t.heap ∧ Kp t) (AX s.heap.size adm) a) (AX s.heap.size adm)) (hL : LWd D cA s.heap.size adx adm n σx σm H) (hS : va_S (fun q => s.heap.size ≤ q) s.heap H locs)
    (kk : ∀ (H1 : Heap) (locs1 : List Loc), LWd D cA s.heap.size adx adm n out.2 σm H1 → va_S (fun q => s.heap.size ≤ q) s.heap H1 locs1 → W p l e R s m args below meth c H1 locs1 cells slots Q (F0 m (pc + 3) ls (.int out.1 :: rest))) : W p l e R s m args below meth c H locs cells slots Q (F0 m pc ls st0) :=
  va_calli hr hS (fun _ _ h => h.1) (fun _ h => h.1) (fun r u t H1 locs1 ht hvm hp hB hz hk hS => by
    cases hp
    exact kk H1 locs1 (hL.ofX (by rw [← ht]; exact hB.1) hk) hS)
theorem lm_i {out : Int32 × St} (hr : va_Run p l e R s m args below meth c H locs cells slots 0 0 (F0 m pc ls st0) rest (va_Qi (fun r u => (r, u) = out) (fun u t => MW D cA adm 0 (PM adm) u t.heap ∧ Kp t) (PM adm) a) (PM adm)) (hL : LWd D cA s.heap.size adx adm n σx σm H) (hS : va_S (fun q => s.heap.size ≤ q) s.heap H locs)
    (kk : ∀ (H1 : Heap) (locs1 : List Loc), LWd D cA s.heap.size adx adm n σx out.2 H1 → va_S (fun q => s.heap.size ≤ q) s.heap H1 locs1 → W p l e R s m args below meth c H1 locs1 cells slots Q (F0 m (pc + 3) ls (.int out.1 :: rest))) : W p l e R s m args below meth c H locs cells slots Q (F0 m pc ls st0) :=
  va_calli hr hS (fun _ _ h => hL.2.2 _ h) (fun _ h => hL.2.2 _ h) (fun r u t H1 locs1 ht hvm hp hB hz hk hS => by
    cases hp
    exact kk H1 locs1 (hL.ofM (by rw [← ht]; exact hB.1) hk) hS)
theorem lx_l {out : Int64 × St} (hr : va_Run p l e R s m args below meth c H locs cells slots 0 0 (F0 m pc ls st0) rest (va_Ql (fun r u => (r, u) = out) (fun u t => CW D cA adx n (AX s.heap.size adm) u t.heap ∧ Kp t) (AX s.heap.size adm) a) (AX s.heap.size adm)) (hL : LWd D cA s.heap.size adx adm n σx σm H) (hS : va_S (fun q => s.heap.size ≤ q) s.heap H locs)
    (kk : ∀ (H1 : Heap) (locs1 : List Loc), LWd D cA s.heap.size adx adm n out.2 σm H1 → va_S (fun q => s.heap.size ≤ q) s.heap H1 locs1 → W p l e R s m args below meth c H1 locs1 cells slots Q (F0 m (pc + 3) ls (.long out.1 :: rest))) : W p l e R s m args below meth c H locs cells slots Q (F0 m pc ls st0) :=
  va_calll hr hS (fun _ _ h => h.1) (fun _ h => h.1) (fun r u t H1 locs1 ht hvm hp hB hz hk hS => by
    cases hp
    exact kk H1 locs1 (hL.ofX (by rw [← ht]; exact hB.1) hk) hS)
theorem lm_l {out : Int64 × St} (hr : va_Run p l e R s m args below meth c H locs cells slots 0 0 (F0 m pc ls st0) rest (va_Ql (fun r u => (r, u) = out) (fun u t => MW D cA adm 0 (PM adm) u t.heap ∧ Kp t) (PM adm) a) (PM adm)) (hL : LWd D cA s.heap.size adx adm n σx σm H) (hS : va_S (fun q => s.heap.size ≤ q) s.heap H locs)
    (kk : ∀ (H1 : Heap) (locs1 : List Loc), LWd D cA s.heap.size adx adm n σx out.2 H1 → va_S (fun q => s.heap.size ≤ q) s.heap H1 locs1 → W p l e R s m args below meth c H1 locs1 cells slots Q (F0 m (pc + 3) ls (.long out.1 :: rest))) : W p l e R s m args below meth c H locs cells slots Q (F0 m pc ls st0) :=
  va_calll hr hS (fun _ _ h => hL.2.2 _ h) (fun _ h => hL.2.2 _ h) (fun r u t H1 locs1 ht hvm hp hB hz hk hS => by
    cases hp
    exact kk H1 locs1 (hL.ofM (by rw [← ht]; exact hB.1) hk) hS)
theorem lx_pay {out : Int32 × St} (hr : va_Run p l e R s m args below meth c H locs cells slots 1 7 (F0 m pc ls st0) rest (va_Qi (fun (r : Int32) (u : (Nat → Nat → Nat) × St) => (r, u.2) = out ∧ u.1 0 0 = adx 0 0) (fun u t => CW D cA u.1 n (AX s.heap.size adm) u.2 t.heap ∧ Kp t) (AX s.heap.size adm) a) (AX s.heap.size adm)) (hL : LWd D cA s.heap.size adx adm n σx σm H) (hS : va_S (fun q => s.heap.size ≤ q) s.heap H locs)
    (kk : ∀ (adx' : Nat → Nat → Nat) (H1 : Heap) (locs1 : List Loc), adx' 0 0 = adx 0 0 → LWd D cA s.heap.size adx' adm n out.2 σm H1 → va_S (fun q => s.heap.size ≤ q) s.heap H1 locs1 → W p l e R s m args below meth c H1 locs1 (cells + 1) (slots + 7) Q (F0 m (pc + 3) ls (.int out.1 :: rest))) : W p l e R s m args below meth c H locs cells slots Q (F0 m pc ls st0) :=
  va_calli hr hS (fun _ _ h => h.1) (fun _ h => h.1) (fun r u t H1 locs1 ht hvm hp hB hz hk hS => by
    obtain ⟨hp, h0⟩ := hp
    cases hp
    exact kk u.1 H1 locs1 h0 (hL.ofX (by rw [← ht]; exact hB.1) hk) hS)
end LC
theorem lw_ix {i L k : Nat} (h : i + 7 ≤ L) (hL : L ≤ 3585) (hk : k ≤ 6) : vp_in (nI i + nI k) L := by
  rw [nI_add]
  exact vp_in_nI (by omega) (by omega)
def PO_fund (Rel : Nat → Nat → St → St → Prop) : Prop := ∀ (c n : Nat) (σx σm : St) (a1 : Int32) (a2 : Int64), c < 512 → Rel c n σx σm → ∃ (r : Int32) (σx' σm' : St), f_X_fund n σx a1 a2 = some (r, σx') ∧ f_M_fund 0 σm a1 a2 = some (r, σm') ∧ Rel (c + 1) n σx' σm'
def PO_credit (Rel : Nat → Nat → St → St → Prop) : Prop := ∀ (c n : Nat) (σx σm : St) (a1 : Int32) (a2 : Int64), c < 512 → Rel c n σx σm → ∃ (r : Int32) (σx' σm' : St), f_X_credit n σx a1 a2 = some (r, σx') ∧ f_M_credit 0 σm a1 a2 = some (r, σm') ∧ Rel (c + 1) n σx' σm'
def PO_limit (Rel : Nat → Nat → St → St → Prop) : Prop := ∀ (c n : Nat) (σx σm : St) (a1 : Int32) (a2 : Int32) (a3 : Int64), c < 512 → Rel c n σx σm → ∃ (r : Int32) (σx' σm' : St), f_X_limit n σx a1 a2 a3 = some (r, σx') ∧ f_M_limit 0 σm a1 a2 a3 = some (r, σm') ∧ Rel (c + 1) n σx' σm'
def PO_totalLimit (Rel : Nat → Nat → St → St → Prop) : Prop := ∀ (c n : Nat) (σx σm : St) (a1 : Int32) (a2 : Int64), c < 512 → Rel c n σx σm → ∃ (r : Int32) (σx' σm' : St), f_X_totalLimit n σx a1 a2 = some (r, σx') ∧ f_M_totalLimit 0 σm a1 a2 = some (r, σm') ∧ Rel (c + 1) n σx' σm'
def PO_pay (Rel : Nat → Nat → St → St → Prop) : Prop := ∀ (c n : Nat) (σx σm : St) (a1 : Int32) (a2 : Int32) (a3 : Int64) (a4 : Int32) (a5 : Int32), c < 512 → Rel c n σx σm → ∃ (r : Int32) (σx' σm' : St), f_X_pay n σx a1 a2 a3 a4 a5 = some (r, σx') ∧ f_M_pay 0 σm a1 a2 a3 a4 a5 = some (r, σm') ∧ Rel (c + 1) n σx' σm'
def PO_cancel (Rel : Nat → Nat → St → St → Prop) : Prop := ∀ (c n : Nat) (σx σm : St) (a1 : Int32), c < 512 → Rel c n σx σm → ∃ (r : Int32) (σx' σm' : St), f_X_cancel n σx a1 = some (r, σx') ∧ f_M_cancel 0 σm a1 = some (r, σm') ∧ Rel (c + 1) n σx' σm'
def PO_urge (Rel : Nat → Nat → St → St → Prop) : Prop := ∀ (c n : Nat) (σx σm : St) (a1 : Int32) (a2 : Int32), c < 512 → Rel c n σx σm → ∃ (r : Int32) (σx' σm' : St), f_X_urge n σx a1 a2 = some (r, σx') ∧ f_M_urge 0 σm a1 a2 = some (r, σm') ∧ Rel (c + 1) n σx' σm'
def PO_resolve (Rel : Nat → Nat → St → St → Prop) : Prop := ∀ (c n : Nat) (σx σm : St), c < 512 → Rel c n σx σm → ∃ (r : Int32) (σx' σm' : St), f_X_resolve n σx = some (r, σx') ∧ f_M_resolve 0 σm = some (r, σm') ∧ Rel (c + 1) n σx' σm'
def PO_tick (Rel : Nat → Nat → St → St → Prop) : Prop := ∀ (c n : Nat) (σx σm : St) (a1 : Int32), c < 512 → Rel c n σx σm → ∃ (r : Int32) (σx' σm' : St), f_X_tick n σx a1 = some (r, σx') ∧ f_M_tick 0 σm a1 = some (r, σm') ∧ Rel (c + 1) n σx' σm'
def PO_close (Rel : Nat → Nat → St → St → Prop) : Prop := ∀ (c n : Nat) (σx σm : St), c < 512 → Rel c n σx σm → ∃ (r : Int32) (σx' σm' : St), f_X_close n σx = some (r, σx') ∧ f_M_close 0 σm = some (r, σm') ∧ Rel (c + 1) n σx' σm'
def PO_balance (Rel : Nat → Nat → St → St → Prop) : Prop := ∀ (c n : Nat) (σx σm : St) (a1 : Int32), c < 512 → Rel c n σx σm → ∃ (r : Int64) (σx' σm' : St), f_X_balance n σx a1 = some (r, σx') ∧ f_M_balance 0 σm a1 = some (r, σm') ∧ Rel (c + 1) n σx' σm'
def PO_position (Rel : Nat → Nat → St → St → Prop) : Prop := ∀ (c n : Nat) (σx σm : St) (a1 : Int32) (a2 : Int32), c < 512 → Rel c n σx σm → ∃ (r : Int64) (σx' σm' : St), f_X_position n σx a1 a2 = some (r, σx') ∧ f_M_position 0 σm a1 a2 = some (r, σm') ∧ Rel (c + 1) n σx' σm'
def PO_waiting (Rel : Nat → Nat → St → St → Prop) : Prop := ∀ (c n : Nat) (σx σm : St) (a1 : Int32), c < 512 → Rel c n σx σm → ∃ (r : Int32) (σx' σm' : St), f_X_waiting n σx a1 = some (r, σx') ∧ f_M_waiting 0 σm a1 = some (r, σm') ∧ Rel (c + 1) n σx' σm'
def PO_queued (Rel : Nat → Nat → St → St → Prop) : Prop := ∀ (c n : Nat) (σx σm : St) (a1 : Int32) (a2 : Int32), c < 512 → Rel c n σx σm → ∃ (r : Int32) (σx' σm' : St), f_X_queued n σx a1 a2 = some (r, σx') ∧ f_M_queued 0 σm a1 a2 = some (r, σm') ∧ Rel (c + 1) n σx' σm'
def PO_state (Rel : Nat → Nat → St → St → Prop) : Prop := ∀ (c n : Nat) (σx σm : St) (a1 : Int32), c < 512 → Rel c n σx σm → ∃ (r : Int32) (σx' σm' : St), f_X_state n σx a1 = some (r, σx') ∧ f_M_state 0 σm a1 = some (r, σm') ∧ Rel (c + 1) n σx' σm'
def PO_turnover (Rel : Nat → Nat → St → St → Prop) : Prop := ∀ (c n : Nat) (σx σm : St), c < 512 → Rel c n σx σm → ∃ (r : Int64) (σx' σm' : St), f_X_turnover n σx = some (r, σx') ∧ f_M_turnover 0 σm = some (r, σm') ∧ Rel (c + 1) n σx' σm'
def PO_now (Rel : Nat → Nat → St → St → Prop) : Prop := ∀ (c n : Nat) (σx σm : St), c < 512 → Rel c n σx σm → ∃ (r : Int32) (σx' σm' : St), f_X_now n σx = some (r, σx') ∧ f_M_now 0 σm = some (r, σm') ∧ Rel (c + 1) n σx' σm'
def PO_init (Rel : Nat → Nat → St → St → Prop) : Prop := ∀ x : Int32, ∃ σm : St, f_M_initr 0 (fun σ => some ((), σ)) m0 x = some ((), σm) ∧ Rel 0 (nb x) x0 σm
def PO_mono (Rel : Nat → Nat → St → St → Prop) : Prop := ∀ (c n : Nat) (σx σm : St), Rel c n σx σm → Rel (c + 1) n σx σm
/-- what the pure part has to give -/
def PureOK (Rel : Nat → Nat → St → St → Prop) : Prop := PO_init Rel ∧ PO_mono Rel ∧ PO_fund Rel ∧ PO_credit Rel ∧ PO_limit Rel ∧ PO_totalLimit Rel ∧ PO_pay Rel ∧ PO_cancel Rel ∧ PO_urge Rel ∧ PO_resolve Rel ∧ PO_tick Rel ∧ PO_close Rel ∧ PO_balance Rel ∧ PO_position Rel ∧ PO_waiting Rel ∧ PO_queued Rel ∧ PO_state Rel ∧ PO_turnover Rel ∧ PO_now Rel
set_option maxHeartbeats 4000000 in
set_option maxRecDepth 100000 in
theorem lw_fund {p : Program} {l : Launch} {e : Env} {s : State} {m : MethodId} {below : List Frame} {meth : Method} {c : Code} {Q : State → Prop} {Rel : Nat → Nat → St → St → Prop} (D : va_G) (cA : Nat → ClassId) (adx adm : Nat → Nat → Nat) (n b L : Nat) (xs : Nat → Int32) (hL : L ≤ 3585) (hx : p.tables.exec = Jvm.exec) (hb : c.code = code) (hml : c.maxLocals = 4) (hts : ∀ w ∈ lw_tbl, w.before #[Value.ref b] s = true) (hown : s.vm.findClass "GridlockDeskLaw" = some m.cls) (hX : va_X b L xs s s.heap) (hbl : b < s.heap.size) (hK : va_K D vCl (atys cA) s) (hPO : PO_fund Rel) (i cN cells slots : Nat) (hi : i + 7 ≤ L) (hcN : cN < 512) (hcs : cells + 1 ≤ 600000 ∧ slots + 7 ≤ 7302250) (ax am : Nat) (σx σm : St) (H : Heap) (locs : List Loc) (ls : Array Slot) (hl : lv_has ls 4 [(0, .ref b), (1, .ref ax), (2, .ref am), (3, .int (nI i))]) (hax : adx 0 0 = ax) (ham : adm 0 0 = am) (hR : Rel cN n σx σm) (hW : LWd D cA s.heap.size adx adm n σx σm H) (hS : va_S (fun q => s.heap.size ≤ q) s.heap H locs) (hnext : ∀ (adx' : Nat → Nat → Nat) (σx' σm' : St) (H' : Heap) (locs' : List Loc), adx' 0 0 = ax → Rel (cN + 1) n σx' σm' → LWd D cA s.heap.size adx' adm n σx' σm' H' → va_S (fun q => s.heap.size ≤ q) s.heap H' locs' → W p l e room_1 s m #[Value.ref b] below meth c H' locs' (cells + 1) (slots + 7) Q (F0 m 750 ls [])) : W p l e room_1 s m #[Value.ref b] below meth c H locs cells slots Q (F0 m 124 ls []) := by
  have ht : ∀ w ∈ TB, w.before #[Value.ref b] s = true := fun w h => hts w (lb_in h)
  refine lv_aload_n hx hb d_L_law_124 rfl (lv_at hl 1 rfl) ?_
  refine lv_aload_n hx hb d_L_law_125 rfl (lv_at hl 0 rfl) ?_
  refine lv_iload_n hx hb d_L_law_126 rfl (lv_at hl 3 rfl) ?_
  refine lv_iconst (v := 1) hx hb d_L_law_127 (by decide) ?_
  refine lv_iadd hx hb d_L_law_128 ?_
  refine va_sld (A := fun q => s.heap.size ≤ q) hx hb hX hbl (by omega) hS (show vp_in (nI i + nI 1) L from lw_ix hi hL (by omega)) d_L_law_129 ?_
  refine lv_aload_n hx hb d_L_law_130 rfl (lv_at hl 0 rfl) ?_
  refine lv_iload_n hx hb d_L_law_131 rfl (lv_at hl 3 rfl) ?_
  refine lv_iconst (v := 2) hx hb d_L_law_132 (by decide) ?_
  refine lv_iadd hx hb d_L_law_133 ?_
  refine va_sld (A := fun q => s.heap.size ≤ q) hx hb hX hbl (by omega) hS (show vp_in (nI i + nI 2) L from lw_ix hi hL (by omega)) d_L_law_134 ?_
  refine lv_i2l (v := _) hx hb d_L_law_135 rfl ?_
  refine lv_bipush (v := 32) hx hb d_L_law_136 (by decide) ?_
  refine lv_lshl (v := _) hx hb d_L_law_138 rfl ?_
  refine lv_aload_n hx hb d_L_law_139 rfl (lv_at hl 0 rfl) ?_
  refine lv_iload_n hx hb d_L_law_140 rfl (lv_at hl 3 rfl) ?_
  refine lv_iconst (v := 3) hx hb d_L_law_141 (by decide) ?_
  refine lv_iadd hx hb d_L_law_142 ?_
  refine va_sld (A := fun q => s.heap.size ≤ q) hx hb hX hbl (by omega) hS (show vp_in (nI i + nI 3) L from lw_ix hi hL (by omega)) d_L_law_143 ?_
  refine lv_i2l (v := _) hx hb d_L_law_144 rfl ?_
  refine lv_ldc2 (v := 4294967295) hx hb hown (ht _ tw_522) d_L_law_145 ?_
  refine lv_land hx hb d_L_law_148 ?_
  refine lv_lor hx hb d_L_law_149 ?_
  obtain ⟨r, σx', σm', h1, h2, hR'⟩ := hPO cN n σx σm (xs (Int32.toNatClampNeg (nI i + 1))) (((Int32.toInt64 (xs (Int32.toNatClampNeg (nI i + 2)))) <<< (Int32.toInt64 32 &&& 63)) ||| ((Int32.toInt64 (xs (Int32.toNatClampNeg (nI i + 3)))) &&& 4294967295)) hcN hR
  refine W.eq (g2 := F0 m 150 ls [_, _, .ref (adx 0 0)]) (by rw [hax]) ?_
  refine lx_i (σx := σx) (va_runV (C := "GridlockDesk") (As := [.int _, .long _]) (rest := []) ⟨hx, hb, hml, hown, hts⟩ (m_X_fund l D cA adx n (AX s.heap.size adm) σx _ _ (r, σx') h1) (cwV 2 hts (lb_V tw_113 tw_114 tw_115 tw_31 tw_116) rfl rfl rfl (by decide +kernel) ⟨Nat.le_of_ble_eq_true rfl, Nat.le_of_ble_eq_true rfl⟩) ⟨k_blind, kw.recv hK hW.1.1 (t := 0) (i := 0) rfl rfl rfl, k_pre (P := fun H => CW D cA adx n (AX s.heap.size adm) σx H) hW.1 hK⟩ rfl rfl hl.1 rfl (lv_room (Nat.le_of_ble_eq_true rfl)) d_L_law_150 ⟨(show cells + 0 ≤ 600000 by omega), (show slots + 0 ≤ 7302250 by omega)⟩) hW hS (fun H locs hW hS => ?_)
  refine lv_aload_n hx hb d_L_law_153 rfl (lv_at hl 2 rfl) ?_
  refine lv_aload_n hx hb d_L_law_154 rfl (lv_at hl 0 rfl) ?_
  refine lv_iload_n hx hb d_L_law_155 rfl (lv_at hl 3 rfl) ?_
  refine lv_iconst (v := 1) hx hb d_L_law_156 (by decide) ?_
  refine lv_iadd hx hb d_L_law_157 ?_
  refine va_sld (A := fun q => s.heap.size ≤ q) hx hb hX hbl (by omega) hS (show vp_in (nI i + nI 1) L from lw_ix hi hL (by omega)) d_L_law_158 ?_
  refine lv_aload_n hx hb d_L_law_159 rfl (lv_at hl 0 rfl) ?_
  refine lv_iload_n hx hb d_L_law_160 rfl (lv_at hl 3 rfl) ?_
  refine lv_iconst (v := 2) hx hb d_L_law_161 (by decide) ?_
  refine lv_iadd hx hb d_L_law_162 ?_
  refine va_sld (A := fun q => s.heap.size ≤ q) hx hb hX hbl (by omega) hS (show vp_in (nI i + nI 2) L from lw_ix hi hL (by omega)) d_L_law_163 ?_
  refine lv_i2l (v := _) hx hb d_L_law_164 rfl ?_
  refine lv_bipush (v := 32) hx hb d_L_law_165 (by decide) ?_
  refine lv_lshl (v := _) hx hb d_L_law_167 rfl ?_
  refine lv_aload_n hx hb d_L_law_168 rfl (lv_at hl 0 rfl) ?_
  refine lv_iload_n hx hb d_L_law_169 rfl (lv_at hl 3 rfl) ?_
  refine lv_iconst (v := 3) hx hb d_L_law_170 (by decide) ?_
  refine lv_iadd hx hb d_L_law_171 ?_
  refine va_sld (A := fun q => s.heap.size ≤ q) hx hb hX hbl (by omega) hS (show vp_in (nI i + nI 3) L from lw_ix hi hL (by omega)) d_L_law_172 ?_
  refine lv_i2l (v := _) hx hb d_L_law_173 rfl ?_
  refine lv_ldc2 (v := 4294967295) hx hb hown (ht _ tw_522) d_L_law_174 ?_
  refine lv_land hx hb d_L_law_177 ?_
  refine lv_lor hx hb d_L_law_178 ?_
  refine W.eq (g2 := F0 m 179 ls [_, _, .ref (adm 0 0), _]) (by rw [ham]) ?_
  refine lm_i (σm := σm) (va_runV (C := "GridlockDeskModel") (As := [.int _, .long _]) (rest := [.int r]) ⟨hx, hb, hml, hown, hts⟩ (m_M_fund l D cA adm 0 (PM adm) σm _ _ (r, σm') h2) (cwV 2 hts (lb_V tw_443 tw_444 tw_445 tw_35 tw_446) rfl rfl rfl (by decide +kernel) ⟨Nat.le_of_ble_eq_true rfl, Nat.le_of_ble_eq_true rfl⟩) ⟨k_blind, kw.recv hK hW.2.1.1 (t := 0) (i := 0) rfl rfl rfl, k_pre (P := fun H => MW D cA adm 0 (PM adm) σm H) hW.2.1 hK⟩ rfl rfl hl.1 rfl (lv_room (Nat.le_of_ble_eq_true rfl)) d_L_law_179 ⟨(show cells + 0 ≤ 600000 by omega), (show slots + 0 ≤ 7302250 by omega)⟩) hW hS (fun H locs hW hS => ?_)
  refine lv_icmp_eq (tgt := 750) hx hb d_L_law_182 rfl (fun _ => ?_) (fun hc => absurd rfl hc)
  refine W.widen (k := cells + 1) (n := slots + 7) (by omega) (by omega) ?_
  exact hnext adx σx' σm' H locs hax hR' hW hS
set_option maxHeartbeats 4000000 in
set_option maxRecDepth 100000 in
theorem lw_credit {p : Program} {l : Launch} {e : Env} {s : State} {m : MethodId} {below : List Frame} {meth : Method} {c : Code} {Q : State → Prop} {Rel : Nat → Nat → St → St → Prop} (D : va_G) (cA : Nat → ClassId) (adx adm : Nat → Nat → Nat) (n b L : Nat) (xs : Nat → Int32) (hL : L ≤ 3585) (hx : p.tables.exec = Jvm.exec) (hb : c.code = code) (hml : c.maxLocals = 4) (hts : ∀ w ∈ lw_tbl, w.before #[Value.ref b] s = true) (hown : s.vm.findClass "GridlockDeskLaw" = some m.cls) (hX : va_X b L xs s s.heap) (hbl : b < s.heap.size) (hK : va_K D vCl (atys cA) s) (hPO : PO_credit Rel) (i cN cells slots : Nat) (hi : i + 7 ≤ L) (hcN : cN < 512) (hcs : cells + 1 ≤ 600000 ∧ slots + 7 ≤ 7302250) (ax am : Nat) (σx σm : St) (H : Heap) (locs : List Loc) (ls : Array Slot) (hl : lv_has ls 4 [(0, .ref b), (1, .ref ax), (2, .ref am), (3, .int (nI i))]) (hax : adx 0 0 = ax) (ham : adm 0 0 = am) (hR : Rel cN n σx σm) (hW : LWd D cA s.heap.size adx adm n σx σm H) (hS : va_S (fun q => s.heap.size ≤ q) s.heap H locs) (hnext : ∀ (adx' : Nat → Nat → Nat) (σx' σm' : St) (H' : Heap) (locs' : List Loc), adx' 0 0 = ax → Rel (cN + 1) n σx' σm' → LWd D cA s.heap.size adx' adm n σx' σm' H' → va_S (fun q => s.heap.size ≤ q) s.heap H' locs' → W p l e room_1 s m #[Value.ref b] below meth c H' locs' (cells + 1) (slots + 7) Q (F0 m 750 ls [])) : W p l e room_1 s m #[Value.ref b] below meth c H locs cells slots Q (F0 m 187 ls []) := by
  have ht : ∀ w ∈ TB, w.before #[Value.ref b] s = true := fun w h => hts w (lb_in h)
  refine lv_aload_n hx hb d_L_law_187 rfl (lv_at hl 1 rfl) ?_
  refine lv_aload_n hx hb d_L_law_188 rfl (lv_at hl 0 rfl) ?_
  refine lv_iload_n hx hb d_L_law_189 rfl (lv_at hl 3 rfl) ?_
  refine lv_iconst (v := 1) hx hb d_L_law_190 (by decide) ?_
  refine lv_iadd hx hb d_L_law_191 ?_
  refine va_sld (A := fun q => s.heap.size ≤ q) hx hb hX hbl (by omega) hS (show vp_in (nI i + nI 1) L from lw_ix hi hL (by omega)) d_L_law_192 ?_
  refine lv_aload_n hx hb d_L_law_193 rfl (lv_at hl 0 rfl) ?_
  refine lv_iload_n hx hb d_L_law_194 rfl (lv_at hl 3 rfl) ?_
  refine lv_iconst (v := 2) hx hb d_L_law_195 (by decide) ?_
  refine lv_iadd hx hb d_L_law_196 ?_
  refine va_sld (A := fun q => s.heap.size ≤ q) hx hb hX hbl (by omega) hS (show vp_in (nI i + nI 2) L from lw_ix hi hL (by omega)) d_L_law_197 ?_
  refine lv_i2l (v := _) hx hb d_L_law_198 rfl ?_
  refine lv_bipush (v := 32) hx hb d_L_law_199 (by decide) ?_
  refine lv_lshl (v := _) hx hb d_L_law_201 rfl ?_
  refine lv_aload_n hx hb d_L_law_202 rfl (lv_at hl 0 rfl) ?_
  refine lv_iload_n hx hb d_L_law_203 rfl (lv_at hl 3 rfl) ?_
  refine lv_iconst (v := 3) hx hb d_L_law_204 (by decide) ?_
  refine lv_iadd hx hb d_L_law_205 ?_
  refine va_sld (A := fun q => s.heap.size ≤ q) hx hb hX hbl (by omega) hS (show vp_in (nI i + nI 3) L from lw_ix hi hL (by omega)) d_L_law_206 ?_
  refine lv_i2l (v := _) hx hb d_L_law_207 rfl ?_
  refine lv_ldc2 (v := 4294967295) hx hb hown (ht _ tw_522) d_L_law_208 ?_
  refine lv_land hx hb d_L_law_211 ?_
  refine lv_lor hx hb d_L_law_212 ?_
  obtain ⟨r, σx', σm', h1, h2, hR'⟩ := hPO cN n σx σm (xs (Int32.toNatClampNeg (nI i + 1))) (((Int32.toInt64 (xs (Int32.toNatClampNeg (nI i + 2)))) <<< (Int32.toInt64 32 &&& 63)) ||| ((Int32.toInt64 (xs (Int32.toNatClampNeg (nI i + 3)))) &&& 4294967295)) hcN hR
  refine W.eq (g2 := F0 m 213 ls [_, _, .ref (adx 0 0)]) (by rw [hax]) ?_
  refine lx_i (σx := σx) (va_runV (C := "GridlockDesk") (As := [.int _, .long _]) (rest := []) ⟨hx, hb, hml, hown, hts⟩ (m_X_credit l D cA adx n (AX s.heap.size adm) σx _ _ (r, σx') h1) (cwV 2 hts (lb_V tw_182 tw_183 tw_184 tw_31 tw_185) rfl rfl rfl (by decide +kernel) ⟨Nat.le_of_ble_eq_true rfl, Nat.le_of_ble_eq_true rfl⟩) ⟨k_blind, kw.recv hK hW.1.1 (t := 0) (i := 0) rfl rfl rfl, k_pre (P := fun H => CW D cA adx n (AX s.heap.size adm) σx H) hW.1 hK⟩ rfl rfl hl.1 rfl (lv_room (Nat.le_of_ble_eq_true rfl)) d_L_law_213 ⟨(show cells + 0 ≤ 600000 by omega), (show slots + 0 ≤ 7302250 by omega)⟩) hW hS (fun H locs hW hS => ?_)
  refine lv_aload_n hx hb d_L_law_216 rfl (lv_at hl 2 rfl) ?_
  refine lv_aload_n hx hb d_L_law_217 rfl (lv_at hl 0 rfl) ?_
  refine lv_iload_n hx hb d_L_law_218 rfl (lv_at hl 3 rfl) ?_
  refine lv_iconst (v := 1) hx hb d_L_law_219 (by decide) ?_
  refine lv_iadd hx hb d_L_law_220 ?_
  refine va_sld (A := fun q => s.heap.size ≤ q) hx hb hX hbl (by omega) hS (show vp_in (nI i + nI 1) L from lw_ix hi hL (by omega)) d_L_law_221 ?_
  refine lv_aload_n hx hb d_L_law_222 rfl (lv_at hl 0 rfl) ?_
  refine lv_iload_n hx hb d_L_law_223 rfl (lv_at hl 3 rfl) ?_
  refine lv_iconst (v := 2) hx hb d_L_law_224 (by decide) ?_
  refine lv_iadd hx hb d_L_law_225 ?_
  refine va_sld (A := fun q => s.heap.size ≤ q) hx hb hX hbl (by omega) hS (show vp_in (nI i + nI 2) L from lw_ix hi hL (by omega)) d_L_law_226 ?_
  refine lv_i2l (v := _) hx hb d_L_law_227 rfl ?_
  refine lv_bipush (v := 32) hx hb d_L_law_228 (by decide) ?_
  refine lv_lshl (v := _) hx hb d_L_law_230 rfl ?_
  refine lv_aload_n hx hb d_L_law_231 rfl (lv_at hl 0 rfl) ?_
  refine lv_iload_n hx hb d_L_law_232 rfl (lv_at hl 3 rfl) ?_
  refine lv_iconst (v := 3) hx hb d_L_law_233 (by decide) ?_
  refine lv_iadd hx hb d_L_law_234 ?_
  refine va_sld (A := fun q => s.heap.size ≤ q) hx hb hX hbl (by omega) hS (show vp_in (nI i + nI 3) L from lw_ix hi hL (by omega)) d_L_law_235 ?_
  refine lv_i2l (v := _) hx hb d_L_law_236 rfl ?_
  refine lv_ldc2 (v := 4294967295) hx hb hown (ht _ tw_522) d_L_law_237 ?_
  refine lv_land hx hb d_L_law_240 ?_
  refine lv_lor hx hb d_L_law_241 ?_
  refine W.eq (g2 := F0 m 242 ls [_, _, .ref (adm 0 0), _]) (by rw [ham]) ?_
  refine lm_i (σm := σm) (va_runV (C := "GridlockDeskModel") (As := [.int _, .long _]) (rest := [.int r]) ⟨hx, hb, hml, hown, hts⟩ (m_M_credit l D cA adm 0 (PM adm) σm _ _ (r, σm') h2) (cwV 2 hts (lb_V tw_453 tw_454 tw_455 tw_35 tw_456) rfl rfl rfl (by decide +kernel) ⟨Nat.le_of_ble_eq_true rfl, Nat.le_of_ble_eq_true rfl⟩) ⟨k_blind, kw.recv hK hW.2.1.1 (t := 0) (i := 0) rfl rfl rfl, k_pre (P := fun H => MW D cA adm 0 (PM adm) σm H) hW.2.1 hK⟩ rfl rfl hl.1 rfl (lv_room (Nat.le_of_ble_eq_true rfl)) d_L_law_242 ⟨(show cells + 0 ≤ 600000 by omega), (show slots + 0 ≤ 7302250 by omega)⟩) hW hS (fun H locs hW hS => ?_)
  refine lv_icmp_eq (tgt := 750) hx hb d_L_law_245 rfl (fun _ => ?_) (fun hc => absurd rfl hc)
  refine W.widen (k := cells + 1) (n := slots + 7) (by omega) (by omega) ?_
  exact hnext adx σx' σm' H locs hax hR' hW hS
set_option maxHeartbeats 4000000 in
set_option maxRecDepth 100000 in
theorem lw_limit {p : Program} {l : Launch} {e : Env} {s : State} {m : MethodId} {below : List Frame} {meth : Method} {c : Code} {Q : State → Prop} {Rel : Nat → Nat → St → St → Prop} (D : va_G) (cA : Nat → ClassId) (adx adm : Nat → Nat → Nat) (n b L : Nat) (xs : Nat → Int32) (hL : L ≤ 3585) (hx : p.tables.exec = Jvm.exec) (hb : c.code = code) (hml : c.maxLocals = 4) (hts : ∀ w ∈ lw_tbl, w.before #[Value.ref b] s = true) (hown : s.vm.findClass "GridlockDeskLaw" = some m.cls) (hX : va_X b L xs s s.heap) (hbl : b < s.heap.size) (hK : va_K D vCl (atys cA) s) (hPO : PO_limit Rel) (i cN cells slots : Nat) (hi : i + 7 ≤ L) (hcN : cN < 512) (hcs : cells + 1 ≤ 600000 ∧ slots + 7 ≤ 7302250) (ax am : Nat) (σx σm : St) (H : Heap) (locs : List Loc) (ls : Array Slot) (hl : lv_has ls 4 [(0, .ref b), (1, .ref ax), (2, .ref am), (3, .int (nI i))]) (hax : adx 0 0 = ax) (ham : adm 0 0 = am) (hR : Rel cN n σx σm) (hW : LWd D cA s.heap.size adx adm n σx σm H) (hS : va_S (fun q => s.heap.size ≤ q) s.heap H locs) (hnext : ∀ (adx' : Nat → Nat → Nat) (σx' σm' : St) (H' : Heap) (locs' : List Loc), adx' 0 0 = ax → Rel (cN + 1) n σx' σm' → LWd D cA s.heap.size adx' adm n σx' σm' H' → va_S (fun q => s.heap.size ≤ q) s.heap H' locs' → W p l e room_1 s m #[Value.ref b] below meth c H' locs' (cells + 1) (slots + 7) Q (F0 m 750 ls [])) : W p l e room_1 s m #[Value.ref b] below meth c H locs cells slots Q (F0 m 250 ls []) := by
  have ht : ∀ w ∈ TB, w.before #[Value.ref b] s = true := fun w h => hts w (lb_in h)
  refine lv_aload_n hx hb d_L_law_250 rfl (lv_at hl 1 rfl) ?_
  refine lv_aload_n hx hb d_L_law_251 rfl (lv_at hl 0 rfl) ?_
  refine lv_iload_n hx hb d_L_law_252 rfl (lv_at hl 3 rfl) ?_
  refine lv_iconst (v := 1) hx hb d_L_law_253 (by decide) ?_
  refine lv_iadd hx hb d_L_law_254 ?_
  refine va_sld (A := fun q => s.heap.size ≤ q) hx hb hX hbl (by omega) hS (show vp_in (nI i + nI 1) L from lw_ix hi hL (by omega)) d_L_law_255 ?_
  refine lv_aload_n hx hb d_L_law_256 rfl (lv_at hl 0 rfl) ?_
  refine lv_iload_n hx hb d_L_law_257 rfl (lv_at hl 3 rfl) ?_
  refine lv_iconst (v := 2) hx hb d_L_law_258 (by decide) ?_
  refine lv_iadd hx hb d_L_law_259 ?_
  refine va_sld (A := fun q => s.heap.size ≤ q) hx hb hX hbl (by omega) hS (show vp_in (nI i + nI 2) L from lw_ix hi hL (by omega)) d_L_law_260 ?_
  refine lv_aload_n hx hb d_L_law_261 rfl (lv_at hl 0 rfl) ?_
  refine lv_iload_n hx hb d_L_law_262 rfl (lv_at hl 3 rfl) ?_
  refine lv_iconst (v := 3) hx hb d_L_law_263 (by decide) ?_
  refine lv_iadd hx hb d_L_law_264 ?_
  refine va_sld (A := fun q => s.heap.size ≤ q) hx hb hX hbl (by omega) hS (show vp_in (nI i + nI 3) L from lw_ix hi hL (by omega)) d_L_law_265 ?_
  refine lv_i2l (v := _) hx hb d_L_law_266 rfl ?_
  refine lv_bipush (v := 32) hx hb d_L_law_267 (by decide) ?_
  refine lv_lshl (v := _) hx hb d_L_law_269 rfl ?_
  refine lv_aload_n hx hb d_L_law_270 rfl (lv_at hl 0 rfl) ?_
  refine lv_iload_n hx hb d_L_law_271 rfl (lv_at hl 3 rfl) ?_
  refine lv_iconst (v := 4) hx hb d_L_law_272 (by decide) ?_
  refine lv_iadd hx hb d_L_law_273 ?_
  refine va_sld (A := fun q => s.heap.size ≤ q) hx hb hX hbl (by omega) hS (show vp_in (nI i + nI 4) L from lw_ix hi hL (by omega)) d_L_law_274 ?_
  refine lv_i2l (v := _) hx hb d_L_law_275 rfl ?_
  refine lv_ldc2 (v := 4294967295) hx hb hown (ht _ tw_522) d_L_law_276 ?_
  refine lv_land hx hb d_L_law_279 ?_
  refine lv_lor hx hb d_L_law_280 ?_
  obtain ⟨r, σx', σm', h1, h2, hR'⟩ := hPO cN n σx σm (xs (Int32.toNatClampNeg (nI i + 1))) (xs (Int32.toNatClampNeg (nI i + 2))) (((Int32.toInt64 (xs (Int32.toNatClampNeg (nI i + 3)))) <<< (Int32.toInt64 32 &&& 63)) ||| ((Int32.toInt64 (xs (Int32.toNatClampNeg (nI i + 4)))) &&& 4294967295)) hcN hR
  refine W.eq (g2 := F0 m 281 ls [_, _, _, .ref (adx 0 0)]) (by rw [hax]) ?_
  refine lx_i (σx := σx) (va_runV (C := "GridlockDesk") (As := [.int _, .int _, .long _]) (rest := []) ⟨hx, hb, hml, hown, hts⟩ (m_X_limit l D cA adx n (AX s.heap.size adm) σx _ _ _ (r, σx') h1) (cwV 3 hts (lb_V tw_187 tw_188 tw_189 tw_31 tw_190) rfl rfl rfl (by decide +kernel) ⟨Nat.le_of_ble_eq_true rfl, Nat.le_of_ble_eq_true rfl⟩) ⟨k_blind, kw.recv hK hW.1.1 (t := 0) (i := 0) rfl rfl rfl, k_pre (P := fun H => CW D cA adx n (AX s.heap.size adm) σx H) hW.1 hK⟩ rfl rfl hl.1 rfl (lv_room (Nat.le_of_ble_eq_true rfl)) d_L_law_281 ⟨(show cells + 0 ≤ 600000 by omega), (show slots + 0 ≤ 7302250 by omega)⟩) hW hS (fun H locs hW hS => ?_)
  refine lv_aload_n hx hb d_L_law_284 rfl (lv_at hl 2 rfl) ?_
  refine lv_aload_n hx hb d_L_law_285 rfl (lv_at hl 0 rfl) ?_
  refine lv_iload_n hx hb d_L_law_286 rfl (lv_at hl 3 rfl) ?_
  refine lv_iconst (v := 1) hx hb d_L_law_287 (by decide) ?_
  refine lv_iadd hx hb d_L_law_288 ?_
  refine va_sld (A := fun q => s.heap.size ≤ q) hx hb hX hbl (by omega) hS (show vp_in (nI i + nI 1) L from lw_ix hi hL (by omega)) d_L_law_289 ?_
  refine lv_aload_n hx hb d_L_law_290 rfl (lv_at hl 0 rfl) ?_
  refine lv_iload_n hx hb d_L_law_291 rfl (lv_at hl 3 rfl) ?_
  refine lv_iconst (v := 2) hx hb d_L_law_292 (by decide) ?_
  refine lv_iadd hx hb d_L_law_293 ?_
  refine va_sld (A := fun q => s.heap.size ≤ q) hx hb hX hbl (by omega) hS (show vp_in (nI i + nI 2) L from lw_ix hi hL (by omega)) d_L_law_294 ?_
  refine lv_aload_n hx hb d_L_law_295 rfl (lv_at hl 0 rfl) ?_
  refine lv_iload_n hx hb d_L_law_296 rfl (lv_at hl 3 rfl) ?_
  refine lv_iconst (v := 3) hx hb d_L_law_297 (by decide) ?_
  refine lv_iadd hx hb d_L_law_298 ?_
  refine va_sld (A := fun q => s.heap.size ≤ q) hx hb hX hbl (by omega) hS (show vp_in (nI i + nI 3) L from lw_ix hi hL (by omega)) d_L_law_299 ?_
  refine lv_i2l (v := _) hx hb d_L_law_300 rfl ?_
  refine lv_bipush (v := 32) hx hb d_L_law_301 (by decide) ?_
  refine lv_lshl (v := _) hx hb d_L_law_303 rfl ?_
  refine lv_aload_n hx hb d_L_law_304 rfl (lv_at hl 0 rfl) ?_
  refine lv_iload_n hx hb d_L_law_305 rfl (lv_at hl 3 rfl) ?_
  refine lv_iconst (v := 4) hx hb d_L_law_306 (by decide) ?_
  refine lv_iadd hx hb d_L_law_307 ?_
  refine va_sld (A := fun q => s.heap.size ≤ q) hx hb hX hbl (by omega) hS (show vp_in (nI i + nI 4) L from lw_ix hi hL (by omega)) d_L_law_308 ?_
  refine lv_i2l (v := _) hx hb d_L_law_309 rfl ?_
  refine lv_ldc2 (v := 4294967295) hx hb hown (ht _ tw_522) d_L_law_310 ?_
  refine lv_land hx hb d_L_law_313 ?_
  refine lv_lor hx hb d_L_law_314 ?_
  refine W.eq (g2 := F0 m 315 ls [_, _, _, .ref (adm 0 0), _]) (by rw [ham]) ?_
  refine lm_i (σm := σm) (va_runV (C := "GridlockDeskModel") (As := [.int _, .int _, .long _]) (rest := [.int r]) ⟨hx, hb, hml, hown, hts⟩ (m_M_limit l D cA adm 0 (PM adm) σm _ _ _ (r, σm') h2) (cwV 3 hts (lb_V tw_458 tw_459 tw_460 tw_35 tw_461) rfl rfl rfl (by decide +kernel) ⟨Nat.le_of_ble_eq_true rfl, Nat.le_of_ble_eq_true rfl⟩) ⟨k_blind, kw.recv hK hW.2.1.1 (t := 0) (i := 0) rfl rfl rfl, k_pre (P := fun H => MW D cA adm 0 (PM adm) σm H) hW.2.1 hK⟩ rfl rfl hl.1 rfl (lv_room (Nat.le_of_ble_eq_true rfl)) d_L_law_315 ⟨(show cells + 0 ≤ 600000 by omega), (show slots + 0 ≤ 7302250 by omega)⟩) hW hS (fun H locs hW hS => ?_)
  refine lv_icmp_eq (tgt := 750) hx hb d_L_law_318 rfl (fun _ => ?_) (fun hc => absurd rfl hc)
  refine W.widen (k := cells + 1) (n := slots + 7) (by omega) (by omega) ?_
  exact hnext adx σx' σm' H locs hax hR' hW hS
set_option maxHeartbeats 4000000 in
set_option maxRecDepth 100000 in
theorem lw_totalLimit {p : Program} {l : Launch} {e : Env} {s : State} {m : MethodId} {below : List Frame} {meth : Method} {c : Code} {Q : State → Prop} {Rel : Nat → Nat → St → St → Prop} (D : va_G) (cA : Nat → ClassId) (adx adm : Nat → Nat → Nat) (n b L : Nat) (xs : Nat → Int32) (hL : L ≤ 3585) (hx : p.tables.exec = Jvm.exec) (hb : c.code = code) (hml : c.maxLocals = 4) (hts : ∀ w ∈ lw_tbl, w.before #[Value.ref b] s = true) (hown : s.vm.findClass "GridlockDeskLaw" = some m.cls) (hX : va_X b L xs s s.heap) (hbl : b < s.heap.size) (hK : va_K D vCl (atys cA) s) (hPO : PO_totalLimit Rel) (i cN cells slots : Nat) (hi : i + 7 ≤ L) (hcN : cN < 512) (hcs : cells + 1 ≤ 600000 ∧ slots + 7 ≤ 7302250) (ax am : Nat) (σx σm : St) (H : Heap) (locs : List Loc) (ls : Array Slot) (hl : lv_has ls 4 [(0, .ref b), (1, .ref ax), (2, .ref am), (3, .int (nI i))]) (hax : adx 0 0 = ax) (ham : adm 0 0 = am) (hR : Rel cN n σx σm) (hW : LWd D cA s.heap.size adx adm n σx σm H) (hS : va_S (fun q => s.heap.size ≤ q) s.heap H locs) (hnext : ∀ (adx' : Nat → Nat → Nat) (σx' σm' : St) (H' : Heap) (locs' : List Loc), adx' 0 0 = ax → Rel (cN + 1) n σx' σm' → LWd D cA s.heap.size adx' adm n σx' σm' H' → va_S (fun q => s.heap.size ≤ q) s.heap H' locs' → W p l e room_1 s m #[Value.ref b] below meth c H' locs' (cells + 1) (slots + 7) Q (F0 m 750 ls [])) : W p l e room_1 s m #[Value.ref b] below meth c H locs cells slots Q (F0 m 323 ls []) := by
  have ht : ∀ w ∈ TB, w.before #[Value.ref b] s = true := fun w h => hts w (lb_in h)
  refine lv_aload_n hx hb d_L_law_323 rfl (lv_at hl 1 rfl) ?_
  refine lv_aload_n hx hb d_L_law_324 rfl (lv_at hl 0 rfl) ?_
  refine lv_iload_n hx hb d_L_law_325 rfl (lv_at hl 3 rfl) ?_
  refine lv_iconst (v := 1) hx hb d_L_law_326 (by decide) ?_
  refine lv_iadd hx hb d_L_law_327 ?_
  refine va_sld (A := fun q => s.heap.size ≤ q) hx hb hX hbl (by omega) hS (show vp_in (nI i + nI 1) L from lw_ix hi hL (by omega)) d_L_law_328 ?_
  refine lv_aload_n hx hb d_L_law_329 rfl (lv_at hl 0 rfl) ?_
  refine lv_iload_n hx hb d_L_law_330 rfl (lv_at hl 3 rfl) ?_
  refine lv_iconst (v := 2) hx hb d_L_law_331 (by decide) ?_
  refine lv_iadd hx hb d_L_law_332 ?_
  refine va_sld (A := fun q => s.heap.size ≤ q) hx hb hX hbl (by omega) hS (show vp_in (nI i + nI 2) L from lw_ix hi hL (by omega)) d_L_law_333 ?_
  refine lv_i2l (v := _) hx hb d_L_law_334 rfl ?_
  refine lv_bipush (v := 32) hx hb d_L_law_335 (by decide) ?_
  refine lv_lshl (v := _) hx hb d_L_law_337 rfl ?_
  refine lv_aload_n hx hb d_L_law_338 rfl (lv_at hl 0 rfl) ?_
  refine lv_iload_n hx hb d_L_law_339 rfl (lv_at hl 3 rfl) ?_
  refine lv_iconst (v := 3) hx hb d_L_law_340 (by decide) ?_
  refine lv_iadd hx hb d_L_law_341 ?_
  refine va_sld (A := fun q => s.heap.size ≤ q) hx hb hX hbl (by omega) hS (show vp_in (nI i + nI 3) L from lw_ix hi hL (by omega)) d_L_law_342 ?_
  refine lv_i2l (v := _) hx hb d_L_law_343 rfl ?_
  refine lv_ldc2 (v := 4294967295) hx hb hown (ht _ tw_522) d_L_law_344 ?_
  refine lv_land hx hb d_L_law_347 ?_
  refine lv_lor hx hb d_L_law_348 ?_
  obtain ⟨r, σx', σm', h1, h2, hR'⟩ := hPO cN n σx σm (xs (Int32.toNatClampNeg (nI i + 1))) (((Int32.toInt64 (xs (Int32.toNatClampNeg (nI i + 2)))) <<< (Int32.toInt64 32 &&& 63)) ||| ((Int32.toInt64 (xs (Int32.toNatClampNeg (nI i + 3)))) &&& 4294967295)) hcN hR
  refine W.eq (g2 := F0 m 349 ls [_, _, .ref (adx 0 0)]) (by rw [hax]) ?_
  refine lx_i (σx := σx) (va_runV (C := "GridlockDesk") (As := [.int _, .long _]) (rest := []) ⟨hx, hb, hml, hown, hts⟩ (m_X_totalLimit l D cA adx n (AX s.heap.size adm) σx _ _ (r, σx') h1) (cwV 2 hts (lb_V tw_198 tw_199 tw_200 tw_31 tw_201) rfl rfl rfl (by decide +kernel) ⟨Nat.le_of_ble_eq_true rfl, Nat.le_of_ble_eq_true rfl⟩) ⟨k_blind, kw.recv hK hW.1.1 (t := 0) (i := 0) rfl rfl rfl, k_pre (P := fun H => CW D cA adx n (AX s.heap.size adm) σx H) hW.1 hK⟩ rfl rfl hl.1 rfl (lv_room (Nat.le_of_ble_eq_true rfl)) d_L_law_349 ⟨(show cells + 0 ≤ 600000 by omega), (show slots + 0 ≤ 7302250 by omega)⟩) hW hS (fun H locs hW hS => ?_)
  refine lv_aload_n hx hb d_L_law_352 rfl (lv_at hl 2 rfl) ?_
  refine lv_aload_n hx hb d_L_law_353 rfl (lv_at hl 0 rfl) ?_
  refine lv_iload_n hx hb d_L_law_354 rfl (lv_at hl 3 rfl) ?_
  refine lv_iconst (v := 1) hx hb d_L_law_355 (by decide) ?_
  refine lv_iadd hx hb d_L_law_356 ?_
  refine va_sld (A := fun q => s.heap.size ≤ q) hx hb hX hbl (by omega) hS (show vp_in (nI i + nI 1) L from lw_ix hi hL (by omega)) d_L_law_357 ?_
  refine lv_aload_n hx hb d_L_law_358 rfl (lv_at hl 0 rfl) ?_
  refine lv_iload_n hx hb d_L_law_359 rfl (lv_at hl 3 rfl) ?_
  refine lv_iconst (v := 2) hx hb d_L_law_360 (by decide) ?_
  refine lv_iadd hx hb d_L_law_361 ?_
  refine va_sld (A := fun q => s.heap.size ≤ q) hx hb hX hbl (by omega) hS (show vp_in (nI i + nI 2) L from lw_ix hi hL (by omega)) d_L_law_362 ?_
  refine lv_i2l (v := _) hx hb d_L_law_363 rfl ?_
  refine lv_bipush (v := 32) hx hb d_L_law_364 (by decide) ?_
  refine lv_lshl (v := _) hx hb d_L_law_366 rfl ?_
  refine lv_aload_n hx hb d_L_law_367 rfl (lv_at hl 0 rfl) ?_
  refine lv_iload_n hx hb d_L_law_368 rfl (lv_at hl 3 rfl) ?_
  refine lv_iconst (v := 3) hx hb d_L_law_369 (by decide) ?_
  refine lv_iadd hx hb d_L_law_370 ?_
  refine va_sld (A := fun q => s.heap.size ≤ q) hx hb hX hbl (by omega) hS (show vp_in (nI i + nI 3) L from lw_ix hi hL (by omega)) d_L_law_371 ?_
  refine lv_i2l (v := _) hx hb d_L_law_372 rfl ?_
  refine lv_ldc2 (v := 4294967295) hx hb hown (ht _ tw_522) d_L_law_373 ?_
  refine lv_land hx hb d_L_law_376 ?_
  refine lv_lor hx hb d_L_law_377 ?_
  refine W.eq (g2 := F0 m 378 ls [_, _, .ref (adm 0 0), _]) (by rw [ham]) ?_
  refine lm_i (σm := σm) (va_runV (C := "GridlockDeskModel") (As := [.int _, .long _]) (rest := [.int r]) ⟨hx, hb, hml, hown, hts⟩ (m_M_totalLimit l D cA adm 0 (PM adm) σm _ _ (r, σm') h2) (cwV 2 hts (lb_V tw_462 tw_463 tw_464 tw_35 tw_465) rfl rfl rfl (by decide +kernel) ⟨Nat.le_of_ble_eq_true rfl, Nat.le_of_ble_eq_true rfl⟩) ⟨k_blind, kw.recv hK hW.2.1.1 (t := 0) (i := 0) rfl rfl rfl, k_pre (P := fun H => MW D cA adm 0 (PM adm) σm H) hW.2.1 hK⟩ rfl rfl hl.1 rfl (lv_room (Nat.le_of_ble_eq_true rfl)) d_L_law_378 ⟨(show cells + 0 ≤ 600000 by omega), (show slots + 0 ≤ 7302250 by omega)⟩) hW hS (fun H locs hW hS => ?_)
  refine lv_icmp_eq (tgt := 750) hx hb d_L_law_381 rfl (fun _ => ?_) (fun hc => absurd rfl hc)
  refine W.widen (k := cells + 1) (n := slots + 7) (by omega) (by omega) ?_
  exact hnext adx σx' σm' H locs hax hR' hW hS
set_option maxHeartbeats 4000000 in
set_option maxRecDepth 100000 in
theorem lw_pay {p : Program} {l : Launch} {e : Env} {s : State} {m : MethodId} {below : List Frame} {meth : Method} {c : Code} {Q : State → Prop} {Rel : Nat → Nat → St → St → Prop} (D : va_G) (cA : Nat → ClassId) (adx adm : Nat → Nat → Nat) (n b L : Nat) (xs : Nat → Int32) (hL : L ≤ 3585) (hx : p.tables.exec = Jvm.exec) (hb : c.code = code) (hml : c.maxLocals = 4) (hts : ∀ w ∈ lw_tbl, w.before #[Value.ref b] s = true) (hown : s.vm.findClass "GridlockDeskLaw" = some m.cls) (hX : va_X b L xs s s.heap) (hbl : b < s.heap.size) (hK : va_K D vCl (atys cA) s) (hPO : PO_pay Rel) (i cN cells slots : Nat) (hi : i + 7 ≤ L) (hcN : cN < 512) (hcs : cells + 1 ≤ 600000 ∧ slots + 7 ≤ 7302250) (ax am : Nat) (σx σm : St) (H : Heap) (locs : List Loc) (ls : Array Slot) (hl : lv_has ls 4 [(0, .ref b), (1, .ref ax), (2, .ref am), (3, .int (nI i))]) (hax : adx 0 0 = ax) (ham : adm 0 0 = am) (hR : Rel cN n σx σm) (hW : LWd D cA s.heap.size adx adm n σx σm H) (hS : va_S (fun q => s.heap.size ≤ q) s.heap H locs) (hnext : ∀ (adx' : Nat → Nat → Nat) (σx' σm' : St) (H' : Heap) (locs' : List Loc), adx' 0 0 = ax → Rel (cN + 1) n σx' σm' → LWd D cA s.heap.size adx' adm n σx' σm' H' → va_S (fun q => s.heap.size ≤ q) s.heap H' locs' → W p l e room_1 s m #[Value.ref b] below meth c H' locs' (cells + 1) (slots + 7) Q (F0 m 750 ls [])) : W p l e room_1 s m #[Value.ref b] below meth c H locs cells slots Q (F0 m 386 ls []) := by
  have ht : ∀ w ∈ TB, w.before #[Value.ref b] s = true := fun w h => hts w (lb_in h)
  refine lv_aload_n hx hb d_L_law_386 rfl (lv_at hl 1 rfl) ?_
  refine lv_aload_n hx hb d_L_law_387 rfl (lv_at hl 0 rfl) ?_
  refine lv_iload_n hx hb d_L_law_388 rfl (lv_at hl 3 rfl) ?_
  refine lv_iconst (v := 1) hx hb d_L_law_389 (by decide) ?_
  refine lv_iadd hx hb d_L_law_390 ?_
  refine va_sld (A := fun q => s.heap.size ≤ q) hx hb hX hbl (by omega) hS (show vp_in (nI i + nI 1) L from lw_ix hi hL (by omega)) d_L_law_391 ?_
  refine lv_aload_n hx hb d_L_law_392 rfl (lv_at hl 0 rfl) ?_
  refine lv_iload_n hx hb d_L_law_393 rfl (lv_at hl 3 rfl) ?_
  refine lv_iconst (v := 2) hx hb d_L_law_394 (by decide) ?_
  refine lv_iadd hx hb d_L_law_395 ?_
  refine va_sld (A := fun q => s.heap.size ≤ q) hx hb hX hbl (by omega) hS (show vp_in (nI i + nI 2) L from lw_ix hi hL (by omega)) d_L_law_396 ?_
  refine lv_aload_n hx hb d_L_law_397 rfl (lv_at hl 0 rfl) ?_
  refine lv_iload_n hx hb d_L_law_398 rfl (lv_at hl 3 rfl) ?_
  refine lv_iconst (v := 3) hx hb d_L_law_399 (by decide) ?_
  refine lv_iadd hx hb d_L_law_400 ?_
  refine va_sld (A := fun q => s.heap.size ≤ q) hx hb hX hbl (by omega) hS (show vp_in (nI i + nI 3) L from lw_ix hi hL (by omega)) d_L_law_401 ?_
  refine lv_i2l (v := _) hx hb d_L_law_402 rfl ?_
  refine lv_bipush (v := 32) hx hb d_L_law_403 (by decide) ?_
  refine lv_lshl (v := _) hx hb d_L_law_405 rfl ?_
  refine lv_aload_n hx hb d_L_law_406 rfl (lv_at hl 0 rfl) ?_
  refine lv_iload_n hx hb d_L_law_407 rfl (lv_at hl 3 rfl) ?_
  refine lv_iconst (v := 4) hx hb d_L_law_408 (by decide) ?_
  refine lv_iadd hx hb d_L_law_409 ?_
  refine va_sld (A := fun q => s.heap.size ≤ q) hx hb hX hbl (by omega) hS (show vp_in (nI i + nI 4) L from lw_ix hi hL (by omega)) d_L_law_410 ?_
  refine lv_i2l (v := _) hx hb d_L_law_411 rfl ?_
  refine lv_ldc2 (v := 4294967295) hx hb hown (ht _ tw_522) d_L_law_412 ?_
  refine lv_land hx hb d_L_law_415 ?_
  refine lv_lor hx hb d_L_law_416 ?_
  refine lv_aload_n hx hb d_L_law_417 rfl (lv_at hl 0 rfl) ?_
  refine lv_iload_n hx hb d_L_law_418 rfl (lv_at hl 3 rfl) ?_
  refine lv_iconst (v := 5) hx hb d_L_law_419 (by decide) ?_
  refine lv_iadd hx hb d_L_law_420 ?_
  refine va_sld (A := fun q => s.heap.size ≤ q) hx hb hX hbl (by omega) hS (show vp_in (nI i + nI 5) L from lw_ix hi hL (by omega)) d_L_law_421 ?_
  refine lv_aload_n hx hb d_L_law_422 rfl (lv_at hl 0 rfl) ?_
  refine lv_iload_n hx hb d_L_law_423 rfl (lv_at hl 3 rfl) ?_
  refine lv_bipush (v := 6) hx hb d_L_law_424 (by decide) ?_
  refine lv_iadd hx hb d_L_law_426 ?_
  refine va_sld (A := fun q => s.heap.size ≤ q) hx hb hX hbl (by omega) hS (show vp_in (nI i + nI 6) L from lw_ix hi hL (by omega)) d_L_law_427 ?_
  obtain ⟨r, σx', σm', h1, h2, hR'⟩ := hPO cN n σx σm (xs (Int32.toNatClampNeg (nI i + 1))) (xs (Int32.toNatClampNeg (nI i + 2))) (((Int32.toInt64 (xs (Int32.toNatClampNeg (nI i + 3)))) <<< (Int32.toInt64 32 &&& 63)) ||| ((Int32.toInt64 (xs (Int32.toNatClampNeg (nI i + 4)))) &&& 4294967295)) (xs (Int32.toNatClampNeg (nI i + 5))) (xs (Int32.toNatClampNeg (nI i + 6))) hcN hR
  refine W.eq (g2 := F0 m 428 ls [_, _, _, _, _, .ref (adx 0 0)]) (by rw [hax]) ?_
  refine lx_pay (σx := σx) (adx := adx) (va_runV (C := "GridlockDesk") (As := [.int _, .int _, .long _, .int _, .int _]) (rest := []) ⟨hx, hb, hml, hown, hts⟩ (m_X_pay l D cA adx n (AX s.heap.size adm) H.size (fun q h => ⟨Nat.le_trans hS.1 h, fun ⟨t, i, hd, e9⟩ => by have h9 : adm t i < H.size := (hW.2.1.1.1 t i hd).lt; omega⟩) σx _ _ _ _ _ (r, σx') h1) (cwV 5 hts (lb_V tw_206 tw_207 tw_208 tw_31 tw_209) rfl rfl rfl (by decide +kernel) ⟨Nat.le_of_ble_eq_true rfl, Nat.le_of_ble_eq_true rfl⟩) ⟨fun a U g mk q => by obtain ⟨q0, q1, q2⟩ := q; exact ⟨q0, q1, va_K.moved (u := U) (U := U.calling g mk a) (Vm.Alike.refl U.vm) q2⟩, kw.recv hK hW.1.1 (t := 0) (i := 0) rfl rfl rfl, fun U hU hWm => ⟨rfl, ⟨by rw [hU]; exact hW.1, by rw [hU]⟩, va_K.moved hWm.alike hK⟩⟩ rfl rfl hl.1 rfl (lv_room (Nat.le_of_ble_eq_true rfl)) d_L_law_428 ⟨(show cells + 1 ≤ 600000 from hcs.1), (show slots + 7 ≤ 7302250 from hcs.2)⟩) hW hS (fun adx' H locs h0' hW hS => ?_)
  refine lv_aload_n hx hb d_L_law_431 rfl (lv_at hl 2 rfl) ?_
  refine lv_aload_n hx hb d_L_law_432 rfl (lv_at hl 0 rfl) ?_
  refine lv_iload_n hx hb d_L_law_433 rfl (lv_at hl 3 rfl) ?_
  refine lv_iconst (v := 1) hx hb d_L_law_434 (by decide) ?_
  refine lv_iadd hx hb d_L_law_435 ?_
  refine va_sld (A := fun q => s.heap.size ≤ q) hx hb hX hbl (by omega) hS (show vp_in (nI i + nI 1) L from lw_ix hi hL (by omega)) d_L_law_436 ?_
  refine lv_aload_n hx hb d_L_law_437 rfl (lv_at hl 0 rfl) ?_
  refine lv_iload_n hx hb d_L_law_438 rfl (lv_at hl 3 rfl) ?_
  refine lv_iconst (v := 2) hx hb d_L_law_439 (by decide) ?_
  refine lv_iadd hx hb d_L_law_440 ?_
  refine va_sld (A := fun q => s.heap.size ≤ q) hx hb hX hbl (by omega) hS (show vp_in (nI i + nI 2) L from lw_ix hi hL (by omega)) d_L_law_441 ?_
  refine lv_aload_n hx hb d_L_law_442 rfl (lv_at hl 0 rfl) ?_
  refine lv_iload_n hx hb d_L_law_443 rfl (lv_at hl 3 rfl) ?_
  refine lv_iconst (v := 3) hx hb d_L_law_444 (by decide) ?_
  refine lv_iadd hx hb d_L_law_445 ?_
  refine va_sld (A := fun q => s.heap.size ≤ q) hx hb hX hbl (by omega) hS (show vp_in (nI i + nI 3) L from lw_ix hi hL (by omega)) d_L_law_446 ?_
  refine lv_i2l (v := _) hx hb d_L_law_447 rfl ?_
  refine lv_bipush (v := 32) hx hb d_L_law_448 (by decide) ?_
  refine lv_lshl (v := _) hx hb d_L_law_450 rfl ?_
  refine lv_aload_n hx hb d_L_law_451 rfl (lv_at hl 0 rfl) ?_
  refine lv_iload_n hx hb d_L_law_452 rfl (lv_at hl 3 rfl) ?_
  refine lv_iconst (v := 4) hx hb d_L_law_453 (by decide) ?_
  refine lv_iadd hx hb d_L_law_454 ?_
  refine va_sld (A := fun q => s.heap.size ≤ q) hx hb hX hbl (by omega) hS (show vp_in (nI i + nI 4) L from lw_ix hi hL (by omega)) d_L_law_455 ?_
  refine lv_i2l (v := _) hx hb d_L_law_456 rfl ?_
  refine lv_ldc2 (v := 4294967295) hx hb hown (ht _ tw_522) d_L_law_457 ?_
  refine lv_land hx hb d_L_law_460 ?_
  refine lv_lor hx hb d_L_law_461 ?_
  refine lv_aload_n hx hb d_L_law_462 rfl (lv_at hl 0 rfl) ?_
  refine lv_iload_n hx hb d_L_law_463 rfl (lv_at hl 3 rfl) ?_
  refine lv_iconst (v := 5) hx hb d_L_law_464 (by decide) ?_
  refine lv_iadd hx hb d_L_law_465 ?_
  refine va_sld (A := fun q => s.heap.size ≤ q) hx hb hX hbl (by omega) hS (show vp_in (nI i + nI 5) L from lw_ix hi hL (by omega)) d_L_law_466 ?_
  refine lv_aload_n hx hb d_L_law_467 rfl (lv_at hl 0 rfl) ?_
  refine lv_iload_n hx hb d_L_law_468 rfl (lv_at hl 3 rfl) ?_
  refine lv_bipush (v := 6) hx hb d_L_law_469 (by decide) ?_
  refine lv_iadd hx hb d_L_law_471 ?_
  refine va_sld (A := fun q => s.heap.size ≤ q) hx hb hX hbl (by omega) hS (show vp_in (nI i + nI 6) L from lw_ix hi hL (by omega)) d_L_law_472 ?_
  refine W.eq (g2 := F0 m 473 ls [_, _, _, _, _, .ref (adm 0 0), _]) (by rw [ham]) ?_
  refine lm_i (σm := σm) (va_runV (C := "GridlockDeskModel") (As := [.int _, .int _, .long _, .int _, .int _]) (rest := [.int r]) ⟨hx, hb, hml, hown, hts⟩ (m_M_pay l D cA adm 0 (PM adm) σm _ _ _ _ _ (r, σm') h2) (cwV 5 hts (lb_V tw_466 tw_467 tw_468 tw_35 tw_469) rfl rfl rfl (by decide +kernel) ⟨Nat.le_of_ble_eq_true rfl, Nat.le_of_ble_eq_true rfl⟩) ⟨k_blind, kw.recv hK hW.2.1.1 (t := 0) (i := 0) rfl rfl rfl, k_pre (P := fun H => MW D cA adm 0 (PM adm) σm H) hW.2.1 hK⟩ rfl rfl hl.1 rfl (lv_room (Nat.le_of_ble_eq_true rfl)) d_L_law_473 ⟨(show cells + 1 + 0 ≤ 600000 by omega), (show slots + 7 + 0 ≤ 7302250 by omega)⟩) hW hS (fun H locs hW hS => ?_)
  refine lv_icmp_eq (tgt := 750) hx hb d_L_law_476 rfl (fun _ => ?_) (fun hc => absurd rfl hc)
  exact hnext adx' σx' σm' H locs (h0'.trans hax) hR' hW hS
set_option maxHeartbeats 4000000 in
set_option maxRecDepth 100000 in
theorem lw_cancel {p : Program} {l : Launch} {e : Env} {s : State} {m : MethodId} {below : List Frame} {meth : Method} {c : Code} {Q : State → Prop} {Rel : Nat → Nat → St → St → Prop} (D : va_G) (cA : Nat → ClassId) (adx adm : Nat → Nat → Nat) (n b L : Nat) (xs : Nat → Int32) (hL : L ≤ 3585) (hx : p.tables.exec = Jvm.exec) (hb : c.code = code) (hml : c.maxLocals = 4) (hts : ∀ w ∈ lw_tbl, w.before #[Value.ref b] s = true) (hown : s.vm.findClass "GridlockDeskLaw" = some m.cls) (hX : va_X b L xs s s.heap) (hbl : b < s.heap.size) (hK : va_K D vCl (atys cA) s) (hPO : PO_cancel Rel) (i cN cells slots : Nat) (hi : i + 7 ≤ L) (hcN : cN < 512) (hcs : cells + 1 ≤ 600000 ∧ slots + 7 ≤ 7302250) (ax am : Nat) (σx σm : St) (H : Heap) (locs : List Loc) (ls : Array Slot) (hl : lv_has ls 4 [(0, .ref b), (1, .ref ax), (2, .ref am), (3, .int (nI i))]) (hax : adx 0 0 = ax) (ham : adm 0 0 = am) (hR : Rel cN n σx σm) (hW : LWd D cA s.heap.size adx adm n σx σm H) (hS : va_S (fun q => s.heap.size ≤ q) s.heap H locs) (hnext : ∀ (adx' : Nat → Nat → Nat) (σx' σm' : St) (H' : Heap) (locs' : List Loc), adx' 0 0 = ax → Rel (cN + 1) n σx' σm' → LWd D cA s.heap.size adx' adm n σx' σm' H' → va_S (fun q => s.heap.size ≤ q) s.heap H' locs' → W p l e room_1 s m #[Value.ref b] below meth c H' locs' (cells + 1) (slots + 7) Q (F0 m 750 ls [])) : W p l e room_1 s m #[Value.ref b] below meth c H locs cells slots Q (F0 m 481 ls []) := by
  have ht : ∀ w ∈ TB, w.before #[Value.ref b] s = true := fun w h => hts w (lb_in h)
  refine lv_aload_n hx hb d_L_law_481 rfl (lv_at hl 1 rfl) ?_
  refine lv_aload_n hx hb d_L_law_482 rfl (lv_at hl 0 rfl) ?_
  refine lv_iload_n hx hb d_L_law_483 rfl (lv_at hl 3 rfl) ?_
  refine lv_iconst (v := 1) hx hb d_L_law_484 (by decide) ?_
  refine lv_iadd hx hb d_L_law_485 ?_
  refine va_sld (A := fun q => s.heap.size ≤ q) hx hb hX hbl (by omega) hS (show vp_in (nI i + nI 1) L from lw_ix hi hL (by omega)) d_L_law_486 ?_
  obtain ⟨r, σx', σm', h1, h2, hR'⟩ := hPO cN n σx σm (xs (Int32.toNatClampNeg (nI i + 1))) hcN hR
  refine W.eq (g2 := F0 m 487 ls [_, .ref (adx 0 0)]) (by rw [hax]) ?_
  refine lx_i (σx := σx) (va_runV (C := "GridlockDesk") (As := [.int _]) (rest := []) ⟨hx, hb, hml, hown, hts⟩ (m_X_cancel l D cA adx n (AX s.heap.size adm) σx _ (r, σx') h1) (cwV 1 hts (lb_V tw_254 tw_255 tw_256 tw_31 tw_257) rfl rfl rfl (by decide +kernel) ⟨Nat.le_of_ble_eq_true rfl, Nat.le_of_ble_eq_true rfl⟩) ⟨k_blind, kw.recv hK hW.1.1 (t := 0) (i := 0) rfl rfl rfl, k_pre (P := fun H => CW D cA adx n (AX s.heap.size adm) σx H) hW.1 hK⟩ rfl rfl hl.1 rfl (lv_room (Nat.le_of_ble_eq_true rfl)) d_L_law_487 ⟨(show cells + 0 ≤ 600000 by omega), (show slots + 0 ≤ 7302250 by omega)⟩) hW hS (fun H locs hW hS => ?_)
  refine lv_aload_n hx hb d_L_law_490 rfl (lv_at hl 2 rfl) ?_
  refine lv_aload_n hx hb d_L_law_491 rfl (lv_at hl 0 rfl) ?_
  refine lv_iload_n hx hb d_L_law_492 rfl (lv_at hl 3 rfl) ?_
  refine lv_iconst (v := 1) hx hb d_L_law_493 (by decide) ?_
  refine lv_iadd hx hb d_L_law_494 ?_
  refine va_sld (A := fun q => s.heap.size ≤ q) hx hb hX hbl (by omega) hS (show vp_in (nI i + nI 1) L from lw_ix hi hL (by omega)) d_L_law_495 ?_
  refine W.eq (g2 := F0 m 496 ls [_, .ref (adm 0 0), _]) (by rw [ham]) ?_
  refine lm_i (σm := σm) (va_runV (C := "GridlockDeskModel") (As := [.int _]) (rest := [.int r]) ⟨hx, hb, hml, hown, hts⟩ (m_M_cancel l D cA adm 0 (PM adm) σm _ (r, σm') h2) (cwV 1 hts (lb_V tw_474 tw_475 tw_476 tw_35 tw_477) rfl rfl rfl (by decide +kernel) ⟨Nat.le_of_ble_eq_true rfl, Nat.le_of_ble_eq_true rfl⟩) ⟨k_blind, kw.recv hK hW.2.1.1 (t := 0) (i := 0) rfl rfl rfl, k_pre (P := fun H => MW D cA adm 0 (PM adm) σm H) hW.2.1 hK⟩ rfl rfl hl.1 rfl (lv_room (Nat.le_of_ble_eq_true rfl)) d_L_law_496 ⟨(show cells + 0 ≤ 600000 by omega), (show slots + 0 ≤ 7302250 by omega)⟩) hW hS (fun H locs hW hS => ?_)
  refine lv_icmp_eq (tgt := 750) hx hb d_L_law_499 rfl (fun _ => ?_) (fun hc => absurd rfl hc)
  refine W.widen (k := cells + 1) (n := slots + 7) (by omega) (by omega) ?_
  exact hnext adx σx' σm' H locs hax hR' hW hS
set_option maxHeartbeats 4000000 in
set_option maxRecDepth 100000 in
theorem lw_urge {p : Program} {l : Launch} {e : Env} {s : State} {m : MethodId} {below : List Frame} {meth : Method} {c : Code} {Q : State → Prop} {Rel : Nat → Nat → St → St → Prop} (D : va_G) (cA : Nat → ClassId) (adx adm : Nat → Nat → Nat) (n b L : Nat) (xs : Nat → Int32) (hL : L ≤ 3585) (hx : p.tables.exec = Jvm.exec) (hb : c.code = code) (hml : c.maxLocals = 4) (hts : ∀ w ∈ lw_tbl, w.before #[Value.ref b] s = true) (hown : s.vm.findClass "GridlockDeskLaw" = some m.cls) (hX : va_X b L xs s s.heap) (hbl : b < s.heap.size) (hK : va_K D vCl (atys cA) s) (hPO : PO_urge Rel) (i cN cells slots : Nat) (hi : i + 7 ≤ L) (hcN : cN < 512) (hcs : cells + 1 ≤ 600000 ∧ slots + 7 ≤ 7302250) (ax am : Nat) (σx σm : St) (H : Heap) (locs : List Loc) (ls : Array Slot) (hl : lv_has ls 4 [(0, .ref b), (1, .ref ax), (2, .ref am), (3, .int (nI i))]) (hax : adx 0 0 = ax) (ham : adm 0 0 = am) (hR : Rel cN n σx σm) (hW : LWd D cA s.heap.size adx adm n σx σm H) (hS : va_S (fun q => s.heap.size ≤ q) s.heap H locs) (hnext : ∀ (adx' : Nat → Nat → Nat) (σx' σm' : St) (H' : Heap) (locs' : List Loc), adx' 0 0 = ax → Rel (cN + 1) n σx' σm' → LWd D cA s.heap.size adx' adm n σx' σm' H' → va_S (fun q => s.heap.size ≤ q) s.heap H' locs' → W p l e room_1 s m #[Value.ref b] below meth c H' locs' (cells + 1) (slots + 7) Q (F0 m 750 ls [])) : W p l e room_1 s m #[Value.ref b] below meth c H locs cells slots Q (F0 m 504 ls []) := by
  have ht : ∀ w ∈ TB, w.before #[Value.ref b] s = true := fun w h => hts w (lb_in h)
  refine lv_aload_n hx hb d_L_law_504 rfl (lv_at hl 1 rfl) ?_
  refine lv_aload_n hx hb d_L_law_505 rfl (lv_at hl 0 rfl) ?_
  refine lv_iload_n hx hb d_L_law_506 rfl (lv_at hl 3 rfl) ?_
  refine lv_iconst (v := 1) hx hb d_L_law_507 (by decide) ?_
  refine lv_iadd hx hb d_L_law_508 ?_
  refine va_sld (A := fun q => s.heap.size ≤ q) hx hb hX hbl (by omega) hS (show vp_in (nI i + nI 1) L from lw_ix hi hL (by omega)) d_L_law_509 ?_
  refine lv_aload_n hx hb d_L_law_510 rfl (lv_at hl 0 rfl) ?_
  refine lv_iload_n hx hb d_L_law_511 rfl (lv_at hl 3 rfl) ?_
  refine lv_iconst (v := 2) hx hb d_L_law_512 (by decide) ?_
  refine lv_iadd hx hb d_L_law_513 ?_
  refine va_sld (A := fun q => s.heap.size ≤ q) hx hb hX hbl (by omega) hS (show vp_in (nI i + nI 2) L from lw_ix hi hL (by omega)) d_L_law_514 ?_
  obtain ⟨r, σx', σm', h1, h2, hR'⟩ := hPO cN n σx σm (xs (Int32.toNatClampNeg (nI i + 1))) (xs (Int32.toNatClampNeg (nI i + 2))) hcN hR
  refine W.eq (g2 := F0 m 515 ls [_, _, .ref (adx 0 0)]) (by rw [hax]) ?_
  refine lx_i (σx := σx) (va_runV (C := "GridlockDesk") (As := [.int _, .int _]) (rest := []) ⟨hx, hb, hml, hown, hts⟩ (m_X_urge l D cA adx n (AX s.heap.size adm) σx _ _ (r, σx') h1) (cwV 2 hts (lb_V tw_266 tw_267 tw_268 tw_31 tw_269) rfl rfl rfl (by decide +kernel) ⟨Nat.le_of_ble_eq_true rfl, Nat.le_of_ble_eq_true rfl⟩) ⟨k_blind, kw.recv hK hW.1.1 (t := 0) (i := 0) rfl rfl rfl, k_pre (P := fun H => CW D cA adx n (AX s.heap.size adm) σx H) hW.1 hK⟩ rfl rfl hl.1 rfl (lv_room (Nat.le_of_ble_eq_true rfl)) d_L_law_515 ⟨(show cells + 0 ≤ 600000 by omega), (show slots + 0 ≤ 7302250 by omega)⟩) hW hS (fun H locs hW hS => ?_)
  refine lv_aload_n hx hb d_L_law_518 rfl (lv_at hl 2 rfl) ?_
  refine lv_aload_n hx hb d_L_law_519 rfl (lv_at hl 0 rfl) ?_
  refine lv_iload_n hx hb d_L_law_520 rfl (lv_at hl 3 rfl) ?_
  refine lv_iconst (v := 1) hx hb d_L_law_521 (by decide) ?_
  refine lv_iadd hx hb d_L_law_522 ?_
  refine va_sld (A := fun q => s.heap.size ≤ q) hx hb hX hbl (by omega) hS (show vp_in (nI i + nI 1) L from lw_ix hi hL (by omega)) d_L_law_523 ?_
  refine lv_aload_n hx hb d_L_law_524 rfl (lv_at hl 0 rfl) ?_
  refine lv_iload_n hx hb d_L_law_525 rfl (lv_at hl 3 rfl) ?_
  refine lv_iconst (v := 2) hx hb d_L_law_526 (by decide) ?_
  refine lv_iadd hx hb d_L_law_527 ?_
  refine va_sld (A := fun q => s.heap.size ≤ q) hx hb hX hbl (by omega) hS (show vp_in (nI i + nI 2) L from lw_ix hi hL (by omega)) d_L_law_528 ?_
  refine W.eq (g2 := F0 m 529 ls [_, _, .ref (adm 0 0), _]) (by rw [ham]) ?_
  refine lm_i (σm := σm) (va_runV (C := "GridlockDeskModel") (As := [.int _, .int _]) (rest := [.int r]) ⟨hx, hb, hml, hown, hts⟩ (m_M_urge l D cA adm 0 (PM adm) σm _ _ (r, σm') h2) (cwV 2 hts (lb_V tw_482 tw_483 tw_484 tw_35 tw_485) rfl rfl rfl (by decide +kernel) ⟨Nat.le_of_ble_eq_true rfl, Nat.le_of_ble_eq_true rfl⟩) ⟨k_blind, kw.recv hK hW.2.1.1 (t := 0) (i := 0) rfl rfl rfl, k_pre (P := fun H => MW D cA adm 0 (PM adm) σm H) hW.2.1 hK⟩ rfl rfl hl.1 rfl (lv_room (Nat.le_of_ble_eq_true rfl)) d_L_law_529 ⟨(show cells + 0 ≤ 600000 by omega), (show slots + 0 ≤ 7302250 by omega)⟩) hW hS (fun H locs hW hS => ?_)
  refine lv_icmp_eq (tgt := 750) hx hb d_L_law_532 rfl (fun _ => ?_) (fun hc => absurd rfl hc)
  refine W.widen (k := cells + 1) (n := slots + 7) (by omega) (by omega) ?_
  exact hnext adx σx' σm' H locs hax hR' hW hS
set_option maxHeartbeats 4000000 in
set_option maxRecDepth 100000 in
theorem lw_resolve {p : Program} {l : Launch} {e : Env} {s : State} {m : MethodId} {below : List Frame} {meth : Method} {c : Code} {Q : State → Prop} {Rel : Nat → Nat → St → St → Prop} (D : va_G) (cA : Nat → ClassId) (adx adm : Nat → Nat → Nat) (n b L : Nat) (xs : Nat → Int32) (hL : L ≤ 3585) (hx : p.tables.exec = Jvm.exec) (hb : c.code = code) (hml : c.maxLocals = 4) (hts : ∀ w ∈ lw_tbl, w.before #[Value.ref b] s = true) (hown : s.vm.findClass "GridlockDeskLaw" = some m.cls) (hX : va_X b L xs s s.heap) (hbl : b < s.heap.size) (hK : va_K D vCl (atys cA) s) (hPO : PO_resolve Rel) (i cN cells slots : Nat) (hi : i + 7 ≤ L) (hcN : cN < 512) (hcs : cells + 1 ≤ 600000 ∧ slots + 7 ≤ 7302250) (ax am : Nat) (σx σm : St) (H : Heap) (locs : List Loc) (ls : Array Slot) (hl : lv_has ls 4 [(0, .ref b), (1, .ref ax), (2, .ref am), (3, .int (nI i))]) (hax : adx 0 0 = ax) (ham : adm 0 0 = am) (hR : Rel cN n σx σm) (hW : LWd D cA s.heap.size adx adm n σx σm H) (hS : va_S (fun q => s.heap.size ≤ q) s.heap H locs) (hnext : ∀ (adx' : Nat → Nat → Nat) (σx' σm' : St) (H' : Heap) (locs' : List Loc), adx' 0 0 = ax → Rel (cN + 1) n σx' σm' → LWd D cA s.heap.size adx' adm n σx' σm' H' → va_S (fun q => s.heap.size ≤ q) s.heap H' locs' → W p l e room_1 s m #[Value.ref b] below meth c H' locs' (cells + 1) (slots + 7) Q (F0 m 750 ls [])) : W p l e room_1 s m #[Value.ref b] below meth c H locs cells slots Q (F0 m 537 ls []) := by
  have ht : ∀ w ∈ TB, w.before #[Value.ref b] s = true := fun w h => hts w (lb_in h)
  refine lv_aload_n hx hb d_L_law_537 rfl (lv_at hl 1 rfl) ?_
  obtain ⟨r, σx', σm', h1, h2, hR'⟩ := hPO cN n σx σm hcN hR
  refine W.eq (g2 := F0 m 538 ls [.ref (adx 0 0)]) (by rw [hax]) ?_
  refine lx_i (σx := σx) (va_runV (C := "GridlockDesk") (As := []) (rest := []) ⟨hx, hb, hml, hown, hts⟩ (m_X_resolve l D cA adx n (AX s.heap.size adm) σx  (r, σx') h1) (cwV 0 hts (lb_V tw_270 tw_271 tw_272 tw_31 tw_273) rfl rfl rfl (by decide +kernel) ⟨Nat.le_of_ble_eq_true rfl, Nat.le_of_ble_eq_true rfl⟩) ⟨k_blind, kw.recv hK hW.1.1 (t := 0) (i := 0) rfl rfl rfl, k_pre (P := fun H => CW D cA adx n (AX s.heap.size adm) σx H) hW.1 hK⟩ rfl rfl hl.1 rfl (lv_room (Nat.le_of_ble_eq_true rfl)) d_L_law_538 ⟨(show cells + 0 ≤ 600000 by omega), (show slots + 0 ≤ 7302250 by omega)⟩) hW hS (fun H locs hW hS => ?_)
  refine lv_aload_n hx hb d_L_law_541 rfl (lv_at hl 2 rfl) ?_
  refine W.eq (g2 := F0 m 542 ls [.ref (adm 0 0), _]) (by rw [ham]) ?_
  refine lm_i (σm := σm) (va_runV (C := "GridlockDeskModel") (As := []) (rest := [.int r]) ⟨hx, hb, hml, hown, hts⟩ (m_M_resolve l D cA adm 0 (PM adm) σm  (r, σm') h2) (cwV 0 hts (lb_V tw_392 tw_393 tw_394 tw_35 tw_395) rfl rfl rfl (by decide +kernel) ⟨Nat.le_of_ble_eq_true rfl, Nat.le_of_ble_eq_true rfl⟩) ⟨k_blind, kw.recv hK hW.2.1.1 (t := 0) (i := 0) rfl rfl rfl, k_pre (P := fun H => MW D cA adm 0 (PM adm) σm H) hW.2.1 hK⟩ rfl rfl hl.1 rfl (lv_room (Nat.le_of_ble_eq_true rfl)) d_L_law_542 ⟨(show cells + 0 ≤ 600000 by omega), (show slots + 0 ≤ 7302250 by omega)⟩) hW hS (fun H locs hW hS => ?_)
  refine lv_icmp_eq (tgt := 750) hx hb d_L_law_545 rfl (fun _ => ?_) (fun hc => absurd rfl hc)
  refine W.widen (k := cells + 1) (n := slots + 7) (by omega) (by omega) ?_
  exact hnext adx σx' σm' H locs hax hR' hW hS
set_option maxHeartbeats 4000000 in
set_option maxRecDepth 100000 in
theorem lw_tick {p : Program} {l : Launch} {e : Env} {s : State} {m : MethodId} {below : List Frame} {meth : Method} {c : Code} {Q : State → Prop} {Rel : Nat → Nat → St → St → Prop} (D : va_G) (cA : Nat → ClassId) (adx adm : Nat → Nat → Nat) (n b L : Nat) (xs : Nat → Int32) (hL : L ≤ 3585) (hx : p.tables.exec = Jvm.exec) (hb : c.code = code) (hml : c.maxLocals = 4) (hts : ∀ w ∈ lw_tbl, w.before #[Value.ref b] s = true) (hown : s.vm.findClass "GridlockDeskLaw" = some m.cls) (hX : va_X b L xs s s.heap) (hbl : b < s.heap.size) (hK : va_K D vCl (atys cA) s) (hPO : PO_tick Rel) (i cN cells slots : Nat) (hi : i + 7 ≤ L) (hcN : cN < 512) (hcs : cells + 1 ≤ 600000 ∧ slots + 7 ≤ 7302250) (ax am : Nat) (σx σm : St) (H : Heap) (locs : List Loc) (ls : Array Slot) (hl : lv_has ls 4 [(0, .ref b), (1, .ref ax), (2, .ref am), (3, .int (nI i))]) (hax : adx 0 0 = ax) (ham : adm 0 0 = am) (hR : Rel cN n σx σm) (hW : LWd D cA s.heap.size adx adm n σx σm H) (hS : va_S (fun q => s.heap.size ≤ q) s.heap H locs) (hnext : ∀ (adx' : Nat → Nat → Nat) (σx' σm' : St) (H' : Heap) (locs' : List Loc), adx' 0 0 = ax → Rel (cN + 1) n σx' σm' → LWd D cA s.heap.size adx' adm n σx' σm' H' → va_S (fun q => s.heap.size ≤ q) s.heap H' locs' → W p l e room_1 s m #[Value.ref b] below meth c H' locs' (cells + 1) (slots + 7) Q (F0 m 750 ls [])) : W p l e room_1 s m #[Value.ref b] below meth c H locs cells slots Q (F0 m 550 ls []) := by
  have ht : ∀ w ∈ TB, w.before #[Value.ref b] s = true := fun w h => hts w (lb_in h)
  refine lv_aload_n hx hb d_L_law_550 rfl (lv_at hl 1 rfl) ?_
  refine lv_aload_n hx hb d_L_law_551 rfl (lv_at hl 0 rfl) ?_
  refine lv_iload_n hx hb d_L_law_552 rfl (lv_at hl 3 rfl) ?_
  refine lv_iconst (v := 1) hx hb d_L_law_553 (by decide) ?_
  refine lv_iadd hx hb d_L_law_554 ?_
  refine va_sld (A := fun q => s.heap.size ≤ q) hx hb hX hbl (by omega) hS (show vp_in (nI i + nI 1) L from lw_ix hi hL (by omega)) d_L_law_555 ?_
  obtain ⟨r, σx', σm', h1, h2, hR'⟩ := hPO cN n σx σm (xs (Int32.toNatClampNeg (nI i + 1))) hcN hR
  refine W.eq (g2 := F0 m 556 ls [_, .ref (adx 0 0)]) (by rw [hax]) ?_
  refine lx_i (σx := σx) (va_runV (C := "GridlockDesk") (As := [.int _]) (rest := []) ⟨hx, hb, hml, hown, hts⟩ (m_X_tick l D cA adx n (AX s.heap.size adm) σx _ (r, σx') h1) (cwV 1 hts (lb_V tw_278 tw_279 tw_280 tw_31 tw_281) rfl rfl rfl (by decide +kernel) ⟨Nat.le_of_ble_eq_true rfl, Nat.le_of_ble_eq_true rfl⟩) ⟨k_blind, kw.recv hK hW.1.1 (t := 0) (i := 0) rfl rfl rfl, k_pre (P := fun H => CW D cA adx n (AX s.heap.size adm) σx H) hW.1 hK⟩ rfl rfl hl.1 rfl (lv_room (Nat.le_of_ble_eq_true rfl)) d_L_law_556 ⟨(show cells + 0 ≤ 600000 by omega), (show slots + 0 ≤ 7302250 by omega)⟩) hW hS (fun H locs hW hS => ?_)
  refine lv_aload_n hx hb d_L_law_559 rfl (lv_at hl 2 rfl) ?_
  refine lv_aload_n hx hb d_L_law_560 rfl (lv_at hl 0 rfl) ?_
  refine lv_iload_n hx hb d_L_law_561 rfl (lv_at hl 3 rfl) ?_
  refine lv_iconst (v := 1) hx hb d_L_law_562 (by decide) ?_
  refine lv_iadd hx hb d_L_law_563 ?_
  refine va_sld (A := fun q => s.heap.size ≤ q) hx hb hX hbl (by omega) hS (show vp_in (nI i + nI 1) L from lw_ix hi hL (by omega)) d_L_law_564 ?_
  refine W.eq (g2 := F0 m 565 ls [_, .ref (adm 0 0), _]) (by rw [ham]) ?_
  refine lm_i (σm := σm) (va_runV (C := "GridlockDeskModel") (As := [.int _]) (rest := [.int r]) ⟨hx, hb, hml, hown, hts⟩ (m_M_tick l D cA adm 0 (PM adm) σm _ (r, σm') h2) (cwV 1 hts (lb_V tw_486 tw_487 tw_488 tw_35 tw_489) rfl rfl rfl (by decide +kernel) ⟨Nat.le_of_ble_eq_true rfl, Nat.le_of_ble_eq_true rfl⟩) ⟨k_blind, kw.recv hK hW.2.1.1 (t := 0) (i := 0) rfl rfl rfl, k_pre (P := fun H => MW D cA adm 0 (PM adm) σm H) hW.2.1 hK⟩ rfl rfl hl.1 rfl (lv_room (Nat.le_of_ble_eq_true rfl)) d_L_law_565 ⟨(show cells + 0 ≤ 600000 by omega), (show slots + 0 ≤ 7302250 by omega)⟩) hW hS (fun H locs hW hS => ?_)
  refine lv_icmp_eq (tgt := 750) hx hb d_L_law_568 rfl (fun _ => ?_) (fun hc => absurd rfl hc)
  refine W.widen (k := cells + 1) (n := slots + 7) (by omega) (by omega) ?_
  exact hnext adx σx' σm' H locs hax hR' hW hS
set_option maxHeartbeats 4000000 in
set_option maxRecDepth 100000 in
theorem lw_close {p : Program} {l : Launch} {e : Env} {s : State} {m : MethodId} {below : List Frame} {meth : Method} {c : Code} {Q : State → Prop} {Rel : Nat → Nat → St → St → Prop} (D : va_G) (cA : Nat → ClassId) (adx adm : Nat → Nat → Nat) (n b L : Nat) (xs : Nat → Int32) (hL : L ≤ 3585) (hx : p.tables.exec = Jvm.exec) (hb : c.code = code) (hml : c.maxLocals = 4) (hts : ∀ w ∈ lw_tbl, w.before #[Value.ref b] s = true) (hown : s.vm.findClass "GridlockDeskLaw" = some m.cls) (hX : va_X b L xs s s.heap) (hbl : b < s.heap.size) (hK : va_K D vCl (atys cA) s) (hPO : PO_close Rel) (i cN cells slots : Nat) (hi : i + 7 ≤ L) (hcN : cN < 512) (hcs : cells + 1 ≤ 600000 ∧ slots + 7 ≤ 7302250) (ax am : Nat) (σx σm : St) (H : Heap) (locs : List Loc) (ls : Array Slot) (hl : lv_has ls 4 [(0, .ref b), (1, .ref ax), (2, .ref am), (3, .int (nI i))]) (hax : adx 0 0 = ax) (ham : adm 0 0 = am) (hR : Rel cN n σx σm) (hW : LWd D cA s.heap.size adx adm n σx σm H) (hS : va_S (fun q => s.heap.size ≤ q) s.heap H locs) (hnext : ∀ (adx' : Nat → Nat → Nat) (σx' σm' : St) (H' : Heap) (locs' : List Loc), adx' 0 0 = ax → Rel (cN + 1) n σx' σm' → LWd D cA s.heap.size adx' adm n σx' σm' H' → va_S (fun q => s.heap.size ≤ q) s.heap H' locs' → W p l e room_1 s m #[Value.ref b] below meth c H' locs' (cells + 1) (slots + 7) Q (F0 m 750 ls [])) : W p l e room_1 s m #[Value.ref b] below meth c H locs cells slots Q (F0 m 573 ls []) := by
  have ht : ∀ w ∈ TB, w.before #[Value.ref b] s = true := fun w h => hts w (lb_in h)
  refine lv_aload_n hx hb d_L_law_573 rfl (lv_at hl 1 rfl) ?_
  obtain ⟨r, σx', σm', h1, h2, hR'⟩ := hPO cN n σx σm hcN hR
  refine W.eq (g2 := F0 m 574 ls [.ref (adx 0 0)]) (by rw [hax]) ?_
  refine lx_i (σx := σx) (va_runV (C := "GridlockDesk") (As := []) (rest := []) ⟨hx, hb, hml, hown, hts⟩ (m_X_close l D cA adx n (AX s.heap.size adm) σx  (r, σx') h1) (cwV 0 hts (lb_V tw_282 tw_283 tw_284 tw_31 tw_285) rfl rfl rfl (by decide +kernel) ⟨Nat.le_of_ble_eq_true rfl, Nat.le_of_ble_eq_true rfl⟩) ⟨k_blind, kw.recv hK hW.1.1 (t := 0) (i := 0) rfl rfl rfl, k_pre (P := fun H => CW D cA adx n (AX s.heap.size adm) σx H) hW.1 hK⟩ rfl rfl hl.1 rfl (lv_room (Nat.le_of_ble_eq_true rfl)) d_L_law_574 ⟨(show cells + 0 ≤ 600000 by omega), (show slots + 0 ≤ 7302250 by omega)⟩) hW hS (fun H locs hW hS => ?_)
  refine lv_aload_n hx hb d_L_law_577 rfl (lv_at hl 2 rfl) ?_
  refine W.eq (g2 := F0 m 578 ls [.ref (adm 0 0), _]) (by rw [ham]) ?_
  refine lm_i (σm := σm) (va_runV (C := "GridlockDeskModel") (As := []) (rest := [.int r]) ⟨hx, hb, hml, hown, hts⟩ (m_M_close l D cA adm 0 (PM adm) σm  (r, σm') h2) (cwV 0 hts (lb_V tw_490 tw_491 tw_492 tw_35 tw_493) rfl rfl rfl (by decide +kernel) ⟨Nat.le_of_ble_eq_true rfl, Nat.le_of_ble_eq_true rfl⟩) ⟨k_blind, kw.recv hK hW.2.1.1 (t := 0) (i := 0) rfl rfl rfl, k_pre (P := fun H => MW D cA adm 0 (PM adm) σm H) hW.2.1 hK⟩ rfl rfl hl.1 rfl (lv_room (Nat.le_of_ble_eq_true rfl)) d_L_law_578 ⟨(show cells + 0 ≤ 600000 by omega), (show slots + 0 ≤ 7302250 by omega)⟩) hW hS (fun H locs hW hS => ?_)
  refine lv_icmp_eq (tgt := 750) hx hb d_L_law_581 rfl (fun _ => ?_) (fun hc => absurd rfl hc)
  refine W.widen (k := cells + 1) (n := slots + 7) (by omega) (by omega) ?_
  exact hnext adx σx' σm' H locs hax hR' hW hS
set_option maxHeartbeats 4000000 in
set_option maxRecDepth 100000 in
theorem lw_balance {p : Program} {l : Launch} {e : Env} {s : State} {m : MethodId} {below : List Frame} {meth : Method} {c : Code} {Q : State → Prop} {Rel : Nat → Nat → St → St → Prop} (D : va_G) (cA : Nat → ClassId) (adx adm : Nat → Nat → Nat) (n b L : Nat) (xs : Nat → Int32) (hL : L ≤ 3585) (hx : p.tables.exec = Jvm.exec) (hb : c.code = code) (hml : c.maxLocals = 4) (hts : ∀ w ∈ lw_tbl, w.before #[Value.ref b] s = true) (hown : s.vm.findClass "GridlockDeskLaw" = some m.cls) (hX : va_X b L xs s s.heap) (hbl : b < s.heap.size) (hK : va_K D vCl (atys cA) s) (hPO : PO_balance Rel) (i cN cells slots : Nat) (hi : i + 7 ≤ L) (hcN : cN < 512) (hcs : cells + 1 ≤ 600000 ∧ slots + 7 ≤ 7302250) (ax am : Nat) (σx σm : St) (H : Heap) (locs : List Loc) (ls : Array Slot) (hl : lv_has ls 4 [(0, .ref b), (1, .ref ax), (2, .ref am), (3, .int (nI i))]) (hax : adx 0 0 = ax) (ham : adm 0 0 = am) (hR : Rel cN n σx σm) (hW : LWd D cA s.heap.size adx adm n σx σm H) (hS : va_S (fun q => s.heap.size ≤ q) s.heap H locs) (hnext : ∀ (adx' : Nat → Nat → Nat) (σx' σm' : St) (H' : Heap) (locs' : List Loc), adx' 0 0 = ax → Rel (cN + 1) n σx' σm' → LWd D cA s.heap.size adx' adm n σx' σm' H' → va_S (fun q => s.heap.size ≤ q) s.heap H' locs' → W p l e room_1 s m #[Value.ref b] below meth c H' locs' (cells + 1) (slots + 7) Q (F0 m 750 ls [])) : W p l e room_1 s m #[Value.ref b] below meth c H locs cells slots Q (F0 m 586 ls []) := by
  have ht : ∀ w ∈ TB, w.before #[Value.ref b] s = true := fun w h => hts w (lb_in h)
  refine lv_aload_n hx hb d_L_law_586 rfl (lv_at hl 1 rfl) ?_
  refine lv_aload_n hx hb d_L_law_587 rfl (lv_at hl 0 rfl) ?_
  refine lv_iload_n hx hb d_L_law_588 rfl (lv_at hl 3 rfl) ?_
  refine lv_iconst (v := 1) hx hb d_L_law_589 (by decide) ?_
  refine lv_iadd hx hb d_L_law_590 ?_
  refine va_sld (A := fun q => s.heap.size ≤ q) hx hb hX hbl (by omega) hS (show vp_in (nI i + nI 1) L from lw_ix hi hL (by omega)) d_L_law_591 ?_
  obtain ⟨r, σx', σm', h1, h2, hR'⟩ := hPO cN n σx σm (xs (Int32.toNatClampNeg (nI i + 1))) hcN hR
  refine W.eq (g2 := F0 m 592 ls [_, .ref (adx 0 0)]) (by rw [hax]) ?_
  refine lx_l (σx := σx) (va_runV (C := "GridlockDesk") (As := [.int _]) (rest := []) ⟨hx, hb, hml, hown, hts⟩ (m_X_balance l D cA adx n (AX s.heap.size adm) σx _ (r, σx') h1) (cwV 1 hts (lb_V tw_287 tw_288 tw_289 tw_31 tw_290) rfl rfl rfl (by decide +kernel) ⟨Nat.le_of_ble_eq_true rfl, Nat.le_of_ble_eq_true rfl⟩) ⟨k_blind, kw.recv hK hW.1.1 (t := 0) (i := 0) rfl rfl rfl, k_pre (P := fun H => CW D cA adx n (AX s.heap.size adm) σx H) hW.1 hK⟩ rfl rfl hl.1 rfl (lv_room (Nat.le_of_ble_eq_true rfl)) d_L_law_592 ⟨(show cells + 0 ≤ 600000 by omega), (show slots + 0 ≤ 7302250 by omega)⟩) hW hS (fun H locs hW hS => ?_)
  refine lv_aload_n hx hb d_L_law_595 rfl (lv_at hl 2 rfl) ?_
  refine lv_aload_n hx hb d_L_law_596 rfl (lv_at hl 0 rfl) ?_
  refine lv_iload_n hx hb d_L_law_597 rfl (lv_at hl 3 rfl) ?_
  refine lv_iconst (v := 1) hx hb d_L_law_598 (by decide) ?_
  refine lv_iadd hx hb d_L_law_599 ?_
  refine va_sld (A := fun q => s.heap.size ≤ q) hx hb hX hbl (by omega) hS (show vp_in (nI i + nI 1) L from lw_ix hi hL (by omega)) d_L_law_600 ?_
  refine W.eq (g2 := F0 m 601 ls [_, .ref (adm 0 0), _]) (by rw [ham]) ?_
  refine lm_l (σm := σm) (va_runV (C := "GridlockDeskModel") (As := [.int _]) (rest := [.long r]) ⟨hx, hb, hml, hown, hts⟩ (m_M_balance l D cA adm 0 (PM adm) σm _ (r, σm') h2) (cwV 1 hts (lb_V tw_494 tw_495 tw_496 tw_35 tw_497) rfl rfl rfl (by decide +kernel) ⟨Nat.le_of_ble_eq_true rfl, Nat.le_of_ble_eq_true rfl⟩) ⟨k_blind, kw.recv hK hW.2.1.1 (t := 0) (i := 0) rfl rfl rfl, k_pre (P := fun H => MW D cA adm 0 (PM adm) σm H) hW.2.1 hK⟩ rfl rfl hl.1 rfl (lv_room (Nat.le_of_ble_eq_true rfl)) d_L_law_601 ⟨(show cells + 0 ≤ 600000 by omega), (show slots + 0 ≤ 7302250 by omega)⟩) hW hS (fun H locs hW hS => ?_)
  refine lc_eq (tgt := 750) hx hb d_L_law_604 d_L_law_605 rfl (fun _ => ?_) (fun hc => absurd rfl hc)
  refine W.widen (k := cells + 1) (n := slots + 7) (by omega) (by omega) ?_
  exact hnext adx σx' σm' H locs hax hR' hW hS
set_option maxHeartbeats 4000000 in
set_option maxRecDepth 100000 in
theorem lw_position {p : Program} {l : Launch} {e : Env} {s : State} {m : MethodId} {below : List Frame} {meth : Method} {c : Code} {Q : State → Prop} {Rel : Nat → Nat → St → St → Prop} (D : va_G) (cA : Nat → ClassId) (adx adm : Nat → Nat → Nat) (n b L : Nat) (xs : Nat → Int32) (hL : L ≤ 3585) (hx : p.tables.exec = Jvm.exec) (hb : c.code = code) (hml : c.maxLocals = 4) (hts : ∀ w ∈ lw_tbl, w.before #[Value.ref b] s = true) (hown : s.vm.findClass "GridlockDeskLaw" = some m.cls) (hX : va_X b L xs s s.heap) (hbl : b < s.heap.size) (hK : va_K D vCl (atys cA) s) (hPO : PO_position Rel) (i cN cells slots : Nat) (hi : i + 7 ≤ L) (hcN : cN < 512) (hcs : cells + 1 ≤ 600000 ∧ slots + 7 ≤ 7302250) (ax am : Nat) (σx σm : St) (H : Heap) (locs : List Loc) (ls : Array Slot) (hl : lv_has ls 4 [(0, .ref b), (1, .ref ax), (2, .ref am), (3, .int (nI i))]) (hax : adx 0 0 = ax) (ham : adm 0 0 = am) (hR : Rel cN n σx σm) (hW : LWd D cA s.heap.size adx adm n σx σm H) (hS : va_S (fun q => s.heap.size ≤ q) s.heap H locs) (hnext : ∀ (adx' : Nat → Nat → Nat) (σx' σm' : St) (H' : Heap) (locs' : List Loc), adx' 0 0 = ax → Rel (cN + 1) n σx' σm' → LWd D cA s.heap.size adx' adm n σx' σm' H' → va_S (fun q => s.heap.size ≤ q) s.heap H' locs' → W p l e room_1 s m #[Value.ref b] below meth c H' locs' (cells + 1) (slots + 7) Q (F0 m 750 ls [])) : W p l e room_1 s m #[Value.ref b] below meth c H locs cells slots Q (F0 m 610 ls []) := by
  have ht : ∀ w ∈ TB, w.before #[Value.ref b] s = true := fun w h => hts w (lb_in h)
  refine lv_aload_n hx hb d_L_law_610 rfl (lv_at hl 1 rfl) ?_
  refine lv_aload_n hx hb d_L_law_611 rfl (lv_at hl 0 rfl) ?_
  refine lv_iload_n hx hb d_L_law_612 rfl (lv_at hl 3 rfl) ?_
  refine lv_iconst (v := 1) hx hb d_L_law_613 (by decide) ?_
  refine lv_iadd hx hb d_L_law_614 ?_
  refine va_sld (A := fun q => s.heap.size ≤ q) hx hb hX hbl (by omega) hS (show vp_in (nI i + nI 1) L from lw_ix hi hL (by omega)) d_L_law_615 ?_
  refine lv_aload_n hx hb d_L_law_616 rfl (lv_at hl 0 rfl) ?_
  refine lv_iload_n hx hb d_L_law_617 rfl (lv_at hl 3 rfl) ?_
  refine lv_iconst (v := 2) hx hb d_L_law_618 (by decide) ?_
  refine lv_iadd hx hb d_L_law_619 ?_
  refine va_sld (A := fun q => s.heap.size ≤ q) hx hb hX hbl (by omega) hS (show vp_in (nI i + nI 2) L from lw_ix hi hL (by omega)) d_L_law_620 ?_
  obtain ⟨r, σx', σm', h1, h2, hR'⟩ := hPO cN n σx σm (xs (Int32.toNatClampNeg (nI i + 1))) (xs (Int32.toNatClampNeg (nI i + 2))) hcN hR
  refine W.eq (g2 := F0 m 621 ls [_, _, .ref (adx 0 0)]) (by rw [hax]) ?_
  refine lx_l (σx := σx) (va_runV (C := "GridlockDesk") (As := [.int _, .int _]) (rest := []) ⟨hx, hb, hml, hown, hts⟩ (m_X_position l D cA adx n (AX s.heap.size adm) σx _ _ (r, σx') h1) (cwV 2 hts (lb_V tw_291 tw_292 tw_293 tw_31 tw_294) rfl rfl rfl (by decide +kernel) ⟨Nat.le_of_ble_eq_true rfl, Nat.le_of_ble_eq_true rfl⟩) ⟨k_blind, kw.recv hK hW.1.1 (t := 0) (i := 0) rfl rfl rfl, k_pre (P := fun H => CW D cA adx n (AX s.heap.size adm) σx H) hW.1 hK⟩ rfl rfl hl.1 rfl (lv_room (Nat.le_of_ble_eq_true rfl)) d_L_law_621 ⟨(show cells + 0 ≤ 600000 by omega), (show slots + 0 ≤ 7302250 by omega)⟩) hW hS (fun H locs hW hS => ?_)
  refine lv_aload_n hx hb d_L_law_624 rfl (lv_at hl 2 rfl) ?_
  refine lv_aload_n hx hb d_L_law_625 rfl (lv_at hl 0 rfl) ?_
  refine lv_iload_n hx hb d_L_law_626 rfl (lv_at hl 3 rfl) ?_
  refine lv_iconst (v := 1) hx hb d_L_law_627 (by decide) ?_
  refine lv_iadd hx hb d_L_law_628 ?_
  refine va_sld (A := fun q => s.heap.size ≤ q) hx hb hX hbl (by omega) hS (show vp_in (nI i + nI 1) L from lw_ix hi hL (by omega)) d_L_law_629 ?_
  refine lv_aload_n hx hb d_L_law_630 rfl (lv_at hl 0 rfl) ?_
  refine lv_iload_n hx hb d_L_law_631 rfl (lv_at hl 3 rfl) ?_
  refine lv_iconst (v := 2) hx hb d_L_law_632 (by decide) ?_
  refine lv_iadd hx hb d_L_law_633 ?_
  refine va_sld (A := fun q => s.heap.size ≤ q) hx hb hX hbl (by omega) hS (show vp_in (nI i + nI 2) L from lw_ix hi hL (by omega)) d_L_law_634 ?_
  refine W.eq (g2 := F0 m 635 ls [_, _, .ref (adm 0 0), _]) (by rw [ham]) ?_
  refine lm_l (σm := σm) (va_runV (C := "GridlockDeskModel") (As := [.int _, .int _]) (rest := [.long r]) ⟨hx, hb, hml, hown, hts⟩ (m_M_position l D cA adm 0 (PM adm) σm _ _ (r, σm') h2) (cwV 2 hts (lb_V tw_498 tw_499 tw_500 tw_35 tw_501) rfl rfl rfl (by decide +kernel) ⟨Nat.le_of_ble_eq_true rfl, Nat.le_of_ble_eq_true rfl⟩) ⟨k_blind, kw.recv hK hW.2.1.1 (t := 0) (i := 0) rfl rfl rfl, k_pre (P := fun H => MW D cA adm 0 (PM adm) σm H) hW.2.1 hK⟩ rfl rfl hl.1 rfl (lv_room (Nat.le_of_ble_eq_true rfl)) d_L_law_635 ⟨(show cells + 0 ≤ 600000 by omega), (show slots + 0 ≤ 7302250 by omega)⟩) hW hS (fun H locs hW hS => ?_)
  refine lc_eq (tgt := 750) hx hb d_L_law_638 d_L_law_639 rfl (fun _ => ?_) (fun hc => absurd rfl hc)
  refine W.widen (k := cells + 1) (n := slots + 7) (by omega) (by omega) ?_
  exact hnext adx σx' σm' H locs hax hR' hW hS
set_option maxHeartbeats 4000000 in
set_option maxRecDepth 100000 in
theorem lw_waiting {p : Program} {l : Launch} {e : Env} {s : State} {m : MethodId} {below : List Frame} {meth : Method} {c : Code} {Q : State → Prop} {Rel : Nat → Nat → St → St → Prop} (D : va_G) (cA : Nat → ClassId) (adx adm : Nat → Nat → Nat) (n b L : Nat) (xs : Nat → Int32) (hL : L ≤ 3585) (hx : p.tables.exec = Jvm.exec) (hb : c.code = code) (hml : c.maxLocals = 4) (hts : ∀ w ∈ lw_tbl, w.before #[Value.ref b] s = true) (hown : s.vm.findClass "GridlockDeskLaw" = some m.cls) (hX : va_X b L xs s s.heap) (hbl : b < s.heap.size) (hK : va_K D vCl (atys cA) s) (hPO : PO_waiting Rel) (i cN cells slots : Nat) (hi : i + 7 ≤ L) (hcN : cN < 512) (hcs : cells + 1 ≤ 600000 ∧ slots + 7 ≤ 7302250) (ax am : Nat) (σx σm : St) (H : Heap) (locs : List Loc) (ls : Array Slot) (hl : lv_has ls 4 [(0, .ref b), (1, .ref ax), (2, .ref am), (3, .int (nI i))]) (hax : adx 0 0 = ax) (ham : adm 0 0 = am) (hR : Rel cN n σx σm) (hW : LWd D cA s.heap.size adx adm n σx σm H) (hS : va_S (fun q => s.heap.size ≤ q) s.heap H locs) (hnext : ∀ (adx' : Nat → Nat → Nat) (σx' σm' : St) (H' : Heap) (locs' : List Loc), adx' 0 0 = ax → Rel (cN + 1) n σx' σm' → LWd D cA s.heap.size adx' adm n σx' σm' H' → va_S (fun q => s.heap.size ≤ q) s.heap H' locs' → W p l e room_1 s m #[Value.ref b] below meth c H' locs' (cells + 1) (slots + 7) Q (F0 m 750 ls [])) : W p l e room_1 s m #[Value.ref b] below meth c H locs cells slots Q (F0 m 644 ls []) := by
  have ht : ∀ w ∈ TB, w.before #[Value.ref b] s = true := fun w h => hts w (lb_in h)
  refine lv_aload_n hx hb d_L_law_644 rfl (lv_at hl 1 rfl) ?_
  refine lv_aload_n hx hb d_L_law_645 rfl (lv_at hl 0 rfl) ?_
  refine lv_iload_n hx hb d_L_law_646 rfl (lv_at hl 3 rfl) ?_
  refine lv_iconst (v := 1) hx hb d_L_law_647 (by decide) ?_
  refine lv_iadd hx hb d_L_law_648 ?_
  refine va_sld (A := fun q => s.heap.size ≤ q) hx hb hX hbl (by omega) hS (show vp_in (nI i + nI 1) L from lw_ix hi hL (by omega)) d_L_law_649 ?_
  obtain ⟨r, σx', σm', h1, h2, hR'⟩ := hPO cN n σx σm (xs (Int32.toNatClampNeg (nI i + 1))) hcN hR
  refine W.eq (g2 := F0 m 650 ls [_, .ref (adx 0 0)]) (by rw [hax]) ?_
  refine lx_i (σx := σx) (va_runV (C := "GridlockDesk") (As := [.int _]) (rest := []) ⟨hx, hb, hml, hown, hts⟩ (m_X_waiting l D cA adx n (AX s.heap.size adm) σx _ (r, σx') h1) (cwV 1 hts (lb_V tw_295 tw_296 tw_297 tw_31 tw_298) rfl rfl rfl (by decide +kernel) ⟨Nat.le_of_ble_eq_true rfl, Nat.le_of_ble_eq_true rfl⟩) ⟨k_blind, kw.recv hK hW.1.1 (t := 0) (i := 0) rfl rfl rfl, k_pre (P := fun H => CW D cA adx n (AX s.heap.size adm) σx H) hW.1 hK⟩ rfl rfl hl.1 rfl (lv_room (Nat.le_of_ble_eq_true rfl)) d_L_law_650 ⟨(show cells + 0 ≤ 600000 by omega), (show slots + 0 ≤ 7302250 by omega)⟩) hW hS (fun H locs hW hS => ?_)
  refine lv_aload_n hx hb d_L_law_653 rfl (lv_at hl 2 rfl) ?_
  refine lv_aload_n hx hb d_L_law_654 rfl (lv_at hl 0 rfl) ?_
  refine lv_iload_n hx hb d_L_law_655 rfl (lv_at hl 3 rfl) ?_
  refine lv_iconst (v := 1) hx hb d_L_law_656 (by decide) ?_
  refine lv_iadd hx hb d_L_law_657 ?_
  refine va_sld (A := fun q => s.heap.size ≤ q) hx hb hX hbl (by omega) hS (show vp_in (nI i + nI 1) L from lw_ix hi hL (by omega)) d_L_law_658 ?_
  refine W.eq (g2 := F0 m 659 ls [_, .ref (adm 0 0), _]) (by rw [ham]) ?_
  refine lm_i (σm := σm) (va_runV (C := "GridlockDeskModel") (As := [.int _]) (rest := [.int r]) ⟨hx, hb, hml, hown, hts⟩ (m_M_waiting l D cA adm 0 (PM adm) σm _ (r, σm') h2) (cwV 1 hts (lb_V tw_502 tw_503 tw_504 tw_35 tw_505) rfl rfl rfl (by decide +kernel) ⟨Nat.le_of_ble_eq_true rfl, Nat.le_of_ble_eq_true rfl⟩) ⟨k_blind, kw.recv hK hW.2.1.1 (t := 0) (i := 0) rfl rfl rfl, k_pre (P := fun H => MW D cA adm 0 (PM adm) σm H) hW.2.1 hK⟩ rfl rfl hl.1 rfl (lv_room (Nat.le_of_ble_eq_true rfl)) d_L_law_659 ⟨(show cells + 0 ≤ 600000 by omega), (show slots + 0 ≤ 7302250 by omega)⟩) hW hS (fun H locs hW hS => ?_)
  refine lv_icmp_eq (tgt := 750) hx hb d_L_law_662 rfl (fun _ => ?_) (fun hc => absurd rfl hc)
  refine W.widen (k := cells + 1) (n := slots + 7) (by omega) (by omega) ?_
  exact hnext adx σx' σm' H locs hax hR' hW hS
set_option maxHeartbeats 4000000 in
set_option maxRecDepth 100000 in
theorem lw_queued {p : Program} {l : Launch} {e : Env} {s : State} {m : MethodId} {below : List Frame} {meth : Method} {c : Code} {Q : State → Prop} {Rel : Nat → Nat → St → St → Prop} (D : va_G) (cA : Nat → ClassId) (adx adm : Nat → Nat → Nat) (n b L : Nat) (xs : Nat → Int32) (hL : L ≤ 3585) (hx : p.tables.exec = Jvm.exec) (hb : c.code = code) (hml : c.maxLocals = 4) (hts : ∀ w ∈ lw_tbl, w.before #[Value.ref b] s = true) (hown : s.vm.findClass "GridlockDeskLaw" = some m.cls) (hX : va_X b L xs s s.heap) (hbl : b < s.heap.size) (hK : va_K D vCl (atys cA) s) (hPO : PO_queued Rel) (i cN cells slots : Nat) (hi : i + 7 ≤ L) (hcN : cN < 512) (hcs : cells + 1 ≤ 600000 ∧ slots + 7 ≤ 7302250) (ax am : Nat) (σx σm : St) (H : Heap) (locs : List Loc) (ls : Array Slot) (hl : lv_has ls 4 [(0, .ref b), (1, .ref ax), (2, .ref am), (3, .int (nI i))]) (hax : adx 0 0 = ax) (ham : adm 0 0 = am) (hR : Rel cN n σx σm) (hW : LWd D cA s.heap.size adx adm n σx σm H) (hS : va_S (fun q => s.heap.size ≤ q) s.heap H locs) (hnext : ∀ (adx' : Nat → Nat → Nat) (σx' σm' : St) (H' : Heap) (locs' : List Loc), adx' 0 0 = ax → Rel (cN + 1) n σx' σm' → LWd D cA s.heap.size adx' adm n σx' σm' H' → va_S (fun q => s.heap.size ≤ q) s.heap H' locs' → W p l e room_1 s m #[Value.ref b] below meth c H' locs' (cells + 1) (slots + 7) Q (F0 m 750 ls [])) : W p l e room_1 s m #[Value.ref b] below meth c H locs cells slots Q (F0 m 667 ls []) := by
  have ht : ∀ w ∈ TB, w.before #[Value.ref b] s = true := fun w h => hts w (lb_in h)
  refine lv_aload_n hx hb d_L_law_667 rfl (lv_at hl 1 rfl) ?_
  refine lv_aload_n hx hb d_L_law_668 rfl (lv_at hl 0 rfl) ?_
  refine lv_iload_n hx hb d_L_law_669 rfl (lv_at hl 3 rfl) ?_
  refine lv_iconst (v := 1) hx hb d_L_law_670 (by decide) ?_
  refine lv_iadd hx hb d_L_law_671 ?_
  refine va_sld (A := fun q => s.heap.size ≤ q) hx hb hX hbl (by omega) hS (show vp_in (nI i + nI 1) L from lw_ix hi hL (by omega)) d_L_law_672 ?_
  refine lv_aload_n hx hb d_L_law_673 rfl (lv_at hl 0 rfl) ?_
  refine lv_iload_n hx hb d_L_law_674 rfl (lv_at hl 3 rfl) ?_
  refine lv_iconst (v := 2) hx hb d_L_law_675 (by decide) ?_
  refine lv_iadd hx hb d_L_law_676 ?_
  refine va_sld (A := fun q => s.heap.size ≤ q) hx hb hX hbl (by omega) hS (show vp_in (nI i + nI 2) L from lw_ix hi hL (by omega)) d_L_law_677 ?_
  obtain ⟨r, σx', σm', h1, h2, hR'⟩ := hPO cN n σx σm (xs (Int32.toNatClampNeg (nI i + 1))) (xs (Int32.toNatClampNeg (nI i + 2))) hcN hR
  refine W.eq (g2 := F0 m 678 ls [_, _, .ref (adx 0 0)]) (by rw [hax]) ?_
  refine lx_i (σx := σx) (va_runV (C := "GridlockDesk") (As := [.int _, .int _]) (rest := []) ⟨hx, hb, hml, hown, hts⟩ (m_X_queued l D cA adx n (AX s.heap.size adm) σx _ _ (r, σx') h1) (cwV 2 hts (lb_V tw_299 tw_300 tw_301 tw_31 tw_302) rfl rfl rfl (by decide +kernel) ⟨Nat.le_of_ble_eq_true rfl, Nat.le_of_ble_eq_true rfl⟩) ⟨k_blind, kw.recv hK hW.1.1 (t := 0) (i := 0) rfl rfl rfl, k_pre (P := fun H => CW D cA adx n (AX s.heap.size adm) σx H) hW.1 hK⟩ rfl rfl hl.1 rfl (lv_room (Nat.le_of_ble_eq_true rfl)) d_L_law_678 ⟨(show cells + 0 ≤ 600000 by omega), (show slots + 0 ≤ 7302250 by omega)⟩) hW hS (fun H locs hW hS => ?_)
  refine lv_aload_n hx hb d_L_law_681 rfl (lv_at hl 2 rfl) ?_
  refine lv_aload_n hx hb d_L_law_682 rfl (lv_at hl 0 rfl) ?_
  refine lv_iload_n hx hb d_L_law_683 rfl (lv_at hl 3 rfl) ?_
  refine lv_iconst (v := 1) hx hb d_L_law_684 (by decide) ?_
  refine lv_iadd hx hb d_L_law_685 ?_
  refine va_sld (A := fun q => s.heap.size ≤ q) hx hb hX hbl (by omega) hS (show vp_in (nI i + nI 1) L from lw_ix hi hL (by omega)) d_L_law_686 ?_
  refine lv_aload_n hx hb d_L_law_687 rfl (lv_at hl 0 rfl) ?_
  refine lv_iload_n hx hb d_L_law_688 rfl (lv_at hl 3 rfl) ?_
  refine lv_iconst (v := 2) hx hb d_L_law_689 (by decide) ?_
  refine lv_iadd hx hb d_L_law_690 ?_
  refine va_sld (A := fun q => s.heap.size ≤ q) hx hb hX hbl (by omega) hS (show vp_in (nI i + nI 2) L from lw_ix hi hL (by omega)) d_L_law_691 ?_
  refine W.eq (g2 := F0 m 692 ls [_, _, .ref (adm 0 0), _]) (by rw [ham]) ?_
  refine lm_i (σm := σm) (va_runV (C := "GridlockDeskModel") (As := [.int _, .int _]) (rest := [.int r]) ⟨hx, hb, hml, hown, hts⟩ (m_M_queued l D cA adm 0 (PM adm) σm _ _ (r, σm') h2) (cwV 2 hts (lb_V tw_506 tw_507 tw_508 tw_35 tw_509) rfl rfl rfl (by decide +kernel) ⟨Nat.le_of_ble_eq_true rfl, Nat.le_of_ble_eq_true rfl⟩) ⟨k_blind, kw.recv hK hW.2.1.1 (t := 0) (i := 0) rfl rfl rfl, k_pre (P := fun H => MW D cA adm 0 (PM adm) σm H) hW.2.1 hK⟩ rfl rfl hl.1 rfl (lv_room (Nat.le_of_ble_eq_true rfl)) d_L_law_692 ⟨(show cells + 0 ≤ 600000 by omega), (show slots + 0 ≤ 7302250 by omega)⟩) hW hS (fun H locs hW hS => ?_)
  refine lv_icmp_eq (tgt := 750) hx hb d_L_law_695 rfl (fun _ => ?_) (fun hc => absurd rfl hc)
  refine W.widen (k := cells + 1) (n := slots + 7) (by omega) (by omega) ?_
  exact hnext adx σx' σm' H locs hax hR' hW hS
set_option maxHeartbeats 4000000 in
set_option maxRecDepth 100000 in
theorem lw_state {p : Program} {l : Launch} {e : Env} {s : State} {m : MethodId} {below : List Frame} {meth : Method} {c : Code} {Q : State → Prop} {Rel : Nat → Nat → St → St → Prop} (D : va_G) (cA : Nat → ClassId) (adx adm : Nat → Nat → Nat) (n b L : Nat) (xs : Nat → Int32) (hL : L ≤ 3585) (hx : p.tables.exec = Jvm.exec) (hb : c.code = code) (hml : c.maxLocals = 4) (hts : ∀ w ∈ lw_tbl, w.before #[Value.ref b] s = true) (hown : s.vm.findClass "GridlockDeskLaw" = some m.cls) (hX : va_X b L xs s s.heap) (hbl : b < s.heap.size) (hK : va_K D vCl (atys cA) s) (hPO : PO_state Rel) (i cN cells slots : Nat) (hi : i + 7 ≤ L) (hcN : cN < 512) (hcs : cells + 1 ≤ 600000 ∧ slots + 7 ≤ 7302250) (ax am : Nat) (σx σm : St) (H : Heap) (locs : List Loc) (ls : Array Slot) (hl : lv_has ls 4 [(0, .ref b), (1, .ref ax), (2, .ref am), (3, .int (nI i))]) (hax : adx 0 0 = ax) (ham : adm 0 0 = am) (hR : Rel cN n σx σm) (hW : LWd D cA s.heap.size adx adm n σx σm H) (hS : va_S (fun q => s.heap.size ≤ q) s.heap H locs) (hnext : ∀ (adx' : Nat → Nat → Nat) (σx' σm' : St) (H' : Heap) (locs' : List Loc), adx' 0 0 = ax → Rel (cN + 1) n σx' σm' → LWd D cA s.heap.size adx' adm n σx' σm' H' → va_S (fun q => s.heap.size ≤ q) s.heap H' locs' → W p l e room_1 s m #[Value.ref b] below meth c H' locs' (cells + 1) (slots + 7) Q (F0 m 750 ls [])) : W p l e room_1 s m #[Value.ref b] below meth c H locs cells slots Q (F0 m 700 ls []) := by
  have ht : ∀ w ∈ TB, w.before #[Value.ref b] s = true := fun w h => hts w (lb_in h)
  refine lv_aload_n hx hb d_L_law_700 rfl (lv_at hl 1 rfl) ?_
  refine lv_aload_n hx hb d_L_law_701 rfl (lv_at hl 0 rfl) ?_
  refine lv_iload_n hx hb d_L_law_702 rfl (lv_at hl 3 rfl) ?_
  refine lv_iconst (v := 1) hx hb d_L_law_703 (by decide) ?_
  refine lv_iadd hx hb d_L_law_704 ?_
  refine va_sld (A := fun q => s.heap.size ≤ q) hx hb hX hbl (by omega) hS (show vp_in (nI i + nI 1) L from lw_ix hi hL (by omega)) d_L_law_705 ?_
  obtain ⟨r, σx', σm', h1, h2, hR'⟩ := hPO cN n σx σm (xs (Int32.toNatClampNeg (nI i + 1))) hcN hR
  refine W.eq (g2 := F0 m 706 ls [_, .ref (adx 0 0)]) (by rw [hax]) ?_
  refine lx_i (σx := σx) (va_runV (C := "GridlockDesk") (As := [.int _]) (rest := []) ⟨hx, hb, hml, hown, hts⟩ (m_X_state l D cA adx n (AX s.heap.size adm) σx _ (r, σx') h1) (cwV 1 hts (lb_V tw_303 tw_304 tw_305 tw_31 tw_306) rfl rfl rfl (by decide +kernel) ⟨Nat.le_of_ble_eq_true rfl, Nat.le_of_ble_eq_true rfl⟩) ⟨k_blind, kw.recv hK hW.1.1 (t := 0) (i := 0) rfl rfl rfl, k_pre (P := fun H => CW D cA adx n (AX s.heap.size adm) σx H) hW.1 hK⟩ rfl rfl hl.1 rfl (lv_room (Nat.le_of_ble_eq_true rfl)) d_L_law_706 ⟨(show cells + 0 ≤ 600000 by omega), (show slots + 0 ≤ 7302250 by omega)⟩) hW hS (fun H locs hW hS => ?_)
  refine lv_aload_n hx hb d_L_law_709 rfl (lv_at hl 2 rfl) ?_
  refine lv_aload_n hx hb d_L_law_710 rfl (lv_at hl 0 rfl) ?_
  refine lv_iload_n hx hb d_L_law_711 rfl (lv_at hl 3 rfl) ?_
  refine lv_iconst (v := 1) hx hb d_L_law_712 (by decide) ?_
  refine lv_iadd hx hb d_L_law_713 ?_
  refine va_sld (A := fun q => s.heap.size ≤ q) hx hb hX hbl (by omega) hS (show vp_in (nI i + nI 1) L from lw_ix hi hL (by omega)) d_L_law_714 ?_
  refine W.eq (g2 := F0 m 715 ls [_, .ref (adm 0 0), _]) (by rw [ham]) ?_
  refine lm_i (σm := σm) (va_runV (C := "GridlockDeskModel") (As := [.int _]) (rest := [.int r]) ⟨hx, hb, hml, hown, hts⟩ (m_M_state l D cA adm 0 (PM adm) σm _ (r, σm') h2) (cwV 1 hts (lb_V tw_510 tw_511 tw_512 tw_35 tw_513) rfl rfl rfl (by decide +kernel) ⟨Nat.le_of_ble_eq_true rfl, Nat.le_of_ble_eq_true rfl⟩) ⟨k_blind, kw.recv hK hW.2.1.1 (t := 0) (i := 0) rfl rfl rfl, k_pre (P := fun H => MW D cA adm 0 (PM adm) σm H) hW.2.1 hK⟩ rfl rfl hl.1 rfl (lv_room (Nat.le_of_ble_eq_true rfl)) d_L_law_715 ⟨(show cells + 0 ≤ 600000 by omega), (show slots + 0 ≤ 7302250 by omega)⟩) hW hS (fun H locs hW hS => ?_)
  refine lv_icmp_eq (tgt := 750) hx hb d_L_law_718 rfl (fun _ => ?_) (fun hc => absurd rfl hc)
  refine W.widen (k := cells + 1) (n := slots + 7) (by omega) (by omega) ?_
  exact hnext adx σx' σm' H locs hax hR' hW hS
set_option maxHeartbeats 4000000 in
set_option maxRecDepth 100000 in
theorem lw_turnover {p : Program} {l : Launch} {e : Env} {s : State} {m : MethodId} {below : List Frame} {meth : Method} {c : Code} {Q : State → Prop} {Rel : Nat → Nat → St → St → Prop} (D : va_G) (cA : Nat → ClassId) (adx adm : Nat → Nat → Nat) (n b L : Nat) (xs : Nat → Int32) (hL : L ≤ 3585) (hx : p.tables.exec = Jvm.exec) (hb : c.code = code) (hml : c.maxLocals = 4) (hts : ∀ w ∈ lw_tbl, w.before #[Value.ref b] s = true) (hown : s.vm.findClass "GridlockDeskLaw" = some m.cls) (hX : va_X b L xs s s.heap) (hbl : b < s.heap.size) (hK : va_K D vCl (atys cA) s) (hPO : PO_turnover Rel) (i cN cells slots : Nat) (hi : i + 7 ≤ L) (hcN : cN < 512) (hcs : cells + 1 ≤ 600000 ∧ slots + 7 ≤ 7302250) (ax am : Nat) (σx σm : St) (H : Heap) (locs : List Loc) (ls : Array Slot) (hl : lv_has ls 4 [(0, .ref b), (1, .ref ax), (2, .ref am), (3, .int (nI i))]) (hax : adx 0 0 = ax) (ham : adm 0 0 = am) (hR : Rel cN n σx σm) (hW : LWd D cA s.heap.size adx adm n σx σm H) (hS : va_S (fun q => s.heap.size ≤ q) s.heap H locs) (hnext : ∀ (adx' : Nat → Nat → Nat) (σx' σm' : St) (H' : Heap) (locs' : List Loc), adx' 0 0 = ax → Rel (cN + 1) n σx' σm' → LWd D cA s.heap.size adx' adm n σx' σm' H' → va_S (fun q => s.heap.size ≤ q) s.heap H' locs' → W p l e room_1 s m #[Value.ref b] below meth c H' locs' (cells + 1) (slots + 7) Q (F0 m 750 ls [])) : W p l e room_1 s m #[Value.ref b] below meth c H locs cells slots Q (F0 m 723 ls []) := by
  have ht : ∀ w ∈ TB, w.before #[Value.ref b] s = true := fun w h => hts w (lb_in h)
  refine lv_aload_n hx hb d_L_law_723 rfl (lv_at hl 1 rfl) ?_
  obtain ⟨r, σx', σm', h1, h2, hR'⟩ := hPO cN n σx σm hcN hR
  refine W.eq (g2 := F0 m 724 ls [.ref (adx 0 0)]) (by rw [hax]) ?_
  refine lx_l (σx := σx) (va_runV (C := "GridlockDesk") (As := []) (rest := []) ⟨hx, hb, hml, hown, hts⟩ (m_X_turnover l D cA adx n (AX s.heap.size adm) σx  (r, σx') h1) (cwV 0 hts (lb_V tw_307 tw_308 tw_309 tw_31 tw_310) rfl rfl rfl (by decide +kernel) ⟨Nat.le_of_ble_eq_true rfl, Nat.le_of_ble_eq_true rfl⟩) ⟨k_blind, kw.recv hK hW.1.1 (t := 0) (i := 0) rfl rfl rfl, k_pre (P := fun H => CW D cA adx n (AX s.heap.size adm) σx H) hW.1 hK⟩ rfl rfl hl.1 rfl (lv_room (Nat.le_of_ble_eq_true rfl)) d_L_law_724 ⟨(show cells + 0 ≤ 600000 by omega), (show slots + 0 ≤ 7302250 by omega)⟩) hW hS (fun H locs hW hS => ?_)
  refine lv_aload_n hx hb d_L_law_727 rfl (lv_at hl 2 rfl) ?_
  refine W.eq (g2 := F0 m 728 ls [.ref (adm 0 0), _]) (by rw [ham]) ?_
  refine lm_l (σm := σm) (va_runV (C := "GridlockDeskModel") (As := []) (rest := [.long r]) ⟨hx, hb, hml, hown, hts⟩ (m_M_turnover l D cA adm 0 (PM adm) σm  (r, σm') h2) (cwV 0 hts (lb_V tw_514 tw_515 tw_516 tw_35 tw_517) rfl rfl rfl (by decide +kernel) ⟨Nat.le_of_ble_eq_true rfl, Nat.le_of_ble_eq_true rfl⟩) ⟨k_blind, kw.recv hK hW.2.1.1 (t := 0) (i := 0) rfl rfl rfl, k_pre (P := fun H => MW D cA adm 0 (PM adm) σm H) hW.2.1 hK⟩ rfl rfl hl.1 rfl (lv_room (Nat.le_of_ble_eq_true rfl)) d_L_law_728 ⟨(show cells + 0 ≤ 600000 by omega), (show slots + 0 ≤ 7302250 by omega)⟩) hW hS (fun H locs hW hS => ?_)
  refine lc_eq (tgt := 750) hx hb d_L_law_731 d_L_law_732 rfl (fun _ => ?_) (fun hc => absurd rfl hc)
  refine W.widen (k := cells + 1) (n := slots + 7) (by omega) (by omega) ?_
  exact hnext adx σx' σm' H locs hax hR' hW hS
set_option maxHeartbeats 4000000 in
set_option maxRecDepth 100000 in
theorem lw_now {p : Program} {l : Launch} {e : Env} {s : State} {m : MethodId} {below : List Frame} {meth : Method} {c : Code} {Q : State → Prop} {Rel : Nat → Nat → St → St → Prop} (D : va_G) (cA : Nat → ClassId) (adx adm : Nat → Nat → Nat) (n b L : Nat) (xs : Nat → Int32) (hL : L ≤ 3585) (hx : p.tables.exec = Jvm.exec) (hb : c.code = code) (hml : c.maxLocals = 4) (hts : ∀ w ∈ lw_tbl, w.before #[Value.ref b] s = true) (hown : s.vm.findClass "GridlockDeskLaw" = some m.cls) (hX : va_X b L xs s s.heap) (hbl : b < s.heap.size) (hK : va_K D vCl (atys cA) s) (hPO : PO_now Rel) (i cN cells slots : Nat) (hi : i + 7 ≤ L) (hcN : cN < 512) (hcs : cells + 1 ≤ 600000 ∧ slots + 7 ≤ 7302250) (ax am : Nat) (σx σm : St) (H : Heap) (locs : List Loc) (ls : Array Slot) (hl : lv_has ls 4 [(0, .ref b), (1, .ref ax), (2, .ref am), (3, .int (nI i))]) (hax : adx 0 0 = ax) (ham : adm 0 0 = am) (hR : Rel cN n σx σm) (hW : LWd D cA s.heap.size adx adm n σx σm H) (hS : va_S (fun q => s.heap.size ≤ q) s.heap H locs) (hnext : ∀ (adx' : Nat → Nat → Nat) (σx' σm' : St) (H' : Heap) (locs' : List Loc), adx' 0 0 = ax → Rel (cN + 1) n σx' σm' → LWd D cA s.heap.size adx' adm n σx' σm' H' → va_S (fun q => s.heap.size ≤ q) s.heap H' locs' → W p l e room_1 s m #[Value.ref b] below meth c H' locs' (cells + 1) (slots + 7) Q (F0 m 750 ls [])) : W p l e room_1 s m #[Value.ref b] below meth c H locs cells slots Q (F0 m 737 ls []) := by
  have ht : ∀ w ∈ TB, w.before #[Value.ref b] s = true := fun w h => hts w (lb_in h)
  refine lv_aload_n hx hb d_L_law_737 rfl (lv_at hl 1 rfl) ?_
  obtain ⟨r, σx', σm', h1, h2, hR'⟩ := hPO cN n σx σm hcN hR
  refine W.eq (g2 := F0 m 738 ls [.ref (adx 0 0)]) (by rw [hax]) ?_
  refine lx_i (σx := σx) (va_runV (C := "GridlockDesk") (As := []) (rest := []) ⟨hx, hb, hml, hown, hts⟩ (m_X_now l D cA adx n (AX s.heap.size adm) σx  (r, σx') h1) (cwV 0 hts (lb_V tw_311 tw_312 tw_313 tw_31 tw_314) rfl rfl rfl (by decide +kernel) ⟨Nat.le_of_ble_eq_true rfl, Nat.le_of_ble_eq_true rfl⟩) ⟨k_blind, kw.recv hK hW.1.1 (t := 0) (i := 0) rfl rfl rfl, k_pre (P := fun H => CW D cA adx n (AX s.heap.size adm) σx H) hW.1 hK⟩ rfl rfl hl.1 rfl (lv_room (Nat.le_of_ble_eq_true rfl)) d_L_law_738 ⟨(show cells + 0 ≤ 600000 by omega), (show slots + 0 ≤ 7302250 by omega)⟩) hW hS (fun H locs hW hS => ?_)
  refine lv_aload_n hx hb d_L_law_741 rfl (lv_at hl 2 rfl) ?_
  refine W.eq (g2 := F0 m 742 ls [.ref (adm 0 0), _]) (by rw [ham]) ?_
  refine lm_i (σm := σm) (va_runV (C := "GridlockDeskModel") (As := []) (rest := [.int r]) ⟨hx, hb, hml, hown, hts⟩ (m_M_now l D cA adm 0 (PM adm) σm  (r, σm') h2) (cwV 0 hts (lb_V tw_518 tw_519 tw_520 tw_35 tw_521) rfl rfl rfl (by decide +kernel) ⟨Nat.le_of_ble_eq_true rfl, Nat.le_of_ble_eq_true rfl⟩) ⟨k_blind, kw.recv hK hW.2.1.1 (t := 0) (i := 0) rfl rfl rfl, k_pre (P := fun H => MW D cA adm 0 (PM adm) σm H) hW.2.1 hK⟩ rfl rfl hl.1 rfl (lv_room (Nat.le_of_ble_eq_true rfl)) d_L_law_742 ⟨(show cells + 0 ≤ 600000 by omega), (show slots + 0 ≤ 7302250 by omega)⟩) hW hS (fun H locs hW hS => ?_)
  refine lv_icmp_eq (tgt := 750) hx hb d_L_law_745 rfl (fun _ => ?_) (fun hc => absurd rfl hc)
  refine W.widen (k := cells + 1) (n := slots + 7) (by omega) (by omega) ?_
  exact hnext adx σx' σm' H locs hax hR' hW hS
set_option maxHeartbeats 4000000 in
set_option maxRecDepth 100000 in
theorem lw_loop {p : Program} {l : Launch} {e : Env} {s : State} {m : MethodId} {below : List Frame} {meth : Method} {c : Code} {Q : State → Prop} {Rel : Nat → Nat → St → St → Prop} (D : va_G) (cA : Nat → ClassId) (adx adm : Nat → Nat → Nat) (n b L : Nat) (xs : Nat → Int32) (hL : L ≤ 3585) (hx : p.tables.exec = Jvm.exec) (hb : c.code = code) (hml : c.maxLocals = 4) (hts : ∀ w ∈ lw_tbl, w.before #[Value.ref b] s = true) (hown : s.vm.findClass "GridlockDeskLaw" = some m.cls) (hX : va_X b L xs s s.heap) (hbl : b < s.heap.size) (hK : va_K D vCl (atys cA) s) (adm0 : adm = adm) (hr : meth.sig.returnType = ret) (hlocks : meth.locks = false) (hP : PureOK Rel) (ax am : Nat) (ham : adm 0 0 = am) (hQ : ∀ (H : Heap) (locs : List Loc) (ls : Array Slot) (cells slots : Nat), cells ≤ 600000 → slots ≤ 7302250 → va_S (fun q => s.heap.size ≤ q) s.heap H locs → W p l e room_1 s m #[Value.ref b] below meth c H locs cells slots Q (F0 m 756 ls [])) : ∀ (k i cN : Nat), cN + k = 512 → i = 1 + 7 * cN → ∀ (adx : Nat → Nat → Nat) (σx σm : St) (H : Heap) (locs : List Loc) (ls : Array Slot), lv_has ls 4 [(0, .ref b), (1, .ref ax), (2, .ref am), (3, .int (nI i))] → adx 0 0 = ax → Rel cN n σx σm → LWd D cA s.heap.size adx adm n σx σm H → va_S (fun q => s.heap.size ≤ q) s.heap H locs → W p l e room_1 s m #[Value.ref b] below meth c H locs (100 + cN) (2000 + 7 * cN) Q (F0 m 28 ls []) := by
  have ht : ∀ w ∈ TB, w.before #[Value.ref b] s = true := fun w h => hts w (lb_in h)
  intro k
  induction k with
  | zero =>
    intro i cN hk hiN adx σx σm H locs ls hl hax hR hW hS
    refine lv_iload_n hx hb d_L_law_28 rfl (lv_at hl 3 rfl) ?_
    refine lv_aload_n hx hb d_L_law_29 rfl (lv_at hl 0 rfl) ?_
    refine va_slen (A := fun q => s.heap.size ≤ q) hx hb hX hbl (by omega) hS d_L_law_30 ?_
    refine lv_bipush (v := 7) hx hb d_L_law_31 (by decide) ?_
    refine lv_isub hx hb d_L_law_33 ?_
    refine lv_icmp_gt (tgt := 756) hx hb d_L_law_34 rfl (fun _ => hQ H locs ls _ _ (by omega) (by omega) hS) (fun hc => ?_)
    exfalso
    apply hc
    rw [Int32.lt_iff_toInt_lt, show (Int32.ofNat L - 7 : Int32) = nI L - nI 7 from rfl, pk_sub_toInt (by omega) (by omega), nI_toInt (by omega)]
    omega
  | succ k ih =>
    intro i cN hk hiN adx σx σm H locs ls hl hax hR hW hS
    refine lv_iload_n hx hb d_L_law_28 rfl (lv_at hl 3 rfl) ?_
    refine lv_aload_n hx hb d_L_law_29 rfl (lv_at hl 0 rfl) ?_
    refine va_slen (A := fun q => s.heap.size ≤ q) hx hb hX hbl (by omega) hS d_L_law_30 ?_
    refine lv_bipush (v := 7) hx hb d_L_law_31 (by decide) ?_
    refine lv_isub hx hb d_L_law_33 ?_
    refine lv_icmp_gt (tgt := 756) hx hb d_L_law_34 rfl (fun _ => hQ H locs ls _ _ (by omega) (by omega) hS) (fun hc => ?_)
    have hi : i + 7 ≤ L := by
      rw [Int32.lt_iff_toInt_lt, show (Int32.ofNat L - 7 : Int32) = nI L - nI 7 from rfl, pk_sub_toInt (by omega) (by omega), nI_toInt (by omega)] at hc
      omega
    have hcN : cN < 512 := by omega
    have hcs : 100 + cN + 1 ≤ 600000 ∧ 2000 + 7 * cN + 7 ≤ 7302250 := by omega
    have hgo : ∀ (adx' : Nat → Nat → Nat) (σx' σm' : St) (H' : Heap) (locs' : List Loc), adx' 0 0 = ax → Rel (cN + 1) n σx' σm' → LWd D cA s.heap.size adx' adm n σx' σm' H' → va_S (fun q => s.heap.size ≤ q) s.heap H' locs' → W p l e room_1 s m #[Value.ref b] below meth c H' locs' (100 + cN + 1) (2000 + 7 * cN + 7) Q (F0 m 750 ls []) := by
      intro adx' σx' σm' H' locs' hax' hR' hW' hS'
      refine lv_iinc (k := 3) (v := nI (i + 7)) (lv' := [(3, .int (nI (i + 7))), (0, .ref b), (1, .ref ax), (2, .ref am)]) hx hb d_L_law_750 hl rfl (show nI i + nI 7 = nI (i + 7) from nI_add i 7) (by decide) rfl (fun ls hl => ?_)
      refine lv_goto (tgt := 28) hx hb d_L_law_753 rfl ?_
      exact ih (i + 7) (cN + 1) (by omega) (by omega) adx' σx' σm' H' locs' ls (lv_sub hl [1, 2, 3, 0] rfl) hax' hR' hW' hS'
    refine lv_aload_n hx hb d_L_law_37 rfl (lv_at hl 0 rfl) ?_
    refine lv_iload_n hx hb d_L_law_38 rfl (lv_at hl 3 rfl) ?_
    refine va_sld (A := fun q => s.heap.size ≤ q) hx hb hX hbl (by omega) hS (vp_in_nI (show i < L by omega) (by omega)) d_L_law_39 ?_
    refine lv_bipush (v := 31) hx hb d_L_law_40 (by decide) ?_
    refine lv_iand hx hb d_L_law_42 ?_
    obtain ⟨j, hj, ej⟩ := pk_andE (xs (nI i).toNatClampNeg) (m := 31) 5 rfl
    rw [ej]
    by_cases h17 : j < 17
    · match j, h17 with
      | 0, _ =>
        refine lv_tableIn (tgt := 124) hx hb d_L_law_43 (by decide) (by decide) rfl rfl ?_
        exact lw_fund D cA adx adm n b L xs hL hx hb hml hts hown hX hbl hK hP.2.2.1 i cN _ _ hi hcN hcs ax am σx σm H locs ls hl hax ham hR hW hS hgo
      | 1, _ =>
        refine lv_tableIn (tgt := 187) hx hb d_L_law_43 (by decide) (by decide) rfl rfl ?_
        exact lw_credit D cA adx adm n b L xs hL hx hb hml hts hown hX hbl hK hP.2.2.2.1 i cN _ _ hi hcN hcs ax am σx σm H locs ls hl hax ham hR hW hS hgo
      | 2, _ =>
        refine lv_tableIn (tgt := 250) hx hb d_L_law_43 (by decide) (by decide) rfl rfl ?_
        exact lw_limit D cA adx adm n b L xs hL hx hb hml hts hown hX hbl hK hP.2.2.2.2.1 i cN _ _ hi hcN hcs ax am σx σm H locs ls hl hax ham hR hW hS hgo
      | 3, _ =>
        refine lv_tableIn (tgt := 323) hx hb d_L_law_43 (by decide) (by decide) rfl rfl ?_
        exact lw_totalLimit D cA adx adm n b L xs hL hx hb hml hts hown hX hbl hK hP.2.2.2.2.2.1 i cN _ _ hi hcN hcs ax am σx σm H locs ls hl hax ham hR hW hS hgo
      | 4, _ =>
        refine lv_tableIn (tgt := 386) hx hb d_L_law_43 (by decide) (by decide) rfl rfl ?_
        exact lw_pay D cA adx adm n b L xs hL hx hb hml hts hown hX hbl hK hP.2.2.2.2.2.2.1 i cN _ _ hi hcN hcs ax am σx σm H locs ls hl hax ham hR hW hS hgo
      | 5, _ =>
        refine lv_tableIn (tgt := 481) hx hb d_L_law_43 (by decide) (by decide) rfl rfl ?_
        exact lw_cancel D cA adx adm n b L xs hL hx hb hml hts hown hX hbl hK hP.2.2.2.2.2.2.2.1 i cN _ _ hi hcN hcs ax am σx σm H locs ls hl hax ham hR hW hS hgo
      | 6, _ =>
        refine lv_tableIn (tgt := 504) hx hb d_L_law_43 (by decide) (by decide) rfl rfl ?_
        exact lw_urge D cA adx adm n b L xs hL hx hb hml hts hown hX hbl hK hP.2.2.2.2.2.2.2.2.1 i cN _ _ hi hcN hcs ax am σx σm H locs ls hl hax ham hR hW hS hgo
      | 7, _ =>
        refine lv_tableIn (tgt := 537) hx hb d_L_law_43 (by decide) (by decide) rfl rfl ?_
        exact lw_resolve D cA adx adm n b L xs hL hx hb hml hts hown hX hbl hK hP.2.2.2.2.2.2.2.2.2.1 i cN _ _ hi hcN hcs ax am σx σm H locs ls hl hax ham hR hW hS hgo
      | 8, _ =>
        refine lv_tableIn (tgt := 550) hx hb d_L_law_43 (by decide) (by decide) rfl rfl ?_
        exact lw_tick D cA adx adm n b L xs hL hx hb hml hts hown hX hbl hK hP.2.2.2.2.2.2.2.2.2.2.1 i cN _ _ hi hcN hcs ax am σx σm H locs ls hl hax ham hR hW hS hgo
      | 9, _ =>
        refine lv_tableIn (tgt := 573) hx hb d_L_law_43 (by decide) (by decide) rfl rfl ?_
        exact lw_close D cA adx adm n b L xs hL hx hb hml hts hown hX hbl hK hP.2.2.2.2.2.2.2.2.2.2.2.1 i cN _ _ hi hcN hcs ax am σx σm H locs ls hl hax ham hR hW hS hgo
      | 10, _ =>
        refine lv_tableIn (tgt := 586) hx hb d_L_law_43 (by decide) (by decide) rfl rfl ?_
        exact lw_balance D cA adx adm n b L xs hL hx hb hml hts hown hX hbl hK hP.2.2.2.2.2.2.2.2.2.2.2.2.1 i cN _ _ hi hcN hcs ax am σx σm H locs ls hl hax ham hR hW hS hgo
      | 11, _ =>
        refine lv_tableIn (tgt := 610) hx hb d_L_law_43 (by decide) (by decide) rfl rfl ?_
        exact lw_position D cA adx adm n b L xs hL hx hb hml hts hown hX hbl hK hP.2.2.2.2.2.2.2.2.2.2.2.2.2.1 i cN _ _ hi hcN hcs ax am σx σm H locs ls hl hax ham hR hW hS hgo
      | 12, _ =>
        refine lv_tableIn (tgt := 644) hx hb d_L_law_43 (by decide) (by decide) rfl rfl ?_
        exact lw_waiting D cA adx adm n b L xs hL hx hb hml hts hown hX hbl hK hP.2.2.2.2.2.2.2.2.2.2.2.2.2.2.1 i cN _ _ hi hcN hcs ax am σx σm H locs ls hl hax ham hR hW hS hgo
      | 13, _ =>
        refine lv_tableIn (tgt := 667) hx hb d_L_law_43 (by decide) (by decide) rfl rfl ?_
        exact lw_queued D cA adx adm n b L xs hL hx hb hml hts hown hX hbl hK hP.2.2.2.2.2.2.2.2.2.2.2.2.2.2.2.1 i cN _ _ hi hcN hcs ax am σx σm H locs ls hl hax ham hR hW hS hgo
      | 14, _ =>
        refine lv_tableIn (tgt := 700) hx hb d_L_law_43 (by decide) (by decide) rfl rfl ?_
        exact lw_state D cA adx adm n b L xs hL hx hb hml hts hown hX hbl hK hP.2.2.2.2.2.2.2.2.2.2.2.2.2.2.2.2.1 i cN _ _ hi hcN hcs ax am σx σm H locs ls hl hax ham hR hW hS hgo
      | 15, _ =>
        refine lv_tableIn (tgt := 723) hx hb d_L_law_43 (by decide) (by decide) rfl rfl ?_
        exact lw_turnover D cA adx adm n b L xs hL hx hb hml hts hown hX hbl hK hP.2.2.2.2.2.2.2.2.2.2.2.2.2.2.2.2.2.1 i cN _ _ hi hcN hcs ax am σx σm H locs ls hl hax ham hR hW hS hgo
      | 16, _ =>
        refine lv_tableIn (tgt := 737) hx hb d_L_law_43 (by decide) (by decide) rfl rfl ?_
        exact lw_now D cA adx adm n b L xs hL hx hb hml hts hown hX hbl hK hP.2.2.2.2.2.2.2.2.2.2.2.2.2.2.2.2.2.2 i cN _ _ hi hcN hcs ax am σx σm H locs ls hl hax ham hR hW hS hgo
      | j + 17, h => exact absurd h (by omega)
    · refine lv_tableOut (tgt := 750) hx hb d_L_law_43 (Or.inr (by rw [nI_toInt (by omega)]; omega)) rfl ?_
      refine W.widen (k := 100 + cN + 1) (n := 2000 + 7 * cN + 7) (by omega) (by omega) ?_
      exact hgo adx σx σm H locs hax (hP.2.1 cN n σx σm hR) hW hS
