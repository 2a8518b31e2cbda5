/-! The typed store: ints, longs, references by (component, index, index), and how many objects of the growing kind there are. -/
abbrev St : Type := (Nat → Nat → Nat → Int32) × (Nat → Nat → Nat → Int64) × (Nat → Nat → Nat → Option Nat) × Nat
def sI (σ : St) (c i j : Nat) : Int32 := σ.1 c i j
def sL (σ : St) (c i j : Nat) : Int64 := σ.2.1 c i j
def sR (σ : St) (c i j : Nat) : Option Nat := σ.2.2.1 c i j
def sN (σ : St) : Nat := σ.2.2.2
def wI (σ : St) (c i j : Nat) (v : Int32) : St := (fun c' i' j' => if c' = c ∧ i' = i ∧ j' = j then v else σ.1 c' i' j', σ.2)
def wL (σ : St) (c i j : Nat) (v : Int64) : St := (σ.1, fun c' i' j' => if c' = c ∧ i' = i ∧ j' = j then v else σ.2.1 c' i' j', σ.2.2)
def wR (σ : St) (c i j : Nat) (v : Option Nat) : St := (σ.1, σ.2.1, fun c' i' j' => if c' = c ∧ i' = i ∧ j' = j then v else σ.2.2.1 c' i' j', σ.2.2.2)
/-- a whole row -/
def fI (σ : St) (c i : Nat) (v : Int32) : St := (fun c' i' j' => if c' = c ∧ i' = i then v else σ.1 c' i' j', σ.2)
def fL (σ : St) (c i : Nat) (v : Int64) : St := (σ.1, fun c' i' j' => if c' = c ∧ i' = i then v else σ.2.1 c' i' j', σ.2.2)
theorem sI_wI (σ : St) (c i j : Nat) (v : Int32) (c' i' j' : Nat) : sI (wI σ c i j v) c' i' j' = if c' = c ∧ i' = i ∧ j' = j then v else sI σ c' i' j' := rfl
theorem sL_wL (σ : St) (c i j : Nat) (v : Int64) (c' i' j' : Nat) : sL (wL σ c i j v) c' i' j' = if c' = c ∧ i' = i ∧ j' = j then v else sL σ c' i' j' := rfl
theorem sR_wR (σ : St) (c i j : Nat) (v : Option Nat) (c' i' j' : Nat) : sR (wR σ c i j v) c' i' j' = if c' = c ∧ i' = i ∧ j' = j then v else sR σ c' i' j' := rfl
theorem sI_fI (σ : St) (c i : Nat) (v : Int32) (c' i' j' : Nat) : sI (fI σ c i v) c' i' j' = if c' = c ∧ i' = i then v else sI σ c' i' j' := rfl
theorem sL_fL (σ : St) (c i : Nat) (v : Int64) (c' i' j' : Nat) : sL (fL σ c i v) c' i' j' = if c' = c ∧ i' = i then v else sL σ c' i' j' := rfl
theorem sI_wL (σ : St) (c i j : Nat) (v : Int64) (c' i' j' : Nat) : sI (wL σ c i j v) c' i' j' = sI σ c' i' j' := rfl
theorem sI_wR (σ : St) (c i j : Nat) (v : Option Nat) (c' i' j' : Nat) : sI (wR σ c i j v) c' i' j' = sI σ c' i' j' := rfl
theorem sI_fL (σ : St) (c i : Nat) (v : Int64) (c' i' j' : Nat) : sI (fL σ c i v) c' i' j' = sI σ c' i' j' := rfl
theorem sL_wI (σ : St) (c i j : Nat) (v : Int32) (c' i' j' : Nat) : sL (wI σ c i j v) c' i' j' = sL σ c' i' j' := rfl
theorem sL_wR (σ : St) (c i j : Nat) (v : Option Nat) (c' i' j' : Nat) : sL (wR σ c i j v) c' i' j' = sL σ c' i' j' := rfl
theorem sL_fI (σ : St) (c i : Nat) (v : Int32) (c' i' j' : Nat) : sL (fI σ c i v) c' i' j' = sL σ c' i' j' := rfl
theorem sR_wI (σ : St) (c i j : Nat) (v : Int32) (c' i' j' : Nat) : sR (wI σ c i j v) c' i' j' = sR σ c' i' j' := rfl
theorem sR_wL (σ : St) (c i j : Nat) (v : Int64) (c' i' j' : Nat) : sR (wL σ c i j v) c' i' j' = sR σ c' i' j' := rfl
theorem sR_fI (σ : St) (c i : Nat) (v : Int32) (c' i' j' : Nat) : sR (fI σ c i v) c' i' j' = sR σ c' i' j' := rfl
theorem sR_fL (σ : St) (c i : Nat) (v : Int64) (c' i' j' : Nat) : sR (fL σ c i v) c' i' j' = sR σ c' i' j' := rfl
theorem sN_wI (σ : St) (c i j : Nat) (v : Int32) : sN (wI σ c i j v) = sN σ := rfl
theorem sN_wL (σ : St) (c i j : Nat) (v : Int64) : sN (wL σ c i j v) = sN σ := rfl
theorem sN_wR (σ : St) (c i j : Nat) (v : Option Nat) : sN (wR σ c i j v) = sN σ := rfl
theorem sN_fI (σ : St) (c i : Nat) (v : Int32) : sN (fI σ c i v) = sN σ := rfl
theorem sN_fL (σ : St) (c i : Nat) (v : Int64) : sN (fL σ c i v) = sN σ := rfl
/-- a reference that is used: it isn't null, and its object is there -/
def dR (σ : St) (o : Option Nat) : Option Nat := match o with
  | none => none
  | some k => if k < sN σ then some k else none
theorem dR_spec {σ : St} {o : Option Nat} {k : Nat} (h : dR σ o = some k) : o = some k ∧ k < sN σ := by
  cases o with
  | none => cases h
  | some q =>
    by_cases hq : q < sN σ
    · have h2 : (if q < sN σ then some q else none) = some k := h
      rw [if_pos hq] at h2
      cases h2
      exact ⟨rfl, hq⟩
    · have h2 : (if q < sN σ then some q else none) = some k := h
      rw [if_neg hq] at h2
      cases h2
theorem dR_some {σ : St} {k : Nat} (h : k < sN σ) : dR σ (some k) = some k := if_pos h
/-- an index within, as the programs ask it -/
abbrev vin (i : Int32) (n : Nat) : Prop := ¬ (i < 0 ∨ n ≤ i.toNatClampNeg)
theorem vin_lt {i : Int32} {n : Nat} (h : vin i n) : i.toNatClampNeg < n := Nat.not_le.mp fun q => h (Or.inr q)
theorem vin_nI {i n : Nat} (h : i < n) (hn : n < 2 ^ 31) : vin (nI i) n := vp_in_nI h hn
theorem og_if {c : Prop} [Decidable c] {α : Type} {x : Option α} {y : α} (h : (if c then x else none) = some y) : c ∧ x = some y := by
  by_cases hc : c
  · rw [if_pos hc] at h; exact ⟨hc, h⟩
  · rw [if_neg hc] at h; cases h
theorem og_t {c : Prop} [Decidable c] {α : Type} {x y z : α} (hc : c) (h : (if c then x else y) = z) : x = z := by rw [if_pos hc] at h; exact h
theorem og_f {c : Prop} [Decidable c] {α : Type} {x y z : α} (hc : ¬ c) (h : (if c then x else y) = z) : y = z := by rw [if_neg hc] at h; exact h
theorem og_b {α β : Type} {x : Option α} {f : α → Option β} {y : β} (h : x.bind f = some y) : ∃ a, x = some a ∧ f a = some y := Option.bind_eq_some_iff.mp h
theorem og_n {α : Type} {y : α} {P : Prop} (h : (none : Option α) = some y) : P := by cases h
theorem nz_ok {v : Int32} (h : v = 0 ∨ v = 1) : narrow .boolean (.int v) = .int v := by rcases h with rfl | rfl <;> rfl
/-! A world by keys: cell (t, i) lies at ad t i and holds ct t i. -/
def kw (D : va_G) (cl : List vw_C) (ad : Nat → Nat → Nat) (dom : Nat → Nat → Prop) (ct : Nat → Nat → va_E) (H : Heap) : Prop := (∀ t i, dom t i → va_at D cl (ad t i, ct t i) H) ∧ ∀ t i t' i', dom t i → dom t' i' → ad t i = ad t' i' → t = t' ∧ i = i'
theorem kw.one {D : va_G} {cl : List vw_C} {ad : Nat → Nat → Nat} {dom : Nat → Nat → Prop} {ct : Nat → Nat → va_E} {H : Heap} (h : kw D cl ad dom ct H) {t i : Nat} (hd : dom t i) : va_P D cl [(ad t i, ct t i)] H := fun k q hk => by
  cases k with
  | zero => cases hk; exact h.1 t i hd
  | succ k => simp at hk
theorem kw.put {D : va_G} {cl : List vw_C} {ad : Nat → Nat → Nat} {dom : Nat → Nat → Prop} {ct ct' : Nat → Nat → va_E} {H H1 : Heap} (h : kw D cl ad dom ct H) {t i : Nat} (hd : dom t i) {e : va_E} (he : va_at D cl (ad t i, e) H1) (oq : ∀ q : Nat, q < H.size → q ≠ ad t i → H1[q]? = H[q]?) (hc : ∀ t' i', dom t' i' → ct' t' i' = if t' = t ∧ i' = i then e else ct t' i') : kw D cl ad dom ct' H1 := by
  refine ⟨fun t' i' hd' => ?_, h.2⟩
  rw [hc t' i' hd']
  by_cases hq : t' = t ∧ i' = i
  · obtain ⟨rfl, rfl⟩ := hq
    rw [if_pos ⟨rfl, rfl⟩]
    exact he
  · rw [if_neg hq]
    exact (h.1 t' i' hd').kept (oq _ (h.1 t' i' hd').lt (fun z => hq (h.2 _ _ _ _ hd' hd z)))
theorem kw.kept {D : va_G} {cl : List vw_C} {ad : Nat → Nat → Nat} {dom : Nat → Nat → Prop} {ct : Nat → Nat → va_E} {H H1 : Heap} (h : kw D cl ad dom ct H) (oq : ∀ t i, dom t i → H1[ad t i]? = H[ad t i]?) : kw D cl ad dom ct H1 := ⟨fun t i hd => (h.1 t i hd).kept (oq t i hd), h.2⟩
theorem kw.recv {D : va_G} {cl : List vw_C} {ad : Nat → Nat → Nat} {dom : Nat → Nat → Prop} {ct : Nat → Nat → va_E} {H : Heap} {s : State} {tys : List (ClassId × FieldType)} (hK : va_K D cl tys s) (h : kw D cl ad dom ct H) {t i : Nat} (hd : dom t i) {ci : Nat} {fs : List Value} (he : ct t i = .inr (ci, fs)) {q : vw_C} (hc : cl[ci]? = some q) : ∃ cell : Cell, H[ad t i]? = some cell ∧ cell.vm.isStatics = false ∧ s.vm.findClass q.1 = some cell.cls :=
  va_recv hK (h.one hd) hc (q0 := 0) (by rw [he]; rfl)
theorem kw_inj {D : va_G} {cl : List vw_C} {ad : Nat → Nat → Nat} {dom : Nat → Nat → Prop} {ct : Nat → Nat → va_E} {H : Heap} (h : kw D cl ad dom ct H) {t i j : Nat} (hi : dom t i) (hj : dom t j) : (some (ad t i) = some (ad t j)) ↔ i = j := ⟨fun e => (h.2 _ _ _ _ hi hj (Option.some.inj e)).2, fun e => by rw [e]⟩
section KR
variable {p : Program} {l : Launch} {e : Env} {R : Room} {s : State} {m : MethodId} {args : Array Value} {below : List Frame} {meth : Method} {c : Code} {H : Heap} {locs : List Loc} {cells slots : Nat} {Q : State → Prop}
variable {cc : ByteArray} {pc : Nat} {ls : Array Slot} {rest : List Value} {D : va_G} {cl : List vw_C} {A : Nat → Prop} {tys : List (ClassId × FieldType)} {H0 : Heap} {ad : Nat → Nat → Nat} {dom : Nat → Nat → Prop} {ct ct' : Nat → Nat → va_E}
theorem k_put (hexec : p.tables.exec = Jvm.exec) (hb : c.code = cc) {own ref C : String} {T : u_T} {N ci index : Nat} {Ts : List Cond} (hts : ∀ w ∈ Ts, w.before args s = true) (hin : ∀ w ∈ u_ws C T N, w ∈ Ts) (ty0 : Nat → FieldType) (hty : ∀ k, k < N → parseFieldDescriptor (T k).2.2.1 = some (ty0 k)) (hnm : ∀ a, a < N → ∀ b, b < N → a ≠ b → (T a).2.1 ≠ (T b).2.1) (hown : s.vm.findClass own = some m.cls) (hK : va_K D cl tys s) (hW : kw D cl ad dom ct H) (hS0 : va_S A H0 H locs) {t i : Nat} (hd : dom t i) (hAa : A (ad t i)) {fs : List Value} (he : ct t i = .inr (ci, fs)) (hc : cl[ci]? = some (C, T, N)) (k : Nat) (hk : k < N) (hlink : (Cond.fieldLink own index ref (T k).2.1 (T k).2.2.1).before args s = true) (hsame : ∀ x, s.fieldFound? (T k).1 (T k).2.1 (T k).2.2.1 = some x → s.fieldFound? ref (T k).2.1 (T k).2.2.1 = some x) (hfin : (T k).2.2.2 = false) {ty : FieldType} {v : Value} (hdd : parseFieldDescriptor (T k).2.2.1 = some ty) (hn : narrow ty v = v) (hfit : fits ty v = true) (hl : k < fs.length)
    (hdg : decode cc pc = .ok (.putfield index, 3)) (hct : ∀ t' i', dom t' i' → ct' t' i' = if t' = t ∧ i' = i then .inr (ci, fs.set k v) else ct t' i') (kk : ∀ (H1 : Heap) (locs1 : List Loc), kw D cl ad dom ct' H1 → va_S A H0 H1 locs1 → W p l e R s m args below meth c H1 locs1 cells slots Q (F0 m (pc + 3) ls rest)) : W p l e R s m args below meth c H locs cells slots Q (F0 m pc ls (v :: .ref (ad t i) :: rest)) := by
  have hap := va_apart (own := own) hts hin ty0 hty hnm hK hc
  have hat := hW.1 t i hd
  rw [he] at hat
  obtain ⟨r, h1, cell, q1, q2, q3, q4⟩ := hat
  have hr : r = (C, T, N) := Option.some.inj (h1.symm.trans hc)
  subst hr
  obtain ⟨hS, hfc, kC, hkC, hkind⟩ := hK.1 ci _ hc
  obtain ⟨cf, kf, fi, f, hi, hsl⟩ := hS k hk
  have hlay := hts _ (hin _ (u_in_lay hk))
  unfold u_lay at hlay
  rw [if_neg (by rw [hfin]; decide)] at hlay
  have hst := (u_facts hfc hkC (u_lays hts hin hk) hi).1
  have h6 := u_store hfc hkC hkind hlay hi hdd hn hfit
  refine W.putK hexec hb (f := f) ⟨hown, hlink, ⟨_, _, _, hsame _ hi⟩, hst⟩ (by rw [q2]; exact h6) q1 q3 (by rw [hsl]; exact k2_hasslot (q4 k hk)) rfl rfl hdg fun H' e1 e2 e3 => ?_
  rw [hsl] at e1 ⊢
  exact kk H' _ (hW.put hd (e := .inr (ci, fs.set k v)) ⟨_, hc, t_OB.to (V := updV (vp_V fs) k v) ⟨_, e1, q2, q3, t_set q4 hap hk v⟩ (fun j _ => vp_updV_set hl v j)⟩ (fun q _ h => e3 q h) hct) (hS0.put e2 e3 hAa)
theorem k_iast (hexec : p.tables.exec = Jvm.exec) (hb : c.code = cc) (hK : va_K D cl tys s) (hW : kw D cl ad dom ct H) (hS : va_S A H0 H locs) {t i : Nat} (hd : dom t i) (hAa : A (ad t i)) (t0 : Nat) {cA : ClassId} {n : Nat} {f : Nat → Int32} (he : ct t i = .inl (cA, n, .inl f)) (ht : tys[t0]? = some (cA, .int)) {j : Int32} {x : Int32} (hin : vp_in j n) (hdg : decode cc pc = .ok (.iastore, 1))
    (hct : ∀ t' i', dom t' i' → ct' t' i' = if t' = t ∧ i' = i then .inl (cA, n, .inl (upd f j.toNatClampNeg x)) else ct t' i') (kk : ∀ (H1 : Heap) (locs1 : List Loc), kw D cl ad dom ct' H1 → va_S A H0 H1 locs1 → W p l e R s m args below meth c H1 locs1 cells slots Q (F0 m (pc + 1) ls rest)) : W p l e R s m args below meth c H locs cells slots Q (F0 m pc ls (.int x :: .int j :: .ref (ad t i) :: rest)) := by
  have hat := hW.1 t i hd
  rw [he] at hat
  refine W.iast hexec hb hat ((hK.2 t0 _ ht).1 n (fun j => .int (f j))) (fun q => by cases q) (by show ¬ (j < 0 ∨ (arrV _ _ _).slots.size ≤ _); rw [arrV_size]; exact hin) rfl rfl hdg fun H1 e z oq => ?_
  refine kk H1 _ (hW.put hd (e := .inl (cA, n, .inl (upd f j.toNatClampNeg x))) ?_ (fun q _ h => oq q h) hct) (hS.put z oq hAa)
  show H1[ad t i]? = some (vp_cell _ _)
  rw [e, vp_cell_i, vp_cell_i, arrV_store]
  congr 2
  funext q
  by_cases hq : q = j.toNatClampNeg
  · subst hq
    simp [updV, upd]
  · simp [updV, upd, hq]
theorem k_last (hexec : p.tables.exec = Jvm.exec) (hb : c.code = cc) (hK : va_K D cl tys s) (hW : kw D cl ad dom ct H) (hS : va_S A H0 H locs) {t i : Nat} (hd : dom t i) (hAa : A (ad t i)) (t0 : Nat) {cA : ClassId} {n : Nat} {f : Nat → Int64} (he : ct t i = .inl (cA, n, .inr (.inl f))) (ht : tys[t0]? = some (cA, .long)) {j : Int32} {x : Int64} (hin : vp_in j n) (hdg : decode cc pc = .ok (.lastore, 1))
    (hct : ∀ t' i', dom t' i' → ct' t' i' = if t' = t ∧ i' = i then .inl (cA, n, .inr (.inl (vp_updL f j.toNatClampNeg x))) else ct t' i') (kk : ∀ (H1 : Heap) (locs1 : List Loc), kw D cl ad dom ct' H1 → va_S A H0 H1 locs1 → W p l e R s m args below meth c H1 locs1 cells slots Q (F0 m (pc + 1) ls rest)) : W p l e R s m args below meth c H locs cells slots Q (F0 m pc ls (.long x :: .int j :: .ref (ad t i) :: rest)) := by
  have hat := hW.1 t i hd
  rw [he] at hat
  refine W.last hexec hb hat ((hK.2 t0 _ ht).1 n (fun j => .long (f j))) (fun q => by cases q) (by show ¬ (j < 0 ∨ (arrV _ _ _).slots.size ≤ _); rw [arrV_size]; exact hin) rfl rfl hdg fun H1 e z oq => ?_
  refine kk H1 _ (hW.put hd (e := .inl (cA, n, .inr (.inl (vp_updL f j.toNatClampNeg x)))) ?_ (fun q _ h => oq q h) hct) (hS.put z oq hAa)
  show H1[ad t i]? = some (vp_cell _ _)
  rw [e, vp_cell_l, vp_cell_l, arrV_store]
  congr 2
  funext q
  by_cases hq : q = j.toNatClampNeg
  · subst hq
    simp [updV, vp_updL]
  · simp [updV, vp_updL, hq]
theorem k_aast (hexec : p.tables.exec = Jvm.exec) (hb : c.code = cc) (hK : va_K D cl tys s) (hW : kw D cl ad dom ct H) (hS : va_S A H0 H locs) {t i : Nat} (hd : dom t i) (hAa : A (ad t i)) (t0 ci : Nat) {tv iv : Nat} (hdv : dom tv iv) {vs : List Value} (hev : ct tv iv = .inr (ci, vs)) {r : vw_C} (hc : cl[ci]? = some r) {cA : ClassId} {n : Nat} {f : Nat → Option Nat} (he : ct t i = .inl (cA, n, .inr (.inr (.inr (.inr f))))) (ht : tys[t0]? = some (cA, .object r.1)) {j : Int32} (hin : vp_in j n) (hdg : decode cc pc = .ok (.aastore, 1))
    (hct : ∀ t' i', dom t' i' → ct' t' i' = if t' = t ∧ i' = i then .inl (cA, n, .inr (.inr (.inr (.inr (va_up f j.toNatClampNeg (some (ad tv iv))))))) else ct t' i') (kk : ∀ (H1 : Heap) (locs1 : List Loc), kw D cl ad dom ct' H1 → va_S A H0 H1 locs1 → W p l e R s m args below meth c H1 locs1 cells slots Q (F0 m (pc + 1) ls rest)) : W p l e R s m args below meth c H locs cells slots Q (F0 m pc ls (.ref (ad tv iv) :: .int j :: .ref (ad t i) :: rest)) := by
  have hlt : j.toNatClampNeg < n := Nat.not_le.mp fun q => hin (Or.inr q)
  have h0 : ¬ j < 0 := fun q => hin (Or.inl q)
  have hat := hW.1 t i hd
  rw [he] at hat
  have hav := hW.1 tv iv hdv
  rw [hev] at hav
  obtain ⟨r', hr', cellV, g1, g2, g3, -⟩ := hav
  have hcls := (hK.1 ci r hc).2
  obtain ⟨kA, comp, k1, k2, k3, -⟩ := (hK.2 t0 _ ht).2
  have hcomp : comp = D.1 ci := Option.some.inj (k3.symm.trans hcls.1)
  subst hcomp
  obtain ⟨kC, hkC, -⟩ := hcls.2
  refine W.aast hexec hb hat (fun q h => by cases h) (fun h => by cases h) k1 k2 rfl hkC ⟨h0, by show _ < (arrV _ _ _).slots.size; rw [arrV_size]; exact hlt⟩ g1 (fun q h => by rw [g3] at h; cases h) (by rw [g2]; exact hkC) (by rw [g2]; exact va_assign hcls) rfl rfl hdg fun H1 e z oq => ?_
  refine kk H1 _ (hW.put hd (e := .inl (cA, n, .inr (.inr (.inr (.inr (va_up f j.toNatClampNeg (some (ad tv iv)))))))) ?_ (fun q _ h => oq q h) hct) (hS.put z oq hAa)
  show H1[ad t i]? = some (vp_cell _ _)
  rw [e, vp_cell_q, vp_cell_q, arrV_store]
  congr 2
  funext q
  by_cases hq : q = j.toNatClampNeg
  · subst hq
    simp [updV, va_up, va_rf]
  · simp [updV, va_up, hq]
/-- a comparison of longs and the branch behind it -/
theorem lc_ge (hexec : p.tables.exec = Jvm.exec) (hb : c.code = cc) {x y : Int64} {off : Int} {tgt : Nat} (hd1 : decode cc pc = .ok (.lcmp, 1)) (hd2 : decode cc (pc + 1) = .ok (.ifCond .ge off, 3)) (ht : ((pc + 1 : Nat) : Int) + off = (tgt : Int))
    (kt : y ≤ x → W p l e R s m args below meth c H locs cells slots Q (F0 m tgt ls rest)) (kf : ¬ y ≤ x → W p l e R s m args below meth c H locs cells slots Q (F0 m (pc + 1 + 3) ls rest)) : W p l e R s m args below meth c H locs cells slots Q (F0 m pc ls (.long y :: .long x :: rest)) :=
  W.lcmp hexec hb hd1 (lv_if_ge hexec hb hd2 ht (fun h => kt ((lg_cmp_ge x y).mp h)) (fun h => kf (fun q => h ((lg_cmp_ge x y).mpr q))))
theorem lc_lt (hexec : p.tables.exec = Jvm.exec) (hb : c.code = cc) {x y : Int64} {off : Int} {tgt : Nat} (hd1 : decode cc pc = .ok (.lcmp, 1)) (hd2 : decode cc (pc + 1) = .ok (.ifCond .lt off, 3)) (ht : ((pc + 1 : Nat) : Int) + off = (tgt : Int))
    (kt : x < y → W p l e R s m args below meth c H locs cells slots Q (F0 m tgt ls rest)) (kf : ¬ x < y → W p l e R s m args below meth c H locs cells slots Q (F0 m (pc + 1 + 3) ls rest)) : W p l e R s m args below meth c H locs cells slots Q (F0 m pc ls (.long y :: .long x :: rest)) :=
  W.lcmp hexec hb hd1 (lv_if_lt hexec hb hd2 ht (fun h => kt ((lg_cmp_lt x y).mp h)) (fun h => kf (fun q => h ((lg_cmp_lt x y).mpr q))))
theorem lc_gt (hexec : p.tables.exec = Jvm.exec) (hb : c.code = cc) {x y : Int64} {off : Int} {tgt : Nat} (hd1 : decode cc pc = .ok (.lcmp, 1)) (hd2 : decode cc (pc + 1) = .ok (.ifCond .gt off, 3)) (ht : ((pc + 1 : Nat) : Int) + off = (tgt : Int))
    (kt : y < x → W p l e R s m args below meth c H locs cells slots Q (F0 m tgt ls rest)) (kf : ¬ y < x → W p l e R s m args below meth c H locs cells slots Q (F0 m (pc + 1 + 3) ls rest)) : W p l e R s m args below meth c H locs cells slots Q (F0 m pc ls (.long y :: .long x :: rest)) :=
  W.lcmp hexec hb hd1 (lv_if_gt hexec hb hd2 ht (fun h => kt ((lg_cmp_gt x y).mp h)) (fun h => kf (fun q => h ((lg_cmp_gt x y).mpr q))))
theorem lc_le (hexec : p.tables.exec = Jvm.exec) (hb : c.code = cc) {x y : Int64} {off : Int} {tgt : Nat} (hd1 : decode cc pc = .ok (.lcmp, 1)) (hd2 : decode cc (pc + 1) = .ok (.ifCond .le off, 3)) (ht : ((pc + 1 : Nat) : Int) + off = (tgt : Int))
    (kt : x ≤ y → W p l e R s m args below meth c H locs cells slots Q (F0 m tgt ls rest)) (kf : ¬ x ≤ y → W p l e R s m args below meth c H locs cells slots Q (F0 m (pc + 1 + 3) ls rest)) : W p l e R s m args below meth c H locs cells slots Q (F0 m pc ls (.long y :: .long x :: rest)) :=
  W.lcmp hexec hb hd1 (lv_if_le hexec hb hd2 ht (fun h => kt ((lg_cmp_le x y).mp h)) (fun h => kf (fun q => h ((lg_cmp_le x y).mpr q))))
theorem lc_eq (hexec : p.tables.exec = Jvm.exec) (hb : c.code = cc) {x y : Int64} {off : Int} {tgt : Nat} (hd1 : decode cc pc = .ok (.lcmp, 1)) (hd2 : decode cc (pc + 1) = .ok (.ifCond .eq off, 3)) (ht : ((pc + 1 : Nat) : Int) + off = (tgt : Int))
    (kt : x = y → W p l e R s m args below meth c H locs cells slots Q (F0 m tgt ls rest)) (kf : ¬ x = y → W p l e R s m args below meth c H locs cells slots Q (F0 m (pc + 1 + 3) ls rest)) : W p l e R s m args below meth c H locs cells slots Q (F0 m pc ls (.long y :: .long x :: rest)) :=
  W.lcmp hexec hb hd1 (lv_if_eq hexec hb hd2 ht (fun h => kt ((lg_cmp_eq x y).mp h)) (fun h => kf (fun q => h ((lg_cmp_eq x y).mpr q))))
theorem lc_ne (hexec : p.tables.exec = Jvm.exec) (hb : c.code = cc) {x y : Int64} {off : Int} {tgt : Nat} (hd1 : decode cc pc = .ok (.lcmp, 1)) (hd2 : decode cc (pc + 1) = .ok (.ifCond .ne off, 3)) (ht : ((pc + 1 : Nat) : Int) + off = (tgt : Int))
    (kt : ¬ x = y → W p l e R s m args below meth c H locs cells slots Q (F0 m tgt ls rest)) (kf : x = y → W p l e R s m args below meth c H locs cells slots Q (F0 m (pc + 1 + 3) ls rest)) : W p l e R s m args below meth c H locs cells slots Q (F0 m pc ls (.long y :: .long x :: rest)) :=
  W.lcmp hexec hb hd1 (lv_if_ne hexec hb hd2 ht (fun h => kt (fun q => h ((lg_cmp_eq x y).mpr q))) (fun h => kf ((lg_cmp_eq x y).mp h)))
end KR
theorem k_blind {av : List Value} {P : Heap → Prop} {D : va_G} {cl : List vw_C} {tys : List (ClassId × FieldType)} : FrameBlind (va_Pc av (fun U => P U.heap ∧ va_K D cl tys U)) := fun a U g mk q => by
  obtain ⟨q0, qP, qK⟩ := q
  exact ⟨q0, qP, va_K.moved (u := U) (U := U.calling g mk a) (Vm.Alike.refl U.vm) qK⟩
theorem k_pre {av : List Value} {P : Heap → Prop} {D : va_G} {cl : List vw_C} {tys : List (ClassId × FieldType)} {H : Heap} {s : State} (hP : P H) (hK : va_K D cl tys s) : ∀ U : State, U.heap = H → s.WarmedH U.vm → va_Pc av (fun U => P U.heap ∧ va_K D cl tys U) av.toArray U := fun U hU hWm => ⟨rfl, by rw [hU]; exact hP, va_K.moved hWm.alike hK⟩
section KC
variable {p : Program} {l : Launch} {e : Env} {R : Room} {s : State} {m : MethodId} {args : Array Value} {below : List Frame} {meth : Method} {c : Code} {H : Heap} {locs : List Loc} {cells slots : Nat} {Q : State → Prop}
variable {pc : Nat} {ls : Array Slot} {rest st0 : List Value} {a : Array Value} {A : Nat → Prop} {H0 : Heap} {P : St → Heap → Prop} {Kp : State → Prop}
theorem kc_i {out : Int32 × St} (hr : va_Run p l e R s m args below meth c H locs cells slots 0 0 (F0 m pc ls st0) rest (va_Qi (fun r u => (r, u) = out) (fun u t => P u t.heap ∧ Kp t) A a) A) (hS : va_S A H0 H locs)
    (kk : ∀ (H1 : Heap) (locs1 : List Loc), P out.2 H1 → va_S A H0 H1 locs1 → W p l e R s m args below meth c H1 locs1 cells slots Q (F0 m (pc + 3) ls (.int out.1 :: rest))) : W p l e R s m args below meth c H locs cells slots Q (F0 m pc ls st0) :=
  va_calli hr hS (fun _ _ h => h) (fun _ h => h) (fun r u t H1 locs1 ht hvm hp hB hz hk hS => by
    cases hp
    exact kk H1 locs1 (by rw [← ht]; exact hB.1) hS)
theorem kc_l {out : Int64 × St} (hr : va_Run p l e R s m args below meth c H locs cells slots 0 0 (F0 m pc ls st0) rest (va_Ql (fun r u => (r, u) = out) (fun u t => P u t.heap ∧ Kp t) A a) A) (hS : va_S A H0 H locs)
    (kk : ∀ (H1 : Heap) (locs1 : List Loc), P out.2 H1 → va_S A H0 H1 locs1 → W p l e R s m args below meth c H1 locs1 cells slots Q (F0 m (pc + 3) ls (.long out.1 :: rest))) : W p l e R s m args below meth c H locs cells slots Q (F0 m pc ls st0) :=
  va_calll hr hS (fun _ _ h => h) (fun _ h => h) (fun r u t H1 locs1 ht hvm hp hB hz hk hS => by
    cases hp
    exact kk H1 locs1 (by rw [← ht]; exact hB.1) hS)
theorem kc_v {out : Unit × St} (hr : va_Run p l e R s m args below meth c H locs cells slots 0 0 (F0 m pc ls st0) rest (va_Qv (fun u => ((), u) = out) (fun u t => P u t.heap ∧ Kp t) A a) A) (hS : va_S A H0 H locs)
    (kk : ∀ (H1 : Heap) (locs1 : List Loc), P out.2 H1 → va_S A H0 H1 locs1 → W p l e R s m args below meth c H1 locs1 cells slots Q (F0 m (pc + 3) ls rest)) : W p l e R s m args below meth c H locs cells slots Q (F0 m pc ls st0) :=
  va_callv hr hS (fun _ _ h => h) (fun _ h => h) (fun u t H1 locs1 ht hvm hp hB hz hk hS => by
    cases hp
    exact kk H1 locs1 (by rw [← ht]; exact hB.1) hS)
end KC
