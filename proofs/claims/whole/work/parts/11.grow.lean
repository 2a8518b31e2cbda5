/-! Making: a new cell beside a world. -/
theorem kw.grow {D : va_G} {cl : List vw_C} {ad ad' : Nat → Nat → Nat} {dom dom' : Nat → Nat → Prop} {ct ct' : Nat → Nat → va_E} {H H1 : Heap} (h : kw D cl ad dom ct H) (ho : ∀ x : Nat, x < H.size → H1[x]? = H[x]?) (hd : ∀ t i, dom' t i → (dom t i ∧ ad' t i = ad t i ∧ ct' t i = ct t i) ∨ (H.size ≤ ad' t i ∧ va_at D cl (ad' t i, ct' t i) H1)) (hi : ∀ t i t' i', dom' t i → dom' t' i' → H.size ≤ ad' t i → ad' t i = ad' t' i' → t = t' ∧ i = i') : kw D cl ad' dom' ct' H1 := by
  refine ⟨fun t i hd' => ?_, fun t i t' i' h1 h2 he => ?_⟩
  · rcases hd t i hd' with ⟨h1, h2, h3⟩ | ⟨-, h2⟩
    · rw [h2, h3]
      exact (h.1 t i h1).kept (ho _ (h.1 t i h1).lt)
    · exact h2
  · rcases hd t i h1 with ⟨g1, g2, g3⟩ | ⟨g1, g2⟩
    · rcases hd t' i' h2 with ⟨k1, k2, k3⟩ | ⟨k1, k2⟩
      · exact h.2 t i t' i' g1 k1 (by rw [← g2, ← k2]; exact he)
      · obtain ⟨e1, e2⟩ := hi t' i' t i h2 h1 k1 he.symm
        exact ⟨e1.symm, e2.symm⟩
    · exact hi t i t' i' h1 h2 g1 he
/-- one more key -/
def kup {α : Type} (f : Nat → Nat → α) (t i : Nat) (v : α) : Nat → Nat → α := fun t' i' => if t' = t ∧ i' = i then v else f t' i'
theorem kup_self {α : Type} (f : Nat → Nat → α) (t i : Nat) (v : α) : kup f t i v t i = v := if_pos ⟨rfl, rfl⟩
theorem kup_ne {α : Type} (f : Nat → Nat → α) {t i t' i' : Nat} (v : α) (h : ¬ (t' = t ∧ i' = i)) : kup f t i v t' i' = f t' i' := if_neg h
theorem kw.one_more {D : va_G} {cl : List vw_C} {ad : Nat → Nat → Nat} {dom : Nat → Nat → Prop} {ct : Nat → Nat → va_E} {H H1 : Heap} (h : kw D cl ad dom ct H) (ho : ∀ x : Nat, x < H.size → H1[x]? = H[x]?) {q : Nat} (hq : q = H.size) {e : va_E} (he : va_at D cl (q, e) H1) (t i : Nat) (hn : ¬ dom t i) : kw D cl (kup ad t i q) (fun t' i' => (t' = t ∧ i' = i) ∨ dom t' i') (kup ct t i e) H1 := by
  refine h.grow ho (fun t' i' hd => ?_) (fun t1 i1 t2 i2 h1 h2 hs e1 => ?_)
  · by_cases hk : t' = t ∧ i' = i
    · obtain ⟨rfl, rfl⟩ := hk
      rw [kup_self, kup_self]
      exact Or.inr ⟨by omega, he⟩
    · rw [kup_ne _ _ hk, kup_ne _ _ hk]
      exact Or.inl ⟨hd.resolve_left hk, rfl, rfl⟩
  · have key : ∀ t' i', ((t' = t ∧ i' = i) ∨ dom t' i') → H.size ≤ kup ad t i q t' i' → t' = t ∧ i' = i := by
      intro t' i' hd hs
      rcases hd with h3 | h3
      · exact h3
      · by_cases hk : t' = t ∧ i' = i
        · exact hk
        · rw [kup_ne _ _ hk] at hs
          have := (h.1 t' i' h3).lt
          have : ad t' i' < H.size := this
          omega
    obtain ⟨rfl, rfl⟩ := key t1 i1 h1 hs
    obtain ⟨rfl, rfl⟩ := key t2 i2 h2 (by rw [← e1]; exact hs)
    exact ⟨rfl, rfl⟩
section KN
variable {p : Program} {l : Launch} {e : Env} {R : Room} {s : State} {m : MethodId} {args : Array Value} {below : List Frame} {meth : Method} {c : Code} {H : Heap} {locs : List Loc} {cells slots : Nat} {Q : State → Prop}
variable {cc : ByteArray} {pc : Nat} {ls : Array Slot} {rest : List Value} {D : va_G} {cl : List vw_C} {A : Nat → Prop} {tys : List (ClassId × FieldType)} {H0 : Heap} {ad : Nat → Nat → Nat} {dom : Nat → Nat → Prop} {ct ct' : Nat → Nat → va_E}
theorem va_S.push {H1 : Heap} (hS : va_S A H0 H locs) (z : H.size ≤ H1.size) (ho : ∀ x : Nat, x < H.size → H1[x]? = H[x]?) : va_S A H0 H1 locs := ⟨Nat.le_trans hS.1 z, fun x h1 h2 => (ho x (Nat.lt_of_lt_of_le h1 hS.1)).trans (hS.2.1 x h1 h2), hS.2.2⟩
theorem k_new (hexec : p.tables.exec = Jvm.exec) (hb : c.code = cc) {own C : String} {T : u_T} {N ci index : Nat} {Ts : List Cond} (hts : ∀ w ∈ Ts, w.before args s = true) (hin : ∀ w ∈ u_ws C T N, w ∈ Ts) (ty : Nat → FieldType) (hty : ∀ k, k < N → parseFieldDescriptor (T k).2.2.1 = some (ty k)) (hown : s.vm.findClass own = some m.cls) (hcl : (Cond.classLink own index C).before args s = true) (hinst : (Cond.instantiable C N).before args s = true) (hini : (Cond.initialized C).before args s = true) (hK : va_K D cl tys s) (hS : va_S A H0 H locs) (hc : cl[ci]? = some (C, T, N)) {fs : List Value} (hfs : ∀ j, j < N → defaultValue (ty j) = vp_V fs j) (hcells : cells + 1 ≤ R.cells) (hslots : slots + N ≤ R.slots) (hdg : decode cc pc = .ok (.new index, 3))
    (kk : ∀ (q : Nat) (H1 : Heap), q = H.size → H1.size = H.size + 1 → va_at D cl (q, .inr (ci, fs)) H1 → (∀ x : Nat, x < H.size → H1[x]? = H[x]?) → va_S A H0 H1 locs → W p l e R s m args below meth c H1 locs (cells + 1) (slots + N) Q (F0 m (pc + 3) ls (.ref q :: rest))) : W p l e R s m args below meth c H locs cells slots Q (F0 m pc ls rest) := by
  have hKn := hK.1 ci _ hc
  refine W.newcK hexec hb hown hcl hinst hini rfl hdg hcells hslots hKn.2.1 rfl fun H1 kC hkC e1 z1 o1 => ?_
  exact kk H.size H1 rfl z1 ⟨_, hc, (u_born ty hts hin hKn hkC e1 hty).to hfs⟩ o1 (hS.push (by omega) o1)
theorem k_newa (hexec : p.tables.exec = Jvm.exec) (hb : c.code = cc) {atype : ArrayType} (harr : (Cond.arrayClass (newarray.typeOf atype)).before args s = true) {ty : FieldType} (hty : newarray.typeOf atype = ty) (hnob : ∀ C, ty ≠ .object C) (hK : va_K D cl tys s) (hS : va_S A H0 H locs) (t0 : Nat) {cA : ClassId} (ht : tys[t0]? = some (cA, ty)) {n : Int32} {N' : Nat} {a0 : vp_A} (ha : vp_cell cA a0 = arrV cA N' (fun _ => defaultValue ty)) (hn : ¬ n < 0) (hN : n.toNatClampNeg = N') (hbytes : N' * componentBytes ty ≤ 536870912) (hcells : cells + 1 ≤ R.cells) (hslots : slots + N' ≤ R.slots) (hdg : decode cc pc = .ok (.newarray atype, 2))
    (kk : ∀ (q : Nat) (H1 : Heap), q = H.size → H1.size = H.size + 1 → va_at D cl (q, .inl (cA, a0)) H1 → (∀ x : Nat, x < H.size → H1[x]? = H[x]?) → va_S A H0 H1 locs → W p l e R s m args below meth c H1 locs (cells + 1) (slots + N') Q (F0 m (pc + 2) ls (.ref q :: rest))) : W p l e R s m args below meth c H locs cells slots Q (F0 m pc ls (.int n :: rest)) := by
  subst hty
  refine va_newaK hexec hb harr rfl hdg rfl hn hN hbytes hcells hslots rfl fun H1 cA' e1 z1 o1 hAr hNm => ?_
  have h2 := (hK.2 t0 _ ht).2
  have h3 : s.vm.findClass ("[" ++ (newarray.typeOf atype).toString) = some cA := by cases atype <;> exact h2
  have h4 : cA' = cA := Option.some.inj (hNm.symm.trans h3)
  subst h4
  refine kk H.size H1 rfl z1 ?_ o1 (hS.push (by omega) o1)
  show H1[H.size]? = some (vp_cell _ _)
  rw [ha]
  exact e1
theorem k_newq (hexec : p.tables.exec = Jvm.exec) (hb : c.code = cc) {own C : String} {index : Nat} (hown : s.vm.findClass own = some m.cls) (hclink : (Cond.classLink own index C).before args s = true) (hover : va_AO C s) (hK : va_K D cl tys s) (hS : va_S A H0 H locs) (t0 : Nat) {cA : ClassId} (ht : tys[t0]? = some (cA, .object C)) {n : Int32} {N' : Nat} (hn : ¬ n < 0) (hN : n.toNatClampNeg = N') (hbytes : N' * 4 ≤ 536870912) (hcells : cells + 1 ≤ R.cells) (hslots : slots + N' ≤ R.slots) (hdg : decode cc pc = .ok (.anewarray index, 3))
    (kk : ∀ (q : Nat) (H1 : Heap), q = H.size → H1.size = H.size + 1 → va_at D cl (q, .inl (cA, N', .inr (.inr (.inr (.inr (fun _ => none)))))) H1 → (∀ x : Nat, x < H.size → H1[x]? = H[x]?) → va_S A H0 H1 locs → W p l e R s m args below meth c H1 locs (cells + 1) (slots + N') Q (F0 m (pc + 3) ls (.ref q :: rest))) : W p l e R s m args below meth c H locs cells slots Q (F0 m pc ls (.int n :: rest)) := by
  subst hN
  refine W.anew hexec hb hown hclink (va_AO.use hover) rfl hdg rfl hn hbytes hcells hslots fun cA' kA comp f1 f2 f3 f4 => ?_
  generalize hH1 : H.push ({ cls := cA', slots := Array.replicate n.toNatClampNeg .null, vm := .none } : Cell) = H1
  have z1 : H1.size = H.size + 1 := by rw [← hH1, Array.size_push]
  have e1 : H1[H.size]? = some (arrV cA' n.toNatClampNeg (fun _ => .null)) := by rw [← hH1, Array.getElem?_push_size, ← arrV_new]
  have o1 : ∀ q : Nat, q < H.size → H1[q]? = H[q]? := fun q hq => by rw [← hH1, Array.getElem?_push, if_neg (Nat.ne_of_lt hq)]
  obtain ⟨kA2, comp2, g1, g2, g3, g4⟩ := (hK.2 t0 _ ht).2
  have h4 : cA' = cA := by first | exact Option.some.inj (f1.symm.trans g4) | exact Option.some.inj (f4.symm.trans g4) | exact Option.some.inj (f2.symm.trans g4) | exact Option.some.inj (f3.symm.trans g4)
  subst h4
  exact kk H.size H1 rfl z1 e1 o1 (hS.push (by omega) o1)
theorem k_putF (hexec : p.tables.exec = Jvm.exec) (hb : c.code = cc) {own ref C : String} {T : u_T} {N ci index : Nat} {Ts : List Cond} (hts : ∀ w ∈ Ts, w.before args s = true) (hin : ∀ w ∈ u_ws C T N, w ∈ Ts) (ty0 : Nat → FieldType) (hty : ∀ k, k < N → parseFieldDescriptor (T k).2.2.1 = some (ty0 k)) (hnm : ∀ a, a < N → ∀ b, b < N → a ≠ b → (T a).2.1 ≠ (T b).2.1) (hown : s.vm.findClass own = some m.cls) (hK : va_K D cl tys s) (hW : kw D cl ad dom ct H) (hS0 : va_S A H0 H locs) {t i : Nat} (hd : dom t i) (hAa : A (ad t i)) {fs : List Value} (he : ct t i = .inr (ci, fs)) (hc : cl[ci]? = some (C, T, N)) (k : Nat) (hk : k < N) (hlink : (Cond.fieldLink own index ref (T k).2.1 (T k).2.2.1).before args s = true) (hsame : ∀ x, s.fieldFound? (T k).1 (T k).2.1 (T k).2.2.1 = some x → s.fieldFound? ref (T k).2.1 (T k).2.2.1 = some x) (hfin : (T k).2.2.2 = true) (hin2 : meth.name = "<init>") (hdecl : (T k).1 = own) {ty : FieldType} {v : Value} (hdd : parseFieldDescriptor (T k).2.2.1 = some ty) (hn : narrow ty v = v) (hfit : fits ty v = true) (hl : k < fs.length)
    (hdg : decode cc pc = .ok (.putfield index, 3)) (hct : ∀ t' i', dom t' i' → ct' t' i' = if t' = t ∧ i' = i then .inr (ci, fs.set k v) else ct t' i') (kk : ∀ (H1 : Heap) (locs1 : List Loc), kw D cl ad dom ct' H1 → va_S A H0 H1 locs1 → W p l e R s m args below meth c H1 locs1 cells slots Q (F0 m (pc + 3) ls rest)) : W p l e R s m args below meth c H locs cells slots Q (F0 m pc ls (v :: .ref (ad t i) :: rest)) := by
  have hap := va_apart (own := own) hts hin ty0 hty hnm hK hc
  have hat := hW.1 t i hd
  rw [he] at hat
  obtain ⟨r, h1, cell, q1, q2, q3, q4⟩ := hat
  have hr : r = (C, T, N) := Option.some.inj (h1.symm.trans hc)
  subst hr
  obtain ⟨hS, hfc, kC, hkC, hkind⟩ := hK.1 ci _ hc
  obtain ⟨cf, kf, fi, f, hi, hsl⟩ := hS k hk
  have hlay := hts _ (hin _ (u_in_lay hk))
  unfold u_lay at hlay
  rw [if_pos hfin] at hlay
  have hst := (u_facts hfc hkC (u_lays hts hin hk) hi).1
  have hcf : m.cls = cf := by
    obtain ⟨_, _, c', _, _, _, -, -, hf', -, -, -, hown2, -⟩ := Cond.laysFinal_spec hlay
    have e1 : c' = cf := by have := hi.symm.trans hf'; simp at this; exact this.1.symm
    rw [hdecl] at hown2
    rw [← e1]; exact Option.some.inj (hown.symm.trans hown2)
  have h6 := u_fits hfc hkC hkind (Or.inr hlay) hi hdd hn hfit
  refine W.putFinK hexec hb hown hlink (hsame _ hi) hst hcf hin2 (by rw [q2]; exact h6) q1 q3 (by rw [hsl]; exact k2_hasslot (q4 k hk)) rfl rfl hdg fun H' e1 e2 e3 => ?_
  rw [hsl] at e1 ⊢
  exact kk H' _ (hW.put hd (e := .inr (ci, fs.set k v)) ⟨_, hc, t_OB.to (V := updV (vp_V fs) k v) ⟨_, e1, q2, q3, t_set q4 hap hk v⟩ (fun j _ => vp_updV_set hl v j)⟩ (fun q _ h => e3 q h) hct) (hS0.put e2 e3 hAa)
end KN
