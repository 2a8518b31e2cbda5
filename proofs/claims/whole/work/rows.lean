section
-- ===== PART A: goes FIRST, ahead of the names: the tables' words, and 'selects' of the private methods out of them =====
/-- a private method of a class that the tables say can be made, by its rows of tables_1 -/
def lw_okq (q : MethodName × Nat) : Prop := (q.1.cls ≠ "java/lang/invoke/MethodHandle" ∧ q.1.cls ≠ "java/lang/invoke/VarHandle") ∧ Cond.instantiable q.1.cls q.2 ∈ tables_1 ∧ Cond.privateMethod q.1 ∈ tables_1 ∧ Cond.instanceMethod q.1 ∈ tables_1
theorem lw_p0 : lw_okq (⟨"GridlockDesk", "isBank", "(I)Z"⟩, 6) := ⟨⟨by decide +kernel, by decide +kernel⟩, List.mem_of_getElem? (i := 8) (by decide +kernel), List.mem_of_getElem? (i := 88) (by decide +kernel), List.mem_of_getElem? (i := 89) (by decide +kernel)⟩
theorem lw_p1 : lw_okq (⟨"GridlockDesk", "sweep", "()V"⟩, 6) := ⟨⟨by decide +kernel, by decide +kernel⟩, List.mem_of_getElem? (i := 8) (by decide +kernel), List.mem_of_getElem? (i := 94) (by decide +kernel), List.mem_of_getElem? (i := 95) (by decide +kernel)⟩
theorem lw_p2 : lw_okq (⟨"GridlockDesk", "chooseReadyHead", "()Z"⟩, 6) := ⟨⟨by decide +kernel, by decide +kernel⟩, List.mem_of_getElem? (i := 8) (by decide +kernel), List.mem_of_getElem? (i := 98) (by decide +kernel), List.mem_of_getElem? (i := 99) (by decide +kernel)⟩
theorem lw_p3 : lw_okq (⟨"GridlockDesk", "chooseHeads", "(II)Z"⟩, 6) := ⟨⟨by decide +kernel, by decide +kernel⟩, List.mem_of_getElem? (i := 8) (by decide +kernel), List.mem_of_getElem? (i := 102) (by decide +kernel), List.mem_of_getElem? (i := 103) (by decide +kernel)⟩
theorem lw_p4 : lw_okq (⟨"GridlockDesk", "firstUnwellBank", "()I"⟩, 6) := ⟨⟨by decide +kernel, by decide +kernel⟩, List.mem_of_getElem? (i := 8) (by decide +kernel), List.mem_of_getElem? (i := 109) (by decide +kernel), List.mem_of_getElem? (i := 110) (by decide +kernel)⟩
theorem lw_p5 : lw_okq (⟨"GridlockDesk", "wouldBeWell", "(I)Z"⟩, 6) := ⟨⟨by decide +kernel, by decide +kernel⟩, List.mem_of_getElem? (i := 8) (by decide +kernel), List.mem_of_getElem? (i := 113) (by decide +kernel), List.mem_of_getElem? (i := 114) (by decide +kernel)⟩
theorem lw_p6 : lw_okq (⟨"GridlockDesk", "positionOf", "(II)J"⟩, 6) := ⟨⟨by decide +kernel, by decide +kernel⟩, List.mem_of_getElem? (i := 8) (by decide +kernel), List.mem_of_getElem? (i := 125) (by decide +kernel), List.mem_of_getElem? (i := 126) (by decide +kernel)⟩
theorem lw_p7 : lw_okq (⟨"GridlockDesk", "settleChosen", "(I)I"⟩, 6) := ⟨⟨by decide +kernel, by decide +kernel⟩, List.mem_of_getElem? (i := 8) (by decide +kernel), List.mem_of_getElem? (i := 129) (by decide +kernel), List.mem_of_getElem? (i := 130) (by decide +kernel)⟩
theorem lw_p8 : lw_okq (⟨"GridlockDesk", "settle", "(LGridlockDesk$Payment;I)V"⟩, 6) := ⟨⟨by decide +kernel, by decide +kernel⟩, List.mem_of_getElem? (i := 8) (by decide +kernel), List.mem_of_getElem? (i := 133) (by decide +kernel), List.mem_of_getElem? (i := 134) (by decide +kernel)⟩
theorem lw_p9 : lw_okq (⟨"GridlockDesk", "end", "(LGridlockDesk$Payment;I)V"⟩, 6) := ⟨⟨by decide +kernel, by decide +kernel⟩, List.mem_of_getElem? (i := 8) (by decide +kernel), List.mem_of_getElem? (i := 137) (by decide +kernel), List.mem_of_getElem? (i := 138) (by decide +kernel)⟩
theorem lw_p10 : lw_okq (⟨"GridlockDesk", "chooseReadyPair", "()Z"⟩, 6) := ⟨⟨by decide +kernel, by decide +kernel⟩, List.mem_of_getElem? (i := 8) (by decide +kernel), List.mem_of_getElem? (i := 145) (by decide +kernel), List.mem_of_getElem? (i := 146) (by decide +kernel)⟩
theorem lw_p11 : lw_okq (⟨"GridlockDesk", "areTwoBanks", "(II)Z"⟩, 6) := ⟨⟨by decide +kernel, by decide +kernel⟩, List.mem_of_getElem? (i := 8) (by decide +kernel), List.mem_of_getElem? (i := 162) (by decide +kernel), List.mem_of_getElem? (i := 163) (by decide +kernel)⟩
theorem lw_p12 : lw_okq (⟨"GridlockDesk", "totalPositionOf", "(I)J"⟩, 6) := ⟨⟨by decide +kernel, by decide +kernel⟩, List.mem_of_getElem? (i := 8) (by decide +kernel), List.mem_of_getElem? (i := 173) (by decide +kernel), List.mem_of_getElem? (i := 174) (by decide +kernel)⟩
theorem lw_p13 : lw_okq (⟨"GridlockDesk", "isQueued", "(I)Z"⟩, 6) := ⟨⟨by decide +kernel, by decide +kernel⟩, List.mem_of_getElem? (i := 8) (by decide +kernel), List.mem_of_getElem? (i := 229) (by decide +kernel), List.mem_of_getElem? (i := 230) (by decide +kernel)⟩
theorem lw_p14 : lw_okq (⟨"GridlockDesk", "isPayment", "(I)Z"⟩, 6) := ⟨⟨by decide +kernel, by decide +kernel⟩, List.mem_of_getElem? (i := 8) (by decide +kernel), List.mem_of_getElem? (i := 233) (by decide +kernel), List.mem_of_getElem? (i := 234) (by decide +kernel)⟩
theorem lw_p15 : lw_okq (⟨"GridlockDesk", "chooseGreatest", "()V"⟩, 6) := ⟨⟨by decide +kernel, by decide +kernel⟩, List.mem_of_getElem? (i := 8) (by decide +kernel), List.mem_of_getElem? (i := 245) (by decide +kernel), List.mem_of_getElem? (i := 246) (by decide +kernel)⟩
def lw_privs_1 : List (MethodName × Nat) := [(⟨"GridlockDesk", "isBank", "(I)Z"⟩, 6), (⟨"GridlockDesk", "sweep", "()V"⟩, 6), (⟨"GridlockDesk", "chooseReadyHead", "()Z"⟩, 6), (⟨"GridlockDesk", "chooseHeads", "(II)Z"⟩, 6), (⟨"GridlockDesk", "firstUnwellBank", "()I"⟩, 6), (⟨"GridlockDesk", "wouldBeWell", "(I)Z"⟩, 6), (⟨"GridlockDesk", "positionOf", "(II)J"⟩, 6), (⟨"GridlockDesk", "settleChosen", "(I)I"⟩, 6), (⟨"GridlockDesk", "settle", "(LGridlockDesk$Payment;I)V"⟩, 6), (⟨"GridlockDesk", "end", "(LGridlockDesk$Payment;I)V"⟩, 6), (⟨"GridlockDesk", "chooseReadyPair", "()Z"⟩, 6), (⟨"GridlockDesk", "areTwoBanks", "(II)Z"⟩, 6), (⟨"GridlockDesk", "totalPositionOf", "(I)J"⟩, 6), (⟨"GridlockDesk", "isQueued", "(I)Z"⟩, 6), (⟨"GridlockDesk", "isPayment", "(I)Z"⟩, 6), (⟨"GridlockDesk", "chooseGreatest", "()V"⟩, 6)]
theorem lw_r1 : ∀ q ∈ lw_privs_1, lw_okq q := List.forall_mem_cons.mpr ⟨lw_p0, List.forall_mem_cons.mpr ⟨lw_p1, List.forall_mem_cons.mpr ⟨lw_p2, List.forall_mem_cons.mpr ⟨lw_p3, List.forall_mem_cons.mpr ⟨lw_p4, List.forall_mem_cons.mpr ⟨lw_p5, List.forall_mem_cons.mpr ⟨lw_p6, List.forall_mem_cons.mpr ⟨lw_p7, List.forall_mem_cons.mpr ⟨lw_p8, List.forall_mem_cons.mpr ⟨lw_p9, List.forall_mem_cons.mpr ⟨lw_p10, List.forall_mem_cons.mpr ⟨lw_p11, List.forall_mem_cons.mpr ⟨lw_p12, List.forall_mem_cons.mpr ⟨lw_p13, List.forall_mem_cons.mpr ⟨lw_p14, List.forall_mem_cons.mpr ⟨lw_p15, fun _ h => absurd h List.not_mem_nil⟩⟩⟩⟩⟩⟩⟩⟩⟩⟩⟩⟩⟩⟩⟩⟩
theorem lw_p16 : lw_okq (⟨"GridlockDeskModel", "lineUp", "()V"⟩, 22) := ⟨⟨by decide +kernel, by decide +kernel⟩, List.mem_of_getElem? (i := 289) (by decide +kernel), List.mem_of_getElem? (i := 367) (by decide +kernel), List.mem_of_getElem? (i := 368) (by decide +kernel)⟩
theorem lw_p17 : lw_okq (⟨"GridlockDeskModel", "before", "(II)Z"⟩, 22) := ⟨⟨by decide +kernel, by decide +kernel⟩, List.mem_of_getElem? (i := 289) (by decide +kernel), List.mem_of_getElem? (i := 371) (by decide +kernel), List.mem_of_getElem? (i := 372) (by decide +kernel)⟩
theorem lw_p18 : lw_okq (⟨"GridlockDeskModel", "good", "(I)Z"⟩, 22) := ⟨⟨by decide +kernel, by decide +kernel⟩, List.mem_of_getElem? (i := 289) (by decide +kernel), List.mem_of_getElem? (i := 375) (by decide +kernel), List.mem_of_getElem? (i := 376) (by decide +kernel)⟩
theorem lw_p19 : lw_okq (⟨"GridlockDeskModel", "now0", "()V"⟩, 22) := ⟨⟨by decide +kernel, by decide +kernel⟩, List.mem_of_getElem? (i := 289) (by decide +kernel), List.mem_of_getElem? (i := 379) (by decide +kernel), List.mem_of_getElem? (i := 380) (by decide +kernel)⟩
theorem lw_p20 : lw_okq (⟨"GridlockDeskModel", "plan", "(I)V"⟩, 22) := ⟨⟨by decide +kernel, by decide +kernel⟩, List.mem_of_getElem? (i := 289) (by decide +kernel), List.mem_of_getElem? (i := 386) (by decide +kernel), List.mem_of_getElem? (i := 387) (by decide +kernel)⟩
theorem lw_p21 : lw_okq (⟨"GridlockDeskModel", "allWell", "()Z"⟩, 22) := ⟨⟨by decide +kernel, by decide +kernel⟩, List.mem_of_getElem? (i := 289) (by decide +kernel), List.mem_of_getElem? (i := 390) (by decide +kernel), List.mem_of_getElem? (i := 391) (by decide +kernel)⟩
theorem lw_p22 : lw_okq (⟨"GridlockDeskModel", "settle", "(II)V"⟩, 22) := ⟨⟨by decide +kernel, by decide +kernel⟩, List.mem_of_getElem? (i := 289) (by decide +kernel), List.mem_of_getElem? (i := 394) (by decide +kernel), List.mem_of_getElem? (i := 395) (by decide +kernel)⟩
theorem lw_p23 : lw_okq (⟨"GridlockDeskModel", "sweep", "()V"⟩, 22) := ⟨⟨by decide +kernel, by decide +kernel⟩, List.mem_of_getElem? (i := 289) (by decide +kernel), List.mem_of_getElem? (i := 398) (by decide +kernel), List.mem_of_getElem? (i := 399) (by decide +kernel)⟩
theorem lw_p24 : lw_okq (⟨"GridlockDeskModel", "alone", "()Z"⟩, 22) := ⟨⟨by decide +kernel, by decide +kernel⟩, List.mem_of_getElem? (i := 289) (by decide +kernel), List.mem_of_getElem? (i := 402) (by decide +kernel), List.mem_of_getElem? (i := 403) (by decide +kernel)⟩
theorem lw_p25 : lw_okq (⟨"GridlockDeskModel", "ready", "(II)Z"⟩, 22) := ⟨⟨by decide +kernel, by decide +kernel⟩, List.mem_of_getElem? (i := 289) (by decide +kernel), List.mem_of_getElem? (i := 406) (by decide +kernel), List.mem_of_getElem? (i := 407) (by decide +kernel)⟩
theorem lw_p26 : lw_okq (⟨"GridlockDeskModel", "pair", "()Z"⟩, 22) := ⟨⟨by decide +kernel, by decide +kernel⟩, List.mem_of_getElem? (i := 289) (by decide +kernel), List.mem_of_getElem? (i := 410) (by decide +kernel), List.mem_of_getElem? (i := 411) (by decide +kernel)⟩
theorem lw_p27 : lw_okq (⟨"GridlockDeskModel", "isBank", "(I)Z"⟩, 22) := ⟨⟨by decide +kernel, by decide +kernel⟩, List.mem_of_getElem? (i := 289) (by decide +kernel), List.mem_of_getElem? (i := 418) (by decide +kernel), List.mem_of_getElem? (i := 419) (by decide +kernel)⟩
theorem lw_p28 : lw_okq (⟨"GridlockDeskModel", "queuedAt", "(I)I"⟩, 22) := ⟨⟨by decide +kernel, by decide +kernel⟩, List.mem_of_getElem? (i := 289) (by decide +kernel), List.mem_of_getElem? (i := 441) (by decide +kernel), List.mem_of_getElem? (i := 442) (by decide +kernel)⟩
theorem lw_p29 : lw_okq (⟨"GridlockDeskModel", "isQueued", "(I)Z"⟩, 22) := ⟨⟨by decide +kernel, by decide +kernel⟩, List.mem_of_getElem? (i := 289) (by decide +kernel), List.mem_of_getElem? (i := 449) (by decide +kernel), List.mem_of_getElem? (i := 450) (by decide +kernel)⟩
def lw_privs_2 : List (MethodName × Nat) := [(⟨"GridlockDeskModel", "lineUp", "()V"⟩, 22), (⟨"GridlockDeskModel", "before", "(II)Z"⟩, 22), (⟨"GridlockDeskModel", "good", "(I)Z"⟩, 22), (⟨"GridlockDeskModel", "now0", "()V"⟩, 22), (⟨"GridlockDeskModel", "plan", "(I)V"⟩, 22), (⟨"GridlockDeskModel", "allWell", "()Z"⟩, 22), (⟨"GridlockDeskModel", "settle", "(II)V"⟩, 22), (⟨"GridlockDeskModel", "sweep", "()V"⟩, 22), (⟨"GridlockDeskModel", "alone", "()Z"⟩, 22), (⟨"GridlockDeskModel", "ready", "(II)Z"⟩, 22), (⟨"GridlockDeskModel", "pair", "()Z"⟩, 22), (⟨"GridlockDeskModel", "isBank", "(I)Z"⟩, 22), (⟨"GridlockDeskModel", "queuedAt", "(I)I"⟩, 22), (⟨"GridlockDeskModel", "isQueued", "(I)Z"⟩, 22)]
theorem lw_r2 : ∀ q ∈ lw_privs_2, lw_okq q := List.forall_mem_cons.mpr ⟨lw_p16, List.forall_mem_cons.mpr ⟨lw_p17, List.forall_mem_cons.mpr ⟨lw_p18, List.forall_mem_cons.mpr ⟨lw_p19, List.forall_mem_cons.mpr ⟨lw_p20, List.forall_mem_cons.mpr ⟨lw_p21, List.forall_mem_cons.mpr ⟨lw_p22, List.forall_mem_cons.mpr ⟨lw_p23, List.forall_mem_cons.mpr ⟨lw_p24, List.forall_mem_cons.mpr ⟨lw_p25, List.forall_mem_cons.mpr ⟨lw_p26, List.forall_mem_cons.mpr ⟨lw_p27, List.forall_mem_cons.mpr ⟨lw_p28, List.forall_mem_cons.mpr ⟨lw_p29, fun _ h => absurd h List.not_mem_nil⟩⟩⟩⟩⟩⟩⟩⟩⟩⟩⟩⟩⟩⟩
def lw_privs : List (MethodName × Nat) := lw_privs_1 ++ (lw_privs_2)
def lw_tbl : List Cond := k2_sels lw_privs ++ tables_1
theorem lw_privs_ok : ∀ q ∈ lw_privs, lw_okq q := by
  show ∀ q ∈ lw_privs_1 ++ (lw_privs_2), lw_okq q
  exact List.forall_mem_append.mpr ⟨lw_r1, lw_r2⟩
def TB : List Cond := lw_tbl.filter goodWord
theorem tb_good : ∀ w ∈ TB, goodWord w = true := fun w h => (List.mem_filter.mp h).2
theorem tb_in {w : Cond} (k : Nat) (h : lw_tbl[k]? = some w) (hg : goodWord w = true) : w ∈ TB := List.mem_filter.mpr ⟨List.mem_of_getElem? h, hg⟩
theorem tb_V {own C : String} {idx k : Nat} {y : MethodName} {b : ByteArray} {r : Option FieldType} {c0 : Cond} (h1 : Cond.methodLink own idx y ∈ TB) (h2 : Cond.instanceMethod y ∈ TB) (h3 : Cond.selects C y y ∈ TB) (h4 : Cond.initialized C ∈ TB) (h5 : Cond.code y b k r ∈ TB) : GoodIn (c0 :: TB) (wsV own idx C y (.code y b k r :: TB)) := by
  intro w hw
  have key : w ∈ TB := by
    rcases List.mem_append.mp hw with h | h
    · rcases List.mem_cons.mp h with rfl | h
      · exact h1
      rcases List.mem_cons.mp h with rfl | h
      · exact h2
      rcases List.mem_cons.mp h with rfl | h
      · exact h3
      rcases List.mem_cons.mp h with rfl | h
      · exact h4
      · cases h
    · rcases List.mem_cons.mp h with rfl | h
      · exact h5
      · exact h
  exact ⟨List.mem_cons_of_mem _ key, good_of_word (tb_good w key)⟩
theorem tb_S {own : String} {idx k : Nat} {y : MethodName} {b : ByteArray} {r : Option FieldType} {c0 : Cond} (h1 : Cond.methodLink own idx y ∈ TB) (h2 : Cond.static y ∈ TB) (h4 : Cond.initialized y.cls ∈ TB) (h5 : Cond.code y b k r ∈ TB) : GoodIn (c0 :: TB) (va_wsS own idx y (.code y b k r :: TB)) := by
  intro w hw
  have key : w ∈ TB := by
    rcases List.mem_append.mp hw with h | h
    · rcases List.mem_cons.mp h with rfl | h
      · exact h1
      rcases List.mem_cons.mp h with rfl | h
      · exact h2
      rcases List.mem_cons.mp h with rfl | h
      · exact h4
      · cases h
    · rcases List.mem_cons.mp h with rfl | h
      · exact h5
      · exact h
  exact ⟨List.mem_cons_of_mem _ key, good_of_word (tb_good w key)⟩
theorem tb_C {b : ByteArray} {k : Nat} {y : MethodName} {r : Option FieldType} {c0 : Cond} (h5 : Cond.code y b k r ∈ TB) : GoodIn (c0 :: TB) (.code y b k r :: TB) := by
  intro w hw
  have key : w ∈ TB := by
    rcases List.mem_cons.mp hw with rfl | h
    · exact h5
    · exact h
  exact ⟨List.mem_cons_of_mem _ key, good_of_word (tb_good w key)⟩
def T_B : u_T := fun k => match k with
  | 0 => ("GridlockDesk$Bank", "balance", "J", false)
  | 1 => ("GridlockDesk$Bank", "creditLine", "J", false)
  | 2 => ("GridlockDesk$Bank", "totalLimit", "J", false)
  | 3 => ("GridlockDesk$Bank", "limits", "[J", true)
  | 4 => ("GridlockDesk$Bank", "sent", "[J", true)
  | 5 => ("GridlockDesk$Bank", "queue", "[LGridlockDesk$Payment;", true)
  | _ => ("GridlockDesk$Bank", "queueLength", "I", false)
def ft_B : Nat → FieldType := fun k => match k with
  | 0 => .long
  | 1 => .long
  | 2 => .long
  | 3 => .array .long
  | 4 => .array .long
  | 5 => .array (.object "GridlockDesk$Payment")
  | _ => .int
theorem nm_B : ∀ a, a < 7 → ∀ b, b < 7 → a ≠ b → (T_B a).2.1 ≠ (T_B b).2.1 := by decide +kernel
theorem ft_B_ok : ∀ k, k < 7 → parseFieldDescriptor (T_B k).2.2.1 = some (ft_B k) := by decide +kernel
theorem hin_B : ∀ w ∈ u_ws "GridlockDesk$Bank" T_B 7, w ∈ TB := by decide +kernel
def T_P : u_T := fun k => match k with
  | 0 => ("GridlockDesk$Payment", "number", "I", true)
  | 1 => ("GridlockDesk$Payment", "from", "I", true)
  | 2 => ("GridlockDesk$Payment", "to", "I", true)
  | 3 => ("GridlockDesk$Payment", "amount", "J", true)
  | 4 => ("GridlockDesk$Payment", "until", "I", true)
  | 5 => ("GridlockDesk$Payment", "priority", "I", false)
  | _ => ("GridlockDesk$Payment", "fate", "I", false)
def ft_P : Nat → FieldType := fun k => match k with
  | 0 => .int
  | 1 => .int
  | 2 => .int
  | 3 => .long
  | 4 => .int
  | 5 => .int
  | _ => .int
theorem nm_P : ∀ a, a < 7 → ∀ b, b < 7 → a ≠ b → (T_P a).2.1 ≠ (T_P b).2.1 := by decide +kernel
theorem ft_P_ok : ∀ k, k < 7 → parseFieldDescriptor (T_P k).2.2.1 = some (ft_P k) := by decide +kernel
theorem hin_P : ∀ w ∈ u_ws "GridlockDesk$Payment" T_P 7, w ∈ TB := by decide +kernel
def T_X : u_T := fun k => match k with
  | 0 => ("GridlockDesk", "banks", "[LGridlockDesk$Bank;", true)
  | 1 => ("GridlockDesk", "payments", "[LGridlockDesk$Payment;", true)
  | 2 => ("GridlockDesk", "paymentCount", "I", false)
  | 3 => ("GridlockDesk", "settledSum", "J", false)
  | 4 => ("GridlockDesk", "time", "I", false)
  | _ => ("GridlockDesk", "chosen", "[I", true)
def ft_X : Nat → FieldType := fun k => match k with
  | 0 => .array (.object "GridlockDesk$Bank")
  | 1 => .array (.object "GridlockDesk$Payment")
  | 2 => .int
  | 3 => .long
  | 4 => .int
  | _ => .array .int
theorem nm_X : ∀ a, a < 6 → ∀ b, b < 6 → a ≠ b → (T_X a).2.1 ≠ (T_X b).2.1 := by decide +kernel
theorem ft_X_ok : ∀ k, k < 6 → parseFieldDescriptor (T_X k).2.2.1 = some (ft_X k) := by decide +kernel
theorem hin_X : ∀ w ∈ u_ws "GridlockDesk" T_X 6, w ∈ TB := by decide +kernel
def T_M : u_T := fun k => match k with
  | 0 => ("GridlockDeskModel", "n", "I", false)
  | 1 => ("GridlockDeskModel", "time", "I", false)
  | 2 => ("GridlockDeskModel", "settledInAll", "J", false)
  | 3 => ("GridlockDeskModel", "funds", "[J", true)
  | 4 => ("GridlockDeskModel", "line", "[J", true)
  | 5 => ("GridlockDeskModel", "totals", "[J", true)
  | 6 => ("GridlockDeskModel", "limits", "[J", true)
  | 7 => ("GridlockDeskModel", "sent", "[J", true)
  | 8 => ("GridlockDeskModel", "count", "I", false)
  | 9 => ("GridlockDeskModel", "stamps", "I", false)
  | 10 => ("GridlockDeskModel", "payer", "[I", true)
  | 11 => ("GridlockDeskModel", "payee", "[I", true)
  | 12 => ("GridlockDeskModel", "sum", "[J", true)
  | 13 => ("GridlockDeskModel", "rank", "[I", true)
  | 14 => ("GridlockDeskModel", "last", "[I", true)
  | 15 => ("GridlockDeskModel", "stamp", "[I", true)
  | 16 => ("GridlockDeskModel", "fate", "[I", true)
  | 17 => ("GridlockDeskModel", "queue", "[I", true)
  | 18 => ("GridlockDeskModel", "queueLength", "[I", true)
  | 19 => ("GridlockDeskModel", "thenFunds", "[J", true)
  | 20 => ("GridlockDeskModel", "thenSent", "[J", true)
  | _ => ("GridlockDeskModel", "best", "[I", true)
def ft_M : Nat → FieldType := fun k => match k with
  | 0 => .int
  | 1 => .int
  | 2 => .long
  | 3 => .array .long
  | 4 => .array .long
  | 5 => .array .long
  | 6 => .array .long
  | 7 => .array .long
  | 8 => .int
  | 9 => .int
  | 10 => .array .int
  | 11 => .array .int
  | 12 => .array .long
  | 13 => .array .int
  | 14 => .array .int
  | 15 => .array .int
  | 16 => .array .int
  | 17 => .array .int
  | 18 => .array .int
  | 19 => .array .long
  | 20 => .array .long
  | _ => .array .int
theorem nm_M : ∀ a, a < 22 → ∀ b, b < 22 → a ≠ b → (T_M a).2.1 ≠ (T_M b).2.1 := by decide +kernel
theorem ft_M_ok : ∀ k, k < 22 → parseFieldDescriptor (T_M k).2.2.1 = some (ft_M k) := by decide +kernel
theorem hin_M : ∀ w ∈ u_ws "GridlockDeskModel" T_M 22, w ∈ TB := by decide +kernel
abbrev vCl : List vw_C := [("GridlockDesk$Bank", T_B, 7), ("GridlockDesk$Payment", T_P, 7), ("GridlockDesk", T_X, 6), ("GridlockDeskModel", T_M, 22)]
end
section
/-! The typed store: ints, longs, references by (component, index, index), and how many objects of the growing kind there are. -/
abbrev St : Type := (Nat → Nat → Nat → Int32) × (Nat → Nat → Nat → Int64) × (Nat → Nat → Nat → Option Nat) × Nat
def sI (σ : St) (c i j : Nat) : Int32 := σ.1 c i j
def sL (σ : St) (c i j : Nat) : Int64 := σ.2.1 c i j
def sR (σ : St) (c i j : Nat) : Option Nat := σ.2.2.1 c i j
def sN (σ : St) : Nat := σ.2.2.2
def wI (σ : St) (c i j : Nat) (v : Int32) : St := (fun c' i' j' => if c' = c ∧ i' = i ∧ j' = j then v else σ.1 c' i' j', σ.2)
def wL (σ : St) (c i j : Nat) (v : Int64) : St := (σ.1, fun c' i' j' => if c' = c ∧ i' = i ∧ j' = j then v else σ.2.1 c' i' j', σ.2.2)
def wR (σ : St) (c i j : Nat) (v : Option Nat) : St := (σ.1, σ.2.1, fun c' i' j' => if c' = c ∧ i' = i ∧ j' = j then v else σ.2.2.1 c' i' j', σ.2.2.2)
/-- a whole row -/
def fI (σ : St) (c i : Nat) (v : Int32) : St := (fun c' i' j' => if c' = c ∧ i' = i then v else σ.1 c' i' j', σ.2)
def fL (σ : St) (c i : Nat) (v : Int64) : St := (σ.1, fun c' i' j' => if c' = c ∧ i' = i then v else σ.2.1 c' i' j', σ.2.2)
theorem sI_wI (σ : St) (c i j : Nat) (v : Int32) (c' i' j' : Nat) : sI (wI σ c i j v) c' i' j' = if c' = c ∧ i' = i ∧ j' = j then v else sI σ c' i' j' := rfl
theorem sL_wL (σ : St) (c i j : Nat) (v : Int64) (c' i' j' : Nat) : sL (wL σ c i j v) c' i' j' = if c' = c ∧ i' = i ∧ j' = j then v else sL σ c' i' j' := rfl
theorem sR_wR (σ : St) (c i j : Nat) (v : Option Nat) (c' i' j' : Nat) : sR (wR σ c i j v) c' i' j' = if c' = c ∧ i' = i ∧ j' = j then v else sR σ c' i' j' := rfl
theorem sI_fI (σ : St) (c i : Nat) (v : Int32) (c' i' j' : Nat) : sI (fI σ c i v) c' i' j' = if c' = c ∧ i' = i then v else sI σ c' i' j' := rfl
theorem sL_fL (σ : St) (c i : Nat) (v : Int64) (c' i' j' : Nat) : sL (fL σ c i v) c' i' j' = if c' = c ∧ i' = i then v else sL σ c' i' j' := rfl
theorem sI_wL (σ : St) (c i j : Nat) (v : Int64) (c' i' j' : Nat) : sI (wL σ c i j v) c' i' j' = sI σ c' i' j' := rfl
theorem sI_wR (σ : St) (c i j : Nat) (v : Option Nat) (c' i' j' : Nat) : sI (wR σ c i j v) c' i' j' = sI σ c' i' j' := rfl
theorem sI_fL (σ : St) (c i : Nat) (v : Int64) (c' i' j' : Nat) : sI (fL σ c i v) c' i' j' = sI σ c' i' j' := rfl
theorem sL_wI (σ : St) (c i j : Nat) (v : Int32) (c' i' j' : Nat) : sL (wI σ c i j v) c' i' j' = sL σ c' i' j' := rfl
theorem sL_wR (σ : St) (c i j : Nat) (v : Option Nat) (c' i' j' : Nat) : sL (wR σ c i j v) c' i' j' = sL σ c' i' j' := rfl
theorem sL_fI (σ : St) (c i : Nat) (v : Int32) (c' i' j' : Nat) : sL (fI σ c i v) c' i' j' = sL σ c' i' j' := rfl
theorem sR_wI (σ : St) (c i j : Nat) (v : Int32) (c' i' j' : Nat) : sR (wI σ c i j v) c' i' j' = sR σ c' i' j' := rfl
theorem sR_wL (σ : St) (c i j : Nat) (v : Int64) (c' i' j' : Nat) : sR (wL σ c i j v) c' i' j' = sR σ c' i' j' := rfl
theorem sR_fI (σ : St) (c i : Nat) (v : Int32) (c' i' j' : Nat) : sR (fI σ c i v) c' i' j' = sR σ c' i' j' := rfl
theorem sR_fL (σ : St) (c i : Nat) (v : Int64) (c' i' j' : Nat) : sR (fL σ c i v) c' i' j' = sR σ c' i' j' := rfl
theorem sN_wI (σ : St) (c i j : Nat) (v : Int32) : sN (wI σ c i j v) = sN σ := rfl
theorem sN_wL (σ : St) (c i j : Nat) (v : Int64) : sN (wL σ c i j v) = sN σ := rfl
theorem sN_wR (σ : St) (c i j : Nat) (v : Option Nat) : sN (wR σ c i j v) = sN σ := rfl
theorem sN_fI (σ : St) (c i : Nat) (v : Int32) : sN (fI σ c i v) = sN σ := rfl
theorem sN_fL (σ : St) (c i : Nat) (v : Int64) : sN (fL σ c i v) = sN σ := rfl
/-- a reference that is used: it isn't null, and its object is there -/
def dR (σ : St) (o : Option Nat) : Option Nat := match o with
  | none => none
  | some k => if k < sN σ then some k else none
theorem dR_spec {σ : St} {o : Option Nat} {k : Nat} (h : dR σ o = some k) : o = some k ∧ k < sN σ := by
  cases o with
  | none => cases h
  | some q =>
    by_cases hq : q < sN σ
    · have h2 : (if q < sN σ then some q else none) = some k := h
      rw [if_pos hq] at h2
      cases h2
      exact ⟨rfl, hq⟩
    · have h2 : (if q < sN σ then some q else none) = some k := h
      rw [if_neg hq] at h2
      cases h2
theorem dR_some {σ : St} {k : Nat} (h : k < sN σ) : dR σ (some k) = some k := if_pos h
/-- an index within, as the programs ask it -/
abbrev vin (i : Int32) (n : Nat) : Prop := ¬ (i < 0 ∨ n ≤ i.toNatClampNeg)
theorem vin_lt {i : Int32} {n : Nat} (h : vin i n) : i.toNatClampNeg < n := Nat.not_le.mp fun q => h (Or.inr q)
theorem vin_nI {i n : Nat} (h : i < n) (hn : n < 2 ^ 31) : vin (nI i) n := vp_in_nI h hn
theorem og_if {c : Prop} [Decidable c] {α : Type} {x : Option α} {y : α} (h : (if c then x else none) = some y) : c ∧ x = some y := by
  by_cases hc : c
  · rw [if_pos hc] at h; exact ⟨hc, h⟩
  · rw [if_neg hc] at h; cases h
theorem og_t {c : Prop} [Decidable c] {α : Type} {x y z : α} (hc : c) (h : (if c then x else y) = z) : x = z := by rw [if_pos hc] at h; exact h
theorem og_f {c : Prop} [Decidable c] {α : Type} {x y z : α} (hc : ¬ c) (h : (if c then x else y) = z) : y = z := by rw [if_neg hc] at h; exact h
theorem og_b {α β : Type} {x : Option α} {f : α → Option β} {y : β} (h : x.bind f = some y) : ∃ a, x = some a ∧ f a = some y := Option.bind_eq_some_iff.mp h
theorem og_n {α : Type} {y : α} {P : Prop} (h : (none : Option α) = some y) : P := by cases h
/-! A world by keys: cell (t, i) lies at ad t i and holds ct t i. -/
def kw (D : va_G) (cl : List vw_C) (ad : Nat → Nat → Nat) (dom : Nat → Nat → Prop) (ct : Nat → Nat → va_E) (H : Heap) : Prop := (∀ t i, dom t i → va_at D cl (ad t i, ct t i) H) ∧ ∀ t i t' i', dom t i → dom t' i' → ad t i = ad t' i' → t = t' ∧ i = i'
theorem kw.one {D : va_G} {cl : List vw_C} {ad : Nat → Nat → Nat} {dom : Nat → Nat → Prop} {ct : Nat → Nat → va_E} {H : Heap} (h : kw D cl ad dom ct H) {t i : Nat} (hd : dom t i) : va_P D cl [(ad t i, ct t i)] H := fun k q hk => by
  cases k with
  | zero => cases hk; exact h.1 t i hd
  | succ k => simp at hk
theorem kw.put {D : va_G} {cl : List vw_C} {ad : Nat → Nat → Nat} {dom : Nat → Nat → Prop} {ct ct' : Nat → Nat → va_E} {H H1 : Heap} (h : kw D cl ad dom ct H) {t i : Nat} (hd : dom t i) {e : va_E} (he : va_at D cl (ad t i, e) H1) (oq : ∀ q : Nat, q < H.size → q ≠ ad t i → H1[q]? = H[q]?) (hc : ∀ t' i', dom t' i' → ct' t' i' = if t' = t ∧ i' = i then e else ct t' i') : kw D cl ad dom ct' H1 := by
  refine ⟨fun t' i' hd' => ?_, h.2⟩
  rw [hc t' i' hd']
  by_cases hq : t' = t ∧ i' = i
  · obtain ⟨rfl, rfl⟩ := hq
    rw [if_pos ⟨rfl, rfl⟩]
    exact he
  · rw [if_neg hq]
    exact (h.1 t' i' hd').kept (oq _ (h.1 t' i' hd').lt (fun z => hq (h.2 _ _ _ _ hd' hd z)))
theorem kw.kept {D : va_G} {cl : List vw_C} {ad : Nat → Nat → Nat} {dom : Nat → Nat → Prop} {ct : Nat → Nat → va_E} {H H1 : Heap} (h : kw D cl ad dom ct H) (oq : ∀ t i, dom t i → H1[ad t i]? = H[ad t i]?) : kw D cl ad dom ct H1 := ⟨fun t i hd => (h.1 t i hd).kept (oq t i hd), h.2⟩
theorem kw.recv {D : va_G} {cl : List vw_C} {ad : Nat → Nat → Nat} {dom : Nat → Nat → Prop} {ct : Nat → Nat → va_E} {H : Heap} {s : State} {tys : List (ClassId × FieldType)} (hK : va_K D cl tys s) (h : kw D cl ad dom ct H) {t i : Nat} (hd : dom t i) {ci : Nat} {fs : List Value} (he : ct t i = .inr (ci, fs)) {q : vw_C} (hc : cl[ci]? = some q) : ∃ cell : Cell, H[ad t i]? = some cell ∧ cell.vm.isStatics = false ∧ s.vm.findClass q.1 = some cell.cls :=
  va_recv hK (h.one hd) hc (q0 := 0) (by rw [he]; rfl)
theorem kw_inj {D : va_G} {cl : List vw_C} {ad : Nat → Nat → Nat} {dom : Nat → Nat → Prop} {ct : Nat → Nat → va_E} {H : Heap} (h : kw D cl ad dom ct H) {t i j : Nat} (hi : dom t i) (hj : dom t j) : (some (ad t i) = some (ad t j)) ↔ i = j := ⟨fun e => (h.2 _ _ _ _ hi hj (Option.some.inj e)).2, fun e => by rw [e]⟩
section KR
variable {p : Program} {l : Launch} {e : Env} {R : Room} {s : State} {m : MethodId} {args : Array Value} {below : List Frame} {meth : Method} {c : Code} {H : Heap} {locs : List Loc} {cells slots : Nat} {Q : State → Prop}
variable {cc : ByteArray} {pc : Nat} {ls : Array Slot} {rest : List Value} {D : va_G} {cl : List vw_C} {A : Nat → Prop} {tys : List (ClassId × FieldType)} {H0 : Heap} {ad : Nat → Nat → Nat} {dom : Nat → Nat → Prop} {ct ct' : Nat → Nat → va_E}
theorem k_put (hexec : p.tables.exec = Jvm.exec) (hb : c.code = cc) {own ref C : String} {T : u_T} {N ci index : Nat} {Ts : List Cond} (hts : ∀ w ∈ Ts, w.before args s = true) (hin : ∀ w ∈ u_ws C T N, w ∈ Ts) (ty0 : Nat → FieldType) (hty : ∀ k, k < N → parseFieldDescriptor (T k).2.2.1 = some (ty0 k)) (hnm : ∀ a, a < N → ∀ b, b < N → a ≠ b → (T a).2.1 ≠ (T b).2.1) (hown : s.vm.findClass own = some m.cls) (hK : va_K D cl tys s) (hW : kw D cl ad dom ct H) (hS0 : va_S A H0 H locs) {t i : Nat} (hd : dom t i) (hAa : A (ad t i)) {fs : List Value} (he : ct t i = .inr (ci, fs)) (hc : cl[ci]? = some (C, T, N)) (k : Nat) (hk : k < N) (hlink : (Cond.fieldLink own index ref (T k).2.1 (T k).2.2.1).before args s = true) (hsame : ∀ x, s.fieldFound? (T k).1 (T k).2.1 (T k).2.2.1 = some x → s.fieldFound? ref (T k).2.1 (T k).2.2.1 = some x) (hfin : (T k).2.2.2 = false) {ty : FieldType} {v : Value} (hdd : parseFieldDescriptor (T k).2.2.1 = some ty) (hn : narrow ty v = v) (hfit : fits ty v = true) (hl : k < fs.length)
    (hdg : decode cc pc = .ok (.putfield index, 3)) (hct : ∀ t' i', dom t' i' → ct' t' i' = if t' = t ∧ i' = i then .inr (ci, fs.set k v) else ct t' i') (kk : ∀ (H1 : Heap) (locs1 : List Loc), kw D cl ad dom ct' H1 → va_S A H0 H1 locs1 → W p l e R s m args below meth c H1 locs1 cells slots Q (F0 m (pc + 3) ls rest)) : W p l e R s m args below meth c H locs cells slots Q (F0 m pc ls (v :: .ref (ad t i) :: rest)) := by
  have hap := va_apart (own := own) hts hin ty0 hty hnm hK hc
  have hat := hW.1 t i hd
  rw [he] at hat
  obtain ⟨r, h1, cell, q1, q2, q3, q4⟩ := hat
  have hr : r = (C, T, N) := Option.some.inj (h1.symm.trans hc)
  subst hr
  obtain ⟨hS, hfc, kC, hkC, hkind⟩ := hK.1 ci _ hc
  obtain ⟨cf, kf, fi, f, hi, hsl⟩ := hS k hk
  have hlay := hts _ (hin _ (u_in_lay hk))
  unfold u_lay at hlay
  rw [if_neg (by rw [hfin]; decide)] at hlay
  have hst := (u_facts hfc hkC (u_lays hts hin hk) hi).1
  have h6 := u_store hfc hkC hkind hlay hi hdd hn hfit
  refine W.putK hexec hb (f := f) ⟨hown, hlink, ⟨_, _, _, hsame _ hi⟩, hst⟩ (by rw [q2]; exact h6) q1 q3 (by rw [hsl]; exact k2_hasslot (q4 k hk)) rfl rfl hdg fun H' e1 e2 e3 => ?_
  rw [hsl] at e1 ⊢
  exact kk H' _ (hW.put hd (e := .inr (ci, fs.set k v)) ⟨_, hc, t_OB.to (V := updV (vp_V fs) k v) ⟨_, e1, q2, q3, t_set q4 hap hk v⟩ (fun j _ => vp_updV_set hl v j)⟩ (fun q _ h => e3 q h) hct) (hS0.put e2 e3 hAa)
theorem k_iast (hexec : p.tables.exec = Jvm.exec) (hb : c.code = cc) (hK : va_K D cl tys s) (hW : kw D cl ad dom ct H) (hS : va_S A H0 H locs) {t i : Nat} (hd : dom t i) (hAa : A (ad t i)) (t0 : Nat) {cA : ClassId} {n : Nat} {f : Nat → Int32} (he : ct t i = .inl (cA, n, .inl f)) (ht : tys[t0]? = some (cA, .int)) {j : Int32} {x : Int32} (hin : vp_in j n) (hdg : decode cc pc = .ok (.iastore, 1))
    (hct : ∀ t' i', dom t' i' → ct' t' i' = if t' = t ∧ i' = i then .inl (cA, n, .inl (upd f j.toNatClampNeg x)) else ct t' i') (kk : ∀ (H1 : Heap) (locs1 : List Loc), kw D cl ad dom ct' H1 → va_S A H0 H1 locs1 → W p l e R s m args below meth c H1 locs1 cells slots Q (F0 m (pc + 1) ls rest)) : W p l e R s m args below meth c H locs cells slots Q (F0 m pc ls (.int x :: .int j :: .ref (ad t i) :: rest)) := by
  have hat := hW.1 t i hd
  rw [he] at hat
  refine W.iast hexec hb hat ((hK.2 t0 _ ht).1 n (fun j => .int (f j))) (fun q => by cases q) (by show ¬ (j < 0 ∨ (arrV _ _ _).slots.size ≤ _); rw [arrV_size]; exact hin) rfl rfl hdg fun H1 e z oq => ?_
  refine kk H1 _ (hW.put hd (e := .inl (cA, n, .inl (upd f j.toNatClampNeg x))) ?_ (fun q _ h => oq q h) hct) (hS.put z oq hAa)
  show H1[ad t i]? = some (vp_cell _ _)
  rw [e, vp_cell_i, vp_cell_i, arrV_store]
  congr 2
  funext q
  by_cases hq : q = j.toNatClampNeg
  · subst hq
    simp [updV, upd]
  · simp [updV, upd, hq]
theorem k_last (hexec : p.tables.exec = Jvm.exec) (hb : c.code = cc) (hK : va_K D cl tys s) (hW : kw D cl ad dom ct H) (hS : va_S A H0 H locs) {t i : Nat} (hd : dom t i) (hAa : A (ad t i)) (t0 : Nat) {cA : ClassId} {n : Nat} {f : Nat → Int64} (he : ct t i = .inl (cA, n, .inr (.inl f))) (ht : tys[t0]? = some (cA, .long)) {j : Int32} {x : Int64} (hin : vp_in j n) (hdg : decode cc pc = .ok (.lastore, 1))
    (hct : ∀ t' i', dom t' i' → ct' t' i' = if t' = t ∧ i' = i then .inl (cA, n, .inr (.inl (vp_updL f j.toNatClampNeg x))) else ct t' i') (kk : ∀ (H1 : Heap) (locs1 : List Loc), kw D cl ad dom ct' H1 → va_S A H0 H1 locs1 → W p l e R s m args below meth c H1 locs1 cells slots Q (F0 m (pc + 1) ls rest)) : W p l e R s m args below meth c H locs cells slots Q (F0 m pc ls (.long x :: .int j :: .ref (ad t i) :: rest)) := by
  have hat := hW.1 t i hd
  rw [he] at hat
  refine W.last hexec hb hat ((hK.2 t0 _ ht).1 n (fun j => .long (f j))) (fun q => by cases q) (by show ¬ (j < 0 ∨ (arrV _ _ _).slots.size ≤ _); rw [arrV_size]; exact hin) rfl rfl hdg fun H1 e z oq => ?_
  refine kk H1 _ (hW.put hd (e := .inl (cA, n, .inr (.inl (vp_updL f j.toNatClampNeg x)))) ?_ (fun q _ h => oq q h) hct) (hS.put z oq hAa)
  show H1[ad t i]? = some (vp_cell _ _)
  rw [e, vp_cell_l, vp_cell_l, arrV_store]
  congr 2
  funext q
  by_cases hq : q = j.toNatClampNeg
  · subst hq
    simp [updV, vp_updL]
  · simp [updV, vp_updL, hq]
theorem k_aast (hexec : p.tables.exec = Jvm.exec) (hb : c.code = cc) (hK : va_K D cl tys s) (hW : kw D cl ad dom ct H) (hS : va_S A H0 H locs) {t i : Nat} (hd : dom t i) (hAa : A (ad t i)) (t0 ci : Nat) {tv iv : Nat} (hdv : dom tv iv) {vs : List Value} (hev : ct tv iv = .inr (ci, vs)) {r : vw_C} (hc : cl[ci]? = some r) {cA : ClassId} {n : Nat} {f : Nat → Option Nat} (he : ct t i = .inl (cA, n, .inr (.inr (.inr (.inr f))))) (ht : tys[t0]? = some (cA, .object r.1)) {j : Int32} (hin : vp_in j n) (hdg : decode cc pc = .ok (.aastore, 1))
    (hct : ∀ t' i', dom t' i' → ct' t' i' = if t' = t ∧ i' = i then .inl (cA, n, .inr (.inr (.inr (.inr (va_up f j.toNatClampNeg (some (ad tv iv))))))) else ct t' i') (kk : ∀ (H1 : Heap) (locs1 : List Loc), kw D cl ad dom ct' H1 → va_S A H0 H1 locs1 → W p l e R s m args below meth c H1 locs1 cells slots Q (F0 m (pc + 1) ls rest)) : W p l e R s m args below meth c H locs cells slots Q (F0 m pc ls (.ref (ad tv iv) :: .int j :: .ref (ad t i) :: rest)) := by
  have hlt : j.toNatClampNeg < n := Nat.not_le.mp fun q => hin (Or.inr q)
  have h0 : ¬ j < 0 := fun q => hin (Or.inl q)
  have hat := hW.1 t i hd
  rw [he] at hat
  have hav := hW.1 tv iv hdv
  rw [hev] at hav
  obtain ⟨r', hr', cellV, g1, g2, g3, -⟩ := hav
  have hcls := (hK.1 ci r hc).2
  obtain ⟨kA, comp, k1, k2, k3, -⟩ := (hK.2 t0 _ ht).2
  have hcomp : comp = D.1 ci := Option.some.inj (k3.symm.trans hcls.1)
  subst hcomp
  obtain ⟨kC, hkC, -⟩ := hcls.2
  refine W.aast hexec hb hat (fun q h => by cases h) (fun h => by cases h) k1 k2 rfl hkC ⟨h0, by show _ < (arrV _ _ _).slots.size; rw [arrV_size]; exact hlt⟩ g1 (fun q h => by rw [g3] at h; cases h) (by rw [g2]; exact hkC) (by rw [g2]; exact va_assign hcls) rfl rfl hdg fun H1 e z oq => ?_
  refine kk H1 _ (hW.put hd (e := .inl (cA, n, .inr (.inr (.inr (.inr (va_up f j.toNatClampNeg (some (ad tv iv)))))))) ?_ (fun q _ h => oq q h) hct) (hS.put z oq hAa)
  show H1[ad t i]? = some (vp_cell _ _)
  rw [e, vp_cell_q, vp_cell_q, arrV_store]
  congr 2
  funext q
  by_cases hq : q = j.toNatClampNeg
  · subst hq
    simp [updV, va_up, va_rf]
  · simp [updV, va_up, hq]
/-- a comparison of longs and the branch behind it -/
theorem lc_ge (hexec : p.tables.exec = Jvm.exec) (hb : c.code = cc) {x y : Int64} {off : Int} {tgt : Nat} (hd1 : decode cc pc = .ok (.lcmp, 1)) (hd2 : decode cc (pc + 1) = .ok (.ifCond .ge off, 3)) (ht : ((pc + 1 : Nat) : Int) + off = (tgt : Int))
    (kt : y ≤ x → W p l e R s m args below meth c H locs cells slots Q (F0 m tgt ls rest)) (kf : ¬ y ≤ x → W p l e R s m args below meth c H locs cells slots Q (F0 m (pc + 1 + 3) ls rest)) : W p l e R s m args below meth c H locs cells slots Q (F0 m pc ls (.long y :: .long x :: rest)) :=
  W.lcmp hexec hb hd1 (lv_if_ge hexec hb hd2 ht (fun h => kt ((lg_cmp_ge x y).mp h)) (fun h => kf (fun q => h ((lg_cmp_ge x y).mpr q))))
theorem lc_lt (hexec : p.tables.exec = Jvm.exec) (hb : c.code = cc) {x y : Int64} {off : Int} {tgt : Nat} (hd1 : decode cc pc = .ok (.lcmp, 1)) (hd2 : decode cc (pc + 1) = .ok (.ifCond .lt off, 3)) (ht : ((pc + 1 : Nat) : Int) + off = (tgt : Int))
    (kt : x < y → W p l e R s m args below meth c H locs cells slots Q (F0 m tgt ls rest)) (kf : ¬ x < y → W p l e R s m args below meth c H locs cells slots Q (F0 m (pc + 1 + 3) ls rest)) : W p l e R s m args below meth c H locs cells slots Q (F0 m pc ls (.long y :: .long x :: rest)) :=
  W.lcmp hexec hb hd1 (lv_if_lt hexec hb hd2 ht (fun h => kt ((lg_cmp_lt x y).mp h)) (fun h => kf (fun q => h ((lg_cmp_lt x y).mpr q))))
theorem lc_gt (hexec : p.tables.exec = Jvm.exec) (hb : c.code = cc) {x y : Int64} {off : Int} {tgt : Nat} (hd1 : decode cc pc = .ok (.lcmp, 1)) (hd2 : decode cc (pc + 1) = .ok (.ifCond .gt off, 3)) (ht : ((pc + 1 : Nat) : Int) + off = (tgt : Int))
    (kt : y < x → W p l e R s m args below meth c H locs cells slots Q (F0 m tgt ls rest)) (kf : ¬ y < x → W p l e R s m args below meth c H locs cells slots Q (F0 m (pc + 1 + 3) ls rest)) : W p l e R s m args below meth c H locs cells slots Q (F0 m pc ls (.long y :: .long x :: rest)) :=
  W.lcmp hexec hb hd1 (lv_if_gt hexec hb hd2 ht (fun h => kt ((lg_cmp_gt x y).mp h)) (fun h => kf (fun q => h ((lg_cmp_gt x y).mpr q))))
theorem lc_le (hexec : p.tables.exec = Jvm.exec) (hb : c.code = cc) {x y : Int64} {off : Int} {tgt : Nat} (hd1 : decode cc pc = .ok (.lcmp, 1)) (hd2 : decode cc (pc + 1) = .ok (.ifCond .le off, 3)) (ht : ((pc + 1 : Nat) : Int) + off = (tgt : Int))
    (kt : x ≤ y → W p l e R s m args below meth c H locs cells slots Q (F0 m tgt ls rest)) (kf : ¬ x ≤ y → W p l e R s m args below meth c H locs cells slots Q (F0 m (pc + 1 + 3) ls rest)) : W p l e R s m args below meth c H locs cells slots Q (F0 m pc ls (.long y :: .long x :: rest)) :=
  W.lcmp hexec hb hd1 (lv_if_le hexec hb hd2 ht (fun h => kt ((lg_cmp_le x y).mp h)) (fun h => kf (fun q => h ((lg_cmp_le x y).mpr q))))
theorem lc_eq (hexec : p.tables.exec = Jvm.exec) (hb : c.code = cc) {x y : Int64} {off : Int} {tgt : Nat} (hd1 : decode cc pc = .ok (.lcmp, 1)) (hd2 : decode cc (pc + 1) = .ok (.ifCond .eq off, 3)) (ht : ((pc + 1 : Nat) : Int) + off = (tgt : Int))
    (kt : x = y → W p l e R s m args below meth c H locs cells slots Q (F0 m tgt ls rest)) (kf : ¬ x = y → W p l e R s m args below meth c H locs cells slots Q (F0 m (pc + 1 + 3) ls rest)) : W p l e R s m args below meth c H locs cells slots Q (F0 m pc ls (.long y :: .long x :: rest)) :=
  W.lcmp hexec hb hd1 (lv_if_eq hexec hb hd2 ht (fun h => kt ((lg_cmp_eq x y).mp h)) (fun h => kf (fun q => h ((lg_cmp_eq x y).mpr q))))
theorem lc_ne (hexec : p.tables.exec = Jvm.exec) (hb : c.code = cc) {x y : Int64} {off : Int} {tgt : Nat} (hd1 : decode cc pc = .ok (.lcmp, 1)) (hd2 : decode cc (pc + 1) = .ok (.ifCond .ne off, 3)) (ht : ((pc + 1 : Nat) : Int) + off = (tgt : Int))
    (kt : ¬ x = y → W p l e R s m args below meth c H locs cells slots Q (F0 m tgt ls rest)) (kf : x = y → W p l e R s m args below meth c H locs cells slots Q (F0 m (pc + 1 + 3) ls rest)) : W p l e R s m args below meth c H locs cells slots Q (F0 m pc ls (.long y :: .long x :: rest)) :=
  W.lcmp hexec hb hd1 (lv_if_ne hexec hb hd2 ht (fun h => kt (fun q => h ((lg_cmp_eq x y).mpr q))) (fun h => kf ((lg_cmp_eq x y).mp h)))
end KR
theorem k_blind {av : List Value} {P : Heap → Prop} {D : va_G} {cl : List vw_C} {tys : List (ClassId × FieldType)} : FrameBlind (va_Pc av (fun U => P U.heap ∧ va_K D cl tys U)) := fun a U g mk q => by
  obtain ⟨q0, qP, qK⟩ := q
  exact ⟨q0, qP, va_K.moved (u := U) (U := U.calling g mk a) (Vm.Alike.refl U.vm) qK⟩
theorem k_pre {av : List Value} {P : Heap → Prop} {D : va_G} {cl : List vw_C} {tys : List (ClassId × FieldType)} {H : Heap} {s : State} (hP : P H) (hK : va_K D cl tys s) : ∀ U : State, U.heap = H → s.WarmedH U.vm → va_Pc av (fun U => P U.heap ∧ va_K D cl tys U) av.toArray U := fun U hU hWm => ⟨rfl, by rw [hU]; exact hP, va_K.moved hWm.alike hK⟩
section KC
variable {p : Program} {l : Launch} {e : Env} {R : Room} {s : State} {m : MethodId} {args : Array Value} {below : List Frame} {meth : Method} {c : Code} {H : Heap} {locs : List Loc} {cells slots : Nat} {Q : State → Prop}
variable {pc : Nat} {ls : Array Slot} {rest st0 : List Value} {a : Array Value} {A : Nat → Prop} {H0 : Heap} {P : St → Heap → Prop} {Kp : State → Prop}
theorem kc_i {out : Int32 × St} (hr : va_Run p l e R s m args below meth c H locs cells slots 0 0 (F0 m pc ls st0) rest (va_Qi (fun r u => (r, u) = out) (fun u t => P u t.heap ∧ Kp t) A a) A) (hS : va_S A H0 H locs)
    (kk : ∀ (H1 : Heap) (locs1 : List Loc), P out.2 H1 → va_S A H0 H1 locs1 → W p l e R s m args below meth c H1 locs1 cells slots Q (F0 m (pc + 3) ls (.int out.1 :: rest))) : W p l e R s m args below meth c H locs cells slots Q (F0 m pc ls st0) :=
  va_calli hr hS (fun _ _ h => h) (fun _ h => h) (fun r u t H1 locs1 ht hvm hp hB hz hk hS => by
    cases hp
    exact kk H1 locs1 (by rw [← ht]; exact hB.1) hS)
theorem kc_l {out : Int64 × St} (hr : va_Run p l e R s m args below meth c H locs cells slots 0 0 (F0 m pc ls st0) rest (va_Ql (fun r u => (r, u) = out) (fun u t => P u t.heap ∧ Kp t) A a) A) (hS : va_S A H0 H locs)
    (kk : ∀ (H1 : Heap) (locs1 : List Loc), P out.2 H1 → va_S A H0 H1 locs1 → W p l e R s m args below meth c H1 locs1 cells slots Q (F0 m (pc + 3) ls (.long out.1 :: rest))) : W p l e R s m args below meth c H locs cells slots Q (F0 m pc ls st0) :=
  va_calll hr hS (fun _ _ h => h) (fun _ h => h) (fun r u t H1 locs1 ht hvm hp hB hz hk hS => by
    cases hp
    exact kk H1 locs1 (by rw [← ht]; exact hB.1) hS)
theorem kc_v {out : Unit × St} (hr : va_Run p l e R s m args below meth c H locs cells slots 0 0 (F0 m pc ls st0) rest (va_Qv (fun u => ((), u) = out) (fun u t => P u t.heap ∧ Kp t) A a) A) (hS : va_S A H0 H locs)
    (kk : ∀ (H1 : Heap) (locs1 : List Loc), P out.2 H1 → va_S A H0 H1 locs1 → W p l e R s m args below meth c H1 locs1 cells slots Q (F0 m (pc + 3) ls rest)) : W p l e R s m args below meth c H locs cells slots Q (F0 m pc ls st0) :=
  va_callv hr hS (fun _ _ h => h) (fun _ h => h) (fun u t H1 locs1 ht hvm hp hB hz hk hS => by
    cases hp
    exact kk H1 locs1 (by rw [← ht]; exact hB.1) hS)
end KC
end
section
theorem tw_0 : .selects "GridlockDesk" ⟨"GridlockDesk", "isBank", "(I)Z"⟩ ⟨"GridlockDesk", "isBank", "(I)Z"⟩ ∈ TB := tb_in 0 (by decide +kernel) (by decide +kernel)
theorem tw_1 : .selects "GridlockDesk" ⟨"GridlockDesk", "sweep", "()V"⟩ ⟨"GridlockDesk", "sweep", "()V"⟩ ∈ TB := tb_in 1 (by decide +kernel) (by decide +kernel)
theorem tw_2 : .selects "GridlockDesk" ⟨"GridlockDesk", "chooseReadyHead", "()Z"⟩ ⟨"GridlockDesk", "chooseReadyHead", "()Z"⟩ ∈ TB := tb_in 2 (by decide +kernel) (by decide +kernel)
theorem tw_3 : .selects "GridlockDesk" ⟨"GridlockDesk", "chooseHeads", "(II)Z"⟩ ⟨"GridlockDesk", "chooseHeads", "(II)Z"⟩ ∈ TB := tb_in 3 (by decide +kernel) (by decide +kernel)
theorem tw_4 : .selects "GridlockDesk" ⟨"GridlockDesk", "firstUnwellBank", "()I"⟩ ⟨"GridlockDesk", "firstUnwellBank", "()I"⟩ ∈ TB := tb_in 4 (by decide +kernel) (by decide +kernel)
theorem tw_5 : .selects "GridlockDesk" ⟨"GridlockDesk", "wouldBeWell", "(I)Z"⟩ ⟨"GridlockDesk", "wouldBeWell", "(I)Z"⟩ ∈ TB := tb_in 5 (by decide +kernel) (by decide +kernel)
theorem tw_6 : .selects "GridlockDesk" ⟨"GridlockDesk", "positionOf", "(II)J"⟩ ⟨"GridlockDesk", "positionOf", "(II)J"⟩ ∈ TB := tb_in 6 (by decide +kernel) (by decide +kernel)
theorem tw_7 : .selects "GridlockDesk" ⟨"GridlockDesk", "settleChosen", "(I)I"⟩ ⟨"GridlockDesk", "settleChosen", "(I)I"⟩ ∈ TB := tb_in 7 (by decide +kernel) (by decide +kernel)
theorem tw_8 : .selects "GridlockDesk" ⟨"GridlockDesk", "settle", "(LGridlockDesk$Payment;I)V"⟩ ⟨"GridlockDesk", "settle", "(LGridlockDesk$Payment;I)V"⟩ ∈ TB := tb_in 8 (by decide +kernel) (by decide +kernel)
theorem tw_9 : .selects "GridlockDesk" ⟨"GridlockDesk", "end", "(LGridlockDesk$Payment;I)V"⟩ ⟨"GridlockDesk", "end", "(LGridlockDesk$Payment;I)V"⟩ ∈ TB := tb_in 9 (by decide +kernel) (by decide +kernel)
theorem tw_10 : .selects "GridlockDesk" ⟨"GridlockDesk", "chooseReadyPair", "()Z"⟩ ⟨"GridlockDesk", "chooseReadyPair", "()Z"⟩ ∈ TB := tb_in 10 (by decide +kernel) (by decide +kernel)
theorem tw_11 : .selects "GridlockDesk" ⟨"GridlockDesk", "areTwoBanks", "(II)Z"⟩ ⟨"GridlockDesk", "areTwoBanks", "(II)Z"⟩ ∈ TB := tb_in 11 (by decide +kernel) (by decide +kernel)
theorem tw_12 : .selects "GridlockDesk" ⟨"GridlockDesk", "totalPositionOf", "(I)J"⟩ ⟨"GridlockDesk", "totalPositionOf", "(I)J"⟩ ∈ TB := tb_in 12 (by decide +kernel) (by decide +kernel)
theorem tw_13 : .selects "GridlockDesk" ⟨"GridlockDesk", "isQueued", "(I)Z"⟩ ⟨"GridlockDesk", "isQueued", "(I)Z"⟩ ∈ TB := tb_in 13 (by decide +kernel) (by decide +kernel)
theorem tw_14 : .selects "GridlockDesk" ⟨"GridlockDesk", "isPayment", "(I)Z"⟩ ⟨"GridlockDesk", "isPayment", "(I)Z"⟩ ∈ TB := tb_in 14 (by decide +kernel) (by decide +kernel)
theorem tw_15 : .selects "GridlockDesk" ⟨"GridlockDesk", "chooseGreatest", "()V"⟩ ⟨"GridlockDesk", "chooseGreatest", "()V"⟩ ∈ TB := tb_in 15 (by decide +kernel) (by decide +kernel)
theorem tw_31 : .initialized "GridlockDesk" ∈ TB := tb_in 31 (by decide +kernel) (by decide +kernel)
theorem tw_33 : .initialized "GridlockDesk$Bank" ∈ TB := tb_in 33 (by decide +kernel) (by decide +kernel)
theorem tw_34 : .initialized "java/util/Arrays" ∈ TB := tb_in 34 (by decide +kernel) (by decide +kernel)
theorem tw_60 : .static ⟨"java/util/Arrays", "fill", "([JJ)V"⟩ ∈ TB := tb_in 60 (by decide +kernel) (by decide +kernel)
theorem tw_61 : .code ⟨"java/util/Arrays", "fill", "([JJ)V"⟩ prog_7_method_101_code 5 none ∈ TB := tb_in 61 (by decide +kernel) (by decide +kernel)
theorem tw_64 : .fieldLink "GridlockDesk" 45 "GridlockDesk$Bank" "balance" "J" ∈ TB := tb_in 64 (by decide +kernel) (by decide +kernel)
theorem tw_65 : .fieldLink "GridlockDesk" 49 "GridlockDesk$Bank" "creditLine" "J" ∈ TB := tb_in 65 (by decide +kernel) (by decide +kernel)
theorem tw_67 : .fieldLink "GridlockDesk" 81 "GridlockDesk$Bank" "totalLimit" "J" ∈ TB := tb_in 67 (by decide +kernel) (by decide +kernel)
theorem tw_69 : .fieldLink "GridlockDesk" 73 "GridlockDesk$Bank" "limits" "[J" ∈ TB := tb_in 69 (by decide +kernel) (by decide +kernel)
theorem tw_70 : .fieldLink "GridlockDesk$Bank" 27 "GridlockDesk$Bank" "sent" "[J" ∈ TB := tb_in 70 (by decide +kernel) (by decide +kernel)
theorem tw_71 : .fieldLink "GridlockDesk" 130 "GridlockDesk$Bank" "sent" "[J" ∈ TB := tb_in 71 (by decide +kernel) (by decide +kernel)
theorem tw_72 : .fieldLink "GridlockDesk$Bank" 32 "GridlockDesk$Bank" "queue" "[LGridlockDesk$Payment;" ∈ TB := tb_in 72 (by decide +kernel) (by decide +kernel)
theorem tw_73 : .fieldLink "GridlockDesk" 139 "GridlockDesk$Bank" "queue" "[LGridlockDesk$Payment;" ∈ TB := tb_in 73 (by decide +kernel) (by decide +kernel)
theorem tw_74 : .fieldLink "GridlockDesk$Bank" 36 "GridlockDesk$Bank" "queueLength" "I" ∈ TB := tb_in 74 (by decide +kernel) (by decide +kernel)
theorem tw_75 : .fieldLink "GridlockDesk" 94 "GridlockDesk$Bank" "queueLength" "I" ∈ TB := tb_in 75 (by decide +kernel) (by decide +kernel)
theorem tw_93 : .fieldLink "GridlockDesk" 20 "GridlockDesk" "banks" "[LGridlockDesk$Bank;" ∈ TB := tb_in 93 (by decide +kernel) (by decide +kernel)
theorem tw_94 : .fieldLink "GridlockDesk" 29 "GridlockDesk" "payments" "[LGridlockDesk$Payment;" ∈ TB := tb_in 94 (by decide +kernel) (by decide +kernel)
theorem tw_95 : .fieldLink "GridlockDesk" 91 "GridlockDesk" "paymentCount" "I" ∈ TB := tb_in 95 (by decide +kernel) (by decide +kernel)
theorem tw_96 : .fieldLink "GridlockDesk" 151 "GridlockDesk" "settledSum" "J" ∈ TB := tb_in 96 (by decide +kernel) (by decide +kernel)
theorem tw_97 : .fieldLink "GridlockDesk" 87 "GridlockDesk" "time" "I" ∈ TB := tb_in 97 (by decide +kernel) (by decide +kernel)
theorem tw_98 : .fieldLink "GridlockDesk" 33 "GridlockDesk" "chosen" "[I" ∈ TB := tb_in 98 (by decide +kernel) (by decide +kernel)
theorem tw_117 : .methodLink "GridlockDesk" 37 ⟨"GridlockDesk", "isBank", "(I)Z"⟩ ∈ TB := tb_in 117 (by decide +kernel) (by decide +kernel)
theorem tw_119 : .instanceMethod ⟨"GridlockDesk", "isBank", "(I)Z"⟩ ∈ TB := tb_in 119 (by decide +kernel) (by decide +kernel)
theorem tw_120 : .code ⟨"GridlockDesk", "isBank", "(I)Z"⟩ prog_1_method_19_code 2 (some .boolean) ∈ TB := tb_in 120 (by decide +kernel) (by decide +kernel)
theorem tw_121 : .constantLong "GridlockDesk" 41 (-1000000000000) ∈ TB := tb_in 121 (by decide +kernel) (by decide +kernel)
theorem tw_122 : .constantLong "GridlockDesk" 43 1000000000000 ∈ TB := tb_in 122 (by decide +kernel) (by decide +kernel)
theorem tw_123 : .methodLink "GridlockDesk" 52 ⟨"GridlockDesk", "sweep", "()V"⟩ ∈ TB := tb_in 123 (by decide +kernel) (by decide +kernel)
theorem tw_125 : .instanceMethod ⟨"GridlockDesk", "sweep", "()V"⟩ ∈ TB := tb_in 125 (by decide +kernel) (by decide +kernel)
theorem tw_126 : .code ⟨"GridlockDesk", "sweep", "()V"⟩ prog_1_method_28_code 2 none ∈ TB := tb_in 126 (by decide +kernel) (by decide +kernel)
theorem tw_127 : .methodLink "GridlockDesk" 156 ⟨"GridlockDesk", "chooseReadyHead", "()Z"⟩ ∈ TB := tb_in 127 (by decide +kernel) (by decide +kernel)
theorem tw_129 : .instanceMethod ⟨"GridlockDesk", "chooseReadyHead", "()Z"⟩ ∈ TB := tb_in 129 (by decide +kernel) (by decide +kernel)
theorem tw_130 : .code ⟨"GridlockDesk", "chooseReadyHead", "()Z"⟩ prog_1_method_29_code 2 (some .boolean) ∈ TB := tb_in 130 (by decide +kernel) (by decide +kernel)
theorem tw_131 : .methodLink "GridlockDesk" 163 ⟨"GridlockDesk", "chooseHeads", "(II)Z"⟩ ∈ TB := tb_in 131 (by decide +kernel) (by decide +kernel)
theorem tw_133 : .instanceMethod ⟨"GridlockDesk", "chooseHeads", "(II)Z"⟩ ∈ TB := tb_in 133 (by decide +kernel) (by decide +kernel)
theorem tw_134 : .code ⟨"GridlockDesk", "chooseHeads", "(II)Z"⟩ prog_1_method_31_code 3 (some .boolean) ∈ TB := tb_in 134 (by decide +kernel) (by decide +kernel)
theorem tw_135 : .methodLink "GridlockDesk" 170 ⟨"java/util/Arrays", "fill", "([II)V"⟩ ∈ TB := tb_in 135 (by decide +kernel) (by decide +kernel)
theorem tw_136 : .static ⟨"java/util/Arrays", "fill", "([II)V"⟩ ∈ TB := tb_in 136 (by decide +kernel) (by decide +kernel)
theorem tw_137 : .code ⟨"java/util/Arrays", "fill", "([II)V"⟩ prog_7_method_103_code 4 none ∈ TB := tb_in 137 (by decide +kernel) (by decide +kernel)
theorem tw_138 : .methodLink "GridlockDesk" 173 ⟨"GridlockDesk", "firstUnwellBank", "()I"⟩ ∈ TB := tb_in 138 (by decide +kernel) (by decide +kernel)
theorem tw_140 : .instanceMethod ⟨"GridlockDesk", "firstUnwellBank", "()I"⟩ ∈ TB := tb_in 140 (by decide +kernel) (by decide +kernel)
theorem tw_141 : .code ⟨"GridlockDesk", "firstUnwellBank", "()I"⟩ prog_1_method_33_code 2 (some .int) ∈ TB := tb_in 141 (by decide +kernel) (by decide +kernel)
theorem tw_142 : .methodLink "GridlockDesk" 176 ⟨"GridlockDesk", "wouldBeWell", "(I)Z"⟩ ∈ TB := tb_in 142 (by decide +kernel) (by decide +kernel)
theorem tw_144 : .instanceMethod ⟨"GridlockDesk", "wouldBeWell", "(I)Z"⟩ ∈ TB := tb_in 144 (by decide +kernel) (by decide +kernel)
theorem tw_145 : .code ⟨"GridlockDesk", "wouldBeWell", "(I)Z"⟩ prog_1_method_34_code 10 (some .boolean) ∈ TB := tb_in 145 (by decide +kernel) (by decide +kernel)
theorem tw_146 : .methodLink "GridlockDesk" 179 ⟨"GridlockDesk$Bank", "sentWith", "(II)J"⟩ ∈ TB := tb_in 146 (by decide +kernel) (by decide +kernel)
theorem tw_147 : .instanceMethod ⟨"GridlockDesk$Bank", "sentWith", "(II)J"⟩ ∈ TB := tb_in 147 (by decide +kernel) (by decide +kernel)
theorem tw_148 : .selects "GridlockDesk$Bank" ⟨"GridlockDesk$Bank", "sentWith", "(II)J"⟩ ⟨"GridlockDesk$Bank", "sentWith", "(II)J"⟩ ∈ TB := tb_in 148 (by decide +kernel) (by decide +kernel)
theorem tw_149 : .code ⟨"GridlockDesk$Bank", "sentWith", "(II)J"⟩ prog_2_method_5_code 6 (some .long) ∈ TB := tb_in 149 (by decide +kernel) (by decide +kernel)
theorem tw_150 : .methodLink "GridlockDesk" 69 ⟨"GridlockDesk", "exceeds", "(JJ)Z"⟩ ∈ TB := tb_in 150 (by decide +kernel) (by decide +kernel)
theorem tw_151 : .static ⟨"GridlockDesk", "exceeds", "(JJ)Z"⟩ ∈ TB := tb_in 151 (by decide +kernel) (by decide +kernel)
theorem tw_152 : .code ⟨"GridlockDesk", "exceeds", "(JJ)Z"⟩ prog_1_method_25_code 4 (some .boolean) ∈ TB := tb_in 152 (by decide +kernel) (by decide +kernel)
theorem tw_153 : .constantLong "GridlockDesk" 154 (-1) ∈ TB := tb_in 153 (by decide +kernel) (by decide +kernel)
theorem tw_154 : .methodLink "GridlockDesk" 65 ⟨"GridlockDesk", "positionOf", "(II)J"⟩ ∈ TB := tb_in 154 (by decide +kernel) (by decide +kernel)
theorem tw_156 : .instanceMethod ⟨"GridlockDesk", "positionOf", "(II)J"⟩ ∈ TB := tb_in 156 (by decide +kernel) (by decide +kernel)
theorem tw_157 : .code ⟨"GridlockDesk", "positionOf", "(II)J"⟩ prog_1_method_26_code 3 (some .long) ∈ TB := tb_in 157 (by decide +kernel) (by decide +kernel)
theorem tw_158 : .methodLink "GridlockDesk" 123 ⟨"GridlockDesk", "settleChosen", "(I)I"⟩ ∈ TB := tb_in 158 (by decide +kernel) (by decide +kernel)
theorem tw_160 : .instanceMethod ⟨"GridlockDesk", "settleChosen", "(I)I"⟩ ∈ TB := tb_in 160 (by decide +kernel) (by decide +kernel)
theorem tw_161 : .code ⟨"GridlockDesk", "settleChosen", "(I)I"⟩ prog_1_method_35_code 5 (some .int) ∈ TB := tb_in 161 (by decide +kernel) (by decide +kernel)
theorem tw_162 : .methodLink "GridlockDesk" 182 ⟨"GridlockDesk", "settle", "(LGridlockDesk$Payment;I)V"⟩ ∈ TB := tb_in 162 (by decide +kernel) (by decide +kernel)
theorem tw_164 : .instanceMethod ⟨"GridlockDesk", "settle", "(LGridlockDesk$Payment;I)V"⟩ ∈ TB := tb_in 164 (by decide +kernel) (by decide +kernel)
theorem tw_165 : .code ⟨"GridlockDesk", "settle", "(LGridlockDesk$Payment;I)V"⟩ prog_1_method_36_code 4 none ∈ TB := tb_in 165 (by decide +kernel) (by decide +kernel)
theorem tw_166 : .methodLink "GridlockDesk" 107 ⟨"GridlockDesk", "end", "(LGridlockDesk$Payment;I)V"⟩ ∈ TB := tb_in 166 (by decide +kernel) (by decide +kernel)
theorem tw_168 : .instanceMethod ⟨"GridlockDesk", "end", "(LGridlockDesk$Payment;I)V"⟩ ∈ TB := tb_in 168 (by decide +kernel) (by decide +kernel)
theorem tw_169 : .code ⟨"GridlockDesk", "end", "(LGridlockDesk$Payment;I)V"⟩ prog_1_method_37_code 3 none ∈ TB := tb_in 169 (by decide +kernel) (by decide +kernel)
theorem tw_170 : .methodLink "GridlockDesk" 114 ⟨"GridlockDesk$Bank", "remove", "(LGridlockDesk$Payment;)V"⟩ ∈ TB := tb_in 170 (by decide +kernel) (by decide +kernel)
theorem tw_171 : .instanceMethod ⟨"GridlockDesk$Bank", "remove", "(LGridlockDesk$Payment;)V"⟩ ∈ TB := tb_in 171 (by decide +kernel) (by decide +kernel)
theorem tw_172 : .selects "GridlockDesk$Bank" ⟨"GridlockDesk$Bank", "remove", "(LGridlockDesk$Payment;)V"⟩ ⟨"GridlockDesk$Bank", "remove", "(LGridlockDesk$Payment;)V"⟩ ∈ TB := tb_in 172 (by decide +kernel) (by decide +kernel)
theorem tw_173 : .code ⟨"GridlockDesk$Bank", "remove", "(LGridlockDesk$Payment;)V"⟩ prog_2_method_3_code 4 none ∈ TB := tb_in 173 (by decide +kernel) (by decide +kernel)
theorem tw_174 : .methodLink "GridlockDesk" 160 ⟨"GridlockDesk", "chooseReadyPair", "()Z"⟩ ∈ TB := tb_in 174 (by decide +kernel) (by decide +kernel)
theorem tw_176 : .instanceMethod ⟨"GridlockDesk", "chooseReadyPair", "()Z"⟩ ∈ TB := tb_in 176 (by decide +kernel) (by decide +kernel)
theorem tw_177 : .code ⟨"GridlockDesk", "chooseReadyPair", "()Z"⟩ prog_1_method_30_code 3 (some .boolean) ∈ TB := tb_in 177 (by decide +kernel) (by decide +kernel)
theorem tw_178 : .methodLink "GridlockDesk" 166 ⟨"GridlockDesk$Bank", "headGoesTo", "()I"⟩ ∈ TB := tb_in 178 (by decide +kernel) (by decide +kernel)
theorem tw_179 : .instanceMethod ⟨"GridlockDesk$Bank", "headGoesTo", "()I"⟩ ∈ TB := tb_in 179 (by decide +kernel) (by decide +kernel)
theorem tw_180 : .selects "GridlockDesk$Bank" ⟨"GridlockDesk$Bank", "headGoesTo", "()I"⟩ ⟨"GridlockDesk$Bank", "headGoesTo", "()I"⟩ ∈ TB := tb_in 180 (by decide +kernel) (by decide +kernel)
theorem tw_181 : .code ⟨"GridlockDesk$Bank", "headGoesTo", "()I"⟩ prog_2_method_4_code 1 (some .int) ∈ TB := tb_in 181 (by decide +kernel) (by decide +kernel)
theorem tw_186 : .constantLong "GridlockDesk" 55 1000000000000000 ∈ TB := tb_in 186 (by decide +kernel) (by decide +kernel)
theorem tw_191 : .methodLink "GridlockDesk" 57 ⟨"GridlockDesk", "areTwoBanks", "(II)Z"⟩ ∈ TB := tb_in 191 (by decide +kernel) (by decide +kernel)
theorem tw_193 : .instanceMethod ⟨"GridlockDesk", "areTwoBanks", "(II)Z"⟩ ∈ TB := tb_in 193 (by decide +kernel) (by decide +kernel)
theorem tw_194 : .code ⟨"GridlockDesk", "areTwoBanks", "(II)Z"⟩ prog_1_method_20_code 3 (some .boolean) ∈ TB := tb_in 194 (by decide +kernel) (by decide +kernel)
theorem tw_195 : .methodLink "GridlockDesk" 61 ⟨"GridlockDesk", "isLimit", "(J)Z"⟩ ∈ TB := tb_in 195 (by decide +kernel) (by decide +kernel)
theorem tw_196 : .static ⟨"GridlockDesk", "isLimit", "(J)Z"⟩ ∈ TB := tb_in 196 (by decide +kernel) (by decide +kernel)
theorem tw_197 : .code ⟨"GridlockDesk", "isLimit", "(J)Z"⟩ prog_1_method_24_code 2 (some .boolean) ∈ TB := tb_in 197 (by decide +kernel) (by decide +kernel)
theorem tw_202 : .methodLink "GridlockDesk" 77 ⟨"GridlockDesk", "totalPositionOf", "(I)J"⟩ ∈ TB := tb_in 202 (by decide +kernel) (by decide +kernel)
theorem tw_204 : .instanceMethod ⟨"GridlockDesk", "totalPositionOf", "(I)J"⟩ ∈ TB := tb_in 204 (by decide +kernel) (by decide +kernel)
theorem tw_205 : .code ⟨"GridlockDesk", "totalPositionOf", "(I)J"⟩ prog_1_method_27_code 5 (some .long) ∈ TB := tb_in 205 (by decide +kernel) (by decide +kernel)
theorem tw_210 : .methodLink "GridlockDesk" 84 ⟨"GridlockDesk", "isPriority", "(I)Z"⟩ ∈ TB := tb_in 210 (by decide +kernel) (by decide +kernel)
theorem tw_211 : .static ⟨"GridlockDesk", "isPriority", "(I)Z"⟩ ∈ TB := tb_in 211 (by decide +kernel) (by decide +kernel)
theorem tw_212 : .code ⟨"GridlockDesk", "isPriority", "(I)Z"⟩ prog_1_method_23_code 1 (some .boolean) ∈ TB := tb_in 212 (by decide +kernel) (by decide +kernel)
theorem tw_219 : .fieldLink "GridlockDesk" 142 "GridlockDesk$Payment" "number" "I" ∈ TB := tb_in 219 (by decide +kernel) (by decide +kernel)
theorem tw_221 : .fieldLink "GridlockDesk" 111 "GridlockDesk$Payment" "from" "I" ∈ TB := tb_in 221 (by decide +kernel) (by decide +kernel)
theorem tw_223 : .fieldLink "GridlockDesk$Bank" 43 "GridlockDesk$Payment" "to" "I" ∈ TB := tb_in 223 (by decide +kernel) (by decide +kernel)
theorem tw_224 : .fieldLink "GridlockDesk" 188 "GridlockDesk$Payment" "to" "I" ∈ TB := tb_in 224 (by decide +kernel) (by decide +kernel)
theorem tw_226 : .fieldLink "GridlockDesk$Bank" 46 "GridlockDesk$Payment" "amount" "J" ∈ TB := tb_in 226 (by decide +kernel) (by decide +kernel)
theorem tw_227 : .fieldLink "GridlockDesk" 185 "GridlockDesk$Payment" "amount" "J" ∈ TB := tb_in 227 (by decide +kernel) (by decide +kernel)
theorem tw_229 : .fieldLink "GridlockDesk" 127 "GridlockDesk$Payment" "until" "I" ∈ TB := tb_in 229 (by decide +kernel) (by decide +kernel)
theorem tw_231 : .fieldLink "GridlockDesk$Bank" 40 "GridlockDesk$Payment" "priority" "I" ∈ TB := tb_in 231 (by decide +kernel) (by decide +kernel)
theorem tw_232 : .fieldLink "GridlockDesk" 117 "GridlockDesk$Payment" "priority" "I" ∈ TB := tb_in 232 (by decide +kernel) (by decide +kernel)
theorem tw_234 : .fieldLink "GridlockDesk" 148 "GridlockDesk$Payment" "fate" "I" ∈ TB := tb_in 234 (by decide +kernel) (by decide +kernel)
theorem tw_250 : .methodLink "GridlockDesk" 100 ⟨"GridlockDesk$Bank", "enqueue", "(LGridlockDesk$Payment;)V"⟩ ∈ TB := tb_in 250 (by decide +kernel) (by decide +kernel)
theorem tw_251 : .instanceMethod ⟨"GridlockDesk$Bank", "enqueue", "(LGridlockDesk$Payment;)V"⟩ ∈ TB := tb_in 251 (by decide +kernel) (by decide +kernel)
theorem tw_252 : .selects "GridlockDesk$Bank" ⟨"GridlockDesk$Bank", "enqueue", "(LGridlockDesk$Payment;)V"⟩ ⟨"GridlockDesk$Bank", "enqueue", "(LGridlockDesk$Payment;)V"⟩ ∈ TB := tb_in 252 (by decide +kernel) (by decide +kernel)
theorem tw_253 : .code ⟨"GridlockDesk$Bank", "enqueue", "(LGridlockDesk$Payment;)V"⟩ prog_2_method_2_code 3 none ∈ TB := tb_in 253 (by decide +kernel) (by decide +kernel)
theorem tw_258 : .methodLink "GridlockDesk" 104 ⟨"GridlockDesk", "isQueued", "(I)Z"⟩ ∈ TB := tb_in 258 (by decide +kernel) (by decide +kernel)
theorem tw_260 : .instanceMethod ⟨"GridlockDesk", "isQueued", "(I)Z"⟩ ∈ TB := tb_in 260 (by decide +kernel) (by decide +kernel)
theorem tw_261 : .code ⟨"GridlockDesk", "isQueued", "(I)Z"⟩ prog_1_method_22_code 2 (some .boolean) ∈ TB := tb_in 261 (by decide +kernel) (by decide +kernel)
theorem tw_262 : .methodLink "GridlockDesk" 145 ⟨"GridlockDesk", "isPayment", "(I)Z"⟩ ∈ TB := tb_in 262 (by decide +kernel) (by decide +kernel)
theorem tw_264 : .instanceMethod ⟨"GridlockDesk", "isPayment", "(I)Z"⟩ ∈ TB := tb_in 264 (by decide +kernel) (by decide +kernel)
theorem tw_265 : .code ⟨"GridlockDesk", "isPayment", "(I)Z"⟩ prog_1_method_21_code 2 (some .boolean) ∈ TB := tb_in 265 (by decide +kernel) (by decide +kernel)
theorem tw_274 : .methodLink "GridlockDesk" 120 ⟨"GridlockDesk", "chooseGreatest", "()V"⟩ ∈ TB := tb_in 274 (by decide +kernel) (by decide +kernel)
theorem tw_276 : .instanceMethod ⟨"GridlockDesk", "chooseGreatest", "()V"⟩ ∈ TB := tb_in 276 (by decide +kernel) (by decide +kernel)
theorem tw_277 : .code ⟨"GridlockDesk", "chooseGreatest", "()V"⟩ prog_1_method_32_code 3 none ∈ TB := tb_in 277 (by decide +kernel) (by decide +kernel)
theorem tw_286 : .methodLink "GridlockDesk" 133 ⟨"java/util/Arrays", "fill", "([JJ)V"⟩ ∈ TB := tb_in 286 (by decide +kernel) (by decide +kernel)
abbrev y_J_fillI : MethodName := ⟨"java/util/Arrays", "fill", "([II)V"⟩
abbrev ws_J_fillI : List Cond := .code y_J_fillI prog_7_method_103_code 4 none :: TB
theorem d_J_fillI_0 : decode prog_7_method_103_code 0 = .ok (.iconst 0, 1) := by decide +kernel
theorem d_J_fillI_1 : decode prog_7_method_103_code 1 = .ok (.istore_n 2, 1) := by decide +kernel
theorem d_J_fillI_2 : decode prog_7_method_103_code 2 = .ok (.aload_n 0, 1) := by decide +kernel
theorem d_J_fillI_3 : decode prog_7_method_103_code 3 = .ok (.arraylength, 1) := by decide +kernel
theorem d_J_fillI_4 : decode prog_7_method_103_code 4 = .ok (.istore_n 3, 1) := by decide +kernel
theorem d_J_fillI_5 : decode prog_7_method_103_code 5 = .ok (.iload_n 2, 1) := by decide +kernel
theorem d_J_fillI_6 : decode prog_7_method_103_code 6 = .ok (.iload_n 3, 1) := by decide +kernel
theorem d_J_fillI_7 : decode prog_7_method_103_code 7 = .ok (.if_icmp .ge 13, 3) := by decide +kernel
theorem d_J_fillI_10 : decode prog_7_method_103_code 10 = .ok (.aload_n 0, 1) := by decide +kernel
theorem d_J_fillI_11 : decode prog_7_method_103_code 11 = .ok (.iload_n 2, 1) := by decide +kernel
theorem d_J_fillI_12 : decode prog_7_method_103_code 12 = .ok (.iload_n 1, 1) := by decide +kernel
theorem d_J_fillI_13 : decode prog_7_method_103_code 13 = .ok (.iastore, 1) := by decide +kernel
theorem d_J_fillI_14 : decode prog_7_method_103_code 14 = .ok (.iinc 2 1, 3) := by decide +kernel
theorem d_J_fillI_17 : decode prog_7_method_103_code 17 = .ok (.goto (-12), 3) := by decide +kernel
theorem d_J_fillI_20 : decode prog_7_method_103_code 20 = .ok (.return_, 1) := by decide +kernel
abbrev y_J_fillJ : MethodName := ⟨"java/util/Arrays", "fill", "([JJ)V"⟩
abbrev ws_J_fillJ : List Cond := .code y_J_fillJ prog_7_method_101_code 5 none :: TB
theorem d_J_fillJ_0 : decode prog_7_method_101_code 0 = .ok (.iconst 0, 1) := by decide +kernel
theorem d_J_fillJ_1 : decode prog_7_method_101_code 1 = .ok (.istore_n 3, 1) := by decide +kernel
theorem d_J_fillJ_2 : decode prog_7_method_101_code 2 = .ok (.aload_n 0, 1) := by decide +kernel
theorem d_J_fillJ_3 : decode prog_7_method_101_code 3 = .ok (.arraylength, 1) := by decide +kernel
theorem d_J_fillJ_4 : decode prog_7_method_101_code 4 = .ok (.istore 4, 2) := by decide +kernel
theorem d_J_fillJ_6 : decode prog_7_method_101_code 6 = .ok (.iload_n 3, 1) := by decide +kernel
theorem d_J_fillJ_7 : decode prog_7_method_101_code 7 = .ok (.iload 4, 2) := by decide +kernel
theorem d_J_fillJ_9 : decode prog_7_method_101_code 9 = .ok (.if_icmp .ge 13, 3) := by decide +kernel
theorem d_J_fillJ_12 : decode prog_7_method_101_code 12 = .ok (.aload_n 0, 1) := by decide +kernel
theorem d_J_fillJ_13 : decode prog_7_method_101_code 13 = .ok (.iload_n 3, 1) := by decide +kernel
theorem d_J_fillJ_14 : decode prog_7_method_101_code 14 = .ok (.lload_n 1, 1) := by decide +kernel
theorem d_J_fillJ_15 : decode prog_7_method_101_code 15 = .ok (.lastore, 1) := by decide +kernel
theorem d_J_fillJ_16 : decode prog_7_method_101_code 16 = .ok (.iinc 3 1, 3) := by decide +kernel
theorem d_J_fillJ_19 : decode prog_7_method_101_code 19 = .ok (.goto (-13), 3) := by decide +kernel
theorem d_J_fillJ_22 : decode prog_7_method_101_code 22 = .ok (.return_, 1) := by decide +kernel
abbrev y_B_headGoesTo : MethodName := ⟨"GridlockDesk$Bank", "headGoesTo", "()I"⟩
abbrev ws_B_headGoesTo : List Cond := .code y_B_headGoesTo prog_2_method_4_code 1 (some .int) :: TB
theorem d_B_headGoesTo_0 : decode prog_2_method_4_code 0 = .ok (.aload_n 0, 1) := by decide +kernel
theorem d_B_headGoesTo_1 : decode prog_2_method_4_code 1 = .ok (.getfield 36, 3) := by decide +kernel
theorem d_B_headGoesTo_4 : decode prog_2_method_4_code 4 = .ok (.ifCond .le 15, 3) := by decide +kernel
theorem d_B_headGoesTo_7 : decode prog_2_method_4_code 7 = .ok (.aload_n 0, 1) := by decide +kernel
theorem d_B_headGoesTo_8 : decode prog_2_method_4_code 8 = .ok (.getfield 32, 3) := by decide +kernel
theorem d_B_headGoesTo_11 : decode prog_2_method_4_code 11 = .ok (.iconst 0, 1) := by decide +kernel
theorem d_B_headGoesTo_12 : decode prog_2_method_4_code 12 = .ok (.aaload, 1) := by decide +kernel
theorem d_B_headGoesTo_13 : decode prog_2_method_4_code 13 = .ok (.getfield 43, 3) := by decide +kernel
theorem d_B_headGoesTo_16 : decode prog_2_method_4_code 16 = .ok (.goto 4, 3) := by decide +kernel
theorem d_B_headGoesTo_19 : decode prog_2_method_4_code 19 = .ok (.iconst (-1), 1) := by decide +kernel
theorem d_B_headGoesTo_20 : decode prog_2_method_4_code 20 = .ok (.ireturn, 1) := by decide +kernel
abbrev y_B_sentWith : MethodName := ⟨"GridlockDesk$Bank", "sentWith", "(II)J"⟩
abbrev ws_B_sentWith : List Cond := .code y_B_sentWith prog_2_method_5_code 6 (some .long) :: TB
theorem d_B_sentWith_0 : decode prog_2_method_5_code 0 = .ok (.aload_n 0, 1) := by decide +kernel
theorem d_B_sentWith_1 : decode prog_2_method_5_code 1 = .ok (.getfield 27, 3) := by decide +kernel
theorem d_B_sentWith_4 : decode prog_2_method_5_code 4 = .ok (.iload_n 2, 1) := by decide +kernel
theorem d_B_sentWith_5 : decode prog_2_method_5_code 5 = .ok (.laload, 1) := by decide +kernel
theorem d_B_sentWith_6 : decode prog_2_method_5_code 6 = .ok (.lstore_n 3, 1) := by decide +kernel
theorem d_B_sentWith_7 : decode prog_2_method_5_code 7 = .ok (.iconst 0, 1) := by decide +kernel
theorem d_B_sentWith_8 : decode prog_2_method_5_code 8 = .ok (.istore 5, 2) := by decide +kernel
theorem d_B_sentWith_10 : decode prog_2_method_5_code 10 = .ok (.iload 5, 2) := by decide +kernel
theorem d_B_sentWith_12 : decode prog_2_method_5_code 12 = .ok (.iload_n 1, 1) := by decide +kernel
theorem d_B_sentWith_13 : decode prog_2_method_5_code 13 = .ok (.if_icmp .ge 45, 3) := by decide +kernel
theorem d_B_sentWith_16 : decode prog_2_method_5_code 16 = .ok (.iload 5, 2) := by decide +kernel
theorem d_B_sentWith_18 : decode prog_2_method_5_code 18 = .ok (.aload_n 0, 1) := by decide +kernel
theorem d_B_sentWith_19 : decode prog_2_method_5_code 19 = .ok (.getfield 36, 3) := by decide +kernel
theorem d_B_sentWith_22 : decode prog_2_method_5_code 22 = .ok (.if_icmp .ge 36, 3) := by decide +kernel
theorem d_B_sentWith_25 : decode prog_2_method_5_code 25 = .ok (.aload_n 0, 1) := by decide +kernel
theorem d_B_sentWith_26 : decode prog_2_method_5_code 26 = .ok (.getfield 32, 3) := by decide +kernel
theorem d_B_sentWith_29 : decode prog_2_method_5_code 29 = .ok (.iload 5, 2) := by decide +kernel
theorem d_B_sentWith_31 : decode prog_2_method_5_code 31 = .ok (.aaload, 1) := by decide +kernel
theorem d_B_sentWith_32 : decode prog_2_method_5_code 32 = .ok (.getfield 43, 3) := by decide +kernel
theorem d_B_sentWith_35 : decode prog_2_method_5_code 35 = .ok (.iload_n 2, 1) := by decide +kernel
theorem d_B_sentWith_36 : decode prog_2_method_5_code 36 = .ok (.if_icmp .ne 16, 3) := by decide +kernel
theorem d_B_sentWith_39 : decode prog_2_method_5_code 39 = .ok (.lload_n 3, 1) := by decide +kernel
theorem d_B_sentWith_40 : decode prog_2_method_5_code 40 = .ok (.aload_n 0, 1) := by decide +kernel
theorem d_B_sentWith_41 : decode prog_2_method_5_code 41 = .ok (.getfield 32, 3) := by decide +kernel
theorem d_B_sentWith_44 : decode prog_2_method_5_code 44 = .ok (.iload 5, 2) := by decide +kernel
theorem d_B_sentWith_46 : decode prog_2_method_5_code 46 = .ok (.aaload, 1) := by decide +kernel
theorem d_B_sentWith_47 : decode prog_2_method_5_code 47 = .ok (.getfield 46, 3) := by decide +kernel
theorem d_B_sentWith_50 : decode prog_2_method_5_code 50 = .ok (.ladd, 1) := by decide +kernel
theorem d_B_sentWith_51 : decode prog_2_method_5_code 51 = .ok (.lstore_n 3, 1) := by decide +kernel
theorem d_B_sentWith_52 : decode prog_2_method_5_code 52 = .ok (.iinc 5 1, 3) := by decide +kernel
theorem d_B_sentWith_55 : decode prog_2_method_5_code 55 = .ok (.goto (-45), 3) := by decide +kernel
theorem d_B_sentWith_58 : decode prog_2_method_5_code 58 = .ok (.lload_n 3, 1) := by decide +kernel
theorem d_B_sentWith_59 : decode prog_2_method_5_code 59 = .ok (.lreturn, 1) := by decide +kernel
abbrev y_B_remove : MethodName := ⟨"GridlockDesk$Bank", "remove", "(LGridlockDesk$Payment;)V"⟩
abbrev ws_B_remove : List Cond := .code y_B_remove prog_2_method_3_code 4 none :: TB
theorem d_B_remove_0 : decode prog_2_method_3_code 0 = .ok (.iconst 0, 1) := by decide +kernel
theorem d_B_remove_1 : decode prog_2_method_3_code 1 = .ok (.istore_n 2, 1) := by decide +kernel
theorem d_B_remove_2 : decode prog_2_method_3_code 2 = .ok (.iconst 0, 1) := by decide +kernel
theorem d_B_remove_3 : decode prog_2_method_3_code 3 = .ok (.istore_n 3, 1) := by decide +kernel
theorem d_B_remove_4 : decode prog_2_method_3_code 4 = .ok (.iload_n 3, 1) := by decide +kernel
theorem d_B_remove_5 : decode prog_2_method_3_code 5 = .ok (.aload_n 0, 1) := by decide +kernel
theorem d_B_remove_6 : decode prog_2_method_3_code 6 = .ok (.getfield 36, 3) := by decide +kernel
theorem d_B_remove_9 : decode prog_2_method_3_code 9 = .ok (.if_icmp .ge 34, 3) := by decide +kernel
theorem d_B_remove_12 : decode prog_2_method_3_code 12 = .ok (.aload_n 0, 1) := by decide +kernel
theorem d_B_remove_13 : decode prog_2_method_3_code 13 = .ok (.getfield 32, 3) := by decide +kernel
theorem d_B_remove_16 : decode prog_2_method_3_code 16 = .ok (.iload_n 3, 1) := by decide +kernel
theorem d_B_remove_17 : decode prog_2_method_3_code 17 = .ok (.aaload, 1) := by decide +kernel
theorem d_B_remove_18 : decode prog_2_method_3_code 18 = .ok (.aload_n 1, 1) := by decide +kernel
theorem d_B_remove_19 : decode prog_2_method_3_code 19 = .ok (.if_acmp .eq 18, 3) := by decide +kernel
theorem d_B_remove_22 : decode prog_2_method_3_code 22 = .ok (.aload_n 0, 1) := by decide +kernel
theorem d_B_remove_23 : decode prog_2_method_3_code 23 = .ok (.getfield 32, 3) := by decide +kernel
theorem d_B_remove_26 : decode prog_2_method_3_code 26 = .ok (.iload_n 2, 1) := by decide +kernel
theorem d_B_remove_27 : decode prog_2_method_3_code 27 = .ok (.aload_n 0, 1) := by decide +kernel
theorem d_B_remove_28 : decode prog_2_method_3_code 28 = .ok (.getfield 32, 3) := by decide +kernel
theorem d_B_remove_31 : decode prog_2_method_3_code 31 = .ok (.iload_n 3, 1) := by decide +kernel
theorem d_B_remove_32 : decode prog_2_method_3_code 32 = .ok (.aaload, 1) := by decide +kernel
theorem d_B_remove_33 : decode prog_2_method_3_code 33 = .ok (.aastore, 1) := by decide +kernel
theorem d_B_remove_34 : decode prog_2_method_3_code 34 = .ok (.iinc 2 1, 3) := by decide +kernel
theorem d_B_remove_37 : decode prog_2_method_3_code 37 = .ok (.iinc 3 1, 3) := by decide +kernel
theorem d_B_remove_40 : decode prog_2_method_3_code 40 = .ok (.goto (-36), 3) := by decide +kernel
theorem d_B_remove_43 : decode prog_2_method_3_code 43 = .ok (.aload_n 0, 1) := by decide +kernel
theorem d_B_remove_44 : decode prog_2_method_3_code 44 = .ok (.iload_n 2, 1) := by decide +kernel
theorem d_B_remove_45 : decode prog_2_method_3_code 45 = .ok (.putfield 36, 3) := by decide +kernel
theorem d_B_remove_48 : decode prog_2_method_3_code 48 = .ok (.return_, 1) := by decide +kernel
abbrev y_B_enqueue : MethodName := ⟨"GridlockDesk$Bank", "enqueue", "(LGridlockDesk$Payment;)V"⟩
abbrev ws_B_enqueue : List Cond := .code y_B_enqueue prog_2_method_2_code 3 none :: TB
theorem d_B_enqueue_0 : decode prog_2_method_2_code 0 = .ok (.aload_n 0, 1) := by decide +kernel
theorem d_B_enqueue_1 : decode prog_2_method_2_code 1 = .ok (.getfield 36, 3) := by decide +kernel
theorem d_B_enqueue_4 : decode prog_2_method_2_code 4 = .ok (.aload_n 0, 1) := by decide +kernel
theorem d_B_enqueue_5 : decode prog_2_method_2_code 5 = .ok (.getfield 32, 3) := by decide +kernel
theorem d_B_enqueue_8 : decode prog_2_method_2_code 8 = .ok (.arraylength, 1) := by decide +kernel
theorem d_B_enqueue_9 : decode prog_2_method_2_code 9 = .ok (.if_icmp .lt 4, 3) := by decide +kernel
theorem d_B_enqueue_12 : decode prog_2_method_2_code 12 = .ok (.return_, 1) := by decide +kernel
theorem d_B_enqueue_13 : decode prog_2_method_2_code 13 = .ok (.aload_n 0, 1) := by decide +kernel
theorem d_B_enqueue_14 : decode prog_2_method_2_code 14 = .ok (.getfield 36, 3) := by decide +kernel
theorem d_B_enqueue_17 : decode prog_2_method_2_code 17 = .ok (.istore_n 2, 1) := by decide +kernel
theorem d_B_enqueue_18 : decode prog_2_method_2_code 18 = .ok (.iload_n 2, 1) := by decide +kernel
theorem d_B_enqueue_19 : decode prog_2_method_2_code 19 = .ok (.ifCond .le 41, 3) := by decide +kernel
theorem d_B_enqueue_22 : decode prog_2_method_2_code 22 = .ok (.aload_n 0, 1) := by decide +kernel
theorem d_B_enqueue_23 : decode prog_2_method_2_code 23 = .ok (.getfield 32, 3) := by decide +kernel
theorem d_B_enqueue_26 : decode prog_2_method_2_code 26 = .ok (.iload_n 2, 1) := by decide +kernel
theorem d_B_enqueue_27 : decode prog_2_method_2_code 27 = .ok (.iconst 1, 1) := by decide +kernel
theorem d_B_enqueue_28 : decode prog_2_method_2_code 28 = .ok (.isub, 1) := by decide +kernel
theorem d_B_enqueue_29 : decode prog_2_method_2_code 29 = .ok (.aaload, 1) := by decide +kernel
theorem d_B_enqueue_30 : decode prog_2_method_2_code 30 = .ok (.getfield 40, 3) := by decide +kernel
theorem d_B_enqueue_33 : decode prog_2_method_2_code 33 = .ok (.aload_n 1, 1) := by decide +kernel
theorem d_B_enqueue_34 : decode prog_2_method_2_code 34 = .ok (.getfield 40, 3) := by decide +kernel
theorem d_B_enqueue_37 : decode prog_2_method_2_code 37 = .ok (.if_icmp .ge 23, 3) := by decide +kernel
theorem d_B_enqueue_40 : decode prog_2_method_2_code 40 = .ok (.aload_n 0, 1) := by decide +kernel
theorem d_B_enqueue_41 : decode prog_2_method_2_code 41 = .ok (.getfield 32, 3) := by decide +kernel
theorem d_B_enqueue_44 : decode prog_2_method_2_code 44 = .ok (.iload_n 2, 1) := by decide +kernel
theorem d_B_enqueue_45 : decode prog_2_method_2_code 45 = .ok (.aload_n 0, 1) := by decide +kernel
theorem d_B_enqueue_46 : decode prog_2_method_2_code 46 = .ok (.getfield 32, 3) := by decide +kernel
theorem d_B_enqueue_49 : decode prog_2_method_2_code 49 = .ok (.iload_n 2, 1) := by decide +kernel
theorem d_B_enqueue_50 : decode prog_2_method_2_code 50 = .ok (.iconst 1, 1) := by decide +kernel
theorem d_B_enqueue_51 : decode prog_2_method_2_code 51 = .ok (.isub, 1) := by decide +kernel
theorem d_B_enqueue_52 : decode prog_2_method_2_code 52 = .ok (.aaload, 1) := by decide +kernel
theorem d_B_enqueue_53 : decode prog_2_method_2_code 53 = .ok (.aastore, 1) := by decide +kernel
theorem d_B_enqueue_54 : decode prog_2_method_2_code 54 = .ok (.iinc 2 (-1), 3) := by decide +kernel
theorem d_B_enqueue_57 : decode prog_2_method_2_code 57 = .ok (.goto (-39), 3) := by decide +kernel
theorem d_B_enqueue_60 : decode prog_2_method_2_code 60 = .ok (.aload_n 0, 1) := by decide +kernel
theorem d_B_enqueue_61 : decode prog_2_method_2_code 61 = .ok (.getfield 32, 3) := by decide +kernel
theorem d_B_enqueue_64 : decode prog_2_method_2_code 64 = .ok (.iload_n 2, 1) := by decide +kernel
theorem d_B_enqueue_65 : decode prog_2_method_2_code 65 = .ok (.aload_n 1, 1) := by decide +kernel
theorem d_B_enqueue_66 : decode prog_2_method_2_code 66 = .ok (.aastore, 1) := by decide +kernel
theorem d_B_enqueue_67 : decode prog_2_method_2_code 67 = .ok (.aload_n 0, 1) := by decide +kernel
theorem d_B_enqueue_68 : decode prog_2_method_2_code 68 = .ok (.dup, 1) := by decide +kernel
theorem d_B_enqueue_69 : decode prog_2_method_2_code 69 = .ok (.getfield 36, 3) := by decide +kernel
theorem d_B_enqueue_72 : decode prog_2_method_2_code 72 = .ok (.iconst 1, 1) := by decide +kernel
theorem d_B_enqueue_73 : decode prog_2_method_2_code 73 = .ok (.iadd, 1) := by decide +kernel
theorem d_B_enqueue_74 : decode prog_2_method_2_code 74 = .ok (.putfield 36, 3) := by decide +kernel
theorem d_B_enqueue_77 : decode prog_2_method_2_code 77 = .ok (.return_, 1) := by decide +kernel
abbrev y_X_isBank : MethodName := ⟨"GridlockDesk", "isBank", "(I)Z"⟩
abbrev ws_X_isBank : List Cond := .code y_X_isBank prog_1_method_19_code 2 (some .boolean) :: TB
theorem d_X_isBank_0 : decode prog_1_method_19_code 0 = .ok (.iload_n 1, 1) := by decide +kernel
theorem d_X_isBank_1 : decode prog_1_method_19_code 1 = .ok (.ifCond .lt 16, 3) := by decide +kernel
theorem d_X_isBank_4 : decode prog_1_method_19_code 4 = .ok (.iload_n 1, 1) := by decide +kernel
theorem d_X_isBank_5 : decode prog_1_method_19_code 5 = .ok (.aload_n 0, 1) := by decide +kernel
theorem d_X_isBank_6 : decode prog_1_method_19_code 6 = .ok (.getfield 20, 3) := by decide +kernel
theorem d_X_isBank_9 : decode prog_1_method_19_code 9 = .ok (.arraylength, 1) := by decide +kernel
theorem d_X_isBank_10 : decode prog_1_method_19_code 10 = .ok (.if_icmp .ge 7, 3) := by decide +kernel
theorem d_X_isBank_13 : decode prog_1_method_19_code 13 = .ok (.iconst 1, 1) := by decide +kernel
theorem d_X_isBank_14 : decode prog_1_method_19_code 14 = .ok (.goto 4, 3) := by decide +kernel
theorem d_X_isBank_17 : decode prog_1_method_19_code 17 = .ok (.iconst 0, 1) := by decide +kernel
theorem d_X_isBank_18 : decode prog_1_method_19_code 18 = .ok (.ireturn, 1) := by decide +kernel
abbrev y_X_areTwoBanks : MethodName := ⟨"GridlockDesk", "areTwoBanks", "(II)Z"⟩
abbrev ws_X_areTwoBanks : List Cond := .code y_X_areTwoBanks prog_1_method_20_code 3 (some .boolean) :: TB
theorem d_X_areTwoBanks_0 : decode prog_1_method_20_code 0 = .ok (.aload_n 0, 1) := by decide +kernel
theorem d_X_areTwoBanks_1 : decode prog_1_method_20_code 1 = .ok (.iload_n 1, 1) := by decide +kernel
theorem d_X_areTwoBanks_2 : decode prog_1_method_20_code 2 = .ok (.invokevirtual 37, 3) := by decide +kernel
theorem d_X_areTwoBanks_5 : decode prog_1_method_20_code 5 = .ok (.ifCond .eq 20, 3) := by decide +kernel
theorem d_X_areTwoBanks_8 : decode prog_1_method_20_code 8 = .ok (.aload_n 0, 1) := by decide +kernel
theorem d_X_areTwoBanks_9 : decode prog_1_method_20_code 9 = .ok (.iload_n 2, 1) := by decide +kernel
theorem d_X_areTwoBanks_10 : decode prog_1_method_20_code 10 = .ok (.invokevirtual 37, 3) := by decide +kernel
theorem d_X_areTwoBanks_13 : decode prog_1_method_20_code 13 = .ok (.ifCond .eq 12, 3) := by decide +kernel
theorem d_X_areTwoBanks_16 : decode prog_1_method_20_code 16 = .ok (.iload_n 1, 1) := by decide +kernel
theorem d_X_areTwoBanks_17 : decode prog_1_method_20_code 17 = .ok (.iload_n 2, 1) := by decide +kernel
theorem d_X_areTwoBanks_18 : decode prog_1_method_20_code 18 = .ok (.if_icmp .eq 7, 3) := by decide +kernel
theorem d_X_areTwoBanks_21 : decode prog_1_method_20_code 21 = .ok (.iconst 1, 1) := by decide +kernel
theorem d_X_areTwoBanks_22 : decode prog_1_method_20_code 22 = .ok (.goto 4, 3) := by decide +kernel
theorem d_X_areTwoBanks_25 : decode prog_1_method_20_code 25 = .ok (.iconst 0, 1) := by decide +kernel
theorem d_X_areTwoBanks_26 : decode prog_1_method_20_code 26 = .ok (.ireturn, 1) := by decide +kernel
abbrev y_X_isPayment : MethodName := ⟨"GridlockDesk", "isPayment", "(I)Z"⟩
abbrev ws_X_isPayment : List Cond := .code y_X_isPayment prog_1_method_21_code 2 (some .boolean) :: TB
theorem d_X_isPayment_0 : decode prog_1_method_21_code 0 = .ok (.iload_n 1, 1) := by decide +kernel
theorem d_X_isPayment_1 : decode prog_1_method_21_code 1 = .ok (.ifCond .lt 15, 3) := by decide +kernel
theorem d_X_isPayment_4 : decode prog_1_method_21_code 4 = .ok (.iload_n 1, 1) := by decide +kernel
theorem d_X_isPayment_5 : decode prog_1_method_21_code 5 = .ok (.aload_n 0, 1) := by decide +kernel
theorem d_X_isPayment_6 : decode prog_1_method_21_code 6 = .ok (.getfield 91, 3) := by decide +kernel
theorem d_X_isPayment_9 : decode prog_1_method_21_code 9 = .ok (.if_icmp .ge 7, 3) := by decide +kernel
theorem d_X_isPayment_12 : decode prog_1_method_21_code 12 = .ok (.iconst 1, 1) := by decide +kernel
theorem d_X_isPayment_13 : decode prog_1_method_21_code 13 = .ok (.goto 4, 3) := by decide +kernel
theorem d_X_isPayment_16 : decode prog_1_method_21_code 16 = .ok (.iconst 0, 1) := by decide +kernel
theorem d_X_isPayment_17 : decode prog_1_method_21_code 17 = .ok (.ireturn, 1) := by decide +kernel
abbrev y_X_isQueued : MethodName := ⟨"GridlockDesk", "isQueued", "(I)Z"⟩
abbrev ws_X_isQueued : List Cond := .code y_X_isQueued prog_1_method_22_code 2 (some .boolean) :: TB
theorem d_X_isQueued_0 : decode prog_1_method_22_code 0 = .ok (.aload_n 0, 1) := by decide +kernel
theorem d_X_isQueued_1 : decode prog_1_method_22_code 1 = .ok (.iload_n 1, 1) := by decide +kernel
theorem d_X_isQueued_2 : decode prog_1_method_22_code 2 = .ok (.invokevirtual 145, 3) := by decide +kernel
theorem d_X_isQueued_5 : decode prog_1_method_22_code 5 = .ok (.ifCond .eq 19, 3) := by decide +kernel
theorem d_X_isQueued_8 : decode prog_1_method_22_code 8 = .ok (.aload_n 0, 1) := by decide +kernel
theorem d_X_isQueued_9 : decode prog_1_method_22_code 9 = .ok (.getfield 29, 3) := by decide +kernel
theorem d_X_isQueued_12 : decode prog_1_method_22_code 12 = .ok (.iload_n 1, 1) := by decide +kernel
theorem d_X_isQueued_13 : decode prog_1_method_22_code 13 = .ok (.aaload, 1) := by decide +kernel
theorem d_X_isQueued_14 : decode prog_1_method_22_code 14 = .ok (.getfield 148, 3) := by decide +kernel
theorem d_X_isQueued_17 : decode prog_1_method_22_code 17 = .ok (.ifCond .ne 7, 3) := by decide +kernel
theorem d_X_isQueued_20 : decode prog_1_method_22_code 20 = .ok (.iconst 1, 1) := by decide +kernel
theorem d_X_isQueued_21 : decode prog_1_method_22_code 21 = .ok (.goto 4, 3) := by decide +kernel
theorem d_X_isQueued_24 : decode prog_1_method_22_code 24 = .ok (.iconst 0, 1) := by decide +kernel
theorem d_X_isQueued_25 : decode prog_1_method_22_code 25 = .ok (.ireturn, 1) := by decide +kernel
abbrev y_X_isPriority : MethodName := ⟨"GridlockDesk", "isPriority", "(I)Z"⟩
abbrev ws_X_isPriority : List Cond := .code y_X_isPriority prog_1_method_23_code 1 (some .boolean) :: TB
theorem d_X_isPriority_0 : decode prog_1_method_23_code 0 = .ok (.iload_n 0, 1) := by decide +kernel
theorem d_X_isPriority_1 : decode prog_1_method_23_code 1 = .ok (.ifCond .lt 12, 3) := by decide +kernel
theorem d_X_isPriority_4 : decode prog_1_method_23_code 4 = .ok (.iload_n 0, 1) := by decide +kernel
theorem d_X_isPriority_5 : decode prog_1_method_23_code 5 = .ok (.iconst 3, 1) := by decide +kernel
theorem d_X_isPriority_6 : decode prog_1_method_23_code 6 = .ok (.if_icmp .gt 7, 3) := by decide +kernel
theorem d_X_isPriority_9 : decode prog_1_method_23_code 9 = .ok (.iconst 1, 1) := by decide +kernel
theorem d_X_isPriority_10 : decode prog_1_method_23_code 10 = .ok (.goto 4, 3) := by decide +kernel
theorem d_X_isPriority_13 : decode prog_1_method_23_code 13 = .ok (.iconst 0, 1) := by decide +kernel
theorem d_X_isPriority_14 : decode prog_1_method_23_code 14 = .ok (.ireturn, 1) := by decide +kernel
abbrev y_X_isLimit : MethodName := ⟨"GridlockDesk", "isLimit", "(J)Z"⟩
abbrev ws_X_isLimit : List Cond := .code y_X_isLimit prog_1_method_24_code 2 (some .boolean) :: TB
theorem d_X_isLimit_0 : decode prog_1_method_24_code 0 = .ok (.lload_n 0, 1) := by decide +kernel
theorem d_X_isLimit_1 : decode prog_1_method_24_code 1 = .ok (.ldc2_w 154, 3) := by decide +kernel
theorem d_X_isLimit_4 : decode prog_1_method_24_code 4 = .ok (.lcmp, 1) := by decide +kernel
theorem d_X_isLimit_5 : decode prog_1_method_24_code 5 = .ok (.ifCond .eq 17, 3) := by decide +kernel
theorem d_X_isLimit_8 : decode prog_1_method_24_code 8 = .ok (.lload_n 0, 1) := by decide +kernel
theorem d_X_isLimit_9 : decode prog_1_method_24_code 9 = .ok (.lconst 0, 1) := by decide +kernel
theorem d_X_isLimit_10 : decode prog_1_method_24_code 10 = .ok (.lcmp, 1) := by decide +kernel
theorem d_X_isLimit_11 : decode prog_1_method_24_code 11 = .ok (.ifCond .lt 15, 3) := by decide +kernel
theorem d_X_isLimit_14 : decode prog_1_method_24_code 14 = .ok (.lload_n 0, 1) := by decide +kernel
theorem d_X_isLimit_15 : decode prog_1_method_24_code 15 = .ok (.ldc2_w 55, 3) := by decide +kernel
theorem d_X_isLimit_18 : decode prog_1_method_24_code 18 = .ok (.lcmp, 1) := by decide +kernel
theorem d_X_isLimit_19 : decode prog_1_method_24_code 19 = .ok (.ifCond .gt 7, 3) := by decide +kernel
theorem d_X_isLimit_22 : decode prog_1_method_24_code 22 = .ok (.iconst 1, 1) := by decide +kernel
theorem d_X_isLimit_23 : decode prog_1_method_24_code 23 = .ok (.goto 4, 3) := by decide +kernel
theorem d_X_isLimit_26 : decode prog_1_method_24_code 26 = .ok (.iconst 0, 1) := by decide +kernel
theorem d_X_isLimit_27 : decode prog_1_method_24_code 27 = .ok (.ireturn, 1) := by decide +kernel
abbrev y_X_exceeds : MethodName := ⟨"GridlockDesk", "exceeds", "(JJ)Z"⟩
abbrev ws_X_exceeds : List Cond := .code y_X_exceeds prog_1_method_25_code 4 (some .boolean) :: TB
theorem d_X_exceeds_0 : decode prog_1_method_25_code 0 = .ok (.lload_n 2, 1) := by decide +kernel
theorem d_X_exceeds_1 : decode prog_1_method_25_code 1 = .ok (.ldc2_w 154, 3) := by decide +kernel
theorem d_X_exceeds_4 : decode prog_1_method_25_code 4 = .ok (.lcmp, 1) := by decide +kernel
theorem d_X_exceeds_5 : decode prog_1_method_25_code 5 = .ok (.ifCond .eq 13, 3) := by decide +kernel
theorem d_X_exceeds_8 : decode prog_1_method_25_code 8 = .ok (.lload_n 0, 1) := by decide +kernel
theorem d_X_exceeds_9 : decode prog_1_method_25_code 9 = .ok (.lload_n 2, 1) := by decide +kernel
theorem d_X_exceeds_10 : decode prog_1_method_25_code 10 = .ok (.lcmp, 1) := by decide +kernel
theorem d_X_exceeds_11 : decode prog_1_method_25_code 11 = .ok (.ifCond .le 7, 3) := by decide +kernel
theorem d_X_exceeds_14 : decode prog_1_method_25_code 14 = .ok (.iconst 1, 1) := by decide +kernel
theorem d_X_exceeds_15 : decode prog_1_method_25_code 15 = .ok (.goto 4, 3) := by decide +kernel
theorem d_X_exceeds_18 : decode prog_1_method_25_code 18 = .ok (.iconst 0, 1) := by decide +kernel
theorem d_X_exceeds_19 : decode prog_1_method_25_code 19 = .ok (.ireturn, 1) := by decide +kernel
abbrev y_X_positionOf : MethodName := ⟨"GridlockDesk", "positionOf", "(II)J"⟩
abbrev ws_X_positionOf : List Cond := .code y_X_positionOf prog_1_method_26_code 3 (some .long) :: TB
theorem d_X_positionOf_0 : decode prog_1_method_26_code 0 = .ok (.aload_n 0, 1) := by decide +kernel
theorem d_X_positionOf_1 : decode prog_1_method_26_code 1 = .ok (.getfield 20, 3) := by decide +kernel
theorem d_X_positionOf_4 : decode prog_1_method_26_code 4 = .ok (.iload_n 1, 1) := by decide +kernel
theorem d_X_positionOf_5 : decode prog_1_method_26_code 5 = .ok (.aaload, 1) := by decide +kernel
theorem d_X_positionOf_6 : decode prog_1_method_26_code 6 = .ok (.getfield 130, 3) := by decide +kernel
theorem d_X_positionOf_9 : decode prog_1_method_26_code 9 = .ok (.iload_n 2, 1) := by decide +kernel
theorem d_X_positionOf_10 : decode prog_1_method_26_code 10 = .ok (.laload, 1) := by decide +kernel
theorem d_X_positionOf_11 : decode prog_1_method_26_code 11 = .ok (.aload_n 0, 1) := by decide +kernel
theorem d_X_positionOf_12 : decode prog_1_method_26_code 12 = .ok (.getfield 20, 3) := by decide +kernel
theorem d_X_positionOf_15 : decode prog_1_method_26_code 15 = .ok (.iload_n 2, 1) := by decide +kernel
theorem d_X_positionOf_16 : decode prog_1_method_26_code 16 = .ok (.aaload, 1) := by decide +kernel
theorem d_X_positionOf_17 : decode prog_1_method_26_code 17 = .ok (.getfield 130, 3) := by decide +kernel
theorem d_X_positionOf_20 : decode prog_1_method_26_code 20 = .ok (.iload_n 1, 1) := by decide +kernel
theorem d_X_positionOf_21 : decode prog_1_method_26_code 21 = .ok (.laload, 1) := by decide +kernel
theorem d_X_positionOf_22 : decode prog_1_method_26_code 22 = .ok (.lsub, 1) := by decide +kernel
theorem d_X_positionOf_23 : decode prog_1_method_26_code 23 = .ok (.lreturn, 1) := by decide +kernel
abbrev y_X_totalPositionOf : MethodName := ⟨"GridlockDesk", "totalPositionOf", "(I)J"⟩
abbrev ws_X_totalPositionOf : List Cond := .code y_X_totalPositionOf prog_1_method_27_code 5 (some .long) :: TB
theorem d_X_totalPositionOf_0 : decode prog_1_method_27_code 0 = .ok (.lconst 0, 1) := by decide +kernel
theorem d_X_totalPositionOf_1 : decode prog_1_method_27_code 1 = .ok (.lstore_n 2, 1) := by decide +kernel
theorem d_X_totalPositionOf_2 : decode prog_1_method_27_code 2 = .ok (.iconst 0, 1) := by decide +kernel
theorem d_X_totalPositionOf_3 : decode prog_1_method_27_code 3 = .ok (.istore 4, 2) := by decide +kernel
theorem d_X_totalPositionOf_5 : decode prog_1_method_27_code 5 = .ok (.iload 4, 2) := by decide +kernel
theorem d_X_totalPositionOf_7 : decode prog_1_method_27_code 7 = .ok (.aload_n 0, 1) := by decide +kernel
theorem d_X_totalPositionOf_8 : decode prog_1_method_27_code 8 = .ok (.getfield 20, 3) := by decide +kernel
theorem d_X_totalPositionOf_11 : decode prog_1_method_27_code 11 = .ok (.arraylength, 1) := by decide +kernel
theorem d_X_totalPositionOf_12 : decode prog_1_method_27_code 12 = .ok (.if_icmp .ge 19, 3) := by decide +kernel
theorem d_X_totalPositionOf_15 : decode prog_1_method_27_code 15 = .ok (.lload_n 2, 1) := by decide +kernel
theorem d_X_totalPositionOf_16 : decode prog_1_method_27_code 16 = .ok (.aload_n 0, 1) := by decide +kernel
theorem d_X_totalPositionOf_17 : decode prog_1_method_27_code 17 = .ok (.iload_n 1, 1) := by decide +kernel
theorem d_X_totalPositionOf_18 : decode prog_1_method_27_code 18 = .ok (.iload 4, 2) := by decide +kernel
theorem d_X_totalPositionOf_20 : decode prog_1_method_27_code 20 = .ok (.invokevirtual 65, 3) := by decide +kernel
theorem d_X_totalPositionOf_23 : decode prog_1_method_27_code 23 = .ok (.ladd, 1) := by decide +kernel
theorem d_X_totalPositionOf_24 : decode prog_1_method_27_code 24 = .ok (.lstore_n 2, 1) := by decide +kernel
theorem d_X_totalPositionOf_25 : decode prog_1_method_27_code 25 = .ok (.iinc 4 1, 3) := by decide +kernel
theorem d_X_totalPositionOf_28 : decode prog_1_method_27_code 28 = .ok (.goto (-23), 3) := by decide +kernel
theorem d_X_totalPositionOf_31 : decode prog_1_method_27_code 31 = .ok (.lload_n 2, 1) := by decide +kernel
theorem d_X_totalPositionOf_32 : decode prog_1_method_27_code 32 = .ok (.lreturn, 1) := by decide +kernel
abbrev y_X_end : MethodName := ⟨"GridlockDesk", "end", "(LGridlockDesk$Payment;I)V"⟩
abbrev ws_X_end : List Cond := .code y_X_end prog_1_method_37_code 3 none :: TB
theorem d_X_end_0 : decode prog_1_method_37_code 0 = .ok (.aload_n 0, 1) := by decide +kernel
theorem d_X_end_1 : decode prog_1_method_37_code 1 = .ok (.getfield 20, 3) := by decide +kernel
theorem d_X_end_4 : decode prog_1_method_37_code 4 = .ok (.aload_n 1, 1) := by decide +kernel
theorem d_X_end_5 : decode prog_1_method_37_code 5 = .ok (.getfield 111, 3) := by decide +kernel
theorem d_X_end_8 : decode prog_1_method_37_code 8 = .ok (.aaload, 1) := by decide +kernel
theorem d_X_end_9 : decode prog_1_method_37_code 9 = .ok (.aload_n 1, 1) := by decide +kernel
theorem d_X_end_10 : decode prog_1_method_37_code 10 = .ok (.invokevirtual 114, 3) := by decide +kernel
theorem d_X_end_13 : decode prog_1_method_37_code 13 = .ok (.aload_n 1, 1) := by decide +kernel
theorem d_X_end_14 : decode prog_1_method_37_code 14 = .ok (.iload_n 2, 1) := by decide +kernel
theorem d_X_end_15 : decode prog_1_method_37_code 15 = .ok (.putfield 148, 3) := by decide +kernel
theorem d_X_end_18 : decode prog_1_method_37_code 18 = .ok (.return_, 1) := by decide +kernel
abbrev y_X_settle : MethodName := ⟨"GridlockDesk", "settle", "(LGridlockDesk$Payment;I)V"⟩
abbrev ws_X_settle : List Cond := .code y_X_settle prog_1_method_36_code 4 none :: TB
theorem d_X_settle_0 : decode prog_1_method_36_code 0 = .ok (.aload_n 0, 1) := by decide +kernel
theorem d_X_settle_1 : decode prog_1_method_36_code 1 = .ok (.aload_n 1, 1) := by decide +kernel
theorem d_X_settle_2 : decode prog_1_method_36_code 2 = .ok (.iload_n 2, 1) := by decide +kernel
theorem d_X_settle_3 : decode prog_1_method_36_code 3 = .ok (.invokevirtual 107, 3) := by decide +kernel
theorem d_X_settle_6 : decode prog_1_method_36_code 6 = .ok (.aload_n 0, 1) := by decide +kernel
theorem d_X_settle_7 : decode prog_1_method_36_code 7 = .ok (.getfield 20, 3) := by decide +kernel
theorem d_X_settle_10 : decode prog_1_method_36_code 10 = .ok (.aload_n 1, 1) := by decide +kernel
theorem d_X_settle_11 : decode prog_1_method_36_code 11 = .ok (.getfield 111, 3) := by decide +kernel
theorem d_X_settle_14 : decode prog_1_method_36_code 14 = .ok (.aaload, 1) := by decide +kernel
theorem d_X_settle_15 : decode prog_1_method_36_code 15 = .ok (.astore_n 3, 1) := by decide +kernel
theorem d_X_settle_16 : decode prog_1_method_36_code 16 = .ok (.aload_n 3, 1) := by decide +kernel
theorem d_X_settle_17 : decode prog_1_method_36_code 17 = .ok (.dup, 1) := by decide +kernel
theorem d_X_settle_18 : decode prog_1_method_36_code 18 = .ok (.getfield 45, 3) := by decide +kernel
theorem d_X_settle_21 : decode prog_1_method_36_code 21 = .ok (.aload_n 1, 1) := by decide +kernel
theorem d_X_settle_22 : decode prog_1_method_36_code 22 = .ok (.getfield 185, 3) := by decide +kernel
theorem d_X_settle_25 : decode prog_1_method_36_code 25 = .ok (.lsub, 1) := by decide +kernel
theorem d_X_settle_26 : decode prog_1_method_36_code 26 = .ok (.putfield 45, 3) := by decide +kernel
theorem d_X_settle_29 : decode prog_1_method_36_code 29 = .ok (.aload_n 3, 1) := by decide +kernel
theorem d_X_settle_30 : decode prog_1_method_36_code 30 = .ok (.getfield 130, 3) := by decide +kernel
theorem d_X_settle_33 : decode prog_1_method_36_code 33 = .ok (.aload_n 1, 1) := by decide +kernel
theorem d_X_settle_34 : decode prog_1_method_36_code 34 = .ok (.getfield 188, 3) := by decide +kernel
theorem d_X_settle_37 : decode prog_1_method_36_code 37 = .ok (.dup2, 1) := by decide +kernel
theorem d_X_settle_38 : decode prog_1_method_36_code 38 = .ok (.laload, 1) := by decide +kernel
theorem d_X_settle_39 : decode prog_1_method_36_code 39 = .ok (.aload_n 1, 1) := by decide +kernel
theorem d_X_settle_40 : decode prog_1_method_36_code 40 = .ok (.getfield 185, 3) := by decide +kernel
theorem d_X_settle_43 : decode prog_1_method_36_code 43 = .ok (.ladd, 1) := by decide +kernel
theorem d_X_settle_44 : decode prog_1_method_36_code 44 = .ok (.lastore, 1) := by decide +kernel
theorem d_X_settle_45 : decode prog_1_method_36_code 45 = .ok (.aload_n 0, 1) := by decide +kernel
theorem d_X_settle_46 : decode prog_1_method_36_code 46 = .ok (.getfield 20, 3) := by decide +kernel
theorem d_X_settle_49 : decode prog_1_method_36_code 49 = .ok (.aload_n 1, 1) := by decide +kernel
theorem d_X_settle_50 : decode prog_1_method_36_code 50 = .ok (.getfield 188, 3) := by decide +kernel
theorem d_X_settle_53 : decode prog_1_method_36_code 53 = .ok (.aaload, 1) := by decide +kernel
theorem d_X_settle_54 : decode prog_1_method_36_code 54 = .ok (.dup, 1) := by decide +kernel
theorem d_X_settle_55 : decode prog_1_method_36_code 55 = .ok (.getfield 45, 3) := by decide +kernel
theorem d_X_settle_58 : decode prog_1_method_36_code 58 = .ok (.aload_n 1, 1) := by decide +kernel
theorem d_X_settle_59 : decode prog_1_method_36_code 59 = .ok (.getfield 185, 3) := by decide +kernel
theorem d_X_settle_62 : decode prog_1_method_36_code 62 = .ok (.ladd, 1) := by decide +kernel
theorem d_X_settle_63 : decode prog_1_method_36_code 63 = .ok (.putfield 45, 3) := by decide +kernel
theorem d_X_settle_66 : decode prog_1_method_36_code 66 = .ok (.aload_n 0, 1) := by decide +kernel
theorem d_X_settle_67 : decode prog_1_method_36_code 67 = .ok (.dup, 1) := by decide +kernel
theorem d_X_settle_68 : decode prog_1_method_36_code 68 = .ok (.getfield 151, 3) := by decide +kernel
theorem d_X_settle_71 : decode prog_1_method_36_code 71 = .ok (.aload_n 1, 1) := by decide +kernel
theorem d_X_settle_72 : decode prog_1_method_36_code 72 = .ok (.getfield 185, 3) := by decide +kernel
theorem d_X_settle_75 : decode prog_1_method_36_code 75 = .ok (.ladd, 1) := by decide +kernel
theorem d_X_settle_76 : decode prog_1_method_36_code 76 = .ok (.putfield 151, 3) := by decide +kernel
theorem d_X_settle_79 : decode prog_1_method_36_code 79 = .ok (.return_, 1) := by decide +kernel
abbrev y_X_settleChosen : MethodName := ⟨"GridlockDesk", "settleChosen", "(I)I"⟩
abbrev ws_X_settleChosen : List Cond := .code y_X_settleChosen prog_1_method_35_code 5 (some .int) :: TB
theorem d_X_settleChosen_0 : decode prog_1_method_35_code 0 = .ok (.iconst 0, 1) := by decide +kernel
theorem d_X_settleChosen_1 : decode prog_1_method_35_code 1 = .ok (.istore_n 2, 1) := by decide +kernel
theorem d_X_settleChosen_2 : decode prog_1_method_35_code 2 = .ok (.iconst 0, 1) := by decide +kernel
theorem d_X_settleChosen_3 : decode prog_1_method_35_code 3 = .ok (.istore_n 3, 1) := by decide +kernel
theorem d_X_settleChosen_4 : decode prog_1_method_35_code 4 = .ok (.iload_n 3, 1) := by decide +kernel
theorem d_X_settleChosen_5 : decode prog_1_method_35_code 5 = .ok (.aload_n 0, 1) := by decide +kernel
theorem d_X_settleChosen_6 : decode prog_1_method_35_code 6 = .ok (.getfield 20, 3) := by decide +kernel
theorem d_X_settleChosen_9 : decode prog_1_method_35_code 9 = .ok (.arraylength, 1) := by decide +kernel
theorem d_X_settleChosen_10 : decode prog_1_method_35_code 10 = .ok (.if_icmp .ge 60, 3) := by decide +kernel
theorem d_X_settleChosen_13 : decode prog_1_method_35_code 13 = .ok (.iconst 0, 1) := by decide +kernel
theorem d_X_settleChosen_14 : decode prog_1_method_35_code 14 = .ok (.istore 4, 2) := by decide +kernel
theorem d_X_settleChosen_16 : decode prog_1_method_35_code 16 = .ok (.iload 4, 2) := by decide +kernel
theorem d_X_settleChosen_18 : decode prog_1_method_35_code 18 = .ok (.aload_n 0, 1) := by decide +kernel
theorem d_X_settleChosen_19 : decode prog_1_method_35_code 19 = .ok (.getfield 33, 3) := by decide +kernel
theorem d_X_settleChosen_22 : decode prog_1_method_35_code 22 = .ok (.iload_n 3, 1) := by decide +kernel
theorem d_X_settleChosen_23 : decode prog_1_method_35_code 23 = .ok (.iaload, 1) := by decide +kernel
theorem d_X_settleChosen_24 : decode prog_1_method_35_code 24 = .ok (.if_icmp .ge 40, 3) := by decide +kernel
theorem d_X_settleChosen_27 : decode prog_1_method_35_code 27 = .ok (.aload_n 0, 1) := by decide +kernel
theorem d_X_settleChosen_28 : decode prog_1_method_35_code 28 = .ok (.getfield 20, 3) := by decide +kernel
theorem d_X_settleChosen_31 : decode prog_1_method_35_code 31 = .ok (.iload_n 3, 1) := by decide +kernel
theorem d_X_settleChosen_32 : decode prog_1_method_35_code 32 = .ok (.aaload, 1) := by decide +kernel
theorem d_X_settleChosen_33 : decode prog_1_method_35_code 33 = .ok (.getfield 94, 3) := by decide +kernel
theorem d_X_settleChosen_36 : decode prog_1_method_35_code 36 = .ok (.ifCond .le 28, 3) := by decide +kernel
theorem d_X_settleChosen_39 : decode prog_1_method_35_code 39 = .ok (.aload_n 0, 1) := by decide +kernel
theorem d_X_settleChosen_40 : decode prog_1_method_35_code 40 = .ok (.aload_n 0, 1) := by decide +kernel
theorem d_X_settleChosen_41 : decode prog_1_method_35_code 41 = .ok (.getfield 20, 3) := by decide +kernel
theorem d_X_settleChosen_44 : decode prog_1_method_35_code 44 = .ok (.iload_n 3, 1) := by decide +kernel
theorem d_X_settleChosen_45 : decode prog_1_method_35_code 45 = .ok (.aaload, 1) := by decide +kernel
theorem d_X_settleChosen_46 : decode prog_1_method_35_code 46 = .ok (.getfield 139, 3) := by decide +kernel
theorem d_X_settleChosen_49 : decode prog_1_method_35_code 49 = .ok (.iconst 0, 1) := by decide +kernel
theorem d_X_settleChosen_50 : decode prog_1_method_35_code 50 = .ok (.aaload, 1) := by decide +kernel
theorem d_X_settleChosen_51 : decode prog_1_method_35_code 51 = .ok (.iload_n 1, 1) := by decide +kernel
theorem d_X_settleChosen_52 : decode prog_1_method_35_code 52 = .ok (.invokevirtual 182, 3) := by decide +kernel
theorem d_X_settleChosen_55 : decode prog_1_method_35_code 55 = .ok (.iinc 2 1, 3) := by decide +kernel
theorem d_X_settleChosen_58 : decode prog_1_method_35_code 58 = .ok (.iinc 4 1, 3) := by decide +kernel
theorem d_X_settleChosen_61 : decode prog_1_method_35_code 61 = .ok (.goto (-45), 3) := by decide +kernel
theorem d_X_settleChosen_64 : decode prog_1_method_35_code 64 = .ok (.iinc 3 1, 3) := by decide +kernel
theorem d_X_settleChosen_67 : decode prog_1_method_35_code 67 = .ok (.goto (-63), 3) := by decide +kernel
theorem d_X_settleChosen_70 : decode prog_1_method_35_code 70 = .ok (.iload_n 2, 1) := by decide +kernel
theorem d_X_settleChosen_71 : decode prog_1_method_35_code 71 = .ok (.ireturn, 1) := by decide +kernel
abbrev y_X_wouldBeWell : MethodName := ⟨"GridlockDesk", "wouldBeWell", "(I)Z"⟩
abbrev ws_X_wouldBeWell : List Cond := .code y_X_wouldBeWell prog_1_method_34_code 10 (some .boolean) :: TB
theorem d_X_wouldBeWell_0 : decode prog_1_method_34_code 0 = .ok (.aload_n 0, 1) := by decide +kernel
theorem d_X_wouldBeWell_1 : decode prog_1_method_34_code 1 = .ok (.getfield 20, 3) := by decide +kernel
theorem d_X_wouldBeWell_4 : decode prog_1_method_34_code 4 = .ok (.iload_n 1, 1) := by decide +kernel
theorem d_X_wouldBeWell_5 : decode prog_1_method_34_code 5 = .ok (.aaload, 1) := by decide +kernel
theorem d_X_wouldBeWell_6 : decode prog_1_method_34_code 6 = .ok (.astore_n 2, 1) := by decide +kernel
theorem d_X_wouldBeWell_7 : decode prog_1_method_34_code 7 = .ok (.lconst 0, 1) := by decide +kernel
theorem d_X_wouldBeWell_8 : decode prog_1_method_34_code 8 = .ok (.lstore_n 3, 1) := by decide +kernel
theorem d_X_wouldBeWell_9 : decode prog_1_method_34_code 9 = .ok (.lconst 0, 1) := by decide +kernel
theorem d_X_wouldBeWell_10 : decode prog_1_method_34_code 10 = .ok (.lstore 5, 2) := by decide +kernel
theorem d_X_wouldBeWell_12 : decode prog_1_method_34_code 12 = .ok (.iconst 0, 1) := by decide +kernel
theorem d_X_wouldBeWell_13 : decode prog_1_method_34_code 13 = .ok (.istore 7, 2) := by decide +kernel
theorem d_X_wouldBeWell_15 : decode prog_1_method_34_code 15 = .ok (.iload 7, 2) := by decide +kernel
theorem d_X_wouldBeWell_17 : decode prog_1_method_34_code 17 = .ok (.aload_n 0, 1) := by decide +kernel
theorem d_X_wouldBeWell_18 : decode prog_1_method_34_code 18 = .ok (.getfield 20, 3) := by decide +kernel
theorem d_X_wouldBeWell_21 : decode prog_1_method_34_code 21 = .ok (.arraylength, 1) := by decide +kernel
theorem d_X_wouldBeWell_22 : decode prog_1_method_34_code 22 = .ok (.if_icmp .ge 79, 3) := by decide +kernel
theorem d_X_wouldBeWell_25 : decode prog_1_method_34_code 25 = .ok (.aload_n 2, 1) := by decide +kernel
theorem d_X_wouldBeWell_26 : decode prog_1_method_34_code 26 = .ok (.aload_n 0, 1) := by decide +kernel
theorem d_X_wouldBeWell_27 : decode prog_1_method_34_code 27 = .ok (.getfield 33, 3) := by decide +kernel
theorem d_X_wouldBeWell_30 : decode prog_1_method_34_code 30 = .ok (.iload_n 1, 1) := by decide +kernel
theorem d_X_wouldBeWell_31 : decode prog_1_method_34_code 31 = .ok (.iaload, 1) := by decide +kernel
theorem d_X_wouldBeWell_32 : decode prog_1_method_34_code 32 = .ok (.iload 7, 2) := by decide +kernel
theorem d_X_wouldBeWell_34 : decode prog_1_method_34_code 34 = .ok (.invokevirtual 179, 3) := by decide +kernel
theorem d_X_wouldBeWell_37 : decode prog_1_method_34_code 37 = .ok (.aload_n 0, 1) := by decide +kernel
theorem d_X_wouldBeWell_38 : decode prog_1_method_34_code 38 = .ok (.getfield 20, 3) := by decide +kernel
theorem d_X_wouldBeWell_41 : decode prog_1_method_34_code 41 = .ok (.iload 7, 2) := by decide +kernel
theorem d_X_wouldBeWell_43 : decode prog_1_method_34_code 43 = .ok (.aaload, 1) := by decide +kernel
theorem d_X_wouldBeWell_44 : decode prog_1_method_34_code 44 = .ok (.aload_n 0, 1) := by decide +kernel
theorem d_X_wouldBeWell_45 : decode prog_1_method_34_code 45 = .ok (.getfield 33, 3) := by decide +kernel
theorem d_X_wouldBeWell_48 : decode prog_1_method_34_code 48 = .ok (.iload 7, 2) := by decide +kernel
theorem d_X_wouldBeWell_50 : decode prog_1_method_34_code 50 = .ok (.iaload, 1) := by decide +kernel
theorem d_X_wouldBeWell_51 : decode prog_1_method_34_code 51 = .ok (.iload_n 1, 1) := by decide +kernel
theorem d_X_wouldBeWell_52 : decode prog_1_method_34_code 52 = .ok (.invokevirtual 179, 3) := by decide +kernel
theorem d_X_wouldBeWell_55 : decode prog_1_method_34_code 55 = .ok (.lsub, 1) := by decide +kernel
theorem d_X_wouldBeWell_56 : decode prog_1_method_34_code 56 = .ok (.lstore 8, 2) := by decide +kernel
theorem d_X_wouldBeWell_58 : decode prog_1_method_34_code 58 = .ok (.lload 8, 2) := by decide +kernel
theorem d_X_wouldBeWell_60 : decode prog_1_method_34_code 60 = .ok (.aload_n 2, 1) := by decide +kernel
theorem d_X_wouldBeWell_61 : decode prog_1_method_34_code 61 = .ok (.getfield 73, 3) := by decide +kernel
theorem d_X_wouldBeWell_64 : decode prog_1_method_34_code 64 = .ok (.iload 7, 2) := by decide +kernel
theorem d_X_wouldBeWell_66 : decode prog_1_method_34_code 66 = .ok (.laload, 1) := by decide +kernel
theorem d_X_wouldBeWell_67 : decode prog_1_method_34_code 67 = .ok (.invokestatic 69, 3) := by decide +kernel
theorem d_X_wouldBeWell_70 : decode prog_1_method_34_code 70 = .ok (.ifCond .eq 5, 3) := by decide +kernel
theorem d_X_wouldBeWell_73 : decode prog_1_method_34_code 73 = .ok (.iconst 0, 1) := by decide +kernel
theorem d_X_wouldBeWell_74 : decode prog_1_method_34_code 74 = .ok (.ireturn, 1) := by decide +kernel
theorem d_X_wouldBeWell_75 : decode prog_1_method_34_code 75 = .ok (.lload_n 3, 1) := by decide +kernel
theorem d_X_wouldBeWell_76 : decode prog_1_method_34_code 76 = .ok (.lload 8, 2) := by decide +kernel
theorem d_X_wouldBeWell_78 : decode prog_1_method_34_code 78 = .ok (.ladd, 1) := by decide +kernel
theorem d_X_wouldBeWell_79 : decode prog_1_method_34_code 79 = .ok (.lstore_n 3, 1) := by decide +kernel
theorem d_X_wouldBeWell_80 : decode prog_1_method_34_code 80 = .ok (.lload 5, 2) := by decide +kernel
theorem d_X_wouldBeWell_82 : decode prog_1_method_34_code 82 = .ok (.lload 8, 2) := by decide +kernel
theorem d_X_wouldBeWell_84 : decode prog_1_method_34_code 84 = .ok (.aload_n 0, 1) := by decide +kernel
theorem d_X_wouldBeWell_85 : decode prog_1_method_34_code 85 = .ok (.iload_n 1, 1) := by decide +kernel
theorem d_X_wouldBeWell_86 : decode prog_1_method_34_code 86 = .ok (.iload 7, 2) := by decide +kernel
theorem d_X_wouldBeWell_88 : decode prog_1_method_34_code 88 = .ok (.invokevirtual 65, 3) := by decide +kernel
theorem d_X_wouldBeWell_91 : decode prog_1_method_34_code 91 = .ok (.lsub, 1) := by decide +kernel
theorem d_X_wouldBeWell_92 : decode prog_1_method_34_code 92 = .ok (.ladd, 1) := by decide +kernel
theorem d_X_wouldBeWell_93 : decode prog_1_method_34_code 93 = .ok (.lstore 5, 2) := by decide +kernel
theorem d_X_wouldBeWell_95 : decode prog_1_method_34_code 95 = .ok (.iinc 7 1, 3) := by decide +kernel
theorem d_X_wouldBeWell_98 : decode prog_1_method_34_code 98 = .ok (.goto (-83), 3) := by decide +kernel
theorem d_X_wouldBeWell_101 : decode prog_1_method_34_code 101 = .ok (.aload_n 2, 1) := by decide +kernel
theorem d_X_wouldBeWell_102 : decode prog_1_method_34_code 102 = .ok (.getfield 45, 3) := by decide +kernel
theorem d_X_wouldBeWell_105 : decode prog_1_method_34_code 105 = .ok (.lload 5, 2) := by decide +kernel
theorem d_X_wouldBeWell_107 : decode prog_1_method_34_code 107 = .ok (.lsub, 1) := by decide +kernel
theorem d_X_wouldBeWell_108 : decode prog_1_method_34_code 108 = .ok (.aload_n 2, 1) := by decide +kernel
theorem d_X_wouldBeWell_109 : decode prog_1_method_34_code 109 = .ok (.getfield 49, 3) := by decide +kernel
theorem d_X_wouldBeWell_112 : decode prog_1_method_34_code 112 = .ok (.lneg, 1) := by decide +kernel
theorem d_X_wouldBeWell_113 : decode prog_1_method_34_code 113 = .ok (.lcmp, 1) := by decide +kernel
theorem d_X_wouldBeWell_114 : decode prog_1_method_34_code 114 = .ok (.ifCond .lt 18, 3) := by decide +kernel
theorem d_X_wouldBeWell_117 : decode prog_1_method_34_code 117 = .ok (.lload_n 3, 1) := by decide +kernel
theorem d_X_wouldBeWell_118 : decode prog_1_method_34_code 118 = .ok (.aload_n 2, 1) := by decide +kernel
theorem d_X_wouldBeWell_119 : decode prog_1_method_34_code 119 = .ok (.getfield 81, 3) := by decide +kernel
theorem d_X_wouldBeWell_122 : decode prog_1_method_34_code 122 = .ok (.invokestatic 69, 3) := by decide +kernel
theorem d_X_wouldBeWell_125 : decode prog_1_method_34_code 125 = .ok (.ifCond .ne 7, 3) := by decide +kernel
theorem d_X_wouldBeWell_128 : decode prog_1_method_34_code 128 = .ok (.iconst 1, 1) := by decide +kernel
theorem d_X_wouldBeWell_129 : decode prog_1_method_34_code 129 = .ok (.goto 4, 3) := by decide +kernel
theorem d_X_wouldBeWell_132 : decode prog_1_method_34_code 132 = .ok (.iconst 0, 1) := by decide +kernel
theorem d_X_wouldBeWell_133 : decode prog_1_method_34_code 133 = .ok (.ireturn, 1) := by decide +kernel
abbrev y_X_firstUnwellBank : MethodName := ⟨"GridlockDesk", "firstUnwellBank", "()I"⟩
abbrev ws_X_firstUnwellBank : List Cond := .code y_X_firstUnwellBank prog_1_method_33_code 2 (some .int) :: TB
theorem d_X_firstUnwellBank_0 : decode prog_1_method_33_code 0 = .ok (.iconst 0, 1) := by decide +kernel
theorem d_X_firstUnwellBank_1 : decode prog_1_method_33_code 1 = .ok (.istore_n 1, 1) := by decide +kernel
theorem d_X_firstUnwellBank_2 : decode prog_1_method_33_code 2 = .ok (.iload_n 1, 1) := by decide +kernel
theorem d_X_firstUnwellBank_3 : decode prog_1_method_33_code 3 = .ok (.aload_n 0, 1) := by decide +kernel
theorem d_X_firstUnwellBank_4 : decode prog_1_method_33_code 4 = .ok (.getfield 20, 3) := by decide +kernel
theorem d_X_firstUnwellBank_7 : decode prog_1_method_33_code 7 = .ok (.arraylength, 1) := by decide +kernel
theorem d_X_firstUnwellBank_8 : decode prog_1_method_33_code 8 = .ok (.if_icmp .ge 19, 3) := by decide +kernel
theorem d_X_firstUnwellBank_11 : decode prog_1_method_33_code 11 = .ok (.aload_n 0, 1) := by decide +kernel
theorem d_X_firstUnwellBank_12 : decode prog_1_method_33_code 12 = .ok (.iload_n 1, 1) := by decide +kernel
theorem d_X_firstUnwellBank_13 : decode prog_1_method_33_code 13 = .ok (.invokevirtual 176, 3) := by decide +kernel
theorem d_X_firstUnwellBank_16 : decode prog_1_method_33_code 16 = .ok (.ifCond .ne 5, 3) := by decide +kernel
theorem d_X_firstUnwellBank_19 : decode prog_1_method_33_code 19 = .ok (.iload_n 1, 1) := by decide +kernel
theorem d_X_firstUnwellBank_20 : decode prog_1_method_33_code 20 = .ok (.ireturn, 1) := by decide +kernel
theorem d_X_firstUnwellBank_21 : decode prog_1_method_33_code 21 = .ok (.iinc 1 1, 3) := by decide +kernel
theorem d_X_firstUnwellBank_24 : decode prog_1_method_33_code 24 = .ok (.goto (-22), 3) := by decide +kernel
theorem d_X_firstUnwellBank_27 : decode prog_1_method_33_code 27 = .ok (.iconst (-1), 1) := by decide +kernel
theorem d_X_firstUnwellBank_28 : decode prog_1_method_33_code 28 = .ok (.ireturn, 1) := by decide +kernel
abbrev y_X_chooseHeads : MethodName := ⟨"GridlockDesk", "chooseHeads", "(II)Z"⟩
abbrev ws_X_chooseHeads : List Cond := .code y_X_chooseHeads prog_1_method_31_code 3 (some .boolean) :: TB
theorem d_X_chooseHeads_0 : decode prog_1_method_31_code 0 = .ok (.aload_n 0, 1) := by decide +kernel
theorem d_X_chooseHeads_1 : decode prog_1_method_31_code 1 = .ok (.getfield 33, 3) := by decide +kernel
theorem d_X_chooseHeads_4 : decode prog_1_method_31_code 4 = .ok (.iconst 0, 1) := by decide +kernel
theorem d_X_chooseHeads_5 : decode prog_1_method_31_code 5 = .ok (.invokestatic 170, 3) := by decide +kernel
theorem d_X_chooseHeads_8 : decode prog_1_method_31_code 8 = .ok (.aload_n 0, 1) := by decide +kernel
theorem d_X_chooseHeads_9 : decode prog_1_method_31_code 9 = .ok (.getfield 33, 3) := by decide +kernel
theorem d_X_chooseHeads_12 : decode prog_1_method_31_code 12 = .ok (.iload_n 1, 1) := by decide +kernel
theorem d_X_chooseHeads_13 : decode prog_1_method_31_code 13 = .ok (.iconst 1, 1) := by decide +kernel
theorem d_X_chooseHeads_14 : decode prog_1_method_31_code 14 = .ok (.iastore, 1) := by decide +kernel
theorem d_X_chooseHeads_15 : decode prog_1_method_31_code 15 = .ok (.aload_n 0, 1) := by decide +kernel
theorem d_X_chooseHeads_16 : decode prog_1_method_31_code 16 = .ok (.getfield 33, 3) := by decide +kernel
theorem d_X_chooseHeads_19 : decode prog_1_method_31_code 19 = .ok (.iload_n 2, 1) := by decide +kernel
theorem d_X_chooseHeads_20 : decode prog_1_method_31_code 20 = .ok (.iconst 1, 1) := by decide +kernel
theorem d_X_chooseHeads_21 : decode prog_1_method_31_code 21 = .ok (.iastore, 1) := by decide +kernel
theorem d_X_chooseHeads_22 : decode prog_1_method_31_code 22 = .ok (.aload_n 0, 1) := by decide +kernel
theorem d_X_chooseHeads_23 : decode prog_1_method_31_code 23 = .ok (.invokevirtual 173, 3) := by decide +kernel
theorem d_X_chooseHeads_26 : decode prog_1_method_31_code 26 = .ok (.iconst (-1), 1) := by decide +kernel
theorem d_X_chooseHeads_27 : decode prog_1_method_31_code 27 = .ok (.if_icmp .ne 7, 3) := by decide +kernel
theorem d_X_chooseHeads_30 : decode prog_1_method_31_code 30 = .ok (.iconst 1, 1) := by decide +kernel
theorem d_X_chooseHeads_31 : decode prog_1_method_31_code 31 = .ok (.goto 4, 3) := by decide +kernel
theorem d_X_chooseHeads_34 : decode prog_1_method_31_code 34 = .ok (.iconst 0, 1) := by decide +kernel
theorem d_X_chooseHeads_35 : decode prog_1_method_31_code 35 = .ok (.ireturn, 1) := by decide +kernel
abbrev y_X_chooseReadyHead : MethodName := ⟨"GridlockDesk", "chooseReadyHead", "()Z"⟩
abbrev ws_X_chooseReadyHead : List Cond := .code y_X_chooseReadyHead prog_1_method_29_code 2 (some .boolean) :: TB
theorem d_X_chooseReadyHead_0 : decode prog_1_method_29_code 0 = .ok (.iconst 0, 1) := by decide +kernel
theorem d_X_chooseReadyHead_1 : decode prog_1_method_29_code 1 = .ok (.istore_n 1, 1) := by decide +kernel
theorem d_X_chooseReadyHead_2 : decode prog_1_method_29_code 2 = .ok (.iload_n 1, 1) := by decide +kernel
theorem d_X_chooseReadyHead_3 : decode prog_1_method_29_code 3 = .ok (.aload_n 0, 1) := by decide +kernel
theorem d_X_chooseReadyHead_4 : decode prog_1_method_29_code 4 = .ok (.getfield 20, 3) := by decide +kernel
theorem d_X_chooseReadyHead_7 : decode prog_1_method_29_code 7 = .ok (.arraylength, 1) := by decide +kernel
theorem d_X_chooseReadyHead_8 : decode prog_1_method_29_code 8 = .ok (.if_icmp .ge 32, 3) := by decide +kernel
theorem d_X_chooseReadyHead_11 : decode prog_1_method_29_code 11 = .ok (.aload_n 0, 1) := by decide +kernel
theorem d_X_chooseReadyHead_12 : decode prog_1_method_29_code 12 = .ok (.getfield 20, 3) := by decide +kernel
theorem d_X_chooseReadyHead_15 : decode prog_1_method_29_code 15 = .ok (.iload_n 1, 1) := by decide +kernel
theorem d_X_chooseReadyHead_16 : decode prog_1_method_29_code 16 = .ok (.aaload, 1) := by decide +kernel
theorem d_X_chooseReadyHead_17 : decode prog_1_method_29_code 17 = .ok (.getfield 94, 3) := by decide +kernel
theorem d_X_chooseReadyHead_20 : decode prog_1_method_29_code 20 = .ok (.ifCond .le 14, 3) := by decide +kernel
theorem d_X_chooseReadyHead_23 : decode prog_1_method_29_code 23 = .ok (.aload_n 0, 1) := by decide +kernel
theorem d_X_chooseReadyHead_24 : decode prog_1_method_29_code 24 = .ok (.iload_n 1, 1) := by decide +kernel
theorem d_X_chooseReadyHead_25 : decode prog_1_method_29_code 25 = .ok (.iload_n 1, 1) := by decide +kernel
theorem d_X_chooseReadyHead_26 : decode prog_1_method_29_code 26 = .ok (.invokevirtual 163, 3) := by decide +kernel
theorem d_X_chooseReadyHead_29 : decode prog_1_method_29_code 29 = .ok (.ifCond .eq 5, 3) := by decide +kernel
theorem d_X_chooseReadyHead_32 : decode prog_1_method_29_code 32 = .ok (.iconst 1, 1) := by decide +kernel
theorem d_X_chooseReadyHead_33 : decode prog_1_method_29_code 33 = .ok (.ireturn, 1) := by decide +kernel
theorem d_X_chooseReadyHead_34 : decode prog_1_method_29_code 34 = .ok (.iinc 1 1, 3) := by decide +kernel
theorem d_X_chooseReadyHead_37 : decode prog_1_method_29_code 37 = .ok (.goto (-35), 3) := by decide +kernel
theorem d_X_chooseReadyHead_40 : decode prog_1_method_29_code 40 = .ok (.iconst 0, 1) := by decide +kernel
theorem d_X_chooseReadyHead_41 : decode prog_1_method_29_code 41 = .ok (.ireturn, 1) := by decide +kernel
abbrev y_X_chooseReadyPair : MethodName := ⟨"GridlockDesk", "chooseReadyPair", "()Z"⟩
abbrev ws_X_chooseReadyPair : List Cond := .code y_X_chooseReadyPair prog_1_method_30_code 3 (some .boolean) :: TB
theorem d_X_chooseReadyPair_0 : decode prog_1_method_30_code 0 = .ok (.iconst 0, 1) := by decide +kernel
theorem d_X_chooseReadyPair_1 : decode prog_1_method_30_code 1 = .ok (.istore_n 1, 1) := by decide +kernel
theorem d_X_chooseReadyPair_2 : decode prog_1_method_30_code 2 = .ok (.iload_n 1, 1) := by decide +kernel
theorem d_X_chooseReadyPair_3 : decode prog_1_method_30_code 3 = .ok (.aload_n 0, 1) := by decide +kernel
theorem d_X_chooseReadyPair_4 : decode prog_1_method_30_code 4 = .ok (.getfield 20, 3) := by decide +kernel
theorem d_X_chooseReadyPair_7 : decode prog_1_method_30_code 7 = .ok (.arraylength, 1) := by decide +kernel
theorem d_X_chooseReadyPair_8 : decode prog_1_method_30_code 8 = .ok (.if_icmp .ge 48, 3) := by decide +kernel
theorem d_X_chooseReadyPair_11 : decode prog_1_method_30_code 11 = .ok (.aload_n 0, 1) := by decide +kernel
theorem d_X_chooseReadyPair_12 : decode prog_1_method_30_code 12 = .ok (.getfield 20, 3) := by decide +kernel
theorem d_X_chooseReadyPair_15 : decode prog_1_method_30_code 15 = .ok (.iload_n 1, 1) := by decide +kernel
theorem d_X_chooseReadyPair_16 : decode prog_1_method_30_code 16 = .ok (.aaload, 1) := by decide +kernel
theorem d_X_chooseReadyPair_17 : decode prog_1_method_30_code 17 = .ok (.invokevirtual 166, 3) := by decide +kernel
theorem d_X_chooseReadyPair_20 : decode prog_1_method_30_code 20 = .ok (.istore_n 2, 1) := by decide +kernel
theorem d_X_chooseReadyPair_21 : decode prog_1_method_30_code 21 = .ok (.iload_n 2, 1) := by decide +kernel
theorem d_X_chooseReadyPair_22 : decode prog_1_method_30_code 22 = .ok (.iload_n 1, 1) := by decide +kernel
theorem d_X_chooseReadyPair_23 : decode prog_1_method_30_code 23 = .ok (.if_icmp .le 27, 3) := by decide +kernel
theorem d_X_chooseReadyPair_26 : decode prog_1_method_30_code 26 = .ok (.aload_n 0, 1) := by decide +kernel
theorem d_X_chooseReadyPair_27 : decode prog_1_method_30_code 27 = .ok (.getfield 20, 3) := by decide +kernel
theorem d_X_chooseReadyPair_30 : decode prog_1_method_30_code 30 = .ok (.iload_n 2, 1) := by decide +kernel
theorem d_X_chooseReadyPair_31 : decode prog_1_method_30_code 31 = .ok (.aaload, 1) := by decide +kernel
theorem d_X_chooseReadyPair_32 : decode prog_1_method_30_code 32 = .ok (.invokevirtual 166, 3) := by decide +kernel
theorem d_X_chooseReadyPair_35 : decode prog_1_method_30_code 35 = .ok (.iload_n 1, 1) := by decide +kernel
theorem d_X_chooseReadyPair_36 : decode prog_1_method_30_code 36 = .ok (.if_icmp .ne 14, 3) := by decide +kernel
theorem d_X_chooseReadyPair_39 : decode prog_1_method_30_code 39 = .ok (.aload_n 0, 1) := by decide +kernel
theorem d_X_chooseReadyPair_40 : decode prog_1_method_30_code 40 = .ok (.iload_n 1, 1) := by decide +kernel
theorem d_X_chooseReadyPair_41 : decode prog_1_method_30_code 41 = .ok (.iload_n 2, 1) := by decide +kernel
theorem d_X_chooseReadyPair_42 : decode prog_1_method_30_code 42 = .ok (.invokevirtual 163, 3) := by decide +kernel
theorem d_X_chooseReadyPair_45 : decode prog_1_method_30_code 45 = .ok (.ifCond .eq 5, 3) := by decide +kernel
theorem d_X_chooseReadyPair_48 : decode prog_1_method_30_code 48 = .ok (.iconst 1, 1) := by decide +kernel
theorem d_X_chooseReadyPair_49 : decode prog_1_method_30_code 49 = .ok (.ireturn, 1) := by decide +kernel
theorem d_X_chooseReadyPair_50 : decode prog_1_method_30_code 50 = .ok (.iinc 1 1, 3) := by decide +kernel
theorem d_X_chooseReadyPair_53 : decode prog_1_method_30_code 53 = .ok (.goto (-51), 3) := by decide +kernel
theorem d_X_chooseReadyPair_56 : decode prog_1_method_30_code 56 = .ok (.iconst 0, 1) := by decide +kernel
theorem d_X_chooseReadyPair_57 : decode prog_1_method_30_code 57 = .ok (.ireturn, 1) := by decide +kernel
abbrev y_X_sweep : MethodName := ⟨"GridlockDesk", "sweep", "()V"⟩
abbrev ws_X_sweep : List Cond := .code y_X_sweep prog_1_method_28_code 2 none :: TB
theorem d_X_sweep_0 : decode prog_1_method_28_code 0 = .ok (.iconst 0, 1) := by decide +kernel
theorem d_X_sweep_1 : decode prog_1_method_28_code 1 = .ok (.istore_n 1, 1) := by decide +kernel
theorem d_X_sweep_2 : decode prog_1_method_28_code 2 = .ok (.iload_n 1, 1) := by decide +kernel
theorem d_X_sweep_3 : decode prog_1_method_28_code 3 = .ok (.bipush 24, 2) := by decide +kernel
theorem d_X_sweep_5 : decode prog_1_method_28_code 5 = .ok (.if_icmp .ge 42, 3) := by decide +kernel
theorem d_X_sweep_8 : decode prog_1_method_28_code 8 = .ok (.aload_n 0, 1) := by decide +kernel
theorem d_X_sweep_9 : decode prog_1_method_28_code 9 = .ok (.invokevirtual 156, 3) := by decide +kernel
theorem d_X_sweep_12 : decode prog_1_method_28_code 12 = .ok (.ifCond .eq 12, 3) := by decide +kernel
theorem d_X_sweep_15 : decode prog_1_method_28_code 15 = .ok (.aload_n 0, 1) := by decide +kernel
theorem d_X_sweep_16 : decode prog_1_method_28_code 16 = .ok (.iconst 1, 1) := by decide +kernel
theorem d_X_sweep_17 : decode prog_1_method_28_code 17 = .ok (.invokevirtual 123, 3) := by decide +kernel
theorem d_X_sweep_20 : decode prog_1_method_28_code 20 = .ok (.pop, 1) := by decide +kernel
theorem d_X_sweep_21 : decode prog_1_method_28_code 21 = .ok (.goto 20, 3) := by decide +kernel
theorem d_X_sweep_24 : decode prog_1_method_28_code 24 = .ok (.aload_n 0, 1) := by decide +kernel
theorem d_X_sweep_25 : decode prog_1_method_28_code 25 = .ok (.invokevirtual 160, 3) := by decide +kernel
theorem d_X_sweep_28 : decode prog_1_method_28_code 28 = .ok (.ifCond .eq 12, 3) := by decide +kernel
theorem d_X_sweep_31 : decode prog_1_method_28_code 31 = .ok (.aload_n 0, 1) := by decide +kernel
theorem d_X_sweep_32 : decode prog_1_method_28_code 32 = .ok (.iconst 2, 1) := by decide +kernel
theorem d_X_sweep_33 : decode prog_1_method_28_code 33 = .ok (.invokevirtual 123, 3) := by decide +kernel
theorem d_X_sweep_36 : decode prog_1_method_28_code 36 = .ok (.pop, 1) := by decide +kernel
theorem d_X_sweep_37 : decode prog_1_method_28_code 37 = .ok (.goto 4, 3) := by decide +kernel
theorem d_X_sweep_40 : decode prog_1_method_28_code 40 = .ok (.return_, 1) := by decide +kernel
theorem d_X_sweep_41 : decode prog_1_method_28_code 41 = .ok (.iinc 1 1, 3) := by decide +kernel
theorem d_X_sweep_44 : decode prog_1_method_28_code 44 = .ok (.goto (-42), 3) := by decide +kernel
theorem d_X_sweep_47 : decode prog_1_method_28_code 47 = .ok (.return_, 1) := by decide +kernel
abbrev y_X_chooseGreatest : MethodName := ⟨"GridlockDesk", "chooseGreatest", "()V"⟩
abbrev ws_X_chooseGreatest : List Cond := .code y_X_chooseGreatest prog_1_method_32_code 3 none :: TB
theorem d_X_chooseGreatest_0 : decode prog_1_method_32_code 0 = .ok (.iconst 0, 1) := by decide +kernel
theorem d_X_chooseGreatest_1 : decode prog_1_method_32_code 1 = .ok (.istore_n 1, 1) := by decide +kernel
theorem d_X_chooseGreatest_2 : decode prog_1_method_32_code 2 = .ok (.iload_n 1, 1) := by decide +kernel
theorem d_X_chooseGreatest_3 : decode prog_1_method_32_code 3 = .ok (.aload_n 0, 1) := by decide +kernel
theorem d_X_chooseGreatest_4 : decode prog_1_method_32_code 4 = .ok (.getfield 20, 3) := by decide +kernel
theorem d_X_chooseGreatest_7 : decode prog_1_method_32_code 7 = .ok (.arraylength, 1) := by decide +kernel
theorem d_X_chooseGreatest_8 : decode prog_1_method_32_code 8 = .ok (.if_icmp .ge 24, 3) := by decide +kernel
theorem d_X_chooseGreatest_11 : decode prog_1_method_32_code 11 = .ok (.aload_n 0, 1) := by decide +kernel
theorem d_X_chooseGreatest_12 : decode prog_1_method_32_code 12 = .ok (.getfield 33, 3) := by decide +kernel
theorem d_X_chooseGreatest_15 : decode prog_1_method_32_code 15 = .ok (.iload_n 1, 1) := by decide +kernel
theorem d_X_chooseGreatest_16 : decode prog_1_method_32_code 16 = .ok (.aload_n 0, 1) := by decide +kernel
theorem d_X_chooseGreatest_17 : decode prog_1_method_32_code 17 = .ok (.getfield 20, 3) := by decide +kernel
theorem d_X_chooseGreatest_20 : decode prog_1_method_32_code 20 = .ok (.iload_n 1, 1) := by decide +kernel
theorem d_X_chooseGreatest_21 : decode prog_1_method_32_code 21 = .ok (.aaload, 1) := by decide +kernel
theorem d_X_chooseGreatest_22 : decode prog_1_method_32_code 22 = .ok (.getfield 94, 3) := by decide +kernel
theorem d_X_chooseGreatest_25 : decode prog_1_method_32_code 25 = .ok (.iastore, 1) := by decide +kernel
theorem d_X_chooseGreatest_26 : decode prog_1_method_32_code 26 = .ok (.iinc 1 1, 3) := by decide +kernel
theorem d_X_chooseGreatest_29 : decode prog_1_method_32_code 29 = .ok (.goto (-27), 3) := by decide +kernel
theorem d_X_chooseGreatest_32 : decode prog_1_method_32_code 32 = .ok (.iconst 0, 1) := by decide +kernel
theorem d_X_chooseGreatest_33 : decode prog_1_method_32_code 33 = .ok (.istore_n 1, 1) := by decide +kernel
theorem d_X_chooseGreatest_34 : decode prog_1_method_32_code 34 = .ok (.iload_n 1, 1) := by decide +kernel
theorem d_X_chooseGreatest_35 : decode prog_1_method_32_code 35 = .ok (.bipush 24, 2) := by decide +kernel
theorem d_X_chooseGreatest_37 : decode prog_1_method_32_code 37 = .ok (.if_icmp .ge 30, 3) := by decide +kernel
theorem d_X_chooseGreatest_40 : decode prog_1_method_32_code 40 = .ok (.aload_n 0, 1) := by decide +kernel
theorem d_X_chooseGreatest_41 : decode prog_1_method_32_code 41 = .ok (.invokevirtual 173, 3) := by decide +kernel
theorem d_X_chooseGreatest_44 : decode prog_1_method_32_code 44 = .ok (.istore_n 2, 1) := by decide +kernel
theorem d_X_chooseGreatest_45 : decode prog_1_method_32_code 45 = .ok (.iload_n 2, 1) := by decide +kernel
theorem d_X_chooseGreatest_46 : decode prog_1_method_32_code 46 = .ok (.iconst (-1), 1) := by decide +kernel
theorem d_X_chooseGreatest_47 : decode prog_1_method_32_code 47 = .ok (.if_icmp .ne 4, 3) := by decide +kernel
theorem d_X_chooseGreatest_50 : decode prog_1_method_32_code 50 = .ok (.return_, 1) := by decide +kernel
theorem d_X_chooseGreatest_51 : decode prog_1_method_32_code 51 = .ok (.aload_n 0, 1) := by decide +kernel
theorem d_X_chooseGreatest_52 : decode prog_1_method_32_code 52 = .ok (.getfield 33, 3) := by decide +kernel
theorem d_X_chooseGreatest_55 : decode prog_1_method_32_code 55 = .ok (.iload_n 2, 1) := by decide +kernel
theorem d_X_chooseGreatest_56 : decode prog_1_method_32_code 56 = .ok (.dup2, 1) := by decide +kernel
theorem d_X_chooseGreatest_57 : decode prog_1_method_32_code 57 = .ok (.iaload, 1) := by decide +kernel
theorem d_X_chooseGreatest_58 : decode prog_1_method_32_code 58 = .ok (.iconst 1, 1) := by decide +kernel
theorem d_X_chooseGreatest_59 : decode prog_1_method_32_code 59 = .ok (.isub, 1) := by decide +kernel
theorem d_X_chooseGreatest_60 : decode prog_1_method_32_code 60 = .ok (.iastore, 1) := by decide +kernel
theorem d_X_chooseGreatest_61 : decode prog_1_method_32_code 61 = .ok (.iinc 1 1, 3) := by decide +kernel
theorem d_X_chooseGreatest_64 : decode prog_1_method_32_code 64 = .ok (.goto (-30), 3) := by decide +kernel
theorem d_X_chooseGreatest_67 : decode prog_1_method_32_code 67 = .ok (.return_, 1) := by decide +kernel
abbrev y_X_fund : MethodName := ⟨"GridlockDesk", "fund", "(IJ)Z"⟩
abbrev ws_X_fund : List Cond := .code y_X_fund prog_1_method_2_code 5 (some .boolean) :: TB
theorem d_X_fund_0 : decode prog_1_method_2_code 0 = .ok (.aload_n 0, 1) := by decide +kernel
theorem d_X_fund_1 : decode prog_1_method_2_code 1 = .ok (.iload_n 1, 1) := by decide +kernel
theorem d_X_fund_2 : decode prog_1_method_2_code 2 = .ok (.invokevirtual 37, 3) := by decide +kernel
theorem d_X_fund_5 : decode prog_1_method_2_code 5 = .ok (.ifCond .eq 19, 3) := by decide +kernel
theorem d_X_fund_8 : decode prog_1_method_2_code 8 = .ok (.lload_n 2, 1) := by decide +kernel
theorem d_X_fund_9 : decode prog_1_method_2_code 9 = .ok (.ldc2_w 41, 3) := by decide +kernel
theorem d_X_fund_12 : decode prog_1_method_2_code 12 = .ok (.lcmp, 1) := by decide +kernel
theorem d_X_fund_13 : decode prog_1_method_2_code 13 = .ok (.ifCond .lt 11, 3) := by decide +kernel
theorem d_X_fund_16 : decode prog_1_method_2_code 16 = .ok (.lload_n 2, 1) := by decide +kernel
theorem d_X_fund_17 : decode prog_1_method_2_code 17 = .ok (.ldc2_w 43, 3) := by decide +kernel
theorem d_X_fund_20 : decode prog_1_method_2_code 20 = .ok (.lcmp, 1) := by decide +kernel
theorem d_X_fund_21 : decode prog_1_method_2_code 21 = .ok (.ifCond .le 5, 3) := by decide +kernel
theorem d_X_fund_24 : decode prog_1_method_2_code 24 = .ok (.iconst 0, 1) := by decide +kernel
theorem d_X_fund_25 : decode prog_1_method_2_code 25 = .ok (.ireturn, 1) := by decide +kernel
theorem d_X_fund_26 : decode prog_1_method_2_code 26 = .ok (.aload_n 0, 1) := by decide +kernel
theorem d_X_fund_27 : decode prog_1_method_2_code 27 = .ok (.getfield 20, 3) := by decide +kernel
theorem d_X_fund_30 : decode prog_1_method_2_code 30 = .ok (.iload_n 1, 1) := by decide +kernel
theorem d_X_fund_31 : decode prog_1_method_2_code 31 = .ok (.aaload, 1) := by decide +kernel
theorem d_X_fund_32 : decode prog_1_method_2_code 32 = .ok (.astore 4, 2) := by decide +kernel
theorem d_X_fund_34 : decode prog_1_method_2_code 34 = .ok (.aload 4, 2) := by decide +kernel
theorem d_X_fund_36 : decode prog_1_method_2_code 36 = .ok (.getfield 45, 3) := by decide +kernel
theorem d_X_fund_39 : decode prog_1_method_2_code 39 = .ok (.lload_n 2, 1) := by decide +kernel
theorem d_X_fund_40 : decode prog_1_method_2_code 40 = .ok (.ladd, 1) := by decide +kernel
theorem d_X_fund_41 : decode prog_1_method_2_code 41 = .ok (.aload 4, 2) := by decide +kernel
theorem d_X_fund_43 : decode prog_1_method_2_code 43 = .ok (.getfield 49, 3) := by decide +kernel
theorem d_X_fund_46 : decode prog_1_method_2_code 46 = .ok (.lneg, 1) := by decide +kernel
theorem d_X_fund_47 : decode prog_1_method_2_code 47 = .ok (.lcmp, 1) := by decide +kernel
theorem d_X_fund_48 : decode prog_1_method_2_code 48 = .ok (.ifCond .ge 5, 3) := by decide +kernel
theorem d_X_fund_51 : decode prog_1_method_2_code 51 = .ok (.iconst 0, 1) := by decide +kernel
theorem d_X_fund_52 : decode prog_1_method_2_code 52 = .ok (.ireturn, 1) := by decide +kernel
theorem d_X_fund_53 : decode prog_1_method_2_code 53 = .ok (.aload 4, 2) := by decide +kernel
theorem d_X_fund_55 : decode prog_1_method_2_code 55 = .ok (.dup, 1) := by decide +kernel
theorem d_X_fund_56 : decode prog_1_method_2_code 56 = .ok (.getfield 45, 3) := by decide +kernel
theorem d_X_fund_59 : decode prog_1_method_2_code 59 = .ok (.lload_n 2, 1) := by decide +kernel
theorem d_X_fund_60 : decode prog_1_method_2_code 60 = .ok (.ladd, 1) := by decide +kernel
theorem d_X_fund_61 : decode prog_1_method_2_code 61 = .ok (.putfield 45, 3) := by decide +kernel
theorem d_X_fund_64 : decode prog_1_method_2_code 64 = .ok (.aload_n 0, 1) := by decide +kernel
theorem d_X_fund_65 : decode prog_1_method_2_code 65 = .ok (.invokevirtual 52, 3) := by decide +kernel
theorem d_X_fund_68 : decode prog_1_method_2_code 68 = .ok (.iconst 1, 1) := by decide +kernel
theorem d_X_fund_69 : decode prog_1_method_2_code 69 = .ok (.ireturn, 1) := by decide +kernel
abbrev y_X_credit : MethodName := ⟨"GridlockDesk", "credit", "(IJ)Z"⟩
abbrev ws_X_credit : List Cond := .code y_X_credit prog_1_method_3_code 4 (some .boolean) :: TB
theorem d_X_credit_0 : decode prog_1_method_3_code 0 = .ok (.aload_n 0, 1) := by decide +kernel
theorem d_X_credit_1 : decode prog_1_method_3_code 1 = .ok (.iload_n 1, 1) := by decide +kernel
theorem d_X_credit_2 : decode prog_1_method_3_code 2 = .ok (.invokevirtual 37, 3) := by decide +kernel
theorem d_X_credit_5 : decode prog_1_method_3_code 5 = .ok (.ifCond .eq 32, 3) := by decide +kernel
theorem d_X_credit_8 : decode prog_1_method_3_code 8 = .ok (.lload_n 2, 1) := by decide +kernel
theorem d_X_credit_9 : decode prog_1_method_3_code 9 = .ok (.lconst 0, 1) := by decide +kernel
theorem d_X_credit_10 : decode prog_1_method_3_code 10 = .ok (.lcmp, 1) := by decide +kernel
theorem d_X_credit_11 : decode prog_1_method_3_code 11 = .ok (.ifCond .lt 26, 3) := by decide +kernel
theorem d_X_credit_14 : decode prog_1_method_3_code 14 = .ok (.lload_n 2, 1) := by decide +kernel
theorem d_X_credit_15 : decode prog_1_method_3_code 15 = .ok (.ldc2_w 55, 3) := by decide +kernel
theorem d_X_credit_18 : decode prog_1_method_3_code 18 = .ok (.lcmp, 1) := by decide +kernel
theorem d_X_credit_19 : decode prog_1_method_3_code 19 = .ok (.ifCond .gt 18, 3) := by decide +kernel
theorem d_X_credit_22 : decode prog_1_method_3_code 22 = .ok (.aload_n 0, 1) := by decide +kernel
theorem d_X_credit_23 : decode prog_1_method_3_code 23 = .ok (.getfield 20, 3) := by decide +kernel
theorem d_X_credit_26 : decode prog_1_method_3_code 26 = .ok (.iload_n 1, 1) := by decide +kernel
theorem d_X_credit_27 : decode prog_1_method_3_code 27 = .ok (.aaload, 1) := by decide +kernel
theorem d_X_credit_28 : decode prog_1_method_3_code 28 = .ok (.getfield 45, 3) := by decide +kernel
theorem d_X_credit_31 : decode prog_1_method_3_code 31 = .ok (.lload_n 2, 1) := by decide +kernel
theorem d_X_credit_32 : decode prog_1_method_3_code 32 = .ok (.lneg, 1) := by decide +kernel
theorem d_X_credit_33 : decode prog_1_method_3_code 33 = .ok (.lcmp, 1) := by decide +kernel
theorem d_X_credit_34 : decode prog_1_method_3_code 34 = .ok (.ifCond .ge 5, 3) := by decide +kernel
theorem d_X_credit_37 : decode prog_1_method_3_code 37 = .ok (.iconst 0, 1) := by decide +kernel
theorem d_X_credit_38 : decode prog_1_method_3_code 38 = .ok (.ireturn, 1) := by decide +kernel
theorem d_X_credit_39 : decode prog_1_method_3_code 39 = .ok (.aload_n 0, 1) := by decide +kernel
theorem d_X_credit_40 : decode prog_1_method_3_code 40 = .ok (.getfield 20, 3) := by decide +kernel
theorem d_X_credit_43 : decode prog_1_method_3_code 43 = .ok (.iload_n 1, 1) := by decide +kernel
theorem d_X_credit_44 : decode prog_1_method_3_code 44 = .ok (.aaload, 1) := by decide +kernel
theorem d_X_credit_45 : decode prog_1_method_3_code 45 = .ok (.lload_n 2, 1) := by decide +kernel
theorem d_X_credit_46 : decode prog_1_method_3_code 46 = .ok (.putfield 49, 3) := by decide +kernel
theorem d_X_credit_49 : decode prog_1_method_3_code 49 = .ok (.aload_n 0, 1) := by decide +kernel
theorem d_X_credit_50 : decode prog_1_method_3_code 50 = .ok (.invokevirtual 52, 3) := by decide +kernel
theorem d_X_credit_53 : decode prog_1_method_3_code 53 = .ok (.iconst 1, 1) := by decide +kernel
theorem d_X_credit_54 : decode prog_1_method_3_code 54 = .ok (.ireturn, 1) := by decide +kernel
abbrev y_X_limit : MethodName := ⟨"GridlockDesk", "limit", "(IIJ)Z"⟩
abbrev ws_X_limit : List Cond := .code y_X_limit prog_1_method_4_code 5 (some .boolean) :: TB
theorem d_X_limit_0 : decode prog_1_method_4_code 0 = .ok (.aload_n 0, 1) := by decide +kernel
theorem d_X_limit_1 : decode prog_1_method_4_code 1 = .ok (.iload_n 1, 1) := by decide +kernel
theorem d_X_limit_2 : decode prog_1_method_4_code 2 = .ok (.iload_n 2, 1) := by decide +kernel
theorem d_X_limit_3 : decode prog_1_method_4_code 3 = .ok (.invokevirtual 57, 3) := by decide +kernel
theorem d_X_limit_6 : decode prog_1_method_4_code 6 = .ok (.ifCond .eq 23, 3) := by decide +kernel
theorem d_X_limit_9 : decode prog_1_method_4_code 9 = .ok (.lload_n 3, 1) := by decide +kernel
theorem d_X_limit_10 : decode prog_1_method_4_code 10 = .ok (.invokestatic 61, 3) := by decide +kernel
theorem d_X_limit_13 : decode prog_1_method_4_code 13 = .ok (.ifCond .eq 16, 3) := by decide +kernel
theorem d_X_limit_16 : decode prog_1_method_4_code 16 = .ok (.aload_n 0, 1) := by decide +kernel
theorem d_X_limit_17 : decode prog_1_method_4_code 17 = .ok (.iload_n 1, 1) := by decide +kernel
theorem d_X_limit_18 : decode prog_1_method_4_code 18 = .ok (.iload_n 2, 1) := by decide +kernel
theorem d_X_limit_19 : decode prog_1_method_4_code 19 = .ok (.invokevirtual 65, 3) := by decide +kernel
theorem d_X_limit_22 : decode prog_1_method_4_code 22 = .ok (.lload_n 3, 1) := by decide +kernel
theorem d_X_limit_23 : decode prog_1_method_4_code 23 = .ok (.invokestatic 69, 3) := by decide +kernel
theorem d_X_limit_26 : decode prog_1_method_4_code 26 = .ok (.ifCond .eq 5, 3) := by decide +kernel
theorem d_X_limit_29 : decode prog_1_method_4_code 29 = .ok (.iconst 0, 1) := by decide +kernel
theorem d_X_limit_30 : decode prog_1_method_4_code 30 = .ok (.ireturn, 1) := by decide +kernel
theorem d_X_limit_31 : decode prog_1_method_4_code 31 = .ok (.aload_n 0, 1) := by decide +kernel
theorem d_X_limit_32 : decode prog_1_method_4_code 32 = .ok (.getfield 20, 3) := by decide +kernel
theorem d_X_limit_35 : decode prog_1_method_4_code 35 = .ok (.iload_n 1, 1) := by decide +kernel
theorem d_X_limit_36 : decode prog_1_method_4_code 36 = .ok (.aaload, 1) := by decide +kernel
theorem d_X_limit_37 : decode prog_1_method_4_code 37 = .ok (.getfield 73, 3) := by decide +kernel
theorem d_X_limit_40 : decode prog_1_method_4_code 40 = .ok (.iload_n 2, 1) := by decide +kernel
theorem d_X_limit_41 : decode prog_1_method_4_code 41 = .ok (.lload_n 3, 1) := by decide +kernel
theorem d_X_limit_42 : decode prog_1_method_4_code 42 = .ok (.lastore, 1) := by decide +kernel
theorem d_X_limit_43 : decode prog_1_method_4_code 43 = .ok (.aload_n 0, 1) := by decide +kernel
theorem d_X_limit_44 : decode prog_1_method_4_code 44 = .ok (.invokevirtual 52, 3) := by decide +kernel
theorem d_X_limit_47 : decode prog_1_method_4_code 47 = .ok (.iconst 1, 1) := by decide +kernel
theorem d_X_limit_48 : decode prog_1_method_4_code 48 = .ok (.ireturn, 1) := by decide +kernel
abbrev y_X_totalLimit : MethodName := ⟨"GridlockDesk", "totalLimit", "(IJ)Z"⟩
abbrev ws_X_totalLimit : List Cond := .code y_X_totalLimit prog_1_method_5_code 4 (some .boolean) :: TB
theorem d_X_totalLimit_0 : decode prog_1_method_5_code 0 = .ok (.aload_n 0, 1) := by decide +kernel
theorem d_X_totalLimit_1 : decode prog_1_method_5_code 1 = .ok (.iload_n 1, 1) := by decide +kernel
theorem d_X_totalLimit_2 : decode prog_1_method_5_code 2 = .ok (.invokevirtual 37, 3) := by decide +kernel
theorem d_X_totalLimit_5 : decode prog_1_method_5_code 5 = .ok (.ifCond .eq 22, 3) := by decide +kernel
theorem d_X_totalLimit_8 : decode prog_1_method_5_code 8 = .ok (.lload_n 2, 1) := by decide +kernel
theorem d_X_totalLimit_9 : decode prog_1_method_5_code 9 = .ok (.invokestatic 61, 3) := by decide +kernel
theorem d_X_totalLimit_12 : decode prog_1_method_5_code 12 = .ok (.ifCond .eq 15, 3) := by decide +kernel
theorem d_X_totalLimit_15 : decode prog_1_method_5_code 15 = .ok (.aload_n 0, 1) := by decide +kernel
theorem d_X_totalLimit_16 : decode prog_1_method_5_code 16 = .ok (.iload_n 1, 1) := by decide +kernel
theorem d_X_totalLimit_17 : decode prog_1_method_5_code 17 = .ok (.invokevirtual 77, 3) := by decide +kernel
theorem d_X_totalLimit_20 : decode prog_1_method_5_code 20 = .ok (.lload_n 2, 1) := by decide +kernel
theorem d_X_totalLimit_21 : decode prog_1_method_5_code 21 = .ok (.invokestatic 69, 3) := by decide +kernel
theorem d_X_totalLimit_24 : decode prog_1_method_5_code 24 = .ok (.ifCond .eq 5, 3) := by decide +kernel
theorem d_X_totalLimit_27 : decode prog_1_method_5_code 27 = .ok (.iconst 0, 1) := by decide +kernel
theorem d_X_totalLimit_28 : decode prog_1_method_5_code 28 = .ok (.ireturn, 1) := by decide +kernel
theorem d_X_totalLimit_29 : decode prog_1_method_5_code 29 = .ok (.aload_n 0, 1) := by decide +kernel
theorem d_X_totalLimit_30 : decode prog_1_method_5_code 30 = .ok (.getfield 20, 3) := by decide +kernel
theorem d_X_totalLimit_33 : decode prog_1_method_5_code 33 = .ok (.iload_n 1, 1) := by decide +kernel
theorem d_X_totalLimit_34 : decode prog_1_method_5_code 34 = .ok (.aaload, 1) := by decide +kernel
theorem d_X_totalLimit_35 : decode prog_1_method_5_code 35 = .ok (.lload_n 2, 1) := by decide +kernel
theorem d_X_totalLimit_36 : decode prog_1_method_5_code 36 = .ok (.putfield 81, 3) := by decide +kernel
theorem d_X_totalLimit_39 : decode prog_1_method_5_code 39 = .ok (.aload_n 0, 1) := by decide +kernel
theorem d_X_totalLimit_40 : decode prog_1_method_5_code 40 = .ok (.invokevirtual 52, 3) := by decide +kernel
theorem d_X_totalLimit_43 : decode prog_1_method_5_code 43 = .ok (.iconst 1, 1) := by decide +kernel
theorem d_X_totalLimit_44 : decode prog_1_method_5_code 44 = .ok (.ireturn, 1) := by decide +kernel
abbrev y_X_cancel : MethodName := ⟨"GridlockDesk", "cancel", "(I)Z"⟩
abbrev ws_X_cancel : List Cond := .code y_X_cancel prog_1_method_7_code 2 (some .boolean) :: TB
theorem d_X_cancel_0 : decode prog_1_method_7_code 0 = .ok (.aload_n 0, 1) := by decide +kernel
theorem d_X_cancel_1 : decode prog_1_method_7_code 1 = .ok (.iload_n 1, 1) := by decide +kernel
theorem d_X_cancel_2 : decode prog_1_method_7_code 2 = .ok (.invokevirtual 104, 3) := by decide +kernel
theorem d_X_cancel_5 : decode prog_1_method_7_code 5 = .ok (.ifCond .ne 5, 3) := by decide +kernel
theorem d_X_cancel_8 : decode prog_1_method_7_code 8 = .ok (.iconst 0, 1) := by decide +kernel
theorem d_X_cancel_9 : decode prog_1_method_7_code 9 = .ok (.ireturn, 1) := by decide +kernel
theorem d_X_cancel_10 : decode prog_1_method_7_code 10 = .ok (.aload_n 0, 1) := by decide +kernel
theorem d_X_cancel_11 : decode prog_1_method_7_code 11 = .ok (.aload_n 0, 1) := by decide +kernel
theorem d_X_cancel_12 : decode prog_1_method_7_code 12 = .ok (.getfield 29, 3) := by decide +kernel
theorem d_X_cancel_15 : decode prog_1_method_7_code 15 = .ok (.iload_n 1, 1) := by decide +kernel
theorem d_X_cancel_16 : decode prog_1_method_7_code 16 = .ok (.aaload, 1) := by decide +kernel
theorem d_X_cancel_17 : decode prog_1_method_7_code 17 = .ok (.iconst 4, 1) := by decide +kernel
theorem d_X_cancel_18 : decode prog_1_method_7_code 18 = .ok (.invokevirtual 107, 3) := by decide +kernel
theorem d_X_cancel_21 : decode prog_1_method_7_code 21 = .ok (.aload_n 0, 1) := by decide +kernel
theorem d_X_cancel_22 : decode prog_1_method_7_code 22 = .ok (.invokevirtual 52, 3) := by decide +kernel
theorem d_X_cancel_25 : decode prog_1_method_7_code 25 = .ok (.iconst 1, 1) := by decide +kernel
theorem d_X_cancel_26 : decode prog_1_method_7_code 26 = .ok (.ireturn, 1) := by decide +kernel
abbrev y_X_urge : MethodName := ⟨"GridlockDesk", "urge", "(II)Z"⟩
abbrev ws_X_urge : List Cond := .code y_X_urge prog_1_method_8_code 5 (some .boolean) :: TB
theorem d_X_urge_0 : decode prog_1_method_8_code 0 = .ok (.aload_n 0, 1) := by decide +kernel
theorem d_X_urge_1 : decode prog_1_method_8_code 1 = .ok (.iload_n 1, 1) := by decide +kernel
theorem d_X_urge_2 : decode prog_1_method_8_code 2 = .ok (.invokevirtual 104, 3) := by decide +kernel
theorem d_X_urge_5 : decode prog_1_method_8_code 5 = .ok (.ifCond .eq 10, 3) := by decide +kernel
theorem d_X_urge_8 : decode prog_1_method_8_code 8 = .ok (.iload_n 2, 1) := by decide +kernel
theorem d_X_urge_9 : decode prog_1_method_8_code 9 = .ok (.invokestatic 84, 3) := by decide +kernel
theorem d_X_urge_12 : decode prog_1_method_8_code 12 = .ok (.ifCond .ne 5, 3) := by decide +kernel
theorem d_X_urge_15 : decode prog_1_method_8_code 15 = .ok (.iconst 0, 1) := by decide +kernel
theorem d_X_urge_16 : decode prog_1_method_8_code 16 = .ok (.ireturn, 1) := by decide +kernel
theorem d_X_urge_17 : decode prog_1_method_8_code 17 = .ok (.aload_n 0, 1) := by decide +kernel
theorem d_X_urge_18 : decode prog_1_method_8_code 18 = .ok (.getfield 29, 3) := by decide +kernel
theorem d_X_urge_21 : decode prog_1_method_8_code 21 = .ok (.iload_n 1, 1) := by decide +kernel
theorem d_X_urge_22 : decode prog_1_method_8_code 22 = .ok (.aaload, 1) := by decide +kernel
theorem d_X_urge_23 : decode prog_1_method_8_code 23 = .ok (.astore_n 3, 1) := by decide +kernel
theorem d_X_urge_24 : decode prog_1_method_8_code 24 = .ok (.aload_n 0, 1) := by decide +kernel
theorem d_X_urge_25 : decode prog_1_method_8_code 25 = .ok (.getfield 20, 3) := by decide +kernel
theorem d_X_urge_28 : decode prog_1_method_8_code 28 = .ok (.aload_n 3, 1) := by decide +kernel
theorem d_X_urge_29 : decode prog_1_method_8_code 29 = .ok (.getfield 111, 3) := by decide +kernel
theorem d_X_urge_32 : decode prog_1_method_8_code 32 = .ok (.aaload, 1) := by decide +kernel
theorem d_X_urge_33 : decode prog_1_method_8_code 33 = .ok (.astore 4, 2) := by decide +kernel
theorem d_X_urge_35 : decode prog_1_method_8_code 35 = .ok (.aload 4, 2) := by decide +kernel
theorem d_X_urge_37 : decode prog_1_method_8_code 37 = .ok (.aload_n 3, 1) := by decide +kernel
theorem d_X_urge_38 : decode prog_1_method_8_code 38 = .ok (.invokevirtual 114, 3) := by decide +kernel
theorem d_X_urge_41 : decode prog_1_method_8_code 41 = .ok (.aload_n 3, 1) := by decide +kernel
theorem d_X_urge_42 : decode prog_1_method_8_code 42 = .ok (.iload_n 2, 1) := by decide +kernel
theorem d_X_urge_43 : decode prog_1_method_8_code 43 = .ok (.putfield 117, 3) := by decide +kernel
theorem d_X_urge_46 : decode prog_1_method_8_code 46 = .ok (.aload 4, 2) := by decide +kernel
theorem d_X_urge_48 : decode prog_1_method_8_code 48 = .ok (.aload_n 3, 1) := by decide +kernel
theorem d_X_urge_49 : decode prog_1_method_8_code 49 = .ok (.invokevirtual 100, 3) := by decide +kernel
theorem d_X_urge_52 : decode prog_1_method_8_code 52 = .ok (.aload_n 0, 1) := by decide +kernel
theorem d_X_urge_53 : decode prog_1_method_8_code 53 = .ok (.invokevirtual 52, 3) := by decide +kernel
theorem d_X_urge_56 : decode prog_1_method_8_code 56 = .ok (.iconst 1, 1) := by decide +kernel
theorem d_X_urge_57 : decode prog_1_method_8_code 57 = .ok (.ireturn, 1) := by decide +kernel
abbrev y_X_resolve : MethodName := ⟨"GridlockDesk", "resolve", "()I"⟩
abbrev ws_X_resolve : List Cond := .code y_X_resolve prog_1_method_9_code 2 (some .int) :: TB
theorem d_X_resolve_0 : decode prog_1_method_9_code 0 = .ok (.aload_n 0, 1) := by decide +kernel
theorem d_X_resolve_1 : decode prog_1_method_9_code 1 = .ok (.invokevirtual 120, 3) := by decide +kernel
theorem d_X_resolve_4 : decode prog_1_method_9_code 4 = .ok (.aload_n 0, 1) := by decide +kernel
theorem d_X_resolve_5 : decode prog_1_method_9_code 5 = .ok (.iconst 3, 1) := by decide +kernel
theorem d_X_resolve_6 : decode prog_1_method_9_code 6 = .ok (.invokevirtual 123, 3) := by decide +kernel
theorem d_X_resolve_9 : decode prog_1_method_9_code 9 = .ok (.istore_n 1, 1) := by decide +kernel
theorem d_X_resolve_10 : decode prog_1_method_9_code 10 = .ok (.aload_n 0, 1) := by decide +kernel
theorem d_X_resolve_11 : decode prog_1_method_9_code 11 = .ok (.invokevirtual 52, 3) := by decide +kernel
theorem d_X_resolve_14 : decode prog_1_method_9_code 14 = .ok (.iload_n 1, 1) := by decide +kernel
theorem d_X_resolve_15 : decode prog_1_method_9_code 15 = .ok (.ireturn, 1) := by decide +kernel
abbrev y_X_tick : MethodName := ⟨"GridlockDesk", "tick", "(I)I"⟩
abbrev ws_X_tick : List Cond := .code y_X_tick prog_1_method_10_code 4 (some .int) :: TB
theorem d_X_tick_0 : decode prog_1_method_10_code 0 = .ok (.iload_n 1, 1) := by decide +kernel
theorem d_X_tick_1 : decode prog_1_method_10_code 1 = .ok (.iconst 1, 1) := by decide +kernel
theorem d_X_tick_2 : decode prog_1_method_10_code 2 = .ok (.if_icmp .lt 10, 3) := by decide +kernel
theorem d_X_tick_5 : decode prog_1_method_10_code 5 = .ok (.iload_n 1, 1) := by decide +kernel
theorem d_X_tick_6 : decode prog_1_method_10_code 6 = .ok (.sipush 1000, 3) := by decide +kernel
theorem d_X_tick_9 : decode prog_1_method_10_code 9 = .ok (.if_icmp .le 5, 3) := by decide +kernel
theorem d_X_tick_12 : decode prog_1_method_10_code 12 = .ok (.iconst (-1), 1) := by decide +kernel
theorem d_X_tick_13 : decode prog_1_method_10_code 13 = .ok (.ireturn, 1) := by decide +kernel
theorem d_X_tick_14 : decode prog_1_method_10_code 14 = .ok (.aload_n 0, 1) := by decide +kernel
theorem d_X_tick_15 : decode prog_1_method_10_code 15 = .ok (.dup, 1) := by decide +kernel
theorem d_X_tick_16 : decode prog_1_method_10_code 16 = .ok (.getfield 87, 3) := by decide +kernel
theorem d_X_tick_19 : decode prog_1_method_10_code 19 = .ok (.iload_n 1, 1) := by decide +kernel
theorem d_X_tick_20 : decode prog_1_method_10_code 20 = .ok (.iadd, 1) := by decide +kernel
theorem d_X_tick_21 : decode prog_1_method_10_code 21 = .ok (.putfield 87, 3) := by decide +kernel
theorem d_X_tick_24 : decode prog_1_method_10_code 24 = .ok (.iconst 0, 1) := by decide +kernel
theorem d_X_tick_25 : decode prog_1_method_10_code 25 = .ok (.istore_n 2, 1) := by decide +kernel
theorem d_X_tick_26 : decode prog_1_method_10_code 26 = .ok (.iconst 0, 1) := by decide +kernel
theorem d_X_tick_27 : decode prog_1_method_10_code 27 = .ok (.istore_n 3, 1) := by decide +kernel
theorem d_X_tick_28 : decode prog_1_method_10_code 28 = .ok (.iload_n 3, 1) := by decide +kernel
theorem d_X_tick_29 : decode prog_1_method_10_code 29 = .ok (.aload_n 0, 1) := by decide +kernel
theorem d_X_tick_30 : decode prog_1_method_10_code 30 = .ok (.getfield 91, 3) := by decide +kernel
theorem d_X_tick_33 : decode prog_1_method_10_code 33 = .ok (.if_icmp .ge 47, 3) := by decide +kernel
theorem d_X_tick_36 : decode prog_1_method_10_code 36 = .ok (.aload_n 0, 1) := by decide +kernel
theorem d_X_tick_37 : decode prog_1_method_10_code 37 = .ok (.iload_n 3, 1) := by decide +kernel
theorem d_X_tick_38 : decode prog_1_method_10_code 38 = .ok (.invokevirtual 104, 3) := by decide +kernel
theorem d_X_tick_41 : decode prog_1_method_10_code 41 = .ok (.ifCond .eq 33, 3) := by decide +kernel
theorem d_X_tick_44 : decode prog_1_method_10_code 44 = .ok (.aload_n 0, 1) := by decide +kernel
theorem d_X_tick_45 : decode prog_1_method_10_code 45 = .ok (.getfield 29, 3) := by decide +kernel
theorem d_X_tick_48 : decode prog_1_method_10_code 48 = .ok (.iload_n 3, 1) := by decide +kernel
theorem d_X_tick_49 : decode prog_1_method_10_code 49 = .ok (.aaload, 1) := by decide +kernel
theorem d_X_tick_50 : decode prog_1_method_10_code 50 = .ok (.getfield 127, 3) := by decide +kernel
theorem d_X_tick_53 : decode prog_1_method_10_code 53 = .ok (.aload_n 0, 1) := by decide +kernel
theorem d_X_tick_54 : decode prog_1_method_10_code 54 = .ok (.getfield 87, 3) := by decide +kernel
theorem d_X_tick_57 : decode prog_1_method_10_code 57 = .ok (.if_icmp .ge 17, 3) := by decide +kernel
theorem d_X_tick_60 : decode prog_1_method_10_code 60 = .ok (.aload_n 0, 1) := by decide +kernel
theorem d_X_tick_61 : decode prog_1_method_10_code 61 = .ok (.aload_n 0, 1) := by decide +kernel
theorem d_X_tick_62 : decode prog_1_method_10_code 62 = .ok (.getfield 29, 3) := by decide +kernel
theorem d_X_tick_65 : decode prog_1_method_10_code 65 = .ok (.iload_n 3, 1) := by decide +kernel
theorem d_X_tick_66 : decode prog_1_method_10_code 66 = .ok (.aaload, 1) := by decide +kernel
theorem d_X_tick_67 : decode prog_1_method_10_code 67 = .ok (.iconst 5, 1) := by decide +kernel
theorem d_X_tick_68 : decode prog_1_method_10_code 68 = .ok (.invokevirtual 107, 3) := by decide +kernel
theorem d_X_tick_71 : decode prog_1_method_10_code 71 = .ok (.iinc 2 1, 3) := by decide +kernel
theorem d_X_tick_74 : decode prog_1_method_10_code 74 = .ok (.iinc 3 1, 3) := by decide +kernel
theorem d_X_tick_77 : decode prog_1_method_10_code 77 = .ok (.goto (-49), 3) := by decide +kernel
theorem d_X_tick_80 : decode prog_1_method_10_code 80 = .ok (.aload_n 0, 1) := by decide +kernel
theorem d_X_tick_81 : decode prog_1_method_10_code 81 = .ok (.invokevirtual 52, 3) := by decide +kernel
theorem d_X_tick_84 : decode prog_1_method_10_code 84 = .ok (.iload_n 2, 1) := by decide +kernel
theorem d_X_tick_85 : decode prog_1_method_10_code 85 = .ok (.ireturn, 1) := by decide +kernel
abbrev y_X_close : MethodName := ⟨"GridlockDesk", "close", "()I"⟩
abbrev ws_X_close : List Cond := .code y_X_close prog_1_method_11_code 6 (some .int) :: TB
theorem d_X_close_0 : decode prog_1_method_11_code 0 = .ok (.iconst 0, 1) := by decide +kernel
theorem d_X_close_1 : decode prog_1_method_11_code 1 = .ok (.istore_n 1, 1) := by decide +kernel
theorem d_X_close_2 : decode prog_1_method_11_code 2 = .ok (.iconst 0, 1) := by decide +kernel
theorem d_X_close_3 : decode prog_1_method_11_code 3 = .ok (.istore_n 2, 1) := by decide +kernel
theorem d_X_close_4 : decode prog_1_method_11_code 4 = .ok (.iload_n 2, 1) := by decide +kernel
theorem d_X_close_5 : decode prog_1_method_11_code 5 = .ok (.aload_n 0, 1) := by decide +kernel
theorem d_X_close_6 : decode prog_1_method_11_code 6 = .ok (.getfield 91, 3) := by decide +kernel
theorem d_X_close_9 : decode prog_1_method_11_code 9 = .ok (.if_icmp .ge 32, 3) := by decide +kernel
theorem d_X_close_12 : decode prog_1_method_11_code 12 = .ok (.aload_n 0, 1) := by decide +kernel
theorem d_X_close_13 : decode prog_1_method_11_code 13 = .ok (.iload_n 2, 1) := by decide +kernel
theorem d_X_close_14 : decode prog_1_method_11_code 14 = .ok (.invokevirtual 104, 3) := by decide +kernel
theorem d_X_close_17 : decode prog_1_method_11_code 17 = .ok (.ifCond .eq 18, 3) := by decide +kernel
theorem d_X_close_20 : decode prog_1_method_11_code 20 = .ok (.aload_n 0, 1) := by decide +kernel
theorem d_X_close_21 : decode prog_1_method_11_code 21 = .ok (.aload_n 0, 1) := by decide +kernel
theorem d_X_close_22 : decode prog_1_method_11_code 22 = .ok (.getfield 29, 3) := by decide +kernel
theorem d_X_close_25 : decode prog_1_method_11_code 25 = .ok (.iload_n 2, 1) := by decide +kernel
theorem d_X_close_26 : decode prog_1_method_11_code 26 = .ok (.aaload, 1) := by decide +kernel
theorem d_X_close_27 : decode prog_1_method_11_code 27 = .ok (.bipush 6, 2) := by decide +kernel
theorem d_X_close_29 : decode prog_1_method_11_code 29 = .ok (.invokevirtual 107, 3) := by decide +kernel
theorem d_X_close_32 : decode prog_1_method_11_code 32 = .ok (.iinc 1 1, 3) := by decide +kernel
theorem d_X_close_35 : decode prog_1_method_11_code 35 = .ok (.iinc 2 1, 3) := by decide +kernel
theorem d_X_close_38 : decode prog_1_method_11_code 38 = .ok (.goto (-34), 3) := by decide +kernel
theorem d_X_close_41 : decode prog_1_method_11_code 41 = .ok (.aload_n 0, 1) := by decide +kernel
theorem d_X_close_42 : decode prog_1_method_11_code 42 = .ok (.getfield 20, 3) := by decide +kernel
theorem d_X_close_45 : decode prog_1_method_11_code 45 = .ok (.astore_n 2, 1) := by decide +kernel
theorem d_X_close_46 : decode prog_1_method_11_code 46 = .ok (.aload_n 2, 1) := by decide +kernel
theorem d_X_close_47 : decode prog_1_method_11_code 47 = .ok (.arraylength, 1) := by decide +kernel
theorem d_X_close_48 : decode prog_1_method_11_code 48 = .ok (.istore_n 3, 1) := by decide +kernel
theorem d_X_close_49 : decode prog_1_method_11_code 49 = .ok (.iconst 0, 1) := by decide +kernel
theorem d_X_close_50 : decode prog_1_method_11_code 50 = .ok (.istore 4, 2) := by decide +kernel
theorem d_X_close_52 : decode prog_1_method_11_code 52 = .ok (.iload 4, 2) := by decide +kernel
theorem d_X_close_54 : decode prog_1_method_11_code 54 = .ok (.iload_n 3, 1) := by decide +kernel
theorem d_X_close_55 : decode prog_1_method_11_code 55 = .ok (.if_icmp .ge 24, 3) := by decide +kernel
theorem d_X_close_58 : decode prog_1_method_11_code 58 = .ok (.aload_n 2, 1) := by decide +kernel
theorem d_X_close_59 : decode prog_1_method_11_code 59 = .ok (.iload 4, 2) := by decide +kernel
theorem d_X_close_61 : decode prog_1_method_11_code 61 = .ok (.aaload, 1) := by decide +kernel
theorem d_X_close_62 : decode prog_1_method_11_code 62 = .ok (.astore 5, 2) := by decide +kernel
theorem d_X_close_64 : decode prog_1_method_11_code 64 = .ok (.aload 5, 2) := by decide +kernel
theorem d_X_close_66 : decode prog_1_method_11_code 66 = .ok (.getfield 130, 3) := by decide +kernel
theorem d_X_close_69 : decode prog_1_method_11_code 69 = .ok (.lconst 0, 1) := by decide +kernel
theorem d_X_close_70 : decode prog_1_method_11_code 70 = .ok (.invokestatic 133, 3) := by decide +kernel
theorem d_X_close_73 : decode prog_1_method_11_code 73 = .ok (.iinc 4 1, 3) := by decide +kernel
theorem d_X_close_76 : decode prog_1_method_11_code 76 = .ok (.goto (-24), 3) := by decide +kernel
theorem d_X_close_79 : decode prog_1_method_11_code 79 = .ok (.iload_n 1, 1) := by decide +kernel
theorem d_X_close_80 : decode prog_1_method_11_code 80 = .ok (.ireturn, 1) := by decide +kernel
abbrev y_X_balance : MethodName := ⟨"GridlockDesk", "balance", "(I)J"⟩
abbrev ws_X_balance : List Cond := .code y_X_balance prog_1_method_12_code 2 (some .long) :: TB
theorem d_X_balance_0 : decode prog_1_method_12_code 0 = .ok (.aload_n 0, 1) := by decide +kernel
theorem d_X_balance_1 : decode prog_1_method_12_code 1 = .ok (.iload_n 1, 1) := by decide +kernel
theorem d_X_balance_2 : decode prog_1_method_12_code 2 = .ok (.invokevirtual 37, 3) := by decide +kernel
theorem d_X_balance_5 : decode prog_1_method_12_code 5 = .ok (.ifCond .eq 15, 3) := by decide +kernel
theorem d_X_balance_8 : decode prog_1_method_12_code 8 = .ok (.aload_n 0, 1) := by decide +kernel
theorem d_X_balance_9 : decode prog_1_method_12_code 9 = .ok (.getfield 20, 3) := by decide +kernel
theorem d_X_balance_12 : decode prog_1_method_12_code 12 = .ok (.iload_n 1, 1) := by decide +kernel
theorem d_X_balance_13 : decode prog_1_method_12_code 13 = .ok (.aaload, 1) := by decide +kernel
theorem d_X_balance_14 : decode prog_1_method_12_code 14 = .ok (.getfield 45, 3) := by decide +kernel
theorem d_X_balance_17 : decode prog_1_method_12_code 17 = .ok (.goto 4, 3) := by decide +kernel
theorem d_X_balance_20 : decode prog_1_method_12_code 20 = .ok (.lconst 0, 1) := by decide +kernel
theorem d_X_balance_21 : decode prog_1_method_12_code 21 = .ok (.lreturn, 1) := by decide +kernel
abbrev y_X_position : MethodName := ⟨"GridlockDesk", "position", "(II)J"⟩
abbrev ws_X_position : List Cond := .code y_X_position prog_1_method_13_code 3 (some .long) :: TB
theorem d_X_position_0 : decode prog_1_method_13_code 0 = .ok (.aload_n 0, 1) := by decide +kernel
theorem d_X_position_1 : decode prog_1_method_13_code 1 = .ok (.iload_n 1, 1) := by decide +kernel
theorem d_X_position_2 : decode prog_1_method_13_code 2 = .ok (.iload_n 2, 1) := by decide +kernel
theorem d_X_position_3 : decode prog_1_method_13_code 3 = .ok (.invokevirtual 57, 3) := by decide +kernel
theorem d_X_position_6 : decode prog_1_method_13_code 6 = .ok (.ifCond .eq 12, 3) := by decide +kernel
theorem d_X_position_9 : decode prog_1_method_13_code 9 = .ok (.aload_n 0, 1) := by decide +kernel
theorem d_X_position_10 : decode prog_1_method_13_code 10 = .ok (.iload_n 1, 1) := by decide +kernel
theorem d_X_position_11 : decode prog_1_method_13_code 11 = .ok (.iload_n 2, 1) := by decide +kernel
theorem d_X_position_12 : decode prog_1_method_13_code 12 = .ok (.invokevirtual 65, 3) := by decide +kernel
theorem d_X_position_15 : decode prog_1_method_13_code 15 = .ok (.goto 4, 3) := by decide +kernel
theorem d_X_position_18 : decode prog_1_method_13_code 18 = .ok (.lconst 0, 1) := by decide +kernel
theorem d_X_position_19 : decode prog_1_method_13_code 19 = .ok (.lreturn, 1) := by decide +kernel
abbrev y_X_waiting : MethodName := ⟨"GridlockDesk", "waiting", "(I)I"⟩
abbrev ws_X_waiting : List Cond := .code y_X_waiting prog_1_method_14_code 2 (some .int) :: TB
theorem d_X_waiting_0 : decode prog_1_method_14_code 0 = .ok (.aload_n 0, 1) := by decide +kernel
theorem d_X_waiting_1 : decode prog_1_method_14_code 1 = .ok (.iload_n 1, 1) := by decide +kernel
theorem d_X_waiting_2 : decode prog_1_method_14_code 2 = .ok (.invokevirtual 37, 3) := by decide +kernel
theorem d_X_waiting_5 : decode prog_1_method_14_code 5 = .ok (.ifCond .eq 15, 3) := by decide +kernel
theorem d_X_waiting_8 : decode prog_1_method_14_code 8 = .ok (.aload_n 0, 1) := by decide +kernel
theorem d_X_waiting_9 : decode prog_1_method_14_code 9 = .ok (.getfield 20, 3) := by decide +kernel
theorem d_X_waiting_12 : decode prog_1_method_14_code 12 = .ok (.iload_n 1, 1) := by decide +kernel
theorem d_X_waiting_13 : decode prog_1_method_14_code 13 = .ok (.aaload, 1) := by decide +kernel
theorem d_X_waiting_14 : decode prog_1_method_14_code 14 = .ok (.getfield 94, 3) := by decide +kernel
theorem d_X_waiting_17 : decode prog_1_method_14_code 17 = .ok (.goto 4, 3) := by decide +kernel
theorem d_X_waiting_20 : decode prog_1_method_14_code 20 = .ok (.iconst (-1), 1) := by decide +kernel
theorem d_X_waiting_21 : decode prog_1_method_14_code 21 = .ok (.ireturn, 1) := by decide +kernel
abbrev y_X_queued : MethodName := ⟨"GridlockDesk", "queued", "(II)I"⟩
abbrev ws_X_queued : List Cond := .code y_X_queued prog_1_method_15_code 3 (some .int) :: TB
theorem d_X_queued_0 : decode prog_1_method_15_code 0 = .ok (.aload_n 0, 1) := by decide +kernel
theorem d_X_queued_1 : decode prog_1_method_15_code 1 = .ok (.iload_n 1, 1) := by decide +kernel
theorem d_X_queued_2 : decode prog_1_method_15_code 2 = .ok (.invokevirtual 37, 3) := by decide +kernel
theorem d_X_queued_5 : decode prog_1_method_15_code 5 = .ok (.ifCond .eq 20, 3) := by decide +kernel
theorem d_X_queued_8 : decode prog_1_method_15_code 8 = .ok (.iload_n 2, 1) := by decide +kernel
theorem d_X_queued_9 : decode prog_1_method_15_code 9 = .ok (.ifCond .lt 16, 3) := by decide +kernel
theorem d_X_queued_12 : decode prog_1_method_15_code 12 = .ok (.iload_n 2, 1) := by decide +kernel
theorem d_X_queued_13 : decode prog_1_method_15_code 13 = .ok (.aload_n 0, 1) := by decide +kernel
theorem d_X_queued_14 : decode prog_1_method_15_code 14 = .ok (.getfield 20, 3) := by decide +kernel
theorem d_X_queued_17 : decode prog_1_method_15_code 17 = .ok (.iload_n 1, 1) := by decide +kernel
theorem d_X_queued_18 : decode prog_1_method_15_code 18 = .ok (.aaload, 1) := by decide +kernel
theorem d_X_queued_19 : decode prog_1_method_15_code 19 = .ok (.getfield 94, 3) := by decide +kernel
theorem d_X_queued_22 : decode prog_1_method_15_code 22 = .ok (.if_icmp .lt 5, 3) := by decide +kernel
theorem d_X_queued_25 : decode prog_1_method_15_code 25 = .ok (.iconst (-1), 1) := by decide +kernel
theorem d_X_queued_26 : decode prog_1_method_15_code 26 = .ok (.ireturn, 1) := by decide +kernel
theorem d_X_queued_27 : decode prog_1_method_15_code 27 = .ok (.aload_n 0, 1) := by decide +kernel
theorem d_X_queued_28 : decode prog_1_method_15_code 28 = .ok (.getfield 20, 3) := by decide +kernel
theorem d_X_queued_31 : decode prog_1_method_15_code 31 = .ok (.iload_n 1, 1) := by decide +kernel
theorem d_X_queued_32 : decode prog_1_method_15_code 32 = .ok (.aaload, 1) := by decide +kernel
theorem d_X_queued_33 : decode prog_1_method_15_code 33 = .ok (.getfield 139, 3) := by decide +kernel
theorem d_X_queued_36 : decode prog_1_method_15_code 36 = .ok (.iload_n 2, 1) := by decide +kernel
theorem d_X_queued_37 : decode prog_1_method_15_code 37 = .ok (.aaload, 1) := by decide +kernel
theorem d_X_queued_38 : decode prog_1_method_15_code 38 = .ok (.getfield 142, 3) := by decide +kernel
theorem d_X_queued_41 : decode prog_1_method_15_code 41 = .ok (.ireturn, 1) := by decide +kernel
abbrev y_X_state : MethodName := ⟨"GridlockDesk", "state", "(I)I"⟩
abbrev ws_X_state : List Cond := .code y_X_state prog_1_method_16_code 2 (some .int) :: TB
theorem d_X_state_0 : decode prog_1_method_16_code 0 = .ok (.aload_n 0, 1) := by decide +kernel
theorem d_X_state_1 : decode prog_1_method_16_code 1 = .ok (.iload_n 1, 1) := by decide +kernel
theorem d_X_state_2 : decode prog_1_method_16_code 2 = .ok (.invokevirtual 145, 3) := by decide +kernel
theorem d_X_state_5 : decode prog_1_method_16_code 5 = .ok (.ifCond .eq 15, 3) := by decide +kernel
theorem d_X_state_8 : decode prog_1_method_16_code 8 = .ok (.aload_n 0, 1) := by decide +kernel
theorem d_X_state_9 : decode prog_1_method_16_code 9 = .ok (.getfield 29, 3) := by decide +kernel
theorem d_X_state_12 : decode prog_1_method_16_code 12 = .ok (.iload_n 1, 1) := by decide +kernel
theorem d_X_state_13 : decode prog_1_method_16_code 13 = .ok (.aaload, 1) := by decide +kernel
theorem d_X_state_14 : decode prog_1_method_16_code 14 = .ok (.getfield 148, 3) := by decide +kernel
theorem d_X_state_17 : decode prog_1_method_16_code 17 = .ok (.goto 4, 3) := by decide +kernel
theorem d_X_state_20 : decode prog_1_method_16_code 20 = .ok (.iconst (-1), 1) := by decide +kernel
theorem d_X_state_21 : decode prog_1_method_16_code 21 = .ok (.ireturn, 1) := by decide +kernel
abbrev y_X_turnover : MethodName := ⟨"GridlockDesk", "turnover", "()J"⟩
abbrev ws_X_turnover : List Cond := .code y_X_turnover prog_1_method_17_code 1 (some .long) :: TB
theorem d_X_turnover_0 : decode prog_1_method_17_code 0 = .ok (.aload_n 0, 1) := by decide +kernel
theorem d_X_turnover_1 : decode prog_1_method_17_code 1 = .ok (.getfield 151, 3) := by decide +kernel
theorem d_X_turnover_4 : decode prog_1_method_17_code 4 = .ok (.lreturn, 1) := by decide +kernel
abbrev y_X_now : MethodName := ⟨"GridlockDesk", "now", "()I"⟩
abbrev ws_X_now : List Cond := .code y_X_now prog_1_method_18_code 1 (some .int) :: TB
theorem d_X_now_0 : decode prog_1_method_18_code 0 = .ok (.aload_n 0, 1) := by decide +kernel
theorem d_X_now_1 : decode prog_1_method_18_code 1 = .ok (.getfield 87, 3) := by decide +kernel
theorem d_X_now_4 : decode prog_1_method_18_code 4 = .ok (.ireturn, 1) := by decide +kernel
end
section
abbrev atys (cA : Nat → ClassId) : List (ClassId × FieldType) := [(cA 0, .long), (cA 1, .int), (cA 2, .object "GridlockDesk$Bank"), (cA 3, .object "GridlockDesk$Payment")]
def cdom (n : Nat) (σ : St) (t i : Nat) : Prop := match t with
  | 0 => i = 0
  | 1 => i = 0
  | 2 => i = 0
  | 3 => i = 0
  | 4 => i < n
  | 5 => i < n
  | 6 => i < n
  | 7 => i < n
  | 8 => i < sN σ
  | _ => False
def cct (cA : Nat → ClassId) (ad : Nat → Nat → Nat) (n : Nat) (σ : St) (t i : Nat) : va_E := match t with
  | 0 => .inr (2, [.ref (ad 1 0), .ref (ad 2 0), .int (sI σ 0 i 0), .long (sL σ 0 i 0), .int (sI σ 1 i 0), .ref (ad 3 0)])
  | 1 => .inl (cA 2, n, .inr (.inr (.inr (.inr (fun j => some (ad 4 j))))))
  | 2 => .inl (cA 3, 100, .inr (.inr (.inr (.inr (fun j => (sR σ 0 i j).map (ad 8))))))
  | 3 => .inl (cA 1, n, .inl (fun j => sI σ 2 i j))
  | 4 => .inr (0, [.long (sL σ 1 i 0), .long (sL σ 2 i 0), .long (sL σ 3 i 0), .ref (ad 5 i), .ref (ad 6 i), .ref (ad 7 i), .int (sI σ 3 i 0)])
  | 5 => .inl (cA 0, n, .inr (.inl (fun j => sL σ 4 i j)))
  | 6 => .inl (cA 0, n, .inr (.inl (fun j => sL σ 5 i j)))
  | 7 => .inl (cA 3, 6, .inr (.inr (.inr (.inr (fun j => (sR σ 1 i j).map (ad 8))))))
  | 8 => .inr (1, [.int (sI σ 4 i 0), .int (sI σ 5 i 0), .int (sI σ 6 i 0), .long (sL σ 6 i 0), .int (sI σ 7 i 0), .int (sI σ 8 i 0), .int (sI σ 9 i 0)])
  | _ => .inr (0, [])
def CW (D : va_G) (cA : Nat → ClassId) (ad : Nat → Nat → Nat) (n : Nat) (A : Nat → Prop) (σ : St) (H : Heap) : Prop := kw D vCl ad (cdom n σ) (cct cA ad n σ) H ∧ ∀ t i, cdom n σ t i → A (ad t i)
theorem CW.wI {D : va_G} {cA : Nat → ClassId} {ad : Nat → Nat → Nat} {n : Nat} {A : Nat → Prop} {σ : St} {H : Heap} {c i : Nat} {j : Nat} {v : Int32} (h : kw D vCl ad (cdom n σ) (cct cA ad n (wI σ c i j v)) H) (hA : ∀ t i, cdom n σ t i → A (ad t i)) : CW D cA ad n A (wI σ c i j v) H := ⟨h, hA⟩
theorem CW.wL {D : va_G} {cA : Nat → ClassId} {ad : Nat → Nat → Nat} {n : Nat} {A : Nat → Prop} {σ : St} {H : Heap} {c i : Nat} {j : Nat} {v : Int64} (h : kw D vCl ad (cdom n σ) (cct cA ad n (wL σ c i j v)) H) (hA : ∀ t i, cdom n σ t i → A (ad t i)) : CW D cA ad n A (wL σ c i j v) H := ⟨h, hA⟩
theorem CW.wR {D : va_G} {cA : Nat → ClassId} {ad : Nat → Nat → Nat} {n : Nat} {A : Nat → Prop} {σ : St} {H : Heap} {c i : Nat} {j : Nat} {v : Option Nat} (h : kw D vCl ad (cdom n σ) (cct cA ad n (wR σ c i j v)) H) (hA : ∀ t i, cdom n σ t i → A (ad t i)) : CW D cA ad n A (wR σ c i j v) H := ⟨h, hA⟩
theorem CW.fI {D : va_G} {cA : Nat → ClassId} {ad : Nat → Nat → Nat} {n : Nat} {A : Nat → Prop} {σ : St} {H : Heap} {c i : Nat} {v : Int32} (h : kw D vCl ad (cdom n σ) (cct cA ad n (fI σ c i v)) H) (hA : ∀ t i, cdom n σ t i → A (ad t i)) : CW D cA ad n A (fI σ c i v) H := ⟨h, hA⟩
theorem CW.fL {D : va_G} {cA : Nat → ClassId} {ad : Nat → Nat → Nat} {n : Nat} {A : Nat → Prop} {σ : St} {H : Heap} {c i : Nat} {v : Int64} (h : kw D vCl ad (cdom n σ) (cct cA ad n (fL σ c i v)) H) (hA : ∀ t i, cdom n σ t i → A (ad t i)) : CW D cA ad n A (fL σ c i v) H := ⟨h, hA⟩
theorem cc_wI0 {cA : Nat → ClassId} {ad : Nat → Nat → Nat} {n : Nat} {σ : St} {v : Int32} : ∀ t' i', cdom n σ t' i' → cct cA ad n (wI σ 0 0 0 v) t' i' = if t' = 0 ∧ i' = 0 then .inr (2, List.set [.ref (ad 1 0), .ref (ad 2 0), .int (sI σ 0 0 0), .long (sL σ 0 0 0), .int (sI σ 1 0 0), .ref (ad 3 0)] 2 (.int v)) else cct cA ad n σ t' i' := by
  intro t' i' h
  match t', h with
  | 0, h =>
    have h : i' = 0 := h
    subst h
    rw [if_pos ⟨rfl, rfl⟩]
    first | rfl | (simp [cct, sI_wI, sL_wI, sR_wI]; done) | (simp [cct, sI_wI, sL_wI, sR_wI]; funext jj; by_cases hj : jj = j <;> simp [sI_wI, sL_wI, sR_wI, hj])
  | 1, h => rw [if_neg (by omega)]; first | rfl | simp [cct, sI_wI, sL_wI, sR_wI]
  | 2, h => rw [if_neg (by omega)]; first | rfl | simp [cct, sI_wI, sL_wI, sR_wI]
  | 3, h => rw [if_neg (by omega)]; first | rfl | simp [cct, sI_wI, sL_wI, sR_wI]
  | 4, h => rw [if_neg (by omega)]; first | rfl | simp [cct, sI_wI, sL_wI, sR_wI]
  | 5, h => rw [if_neg (by omega)]; first | rfl | simp [cct, sI_wI, sL_wI, sR_wI]
  | 6, h => rw [if_neg (by omega)]; first | rfl | simp [cct, sI_wI, sL_wI, sR_wI]
  | 7, h => rw [if_neg (by omega)]; first | rfl | simp [cct, sI_wI, sL_wI, sR_wI]
  | 8, h => rw [if_neg (by omega)]; first | rfl | simp [cct, sI_wI, sL_wI, sR_wI]
theorem cc_wL0 {cA : Nat → ClassId} {ad : Nat → Nat → Nat} {n : Nat} {σ : St} {v : Int64} : ∀ t' i', cdom n σ t' i' → cct cA ad n (wL σ 0 0 0 v) t' i' = if t' = 0 ∧ i' = 0 then .inr (2, List.set [.ref (ad 1 0), .ref (ad 2 0), .int (sI σ 0 0 0), .long (sL σ 0 0 0), .int (sI σ 1 0 0), .ref (ad 3 0)] 3 (.long v)) else cct cA ad n σ t' i' := by
  intro t' i' h
  match t', h with
  | 0, h =>
    have h : i' = 0 := h
    subst h
    rw [if_pos ⟨rfl, rfl⟩]
    first | rfl | (simp [cct, sI_wL, sL_wL, sR_wL]; done) | (simp [cct, sI_wL, sL_wL, sR_wL]; funext jj; by_cases hj : jj = j <;> simp [sI_wL, sL_wL, sR_wL, hj])
  | 1, h => rw [if_neg (by omega)]; first | rfl | simp [cct, sI_wL, sL_wL, sR_wL]
  | 2, h => rw [if_neg (by omega)]; first | rfl | simp [cct, sI_wL, sL_wL, sR_wL]
  | 3, h => rw [if_neg (by omega)]; first | rfl | simp [cct, sI_wL, sL_wL, sR_wL]
  | 4, h => rw [if_neg (by omega)]; first | rfl | simp [cct, sI_wL, sL_wL, sR_wL]
  | 5, h => rw [if_neg (by omega)]; first | rfl | simp [cct, sI_wL, sL_wL, sR_wL]
  | 6, h => rw [if_neg (by omega)]; first | rfl | simp [cct, sI_wL, sL_wL, sR_wL]
  | 7, h => rw [if_neg (by omega)]; first | rfl | simp [cct, sI_wL, sL_wL, sR_wL]
  | 8, h => rw [if_neg (by omega)]; first | rfl | simp [cct, sI_wL, sL_wL, sR_wL]
theorem cc_wI1 {cA : Nat → ClassId} {ad : Nat → Nat → Nat} {n : Nat} {σ : St} {v : Int32} : ∀ t' i', cdom n σ t' i' → cct cA ad n (wI σ 1 0 0 v) t' i' = if t' = 0 ∧ i' = 0 then .inr (2, List.set [.ref (ad 1 0), .ref (ad 2 0), .int (sI σ 0 0 0), .long (sL σ 0 0 0), .int (sI σ 1 0 0), .ref (ad 3 0)] 4 (.int v)) else cct cA ad n σ t' i' := by
  intro t' i' h
  match t', h with
  | 0, h =>
    have h : i' = 0 := h
    subst h
    rw [if_pos ⟨rfl, rfl⟩]
    first | rfl | (simp [cct, sI_wI, sL_wI, sR_wI]; done) | (simp [cct, sI_wI, sL_wI, sR_wI]; funext jj; by_cases hj : jj = j <;> simp [sI_wI, sL_wI, sR_wI, hj])
  | 1, h => rw [if_neg (by omega)]; first | rfl | simp [cct, sI_wI, sL_wI, sR_wI]
  | 2, h => rw [if_neg (by omega)]; first | rfl | simp [cct, sI_wI, sL_wI, sR_wI]
  | 3, h => rw [if_neg (by omega)]; first | rfl | simp [cct, sI_wI, sL_wI, sR_wI]
  | 4, h => rw [if_neg (by omega)]; first | rfl | simp [cct, sI_wI, sL_wI, sR_wI]
  | 5, h => rw [if_neg (by omega)]; first | rfl | simp [cct, sI_wI, sL_wI, sR_wI]
  | 6, h => rw [if_neg (by omega)]; first | rfl | simp [cct, sI_wI, sL_wI, sR_wI]
  | 7, h => rw [if_neg (by omega)]; first | rfl | simp [cct, sI_wI, sL_wI, sR_wI]
  | 8, h => rw [if_neg (by omega)]; first | rfl | simp [cct, sI_wI, sL_wI, sR_wI]
theorem cc_wR0 {cA : Nat → ClassId} {ad : Nat → Nat → Nat} {n : Nat} {σ : St} {j k : Nat} : ∀ t' i', cdom n σ t' i' → cct cA ad n (wR σ 0 0 j (some k)) t' i' = if t' = 2 ∧ i' = 0 then .inl (cA 3, 100, .inr (.inr (.inr (.inr (va_up (fun j => (sR σ 0 0 j).map (ad 8)) j (some (ad 8 k))))))) else cct cA ad n σ t' i' := by
  intro t' i' h
  match t', h with
  | 0, h => rw [if_neg (by omega)]; first | rfl | simp [cct, sI_wR, sL_wR, sR_wR, va_up]
  | 1, h => rw [if_neg (by omega)]; first | rfl | simp [cct, sI_wR, sL_wR, sR_wR, va_up]
  | 2, h =>
    have h : i' = 0 := h
    subst h
    rw [if_pos ⟨rfl, rfl⟩]
    first | rfl | (simp [cct, sI_wR, sL_wR, sR_wR, va_up]; done) | (simp [cct, sI_wR, sL_wR, sR_wR, va_up]; funext jj; by_cases hj : jj = j <;> simp [sI_wR, sL_wR, sR_wR, va_up, hj])
  | 3, h => rw [if_neg (by omega)]; first | rfl | simp [cct, sI_wR, sL_wR, sR_wR, va_up]
  | 4, h => rw [if_neg (by omega)]; first | rfl | simp [cct, sI_wR, sL_wR, sR_wR, va_up]
  | 5, h => rw [if_neg (by omega)]; first | rfl | simp [cct, sI_wR, sL_wR, sR_wR, va_up]
  | 6, h => rw [if_neg (by omega)]; first | rfl | simp [cct, sI_wR, sL_wR, sR_wR, va_up]
  | 7, h => rw [if_neg (by omega)]; first | rfl | simp [cct, sI_wR, sL_wR, sR_wR, va_up]
  | 8, h => rw [if_neg (by omega)]; first | rfl | simp [cct, sI_wR, sL_wR, sR_wR, va_up]
theorem cc_wI2 {cA : Nat → ClassId} {ad : Nat → Nat → Nat} {n : Nat} {σ : St} {j : Nat} {v : Int32} : ∀ t' i', cdom n σ t' i' → cct cA ad n (wI σ 2 0 j v) t' i' = if t' = 3 ∧ i' = 0 then .inl (cA 1, n, .inl (upd (fun j => sI σ 2 0 j) j v)) else cct cA ad n σ t' i' := by
  intro t' i' h
  match t', h with
  | 0, h => rw [if_neg (by omega)]; first | rfl | simp [cct, sI_wI, sL_wI, sR_wI, upd]
  | 1, h => rw [if_neg (by omega)]; first | rfl | simp [cct, sI_wI, sL_wI, sR_wI, upd]
  | 2, h => rw [if_neg (by omega)]; first | rfl | simp [cct, sI_wI, sL_wI, sR_wI, upd]
  | 3, h =>
    have h : i' = 0 := h
    subst h
    rw [if_pos ⟨rfl, rfl⟩]
    first | rfl | (simp [cct, sI_wI, sL_wI, sR_wI, upd]; done) | (simp [cct, sI_wI, sL_wI, sR_wI, upd]; funext jj; by_cases hj : jj = j <;> simp [sI_wI, sL_wI, sR_wI, upd, hj])
  | 4, h => rw [if_neg (by omega)]; first | rfl | simp [cct, sI_wI, sL_wI, sR_wI, upd]
  | 5, h => rw [if_neg (by omega)]; first | rfl | simp [cct, sI_wI, sL_wI, sR_wI, upd]
  | 6, h => rw [if_neg (by omega)]; first | rfl | simp [cct, sI_wI, sL_wI, sR_wI, upd]
  | 7, h => rw [if_neg (by omega)]; first | rfl | simp [cct, sI_wI, sL_wI, sR_wI, upd]
  | 8, h => rw [if_neg (by omega)]; first | rfl | simp [cct, sI_wI, sL_wI, sR_wI, upd]
theorem cc_fI2 {cA : Nat → ClassId} {ad : Nat → Nat → Nat} {n : Nat} {σ : St} {v : Int32} : ∀ t' i', cdom n σ t' i' → cct cA ad n (fI σ 2 0 v) t' i' = if t' = 3 ∧ i' = 0 then .inl (cA 1, n, .inl (fun _ => v)) else cct cA ad n σ t' i' := by
  intro t' i' h
  match t', h with
  | 0, h => rw [if_neg (by omega)]; first | rfl | simp [cct, sI_fI, sL_fI, sR_fI]
  | 1, h => rw [if_neg (by omega)]; first | rfl | simp [cct, sI_fI, sL_fI, sR_fI]
  | 2, h => rw [if_neg (by omega)]; first | rfl | simp [cct, sI_fI, sL_fI, sR_fI]
  | 3, h =>
    have h : i' = 0 := h
    subst h
    rw [if_pos ⟨rfl, rfl⟩]
    first | rfl | (simp [cct, sI_fI, sL_fI, sR_fI]; done) | (simp [cct, sI_fI, sL_fI, sR_fI]; funext jj; by_cases hj : jj = j <;> simp [sI_fI, sL_fI, sR_fI, hj])
  | 4, h => rw [if_neg (by omega)]; first | rfl | simp [cct, sI_fI, sL_fI, sR_fI]
  | 5, h => rw [if_neg (by omega)]; first | rfl | simp [cct, sI_fI, sL_fI, sR_fI]
  | 6, h => rw [if_neg (by omega)]; first | rfl | simp [cct, sI_fI, sL_fI, sR_fI]
  | 7, h => rw [if_neg (by omega)]; first | rfl | simp [cct, sI_fI, sL_fI, sR_fI]
  | 8, h => rw [if_neg (by omega)]; first | rfl | simp [cct, sI_fI, sL_fI, sR_fI]
theorem cc_wL1 {cA : Nat → ClassId} {ad : Nat → Nat → Nat} {n : Nat} {σ : St} {i : Nat} {v : Int64} : ∀ t' i', cdom n σ t' i' → cct cA ad n (wL σ 1 i 0 v) t' i' = if t' = 4 ∧ i' = i then .inr (0, List.set [.long (sL σ 1 i 0), .long (sL σ 2 i 0), .long (sL σ 3 i 0), .ref (ad 5 i), .ref (ad 6 i), .ref (ad 7 i), .int (sI σ 3 i 0)] 0 (.long v)) else cct cA ad n σ t' i' := by
  intro t' i' h
  match t', h with
  | 0, h => rw [if_neg (by omega)]; first | rfl | simp [cct, sI_wL, sL_wL, sR_wL]
  | 1, h => rw [if_neg (by omega)]; first | rfl | simp [cct, sI_wL, sL_wL, sR_wL]
  | 2, h => rw [if_neg (by omega)]; first | rfl | simp [cct, sI_wL, sL_wL, sR_wL]
  | 3, h => rw [if_neg (by omega)]; first | rfl | simp [cct, sI_wL, sL_wL, sR_wL]
  | 4, h =>
    by_cases hi : i' = i
    · subst hi
      rw [if_pos ⟨rfl, rfl⟩]
      first | rfl | (simp [cct, sI_wL, sL_wL, sR_wL]; done) | (simp [cct, sI_wL, sL_wL, sR_wL]; funext jj; by_cases hj : jj = j <;> simp [sI_wL, sL_wL, sR_wL, hj])
    · rw [if_neg (fun q => hi q.2)]
      first | rfl | (simp [cct, sI_wL, sL_wL, sR_wL, hi]; done)
  | 5, h => rw [if_neg (by omega)]; first | rfl | simp [cct, sI_wL, sL_wL, sR_wL]
  | 6, h => rw [if_neg (by omega)]; first | rfl | simp [cct, sI_wL, sL_wL, sR_wL]
  | 7, h => rw [if_neg (by omega)]; first | rfl | simp [cct, sI_wL, sL_wL, sR_wL]
  | 8, h => rw [if_neg (by omega)]; first | rfl | simp [cct, sI_wL, sL_wL, sR_wL]
theorem cc_wL2 {cA : Nat → ClassId} {ad : Nat → Nat → Nat} {n : Nat} {σ : St} {i : Nat} {v : Int64} : ∀ t' i', cdom n σ t' i' → cct cA ad n (wL σ 2 i 0 v) t' i' = if t' = 4 ∧ i' = i then .inr (0, List.set [.long (sL σ 1 i 0), .long (sL σ 2 i 0), .long (sL σ 3 i 0), .ref (ad 5 i), .ref (ad 6 i), .ref (ad 7 i), .int (sI σ 3 i 0)] 1 (.long v)) else cct cA ad n σ t' i' := by
  intro t' i' h
  match t', h with
  | 0, h => rw [if_neg (by omega)]; first | rfl | simp [cct, sI_wL, sL_wL, sR_wL]
  | 1, h => rw [if_neg (by omega)]; first | rfl | simp [cct, sI_wL, sL_wL, sR_wL]
  | 2, h => rw [if_neg (by omega)]; first | rfl | simp [cct, sI_wL, sL_wL, sR_wL]
  | 3, h => rw [if_neg (by omega)]; first | rfl | simp [cct, sI_wL, sL_wL, sR_wL]
  | 4, h =>
    by_cases hi : i' = i
    · subst hi
      rw [if_pos ⟨rfl, rfl⟩]
      first | rfl | (simp [cct, sI_wL, sL_wL, sR_wL]; done) | (simp [cct, sI_wL, sL_wL, sR_wL]; funext jj; by_cases hj : jj = j <;> simp [sI_wL, sL_wL, sR_wL, hj])
    · rw [if_neg (fun q => hi q.2)]
      first | rfl | (simp [cct, sI_wL, sL_wL, sR_wL, hi]; done)
  | 5, h => rw [if_neg (by omega)]; first | rfl | simp [cct, sI_wL, sL_wL, sR_wL]
  | 6, h => rw [if_neg (by omega)]; first | rfl | simp [cct, sI_wL, sL_wL, sR_wL]
  | 7, h => rw [if_neg (by omega)]; first | rfl | simp [cct, sI_wL, sL_wL, sR_wL]
  | 8, h => rw [if_neg (by omega)]; first | rfl | simp [cct, sI_wL, sL_wL, sR_wL]
theorem cc_wL3 {cA : Nat → ClassId} {ad : Nat → Nat → Nat} {n : Nat} {σ : St} {i : Nat} {v : Int64} : ∀ t' i', cdom n σ t' i' → cct cA ad n (wL σ 3 i 0 v) t' i' = if t' = 4 ∧ i' = i then .inr (0, List.set [.long (sL σ 1 i 0), .long (sL σ 2 i 0), .long (sL σ 3 i 0), .ref (ad 5 i), .ref (ad 6 i), .ref (ad 7 i), .int (sI σ 3 i 0)] 2 (.long v)) else cct cA ad n σ t' i' := by
  intro t' i' h
  match t', h with
  | 0, h => rw [if_neg (by omega)]; first | rfl | simp [cct, sI_wL, sL_wL, sR_wL]
  | 1, h => rw [if_neg (by omega)]; first | rfl | simp [cct, sI_wL, sL_wL, sR_wL]
  | 2, h => rw [if_neg (by omega)]; first | rfl | simp [cct, sI_wL, sL_wL, sR_wL]
  | 3, h => rw [if_neg (by omega)]; first | rfl | simp [cct, sI_wL, sL_wL, sR_wL]
  | 4, h =>
    by_cases hi : i' = i
    · subst hi
      rw [if_pos ⟨rfl, rfl⟩]
      first | rfl | (simp [cct, sI_wL, sL_wL, sR_wL]; done) | (simp [cct, sI_wL, sL_wL, sR_wL]; funext jj; by_cases hj : jj = j <;> simp [sI_wL, sL_wL, sR_wL, hj])
    · rw [if_neg (fun q => hi q.2)]
      first | rfl | (simp [cct, sI_wL, sL_wL, sR_wL, hi]; done)
  | 5, h => rw [if_neg (by omega)]; first | rfl | simp [cct, sI_wL, sL_wL, sR_wL]
  | 6, h => rw [if_neg (by omega)]; first | rfl | simp [cct, sI_wL, sL_wL, sR_wL]
  | 7, h => rw [if_neg (by omega)]; first | rfl | simp [cct, sI_wL, sL_wL, sR_wL]
  | 8, h => rw [if_neg (by omega)]; first | rfl | simp [cct, sI_wL, sL_wL, sR_wL]
theorem cc_wI3 {cA : Nat → ClassId} {ad : Nat → Nat → Nat} {n : Nat} {σ : St} {i : Nat} {v : Int32} : ∀ t' i', cdom n σ t' i' → cct cA ad n (wI σ 3 i 0 v) t' i' = if t' = 4 ∧ i' = i then .inr (0, List.set [.long (sL σ 1 i 0), .long (sL σ 2 i 0), .long (sL σ 3 i 0), .ref (ad 5 i), .ref (ad 6 i), .ref (ad 7 i), .int (sI σ 3 i 0)] 6 (.int v)) else cct cA ad n σ t' i' := by
  intro t' i' h
  match t', h with
  | 0, h => rw [if_neg (by omega)]; first | rfl | simp [cct, sI_wI, sL_wI, sR_wI]
  | 1, h => rw [if_neg (by omega)]; first | rfl | simp [cct, sI_wI, sL_wI, sR_wI]
  | 2, h => rw [if_neg (by omega)]; first | rfl | simp [cct, sI_wI, sL_wI, sR_wI]
  | 3, h => rw [if_neg (by omega)]; first | rfl | simp [cct, sI_wI, sL_wI, sR_wI]
  | 4, h =>
    by_cases hi : i' = i
    · subst hi
      rw [if_pos ⟨rfl, rfl⟩]
      first | rfl | (simp [cct, sI_wI, sL_wI, sR_wI]; done) | (simp [cct, sI_wI, sL_wI, sR_wI]; funext jj; by_cases hj : jj = j <;> simp [sI_wI, sL_wI, sR_wI, hj])
    · rw [if_neg (fun q => hi q.2)]
      first | rfl | (simp [cct, sI_wI, sL_wI, sR_wI, hi]; done)
  | 5, h => rw [if_neg (by omega)]; first | rfl | simp [cct, sI_wI, sL_wI, sR_wI]
  | 6, h => rw [if_neg (by omega)]; first | rfl | simp [cct, sI_wI, sL_wI, sR_wI]
  | 7, h => rw [if_neg (by omega)]; first | rfl | simp [cct, sI_wI, sL_wI, sR_wI]
  | 8, h => rw [if_neg (by omega)]; first | rfl | simp [cct, sI_wI, sL_wI, sR_wI]
theorem cc_wL4 {cA : Nat → ClassId} {ad : Nat → Nat → Nat} {n : Nat} {σ : St} {i : Nat} {j : Nat} {v : Int64} : ∀ t' i', cdom n σ t' i' → cct cA ad n (wL σ 4 i j v) t' i' = if t' = 5 ∧ i' = i then .inl (cA 0, n, .inr (.inl (vp_updL (fun j => sL σ 4 i j) j v))) else cct cA ad n σ t' i' := by
  intro t' i' h
  match t', h with
  | 0, h => rw [if_neg (by omega)]; first | rfl | simp [cct, sI_wL, sL_wL, sR_wL, vp_updL]
  | 1, h => rw [if_neg (by omega)]; first | rfl | simp [cct, sI_wL, sL_wL, sR_wL, vp_updL]
  | 2, h => rw [if_neg (by omega)]; first | rfl | simp [cct, sI_wL, sL_wL, sR_wL, vp_updL]
  | 3, h => rw [if_neg (by omega)]; first | rfl | simp [cct, sI_wL, sL_wL, sR_wL, vp_updL]
  | 4, h => rw [if_neg (by omega)]; first | rfl | simp [cct, sI_wL, sL_wL, sR_wL, vp_updL]
  | 5, h =>
    by_cases hi : i' = i
    · subst hi
      rw [if_pos ⟨rfl, rfl⟩]
      first | rfl | (simp [cct, sI_wL, sL_wL, sR_wL, vp_updL]; done) | (simp [cct, sI_wL, sL_wL, sR_wL, vp_updL]; funext jj; by_cases hj : jj = j <;> simp [sI_wL, sL_wL, sR_wL, vp_updL, hj])
    · rw [if_neg (fun q => hi q.2)]
      first | rfl | (simp [cct, sI_wL, sL_wL, sR_wL, vp_updL, hi]; done)
  | 6, h => rw [if_neg (by omega)]; first | rfl | simp [cct, sI_wL, sL_wL, sR_wL, vp_updL]
  | 7, h => rw [if_neg (by omega)]; first | rfl | simp [cct, sI_wL, sL_wL, sR_wL, vp_updL]
  | 8, h => rw [if_neg (by omega)]; first | rfl | simp [cct, sI_wL, sL_wL, sR_wL, vp_updL]
theorem cc_fL4 {cA : Nat → ClassId} {ad : Nat → Nat → Nat} {n : Nat} {σ : St} {i : Nat} {v : Int64} : ∀ t' i', cdom n σ t' i' → cct cA ad n (fL σ 4 i v) t' i' = if t' = 5 ∧ i' = i then .inl (cA 0, n, .inr (.inl (fun _ => v))) else cct cA ad n σ t' i' := by
  intro t' i' h
  match t', h with
  | 0, h => rw [if_neg (by omega)]; first | rfl | simp [cct, sI_fL, sL_fL, sR_fL]
  | 1, h => rw [if_neg (by omega)]; first | rfl | simp [cct, sI_fL, sL_fL, sR_fL]
  | 2, h => rw [if_neg (by omega)]; first | rfl | simp [cct, sI_fL, sL_fL, sR_fL]
  | 3, h => rw [if_neg (by omega)]; first | rfl | simp [cct, sI_fL, sL_fL, sR_fL]
  | 4, h => rw [if_neg (by omega)]; first | rfl | simp [cct, sI_fL, sL_fL, sR_fL]
  | 5, h =>
    by_cases hi : i' = i
    · subst hi
      rw [if_pos ⟨rfl, rfl⟩]
      first | rfl | (simp [cct, sI_fL, sL_fL, sR_fL]; done) | (simp [cct, sI_fL, sL_fL, sR_fL]; funext jj; by_cases hj : jj = j <;> simp [sI_fL, sL_fL, sR_fL, hj])
    · rw [if_neg (fun q => hi q.2)]
      first | rfl | (simp [cct, sI_fL, sL_fL, sR_fL, hi]; done)
  | 6, h => rw [if_neg (by omega)]; first | rfl | simp [cct, sI_fL, sL_fL, sR_fL]
  | 7, h => rw [if_neg (by omega)]; first | rfl | simp [cct, sI_fL, sL_fL, sR_fL]
  | 8, h => rw [if_neg (by omega)]; first | rfl | simp [cct, sI_fL, sL_fL, sR_fL]
theorem cc_wL5 {cA : Nat → ClassId} {ad : Nat → Nat → Nat} {n : Nat} {σ : St} {i : Nat} {j : Nat} {v : Int64} : ∀ t' i', cdom n σ t' i' → cct cA ad n (wL σ 5 i j v) t' i' = if t' = 6 ∧ i' = i then .inl (cA 0, n, .inr (.inl (vp_updL (fun j => sL σ 5 i j) j v))) else cct cA ad n σ t' i' := by
  intro t' i' h
  match t', h with
  | 0, h => rw [if_neg (by omega)]; first | rfl | simp [cct, sI_wL, sL_wL, sR_wL, vp_updL]
  | 1, h => rw [if_neg (by omega)]; first | rfl | simp [cct, sI_wL, sL_wL, sR_wL, vp_updL]
  | 2, h => rw [if_neg (by omega)]; first | rfl | simp [cct, sI_wL, sL_wL, sR_wL, vp_updL]
  | 3, h => rw [if_neg (by omega)]; first | rfl | simp [cct, sI_wL, sL_wL, sR_wL, vp_updL]
  | 4, h => rw [if_neg (by omega)]; first | rfl | simp [cct, sI_wL, sL_wL, sR_wL, vp_updL]
  | 5, h => rw [if_neg (by omega)]; first | rfl | simp [cct, sI_wL, sL_wL, sR_wL, vp_updL]
  | 6, h =>
    by_cases hi : i' = i
    · subst hi
      rw [if_pos ⟨rfl, rfl⟩]
      first | rfl | (simp [cct, sI_wL, sL_wL, sR_wL, vp_updL]; done) | (simp [cct, sI_wL, sL_wL, sR_wL, vp_updL]; funext jj; by_cases hj : jj = j <;> simp [sI_wL, sL_wL, sR_wL, vp_updL, hj])
    · rw [if_neg (fun q => hi q.2)]
      first | rfl | (simp [cct, sI_wL, sL_wL, sR_wL, vp_updL, hi]; done)
  | 7, h => rw [if_neg (by omega)]; first | rfl | simp [cct, sI_wL, sL_wL, sR_wL, vp_updL]
  | 8, h => rw [if_neg (by omega)]; first | rfl | simp [cct, sI_wL, sL_wL, sR_wL, vp_updL]
theorem cc_fL5 {cA : Nat → ClassId} {ad : Nat → Nat → Nat} {n : Nat} {σ : St} {i : Nat} {v : Int64} : ∀ t' i', cdom n σ t' i' → cct cA ad n (fL σ 5 i v) t' i' = if t' = 6 ∧ i' = i then .inl (cA 0, n, .inr (.inl (fun _ => v))) else cct cA ad n σ t' i' := by
  intro t' i' h
  match t', h with
  | 0, h => rw [if_neg (by omega)]; first | rfl | simp [cct, sI_fL, sL_fL, sR_fL]
  | 1, h => rw [if_neg (by omega)]; first | rfl | simp [cct, sI_fL, sL_fL, sR_fL]
  | 2, h => rw [if_neg (by omega)]; first | rfl | simp [cct, sI_fL, sL_fL, sR_fL]
  | 3, h => rw [if_neg (by omega)]; first | rfl | simp [cct, sI_fL, sL_fL, sR_fL]
  | 4, h => rw [if_neg (by omega)]; first | rfl | simp [cct, sI_fL, sL_fL, sR_fL]
  | 5, h => rw [if_neg (by omega)]; first | rfl | simp [cct, sI_fL, sL_fL, sR_fL]
  | 6, h =>
    by_cases hi : i' = i
    · subst hi
      rw [if_pos ⟨rfl, rfl⟩]
      first | rfl | (simp [cct, sI_fL, sL_fL, sR_fL]; done) | (simp [cct, sI_fL, sL_fL, sR_fL]; funext jj; by_cases hj : jj = j <;> simp [sI_fL, sL_fL, sR_fL, hj])
    · rw [if_neg (fun q => hi q.2)]
      first | rfl | (simp [cct, sI_fL, sL_fL, sR_fL, hi]; done)
  | 7, h => rw [if_neg (by omega)]; first | rfl | simp [cct, sI_fL, sL_fL, sR_fL]
  | 8, h => rw [if_neg (by omega)]; first | rfl | simp [cct, sI_fL, sL_fL, sR_fL]
theorem cc_wR1 {cA : Nat → ClassId} {ad : Nat → Nat → Nat} {n : Nat} {σ : St} {i : Nat} {j k : Nat} : ∀ t' i', cdom n σ t' i' → cct cA ad n (wR σ 1 i j (some k)) t' i' = if t' = 7 ∧ i' = i then .inl (cA 3, 6, .inr (.inr (.inr (.inr (va_up (fun j => (sR σ 1 i j).map (ad 8)) j (some (ad 8 k))))))) else cct cA ad n σ t' i' := by
  intro t' i' h
  match t', h with
  | 0, h => rw [if_neg (by omega)]; first | rfl | simp [cct, sI_wR, sL_wR, sR_wR, va_up]
  | 1, h => rw [if_neg (by omega)]; first | rfl | simp [cct, sI_wR, sL_wR, sR_wR, va_up]
  | 2, h => rw [if_neg (by omega)]; first | rfl | simp [cct, sI_wR, sL_wR, sR_wR, va_up]
  | 3, h => rw [if_neg (by omega)]; first | rfl | simp [cct, sI_wR, sL_wR, sR_wR, va_up]
  | 4, h => rw [if_neg (by omega)]; first | rfl | simp [cct, sI_wR, sL_wR, sR_wR, va_up]
  | 5, h => rw [if_neg (by omega)]; first | rfl | simp [cct, sI_wR, sL_wR, sR_wR, va_up]
  | 6, h => rw [if_neg (by omega)]; first | rfl | simp [cct, sI_wR, sL_wR, sR_wR, va_up]
  | 7, h =>
    by_cases hi : i' = i
    · subst hi
      rw [if_pos ⟨rfl, rfl⟩]
      first | rfl | (simp [cct, sI_wR, sL_wR, sR_wR, va_up]; done) | (simp [cct, sI_wR, sL_wR, sR_wR, va_up]; funext jj; by_cases hj : jj = j <;> simp [sI_wR, sL_wR, sR_wR, va_up, hj])
    · rw [if_neg (fun q => hi q.2)]
      first | rfl | (simp [cct, sI_wR, sL_wR, sR_wR, va_up, hi]; done)
  | 8, h => rw [if_neg (by omega)]; first | rfl | simp [cct, sI_wR, sL_wR, sR_wR, va_up]
theorem cc_wI4 {cA : Nat → ClassId} {ad : Nat → Nat → Nat} {n : Nat} {σ : St} {i : Nat} {v : Int32} : ∀ t' i', cdom n σ t' i' → cct cA ad n (wI σ 4 i 0 v) t' i' = if t' = 8 ∧ i' = i then .inr (1, List.set [.int (sI σ 4 i 0), .int (sI σ 5 i 0), .int (sI σ 6 i 0), .long (sL σ 6 i 0), .int (sI σ 7 i 0), .int (sI σ 8 i 0), .int (sI σ 9 i 0)] 0 (.int v)) else cct cA ad n σ t' i' := by
  intro t' i' h
  match t', h with
  | 0, h => rw [if_neg (by omega)]; first | rfl | simp [cct, sI_wI, sL_wI, sR_wI]
  | 1, h => rw [if_neg (by omega)]; first | rfl | simp [cct, sI_wI, sL_wI, sR_wI]
  | 2, h => rw [if_neg (by omega)]; first | rfl | simp [cct, sI_wI, sL_wI, sR_wI]
  | 3, h => rw [if_neg (by omega)]; first | rfl | simp [cct, sI_wI, sL_wI, sR_wI]
  | 4, h => rw [if_neg (by omega)]; first | rfl | simp [cct, sI_wI, sL_wI, sR_wI]
  | 5, h => rw [if_neg (by omega)]; first | rfl | simp [cct, sI_wI, sL_wI, sR_wI]
  | 6, h => rw [if_neg (by omega)]; first | rfl | simp [cct, sI_wI, sL_wI, sR_wI]
  | 7, h => rw [if_neg (by omega)]; first | rfl | simp [cct, sI_wI, sL_wI, sR_wI]
  | 8, h =>
    by_cases hi : i' = i
    · subst hi
      rw [if_pos ⟨rfl, rfl⟩]
      first | rfl | (simp [cct, sI_wI, sL_wI, sR_wI]; done) | (simp [cct, sI_wI, sL_wI, sR_wI]; funext jj; by_cases hj : jj = j <;> simp [sI_wI, sL_wI, sR_wI, hj])
    · rw [if_neg (fun q => hi q.2)]
      first | rfl | (simp [cct, sI_wI, sL_wI, sR_wI, hi]; done)
theorem cc_wI5 {cA : Nat → ClassId} {ad : Nat → Nat → Nat} {n : Nat} {σ : St} {i : Nat} {v : Int32} : ∀ t' i', cdom n σ t' i' → cct cA ad n (wI σ 5 i 0 v) t' i' = if t' = 8 ∧ i' = i then .inr (1, List.set [.int (sI σ 4 i 0), .int (sI σ 5 i 0), .int (sI σ 6 i 0), .long (sL σ 6 i 0), .int (sI σ 7 i 0), .int (sI σ 8 i 0), .int (sI σ 9 i 0)] 1 (.int v)) else cct cA ad n σ t' i' := by
  intro t' i' h
  match t', h with
  | 0, h => rw [if_neg (by omega)]; first | rfl | simp [cct, sI_wI, sL_wI, sR_wI]
  | 1, h => rw [if_neg (by omega)]; first | rfl | simp [cct, sI_wI, sL_wI, sR_wI]
  | 2, h => rw [if_neg (by omega)]; first | rfl | simp [cct, sI_wI, sL_wI, sR_wI]
  | 3, h => rw [if_neg (by omega)]; first | rfl | simp [cct, sI_wI, sL_wI, sR_wI]
  | 4, h => rw [if_neg (by omega)]; first | rfl | simp [cct, sI_wI, sL_wI, sR_wI]
  | 5, h => rw [if_neg (by omega)]; first | rfl | simp [cct, sI_wI, sL_wI, sR_wI]
  | 6, h => rw [if_neg (by omega)]; first | rfl | simp [cct, sI_wI, sL_wI, sR_wI]
  | 7, h => rw [if_neg (by omega)]; first | rfl | simp [cct, sI_wI, sL_wI, sR_wI]
  | 8, h =>
    by_cases hi : i' = i
    · subst hi
      rw [if_pos ⟨rfl, rfl⟩]
      first | rfl | (simp [cct, sI_wI, sL_wI, sR_wI]; done) | (simp [cct, sI_wI, sL_wI, sR_wI]; funext jj; by_cases hj : jj = j <;> simp [sI_wI, sL_wI, sR_wI, hj])
    · rw [if_neg (fun q => hi q.2)]
      first | rfl | (simp [cct, sI_wI, sL_wI, sR_wI, hi]; done)
theorem cc_wI6 {cA : Nat → ClassId} {ad : Nat → Nat → Nat} {n : Nat} {σ : St} {i : Nat} {v : Int32} : ∀ t' i', cdom n σ t' i' → cct cA ad n (wI σ 6 i 0 v) t' i' = if t' = 8 ∧ i' = i then .inr (1, List.set [.int (sI σ 4 i 0), .int (sI σ 5 i 0), .int (sI σ 6 i 0), .long (sL σ 6 i 0), .int (sI σ 7 i 0), .int (sI σ 8 i 0), .int (sI σ 9 i 0)] 2 (.int v)) else cct cA ad n σ t' i' := by
  intro t' i' h
  match t', h with
  | 0, h => rw [if_neg (by omega)]; first | rfl | simp [cct, sI_wI, sL_wI, sR_wI]
  | 1, h => rw [if_neg (by omega)]; first | rfl | simp [cct, sI_wI, sL_wI, sR_wI]
  | 2, h => rw [if_neg (by omega)]; first | rfl | simp [cct, sI_wI, sL_wI, sR_wI]
  | 3, h => rw [if_neg (by omega)]; first | rfl | simp [cct, sI_wI, sL_wI, sR_wI]
  | 4, h => rw [if_neg (by omega)]; first | rfl | simp [cct, sI_wI, sL_wI, sR_wI]
  | 5, h => rw [if_neg (by omega)]; first | rfl | simp [cct, sI_wI, sL_wI, sR_wI]
  | 6, h => rw [if_neg (by omega)]; first | rfl | simp [cct, sI_wI, sL_wI, sR_wI]
  | 7, h => rw [if_neg (by omega)]; first | rfl | simp [cct, sI_wI, sL_wI, sR_wI]
  | 8, h =>
    by_cases hi : i' = i
    · subst hi
      rw [if_pos ⟨rfl, rfl⟩]
      first | rfl | (simp [cct, sI_wI, sL_wI, sR_wI]; done) | (simp [cct, sI_wI, sL_wI, sR_wI]; funext jj; by_cases hj : jj = j <;> simp [sI_wI, sL_wI, sR_wI, hj])
    · rw [if_neg (fun q => hi q.2)]
      first | rfl | (simp [cct, sI_wI, sL_wI, sR_wI, hi]; done)
theorem cc_wL6 {cA : Nat → ClassId} {ad : Nat → Nat → Nat} {n : Nat} {σ : St} {i : Nat} {v : Int64} : ∀ t' i', cdom n σ t' i' → cct cA ad n (wL σ 6 i 0 v) t' i' = if t' = 8 ∧ i' = i then .inr (1, List.set [.int (sI σ 4 i 0), .int (sI σ 5 i 0), .int (sI σ 6 i 0), .long (sL σ 6 i 0), .int (sI σ 7 i 0), .int (sI σ 8 i 0), .int (sI σ 9 i 0)] 3 (.long v)) else cct cA ad n σ t' i' := by
  intro t' i' h
  match t', h with
  | 0, h => rw [if_neg (by omega)]; first | rfl | simp [cct, sI_wL, sL_wL, sR_wL]
  | 1, h => rw [if_neg (by omega)]; first | rfl | simp [cct, sI_wL, sL_wL, sR_wL]
  | 2, h => rw [if_neg (by omega)]; first | rfl | simp [cct, sI_wL, sL_wL, sR_wL]
  | 3, h => rw [if_neg (by omega)]; first | rfl | simp [cct, sI_wL, sL_wL, sR_wL]
  | 4, h => rw [if_neg (by omega)]; first | rfl | simp [cct, sI_wL, sL_wL, sR_wL]
  | 5, h => rw [if_neg (by omega)]; first | rfl | simp [cct, sI_wL, sL_wL, sR_wL]
  | 6, h => rw [if_neg (by omega)]; first | rfl | simp [cct, sI_wL, sL_wL, sR_wL]
  | 7, h => rw [if_neg (by omega)]; first | rfl | simp [cct, sI_wL, sL_wL, sR_wL]
  | 8, h =>
    by_cases hi : i' = i
    · subst hi
      rw [if_pos ⟨rfl, rfl⟩]
      first | rfl | (simp [cct, sI_wL, sL_wL, sR_wL]; done) | (simp [cct, sI_wL, sL_wL, sR_wL]; funext jj; by_cases hj : jj = j <;> simp [sI_wL, sL_wL, sR_wL, hj])
    · rw [if_neg (fun q => hi q.2)]
      first | rfl | (simp [cct, sI_wL, sL_wL, sR_wL, hi]; done)
theorem cc_wI7 {cA : Nat → ClassId} {ad : Nat → Nat → Nat} {n : Nat} {σ : St} {i : Nat} {v : Int32} : ∀ t' i', cdom n σ t' i' → cct cA ad n (wI σ 7 i 0 v) t' i' = if t' = 8 ∧ i' = i then .inr (1, List.set [.int (sI σ 4 i 0), .int (sI σ 5 i 0), .int (sI σ 6 i 0), .long (sL σ 6 i 0), .int (sI σ 7 i 0), .int (sI σ 8 i 0), .int (sI σ 9 i 0)] 4 (.int v)) else cct cA ad n σ t' i' := by
  intro t' i' h
  match t', h with
  | 0, h => rw [if_neg (by omega)]; first | rfl | simp [cct, sI_wI, sL_wI, sR_wI]
  | 1, h => rw [if_neg (by omega)]; first | rfl | simp [cct, sI_wI, sL_wI, sR_wI]
  | 2, h => rw [if_neg (by omega)]; first | rfl | simp [cct, sI_wI, sL_wI, sR_wI]
  | 3, h => rw [if_neg (by omega)]; first | rfl | simp [cct, sI_wI, sL_wI, sR_wI]
  | 4, h => rw [if_neg (by omega)]; first | rfl | simp [cct, sI_wI, sL_wI, sR_wI]
  | 5, h => rw [if_neg (by omega)]; first | rfl | simp [cct, sI_wI, sL_wI, sR_wI]
  | 6, h => rw [if_neg (by omega)]; first | rfl | simp [cct, sI_wI, sL_wI, sR_wI]
  | 7, h => rw [if_neg (by omega)]; first | rfl | simp [cct, sI_wI, sL_wI, sR_wI]
  | 8, h =>
    by_cases hi : i' = i
    · subst hi
      rw [if_pos ⟨rfl, rfl⟩]
      first | rfl | (simp [cct, sI_wI, sL_wI, sR_wI]; done) | (simp [cct, sI_wI, sL_wI, sR_wI]; funext jj; by_cases hj : jj = j <;> simp [sI_wI, sL_wI, sR_wI, hj])
    · rw [if_neg (fun q => hi q.2)]
      first | rfl | (simp [cct, sI_wI, sL_wI, sR_wI, hi]; done)
theorem cc_wI8 {cA : Nat → ClassId} {ad : Nat → Nat → Nat} {n : Nat} {σ : St} {i : Nat} {v : Int32} : ∀ t' i', cdom n σ t' i' → cct cA ad n (wI σ 8 i 0 v) t' i' = if t' = 8 ∧ i' = i then .inr (1, List.set [.int (sI σ 4 i 0), .int (sI σ 5 i 0), .int (sI σ 6 i 0), .long (sL σ 6 i 0), .int (sI σ 7 i 0), .int (sI σ 8 i 0), .int (sI σ 9 i 0)] 5 (.int v)) else cct cA ad n σ t' i' := by
  intro t' i' h
  match t', h with
  | 0, h => rw [if_neg (by omega)]; first | rfl | simp [cct, sI_wI, sL_wI, sR_wI]
  | 1, h => rw [if_neg (by omega)]; first | rfl | simp [cct, sI_wI, sL_wI, sR_wI]
  | 2, h => rw [if_neg (by omega)]; first | rfl | simp [cct, sI_wI, sL_wI, sR_wI]
  | 3, h => rw [if_neg (by omega)]; first | rfl | simp [cct, sI_wI, sL_wI, sR_wI]
  | 4, h => rw [if_neg (by omega)]; first | rfl | simp [cct, sI_wI, sL_wI, sR_wI]
  | 5, h => rw [if_neg (by omega)]; first | rfl | simp [cct, sI_wI, sL_wI, sR_wI]
  | 6, h => rw [if_neg (by omega)]; first | rfl | simp [cct, sI_wI, sL_wI, sR_wI]
  | 7, h => rw [if_neg (by omega)]; first | rfl | simp [cct, sI_wI, sL_wI, sR_wI]
  | 8, h =>
    by_cases hi : i' = i
    · subst hi
      rw [if_pos ⟨rfl, rfl⟩]
      first | rfl | (simp [cct, sI_wI, sL_wI, sR_wI]; done) | (simp [cct, sI_wI, sL_wI, sR_wI]; funext jj; by_cases hj : jj = j <;> simp [sI_wI, sL_wI, sR_wI, hj])
    · rw [if_neg (fun q => hi q.2)]
      first | rfl | (simp [cct, sI_wI, sL_wI, sR_wI, hi]; done)
theorem cc_wI9 {cA : Nat → ClassId} {ad : Nat → Nat → Nat} {n : Nat} {σ : St} {i : Nat} {v : Int32} : ∀ t' i', cdom n σ t' i' → cct cA ad n (wI σ 9 i 0 v) t' i' = if t' = 8 ∧ i' = i then .inr (1, List.set [.int (sI σ 4 i 0), .int (sI σ 5 i 0), .int (sI σ 6 i 0), .long (sL σ 6 i 0), .int (sI σ 7 i 0), .int (sI σ 8 i 0), .int (sI σ 9 i 0)] 6 (.int v)) else cct cA ad n σ t' i' := by
  intro t' i' h
  match t', h with
  | 0, h => rw [if_neg (by omega)]; first | rfl | simp [cct, sI_wI, sL_wI, sR_wI]
  | 1, h => rw [if_neg (by omega)]; first | rfl | simp [cct, sI_wI, sL_wI, sR_wI]
  | 2, h => rw [if_neg (by omega)]; first | rfl | simp [cct, sI_wI, sL_wI, sR_wI]
  | 3, h => rw [if_neg (by omega)]; first | rfl | simp [cct, sI_wI, sL_wI, sR_wI]
  | 4, h => rw [if_neg (by omega)]; first | rfl | simp [cct, sI_wI, sL_wI, sR_wI]
  | 5, h => rw [if_neg (by omega)]; first | rfl | simp [cct, sI_wI, sL_wI, sR_wI]
  | 6, h => rw [if_neg (by omega)]; first | rfl | simp [cct, sI_wI, sL_wI, sR_wI]
  | 7, h => rw [if_neg (by omega)]; first | rfl | simp [cct, sI_wI, sL_wI, sR_wI]
  | 8, h =>
    by_cases hi : i' = i
    · subst hi
      rw [if_pos ⟨rfl, rfl⟩]
      first | rfl | (simp [cct, sI_wI, sL_wI, sR_wI]; done) | (simp [cct, sI_wI, sL_wI, sR_wI]; funext jj; by_cases hj : jj = j <;> simp [sI_wI, sL_wI, sR_wI, hj])
    · rw [if_neg (fun q => hi q.2)]
      first | rfl | (simp [cct, sI_wI, sL_wI, sR_wI, hi]; done)
end
section
def fdI (n : Nat) (σ : St) (t i : Nat) : Prop := match t with
  | 0 => i = 0
  | _ => False
def fctI (cA : Nat → ClassId) (ad : Nat → Nat → Nat) (n : Nat) (σ : St) (t i : Nat) : va_E := match t with
  | 0 => .inl (cA 1, n, .inl (fun j => sI σ 0 i j))
  | _ => .inr (0, [])
def FWI (D : va_G) (cA : Nat → ClassId) (ad : Nat → Nat → Nat) (n : Nat) (A : Nat → Prop) (σ : St) (H : Heap) : Prop := kw D vCl ad (fdI n σ) (fctI cA ad n σ) H ∧ ∀ t i, fdI n σ t i → A (ad t i)
theorem FWI.wI {D : va_G} {cA : Nat → ClassId} {ad : Nat → Nat → Nat} {n : Nat} {A : Nat → Prop} {σ : St} {H : Heap} {c i : Nat} {j : Nat} {v : Int32} (h : kw D vCl ad (fdI n σ) (fctI cA ad n (wI σ c i j v)) H) (hA : ∀ t i, fdI n σ t i → A (ad t i)) : FWI D cA ad n A (wI σ c i j v) H := ⟨h, hA⟩
theorem FWI.wL {D : va_G} {cA : Nat → ClassId} {ad : Nat → Nat → Nat} {n : Nat} {A : Nat → Prop} {σ : St} {H : Heap} {c i : Nat} {j : Nat} {v : Int64} (h : kw D vCl ad (fdI n σ) (fctI cA ad n (wL σ c i j v)) H) (hA : ∀ t i, fdI n σ t i → A (ad t i)) : FWI D cA ad n A (wL σ c i j v) H := ⟨h, hA⟩
theorem FWI.wR {D : va_G} {cA : Nat → ClassId} {ad : Nat → Nat → Nat} {n : Nat} {A : Nat → Prop} {σ : St} {H : Heap} {c i : Nat} {j : Nat} {v : Option Nat} (h : kw D vCl ad (fdI n σ) (fctI cA ad n (wR σ c i j v)) H) (hA : ∀ t i, fdI n σ t i → A (ad t i)) : FWI D cA ad n A (wR σ c i j v) H := ⟨h, hA⟩
theorem FWI.fI {D : va_G} {cA : Nat → ClassId} {ad : Nat → Nat → Nat} {n : Nat} {A : Nat → Prop} {σ : St} {H : Heap} {c i : Nat} {v : Int32} (h : kw D vCl ad (fdI n σ) (fctI cA ad n (fI σ c i v)) H) (hA : ∀ t i, fdI n σ t i → A (ad t i)) : FWI D cA ad n A (fI σ c i v) H := ⟨h, hA⟩
theorem FWI.fL {D : va_G} {cA : Nat → ClassId} {ad : Nat → Nat → Nat} {n : Nat} {A : Nat → Prop} {σ : St} {H : Heap} {c i : Nat} {v : Int64} (h : kw D vCl ad (fdI n σ) (fctI cA ad n (fL σ c i v)) H) (hA : ∀ t i, fdI n σ t i → A (ad t i)) : FWI D cA ad n A (fL σ c i v) H := ⟨h, hA⟩
theorem fi_wI0 {cA : Nat → ClassId} {ad : Nat → Nat → Nat} {n : Nat} {σ : St} {j : Nat} {v : Int32} : ∀ t' i', fdI n σ t' i' → fctI cA ad n (wI σ 0 0 j v) t' i' = if t' = 0 ∧ i' = 0 then .inl (cA 1, n, .inl (upd (fun j => sI σ 0 0 j) j v)) else fctI cA ad n σ t' i' := by
  intro t' i' h
  match t', h with
  | 0, h =>
    have h : i' = 0 := h
    subst h
    rw [if_pos ⟨rfl, rfl⟩]
    first | rfl | (simp [fctI, sI_wI, sL_wI, sR_wI, upd]; done) | (simp [fctI, sI_wI, sL_wI, sR_wI, upd]; funext jj; by_cases hj : jj = j <;> simp [sI_wI, sL_wI, sR_wI, upd, hj])
theorem fi_fI0 {cA : Nat → ClassId} {ad : Nat → Nat → Nat} {n : Nat} {σ : St} {v : Int32} : ∀ t' i', fdI n σ t' i' → fctI cA ad n (fI σ 0 0 v) t' i' = if t' = 0 ∧ i' = 0 then .inl (cA 1, n, .inl (fun _ => v)) else fctI cA ad n σ t' i' := by
  intro t' i' h
  match t', h with
  | 0, h =>
    have h : i' = 0 := h
    subst h
    rw [if_pos ⟨rfl, rfl⟩]
    first | rfl | (simp [fctI, sI_fI, sL_fI, sR_fI]; done) | (simp [fctI, sI_fI, sL_fI, sR_fI]; funext jj; by_cases hj : jj = j <;> simp [sI_fI, sL_fI, sR_fI, hj])
def fdJ (n : Nat) (σ : St) (t i : Nat) : Prop := match t with
  | 0 => i = 0
  | _ => False
def fctJ (cA : Nat → ClassId) (ad : Nat → Nat → Nat) (n : Nat) (σ : St) (t i : Nat) : va_E := match t with
  | 0 => .inl (cA 0, n, .inr (.inl (fun j => sL σ 0 i j)))
  | _ => .inr (0, [])
def FWJ (D : va_G) (cA : Nat → ClassId) (ad : Nat → Nat → Nat) (n : Nat) (A : Nat → Prop) (σ : St) (H : Heap) : Prop := kw D vCl ad (fdJ n σ) (fctJ cA ad n σ) H ∧ ∀ t i, fdJ n σ t i → A (ad t i)
theorem FWJ.wI {D : va_G} {cA : Nat → ClassId} {ad : Nat → Nat → Nat} {n : Nat} {A : Nat → Prop} {σ : St} {H : Heap} {c i : Nat} {j : Nat} {v : Int32} (h : kw D vCl ad (fdJ n σ) (fctJ cA ad n (wI σ c i j v)) H) (hA : ∀ t i, fdJ n σ t i → A (ad t i)) : FWJ D cA ad n A (wI σ c i j v) H := ⟨h, hA⟩
theorem FWJ.wL {D : va_G} {cA : Nat → ClassId} {ad : Nat → Nat → Nat} {n : Nat} {A : Nat → Prop} {σ : St} {H : Heap} {c i : Nat} {j : Nat} {v : Int64} (h : kw D vCl ad (fdJ n σ) (fctJ cA ad n (wL σ c i j v)) H) (hA : ∀ t i, fdJ n σ t i → A (ad t i)) : FWJ D cA ad n A (wL σ c i j v) H := ⟨h, hA⟩
theorem FWJ.wR {D : va_G} {cA : Nat → ClassId} {ad : Nat → Nat → Nat} {n : Nat} {A : Nat → Prop} {σ : St} {H : Heap} {c i : Nat} {j : Nat} {v : Option Nat} (h : kw D vCl ad (fdJ n σ) (fctJ cA ad n (wR σ c i j v)) H) (hA : ∀ t i, fdJ n σ t i → A (ad t i)) : FWJ D cA ad n A (wR σ c i j v) H := ⟨h, hA⟩
theorem FWJ.fI {D : va_G} {cA : Nat → ClassId} {ad : Nat → Nat → Nat} {n : Nat} {A : Nat → Prop} {σ : St} {H : Heap} {c i : Nat} {v : Int32} (h : kw D vCl ad (fdJ n σ) (fctJ cA ad n (fI σ c i v)) H) (hA : ∀ t i, fdJ n σ t i → A (ad t i)) : FWJ D cA ad n A (fI σ c i v) H := ⟨h, hA⟩
theorem FWJ.fL {D : va_G} {cA : Nat → ClassId} {ad : Nat → Nat → Nat} {n : Nat} {A : Nat → Prop} {σ : St} {H : Heap} {c i : Nat} {v : Int64} (h : kw D vCl ad (fdJ n σ) (fctJ cA ad n (fL σ c i v)) H) (hA : ∀ t i, fdJ n σ t i → A (ad t i)) : FWJ D cA ad n A (fL σ c i v) H := ⟨h, hA⟩
theorem fj_wL0 {cA : Nat → ClassId} {ad : Nat → Nat → Nat} {n : Nat} {σ : St} {j : Nat} {v : Int64} : ∀ t' i', fdJ n σ t' i' → fctJ cA ad n (wL σ 0 0 j v) t' i' = if t' = 0 ∧ i' = 0 then .inl (cA 0, n, .inr (.inl (vp_updL (fun j => sL σ 0 0 j) j v))) else fctJ cA ad n σ t' i' := by
  intro t' i' h
  match t', h with
  | 0, h =>
    have h : i' = 0 := h
    subst h
    rw [if_pos ⟨rfl, rfl⟩]
    first | rfl | (simp [fctJ, sI_wL, sL_wL, sR_wL, vp_updL]; done) | (simp [fctJ, sI_wL, sL_wL, sR_wL, vp_updL]; funext jj; by_cases hj : jj = j <;> simp [sI_wL, sL_wL, sR_wL, vp_updL, hj])
theorem fj_fL0 {cA : Nat → ClassId} {ad : Nat → Nat → Nat} {n : Nat} {σ : St} {v : Int64} : ∀ t' i', fdJ n σ t' i' → fctJ cA ad n (fL σ 0 0 v) t' i' = if t' = 0 ∧ i' = 0 then .inl (cA 0, n, .inr (.inl (fun _ => v))) else fctJ cA ad n σ t' i' := by
  intro t' i' h
  match t', h with
  | 0, h =>
    have h : i' = 0 := h
    subst h
    rw [if_pos ⟨rfl, rfl⟩]
    first | rfl | (simp [fctJ, sI_fL, sL_fL, sR_fL]; done) | (simp [fctJ, sI_fL, sL_fL, sR_fL]; funext jj; by_cases hj : jj = j <;> simp [sI_fL, sL_fL, sR_fL, hj])
def lp_J_fillI_5 (n : Nat) (k : St → Option (Unit × St)) : Nat → St → Int32 → Int32 → Int32 → Option (Unit × St)
  | 0, _, _, _, _ => none
  | fu + 1, σ, v1, v2, v3 =>
  if v3 ≤ v2 then
  k σ
  else
  if vin v2 n then
  (some (wI σ 0 0 (Int32.toNatClampNeg v2) v1)).bind fun σ2 =>
  lp_J_fillI_5 n k fu σ2 v1 (v2 + 1) v3
  else none
theorem lp_J_fillI_5_s (n : Nat) (k : St → Option (Unit × St)) (fu : Nat) (σ : St) (v1 : Int32) (v2 : Int32) (v3 : Int32) : lp_J_fillI_5 n k (fu + 1) σ v1 v2 v3 =
  (if v3 ≤ v2 then
  k σ
  else
  if vin v2 n then
  (some (wI σ 0 0 (Int32.toNatClampNeg v2) v1)).bind fun σ2 =>
  lp_J_fillI_5 n k fu σ2 v1 (v2 + 1) v3
  else none) := rfl

def f_J_fillI (n : Nat) (σ : St) (x2 : Int32) : Option (Unit × St) :=
  lp_J_fillI_5 n (fun σ3 =>
  some ((), σ3)) 1000 σ x2 0 (nI n)
set_option maxHeartbeats 4000000 in
set_option maxRecDepth 100000 in
theorem lp_J_fillI_5_ok {p : Program} {l : Launch} {e : Env} {s : State} {m : MethodId} {args : Array Value} {below : List Frame} {meth : Method} {c : Code} (D : va_G) (cA : Nat → ClassId) (ad : Nat → Nat → Nat) (n : Nat) (A : Nat → Prop) (hx : p.tables.exec = Jvm.exec) (hb : c.code = prog_7_method_103_code) (hml : c.maxLocals = 4) (hr : meth.sig.returnType = none) (hts : ∀ w ∈ ws_J_fillI, w.before args s = true) (hown : s.vm.findClass "java/util/Arrays" = some m.cls) (hlocks : meth.locks = false) (hK : va_K D vCl (atys cA) s) (k : St → Option (Unit × St)) (out : Unit × St) (v1 : Int32) (v3 : Int32) (hk : ∀ (σ : St)  (H : Heap) (locs : List Loc) (ls : Array Slot), lv_has ls 4 [] → FWI D cA ad n A σ H → va_S A s.heap H locs → k σ  = some out → W p l e (headSpec ws_J_fillI ({ frames := 0, cells := 0, slots := 0, locals := 0 })).room s m args below meth c H locs 0 0 (MQ below (va_Qv (fun u => ((), u) = out) (fun u t => FWI D cA ad n A u t.heap ∧ va_K D vCl (atys cA) t) A) args s 0 0 A) (F0 m 20 ls [])) : ∀ (fu : Nat) (σ : St) (v2 : Int32) (H : Heap) (locs : List Loc) (ls : Array Slot), lv_has ls 4 [(0, .ref (ad 0 0)), (1, .int v1), (2, .int v2), (3, .int v3)] → FWI D cA ad n A σ H → va_S A s.heap H locs → lp_J_fillI_5 n k fu σ v1 v2 v3 = some out → W p l e (headSpec ws_J_fillI ({ frames := 0, cells := 0, slots := 0, locals := 0 })).room s m args below meth c H locs 0 0 (MQ below (va_Qv (fun u => ((), u) = out) (fun u t => FWI D cA ad n A u t.heap ∧ va_K D vCl (atys cA) t) A) args s 0 0 A) (F0 m 5 ls []) := by
  intro fu
  induction fu with
  | zero =>
    intro σ v2 H locs ls  hl hW hS hf
    exact og_n hf
  | succ fu ih =>
    intro σ v2 H locs ls  hl hW hS hf
    rw [lp_J_fillI_5_s] at hf
    have ht : ∀ w ∈ TB, w.before args s = true := fun w h => hts w (List.mem_cons_of_mem _ h)
    refine lv_iload_n hx hb d_J_fillI_5 rfl (lv_at hl 2 rfl) ?_
    refine lv_iload_n hx hb d_J_fillI_6 rfl (lv_at hl 3 rfl) ?_
    refine lv_icmp_ge (tgt := 20) hx hb d_J_fillI_7 rfl (fun hc => ?_) (fun hc => ?_)
    · replace hf := og_t hc hf
      exact hk _  _ _ _  (lv_sub hl [] rfl) hW hS hf
    · replace hf := og_f hc hf
      refine lv_aload_n hx hb d_J_fillI_10 rfl (lv_at hl 0 rfl) ?_
      refine lv_iload_n hx hb d_J_fillI_11 rfl (lv_at hl 2 rfl) ?_
      refine lv_iload_n hx hb d_J_fillI_12 rfl (lv_at hl 1 rfl) ?_
      obtain ⟨hin1, hf⟩ := og_if hf
      obtain ⟨σ2, eσ2, hf⟩ := og_b hf
      cases eσ2
      refine k_iast  (t := 0) hx hb hK hW.1 hS rfl (hW.2 _ _ rfl) 1 rfl rfl hin1 d_J_fillI_13 fi_wI0 (fun H locs hW1 hS => ?_)
      have hW := FWI.wI hW1 hW.2
      refine lv_iinc (k := 2) (v := _ + 1) (lv' := [(2, .int _), (0, .ref _), (1, .int _), (3, .int _)]) hx hb d_J_fillI_14 hl rfl rfl (by decide) rfl (fun ls hl => ?_)
      refine lv_goto (tgt := 5) hx hb d_J_fillI_17 rfl ?_
      exact ih _ _ _ _ _  (lv_sub hl [1, 2, 0, 3] rfl) hW hS hf

set_option maxHeartbeats 4000000 in
set_option maxRecDepth 100000 in
theorem m_J_fillI (l : Launch) (D : va_G) (cA : Nat → ClassId) (ad : Nat → Nat → Nat) (n : Nat) (A : Nat → Prop) (σ : St) (x2 : Int32)  (out : Unit × St) (hf : f_J_fillI n σ x2 = some out) : Met l y_J_fillI ws_J_fillI ({ frames := 0, cells := 0, slots := 0, locals := 0 }) (va_Pc [.ref (ad 0 0), .int x2] (fun U => FWI D cA ad n A σ U.heap ∧ va_K D vCl (atys cA) U)) (va_Qv (fun u => ((), u) = out) (fun u t => FWI D cA ad n A u t.heap ∧ va_K D vCl (atys cA) t) A) 0 0 A := by
  refine Met.ofW (cc := prog_7_method_103_code) (maxL := 4) (ret := none) (by decide) rfl ?_
  intro p e s m args below meth c s₁ B hml hv
  obtain ⟨rfl, hW, hK⟩ := hv
  have hx := B.exec
  have hb := B.bytes
  have hr := B.returns
  have hts := atoms_spec (ws := ws_J_fillI) B.pre
  have ht : ∀ w ∈ TB, w.before _ s = true := fun w h => hts w (List.mem_cons_of_mem _ h)
  have hown : s.vm.findClass "java/util/Arrays" = some m.cls := findClass_of_methodNamed B.named
  have hlocks := B.notSynchronized
  have hS : va_S A s.heap s.heap [] := va_S.rf
  have hl := lv_entry ([.ref (ad 0 0), .int x2]) (n := 4) (Nat.le_of_ble_eq_true rfl)
  rw [lg_entry_eq]
  generalize (lg_sl ([.ref (ad 0 0), .int x2]) ++ List.replicate (4 - (lg_sl ([.ref (ad 0 0), .int x2])).length) Slot.unset).toArray = ls at hl ⊢
  have hl : lv_has ls 4 [(0, .ref (ad 0 0)), (1, .int x2)] := hl
  unfold f_J_fillI at hf
  refine lv_iconst (v := 0) hx hb d_J_fillI_0 (by decide) ?_
  refine lv_istore_n (lv' := [(2, .int _), (0, .ref _), (1, .int _)]) hx hb d_J_fillI_1 rfl hl (by decide) rfl (fun ls hl => ?_)
  refine lv_aload_n hx hb d_J_fillI_2 rfl (lv_at hl 1 rfl) ?_
  refine va_alen (D := D) (v := nI n) hx hb hK (hW.1.one (t := 0) rfl) 0 1 rfl rfl rfl d_J_fillI_3 ?_
  refine lv_istore_n (lv' := [(3, .int _), (2, .int _), (0, .ref _), (1, .int _)]) hx hb d_J_fillI_4 rfl hl (by decide) rfl (fun ls hl => ?_)
  refine lp_J_fillI_5_ok D cA ad n A hx hb hml hr hts hown hlocks hK _ _ _ _ (fun σ3 H locs ls  hl hW hS hf => ?_) _ _ _ _ _ _  (lv_sub hl [2, 3, 1, 0] rfl) hW hS hf
  exact W.vret hx hb hr (fun t ht hWm => ⟨⟨_, rfl, Option.some.inj hf, by rw [ht]; exact hW, va_K.moved hWm.alike hK⟩, hS.F ht⟩) hS.2.2 d_J_fillI_20

def lp_J_fillJ_6 (n : Nat) (k : St → Option (Unit × St)) : Nat → St → Int64 → Int32 → Int32 → Option (Unit × St)
  | 0, _, _, _, _ => none
  | fu + 1, σ, v1, v3, v4 =>
  if v4 ≤ v3 then
  k σ
  else
  if vin v3 n then
  (some (wL σ 0 0 (Int32.toNatClampNeg v3) v1)).bind fun σ2 =>
  lp_J_fillJ_6 n k fu σ2 v1 (v3 + 1) v4
  else none
theorem lp_J_fillJ_6_s (n : Nat) (k : St → Option (Unit × St)) (fu : Nat) (σ : St) (v1 : Int64) (v3 : Int32) (v4 : Int32) : lp_J_fillJ_6 n k (fu + 1) σ v1 v3 v4 =
  (if v4 ≤ v3 then
  k σ
  else
  if vin v3 n then
  (some (wL σ 0 0 (Int32.toNatClampNeg v3) v1)).bind fun σ2 =>
  lp_J_fillJ_6 n k fu σ2 v1 (v3 + 1) v4
  else none) := rfl

def f_J_fillJ (n : Nat) (σ : St) (x2 : Int64) : Option (Unit × St) :=
  lp_J_fillJ_6 n (fun σ3 =>
  some ((), σ3)) 1000 σ x2 0 (nI n)
set_option maxHeartbeats 4000000 in
set_option maxRecDepth 100000 in
theorem lp_J_fillJ_6_ok {p : Program} {l : Launch} {e : Env} {s : State} {m : MethodId} {args : Array Value} {below : List Frame} {meth : Method} {c : Code} (D : va_G) (cA : Nat → ClassId) (ad : Nat → Nat → Nat) (n : Nat) (A : Nat → Prop) (hx : p.tables.exec = Jvm.exec) (hb : c.code = prog_7_method_101_code) (hml : c.maxLocals = 5) (hr : meth.sig.returnType = none) (hts : ∀ w ∈ ws_J_fillJ, w.before args s = true) (hown : s.vm.findClass "java/util/Arrays" = some m.cls) (hlocks : meth.locks = false) (hK : va_K D vCl (atys cA) s) (k : St → Option (Unit × St)) (out : Unit × St) (v1 : Int64) (v4 : Int32) (hk : ∀ (σ : St)  (H : Heap) (locs : List Loc) (ls : Array Slot), lv_has ls 5 [] → FWJ D cA ad n A σ H → va_S A s.heap H locs → k σ  = some out → W p l e (headSpec ws_J_fillJ ({ frames := 0, cells := 0, slots := 0, locals := 0 })).room s m args below meth c H locs 0 0 (MQ below (va_Qv (fun u => ((), u) = out) (fun u t => FWJ D cA ad n A u t.heap ∧ va_K D vCl (atys cA) t) A) args s 0 0 A) (F0 m 22 ls [])) : ∀ (fu : Nat) (σ : St) (v3 : Int32) (H : Heap) (locs : List Loc) (ls : Array Slot), lv_has ls 5 [(0, .ref (ad 0 0)), (1, .long v1), (3, .int v3), (4, .int v4)] → FWJ D cA ad n A σ H → va_S A s.heap H locs → lp_J_fillJ_6 n k fu σ v1 v3 v4 = some out → W p l e (headSpec ws_J_fillJ ({ frames := 0, cells := 0, slots := 0, locals := 0 })).room s m args below meth c H locs 0 0 (MQ below (va_Qv (fun u => ((), u) = out) (fun u t => FWJ D cA ad n A u t.heap ∧ va_K D vCl (atys cA) t) A) args s 0 0 A) (F0 m 6 ls []) := by
  intro fu
  induction fu with
  | zero =>
    intro σ v3 H locs ls  hl hW hS hf
    exact og_n hf
  | succ fu ih =>
    intro σ v3 H locs ls  hl hW hS hf
    rw [lp_J_fillJ_6_s] at hf
    have ht : ∀ w ∈ TB, w.before args s = true := fun w h => hts w (List.mem_cons_of_mem _ h)
    refine lv_iload_n hx hb d_J_fillJ_6 rfl (lv_at hl 2 rfl) ?_
    refine lv_iload hx hb d_J_fillJ_7 (lv_at hl 3 rfl) ?_
    refine lv_icmp_ge (tgt := 22) hx hb d_J_fillJ_9 rfl (fun hc => ?_) (fun hc => ?_)
    · replace hf := og_t hc hf
      exact hk _  _ _ _  (lv_sub hl [] rfl) hW hS hf
    · replace hf := og_f hc hf
      refine lv_aload_n hx hb d_J_fillJ_12 rfl (lv_at hl 0 rfl) ?_
      refine lv_iload_n hx hb d_J_fillJ_13 rfl (lv_at hl 2 rfl) ?_
      refine lv_lload_n hx hb d_J_fillJ_14 rfl (lv_at hl 1 rfl) ?_
      obtain ⟨hin1, hf⟩ := og_if hf
      obtain ⟨σ2, eσ2, hf⟩ := og_b hf
      cases eσ2
      refine k_last  (t := 0) hx hb hK hW.1 hS rfl (hW.2 _ _ rfl) 0 rfl rfl hin1 d_J_fillJ_15 fj_wL0 (fun H locs hW1 hS => ?_)
      have hW := FWJ.wL hW1 hW.2
      refine lv_iinc (k := 2) (v := _ + 1) (lv' := [(3, .int _), (0, .ref _), (1, .long _), (4, .int _)]) hx hb d_J_fillJ_16 hl rfl rfl (by decide) rfl (fun ls hl => ?_)
      refine lv_goto (tgt := 6) hx hb d_J_fillJ_19 rfl ?_
      exact ih _ _ _ _ _  (lv_sub hl [1, 2, 0, 3] rfl) hW hS hf

set_option maxHeartbeats 4000000 in
set_option maxRecDepth 100000 in
theorem m_J_fillJ (l : Launch) (D : va_G) (cA : Nat → ClassId) (ad : Nat → Nat → Nat) (n : Nat) (A : Nat → Prop) (σ : St) (x2 : Int64)  (out : Unit × St) (hf : f_J_fillJ n σ x2 = some out) : Met l y_J_fillJ ws_J_fillJ ({ frames := 0, cells := 0, slots := 0, locals := 0 }) (va_Pc [.ref (ad 0 0), .long x2] (fun U => FWJ D cA ad n A σ U.heap ∧ va_K D vCl (atys cA) U)) (va_Qv (fun u => ((), u) = out) (fun u t => FWJ D cA ad n A u t.heap ∧ va_K D vCl (atys cA) t) A) 0 0 A := by
  refine Met.ofW (cc := prog_7_method_101_code) (maxL := 5) (ret := none) (by decide) rfl ?_
  intro p e s m args below meth c s₁ B hml hv
  obtain ⟨rfl, hW, hK⟩ := hv
  have hx := B.exec
  have hb := B.bytes
  have hr := B.returns
  have hts := atoms_spec (ws := ws_J_fillJ) B.pre
  have ht : ∀ w ∈ TB, w.before _ s = true := fun w h => hts w (List.mem_cons_of_mem _ h)
  have hown : s.vm.findClass "java/util/Arrays" = some m.cls := findClass_of_methodNamed B.named
  have hlocks := B.notSynchronized
  have hS : va_S A s.heap s.heap [] := va_S.rf
  have hl := lv_entry ([.ref (ad 0 0), .long x2]) (n := 5) (Nat.le_of_ble_eq_true rfl)
  rw [lg_entry_eq]
  generalize (lg_sl ([.ref (ad 0 0), .long x2]) ++ List.replicate (5 - (lg_sl ([.ref (ad 0 0), .long x2])).length) Slot.unset).toArray = ls at hl ⊢
  have hl : lv_has ls 5 [(0, .ref (ad 0 0)), (1, .long x2)] := hl
  unfold f_J_fillJ at hf
  refine lv_iconst (v := 0) hx hb d_J_fillJ_0 (by decide) ?_
  refine lv_istore_n (lv' := [(3, .int _), (0, .ref _), (1, .long _)]) hx hb d_J_fillJ_1 rfl hl (by decide) rfl (fun ls hl => ?_)
  refine lv_aload_n hx hb d_J_fillJ_2 rfl (lv_at hl 1 rfl) ?_
  refine va_alen (D := D) (v := nI n) hx hb hK (hW.1.one (t := 0) rfl) 0 0 rfl rfl rfl d_J_fillJ_3 ?_
  refine lv_istore (lv' := [(4, .int _), (3, .int _), (0, .ref _), (1, .long _)]) hx hb d_J_fillJ_4 hl (by decide) rfl (fun ls hl => ?_)
  refine lp_J_fillJ_6_ok D cA ad n A hx hb hml hr hts hown hlocks hK _ _ _ _ (fun σ3 H locs ls  hl hW hS hf => ?_) _ _ _ _ _ _  (lv_sub hl [2, 3, 1, 0] rfl) hW hS hf
  exact W.vret hx hb hr (fun t ht hWm => ⟨⟨_, rfl, Option.some.inj hf, by rw [ht]; exact hW, va_K.moved hWm.alike hK⟩, hS.F ht⟩) hS.2.2 d_J_fillJ_22

theorem arrV_congr {cI : ClassId} {N : Nat} {f g : Nat → Value} (h : ∀ j, j < N → f j = g j) : arrV cI N f = arrV cI N g := by
  unfold arrV
  congr 2
  funext j
  exact h j.val j.isLt
theorem fillI_lp (n : Nat) (hn : n < 1000) (x : Int32) (k : St → Option (Unit × St)) : ∀ (fu i : Nat) (σ : St), i ≤ n → n < fu + i → ∃ σ', lp_J_fillI_5 n k fu σ x (nI i) (nI n) = k σ' ∧ (∀ j, j < i → sI σ' 0 0 j = sI σ 0 0 j) ∧ ∀ j, i ≤ j → j < n → sI σ' 0 0 j = x := by
  intro fu
  induction fu with
  | zero => intro i σ h1 h2; omega
  | succ fu ih =>
    intro i σ h1 h2
    rw [lp_J_fillI_5_s]
    by_cases hi : i < n
    · rw [if_neg (nI_ge hi (by omega)), if_pos (vin_nI hi (by omega)), Option.bind_some, nI_1, nI_clamp (by omega)]
      obtain ⟨σ', h3, h4, h5⟩ := ih (i + 1) (wI σ 0 0 i x) (by omega) (by omega)
      refine ⟨σ', h3, fun j hj => ?_, fun j hj hj2 => ?_⟩
      · rw [h4 j (by omega), sI_wI, if_neg (by omega)]
      · by_cases hji : j = i
        · subst hji
          rw [h4 j (by omega), sI_wI, if_pos ⟨rfl, rfl, rfl⟩]
        · exact h5 j (by omega) hj2
    · have : i = n := by omega
      subst this
      rw [if_pos (nI_le (Nat.le_refl _) (by omega))]
      exact ⟨σ, rfl, fun _ _ => rfl, fun j h6 h7 => absurd h7 (by omega)⟩
theorem fillI_f (n : Nat) (hn : n < 1000) (x : Int32) (σ : St) : ∃ σ', f_J_fillI n σ x = some ((), σ') ∧ ∀ j, j < n → sI σ' 0 0 j = x := by
  obtain ⟨σ', h1, -, h3⟩ := fillI_lp n hn x (fun σ => some ((), σ)) 1000 0 σ (by omega) (by omega)
  exact ⟨σ', h1, fun j hj => h3 j (by omega) hj⟩
theorem fillJ_lp (n : Nat) (hn : n < 1000) (x : Int64) (k : St → Option (Unit × St)) : ∀ (fu i : Nat) (σ : St), i ≤ n → n < fu + i → ∃ σ', lp_J_fillJ_6 n k fu σ x (nI i) (nI n) = k σ' ∧ (∀ j, j < i → sL σ' 0 0 j = sL σ 0 0 j) ∧ ∀ j, i ≤ j → j < n → sL σ' 0 0 j = x := by
  intro fu
  induction fu with
  | zero => intro i σ h1 h2; omega
  | succ fu ih =>
    intro i σ h1 h2
    rw [lp_J_fillJ_6_s]
    by_cases hi : i < n
    · rw [if_neg (nI_ge hi (by omega)), if_pos (vin_nI hi (by omega)), Option.bind_some, nI_1, nI_clamp (by omega)]
      obtain ⟨σ', h3, h4, h5⟩ := ih (i + 1) (wL σ 0 0 i x) (by omega) (by omega)
      refine ⟨σ', h3, fun j hj => ?_, fun j hj hj2 => ?_⟩
      · rw [h4 j (by omega), sL_wL, if_neg (by omega)]
      · by_cases hji : j = i
        · subst hji
          rw [h4 j (by omega), sL_wL, if_pos ⟨rfl, rfl, rfl⟩]
        · exact h5 j (by omega) hj2
    · have : i = n := by omega
      subst this
      rw [if_pos (nI_le (Nat.le_refl _) (by omega))]
      exact ⟨σ, rfl, fun _ _ => rfl, fun j h6 h7 => absurd h7 (by omega)⟩
theorem fillJ_f (n : Nat) (hn : n < 1000) (x : Int64) (σ : St) : ∃ σ', f_J_fillJ n σ x = some ((), σ') ∧ ∀ j, j < n → sL σ' 0 0 j = x := by
  obtain ⟨σ', h1, -, h3⟩ := fillJ_lp n hn x (fun σ => some ((), σ)) 1000 0 σ (by omega) (by omega)
  exact ⟨σ', h1, fun j hj => h3 j (by omega) hj⟩
section KF
variable {p : Program} {l : Launch} {e : Env} {R : Room} {s : State} {m : MethodId} {args : Array Value} {below : List Frame} {meth : Method} {c : Code} {H : Heap} {locs : List Loc} {cells slots : Nat} {Q : State → Prop}
variable {cc : ByteArray} {pc nL : Nat} {ls : Array Slot} {rest : List Value} {D : va_G} {cA : Nat → ClassId} {A : Nat → Prop} {H0 : Heap} {ad : Nat → Nat → Nat} {dom : Nat → Nat → Prop} {ct ct' : Nat → Nat → va_E}
set_option maxHeartbeats 4000000 in
theorem k_fillI (hexec : p.tables.exec = Jvm.exec) (hb : c.code = cc) (hml : c.maxLocals = nL) {own : String} {index : Nat} {c0 : Cond} (hown : s.vm.findClass own = some m.cls) (hts : ∀ w ∈ (c0 :: TB), w.before args s = true) (hlk : Cond.methodLink own index y_J_fillI ∈ TB) (hK : va_K D vCl (atys cA) s) (hW : kw D vCl ad dom ct H) (hS : va_S A H0 H locs) {t i : Nat} (hd : dom t i) (hAa : A (ad t i)) {n : Nat} {f : Nat → Int32} (he : ct t i = .inl (cA 1, n, .inl f)) (hn : n < 1000) {x : Int32} (hR : 1 ≤ R.frames ∧ 23 ≤ R.locals) (hls : ls.size = nL) (hrest : (rest.map fun v => v.category).sum ≤ 8) (hroom : cells + 0 ≤ R.cells ∧ slots + 0 ≤ R.slots) (hdg : decode cc pc = .ok (.invokestatic index, 3))
    (hct : ∀ t' i', dom t' i' → ct' t' i' = if t' = t ∧ i' = i then .inl (cA 1, n, .inl (fun _ => x)) else ct t' i') (kk : ∀ (H1 : Heap) (locs1 : List Loc), kw D vCl ad dom ct' H1 → va_S A H0 H1 locs1 → W p l e R s m args below meth c H1 locs1 cells slots Q (F0 m (pc + 3) ls rest)) : W p l e R s m args below meth c H locs cells slots Q (F0 m pc ls (.int x :: .ref (ad t i) :: rest)) := by
  have hat := hW.1 t i hd
  rw [he] at hat
  obtain ⟨σ', hf, hv⟩ := fillI_f n hn x (fun _ _ j => f j, fun _ _ _ => 0, fun _ _ _ => none, 0)
  have hW0 : FWI D cA (fun _ _ => ad t i) n (fun q => q = ad t i) (fun _ _ j => f j, fun _ _ _ => 0, fun _ _ _ => none, 0) H := by
    refine ⟨⟨fun t' i' h => ?_, fun t1 i1 t2 i2 h1 h2 _ => ?_⟩, fun _ _ _ => rfl⟩
    · match t', h with
      | 0, h => exact hat
    · match t1, t2, h1, h2 with
      | 0, 0, h1, h2 => exact ⟨rfl, Eq.trans h1 (Eq.symm h2)⟩
  refine va_callv (va_runS (As := [.ref (ad t i), .int x]) (rest := rest) ⟨hexec, hb, hml, hown, hts⟩ (m_J_fillI l D cA (fun _ _ => ad t i) n (fun q => q = ad t i) _ x ((), σ') hf) (va_cwS 2 hts (tb_S hlk tw_136 tw_34 tw_137) rfl rfl rfl (by decide +kernel) ⟨hR.1, hR.2⟩) ⟨k_blind, k_pre hW0 hK⟩ rfl rfl hls rfl (lv_room hrest) hdg hroom) hS (fun q _ h => by rw [h]; exact hAa) (fun q h => by rw [h]; exact hAa) (fun u t1 H1 locs1 ht hvm hp hB hz hk hS => ?_)
  refine kk H1 locs1 (hW.put hd (e := .inl (cA 1, n, .inl (fun _ => x))) ?_ (fun q hq hne => hk q hq hne) hct) hS
  cases hp
  have h2 := hB.1.1.1 0 0 rfl
  rw [ht] at h2
  show H1[ad t i]? = some (vp_cell _ _)
  refine Eq.trans (show H1[ad t i]? = some (vp_cell (cA 1) (n, .inl (fun j => sI σ' 0 0 j))) from h2) ?_
  rw [vp_cell_i, vp_cell_i, arrV_congr (fun j hj => by rw [hv j hj])]
set_option maxHeartbeats 4000000 in
theorem k_fillJ (hexec : p.tables.exec = Jvm.exec) (hb : c.code = cc) (hml : c.maxLocals = nL) {own : String} {index : Nat} {c0 : Cond} (hown : s.vm.findClass own = some m.cls) (hts : ∀ w ∈ (c0 :: TB), w.before args s = true) (hlk : Cond.methodLink own index y_J_fillJ ∈ TB) (hK : va_K D vCl (atys cA) s) (hW : kw D vCl ad dom ct H) (hS : va_S A H0 H locs) {t i : Nat} (hd : dom t i) (hAa : A (ad t i)) {n : Nat} {f : Nat → Int64} (he : ct t i = .inl (cA 0, n, .inr (.inl f))) (hn : n < 1000) {x : Int64} (hR : 1 ≤ R.frames ∧ 24 ≤ R.locals) (hls : ls.size = nL) (hrest : (rest.map fun v => v.category).sum ≤ 8) (hroom : cells + 0 ≤ R.cells ∧ slots + 0 ≤ R.slots) (hdg : decode cc pc = .ok (.invokestatic index, 3))
    (hct : ∀ t' i', dom t' i' → ct' t' i' = if t' = t ∧ i' = i then .inl (cA 0, n, .inr (.inl (fun _ => x))) else ct t' i') (kk : ∀ (H1 : Heap) (locs1 : List Loc), kw D vCl ad dom ct' H1 → va_S A H0 H1 locs1 → W p l e R s m args below meth c H1 locs1 cells slots Q (F0 m (pc + 3) ls rest)) : W p l e R s m args below meth c H locs cells slots Q (F0 m pc ls (.long x :: .ref (ad t i) :: rest)) := by
  have hat := hW.1 t i hd
  rw [he] at hat
  obtain ⟨σ', hf, hv⟩ := fillJ_f n hn x (fun _ _ _ => 0, fun _ _ j => f j, fun _ _ _ => none, 0)
  have hW0 : FWJ D cA (fun _ _ => ad t i) n (fun q => q = ad t i) (fun _ _ _ => 0, fun _ _ j => f j, fun _ _ _ => none, 0) H := by
    refine ⟨⟨fun t' i' h => ?_, fun t1 i1 t2 i2 h1 h2 _ => ?_⟩, fun _ _ _ => rfl⟩
    · match t', h with
      | 0, h => exact hat
    · match t1, t2, h1, h2 with
      | 0, 0, h1, h2 => exact ⟨rfl, Eq.trans h1 (Eq.symm h2)⟩
  refine va_callv (va_runS (As := [.ref (ad t i), .long x]) (rest := rest) ⟨hexec, hb, hml, hown, hts⟩ (m_J_fillJ l D cA (fun _ _ => ad t i) n (fun q => q = ad t i) _ x ((), σ') hf) (va_cwS 2 hts (tb_S hlk tw_60 tw_34 tw_61) rfl rfl rfl (by decide +kernel) ⟨hR.1, hR.2⟩) ⟨k_blind, k_pre hW0 hK⟩ rfl rfl hls rfl (lv_room hrest) hdg hroom) hS (fun q _ h => by rw [h]; exact hAa) (fun q h => by rw [h]; exact hAa) (fun u t1 H1 locs1 ht hvm hp hB hz hk hS => ?_)
  refine kk H1 locs1 (hW.put hd (e := .inl (cA 0, n, .inr (.inl (fun _ => x)))) ?_ (fun q hq hne => hk q hq hne) hct) hS
  cases hp
  have h2 := hB.1.1.1 0 0 rfl
  rw [ht] at h2
  show H1[ad t i]? = some (vp_cell _ _)
  refine Eq.trans (show H1[ad t i]? = some (vp_cell (cA 0) (n, .inr (.inl (fun j => sL σ' 0 0 j)))) from h2) ?_
  rw [vp_cell_l, vp_cell_l, arrV_congr (fun j hj => by rw [hv j hj])]
end KF
end
section
def f_B_headGoesTo (n : Nat) (σ : St) (a0 : Nat) : Option (Int32 × St) :=
  if (sI σ 3 a0 0) ≤ 0 then
  some ((-1), σ)
  else
  if vin 0 6 then
  (dR σ (sR σ 1 a0 (Int32.toNatClampNeg 0))).bind fun k2 =>
  some (sI σ 6 k2 0, σ)
  else none

def lp_B_sentWith_10 (n : Nat) (k : St → Int64 → Option (Int64 × St)) : Nat → St → Nat → Int32 → Int32 → Int64 → Int32 → Option (Int64 × St)
  | 0, _, _, _, _, _, _ => none
  | fu + 1, σ, v0, v1, v2, v3, v5 =>
  if v1 ≤ v5 then
  k σ v3
  else
  if (sI σ 3 v0 0) ≤ v5 then
  k σ v3
  else
  if vin v5 6 then
  (dR σ (sR σ 1 v0 (Int32.toNatClampNeg v5))).bind fun k3 =>
  if (sI σ 6 k3 0) = v2 then
  if vin v5 6 then
  (dR σ (sR σ 1 v0 (Int32.toNatClampNeg v5))).bind fun k5 =>
  lp_B_sentWith_10 n k fu σ v0 v1 v2 (v3 + (sL σ 6 k5 0)) (v5 + 1)
  else none
  else
  lp_B_sentWith_10 n k fu σ v0 v1 v2 v3 (v5 + 1)
  else none
theorem lp_B_sentWith_10_s (n : Nat) (k : St → Int64 → Option (Int64 × St)) (fu : Nat) (σ : St) (v0 : Nat) (v1 : Int32) (v2 : Int32) (v3 : Int64) (v5 : Int32) : lp_B_sentWith_10 n k (fu + 1) σ v0 v1 v2 v3 v5 =
  (if v1 ≤ v5 then
  k σ v3
  else
  if (sI σ 3 v0 0) ≤ v5 then
  k σ v3
  else
  if vin v5 6 then
  (dR σ (sR σ 1 v0 (Int32.toNatClampNeg v5))).bind fun k3 =>
  if (sI σ 6 k3 0) = v2 then
  if vin v5 6 then
  (dR σ (sR σ 1 v0 (Int32.toNatClampNeg v5))).bind fun k5 =>
  lp_B_sentWith_10 n k fu σ v0 v1 v2 (v3 + (sL σ 6 k5 0)) (v5 + 1)
  else none
  else
  lp_B_sentWith_10 n k fu σ v0 v1 v2 v3 (v5 + 1)
  else none) := rfl

def f_B_sentWith (n : Nat) (σ : St) (a0 : Nat) (x1 : Int32) (x2 : Int32) : Option (Int64 × St) :=
  if vin x2 n then
  lp_B_sentWith_10 n (fun σ7 y3_6 =>
  some (y3_6, σ7)) 1000 σ a0 x1 x2 (sL σ 5 a0 (Int32.toNatClampNeg x2)) 0
  else none

def lp_B_remove_4 (n : Nat) (k : St → Int32 → Option (Unit × St)) : Nat → St → Nat → Nat → Int32 → Int32 → Option (Unit × St)
  | 0, _, _, _, _, _ => none
  | fu + 1, σ, v0, v1, v2, v3 =>
  if (sI σ 3 v0 0) ≤ v3 then
  k σ v2
  else
  if vin v3 6 then
  (dR σ (sR σ 1 v0 (Int32.toNatClampNeg v3))).bind fun k2 =>
  if v1 < sN σ then
  if k2 = v1 then
  lp_B_remove_4 n k fu σ v0 v1 v2 (v3 + 1)
  else
  if vin v3 6 then
  (dR σ (sR σ 1 v0 (Int32.toNatClampNeg v3))).bind fun k5 =>
  if vin v2 6 then
  (some (wR σ 1 v0 (Int32.toNatClampNeg v2) (some k5))).bind fun σ7 =>
  lp_B_remove_4 n k fu σ7 v0 v1 (v2 + 1) (v3 + 1)
  else none
  else none
  else none
  else none
theorem lp_B_remove_4_s (n : Nat) (k : St → Int32 → Option (Unit × St)) (fu : Nat) (σ : St) (v0 : Nat) (v1 : Nat) (v2 : Int32) (v3 : Int32) : lp_B_remove_4 n k (fu + 1) σ v0 v1 v2 v3 =
  (if (sI σ 3 v0 0) ≤ v3 then
  k σ v2
  else
  if vin v3 6 then
  (dR σ (sR σ 1 v0 (Int32.toNatClampNeg v3))).bind fun k2 =>
  if v1 < sN σ then
  if k2 = v1 then
  lp_B_remove_4 n k fu σ v0 v1 v2 (v3 + 1)
  else
  if vin v3 6 then
  (dR σ (sR σ 1 v0 (Int32.toNatClampNeg v3))).bind fun k5 =>
  if vin v2 6 then
  (some (wR σ 1 v0 (Int32.toNatClampNeg v2) (some k5))).bind fun σ7 =>
  lp_B_remove_4 n k fu σ7 v0 v1 (v2 + 1) (v3 + 1)
  else none
  else none
  else none
  else none) := rfl

def f_B_remove (n : Nat) (σ : St) (a0 : Nat) (x1 : Nat) : Option (Unit × St) :=
  lp_B_remove_4 n (fun σ9 y2_8 =>
  (some (wI σ9 3 a0 0 y2_8)).bind fun σ10 =>
  some ((), σ10)) 1000 σ a0 x1 0 0

def lp_B_enqueue_18 (n : Nat) (k : St → Int32 → Option (Unit × St)) : Nat → St → Nat → Nat → Int32 → Option (Unit × St)
  | 0, _, _, _, _ => none
  | fu + 1, σ, v0, v1, v2 =>
  if v2 ≤ 0 then
  k σ v2
  else
  if vin (v2 - 1) 6 then
  (dR σ (sR σ 1 v0 (Int32.toNatClampNeg (v2 - 1)))).bind fun k2 =>
  if v1 < sN σ then
  if (sI σ 8 v1 0) ≤ (sI σ 8 k2 0) then
  k σ v2
  else
  if vin (v2 - 1) 6 then
  (dR σ (sR σ 1 v0 (Int32.toNatClampNeg (v2 - 1)))).bind fun k5 =>
  if vin v2 6 then
  (some (wR σ 1 v0 (Int32.toNatClampNeg v2) (some k5))).bind fun σ7 =>
  lp_B_enqueue_18 n k fu σ7 v0 v1 (v2 + (-1))
  else none
  else none
  else none
  else none
theorem lp_B_enqueue_18_s (n : Nat) (k : St → Int32 → Option (Unit × St)) (fu : Nat) (σ : St) (v0 : Nat) (v1 : Nat) (v2 : Int32) : lp_B_enqueue_18 n k (fu + 1) σ v0 v1 v2 =
  (if v2 ≤ 0 then
  k σ v2
  else
  if vin (v2 - 1) 6 then
  (dR σ (sR σ 1 v0 (Int32.toNatClampNeg (v2 - 1)))).bind fun k2 =>
  if v1 < sN σ then
  if (sI σ 8 v1 0) ≤ (sI σ 8 k2 0) then
  k σ v2
  else
  if vin (v2 - 1) 6 then
  (dR σ (sR σ 1 v0 (Int32.toNatClampNeg (v2 - 1)))).bind fun k5 =>
  if vin v2 6 then
  (some (wR σ 1 v0 (Int32.toNatClampNeg v2) (some k5))).bind fun σ7 =>
  lp_B_enqueue_18 n k fu σ7 v0 v1 (v2 + (-1))
  else none
  else none
  else none
  else none) := rfl

def f_B_enqueue (n : Nat) (σ : St) (a0 : Nat) (x1 : Nat) : Option (Unit × St) :=
  if (sI σ 3 a0 0) < (nI 6) then
  lp_B_enqueue_18 n (fun σ9 y2_8 =>
  if x1 < sN σ9 then
  if vin y2_8 6 then
  (some (wR σ9 1 a0 (Int32.toNatClampNeg y2_8) (some x1))).bind fun σ12 =>
  (some (wI σ12 3 a0 0 ((sI σ12 3 a0 0) + 1))).bind fun σ13 =>
  some ((), σ13)
  else none
  else none) 1000 σ a0 x1 (sI σ 3 a0 0)
  else
  some ((), σ)

def f_X_isBank (n : Nat) (σ : St) (x1 : Int32) : Option (Int32 × St) :=
  if x1 < 0 then
  some (0, σ)
  else
  if (nI n) ≤ x1 then
  some (0, σ)
  else
  some (1, σ)

def f_X_areTwoBanks (n : Nat) (σ : St) (x1 : Int32) (x2 : Int32) : Option (Int32 × St) :=
  (f_X_isBank n σ x1).bind fun o1 =>
  if o1.1 = 0 then
  some (0, o1.2)
  else
  (f_X_isBank n o1.2 x2).bind fun o2 =>
  if o2.1 = 0 then
  some (0, o2.2)
  else
  if x1 = x2 then
  some (0, o2.2)
  else
  some (1, o2.2)

def f_X_isPayment (n : Nat) (σ : St) (x1 : Int32) : Option (Int32 × St) :=
  if x1 < 0 then
  some (0, σ)
  else
  if (sI σ 0 0 0) ≤ x1 then
  some (0, σ)
  else
  some (1, σ)

def f_X_isQueued (n : Nat) (σ : St) (x1 : Int32) : Option (Int32 × St) :=
  (f_X_isPayment n σ x1).bind fun o1 =>
  if o1.1 = 0 then
  some (0, o1.2)
  else
  if vin x1 100 then
  (dR o1.2 (sR o1.2 0 0 (Int32.toNatClampNeg x1))).bind fun k3 =>
  if (sI o1.2 9 k3 0) = 0 then
  some (1, o1.2)
  else
  some (0, o1.2)
  else none

def f_X_isPriority (n : Nat) (σ : St) (x1 : Int32) : Option (Int32 × St) :=
  if x1 < 0 then
  some (0, σ)
  else
  if 3 < x1 then
  some (0, σ)
  else
  some (1, σ)

def f_X_isLimit (n : Nat) (σ : St) (x1 : Int64) : Option (Int32 × St) :=
  if x1 = (-1) then
  some (1, σ)
  else
  if x1 < 0 then
  some (0, σ)
  else
  if 1000000000000000 < x1 then
  some (0, σ)
  else
  some (1, σ)

def f_X_exceeds (n : Nat) (σ : St) (x1 : Int64) (x2 : Int64) : Option (Int32 × St) :=
  if x2 = (-1) then
  some (0, σ)
  else
  if x1 ≤ x2 then
  some (0, σ)
  else
  some (1, σ)

def f_X_positionOf (n : Nat) (σ : St) (x1 : Int32) (x2 : Int32) : Option (Int64 × St) :=
  if vin x1 n then
  if vin x2 n then
  if vin x2 n then
  if vin x1 n then
  some ((sL σ 5 (Int32.toNatClampNeg x1) (Int32.toNatClampNeg x2)) - (sL σ 5 (Int32.toNatClampNeg x2) (Int32.toNatClampNeg x1)), σ)
  else none
  else none
  else none
  else none

def lp_X_totalPositionOf_5 (n : Nat) (k : St → Int64 → Option (Int64 × St)) : Nat → St → Int32 → Int64 → Int32 → Option (Int64 × St)
  | 0, _, _, _, _ => none
  | fu + 1, σ, v1, v2, v4 =>
  if (nI n) ≤ v4 then
  k σ v2
  else
  (f_X_positionOf n σ v1 v4).bind fun o1 =>
  lp_X_totalPositionOf_5 n k fu o1.2 v1 (v2 + o1.1) (v4 + 1)
theorem lp_X_totalPositionOf_5_s (n : Nat) (k : St → Int64 → Option (Int64 × St)) (fu : Nat) (σ : St) (v1 : Int32) (v2 : Int64) (v4 : Int32) : lp_X_totalPositionOf_5 n k (fu + 1) σ v1 v2 v4 =
  (if (nI n) ≤ v4 then
  k σ v2
  else
  (f_X_positionOf n σ v1 v4).bind fun o1 =>
  lp_X_totalPositionOf_5 n k fu o1.2 v1 (v2 + o1.1) (v4 + 1)) := rfl

def f_X_totalPositionOf (n : Nat) (σ : St) (x1 : Int32) : Option (Int64 × St) :=
  lp_X_totalPositionOf_5 n (fun σ3 y2_2 =>
  some (y2_2, σ3)) 1000 σ x1 0 0

def f_X_end (n : Nat) (σ : St) (x1 : Nat) (x2 : Int32) : Option (Unit × St) :=
  if x1 < sN σ then
  if vin (sI σ 5 x1 0) n then
  (f_B_remove n σ (Int32.toNatClampNeg (sI σ 5 x1 0)) x1).bind fun o3 =>
  if x1 < sN o3.2 then
  (some (wI o3.2 9 x1 0 x2)).bind fun σ5 =>
  some ((), σ5)
  else none
  else none
  else none

def f_X_settle (n : Nat) (σ : St) (x1 : Nat) (x2 : Int32) : Option (Unit × St) :=
  (f_X_end n σ x1 x2).bind fun o1 =>
  if x1 < sN o1.2 then
  if vin (sI o1.2 5 x1 0) n then
  if x1 < sN o1.2 then
  (some (wL o1.2 1 (Int32.toNatClampNeg (sI o1.2 5 x1 0)) 0 ((sL o1.2 1 (Int32.toNatClampNeg (sI o1.2 5 x1 0)) 0) - (sL o1.2 6 x1 0)))).bind fun σ5 =>
  if x1 < sN σ5 then
  if vin (sI σ5 6 x1 0) n then
  if x1 < sN σ5 then
  if vin (sI σ5 6 x1 0) n then
  (some (wL σ5 5 (Int32.toNatClampNeg (sI o1.2 5 x1 0)) (Int32.toNatClampNeg (sI σ5 6 x1 0)) ((sL σ5 5 (Int32.toNatClampNeg (sI o1.2 5 x1 0)) (Int32.toNatClampNeg (sI σ5 6 x1 0))) + (sL σ5 6 x1 0)))).bind fun σ10 =>
  if x1 < sN σ10 then
  if vin (sI σ10 6 x1 0) n then
  if x1 < sN σ10 then
  (some (wL σ10 1 (Int32.toNatClampNeg (sI σ10 6 x1 0)) 0 ((sL σ10 1 (Int32.toNatClampNeg (sI σ10 6 x1 0)) 0) + (sL σ10 6 x1 0)))).bind fun σ14 =>
  if x1 < sN σ14 then
  (some (wL σ14 0 0 0 ((sL σ14 0 0 0) + (sL σ14 6 x1 0)))).bind fun σ16 =>
  some ((), σ16)
  else none
  else none
  else none
  else none
  else none
  else none
  else none
  else none
  else none
  else none
  else none

def lp_X_settleChosen_16 (n : Nat) (k : St → Int32 → Option (Int32 × St)) : Nat → St → Int32 → Int32 → Int32 → Int32 → Option (Int32 × St)
  | 0, _, _, _, _, _ => none
  | fu + 1, σ, v1, v2, v3, v4 =>
  if vin v3 n then
  if (sI σ 2 0 (Int32.toNatClampNeg v3)) ≤ v4 then
  k σ v2
  else
  if vin v3 n then
  if (sI σ 3 (Int32.toNatClampNeg v3) 0) ≤ 0 then
  k σ v2
  else
  if vin v3 n then
  if vin 0 6 then
  (dR σ (sR σ 1 (Int32.toNatClampNeg v3) (Int32.toNatClampNeg 0))).bind fun k5 =>
  (f_X_settle n σ k5 v1).bind fun o6 =>
  lp_X_settleChosen_16 n k fu o6.2 v1 (v2 + 1) v3 (v4 + 1)
  else none
  else none
  else none
  else none
theorem lp_X_settleChosen_16_s (n : Nat) (k : St → Int32 → Option (Int32 × St)) (fu : Nat) (σ : St) (v1 : Int32) (v2 : Int32) (v3 : Int32) (v4 : Int32) : lp_X_settleChosen_16 n k (fu + 1) σ v1 v2 v3 v4 =
  (if vin v3 n then
  if (sI σ 2 0 (Int32.toNatClampNeg v3)) ≤ v4 then
  k σ v2
  else
  if vin v3 n then
  if (sI σ 3 (Int32.toNatClampNeg v3) 0) ≤ 0 then
  k σ v2
  else
  if vin v3 n then
  if vin 0 6 then
  (dR σ (sR σ 1 (Int32.toNatClampNeg v3) (Int32.toNatClampNeg 0))).bind fun k5 =>
  (f_X_settle n σ k5 v1).bind fun o6 =>
  lp_X_settleChosen_16 n k fu o6.2 v1 (v2 + 1) v3 (v4 + 1)
  else none
  else none
  else none
  else none) := rfl

def lp_X_settleChosen_4 (n : Nat) (k : St → Int32 → Option (Int32 × St)) : Nat → St → Int32 → Int32 → Int32 → Option (Int32 × St)
  | 0, _, _, _, _ => none
  | fu + 1, σ, v1, v2, v3 =>
  if (nI n) ≤ v3 then
  k σ v2
  else
  lp_X_settleChosen_16 n (fun σ8 y2_7 =>
  lp_X_settleChosen_4 n k fu σ8 v1 y2_7 (v3 + 1)) 1000 σ v1 v2 v3 0
theorem lp_X_settleChosen_4_s (n : Nat) (k : St → Int32 → Option (Int32 × St)) (fu : Nat) (σ : St) (v1 : Int32) (v2 : Int32) (v3 : Int32) : lp_X_settleChosen_4 n k (fu + 1) σ v1 v2 v3 =
  (if (nI n) ≤ v3 then
  k σ v2
  else
  lp_X_settleChosen_16 n (fun σ8 y2_7 =>
  lp_X_settleChosen_4 n k fu σ8 v1 y2_7 (v3 + 1)) 1000 σ v1 v2 v3 0) := rfl

def f_X_settleChosen (n : Nat) (σ : St) (x1 : Int32) : Option (Int32 × St) :=
  lp_X_settleChosen_4 n (fun σ10 y2_9 =>
  some (y2_9, σ10)) 1000 σ x1 0 0

def lp_X_wouldBeWell_15 (n : Nat) (k : St → Int64 → Int64 → Option (Int32 × St)) : Nat → St → Int32 → Nat → Int64 → Int64 → Int32 → Option (Int32 × St)
  | 0, _, _, _, _, _, _ => none
  | fu + 1, σ, v1, v2, v3, v5, v7 =>
  if (nI n) ≤ v7 then
  k σ v3 v5
  else
  if vin v1 n then
  (f_B_sentWith n σ v2 (sI σ 2 0 (Int32.toNatClampNeg v1)) v7).bind fun o3 =>
  if vin v7 n then
  if vin v7 n then
  (f_B_sentWith n o3.2 (Int32.toNatClampNeg v7) (sI o3.2 2 0 (Int32.toNatClampNeg v7)) v1).bind fun o6 =>
  if vin v7 n then
  (f_X_exceeds n o6.2 (o3.1 - o6.1) (sL o6.2 4 v2 (Int32.toNatClampNeg v7))).bind fun o8 =>
  if o8.1 = 0 then
  (f_X_positionOf n o8.2 v1 v7).bind fun o9 =>
  lp_X_wouldBeWell_15 n k fu o9.2 v1 v2 (v3 + (o3.1 - o6.1)) (v5 + ((o3.1 - o6.1) - o9.1)) (v7 + 1)
  else
  some (0, o8.2)
  else none
  else none
  else none
  else none
theorem lp_X_wouldBeWell_15_s (n : Nat) (k : St → Int64 → Int64 → Option (Int32 × St)) (fu : Nat) (σ : St) (v1 : Int32) (v2 : Nat) (v3 : Int64) (v5 : Int64) (v7 : Int32) : lp_X_wouldBeWell_15 n k (fu + 1) σ v1 v2 v3 v5 v7 =
  (if (nI n) ≤ v7 then
  k σ v3 v5
  else
  if vin v1 n then
  (f_B_sentWith n σ v2 (sI σ 2 0 (Int32.toNatClampNeg v1)) v7).bind fun o3 =>
  if vin v7 n then
  if vin v7 n then
  (f_B_sentWith n o3.2 (Int32.toNatClampNeg v7) (sI o3.2 2 0 (Int32.toNatClampNeg v7)) v1).bind fun o6 =>
  if vin v7 n then
  (f_X_exceeds n o6.2 (o3.1 - o6.1) (sL o6.2 4 v2 (Int32.toNatClampNeg v7))).bind fun o8 =>
  if o8.1 = 0 then
  (f_X_positionOf n o8.2 v1 v7).bind fun o9 =>
  lp_X_wouldBeWell_15 n k fu o9.2 v1 v2 (v3 + (o3.1 - o6.1)) (v5 + ((o3.1 - o6.1) - o9.1)) (v7 + 1)
  else
  some (0, o8.2)
  else none
  else none
  else none
  else none) := rfl

def f_X_wouldBeWell (n : Nat) (σ : St) (x1 : Int32) : Option (Int32 × St) :=
  if vin x1 n then
  lp_X_wouldBeWell_15 n (fun σ12 y3_10 y5_11 =>
  if ((sL σ12 1 (Int32.toNatClampNeg x1) 0) - y5_11) < (-(sL σ12 2 (Int32.toNatClampNeg x1) 0)) then
  some (0, σ12)
  else
  (f_X_exceeds n σ12 y3_10 (sL σ12 3 (Int32.toNatClampNeg x1) 0)).bind fun o13 =>
  if o13.1 = 0 then
  some (1, o13.2)
  else
  some (0, o13.2)) 1000 σ x1 (Int32.toNatClampNeg x1) 0 0 0
  else none

def lp_X_firstUnwellBank_2 (n : Nat) (k : St → Option (Int32 × St)) : Nat → St → Int32 → Option (Int32 × St)
  | 0, _, _ => none
  | fu + 1, σ, v1 =>
  if (nI n) ≤ v1 then
  k σ
  else
  (f_X_wouldBeWell n σ v1).bind fun o1 =>
  if o1.1 = 0 then
  some (v1, o1.2)
  else
  lp_X_firstUnwellBank_2 n k fu o1.2 (v1 + 1)
theorem lp_X_firstUnwellBank_2_s (n : Nat) (k : St → Option (Int32 × St)) (fu : Nat) (σ : St) (v1 : Int32) : lp_X_firstUnwellBank_2 n k (fu + 1) σ v1 =
  (if (nI n) ≤ v1 then
  k σ
  else
  (f_X_wouldBeWell n σ v1).bind fun o1 =>
  if o1.1 = 0 then
  some (v1, o1.2)
  else
  lp_X_firstUnwellBank_2 n k fu o1.2 (v1 + 1)) := rfl

def f_X_firstUnwellBank (n : Nat) (σ : St)  : Option (Int32 × St) :=
  lp_X_firstUnwellBank_2 n (fun σ2 =>
  some ((-1), σ2)) 1000 σ 0

def f_X_chooseHeads (n : Nat) (σ : St) (x1 : Int32) (x2 : Int32) : Option (Int32 × St) :=
  if n < 1000 then
  (some (fI σ 2 0 0)).bind fun σ2 =>
  if vin x1 n then
  (some (wI σ2 2 0 (Int32.toNatClampNeg x1) 1)).bind fun σ4 =>
  if vin x2 n then
  (some (wI σ4 2 0 (Int32.toNatClampNeg x2) 1)).bind fun σ6 =>
  (f_X_firstUnwellBank n σ6).bind fun o7 =>
  if o7.1 = (-1) then
  some (1, o7.2)
  else
  some (0, o7.2)
  else none
  else none
  else none

def lp_X_chooseReadyHead_2 (n : Nat) (k : St → Option (Int32 × St)) : Nat → St → Int32 → Option (Int32 × St)
  | 0, _, _ => none
  | fu + 1, σ, v1 =>
  if (nI n) ≤ v1 then
  k σ
  else
  if vin v1 n then
  if (sI σ 3 (Int32.toNatClampNeg v1) 0) ≤ 0 then
  lp_X_chooseReadyHead_2 n k fu σ (v1 + 1)
  else
  (f_X_chooseHeads n σ v1 v1).bind fun o2 =>
  if o2.1 = 0 then
  lp_X_chooseReadyHead_2 n k fu o2.2 (v1 + 1)
  else
  some (1, o2.2)
  else none
theorem lp_X_chooseReadyHead_2_s (n : Nat) (k : St → Option (Int32 × St)) (fu : Nat) (σ : St) (v1 : Int32) : lp_X_chooseReadyHead_2 n k (fu + 1) σ v1 =
  (if (nI n) ≤ v1 then
  k σ
  else
  if vin v1 n then
  if (sI σ 3 (Int32.toNatClampNeg v1) 0) ≤ 0 then
  lp_X_chooseReadyHead_2 n k fu σ (v1 + 1)
  else
  (f_X_chooseHeads n σ v1 v1).bind fun o2 =>
  if o2.1 = 0 then
  lp_X_chooseReadyHead_2 n k fu o2.2 (v1 + 1)
  else
  some (1, o2.2)
  else none) := rfl

def f_X_chooseReadyHead (n : Nat) (σ : St)  : Option (Int32 × St) :=
  lp_X_chooseReadyHead_2 n (fun σ3 =>
  some (0, σ3)) 1000 σ 0

def lp_X_chooseReadyPair_2 (n : Nat) (k : St → Option (Int32 × St)) : Nat → St → Int32 → Option (Int32 × St)
  | 0, _, _ => none
  | fu + 1, σ, v1 =>
  if (nI n) ≤ v1 then
  k σ
  else
  if vin v1 n then
  (f_B_headGoesTo n σ (Int32.toNatClampNeg v1)).bind fun o2 =>
  if o2.1 ≤ v1 then
  lp_X_chooseReadyPair_2 n k fu o2.2 (v1 + 1)
  else
  if vin o2.1 n then
  (f_B_headGoesTo n o2.2 (Int32.toNatClampNeg o2.1)).bind fun o4 =>
  if o4.1 = v1 then
  (f_X_chooseHeads n o4.2 v1 o2.1).bind fun o5 =>
  if o5.1 = 0 then
  lp_X_chooseReadyPair_2 n k fu o5.2 (v1 + 1)
  else
  some (1, o5.2)
  else
  lp_X_chooseReadyPair_2 n k fu o4.2 (v1 + 1)
  else none
  else none
theorem lp_X_chooseReadyPair_2_s (n : Nat) (k : St → Option (Int32 × St)) (fu : Nat) (σ : St) (v1 : Int32) : lp_X_chooseReadyPair_2 n k (fu + 1) σ v1 =
  (if (nI n) ≤ v1 then
  k σ
  else
  if vin v1 n then
  (f_B_headGoesTo n σ (Int32.toNatClampNeg v1)).bind fun o2 =>
  if o2.1 ≤ v1 then
  lp_X_chooseReadyPair_2 n k fu o2.2 (v1 + 1)
  else
  if vin o2.1 n then
  (f_B_headGoesTo n o2.2 (Int32.toNatClampNeg o2.1)).bind fun o4 =>
  if o4.1 = v1 then
  (f_X_chooseHeads n o4.2 v1 o2.1).bind fun o5 =>
  if o5.1 = 0 then
  lp_X_chooseReadyPair_2 n k fu o5.2 (v1 + 1)
  else
  some (1, o5.2)
  else
  lp_X_chooseReadyPair_2 n k fu o4.2 (v1 + 1)
  else none
  else none) := rfl

def f_X_chooseReadyPair (n : Nat) (σ : St)  : Option (Int32 × St) :=
  lp_X_chooseReadyPair_2 n (fun σ6 =>
  some (0, σ6)) 1000 σ 0

def lp_X_sweep_2 (n : Nat) (k : St → Option (Unit × St)) : Nat → St → Int32 → Option (Unit × St)
  | 0, _, _ => none
  | fu + 1, σ, v1 =>
  if 24 ≤ v1 then
  k σ
  else
  (f_X_chooseReadyHead n σ).bind fun o1 =>
  if o1.1 = 0 then
  (f_X_chooseReadyPair n o1.2).bind fun o2 =>
  if o2.1 = 0 then
  some ((), o2.2)
  else
  (f_X_settleChosen n o2.2 2).bind fun o3 =>
  lp_X_sweep_2 n k fu o3.2 (v1 + 1)
  else
  (f_X_settleChosen n o1.2 1).bind fun o4 =>
  lp_X_sweep_2 n k fu o4.2 (v1 + 1)
theorem lp_X_sweep_2_s (n : Nat) (k : St → Option (Unit × St)) (fu : Nat) (σ : St) (v1 : Int32) : lp_X_sweep_2 n k (fu + 1) σ v1 =
  (if 24 ≤ v1 then
  k σ
  else
  (f_X_chooseReadyHead n σ).bind fun o1 =>
  if o1.1 = 0 then
  (f_X_chooseReadyPair n o1.2).bind fun o2 =>
  if o2.1 = 0 then
  some ((), o2.2)
  else
  (f_X_settleChosen n o2.2 2).bind fun o3 =>
  lp_X_sweep_2 n k fu o3.2 (v1 + 1)
  else
  (f_X_settleChosen n o1.2 1).bind fun o4 =>
  lp_X_sweep_2 n k fu o4.2 (v1 + 1)) := rfl

def f_X_sweep (n : Nat) (σ : St)  : Option (Unit × St) :=
  lp_X_sweep_2 n (fun σ5 =>
  some ((), σ5)) 1000 σ 0

def lp_X_chooseGreatest_2 (n : Nat) (k : St → Option (Unit × St)) : Nat → St → Int32 → Option (Unit × St)
  | 0, _, _ => none
  | fu + 1, σ, v1 =>
  if (nI n) ≤ v1 then
  k σ
  else
  if vin v1 n then
  if vin v1 n then
  (some (wI σ 2 0 (Int32.toNatClampNeg v1) (sI σ 3 (Int32.toNatClampNeg v1) 0))).bind fun σ3 =>
  lp_X_chooseGreatest_2 n k fu σ3 (v1 + 1)
  else none
  else none
theorem lp_X_chooseGreatest_2_s (n : Nat) (k : St → Option (Unit × St)) (fu : Nat) (σ : St) (v1 : Int32) : lp_X_chooseGreatest_2 n k (fu + 1) σ v1 =
  (if (nI n) ≤ v1 then
  k σ
  else
  if vin v1 n then
  if vin v1 n then
  (some (wI σ 2 0 (Int32.toNatClampNeg v1) (sI σ 3 (Int32.toNatClampNeg v1) 0))).bind fun σ3 =>
  lp_X_chooseGreatest_2 n k fu σ3 (v1 + 1)
  else none
  else none) := rfl

def lp_X_chooseGreatest_34 (n : Nat) (k : St → Option (Unit × St)) : Nat → St → Int32 → Option (Unit × St)
  | 0, _, _ => none
  | fu + 1, σ, v1 =>
  if 24 ≤ v1 then
  k σ
  else
  (f_X_firstUnwellBank n σ).bind fun o5 =>
  if o5.1 = (-1) then
  some ((), o5.2)
  else
  if vin o5.1 n then
  if vin o5.1 n then
  (some (wI o5.2 2 0 (Int32.toNatClampNeg o5.1) ((sI o5.2 2 0 (Int32.toNatClampNeg o5.1)) - 1))).bind fun σ8 =>
  lp_X_chooseGreatest_34 n k fu σ8 (v1 + 1)
  else none
  else none
theorem lp_X_chooseGreatest_34_s (n : Nat) (k : St → Option (Unit × St)) (fu : Nat) (σ : St) (v1 : Int32) : lp_X_chooseGreatest_34 n k (fu + 1) σ v1 =
  (if 24 ≤ v1 then
  k σ
  else
  (f_X_firstUnwellBank n σ).bind fun o5 =>
  if o5.1 = (-1) then
  some ((), o5.2)
  else
  if vin o5.1 n then
  if vin o5.1 n then
  (some (wI o5.2 2 0 (Int32.toNatClampNeg o5.1) ((sI o5.2 2 0 (Int32.toNatClampNeg o5.1)) - 1))).bind fun σ8 =>
  lp_X_chooseGreatest_34 n k fu σ8 (v1 + 1)
  else none
  else none) := rfl

def f_X_chooseGreatest (n : Nat) (σ : St)  : Option (Unit × St) :=
  lp_X_chooseGreatest_2 n (fun σ4 =>
  lp_X_chooseGreatest_34 n (fun σ9 =>
  some ((), σ9)) 1000 σ4 0) 1000 σ 0

def f_X_fund (n : Nat) (σ : St) (x1 : Int32) (x2 : Int64) : Option (Int32 × St) :=
  (f_X_isBank n σ x1).bind fun o1 =>
  if o1.1 = 0 then
  some (0, o1.2)
  else
  if x2 < (-1000000000000) then
  some (0, o1.2)
  else
  if x2 ≤ 1000000000000 then
  if vin x1 n then
  if (-(sL o1.2 2 (Int32.toNatClampNeg x1) 0)) ≤ ((sL o1.2 1 (Int32.toNatClampNeg x1) 0) + x2) then
  (some (wL o1.2 1 (Int32.toNatClampNeg x1) 0 ((sL o1.2 1 (Int32.toNatClampNeg x1) 0) + x2))).bind fun σ3 =>
  (f_X_sweep n σ3).bind fun o4 =>
  some (1, o4.2)
  else
  some (0, o1.2)
  else none
  else
  some (0, o1.2)

def f_X_credit (n : Nat) (σ : St) (x1 : Int32) (x2 : Int64) : Option (Int32 × St) :=
  (f_X_isBank n σ x1).bind fun o1 =>
  if o1.1 = 0 then
  some (0, o1.2)
  else
  if x2 < 0 then
  some (0, o1.2)
  else
  if 1000000000000000 < x2 then
  some (0, o1.2)
  else
  if vin x1 n then
  if (-x2) ≤ (sL o1.2 1 (Int32.toNatClampNeg x1) 0) then
  if vin x1 n then
  (some (wL o1.2 2 (Int32.toNatClampNeg x1) 0 x2)).bind fun σ4 =>
  (f_X_sweep n σ4).bind fun o5 =>
  some (1, o5.2)
  else none
  else
  some (0, o1.2)
  else none

def f_X_limit (n : Nat) (σ : St) (x1 : Int32) (x2 : Int32) (x3 : Int64) : Option (Int32 × St) :=
  (f_X_areTwoBanks n σ x1 x2).bind fun o1 =>
  if o1.1 = 0 then
  some (0, o1.2)
  else
  (f_X_isLimit n o1.2 x3).bind fun o2 =>
  if o2.1 = 0 then
  some (0, o2.2)
  else
  (f_X_positionOf n o2.2 x1 x2).bind fun o3 =>
  (f_X_exceeds n o3.2 o3.1 x3).bind fun o4 =>
  if o4.1 = 0 then
  if vin x1 n then
  if vin x2 n then
  (some (wL o4.2 4 (Int32.toNatClampNeg x1) (Int32.toNatClampNeg x2) x3)).bind fun σ7 =>
  (f_X_sweep n σ7).bind fun o8 =>
  some (1, o8.2)
  else none
  else none
  else
  some (0, o4.2)

def f_X_totalLimit (n : Nat) (σ : St) (x1 : Int32) (x2 : Int64) : Option (Int32 × St) :=
  (f_X_isBank n σ x1).bind fun o1 =>
  if o1.1 = 0 then
  some (0, o1.2)
  else
  (f_X_isLimit n o1.2 x2).bind fun o2 =>
  if o2.1 = 0 then
  some (0, o2.2)
  else
  (f_X_totalPositionOf n o2.2 x1).bind fun o3 =>
  (f_X_exceeds n o3.2 o3.1 x2).bind fun o4 =>
  if o4.1 = 0 then
  if vin x1 n then
  (some (wL o4.2 3 (Int32.toNatClampNeg x1) 0 x2)).bind fun σ6 =>
  (f_X_sweep n σ6).bind fun o7 =>
  some (1, o7.2)
  else none
  else
  some (0, o4.2)

def f_X_cancel (n : Nat) (σ : St) (x1 : Int32) : Option (Int32 × St) :=
  (f_X_isQueued n σ x1).bind fun o1 =>
  if o1.1 = 0 then
  some (0, o1.2)
  else
  if vin x1 100 then
  (dR o1.2 (sR o1.2 0 0 (Int32.toNatClampNeg x1))).bind fun k3 =>
  (f_X_end n o1.2 k3 4).bind fun o4 =>
  (f_X_sweep n o4.2).bind fun o5 =>
  some (1, o5.2)
  else none

def f_X_urge (n : Nat) (σ : St) (x1 : Int32) (x2 : Int32) : Option (Int32 × St) :=
  (f_X_isQueued n σ x1).bind fun o1 =>
  if o1.1 = 0 then
  some (0, o1.2)
  else
  (f_X_isPriority n o1.2 x2).bind fun o2 =>
  if o2.1 = 0 then
  some (0, o2.2)
  else
  if vin x1 100 then
  (dR o2.2 (sR o2.2 0 0 (Int32.toNatClampNeg x1))).bind fun k4 =>
  if vin (sI o2.2 5 k4 0) n then
  (f_B_remove n o2.2 (Int32.toNatClampNeg (sI o2.2 5 k4 0)) k4).bind fun o6 =>
  if k4 < sN o6.2 then
  (some (wI o6.2 8 k4 0 x2)).bind fun σ8 =>
  (f_B_enqueue n σ8 (Int32.toNatClampNeg (sI o2.2 5 k4 0)) k4).bind fun o9 =>
  (f_X_sweep n o9.2).bind fun o10 =>
  some (1, o10.2)
  else none
  else none
  else none

def f_X_resolve (n : Nat) (σ : St)  : Option (Int32 × St) :=
  (f_X_chooseGreatest n σ).bind fun o1 =>
  (f_X_settleChosen n o1.2 3).bind fun o2 =>
  (f_X_sweep n o2.2).bind fun o3 =>
  some (o2.1, o3.2)

def lp_X_tick_28 (n : Nat) (k : St → Int32 → Option (Int32 × St)) : Nat → St → Int32 → Int32 → Option (Int32 × St)
  | 0, _, _, _ => none
  | fu + 1, σ, v2, v3 =>
  if (sI σ 0 0 0) ≤ v3 then
  k σ v2
  else
  (f_X_isQueued n σ v3).bind fun o2 =>
  if o2.1 = 0 then
  lp_X_tick_28 n k fu o2.2 v2 (v3 + 1)
  else
  if vin v3 100 then
  (dR o2.2 (sR o2.2 0 0 (Int32.toNatClampNeg v3))).bind fun k4 =>
  if (sI o2.2 1 0 0) ≤ (sI o2.2 7 k4 0) then
  lp_X_tick_28 n k fu o2.2 v2 (v3 + 1)
  else
  if vin v3 100 then
  (dR o2.2 (sR o2.2 0 0 (Int32.toNatClampNeg v3))).bind fun k6 =>
  (f_X_end n o2.2 k6 5).bind fun o7 =>
  lp_X_tick_28 n k fu o7.2 (v2 + 1) (v3 + 1)
  else none
  else none
theorem lp_X_tick_28_s (n : Nat) (k : St → Int32 → Option (Int32 × St)) (fu : Nat) (σ : St) (v2 : Int32) (v3 : Int32) : lp_X_tick_28 n k (fu + 1) σ v2 v3 =
  (if (sI σ 0 0 0) ≤ v3 then
  k σ v2
  else
  (f_X_isQueued n σ v3).bind fun o2 =>
  if o2.1 = 0 then
  lp_X_tick_28 n k fu o2.2 v2 (v3 + 1)
  else
  if vin v3 100 then
  (dR o2.2 (sR o2.2 0 0 (Int32.toNatClampNeg v3))).bind fun k4 =>
  if (sI o2.2 1 0 0) ≤ (sI o2.2 7 k4 0) then
  lp_X_tick_28 n k fu o2.2 v2 (v3 + 1)
  else
  if vin v3 100 then
  (dR o2.2 (sR o2.2 0 0 (Int32.toNatClampNeg v3))).bind fun k6 =>
  (f_X_end n o2.2 k6 5).bind fun o7 =>
  lp_X_tick_28 n k fu o7.2 (v2 + 1) (v3 + 1)
  else none
  else none) := rfl

def f_X_tick (n : Nat) (σ : St) (x1 : Int32) : Option (Int32 × St) :=
  if x1 < 1 then
  some ((-1), σ)
  else
  if x1 ≤ 1000 then
  (some (wI σ 1 0 0 ((sI σ 1 0 0) + x1))).bind fun σ1 =>
  lp_X_tick_28 n (fun σ9 y2_8 =>
  (f_X_sweep n σ9).bind fun o10 =>
  some (y2_8, o10.2)) 1000 σ1 0 0
  else
  some ((-1), σ)

def lp_X_close_4 (n : Nat) (k : St → Int32 → Option (Int32 × St)) : Nat → St → Int32 → Int32 → Option (Int32 × St)
  | 0, _, _, _ => none
  | fu + 1, σ, v1, v2 =>
  if (sI σ 0 0 0) ≤ v2 then
  k σ v1
  else
  (f_X_isQueued n σ v2).bind fun o1 =>
  if o1.1 = 0 then
  lp_X_close_4 n k fu o1.2 v1 (v2 + 1)
  else
  if vin v2 100 then
  (dR o1.2 (sR o1.2 0 0 (Int32.toNatClampNeg v2))).bind fun k3 =>
  (f_X_end n o1.2 k3 6).bind fun o4 =>
  lp_X_close_4 n k fu o4.2 (v1 + 1) (v2 + 1)
  else none
theorem lp_X_close_4_s (n : Nat) (k : St → Int32 → Option (Int32 × St)) (fu : Nat) (σ : St) (v1 : Int32) (v2 : Int32) : lp_X_close_4 n k (fu + 1) σ v1 v2 =
  (if (sI σ 0 0 0) ≤ v2 then
  k σ v1
  else
  (f_X_isQueued n σ v2).bind fun o1 =>
  if o1.1 = 0 then
  lp_X_close_4 n k fu o1.2 v1 (v2 + 1)
  else
  if vin v2 100 then
  (dR o1.2 (sR o1.2 0 0 (Int32.toNatClampNeg v2))).bind fun k3 =>
  (f_X_end n o1.2 k3 6).bind fun o4 =>
  lp_X_close_4 n k fu o4.2 (v1 + 1) (v2 + 1)
  else none) := rfl

def lp_X_close_52 (n : Nat) (k : St → Option (Int32 × St)) : Nat → St → Int32 → Int32 → Int32 → Option (Int32 × St)
  | 0, _, _, _, _ => none
  | fu + 1, σ, v1, v3, v4 =>
  if v3 ≤ v4 then
  k σ
  else
  if vin v4 n then
  if n < 1000 then
  (some (fL σ 5 (Int32.toNatClampNeg v4) 0)).bind fun σ9 =>
  lp_X_close_52 n k fu σ9 v1 v3 (v4 + 1)
  else none
  else none
theorem lp_X_close_52_s (n : Nat) (k : St → Option (Int32 × St)) (fu : Nat) (σ : St) (v1 : Int32) (v3 : Int32) (v4 : Int32) : lp_X_close_52 n k (fu + 1) σ v1 v3 v4 =
  (if v3 ≤ v4 then
  k σ
  else
  if vin v4 n then
  if n < 1000 then
  (some (fL σ 5 (Int32.toNatClampNeg v4) 0)).bind fun σ9 =>
  lp_X_close_52 n k fu σ9 v1 v3 (v4 + 1)
  else none
  else none) := rfl

def f_X_close (n : Nat) (σ : St)  : Option (Int32 × St) :=
  lp_X_close_4 n (fun σ6 y1_5 =>
  lp_X_close_52 n (fun σ10 =>
  some (y1_5, σ10)) 1000 σ6 y1_5 (nI n) 0) 1000 σ 0 0

def f_X_balance (n : Nat) (σ : St) (x1 : Int32) : Option (Int64 × St) :=
  (f_X_isBank n σ x1).bind fun o1 =>
  if o1.1 = 0 then
  some (0, o1.2)
  else
  if vin x1 n then
  some (sL o1.2 1 (Int32.toNatClampNeg x1) 0, o1.2)
  else none

def f_X_position (n : Nat) (σ : St) (x1 : Int32) (x2 : Int32) : Option (Int64 × St) :=
  (f_X_areTwoBanks n σ x1 x2).bind fun o1 =>
  if o1.1 = 0 then
  some (0, o1.2)
  else
  (f_X_positionOf n o1.2 x1 x2).bind fun o2 =>
  some (o2.1, o2.2)

def f_X_waiting (n : Nat) (σ : St) (x1 : Int32) : Option (Int32 × St) :=
  (f_X_isBank n σ x1).bind fun o1 =>
  if o1.1 = 0 then
  some ((-1), o1.2)
  else
  if vin x1 n then
  some (sI o1.2 3 (Int32.toNatClampNeg x1) 0, o1.2)
  else none

def f_X_queued (n : Nat) (σ : St) (x1 : Int32) (x2 : Int32) : Option (Int32 × St) :=
  (f_X_isBank n σ x1).bind fun o1 =>
  if o1.1 = 0 then
  some ((-1), o1.2)
  else
  if x2 < 0 then
  some ((-1), o1.2)
  else
  if vin x1 n then
  if x2 < (sI o1.2 3 (Int32.toNatClampNeg x1) 0) then
  if vin x1 n then
  if vin x2 6 then
  (dR o1.2 (sR o1.2 1 (Int32.toNatClampNeg x1) (Int32.toNatClampNeg x2))).bind fun k5 =>
  some (sI o1.2 4 k5 0, o1.2)
  else none
  else none
  else
  some ((-1), o1.2)
  else none

def f_X_state (n : Nat) (σ : St) (x1 : Int32) : Option (Int32 × St) :=
  (f_X_isPayment n σ x1).bind fun o1 =>
  if o1.1 = 0 then
  some ((-1), o1.2)
  else
  if vin x1 100 then
  (dR o1.2 (sR o1.2 0 0 (Int32.toNatClampNeg x1))).bind fun k3 =>
  some (sI o1.2 9 k3 0, o1.2)
  else none

def f_X_turnover (n : Nat) (σ : St)  : Option (Int64 × St) :=
  some (sL σ 0 0 0, σ)

def f_X_now (n : Nat) (σ : St)  : Option (Int32 × St) :=
  some (sI σ 1 0 0, σ)
end
section
set_option maxHeartbeats 4000000 in
set_option maxRecDepth 100000 in
theorem m_B_headGoesTo (l : Launch) (D : va_G) (cA : Nat → ClassId) (ad : Nat → Nat → Nat) (n : Nat) (A : Nat → Prop) (σ : St) (a0 : Nat) (ha0 : a0 < n) (out : Int32 × St) (hf : f_B_headGoesTo n σ a0 = some out) : Met l y_B_headGoesTo ws_B_headGoesTo ({ frames := 0, cells := 0, slots := 0, locals := 0 }) (va_Pc [.ref (ad 4 a0)] (fun U => CW D cA ad n A σ U.heap ∧ va_K D vCl (atys cA) U)) (va_Qi (fun r u => (r, u) = out) (fun u t => CW D cA ad n A u t.heap ∧ va_K D vCl (atys cA) t) A) 0 0 A := by
  refine Met.ofW (cc := prog_2_method_4_code) (maxL := 1) (ret := (some .int)) (by decide) rfl ?_
  intro p e s m args below meth c s₁ B hml hv
  obtain ⟨rfl, hW, hK⟩ := hv
  have hx := B.exec
  have hb := B.bytes
  have hr := B.returns
  have hts := atoms_spec (ws := ws_B_headGoesTo) B.pre
  have ht : ∀ w ∈ TB, w.before _ s = true := fun w h => hts w (List.mem_cons_of_mem _ h)
  have hown : s.vm.findClass "GridlockDesk$Bank" = some m.cls := findClass_of_methodNamed B.named
  have hlocks := B.notSynchronized
  have hS : va_S A s.heap s.heap [] := va_S.rf
  have hl := lv_entry ([.ref (ad 4 a0)]) (n := 1) (Nat.le_of_ble_eq_true rfl)
  rw [lg_entry_eq]
  generalize (lg_sl ([.ref (ad 4 a0)]) ++ List.replicate (1 - (lg_sl ([.ref (ad 4 a0)])).length) Slot.unset).toArray = ls at hl ⊢
  have hl : lv_has ls 1 [(0, .ref (ad 4 a0))] := hl
  unfold f_B_headGoesTo at hf
  refine lv_aload_n hx hb d_B_headGoesTo_0 rfl (lv_at hl 0 rfl) ?_
  refine va_get (D := D) (ci := 0) (C := "GridlockDesk$Bank") (T := T_B) (N := 7) hx hb ht hin_B hown hK (hW.1.one (t := 4) ha0) 0 rfl rfl 6 (by decide) (ht _ tw_74) (fun _ h9 => h9) rfl d_B_headGoesTo_1 ?_
  refine lv_if_le (tgt := 19) hx hb d_B_headGoesTo_4 rfl (fun hc => ?_) (fun hc => ?_)
  · replace hf := og_t hc hf
    refine lv_iconst (v := (-1)) hx hb d_B_headGoesTo_19 (by decide) ?_
    exact W.iret hx hb hr (fun t ht hWm => ⟨⟨_, _, rfl, Option.some.inj hf, by rw [ht]; exact hW, va_K.moved hWm.alike hK⟩, hS.F ht⟩) hS.2.2 d_B_headGoesTo_20
  · replace hf := og_f hc hf
    refine lv_aload_n hx hb d_B_headGoesTo_7 rfl (lv_at hl 0 rfl) ?_
    refine va_get (D := D) (ci := 0) (C := "GridlockDesk$Bank") (T := T_B) (N := 7) hx hb ht hin_B hown hK (hW.1.one (t := 4) ha0) 0 rfl rfl 5 (by decide) (ht _ tw_72) (fun _ h9 => h9) rfl d_B_headGoesTo_8 ?_
    refine lv_iconst (v := 0) hx hb d_B_headGoesTo_11 (by decide) ?_
    obtain ⟨hin1, hf⟩ := og_if hf
    refine va_aldq (D := D) hx hb hK (hW.1.one (t := 7) ha0) 0 3 rfl rfl hin1 d_B_headGoesTo_12 ?_
    obtain ⟨k2, hk2, hf⟩ := og_b hf
    obtain ⟨ek2, hk2⟩ := dR_spec hk2
    rw [ek2]
    refine W.eq (g2 := F0 m 13 ls [.ref (ad 8 k2)]) rfl ?_
    refine va_get (D := D) (ci := 1) (C := "GridlockDesk$Payment") (T := T_P) (N := 7) hx hb ht hin_P hown hK (hW.1.one (t := 8) hk2) 0 rfl rfl 2 (by decide) (ht _ tw_223) (fun _ h9 => h9) rfl d_B_headGoesTo_13 ?_
    refine lv_goto (tgt := 20) hx hb d_B_headGoesTo_16 rfl ?_
    exact W.iret hx hb hr (fun t ht hWm => ⟨⟨_, _, rfl, Option.some.inj hf, by rw [ht]; exact hW, va_K.moved hWm.alike hK⟩, hS.F ht⟩) hS.2.2 d_B_headGoesTo_20

set_option maxHeartbeats 4000000 in
set_option maxRecDepth 100000 in
theorem lp_B_sentWith_10_ok {p : Program} {l : Launch} {e : Env} {s : State} {m : MethodId} {args : Array Value} {below : List Frame} {meth : Method} {c : Code} (D : va_G) (cA : Nat → ClassId) (ad : Nat → Nat → Nat) (n : Nat) (A : Nat → Prop) (hx : p.tables.exec = Jvm.exec) (hb : c.code = prog_2_method_5_code) (hml : c.maxLocals = 6) (hr : meth.sig.returnType = (some .long)) (hts : ∀ w ∈ ws_B_sentWith, w.before args s = true) (hown : s.vm.findClass "GridlockDesk$Bank" = some m.cls) (hlocks : meth.locks = false) (hK : va_K D vCl (atys cA) s) (k : St → Int64 → Option (Int64 × St)) (out : Int64 × St) (v0 : Nat) (v1 : Int32) (v2 : Int32) (hk : ∀ (σ : St) (v3 : Int64) (H : Heap) (locs : List Loc) (ls : Array Slot), lv_has ls 6 [(3, .long v3)] → CW D cA ad n A σ H → va_S A s.heap H locs → k σ v3 = some out → W p l e (headSpec ws_B_sentWith ({ frames := 0, cells := 0, slots := 0, locals := 0 })).room s m args below meth c H locs 0 0 (MQ below (va_Ql (fun r u => (r, u) = out) (fun u t => CW D cA ad n A u t.heap ∧ va_K D vCl (atys cA) t) A) args s 0 0 A) (F0 m 58 ls [])) : ∀ (fu : Nat) (σ : St) (v3 : Int64) (v5 : Int32) (H : Heap) (locs : List Loc) (ls : Array Slot), v0 < n → lv_has ls 6 [(0, .ref (ad 4 v0)), (1, .int v1), (2, .int v2), (3, .long v3), (5, .int v5)] → CW D cA ad n A σ H → va_S A s.heap H locs → lp_B_sentWith_10 n k fu σ v0 v1 v2 v3 v5 = some out → W p l e (headSpec ws_B_sentWith ({ frames := 0, cells := 0, slots := 0, locals := 0 })).room s m args below meth c H locs 0 0 (MQ below (va_Ql (fun r u => (r, u) = out) (fun u t => CW D cA ad n A u t.heap ∧ va_K D vCl (atys cA) t) A) args s 0 0 A) (F0 m 10 ls []) := by
  intro fu
  induction fu with
  | zero =>
    intro σ v3 v5 H locs ls hv0 hl hW hS hf
    exact og_n hf
  | succ fu ih =>
    intro σ v3 v5 H locs ls hv0 hl hW hS hf
    rw [lp_B_sentWith_10_s] at hf
    have ht : ∀ w ∈ TB, w.before args s = true := fun w h => hts w (List.mem_cons_of_mem _ h)
    refine lv_iload hx hb d_B_sentWith_10 (lv_at hl 4 rfl) ?_
    refine lv_iload_n hx hb d_B_sentWith_12 rfl (lv_at hl 1 rfl) ?_
    refine lv_icmp_ge (tgt := 58) hx hb d_B_sentWith_13 rfl (fun hc => ?_) (fun hc => ?_)
    · replace hf := og_t hc hf
      exact hk _ _ _ _ _  (lv_sub hl [3] rfl) hW hS hf
    · replace hf := og_f hc hf
      refine lv_iload hx hb d_B_sentWith_16 (lv_at hl 4 rfl) ?_
      refine lv_aload_n hx hb d_B_sentWith_18 rfl (lv_at hl 0 rfl) ?_
      refine va_get (D := D) (ci := 0) (C := "GridlockDesk$Bank") (T := T_B) (N := 7) hx hb ht hin_B hown hK (hW.1.one (t := 4) hv0) 0 rfl rfl 6 (by decide) (ht _ tw_74) (fun _ h9 => h9) rfl d_B_sentWith_19 ?_
      refine lv_icmp_ge (tgt := 58) hx hb d_B_sentWith_22 rfl (fun hc => ?_) (fun hc => ?_)
      · replace hf := og_t hc hf
        exact hk _ _ _ _ _  (lv_sub hl [3] rfl) hW hS hf
      · replace hf := og_f hc hf
        refine lv_aload_n hx hb d_B_sentWith_25 rfl (lv_at hl 0 rfl) ?_
        refine va_get (D := D) (ci := 0) (C := "GridlockDesk$Bank") (T := T_B) (N := 7) hx hb ht hin_B hown hK (hW.1.one (t := 4) hv0) 0 rfl rfl 5 (by decide) (ht _ tw_72) (fun _ h9 => h9) rfl d_B_sentWith_26 ?_
        refine lv_iload hx hb d_B_sentWith_29 (lv_at hl 4 rfl) ?_
        obtain ⟨hin2, hf⟩ := og_if hf
        refine va_aldq (D := D) hx hb hK (hW.1.one (t := 7) hv0) 0 3 rfl rfl hin2 d_B_sentWith_31 ?_
        obtain ⟨k3, hk3, hf⟩ := og_b hf
        obtain ⟨ek3, hk3⟩ := dR_spec hk3
        rw [ek3]
        refine W.eq (g2 := F0 m 32 ls [.ref (ad 8 k3)]) rfl ?_
        refine va_get (D := D) (ci := 1) (C := "GridlockDesk$Payment") (T := T_P) (N := 7) hx hb ht hin_P hown hK (hW.1.one (t := 8) hk3) 0 rfl rfl 2 (by decide) (ht _ tw_223) (fun _ h9 => h9) rfl d_B_sentWith_32 ?_
        refine lv_iload_n hx hb d_B_sentWith_35 rfl (lv_at hl 2 rfl) ?_
        refine lv_icmp_ne (tgt := 52) hx hb d_B_sentWith_36 rfl (fun hc => ?_) (fun hc => ?_)
        · replace hf := og_f hc hf
          refine lv_iinc (k := 4) (v := _ + 1) (lv' := [(5, .int _), (0, .ref _), (1, .int _), (2, .int _), (3, .long _)]) hx hb d_B_sentWith_52 hl rfl rfl (by decide) rfl (fun ls hl => ?_)
          refine lv_goto (tgt := 10) hx hb d_B_sentWith_55 rfl ?_
          exact ih _ _ _ _ _ _ hv0 (lv_sub hl [1, 2, 3, 4, 0] rfl) hW hS hf
        · replace hf := og_t hc hf
          refine lv_lload_n hx hb d_B_sentWith_39 rfl (lv_at hl 3 rfl) ?_
          refine lv_aload_n hx hb d_B_sentWith_40 rfl (lv_at hl 0 rfl) ?_
          refine va_get (D := D) (ci := 0) (C := "GridlockDesk$Bank") (T := T_B) (N := 7) hx hb ht hin_B hown hK (hW.1.one (t := 4) hv0) 0 rfl rfl 5 (by decide) (ht _ tw_72) (fun _ h9 => h9) rfl d_B_sentWith_41 ?_
          refine lv_iload hx hb d_B_sentWith_44 (lv_at hl 4 rfl) ?_
          obtain ⟨hin4, hf⟩ := og_if hf
          refine va_aldq (D := D) hx hb hK (hW.1.one (t := 7) hv0) 0 3 rfl rfl hin4 d_B_sentWith_46 ?_
          obtain ⟨k5, hk5, hf⟩ := og_b hf
          obtain ⟨ek5, hk5⟩ := dR_spec hk5
          rw [ek5]
          refine W.eq (g2 := F0 m 47 ls [.ref (ad 8 k5), _]) rfl ?_
          refine va_get (D := D) (ci := 1) (C := "GridlockDesk$Payment") (T := T_P) (N := 7) hx hb ht hin_P hown hK (hW.1.one (t := 8) hk5) 0 rfl rfl 3 (by decide) (ht _ tw_226) (fun _ h9 => h9) rfl d_B_sentWith_47 ?_
          refine lv_ladd hx hb d_B_sentWith_50 ?_
          refine lv_lstore_n (lv' := [(3, .long _), (0, .ref _), (1, .int _), (2, .int _), (5, .int _)]) hx hb d_B_sentWith_51 rfl hl (by decide) rfl (fun ls hl => ?_)
          refine lv_iinc (k := 4) (v := _ + 1) (lv' := [(5, .int _), (3, .long _), (0, .ref _), (1, .int _), (2, .int _)]) hx hb d_B_sentWith_52 hl rfl rfl (by decide) rfl (fun ls hl => ?_)
          refine lv_goto (tgt := 10) hx hb d_B_sentWith_55 rfl ?_
          exact ih _ _ _ _ _ _ hv0 (lv_sub hl [2, 3, 4, 1, 0] rfl) hW hS hf

set_option maxHeartbeats 4000000 in
set_option maxRecDepth 100000 in
theorem m_B_sentWith (l : Launch) (D : va_G) (cA : Nat → ClassId) (ad : Nat → Nat → Nat) (n : Nat) (A : Nat → Prop) (σ : St) (a0 : Nat) (x1 : Int32) (x2 : Int32) (ha0 : a0 < n) (out : Int64 × St) (hf : f_B_sentWith n σ a0 x1 x2 = some out) : Met l y_B_sentWith ws_B_sentWith ({ frames := 0, cells := 0, slots := 0, locals := 0 }) (va_Pc [.ref (ad 4 a0), .int x1, .int x2] (fun U => CW D cA ad n A σ U.heap ∧ va_K D vCl (atys cA) U)) (va_Ql (fun r u => (r, u) = out) (fun u t => CW D cA ad n A u t.heap ∧ va_K D vCl (atys cA) t) A) 0 0 A := by
  refine Met.ofW (cc := prog_2_method_5_code) (maxL := 6) (ret := (some .long)) (by decide) rfl ?_
  intro p e s m args below meth c s₁ B hml hv
  obtain ⟨rfl, hW, hK⟩ := hv
  have hx := B.exec
  have hb := B.bytes
  have hr := B.returns
  have hts := atoms_spec (ws := ws_B_sentWith) B.pre
  have ht : ∀ w ∈ TB, w.before _ s = true := fun w h => hts w (List.mem_cons_of_mem _ h)
  have hown : s.vm.findClass "GridlockDesk$Bank" = some m.cls := findClass_of_methodNamed B.named
  have hlocks := B.notSynchronized
  have hS : va_S A s.heap s.heap [] := va_S.rf
  have hl := lv_entry ([.ref (ad 4 a0), .int x1, .int x2]) (n := 6) (Nat.le_of_ble_eq_true rfl)
  rw [lg_entry_eq]
  generalize (lg_sl ([.ref (ad 4 a0), .int x1, .int x2]) ++ List.replicate (6 - (lg_sl ([.ref (ad 4 a0), .int x1, .int x2])).length) Slot.unset).toArray = ls at hl ⊢
  have hl : lv_has ls 6 [(0, .ref (ad 4 a0)), (1, .int x1), (2, .int x2)] := hl
  unfold f_B_sentWith at hf
  refine lv_aload_n hx hb d_B_sentWith_0 rfl (lv_at hl 0 rfl) ?_
  refine va_get (D := D) (ci := 0) (C := "GridlockDesk$Bank") (T := T_B) (N := 7) hx hb ht hin_B hown hK (hW.1.one (t := 4) ha0) 0 rfl rfl 4 (by decide) (ht _ tw_70) (fun _ h9 => h9) rfl d_B_sentWith_1 ?_
  refine lv_iload_n hx hb d_B_sentWith_4 rfl (lv_at hl 2 rfl) ?_
  obtain ⟨hin1, hf⟩ := og_if hf
  refine va_lald (D := D) hx hb hK (hW.1.one (t := 6) ha0) 0 0 rfl rfl hin1 d_B_sentWith_5 ?_
  refine lv_lstore_n (lv' := [(3, .long _), (0, .ref _), (1, .int _), (2, .int _)]) hx hb d_B_sentWith_6 rfl hl (by decide) rfl (fun ls hl => ?_)
  refine lv_iconst (v := 0) hx hb d_B_sentWith_7 (by decide) ?_
  refine lv_istore (lv' := [(5, .int _), (3, .long _), (0, .ref _), (1, .int _), (2, .int _)]) hx hb d_B_sentWith_8 hl (by decide) rfl (fun ls hl => ?_)
  refine lp_B_sentWith_10_ok D cA ad n A hx hb hml hr hts hown hlocks hK _ _ _ _ _ (fun σ7 y3_6 H locs ls  hl hW hS hf => ?_) _ _ _ _ _ _ _ ha0 (lv_sub hl [2, 3, 4, 1, 0] rfl) hW hS hf
  refine lv_lload_n hx hb d_B_sentWith_58 rfl (lv_at hl 0 rfl) ?_
  exact W.lret hx hb hr (fun t ht hWm => ⟨⟨_, _, rfl, Option.some.inj hf, by rw [ht]; exact hW, va_K.moved hWm.alike hK⟩, hS.F ht⟩) hS.2.2 d_B_sentWith_59

set_option maxHeartbeats 4000000 in
set_option maxRecDepth 100000 in
theorem lp_B_remove_4_ok {p : Program} {l : Launch} {e : Env} {s : State} {m : MethodId} {args : Array Value} {below : List Frame} {meth : Method} {c : Code} (D : va_G) (cA : Nat → ClassId) (ad : Nat → Nat → Nat) (n : Nat) (A : Nat → Prop) (hx : p.tables.exec = Jvm.exec) (hb : c.code = prog_2_method_3_code) (hml : c.maxLocals = 4) (hr : meth.sig.returnType = none) (hts : ∀ w ∈ ws_B_remove, w.before args s = true) (hown : s.vm.findClass "GridlockDesk$Bank" = some m.cls) (hlocks : meth.locks = false) (hK : va_K D vCl (atys cA) s) (k : St → Int32 → Option (Unit × St)) (out : Unit × St) (v0 : Nat) (v1 : Nat) (hk : ∀ (σ : St) (v2 : Int32) (H : Heap) (locs : List Loc) (ls : Array Slot), lv_has ls 4 [(0, .ref (ad 4 v0)), (2, .int v2)] → CW D cA ad n A σ H → va_S A s.heap H locs → k σ v2 = some out → W p l e (headSpec ws_B_remove ({ frames := 0, cells := 0, slots := 0, locals := 0 })).room s m args below meth c H locs 0 0 (MQ below (va_Qv (fun u => ((), u) = out) (fun u t => CW D cA ad n A u t.heap ∧ va_K D vCl (atys cA) t) A) args s 0 0 A) (F0 m 43 ls [])) : ∀ (fu : Nat) (σ : St) (v2 : Int32) (v3 : Int32) (H : Heap) (locs : List Loc) (ls : Array Slot), v0 < n → lv_has ls 4 [(0, .ref (ad 4 v0)), (1, .ref (ad 8 v1)), (2, .int v2), (3, .int v3)] → CW D cA ad n A σ H → va_S A s.heap H locs → lp_B_remove_4 n k fu σ v0 v1 v2 v3 = some out → W p l e (headSpec ws_B_remove ({ frames := 0, cells := 0, slots := 0, locals := 0 })).room s m args below meth c H locs 0 0 (MQ below (va_Qv (fun u => ((), u) = out) (fun u t => CW D cA ad n A u t.heap ∧ va_K D vCl (atys cA) t) A) args s 0 0 A) (F0 m 4 ls []) := by
  intro fu
  induction fu with
  | zero =>
    intro σ v2 v3 H locs ls hv0 hl hW hS hf
    exact og_n hf
  | succ fu ih =>
    intro σ v2 v3 H locs ls hv0 hl hW hS hf
    rw [lp_B_remove_4_s] at hf
    have ht : ∀ w ∈ TB, w.before args s = true := fun w h => hts w (List.mem_cons_of_mem _ h)
    refine lv_iload_n hx hb d_B_remove_4 rfl (lv_at hl 3 rfl) ?_
    refine lv_aload_n hx hb d_B_remove_5 rfl (lv_at hl 0 rfl) ?_
    refine va_get (D := D) (ci := 0) (C := "GridlockDesk$Bank") (T := T_B) (N := 7) hx hb ht hin_B hown hK (hW.1.one (t := 4) hv0) 0 rfl rfl 6 (by decide) (ht _ tw_74) (fun _ h9 => h9) rfl d_B_remove_6 ?_
    refine lv_icmp_ge (tgt := 43) hx hb d_B_remove_9 rfl (fun hc => ?_) (fun hc => ?_)
    · replace hf := og_t hc hf
      exact hk _ _ _ _ _  (lv_sub hl [0, 2] rfl) hW hS hf
    · replace hf := og_f hc hf
      refine lv_aload_n hx hb d_B_remove_12 rfl (lv_at hl 0 rfl) ?_
      refine va_get (D := D) (ci := 0) (C := "GridlockDesk$Bank") (T := T_B) (N := 7) hx hb ht hin_B hown hK (hW.1.one (t := 4) hv0) 0 rfl rfl 5 (by decide) (ht _ tw_72) (fun _ h9 => h9) rfl d_B_remove_13 ?_
      refine lv_iload_n hx hb d_B_remove_16 rfl (lv_at hl 3 rfl) ?_
      obtain ⟨hin1, hf⟩ := og_if hf
      refine va_aldq (D := D) hx hb hK (hW.1.one (t := 7) hv0) 0 3 rfl rfl hin1 d_B_remove_17 ?_
      refine lv_aload_n hx hb d_B_remove_18 rfl (lv_at hl 1 rfl) ?_
      obtain ⟨k2, hk2, hf⟩ := og_b hf
      obtain ⟨ek2, hk2⟩ := dR_spec hk2
      rw [ek2]
      refine W.eq (g2 := F0 m 19 ls [_, .ref (ad 8 k2)]) rfl ?_
      obtain ⟨hn3, hf⟩ := og_if hf
      refine W.eq (g2 := F0 m 19 ls (va_rf (some (ad 8 _)) :: va_rf (some (ad 8 _)) :: [])) rfl ?_
      refine lv_acmp_eq (tgt := 37) hx hb d_B_remove_19 rfl (fun hc => ?_) (fun hc => ?_)
      · replace hc := (kw_inj (t := 8) hW.1 hk2 hn3).mp hc
        replace hf := og_t hc hf
        refine lv_iinc (k := 3) (v := _ + 1) (lv' := [(3, .int _), (0, .ref _), (1, .ref _), (2, .int _)]) hx hb d_B_remove_37 hl rfl rfl (by decide) rfl (fun ls hl => ?_)
        refine lv_goto (tgt := 4) hx hb d_B_remove_40 rfl ?_
        exact ih _ _ _ _ _ _ hv0 (lv_sub hl [1, 2, 3, 0] rfl) hW hS hf
      · replace hc := fun z => hc ((kw_inj (t := 8) hW.1 hk2 hn3).mpr z)
        replace hf := og_f hc hf
        refine lv_aload_n hx hb d_B_remove_22 rfl (lv_at hl 0 rfl) ?_
        refine va_get (D := D) (ci := 0) (C := "GridlockDesk$Bank") (T := T_B) (N := 7) hx hb ht hin_B hown hK (hW.1.one (t := 4) hv0) 0 rfl rfl 5 (by decide) (ht _ tw_72) (fun _ h9 => h9) rfl d_B_remove_23 ?_
        refine lv_iload_n hx hb d_B_remove_26 rfl (lv_at hl 2 rfl) ?_
        refine lv_aload_n hx hb d_B_remove_27 rfl (lv_at hl 0 rfl) ?_
        refine va_get (D := D) (ci := 0) (C := "GridlockDesk$Bank") (T := T_B) (N := 7) hx hb ht hin_B hown hK (hW.1.one (t := 4) hv0) 0 rfl rfl 5 (by decide) (ht _ tw_72) (fun _ h9 => h9) rfl d_B_remove_28 ?_
        refine lv_iload_n hx hb d_B_remove_31 rfl (lv_at hl 3 rfl) ?_
        obtain ⟨hin4, hf⟩ := og_if hf
        refine va_aldq (D := D) hx hb hK (hW.1.one (t := 7) hv0) 0 3 rfl rfl hin4 d_B_remove_32 ?_
        obtain ⟨k5, hk5, hf⟩ := og_b hf
        obtain ⟨ek5, hk5⟩ := dR_spec hk5
        rw [ek5]
        refine W.eq (g2 := F0 m 33 ls [.ref (ad 8 k5), _, _]) rfl ?_
        obtain ⟨hin6, hf⟩ := og_if hf
        obtain ⟨σ7, eσ7, hf⟩ := og_b hf
        cases eσ7
        refine k_aast  (t := 7) (tv := 8) hx hb hK hW.1 hS hv0 (hW.2 _ _ hv0) 3 1 hk5 rfl rfl rfl rfl hin6 d_B_remove_33 cc_wR1 (fun H locs hW1 hS => ?_)
        have hW := CW.wR hW1 hW.2
        refine lv_iinc (k := 2) (v := _ + 1) (lv' := [(2, .int _), (0, .ref _), (1, .ref _), (3, .int _)]) hx hb d_B_remove_34 hl rfl rfl (by decide) rfl (fun ls hl => ?_)
        refine lv_iinc (k := 3) (v := _ + 1) (lv' := [(3, .int _), (2, .int _), (0, .ref _), (1, .ref _)]) hx hb d_B_remove_37 hl rfl rfl (by decide) rfl (fun ls hl => ?_)
        refine lv_goto (tgt := 4) hx hb d_B_remove_40 rfl ?_
        exact ih _ _ _ _ _ _ hv0 (lv_sub hl [2, 3, 1, 0] rfl) hW hS hf

set_option maxHeartbeats 4000000 in
set_option maxRecDepth 100000 in
theorem m_B_remove (l : Launch) (D : va_G) (cA : Nat → ClassId) (ad : Nat → Nat → Nat) (n : Nat) (A : Nat → Prop) (σ : St) (a0 : Nat) (x1 : Nat) (ha0 : a0 < n) (out : Unit × St) (hf : f_B_remove n σ a0 x1 = some out) : Met l y_B_remove ws_B_remove ({ frames := 0, cells := 0, slots := 0, locals := 0 }) (va_Pc [.ref (ad 4 a0), .ref (ad 8 x1)] (fun U => CW D cA ad n A σ U.heap ∧ va_K D vCl (atys cA) U)) (va_Qv (fun u => ((), u) = out) (fun u t => CW D cA ad n A u t.heap ∧ va_K D vCl (atys cA) t) A) 0 0 A := by
  refine Met.ofW (cc := prog_2_method_3_code) (maxL := 4) (ret := none) (by decide) rfl ?_
  intro p e s m args below meth c s₁ B hml hv
  obtain ⟨rfl, hW, hK⟩ := hv
  have hx := B.exec
  have hb := B.bytes
  have hr := B.returns
  have hts := atoms_spec (ws := ws_B_remove) B.pre
  have ht : ∀ w ∈ TB, w.before _ s = true := fun w h => hts w (List.mem_cons_of_mem _ h)
  have hown : s.vm.findClass "GridlockDesk$Bank" = some m.cls := findClass_of_methodNamed B.named
  have hlocks := B.notSynchronized
  have hS : va_S A s.heap s.heap [] := va_S.rf
  have hl := lv_entry ([.ref (ad 4 a0), .ref (ad 8 x1)]) (n := 4) (Nat.le_of_ble_eq_true rfl)
  rw [lg_entry_eq]
  generalize (lg_sl ([.ref (ad 4 a0), .ref (ad 8 x1)]) ++ List.replicate (4 - (lg_sl ([.ref (ad 4 a0), .ref (ad 8 x1)])).length) Slot.unset).toArray = ls at hl ⊢
  have hl : lv_has ls 4 [(0, .ref (ad 4 a0)), (1, .ref (ad 8 x1))] := hl
  unfold f_B_remove at hf
  refine lv_iconst (v := 0) hx hb d_B_remove_0 (by decide) ?_
  refine lv_istore_n (lv' := [(2, .int _), (0, .ref _), (1, .ref _)]) hx hb d_B_remove_1 rfl hl (by decide) rfl (fun ls hl => ?_)
  refine lv_iconst (v := 0) hx hb d_B_remove_2 (by decide) ?_
  refine lv_istore_n (lv' := [(3, .int _), (2, .int _), (0, .ref _), (1, .ref _)]) hx hb d_B_remove_3 rfl hl (by decide) rfl (fun ls hl => ?_)
  refine lp_B_remove_4_ok D cA ad n A hx hb hml hr hts hown hlocks hK _ _ _ _ (fun σ9 y2_8 H locs ls  hl hW hS hf => ?_) _ _ _ _ _ _ _ ha0 (lv_sub hl [2, 3, 1, 0] rfl) hW hS hf
  refine lv_aload_n hx hb d_B_remove_43 rfl (lv_at hl 0 rfl) ?_
  refine lv_iload_n hx hb d_B_remove_44 rfl (lv_at hl 1 rfl) ?_
  obtain ⟨σ10, eσ10, hf⟩ := og_b hf
  cases eσ10
  refine k_put  (ci := 0) (C := "GridlockDesk$Bank") (T := T_B) (N := 7) (ty := .int) (t := 4) hx hb ht hin_B ft_B ft_B_ok nm_B hown hK hW.1 hS ha0 (hW.2 _ _ ha0) rfl rfl 6 (by decide) (ht _ tw_74) (fun _ h9 => h9) rfl (by decide +kernel) rfl rfl (Nat.le_of_ble_eq_true rfl) d_B_remove_45 cc_wI3 (fun H locs hW1 hS => ?_)
  have hW := CW.wI hW1 hW.2
  exact W.vret hx hb hr (fun t ht hWm => ⟨⟨_, rfl, Option.some.inj hf, by rw [ht]; exact hW, va_K.moved hWm.alike hK⟩, hS.F ht⟩) hS.2.2 d_B_remove_48

set_option maxHeartbeats 4000000 in
set_option maxRecDepth 100000 in
theorem lp_B_enqueue_18_ok {p : Program} {l : Launch} {e : Env} {s : State} {m : MethodId} {args : Array Value} {below : List Frame} {meth : Method} {c : Code} (D : va_G) (cA : Nat → ClassId) (ad : Nat → Nat → Nat) (n : Nat) (A : Nat → Prop) (hx : p.tables.exec = Jvm.exec) (hb : c.code = prog_2_method_2_code) (hml : c.maxLocals = 3) (hr : meth.sig.returnType = none) (hts : ∀ w ∈ ws_B_enqueue, w.before args s = true) (hown : s.vm.findClass "GridlockDesk$Bank" = some m.cls) (hlocks : meth.locks = false) (hK : va_K D vCl (atys cA) s) (k : St → Int32 → Option (Unit × St)) (out : Unit × St) (v0 : Nat) (v1 : Nat) (hk : ∀ (σ : St) (v2 : Int32) (H : Heap) (locs : List Loc) (ls : Array Slot), lv_has ls 3 [(0, .ref (ad 4 v0)), (1, .ref (ad 8 v1)), (2, .int v2)] → CW D cA ad n A σ H → va_S A s.heap H locs → k σ v2 = some out → W p l e (headSpec ws_B_enqueue ({ frames := 0, cells := 0, slots := 0, locals := 0 })).room s m args below meth c H locs 0 0 (MQ below (va_Qv (fun u => ((), u) = out) (fun u t => CW D cA ad n A u t.heap ∧ va_K D vCl (atys cA) t) A) args s 0 0 A) (F0 m 60 ls [])) : ∀ (fu : Nat) (σ : St) (v2 : Int32) (H : Heap) (locs : List Loc) (ls : Array Slot), v0 < n → lv_has ls 3 [(0, .ref (ad 4 v0)), (1, .ref (ad 8 v1)), (2, .int v2)] → CW D cA ad n A σ H → va_S A s.heap H locs → lp_B_enqueue_18 n k fu σ v0 v1 v2 = some out → W p l e (headSpec ws_B_enqueue ({ frames := 0, cells := 0, slots := 0, locals := 0 })).room s m args below meth c H locs 0 0 (MQ below (va_Qv (fun u => ((), u) = out) (fun u t => CW D cA ad n A u t.heap ∧ va_K D vCl (atys cA) t) A) args s 0 0 A) (F0 m 18 ls []) := by
  intro fu
  induction fu with
  | zero =>
    intro σ v2 H locs ls hv0 hl hW hS hf
    exact og_n hf
  | succ fu ih =>
    intro σ v2 H locs ls hv0 hl hW hS hf
    rw [lp_B_enqueue_18_s] at hf
    have ht : ∀ w ∈ TB, w.before args s = true := fun w h => hts w (List.mem_cons_of_mem _ h)
    refine lv_iload_n hx hb d_B_enqueue_18 rfl (lv_at hl 2 rfl) ?_
    refine lv_if_le (tgt := 60) hx hb d_B_enqueue_19 rfl (fun hc => ?_) (fun hc => ?_)
    · replace hf := og_t hc hf
      exact hk _ _ _ _ _  (lv_sub hl [0, 1, 2] rfl) hW hS hf
    · replace hf := og_f hc hf
      refine lv_aload_n hx hb d_B_enqueue_22 rfl (lv_at hl 0 rfl) ?_
      refine va_get (D := D) (ci := 0) (C := "GridlockDesk$Bank") (T := T_B) (N := 7) hx hb ht hin_B hown hK (hW.1.one (t := 4) hv0) 0 rfl rfl 5 (by decide) (ht _ tw_72) (fun _ h9 => h9) rfl d_B_enqueue_23 ?_
      refine lv_iload_n hx hb d_B_enqueue_26 rfl (lv_at hl 2 rfl) ?_
      refine lv_iconst (v := 1) hx hb d_B_enqueue_27 (by decide) ?_
      refine lv_isub hx hb d_B_enqueue_28 ?_
      obtain ⟨hin1, hf⟩ := og_if hf
      refine va_aldq (D := D) hx hb hK (hW.1.one (t := 7) hv0) 0 3 rfl rfl hin1 d_B_enqueue_29 ?_
      obtain ⟨k2, hk2, hf⟩ := og_b hf
      obtain ⟨ek2, hk2⟩ := dR_spec hk2
      rw [ek2]
      refine W.eq (g2 := F0 m 30 ls [.ref (ad 8 k2)]) rfl ?_
      refine va_get (D := D) (ci := 1) (C := "GridlockDesk$Payment") (T := T_P) (N := 7) hx hb ht hin_P hown hK (hW.1.one (t := 8) hk2) 0 rfl rfl 5 (by decide) (ht _ tw_231) (fun _ h9 => h9) rfl d_B_enqueue_30 ?_
      refine lv_aload_n hx hb d_B_enqueue_33 rfl (lv_at hl 1 rfl) ?_
      obtain ⟨hn3, hf⟩ := og_if hf
      refine va_get (D := D) (ci := 1) (C := "GridlockDesk$Payment") (T := T_P) (N := 7) hx hb ht hin_P hown hK (hW.1.one (t := 8) hn3) 0 rfl rfl 5 (by decide) (ht _ tw_231) (fun _ h9 => h9) rfl d_B_enqueue_34 ?_
      refine lv_icmp_ge (tgt := 60) hx hb d_B_enqueue_37 rfl (fun hc => ?_) (fun hc => ?_)
      · replace hf := og_t hc hf
        exact hk _ _ _ _ _  (lv_sub hl [0, 1, 2] rfl) hW hS hf
      · replace hf := og_f hc hf
        refine lv_aload_n hx hb d_B_enqueue_40 rfl (lv_at hl 0 rfl) ?_
        refine va_get (D := D) (ci := 0) (C := "GridlockDesk$Bank") (T := T_B) (N := 7) hx hb ht hin_B hown hK (hW.1.one (t := 4) hv0) 0 rfl rfl 5 (by decide) (ht _ tw_72) (fun _ h9 => h9) rfl d_B_enqueue_41 ?_
        refine lv_iload_n hx hb d_B_enqueue_44 rfl (lv_at hl 2 rfl) ?_
        refine lv_aload_n hx hb d_B_enqueue_45 rfl (lv_at hl 0 rfl) ?_
        refine va_get (D := D) (ci := 0) (C := "GridlockDesk$Bank") (T := T_B) (N := 7) hx hb ht hin_B hown hK (hW.1.one (t := 4) hv0) 0 rfl rfl 5 (by decide) (ht _ tw_72) (fun _ h9 => h9) rfl d_B_enqueue_46 ?_
        refine lv_iload_n hx hb d_B_enqueue_49 rfl (lv_at hl 2 rfl) ?_
        refine lv_iconst (v := 1) hx hb d_B_enqueue_50 (by decide) ?_
        refine lv_isub hx hb d_B_enqueue_51 ?_
        obtain ⟨hin4, hf⟩ := og_if hf
        refine va_aldq (D := D) hx hb hK (hW.1.one (t := 7) hv0) 0 3 rfl rfl hin4 d_B_enqueue_52 ?_
        obtain ⟨k5, hk5, hf⟩ := og_b hf
        obtain ⟨ek5, hk5⟩ := dR_spec hk5
        rw [ek5]
        refine W.eq (g2 := F0 m 53 ls [.ref (ad 8 k5), _, _]) rfl ?_
        obtain ⟨hin6, hf⟩ := og_if hf
        obtain ⟨σ7, eσ7, hf⟩ := og_b hf
        cases eσ7
        refine k_aast  (t := 7) (tv := 8) hx hb hK hW.1 hS hv0 (hW.2 _ _ hv0) 3 1 hk5 rfl rfl rfl rfl hin6 d_B_enqueue_53 cc_wR1 (fun H locs hW1 hS => ?_)
        have hW := CW.wR hW1 hW.2
        refine lv_iinc (k := 2) (v := _ + (-1)) (lv' := [(2, .int _), (0, .ref _), (1, .ref _)]) hx hb d_B_enqueue_54 hl rfl rfl (by decide) rfl (fun ls hl => ?_)
        refine lv_goto (tgt := 18) hx hb d_B_enqueue_57 rfl ?_
        exact ih _ _ _ _ _ hv0 (lv_sub hl [1, 2, 0] rfl) hW hS hf

set_option maxHeartbeats 4000000 in
set_option maxRecDepth 100000 in
theorem m_B_enqueue (l : Launch) (D : va_G) (cA : Nat → ClassId) (ad : Nat → Nat → Nat) (n : Nat) (A : Nat → Prop) (σ : St) (a0 : Nat) (x1 : Nat) (ha0 : a0 < n) (out : Unit × St) (hf : f_B_enqueue n σ a0 x1 = some out) : Met l y_B_enqueue ws_B_enqueue ({ frames := 0, cells := 0, slots := 0, locals := 0 }) (va_Pc [.ref (ad 4 a0), .ref (ad 8 x1)] (fun U => CW D cA ad n A σ U.heap ∧ va_K D vCl (atys cA) U)) (va_Qv (fun u => ((), u) = out) (fun u t => CW D cA ad n A u t.heap ∧ va_K D vCl (atys cA) t) A) 0 0 A := by
  refine Met.ofW (cc := prog_2_method_2_code) (maxL := 3) (ret := none) (by decide) rfl ?_
  intro p e s m args below meth c s₁ B hml hv
  obtain ⟨rfl, hW, hK⟩ := hv
  have hx := B.exec
  have hb := B.bytes
  have hr := B.returns
  have hts := atoms_spec (ws := ws_B_enqueue) B.pre
  have ht : ∀ w ∈ TB, w.before _ s = true := fun w h => hts w (List.mem_cons_of_mem _ h)
  have hown : s.vm.findClass "GridlockDesk$Bank" = some m.cls := findClass_of_methodNamed B.named
  have hlocks := B.notSynchronized
  have hS : va_S A s.heap s.heap [] := va_S.rf
  have hl := lv_entry ([.ref (ad 4 a0), .ref (ad 8 x1)]) (n := 3) (Nat.le_of_ble_eq_true rfl)
  rw [lg_entry_eq]
  generalize (lg_sl ([.ref (ad 4 a0), .ref (ad 8 x1)]) ++ List.replicate (3 - (lg_sl ([.ref (ad 4 a0), .ref (ad 8 x1)])).length) Slot.unset).toArray = ls at hl ⊢
  have hl : lv_has ls 3 [(0, .ref (ad 4 a0)), (1, .ref (ad 8 x1))] := hl
  unfold f_B_enqueue at hf
  refine lv_aload_n hx hb d_B_enqueue_0 rfl (lv_at hl 0 rfl) ?_
  refine va_get (D := D) (ci := 0) (C := "GridlockDesk$Bank") (T := T_B) (N := 7) hx hb ht hin_B hown hK (hW.1.one (t := 4) ha0) 0 rfl rfl 6 (by decide) (ht _ tw_74) (fun _ h9 => h9) rfl d_B_enqueue_1 ?_
  refine lv_aload_n hx hb d_B_enqueue_4 rfl (lv_at hl 0 rfl) ?_
  refine va_get (D := D) (ci := 0) (C := "GridlockDesk$Bank") (T := T_B) (N := 7) hx hb ht hin_B hown hK (hW.1.one (t := 4) ha0) 0 rfl rfl 5 (by decide) (ht _ tw_72) (fun _ h9 => h9) rfl d_B_enqueue_5 ?_
  refine va_alen (D := D) (v := nI 6) hx hb hK (hW.1.one (t := 7) ha0) 0 3 rfl rfl rfl d_B_enqueue_8 ?_
  refine lv_icmp_lt (tgt := 13) hx hb d_B_enqueue_9 rfl (fun hc => ?_) (fun hc => ?_)
  · replace hf := og_t hc hf
    refine lv_aload_n hx hb d_B_enqueue_13 rfl (lv_at hl 0 rfl) ?_
    refine va_get (D := D) (ci := 0) (C := "GridlockDesk$Bank") (T := T_B) (N := 7) hx hb ht hin_B hown hK (hW.1.one (t := 4) ha0) 0 rfl rfl 6 (by decide) (ht _ tw_74) (fun _ h9 => h9) rfl d_B_enqueue_14 ?_
    refine lv_istore_n (lv' := [(2, .int _), (0, .ref _), (1, .ref _)]) hx hb d_B_enqueue_17 rfl hl (by decide) rfl (fun ls hl => ?_)
    refine lp_B_enqueue_18_ok D cA ad n A hx hb hml hr hts hown hlocks hK _ _ _ _ (fun σ9 y2_8 H locs ls  hl hW hS hf => ?_) _ _ _ _ _ _ ha0 (lv_sub hl [1, 2, 0] rfl) hW hS hf
    refine lv_aload_n hx hb d_B_enqueue_60 rfl (lv_at hl 0 rfl) ?_
    refine va_get (D := D) (ci := 0) (C := "GridlockDesk$Bank") (T := T_B) (N := 7) hx hb ht hin_B hown hK (hW.1.one (t := 4) ha0) 0 rfl rfl 5 (by decide) (ht _ tw_72) (fun _ h9 => h9) rfl d_B_enqueue_61 ?_
    refine lv_iload_n hx hb d_B_enqueue_64 rfl (lv_at hl 2 rfl) ?_
    refine lv_aload_n hx hb d_B_enqueue_65 rfl (lv_at hl 1 rfl) ?_
    obtain ⟨hn10, hf⟩ := og_if hf
    obtain ⟨hin11, hf⟩ := og_if hf
    obtain ⟨σ12, eσ12, hf⟩ := og_b hf
    cases eσ12
    refine k_aast  (t := 7) (tv := 8) hx hb hK hW.1 hS ha0 (hW.2 _ _ ha0) 3 1 hn10 rfl rfl rfl rfl hin11 d_B_enqueue_66 cc_wR1 (fun H locs hW1 hS => ?_)
    have hW := CW.wR hW1 hW.2
    refine lv_aload_n hx hb d_B_enqueue_67 rfl (lv_at hl 0 rfl) ?_
    refine lv_dup hx hb d_B_enqueue_68 rfl ?_
    refine va_get (D := D) (ci := 0) (C := "GridlockDesk$Bank") (T := T_B) (N := 7) hx hb ht hin_B hown hK (hW.1.one (t := 4) ha0) 0 rfl rfl 6 (by decide) (ht _ tw_74) (fun _ h9 => h9) rfl d_B_enqueue_69 ?_
    refine lv_iconst (v := 1) hx hb d_B_enqueue_72 (by decide) ?_
    refine lv_iadd hx hb d_B_enqueue_73 ?_
    obtain ⟨σ13, eσ13, hf⟩ := og_b hf
    cases eσ13
    refine k_put  (ci := 0) (C := "GridlockDesk$Bank") (T := T_B) (N := 7) (ty := .int) (t := 4) hx hb ht hin_B ft_B ft_B_ok nm_B hown hK hW.1 hS ha0 (hW.2 _ _ ha0) rfl rfl 6 (by decide) (ht _ tw_74) (fun _ h9 => h9) rfl (by decide +kernel) rfl rfl (Nat.le_of_ble_eq_true rfl) d_B_enqueue_74 cc_wI3 (fun H locs hW1 hS => ?_)
    have hW := CW.wI hW1 hW.2
    exact W.vret hx hb hr (fun t ht hWm => ⟨⟨_, rfl, Option.some.inj hf, by rw [ht]; exact hW, va_K.moved hWm.alike hK⟩, hS.F ht⟩) hS.2.2 d_B_enqueue_77
  · replace hf := og_f hc hf
    exact W.vret hx hb hr (fun t ht hWm => ⟨⟨_, rfl, Option.some.inj hf, by rw [ht]; exact hW, va_K.moved hWm.alike hK⟩, hS.F ht⟩) hS.2.2 d_B_enqueue_12

set_option maxHeartbeats 4000000 in
set_option maxRecDepth 100000 in
theorem m_X_isBank (l : Launch) (D : va_G) (cA : Nat → ClassId) (ad : Nat → Nat → Nat) (n : Nat) (A : Nat → Prop) (σ : St) (x1 : Int32)  (out : Int32 × St) (hf : f_X_isBank n σ x1 = some out) : Met l y_X_isBank ws_X_isBank ({ frames := 0, cells := 0, slots := 0, locals := 0 }) (va_Pc [.ref (ad 0 0), .int x1] (fun U => CW D cA ad n A σ U.heap ∧ va_K D vCl (atys cA) U)) (va_Qi (fun r u => (r, u) = out) (fun u t => CW D cA ad n A u t.heap ∧ va_K D vCl (atys cA) t) A) 0 0 A := by
  refine Met.ofW (cc := prog_1_method_19_code) (maxL := 2) (ret := (some .boolean)) (by decide) rfl ?_
  intro p e s m args below meth c s₁ B hml hv
  obtain ⟨rfl, hW, hK⟩ := hv
  have hx := B.exec
  have hb := B.bytes
  have hr := B.returns
  have hts := atoms_spec (ws := ws_X_isBank) B.pre
  have ht : ∀ w ∈ TB, w.before _ s = true := fun w h => hts w (List.mem_cons_of_mem _ h)
  have hown : s.vm.findClass "GridlockDesk" = some m.cls := findClass_of_methodNamed B.named
  have hlocks := B.notSynchronized
  have hS : va_S A s.heap s.heap [] := va_S.rf
  have hl := lv_entry ([.ref (ad 0 0), .int x1]) (n := 2) (Nat.le_of_ble_eq_true rfl)
  rw [lg_entry_eq]
  generalize (lg_sl ([.ref (ad 0 0), .int x1]) ++ List.replicate (2 - (lg_sl ([.ref (ad 0 0), .int x1])).length) Slot.unset).toArray = ls at hl ⊢
  have hl : lv_has ls 2 [(0, .ref (ad 0 0)), (1, .int x1)] := hl
  unfold f_X_isBank at hf
  refine lv_iload_n hx hb d_X_isBank_0 rfl (lv_at hl 1 rfl) ?_
  refine lv_if_lt (tgt := 17) hx hb d_X_isBank_1 rfl (fun hc => ?_) (fun hc => ?_)
  · replace hf := og_t hc hf
    refine lv_iconst (v := 0) hx hb d_X_isBank_17 (by decide) ?_
    exact W.zret hx hb hr rfl (fun t ht hWm => ⟨⟨_, _, rfl, Option.some.inj hf, by rw [ht]; exact hW, va_K.moved hWm.alike hK⟩, hS.F ht⟩) hS.2.2 d_X_isBank_18
  · replace hf := og_f hc hf
    refine lv_iload_n hx hb d_X_isBank_4 rfl (lv_at hl 1 rfl) ?_
    refine lv_aload_n hx hb d_X_isBank_5 rfl (lv_at hl 0 rfl) ?_
    refine va_get (D := D) (ci := 2) (C := "GridlockDesk") (T := T_X) (N := 6) hx hb ht hin_X hown hK (hW.1.one (t := 0) rfl) 0 rfl rfl 0 (by decide) (ht _ tw_93) (fun _ h9 => h9) rfl d_X_isBank_6 ?_
    refine va_alen (D := D) (v := nI n) hx hb hK (hW.1.one (t := 1) rfl) 0 2 rfl rfl rfl d_X_isBank_9 ?_
    refine lv_icmp_ge (tgt := 17) hx hb d_X_isBank_10 rfl (fun hc => ?_) (fun hc => ?_)
    · replace hf := og_t hc hf
      refine lv_iconst (v := 0) hx hb d_X_isBank_17 (by decide) ?_
      exact W.zret hx hb hr rfl (fun t ht hWm => ⟨⟨_, _, rfl, Option.some.inj hf, by rw [ht]; exact hW, va_K.moved hWm.alike hK⟩, hS.F ht⟩) hS.2.2 d_X_isBank_18
    · replace hf := og_f hc hf
      refine lv_iconst (v := 1) hx hb d_X_isBank_13 (by decide) ?_
      refine lv_goto (tgt := 18) hx hb d_X_isBank_14 rfl ?_
      exact W.zret hx hb hr rfl (fun t ht hWm => ⟨⟨_, _, rfl, Option.some.inj hf, by rw [ht]; exact hW, va_K.moved hWm.alike hK⟩, hS.F ht⟩) hS.2.2 d_X_isBank_18

set_option maxHeartbeats 4000000 in
set_option maxRecDepth 100000 in
theorem m_X_areTwoBanks (l : Launch) (D : va_G) (cA : Nat → ClassId) (ad : Nat → Nat → Nat) (n : Nat) (A : Nat → Prop) (σ : St) (x1 : Int32) (x2 : Int32)  (out : Int32 × St) (hf : f_X_areTwoBanks n σ x1 x2 = some out) : Met l y_X_areTwoBanks ws_X_areTwoBanks ({ frames := 1, cells := 0, slots := 0, locals := 21 }) (va_Pc [.ref (ad 0 0), .int x1, .int x2] (fun U => CW D cA ad n A σ U.heap ∧ va_K D vCl (atys cA) U)) (va_Qi (fun r u => (r, u) = out) (fun u t => CW D cA ad n A u t.heap ∧ va_K D vCl (atys cA) t) A) 0 0 A := by
  refine Met.ofW (cc := prog_1_method_20_code) (maxL := 3) (ret := (some .boolean)) (by decide) rfl ?_
  intro p e s m args below meth c s₁ B hml hv
  obtain ⟨rfl, hW, hK⟩ := hv
  have hx := B.exec
  have hb := B.bytes
  have hr := B.returns
  have hts := atoms_spec (ws := ws_X_areTwoBanks) B.pre
  have ht : ∀ w ∈ TB, w.before _ s = true := fun w h => hts w (List.mem_cons_of_mem _ h)
  have hown : s.vm.findClass "GridlockDesk" = some m.cls := findClass_of_methodNamed B.named
  have hlocks := B.notSynchronized
  have hS : va_S A s.heap s.heap [] := va_S.rf
  have hl := lv_entry ([.ref (ad 0 0), .int x1, .int x2]) (n := 3) (Nat.le_of_ble_eq_true rfl)
  rw [lg_entry_eq]
  generalize (lg_sl ([.ref (ad 0 0), .int x1, .int x2]) ++ List.replicate (3 - (lg_sl ([.ref (ad 0 0), .int x1, .int x2])).length) Slot.unset).toArray = ls at hl ⊢
  have hl : lv_has ls 3 [(0, .ref (ad 0 0)), (1, .int x1), (2, .int x2)] := hl
  unfold f_X_areTwoBanks at hf
  refine lv_aload_n hx hb d_X_areTwoBanks_0 rfl (lv_at hl 0 rfl) ?_
  refine lv_iload_n hx hb d_X_areTwoBanks_1 rfl (lv_at hl 1 rfl) ?_
  obtain ⟨o1, ho1, hf⟩ := og_b hf
  refine kc_i (P := (fun u H => CW D cA ad n A u H)) (va_runV (C := "GridlockDesk") (As := [.int _]) (rest := []) ⟨hx, hb, hml, hown, hts⟩ (m_X_isBank l D cA ad n A _  _  o1 ho1) (cwV 1 hts (tb_V tw_117 tw_119 tw_0 tw_31 tw_120) rfl rfl rfl (by decide +kernel) ⟨Nat.le_of_ble_eq_true rfl, Nat.le_of_ble_eq_true rfl⟩) ⟨k_blind, kw.recv hK hW.1 (t := 0) rfl rfl rfl, k_pre hW hK⟩ rfl rfl hl.1 rfl (lv_room (Nat.le_of_ble_eq_true rfl)) d_X_areTwoBanks_2 ⟨Nat.zero_le _, Nat.zero_le _⟩) hS (fun H locs hW hS => ?_)
  refine lv_if_eq (tgt := 25) hx hb d_X_areTwoBanks_5 rfl (fun hc => ?_) (fun hc => ?_)
  · replace hf := og_t hc hf
    refine lv_iconst (v := 0) hx hb d_X_areTwoBanks_25 (by decide) ?_
    exact W.zret hx hb hr rfl (fun t ht hWm => ⟨⟨_, _, rfl, Option.some.inj hf, by rw [ht]; exact hW, va_K.moved hWm.alike hK⟩, hS.F ht⟩) hS.2.2 d_X_areTwoBanks_26
  · replace hf := og_f hc hf
    refine lv_aload_n hx hb d_X_areTwoBanks_8 rfl (lv_at hl 0 rfl) ?_
    refine lv_iload_n hx hb d_X_areTwoBanks_9 rfl (lv_at hl 2 rfl) ?_
    obtain ⟨o2, ho2, hf⟩ := og_b hf
    refine kc_i (P := (fun u H => CW D cA ad n A u H)) (va_runV (C := "GridlockDesk") (As := [.int _]) (rest := []) ⟨hx, hb, hml, hown, hts⟩ (m_X_isBank l D cA ad n A _  _  o2 ho2) (cwV 1 hts (tb_V tw_117 tw_119 tw_0 tw_31 tw_120) rfl rfl rfl (by decide +kernel) ⟨Nat.le_of_ble_eq_true rfl, Nat.le_of_ble_eq_true rfl⟩) ⟨k_blind, kw.recv hK hW.1 (t := 0) rfl rfl rfl, k_pre hW hK⟩ rfl rfl hl.1 rfl (lv_room (Nat.le_of_ble_eq_true rfl)) d_X_areTwoBanks_10 ⟨Nat.zero_le _, Nat.zero_le _⟩) hS (fun H locs hW hS => ?_)
    refine lv_if_eq (tgt := 25) hx hb d_X_areTwoBanks_13 rfl (fun hc => ?_) (fun hc => ?_)
    · replace hf := og_t hc hf
      refine lv_iconst (v := 0) hx hb d_X_areTwoBanks_25 (by decide) ?_
      exact W.zret hx hb hr rfl (fun t ht hWm => ⟨⟨_, _, rfl, Option.some.inj hf, by rw [ht]; exact hW, va_K.moved hWm.alike hK⟩, hS.F ht⟩) hS.2.2 d_X_areTwoBanks_26
    · replace hf := og_f hc hf
      refine lv_iload_n hx hb d_X_areTwoBanks_16 rfl (lv_at hl 1 rfl) ?_
      refine lv_iload_n hx hb d_X_areTwoBanks_17 rfl (lv_at hl 2 rfl) ?_
      refine lv_icmp_eq (tgt := 25) hx hb d_X_areTwoBanks_18 rfl (fun hc => ?_) (fun hc => ?_)
      · replace hf := og_t hc hf
        refine lv_iconst (v := 0) hx hb d_X_areTwoBanks_25 (by decide) ?_
        exact W.zret hx hb hr rfl (fun t ht hWm => ⟨⟨_, _, rfl, Option.some.inj hf, by rw [ht]; exact hW, va_K.moved hWm.alike hK⟩, hS.F ht⟩) hS.2.2 d_X_areTwoBanks_26
      · replace hf := og_f hc hf
        refine lv_iconst (v := 1) hx hb d_X_areTwoBanks_21 (by decide) ?_
        refine lv_goto (tgt := 26) hx hb d_X_areTwoBanks_22 rfl ?_
        exact W.zret hx hb hr rfl (fun t ht hWm => ⟨⟨_, _, rfl, Option.some.inj hf, by rw [ht]; exact hW, va_K.moved hWm.alike hK⟩, hS.F ht⟩) hS.2.2 d_X_areTwoBanks_26

set_option maxHeartbeats 4000000 in
set_option maxRecDepth 100000 in
theorem m_X_isPayment (l : Launch) (D : va_G) (cA : Nat → ClassId) (ad : Nat → Nat → Nat) (n : Nat) (A : Nat → Prop) (σ : St) (x1 : Int32)  (out : Int32 × St) (hf : f_X_isPayment n σ x1 = some out) : Met l y_X_isPayment ws_X_isPayment ({ frames := 0, cells := 0, slots := 0, locals := 0 }) (va_Pc [.ref (ad 0 0), .int x1] (fun U => CW D cA ad n A σ U.heap ∧ va_K D vCl (atys cA) U)) (va_Qi (fun r u => (r, u) = out) (fun u t => CW D cA ad n A u t.heap ∧ va_K D vCl (atys cA) t) A) 0 0 A := by
  refine Met.ofW (cc := prog_1_method_21_code) (maxL := 2) (ret := (some .boolean)) (by decide) rfl ?_
  intro p e s m args below meth c s₁ B hml hv
  obtain ⟨rfl, hW, hK⟩ := hv
  have hx := B.exec
  have hb := B.bytes
  have hr := B.returns
  have hts := atoms_spec (ws := ws_X_isPayment) B.pre
  have ht : ∀ w ∈ TB, w.before _ s = true := fun w h => hts w (List.mem_cons_of_mem _ h)
  have hown : s.vm.findClass "GridlockDesk" = some m.cls := findClass_of_methodNamed B.named
  have hlocks := B.notSynchronized
  have hS : va_S A s.heap s.heap [] := va_S.rf
  have hl := lv_entry ([.ref (ad 0 0), .int x1]) (n := 2) (Nat.le_of_ble_eq_true rfl)
  rw [lg_entry_eq]
  generalize (lg_sl ([.ref (ad 0 0), .int x1]) ++ List.replicate (2 - (lg_sl ([.ref (ad 0 0), .int x1])).length) Slot.unset).toArray = ls at hl ⊢
  have hl : lv_has ls 2 [(0, .ref (ad 0 0)), (1, .int x1)] := hl
  unfold f_X_isPayment at hf
  refine lv_iload_n hx hb d_X_isPayment_0 rfl (lv_at hl 1 rfl) ?_
  refine lv_if_lt (tgt := 16) hx hb d_X_isPayment_1 rfl (fun hc => ?_) (fun hc => ?_)
  · replace hf := og_t hc hf
    refine lv_iconst (v := 0) hx hb d_X_isPayment_16 (by decide) ?_
    exact W.zret hx hb hr rfl (fun t ht hWm => ⟨⟨_, _, rfl, Option.some.inj hf, by rw [ht]; exact hW, va_K.moved hWm.alike hK⟩, hS.F ht⟩) hS.2.2 d_X_isPayment_17
  · replace hf := og_f hc hf
    refine lv_iload_n hx hb d_X_isPayment_4 rfl (lv_at hl 1 rfl) ?_
    refine lv_aload_n hx hb d_X_isPayment_5 rfl (lv_at hl 0 rfl) ?_
    refine va_get (D := D) (ci := 2) (C := "GridlockDesk") (T := T_X) (N := 6) hx hb ht hin_X hown hK (hW.1.one (t := 0) rfl) 0 rfl rfl 2 (by decide) (ht _ tw_95) (fun _ h9 => h9) rfl d_X_isPayment_6 ?_
    refine lv_icmp_ge (tgt := 16) hx hb d_X_isPayment_9 rfl (fun hc => ?_) (fun hc => ?_)
    · replace hf := og_t hc hf
      refine lv_iconst (v := 0) hx hb d_X_isPayment_16 (by decide) ?_
      exact W.zret hx hb hr rfl (fun t ht hWm => ⟨⟨_, _, rfl, Option.some.inj hf, by rw [ht]; exact hW, va_K.moved hWm.alike hK⟩, hS.F ht⟩) hS.2.2 d_X_isPayment_17
    · replace hf := og_f hc hf
      refine lv_iconst (v := 1) hx hb d_X_isPayment_12 (by decide) ?_
      refine lv_goto (tgt := 17) hx hb d_X_isPayment_13 rfl ?_
      exact W.zret hx hb hr rfl (fun t ht hWm => ⟨⟨_, _, rfl, Option.some.inj hf, by rw [ht]; exact hW, va_K.moved hWm.alike hK⟩, hS.F ht⟩) hS.2.2 d_X_isPayment_17

set_option maxHeartbeats 4000000 in
set_option maxRecDepth 100000 in
theorem m_X_isQueued (l : Launch) (D : va_G) (cA : Nat → ClassId) (ad : Nat → Nat → Nat) (n : Nat) (A : Nat → Prop) (σ : St) (x1 : Int32)  (out : Int32 × St) (hf : f_X_isQueued n σ x1 = some out) : Met l y_X_isQueued ws_X_isQueued ({ frames := 1, cells := 0, slots := 0, locals := 21 }) (va_Pc [.ref (ad 0 0), .int x1] (fun U => CW D cA ad n A σ U.heap ∧ va_K D vCl (atys cA) U)) (va_Qi (fun r u => (r, u) = out) (fun u t => CW D cA ad n A u t.heap ∧ va_K D vCl (atys cA) t) A) 0 0 A := by
  refine Met.ofW (cc := prog_1_method_22_code) (maxL := 2) (ret := (some .boolean)) (by decide) rfl ?_
  intro p e s m args below meth c s₁ B hml hv
  obtain ⟨rfl, hW, hK⟩ := hv
  have hx := B.exec
  have hb := B.bytes
  have hr := B.returns
  have hts := atoms_spec (ws := ws_X_isQueued) B.pre
  have ht : ∀ w ∈ TB, w.before _ s = true := fun w h => hts w (List.mem_cons_of_mem _ h)
  have hown : s.vm.findClass "GridlockDesk" = some m.cls := findClass_of_methodNamed B.named
  have hlocks := B.notSynchronized
  have hS : va_S A s.heap s.heap [] := va_S.rf
  have hl := lv_entry ([.ref (ad 0 0), .int x1]) (n := 2) (Nat.le_of_ble_eq_true rfl)
  rw [lg_entry_eq]
  generalize (lg_sl ([.ref (ad 0 0), .int x1]) ++ List.replicate (2 - (lg_sl ([.ref (ad 0 0), .int x1])).length) Slot.unset).toArray = ls at hl ⊢
  have hl : lv_has ls 2 [(0, .ref (ad 0 0)), (1, .int x1)] := hl
  unfold f_X_isQueued at hf
  refine lv_aload_n hx hb d_X_isQueued_0 rfl (lv_at hl 0 rfl) ?_
  refine lv_iload_n hx hb d_X_isQueued_1 rfl (lv_at hl 1 rfl) ?_
  obtain ⟨o1, ho1, hf⟩ := og_b hf
  refine kc_i (P := (fun u H => CW D cA ad n A u H)) (va_runV (C := "GridlockDesk") (As := [.int _]) (rest := []) ⟨hx, hb, hml, hown, hts⟩ (m_X_isPayment l D cA ad n A _  _  o1 ho1) (cwV 1 hts (tb_V tw_262 tw_264 tw_14 tw_31 tw_265) rfl rfl rfl (by decide +kernel) ⟨Nat.le_of_ble_eq_true rfl, Nat.le_of_ble_eq_true rfl⟩) ⟨k_blind, kw.recv hK hW.1 (t := 0) rfl rfl rfl, k_pre hW hK⟩ rfl rfl hl.1 rfl (lv_room (Nat.le_of_ble_eq_true rfl)) d_X_isQueued_2 ⟨Nat.zero_le _, Nat.zero_le _⟩) hS (fun H locs hW hS => ?_)
  refine lv_if_eq (tgt := 24) hx hb d_X_isQueued_5 rfl (fun hc => ?_) (fun hc => ?_)
  · replace hf := og_t hc hf
    refine lv_iconst (v := 0) hx hb d_X_isQueued_24 (by decide) ?_
    exact W.zret hx hb hr rfl (fun t ht hWm => ⟨⟨_, _, rfl, Option.some.inj hf, by rw [ht]; exact hW, va_K.moved hWm.alike hK⟩, hS.F ht⟩) hS.2.2 d_X_isQueued_25
  · replace hf := og_f hc hf
    refine lv_aload_n hx hb d_X_isQueued_8 rfl (lv_at hl 0 rfl) ?_
    refine va_get (D := D) (ci := 2) (C := "GridlockDesk") (T := T_X) (N := 6) hx hb ht hin_X hown hK (hW.1.one (t := 0) rfl) 0 rfl rfl 1 (by decide) (ht _ tw_94) (fun _ h9 => h9) rfl d_X_isQueued_9 ?_
    refine lv_iload_n hx hb d_X_isQueued_12 rfl (lv_at hl 1 rfl) ?_
    obtain ⟨hin2, hf⟩ := og_if hf
    refine va_aldq (D := D) hx hb hK (hW.1.one (t := 2) rfl) 0 3 rfl rfl hin2 d_X_isQueued_13 ?_
    obtain ⟨k3, hk3, hf⟩ := og_b hf
    obtain ⟨ek3, hk3⟩ := dR_spec hk3
    rw [ek3]
    refine W.eq (g2 := F0 m 14 ls [.ref (ad 8 k3)]) rfl ?_
    refine va_get (D := D) (ci := 1) (C := "GridlockDesk$Payment") (T := T_P) (N := 7) hx hb ht hin_P hown hK (hW.1.one (t := 8) hk3) 0 rfl rfl 6 (by decide) (ht _ tw_234) (fun _ h9 => h9) rfl d_X_isQueued_14 ?_
    refine lv_if_ne (tgt := 24) hx hb d_X_isQueued_17 rfl (fun hc => ?_) (fun hc => ?_)
    · replace hf := og_f hc hf
      refine lv_iconst (v := 0) hx hb d_X_isQueued_24 (by decide) ?_
      exact W.zret hx hb hr rfl (fun t ht hWm => ⟨⟨_, _, rfl, Option.some.inj hf, by rw [ht]; exact hW, va_K.moved hWm.alike hK⟩, hS.F ht⟩) hS.2.2 d_X_isQueued_25
    · replace hf := og_t hc hf
      refine lv_iconst (v := 1) hx hb d_X_isQueued_20 (by decide) ?_
      refine lv_goto (tgt := 25) hx hb d_X_isQueued_21 rfl ?_
      exact W.zret hx hb hr rfl (fun t ht hWm => ⟨⟨_, _, rfl, Option.some.inj hf, by rw [ht]; exact hW, va_K.moved hWm.alike hK⟩, hS.F ht⟩) hS.2.2 d_X_isQueued_25

set_option maxHeartbeats 4000000 in
set_option maxRecDepth 100000 in
theorem m_X_isPriority (l : Launch) (D : va_G) (cA : Nat → ClassId) (ad : Nat → Nat → Nat) (n : Nat) (A : Nat → Prop) (σ : St) (x1 : Int32)  (out : Int32 × St) (hf : f_X_isPriority n σ x1 = some out) : Met l y_X_isPriority ws_X_isPriority ({ frames := 0, cells := 0, slots := 0, locals := 0 }) (va_Pc [.int x1] (fun U => CW D cA ad n A σ U.heap ∧ va_K D vCl (atys cA) U)) (va_Qi (fun r u => (r, u) = out) (fun u t => CW D cA ad n A u t.heap ∧ va_K D vCl (atys cA) t) A) 0 0 A := by
  refine Met.ofW (cc := prog_1_method_23_code) (maxL := 1) (ret := (some .boolean)) (by decide) rfl ?_
  intro p e s m args below meth c s₁ B hml hv
  obtain ⟨rfl, hW, hK⟩ := hv
  have hx := B.exec
  have hb := B.bytes
  have hr := B.returns
  have hts := atoms_spec (ws := ws_X_isPriority) B.pre
  have ht : ∀ w ∈ TB, w.before _ s = true := fun w h => hts w (List.mem_cons_of_mem _ h)
  have hown : s.vm.findClass "GridlockDesk" = some m.cls := findClass_of_methodNamed B.named
  have hlocks := B.notSynchronized
  have hS : va_S A s.heap s.heap [] := va_S.rf
  have hl := lv_entry ([.int x1]) (n := 1) (Nat.le_of_ble_eq_true rfl)
  rw [lg_entry_eq]
  generalize (lg_sl ([.int x1]) ++ List.replicate (1 - (lg_sl ([.int x1])).length) Slot.unset).toArray = ls at hl ⊢
  have hl : lv_has ls 1 [(0, .int x1)] := hl
  unfold f_X_isPriority at hf
  refine lv_iload_n hx hb d_X_isPriority_0 rfl (lv_at hl 0 rfl) ?_
  refine lv_if_lt (tgt := 13) hx hb d_X_isPriority_1 rfl (fun hc => ?_) (fun hc => ?_)
  · replace hf := og_t hc hf
    refine lv_iconst (v := 0) hx hb d_X_isPriority_13 (by decide) ?_
    exact W.zret hx hb hr rfl (fun t ht hWm => ⟨⟨_, _, rfl, Option.some.inj hf, by rw [ht]; exact hW, va_K.moved hWm.alike hK⟩, hS.F ht⟩) hS.2.2 d_X_isPriority_14
  · replace hf := og_f hc hf
    refine lv_iload_n hx hb d_X_isPriority_4 rfl (lv_at hl 0 rfl) ?_
    refine lv_iconst (v := 3) hx hb d_X_isPriority_5 (by decide) ?_
    refine lv_icmp_gt (tgt := 13) hx hb d_X_isPriority_6 rfl (fun hc => ?_) (fun hc => ?_)
    · replace hf := og_t hc hf
      refine lv_iconst (v := 0) hx hb d_X_isPriority_13 (by decide) ?_
      exact W.zret hx hb hr rfl (fun t ht hWm => ⟨⟨_, _, rfl, Option.some.inj hf, by rw [ht]; exact hW, va_K.moved hWm.alike hK⟩, hS.F ht⟩) hS.2.2 d_X_isPriority_14
    · replace hf := og_f hc hf
      refine lv_iconst (v := 1) hx hb d_X_isPriority_9 (by decide) ?_
      refine lv_goto (tgt := 14) hx hb d_X_isPriority_10 rfl ?_
      exact W.zret hx hb hr rfl (fun t ht hWm => ⟨⟨_, _, rfl, Option.some.inj hf, by rw [ht]; exact hW, va_K.moved hWm.alike hK⟩, hS.F ht⟩) hS.2.2 d_X_isPriority_14

set_option maxHeartbeats 4000000 in
set_option maxRecDepth 100000 in
theorem m_X_isLimit (l : Launch) (D : va_G) (cA : Nat → ClassId) (ad : Nat → Nat → Nat) (n : Nat) (A : Nat → Prop) (σ : St) (x1 : Int64)  (out : Int32 × St) (hf : f_X_isLimit n σ x1 = some out) : Met l y_X_isLimit ws_X_isLimit ({ frames := 0, cells := 0, slots := 0, locals := 0 }) (va_Pc [.long x1] (fun U => CW D cA ad n A σ U.heap ∧ va_K D vCl (atys cA) U)) (va_Qi (fun r u => (r, u) = out) (fun u t => CW D cA ad n A u t.heap ∧ va_K D vCl (atys cA) t) A) 0 0 A := by
  refine Met.ofW (cc := prog_1_method_24_code) (maxL := 2) (ret := (some .boolean)) (by decide) rfl ?_
  intro p e s m args below meth c s₁ B hml hv
  obtain ⟨rfl, hW, hK⟩ := hv
  have hx := B.exec
  have hb := B.bytes
  have hr := B.returns
  have hts := atoms_spec (ws := ws_X_isLimit) B.pre
  have ht : ∀ w ∈ TB, w.before _ s = true := fun w h => hts w (List.mem_cons_of_mem _ h)
  have hown : s.vm.findClass "GridlockDesk" = some m.cls := findClass_of_methodNamed B.named
  have hlocks := B.notSynchronized
  have hS : va_S A s.heap s.heap [] := va_S.rf
  have hl := lv_entry ([.long x1]) (n := 2) (Nat.le_of_ble_eq_true rfl)
  rw [lg_entry_eq]
  generalize (lg_sl ([.long x1]) ++ List.replicate (2 - (lg_sl ([.long x1])).length) Slot.unset).toArray = ls at hl ⊢
  have hl : lv_has ls 2 [(0, .long x1)] := hl
  unfold f_X_isLimit at hf
  refine lv_lload_n hx hb d_X_isLimit_0 rfl (lv_at hl 0 rfl) ?_
  refine lv_ldc2 (v := (-1)) hx hb hown (ht _ tw_153) d_X_isLimit_1 ?_
  refine lc_eq (tgt := 22) hx hb d_X_isLimit_4 d_X_isLimit_5 rfl (fun hc => ?_) (fun hc => ?_)
  · replace hf := og_t hc hf
    refine lv_iconst (v := 1) hx hb d_X_isLimit_22 (by decide) ?_
    refine lv_goto (tgt := 27) hx hb d_X_isLimit_23 rfl ?_
    exact W.zret hx hb hr rfl (fun t ht hWm => ⟨⟨_, _, rfl, Option.some.inj hf, by rw [ht]; exact hW, va_K.moved hWm.alike hK⟩, hS.F ht⟩) hS.2.2 d_X_isLimit_27
  · replace hf := og_f hc hf
    refine lv_lload_n hx hb d_X_isLimit_8 rfl (lv_at hl 0 rfl) ?_
    refine lv_lconst (v := 0) hx hb d_X_isLimit_9 (by decide) ?_
    refine lc_lt (tgt := 26) hx hb d_X_isLimit_10 d_X_isLimit_11 rfl (fun hc => ?_) (fun hc => ?_)
    · replace hf := og_t hc hf
      refine lv_iconst (v := 0) hx hb d_X_isLimit_26 (by decide) ?_
      exact W.zret hx hb hr rfl (fun t ht hWm => ⟨⟨_, _, rfl, Option.some.inj hf, by rw [ht]; exact hW, va_K.moved hWm.alike hK⟩, hS.F ht⟩) hS.2.2 d_X_isLimit_27
    · replace hf := og_f hc hf
      refine lv_lload_n hx hb d_X_isLimit_14 rfl (lv_at hl 0 rfl) ?_
      refine lv_ldc2 (v := 1000000000000000) hx hb hown (ht _ tw_186) d_X_isLimit_15 ?_
      refine lc_gt (tgt := 26) hx hb d_X_isLimit_18 d_X_isLimit_19 rfl (fun hc => ?_) (fun hc => ?_)
      · replace hf := og_t hc hf
        refine lv_iconst (v := 0) hx hb d_X_isLimit_26 (by decide) ?_
        exact W.zret hx hb hr rfl (fun t ht hWm => ⟨⟨_, _, rfl, Option.some.inj hf, by rw [ht]; exact hW, va_K.moved hWm.alike hK⟩, hS.F ht⟩) hS.2.2 d_X_isLimit_27
      · replace hf := og_f hc hf
        refine lv_iconst (v := 1) hx hb d_X_isLimit_22 (by decide) ?_
        refine lv_goto (tgt := 27) hx hb d_X_isLimit_23 rfl ?_
        exact W.zret hx hb hr rfl (fun t ht hWm => ⟨⟨_, _, rfl, Option.some.inj hf, by rw [ht]; exact hW, va_K.moved hWm.alike hK⟩, hS.F ht⟩) hS.2.2 d_X_isLimit_27

set_option maxHeartbeats 4000000 in
set_option maxRecDepth 100000 in
theorem m_X_exceeds (l : Launch) (D : va_G) (cA : Nat → ClassId) (ad : Nat → Nat → Nat) (n : Nat) (A : Nat → Prop) (σ : St) (x1 : Int64) (x2 : Int64)  (out : Int32 × St) (hf : f_X_exceeds n σ x1 x2 = some out) : Met l y_X_exceeds ws_X_exceeds ({ frames := 0, cells := 0, slots := 0, locals := 0 }) (va_Pc [.long x1, .long x2] (fun U => CW D cA ad n A σ U.heap ∧ va_K D vCl (atys cA) U)) (va_Qi (fun r u => (r, u) = out) (fun u t => CW D cA ad n A u t.heap ∧ va_K D vCl (atys cA) t) A) 0 0 A := by
  refine Met.ofW (cc := prog_1_method_25_code) (maxL := 4) (ret := (some .boolean)) (by decide) rfl ?_
  intro p e s m args below meth c s₁ B hml hv
  obtain ⟨rfl, hW, hK⟩ := hv
  have hx := B.exec
  have hb := B.bytes
  have hr := B.returns
  have hts := atoms_spec (ws := ws_X_exceeds) B.pre
  have ht : ∀ w ∈ TB, w.before _ s = true := fun w h => hts w (List.mem_cons_of_mem _ h)
  have hown : s.vm.findClass "GridlockDesk" = some m.cls := findClass_of_methodNamed B.named
  have hlocks := B.notSynchronized
  have hS : va_S A s.heap s.heap [] := va_S.rf
  have hl := lv_entry ([.long x1, .long x2]) (n := 4) (Nat.le_of_ble_eq_true rfl)
  rw [lg_entry_eq]
  generalize (lg_sl ([.long x1, .long x2]) ++ List.replicate (4 - (lg_sl ([.long x1, .long x2])).length) Slot.unset).toArray = ls at hl ⊢
  have hl : lv_has ls 4 [(0, .long x1), (2, .long x2)] := hl
  unfold f_X_exceeds at hf
  refine lv_lload_n hx hb d_X_exceeds_0 rfl (lv_at hl 1 rfl) ?_
  refine lv_ldc2 (v := (-1)) hx hb hown (ht _ tw_153) d_X_exceeds_1 ?_
  refine lc_eq (tgt := 18) hx hb d_X_exceeds_4 d_X_exceeds_5 rfl (fun hc => ?_) (fun hc => ?_)
  · replace hf := og_t hc hf
    refine lv_iconst (v := 0) hx hb d_X_exceeds_18 (by decide) ?_
    exact W.zret hx hb hr rfl (fun t ht hWm => ⟨⟨_, _, rfl, Option.some.inj hf, by rw [ht]; exact hW, va_K.moved hWm.alike hK⟩, hS.F ht⟩) hS.2.2 d_X_exceeds_19
  · replace hf := og_f hc hf
    refine lv_lload_n hx hb d_X_exceeds_8 rfl (lv_at hl 0 rfl) ?_
    refine lv_lload_n hx hb d_X_exceeds_9 rfl (lv_at hl 1 rfl) ?_
    refine lc_le (tgt := 18) hx hb d_X_exceeds_10 d_X_exceeds_11 rfl (fun hc => ?_) (fun hc => ?_)
    · replace hf := og_t hc hf
      refine lv_iconst (v := 0) hx hb d_X_exceeds_18 (by decide) ?_
      exact W.zret hx hb hr rfl (fun t ht hWm => ⟨⟨_, _, rfl, Option.some.inj hf, by rw [ht]; exact hW, va_K.moved hWm.alike hK⟩, hS.F ht⟩) hS.2.2 d_X_exceeds_19
    · replace hf := og_f hc hf
      refine lv_iconst (v := 1) hx hb d_X_exceeds_14 (by decide) ?_
      refine lv_goto (tgt := 19) hx hb d_X_exceeds_15 rfl ?_
      exact W.zret hx hb hr rfl (fun t ht hWm => ⟨⟨_, _, rfl, Option.some.inj hf, by rw [ht]; exact hW, va_K.moved hWm.alike hK⟩, hS.F ht⟩) hS.2.2 d_X_exceeds_19

set_option maxHeartbeats 4000000 in
set_option maxRecDepth 100000 in
theorem m_X_positionOf (l : Launch) (D : va_G) (cA : Nat → ClassId) (ad : Nat → Nat → Nat) (n : Nat) (A : Nat → Prop) (σ : St) (x1 : Int32) (x2 : Int32)  (out : Int64 × St) (hf : f_X_positionOf n σ x1 x2 = some out) : Met l y_X_positionOf ws_X_positionOf ({ frames := 0, cells := 0, slots := 0, locals := 0 }) (va_Pc [.ref (ad 0 0), .int x1, .int x2] (fun U => CW D cA ad n A σ U.heap ∧ va_K D vCl (atys cA) U)) (va_Ql (fun r u => (r, u) = out) (fun u t => CW D cA ad n A u t.heap ∧ va_K D vCl (atys cA) t) A) 0 0 A := by
  refine Met.ofW (cc := prog_1_method_26_code) (maxL := 3) (ret := (some .long)) (by decide) rfl ?_
  intro p e s m args below meth c s₁ B hml hv
  obtain ⟨rfl, hW, hK⟩ := hv
  have hx := B.exec
  have hb := B.bytes
  have hr := B.returns
  have hts := atoms_spec (ws := ws_X_positionOf) B.pre
  have ht : ∀ w ∈ TB, w.before _ s = true := fun w h => hts w (List.mem_cons_of_mem _ h)
  have hown : s.vm.findClass "GridlockDesk" = some m.cls := findClass_of_methodNamed B.named
  have hlocks := B.notSynchronized
  have hS : va_S A s.heap s.heap [] := va_S.rf
  have hl := lv_entry ([.ref (ad 0 0), .int x1, .int x2]) (n := 3) (Nat.le_of_ble_eq_true rfl)
  rw [lg_entry_eq]
  generalize (lg_sl ([.ref (ad 0 0), .int x1, .int x2]) ++ List.replicate (3 - (lg_sl ([.ref (ad 0 0), .int x1, .int x2])).length) Slot.unset).toArray = ls at hl ⊢
  have hl : lv_has ls 3 [(0, .ref (ad 0 0)), (1, .int x1), (2, .int x2)] := hl
  unfold f_X_positionOf at hf
  refine lv_aload_n hx hb d_X_positionOf_0 rfl (lv_at hl 0 rfl) ?_
  refine va_get (D := D) (ci := 2) (C := "GridlockDesk") (T := T_X) (N := 6) hx hb ht hin_X hown hK (hW.1.one (t := 0) rfl) 0 rfl rfl 0 (by decide) (ht _ tw_93) (fun _ h9 => h9) rfl d_X_positionOf_1 ?_
  refine lv_iload_n hx hb d_X_positionOf_4 rfl (lv_at hl 1 rfl) ?_
  obtain ⟨hin1, hf⟩ := og_if hf
  refine va_aldq (D := D) hx hb hK (hW.1.one (t := 1) rfl) 0 2 rfl rfl hin1 d_X_positionOf_5 ?_
  refine W.eq (g2 := F0 m 6 ls (.ref (ad 4 _) :: [])) rfl ?_
  refine va_get (D := D) (ci := 0) (C := "GridlockDesk$Bank") (T := T_B) (N := 7) hx hb ht hin_B hown hK (hW.1.one (t := 4) (vin_lt hin1)) 0 rfl rfl 4 (by decide) (ht _ tw_71) (fun _ h9 => h9) rfl d_X_positionOf_6 ?_
  refine lv_iload_n hx hb d_X_positionOf_9 rfl (lv_at hl 2 rfl) ?_
  obtain ⟨hin2, hf⟩ := og_if hf
  refine va_lald (D := D) hx hb hK (hW.1.one (t := 6) (vin_lt hin1)) 0 0 rfl rfl hin2 d_X_positionOf_10 ?_
  refine lv_aload_n hx hb d_X_positionOf_11 rfl (lv_at hl 0 rfl) ?_
  refine va_get (D := D) (ci := 2) (C := "GridlockDesk") (T := T_X) (N := 6) hx hb ht hin_X hown hK (hW.1.one (t := 0) rfl) 0 rfl rfl 0 (by decide) (ht _ tw_93) (fun _ h9 => h9) rfl d_X_positionOf_12 ?_
  refine lv_iload_n hx hb d_X_positionOf_15 rfl (lv_at hl 2 rfl) ?_
  obtain ⟨hin3, hf⟩ := og_if hf
  refine va_aldq (D := D) hx hb hK (hW.1.one (t := 1) rfl) 0 2 rfl rfl hin3 d_X_positionOf_16 ?_
  refine W.eq (g2 := F0 m 17 ls (.ref (ad 4 _) :: [_])) rfl ?_
  refine va_get (D := D) (ci := 0) (C := "GridlockDesk$Bank") (T := T_B) (N := 7) hx hb ht hin_B hown hK (hW.1.one (t := 4) (vin_lt hin3)) 0 rfl rfl 4 (by decide) (ht _ tw_71) (fun _ h9 => h9) rfl d_X_positionOf_17 ?_
  refine lv_iload_n hx hb d_X_positionOf_20 rfl (lv_at hl 1 rfl) ?_
  obtain ⟨hin4, hf⟩ := og_if hf
  refine va_lald (D := D) hx hb hK (hW.1.one (t := 6) (vin_lt hin3)) 0 0 rfl rfl hin4 d_X_positionOf_21 ?_
  refine lv_lsub hx hb d_X_positionOf_22 ?_
  exact W.lret hx hb hr (fun t ht hWm => ⟨⟨_, _, rfl, Option.some.inj hf, by rw [ht]; exact hW, va_K.moved hWm.alike hK⟩, hS.F ht⟩) hS.2.2 d_X_positionOf_23

set_option maxHeartbeats 4000000 in
set_option maxRecDepth 100000 in
theorem lp_X_totalPositionOf_5_ok {p : Program} {l : Launch} {e : Env} {s : State} {m : MethodId} {args : Array Value} {below : List Frame} {meth : Method} {c : Code} (D : va_G) (cA : Nat → ClassId) (ad : Nat → Nat → Nat) (n : Nat) (A : Nat → Prop) (hx : p.tables.exec = Jvm.exec) (hb : c.code = prog_1_method_27_code) (hml : c.maxLocals = 5) (hr : meth.sig.returnType = (some .long)) (hts : ∀ w ∈ ws_X_totalPositionOf, w.before args s = true) (hown : s.vm.findClass "GridlockDesk" = some m.cls) (hlocks : meth.locks = false) (hK : va_K D vCl (atys cA) s) (k : St → Int64 → Option (Int64 × St)) (out : Int64 × St) (v1 : Int32) (hk : ∀ (σ : St) (v2 : Int64) (H : Heap) (locs : List Loc) (ls : Array Slot), lv_has ls 5 [(2, .long v2)] → CW D cA ad n A σ H → va_S A s.heap H locs → k σ v2 = some out → W p l e (headSpec ws_X_totalPositionOf ({ frames := 1, cells := 0, slots := 0, locals := 22 })).room s m args below meth c H locs 0 0 (MQ below (va_Ql (fun r u => (r, u) = out) (fun u t => CW D cA ad n A u t.heap ∧ va_K D vCl (atys cA) t) A) args s 0 0 A) (F0 m 31 ls [])) : ∀ (fu : Nat) (σ : St) (v2 : Int64) (v4 : Int32) (H : Heap) (locs : List Loc) (ls : Array Slot), lv_has ls 5 [(0, .ref (ad 0 0)), (1, .int v1), (2, .long v2), (4, .int v4)] → CW D cA ad n A σ H → va_S A s.heap H locs → lp_X_totalPositionOf_5 n k fu σ v1 v2 v4 = some out → W p l e (headSpec ws_X_totalPositionOf ({ frames := 1, cells := 0, slots := 0, locals := 22 })).room s m args below meth c H locs 0 0 (MQ below (va_Ql (fun r u => (r, u) = out) (fun u t => CW D cA ad n A u t.heap ∧ va_K D vCl (atys cA) t) A) args s 0 0 A) (F0 m 5 ls []) := by
  intro fu
  induction fu with
  | zero =>
    intro σ v2 v4 H locs ls  hl hW hS hf
    exact og_n hf
  | succ fu ih =>
    intro σ v2 v4 H locs ls  hl hW hS hf
    rw [lp_X_totalPositionOf_5_s] at hf
    have ht : ∀ w ∈ TB, w.before args s = true := fun w h => hts w (List.mem_cons_of_mem _ h)
    refine lv_iload hx hb d_X_totalPositionOf_5 (lv_at hl 3 rfl) ?_
    refine lv_aload_n hx hb d_X_totalPositionOf_7 rfl (lv_at hl 0 rfl) ?_
    refine va_get (D := D) (ci := 2) (C := "GridlockDesk") (T := T_X) (N := 6) hx hb ht hin_X hown hK (hW.1.one (t := 0) rfl) 0 rfl rfl 0 (by decide) (ht _ tw_93) (fun _ h9 => h9) rfl d_X_totalPositionOf_8 ?_
    refine va_alen (D := D) (v := nI n) hx hb hK (hW.1.one (t := 1) rfl) 0 2 rfl rfl rfl d_X_totalPositionOf_11 ?_
    refine lv_icmp_ge (tgt := 31) hx hb d_X_totalPositionOf_12 rfl (fun hc => ?_) (fun hc => ?_)
    · replace hf := og_t hc hf
      exact hk _ _ _ _ _  (lv_sub hl [2] rfl) hW hS hf
    · replace hf := og_f hc hf
      refine lv_lload_n hx hb d_X_totalPositionOf_15 rfl (lv_at hl 2 rfl) ?_
      refine lv_aload_n hx hb d_X_totalPositionOf_16 rfl (lv_at hl 0 rfl) ?_
      refine lv_iload_n hx hb d_X_totalPositionOf_17 rfl (lv_at hl 1 rfl) ?_
      refine lv_iload hx hb d_X_totalPositionOf_18 (lv_at hl 3 rfl) ?_
      obtain ⟨o1, ho1, hf⟩ := og_b hf
      refine kc_l (P := (fun u H => CW D cA ad n A u H)) (va_runV (C := "GridlockDesk") (As := [.int _, .int _]) (rest := [.long _]) ⟨hx, hb, hml, hown, hts⟩ (m_X_positionOf l D cA ad n A _  _ _  o1 ho1) (cwV 2 hts (tb_V tw_154 tw_156 tw_6 tw_31 tw_157) rfl rfl rfl (by decide +kernel) ⟨Nat.le_of_ble_eq_true rfl, Nat.le_of_ble_eq_true rfl⟩) ⟨k_blind, kw.recv hK hW.1 (t := 0) rfl rfl rfl, k_pre hW hK⟩ rfl rfl hl.1 rfl (lv_room (Nat.le_of_ble_eq_true rfl)) d_X_totalPositionOf_20 ⟨Nat.zero_le _, Nat.zero_le _⟩) hS (fun H locs hW hS => ?_)
      refine lv_ladd hx hb d_X_totalPositionOf_23 ?_
      refine lv_lstore_n (lv' := [(2, .long _), (0, .ref _), (1, .int _), (4, .int _)]) hx hb d_X_totalPositionOf_24 rfl hl (by decide) rfl (fun ls hl => ?_)
      refine lv_iinc (k := 3) (v := _ + 1) (lv' := [(4, .int _), (2, .long _), (0, .ref _), (1, .int _)]) hx hb d_X_totalPositionOf_25 hl rfl rfl (by decide) rfl (fun ls hl => ?_)
      refine lv_goto (tgt := 5) hx hb d_X_totalPositionOf_28 rfl ?_
      exact ih _ _ _ _ _ _  (lv_sub hl [2, 3, 1, 0] rfl) hW hS hf

set_option maxHeartbeats 4000000 in
set_option maxRecDepth 100000 in
theorem m_X_totalPositionOf (l : Launch) (D : va_G) (cA : Nat → ClassId) (ad : Nat → Nat → Nat) (n : Nat) (A : Nat → Prop) (σ : St) (x1 : Int32)  (out : Int64 × St) (hf : f_X_totalPositionOf n σ x1 = some out) : Met l y_X_totalPositionOf ws_X_totalPositionOf ({ frames := 1, cells := 0, slots := 0, locals := 22 }) (va_Pc [.ref (ad 0 0), .int x1] (fun U => CW D cA ad n A σ U.heap ∧ va_K D vCl (atys cA) U)) (va_Ql (fun r u => (r, u) = out) (fun u t => CW D cA ad n A u t.heap ∧ va_K D vCl (atys cA) t) A) 0 0 A := by
  refine Met.ofW (cc := prog_1_method_27_code) (maxL := 5) (ret := (some .long)) (by decide) rfl ?_
  intro p e s m args below meth c s₁ B hml hv
  obtain ⟨rfl, hW, hK⟩ := hv
  have hx := B.exec
  have hb := B.bytes
  have hr := B.returns
  have hts := atoms_spec (ws := ws_X_totalPositionOf) B.pre
  have ht : ∀ w ∈ TB, w.before _ s = true := fun w h => hts w (List.mem_cons_of_mem _ h)
  have hown : s.vm.findClass "GridlockDesk" = some m.cls := findClass_of_methodNamed B.named
  have hlocks := B.notSynchronized
  have hS : va_S A s.heap s.heap [] := va_S.rf
  have hl := lv_entry ([.ref (ad 0 0), .int x1]) (n := 5) (Nat.le_of_ble_eq_true rfl)
  rw [lg_entry_eq]
  generalize (lg_sl ([.ref (ad 0 0), .int x1]) ++ List.replicate (5 - (lg_sl ([.ref (ad 0 0), .int x1])).length) Slot.unset).toArray = ls at hl ⊢
  have hl : lv_has ls 5 [(0, .ref (ad 0 0)), (1, .int x1)] := hl
  unfold f_X_totalPositionOf at hf
  refine lv_lconst (v := 0) hx hb d_X_totalPositionOf_0 (by decide) ?_
  refine lv_lstore_n (lv' := [(2, .long _), (0, .ref _), (1, .int _)]) hx hb d_X_totalPositionOf_1 rfl hl (by decide) rfl (fun ls hl => ?_)
  refine lv_iconst (v := 0) hx hb d_X_totalPositionOf_2 (by decide) ?_
  refine lv_istore (lv' := [(4, .int _), (2, .long _), (0, .ref _), (1, .int _)]) hx hb d_X_totalPositionOf_3 hl (by decide) rfl (fun ls hl => ?_)
  refine lp_X_totalPositionOf_5_ok D cA ad n A hx hb hml hr hts hown hlocks hK _ _ _ (fun σ3 y2_2 H locs ls  hl hW hS hf => ?_) _ _ _ _ _ _ _  (lv_sub hl [2, 3, 1, 0] rfl) hW hS hf
  refine lv_lload_n hx hb d_X_totalPositionOf_31 rfl (lv_at hl 0 rfl) ?_
  exact W.lret hx hb hr (fun t ht hWm => ⟨⟨_, _, rfl, Option.some.inj hf, by rw [ht]; exact hW, va_K.moved hWm.alike hK⟩, hS.F ht⟩) hS.2.2 d_X_totalPositionOf_32

set_option maxHeartbeats 4000000 in
set_option maxRecDepth 100000 in
theorem m_X_end (l : Launch) (D : va_G) (cA : Nat → ClassId) (ad : Nat → Nat → Nat) (n : Nat) (A : Nat → Prop) (σ : St) (x1 : Nat) (x2 : Int32)  (out : Unit × St) (hf : f_X_end n σ x1 x2 = some out) : Met l y_X_end ws_X_end ({ frames := 1, cells := 0, slots := 0, locals := 23 }) (va_Pc [.ref (ad 0 0), .ref (ad 8 x1), .int x2] (fun U => CW D cA ad n A σ U.heap ∧ va_K D vCl (atys cA) U)) (va_Qv (fun u => ((), u) = out) (fun u t => CW D cA ad n A u t.heap ∧ va_K D vCl (atys cA) t) A) 0 0 A := by
  refine Met.ofW (cc := prog_1_method_37_code) (maxL := 3) (ret := none) (by decide) rfl ?_
  intro p e s m args below meth c s₁ B hml hv
  obtain ⟨rfl, hW, hK⟩ := hv
  have hx := B.exec
  have hb := B.bytes
  have hr := B.returns
  have hts := atoms_spec (ws := ws_X_end) B.pre
  have ht : ∀ w ∈ TB, w.before _ s = true := fun w h => hts w (List.mem_cons_of_mem _ h)
  have hown : s.vm.findClass "GridlockDesk" = some m.cls := findClass_of_methodNamed B.named
  have hlocks := B.notSynchronized
  have hS : va_S A s.heap s.heap [] := va_S.rf
  have hl := lv_entry ([.ref (ad 0 0), .ref (ad 8 x1), .int x2]) (n := 3) (Nat.le_of_ble_eq_true rfl)
  rw [lg_entry_eq]
  generalize (lg_sl ([.ref (ad 0 0), .ref (ad 8 x1), .int x2]) ++ List.replicate (3 - (lg_sl ([.ref (ad 0 0), .ref (ad 8 x1), .int x2])).length) Slot.unset).toArray = ls at hl ⊢
  have hl : lv_has ls 3 [(0, .ref (ad 0 0)), (1, .ref (ad 8 x1)), (2, .int x2)] := hl
  unfold f_X_end at hf
  refine lv_aload_n hx hb d_X_end_0 rfl (lv_at hl 0 rfl) ?_
  refine va_get (D := D) (ci := 2) (C := "GridlockDesk") (T := T_X) (N := 6) hx hb ht hin_X hown hK (hW.1.one (t := 0) rfl) 0 rfl rfl 0 (by decide) (ht _ tw_93) (fun _ h9 => h9) rfl d_X_end_1 ?_
  refine lv_aload_n hx hb d_X_end_4 rfl (lv_at hl 1 rfl) ?_
  obtain ⟨hn1, hf⟩ := og_if hf
  refine va_get (D := D) (ci := 1) (C := "GridlockDesk$Payment") (T := T_P) (N := 7) hx hb ht hin_P hown hK (hW.1.one (t := 8) hn1) 0 rfl rfl 1 (by decide) (ht _ tw_221) (fun _ h9 => h9) rfl d_X_end_5 ?_
  obtain ⟨hin2, hf⟩ := og_if hf
  refine va_aldq (D := D) hx hb hK (hW.1.one (t := 1) rfl) 0 2 rfl rfl hin2 d_X_end_8 ?_
  refine W.eq (g2 := F0 m 9 ls (.ref (ad 4 _) :: [])) rfl ?_
  refine lv_aload_n hx hb d_X_end_9 rfl (lv_at hl 1 rfl) ?_
  obtain ⟨o3, ho3, hf⟩ := og_b hf
  refine kc_v (P := (fun u H => CW D cA ad n A u H)) (va_runV (C := "GridlockDesk$Bank") (As := [.ref _]) (rest := []) ⟨hx, hb, hml, hown, hts⟩ (m_B_remove l D cA ad n A _ _ _ (vin_lt hin2) o3 ho3) (cwV 1 hts (tb_V tw_170 tw_171 tw_172 tw_33 tw_173) rfl rfl rfl (by decide +kernel) ⟨Nat.le_of_ble_eq_true rfl, Nat.le_of_ble_eq_true rfl⟩) ⟨k_blind, kw.recv hK hW.1 (t := 4) (vin_lt hin2) rfl rfl, k_pre hW hK⟩ rfl rfl hl.1 rfl (lv_room (Nat.le_of_ble_eq_true rfl)) d_X_end_10 ⟨Nat.zero_le _, Nat.zero_le _⟩) hS (fun H locs hW hS => ?_)
  refine lv_aload_n hx hb d_X_end_13 rfl (lv_at hl 1 rfl) ?_
  refine lv_iload_n hx hb d_X_end_14 rfl (lv_at hl 2 rfl) ?_
  obtain ⟨hn4, hf⟩ := og_if hf
  obtain ⟨σ5, eσ5, hf⟩ := og_b hf
  cases eσ5
  refine k_put  (ci := 1) (C := "GridlockDesk$Payment") (T := T_P) (N := 7) (ty := .int) (t := 8) hx hb ht hin_P ft_P ft_P_ok nm_P hown hK hW.1 hS hn4 (hW.2 _ _ hn4) rfl rfl 6 (by decide) (ht _ tw_234) (fun _ h9 => h9) rfl (by decide +kernel) rfl rfl (Nat.le_of_ble_eq_true rfl) d_X_end_15 cc_wI9 (fun H locs hW1 hS => ?_)
  have hW := CW.wI hW1 hW.2
  exact W.vret hx hb hr (fun t ht hWm => ⟨⟨_, rfl, Option.some.inj hf, by rw [ht]; exact hW, va_K.moved hWm.alike hK⟩, hS.F ht⟩) hS.2.2 d_X_end_18

set_option maxHeartbeats 4000000 in
set_option maxRecDepth 100000 in
theorem m_X_settle (l : Launch) (D : va_G) (cA : Nat → ClassId) (ad : Nat → Nat → Nat) (n : Nat) (A : Nat → Prop) (σ : St) (x1 : Nat) (x2 : Int32)  (out : Unit × St) (hf : f_X_settle n σ x1 x2 = some out) : Met l y_X_settle ws_X_settle ({ frames := 2, cells := 0, slots := 0, locals := 45 }) (va_Pc [.ref (ad 0 0), .ref (ad 8 x1), .int x2] (fun U => CW D cA ad n A σ U.heap ∧ va_K D vCl (atys cA) U)) (va_Qv (fun u => ((), u) = out) (fun u t => CW D cA ad n A u t.heap ∧ va_K D vCl (atys cA) t) A) 0 0 A := by
  refine Met.ofW (cc := prog_1_method_36_code) (maxL := 4) (ret := none) (by decide) rfl ?_
  intro p e s m args below meth c s₁ B hml hv
  obtain ⟨rfl, hW, hK⟩ := hv
  have hx := B.exec
  have hb := B.bytes
  have hr := B.returns
  have hts := atoms_spec (ws := ws_X_settle) B.pre
  have ht : ∀ w ∈ TB, w.before _ s = true := fun w h => hts w (List.mem_cons_of_mem _ h)
  have hown : s.vm.findClass "GridlockDesk" = some m.cls := findClass_of_methodNamed B.named
  have hlocks := B.notSynchronized
  have hS : va_S A s.heap s.heap [] := va_S.rf
  have hl := lv_entry ([.ref (ad 0 0), .ref (ad 8 x1), .int x2]) (n := 4) (Nat.le_of_ble_eq_true rfl)
  rw [lg_entry_eq]
  generalize (lg_sl ([.ref (ad 0 0), .ref (ad 8 x1), .int x2]) ++ List.replicate (4 - (lg_sl ([.ref (ad 0 0), .ref (ad 8 x1), .int x2])).length) Slot.unset).toArray = ls at hl ⊢
  have hl : lv_has ls 4 [(0, .ref (ad 0 0)), (1, .ref (ad 8 x1)), (2, .int x2)] := hl
  unfold f_X_settle at hf
  refine lv_aload_n hx hb d_X_settle_0 rfl (lv_at hl 0 rfl) ?_
  refine lv_aload_n hx hb d_X_settle_1 rfl (lv_at hl 1 rfl) ?_
  refine lv_iload_n hx hb d_X_settle_2 rfl (lv_at hl 2 rfl) ?_
  obtain ⟨o1, ho1, hf⟩ := og_b hf
  refine kc_v (P := (fun u H => CW D cA ad n A u H)) (va_runV (C := "GridlockDesk") (As := [.ref _, .int _]) (rest := []) ⟨hx, hb, hml, hown, hts⟩ (m_X_end l D cA ad n A _  _ _  o1 ho1) (cwV 2 hts (tb_V tw_166 tw_168 tw_9 tw_31 tw_169) rfl rfl rfl (by decide +kernel) ⟨Nat.le_of_ble_eq_true rfl, Nat.le_of_ble_eq_true rfl⟩) ⟨k_blind, kw.recv hK hW.1 (t := 0) rfl rfl rfl, k_pre hW hK⟩ rfl rfl hl.1 rfl (lv_room (Nat.le_of_ble_eq_true rfl)) d_X_settle_3 ⟨Nat.zero_le _, Nat.zero_le _⟩) hS (fun H locs hW hS => ?_)
  refine lv_aload_n hx hb d_X_settle_6 rfl (lv_at hl 0 rfl) ?_
  refine va_get (D := D) (ci := 2) (C := "GridlockDesk") (T := T_X) (N := 6) hx hb ht hin_X hown hK (hW.1.one (t := 0) rfl) 0 rfl rfl 0 (by decide) (ht _ tw_93) (fun _ h9 => h9) rfl d_X_settle_7 ?_
  refine lv_aload_n hx hb d_X_settle_10 rfl (lv_at hl 1 rfl) ?_
  obtain ⟨hn2, hf⟩ := og_if hf
  refine va_get (D := D) (ci := 1) (C := "GridlockDesk$Payment") (T := T_P) (N := 7) hx hb ht hin_P hown hK (hW.1.one (t := 8) hn2) 0 rfl rfl 1 (by decide) (ht _ tw_221) (fun _ h9 => h9) rfl d_X_settle_11 ?_
  obtain ⟨hin3, hf⟩ := og_if hf
  refine va_aldq (D := D) hx hb hK (hW.1.one (t := 1) rfl) 0 2 rfl rfl hin3 d_X_settle_14 ?_
  refine W.eq (g2 := F0 m 15 ls (.ref (ad 4 _) :: [])) rfl ?_
  refine lv_astore_n (lv' := [(3, .ref _), (0, .ref _), (1, .ref _), (2, .int _)]) hx hb d_X_settle_15 rfl hl (by decide) rfl (fun ls hl => ?_)
  refine lv_aload_n hx hb d_X_settle_16 rfl (lv_at hl 0 rfl) ?_
  refine lv_dup hx hb d_X_settle_17 rfl ?_
  refine va_get (D := D) (ci := 0) (C := "GridlockDesk$Bank") (T := T_B) (N := 7) hx hb ht hin_B hown hK (hW.1.one (t := 4) (vin_lt hin3)) 0 rfl rfl 0 (by decide) (ht _ tw_64) (fun _ h9 => h9) rfl d_X_settle_18 ?_
  refine lv_aload_n hx hb d_X_settle_21 rfl (lv_at hl 2 rfl) ?_
  obtain ⟨hn4, hf⟩ := og_if hf
  refine va_get (D := D) (ci := 1) (C := "GridlockDesk$Payment") (T := T_P) (N := 7) hx hb ht hin_P hown hK (hW.1.one (t := 8) hn4) 0 rfl rfl 3 (by decide) (ht _ tw_227) (fun _ h9 => h9) rfl d_X_settle_22 ?_
  refine lv_lsub hx hb d_X_settle_25 ?_
  obtain ⟨σ5, eσ5, hf⟩ := og_b hf
  cases eσ5
  refine k_put  (ci := 0) (C := "GridlockDesk$Bank") (T := T_B) (N := 7) (ty := .long) (t := 4) hx hb ht hin_B ft_B ft_B_ok nm_B hown hK hW.1 hS (vin_lt hin3) (hW.2 _ _ (vin_lt hin3)) rfl rfl 0 (by decide) (ht _ tw_64) (fun _ h9 => h9) rfl (by decide +kernel) rfl rfl (Nat.le_of_ble_eq_true rfl) d_X_settle_26 cc_wL1 (fun H locs hW1 hS => ?_)
  have hW := CW.wL hW1 hW.2
  refine lv_aload_n hx hb d_X_settle_29 rfl (lv_at hl 0 rfl) ?_
  refine va_get (D := D) (ci := 0) (C := "GridlockDesk$Bank") (T := T_B) (N := 7) hx hb ht hin_B hown hK (hW.1.one (t := 4) (vin_lt hin3)) 0 rfl rfl 4 (by decide) (ht _ tw_71) (fun _ h9 => h9) rfl d_X_settle_30 ?_
  refine lv_aload_n hx hb d_X_settle_33 rfl (lv_at hl 2 rfl) ?_
  obtain ⟨hn6, hf⟩ := og_if hf
  refine va_get (D := D) (ci := 1) (C := "GridlockDesk$Payment") (T := T_P) (N := 7) hx hb ht hin_P hown hK (hW.1.one (t := 8) hn6) 0 rfl rfl 2 (by decide) (ht _ tw_224) (fun _ h9 => h9) rfl d_X_settle_34 ?_
  refine lv_dup2_11 hx hb d_X_settle_37 rfl rfl ?_
  obtain ⟨hin7, hf⟩ := og_if hf
  refine va_lald (D := D) hx hb hK (hW.1.one (t := 6) (vin_lt hin3)) 0 0 rfl rfl hin7 d_X_settle_38 ?_
  refine lv_aload_n hx hb d_X_settle_39 rfl (lv_at hl 2 rfl) ?_
  obtain ⟨hn8, hf⟩ := og_if hf
  refine va_get (D := D) (ci := 1) (C := "GridlockDesk$Payment") (T := T_P) (N := 7) hx hb ht hin_P hown hK (hW.1.one (t := 8) hn8) 0 rfl rfl 3 (by decide) (ht _ tw_227) (fun _ h9 => h9) rfl d_X_settle_40 ?_
  refine lv_ladd hx hb d_X_settle_43 ?_
  obtain ⟨hin9, hf⟩ := og_if hf
  obtain ⟨σ10, eσ10, hf⟩ := og_b hf
  cases eσ10
  refine k_last  (t := 6) hx hb hK hW.1 hS (vin_lt hin3) (hW.2 _ _ (vin_lt hin3)) 0 rfl rfl hin9 d_X_settle_44 cc_wL5 (fun H locs hW1 hS => ?_)
  have hW := CW.wL hW1 hW.2
  refine lv_aload_n hx hb d_X_settle_45 rfl (lv_at hl 1 rfl) ?_
  refine va_get (D := D) (ci := 2) (C := "GridlockDesk") (T := T_X) (N := 6) hx hb ht hin_X hown hK (hW.1.one (t := 0) rfl) 0 rfl rfl 0 (by decide) (ht _ tw_93) (fun _ h9 => h9) rfl d_X_settle_46 ?_
  refine lv_aload_n hx hb d_X_settle_49 rfl (lv_at hl 2 rfl) ?_
  obtain ⟨hn11, hf⟩ := og_if hf
  refine va_get (D := D) (ci := 1) (C := "GridlockDesk$Payment") (T := T_P) (N := 7) hx hb ht hin_P hown hK (hW.1.one (t := 8) hn11) 0 rfl rfl 2 (by decide) (ht _ tw_224) (fun _ h9 => h9) rfl d_X_settle_50 ?_
  obtain ⟨hin12, hf⟩ := og_if hf
  refine va_aldq (D := D) hx hb hK (hW.1.one (t := 1) rfl) 0 2 rfl rfl hin12 d_X_settle_53 ?_
  refine W.eq (g2 := F0 m 54 ls (.ref (ad 4 _) :: [])) rfl ?_
  refine lv_dup hx hb d_X_settle_54 rfl ?_
  refine va_get (D := D) (ci := 0) (C := "GridlockDesk$Bank") (T := T_B) (N := 7) hx hb ht hin_B hown hK (hW.1.one (t := 4) (vin_lt hin12)) 0 rfl rfl 0 (by decide) (ht _ tw_64) (fun _ h9 => h9) rfl d_X_settle_55 ?_
  refine lv_aload_n hx hb d_X_settle_58 rfl (lv_at hl 2 rfl) ?_
  obtain ⟨hn13, hf⟩ := og_if hf
  refine va_get (D := D) (ci := 1) (C := "GridlockDesk$Payment") (T := T_P) (N := 7) hx hb ht hin_P hown hK (hW.1.one (t := 8) hn13) 0 rfl rfl 3 (by decide) (ht _ tw_227) (fun _ h9 => h9) rfl d_X_settle_59 ?_
  refine lv_ladd hx hb d_X_settle_62 ?_
  obtain ⟨σ14, eσ14, hf⟩ := og_b hf
  cases eσ14
  refine k_put  (ci := 0) (C := "GridlockDesk$Bank") (T := T_B) (N := 7) (ty := .long) (t := 4) hx hb ht hin_B ft_B ft_B_ok nm_B hown hK hW.1 hS (vin_lt hin12) (hW.2 _ _ (vin_lt hin12)) rfl rfl 0 (by decide) (ht _ tw_64) (fun _ h9 => h9) rfl (by decide +kernel) rfl rfl (Nat.le_of_ble_eq_true rfl) d_X_settle_63 cc_wL1 (fun H locs hW1 hS => ?_)
  have hW := CW.wL hW1 hW.2
  refine lv_aload_n hx hb d_X_settle_66 rfl (lv_at hl 1 rfl) ?_
  refine lv_dup hx hb d_X_settle_67 rfl ?_
  refine va_get (D := D) (ci := 2) (C := "GridlockDesk") (T := T_X) (N := 6) hx hb ht hin_X hown hK (hW.1.one (t := 0) rfl) 0 rfl rfl 3 (by decide) (ht _ tw_96) (fun _ h9 => h9) rfl d_X_settle_68 ?_
  refine lv_aload_n hx hb d_X_settle_71 rfl (lv_at hl 2 rfl) ?_
  obtain ⟨hn15, hf⟩ := og_if hf
  refine va_get (D := D) (ci := 1) (C := "GridlockDesk$Payment") (T := T_P) (N := 7) hx hb ht hin_P hown hK (hW.1.one (t := 8) hn15) 0 rfl rfl 3 (by decide) (ht _ tw_227) (fun _ h9 => h9) rfl d_X_settle_72 ?_
  refine lv_ladd hx hb d_X_settle_75 ?_
  obtain ⟨σ16, eσ16, hf⟩ := og_b hf
  cases eσ16
  refine k_put  (ci := 2) (C := "GridlockDesk") (T := T_X) (N := 6) (ty := .long) (t := 0) hx hb ht hin_X ft_X ft_X_ok nm_X hown hK hW.1 hS rfl (hW.2 _ _ rfl) rfl rfl 3 (by decide) (ht _ tw_96) (fun _ h9 => h9) rfl (by decide +kernel) rfl rfl (Nat.le_of_ble_eq_true rfl) d_X_settle_76 cc_wL0 (fun H locs hW1 hS => ?_)
  have hW := CW.wL hW1 hW.2
  exact W.vret hx hb hr (fun t ht hWm => ⟨⟨_, rfl, Option.some.inj hf, by rw [ht]; exact hW, va_K.moved hWm.alike hK⟩, hS.F ht⟩) hS.2.2 d_X_settle_79

set_option maxHeartbeats 4000000 in
set_option maxRecDepth 100000 in
theorem lp_X_settleChosen_16_ok {p : Program} {l : Launch} {e : Env} {s : State} {m : MethodId} {args : Array Value} {below : List Frame} {meth : Method} {c : Code} (D : va_G) (cA : Nat → ClassId) (ad : Nat → Nat → Nat) (n : Nat) (A : Nat → Prop) (hx : p.tables.exec = Jvm.exec) (hb : c.code = prog_1_method_35_code) (hml : c.maxLocals = 5) (hr : meth.sig.returnType = (some .int)) (hts : ∀ w ∈ ws_X_settleChosen, w.before args s = true) (hown : s.vm.findClass "GridlockDesk" = some m.cls) (hlocks : meth.locks = false) (hK : va_K D vCl (atys cA) s) (k : St → Int32 → Option (Int32 × St)) (out : Int32 × St) (v1 : Int32) (v3 : Int32) (hk : ∀ (σ : St) (v2 : Int32) (H : Heap) (locs : List Loc) (ls : Array Slot), lv_has ls 5 [(0, .ref (ad 0 0)), (1, .int v1), (2, .int v2), (3, .int v3)] → CW D cA ad n A σ H → va_S A s.heap H locs → k σ v2 = some out → W p l e (headSpec ws_X_settleChosen ({ frames := 3, cells := 0, slots := 0, locals := 68 })).room s m args below meth c H locs 0 0 (MQ below (va_Qi (fun r u => (r, u) = out) (fun u t => CW D cA ad n A u t.heap ∧ va_K D vCl (atys cA) t) A) args s 0 0 A) (F0 m 64 ls [])) : ∀ (fu : Nat) (σ : St) (v2 : Int32) (v4 : Int32) (H : Heap) (locs : List Loc) (ls : Array Slot), lv_has ls 5 [(0, .ref (ad 0 0)), (1, .int v1), (2, .int v2), (3, .int v3), (4, .int v4)] → CW D cA ad n A σ H → va_S A s.heap H locs → lp_X_settleChosen_16 n k fu σ v1 v2 v3 v4 = some out → W p l e (headSpec ws_X_settleChosen ({ frames := 3, cells := 0, slots := 0, locals := 68 })).room s m args below meth c H locs 0 0 (MQ below (va_Qi (fun r u => (r, u) = out) (fun u t => CW D cA ad n A u t.heap ∧ va_K D vCl (atys cA) t) A) args s 0 0 A) (F0 m 16 ls []) := by
  intro fu
  induction fu with
  | zero =>
    intro σ v2 v4 H locs ls  hl hW hS hf
    exact og_n hf
  | succ fu ih =>
    intro σ v2 v4 H locs ls  hl hW hS hf
    rw [lp_X_settleChosen_16_s] at hf
    have ht : ∀ w ∈ TB, w.before args s = true := fun w h => hts w (List.mem_cons_of_mem _ h)
    refine lv_iload hx hb d_X_settleChosen_16 (lv_at hl 4 rfl) ?_
    refine lv_aload_n hx hb d_X_settleChosen_18 rfl (lv_at hl 0 rfl) ?_
    refine va_get (D := D) (ci := 2) (C := "GridlockDesk") (T := T_X) (N := 6) hx hb ht hin_X hown hK (hW.1.one (t := 0) rfl) 0 rfl rfl 5 (by decide) (ht _ tw_98) (fun _ h9 => h9) rfl d_X_settleChosen_19 ?_
    refine lv_iload_n hx hb d_X_settleChosen_22 rfl (lv_at hl 3 rfl) ?_
    obtain ⟨hin1, hf⟩ := og_if hf
    refine va_iald (D := D) hx hb hK (hW.1.one (t := 3) rfl) 0 1 rfl rfl hin1 d_X_settleChosen_23 ?_
    refine lv_icmp_ge (tgt := 64) hx hb d_X_settleChosen_24 rfl (fun hc => ?_) (fun hc => ?_)
    · replace hf := og_t hc hf
      exact hk _ _ _ _ _  (lv_sub hl [0, 1, 2, 3] rfl) hW hS hf
    · replace hf := og_f hc hf
      refine lv_aload_n hx hb d_X_settleChosen_27 rfl (lv_at hl 0 rfl) ?_
      refine va_get (D := D) (ci := 2) (C := "GridlockDesk") (T := T_X) (N := 6) hx hb ht hin_X hown hK (hW.1.one (t := 0) rfl) 0 rfl rfl 0 (by decide) (ht _ tw_93) (fun _ h9 => h9) rfl d_X_settleChosen_28 ?_
      refine lv_iload_n hx hb d_X_settleChosen_31 rfl (lv_at hl 3 rfl) ?_
      obtain ⟨hin2, hf⟩ := og_if hf
      refine va_aldq (D := D) hx hb hK (hW.1.one (t := 1) rfl) 0 2 rfl rfl hin2 d_X_settleChosen_32 ?_
      refine W.eq (g2 := F0 m 33 ls (.ref (ad 4 _) :: [])) rfl ?_
      refine va_get (D := D) (ci := 0) (C := "GridlockDesk$Bank") (T := T_B) (N := 7) hx hb ht hin_B hown hK (hW.1.one (t := 4) (vin_lt hin2)) 0 rfl rfl 6 (by decide) (ht _ tw_75) (fun _ h9 => h9) rfl d_X_settleChosen_33 ?_
      refine lv_if_le (tgt := 64) hx hb d_X_settleChosen_36 rfl (fun hc => ?_) (fun hc => ?_)
      · replace hf := og_t hc hf
        exact hk _ _ _ _ _  (lv_sub hl [0, 1, 2, 3] rfl) hW hS hf
      · replace hf := og_f hc hf
        refine lv_aload_n hx hb d_X_settleChosen_39 rfl (lv_at hl 0 rfl) ?_
        refine lv_aload_n hx hb d_X_settleChosen_40 rfl (lv_at hl 0 rfl) ?_
        refine va_get (D := D) (ci := 2) (C := "GridlockDesk") (T := T_X) (N := 6) hx hb ht hin_X hown hK (hW.1.one (t := 0) rfl) 0 rfl rfl 0 (by decide) (ht _ tw_93) (fun _ h9 => h9) rfl d_X_settleChosen_41 ?_
        refine lv_iload_n hx hb d_X_settleChosen_44 rfl (lv_at hl 3 rfl) ?_
        obtain ⟨hin3, hf⟩ := og_if hf
        refine va_aldq (D := D) hx hb hK (hW.1.one (t := 1) rfl) 0 2 rfl rfl hin3 d_X_settleChosen_45 ?_
        refine W.eq (g2 := F0 m 46 ls (.ref (ad 4 _) :: [_])) rfl ?_
        refine va_get (D := D) (ci := 0) (C := "GridlockDesk$Bank") (T := T_B) (N := 7) hx hb ht hin_B hown hK (hW.1.one (t := 4) (vin_lt hin3)) 0 rfl rfl 5 (by decide) (ht _ tw_73) (fun _ h9 => h9) rfl d_X_settleChosen_46 ?_
        refine lv_iconst (v := 0) hx hb d_X_settleChosen_49 (by decide) ?_
        obtain ⟨hin4, hf⟩ := og_if hf
        refine va_aldq (D := D) hx hb hK (hW.1.one (t := 7) (vin_lt hin3)) 0 3 rfl rfl hin4 d_X_settleChosen_50 ?_
        refine lv_iload_n hx hb d_X_settleChosen_51 rfl (lv_at hl 1 rfl) ?_
        obtain ⟨k5, hk5, hf⟩ := og_b hf
        obtain ⟨ek5, hk5⟩ := dR_spec hk5
        rw [ek5]
        refine W.eq (g2 := F0 m 52 ls [_, .ref (ad 8 k5), _]) rfl ?_
        obtain ⟨o6, ho6, hf⟩ := og_b hf
        refine kc_v (P := (fun u H => CW D cA ad n A u H)) (va_runV (C := "GridlockDesk") (As := [.ref _, .int _]) (rest := []) ⟨hx, hb, hml, hown, hts⟩ (m_X_settle l D cA ad n A _  _ _  o6 ho6) (cwV 2 hts (tb_V tw_162 tw_164 tw_8 tw_31 tw_165) rfl rfl rfl (by decide +kernel) ⟨Nat.le_of_ble_eq_true rfl, Nat.le_of_ble_eq_true rfl⟩) ⟨k_blind, kw.recv hK hW.1 (t := 0) rfl rfl rfl, k_pre hW hK⟩ rfl rfl hl.1 rfl (lv_room (Nat.le_of_ble_eq_true rfl)) d_X_settleChosen_52 ⟨Nat.zero_le _, Nat.zero_le _⟩) hS (fun H locs hW hS => ?_)
        refine lv_iinc (k := 2) (v := _ + 1) (lv' := [(2, .int _), (0, .ref _), (1, .int _), (3, .int _), (4, .int _)]) hx hb d_X_settleChosen_55 hl rfl rfl (by decide) rfl (fun ls hl => ?_)
        refine lv_iinc (k := 4) (v := _ + 1) (lv' := [(4, .int _), (2, .int _), (0, .ref _), (1, .int _), (3, .int _)]) hx hb d_X_settleChosen_58 hl rfl rfl (by decide) rfl (fun ls hl => ?_)
        refine lv_goto (tgt := 16) hx hb d_X_settleChosen_61 rfl ?_
        exact ih _ _ _ _ _ _  (lv_sub hl [2, 3, 1, 4, 0] rfl) hW hS hf

set_option maxHeartbeats 4000000 in
set_option maxRecDepth 100000 in
theorem lp_X_settleChosen_4_ok {p : Program} {l : Launch} {e : Env} {s : State} {m : MethodId} {args : Array Value} {below : List Frame} {meth : Method} {c : Code} (D : va_G) (cA : Nat → ClassId) (ad : Nat → Nat → Nat) (n : Nat) (A : Nat → Prop) (hx : p.tables.exec = Jvm.exec) (hb : c.code = prog_1_method_35_code) (hml : c.maxLocals = 5) (hr : meth.sig.returnType = (some .int)) (hts : ∀ w ∈ ws_X_settleChosen, w.before args s = true) (hown : s.vm.findClass "GridlockDesk" = some m.cls) (hlocks : meth.locks = false) (hK : va_K D vCl (atys cA) s) (k : St → Int32 → Option (Int32 × St)) (out : Int32 × St) (v1 : Int32) (hk : ∀ (σ : St) (v2 : Int32) (H : Heap) (locs : List Loc) (ls : Array Slot), lv_has ls 5 [(2, .int v2)] → CW D cA ad n A σ H → va_S A s.heap H locs → k σ v2 = some out → W p l e (headSpec ws_X_settleChosen ({ frames := 3, cells := 0, slots := 0, locals := 68 })).room s m args below meth c H locs 0 0 (MQ below (va_Qi (fun r u => (r, u) = out) (fun u t => CW D cA ad n A u t.heap ∧ va_K D vCl (atys cA) t) A) args s 0 0 A) (F0 m 70 ls [])) : ∀ (fu : Nat) (σ : St) (v2 : Int32) (v3 : Int32) (H : Heap) (locs : List Loc) (ls : Array Slot), lv_has ls 5 [(0, .ref (ad 0 0)), (1, .int v1), (2, .int v2), (3, .int v3)] → CW D cA ad n A σ H → va_S A s.heap H locs → lp_X_settleChosen_4 n k fu σ v1 v2 v3 = some out → W p l e (headSpec ws_X_settleChosen ({ frames := 3, cells := 0, slots := 0, locals := 68 })).room s m args below meth c H locs 0 0 (MQ below (va_Qi (fun r u => (r, u) = out) (fun u t => CW D cA ad n A u t.heap ∧ va_K D vCl (atys cA) t) A) args s 0 0 A) (F0 m 4 ls []) := by
  intro fu
  induction fu with
  | zero =>
    intro σ v2 v3 H locs ls  hl hW hS hf
    exact og_n hf
  | succ fu ih =>
    intro σ v2 v3 H locs ls  hl hW hS hf
    rw [lp_X_settleChosen_4_s] at hf
    have ht : ∀ w ∈ TB, w.before args s = true := fun w h => hts w (List.mem_cons_of_mem _ h)
    refine lv_iload_n hx hb d_X_settleChosen_4 rfl (lv_at hl 3 rfl) ?_
    refine lv_aload_n hx hb d_X_settleChosen_5 rfl (lv_at hl 0 rfl) ?_
    refine va_get (D := D) (ci := 2) (C := "GridlockDesk") (T := T_X) (N := 6) hx hb ht hin_X hown hK (hW.1.one (t := 0) rfl) 0 rfl rfl 0 (by decide) (ht _ tw_93) (fun _ h9 => h9) rfl d_X_settleChosen_6 ?_
    refine va_alen (D := D) (v := nI n) hx hb hK (hW.1.one (t := 1) rfl) 0 2 rfl rfl rfl d_X_settleChosen_9 ?_
    refine lv_icmp_ge (tgt := 70) hx hb d_X_settleChosen_10 rfl (fun hc => ?_) (fun hc => ?_)
    · replace hf := og_t hc hf
      exact hk _ _ _ _ _  (lv_sub hl [2] rfl) hW hS hf
    · replace hf := og_f hc hf
      refine lv_iconst (v := 0) hx hb d_X_settleChosen_13 (by decide) ?_
      refine lv_istore (lv' := [(4, .int _), (0, .ref _), (1, .int _), (2, .int _), (3, .int _)]) hx hb d_X_settleChosen_14 hl (by decide) rfl (fun ls hl => ?_)
      refine lp_X_settleChosen_16_ok D cA ad n A hx hb hml hr hts hown hlocks hK _ _ _ _ (fun σ8 y2_7 H locs ls  hl hW hS hf => ?_) _ _ _ _ _ _ _  (lv_sub hl [1, 2, 3, 4, 0] rfl) hW hS hf
      refine lv_iinc (k := 3) (v := _ + 1) (lv' := [(3, .int _), (0, .ref _), (1, .int _), (2, .int _)]) hx hb d_X_settleChosen_64 hl rfl rfl (by decide) rfl (fun ls hl => ?_)
      refine lv_goto (tgt := 4) hx hb d_X_settleChosen_67 rfl ?_
      exact ih _ _ _ _ _ _  (lv_sub hl [1, 2, 3, 0] rfl) hW hS hf

set_option maxHeartbeats 4000000 in
set_option maxRecDepth 100000 in
theorem m_X_settleChosen (l : Launch) (D : va_G) (cA : Nat → ClassId) (ad : Nat → Nat → Nat) (n : Nat) (A : Nat → Prop) (σ : St) (x1 : Int32)  (out : Int32 × St) (hf : f_X_settleChosen n σ x1 = some out) : Met l y_X_settleChosen ws_X_settleChosen ({ frames := 3, cells := 0, slots := 0, locals := 68 }) (va_Pc [.ref (ad 0 0), .int x1] (fun U => CW D cA ad n A σ U.heap ∧ va_K D vCl (atys cA) U)) (va_Qi (fun r u => (r, u) = out) (fun u t => CW D cA ad n A u t.heap ∧ va_K D vCl (atys cA) t) A) 0 0 A := by
  refine Met.ofW (cc := prog_1_method_35_code) (maxL := 5) (ret := (some .int)) (by decide) rfl ?_
  intro p e s m args below meth c s₁ B hml hv
  obtain ⟨rfl, hW, hK⟩ := hv
  have hx := B.exec
  have hb := B.bytes
  have hr := B.returns
  have hts := atoms_spec (ws := ws_X_settleChosen) B.pre
  have ht : ∀ w ∈ TB, w.before _ s = true := fun w h => hts w (List.mem_cons_of_mem _ h)
  have hown : s.vm.findClass "GridlockDesk" = some m.cls := findClass_of_methodNamed B.named
  have hlocks := B.notSynchronized
  have hS : va_S A s.heap s.heap [] := va_S.rf
  have hl := lv_entry ([.ref (ad 0 0), .int x1]) (n := 5) (Nat.le_of_ble_eq_true rfl)
  rw [lg_entry_eq]
  generalize (lg_sl ([.ref (ad 0 0), .int x1]) ++ List.replicate (5 - (lg_sl ([.ref (ad 0 0), .int x1])).length) Slot.unset).toArray = ls at hl ⊢
  have hl : lv_has ls 5 [(0, .ref (ad 0 0)), (1, .int x1)] := hl
  unfold f_X_settleChosen at hf
  refine lv_iconst (v := 0) hx hb d_X_settleChosen_0 (by decide) ?_
  refine lv_istore_n (lv' := [(2, .int _), (0, .ref _), (1, .int _)]) hx hb d_X_settleChosen_1 rfl hl (by decide) rfl (fun ls hl => ?_)
  refine lv_iconst (v := 0) hx hb d_X_settleChosen_2 (by decide) ?_
  refine lv_istore_n (lv' := [(3, .int _), (2, .int _), (0, .ref _), (1, .int _)]) hx hb d_X_settleChosen_3 rfl hl (by decide) rfl (fun ls hl => ?_)
  refine lp_X_settleChosen_4_ok D cA ad n A hx hb hml hr hts hown hlocks hK _ _ _ (fun σ10 y2_9 H locs ls  hl hW hS hf => ?_) _ _ _ _ _ _ _  (lv_sub hl [2, 3, 1, 0] rfl) hW hS hf
  refine lv_iload_n hx hb d_X_settleChosen_70 rfl (lv_at hl 0 rfl) ?_
  exact W.iret hx hb hr (fun t ht hWm => ⟨⟨_, _, rfl, Option.some.inj hf, by rw [ht]; exact hW, va_K.moved hWm.alike hK⟩, hS.F ht⟩) hS.2.2 d_X_settleChosen_71

set_option maxHeartbeats 4000000 in
set_option maxRecDepth 100000 in
theorem lp_X_wouldBeWell_15_ok {p : Program} {l : Launch} {e : Env} {s : State} {m : MethodId} {args : Array Value} {below : List Frame} {meth : Method} {c : Code} (D : va_G) (cA : Nat → ClassId) (ad : Nat → Nat → Nat) (n : Nat) (A : Nat → Prop) (hx : p.tables.exec = Jvm.exec) (hb : c.code = prog_1_method_34_code) (hml : c.maxLocals = 10) (hr : meth.sig.returnType = (some .boolean)) (hts : ∀ w ∈ ws_X_wouldBeWell, w.before args s = true) (hown : s.vm.findClass "GridlockDesk" = some m.cls) (hlocks : meth.locks = false) (hK : va_K D vCl (atys cA) s) (k : St → Int64 → Int64 → Option (Int32 × St)) (out : Int32 × St) (v1 : Int32) (v2 : Nat) (hk : ∀ (σ : St) (v3 : Int64) (v5 : Int64) (H : Heap) (locs : List Loc) (ls : Array Slot), lv_has ls 10 [(2, .ref (ad 4 v2)), (3, .long v3), (5, .long v5)] → CW D cA ad n A σ H → va_S A s.heap H locs → k σ v3 v5 = some out → W p l e (headSpec ws_X_wouldBeWell ({ frames := 1, cells := 0, slots := 0, locals := 25 })).room s m args below meth c H locs 0 0 (MQ below (va_Qi (fun r u => (r, u) = out) (fun u t => CW D cA ad n A u t.heap ∧ va_K D vCl (atys cA) t) A) args s 0 0 A) (F0 m 101 ls [])) : ∀ (fu : Nat) (σ : St) (v3 : Int64) (v5 : Int64) (v7 : Int32) (H : Heap) (locs : List Loc) (ls : Array Slot), v2 < n → lv_has ls 10 [(0, .ref (ad 0 0)), (1, .int v1), (2, .ref (ad 4 v2)), (3, .long v3), (5, .long v5), (7, .int v7)] → CW D cA ad n A σ H → va_S A s.heap H locs → lp_X_wouldBeWell_15 n k fu σ v1 v2 v3 v5 v7 = some out → W p l e (headSpec ws_X_wouldBeWell ({ frames := 1, cells := 0, slots := 0, locals := 25 })).room s m args below meth c H locs 0 0 (MQ below (va_Qi (fun r u => (r, u) = out) (fun u t => CW D cA ad n A u t.heap ∧ va_K D vCl (atys cA) t) A) args s 0 0 A) (F0 m 15 ls []) := by
  intro fu
  induction fu with
  | zero =>
    intro σ v3 v5 v7 H locs ls hv2 hl hW hS hf
    exact og_n hf
  | succ fu ih =>
    intro σ v3 v5 v7 H locs ls hv2 hl hW hS hf
    rw [lp_X_wouldBeWell_15_s] at hf
    have ht : ∀ w ∈ TB, w.before args s = true := fun w h => hts w (List.mem_cons_of_mem _ h)
    refine lv_iload hx hb d_X_wouldBeWell_15 (lv_at hl 5 rfl) ?_
    refine lv_aload_n hx hb d_X_wouldBeWell_17 rfl (lv_at hl 0 rfl) ?_
    refine va_get (D := D) (ci := 2) (C := "GridlockDesk") (T := T_X) (N := 6) hx hb ht hin_X hown hK (hW.1.one (t := 0) rfl) 0 rfl rfl 0 (by decide) (ht _ tw_93) (fun _ h9 => h9) rfl d_X_wouldBeWell_18 ?_
    refine va_alen (D := D) (v := nI n) hx hb hK (hW.1.one (t := 1) rfl) 0 2 rfl rfl rfl d_X_wouldBeWell_21 ?_
    refine lv_icmp_ge (tgt := 101) hx hb d_X_wouldBeWell_22 rfl (fun hc => ?_) (fun hc => ?_)
    · replace hf := og_t hc hf
      exact hk _ _ _ _ _ _  (lv_sub hl [2, 3, 4] rfl) hW hS hf
    · replace hf := og_f hc hf
      refine lv_aload_n hx hb d_X_wouldBeWell_25 rfl (lv_at hl 2 rfl) ?_
      refine lv_aload_n hx hb d_X_wouldBeWell_26 rfl (lv_at hl 0 rfl) ?_
      refine va_get (D := D) (ci := 2) (C := "GridlockDesk") (T := T_X) (N := 6) hx hb ht hin_X hown hK (hW.1.one (t := 0) rfl) 0 rfl rfl 5 (by decide) (ht _ tw_98) (fun _ h9 => h9) rfl d_X_wouldBeWell_27 ?_
      refine lv_iload_n hx hb d_X_wouldBeWell_30 rfl (lv_at hl 1 rfl) ?_
      obtain ⟨hin2, hf⟩ := og_if hf
      refine va_iald (D := D) hx hb hK (hW.1.one (t := 3) rfl) 0 1 rfl rfl hin2 d_X_wouldBeWell_31 ?_
      refine lv_iload hx hb d_X_wouldBeWell_32 (lv_at hl 5 rfl) ?_
      obtain ⟨o3, ho3, hf⟩ := og_b hf
      refine kc_l (P := (fun u H => CW D cA ad n A u H)) (va_runV (C := "GridlockDesk$Bank") (As := [.int _, .int _]) (rest := []) ⟨hx, hb, hml, hown, hts⟩ (m_B_sentWith l D cA ad n A _ _ _ _ hv2 o3 ho3) (cwV 2 hts (tb_V tw_146 tw_147 tw_148 tw_33 tw_149) rfl rfl rfl (by decide +kernel) ⟨Nat.le_of_ble_eq_true rfl, Nat.le_of_ble_eq_true rfl⟩) ⟨k_blind, kw.recv hK hW.1 (t := 4) hv2 rfl rfl, k_pre hW hK⟩ rfl rfl hl.1 rfl (lv_room (Nat.le_of_ble_eq_true rfl)) d_X_wouldBeWell_34 ⟨Nat.zero_le _, Nat.zero_le _⟩) hS (fun H locs hW hS => ?_)
      refine lv_aload_n hx hb d_X_wouldBeWell_37 rfl (lv_at hl 0 rfl) ?_
      refine va_get (D := D) (ci := 2) (C := "GridlockDesk") (T := T_X) (N := 6) hx hb ht hin_X hown hK (hW.1.one (t := 0) rfl) 0 rfl rfl 0 (by decide) (ht _ tw_93) (fun _ h9 => h9) rfl d_X_wouldBeWell_38 ?_
      refine lv_iload hx hb d_X_wouldBeWell_41 (lv_at hl 5 rfl) ?_
      obtain ⟨hin4, hf⟩ := og_if hf
      refine va_aldq (D := D) hx hb hK (hW.1.one (t := 1) rfl) 0 2 rfl rfl hin4 d_X_wouldBeWell_43 ?_
      refine W.eq (g2 := F0 m 44 ls (.ref (ad 4 _) :: [_])) rfl ?_
      refine lv_aload_n hx hb d_X_wouldBeWell_44 rfl (lv_at hl 0 rfl) ?_
      refine va_get (D := D) (ci := 2) (C := "GridlockDesk") (T := T_X) (N := 6) hx hb ht hin_X hown hK (hW.1.one (t := 0) rfl) 0 rfl rfl 5 (by decide) (ht _ tw_98) (fun _ h9 => h9) rfl d_X_wouldBeWell_45 ?_
      refine lv_iload hx hb d_X_wouldBeWell_48 (lv_at hl 5 rfl) ?_
      obtain ⟨hin5, hf⟩ := og_if hf
      refine va_iald (D := D) hx hb hK (hW.1.one (t := 3) rfl) 0 1 rfl rfl hin5 d_X_wouldBeWell_50 ?_
      refine lv_iload_n hx hb d_X_wouldBeWell_51 rfl (lv_at hl 1 rfl) ?_
      obtain ⟨o6, ho6, hf⟩ := og_b hf
      refine kc_l (P := (fun u H => CW D cA ad n A u H)) (va_runV (C := "GridlockDesk$Bank") (As := [.int _, .int _]) (rest := [.long _]) ⟨hx, hb, hml, hown, hts⟩ (m_B_sentWith l D cA ad n A _ _ _ _ (vin_lt hin4) o6 ho6) (cwV 2 hts (tb_V tw_146 tw_147 tw_148 tw_33 tw_149) rfl rfl rfl (by decide +kernel) ⟨Nat.le_of_ble_eq_true rfl, Nat.le_of_ble_eq_true rfl⟩) ⟨k_blind, kw.recv hK hW.1 (t := 4) (vin_lt hin4) rfl rfl, k_pre hW hK⟩ rfl rfl hl.1 rfl (lv_room (Nat.le_of_ble_eq_true rfl)) d_X_wouldBeWell_52 ⟨Nat.zero_le _, Nat.zero_le _⟩) hS (fun H locs hW hS => ?_)
      refine lv_lsub hx hb d_X_wouldBeWell_55 ?_
      refine lv_lstore (lv' := [(8, .long _), (0, .ref _), (1, .int _), (2, .ref _), (3, .long _), (5, .long _), (7, .int _)]) hx hb d_X_wouldBeWell_56 hl (by decide) rfl (fun ls hl => ?_)
      refine lv_lload hx hb d_X_wouldBeWell_58 (lv_at hl 0 rfl) ?_
      refine lv_aload_n hx hb d_X_wouldBeWell_60 rfl (lv_at hl 3 rfl) ?_
      refine va_get (D := D) (ci := 0) (C := "GridlockDesk$Bank") (T := T_B) (N := 7) hx hb ht hin_B hown hK (hW.1.one (t := 4) hv2) 0 rfl rfl 3 (by decide) (ht _ tw_69) (fun _ h9 => h9) rfl d_X_wouldBeWell_61 ?_
      refine lv_iload hx hb d_X_wouldBeWell_64 (lv_at hl 6 rfl) ?_
      obtain ⟨hin7, hf⟩ := og_if hf
      refine va_lald (D := D) hx hb hK (hW.1.one (t := 5) hv2) 0 0 rfl rfl hin7 d_X_wouldBeWell_66 ?_
      obtain ⟨o8, ho8, hf⟩ := og_b hf
      refine kc_i (P := (fun u H => CW D cA ad n A u H)) (va_runS (As := [.long _, .long _]) (rest := []) ⟨hx, hb, hml, hown, hts⟩ (m_X_exceeds l D cA ad n A _  _ _  o8 ho8) (va_cwS 2 hts (tb_S tw_150 tw_151 tw_31 tw_152) rfl rfl rfl (by decide +kernel) ⟨Nat.le_of_ble_eq_true rfl, Nat.le_of_ble_eq_true rfl⟩) ⟨k_blind, k_pre hW hK⟩ rfl rfl hl.1 rfl (lv_room (Nat.le_of_ble_eq_true rfl)) d_X_wouldBeWell_67 ⟨Nat.zero_le _, Nat.zero_le _⟩) hS (fun H locs hW hS => ?_)
      refine lv_if_eq (tgt := 75) hx hb d_X_wouldBeWell_70 rfl (fun hc => ?_) (fun hc => ?_)
      · replace hf := og_t hc hf
        refine lv_lload_n hx hb d_X_wouldBeWell_75 rfl (lv_at hl 4 rfl) ?_
        refine lv_lload hx hb d_X_wouldBeWell_76 (lv_at hl 0 rfl) ?_
        refine lv_ladd hx hb d_X_wouldBeWell_78 ?_
        refine lv_lstore_n (lv' := [(3, .long _), (8, .long _), (0, .ref _), (1, .int _), (2, .ref _), (5, .long _), (7, .int _)]) hx hb d_X_wouldBeWell_79 rfl hl (by decide) rfl (fun ls hl => ?_)
        refine lv_lload hx hb d_X_wouldBeWell_80 (lv_at hl 5 rfl) ?_
        refine lv_lload hx hb d_X_wouldBeWell_82 (lv_at hl 1 rfl) ?_
        refine lv_aload_n hx hb d_X_wouldBeWell_84 rfl (lv_at hl 2 rfl) ?_
        refine lv_iload_n hx hb d_X_wouldBeWell_85 rfl (lv_at hl 3 rfl) ?_
        refine lv_iload hx hb d_X_wouldBeWell_86 (lv_at hl 6 rfl) ?_
        obtain ⟨o9, ho9, hf⟩ := og_b hf
        refine kc_l (P := (fun u H => CW D cA ad n A u H)) (va_runV (C := "GridlockDesk") (As := [.int _, .int _]) (rest := [.long _, .long _]) ⟨hx, hb, hml, hown, hts⟩ (m_X_positionOf l D cA ad n A _  _ _  o9 ho9) (cwV 2 hts (tb_V tw_154 tw_156 tw_6 tw_31 tw_157) rfl rfl rfl (by decide +kernel) ⟨Nat.le_of_ble_eq_true rfl, Nat.le_of_ble_eq_true rfl⟩) ⟨k_blind, kw.recv hK hW.1 (t := 0) rfl rfl rfl, k_pre hW hK⟩ rfl rfl hl.1 rfl (lv_room (Nat.le_of_ble_eq_true rfl)) d_X_wouldBeWell_88 ⟨Nat.zero_le _, Nat.zero_le _⟩) hS (fun H locs hW hS => ?_)
        refine lv_lsub hx hb d_X_wouldBeWell_91 ?_
        refine lv_ladd hx hb d_X_wouldBeWell_92 ?_
        refine lv_lstore (lv' := [(5, .long _), (3, .long _), (8, .long _), (0, .ref _), (1, .int _), (2, .ref _), (7, .int _)]) hx hb d_X_wouldBeWell_93 hl (by decide) rfl (fun ls hl => ?_)
        refine lv_iinc (k := 6) (v := _ + 1) (lv' := [(7, .int _), (5, .long _), (3, .long _), (8, .long _), (0, .ref _), (1, .int _), (2, .ref _)]) hx hb d_X_wouldBeWell_95 hl rfl rfl (by decide) rfl (fun ls hl => ?_)
        refine lv_goto (tgt := 15) hx hb d_X_wouldBeWell_98 rfl ?_
        exact ih _ _ _ _ _ _ _ hv2 (lv_sub hl [4, 5, 6, 2, 1, 0] rfl) hW hS hf
      · replace hf := og_f hc hf
        refine lv_iconst (v := 0) hx hb d_X_wouldBeWell_73 (by decide) ?_
        exact W.zret hx hb hr rfl (fun t ht hWm => ⟨⟨_, _, rfl, Option.some.inj hf, by rw [ht]; exact hW, va_K.moved hWm.alike hK⟩, hS.F ht⟩) hS.2.2 d_X_wouldBeWell_74

set_option maxHeartbeats 4000000 in
set_option maxRecDepth 100000 in
theorem m_X_wouldBeWell (l : Launch) (D : va_G) (cA : Nat → ClassId) (ad : Nat → Nat → Nat) (n : Nat) (A : Nat → Prop) (σ : St) (x1 : Int32)  (out : Int32 × St) (hf : f_X_wouldBeWell n σ x1 = some out) : Met l y_X_wouldBeWell ws_X_wouldBeWell ({ frames := 1, cells := 0, slots := 0, locals := 25 }) (va_Pc [.ref (ad 0 0), .int x1] (fun U => CW D cA ad n A σ U.heap ∧ va_K D vCl (atys cA) U)) (va_Qi (fun r u => (r, u) = out) (fun u t => CW D cA ad n A u t.heap ∧ va_K D vCl (atys cA) t) A) 0 0 A := by
  refine Met.ofW (cc := prog_1_method_34_code) (maxL := 10) (ret := (some .boolean)) (by decide) rfl ?_
  intro p e s m args below meth c s₁ B hml hv
  obtain ⟨rfl, hW, hK⟩ := hv
  have hx := B.exec
  have hb := B.bytes
  have hr := B.returns
  have hts := atoms_spec (ws := ws_X_wouldBeWell) B.pre
  have ht : ∀ w ∈ TB, w.before _ s = true := fun w h => hts w (List.mem_cons_of_mem _ h)
  have hown : s.vm.findClass "GridlockDesk" = some m.cls := findClass_of_methodNamed B.named
  have hlocks := B.notSynchronized
  have hS : va_S A s.heap s.heap [] := va_S.rf
  have hl := lv_entry ([.ref (ad 0 0), .int x1]) (n := 10) (Nat.le_of_ble_eq_true rfl)
  rw [lg_entry_eq]
  generalize (lg_sl ([.ref (ad 0 0), .int x1]) ++ List.replicate (10 - (lg_sl ([.ref (ad 0 0), .int x1])).length) Slot.unset).toArray = ls at hl ⊢
  have hl : lv_has ls 10 [(0, .ref (ad 0 0)), (1, .int x1)] := hl
  unfold f_X_wouldBeWell at hf
  refine lv_aload_n hx hb d_X_wouldBeWell_0 rfl (lv_at hl 0 rfl) ?_
  refine va_get (D := D) (ci := 2) (C := "GridlockDesk") (T := T_X) (N := 6) hx hb ht hin_X hown hK (hW.1.one (t := 0) rfl) 0 rfl rfl 0 (by decide) (ht _ tw_93) (fun _ h9 => h9) rfl d_X_wouldBeWell_1 ?_
  refine lv_iload_n hx hb d_X_wouldBeWell_4 rfl (lv_at hl 1 rfl) ?_
  obtain ⟨hin1, hf⟩ := og_if hf
  refine va_aldq (D := D) hx hb hK (hW.1.one (t := 1) rfl) 0 2 rfl rfl hin1 d_X_wouldBeWell_5 ?_
  refine W.eq (g2 := F0 m 6 ls (.ref (ad 4 _) :: [])) rfl ?_
  refine lv_astore_n (lv' := [(2, .ref _), (0, .ref _), (1, .int _)]) hx hb d_X_wouldBeWell_6 rfl hl (by decide) rfl (fun ls hl => ?_)
  refine lv_lconst (v := 0) hx hb d_X_wouldBeWell_7 (by decide) ?_
  refine lv_lstore_n (lv' := [(3, .long _), (2, .ref _), (0, .ref _), (1, .int _)]) hx hb d_X_wouldBeWell_8 rfl hl (by decide) rfl (fun ls hl => ?_)
  refine lv_lconst (v := 0) hx hb d_X_wouldBeWell_9 (by decide) ?_
  refine lv_lstore (lv' := [(5, .long _), (3, .long _), (2, .ref _), (0, .ref _), (1, .int _)]) hx hb d_X_wouldBeWell_10 hl (by decide) rfl (fun ls hl => ?_)
  refine lv_iconst (v := 0) hx hb d_X_wouldBeWell_12 (by decide) ?_
  refine lv_istore (lv' := [(7, .int _), (5, .long _), (3, .long _), (2, .ref _), (0, .ref _), (1, .int _)]) hx hb d_X_wouldBeWell_13 hl (by decide) rfl (fun ls hl => ?_)
  refine lp_X_wouldBeWell_15_ok D cA ad n A hx hb hml hr hts hown hlocks hK _ _ _ _ (fun σ12 y3_10 y5_11 H locs ls  hl hW hS hf => ?_) _ _ _ _ _ _ _ _ (vin_lt hin1) (lv_sub hl [4, 5, 3, 2, 1, 0] rfl) hW hS hf
  refine lv_aload_n hx hb d_X_wouldBeWell_101 rfl (lv_at hl 0 rfl) ?_
  refine va_get (D := D) (ci := 0) (C := "GridlockDesk$Bank") (T := T_B) (N := 7) hx hb ht hin_B hown hK (hW.1.one (t := 4) (vin_lt hin1)) 0 rfl rfl 0 (by decide) (ht _ tw_64) (fun _ h9 => h9) rfl d_X_wouldBeWell_102 ?_
  refine lv_lload hx hb d_X_wouldBeWell_105 (lv_at hl 2 rfl) ?_
  refine lv_lsub hx hb d_X_wouldBeWell_107 ?_
  refine lv_aload_n hx hb d_X_wouldBeWell_108 rfl (lv_at hl 0 rfl) ?_
  refine va_get (D := D) (ci := 0) (C := "GridlockDesk$Bank") (T := T_B) (N := 7) hx hb ht hin_B hown hK (hW.1.one (t := 4) (vin_lt hin1)) 0 rfl rfl 1 (by decide) (ht _ tw_65) (fun _ h9 => h9) rfl d_X_wouldBeWell_109 ?_
  refine lv_lneg hx hb d_X_wouldBeWell_112 ?_
  refine lc_lt (tgt := 132) hx hb d_X_wouldBeWell_113 d_X_wouldBeWell_114 rfl (fun hc => ?_) (fun hc => ?_)
  · replace hf := og_t hc hf
    refine lv_iconst (v := 0) hx hb d_X_wouldBeWell_132 (by decide) ?_
    exact W.zret hx hb hr rfl (fun t ht hWm => ⟨⟨_, _, rfl, Option.some.inj hf, by rw [ht]; exact hW, va_K.moved hWm.alike hK⟩, hS.F ht⟩) hS.2.2 d_X_wouldBeWell_133
  · replace hf := og_f hc hf
    refine lv_lload_n hx hb d_X_wouldBeWell_117 rfl (lv_at hl 1 rfl) ?_
    refine lv_aload_n hx hb d_X_wouldBeWell_118 rfl (lv_at hl 0 rfl) ?_
    refine va_get (D := D) (ci := 0) (C := "GridlockDesk$Bank") (T := T_B) (N := 7) hx hb ht hin_B hown hK (hW.1.one (t := 4) (vin_lt hin1)) 0 rfl rfl 2 (by decide) (ht _ tw_67) (fun _ h9 => h9) rfl d_X_wouldBeWell_119 ?_
    obtain ⟨o13, ho13, hf⟩ := og_b hf
    refine kc_i (P := (fun u H => CW D cA ad n A u H)) (va_runS (As := [.long _, .long _]) (rest := []) ⟨hx, hb, hml, hown, hts⟩ (m_X_exceeds l D cA ad n A _  _ _  o13 ho13) (va_cwS 2 hts (tb_S tw_150 tw_151 tw_31 tw_152) rfl rfl rfl (by decide +kernel) ⟨Nat.le_of_ble_eq_true rfl, Nat.le_of_ble_eq_true rfl⟩) ⟨k_blind, k_pre hW hK⟩ rfl rfl hl.1 rfl (lv_room (Nat.le_of_ble_eq_true rfl)) d_X_wouldBeWell_122 ⟨Nat.zero_le _, Nat.zero_le _⟩) hS (fun H locs hW hS => ?_)
    refine lv_if_ne (tgt := 132) hx hb d_X_wouldBeWell_125 rfl (fun hc => ?_) (fun hc => ?_)
    · replace hf := og_f hc hf
      refine lv_iconst (v := 0) hx hb d_X_wouldBeWell_132 (by decide) ?_
      exact W.zret hx hb hr rfl (fun t ht hWm => ⟨⟨_, _, rfl, Option.some.inj hf, by rw [ht]; exact hW, va_K.moved hWm.alike hK⟩, hS.F ht⟩) hS.2.2 d_X_wouldBeWell_133
    · replace hf := og_t hc hf
      refine lv_iconst (v := 1) hx hb d_X_wouldBeWell_128 (by decide) ?_
      refine lv_goto (tgt := 133) hx hb d_X_wouldBeWell_129 rfl ?_
      exact W.zret hx hb hr rfl (fun t ht hWm => ⟨⟨_, _, rfl, Option.some.inj hf, by rw [ht]; exact hW, va_K.moved hWm.alike hK⟩, hS.F ht⟩) hS.2.2 d_X_wouldBeWell_133

set_option maxHeartbeats 4000000 in
set_option maxRecDepth 100000 in
theorem lp_X_firstUnwellBank_2_ok {p : Program} {l : Launch} {e : Env} {s : State} {m : MethodId} {args : Array Value} {below : List Frame} {meth : Method} {c : Code} (D : va_G) (cA : Nat → ClassId) (ad : Nat → Nat → Nat) (n : Nat) (A : Nat → Prop) (hx : p.tables.exec = Jvm.exec) (hb : c.code = prog_1_method_33_code) (hml : c.maxLocals = 2) (hr : meth.sig.returnType = (some .int)) (hts : ∀ w ∈ ws_X_firstUnwellBank, w.before args s = true) (hown : s.vm.findClass "GridlockDesk" = some m.cls) (hlocks : meth.locks = false) (hK : va_K D vCl (atys cA) s) (k : St → Option (Int32 × St)) (out : Int32 × St)  (hk : ∀ (σ : St)  (H : Heap) (locs : List Loc) (ls : Array Slot), lv_has ls 2 [] → CW D cA ad n A σ H → va_S A s.heap H locs → k σ  = some out → W p l e (headSpec ws_X_firstUnwellBank ({ frames := 2, cells := 0, slots := 0, locals := 54 })).room s m args below meth c H locs 0 0 (MQ below (va_Qi (fun r u => (r, u) = out) (fun u t => CW D cA ad n A u t.heap ∧ va_K D vCl (atys cA) t) A) args s 0 0 A) (F0 m 27 ls [])) : ∀ (fu : Nat) (σ : St) (v1 : Int32) (H : Heap) (locs : List Loc) (ls : Array Slot), lv_has ls 2 [(0, .ref (ad 0 0)), (1, .int v1)] → CW D cA ad n A σ H → va_S A s.heap H locs → lp_X_firstUnwellBank_2 n k fu σ v1 = some out → W p l e (headSpec ws_X_firstUnwellBank ({ frames := 2, cells := 0, slots := 0, locals := 54 })).room s m args below meth c H locs 0 0 (MQ below (va_Qi (fun r u => (r, u) = out) (fun u t => CW D cA ad n A u t.heap ∧ va_K D vCl (atys cA) t) A) args s 0 0 A) (F0 m 2 ls []) := by
  intro fu
  induction fu with
  | zero =>
    intro σ v1 H locs ls  hl hW hS hf
    exact og_n hf
  | succ fu ih =>
    intro σ v1 H locs ls  hl hW hS hf
    rw [lp_X_firstUnwellBank_2_s] at hf
    have ht : ∀ w ∈ TB, w.before args s = true := fun w h => hts w (List.mem_cons_of_mem _ h)
    refine lv_iload_n hx hb d_X_firstUnwellBank_2 rfl (lv_at hl 1 rfl) ?_
    refine lv_aload_n hx hb d_X_firstUnwellBank_3 rfl (lv_at hl 0 rfl) ?_
    refine va_get (D := D) (ci := 2) (C := "GridlockDesk") (T := T_X) (N := 6) hx hb ht hin_X hown hK (hW.1.one (t := 0) rfl) 0 rfl rfl 0 (by decide) (ht _ tw_93) (fun _ h9 => h9) rfl d_X_firstUnwellBank_4 ?_
    refine va_alen (D := D) (v := nI n) hx hb hK (hW.1.one (t := 1) rfl) 0 2 rfl rfl rfl d_X_firstUnwellBank_7 ?_
    refine lv_icmp_ge (tgt := 27) hx hb d_X_firstUnwellBank_8 rfl (fun hc => ?_) (fun hc => ?_)
    · replace hf := og_t hc hf
      exact hk _  _ _ _  (lv_sub hl [] rfl) hW hS hf
    · replace hf := og_f hc hf
      refine lv_aload_n hx hb d_X_firstUnwellBank_11 rfl (lv_at hl 0 rfl) ?_
      refine lv_iload_n hx hb d_X_firstUnwellBank_12 rfl (lv_at hl 1 rfl) ?_
      obtain ⟨o1, ho1, hf⟩ := og_b hf
      refine kc_i (P := (fun u H => CW D cA ad n A u H)) (va_runV (C := "GridlockDesk") (As := [.int _]) (rest := []) ⟨hx, hb, hml, hown, hts⟩ (m_X_wouldBeWell l D cA ad n A _  _  o1 ho1) (cwV 1 hts (tb_V tw_142 tw_144 tw_5 tw_31 tw_145) rfl rfl rfl (by decide +kernel) ⟨Nat.le_of_ble_eq_true rfl, Nat.le_of_ble_eq_true rfl⟩) ⟨k_blind, kw.recv hK hW.1 (t := 0) rfl rfl rfl, k_pre hW hK⟩ rfl rfl hl.1 rfl (lv_room (Nat.le_of_ble_eq_true rfl)) d_X_firstUnwellBank_13 ⟨Nat.zero_le _, Nat.zero_le _⟩) hS (fun H locs hW hS => ?_)
      refine lv_if_ne (tgt := 21) hx hb d_X_firstUnwellBank_16 rfl (fun hc => ?_) (fun hc => ?_)
      · replace hf := og_f hc hf
        refine lv_iinc (k := 1) (v := _ + 1) (lv' := [(1, .int _), (0, .ref _)]) hx hb d_X_firstUnwellBank_21 hl rfl rfl (by decide) rfl (fun ls hl => ?_)
        refine lv_goto (tgt := 2) hx hb d_X_firstUnwellBank_24 rfl ?_
        exact ih _ _ _ _ _  (lv_sub hl [1, 0] rfl) hW hS hf
      · replace hf := og_t hc hf
        refine lv_iload_n hx hb d_X_firstUnwellBank_19 rfl (lv_at hl 1 rfl) ?_
        exact W.iret hx hb hr (fun t ht hWm => ⟨⟨_, _, rfl, Option.some.inj hf, by rw [ht]; exact hW, va_K.moved hWm.alike hK⟩, hS.F ht⟩) hS.2.2 d_X_firstUnwellBank_20

set_option maxHeartbeats 4000000 in
set_option maxRecDepth 100000 in
theorem m_X_firstUnwellBank (l : Launch) (D : va_G) (cA : Nat → ClassId) (ad : Nat → Nat → Nat) (n : Nat) (A : Nat → Prop) (σ : St)   (out : Int32 × St) (hf : f_X_firstUnwellBank n σ  = some out) : Met l y_X_firstUnwellBank ws_X_firstUnwellBank ({ frames := 2, cells := 0, slots := 0, locals := 54 }) (va_Pc [.ref (ad 0 0)] (fun U => CW D cA ad n A σ U.heap ∧ va_K D vCl (atys cA) U)) (va_Qi (fun r u => (r, u) = out) (fun u t => CW D cA ad n A u t.heap ∧ va_K D vCl (atys cA) t) A) 0 0 A := by
  refine Met.ofW (cc := prog_1_method_33_code) (maxL := 2) (ret := (some .int)) (by decide) rfl ?_
  intro p e s m args below meth c s₁ B hml hv
  obtain ⟨rfl, hW, hK⟩ := hv
  have hx := B.exec
  have hb := B.bytes
  have hr := B.returns
  have hts := atoms_spec (ws := ws_X_firstUnwellBank) B.pre
  have ht : ∀ w ∈ TB, w.before _ s = true := fun w h => hts w (List.mem_cons_of_mem _ h)
  have hown : s.vm.findClass "GridlockDesk" = some m.cls := findClass_of_methodNamed B.named
  have hlocks := B.notSynchronized
  have hS : va_S A s.heap s.heap [] := va_S.rf
  have hl := lv_entry ([.ref (ad 0 0)]) (n := 2) (Nat.le_of_ble_eq_true rfl)
  rw [lg_entry_eq]
  generalize (lg_sl ([.ref (ad 0 0)]) ++ List.replicate (2 - (lg_sl ([.ref (ad 0 0)])).length) Slot.unset).toArray = ls at hl ⊢
  have hl : lv_has ls 2 [(0, .ref (ad 0 0))] := hl
  unfold f_X_firstUnwellBank at hf
  refine lv_iconst (v := 0) hx hb d_X_firstUnwellBank_0 (by decide) ?_
  refine lv_istore_n (lv' := [(1, .int _), (0, .ref _)]) hx hb d_X_firstUnwellBank_1 rfl hl (by decide) rfl (fun ls hl => ?_)
  refine lp_X_firstUnwellBank_2_ok D cA ad n A hx hb hml hr hts hown hlocks hK _ _  (fun σ2 H locs ls  hl hW hS hf => ?_) _ _ _ _ _ _  (lv_sub hl [1, 0] rfl) hW hS hf
  refine lv_iconst (v := (-1)) hx hb d_X_firstUnwellBank_27 (by decide) ?_
  exact W.iret hx hb hr (fun t ht hWm => ⟨⟨_, _, rfl, Option.some.inj hf, by rw [ht]; exact hW, va_K.moved hWm.alike hK⟩, hS.F ht⟩) hS.2.2 d_X_firstUnwellBank_28

set_option maxHeartbeats 4000000 in
set_option maxRecDepth 100000 in
theorem m_X_chooseHeads (l : Launch) (D : va_G) (cA : Nat → ClassId) (ad : Nat → Nat → Nat) (n : Nat) (A : Nat → Prop) (σ : St) (x1 : Int32) (x2 : Int32)  (out : Int32 × St) (hf : f_X_chooseHeads n σ x1 x2 = some out) : Met l y_X_chooseHeads ws_X_chooseHeads ({ frames := 3, cells := 0, slots := 0, locals := 75 }) (va_Pc [.ref (ad 0 0), .int x1, .int x2] (fun U => CW D cA ad n A σ U.heap ∧ va_K D vCl (atys cA) U)) (va_Qi (fun r u => (r, u) = out) (fun u t => CW D cA ad n A u t.heap ∧ va_K D vCl (atys cA) t) A) 0 0 A := by
  refine Met.ofW (cc := prog_1_method_31_code) (maxL := 3) (ret := (some .boolean)) (by decide) rfl ?_
  intro p e s m args below meth c s₁ B hml hv
  obtain ⟨rfl, hW, hK⟩ := hv
  have hx := B.exec
  have hb := B.bytes
  have hr := B.returns
  have hts := atoms_spec (ws := ws_X_chooseHeads) B.pre
  have ht : ∀ w ∈ TB, w.before _ s = true := fun w h => hts w (List.mem_cons_of_mem _ h)
  have hown : s.vm.findClass "GridlockDesk" = some m.cls := findClass_of_methodNamed B.named
  have hlocks := B.notSynchronized
  have hS : va_S A s.heap s.heap [] := va_S.rf
  have hl := lv_entry ([.ref (ad 0 0), .int x1, .int x2]) (n := 3) (Nat.le_of_ble_eq_true rfl)
  rw [lg_entry_eq]
  generalize (lg_sl ([.ref (ad 0 0), .int x1, .int x2]) ++ List.replicate (3 - (lg_sl ([.ref (ad 0 0), .int x1, .int x2])).length) Slot.unset).toArray = ls at hl ⊢
  have hl : lv_has ls 3 [(0, .ref (ad 0 0)), (1, .int x1), (2, .int x2)] := hl
  unfold f_X_chooseHeads at hf
  refine lv_aload_n hx hb d_X_chooseHeads_0 rfl (lv_at hl 0 rfl) ?_
  refine va_get (D := D) (ci := 2) (C := "GridlockDesk") (T := T_X) (N := 6) hx hb ht hin_X hown hK (hW.1.one (t := 0) rfl) 0 rfl rfl 5 (by decide) (ht _ tw_98) (fun _ h9 => h9) rfl d_X_chooseHeads_1 ?_
  refine lv_iconst (v := 0) hx hb d_X_chooseHeads_4 (by decide) ?_
  obtain ⟨hn1, hf⟩ := og_if hf
  obtain ⟨σ2, eσ2, hf⟩ := og_b hf
  cases eσ2
  refine k_fillI (t := 3) hx hb hml hown hts tw_135 hK hW.1 hS rfl (hW.2 _ _ rfl) rfl hn1 ⟨Nat.le_of_ble_eq_true rfl, Nat.le_of_ble_eq_true rfl⟩ hl.1 (Nat.le_of_ble_eq_true rfl) ⟨Nat.zero_le _, Nat.zero_le _⟩ d_X_chooseHeads_5 cc_fI2 (fun H locs hW1 hS => ?_)
  have hW := CW.fI hW1 hW.2
  refine lv_aload_n hx hb d_X_chooseHeads_8 rfl (lv_at hl 0 rfl) ?_
  refine va_get (D := D) (ci := 2) (C := "GridlockDesk") (T := T_X) (N := 6) hx hb ht hin_X hown hK (hW.1.one (t := 0) rfl) 0 rfl rfl 5 (by decide) (ht _ tw_98) (fun _ h9 => h9) rfl d_X_chooseHeads_9 ?_
  refine lv_iload_n hx hb d_X_chooseHeads_12 rfl (lv_at hl 1 rfl) ?_
  refine lv_iconst (v := 1) hx hb d_X_chooseHeads_13 (by decide) ?_
  obtain ⟨hin3, hf⟩ := og_if hf
  obtain ⟨σ4, eσ4, hf⟩ := og_b hf
  cases eσ4
  refine k_iast  (t := 3) hx hb hK hW.1 hS rfl (hW.2 _ _ rfl) 1 rfl rfl hin3 d_X_chooseHeads_14 cc_wI2 (fun H locs hW1 hS => ?_)
  have hW := CW.wI hW1 hW.2
  refine lv_aload_n hx hb d_X_chooseHeads_15 rfl (lv_at hl 0 rfl) ?_
  refine va_get (D := D) (ci := 2) (C := "GridlockDesk") (T := T_X) (N := 6) hx hb ht hin_X hown hK (hW.1.one (t := 0) rfl) 0 rfl rfl 5 (by decide) (ht _ tw_98) (fun _ h9 => h9) rfl d_X_chooseHeads_16 ?_
  refine lv_iload_n hx hb d_X_chooseHeads_19 rfl (lv_at hl 2 rfl) ?_
  refine lv_iconst (v := 1) hx hb d_X_chooseHeads_20 (by decide) ?_
  obtain ⟨hin5, hf⟩ := og_if hf
  obtain ⟨σ6, eσ6, hf⟩ := og_b hf
  cases eσ6
  refine k_iast  (t := 3) hx hb hK hW.1 hS rfl (hW.2 _ _ rfl) 1 rfl rfl hin5 d_X_chooseHeads_21 cc_wI2 (fun H locs hW1 hS => ?_)
  have hW := CW.wI hW1 hW.2
  refine lv_aload_n hx hb d_X_chooseHeads_22 rfl (lv_at hl 0 rfl) ?_
  obtain ⟨o7, ho7, hf⟩ := og_b hf
  refine kc_i (P := (fun u H => CW D cA ad n A u H)) (va_runV (C := "GridlockDesk") (As := []) (rest := []) ⟨hx, hb, hml, hown, hts⟩ (m_X_firstUnwellBank l D cA ad n A _    o7 ho7) (cwV 0 hts (tb_V tw_138 tw_140 tw_4 tw_31 tw_141) rfl rfl rfl (by decide +kernel) ⟨Nat.le_of_ble_eq_true rfl, Nat.le_of_ble_eq_true rfl⟩) ⟨k_blind, kw.recv hK hW.1 (t := 0) rfl rfl rfl, k_pre hW hK⟩ rfl rfl hl.1 rfl (lv_room (Nat.le_of_ble_eq_true rfl)) d_X_chooseHeads_23 ⟨Nat.zero_le _, Nat.zero_le _⟩) hS (fun H locs hW hS => ?_)
  refine lv_iconst (v := (-1)) hx hb d_X_chooseHeads_26 (by decide) ?_
  refine lv_icmp_ne (tgt := 34) hx hb d_X_chooseHeads_27 rfl (fun hc => ?_) (fun hc => ?_)
  · replace hf := og_f hc hf
    refine lv_iconst (v := 0) hx hb d_X_chooseHeads_34 (by decide) ?_
    exact W.zret hx hb hr rfl (fun t ht hWm => ⟨⟨_, _, rfl, Option.some.inj hf, by rw [ht]; exact hW, va_K.moved hWm.alike hK⟩, hS.F ht⟩) hS.2.2 d_X_chooseHeads_35
  · replace hf := og_t hc hf
    refine lv_iconst (v := 1) hx hb d_X_chooseHeads_30 (by decide) ?_
    refine lv_goto (tgt := 35) hx hb d_X_chooseHeads_31 rfl ?_
    exact W.zret hx hb hr rfl (fun t ht hWm => ⟨⟨_, _, rfl, Option.some.inj hf, by rw [ht]; exact hW, va_K.moved hWm.alike hK⟩, hS.F ht⟩) hS.2.2 d_X_chooseHeads_35

set_option maxHeartbeats 4000000 in
set_option maxRecDepth 100000 in
theorem lp_X_chooseReadyHead_2_ok {p : Program} {l : Launch} {e : Env} {s : State} {m : MethodId} {args : Array Value} {below : List Frame} {meth : Method} {c : Code} (D : va_G) (cA : Nat → ClassId) (ad : Nat → Nat → Nat) (n : Nat) (A : Nat → Prop) (hx : p.tables.exec = Jvm.exec) (hb : c.code = prog_1_method_29_code) (hml : c.maxLocals = 2) (hr : meth.sig.returnType = (some .boolean)) (hts : ∀ w ∈ ws_X_chooseReadyHead, w.before args s = true) (hown : s.vm.findClass "GridlockDesk" = some m.cls) (hlocks : meth.locks = false) (hK : va_K D vCl (atys cA) s) (k : St → Option (Int32 × St)) (out : Int32 × St)  (hk : ∀ (σ : St)  (H : Heap) (locs : List Loc) (ls : Array Slot), lv_has ls 2 [] → CW D cA ad n A σ H → va_S A s.heap H locs → k σ  = some out → W p l e (headSpec ws_X_chooseReadyHead ({ frames := 4, cells := 0, slots := 0, locals := 97 })).room s m args below meth c H locs 0 0 (MQ below (va_Qi (fun r u => (r, u) = out) (fun u t => CW D cA ad n A u t.heap ∧ va_K D vCl (atys cA) t) A) args s 0 0 A) (F0 m 40 ls [])) : ∀ (fu : Nat) (σ : St) (v1 : Int32) (H : Heap) (locs : List Loc) (ls : Array Slot), lv_has ls 2 [(0, .ref (ad 0 0)), (1, .int v1)] → CW D cA ad n A σ H → va_S A s.heap H locs → lp_X_chooseReadyHead_2 n k fu σ v1 = some out → W p l e (headSpec ws_X_chooseReadyHead ({ frames := 4, cells := 0, slots := 0, locals := 97 })).room s m args below meth c H locs 0 0 (MQ below (va_Qi (fun r u => (r, u) = out) (fun u t => CW D cA ad n A u t.heap ∧ va_K D vCl (atys cA) t) A) args s 0 0 A) (F0 m 2 ls []) := by
  intro fu
  induction fu with
  | zero =>
    intro σ v1 H locs ls  hl hW hS hf
    exact og_n hf
  | succ fu ih =>
    intro σ v1 H locs ls  hl hW hS hf
    rw [lp_X_chooseReadyHead_2_s] at hf
    have ht : ∀ w ∈ TB, w.before args s = true := fun w h => hts w (List.mem_cons_of_mem _ h)
    refine lv_iload_n hx hb d_X_chooseReadyHead_2 rfl (lv_at hl 1 rfl) ?_
    refine lv_aload_n hx hb d_X_chooseReadyHead_3 rfl (lv_at hl 0 rfl) ?_
    refine va_get (D := D) (ci := 2) (C := "GridlockDesk") (T := T_X) (N := 6) hx hb ht hin_X hown hK (hW.1.one (t := 0) rfl) 0 rfl rfl 0 (by decide) (ht _ tw_93) (fun _ h9 => h9) rfl d_X_chooseReadyHead_4 ?_
    refine va_alen (D := D) (v := nI n) hx hb hK (hW.1.one (t := 1) rfl) 0 2 rfl rfl rfl d_X_chooseReadyHead_7 ?_
    refine lv_icmp_ge (tgt := 40) hx hb d_X_chooseReadyHead_8 rfl (fun hc => ?_) (fun hc => ?_)
    · replace hf := og_t hc hf
      exact hk _  _ _ _  (lv_sub hl [] rfl) hW hS hf
    · replace hf := og_f hc hf
      refine lv_aload_n hx hb d_X_chooseReadyHead_11 rfl (lv_at hl 0 rfl) ?_
      refine va_get (D := D) (ci := 2) (C := "GridlockDesk") (T := T_X) (N := 6) hx hb ht hin_X hown hK (hW.1.one (t := 0) rfl) 0 rfl rfl 0 (by decide) (ht _ tw_93) (fun _ h9 => h9) rfl d_X_chooseReadyHead_12 ?_
      refine lv_iload_n hx hb d_X_chooseReadyHead_15 rfl (lv_at hl 1 rfl) ?_
      obtain ⟨hin1, hf⟩ := og_if hf
      refine va_aldq (D := D) hx hb hK (hW.1.one (t := 1) rfl) 0 2 rfl rfl hin1 d_X_chooseReadyHead_16 ?_
      refine W.eq (g2 := F0 m 17 ls (.ref (ad 4 _) :: [])) rfl ?_
      refine va_get (D := D) (ci := 0) (C := "GridlockDesk$Bank") (T := T_B) (N := 7) hx hb ht hin_B hown hK (hW.1.one (t := 4) (vin_lt hin1)) 0 rfl rfl 6 (by decide) (ht _ tw_75) (fun _ h9 => h9) rfl d_X_chooseReadyHead_17 ?_
      refine lv_if_le (tgt := 34) hx hb d_X_chooseReadyHead_20 rfl (fun hc => ?_) (fun hc => ?_)
      · replace hf := og_t hc hf
        refine lv_iinc (k := 1) (v := _ + 1) (lv' := [(1, .int _), (0, .ref _)]) hx hb d_X_chooseReadyHead_34 hl rfl rfl (by decide) rfl (fun ls hl => ?_)
        refine lv_goto (tgt := 2) hx hb d_X_chooseReadyHead_37 rfl ?_
        exact ih _ _ _ _ _  (lv_sub hl [1, 0] rfl) hW hS hf
      · replace hf := og_f hc hf
        refine lv_aload_n hx hb d_X_chooseReadyHead_23 rfl (lv_at hl 0 rfl) ?_
        refine lv_iload_n hx hb d_X_chooseReadyHead_24 rfl (lv_at hl 1 rfl) ?_
        refine lv_iload_n hx hb d_X_chooseReadyHead_25 rfl (lv_at hl 1 rfl) ?_
        obtain ⟨o2, ho2, hf⟩ := og_b hf
        refine kc_i (P := (fun u H => CW D cA ad n A u H)) (va_runV (C := "GridlockDesk") (As := [.int _, .int _]) (rest := []) ⟨hx, hb, hml, hown, hts⟩ (m_X_chooseHeads l D cA ad n A _  _ _  o2 ho2) (cwV 2 hts (tb_V tw_131 tw_133 tw_3 tw_31 tw_134) rfl rfl rfl (by decide +kernel) ⟨Nat.le_of_ble_eq_true rfl, Nat.le_of_ble_eq_true rfl⟩) ⟨k_blind, kw.recv hK hW.1 (t := 0) rfl rfl rfl, k_pre hW hK⟩ rfl rfl hl.1 rfl (lv_room (Nat.le_of_ble_eq_true rfl)) d_X_chooseReadyHead_26 ⟨Nat.zero_le _, Nat.zero_le _⟩) hS (fun H locs hW hS => ?_)
        refine lv_if_eq (tgt := 34) hx hb d_X_chooseReadyHead_29 rfl (fun hc => ?_) (fun hc => ?_)
        · replace hf := og_t hc hf
          refine lv_iinc (k := 1) (v := _ + 1) (lv' := [(1, .int _), (0, .ref _)]) hx hb d_X_chooseReadyHead_34 hl rfl rfl (by decide) rfl (fun ls hl => ?_)
          refine lv_goto (tgt := 2) hx hb d_X_chooseReadyHead_37 rfl ?_
          exact ih _ _ _ _ _  (lv_sub hl [1, 0] rfl) hW hS hf
        · replace hf := og_f hc hf
          refine lv_iconst (v := 1) hx hb d_X_chooseReadyHead_32 (by decide) ?_
          exact W.zret hx hb hr rfl (fun t ht hWm => ⟨⟨_, _, rfl, Option.some.inj hf, by rw [ht]; exact hW, va_K.moved hWm.alike hK⟩, hS.F ht⟩) hS.2.2 d_X_chooseReadyHead_33

set_option maxHeartbeats 4000000 in
set_option maxRecDepth 100000 in
theorem m_X_chooseReadyHead (l : Launch) (D : va_G) (cA : Nat → ClassId) (ad : Nat → Nat → Nat) (n : Nat) (A : Nat → Prop) (σ : St)   (out : Int32 × St) (hf : f_X_chooseReadyHead n σ  = some out) : Met l y_X_chooseReadyHead ws_X_chooseReadyHead ({ frames := 4, cells := 0, slots := 0, locals := 97 }) (va_Pc [.ref (ad 0 0)] (fun U => CW D cA ad n A σ U.heap ∧ va_K D vCl (atys cA) U)) (va_Qi (fun r u => (r, u) = out) (fun u t => CW D cA ad n A u t.heap ∧ va_K D vCl (atys cA) t) A) 0 0 A := by
  refine Met.ofW (cc := prog_1_method_29_code) (maxL := 2) (ret := (some .boolean)) (by decide) rfl ?_
  intro p e s m args below meth c s₁ B hml hv
  obtain ⟨rfl, hW, hK⟩ := hv
  have hx := B.exec
  have hb := B.bytes
  have hr := B.returns
  have hts := atoms_spec (ws := ws_X_chooseReadyHead) B.pre
  have ht : ∀ w ∈ TB, w.before _ s = true := fun w h => hts w (List.mem_cons_of_mem _ h)
  have hown : s.vm.findClass "GridlockDesk" = some m.cls := findClass_of_methodNamed B.named
  have hlocks := B.notSynchronized
  have hS : va_S A s.heap s.heap [] := va_S.rf
  have hl := lv_entry ([.ref (ad 0 0)]) (n := 2) (Nat.le_of_ble_eq_true rfl)
  rw [lg_entry_eq]
  generalize (lg_sl ([.ref (ad 0 0)]) ++ List.replicate (2 - (lg_sl ([.ref (ad 0 0)])).length) Slot.unset).toArray = ls at hl ⊢
  have hl : lv_has ls 2 [(0, .ref (ad 0 0))] := hl
  unfold f_X_chooseReadyHead at hf
  refine lv_iconst (v := 0) hx hb d_X_chooseReadyHead_0 (by decide) ?_
  refine lv_istore_n (lv' := [(1, .int _), (0, .ref _)]) hx hb d_X_chooseReadyHead_1 rfl hl (by decide) rfl (fun ls hl => ?_)
  refine lp_X_chooseReadyHead_2_ok D cA ad n A hx hb hml hr hts hown hlocks hK _ _  (fun σ3 H locs ls  hl hW hS hf => ?_) _ _ _ _ _ _  (lv_sub hl [1, 0] rfl) hW hS hf
  refine lv_iconst (v := 0) hx hb d_X_chooseReadyHead_40 (by decide) ?_
  exact W.zret hx hb hr rfl (fun t ht hWm => ⟨⟨_, _, rfl, Option.some.inj hf, by rw [ht]; exact hW, va_K.moved hWm.alike hK⟩, hS.F ht⟩) hS.2.2 d_X_chooseReadyHead_41

set_option maxHeartbeats 4000000 in
set_option maxRecDepth 100000 in
theorem lp_X_chooseReadyPair_2_ok {p : Program} {l : Launch} {e : Env} {s : State} {m : MethodId} {args : Array Value} {below : List Frame} {meth : Method} {c : Code} (D : va_G) (cA : Nat → ClassId) (ad : Nat → Nat → Nat) (n : Nat) (A : Nat → Prop) (hx : p.tables.exec = Jvm.exec) (hb : c.code = prog_1_method_30_code) (hml : c.maxLocals = 3) (hr : meth.sig.returnType = (some .boolean)) (hts : ∀ w ∈ ws_X_chooseReadyPair, w.before args s = true) (hown : s.vm.findClass "GridlockDesk" = some m.cls) (hlocks : meth.locks = false) (hK : va_K D vCl (atys cA) s) (k : St → Option (Int32 × St)) (out : Int32 × St)  (hk : ∀ (σ : St)  (H : Heap) (locs : List Loc) (ls : Array Slot), lv_has ls 3 [] → CW D cA ad n A σ H → va_S A s.heap H locs → k σ  = some out → W p l e (headSpec ws_X_chooseReadyPair ({ frames := 4, cells := 0, slots := 0, locals := 97 })).room s m args below meth c H locs 0 0 (MQ below (va_Qi (fun r u => (r, u) = out) (fun u t => CW D cA ad n A u t.heap ∧ va_K D vCl (atys cA) t) A) args s 0 0 A) (F0 m 56 ls [])) : ∀ (fu : Nat) (σ : St) (v1 : Int32) (H : Heap) (locs : List Loc) (ls : Array Slot), lv_has ls 3 [(0, .ref (ad 0 0)), (1, .int v1)] → CW D cA ad n A σ H → va_S A s.heap H locs → lp_X_chooseReadyPair_2 n k fu σ v1 = some out → W p l e (headSpec ws_X_chooseReadyPair ({ frames := 4, cells := 0, slots := 0, locals := 97 })).room s m args below meth c H locs 0 0 (MQ below (va_Qi (fun r u => (r, u) = out) (fun u t => CW D cA ad n A u t.heap ∧ va_K D vCl (atys cA) t) A) args s 0 0 A) (F0 m 2 ls []) := by
  intro fu
  induction fu with
  | zero =>
    intro σ v1 H locs ls  hl hW hS hf
    exact og_n hf
  | succ fu ih =>
    intro σ v1 H locs ls  hl hW hS hf
    rw [lp_X_chooseReadyPair_2_s] at hf
    have ht : ∀ w ∈ TB, w.before args s = true := fun w h => hts w (List.mem_cons_of_mem _ h)
    refine lv_iload_n hx hb d_X_chooseReadyPair_2 rfl (lv_at hl 1 rfl) ?_
    refine lv_aload_n hx hb d_X_chooseReadyPair_3 rfl (lv_at hl 0 rfl) ?_
    refine va_get (D := D) (ci := 2) (C := "GridlockDesk") (T := T_X) (N := 6) hx hb ht hin_X hown hK (hW.1.one (t := 0) rfl) 0 rfl rfl 0 (by decide) (ht _ tw_93) (fun _ h9 => h9) rfl d_X_chooseReadyPair_4 ?_
    refine va_alen (D := D) (v := nI n) hx hb hK (hW.1.one (t := 1) rfl) 0 2 rfl rfl rfl d_X_chooseReadyPair_7 ?_
    refine lv_icmp_ge (tgt := 56) hx hb d_X_chooseReadyPair_8 rfl (fun hc => ?_) (fun hc => ?_)
    · replace hf := og_t hc hf
      exact hk _  _ _ _  (lv_sub hl [] rfl) hW hS hf
    · replace hf := og_f hc hf
      refine lv_aload_n hx hb d_X_chooseReadyPair_11 rfl (lv_at hl 0 rfl) ?_
      refine va_get (D := D) (ci := 2) (C := "GridlockDesk") (T := T_X) (N := 6) hx hb ht hin_X hown hK (hW.1.one (t := 0) rfl) 0 rfl rfl 0 (by decide) (ht _ tw_93) (fun _ h9 => h9) rfl d_X_chooseReadyPair_12 ?_
      refine lv_iload_n hx hb d_X_chooseReadyPair_15 rfl (lv_at hl 1 rfl) ?_
      obtain ⟨hin1, hf⟩ := og_if hf
      refine va_aldq (D := D) hx hb hK (hW.1.one (t := 1) rfl) 0 2 rfl rfl hin1 d_X_chooseReadyPair_16 ?_
      refine W.eq (g2 := F0 m 17 ls (.ref (ad 4 _) :: [])) rfl ?_
      obtain ⟨o2, ho2, hf⟩ := og_b hf
      refine kc_i (P := (fun u H => CW D cA ad n A u H)) (va_runV (C := "GridlockDesk$Bank") (As := []) (rest := []) ⟨hx, hb, hml, hown, hts⟩ (m_B_headGoesTo l D cA ad n A _ _  (vin_lt hin1) o2 ho2) (cwV 0 hts (tb_V tw_178 tw_179 tw_180 tw_33 tw_181) rfl rfl rfl (by decide +kernel) ⟨Nat.le_of_ble_eq_true rfl, Nat.le_of_ble_eq_true rfl⟩) ⟨k_blind, kw.recv hK hW.1 (t := 4) (vin_lt hin1) rfl rfl, k_pre hW hK⟩ rfl rfl hl.1 rfl (lv_room (Nat.le_of_ble_eq_true rfl)) d_X_chooseReadyPair_17 ⟨Nat.zero_le _, Nat.zero_le _⟩) hS (fun H locs hW hS => ?_)
      refine lv_istore_n (lv' := [(2, .int _), (0, .ref _), (1, .int _)]) hx hb d_X_chooseReadyPair_20 rfl hl (by decide) rfl (fun ls hl => ?_)
      refine lv_iload_n hx hb d_X_chooseReadyPair_21 rfl (lv_at hl 0 rfl) ?_
      refine lv_iload_n hx hb d_X_chooseReadyPair_22 rfl (lv_at hl 2 rfl) ?_
      refine lv_icmp_le (tgt := 50) hx hb d_X_chooseReadyPair_23 rfl (fun hc => ?_) (fun hc => ?_)
      · replace hf := og_t hc hf
        refine lv_iinc (k := 2) (v := _ + 1) (lv' := [(1, .int _), (2, .int _), (0, .ref _)]) hx hb d_X_chooseReadyPair_50 hl rfl rfl (by decide) rfl (fun ls hl => ?_)
        refine lv_goto (tgt := 2) hx hb d_X_chooseReadyPair_53 rfl ?_
        exact ih _ _ _ _ _  (lv_sub hl [2, 0] rfl) hW hS hf
      · replace hf := og_f hc hf
        refine lv_aload_n hx hb d_X_chooseReadyPair_26 rfl (lv_at hl 1 rfl) ?_
        refine va_get (D := D) (ci := 2) (C := "GridlockDesk") (T := T_X) (N := 6) hx hb ht hin_X hown hK (hW.1.one (t := 0) rfl) 0 rfl rfl 0 (by decide) (ht _ tw_93) (fun _ h9 => h9) rfl d_X_chooseReadyPair_27 ?_
        refine lv_iload_n hx hb d_X_chooseReadyPair_30 rfl (lv_at hl 0 rfl) ?_
        obtain ⟨hin3, hf⟩ := og_if hf
        refine va_aldq (D := D) hx hb hK (hW.1.one (t := 1) rfl) 0 2 rfl rfl hin3 d_X_chooseReadyPair_31 ?_
        refine W.eq (g2 := F0 m 32 ls (.ref (ad 4 _) :: [])) rfl ?_
        obtain ⟨o4, ho4, hf⟩ := og_b hf
        refine kc_i (P := (fun u H => CW D cA ad n A u H)) (va_runV (C := "GridlockDesk$Bank") (As := []) (rest := []) ⟨hx, hb, hml, hown, hts⟩ (m_B_headGoesTo l D cA ad n A _ _  (vin_lt hin3) o4 ho4) (cwV 0 hts (tb_V tw_178 tw_179 tw_180 tw_33 tw_181) rfl rfl rfl (by decide +kernel) ⟨Nat.le_of_ble_eq_true rfl, Nat.le_of_ble_eq_true rfl⟩) ⟨k_blind, kw.recv hK hW.1 (t := 4) (vin_lt hin3) rfl rfl, k_pre hW hK⟩ rfl rfl hl.1 rfl (lv_room (Nat.le_of_ble_eq_true rfl)) d_X_chooseReadyPair_32 ⟨Nat.zero_le _, Nat.zero_le _⟩) hS (fun H locs hW hS => ?_)
        refine lv_iload_n hx hb d_X_chooseReadyPair_35 rfl (lv_at hl 2 rfl) ?_
        refine lv_icmp_ne (tgt := 50) hx hb d_X_chooseReadyPair_36 rfl (fun hc => ?_) (fun hc => ?_)
        · replace hf := og_f hc hf
          refine lv_iinc (k := 2) (v := _ + 1) (lv' := [(1, .int _), (2, .int _), (0, .ref _)]) hx hb d_X_chooseReadyPair_50 hl rfl rfl (by decide) rfl (fun ls hl => ?_)
          refine lv_goto (tgt := 2) hx hb d_X_chooseReadyPair_53 rfl ?_
          exact ih _ _ _ _ _  (lv_sub hl [2, 0] rfl) hW hS hf
        · replace hf := og_t hc hf
          refine lv_aload_n hx hb d_X_chooseReadyPair_39 rfl (lv_at hl 1 rfl) ?_
          refine lv_iload_n hx hb d_X_chooseReadyPair_40 rfl (lv_at hl 2 rfl) ?_
          refine lv_iload_n hx hb d_X_chooseReadyPair_41 rfl (lv_at hl 0 rfl) ?_
          obtain ⟨o5, ho5, hf⟩ := og_b hf
          refine kc_i (P := (fun u H => CW D cA ad n A u H)) (va_runV (C := "GridlockDesk") (As := [.int _, .int _]) (rest := []) ⟨hx, hb, hml, hown, hts⟩ (m_X_chooseHeads l D cA ad n A _  _ _  o5 ho5) (cwV 2 hts (tb_V tw_131 tw_133 tw_3 tw_31 tw_134) rfl rfl rfl (by decide +kernel) ⟨Nat.le_of_ble_eq_true rfl, Nat.le_of_ble_eq_true rfl⟩) ⟨k_blind, kw.recv hK hW.1 (t := 0) rfl rfl rfl, k_pre hW hK⟩ rfl rfl hl.1 rfl (lv_room (Nat.le_of_ble_eq_true rfl)) d_X_chooseReadyPair_42 ⟨Nat.zero_le _, Nat.zero_le _⟩) hS (fun H locs hW hS => ?_)
          refine lv_if_eq (tgt := 50) hx hb d_X_chooseReadyPair_45 rfl (fun hc => ?_) (fun hc => ?_)
          · replace hf := og_t hc hf
            refine lv_iinc (k := 2) (v := _ + 1) (lv' := [(1, .int _), (2, .int _), (0, .ref _)]) hx hb d_X_chooseReadyPair_50 hl rfl rfl (by decide) rfl (fun ls hl => ?_)
            refine lv_goto (tgt := 2) hx hb d_X_chooseReadyPair_53 rfl ?_
            exact ih _ _ _ _ _  (lv_sub hl [2, 0] rfl) hW hS hf
          · replace hf := og_f hc hf
            refine lv_iconst (v := 1) hx hb d_X_chooseReadyPair_48 (by decide) ?_
            exact W.zret hx hb hr rfl (fun t ht hWm => ⟨⟨_, _, rfl, Option.some.inj hf, by rw [ht]; exact hW, va_K.moved hWm.alike hK⟩, hS.F ht⟩) hS.2.2 d_X_chooseReadyPair_49

set_option maxHeartbeats 4000000 in
set_option maxRecDepth 100000 in
theorem m_X_chooseReadyPair (l : Launch) (D : va_G) (cA : Nat → ClassId) (ad : Nat → Nat → Nat) (n : Nat) (A : Nat → Prop) (σ : St)   (out : Int32 × St) (hf : f_X_chooseReadyPair n σ  = some out) : Met l y_X_chooseReadyPair ws_X_chooseReadyPair ({ frames := 4, cells := 0, slots := 0, locals := 97 }) (va_Pc [.ref (ad 0 0)] (fun U => CW D cA ad n A σ U.heap ∧ va_K D vCl (atys cA) U)) (va_Qi (fun r u => (r, u) = out) (fun u t => CW D cA ad n A u t.heap ∧ va_K D vCl (atys cA) t) A) 0 0 A := by
  refine Met.ofW (cc := prog_1_method_30_code) (maxL := 3) (ret := (some .boolean)) (by decide) rfl ?_
  intro p e s m args below meth c s₁ B hml hv
  obtain ⟨rfl, hW, hK⟩ := hv
  have hx := B.exec
  have hb := B.bytes
  have hr := B.returns
  have hts := atoms_spec (ws := ws_X_chooseReadyPair) B.pre
  have ht : ∀ w ∈ TB, w.before _ s = true := fun w h => hts w (List.mem_cons_of_mem _ h)
  have hown : s.vm.findClass "GridlockDesk" = some m.cls := findClass_of_methodNamed B.named
  have hlocks := B.notSynchronized
  have hS : va_S A s.heap s.heap [] := va_S.rf
  have hl := lv_entry ([.ref (ad 0 0)]) (n := 3) (Nat.le_of_ble_eq_true rfl)
  rw [lg_entry_eq]
  generalize (lg_sl ([.ref (ad 0 0)]) ++ List.replicate (3 - (lg_sl ([.ref (ad 0 0)])).length) Slot.unset).toArray = ls at hl ⊢
  have hl : lv_has ls 3 [(0, .ref (ad 0 0))] := hl
  unfold f_X_chooseReadyPair at hf
  refine lv_iconst (v := 0) hx hb d_X_chooseReadyPair_0 (by decide) ?_
  refine lv_istore_n (lv' := [(1, .int _), (0, .ref _)]) hx hb d_X_chooseReadyPair_1 rfl hl (by decide) rfl (fun ls hl => ?_)
  refine lp_X_chooseReadyPair_2_ok D cA ad n A hx hb hml hr hts hown hlocks hK _ _  (fun σ6 H locs ls  hl hW hS hf => ?_) _ _ _ _ _ _  (lv_sub hl [1, 0] rfl) hW hS hf
  refine lv_iconst (v := 0) hx hb d_X_chooseReadyPair_56 (by decide) ?_
  exact W.zret hx hb hr rfl (fun t ht hWm => ⟨⟨_, _, rfl, Option.some.inj hf, by rw [ht]; exact hW, va_K.moved hWm.alike hK⟩, hS.F ht⟩) hS.2.2 d_X_chooseReadyPair_57

set_option maxHeartbeats 4000000 in
set_option maxRecDepth 100000 in
theorem lp_X_sweep_2_ok {p : Program} {l : Launch} {e : Env} {s : State} {m : MethodId} {args : Array Value} {below : List Frame} {meth : Method} {c : Code} (D : va_G) (cA : Nat → ClassId) (ad : Nat → Nat → Nat) (n : Nat) (A : Nat → Prop) (hx : p.tables.exec = Jvm.exec) (hb : c.code = prog_1_method_28_code) (hml : c.maxLocals = 2) (hr : meth.sig.returnType = none) (hts : ∀ w ∈ ws_X_sweep, w.before args s = true) (hown : s.vm.findClass "GridlockDesk" = some m.cls) (hlocks : meth.locks = false) (hK : va_K D vCl (atys cA) s) (k : St → Option (Unit × St)) (out : Unit × St)  (hk : ∀ (σ : St)  (H : Heap) (locs : List Loc) (ls : Array Slot), lv_has ls 2 [] → CW D cA ad n A σ H → va_S A s.heap H locs → k σ  = some out → W p l e (headSpec ws_X_sweep ({ frames := 5, cells := 0, slots := 0, locals := 119 })).room s m args below meth c H locs 0 0 (MQ below (va_Qv (fun u => ((), u) = out) (fun u t => CW D cA ad n A u t.heap ∧ va_K D vCl (atys cA) t) A) args s 0 0 A) (F0 m 47 ls [])) : ∀ (fu : Nat) (σ : St) (v1 : Int32) (H : Heap) (locs : List Loc) (ls : Array Slot), lv_has ls 2 [(0, .ref (ad 0 0)), (1, .int v1)] → CW D cA ad n A σ H → va_S A s.heap H locs → lp_X_sweep_2 n k fu σ v1 = some out → W p l e (headSpec ws_X_sweep ({ frames := 5, cells := 0, slots := 0, locals := 119 })).room s m args below meth c H locs 0 0 (MQ below (va_Qv (fun u => ((), u) = out) (fun u t => CW D cA ad n A u t.heap ∧ va_K D vCl (atys cA) t) A) args s 0 0 A) (F0 m 2 ls []) := by
  intro fu
  induction fu with
  | zero =>
    intro σ v1 H locs ls  hl hW hS hf
    exact og_n hf
  | succ fu ih =>
    intro σ v1 H locs ls  hl hW hS hf
    rw [lp_X_sweep_2_s] at hf
    have ht : ∀ w ∈ TB, w.before args s = true := fun w h => hts w (List.mem_cons_of_mem _ h)
    refine lv_iload_n hx hb d_X_sweep_2 rfl (lv_at hl 1 rfl) ?_
    refine lv_bipush (v := 24) hx hb d_X_sweep_3 (by decide) ?_
    refine lv_icmp_ge (tgt := 47) hx hb d_X_sweep_5 rfl (fun hc => ?_) (fun hc => ?_)
    · replace hf := og_t hc hf
      exact hk _  _ _ _  (lv_sub hl [] rfl) hW hS hf
    · replace hf := og_f hc hf
      refine lv_aload_n hx hb d_X_sweep_8 rfl (lv_at hl 0 rfl) ?_
      obtain ⟨o1, ho1, hf⟩ := og_b hf
      refine kc_i (P := (fun u H => CW D cA ad n A u H)) (va_runV (C := "GridlockDesk") (As := []) (rest := []) ⟨hx, hb, hml, hown, hts⟩ (m_X_chooseReadyHead l D cA ad n A _    o1 ho1) (cwV 0 hts (tb_V tw_127 tw_129 tw_2 tw_31 tw_130) rfl rfl rfl (by decide +kernel) ⟨Nat.le_of_ble_eq_true rfl, Nat.le_of_ble_eq_true rfl⟩) ⟨k_blind, kw.recv hK hW.1 (t := 0) rfl rfl rfl, k_pre hW hK⟩ rfl rfl hl.1 rfl (lv_room (Nat.le_of_ble_eq_true rfl)) d_X_sweep_9 ⟨Nat.zero_le _, Nat.zero_le _⟩) hS (fun H locs hW hS => ?_)
      refine lv_if_eq (tgt := 24) hx hb d_X_sweep_12 rfl (fun hc => ?_) (fun hc => ?_)
      · replace hf := og_t hc hf
        refine lv_aload_n hx hb d_X_sweep_24 rfl (lv_at hl 0 rfl) ?_
        obtain ⟨o2, ho2, hf⟩ := og_b hf
        refine kc_i (P := (fun u H => CW D cA ad n A u H)) (va_runV (C := "GridlockDesk") (As := []) (rest := []) ⟨hx, hb, hml, hown, hts⟩ (m_X_chooseReadyPair l D cA ad n A _    o2 ho2) (cwV 0 hts (tb_V tw_174 tw_176 tw_10 tw_31 tw_177) rfl rfl rfl (by decide +kernel) ⟨Nat.le_of_ble_eq_true rfl, Nat.le_of_ble_eq_true rfl⟩) ⟨k_blind, kw.recv hK hW.1 (t := 0) rfl rfl rfl, k_pre hW hK⟩ rfl rfl hl.1 rfl (lv_room (Nat.le_of_ble_eq_true rfl)) d_X_sweep_25 ⟨Nat.zero_le _, Nat.zero_le _⟩) hS (fun H locs hW hS => ?_)
        refine lv_if_eq (tgt := 40) hx hb d_X_sweep_28 rfl (fun hc => ?_) (fun hc => ?_)
        · replace hf := og_t hc hf
          exact W.vret hx hb hr (fun t ht hWm => ⟨⟨_, rfl, Option.some.inj hf, by rw [ht]; exact hW, va_K.moved hWm.alike hK⟩, hS.F ht⟩) hS.2.2 d_X_sweep_40
        · replace hf := og_f hc hf
          refine lv_aload_n hx hb d_X_sweep_31 rfl (lv_at hl 0 rfl) ?_
          refine lv_iconst (v := 2) hx hb d_X_sweep_32 (by decide) ?_
          obtain ⟨o3, ho3, hf⟩ := og_b hf
          refine kc_i (P := (fun u H => CW D cA ad n A u H)) (va_runV (C := "GridlockDesk") (As := [.int _]) (rest := []) ⟨hx, hb, hml, hown, hts⟩ (m_X_settleChosen l D cA ad n A _  _  o3 ho3) (cwV 1 hts (tb_V tw_158 tw_160 tw_7 tw_31 tw_161) rfl rfl rfl (by decide +kernel) ⟨Nat.le_of_ble_eq_true rfl, Nat.le_of_ble_eq_true rfl⟩) ⟨k_blind, kw.recv hK hW.1 (t := 0) rfl rfl rfl, k_pre hW hK⟩ rfl rfl hl.1 rfl (lv_room (Nat.le_of_ble_eq_true rfl)) d_X_sweep_33 ⟨Nat.zero_le _, Nat.zero_le _⟩) hS (fun H locs hW hS => ?_)
          refine lv_pop hx hb d_X_sweep_36 rfl ?_
          refine lv_goto (tgt := 41) hx hb d_X_sweep_37 rfl ?_
          refine lv_iinc (k := 1) (v := _ + 1) (lv' := [(1, .int _), (0, .ref _)]) hx hb d_X_sweep_41 hl rfl rfl (by decide) rfl (fun ls hl => ?_)
          refine lv_goto (tgt := 2) hx hb d_X_sweep_44 rfl ?_
          exact ih _ _ _ _ _  (lv_sub hl [1, 0] rfl) hW hS hf
      · replace hf := og_f hc hf
        refine lv_aload_n hx hb d_X_sweep_15 rfl (lv_at hl 0 rfl) ?_
        refine lv_iconst (v := 1) hx hb d_X_sweep_16 (by decide) ?_
        obtain ⟨o4, ho4, hf⟩ := og_b hf
        refine kc_i (P := (fun u H => CW D cA ad n A u H)) (va_runV (C := "GridlockDesk") (As := [.int _]) (rest := []) ⟨hx, hb, hml, hown, hts⟩ (m_X_settleChosen l D cA ad n A _  _  o4 ho4) (cwV 1 hts (tb_V tw_158 tw_160 tw_7 tw_31 tw_161) rfl rfl rfl (by decide +kernel) ⟨Nat.le_of_ble_eq_true rfl, Nat.le_of_ble_eq_true rfl⟩) ⟨k_blind, kw.recv hK hW.1 (t := 0) rfl rfl rfl, k_pre hW hK⟩ rfl rfl hl.1 rfl (lv_room (Nat.le_of_ble_eq_true rfl)) d_X_sweep_17 ⟨Nat.zero_le _, Nat.zero_le _⟩) hS (fun H locs hW hS => ?_)
        refine lv_pop hx hb d_X_sweep_20 rfl ?_
        refine lv_goto (tgt := 41) hx hb d_X_sweep_21 rfl ?_
        refine lv_iinc (k := 1) (v := _ + 1) (lv' := [(1, .int _), (0, .ref _)]) hx hb d_X_sweep_41 hl rfl rfl (by decide) rfl (fun ls hl => ?_)
        refine lv_goto (tgt := 2) hx hb d_X_sweep_44 rfl ?_
        exact ih _ _ _ _ _  (lv_sub hl [1, 0] rfl) hW hS hf

set_option maxHeartbeats 4000000 in
set_option maxRecDepth 100000 in
theorem m_X_sweep (l : Launch) (D : va_G) (cA : Nat → ClassId) (ad : Nat → Nat → Nat) (n : Nat) (A : Nat → Prop) (σ : St)   (out : Unit × St) (hf : f_X_sweep n σ  = some out) : Met l y_X_sweep ws_X_sweep ({ frames := 5, cells := 0, slots := 0, locals := 119 }) (va_Pc [.ref (ad 0 0)] (fun U => CW D cA ad n A σ U.heap ∧ va_K D vCl (atys cA) U)) (va_Qv (fun u => ((), u) = out) (fun u t => CW D cA ad n A u t.heap ∧ va_K D vCl (atys cA) t) A) 0 0 A := by
  refine Met.ofW (cc := prog_1_method_28_code) (maxL := 2) (ret := none) (by decide) rfl ?_
  intro p e s m args below meth c s₁ B hml hv
  obtain ⟨rfl, hW, hK⟩ := hv
  have hx := B.exec
  have hb := B.bytes
  have hr := B.returns
  have hts := atoms_spec (ws := ws_X_sweep) B.pre
  have ht : ∀ w ∈ TB, w.before _ s = true := fun w h => hts w (List.mem_cons_of_mem _ h)
  have hown : s.vm.findClass "GridlockDesk" = some m.cls := findClass_of_methodNamed B.named
  have hlocks := B.notSynchronized
  have hS : va_S A s.heap s.heap [] := va_S.rf
  have hl := lv_entry ([.ref (ad 0 0)]) (n := 2) (Nat.le_of_ble_eq_true rfl)
  rw [lg_entry_eq]
  generalize (lg_sl ([.ref (ad 0 0)]) ++ List.replicate (2 - (lg_sl ([.ref (ad 0 0)])).length) Slot.unset).toArray = ls at hl ⊢
  have hl : lv_has ls 2 [(0, .ref (ad 0 0))] := hl
  unfold f_X_sweep at hf
  refine lv_iconst (v := 0) hx hb d_X_sweep_0 (by decide) ?_
  refine lv_istore_n (lv' := [(1, .int _), (0, .ref _)]) hx hb d_X_sweep_1 rfl hl (by decide) rfl (fun ls hl => ?_)
  refine lp_X_sweep_2_ok D cA ad n A hx hb hml hr hts hown hlocks hK _ _  (fun σ5 H locs ls  hl hW hS hf => ?_) _ _ _ _ _ _  (lv_sub hl [1, 0] rfl) hW hS hf
  exact W.vret hx hb hr (fun t ht hWm => ⟨⟨_, rfl, Option.some.inj hf, by rw [ht]; exact hW, va_K.moved hWm.alike hK⟩, hS.F ht⟩) hS.2.2 d_X_sweep_47

set_option maxHeartbeats 4000000 in
set_option maxRecDepth 100000 in
theorem lp_X_chooseGreatest_2_ok {p : Program} {l : Launch} {e : Env} {s : State} {m : MethodId} {args : Array Value} {below : List Frame} {meth : Method} {c : Code} (D : va_G) (cA : Nat → ClassId) (ad : Nat → Nat → Nat) (n : Nat) (A : Nat → Prop) (hx : p.tables.exec = Jvm.exec) (hb : c.code = prog_1_method_32_code) (hml : c.maxLocals = 3) (hr : meth.sig.returnType = none) (hts : ∀ w ∈ ws_X_chooseGreatest, w.before args s = true) (hown : s.vm.findClass "GridlockDesk" = some m.cls) (hlocks : meth.locks = false) (hK : va_K D vCl (atys cA) s) (k : St → Option (Unit × St)) (out : Unit × St)  (hk : ∀ (σ : St)  (H : Heap) (locs : List Loc) (ls : Array Slot), lv_has ls 3 [(0, .ref (ad 0 0))] → CW D cA ad n A σ H → va_S A s.heap H locs → k σ  = some out → W p l e (headSpec ws_X_chooseGreatest ({ frames := 3, cells := 0, slots := 0, locals := 75 })).room s m args below meth c H locs 0 0 (MQ below (va_Qv (fun u => ((), u) = out) (fun u t => CW D cA ad n A u t.heap ∧ va_K D vCl (atys cA) t) A) args s 0 0 A) (F0 m 32 ls [])) : ∀ (fu : Nat) (σ : St) (v1 : Int32) (H : Heap) (locs : List Loc) (ls : Array Slot), lv_has ls 3 [(0, .ref (ad 0 0)), (1, .int v1)] → CW D cA ad n A σ H → va_S A s.heap H locs → lp_X_chooseGreatest_2 n k fu σ v1 = some out → W p l e (headSpec ws_X_chooseGreatest ({ frames := 3, cells := 0, slots := 0, locals := 75 })).room s m args below meth c H locs 0 0 (MQ below (va_Qv (fun u => ((), u) = out) (fun u t => CW D cA ad n A u t.heap ∧ va_K D vCl (atys cA) t) A) args s 0 0 A) (F0 m 2 ls []) := by
  intro fu
  induction fu with
  | zero =>
    intro σ v1 H locs ls  hl hW hS hf
    exact og_n hf
  | succ fu ih =>
    intro σ v1 H locs ls  hl hW hS hf
    rw [lp_X_chooseGreatest_2_s] at hf
    have ht : ∀ w ∈ TB, w.before args s = true := fun w h => hts w (List.mem_cons_of_mem _ h)
    refine lv_iload_n hx hb d_X_chooseGreatest_2 rfl (lv_at hl 1 rfl) ?_
    refine lv_aload_n hx hb d_X_chooseGreatest_3 rfl (lv_at hl 0 rfl) ?_
    refine va_get (D := D) (ci := 2) (C := "GridlockDesk") (T := T_X) (N := 6) hx hb ht hin_X hown hK (hW.1.one (t := 0) rfl) 0 rfl rfl 0 (by decide) (ht _ tw_93) (fun _ h9 => h9) rfl d_X_chooseGreatest_4 ?_
    refine va_alen (D := D) (v := nI n) hx hb hK (hW.1.one (t := 1) rfl) 0 2 rfl rfl rfl d_X_chooseGreatest_7 ?_
    refine lv_icmp_ge (tgt := 32) hx hb d_X_chooseGreatest_8 rfl (fun hc => ?_) (fun hc => ?_)
    · replace hf := og_t hc hf
      exact hk _  _ _ _  (lv_sub hl [0] rfl) hW hS hf
    · replace hf := og_f hc hf
      refine lv_aload_n hx hb d_X_chooseGreatest_11 rfl (lv_at hl 0 rfl) ?_
      refine va_get (D := D) (ci := 2) (C := "GridlockDesk") (T := T_X) (N := 6) hx hb ht hin_X hown hK (hW.1.one (t := 0) rfl) 0 rfl rfl 5 (by decide) (ht _ tw_98) (fun _ h9 => h9) rfl d_X_chooseGreatest_12 ?_
      refine lv_iload_n hx hb d_X_chooseGreatest_15 rfl (lv_at hl 1 rfl) ?_
      refine lv_aload_n hx hb d_X_chooseGreatest_16 rfl (lv_at hl 0 rfl) ?_
      refine va_get (D := D) (ci := 2) (C := "GridlockDesk") (T := T_X) (N := 6) hx hb ht hin_X hown hK (hW.1.one (t := 0) rfl) 0 rfl rfl 0 (by decide) (ht _ tw_93) (fun _ h9 => h9) rfl d_X_chooseGreatest_17 ?_
      refine lv_iload_n hx hb d_X_chooseGreatest_20 rfl (lv_at hl 1 rfl) ?_
      obtain ⟨hin1, hf⟩ := og_if hf
      refine va_aldq (D := D) hx hb hK (hW.1.one (t := 1) rfl) 0 2 rfl rfl hin1 d_X_chooseGreatest_21 ?_
      refine W.eq (g2 := F0 m 22 ls (.ref (ad 4 _) :: [_, _])) rfl ?_
      refine va_get (D := D) (ci := 0) (C := "GridlockDesk$Bank") (T := T_B) (N := 7) hx hb ht hin_B hown hK (hW.1.one (t := 4) (vin_lt hin1)) 0 rfl rfl 6 (by decide) (ht _ tw_75) (fun _ h9 => h9) rfl d_X_chooseGreatest_22 ?_
      obtain ⟨hin2, hf⟩ := og_if hf
      obtain ⟨σ3, eσ3, hf⟩ := og_b hf
      cases eσ3
      refine k_iast  (t := 3) hx hb hK hW.1 hS rfl (hW.2 _ _ rfl) 1 rfl rfl hin2 d_X_chooseGreatest_25 cc_wI2 (fun H locs hW1 hS => ?_)
      have hW := CW.wI hW1 hW.2
      refine lv_iinc (k := 1) (v := _ + 1) (lv' := [(1, .int _), (0, .ref _)]) hx hb d_X_chooseGreatest_26 hl rfl rfl (by decide) rfl (fun ls hl => ?_)
      refine lv_goto (tgt := 2) hx hb d_X_chooseGreatest_29 rfl ?_
      exact ih _ _ _ _ _  (lv_sub hl [1, 0] rfl) hW hS hf

set_option maxHeartbeats 4000000 in
set_option maxRecDepth 100000 in
theorem lp_X_chooseGreatest_34_ok {p : Program} {l : Launch} {e : Env} {s : State} {m : MethodId} {args : Array Value} {below : List Frame} {meth : Method} {c : Code} (D : va_G) (cA : Nat → ClassId) (ad : Nat → Nat → Nat) (n : Nat) (A : Nat → Prop) (hx : p.tables.exec = Jvm.exec) (hb : c.code = prog_1_method_32_code) (hml : c.maxLocals = 3) (hr : meth.sig.returnType = none) (hts : ∀ w ∈ ws_X_chooseGreatest, w.before args s = true) (hown : s.vm.findClass "GridlockDesk" = some m.cls) (hlocks : meth.locks = false) (hK : va_K D vCl (atys cA) s) (k : St → Option (Unit × St)) (out : Unit × St)  (hk : ∀ (σ : St)  (H : Heap) (locs : List Loc) (ls : Array Slot), lv_has ls 3 [] → CW D cA ad n A σ H → va_S A s.heap H locs → k σ  = some out → W p l e (headSpec ws_X_chooseGreatest ({ frames := 3, cells := 0, slots := 0, locals := 75 })).room s m args below meth c H locs 0 0 (MQ below (va_Qv (fun u => ((), u) = out) (fun u t => CW D cA ad n A u t.heap ∧ va_K D vCl (atys cA) t) A) args s 0 0 A) (F0 m 67 ls [])) : ∀ (fu : Nat) (σ : St) (v1 : Int32) (H : Heap) (locs : List Loc) (ls : Array Slot), lv_has ls 3 [(0, .ref (ad 0 0)), (1, .int v1)] → CW D cA ad n A σ H → va_S A s.heap H locs → lp_X_chooseGreatest_34 n k fu σ v1 = some out → W p l e (headSpec ws_X_chooseGreatest ({ frames := 3, cells := 0, slots := 0, locals := 75 })).room s m args below meth c H locs 0 0 (MQ below (va_Qv (fun u => ((), u) = out) (fun u t => CW D cA ad n A u t.heap ∧ va_K D vCl (atys cA) t) A) args s 0 0 A) (F0 m 34 ls []) := by
  intro fu
  induction fu with
  | zero =>
    intro σ v1 H locs ls  hl hW hS hf
    exact og_n hf
  | succ fu ih =>
    intro σ v1 H locs ls  hl hW hS hf
    rw [lp_X_chooseGreatest_34_s] at hf
    have ht : ∀ w ∈ TB, w.before args s = true := fun w h => hts w (List.mem_cons_of_mem _ h)
    refine lv_iload_n hx hb d_X_chooseGreatest_34 rfl (lv_at hl 1 rfl) ?_
    refine lv_bipush (v := 24) hx hb d_X_chooseGreatest_35 (by decide) ?_
    refine lv_icmp_ge (tgt := 67) hx hb d_X_chooseGreatest_37 rfl (fun hc => ?_) (fun hc => ?_)
    · replace hf := og_t hc hf
      exact hk _  _ _ _  (lv_sub hl [] rfl) hW hS hf
    · replace hf := og_f hc hf
      refine lv_aload_n hx hb d_X_chooseGreatest_40 rfl (lv_at hl 0 rfl) ?_
      obtain ⟨o5, ho5, hf⟩ := og_b hf
      refine kc_i (P := (fun u H => CW D cA ad n A u H)) (va_runV (C := "GridlockDesk") (As := []) (rest := []) ⟨hx, hb, hml, hown, hts⟩ (m_X_firstUnwellBank l D cA ad n A _    o5 ho5) (cwV 0 hts (tb_V tw_138 tw_140 tw_4 tw_31 tw_141) rfl rfl rfl (by decide +kernel) ⟨Nat.le_of_ble_eq_true rfl, Nat.le_of_ble_eq_true rfl⟩) ⟨k_blind, kw.recv hK hW.1 (t := 0) rfl rfl rfl, k_pre hW hK⟩ rfl rfl hl.1 rfl (lv_room (Nat.le_of_ble_eq_true rfl)) d_X_chooseGreatest_41 ⟨Nat.zero_le _, Nat.zero_le _⟩) hS (fun H locs hW hS => ?_)
      refine lv_istore_n (lv' := [(2, .int _), (0, .ref _), (1, .int _)]) hx hb d_X_chooseGreatest_44 rfl hl (by decide) rfl (fun ls hl => ?_)
      refine lv_iload_n hx hb d_X_chooseGreatest_45 rfl (lv_at hl 0 rfl) ?_
      refine lv_iconst (v := (-1)) hx hb d_X_chooseGreatest_46 (by decide) ?_
      refine lv_icmp_ne (tgt := 51) hx hb d_X_chooseGreatest_47 rfl (fun hc => ?_) (fun hc => ?_)
      · replace hf := og_f hc hf
        refine lv_aload_n hx hb d_X_chooseGreatest_51 rfl (lv_at hl 1 rfl) ?_
        refine va_get (D := D) (ci := 2) (C := "GridlockDesk") (T := T_X) (N := 6) hx hb ht hin_X hown hK (hW.1.one (t := 0) rfl) 0 rfl rfl 5 (by decide) (ht _ tw_98) (fun _ h9 => h9) rfl d_X_chooseGreatest_52 ?_
        refine lv_iload_n hx hb d_X_chooseGreatest_55 rfl (lv_at hl 0 rfl) ?_
        refine lv_dup2_11 hx hb d_X_chooseGreatest_56 rfl rfl ?_
        obtain ⟨hin6, hf⟩ := og_if hf
        refine va_iald (D := D) hx hb hK (hW.1.one (t := 3) rfl) 0 1 rfl rfl hin6 d_X_chooseGreatest_57 ?_
        refine lv_iconst (v := 1) hx hb d_X_chooseGreatest_58 (by decide) ?_
        refine lv_isub hx hb d_X_chooseGreatest_59 ?_
        obtain ⟨hin7, hf⟩ := og_if hf
        obtain ⟨σ8, eσ8, hf⟩ := og_b hf
        cases eσ8
        refine k_iast  (t := 3) hx hb hK hW.1 hS rfl (hW.2 _ _ rfl) 1 rfl rfl hin7 d_X_chooseGreatest_60 cc_wI2 (fun H locs hW1 hS => ?_)
        have hW := CW.wI hW1 hW.2
        refine lv_iinc (k := 2) (v := _ + 1) (lv' := [(1, .int _), (2, .int _), (0, .ref _)]) hx hb d_X_chooseGreatest_61 hl rfl rfl (by decide) rfl (fun ls hl => ?_)
        refine lv_goto (tgt := 34) hx hb d_X_chooseGreatest_64 rfl ?_
        exact ih _ _ _ _ _  (lv_sub hl [2, 0] rfl) hW hS hf
      · replace hf := og_t hc hf
        exact W.vret hx hb hr (fun t ht hWm => ⟨⟨_, rfl, Option.some.inj hf, by rw [ht]; exact hW, va_K.moved hWm.alike hK⟩, hS.F ht⟩) hS.2.2 d_X_chooseGreatest_50

set_option maxHeartbeats 4000000 in
set_option maxRecDepth 100000 in
theorem m_X_chooseGreatest (l : Launch) (D : va_G) (cA : Nat → ClassId) (ad : Nat → Nat → Nat) (n : Nat) (A : Nat → Prop) (σ : St)   (out : Unit × St) (hf : f_X_chooseGreatest n σ  = some out) : Met l y_X_chooseGreatest ws_X_chooseGreatest ({ frames := 3, cells := 0, slots := 0, locals := 75 }) (va_Pc [.ref (ad 0 0)] (fun U => CW D cA ad n A σ U.heap ∧ va_K D vCl (atys cA) U)) (va_Qv (fun u => ((), u) = out) (fun u t => CW D cA ad n A u t.heap ∧ va_K D vCl (atys cA) t) A) 0 0 A := by
  refine Met.ofW (cc := prog_1_method_32_code) (maxL := 3) (ret := none) (by decide) rfl ?_
  intro p e s m args below meth c s₁ B hml hv
  obtain ⟨rfl, hW, hK⟩ := hv
  have hx := B.exec
  have hb := B.bytes
  have hr := B.returns
  have hts := atoms_spec (ws := ws_X_chooseGreatest) B.pre
  have ht : ∀ w ∈ TB, w.before _ s = true := fun w h => hts w (List.mem_cons_of_mem _ h)
  have hown : s.vm.findClass "GridlockDesk" = some m.cls := findClass_of_methodNamed B.named
  have hlocks := B.notSynchronized
  have hS : va_S A s.heap s.heap [] := va_S.rf
  have hl := lv_entry ([.ref (ad 0 0)]) (n := 3) (Nat.le_of_ble_eq_true rfl)
  rw [lg_entry_eq]
  generalize (lg_sl ([.ref (ad 0 0)]) ++ List.replicate (3 - (lg_sl ([.ref (ad 0 0)])).length) Slot.unset).toArray = ls at hl ⊢
  have hl : lv_has ls 3 [(0, .ref (ad 0 0))] := hl
  unfold f_X_chooseGreatest at hf
  refine lv_iconst (v := 0) hx hb d_X_chooseGreatest_0 (by decide) ?_
  refine lv_istore_n (lv' := [(1, .int _), (0, .ref _)]) hx hb d_X_chooseGreatest_1 rfl hl (by decide) rfl (fun ls hl => ?_)
  refine lp_X_chooseGreatest_2_ok D cA ad n A hx hb hml hr hts hown hlocks hK _ _  (fun σ4 H locs ls  hl hW hS hf => ?_) _ _ _ _ _ _  (lv_sub hl [1, 0] rfl) hW hS hf
  refine lv_iconst (v := 0) hx hb d_X_chooseGreatest_32 (by decide) ?_
  refine lv_istore_n (lv' := [(1, .int _), (0, .ref _)]) hx hb d_X_chooseGreatest_33 rfl hl (by decide) rfl (fun ls hl => ?_)
  refine lp_X_chooseGreatest_34_ok D cA ad n A hx hb hml hr hts hown hlocks hK _ _  (fun σ9 H locs ls  hl hW hS hf => ?_) _ _ _ _ _ _  (lv_sub hl [1, 0] rfl) hW hS hf
  exact W.vret hx hb hr (fun t ht hWm => ⟨⟨_, rfl, Option.some.inj hf, by rw [ht]; exact hW, va_K.moved hWm.alike hK⟩, hS.F ht⟩) hS.2.2 d_X_chooseGreatest_67

set_option maxHeartbeats 4000000 in
set_option maxRecDepth 100000 in
theorem m_X_fund (l : Launch) (D : va_G) (cA : Nat → ClassId) (ad : Nat → Nat → Nat) (n : Nat) (A : Nat → Prop) (σ : St) (x1 : Int32) (x2 : Int64)  (out : Int32 × St) (hf : f_X_fund n σ x1 x2 = some out) : Met l y_X_fund ws_X_fund ({ frames := 6, cells := 0, slots := 0, locals := 140 }) (va_Pc [.ref (ad 0 0), .int x1, .long x2] (fun U => CW D cA ad n A σ U.heap ∧ va_K D vCl (atys cA) U)) (va_Qi (fun r u => (r, u) = out) (fun u t => CW D cA ad n A u t.heap ∧ va_K D vCl (atys cA) t) A) 0 0 A := by
  refine Met.ofW (cc := prog_1_method_2_code) (maxL := 5) (ret := (some .boolean)) (by decide) rfl ?_
  intro p e s m args below meth c s₁ B hml hv
  obtain ⟨rfl, hW, hK⟩ := hv
  have hx := B.exec
  have hb := B.bytes
  have hr := B.returns
  have hts := atoms_spec (ws := ws_X_fund) B.pre
  have ht : ∀ w ∈ TB, w.before _ s = true := fun w h => hts w (List.mem_cons_of_mem _ h)
  have hown : s.vm.findClass "GridlockDesk" = some m.cls := findClass_of_methodNamed B.named
  have hlocks := B.notSynchronized
  have hS : va_S A s.heap s.heap [] := va_S.rf
  have hl := lv_entry ([.ref (ad 0 0), .int x1, .long x2]) (n := 5) (Nat.le_of_ble_eq_true rfl)
  rw [lg_entry_eq]
  generalize (lg_sl ([.ref (ad 0 0), .int x1, .long x2]) ++ List.replicate (5 - (lg_sl ([.ref (ad 0 0), .int x1, .long x2])).length) Slot.unset).toArray = ls at hl ⊢
  have hl : lv_has ls 5 [(0, .ref (ad 0 0)), (1, .int x1), (2, .long x2)] := hl
  unfold f_X_fund at hf
  refine lv_aload_n hx hb d_X_fund_0 rfl (lv_at hl 0 rfl) ?_
  refine lv_iload_n hx hb d_X_fund_1 rfl (lv_at hl 1 rfl) ?_
  obtain ⟨o1, ho1, hf⟩ := og_b hf
  refine kc_i (P := (fun u H => CW D cA ad n A u H)) (va_runV (C := "GridlockDesk") (As := [.int _]) (rest := []) ⟨hx, hb, hml, hown, hts⟩ (m_X_isBank l D cA ad n A _  _  o1 ho1) (cwV 1 hts (tb_V tw_117 tw_119 tw_0 tw_31 tw_120) rfl rfl rfl (by decide +kernel) ⟨Nat.le_of_ble_eq_true rfl, Nat.le_of_ble_eq_true rfl⟩) ⟨k_blind, kw.recv hK hW.1 (t := 0) rfl rfl rfl, k_pre hW hK⟩ rfl rfl hl.1 rfl (lv_room (Nat.le_of_ble_eq_true rfl)) d_X_fund_2 ⟨Nat.zero_le _, Nat.zero_le _⟩) hS (fun H locs hW hS => ?_)
  refine lv_if_eq (tgt := 24) hx hb d_X_fund_5 rfl (fun hc => ?_) (fun hc => ?_)
  · replace hf := og_t hc hf
    refine lv_iconst (v := 0) hx hb d_X_fund_24 (by decide) ?_
    exact W.zret hx hb hr rfl (fun t ht hWm => ⟨⟨_, _, rfl, Option.some.inj hf, by rw [ht]; exact hW, va_K.moved hWm.alike hK⟩, hS.F ht⟩) hS.2.2 d_X_fund_25
  · replace hf := og_f hc hf
    refine lv_lload_n hx hb d_X_fund_8 rfl (lv_at hl 2 rfl) ?_
    refine lv_ldc2 (v := (-1000000000000)) hx hb hown (ht _ tw_121) d_X_fund_9 ?_
    refine lc_lt (tgt := 24) hx hb d_X_fund_12 d_X_fund_13 rfl (fun hc => ?_) (fun hc => ?_)
    · replace hf := og_t hc hf
      refine lv_iconst (v := 0) hx hb d_X_fund_24 (by decide) ?_
      exact W.zret hx hb hr rfl (fun t ht hWm => ⟨⟨_, _, rfl, Option.some.inj hf, by rw [ht]; exact hW, va_K.moved hWm.alike hK⟩, hS.F ht⟩) hS.2.2 d_X_fund_25
    · replace hf := og_f hc hf
      refine lv_lload_n hx hb d_X_fund_16 rfl (lv_at hl 2 rfl) ?_
      refine lv_ldc2 (v := 1000000000000) hx hb hown (ht _ tw_122) d_X_fund_17 ?_
      refine lc_le (tgt := 26) hx hb d_X_fund_20 d_X_fund_21 rfl (fun hc => ?_) (fun hc => ?_)
      · replace hf := og_t hc hf
        refine lv_aload_n hx hb d_X_fund_26 rfl (lv_at hl 0 rfl) ?_
        refine va_get (D := D) (ci := 2) (C := "GridlockDesk") (T := T_X) (N := 6) hx hb ht hin_X hown hK (hW.1.one (t := 0) rfl) 0 rfl rfl 0 (by decide) (ht _ tw_93) (fun _ h9 => h9) rfl d_X_fund_27 ?_
        refine lv_iload_n hx hb d_X_fund_30 rfl (lv_at hl 1 rfl) ?_
        obtain ⟨hin2, hf⟩ := og_if hf
        refine va_aldq (D := D) hx hb hK (hW.1.one (t := 1) rfl) 0 2 rfl rfl hin2 d_X_fund_31 ?_
        refine W.eq (g2 := F0 m 32 ls (.ref (ad 4 _) :: [])) rfl ?_
        refine lv_astore (lv' := [(4, .ref _), (0, .ref _), (1, .int _), (2, .long _)]) hx hb d_X_fund_32 hl (by decide) rfl (fun ls hl => ?_)
        refine lv_aload hx hb d_X_fund_34 (lv_at hl 0 rfl) ?_
        refine va_get (D := D) (ci := 0) (C := "GridlockDesk$Bank") (T := T_B) (N := 7) hx hb ht hin_B hown hK (hW.1.one (t := 4) (vin_lt hin2)) 0 rfl rfl 0 (by decide) (ht _ tw_64) (fun _ h9 => h9) rfl d_X_fund_36 ?_
        refine lv_lload_n hx hb d_X_fund_39 rfl (lv_at hl 3 rfl) ?_
        refine lv_ladd hx hb d_X_fund_40 ?_
        refine lv_aload hx hb d_X_fund_41 (lv_at hl 0 rfl) ?_
        refine va_get (D := D) (ci := 0) (C := "GridlockDesk$Bank") (T := T_B) (N := 7) hx hb ht hin_B hown hK (hW.1.one (t := 4) (vin_lt hin2)) 0 rfl rfl 1 (by decide) (ht _ tw_65) (fun _ h9 => h9) rfl d_X_fund_43 ?_
        refine lv_lneg hx hb d_X_fund_46 ?_
        refine lc_ge (tgt := 53) hx hb d_X_fund_47 d_X_fund_48 rfl (fun hc => ?_) (fun hc => ?_)
        · replace hf := og_t hc hf
          refine lv_aload hx hb d_X_fund_53 (lv_at hl 0 rfl) ?_
          refine lv_dup hx hb d_X_fund_55 rfl ?_
          refine va_get (D := D) (ci := 0) (C := "GridlockDesk$Bank") (T := T_B) (N := 7) hx hb ht hin_B hown hK (hW.1.one (t := 4) (vin_lt hin2)) 0 rfl rfl 0 (by decide) (ht _ tw_64) (fun _ h9 => h9) rfl d_X_fund_56 ?_
          refine lv_lload_n hx hb d_X_fund_59 rfl (lv_at hl 3 rfl) ?_
          refine lv_ladd hx hb d_X_fund_60 ?_
          obtain ⟨σ3, eσ3, hf⟩ := og_b hf
          cases eσ3
          refine k_put  (ci := 0) (C := "GridlockDesk$Bank") (T := T_B) (N := 7) (ty := .long) (t := 4) hx hb ht hin_B ft_B ft_B_ok nm_B hown hK hW.1 hS (vin_lt hin2) (hW.2 _ _ (vin_lt hin2)) rfl rfl 0 (by decide) (ht _ tw_64) (fun _ h9 => h9) rfl (by decide +kernel) rfl rfl (Nat.le_of_ble_eq_true rfl) d_X_fund_61 cc_wL1 (fun H locs hW1 hS => ?_)
          have hW := CW.wL hW1 hW.2
          refine lv_aload_n hx hb d_X_fund_64 rfl (lv_at hl 1 rfl) ?_
          obtain ⟨o4, ho4, hf⟩ := og_b hf
          refine kc_v (P := (fun u H => CW D cA ad n A u H)) (va_runV (C := "GridlockDesk") (As := []) (rest := []) ⟨hx, hb, hml, hown, hts⟩ (m_X_sweep l D cA ad n A _    o4 ho4) (cwV 0 hts (tb_V tw_123 tw_125 tw_1 tw_31 tw_126) rfl rfl rfl (by decide +kernel) ⟨Nat.le_of_ble_eq_true rfl, Nat.le_of_ble_eq_true rfl⟩) ⟨k_blind, kw.recv hK hW.1 (t := 0) rfl rfl rfl, k_pre hW hK⟩ rfl rfl hl.1 rfl (lv_room (Nat.le_of_ble_eq_true rfl)) d_X_fund_65 ⟨Nat.zero_le _, Nat.zero_le _⟩) hS (fun H locs hW hS => ?_)
          refine lv_iconst (v := 1) hx hb d_X_fund_68 (by decide) ?_
          exact W.zret hx hb hr rfl (fun t ht hWm => ⟨⟨_, _, rfl, Option.some.inj hf, by rw [ht]; exact hW, va_K.moved hWm.alike hK⟩, hS.F ht⟩) hS.2.2 d_X_fund_69
        · replace hf := og_f hc hf
          refine lv_iconst (v := 0) hx hb d_X_fund_51 (by decide) ?_
          exact W.zret hx hb hr rfl (fun t ht hWm => ⟨⟨_, _, rfl, Option.some.inj hf, by rw [ht]; exact hW, va_K.moved hWm.alike hK⟩, hS.F ht⟩) hS.2.2 d_X_fund_52
      · replace hf := og_f hc hf
        refine lv_iconst (v := 0) hx hb d_X_fund_24 (by decide) ?_
        exact W.zret hx hb hr rfl (fun t ht hWm => ⟨⟨_, _, rfl, Option.some.inj hf, by rw [ht]; exact hW, va_K.moved hWm.alike hK⟩, hS.F ht⟩) hS.2.2 d_X_fund_25

set_option maxHeartbeats 4000000 in
set_option maxRecDepth 100000 in
theorem m_X_credit (l : Launch) (D : va_G) (cA : Nat → ClassId) (ad : Nat → Nat → Nat) (n : Nat) (A : Nat → Prop) (σ : St) (x1 : Int32) (x2 : Int64)  (out : Int32 × St) (hf : f_X_credit n σ x1 x2 = some out) : Met l y_X_credit ws_X_credit ({ frames := 6, cells := 0, slots := 0, locals := 140 }) (va_Pc [.ref (ad 0 0), .int x1, .long x2] (fun U => CW D cA ad n A σ U.heap ∧ va_K D vCl (atys cA) U)) (va_Qi (fun r u => (r, u) = out) (fun u t => CW D cA ad n A u t.heap ∧ va_K D vCl (atys cA) t) A) 0 0 A := by
  refine Met.ofW (cc := prog_1_method_3_code) (maxL := 4) (ret := (some .boolean)) (by decide) rfl ?_
  intro p e s m args below meth c s₁ B hml hv
  obtain ⟨rfl, hW, hK⟩ := hv
  have hx := B.exec
  have hb := B.bytes
  have hr := B.returns
  have hts := atoms_spec (ws := ws_X_credit) B.pre
  have ht : ∀ w ∈ TB, w.before _ s = true := fun w h => hts w (List.mem_cons_of_mem _ h)
  have hown : s.vm.findClass "GridlockDesk" = some m.cls := findClass_of_methodNamed B.named
  have hlocks := B.notSynchronized
  have hS : va_S A s.heap s.heap [] := va_S.rf
  have hl := lv_entry ([.ref (ad 0 0), .int x1, .long x2]) (n := 4) (Nat.le_of_ble_eq_true rfl)
  rw [lg_entry_eq]
  generalize (lg_sl ([.ref (ad 0 0), .int x1, .long x2]) ++ List.replicate (4 - (lg_sl ([.ref (ad 0 0), .int x1, .long x2])).length) Slot.unset).toArray = ls at hl ⊢
  have hl : lv_has ls 4 [(0, .ref (ad 0 0)), (1, .int x1), (2, .long x2)] := hl
  unfold f_X_credit at hf
  refine lv_aload_n hx hb d_X_credit_0 rfl (lv_at hl 0 rfl) ?_
  refine lv_iload_n hx hb d_X_credit_1 rfl (lv_at hl 1 rfl) ?_
  obtain ⟨o1, ho1, hf⟩ := og_b hf
  refine kc_i (P := (fun u H => CW D cA ad n A u H)) (va_runV (C := "GridlockDesk") (As := [.int _]) (rest := []) ⟨hx, hb, hml, hown, hts⟩ (m_X_isBank l D cA ad n A _  _  o1 ho1) (cwV 1 hts (tb_V tw_117 tw_119 tw_0 tw_31 tw_120) rfl rfl rfl (by decide +kernel) ⟨Nat.le_of_ble_eq_true rfl, Nat.le_of_ble_eq_true rfl⟩) ⟨k_blind, kw.recv hK hW.1 (t := 0) rfl rfl rfl, k_pre hW hK⟩ rfl rfl hl.1 rfl (lv_room (Nat.le_of_ble_eq_true rfl)) d_X_credit_2 ⟨Nat.zero_le _, Nat.zero_le _⟩) hS (fun H locs hW hS => ?_)
  refine lv_if_eq (tgt := 37) hx hb d_X_credit_5 rfl (fun hc => ?_) (fun hc => ?_)
  · replace hf := og_t hc hf
    refine lv_iconst (v := 0) hx hb d_X_credit_37 (by decide) ?_
    exact W.zret hx hb hr rfl (fun t ht hWm => ⟨⟨_, _, rfl, Option.some.inj hf, by rw [ht]; exact hW, va_K.moved hWm.alike hK⟩, hS.F ht⟩) hS.2.2 d_X_credit_38
  · replace hf := og_f hc hf
    refine lv_lload_n hx hb d_X_credit_8 rfl (lv_at hl 2 rfl) ?_
    refine lv_lconst (v := 0) hx hb d_X_credit_9 (by decide) ?_
    refine lc_lt (tgt := 37) hx hb d_X_credit_10 d_X_credit_11 rfl (fun hc => ?_) (fun hc => ?_)
    · replace hf := og_t hc hf
      refine lv_iconst (v := 0) hx hb d_X_credit_37 (by decide) ?_
      exact W.zret hx hb hr rfl (fun t ht hWm => ⟨⟨_, _, rfl, Option.some.inj hf, by rw [ht]; exact hW, va_K.moved hWm.alike hK⟩, hS.F ht⟩) hS.2.2 d_X_credit_38
    · replace hf := og_f hc hf
      refine lv_lload_n hx hb d_X_credit_14 rfl (lv_at hl 2 rfl) ?_
      refine lv_ldc2 (v := 1000000000000000) hx hb hown (ht _ tw_186) d_X_credit_15 ?_
      refine lc_gt (tgt := 37) hx hb d_X_credit_18 d_X_credit_19 rfl (fun hc => ?_) (fun hc => ?_)
      · replace hf := og_t hc hf
        refine lv_iconst (v := 0) hx hb d_X_credit_37 (by decide) ?_
        exact W.zret hx hb hr rfl (fun t ht hWm => ⟨⟨_, _, rfl, Option.some.inj hf, by rw [ht]; exact hW, va_K.moved hWm.alike hK⟩, hS.F ht⟩) hS.2.2 d_X_credit_38
      · replace hf := og_f hc hf
        refine lv_aload_n hx hb d_X_credit_22 rfl (lv_at hl 0 rfl) ?_
        refine va_get (D := D) (ci := 2) (C := "GridlockDesk") (T := T_X) (N := 6) hx hb ht hin_X hown hK (hW.1.one (t := 0) rfl) 0 rfl rfl 0 (by decide) (ht _ tw_93) (fun _ h9 => h9) rfl d_X_credit_23 ?_
        refine lv_iload_n hx hb d_X_credit_26 rfl (lv_at hl 1 rfl) ?_
        obtain ⟨hin2, hf⟩ := og_if hf
        refine va_aldq (D := D) hx hb hK (hW.1.one (t := 1) rfl) 0 2 rfl rfl hin2 d_X_credit_27 ?_
        refine W.eq (g2 := F0 m 28 ls (.ref (ad 4 _) :: [])) rfl ?_
        refine va_get (D := D) (ci := 0) (C := "GridlockDesk$Bank") (T := T_B) (N := 7) hx hb ht hin_B hown hK (hW.1.one (t := 4) (vin_lt hin2)) 0 rfl rfl 0 (by decide) (ht _ tw_64) (fun _ h9 => h9) rfl d_X_credit_28 ?_
        refine lv_lload_n hx hb d_X_credit_31 rfl (lv_at hl 2 rfl) ?_
        refine lv_lneg hx hb d_X_credit_32 ?_
        refine lc_ge (tgt := 39) hx hb d_X_credit_33 d_X_credit_34 rfl (fun hc => ?_) (fun hc => ?_)
        · replace hf := og_t hc hf
          refine lv_aload_n hx hb d_X_credit_39 rfl (lv_at hl 0 rfl) ?_
          refine va_get (D := D) (ci := 2) (C := "GridlockDesk") (T := T_X) (N := 6) hx hb ht hin_X hown hK (hW.1.one (t := 0) rfl) 0 rfl rfl 0 (by decide) (ht _ tw_93) (fun _ h9 => h9) rfl d_X_credit_40 ?_
          refine lv_iload_n hx hb d_X_credit_43 rfl (lv_at hl 1 rfl) ?_
          obtain ⟨hin3, hf⟩ := og_if hf
          refine va_aldq (D := D) hx hb hK (hW.1.one (t := 1) rfl) 0 2 rfl rfl hin3 d_X_credit_44 ?_
          refine W.eq (g2 := F0 m 45 ls (.ref (ad 4 _) :: [])) rfl ?_
          refine lv_lload_n hx hb d_X_credit_45 rfl (lv_at hl 2 rfl) ?_
          obtain ⟨σ4, eσ4, hf⟩ := og_b hf
          cases eσ4
          refine k_put  (ci := 0) (C := "GridlockDesk$Bank") (T := T_B) (N := 7) (ty := .long) (t := 4) hx hb ht hin_B ft_B ft_B_ok nm_B hown hK hW.1 hS (vin_lt hin3) (hW.2 _ _ (vin_lt hin3)) rfl rfl 1 (by decide) (ht _ tw_65) (fun _ h9 => h9) rfl (by decide +kernel) rfl rfl (Nat.le_of_ble_eq_true rfl) d_X_credit_46 cc_wL2 (fun H locs hW1 hS => ?_)
          have hW := CW.wL hW1 hW.2
          refine lv_aload_n hx hb d_X_credit_49 rfl (lv_at hl 0 rfl) ?_
          obtain ⟨o5, ho5, hf⟩ := og_b hf
          refine kc_v (P := (fun u H => CW D cA ad n A u H)) (va_runV (C := "GridlockDesk") (As := []) (rest := []) ⟨hx, hb, hml, hown, hts⟩ (m_X_sweep l D cA ad n A _    o5 ho5) (cwV 0 hts (tb_V tw_123 tw_125 tw_1 tw_31 tw_126) rfl rfl rfl (by decide +kernel) ⟨Nat.le_of_ble_eq_true rfl, Nat.le_of_ble_eq_true rfl⟩) ⟨k_blind, kw.recv hK hW.1 (t := 0) rfl rfl rfl, k_pre hW hK⟩ rfl rfl hl.1 rfl (lv_room (Nat.le_of_ble_eq_true rfl)) d_X_credit_50 ⟨Nat.zero_le _, Nat.zero_le _⟩) hS (fun H locs hW hS => ?_)
          refine lv_iconst (v := 1) hx hb d_X_credit_53 (by decide) ?_
          exact W.zret hx hb hr rfl (fun t ht hWm => ⟨⟨_, _, rfl, Option.some.inj hf, by rw [ht]; exact hW, va_K.moved hWm.alike hK⟩, hS.F ht⟩) hS.2.2 d_X_credit_54
        · replace hf := og_f hc hf
          refine lv_iconst (v := 0) hx hb d_X_credit_37 (by decide) ?_
          exact W.zret hx hb hr rfl (fun t ht hWm => ⟨⟨_, _, rfl, Option.some.inj hf, by rw [ht]; exact hW, va_K.moved hWm.alike hK⟩, hS.F ht⟩) hS.2.2 d_X_credit_38

set_option maxHeartbeats 4000000 in
set_option maxRecDepth 100000 in
theorem m_X_limit (l : Launch) (D : va_G) (cA : Nat → ClassId) (ad : Nat → Nat → Nat) (n : Nat) (A : Nat → Prop) (σ : St) (x1 : Int32) (x2 : Int32) (x3 : Int64)  (out : Int32 × St) (hf : f_X_limit n σ x1 x2 x3 = some out) : Met l y_X_limit ws_X_limit ({ frames := 6, cells := 0, slots := 0, locals := 140 }) (va_Pc [.ref (ad 0 0), .int x1, .int x2, .long x3] (fun U => CW D cA ad n A σ U.heap ∧ va_K D vCl (atys cA) U)) (va_Qi (fun r u => (r, u) = out) (fun u t => CW D cA ad n A u t.heap ∧ va_K D vCl (atys cA) t) A) 0 0 A := by
  refine Met.ofW (cc := prog_1_method_4_code) (maxL := 5) (ret := (some .boolean)) (by decide) rfl ?_
  intro p e s m args below meth c s₁ B hml hv
  obtain ⟨rfl, hW, hK⟩ := hv
  have hx := B.exec
  have hb := B.bytes
  have hr := B.returns
  have hts := atoms_spec (ws := ws_X_limit) B.pre
  have ht : ∀ w ∈ TB, w.before _ s = true := fun w h => hts w (List.mem_cons_of_mem _ h)
  have hown : s.vm.findClass "GridlockDesk" = some m.cls := findClass_of_methodNamed B.named
  have hlocks := B.notSynchronized
  have hS : va_S A s.heap s.heap [] := va_S.rf
  have hl := lv_entry ([.ref (ad 0 0), .int x1, .int x2, .long x3]) (n := 5) (Nat.le_of_ble_eq_true rfl)
  rw [lg_entry_eq]
  generalize (lg_sl ([.ref (ad 0 0), .int x1, .int x2, .long x3]) ++ List.replicate (5 - (lg_sl ([.ref (ad 0 0), .int x1, .int x2, .long x3])).length) Slot.unset).toArray = ls at hl ⊢
  have hl : lv_has ls 5 [(0, .ref (ad 0 0)), (1, .int x1), (2, .int x2), (3, .long x3)] := hl
  unfold f_X_limit at hf
  refine lv_aload_n hx hb d_X_limit_0 rfl (lv_at hl 0 rfl) ?_
  refine lv_iload_n hx hb d_X_limit_1 rfl (lv_at hl 1 rfl) ?_
  refine lv_iload_n hx hb d_X_limit_2 rfl (lv_at hl 2 rfl) ?_
  obtain ⟨o1, ho1, hf⟩ := og_b hf
  refine kc_i (P := (fun u H => CW D cA ad n A u H)) (va_runV (C := "GridlockDesk") (As := [.int _, .int _]) (rest := []) ⟨hx, hb, hml, hown, hts⟩ (m_X_areTwoBanks l D cA ad n A _  _ _  o1 ho1) (cwV 2 hts (tb_V tw_191 tw_193 tw_11 tw_31 tw_194) rfl rfl rfl (by decide +kernel) ⟨Nat.le_of_ble_eq_true rfl, Nat.le_of_ble_eq_true rfl⟩) ⟨k_blind, kw.recv hK hW.1 (t := 0) rfl rfl rfl, k_pre hW hK⟩ rfl rfl hl.1 rfl (lv_room (Nat.le_of_ble_eq_true rfl)) d_X_limit_3 ⟨Nat.zero_le _, Nat.zero_le _⟩) hS (fun H locs hW hS => ?_)
  refine lv_if_eq (tgt := 29) hx hb d_X_limit_6 rfl (fun hc => ?_) (fun hc => ?_)
  · replace hf := og_t hc hf
    refine lv_iconst (v := 0) hx hb d_X_limit_29 (by decide) ?_
    exact W.zret hx hb hr rfl (fun t ht hWm => ⟨⟨_, _, rfl, Option.some.inj hf, by rw [ht]; exact hW, va_K.moved hWm.alike hK⟩, hS.F ht⟩) hS.2.2 d_X_limit_30
  · replace hf := og_f hc hf
    refine lv_lload_n hx hb d_X_limit_9 rfl (lv_at hl 3 rfl) ?_
    obtain ⟨o2, ho2, hf⟩ := og_b hf
    refine kc_i (P := (fun u H => CW D cA ad n A u H)) (va_runS (As := [.long _]) (rest := []) ⟨hx, hb, hml, hown, hts⟩ (m_X_isLimit l D cA ad n A _  _  o2 ho2) (va_cwS 1 hts (tb_S tw_195 tw_196 tw_31 tw_197) rfl rfl rfl (by decide +kernel) ⟨Nat.le_of_ble_eq_true rfl, Nat.le_of_ble_eq_true rfl⟩) ⟨k_blind, k_pre hW hK⟩ rfl rfl hl.1 rfl (lv_room (Nat.le_of_ble_eq_true rfl)) d_X_limit_10 ⟨Nat.zero_le _, Nat.zero_le _⟩) hS (fun H locs hW hS => ?_)
    refine lv_if_eq (tgt := 29) hx hb d_X_limit_13 rfl (fun hc => ?_) (fun hc => ?_)
    · replace hf := og_t hc hf
      refine lv_iconst (v := 0) hx hb d_X_limit_29 (by decide) ?_
      exact W.zret hx hb hr rfl (fun t ht hWm => ⟨⟨_, _, rfl, Option.some.inj hf, by rw [ht]; exact hW, va_K.moved hWm.alike hK⟩, hS.F ht⟩) hS.2.2 d_X_limit_30
    · replace hf := og_f hc hf
      refine lv_aload_n hx hb d_X_limit_16 rfl (lv_at hl 0 rfl) ?_
      refine lv_iload_n hx hb d_X_limit_17 rfl (lv_at hl 1 rfl) ?_
      refine lv_iload_n hx hb d_X_limit_18 rfl (lv_at hl 2 rfl) ?_
      obtain ⟨o3, ho3, hf⟩ := og_b hf
      refine kc_l (P := (fun u H => CW D cA ad n A u H)) (va_runV (C := "GridlockDesk") (As := [.int _, .int _]) (rest := []) ⟨hx, hb, hml, hown, hts⟩ (m_X_positionOf l D cA ad n A _  _ _  o3 ho3) (cwV 2 hts (tb_V tw_154 tw_156 tw_6 tw_31 tw_157) rfl rfl rfl (by decide +kernel) ⟨Nat.le_of_ble_eq_true rfl, Nat.le_of_ble_eq_true rfl⟩) ⟨k_blind, kw.recv hK hW.1 (t := 0) rfl rfl rfl, k_pre hW hK⟩ rfl rfl hl.1 rfl (lv_room (Nat.le_of_ble_eq_true rfl)) d_X_limit_19 ⟨Nat.zero_le _, Nat.zero_le _⟩) hS (fun H locs hW hS => ?_)
      refine lv_lload_n hx hb d_X_limit_22 rfl (lv_at hl 3 rfl) ?_
      obtain ⟨o4, ho4, hf⟩ := og_b hf
      refine kc_i (P := (fun u H => CW D cA ad n A u H)) (va_runS (As := [.long _, .long _]) (rest := []) ⟨hx, hb, hml, hown, hts⟩ (m_X_exceeds l D cA ad n A _  _ _  o4 ho4) (va_cwS 2 hts (tb_S tw_150 tw_151 tw_31 tw_152) rfl rfl rfl (by decide +kernel) ⟨Nat.le_of_ble_eq_true rfl, Nat.le_of_ble_eq_true rfl⟩) ⟨k_blind, k_pre hW hK⟩ rfl rfl hl.1 rfl (lv_room (Nat.le_of_ble_eq_true rfl)) d_X_limit_23 ⟨Nat.zero_le _, Nat.zero_le _⟩) hS (fun H locs hW hS => ?_)
      refine lv_if_eq (tgt := 31) hx hb d_X_limit_26 rfl (fun hc => ?_) (fun hc => ?_)
      · replace hf := og_t hc hf
        refine lv_aload_n hx hb d_X_limit_31 rfl (lv_at hl 0 rfl) ?_
        refine va_get (D := D) (ci := 2) (C := "GridlockDesk") (T := T_X) (N := 6) hx hb ht hin_X hown hK (hW.1.one (t := 0) rfl) 0 rfl rfl 0 (by decide) (ht _ tw_93) (fun _ h9 => h9) rfl d_X_limit_32 ?_
        refine lv_iload_n hx hb d_X_limit_35 rfl (lv_at hl 1 rfl) ?_
        obtain ⟨hin5, hf⟩ := og_if hf
        refine va_aldq (D := D) hx hb hK (hW.1.one (t := 1) rfl) 0 2 rfl rfl hin5 d_X_limit_36 ?_
        refine W.eq (g2 := F0 m 37 ls (.ref (ad 4 _) :: [])) rfl ?_
        refine va_get (D := D) (ci := 0) (C := "GridlockDesk$Bank") (T := T_B) (N := 7) hx hb ht hin_B hown hK (hW.1.one (t := 4) (vin_lt hin5)) 0 rfl rfl 3 (by decide) (ht _ tw_69) (fun _ h9 => h9) rfl d_X_limit_37 ?_
        refine lv_iload_n hx hb d_X_limit_40 rfl (lv_at hl 2 rfl) ?_
        refine lv_lload_n hx hb d_X_limit_41 rfl (lv_at hl 3 rfl) ?_
        obtain ⟨hin6, hf⟩ := og_if hf
        obtain ⟨σ7, eσ7, hf⟩ := og_b hf
        cases eσ7
        refine k_last  (t := 5) hx hb hK hW.1 hS (vin_lt hin5) (hW.2 _ _ (vin_lt hin5)) 0 rfl rfl hin6 d_X_limit_42 cc_wL4 (fun H locs hW1 hS => ?_)
        have hW := CW.wL hW1 hW.2
        refine lv_aload_n hx hb d_X_limit_43 rfl (lv_at hl 0 rfl) ?_
        obtain ⟨o8, ho8, hf⟩ := og_b hf
        refine kc_v (P := (fun u H => CW D cA ad n A u H)) (va_runV (C := "GridlockDesk") (As := []) (rest := []) ⟨hx, hb, hml, hown, hts⟩ (m_X_sweep l D cA ad n A _    o8 ho8) (cwV 0 hts (tb_V tw_123 tw_125 tw_1 tw_31 tw_126) rfl rfl rfl (by decide +kernel) ⟨Nat.le_of_ble_eq_true rfl, Nat.le_of_ble_eq_true rfl⟩) ⟨k_blind, kw.recv hK hW.1 (t := 0) rfl rfl rfl, k_pre hW hK⟩ rfl rfl hl.1 rfl (lv_room (Nat.le_of_ble_eq_true rfl)) d_X_limit_44 ⟨Nat.zero_le _, Nat.zero_le _⟩) hS (fun H locs hW hS => ?_)
        refine lv_iconst (v := 1) hx hb d_X_limit_47 (by decide) ?_
        exact W.zret hx hb hr rfl (fun t ht hWm => ⟨⟨_, _, rfl, Option.some.inj hf, by rw [ht]; exact hW, va_K.moved hWm.alike hK⟩, hS.F ht⟩) hS.2.2 d_X_limit_48
      · replace hf := og_f hc hf
        refine lv_iconst (v := 0) hx hb d_X_limit_29 (by decide) ?_
        exact W.zret hx hb hr rfl (fun t ht hWm => ⟨⟨_, _, rfl, Option.some.inj hf, by rw [ht]; exact hW, va_K.moved hWm.alike hK⟩, hS.F ht⟩) hS.2.2 d_X_limit_30

set_option maxHeartbeats 4000000 in
set_option maxRecDepth 100000 in
theorem m_X_totalLimit (l : Launch) (D : va_G) (cA : Nat → ClassId) (ad : Nat → Nat → Nat) (n : Nat) (A : Nat → Prop) (σ : St) (x1 : Int32) (x2 : Int64)  (out : Int32 × St) (hf : f_X_totalLimit n σ x1 x2 = some out) : Met l y_X_totalLimit ws_X_totalLimit ({ frames := 6, cells := 0, slots := 0, locals := 140 }) (va_Pc [.ref (ad 0 0), .int x1, .long x2] (fun U => CW D cA ad n A σ U.heap ∧ va_K D vCl (atys cA) U)) (va_Qi (fun r u => (r, u) = out) (fun u t => CW D cA ad n A u t.heap ∧ va_K D vCl (atys cA) t) A) 0 0 A := by
  refine Met.ofW (cc := prog_1_method_5_code) (maxL := 4) (ret := (some .boolean)) (by decide) rfl ?_
  intro p e s m args below meth c s₁ B hml hv
  obtain ⟨rfl, hW, hK⟩ := hv
  have hx := B.exec
  have hb := B.bytes
  have hr := B.returns
  have hts := atoms_spec (ws := ws_X_totalLimit) B.pre
  have ht : ∀ w ∈ TB, w.before _ s = true := fun w h => hts w (List.mem_cons_of_mem _ h)
  have hown : s.vm.findClass "GridlockDesk" = some m.cls := findClass_of_methodNamed B.named
  have hlocks := B.notSynchronized
  have hS : va_S A s.heap s.heap [] := va_S.rf
  have hl := lv_entry ([.ref (ad 0 0), .int x1, .long x2]) (n := 4) (Nat.le_of_ble_eq_true rfl)
  rw [lg_entry_eq]
  generalize (lg_sl ([.ref (ad 0 0), .int x1, .long x2]) ++ List.replicate (4 - (lg_sl ([.ref (ad 0 0), .int x1, .long x2])).length) Slot.unset).toArray = ls at hl ⊢
  have hl : lv_has ls 4 [(0, .ref (ad 0 0)), (1, .int x1), (2, .long x2)] := hl
  unfold f_X_totalLimit at hf
  refine lv_aload_n hx hb d_X_totalLimit_0 rfl (lv_at hl 0 rfl) ?_
  refine lv_iload_n hx hb d_X_totalLimit_1 rfl (lv_at hl 1 rfl) ?_
  obtain ⟨o1, ho1, hf⟩ := og_b hf
  refine kc_i (P := (fun u H => CW D cA ad n A u H)) (va_runV (C := "GridlockDesk") (As := [.int _]) (rest := []) ⟨hx, hb, hml, hown, hts⟩ (m_X_isBank l D cA ad n A _  _  o1 ho1) (cwV 1 hts (tb_V tw_117 tw_119 tw_0 tw_31 tw_120) rfl rfl rfl (by decide +kernel) ⟨Nat.le_of_ble_eq_true rfl, Nat.le_of_ble_eq_true rfl⟩) ⟨k_blind, kw.recv hK hW.1 (t := 0) rfl rfl rfl, k_pre hW hK⟩ rfl rfl hl.1 rfl (lv_room (Nat.le_of_ble_eq_true rfl)) d_X_totalLimit_2 ⟨Nat.zero_le _, Nat.zero_le _⟩) hS (fun H locs hW hS => ?_)
  refine lv_if_eq (tgt := 27) hx hb d_X_totalLimit_5 rfl (fun hc => ?_) (fun hc => ?_)
  · replace hf := og_t hc hf
    refine lv_iconst (v := 0) hx hb d_X_totalLimit_27 (by decide) ?_
    exact W.zret hx hb hr rfl (fun t ht hWm => ⟨⟨_, _, rfl, Option.some.inj hf, by rw [ht]; exact hW, va_K.moved hWm.alike hK⟩, hS.F ht⟩) hS.2.2 d_X_totalLimit_28
  · replace hf := og_f hc hf
    refine lv_lload_n hx hb d_X_totalLimit_8 rfl (lv_at hl 2 rfl) ?_
    obtain ⟨o2, ho2, hf⟩ := og_b hf
    refine kc_i (P := (fun u H => CW D cA ad n A u H)) (va_runS (As := [.long _]) (rest := []) ⟨hx, hb, hml, hown, hts⟩ (m_X_isLimit l D cA ad n A _  _  o2 ho2) (va_cwS 1 hts (tb_S tw_195 tw_196 tw_31 tw_197) rfl rfl rfl (by decide +kernel) ⟨Nat.le_of_ble_eq_true rfl, Nat.le_of_ble_eq_true rfl⟩) ⟨k_blind, k_pre hW hK⟩ rfl rfl hl.1 rfl (lv_room (Nat.le_of_ble_eq_true rfl)) d_X_totalLimit_9 ⟨Nat.zero_le _, Nat.zero_le _⟩) hS (fun H locs hW hS => ?_)
    refine lv_if_eq (tgt := 27) hx hb d_X_totalLimit_12 rfl (fun hc => ?_) (fun hc => ?_)
    · replace hf := og_t hc hf
      refine lv_iconst (v := 0) hx hb d_X_totalLimit_27 (by decide) ?_
      exact W.zret hx hb hr rfl (fun t ht hWm => ⟨⟨_, _, rfl, Option.some.inj hf, by rw [ht]; exact hW, va_K.moved hWm.alike hK⟩, hS.F ht⟩) hS.2.2 d_X_totalLimit_28
    · replace hf := og_f hc hf
      refine lv_aload_n hx hb d_X_totalLimit_15 rfl (lv_at hl 0 rfl) ?_
      refine lv_iload_n hx hb d_X_totalLimit_16 rfl (lv_at hl 1 rfl) ?_
      obtain ⟨o3, ho3, hf⟩ := og_b hf
      refine kc_l (P := (fun u H => CW D cA ad n A u H)) (va_runV (C := "GridlockDesk") (As := [.int _]) (rest := []) ⟨hx, hb, hml, hown, hts⟩ (m_X_totalPositionOf l D cA ad n A _  _  o3 ho3) (cwV 1 hts (tb_V tw_202 tw_204 tw_12 tw_31 tw_205) rfl rfl rfl (by decide +kernel) ⟨Nat.le_of_ble_eq_true rfl, Nat.le_of_ble_eq_true rfl⟩) ⟨k_blind, kw.recv hK hW.1 (t := 0) rfl rfl rfl, k_pre hW hK⟩ rfl rfl hl.1 rfl (lv_room (Nat.le_of_ble_eq_true rfl)) d_X_totalLimit_17 ⟨Nat.zero_le _, Nat.zero_le _⟩) hS (fun H locs hW hS => ?_)
      refine lv_lload_n hx hb d_X_totalLimit_20 rfl (lv_at hl 2 rfl) ?_
      obtain ⟨o4, ho4, hf⟩ := og_b hf
      refine kc_i (P := (fun u H => CW D cA ad n A u H)) (va_runS (As := [.long _, .long _]) (rest := []) ⟨hx, hb, hml, hown, hts⟩ (m_X_exceeds l D cA ad n A _  _ _  o4 ho4) (va_cwS 2 hts (tb_S tw_150 tw_151 tw_31 tw_152) rfl rfl rfl (by decide +kernel) ⟨Nat.le_of_ble_eq_true rfl, Nat.le_of_ble_eq_true rfl⟩) ⟨k_blind, k_pre hW hK⟩ rfl rfl hl.1 rfl (lv_room (Nat.le_of_ble_eq_true rfl)) d_X_totalLimit_21 ⟨Nat.zero_le _, Nat.zero_le _⟩) hS (fun H locs hW hS => ?_)
      refine lv_if_eq (tgt := 29) hx hb d_X_totalLimit_24 rfl (fun hc => ?_) (fun hc => ?_)
      · replace hf := og_t hc hf
        refine lv_aload_n hx hb d_X_totalLimit_29 rfl (lv_at hl 0 rfl) ?_
        refine va_get (D := D) (ci := 2) (C := "GridlockDesk") (T := T_X) (N := 6) hx hb ht hin_X hown hK (hW.1.one (t := 0) rfl) 0 rfl rfl 0 (by decide) (ht _ tw_93) (fun _ h9 => h9) rfl d_X_totalLimit_30 ?_
        refine lv_iload_n hx hb d_X_totalLimit_33 rfl (lv_at hl 1 rfl) ?_
        obtain ⟨hin5, hf⟩ := og_if hf
        refine va_aldq (D := D) hx hb hK (hW.1.one (t := 1) rfl) 0 2 rfl rfl hin5 d_X_totalLimit_34 ?_
        refine W.eq (g2 := F0 m 35 ls (.ref (ad 4 _) :: [])) rfl ?_
        refine lv_lload_n hx hb d_X_totalLimit_35 rfl (lv_at hl 2 rfl) ?_
        obtain ⟨σ6, eσ6, hf⟩ := og_b hf
        cases eσ6
        refine k_put  (ci := 0) (C := "GridlockDesk$Bank") (T := T_B) (N := 7) (ty := .long) (t := 4) hx hb ht hin_B ft_B ft_B_ok nm_B hown hK hW.1 hS (vin_lt hin5) (hW.2 _ _ (vin_lt hin5)) rfl rfl 2 (by decide) (ht _ tw_67) (fun _ h9 => h9) rfl (by decide +kernel) rfl rfl (Nat.le_of_ble_eq_true rfl) d_X_totalLimit_36 cc_wL3 (fun H locs hW1 hS => ?_)
        have hW := CW.wL hW1 hW.2
        refine lv_aload_n hx hb d_X_totalLimit_39 rfl (lv_at hl 0 rfl) ?_
        obtain ⟨o7, ho7, hf⟩ := og_b hf
        refine kc_v (P := (fun u H => CW D cA ad n A u H)) (va_runV (C := "GridlockDesk") (As := []) (rest := []) ⟨hx, hb, hml, hown, hts⟩ (m_X_sweep l D cA ad n A _    o7 ho7) (cwV 0 hts (tb_V tw_123 tw_125 tw_1 tw_31 tw_126) rfl rfl rfl (by decide +kernel) ⟨Nat.le_of_ble_eq_true rfl, Nat.le_of_ble_eq_true rfl⟩) ⟨k_blind, kw.recv hK hW.1 (t := 0) rfl rfl rfl, k_pre hW hK⟩ rfl rfl hl.1 rfl (lv_room (Nat.le_of_ble_eq_true rfl)) d_X_totalLimit_40 ⟨Nat.zero_le _, Nat.zero_le _⟩) hS (fun H locs hW hS => ?_)
        refine lv_iconst (v := 1) hx hb d_X_totalLimit_43 (by decide) ?_
        exact W.zret hx hb hr rfl (fun t ht hWm => ⟨⟨_, _, rfl, Option.some.inj hf, by rw [ht]; exact hW, va_K.moved hWm.alike hK⟩, hS.F ht⟩) hS.2.2 d_X_totalLimit_44
      · replace hf := og_f hc hf
        refine lv_iconst (v := 0) hx hb d_X_totalLimit_27 (by decide) ?_
        exact W.zret hx hb hr rfl (fun t ht hWm => ⟨⟨_, _, rfl, Option.some.inj hf, by rw [ht]; exact hW, va_K.moved hWm.alike hK⟩, hS.F ht⟩) hS.2.2 d_X_totalLimit_28

set_option maxHeartbeats 4000000 in
set_option maxRecDepth 100000 in
theorem m_X_cancel (l : Launch) (D : va_G) (cA : Nat → ClassId) (ad : Nat → Nat → Nat) (n : Nat) (A : Nat → Prop) (σ : St) (x1 : Int32)  (out : Int32 × St) (hf : f_X_cancel n σ x1 = some out) : Met l y_X_cancel ws_X_cancel ({ frames := 6, cells := 0, slots := 0, locals := 140 }) (va_Pc [.ref (ad 0 0), .int x1] (fun U => CW D cA ad n A σ U.heap ∧ va_K D vCl (atys cA) U)) (va_Qi (fun r u => (r, u) = out) (fun u t => CW D cA ad n A u t.heap ∧ va_K D vCl (atys cA) t) A) 0 0 A := by
  refine Met.ofW (cc := prog_1_method_7_code) (maxL := 2) (ret := (some .boolean)) (by decide) rfl ?_
  intro p e s m args below meth c s₁ B hml hv
  obtain ⟨rfl, hW, hK⟩ := hv
  have hx := B.exec
  have hb := B.bytes
  have hr := B.returns
  have hts := atoms_spec (ws := ws_X_cancel) B.pre
  have ht : ∀ w ∈ TB, w.before _ s = true := fun w h => hts w (List.mem_cons_of_mem _ h)
  have hown : s.vm.findClass "GridlockDesk" = some m.cls := findClass_of_methodNamed B.named
  have hlocks := B.notSynchronized
  have hS : va_S A s.heap s.heap [] := va_S.rf
  have hl := lv_entry ([.ref (ad 0 0), .int x1]) (n := 2) (Nat.le_of_ble_eq_true rfl)
  rw [lg_entry_eq]
  generalize (lg_sl ([.ref (ad 0 0), .int x1]) ++ List.replicate (2 - (lg_sl ([.ref (ad 0 0), .int x1])).length) Slot.unset).toArray = ls at hl ⊢
  have hl : lv_has ls 2 [(0, .ref (ad 0 0)), (1, .int x1)] := hl
  unfold f_X_cancel at hf
  refine lv_aload_n hx hb d_X_cancel_0 rfl (lv_at hl 0 rfl) ?_
  refine lv_iload_n hx hb d_X_cancel_1 rfl (lv_at hl 1 rfl) ?_
  obtain ⟨o1, ho1, hf⟩ := og_b hf
  refine kc_i (P := (fun u H => CW D cA ad n A u H)) (va_runV (C := "GridlockDesk") (As := [.int _]) (rest := []) ⟨hx, hb, hml, hown, hts⟩ (m_X_isQueued l D cA ad n A _  _  o1 ho1) (cwV 1 hts (tb_V tw_258 tw_260 tw_13 tw_31 tw_261) rfl rfl rfl (by decide +kernel) ⟨Nat.le_of_ble_eq_true rfl, Nat.le_of_ble_eq_true rfl⟩) ⟨k_blind, kw.recv hK hW.1 (t := 0) rfl rfl rfl, k_pre hW hK⟩ rfl rfl hl.1 rfl (lv_room (Nat.le_of_ble_eq_true rfl)) d_X_cancel_2 ⟨Nat.zero_le _, Nat.zero_le _⟩) hS (fun H locs hW hS => ?_)
  refine lv_if_ne (tgt := 10) hx hb d_X_cancel_5 rfl (fun hc => ?_) (fun hc => ?_)
  · replace hf := og_f hc hf
    refine lv_aload_n hx hb d_X_cancel_10 rfl (lv_at hl 0 rfl) ?_
    refine lv_aload_n hx hb d_X_cancel_11 rfl (lv_at hl 0 rfl) ?_
    refine va_get (D := D) (ci := 2) (C := "GridlockDesk") (T := T_X) (N := 6) hx hb ht hin_X hown hK (hW.1.one (t := 0) rfl) 0 rfl rfl 1 (by decide) (ht _ tw_94) (fun _ h9 => h9) rfl d_X_cancel_12 ?_
    refine lv_iload_n hx hb d_X_cancel_15 rfl (lv_at hl 1 rfl) ?_
    obtain ⟨hin2, hf⟩ := og_if hf
    refine va_aldq (D := D) hx hb hK (hW.1.one (t := 2) rfl) 0 3 rfl rfl hin2 d_X_cancel_16 ?_
    refine lv_iconst (v := 4) hx hb d_X_cancel_17 (by decide) ?_
    obtain ⟨k3, hk3, hf⟩ := og_b hf
    obtain ⟨ek3, hk3⟩ := dR_spec hk3
    rw [ek3]
    refine W.eq (g2 := F0 m 18 ls [_, .ref (ad 8 k3), _]) rfl ?_
    obtain ⟨o4, ho4, hf⟩ := og_b hf
    refine kc_v (P := (fun u H => CW D cA ad n A u H)) (va_runV (C := "GridlockDesk") (As := [.ref _, .int _]) (rest := []) ⟨hx, hb, hml, hown, hts⟩ (m_X_end l D cA ad n A _  _ _  o4 ho4) (cwV 2 hts (tb_V tw_166 tw_168 tw_9 tw_31 tw_169) rfl rfl rfl (by decide +kernel) ⟨Nat.le_of_ble_eq_true rfl, Nat.le_of_ble_eq_true rfl⟩) ⟨k_blind, kw.recv hK hW.1 (t := 0) rfl rfl rfl, k_pre hW hK⟩ rfl rfl hl.1 rfl (lv_room (Nat.le_of_ble_eq_true rfl)) d_X_cancel_18 ⟨Nat.zero_le _, Nat.zero_le _⟩) hS (fun H locs hW hS => ?_)
    refine lv_aload_n hx hb d_X_cancel_21 rfl (lv_at hl 0 rfl) ?_
    obtain ⟨o5, ho5, hf⟩ := og_b hf
    refine kc_v (P := (fun u H => CW D cA ad n A u H)) (va_runV (C := "GridlockDesk") (As := []) (rest := []) ⟨hx, hb, hml, hown, hts⟩ (m_X_sweep l D cA ad n A _    o5 ho5) (cwV 0 hts (tb_V tw_123 tw_125 tw_1 tw_31 tw_126) rfl rfl rfl (by decide +kernel) ⟨Nat.le_of_ble_eq_true rfl, Nat.le_of_ble_eq_true rfl⟩) ⟨k_blind, kw.recv hK hW.1 (t := 0) rfl rfl rfl, k_pre hW hK⟩ rfl rfl hl.1 rfl (lv_room (Nat.le_of_ble_eq_true rfl)) d_X_cancel_22 ⟨Nat.zero_le _, Nat.zero_le _⟩) hS (fun H locs hW hS => ?_)
    refine lv_iconst (v := 1) hx hb d_X_cancel_25 (by decide) ?_
    exact W.zret hx hb hr rfl (fun t ht hWm => ⟨⟨_, _, rfl, Option.some.inj hf, by rw [ht]; exact hW, va_K.moved hWm.alike hK⟩, hS.F ht⟩) hS.2.2 d_X_cancel_26
  · replace hf := og_t hc hf
    refine lv_iconst (v := 0) hx hb d_X_cancel_8 (by decide) ?_
    exact W.zret hx hb hr rfl (fun t ht hWm => ⟨⟨_, _, rfl, Option.some.inj hf, by rw [ht]; exact hW, va_K.moved hWm.alike hK⟩, hS.F ht⟩) hS.2.2 d_X_cancel_9

set_option maxHeartbeats 4000000 in
set_option maxRecDepth 100000 in
theorem m_X_urge (l : Launch) (D : va_G) (cA : Nat → ClassId) (ad : Nat → Nat → Nat) (n : Nat) (A : Nat → Prop) (σ : St) (x1 : Int32) (x2 : Int32)  (out : Int32 × St) (hf : f_X_urge n σ x1 x2 = some out) : Met l y_X_urge ws_X_urge ({ frames := 6, cells := 0, slots := 0, locals := 140 }) (va_Pc [.ref (ad 0 0), .int x1, .int x2] (fun U => CW D cA ad n A σ U.heap ∧ va_K D vCl (atys cA) U)) (va_Qi (fun r u => (r, u) = out) (fun u t => CW D cA ad n A u t.heap ∧ va_K D vCl (atys cA) t) A) 0 0 A := by
  refine Met.ofW (cc := prog_1_method_8_code) (maxL := 5) (ret := (some .boolean)) (by decide) rfl ?_
  intro p e s m args below meth c s₁ B hml hv
  obtain ⟨rfl, hW, hK⟩ := hv
  have hx := B.exec
  have hb := B.bytes
  have hr := B.returns
  have hts := atoms_spec (ws := ws_X_urge) B.pre
  have ht : ∀ w ∈ TB, w.before _ s = true := fun w h => hts w (List.mem_cons_of_mem _ h)
  have hown : s.vm.findClass "GridlockDesk" = some m.cls := findClass_of_methodNamed B.named
  have hlocks := B.notSynchronized
  have hS : va_S A s.heap s.heap [] := va_S.rf
  have hl := lv_entry ([.ref (ad 0 0), .int x1, .int x2]) (n := 5) (Nat.le_of_ble_eq_true rfl)
  rw [lg_entry_eq]
  generalize (lg_sl ([.ref (ad 0 0), .int x1, .int x2]) ++ List.replicate (5 - (lg_sl ([.ref (ad 0 0), .int x1, .int x2])).length) Slot.unset).toArray = ls at hl ⊢
  have hl : lv_has ls 5 [(0, .ref (ad 0 0)), (1, .int x1), (2, .int x2)] := hl
  unfold f_X_urge at hf
  refine lv_aload_n hx hb d_X_urge_0 rfl (lv_at hl 0 rfl) ?_
  refine lv_iload_n hx hb d_X_urge_1 rfl (lv_at hl 1 rfl) ?_
  obtain ⟨o1, ho1, hf⟩ := og_b hf
  refine kc_i (P := (fun u H => CW D cA ad n A u H)) (va_runV (C := "GridlockDesk") (As := [.int _]) (rest := []) ⟨hx, hb, hml, hown, hts⟩ (m_X_isQueued l D cA ad n A _  _  o1 ho1) (cwV 1 hts (tb_V tw_258 tw_260 tw_13 tw_31 tw_261) rfl rfl rfl (by decide +kernel) ⟨Nat.le_of_ble_eq_true rfl, Nat.le_of_ble_eq_true rfl⟩) ⟨k_blind, kw.recv hK hW.1 (t := 0) rfl rfl rfl, k_pre hW hK⟩ rfl rfl hl.1 rfl (lv_room (Nat.le_of_ble_eq_true rfl)) d_X_urge_2 ⟨Nat.zero_le _, Nat.zero_le _⟩) hS (fun H locs hW hS => ?_)
  refine lv_if_eq (tgt := 15) hx hb d_X_urge_5 rfl (fun hc => ?_) (fun hc => ?_)
  · replace hf := og_t hc hf
    refine lv_iconst (v := 0) hx hb d_X_urge_15 (by decide) ?_
    exact W.zret hx hb hr rfl (fun t ht hWm => ⟨⟨_, _, rfl, Option.some.inj hf, by rw [ht]; exact hW, va_K.moved hWm.alike hK⟩, hS.F ht⟩) hS.2.2 d_X_urge_16
  · replace hf := og_f hc hf
    refine lv_iload_n hx hb d_X_urge_8 rfl (lv_at hl 2 rfl) ?_
    obtain ⟨o2, ho2, hf⟩ := og_b hf
    refine kc_i (P := (fun u H => CW D cA ad n A u H)) (va_runS (As := [.int _]) (rest := []) ⟨hx, hb, hml, hown, hts⟩ (m_X_isPriority l D cA ad n A _  _  o2 ho2) (va_cwS 1 hts (tb_S tw_210 tw_211 tw_31 tw_212) rfl rfl rfl (by decide +kernel) ⟨Nat.le_of_ble_eq_true rfl, Nat.le_of_ble_eq_true rfl⟩) ⟨k_blind, k_pre hW hK⟩ rfl rfl hl.1 rfl (lv_room (Nat.le_of_ble_eq_true rfl)) d_X_urge_9 ⟨Nat.zero_le _, Nat.zero_le _⟩) hS (fun H locs hW hS => ?_)
    refine lv_if_ne (tgt := 17) hx hb d_X_urge_12 rfl (fun hc => ?_) (fun hc => ?_)
    · replace hf := og_f hc hf
      refine lv_aload_n hx hb d_X_urge_17 rfl (lv_at hl 0 rfl) ?_
      refine va_get (D := D) (ci := 2) (C := "GridlockDesk") (T := T_X) (N := 6) hx hb ht hin_X hown hK (hW.1.one (t := 0) rfl) 0 rfl rfl 1 (by decide) (ht _ tw_94) (fun _ h9 => h9) rfl d_X_urge_18 ?_
      refine lv_iload_n hx hb d_X_urge_21 rfl (lv_at hl 1 rfl) ?_
      obtain ⟨hin3, hf⟩ := og_if hf
      refine va_aldq (D := D) hx hb hK (hW.1.one (t := 2) rfl) 0 3 rfl rfl hin3 d_X_urge_22 ?_
      obtain ⟨k4, hk4, hf⟩ := og_b hf
      obtain ⟨ek4, hk4⟩ := dR_spec hk4
      rw [ek4]
      refine W.eq (g2 := F0 m 23 ls [.ref (ad 8 k4)]) rfl ?_
      refine lv_astore_n (lv' := [(3, .ref _), (0, .ref _), (1, .int _), (2, .int _)]) hx hb d_X_urge_23 rfl hl (by decide) rfl (fun ls hl => ?_)
      refine lv_aload_n hx hb d_X_urge_24 rfl (lv_at hl 1 rfl) ?_
      refine va_get (D := D) (ci := 2) (C := "GridlockDesk") (T := T_X) (N := 6) hx hb ht hin_X hown hK (hW.1.one (t := 0) rfl) 0 rfl rfl 0 (by decide) (ht _ tw_93) (fun _ h9 => h9) rfl d_X_urge_25 ?_
      refine lv_aload_n hx hb d_X_urge_28 rfl (lv_at hl 0 rfl) ?_
      refine va_get (D := D) (ci := 1) (C := "GridlockDesk$Payment") (T := T_P) (N := 7) hx hb ht hin_P hown hK (hW.1.one (t := 8) hk4) 0 rfl rfl 1 (by decide) (ht _ tw_221) (fun _ h9 => h9) rfl d_X_urge_29 ?_
      obtain ⟨hin5, hf⟩ := og_if hf
      refine va_aldq (D := D) hx hb hK (hW.1.one (t := 1) rfl) 0 2 rfl rfl hin5 d_X_urge_32 ?_
      refine W.eq (g2 := F0 m 33 ls (.ref (ad 4 _) :: [])) rfl ?_
      refine lv_astore (lv' := [(4, .ref _), (3, .ref _), (0, .ref _), (1, .int _), (2, .int _)]) hx hb d_X_urge_33 hl (by decide) rfl (fun ls hl => ?_)
      refine lv_aload hx hb d_X_urge_35 (lv_at hl 0 rfl) ?_
      refine lv_aload_n hx hb d_X_urge_37 rfl (lv_at hl 1 rfl) ?_
      obtain ⟨o6, ho6, hf⟩ := og_b hf
      refine kc_v (P := (fun u H => CW D cA ad n A u H)) (va_runV (C := "GridlockDesk$Bank") (As := [.ref _]) (rest := []) ⟨hx, hb, hml, hown, hts⟩ (m_B_remove l D cA ad n A _ _ _ (vin_lt hin5) o6 ho6) (cwV 1 hts (tb_V tw_170 tw_171 tw_172 tw_33 tw_173) rfl rfl rfl (by decide +kernel) ⟨Nat.le_of_ble_eq_true rfl, Nat.le_of_ble_eq_true rfl⟩) ⟨k_blind, kw.recv hK hW.1 (t := 4) (vin_lt hin5) rfl rfl, k_pre hW hK⟩ rfl rfl hl.1 rfl (lv_room (Nat.le_of_ble_eq_true rfl)) d_X_urge_38 ⟨Nat.zero_le _, Nat.zero_le _⟩) hS (fun H locs hW hS => ?_)
      refine lv_aload_n hx hb d_X_urge_41 rfl (lv_at hl 1 rfl) ?_
      refine lv_iload_n hx hb d_X_urge_42 rfl (lv_at hl 4 rfl) ?_
      obtain ⟨hn7, hf⟩ := og_if hf
      obtain ⟨σ8, eσ8, hf⟩ := og_b hf
      cases eσ8
      refine k_put  (ci := 1) (C := "GridlockDesk$Payment") (T := T_P) (N := 7) (ty := .int) (t := 8) hx hb ht hin_P ft_P ft_P_ok nm_P hown hK hW.1 hS hn7 (hW.2 _ _ hn7) rfl rfl 5 (by decide) (ht _ tw_232) (fun _ h9 => h9) rfl (by decide +kernel) rfl rfl (Nat.le_of_ble_eq_true rfl) d_X_urge_43 cc_wI8 (fun H locs hW1 hS => ?_)
      have hW := CW.wI hW1 hW.2
      refine lv_aload hx hb d_X_urge_46 (lv_at hl 0 rfl) ?_
      refine lv_aload_n hx hb d_X_urge_48 rfl (lv_at hl 1 rfl) ?_
      obtain ⟨o9, ho9, hf⟩ := og_b hf
      refine kc_v (P := (fun u H => CW D cA ad n A u H)) (va_runV (C := "GridlockDesk$Bank") (As := [.ref _]) (rest := []) ⟨hx, hb, hml, hown, hts⟩ (m_B_enqueue l D cA ad n A _ _ _ (vin_lt hin5) o9 ho9) (cwV 1 hts (tb_V tw_250 tw_251 tw_252 tw_33 tw_253) rfl rfl rfl (by decide +kernel) ⟨Nat.le_of_ble_eq_true rfl, Nat.le_of_ble_eq_true rfl⟩) ⟨k_blind, kw.recv hK hW.1 (t := 4) (vin_lt hin5) rfl rfl, k_pre hW hK⟩ rfl rfl hl.1 rfl (lv_room (Nat.le_of_ble_eq_true rfl)) d_X_urge_49 ⟨Nat.zero_le _, Nat.zero_le _⟩) hS (fun H locs hW hS => ?_)
      refine lv_aload_n hx hb d_X_urge_52 rfl (lv_at hl 2 rfl) ?_
      obtain ⟨o10, ho10, hf⟩ := og_b hf
      refine kc_v (P := (fun u H => CW D cA ad n A u H)) (va_runV (C := "GridlockDesk") (As := []) (rest := []) ⟨hx, hb, hml, hown, hts⟩ (m_X_sweep l D cA ad n A _    o10 ho10) (cwV 0 hts (tb_V tw_123 tw_125 tw_1 tw_31 tw_126) rfl rfl rfl (by decide +kernel) ⟨Nat.le_of_ble_eq_true rfl, Nat.le_of_ble_eq_true rfl⟩) ⟨k_blind, kw.recv hK hW.1 (t := 0) rfl rfl rfl, k_pre hW hK⟩ rfl rfl hl.1 rfl (lv_room (Nat.le_of_ble_eq_true rfl)) d_X_urge_53 ⟨Nat.zero_le _, Nat.zero_le _⟩) hS (fun H locs hW hS => ?_)
      refine lv_iconst (v := 1) hx hb d_X_urge_56 (by decide) ?_
      exact W.zret hx hb hr rfl (fun t ht hWm => ⟨⟨_, _, rfl, Option.some.inj hf, by rw [ht]; exact hW, va_K.moved hWm.alike hK⟩, hS.F ht⟩) hS.2.2 d_X_urge_57
    · replace hf := og_t hc hf
      refine lv_iconst (v := 0) hx hb d_X_urge_15 (by decide) ?_
      exact W.zret hx hb hr rfl (fun t ht hWm => ⟨⟨_, _, rfl, Option.some.inj hf, by rw [ht]; exact hW, va_K.moved hWm.alike hK⟩, hS.F ht⟩) hS.2.2 d_X_urge_16

set_option maxHeartbeats 4000000 in
set_option maxRecDepth 100000 in
theorem m_X_resolve (l : Launch) (D : va_G) (cA : Nat → ClassId) (ad : Nat → Nat → Nat) (n : Nat) (A : Nat → Prop) (σ : St)   (out : Int32 × St) (hf : f_X_resolve n σ  = some out) : Met l y_X_resolve ws_X_resolve ({ frames := 6, cells := 0, slots := 0, locals := 140 }) (va_Pc [.ref (ad 0 0)] (fun U => CW D cA ad n A σ U.heap ∧ va_K D vCl (atys cA) U)) (va_Qi (fun r u => (r, u) = out) (fun u t => CW D cA ad n A u t.heap ∧ va_K D vCl (atys cA) t) A) 0 0 A := by
  refine Met.ofW (cc := prog_1_method_9_code) (maxL := 2) (ret := (some .int)) (by decide) rfl ?_
  intro p e s m args below meth c s₁ B hml hv
  obtain ⟨rfl, hW, hK⟩ := hv
  have hx := B.exec
  have hb := B.bytes
  have hr := B.returns
  have hts := atoms_spec (ws := ws_X_resolve) B.pre
  have ht : ∀ w ∈ TB, w.before _ s = true := fun w h => hts w (List.mem_cons_of_mem _ h)
  have hown : s.vm.findClass "GridlockDesk" = some m.cls := findClass_of_methodNamed B.named
  have hlocks := B.notSynchronized
  have hS : va_S A s.heap s.heap [] := va_S.rf
  have hl := lv_entry ([.ref (ad 0 0)]) (n := 2) (Nat.le_of_ble_eq_true rfl)
  rw [lg_entry_eq]
  generalize (lg_sl ([.ref (ad 0 0)]) ++ List.replicate (2 - (lg_sl ([.ref (ad 0 0)])).length) Slot.unset).toArray = ls at hl ⊢
  have hl : lv_has ls 2 [(0, .ref (ad 0 0))] := hl
  unfold f_X_resolve at hf
  refine lv_aload_n hx hb d_X_resolve_0 rfl (lv_at hl 0 rfl) ?_
  obtain ⟨o1, ho1, hf⟩ := og_b hf
  refine kc_v (P := (fun u H => CW D cA ad n A u H)) (va_runV (C := "GridlockDesk") (As := []) (rest := []) ⟨hx, hb, hml, hown, hts⟩ (m_X_chooseGreatest l D cA ad n A _    o1 ho1) (cwV 0 hts (tb_V tw_274 tw_276 tw_15 tw_31 tw_277) rfl rfl rfl (by decide +kernel) ⟨Nat.le_of_ble_eq_true rfl, Nat.le_of_ble_eq_true rfl⟩) ⟨k_blind, kw.recv hK hW.1 (t := 0) rfl rfl rfl, k_pre hW hK⟩ rfl rfl hl.1 rfl (lv_room (Nat.le_of_ble_eq_true rfl)) d_X_resolve_1 ⟨Nat.zero_le _, Nat.zero_le _⟩) hS (fun H locs hW hS => ?_)
  refine lv_aload_n hx hb d_X_resolve_4 rfl (lv_at hl 0 rfl) ?_
  refine lv_iconst (v := 3) hx hb d_X_resolve_5 (by decide) ?_
  obtain ⟨o2, ho2, hf⟩ := og_b hf
  refine kc_i (P := (fun u H => CW D cA ad n A u H)) (va_runV (C := "GridlockDesk") (As := [.int _]) (rest := []) ⟨hx, hb, hml, hown, hts⟩ (m_X_settleChosen l D cA ad n A _  _  o2 ho2) (cwV 1 hts (tb_V tw_158 tw_160 tw_7 tw_31 tw_161) rfl rfl rfl (by decide +kernel) ⟨Nat.le_of_ble_eq_true rfl, Nat.le_of_ble_eq_true rfl⟩) ⟨k_blind, kw.recv hK hW.1 (t := 0) rfl rfl rfl, k_pre hW hK⟩ rfl rfl hl.1 rfl (lv_room (Nat.le_of_ble_eq_true rfl)) d_X_resolve_6 ⟨Nat.zero_le _, Nat.zero_le _⟩) hS (fun H locs hW hS => ?_)
  refine lv_istore_n (lv' := [(1, .int _), (0, .ref _)]) hx hb d_X_resolve_9 rfl hl (by decide) rfl (fun ls hl => ?_)
  refine lv_aload_n hx hb d_X_resolve_10 rfl (lv_at hl 1 rfl) ?_
  obtain ⟨o3, ho3, hf⟩ := og_b hf
  refine kc_v (P := (fun u H => CW D cA ad n A u H)) (va_runV (C := "GridlockDesk") (As := []) (rest := []) ⟨hx, hb, hml, hown, hts⟩ (m_X_sweep l D cA ad n A _    o3 ho3) (cwV 0 hts (tb_V tw_123 tw_125 tw_1 tw_31 tw_126) rfl rfl rfl (by decide +kernel) ⟨Nat.le_of_ble_eq_true rfl, Nat.le_of_ble_eq_true rfl⟩) ⟨k_blind, kw.recv hK hW.1 (t := 0) rfl rfl rfl, k_pre hW hK⟩ rfl rfl hl.1 rfl (lv_room (Nat.le_of_ble_eq_true rfl)) d_X_resolve_11 ⟨Nat.zero_le _, Nat.zero_le _⟩) hS (fun H locs hW hS => ?_)
  refine lv_iload_n hx hb d_X_resolve_14 rfl (lv_at hl 0 rfl) ?_
  exact W.iret hx hb hr (fun t ht hWm => ⟨⟨_, _, rfl, Option.some.inj hf, by rw [ht]; exact hW, va_K.moved hWm.alike hK⟩, hS.F ht⟩) hS.2.2 d_X_resolve_15

set_option maxHeartbeats 4000000 in
set_option maxRecDepth 100000 in
theorem lp_X_tick_28_ok {p : Program} {l : Launch} {e : Env} {s : State} {m : MethodId} {args : Array Value} {below : List Frame} {meth : Method} {c : Code} (D : va_G) (cA : Nat → ClassId) (ad : Nat → Nat → Nat) (n : Nat) (A : Nat → Prop) (hx : p.tables.exec = Jvm.exec) (hb : c.code = prog_1_method_10_code) (hml : c.maxLocals = 4) (hr : meth.sig.returnType = (some .int)) (hts : ∀ w ∈ ws_X_tick, w.before args s = true) (hown : s.vm.findClass "GridlockDesk" = some m.cls) (hlocks : meth.locks = false) (hK : va_K D vCl (atys cA) s) (k : St → Int32 → Option (Int32 × St)) (out : Int32 × St)  (hk : ∀ (σ : St) (v2 : Int32) (H : Heap) (locs : List Loc) (ls : Array Slot), lv_has ls 4 [(0, .ref (ad 0 0)), (2, .int v2)] → CW D cA ad n A σ H → va_S A s.heap H locs → k σ v2 = some out → W p l e (headSpec ws_X_tick ({ frames := 6, cells := 0, slots := 0, locals := 140 })).room s m args below meth c H locs 0 0 (MQ below (va_Qi (fun r u => (r, u) = out) (fun u t => CW D cA ad n A u t.heap ∧ va_K D vCl (atys cA) t) A) args s 0 0 A) (F0 m 80 ls [])) : ∀ (fu : Nat) (σ : St) (v2 : Int32) (v3 : Int32) (H : Heap) (locs : List Loc) (ls : Array Slot), lv_has ls 4 [(0, .ref (ad 0 0)), (2, .int v2), (3, .int v3)] → CW D cA ad n A σ H → va_S A s.heap H locs → lp_X_tick_28 n k fu σ v2 v3 = some out → W p l e (headSpec ws_X_tick ({ frames := 6, cells := 0, slots := 0, locals := 140 })).room s m args below meth c H locs 0 0 (MQ below (va_Qi (fun r u => (r, u) = out) (fun u t => CW D cA ad n A u t.heap ∧ va_K D vCl (atys cA) t) A) args s 0 0 A) (F0 m 28 ls []) := by
  intro fu
  induction fu with
  | zero =>
    intro σ v2 v3 H locs ls  hl hW hS hf
    exact og_n hf
  | succ fu ih =>
    intro σ v2 v3 H locs ls  hl hW hS hf
    rw [lp_X_tick_28_s] at hf
    have ht : ∀ w ∈ TB, w.before args s = true := fun w h => hts w (List.mem_cons_of_mem _ h)
    refine lv_iload_n hx hb d_X_tick_28 rfl (lv_at hl 2 rfl) ?_
    refine lv_aload_n hx hb d_X_tick_29 rfl (lv_at hl 0 rfl) ?_
    refine va_get (D := D) (ci := 2) (C := "GridlockDesk") (T := T_X) (N := 6) hx hb ht hin_X hown hK (hW.1.one (t := 0) rfl) 0 rfl rfl 2 (by decide) (ht _ tw_95) (fun _ h9 => h9) rfl d_X_tick_30 ?_
    refine lv_icmp_ge (tgt := 80) hx hb d_X_tick_33 rfl (fun hc => ?_) (fun hc => ?_)
    · replace hf := og_t hc hf
      exact hk _ _ _ _ _  (lv_sub hl [0, 1] rfl) hW hS hf
    · replace hf := og_f hc hf
      refine lv_aload_n hx hb d_X_tick_36 rfl (lv_at hl 0 rfl) ?_
      refine lv_iload_n hx hb d_X_tick_37 rfl (lv_at hl 2 rfl) ?_
      obtain ⟨o2, ho2, hf⟩ := og_b hf
      refine kc_i (P := (fun u H => CW D cA ad n A u H)) (va_runV (C := "GridlockDesk") (As := [.int _]) (rest := []) ⟨hx, hb, hml, hown, hts⟩ (m_X_isQueued l D cA ad n A _  _  o2 ho2) (cwV 1 hts (tb_V tw_258 tw_260 tw_13 tw_31 tw_261) rfl rfl rfl (by decide +kernel) ⟨Nat.le_of_ble_eq_true rfl, Nat.le_of_ble_eq_true rfl⟩) ⟨k_blind, kw.recv hK hW.1 (t := 0) rfl rfl rfl, k_pre hW hK⟩ rfl rfl hl.1 rfl (lv_room (Nat.le_of_ble_eq_true rfl)) d_X_tick_38 ⟨Nat.zero_le _, Nat.zero_le _⟩) hS (fun H locs hW hS => ?_)
      refine lv_if_eq (tgt := 74) hx hb d_X_tick_41 rfl (fun hc => ?_) (fun hc => ?_)
      · replace hf := og_t hc hf
        refine lv_iinc (k := 2) (v := _ + 1) (lv' := [(3, .int _), (0, .ref _), (2, .int _)]) hx hb d_X_tick_74 hl rfl rfl (by decide) rfl (fun ls hl => ?_)
        refine lv_goto (tgt := 28) hx hb d_X_tick_77 rfl ?_
        exact ih _ _ _ _ _ _  (lv_sub hl [1, 2, 0] rfl) hW hS hf
      · replace hf := og_f hc hf
        refine lv_aload_n hx hb d_X_tick_44 rfl (lv_at hl 0 rfl) ?_
        refine va_get (D := D) (ci := 2) (C := "GridlockDesk") (T := T_X) (N := 6) hx hb ht hin_X hown hK (hW.1.one (t := 0) rfl) 0 rfl rfl 1 (by decide) (ht _ tw_94) (fun _ h9 => h9) rfl d_X_tick_45 ?_
        refine lv_iload_n hx hb d_X_tick_48 rfl (lv_at hl 2 rfl) ?_
        obtain ⟨hin3, hf⟩ := og_if hf
        refine va_aldq (D := D) hx hb hK (hW.1.one (t := 2) rfl) 0 3 rfl rfl hin3 d_X_tick_49 ?_
        obtain ⟨k4, hk4, hf⟩ := og_b hf
        obtain ⟨ek4, hk4⟩ := dR_spec hk4
        rw [ek4]
        refine W.eq (g2 := F0 m 50 ls [.ref (ad 8 k4)]) rfl ?_
        refine va_get (D := D) (ci := 1) (C := "GridlockDesk$Payment") (T := T_P) (N := 7) hx hb ht hin_P hown hK (hW.1.one (t := 8) hk4) 0 rfl rfl 4 (by decide) (ht _ tw_229) (fun _ h9 => h9) rfl d_X_tick_50 ?_
        refine lv_aload_n hx hb d_X_tick_53 rfl (lv_at hl 0 rfl) ?_
        refine va_get (D := D) (ci := 2) (C := "GridlockDesk") (T := T_X) (N := 6) hx hb ht hin_X hown hK (hW.1.one (t := 0) rfl) 0 rfl rfl 4 (by decide) (ht _ tw_97) (fun _ h9 => h9) rfl d_X_tick_54 ?_
        refine lv_icmp_ge (tgt := 74) hx hb d_X_tick_57 rfl (fun hc => ?_) (fun hc => ?_)
        · replace hf := og_t hc hf
          refine lv_iinc (k := 2) (v := _ + 1) (lv' := [(3, .int _), (0, .ref _), (2, .int _)]) hx hb d_X_tick_74 hl rfl rfl (by decide) rfl (fun ls hl => ?_)
          refine lv_goto (tgt := 28) hx hb d_X_tick_77 rfl ?_
          exact ih _ _ _ _ _ _  (lv_sub hl [1, 2, 0] rfl) hW hS hf
        · replace hf := og_f hc hf
          refine lv_aload_n hx hb d_X_tick_60 rfl (lv_at hl 0 rfl) ?_
          refine lv_aload_n hx hb d_X_tick_61 rfl (lv_at hl 0 rfl) ?_
          refine va_get (D := D) (ci := 2) (C := "GridlockDesk") (T := T_X) (N := 6) hx hb ht hin_X hown hK (hW.1.one (t := 0) rfl) 0 rfl rfl 1 (by decide) (ht _ tw_94) (fun _ h9 => h9) rfl d_X_tick_62 ?_
          refine lv_iload_n hx hb d_X_tick_65 rfl (lv_at hl 2 rfl) ?_
          obtain ⟨hin5, hf⟩ := og_if hf
          refine va_aldq (D := D) hx hb hK (hW.1.one (t := 2) rfl) 0 3 rfl rfl hin5 d_X_tick_66 ?_
          refine lv_iconst (v := 5) hx hb d_X_tick_67 (by decide) ?_
          obtain ⟨k6, hk6, hf⟩ := og_b hf
          obtain ⟨ek6, hk6⟩ := dR_spec hk6
          rw [ek6]
          refine W.eq (g2 := F0 m 68 ls [_, .ref (ad 8 k6), _]) rfl ?_
          obtain ⟨o7, ho7, hf⟩ := og_b hf
          refine kc_v (P := (fun u H => CW D cA ad n A u H)) (va_runV (C := "GridlockDesk") (As := [.ref _, .int _]) (rest := []) ⟨hx, hb, hml, hown, hts⟩ (m_X_end l D cA ad n A _  _ _  o7 ho7) (cwV 2 hts (tb_V tw_166 tw_168 tw_9 tw_31 tw_169) rfl rfl rfl (by decide +kernel) ⟨Nat.le_of_ble_eq_true rfl, Nat.le_of_ble_eq_true rfl⟩) ⟨k_blind, kw.recv hK hW.1 (t := 0) rfl rfl rfl, k_pre hW hK⟩ rfl rfl hl.1 rfl (lv_room (Nat.le_of_ble_eq_true rfl)) d_X_tick_68 ⟨Nat.zero_le _, Nat.zero_le _⟩) hS (fun H locs hW hS => ?_)
          refine lv_iinc (k := 1) (v := _ + 1) (lv' := [(2, .int _), (0, .ref _), (3, .int _)]) hx hb d_X_tick_71 hl rfl rfl (by decide) rfl (fun ls hl => ?_)
          refine lv_iinc (k := 2) (v := _ + 1) (lv' := [(3, .int _), (2, .int _), (0, .ref _)]) hx hb d_X_tick_74 hl rfl rfl (by decide) rfl (fun ls hl => ?_)
          refine lv_goto (tgt := 28) hx hb d_X_tick_77 rfl ?_
          exact ih _ _ _ _ _ _  (lv_sub hl [2, 1, 0] rfl) hW hS hf

set_option maxHeartbeats 4000000 in
set_option maxRecDepth 100000 in
theorem m_X_tick (l : Launch) (D : va_G) (cA : Nat → ClassId) (ad : Nat → Nat → Nat) (n : Nat) (A : Nat → Prop) (σ : St) (x1 : Int32)  (out : Int32 × St) (hf : f_X_tick n σ x1 = some out) : Met l y_X_tick ws_X_tick ({ frames := 6, cells := 0, slots := 0, locals := 140 }) (va_Pc [.ref (ad 0 0), .int x1] (fun U => CW D cA ad n A σ U.heap ∧ va_K D vCl (atys cA) U)) (va_Qi (fun r u => (r, u) = out) (fun u t => CW D cA ad n A u t.heap ∧ va_K D vCl (atys cA) t) A) 0 0 A := by
  refine Met.ofW (cc := prog_1_method_10_code) (maxL := 4) (ret := (some .int)) (by decide) rfl ?_
  intro p e s m args below meth c s₁ B hml hv
  obtain ⟨rfl, hW, hK⟩ := hv
  have hx := B.exec
  have hb := B.bytes
  have hr := B.returns
  have hts := atoms_spec (ws := ws_X_tick) B.pre
  have ht : ∀ w ∈ TB, w.before _ s = true := fun w h => hts w (List.mem_cons_of_mem _ h)
  have hown : s.vm.findClass "GridlockDesk" = some m.cls := findClass_of_methodNamed B.named
  have hlocks := B.notSynchronized
  have hS : va_S A s.heap s.heap [] := va_S.rf
  have hl := lv_entry ([.ref (ad 0 0), .int x1]) (n := 4) (Nat.le_of_ble_eq_true rfl)
  rw [lg_entry_eq]
  generalize (lg_sl ([.ref (ad 0 0), .int x1]) ++ List.replicate (4 - (lg_sl ([.ref (ad 0 0), .int x1])).length) Slot.unset).toArray = ls at hl ⊢
  have hl : lv_has ls 4 [(0, .ref (ad 0 0)), (1, .int x1)] := hl
  unfold f_X_tick at hf
  refine lv_iload_n hx hb d_X_tick_0 rfl (lv_at hl 1 rfl) ?_
  refine lv_iconst (v := 1) hx hb d_X_tick_1 (by decide) ?_
  refine lv_icmp_lt (tgt := 12) hx hb d_X_tick_2 rfl (fun hc => ?_) (fun hc => ?_)
  · replace hf := og_t hc hf
    refine lv_iconst (v := (-1)) hx hb d_X_tick_12 (by decide) ?_
    exact W.iret hx hb hr (fun t ht hWm => ⟨⟨_, _, rfl, Option.some.inj hf, by rw [ht]; exact hW, va_K.moved hWm.alike hK⟩, hS.F ht⟩) hS.2.2 d_X_tick_13
  · replace hf := og_f hc hf
    refine lv_iload_n hx hb d_X_tick_5 rfl (lv_at hl 1 rfl) ?_
    refine lv_sipush (v := 1000) hx hb d_X_tick_6 (by decide) ?_
    refine lv_icmp_le (tgt := 14) hx hb d_X_tick_9 rfl (fun hc => ?_) (fun hc => ?_)
    · replace hf := og_t hc hf
      refine lv_aload_n hx hb d_X_tick_14 rfl (lv_at hl 0 rfl) ?_
      refine lv_dup hx hb d_X_tick_15 rfl ?_
      refine va_get (D := D) (ci := 2) (C := "GridlockDesk") (T := T_X) (N := 6) hx hb ht hin_X hown hK (hW.1.one (t := 0) rfl) 0 rfl rfl 4 (by decide) (ht _ tw_97) (fun _ h9 => h9) rfl d_X_tick_16 ?_
      refine lv_iload_n hx hb d_X_tick_19 rfl (lv_at hl 1 rfl) ?_
      refine lv_iadd hx hb d_X_tick_20 ?_
      obtain ⟨σ1, eσ1, hf⟩ := og_b hf
      cases eσ1
      refine k_put  (ci := 2) (C := "GridlockDesk") (T := T_X) (N := 6) (ty := .int) (t := 0) hx hb ht hin_X ft_X ft_X_ok nm_X hown hK hW.1 hS rfl (hW.2 _ _ rfl) rfl rfl 4 (by decide) (ht _ tw_97) (fun _ h9 => h9) rfl (by decide +kernel) rfl rfl (Nat.le_of_ble_eq_true rfl) d_X_tick_21 cc_wI1 (fun H locs hW1 hS => ?_)
      have hW := CW.wI hW1 hW.2
      refine lv_iconst (v := 0) hx hb d_X_tick_24 (by decide) ?_
      refine lv_istore_n (lv' := [(2, .int _), (0, .ref _), (1, .int _)]) hx hb d_X_tick_25 rfl hl (by decide) rfl (fun ls hl => ?_)
      refine lv_iconst (v := 0) hx hb d_X_tick_26 (by decide) ?_
      refine lv_istore_n (lv' := [(3, .int _), (2, .int _), (0, .ref _), (1, .int _)]) hx hb d_X_tick_27 rfl hl (by decide) rfl (fun ls hl => ?_)
      refine lp_X_tick_28_ok D cA ad n A hx hb hml hr hts hown hlocks hK _ _  (fun σ9 y2_8 H locs ls  hl hW hS hf => ?_) _ _ _ _ _ _ _  (lv_sub hl [2, 1, 0] rfl) hW hS hf
      refine lv_aload_n hx hb d_X_tick_80 rfl (lv_at hl 0 rfl) ?_
      obtain ⟨o10, ho10, hf⟩ := og_b hf
      refine kc_v (P := (fun u H => CW D cA ad n A u H)) (va_runV (C := "GridlockDesk") (As := []) (rest := []) ⟨hx, hb, hml, hown, hts⟩ (m_X_sweep l D cA ad n A _    o10 ho10) (cwV 0 hts (tb_V tw_123 tw_125 tw_1 tw_31 tw_126) rfl rfl rfl (by decide +kernel) ⟨Nat.le_of_ble_eq_true rfl, Nat.le_of_ble_eq_true rfl⟩) ⟨k_blind, kw.recv hK hW.1 (t := 0) rfl rfl rfl, k_pre hW hK⟩ rfl rfl hl.1 rfl (lv_room (Nat.le_of_ble_eq_true rfl)) d_X_tick_81 ⟨Nat.zero_le _, Nat.zero_le _⟩) hS (fun H locs hW hS => ?_)
      refine lv_iload_n hx hb d_X_tick_84 rfl (lv_at hl 1 rfl) ?_
      exact W.iret hx hb hr (fun t ht hWm => ⟨⟨_, _, rfl, Option.some.inj hf, by rw [ht]; exact hW, va_K.moved hWm.alike hK⟩, hS.F ht⟩) hS.2.2 d_X_tick_85
    · replace hf := og_f hc hf
      refine lv_iconst (v := (-1)) hx hb d_X_tick_12 (by decide) ?_
      exact W.iret hx hb hr (fun t ht hWm => ⟨⟨_, _, rfl, Option.some.inj hf, by rw [ht]; exact hW, va_K.moved hWm.alike hK⟩, hS.F ht⟩) hS.2.2 d_X_tick_13

set_option maxHeartbeats 4000000 in
set_option maxRecDepth 100000 in
theorem lp_X_close_4_ok {p : Program} {l : Launch} {e : Env} {s : State} {m : MethodId} {args : Array Value} {below : List Frame} {meth : Method} {c : Code} (D : va_G) (cA : Nat → ClassId) (ad : Nat → Nat → Nat) (n : Nat) (A : Nat → Prop) (hx : p.tables.exec = Jvm.exec) (hb : c.code = prog_1_method_11_code) (hml : c.maxLocals = 6) (hr : meth.sig.returnType = (some .int)) (hts : ∀ w ∈ ws_X_close, w.before args s = true) (hown : s.vm.findClass "GridlockDesk" = some m.cls) (hlocks : meth.locks = false) (hK : va_K D vCl (atys cA) s) (k : St → Int32 → Option (Int32 × St)) (out : Int32 × St)  (hk : ∀ (σ : St) (v1 : Int32) (H : Heap) (locs : List Loc) (ls : Array Slot), lv_has ls 6 [(0, .ref (ad 0 0)), (1, .int v1)] → CW D cA ad n A σ H → va_S A s.heap H locs → k σ v1 = some out → W p l e (headSpec ws_X_close ({ frames := 2, cells := 0, slots := 0, locals := 45 })).room s m args below meth c H locs 0 0 (MQ below (va_Qi (fun r u => (r, u) = out) (fun u t => CW D cA ad n A u t.heap ∧ va_K D vCl (atys cA) t) A) args s 0 0 A) (F0 m 41 ls [])) : ∀ (fu : Nat) (σ : St) (v1 : Int32) (v2 : Int32) (H : Heap) (locs : List Loc) (ls : Array Slot), lv_has ls 6 [(0, .ref (ad 0 0)), (1, .int v1), (2, .int v2)] → CW D cA ad n A σ H → va_S A s.heap H locs → lp_X_close_4 n k fu σ v1 v2 = some out → W p l e (headSpec ws_X_close ({ frames := 2, cells := 0, slots := 0, locals := 45 })).room s m args below meth c H locs 0 0 (MQ below (va_Qi (fun r u => (r, u) = out) (fun u t => CW D cA ad n A u t.heap ∧ va_K D vCl (atys cA) t) A) args s 0 0 A) (F0 m 4 ls []) := by
  intro fu
  induction fu with
  | zero =>
    intro σ v1 v2 H locs ls  hl hW hS hf
    exact og_n hf
  | succ fu ih =>
    intro σ v1 v2 H locs ls  hl hW hS hf
    rw [lp_X_close_4_s] at hf
    have ht : ∀ w ∈ TB, w.before args s = true := fun w h => hts w (List.mem_cons_of_mem _ h)
    refine lv_iload_n hx hb d_X_close_4 rfl (lv_at hl 2 rfl) ?_
    refine lv_aload_n hx hb d_X_close_5 rfl (lv_at hl 0 rfl) ?_
    refine va_get (D := D) (ci := 2) (C := "GridlockDesk") (T := T_X) (N := 6) hx hb ht hin_X hown hK (hW.1.one (t := 0) rfl) 0 rfl rfl 2 (by decide) (ht _ tw_95) (fun _ h9 => h9) rfl d_X_close_6 ?_
    refine lv_icmp_ge (tgt := 41) hx hb d_X_close_9 rfl (fun hc => ?_) (fun hc => ?_)
    · replace hf := og_t hc hf
      exact hk _ _ _ _ _  (lv_sub hl [0, 1] rfl) hW hS hf
    · replace hf := og_f hc hf
      refine lv_aload_n hx hb d_X_close_12 rfl (lv_at hl 0 rfl) ?_
      refine lv_iload_n hx hb d_X_close_13 rfl (lv_at hl 2 rfl) ?_
      obtain ⟨o1, ho1, hf⟩ := og_b hf
      refine kc_i (P := (fun u H => CW D cA ad n A u H)) (va_runV (C := "GridlockDesk") (As := [.int _]) (rest := []) ⟨hx, hb, hml, hown, hts⟩ (m_X_isQueued l D cA ad n A _  _  o1 ho1) (cwV 1 hts (tb_V tw_258 tw_260 tw_13 tw_31 tw_261) rfl rfl rfl (by decide +kernel) ⟨Nat.le_of_ble_eq_true rfl, Nat.le_of_ble_eq_true rfl⟩) ⟨k_blind, kw.recv hK hW.1 (t := 0) rfl rfl rfl, k_pre hW hK⟩ rfl rfl hl.1 rfl (lv_room (Nat.le_of_ble_eq_true rfl)) d_X_close_14 ⟨Nat.zero_le _, Nat.zero_le _⟩) hS (fun H locs hW hS => ?_)
      refine lv_if_eq (tgt := 35) hx hb d_X_close_17 rfl (fun hc => ?_) (fun hc => ?_)
      · replace hf := og_t hc hf
        refine lv_iinc (k := 2) (v := _ + 1) (lv' := [(2, .int _), (0, .ref _), (1, .int _)]) hx hb d_X_close_35 hl rfl rfl (by decide) rfl (fun ls hl => ?_)
        refine lv_goto (tgt := 4) hx hb d_X_close_38 rfl ?_
        exact ih _ _ _ _ _ _  (lv_sub hl [1, 2, 0] rfl) hW hS hf
      · replace hf := og_f hc hf
        refine lv_aload_n hx hb d_X_close_20 rfl (lv_at hl 0 rfl) ?_
        refine lv_aload_n hx hb d_X_close_21 rfl (lv_at hl 0 rfl) ?_
        refine va_get (D := D) (ci := 2) (C := "GridlockDesk") (T := T_X) (N := 6) hx hb ht hin_X hown hK (hW.1.one (t := 0) rfl) 0 rfl rfl 1 (by decide) (ht _ tw_94) (fun _ h9 => h9) rfl d_X_close_22 ?_
        refine lv_iload_n hx hb d_X_close_25 rfl (lv_at hl 2 rfl) ?_
        obtain ⟨hin2, hf⟩ := og_if hf
        refine va_aldq (D := D) hx hb hK (hW.1.one (t := 2) rfl) 0 3 rfl rfl hin2 d_X_close_26 ?_
        refine lv_bipush (v := 6) hx hb d_X_close_27 (by decide) ?_
        obtain ⟨k3, hk3, hf⟩ := og_b hf
        obtain ⟨ek3, hk3⟩ := dR_spec hk3
        rw [ek3]
        refine W.eq (g2 := F0 m 29 ls [_, .ref (ad 8 k3), _]) rfl ?_
        obtain ⟨o4, ho4, hf⟩ := og_b hf
        refine kc_v (P := (fun u H => CW D cA ad n A u H)) (va_runV (C := "GridlockDesk") (As := [.ref _, .int _]) (rest := []) ⟨hx, hb, hml, hown, hts⟩ (m_X_end l D cA ad n A _  _ _  o4 ho4) (cwV 2 hts (tb_V tw_166 tw_168 tw_9 tw_31 tw_169) rfl rfl rfl (by decide +kernel) ⟨Nat.le_of_ble_eq_true rfl, Nat.le_of_ble_eq_true rfl⟩) ⟨k_blind, kw.recv hK hW.1 (t := 0) rfl rfl rfl, k_pre hW hK⟩ rfl rfl hl.1 rfl (lv_room (Nat.le_of_ble_eq_true rfl)) d_X_close_29 ⟨Nat.zero_le _, Nat.zero_le _⟩) hS (fun H locs hW hS => ?_)
        refine lv_iinc (k := 1) (v := _ + 1) (lv' := [(1, .int _), (0, .ref _), (2, .int _)]) hx hb d_X_close_32 hl rfl rfl (by decide) rfl (fun ls hl => ?_)
        refine lv_iinc (k := 2) (v := _ + 1) (lv' := [(2, .int _), (1, .int _), (0, .ref _)]) hx hb d_X_close_35 hl rfl rfl (by decide) rfl (fun ls hl => ?_)
        refine lv_goto (tgt := 4) hx hb d_X_close_38 rfl ?_
        exact ih _ _ _ _ _ _  (lv_sub hl [2, 1, 0] rfl) hW hS hf

set_option maxHeartbeats 4000000 in
set_option maxRecDepth 100000 in
theorem lp_X_close_52_ok {p : Program} {l : Launch} {e : Env} {s : State} {m : MethodId} {args : Array Value} {below : List Frame} {meth : Method} {c : Code} (D : va_G) (cA : Nat → ClassId) (ad : Nat → Nat → Nat) (n : Nat) (A : Nat → Prop) (hx : p.tables.exec = Jvm.exec) (hb : c.code = prog_1_method_11_code) (hml : c.maxLocals = 6) (hr : meth.sig.returnType = (some .int)) (hts : ∀ w ∈ ws_X_close, w.before args s = true) (hown : s.vm.findClass "GridlockDesk" = some m.cls) (hlocks : meth.locks = false) (hK : va_K D vCl (atys cA) s) (k : St → Option (Int32 × St)) (out : Int32 × St) (v1 : Int32) (v3 : Int32) (hk : ∀ (σ : St)  (H : Heap) (locs : List Loc) (ls : Array Slot), lv_has ls 6 [(1, .int v1)] → CW D cA ad n A σ H → va_S A s.heap H locs → k σ  = some out → W p l e (headSpec ws_X_close ({ frames := 2, cells := 0, slots := 0, locals := 45 })).room s m args below meth c H locs 0 0 (MQ below (va_Qi (fun r u => (r, u) = out) (fun u t => CW D cA ad n A u t.heap ∧ va_K D vCl (atys cA) t) A) args s 0 0 A) (F0 m 79 ls [])) : ∀ (fu : Nat) (σ : St) (v4 : Int32) (H : Heap) (locs : List Loc) (ls : Array Slot), lv_has ls 6 [(1, .int v1), (2, .ref (ad 1 0)), (3, .int v3), (4, .int v4)] → CW D cA ad n A σ H → va_S A s.heap H locs → lp_X_close_52 n k fu σ v1 v3 v4 = some out → W p l e (headSpec ws_X_close ({ frames := 2, cells := 0, slots := 0, locals := 45 })).room s m args below meth c H locs 0 0 (MQ below (va_Qi (fun r u => (r, u) = out) (fun u t => CW D cA ad n A u t.heap ∧ va_K D vCl (atys cA) t) A) args s 0 0 A) (F0 m 52 ls []) := by
  intro fu
  induction fu with
  | zero =>
    intro σ v4 H locs ls  hl hW hS hf
    exact og_n hf
  | succ fu ih =>
    intro σ v4 H locs ls  hl hW hS hf
    rw [lp_X_close_52_s] at hf
    have ht : ∀ w ∈ TB, w.before args s = true := fun w h => hts w (List.mem_cons_of_mem _ h)
    refine lv_iload hx hb d_X_close_52 (lv_at hl 3 rfl) ?_
    refine lv_iload_n hx hb d_X_close_54 rfl (lv_at hl 2 rfl) ?_
    refine lv_icmp_ge (tgt := 79) hx hb d_X_close_55 rfl (fun hc => ?_) (fun hc => ?_)
    · replace hf := og_t hc hf
      exact hk _  _ _ _  (lv_sub hl [0] rfl) hW hS hf
    · replace hf := og_f hc hf
      refine lv_aload_n hx hb d_X_close_58 rfl (lv_at hl 1 rfl) ?_
      refine lv_iload hx hb d_X_close_59 (lv_at hl 3 rfl) ?_
      obtain ⟨hin7, hf⟩ := og_if hf
      refine va_aldq (D := D) hx hb hK (hW.1.one (t := 1) rfl) 0 2 rfl rfl hin7 d_X_close_61 ?_
      refine W.eq (g2 := F0 m 62 ls (.ref (ad 4 _) :: [])) rfl ?_
      refine lv_astore (lv' := [(5, .ref _), (1, .int _), (2, .ref _), (3, .int _), (4, .int _)]) hx hb d_X_close_62 hl (by decide) rfl (fun ls hl => ?_)
      refine lv_aload hx hb d_X_close_64 (lv_at hl 0 rfl) ?_
      refine va_get (D := D) (ci := 0) (C := "GridlockDesk$Bank") (T := T_B) (N := 7) hx hb ht hin_B hown hK (hW.1.one (t := 4) (vin_lt hin7)) 0 rfl rfl 4 (by decide) (ht _ tw_71) (fun _ h9 => h9) rfl d_X_close_66 ?_
      refine lv_lconst (v := 0) hx hb d_X_close_69 (by decide) ?_
      obtain ⟨hn8, hf⟩ := og_if hf
      obtain ⟨σ9, eσ9, hf⟩ := og_b hf
      cases eσ9
      refine k_fillJ (t := 6) hx hb hml hown hts tw_286 hK hW.1 hS (vin_lt hin7) (hW.2 _ _ (vin_lt hin7)) rfl hn8 ⟨Nat.le_of_ble_eq_true rfl, Nat.le_of_ble_eq_true rfl⟩ hl.1 (Nat.le_of_ble_eq_true rfl) ⟨Nat.zero_le _, Nat.zero_le _⟩ d_X_close_70 cc_fL5 (fun H locs hW1 hS => ?_)
      have hW := CW.fL hW1 hW.2
      refine lv_iinc (k := 4) (v := _ + 1) (lv' := [(4, .int _), (5, .ref _), (1, .int _), (2, .ref _), (3, .int _)]) hx hb d_X_close_73 hl rfl rfl (by decide) rfl (fun ls hl => ?_)
      refine lv_goto (tgt := 52) hx hb d_X_close_76 rfl ?_
      exact ih _ _ _ _ _  (lv_sub hl [2, 3, 4, 0] rfl) hW hS hf

set_option maxHeartbeats 4000000 in
set_option maxRecDepth 100000 in
theorem m_X_close (l : Launch) (D : va_G) (cA : Nat → ClassId) (ad : Nat → Nat → Nat) (n : Nat) (A : Nat → Prop) (σ : St)   (out : Int32 × St) (hf : f_X_close n σ  = some out) : Met l y_X_close ws_X_close ({ frames := 2, cells := 0, slots := 0, locals := 45 }) (va_Pc [.ref (ad 0 0)] (fun U => CW D cA ad n A σ U.heap ∧ va_K D vCl (atys cA) U)) (va_Qi (fun r u => (r, u) = out) (fun u t => CW D cA ad n A u t.heap ∧ va_K D vCl (atys cA) t) A) 0 0 A := by
  refine Met.ofW (cc := prog_1_method_11_code) (maxL := 6) (ret := (some .int)) (by decide) rfl ?_
  intro p e s m args below meth c s₁ B hml hv
  obtain ⟨rfl, hW, hK⟩ := hv
  have hx := B.exec
  have hb := B.bytes
  have hr := B.returns
  have hts := atoms_spec (ws := ws_X_close) B.pre
  have ht : ∀ w ∈ TB, w.before _ s = true := fun w h => hts w (List.mem_cons_of_mem _ h)
  have hown : s.vm.findClass "GridlockDesk" = some m.cls := findClass_of_methodNamed B.named
  have hlocks := B.notSynchronized
  have hS : va_S A s.heap s.heap [] := va_S.rf
  have hl := lv_entry ([.ref (ad 0 0)]) (n := 6) (Nat.le_of_ble_eq_true rfl)
  rw [lg_entry_eq]
  generalize (lg_sl ([.ref (ad 0 0)]) ++ List.replicate (6 - (lg_sl ([.ref (ad 0 0)])).length) Slot.unset).toArray = ls at hl ⊢
  have hl : lv_has ls 6 [(0, .ref (ad 0 0))] := hl
  unfold f_X_close at hf
  refine lv_iconst (v := 0) hx hb d_X_close_0 (by decide) ?_
  refine lv_istore_n (lv' := [(1, .int _), (0, .ref _)]) hx hb d_X_close_1 rfl hl (by decide) rfl (fun ls hl => ?_)
  refine lv_iconst (v := 0) hx hb d_X_close_2 (by decide) ?_
  refine lv_istore_n (lv' := [(2, .int _), (1, .int _), (0, .ref _)]) hx hb d_X_close_3 rfl hl (by decide) rfl (fun ls hl => ?_)
  refine lp_X_close_4_ok D cA ad n A hx hb hml hr hts hown hlocks hK _ _  (fun σ6 y1_5 H locs ls  hl hW hS hf => ?_) _ _ _ _ _ _ _  (lv_sub hl [2, 1, 0] rfl) hW hS hf
  refine lv_aload_n hx hb d_X_close_41 rfl (lv_at hl 0 rfl) ?_
  refine va_get (D := D) (ci := 2) (C := "GridlockDesk") (T := T_X) (N := 6) hx hb ht hin_X hown hK (hW.1.one (t := 0) rfl) 0 rfl rfl 0 (by decide) (ht _ tw_93) (fun _ h9 => h9) rfl d_X_close_42 ?_
  refine lv_astore_n (lv' := [(2, .ref _), (0, .ref _), (1, .int _)]) hx hb d_X_close_45 rfl hl (by decide) rfl (fun ls hl => ?_)
  refine lv_aload_n hx hb d_X_close_46 rfl (lv_at hl 0 rfl) ?_
  refine va_alen (D := D) (v := nI n) hx hb hK (hW.1.one (t := 1) rfl) 0 2 rfl rfl rfl d_X_close_47 ?_
  refine lv_istore_n (lv' := [(3, .int _), (2, .ref _), (0, .ref _), (1, .int _)]) hx hb d_X_close_48 rfl hl (by decide) rfl (fun ls hl => ?_)
  refine lv_iconst (v := 0) hx hb d_X_close_49 (by decide) ?_
  refine lv_istore (lv' := [(4, .int _), (3, .int _), (2, .ref _), (0, .ref _), (1, .int _)]) hx hb d_X_close_50 hl (by decide) rfl (fun ls hl => ?_)
  refine lp_X_close_52_ok D cA ad n A hx hb hml hr hts hown hlocks hK _ _ _ _ (fun σ10 H locs ls  hl hW hS hf => ?_) _ _ _ _ _ _  (lv_sub hl [4, 2, 1, 0] rfl) hW hS hf
  refine lv_iload_n hx hb d_X_close_79 rfl (lv_at hl 0 rfl) ?_
  exact W.iret hx hb hr (fun t ht hWm => ⟨⟨_, _, rfl, Option.some.inj hf, by rw [ht]; exact hW, va_K.moved hWm.alike hK⟩, hS.F ht⟩) hS.2.2 d_X_close_80

set_option maxHeartbeats 4000000 in
set_option maxRecDepth 100000 in
theorem m_X_balance (l : Launch) (D : va_G) (cA : Nat → ClassId) (ad : Nat → Nat → Nat) (n : Nat) (A : Nat → Prop) (σ : St) (x1 : Int32)  (out : Int64 × St) (hf : f_X_balance n σ x1 = some out) : Met l y_X_balance ws_X_balance ({ frames := 1, cells := 0, slots := 0, locals := 21 }) (va_Pc [.ref (ad 0 0), .int x1] (fun U => CW D cA ad n A σ U.heap ∧ va_K D vCl (atys cA) U)) (va_Ql (fun r u => (r, u) = out) (fun u t => CW D cA ad n A u t.heap ∧ va_K D vCl (atys cA) t) A) 0 0 A := by
  refine Met.ofW (cc := prog_1_method_12_code) (maxL := 2) (ret := (some .long)) (by decide) rfl ?_
  intro p e s m args below meth c s₁ B hml hv
  obtain ⟨rfl, hW, hK⟩ := hv
  have hx := B.exec
  have hb := B.bytes
  have hr := B.returns
  have hts := atoms_spec (ws := ws_X_balance) B.pre
  have ht : ∀ w ∈ TB, w.before _ s = true := fun w h => hts w (List.mem_cons_of_mem _ h)
  have hown : s.vm.findClass "GridlockDesk" = some m.cls := findClass_of_methodNamed B.named
  have hlocks := B.notSynchronized
  have hS : va_S A s.heap s.heap [] := va_S.rf
  have hl := lv_entry ([.ref (ad 0 0), .int x1]) (n := 2) (Nat.le_of_ble_eq_true rfl)
  rw [lg_entry_eq]
  generalize (lg_sl ([.ref (ad 0 0), .int x1]) ++ List.replicate (2 - (lg_sl ([.ref (ad 0 0), .int x1])).length) Slot.unset).toArray = ls at hl ⊢
  have hl : lv_has ls 2 [(0, .ref (ad 0 0)), (1, .int x1)] := hl
  unfold f_X_balance at hf
  refine lv_aload_n hx hb d_X_balance_0 rfl (lv_at hl 0 rfl) ?_
  refine lv_iload_n hx hb d_X_balance_1 rfl (lv_at hl 1 rfl) ?_
  obtain ⟨o1, ho1, hf⟩ := og_b hf
  refine kc_i (P := (fun u H => CW D cA ad n A u H)) (va_runV (C := "GridlockDesk") (As := [.int _]) (rest := []) ⟨hx, hb, hml, hown, hts⟩ (m_X_isBank l D cA ad n A _  _  o1 ho1) (cwV 1 hts (tb_V tw_117 tw_119 tw_0 tw_31 tw_120) rfl rfl rfl (by decide +kernel) ⟨Nat.le_of_ble_eq_true rfl, Nat.le_of_ble_eq_true rfl⟩) ⟨k_blind, kw.recv hK hW.1 (t := 0) rfl rfl rfl, k_pre hW hK⟩ rfl rfl hl.1 rfl (lv_room (Nat.le_of_ble_eq_true rfl)) d_X_balance_2 ⟨Nat.zero_le _, Nat.zero_le _⟩) hS (fun H locs hW hS => ?_)
  refine lv_if_eq (tgt := 20) hx hb d_X_balance_5 rfl (fun hc => ?_) (fun hc => ?_)
  · replace hf := og_t hc hf
    refine lv_lconst (v := 0) hx hb d_X_balance_20 (by decide) ?_
    exact W.lret hx hb hr (fun t ht hWm => ⟨⟨_, _, rfl, Option.some.inj hf, by rw [ht]; exact hW, va_K.moved hWm.alike hK⟩, hS.F ht⟩) hS.2.2 d_X_balance_21
  · replace hf := og_f hc hf
    refine lv_aload_n hx hb d_X_balance_8 rfl (lv_at hl 0 rfl) ?_
    refine va_get (D := D) (ci := 2) (C := "GridlockDesk") (T := T_X) (N := 6) hx hb ht hin_X hown hK (hW.1.one (t := 0) rfl) 0 rfl rfl 0 (by decide) (ht _ tw_93) (fun _ h9 => h9) rfl d_X_balance_9 ?_
    refine lv_iload_n hx hb d_X_balance_12 rfl (lv_at hl 1 rfl) ?_
    obtain ⟨hin2, hf⟩ := og_if hf
    refine va_aldq (D := D) hx hb hK (hW.1.one (t := 1) rfl) 0 2 rfl rfl hin2 d_X_balance_13 ?_
    refine W.eq (g2 := F0 m 14 ls (.ref (ad 4 _) :: [])) rfl ?_
    refine va_get (D := D) (ci := 0) (C := "GridlockDesk$Bank") (T := T_B) (N := 7) hx hb ht hin_B hown hK (hW.1.one (t := 4) (vin_lt hin2)) 0 rfl rfl 0 (by decide) (ht _ tw_64) (fun _ h9 => h9) rfl d_X_balance_14 ?_
    refine lv_goto (tgt := 21) hx hb d_X_balance_17 rfl ?_
    exact W.lret hx hb hr (fun t ht hWm => ⟨⟨_, _, rfl, Option.some.inj hf, by rw [ht]; exact hW, va_K.moved hWm.alike hK⟩, hS.F ht⟩) hS.2.2 d_X_balance_21

set_option maxHeartbeats 4000000 in
set_option maxRecDepth 100000 in
theorem m_X_position (l : Launch) (D : va_G) (cA : Nat → ClassId) (ad : Nat → Nat → Nat) (n : Nat) (A : Nat → Prop) (σ : St) (x1 : Int32) (x2 : Int32)  (out : Int64 × St) (hf : f_X_position n σ x1 x2 = some out) : Met l y_X_position ws_X_position ({ frames := 2, cells := 0, slots := 0, locals := 43 }) (va_Pc [.ref (ad 0 0), .int x1, .int x2] (fun U => CW D cA ad n A σ U.heap ∧ va_K D vCl (atys cA) U)) (va_Ql (fun r u => (r, u) = out) (fun u t => CW D cA ad n A u t.heap ∧ va_K D vCl (atys cA) t) A) 0 0 A := by
  refine Met.ofW (cc := prog_1_method_13_code) (maxL := 3) (ret := (some .long)) (by decide) rfl ?_
  intro p e s m args below meth c s₁ B hml hv
  obtain ⟨rfl, hW, hK⟩ := hv
  have hx := B.exec
  have hb := B.bytes
  have hr := B.returns
  have hts := atoms_spec (ws := ws_X_position) B.pre
  have ht : ∀ w ∈ TB, w.before _ s = true := fun w h => hts w (List.mem_cons_of_mem _ h)
  have hown : s.vm.findClass "GridlockDesk" = some m.cls := findClass_of_methodNamed B.named
  have hlocks := B.notSynchronized
  have hS : va_S A s.heap s.heap [] := va_S.rf
  have hl := lv_entry ([.ref (ad 0 0), .int x1, .int x2]) (n := 3) (Nat.le_of_ble_eq_true rfl)
  rw [lg_entry_eq]
  generalize (lg_sl ([.ref (ad 0 0), .int x1, .int x2]) ++ List.replicate (3 - (lg_sl ([.ref (ad 0 0), .int x1, .int x2])).length) Slot.unset).toArray = ls at hl ⊢
  have hl : lv_has ls 3 [(0, .ref (ad 0 0)), (1, .int x1), (2, .int x2)] := hl
  unfold f_X_position at hf
  refine lv_aload_n hx hb d_X_position_0 rfl (lv_at hl 0 rfl) ?_
  refine lv_iload_n hx hb d_X_position_1 rfl (lv_at hl 1 rfl) ?_
  refine lv_iload_n hx hb d_X_position_2 rfl (lv_at hl 2 rfl) ?_
  obtain ⟨o1, ho1, hf⟩ := og_b hf
  refine kc_i (P := (fun u H => CW D cA ad n A u H)) (va_runV (C := "GridlockDesk") (As := [.int _, .int _]) (rest := []) ⟨hx, hb, hml, hown, hts⟩ (m_X_areTwoBanks l D cA ad n A _  _ _  o1 ho1) (cwV 2 hts (tb_V tw_191 tw_193 tw_11 tw_31 tw_194) rfl rfl rfl (by decide +kernel) ⟨Nat.le_of_ble_eq_true rfl, Nat.le_of_ble_eq_true rfl⟩) ⟨k_blind, kw.recv hK hW.1 (t := 0) rfl rfl rfl, k_pre hW hK⟩ rfl rfl hl.1 rfl (lv_room (Nat.le_of_ble_eq_true rfl)) d_X_position_3 ⟨Nat.zero_le _, Nat.zero_le _⟩) hS (fun H locs hW hS => ?_)
  refine lv_if_eq (tgt := 18) hx hb d_X_position_6 rfl (fun hc => ?_) (fun hc => ?_)
  · replace hf := og_t hc hf
    refine lv_lconst (v := 0) hx hb d_X_position_18 (by decide) ?_
    exact W.lret hx hb hr (fun t ht hWm => ⟨⟨_, _, rfl, Option.some.inj hf, by rw [ht]; exact hW, va_K.moved hWm.alike hK⟩, hS.F ht⟩) hS.2.2 d_X_position_19
  · replace hf := og_f hc hf
    refine lv_aload_n hx hb d_X_position_9 rfl (lv_at hl 0 rfl) ?_
    refine lv_iload_n hx hb d_X_position_10 rfl (lv_at hl 1 rfl) ?_
    refine lv_iload_n hx hb d_X_position_11 rfl (lv_at hl 2 rfl) ?_
    obtain ⟨o2, ho2, hf⟩ := og_b hf
    refine kc_l (P := (fun u H => CW D cA ad n A u H)) (va_runV (C := "GridlockDesk") (As := [.int _, .int _]) (rest := []) ⟨hx, hb, hml, hown, hts⟩ (m_X_positionOf l D cA ad n A _  _ _  o2 ho2) (cwV 2 hts (tb_V tw_154 tw_156 tw_6 tw_31 tw_157) rfl rfl rfl (by decide +kernel) ⟨Nat.le_of_ble_eq_true rfl, Nat.le_of_ble_eq_true rfl⟩) ⟨k_blind, kw.recv hK hW.1 (t := 0) rfl rfl rfl, k_pre hW hK⟩ rfl rfl hl.1 rfl (lv_room (Nat.le_of_ble_eq_true rfl)) d_X_position_12 ⟨Nat.zero_le _, Nat.zero_le _⟩) hS (fun H locs hW hS => ?_)
    refine lv_goto (tgt := 19) hx hb d_X_position_15 rfl ?_
    exact W.lret hx hb hr (fun t ht hWm => ⟨⟨_, _, rfl, Option.some.inj hf, by rw [ht]; exact hW, va_K.moved hWm.alike hK⟩, hS.F ht⟩) hS.2.2 d_X_position_19

set_option maxHeartbeats 4000000 in
set_option maxRecDepth 100000 in
theorem m_X_waiting (l : Launch) (D : va_G) (cA : Nat → ClassId) (ad : Nat → Nat → Nat) (n : Nat) (A : Nat → Prop) (σ : St) (x1 : Int32)  (out : Int32 × St) (hf : f_X_waiting n σ x1 = some out) : Met l y_X_waiting ws_X_waiting ({ frames := 1, cells := 0, slots := 0, locals := 21 }) (va_Pc [.ref (ad 0 0), .int x1] (fun U => CW D cA ad n A σ U.heap ∧ va_K D vCl (atys cA) U)) (va_Qi (fun r u => (r, u) = out) (fun u t => CW D cA ad n A u t.heap ∧ va_K D vCl (atys cA) t) A) 0 0 A := by
  refine Met.ofW (cc := prog_1_method_14_code) (maxL := 2) (ret := (some .int)) (by decide) rfl ?_
  intro p e s m args below meth c s₁ B hml hv
  obtain ⟨rfl, hW, hK⟩ := hv
  have hx := B.exec
  have hb := B.bytes
  have hr := B.returns
  have hts := atoms_spec (ws := ws_X_waiting) B.pre
  have ht : ∀ w ∈ TB, w.before _ s = true := fun w h => hts w (List.mem_cons_of_mem _ h)
  have hown : s.vm.findClass "GridlockDesk" = some m.cls := findClass_of_methodNamed B.named
  have hlocks := B.notSynchronized
  have hS : va_S A s.heap s.heap [] := va_S.rf
  have hl := lv_entry ([.ref (ad 0 0), .int x1]) (n := 2) (Nat.le_of_ble_eq_true rfl)
  rw [lg_entry_eq]
  generalize (lg_sl ([.ref (ad 0 0), .int x1]) ++ List.replicate (2 - (lg_sl ([.ref (ad 0 0), .int x1])).length) Slot.unset).toArray = ls at hl ⊢
  have hl : lv_has ls 2 [(0, .ref (ad 0 0)), (1, .int x1)] := hl
  unfold f_X_waiting at hf
  refine lv_aload_n hx hb d_X_waiting_0 rfl (lv_at hl 0 rfl) ?_
  refine lv_iload_n hx hb d_X_waiting_1 rfl (lv_at hl 1 rfl) ?_
  obtain ⟨o1, ho1, hf⟩ := og_b hf
  refine kc_i (P := (fun u H => CW D cA ad n A u H)) (va_runV (C := "GridlockDesk") (As := [.int _]) (rest := []) ⟨hx, hb, hml, hown, hts⟩ (m_X_isBank l D cA ad n A _  _  o1 ho1) (cwV 1 hts (tb_V tw_117 tw_119 tw_0 tw_31 tw_120) rfl rfl rfl (by decide +kernel) ⟨Nat.le_of_ble_eq_true rfl, Nat.le_of_ble_eq_true rfl⟩) ⟨k_blind, kw.recv hK hW.1 (t := 0) rfl rfl rfl, k_pre hW hK⟩ rfl rfl hl.1 rfl (lv_room (Nat.le_of_ble_eq_true rfl)) d_X_waiting_2 ⟨Nat.zero_le _, Nat.zero_le _⟩) hS (fun H locs hW hS => ?_)
  refine lv_if_eq (tgt := 20) hx hb d_X_waiting_5 rfl (fun hc => ?_) (fun hc => ?_)
  · replace hf := og_t hc hf
    refine lv_iconst (v := (-1)) hx hb d_X_waiting_20 (by decide) ?_
    exact W.iret hx hb hr (fun t ht hWm => ⟨⟨_, _, rfl, Option.some.inj hf, by rw [ht]; exact hW, va_K.moved hWm.alike hK⟩, hS.F ht⟩) hS.2.2 d_X_waiting_21
  · replace hf := og_f hc hf
    refine lv_aload_n hx hb d_X_waiting_8 rfl (lv_at hl 0 rfl) ?_
    refine va_get (D := D) (ci := 2) (C := "GridlockDesk") (T := T_X) (N := 6) hx hb ht hin_X hown hK (hW.1.one (t := 0) rfl) 0 rfl rfl 0 (by decide) (ht _ tw_93) (fun _ h9 => h9) rfl d_X_waiting_9 ?_
    refine lv_iload_n hx hb d_X_waiting_12 rfl (lv_at hl 1 rfl) ?_
    obtain ⟨hin2, hf⟩ := og_if hf
    refine va_aldq (D := D) hx hb hK (hW.1.one (t := 1) rfl) 0 2 rfl rfl hin2 d_X_waiting_13 ?_
    refine W.eq (g2 := F0 m 14 ls (.ref (ad 4 _) :: [])) rfl ?_
    refine va_get (D := D) (ci := 0) (C := "GridlockDesk$Bank") (T := T_B) (N := 7) hx hb ht hin_B hown hK (hW.1.one (t := 4) (vin_lt hin2)) 0 rfl rfl 6 (by decide) (ht _ tw_75) (fun _ h9 => h9) rfl d_X_waiting_14 ?_
    refine lv_goto (tgt := 21) hx hb d_X_waiting_17 rfl ?_
    exact W.iret hx hb hr (fun t ht hWm => ⟨⟨_, _, rfl, Option.some.inj hf, by rw [ht]; exact hW, va_K.moved hWm.alike hK⟩, hS.F ht⟩) hS.2.2 d_X_waiting_21

set_option maxHeartbeats 4000000 in
set_option maxRecDepth 100000 in
theorem m_X_queued (l : Launch) (D : va_G) (cA : Nat → ClassId) (ad : Nat → Nat → Nat) (n : Nat) (A : Nat → Prop) (σ : St) (x1 : Int32) (x2 : Int32)  (out : Int32 × St) (hf : f_X_queued n σ x1 x2 = some out) : Met l y_X_queued ws_X_queued ({ frames := 1, cells := 0, slots := 0, locals := 21 }) (va_Pc [.ref (ad 0 0), .int x1, .int x2] (fun U => CW D cA ad n A σ U.heap ∧ va_K D vCl (atys cA) U)) (va_Qi (fun r u => (r, u) = out) (fun u t => CW D cA ad n A u t.heap ∧ va_K D vCl (atys cA) t) A) 0 0 A := by
  refine Met.ofW (cc := prog_1_method_15_code) (maxL := 3) (ret := (some .int)) (by decide) rfl ?_
  intro p e s m args below meth c s₁ B hml hv
  obtain ⟨rfl, hW, hK⟩ := hv
  have hx := B.exec
  have hb := B.bytes
  have hr := B.returns
  have hts := atoms_spec (ws := ws_X_queued) B.pre
  have ht : ∀ w ∈ TB, w.before _ s = true := fun w h => hts w (List.mem_cons_of_mem _ h)
  have hown : s.vm.findClass "GridlockDesk" = some m.cls := findClass_of_methodNamed B.named
  have hlocks := B.notSynchronized
  have hS : va_S A s.heap s.heap [] := va_S.rf
  have hl := lv_entry ([.ref (ad 0 0), .int x1, .int x2]) (n := 3) (Nat.le_of_ble_eq_true rfl)
  rw [lg_entry_eq]
  generalize (lg_sl ([.ref (ad 0 0), .int x1, .int x2]) ++ List.replicate (3 - (lg_sl ([.ref (ad 0 0), .int x1, .int x2])).length) Slot.unset).toArray = ls at hl ⊢
  have hl : lv_has ls 3 [(0, .ref (ad 0 0)), (1, .int x1), (2, .int x2)] := hl
  unfold f_X_queued at hf
  refine lv_aload_n hx hb d_X_queued_0 rfl (lv_at hl 0 rfl) ?_
  refine lv_iload_n hx hb d_X_queued_1 rfl (lv_at hl 1 rfl) ?_
  obtain ⟨o1, ho1, hf⟩ := og_b hf
  refine kc_i (P := (fun u H => CW D cA ad n A u H)) (va_runV (C := "GridlockDesk") (As := [.int _]) (rest := []) ⟨hx, hb, hml, hown, hts⟩ (m_X_isBank l D cA ad n A _  _  o1 ho1) (cwV 1 hts (tb_V tw_117 tw_119 tw_0 tw_31 tw_120) rfl rfl rfl (by decide +kernel) ⟨Nat.le_of_ble_eq_true rfl, Nat.le_of_ble_eq_true rfl⟩) ⟨k_blind, kw.recv hK hW.1 (t := 0) rfl rfl rfl, k_pre hW hK⟩ rfl rfl hl.1 rfl (lv_room (Nat.le_of_ble_eq_true rfl)) d_X_queued_2 ⟨Nat.zero_le _, Nat.zero_le _⟩) hS (fun H locs hW hS => ?_)
  refine lv_if_eq (tgt := 25) hx hb d_X_queued_5 rfl (fun hc => ?_) (fun hc => ?_)
  · replace hf := og_t hc hf
    refine lv_iconst (v := (-1)) hx hb d_X_queued_25 (by decide) ?_
    exact W.iret hx hb hr (fun t ht hWm => ⟨⟨_, _, rfl, Option.some.inj hf, by rw [ht]; exact hW, va_K.moved hWm.alike hK⟩, hS.F ht⟩) hS.2.2 d_X_queued_26
  · replace hf := og_f hc hf
    refine lv_iload_n hx hb d_X_queued_8 rfl (lv_at hl 2 rfl) ?_
    refine lv_if_lt (tgt := 25) hx hb d_X_queued_9 rfl (fun hc => ?_) (fun hc => ?_)
    · replace hf := og_t hc hf
      refine lv_iconst (v := (-1)) hx hb d_X_queued_25 (by decide) ?_
      exact W.iret hx hb hr (fun t ht hWm => ⟨⟨_, _, rfl, Option.some.inj hf, by rw [ht]; exact hW, va_K.moved hWm.alike hK⟩, hS.F ht⟩) hS.2.2 d_X_queued_26
    · replace hf := og_f hc hf
      refine lv_iload_n hx hb d_X_queued_12 rfl (lv_at hl 2 rfl) ?_
      refine lv_aload_n hx hb d_X_queued_13 rfl (lv_at hl 0 rfl) ?_
      refine va_get (D := D) (ci := 2) (C := "GridlockDesk") (T := T_X) (N := 6) hx hb ht hin_X hown hK (hW.1.one (t := 0) rfl) 0 rfl rfl 0 (by decide) (ht _ tw_93) (fun _ h9 => h9) rfl d_X_queued_14 ?_
      refine lv_iload_n hx hb d_X_queued_17 rfl (lv_at hl 1 rfl) ?_
      obtain ⟨hin2, hf⟩ := og_if hf
      refine va_aldq (D := D) hx hb hK (hW.1.one (t := 1) rfl) 0 2 rfl rfl hin2 d_X_queued_18 ?_
      refine W.eq (g2 := F0 m 19 ls (.ref (ad 4 _) :: [_])) rfl ?_
      refine va_get (D := D) (ci := 0) (C := "GridlockDesk$Bank") (T := T_B) (N := 7) hx hb ht hin_B hown hK (hW.1.one (t := 4) (vin_lt hin2)) 0 rfl rfl 6 (by decide) (ht _ tw_75) (fun _ h9 => h9) rfl d_X_queued_19 ?_
      refine lv_icmp_lt (tgt := 27) hx hb d_X_queued_22 rfl (fun hc => ?_) (fun hc => ?_)
      · replace hf := og_t hc hf
        refine lv_aload_n hx hb d_X_queued_27 rfl (lv_at hl 0 rfl) ?_
        refine va_get (D := D) (ci := 2) (C := "GridlockDesk") (T := T_X) (N := 6) hx hb ht hin_X hown hK (hW.1.one (t := 0) rfl) 0 rfl rfl 0 (by decide) (ht _ tw_93) (fun _ h9 => h9) rfl d_X_queued_28 ?_
        refine lv_iload_n hx hb d_X_queued_31 rfl (lv_at hl 1 rfl) ?_
        obtain ⟨hin3, hf⟩ := og_if hf
        refine va_aldq (D := D) hx hb hK (hW.1.one (t := 1) rfl) 0 2 rfl rfl hin3 d_X_queued_32 ?_
        refine W.eq (g2 := F0 m 33 ls (.ref (ad 4 _) :: [])) rfl ?_
        refine va_get (D := D) (ci := 0) (C := "GridlockDesk$Bank") (T := T_B) (N := 7) hx hb ht hin_B hown hK (hW.1.one (t := 4) (vin_lt hin3)) 0 rfl rfl 5 (by decide) (ht _ tw_73) (fun _ h9 => h9) rfl d_X_queued_33 ?_
        refine lv_iload_n hx hb d_X_queued_36 rfl (lv_at hl 2 rfl) ?_
        obtain ⟨hin4, hf⟩ := og_if hf
        refine va_aldq (D := D) hx hb hK (hW.1.one (t := 7) (vin_lt hin3)) 0 3 rfl rfl hin4 d_X_queued_37 ?_
        obtain ⟨k5, hk5, hf⟩ := og_b hf
        obtain ⟨ek5, hk5⟩ := dR_spec hk5
        rw [ek5]
        refine W.eq (g2 := F0 m 38 ls [.ref (ad 8 k5)]) rfl ?_
        refine va_get (D := D) (ci := 1) (C := "GridlockDesk$Payment") (T := T_P) (N := 7) hx hb ht hin_P hown hK (hW.1.one (t := 8) hk5) 0 rfl rfl 0 (by decide) (ht _ tw_219) (fun _ h9 => h9) rfl d_X_queued_38 ?_
        exact W.iret hx hb hr (fun t ht hWm => ⟨⟨_, _, rfl, Option.some.inj hf, by rw [ht]; exact hW, va_K.moved hWm.alike hK⟩, hS.F ht⟩) hS.2.2 d_X_queued_41
      · replace hf := og_f hc hf
        refine lv_iconst (v := (-1)) hx hb d_X_queued_25 (by decide) ?_
        exact W.iret hx hb hr (fun t ht hWm => ⟨⟨_, _, rfl, Option.some.inj hf, by rw [ht]; exact hW, va_K.moved hWm.alike hK⟩, hS.F ht⟩) hS.2.2 d_X_queued_26

set_option maxHeartbeats 4000000 in
set_option maxRecDepth 100000 in
theorem m_X_state (l : Launch) (D : va_G) (cA : Nat → ClassId) (ad : Nat → Nat → Nat) (n : Nat) (A : Nat → Prop) (σ : St) (x1 : Int32)  (out : Int32 × St) (hf : f_X_state n σ x1 = some out) : Met l y_X_state ws_X_state ({ frames := 1, cells := 0, slots := 0, locals := 21 }) (va_Pc [.ref (ad 0 0), .int x1] (fun U => CW D cA ad n A σ U.heap ∧ va_K D vCl (atys cA) U)) (va_Qi (fun r u => (r, u) = out) (fun u t => CW D cA ad n A u t.heap ∧ va_K D vCl (atys cA) t) A) 0 0 A := by
  refine Met.ofW (cc := prog_1_method_16_code) (maxL := 2) (ret := (some .int)) (by decide) rfl ?_
  intro p e s m args below meth c s₁ B hml hv
  obtain ⟨rfl, hW, hK⟩ := hv
  have hx := B.exec
  have hb := B.bytes
  have hr := B.returns
  have hts := atoms_spec (ws := ws_X_state) B.pre
  have ht : ∀ w ∈ TB, w.before _ s = true := fun w h => hts w (List.mem_cons_of_mem _ h)
  have hown : s.vm.findClass "GridlockDesk" = some m.cls := findClass_of_methodNamed B.named
  have hlocks := B.notSynchronized
  have hS : va_S A s.heap s.heap [] := va_S.rf
  have hl := lv_entry ([.ref (ad 0 0), .int x1]) (n := 2) (Nat.le_of_ble_eq_true rfl)
  rw [lg_entry_eq]
  generalize (lg_sl ([.ref (ad 0 0), .int x1]) ++ List.replicate (2 - (lg_sl ([.ref (ad 0 0), .int x1])).length) Slot.unset).toArray = ls at hl ⊢
  have hl : lv_has ls 2 [(0, .ref (ad 0 0)), (1, .int x1)] := hl
  unfold f_X_state at hf
  refine lv_aload_n hx hb d_X_state_0 rfl (lv_at hl 0 rfl) ?_
  refine lv_iload_n hx hb d_X_state_1 rfl (lv_at hl 1 rfl) ?_
  obtain ⟨o1, ho1, hf⟩ := og_b hf
  refine kc_i (P := (fun u H => CW D cA ad n A u H)) (va_runV (C := "GridlockDesk") (As := [.int _]) (rest := []) ⟨hx, hb, hml, hown, hts⟩ (m_X_isPayment l D cA ad n A _  _  o1 ho1) (cwV 1 hts (tb_V tw_262 tw_264 tw_14 tw_31 tw_265) rfl rfl rfl (by decide +kernel) ⟨Nat.le_of_ble_eq_true rfl, Nat.le_of_ble_eq_true rfl⟩) ⟨k_blind, kw.recv hK hW.1 (t := 0) rfl rfl rfl, k_pre hW hK⟩ rfl rfl hl.1 rfl (lv_room (Nat.le_of_ble_eq_true rfl)) d_X_state_2 ⟨Nat.zero_le _, Nat.zero_le _⟩) hS (fun H locs hW hS => ?_)
  refine lv_if_eq (tgt := 20) hx hb d_X_state_5 rfl (fun hc => ?_) (fun hc => ?_)
  · replace hf := og_t hc hf
    refine lv_iconst (v := (-1)) hx hb d_X_state_20 (by decide) ?_
    exact W.iret hx hb hr (fun t ht hWm => ⟨⟨_, _, rfl, Option.some.inj hf, by rw [ht]; exact hW, va_K.moved hWm.alike hK⟩, hS.F ht⟩) hS.2.2 d_X_state_21
  · replace hf := og_f hc hf
    refine lv_aload_n hx hb d_X_state_8 rfl (lv_at hl 0 rfl) ?_
    refine va_get (D := D) (ci := 2) (C := "GridlockDesk") (T := T_X) (N := 6) hx hb ht hin_X hown hK (hW.1.one (t := 0) rfl) 0 rfl rfl 1 (by decide) (ht _ tw_94) (fun _ h9 => h9) rfl d_X_state_9 ?_
    refine lv_iload_n hx hb d_X_state_12 rfl (lv_at hl 1 rfl) ?_
    obtain ⟨hin2, hf⟩ := og_if hf
    refine va_aldq (D := D) hx hb hK (hW.1.one (t := 2) rfl) 0 3 rfl rfl hin2 d_X_state_13 ?_
    obtain ⟨k3, hk3, hf⟩ := og_b hf
    obtain ⟨ek3, hk3⟩ := dR_spec hk3
    rw [ek3]
    refine W.eq (g2 := F0 m 14 ls [.ref (ad 8 k3)]) rfl ?_
    refine va_get (D := D) (ci := 1) (C := "GridlockDesk$Payment") (T := T_P) (N := 7) hx hb ht hin_P hown hK (hW.1.one (t := 8) hk3) 0 rfl rfl 6 (by decide) (ht _ tw_234) (fun _ h9 => h9) rfl d_X_state_14 ?_
    refine lv_goto (tgt := 21) hx hb d_X_state_17 rfl ?_
    exact W.iret hx hb hr (fun t ht hWm => ⟨⟨_, _, rfl, Option.some.inj hf, by rw [ht]; exact hW, va_K.moved hWm.alike hK⟩, hS.F ht⟩) hS.2.2 d_X_state_21

set_option maxHeartbeats 4000000 in
set_option maxRecDepth 100000 in
theorem m_X_turnover (l : Launch) (D : va_G) (cA : Nat → ClassId) (ad : Nat → Nat → Nat) (n : Nat) (A : Nat → Prop) (σ : St)   (out : Int64 × St) (hf : f_X_turnover n σ  = some out) : Met l y_X_turnover ws_X_turnover ({ frames := 0, cells := 0, slots := 0, locals := 0 }) (va_Pc [.ref (ad 0 0)] (fun U => CW D cA ad n A σ U.heap ∧ va_K D vCl (atys cA) U)) (va_Ql (fun r u => (r, u) = out) (fun u t => CW D cA ad n A u t.heap ∧ va_K D vCl (atys cA) t) A) 0 0 A := by
  refine Met.ofW (cc := prog_1_method_17_code) (maxL := 1) (ret := (some .long)) (by decide) rfl ?_
  intro p e s m args below meth c s₁ B hml hv
  obtain ⟨rfl, hW, hK⟩ := hv
  have hx := B.exec
  have hb := B.bytes
  have hr := B.returns
  have hts := atoms_spec (ws := ws_X_turnover) B.pre
  have ht : ∀ w ∈ TB, w.before _ s = true := fun w h => hts w (List.mem_cons_of_mem _ h)
  have hown : s.vm.findClass "GridlockDesk" = some m.cls := findClass_of_methodNamed B.named
  have hlocks := B.notSynchronized
  have hS : va_S A s.heap s.heap [] := va_S.rf
  have hl := lv_entry ([.ref (ad 0 0)]) (n := 1) (Nat.le_of_ble_eq_true rfl)
  rw [lg_entry_eq]
  generalize (lg_sl ([.ref (ad 0 0)]) ++ List.replicate (1 - (lg_sl ([.ref (ad 0 0)])).length) Slot.unset).toArray = ls at hl ⊢
  have hl : lv_has ls 1 [(0, .ref (ad 0 0))] := hl
  unfold f_X_turnover at hf
  refine lv_aload_n hx hb d_X_turnover_0 rfl (lv_at hl 0 rfl) ?_
  refine va_get (D := D) (ci := 2) (C := "GridlockDesk") (T := T_X) (N := 6) hx hb ht hin_X hown hK (hW.1.one (t := 0) rfl) 0 rfl rfl 3 (by decide) (ht _ tw_96) (fun _ h9 => h9) rfl d_X_turnover_1 ?_
  exact W.lret hx hb hr (fun t ht hWm => ⟨⟨_, _, rfl, Option.some.inj hf, by rw [ht]; exact hW, va_K.moved hWm.alike hK⟩, hS.F ht⟩) hS.2.2 d_X_turnover_4

set_option maxHeartbeats 4000000 in
set_option maxRecDepth 100000 in
theorem m_X_now (l : Launch) (D : va_G) (cA : Nat → ClassId) (ad : Nat → Nat → Nat) (n : Nat) (A : Nat → Prop) (σ : St)   (out : Int32 × St) (hf : f_X_now n σ  = some out) : Met l y_X_now ws_X_now ({ frames := 0, cells := 0, slots := 0, locals := 0 }) (va_Pc [.ref (ad 0 0)] (fun U => CW D cA ad n A σ U.heap ∧ va_K D vCl (atys cA) U)) (va_Qi (fun r u => (r, u) = out) (fun u t => CW D cA ad n A u t.heap ∧ va_K D vCl (atys cA) t) A) 0 0 A := by
  refine Met.ofW (cc := prog_1_method_18_code) (maxL := 1) (ret := (some .int)) (by decide) rfl ?_
  intro p e s m args below meth c s₁ B hml hv
  obtain ⟨rfl, hW, hK⟩ := hv
  have hx := B.exec
  have hb := B.bytes
  have hr := B.returns
  have hts := atoms_spec (ws := ws_X_now) B.pre
  have ht : ∀ w ∈ TB, w.before _ s = true := fun w h => hts w (List.mem_cons_of_mem _ h)
  have hown : s.vm.findClass "GridlockDesk" = some m.cls := findClass_of_methodNamed B.named
  have hlocks := B.notSynchronized
  have hS : va_S A s.heap s.heap [] := va_S.rf
  have hl := lv_entry ([.ref (ad 0 0)]) (n := 1) (Nat.le_of_ble_eq_true rfl)
  rw [lg_entry_eq]
  generalize (lg_sl ([.ref (ad 0 0)]) ++ List.replicate (1 - (lg_sl ([.ref (ad 0 0)])).length) Slot.unset).toArray = ls at hl ⊢
  have hl : lv_has ls 1 [(0, .ref (ad 0 0))] := hl
  unfold f_X_now at hf
  refine lv_aload_n hx hb d_X_now_0 rfl (lv_at hl 0 rfl) ?_
  refine va_get (D := D) (ci := 2) (C := "GridlockDesk") (T := T_X) (N := 6) hx hb ht hin_X hown hK (hW.1.one (t := 0) rfl) 0 rfl rfl 4 (by decide) (ht _ tw_97) (fun _ h9 => h9) rfl d_X_now_1 ?_
  exact W.iret hx hb hr (fun t ht hWm => ⟨⟨_, _, rfl, Option.some.inj hf, by rw [ht]; exact hW, va_K.moved hWm.alike hK⟩, hS.F ht⟩) hS.2.2 d_X_now_4
end
