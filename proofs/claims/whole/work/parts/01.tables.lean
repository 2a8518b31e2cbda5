-- ===== PART A: goes FIRST, ahead of the names: the tables' words, and 'selects' of the private methods out of them =====
/-- a private method of a class that the tables say can be made, by its rows of tables_1 -/
def lw_okq (q : MethodName × Nat) : Prop := (q.1.cls ≠ "java/lang/invoke/MethodHandle" ∧ q.1.cls ≠ "java/lang/invoke/VarHandle") ∧ Cond.instantiable q.1.cls q.2 ∈ tables_1 ∧ Cond.privateMethod q.1 ∈ tables_1 ∧ Cond.instanceMethod q.1 ∈ tables_1
theorem lw_p0 : lw_okq (⟨"GridlockDesk", "isBank", "(I)Z"⟩, 6) := ⟨⟨by decide +kernel, by decide +kernel⟩, List.mem_of_getElem? (i := 8) (by decide +kernel), List.mem_of_getElem? (i := 88) (by decide +kernel), List.mem_of_getElem? (i := 89) (by decide +kernel)⟩
theorem lw_p1 : lw_okq (⟨"GridlockDesk", "sweep", "()V"⟩, 6) := ⟨⟨by decide +kernel, by decide +kernel⟩, List.mem_of_getElem? (i := 8) (by decide +kernel), List.mem_of_getElem? (i := 94) (by decide +kernel), List.mem_of_getElem? (i := 95) (by decide +kernel)⟩
theorem lw_p2 : lw_okq (⟨"GridlockDesk", "chooseReadyHead", "()Z"⟩, 6) := ⟨⟨by decide +kernel, by decide +kernel⟩, List.mem_of_getElem? (i := 8) (by decide +kernel), List.mem_of_getElem? (i := 98) (by decide +kernel), List.mem_of_getElem? (i := 99) (by decide +kernel)⟩
theorem lw_p3 : lw_okq (⟨"GridlockDesk", "chooseHeads", "(II)Z"⟩, 6) := ⟨⟨by decide +kernel, by decide +kernel⟩, List.mem_of_getElem? (i := 8) (by decide +kernel), List.mem_of_getElem? (i := 102) (by decide +kernel), List.mem_of_getElem? (i := 103) (by decide +kernel)⟩
theorem lw_p4 : lw_okq (⟨"GridlockDesk", "firstUnwellBank", "()I"⟩, 6) := ⟨⟨by decide +kernel, by decide +kernel⟩, List.mem_of_getElem? (i := 8) (by decide +kernel), List.mem_of_getElem? (i := 109) (by decide +kernel), List.mem_of_getElem? (i := 110) (by decide +kernel)⟩
theorem lw_p5 : lw_okq (⟨"GridlockDesk", "wouldBeWell", "(I)Z"⟩, 6) := ⟨⟨by decide +kernel, by decide +kernel⟩, List.mem_of_getElem? (i := 8) (by decide +kernel), List.mem_of_getElem? (i := 113) (by decide +kernel), List.mem_of_getElem? (i := 114) (by decide +kernel)⟩
theorem lw_p6 : lw_okq (⟨"GridlockDesk", "positionOf", "(II)J"⟩, 6) := ⟨⟨by decide +kernel, by decide +kernel⟩, List.mem_of_getElem? (i := 8) (by decide +kernel), List.mem_of_getElem? (i := 125) (by decide +kernel), List.mem_of_getElem? (i := 126) (by decide +kernel)⟩
theorem lw_p7 : lw_okq (⟨"GridlockDesk", "settleChosen", "(I)I"⟩, 6) := ⟨⟨by decide +kernel, by decide +kernel⟩, List.mem_of_getElem? (i := 8) (by decide +kernel), List.mem_of_getElem? (i := 129) (by decide +kernel), List.mem_of_getElem? (i := 130) (by decide +kernel)⟩
theorem lw_p8 : lw_okq (⟨"GridlockDesk", "settle", "(LGridlockDesk$Payment;I)V"⟩, 6) := ⟨⟨by decide +kernel, by decide +kernel⟩, List.mem_of_getElem? (i := 8) (by decide +kernel), List.mem_of_getElem? (i := 133) (by decide +kernel), List.mem_of_getElem? (i := 134) (by decide +kernel)⟩
theorem lw_p9 : lw_okq (⟨"GridlockDesk", "end", "(LGridlockDesk$Payment;I)V"⟩, 6) := ⟨⟨by decide +kernel, by decide +kernel⟩, List.mem_of_getElem? (i := 8) (by decide +kernel), List.mem_of_getElem? (i := 137) (by decide +kernel), List.mem_of_getElem? (i := 138) (by decide +kernel)⟩
theorem lw_p10 : lw_okq (⟨"GridlockDesk", "chooseReadyPair", "()Z"⟩, 6) := ⟨⟨by decide +kernel, by decide +kernel⟩, List.mem_of_getElem? (i := 8) (by decide +kernel), List.mem_of_getElem? (i := 145) (by decide +kernel), List.mem_of_getElem? (i := 146) (by decide +kernel)⟩
theorem lw_p11 : lw_okq (⟨"GridlockDesk", "areTwoBanks", "(II)Z"⟩, 6) := ⟨⟨by decide +kernel, by decide +kernel⟩, List.mem_of_getElem? (i := 8) (by decide +kernel), List.mem_of_getElem? (i := 162) (by decide +kernel), List.mem_of_getElem? (i := 163) (by decide +kernel)⟩
theorem lw_p12 : lw_okq (⟨"GridlockDesk", "totalPositionOf", "(I)J"⟩, 6) := ⟨⟨by decide +kernel, by decide +kernel⟩, List.mem_of_getElem? (i := 8) (by decide +kernel), List.mem_of_getElem? (i := 173) (by decide +kernel), List.mem_of_getElem? (i := 174) (by decide +kernel)⟩
theorem lw_p13 : lw_okq (⟨"GridlockDesk", "isQueued", "(I)Z"⟩, 6) := ⟨⟨by decide +kernel, by decide +kernel⟩, List.mem_of_getElem? (i := 8) (by decide +kernel), List.mem_of_getElem? (i := 229) (by decide +kernel), List.mem_of_getElem? (i := 230) (by decide +kernel)⟩
theorem lw_p14 : lw_okq (⟨"GridlockDesk", "isPayment", "(I)Z"⟩, 6) := ⟨⟨by decide +kernel, by decide +kernel⟩, List.mem_of_getElem? (i := 8) (by decide +kernel), List.mem_of_getElem? (i := 233) (by decide +kernel), List.mem_of_getElem? (i := 234) (by decide +kernel)⟩
theorem lw_p15 : lw_okq (⟨"GridlockDesk", "chooseGreatest", "()V"⟩, 6) := ⟨⟨by decide +kernel, by decide +kernel⟩, List.mem_of_getElem? (i := 8) (by decide +kernel), List.mem_of_getElem? (i := 245) (by decide +kernel), List.mem_of_getElem? (i := 246) (by decide +kernel)⟩
def lw_privs_1 : List (MethodName × Nat) := [(⟨"GridlockDesk", "isBank", "(I)Z"⟩, 6), (⟨"GridlockDesk", "sweep", "()V"⟩, 6), (⟨"GridlockDesk", "chooseReadyHead", "()Z"⟩, 6), (⟨"GridlockDesk", "chooseHeads", "(II)Z"⟩, 6), (⟨"GridlockDesk", "firstUnwellBank", "()I"⟩, 6), (⟨"GridlockDesk", "wouldBeWell", "(I)Z"⟩, 6), (⟨"GridlockDesk", "positionOf", "(II)J"⟩, 6), (⟨"GridlockDesk", "settleChosen", "(I)I"⟩, 6), (⟨"GridlockDesk", "settle", "(LGridlockDesk$Payment;I)V"⟩, 6), (⟨"GridlockDesk", "end", "(LGridlockDesk$Payment;I)V"⟩, 6), (⟨"GridlockDesk", "chooseReadyPair", "()Z"⟩, 6), (⟨"GridlockDesk", "areTwoBanks", "(II)Z"⟩, 6), (⟨"GridlockDesk", "totalPositionOf", "(I)J"⟩, 6), (⟨"GridlockDesk", "isQueued", "(I)Z"⟩, 6), (⟨"GridlockDesk", "isPayment", "(I)Z"⟩, 6), (⟨"GridlockDesk", "chooseGreatest", "()V"⟩, 6)]
theorem lw_r1 : ∀ q ∈ lw_privs_1, lw_okq q := List.forall_mem_cons.mpr ⟨lw_p0, List.forall_mem_cons.mpr ⟨lw_p1, List.forall_mem_cons.mpr ⟨lw_p2, List.forall_mem_cons.mpr ⟨lw_p3, List.forall_mem_cons.mpr ⟨lw_p4, List.forall_mem_cons.mpr ⟨lw_p5, List.forall_mem_cons.mpr ⟨lw_p6, List.forall_mem_cons.mpr ⟨lw_p7, List.forall_mem_cons.mpr ⟨lw_p8, List.forall_mem_cons.mpr ⟨lw_p9, List.forall_mem_cons.mpr ⟨lw_p10, List.forall_mem_cons.mpr ⟨lw_p11, List.forall_mem_cons.mpr ⟨lw_p12, List.forall_mem_cons.mpr ⟨lw_p13, List.forall_mem_cons.mpr ⟨lw_p14, List.forall_mem_cons.mpr ⟨lw_p15, fun _ h => absurd h List.not_mem_nil⟩⟩⟩⟩⟩⟩⟩⟩⟩⟩⟩⟩⟩⟩⟩⟩
theorem lw_p16 : lw_okq (⟨"GridlockDeskModel", "lineUp", "()V"⟩, 22) := ⟨⟨by decide +kernel, by decide +kernel⟩, List.mem_of_getElem? (i := 289) (by decide +kernel), List.mem_of_getElem? (i := 367) (by decide +kernel), List.mem_of_getElem? (i := 368) (by decide +kernel)⟩
theorem lw_p17 : lw_okq (⟨"GridlockDeskModel", "before", "(II)Z"⟩, 22) := ⟨⟨by decide +kernel, by decide +kernel⟩, List.mem_of_getElem? (i := 289) (by decide +kernel), List.mem_of_getElem? (i := 371) (by decide +kernel), List.mem_of_getElem? (i := 372) (by decide +kernel)⟩
theorem lw_p18 : lw_okq (⟨"GridlockDeskModel", "good", "(I)Z"⟩, 22) := ⟨⟨by decide +kernel, by decide +kernel⟩, List.mem_of_getElem? (i := 289) (by decide +kernel), List.mem_of_getElem? (i := 375) (by decide +kernel), List.mem_of_getElem? (i := 376) (by decide +kernel)⟩
theorem lw_p19 : lw_okq (⟨"GridlockDeskModel", "now0", "()V"⟩, 22) := ⟨⟨by decide +kernel, by decide +kernel⟩, List.mem_of_getElem? (i := 289) (by decide +kernel), List.mem_of_getElem? (i := 379) (by decide +kernel), List.mem_of_getElem? (i := 380) (by decide +kernel)⟩
theorem lw_p20 : lw_okq (⟨"GridlockDeskModel", "plan", "(I)V"⟩, 22) := ⟨⟨by decide +kernel, by decide +kernel⟩, List.mem_of_getElem? (i := 289) (by decide +kernel), List.mem_of_getElem? (i := 386) (by decide +kernel), List.mem_of_getElem? (i := 387) (by decide +kernel)⟩
theorem lw_p21 : lw_okq (⟨"GridlockDeskModel", "allWell", "()Z"⟩, 22) := ⟨⟨by decide +kernel, by decide +kernel⟩, List.mem_of_getElem? (i := 289) (by decide +kernel), List.mem_of_getElem? (i := 390) (by decide +kernel), List.mem_of_getElem? (i := 391) (by decide +kernel)⟩
theorem lw_p22 : lw_okq (⟨"GridlockDeskModel", "settle", "(II)V"⟩, 22) := ⟨⟨by decide +kernel, by decide +kernel⟩, List.mem_of_getElem? (i := 289) (by decide +kernel), List.mem_of_getElem? (i := 394) (by decide +kernel), List.mem_of_getElem? (i := 395) (by decide +kernel)⟩
theorem lw_p23 : lw_okq (⟨"GridlockDeskModel", "sweep", "()V"⟩, 22) := ⟨⟨by decide +kernel, by decide +kernel⟩, List.mem_of_getElem? (i := 289) (by decide +kernel), List.mem_of_getElem? (i := 398) (by decide +kernel), List.mem_of_getElem? (i := 399) (by decide +kernel)⟩
theorem lw_p24 : lw_okq (⟨"GridlockDeskModel", "alone", "()Z"⟩, 22) := ⟨⟨by decide +kernel, by decide +kernel⟩, List.mem_of_getElem? (i := 289) (by decide +kernel), List.mem_of_getElem? (i := 402) (by decide +kernel), List.mem_of_getElem? (i := 403) (by decide +kernel)⟩
theorem lw_p25 : lw_okq (⟨"GridlockDeskModel", "ready", "(II)Z"⟩, 22) := ⟨⟨by decide +kernel, by decide +kernel⟩, List.mem_of_getElem? (i := 289) (by decide +kernel), List.mem_of_getElem? (i := 406) (by decide +kernel), List.mem_of_getElem? (i := 407) (by decide +kernel)⟩
theorem lw_p26 : lw_okq (⟨"GridlockDeskModel", "pair", "()Z"⟩, 22) := ⟨⟨by decide +kernel, by decide +kernel⟩, List.mem_of_getElem? (i := 289) (by decide +kernel), List.mem_of_getElem? (i := 410) (by decide +kernel), List.mem_of_getElem? (i := 411) (by decide +kernel)⟩
theorem lw_p27 : lw_okq (⟨"GridlockDeskModel", "isBank", "(I)Z"⟩, 22) := ⟨⟨by decide +kernel, by decide +kernel⟩, List.mem_of_getElem? (i := 289) (by decide +kernel), List.mem_of_getElem? (i := 418) (by decide +kernel), List.mem_of_getElem? (i := 419) (by decide +kernel)⟩
theorem lw_p28 : lw_okq (⟨"GridlockDeskModel", "queuedAt", "(I)I"⟩, 22) := ⟨⟨by decide +kernel, by decide +kernel⟩, List.mem_of_getElem? (i := 289) (by decide +kernel), List.mem_of_getElem? (i := 441) (by decide +kernel), List.mem_of_getElem? (i := 442) (by decide +kernel)⟩
theorem lw_p29 : lw_okq (⟨"GridlockDeskModel", "isQueued", "(I)Z"⟩, 22) := ⟨⟨by decide +kernel, by decide +kernel⟩, List.mem_of_getElem? (i := 289) (by decide +kernel), List.mem_of_getElem? (i := 449) (by decide +kernel), List.mem_of_getElem? (i := 450) (by decide +kernel)⟩
def lw_privs_2 : List (MethodName × Nat) := [(⟨"GridlockDeskModel", "lineUp", "()V"⟩, 22), (⟨"GridlockDeskModel", "before", "(II)Z"⟩, 22), (⟨"GridlockDeskModel", "good", "(I)Z"⟩, 22), (⟨"GridlockDeskModel", "now0", "()V"⟩, 22), (⟨"GridlockDeskModel", "plan", "(I)V"⟩, 22), (⟨"GridlockDeskModel", "allWell", "()Z"⟩, 22), (⟨"GridlockDeskModel", "settle", "(II)V"⟩, 22), (⟨"GridlockDeskModel", "sweep", "()V"⟩, 22), (⟨"GridlockDeskModel", "alone", "()Z"⟩, 22), (⟨"GridlockDeskModel", "ready", "(II)Z"⟩, 22), (⟨"GridlockDeskModel", "pair", "()Z"⟩, 22), (⟨"GridlockDeskModel", "isBank", "(I)Z"⟩, 22), (⟨"GridlockDeskModel", "queuedAt", "(I)I"⟩, 22), (⟨"GridlockDeskModel", "isQueued", "(I)Z"⟩, 22)]
theorem lw_r2 : ∀ q ∈ lw_privs_2, lw_okq q := List.forall_mem_cons.mpr ⟨lw_p16, List.forall_mem_cons.mpr ⟨lw_p17, List.forall_mem_cons.mpr ⟨lw_p18, List.forall_mem_cons.mpr ⟨lw_p19, List.forall_mem_cons.mpr ⟨lw_p20, List.forall_mem_cons.mpr ⟨lw_p21, List.forall_mem_cons.mpr ⟨lw_p22, List.forall_mem_cons.mpr ⟨lw_p23, List.forall_mem_cons.mpr ⟨lw_p24, List.forall_mem_cons.mpr ⟨lw_p25, List.forall_mem_cons.mpr ⟨lw_p26, List.forall_mem_cons.mpr ⟨lw_p27, List.forall_mem_cons.mpr ⟨lw_p28, List.forall_mem_cons.mpr ⟨lw_p29, fun _ h => absurd h List.not_mem_nil⟩⟩⟩⟩⟩⟩⟩⟩⟩⟩⟩⟩⟩⟩
def lw_privs : List (MethodName × Nat) := lw_privs_1 ++ (lw_privs_2)
def lw_tbl : List Cond := k2_sels lw_privs ++ tables_1
theorem lw_privs_ok : ∀ q ∈ lw_privs, lw_okq q := by
  show ∀ q ∈ lw_privs_1 ++ (lw_privs_2), lw_okq q
  exact List.forall_mem_append.mpr ⟨lw_r1, lw_r2⟩
def TB : List Cond := lw_tbl.filter goodWord
theorem tb_good : ∀ w ∈ TB, goodWord w = true := fun w h => (List.mem_filter.mp h).2
theorem tb_in {w : Cond} (k : Nat) (h : lw_tbl[k]? = some w) (hg : goodWord w = true) : w ∈ TB := List.mem_filter.mpr ⟨List.mem_of_getElem? h, hg⟩
theorem tb_V {own C : String} {idx k : Nat} {y : MethodName} {b : ByteArray} {r : Option FieldType} {c0 : Cond} (h1 : Cond.methodLink own idx y ∈ TB) (h2 : Cond.instanceMethod y ∈ TB) (h3 : Cond.selects C y y ∈ TB) (h4 : Cond.initialized C ∈ TB) (h5 : Cond.code y b k r ∈ TB) : GoodIn (c0 :: TB) (wsV own idx C y (.code y b k r :: TB)) := by
  intro w hw
  have key : w ∈ TB := by
    rcases List.mem_append.mp hw with h | h
    · rcases List.mem_cons.mp h with rfl | h
      · exact h1
      rcases List.mem_cons.mp h with rfl | h
      · exact h2
      rcases List.mem_cons.mp h with rfl | h
      · exact h3
      rcases List.mem_cons.mp h with rfl | h
      · exact h4
      · cases h
    · rcases List.mem_cons.mp h with rfl | h
      · exact h5
      · exact h
  exact ⟨List.mem_cons_of_mem _ key, good_of_word (tb_good w key)⟩
theorem tb_S {own : String} {idx k : Nat} {y : MethodName} {b : ByteArray} {r : Option FieldType} {c0 : Cond} (h1 : Cond.methodLink own idx y ∈ TB) (h2 : Cond.static y ∈ TB) (h4 : Cond.initialized y.cls ∈ TB) (h5 : Cond.code y b k r ∈ TB) : GoodIn (c0 :: TB) (va_wsS own idx y (.code y b k r :: TB)) := by
  intro w hw
  have key : w ∈ TB := by
    rcases List.mem_append.mp hw with h | h
    · rcases List.mem_cons.mp h with rfl | h
      · exact h1
      rcases List.mem_cons.mp h with rfl | h
      · exact h2
      rcases List.mem_cons.mp h with rfl | h
      · exact h4
      · cases h
    · rcases List.mem_cons.mp h with rfl | h
      · exact h5
      · exact h
  exact ⟨List.mem_cons_of_mem _ key, good_of_word (tb_good w key)⟩
theorem tb_C {b : ByteArray} {k : Nat} {y : MethodName} {r : Option FieldType} {c0 : Cond} (h5 : Cond.code y b k r ∈ TB) : GoodIn (c0 :: TB) (.code y b k r :: TB) := by
  intro w hw
  have key : w ∈ TB := by
    rcases List.mem_cons.mp hw with rfl | h
    · exact h5
    · exact h
  exact ⟨List.mem_cons_of_mem _ key, good_of_word (tb_good w key)⟩
def T_B : u_T := fun k => match k with
  | 0 => ("GridlockDesk$Bank", "balance", "J", false)
  | 1 => ("GridlockDesk$Bank", "creditLine", "J", false)
  | 2 => ("GridlockDesk$Bank", "totalLimit", "J", false)
  | 3 => ("GridlockDesk$Bank", "limits", "[J", true)
  | 4 => ("GridlockDesk$Bank", "sent", "[J", true)
  | 5 => ("GridlockDesk$Bank", "queue", "[LGridlockDesk$Payment;", true)
  | _ => ("GridlockDesk$Bank", "queueLength", "I", false)
def ft_B : Nat → FieldType := fun k => match k with
  | 0 => .long
  | 1 => .long
  | 2 => .long
  | 3 => .array .long
  | 4 => .array .long
  | 5 => .array (.object "GridlockDesk$Payment")
  | _ => .int
theorem nm_B : ∀ a, a < 7 → ∀ b, b < 7 → a ≠ b → (T_B a).2.1 ≠ (T_B b).2.1 := by decide +kernel
theorem ft_B_ok : ∀ k, k < 7 → parseFieldDescriptor (T_B k).2.2.1 = some (ft_B k) := by decide +kernel
theorem hin_B : ∀ w ∈ u_ws "GridlockDesk$Bank" T_B 7, w ∈ TB := by decide +kernel
def T_P : u_T := fun k => match k with
  | 0 => ("GridlockDesk$Payment", "number", "I", true)
  | 1 => ("GridlockDesk$Payment", "from", "I", true)
  | 2 => ("GridlockDesk$Payment", "to", "I", true)
  | 3 => ("GridlockDesk$Payment", "amount", "J", true)
  | 4 => ("GridlockDesk$Payment", "until", "I", true)
  | 5 => ("GridlockDesk$Payment", "priority", "I", false)
  | _ => ("GridlockDesk$Payment", "fate", "I", false)
def ft_P : Nat → FieldType := fun k => match k with
  | 0 => .int
  | 1 => .int
  | 2 => .int
  | 3 => .long
  | 4 => .int
  | 5 => .int
  | _ => .int
theorem nm_P : ∀ a, a < 7 → ∀ b, b < 7 → a ≠ b → (T_P a).2.1 ≠ (T_P b).2.1 := by decide +kernel
theorem ft_P_ok : ∀ k, k < 7 → parseFieldDescriptor (T_P k).2.2.1 = some (ft_P k) := by decide +kernel
theorem hin_P : ∀ w ∈ u_ws "GridlockDesk$Payment" T_P 7, w ∈ TB := by decide +kernel
def T_X : u_T := fun k => match k with
  | 0 => ("GridlockDesk", "banks", "[LGridlockDesk$Bank;", true)
  | 1 => ("GridlockDesk", "payments", "[LGridlockDesk$Payment;", true)
  | 2 => ("GridlockDesk", "paymentCount", "I", false)
  | 3 => ("GridlockDesk", "settledSum", "J", false)
  | 4 => ("GridlockDesk", "time", "I", false)
  | _ => ("GridlockDesk", "chosen", "[I", true)
def ft_X : Nat → FieldType := fun k => match k with
  | 0 => .array (.object "GridlockDesk$Bank")
  | 1 => .array (.object "GridlockDesk$Payment")
  | 2 => .int
  | 3 => .long
  | 4 => .int
  | _ => .array .int
theorem nm_X : ∀ a, a < 6 → ∀ b, b < 6 → a ≠ b → (T_X a).2.1 ≠ (T_X b).2.1 := by decide +kernel
theorem ft_X_ok : ∀ k, k < 6 → parseFieldDescriptor (T_X k).2.2.1 = some (ft_X k) := by decide +kernel
theorem hin_X : ∀ w ∈ u_ws "GridlockDesk" T_X 6, w ∈ TB := by decide +kernel
def T_M : u_T := fun k => match k with
  | 0 => ("GridlockDeskModel", "n", "I", false)
  | 1 => ("GridlockDeskModel", "time", "I", false)
  | 2 => ("GridlockDeskModel", "settledInAll", "J", false)
  | 3 => ("GridlockDeskModel", "funds", "[J", true)
  | 4 => ("GridlockDeskModel", "line", "[J", true)
  | 5 => ("GridlockDeskModel", "totals", "[J", true)
  | 6 => ("GridlockDeskModel", "limits", "[J", true)
  | 7 => ("GridlockDeskModel", "sent", "[J", true)
  | 8 => ("GridlockDeskModel", "count", "I", false)
  | 9 => ("GridlockDeskModel", "stamps", "I", false)
  | 10 => ("GridlockDeskModel", "payer", "[I", true)
  | 11 => ("GridlockDeskModel", "payee", "[I", true)
  | 12 => ("GridlockDeskModel", "sum", "[J", true)
  | 13 => ("GridlockDeskModel", "rank", "[I", true)
  | 14 => ("GridlockDeskModel", "last", "[I", true)
  | 15 => ("GridlockDeskModel", "stamp", "[I", true)
  | 16 => ("GridlockDeskModel", "fate", "[I", true)
  | 17 => ("GridlockDeskModel", "queue", "[I", true)
  | 18 => ("GridlockDeskModel", "queueLength", "[I", true)
  | 19 => ("GridlockDeskModel", "thenFunds", "[J", true)
  | 20 => ("GridlockDeskModel", "thenSent", "[J", true)
  | _ => ("GridlockDeskModel", "best", "[I", true)
def ft_M : Nat → FieldType := fun k => match k with
  | 0 => .int
  | 1 => .int
  | 2 => .long
  | 3 => .array .long
  | 4 => .array .long
  | 5 => .array .long
  | 6 => .array .long
  | 7 => .array .long
  | 8 => .int
  | 9 => .int
  | 10 => .array .int
  | 11 => .array .int
  | 12 => .array .long
  | 13 => .array .int
  | 14 => .array .int
  | 15 => .array .int
  | 16 => .array .int
  | 17 => .array .int
  | 18 => .array .int
  | 19 => .array .long
  | 20 => .array .long
  | _ => .array .int
theorem nm_M : ∀ a, a < 22 → ∀ b, b < 22 → a ≠ b → (T_M a).2.1 ≠ (T_M b).2.1 := by decide +kernel
theorem ft_M_ok : ∀ k, k < 22 → parseFieldDescriptor (T_M k).2.2.1 = some (ft_M k) := by decide +kernel
theorem hin_M : ∀ w ∈ u_ws "GridlockDeskModel" T_M 22, w ∈ TB := by decide +kernel
abbrev vCl : List vw_C := [("GridlockDesk$Bank", T_B, 7), ("GridlockDesk$Payment", T_P, 7), ("GridlockDesk", T_X, 6), ("GridlockDeskModel", T_M, 22)]
