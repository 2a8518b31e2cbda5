section
-- ===== PART A: goes FIRST, ahead of the names: the tables' words, and 'selects' of the private methods out of them =====
/-- a private method of a class that the tables say can be made, by its rows of tables_1 -/
def lw_okq (q : MethodName × Nat) : Prop := (q.1.cls ≠ "java/lang/invoke/MethodHandle" ∧ q.1.cls ≠ "java/lang/invoke/VarHandle") ∧ Cond.instantiable q.1.cls q.2 ∈ tables_1 ∧ Cond.privateMethod q.1 ∈ tables_1 ∧ Cond.instanceMethod q.1 ∈ tables_1
theorem lw_p0 : lw_okq (⟨"GridlockDesk", "isBank", "(I)Z"⟩, 6) := ⟨⟨by decide +kernel, by decide +kernel⟩, List.mem_of_getElem? (i := 8) (by decide +kernel), List.mem_of_getElem? (i := 88) (by decide +kernel), List.mem_of_getElem? (i := 89) (by decide +kernel)⟩
theorem lw_p1 : lw_okq (⟨"GridlockDesk", "sweep", "()V"⟩, 6) := ⟨⟨by decide +kernel, by decide +kernel⟩, List.mem_of_getElem? (i := 8) (by decide +kernel), List.mem_of_getElem? (i := 94) (by decide +kernel), List.mem_of_getElem? (i := 95) (by decide +kernel)⟩
theorem lw_p2 : lw_okq (⟨"GridlockDesk", "chooseReadyHead", "()Z"⟩, 6) := ⟨⟨by decide +kernel, by decide +kernel⟩, List.mem_of_getElem? (i := 8) (by decide +kernel), List.mem_of_getElem? (i := 98) (by decide +kernel), List.mem_of_getElem? (i := 99) (by decide +kernel)⟩
theorem lw_p3 : lw_okq (⟨"GridlockDesk", "chooseHeads", "(II)Z"⟩, 6) := ⟨⟨by decide +kernel, by decide +kernel⟩, List.mem_of_getElem? (i := 8) (by decide +kernel), List.mem_of_getElem? (i := 102) (by decide +kernel), List.mem_of_getElem? (i := 103) (by decide +kernel)⟩
theorem lw_p4 : lw_okq (⟨"GridlockDesk", "firstUnwellBank", "()I"⟩, 6) := ⟨⟨by decide +kernel, by decide +kernel⟩, List.mem_of_getElem? (i := 8) (by decide +kernel), List.mem_of_getElem? (i := 109) (by decide +kernel), List.mem_of_getElem? (i := 110) (by decide +kernel)⟩
theorem lw_p5 : lw_okq (⟨"GridlockDesk", "wouldBeWell", "(I)Z"⟩, 6) := ⟨⟨by decide +kernel, by decide +kernel⟩, List.mem_of_getElem? (i := 8) (by decide +kernel), List.mem_of_getElem? (i := 113) (by decide +kernel), List.mem_of_getElem? (i := 114) (by decide +kernel)⟩
theorem lw_p6 : lw_okq (⟨"GridlockDesk", "positionOf", "(II)J"⟩, 6) := ⟨⟨by decide +kernel, by decide +kernel⟩, List.mem_of_getElem? (i := 8) (by decide +kernel), List.mem_of_getElem? (i := 125) (by decide +kernel), List.mem_of_getElem? (i := 126) (by decide +kernel)⟩
theorem lw_p7 : lw_okq (⟨"GridlockDesk", "settleChosen", "(I)I"⟩, 6) := ⟨⟨by decide +kernel, by decide +kernel⟩, List.mem_of_getElem? (i := 8) (by decide +kernel), List.mem_of_getElem? (i := 129) (by decide +kernel), List.mem_of_getElem? (i := 130) (by decide +kernel)⟩
theorem lw_p8 : lw_okq (⟨"GridlockDesk", "settle", "(LGridlockDesk$Payment;I)V"⟩, 6) := ⟨⟨by decide +kernel, by decide +kernel⟩, List.mem_of_getElem? (i := 8) (by decide +kernel), List.mem_of_getElem? (i := 133) (by decide +kernel), List.mem_of_getElem? (i := 134) (by decide +kernel)⟩
theorem lw_p9 : lw_okq (⟨"GridlockDesk", "end", "(LGridlockDesk$Payment;I)V"⟩, 6) := ⟨⟨by decide +kernel, by decide +kernel⟩, List.mem_of_getElem? (i := 8) (by decide +kernel), List.mem_of_getElem? (i := 137) (by decide +kernel), List.mem_of_getElem? (i := 138) (by decide +kernel)⟩
theorem lw_p10 : lw_okq (⟨"GridlockDesk", "chooseReadyPair", "()Z"⟩, 6) := ⟨⟨by decide +kernel, by decide +kernel⟩, List.mem_of_getElem? (i := 8) (by decide +kernel), List.mem_of_getElem? (i := 145) (by decide +kernel), List.mem_of_getElem? (i := 146) (by decide +kernel)⟩
theorem lw_p11 : lw_okq (⟨"GridlockDesk", "areTwoBanks", "(II)Z"⟩, 6) := ⟨⟨by decide +kernel, by decide +kernel⟩, List.mem_of_getElem? (i := 8) (by decide +kernel), List.mem_of_getElem? (i := 162) (by decide +kernel), List.mem_of_getElem? (i := 163) (by decide +kernel)⟩
theorem lw_p12 : lw_okq (⟨"GridlockDesk", "totalPositionOf", "(I)J"⟩, 6) := ⟨⟨by decide +kernel, by decide +kernel⟩, List.mem_of_getElem? (i := 8) (by decide +kernel), List.mem_of_getElem? (i := 173) (by decide +kernel), List.mem_of_getElem? (i := 174) (by decide +kernel)⟩
theorem lw_p13 : lw_okq (⟨"GridlockDesk", "isQueued", "(I)Z"⟩, 6) := ⟨⟨by decide +kernel, by decide +kernel⟩, List.mem_of_getElem? (i := 8) (by decide +kernel), List.mem_of_getElem? (i := 229) (by decide +kernel), List.mem_of_getElem? (i := 230) (by decide +kernel)⟩
theorem lw_p14 : lw_okq (⟨"GridlockDesk", "isPayment", "(I)Z"⟩, 6) := ⟨⟨by decide +kernel, by decide +kernel⟩, List.mem_of_getElem? (i := 8) (by decide +kernel), List.mem_of_getElem? (i := 233) (by decide +kernel), List.mem_of_getElem? (i := 234) (by decide +kernel)⟩
theorem lw_p15 : lw_okq (⟨"GridlockDesk", "chooseGreatest", "()V"⟩, 6) := ⟨⟨by decide +kernel, by decide +kernel⟩, List.mem_of_getElem? (i := 8) (by decide +kernel), List.mem_of_getElem? (i := 245) (by decide +kernel), List.mem_of_getElem? (i := 246) (by decide +kernel)⟩
def lw_privs_1 : List (MethodName × Nat) := [(⟨"GridlockDesk", "isBank", "(I)Z"⟩, 6), (⟨"GridlockDesk", "sweep", "()V"⟩, 6), (⟨"GridlockDesk", "chooseReadyHead", "()Z"⟩, 6), (⟨"GridlockDesk", "chooseHeads", "(II)Z"⟩, 6), (⟨"GridlockDesk", "firstUnwellBank", "()I"⟩, 6), (⟨"GridlockDesk", "wouldBeWell", "(I)Z"⟩, 6), (⟨"GridlockDesk", "positionOf", "(II)J"⟩, 6), (⟨"GridlockDesk", "settleChosen", "(I)I"⟩, 6), (⟨"GridlockDesk", "settle", "(LGridlockDesk$Payment;I)V"⟩, 6), (⟨"GridlockDesk", "end", "(LGridlockDesk$Payment;I)V"⟩, 6), (⟨"GridlockDesk", "chooseReadyPair", "()Z"⟩, 6), (⟨"GridlockDesk", "areTwoBanks", "(II)Z"⟩, 6), (⟨"GridlockDesk", "totalPositionOf", "(I)J"⟩, 6), (⟨"GridlockDesk", "isQueued", "(I)Z"⟩, 6), (⟨"GridlockDesk", "isPayment", "(I)Z"⟩, 6), (⟨"GridlockDesk", "chooseGreatest", "()V"⟩, 6)]
theorem lw_r1 : ∀ q ∈ lw_privs_1, lw_okq q := List.forall_mem_cons.mpr ⟨lw_p0, List.forall_mem_cons.mpr ⟨lw_p1, List.forall_mem_cons.mpr ⟨lw_p2, List.forall_mem_cons.mpr ⟨lw_p3, List.forall_mem_cons.mpr ⟨lw_p4, List.forall_mem_cons.mpr ⟨lw_p5, List.forall_mem_cons.mpr ⟨lw_p6, List.forall_mem_cons.mpr ⟨lw_p7, List.forall_mem_cons.mpr ⟨lw_p8, List.forall_mem_cons.mpr ⟨lw_p9, List.forall_mem_cons.mpr ⟨lw_p10, List.forall_mem_cons.mpr ⟨lw_p11, List.forall_mem_cons.mpr ⟨lw_p12, List.forall_mem_cons.mpr ⟨lw_p13, List.forall_mem_cons.mpr ⟨lw_p14, List.forall_mem_cons.mpr ⟨lw_p15, fun _ h => absurd h List.not_mem_nil⟩⟩⟩⟩⟩⟩⟩⟩⟩⟩⟩⟩⟩⟩⟩⟩
theorem lw_p16 : lw_okq (⟨"GridlockDeskModel", "lineUp", "()V"⟩, 22) := ⟨⟨by decide +kernel, by decide +kernel⟩, List.mem_of_getElem? (i := 289) (by decide +kernel), List.mem_of_getElem? (i := 367) (by decide +kernel), List.mem_of_getElem? (i := 368) (by decide +kernel)⟩
theorem lw_p17 : lw_okq (⟨"GridlockDeskModel", "before", "(II)Z"⟩, 22) := ⟨⟨by decide +kernel, by decide +kernel⟩, List.mem_of_getElem? (i := 289) (by decide +kernel), List.mem_of_getElem? (i := 371) (by decide +kernel), List.mem_of_getElem? (i := 372) (by decide +kernel)⟩
theorem lw_p18 : lw_okq (⟨"GridlockDeskModel", "good", "(I)Z"⟩, 22) := ⟨⟨by decide +kernel, by decide +kernel⟩, List.mem_of_getElem? (i := 289) (by decide +kernel), List.mem_of_getElem? (i := 375) (by decide +kernel), List.mem_of_getElem? (i := 376) (by decide +kernel)⟩
theorem lw_p19 : lw_okq (⟨"GridlockDeskModel", "now0", "()V"⟩, 22) := ⟨⟨by decide +kernel, by decide +kernel⟩, List.mem_of_getElem? (i := 289) (by decide +kernel), List.mem_of_getElem? (i := 379) (by decide +kernel), List.mem_of_getElem? (i := 380) (by decide +kernel)⟩
theorem lw_p20 : lw_okq (⟨"GridlockDeskModel", "plan", "(I)V"⟩, 22) := ⟨⟨by decide +kernel, by decide +kernel⟩, List.mem_of_getElem? (i := 289) (by decide +kernel), List.mem_of_getElem? (i := 386) (by decide +kernel), List.mem_of_getElem? (i := 387) (by decide +kernel)⟩
theorem lw_p21 : lw_okq (⟨"GridlockDeskModel", "allWell", "()Z"⟩, 22) := ⟨⟨by decide +kernel, by decide +kernel⟩, List.mem_of_getElem? (i := 289) (by decide +kernel), List.mem_of_getElem? (i := 390) (by decide +kernel), List.mem_of_getElem? (i := 391) (by decide +kernel)⟩
theorem lw_p22 : lw_okq (⟨"GridlockDeskModel", "settle", "(II)V"⟩, 22) := ⟨⟨by decide +kernel, by decide +kernel⟩, List.mem_of_getElem? (i := 289) (by decide +kernel), List.mem_of_getElem? (i := 394) (by decide +kernel), List.mem_of_getElem? (i := 395) (by decide +kernel)⟩
theorem lw_p23 : lw_okq (⟨"GridlockDeskModel", "sweep", "()V"⟩, 22) := ⟨⟨by decide +kernel, by decide +kernel⟩, List.mem_of_getElem? (i := 289) (by decide +kernel), List.mem_of_getElem? (i := 398) (by decide +kernel), List.mem_of_getElem? (i := 399) (by decide +kernel)⟩
theorem lw_p24 : lw_okq (⟨"GridlockDeskModel", "alone", "()Z"⟩, 22) := ⟨⟨by decide +kernel, by decide +kernel⟩, List.mem_of_getElem? (i := 289) (by decide +kernel), List.mem_of_getElem? (i := 402) (by decide +kernel), List.mem_of_getElem? (i := 403) (by decide +kernel)⟩
theorem lw_p25 : lw_okq (⟨"GridlockDeskModel", "ready", "(II)Z"⟩, 22) := ⟨⟨by decide +kernel, by decide +kernel⟩, List.mem_of_getElem? (i := 289) (by decide +kernel), List.mem_of_getElem? (i := 406) (by decide +kernel), List.mem_of_getElem? (i := 407) (by decide +kernel)⟩
theorem lw_p26 : lw_okq (⟨"GridlockDeskModel", "pair", "()Z"⟩, 22) := ⟨⟨by decide +kernel, by decide +kernel⟩, List.mem_of_getElem? (i := 289) (by decide +kernel), List.mem_of_getElem? (i := 410) (by decide +kernel), List.mem_of_getElem? (i := 411) (by decide +kernel)⟩
theorem lw_p27 : lw_okq (⟨"GridlockDeskModel", "isBank", "(I)Z"⟩, 22) := ⟨⟨by decide +kernel, by decide +kernel⟩, List.mem_of_getElem? (i := 289) (by decide +kernel), List.mem_of_getElem? (i := 418) (by decide +kernel), List.mem_of_getElem? (i := 419) (by decide +kernel)⟩
theorem lw_p28 : lw_okq (⟨"GridlockDeskModel", "queuedAt", "(I)I"⟩, 22) := ⟨⟨by decide +kernel, by decide +kernel⟩, List.mem_of_getElem? (i := 289) (by decide +kernel), List.mem_of_getElem? (i := 441) (by decide +kernel), List.mem_of_getElem? (i := 442) (by decide +kernel)⟩
theorem lw_p29 : lw_okq (⟨"GridlockDeskModel", "isQueued", "(I)Z"⟩, 22) := ⟨⟨by decide +kernel, by decide +kernel⟩, List.mem_of_getElem? (i := 289) (by decide +kernel), List.mem_of_getElem? (i := 449) (by decide +kernel), List.mem_of_getElem? (i := 450) (by decide +kernel)⟩
def lw_privs_2 : List (MethodName × Nat) := [(⟨"GridlockDeskModel", "lineUp", "()V"⟩, 22), (⟨"GridlockDeskModel", "before", "(II)Z"⟩, 22), (⟨"GridlockDeskModel", "good", "(I)Z"⟩, 22), (⟨"GridlockDeskModel", "now0", "()V"⟩, 22), (⟨"GridlockDeskModel", "plan", "(I)V"⟩, 22), (⟨"GridlockDeskModel", "allWell", "()Z"⟩, 22), (⟨"GridlockDeskModel", "settle", "(II)V"⟩, 22), (⟨"GridlockDeskModel", "sweep", "()V"⟩, 22), (⟨"GridlockDeskModel", "alone", "()Z"⟩, 22), (⟨"GridlockDeskModel", "ready", "(II)Z"⟩, 22), (⟨"GridlockDeskModel", "pair", "()Z"⟩, 22), (⟨"GridlockDeskModel", "isBank", "(I)Z"⟩, 22), (⟨"GridlockDeskModel", "queuedAt", "(I)I"⟩, 22), (⟨"GridlockDeskModel", "isQueued", "(I)Z"⟩, 22)]
theorem lw_r2 : ∀ q ∈ lw_privs_2, lw_okq q := List.forall_mem_cons.mpr ⟨lw_p16, List.forall_mem_cons.mpr ⟨lw_p17, List.forall_mem_cons.mpr ⟨lw_p18, List.forall_mem_cons.mpr ⟨lw_p19, List.forall_mem_cons.mpr ⟨lw_p20, List.forall_mem_cons.mpr ⟨lw_p21, List.forall_mem_cons.mpr ⟨lw_p22, List.forall_mem_cons.mpr ⟨lw_p23, List.forall_mem_cons.mpr ⟨lw_p24, List.forall_mem_cons.mpr ⟨lw_p25, List.forall_mem_cons.mpr ⟨lw_p26, List.forall_mem_cons.mpr ⟨lw_p27, List.forall_mem_cons.mpr ⟨lw_p28, List.forall_mem_cons.mpr ⟨lw_p29, fun _ h => absurd h List.not_mem_nil⟩⟩⟩⟩⟩⟩⟩⟩⟩⟩⟩⟩⟩⟩
def lw_privs : List (MethodName × Nat) := lw_privs_1 ++ (lw_privs_2)
def lw_tbl : List Cond := k2_sels lw_privs ++ tables_1
theorem lw_privs_ok : ∀ q ∈ lw_privs, lw_okq q := by
  show ∀ q ∈ lw_privs_1 ++ (lw_privs_2), lw_okq q
  exact List.forall_mem_append.mpr ⟨lw_r1, lw_r2⟩
def TB : List Cond := lw_tbl.filter goodWord
theorem tb_good : ∀ w ∈ TB, goodWord w = true := fun w h => (List.mem_filter.mp h).2
theorem tb_in {w : Cond} (k : Nat) (h : lw_tbl[k]? = some w) (hg : goodWord w = true) : w ∈ TB := List.mem_filter.mpr ⟨List.mem_of_getElem? h, hg⟩
theorem tb_V {own C : String} {idx k : Nat} {y : MethodName} {b : ByteArray} {r : Option FieldType} {c0 : Cond} (h1 : Cond.methodLink own idx y ∈ TB) (h2 : Cond.instanceMethod y ∈ TB) (h3 : Cond.selects C y y ∈ TB) (h4 : Cond.initialized C ∈ TB) (h5 : Cond.code y b k r ∈ TB) : GoodIn (c0 :: TB) (wsV own idx C y (.code y b k r :: TB)) := by
  intro w hw
  have key : w ∈ TB := by
    rcases List.mem_append.mp hw with h | h
    · rcases List.mem_cons.mp h with rfl | h
      · exact h1
      rcases List.mem_cons.mp h with rfl | h
      · exact h2
      rcases List.mem_cons.mp h with rfl | h
      · exact h3
      rcases List.mem_cons.mp h with rfl | h
      · exact h4
      · cases h
    · rcases List.mem_cons.mp h with rfl | h
      · exact h5
      · exact h
  exact ⟨List.mem_cons_of_mem _ key, good_of_word (tb_good w key)⟩
theorem tb_S {own : String} {idx k : Nat} {y : MethodName} {b : ByteArray} {r : Option FieldType} {c0 : Cond} (h1 : Cond.methodLink own idx y ∈ TB) (h2 : Cond.static y ∈ TB) (h4 : Cond.initialized y.cls ∈ TB) (h5 : Cond.code y b k r ∈ TB) : GoodIn (c0 :: TB) (va_wsS own idx y (.code y b k r :: TB)) := by
  intro w hw
  have key : w ∈ TB := by
    rcases List.mem_append.mp hw with h | h
    · rcases List.mem_cons.mp h with rfl | h
      · exact h1
      rcases List.mem_cons.mp h with rfl | h
      · exact h2
      rcases List.mem_cons.mp h with rfl | h
      · exact h4
      · cases h
    · rcases List.mem_cons.mp h with rfl | h
      · exact h5
      · exact h
  exact ⟨List.mem_cons_of_mem _ key, good_of_word (tb_good w key)⟩
theorem tb_C {b : ByteArray} {k : Nat} {y : MethodName} {r : Option FieldType} {c0 : Cond} (h5 : Cond.code y b k r ∈ TB) : GoodIn (c0 :: TB) (.code y b k r :: TB) := by
  intro w hw
  have key : w ∈ TB := by
    rcases List.mem_cons.mp hw with rfl | h
    · exact h5
    · exact h
  exact ⟨List.mem_cons_of_mem _ key, good_of_word (tb_good w key)⟩
def T_B : u_T := fun k => match k with
  | 0 => ("GridlockDesk$Bank", "balance", "J", false)
  | 1 => ("GridlockDesk$Bank", "creditLine", "J", false)
  | 2 => ("GridlockDesk$Bank", "totalLimit", "J", false)
  | 3 => ("GridlockDesk$Bank", "limits", "[J", true)
  | 4 => ("GridlockDesk$Bank", "sent", "[J", true)
  | 5 => ("GridlockDesk$Bank", "queue", "[LGridlockDesk$Payment;", true)
  | _ => ("GridlockDesk$Bank", "queueLength", "I", false)
def ft_B : Nat → FieldType := fun k => match k with
  | 0 => .long
  | 1 => .long
  | 2 => .long
  | 3 => .array .long
  | 4 => .array .long
  | 5 => .array (.object "GridlockDesk$Payment")
  | _ => .int
theorem nm_B : ∀ a, a < 7 → ∀ b, b < 7 → a ≠ b → (T_B a).2.1 ≠ (T_B b).2.1 := by decide +kernel
theorem ft_B_ok : ∀ k, k < 7 → parseFieldDescriptor (T_B k).2.2.1 = some (ft_B k) := by decide +kernel
theorem hin_B : ∀ w ∈ u_ws "GridlockDesk$Bank" T_B 7, w ∈ TB := by decide +kernel
def T_P : u_T := fun k => match k with
  | 0 => ("GridlockDesk$Payment", "number", "I", true)
  | 1 => ("GridlockDesk$Payment", "from", "I", true)
  | 2 => ("GridlockDesk$Payment", "to", "I", true)
  | 3 => ("GridlockDesk$Payment", "amount", "J", true)
  | 4 => ("GridlockDesk$Payment", "until", "I", true)
  | 5 => ("GridlockDesk$Payment", "priority", "I", false)
  | _ => ("GridlockDesk$Payment", "fate", "I", false)
def ft_P : Nat → FieldType := fun k => match k with
  | 0 => .int
  | 1 => .int
  | 2 => .int
  | 3 => .long
  | 4 => .int
  | 5 => .int
  | _ => .int
theorem nm_P : ∀ a, a < 7 → ∀ b, b < 7 → a ≠ b → (T_P a).2.1 ≠ (T_P b).2.1 := by decide +kernel
theorem ft_P_ok : ∀ k, k < 7 → parseFieldDescriptor (T_P k).2.2.1 = some (ft_P k) := by decide +kernel
theorem hin_P : ∀ w ∈ u_ws "GridlockDesk$Payment" T_P 7, w ∈ TB := by decide +kernel
def T_X : u_T := fun k => match k with
  | 0 => ("GridlockDesk", "banks", "[LGridlockDesk$Bank;", true)
  | 1 => ("GridlockDesk", "payments", "[LGridlockDesk$Payment;", true)
  | 2 => ("GridlockDesk", "paymentCount", "I", false)
  | 3 => ("GridlockDesk", "settledSum", "J", false)
  | 4 => ("GridlockDesk", "time", "I", false)
  | _ => ("GridlockDesk", "chosen", "[I", true)
def ft_X : Nat → FieldType := fun k => match k with
  | 0 => .array (.object "GridlockDesk$Bank")
  | 1 => .array (.object "GridlockDesk$Payment")
  | 2 => .int
  | 3 => .long
  | 4 => .int
  | _ => .array .int
theorem nm_X : ∀ a, a < 6 → ∀ b, b < 6 → a ≠ b → (T_X a).2.1 ≠ (T_X b).2.1 := by decide +kernel
theorem ft_X_ok : ∀ k, k < 6 → parseFieldDescriptor (T_X k).2.2.1 = some (ft_X k) := by decide +kernel
theorem hin_X : ∀ w ∈ u_ws "GridlockDesk" T_X 6, w ∈ TB := by decide +kernel
def T_M : u_T := fun k => match k with
  | 0 => ("GridlockDeskModel", "n", "I", false)
  | 1 => ("GridlockDeskModel", "time", "I", false)
  | 2 => ("GridlockDeskModel", "settledInAll", "J", false)
  | 3 => ("GridlockDeskModel", "funds", "[J", true)
  | 4 => ("GridlockDeskModel", "line", "[J", true)
  | 5 => ("GridlockDeskModel", "totals", "[J", true)
  | 6 => ("GridlockDeskModel", "limits", "[J", true)
  | 7 => ("GridlockDeskModel", "sent", "[J", true)
  | 8 => ("GridlockDeskModel", "count", "I", false)
  | 9 => ("GridlockDeskModel", "stamps", "I", false)
  | 10 => ("GridlockDeskModel", "payer", "[I", true)
  | 11 => ("GridlockDeskModel", "payee", "[I", true)
  | 12 => ("GridlockDeskModel", "sum", "[J", true)
  | 13 => ("GridlockDeskModel", "rank", "[I", true)
  | 14 => ("GridlockDeskModel", "last", "[I", true)
  | 15 => ("GridlockDeskModel", "stamp", "[I", true)
  | 16 => ("GridlockDeskModel", "fate", "[I", true)
  | 17 => ("GridlockDeskModel", "queue", "[I", true)
  | 18 => ("GridlockDeskModel", "queueLength", "[I", true)
  | 19 => ("GridlockDeskModel", "thenFunds", "[J", true)
  | 20 => ("GridlockDeskModel", "thenSent", "[J", true)
  | _ => ("GridlockDeskModel", "best", "[I", true)
def ft_M : Nat → FieldType := fun k => match k with
  | 0 => .int
  | 1 => .int
  | 2 => .long
  | 3 => .array .long
  | 4 => .array .long
  | 5 => .array .long
  | 6 => .array .long
  | 7 => .array .long
  | 8 => .int
  | 9 => .int
  | 10 => .array .int
  | 11 => .array .int
  | 12 => .array .long
  | 13 => .array .int
  | 14 => .array .int
  | 15 => .array .int
  | 16 => .array .int
  | 17 => .array .int
  | 18 => .array .int
  | 19 => .array .long
  | 20 => .array .long
  | _ => .array .int
theorem nm_M : ∀ a, a < 22 → ∀ b, b < 22 → a ≠ b → (T_M a).2.1 ≠ (T_M b).2.1 := by decide +kernel
theorem ft_M_ok : ∀ k, k < 22 → parseFieldDescriptor (T_M k).2.2.1 = some (ft_M k) := by decide +kernel
theorem hin_M : ∀ w ∈ u_ws "GridlockDeskModel" T_M 22, w ∈ TB := by decide +kernel
abbrev vCl : List vw_C := [("GridlockDesk$Bank", T_B, 7), ("GridlockDesk$Payment", T_P, 7), ("GridlockDesk", T_X, 6), ("GridlockDeskModel", T_M, 22)]
end
section
/-! The typed store: ints, longs, references by (component, index, index), and how many objects of the growing kind there are. -/
abbrev St : Type := (Nat → Nat → Nat → Int32) × (Nat → Nat → Nat → Int64) × (Nat → Nat → Nat → Option Nat) × Nat
def sI (σ : St) (c i j : Nat) : Int32 := σ.1 c i j
def sL (σ : St) (c i j : Nat) : Int64 := σ.2.1 c i j
def sR (σ : St) (c i j : Nat) : Option Nat := σ.2.2.1 c i j
def sN (σ : St) : Nat := σ.2.2.2
def wI (σ : St) (c i j : Nat) (v : Int32) : St := (fun c' i' j' => if c' = c ∧ i' = i ∧ j' = j then v else σ.1 c' i' j', σ.2)
def wL (σ : St) (c i j : Nat) (v : Int64) : St := (σ.1, fun c' i' j' => if c' = c ∧ i' = i ∧ j' = j then v else σ.2.1 c' i' j', σ.2.2)
def wR (σ : St) (c i j : Nat) (v : Option Nat) : St := (σ.1, σ.2.1, fun c' i' j' => if c' = c ∧ i' = i ∧ j' = j then v else σ.2.2.1 c' i' j', σ.2.2.2)
/-- a whole row -/
def fI (σ : St) (c i : Nat) (v : Int32) : St := (fun c' i' j' => if c' = c ∧ i' = i then v else σ.1 c' i' j', σ.2)
def fL (σ : St) (c i : Nat) (v : Int64) : St := (σ.1, fun c' i' j' => if c' = c ∧ i' = i then v else σ.2.1 c' i' j', σ.2.2)
theorem sI_wI (σ : St) (c i j : Nat) (v : Int32) (c' i' j' : Nat) : sI (wI σ c i j v) c' i' j' = if c' = c ∧ i' = i ∧ j' = j then v else sI σ c' i' j' := rfl
theorem sL_wL (σ : St) (c i j : Nat) (v : Int64) (c' i' j' : Nat) : sL (wL σ c i j v) c' i' j' = if c' = c ∧ i' = i ∧ j' = j then v else sL σ c' i' j' := rfl
theorem sR_wR (σ : St) (c i j : Nat) (v : Option Nat) (c' i' j' : Nat) : sR (wR σ c i j v) c' i' j' = if c' = c ∧ i' = i ∧ j' = j then v else sR σ c' i' j' := rfl
theorem sI_fI (σ : St) (c i : Nat) (v : Int32) (c' i' j' : Nat) : sI (fI σ c i v) c' i' j' = if c' = c ∧ i' = i then v else sI σ c' i' j' := rfl
theorem sL_fL (σ : St) (c i : Nat) (v : Int64) (c' i' j' : Nat) : sL (fL σ c i v) c' i' j' = if c' = c ∧ i' = i then v else sL σ c' i' j' := rfl
theorem sI_wL (σ : St) (c i j : Nat) (v : Int64) (c' i' j' : Nat) : sI (wL σ c i j v) c' i' j' = sI σ c' i' j' := rfl
theorem sI_wR (σ : St) (c i j : Nat) (v : Option Nat) (c' i' j' : Nat) : sI (wR σ c i j v) c' i' j' = sI σ c' i' j' := rfl
theorem sI_fL (σ : St) (c i : Nat) (v : Int64) (c' i' j' : Nat) : sI (fL σ c i v) c' i' j' = sI σ c' i' j' := rfl
theorem sL_wI (σ : St) (c i j : Nat) (v : Int32) (c' i' j' : Nat) : sL (wI σ c i j v) c' i' j' = sL σ c' i' j' := rfl
theorem sL_wR (σ : St) (c i j : Nat) (v : Option Nat) (c' i' j' : Nat) : sL (wR σ c i j v) c' i' j' = sL σ c' i' j' := rfl
theorem sL_fI (σ : St) (c i : Nat) (v : Int32) (c' i' j' : Nat) : sL (fI σ c i v) c' i' j' = sL σ c' i' j' := rfl
theorem sR_wI (σ : St) (c i j : Nat) (v : Int32) (c' i' j' : Nat) : sR (wI σ c i j v) c' i' j' = sR σ c' i' j' := rfl
theorem sR_wL (σ : St) (c i j : Nat) (v : Int64) (c' i' j' : Nat) : sR (wL σ c i j v) c' i' j' = sR σ c' i' j' := rfl
theorem sR_fI (σ : St) (c i : Nat) (v : Int32) (c' i' j' : Nat) : sR (fI σ c i v) c' i' j' = sR σ c' i' j' := rfl
theorem sR_fL (σ : St) (c i : Nat) (v : Int64) (c' i' j' : Nat) : sR (fL σ c i v) c' i' j' = sR σ c' i' j' := rfl
theorem sN_wI (σ : St) (c i j : Nat) (v : Int32) : sN (wI σ c i j v) = sN σ := rfl
theorem sN_wL (σ : St) (c i j : Nat) (v : Int64) : sN (wL σ c i j v) = sN σ := rfl
theorem sN_wR (σ : St) (c i j : Nat) (v : Option Nat) : sN (wR σ c i j v) = sN σ := rfl
theorem sN_fI (σ : St) (c i : Nat) (v : Int32) : sN (fI σ c i v) = sN σ := rfl
theorem sN_fL (σ : St) (c i : Nat) (v : Int64) : sN (fL σ c i v) = sN σ := rfl
/-- a reference that is used: it isn't null, and its object is there -/
def dR (σ : St) (o : Option Nat) : Option Nat := match o with
  | none => none
  | some k => if k < sN σ then some k else none
theorem dR_spec {σ : St} {o : Option Nat} {k : Nat} (h : dR σ o = some k) : o = some k ∧ k < sN σ := by
  cases o with
  | none => cases h
  | some q =>
    by_cases hq : q < sN σ
    · have h2 : (if q < sN σ then some q else none) = some k := h
      rw [if_pos hq] at h2
      cases h2
      exact ⟨rfl, hq⟩
    · have h2 : (if q < sN σ then some q else none) = some k := h
      rw [if_neg hq] at h2
      cases h2
theorem dR_some {σ : St} {k : Nat} (h : k < sN σ) : dR σ (some k) = some k := if_pos h
/-- an index within, as the programs ask it -/
abbrev vin (i : Int32) (n : Nat) : Prop := ¬ (i < 0 ∨ n ≤ i.toNatClampNeg)
theorem vin_lt {i : Int32} {n : Nat} (h : vin i n) : i.toNatClampNeg < n := Nat.not_le.mp fun q => h (Or.inr q)
theorem og_if {c : Prop} [Decidable c] {α : Type} {x : Option α} {y : α} (h : (if c then x else none) = some y) : c ∧ x = some y := by
  by_cases hc : c
  · rw [if_pos hc] at h; exact ⟨hc, h⟩
  · rw [if_neg hc] at h; cases h
theorem og_t {c : Prop} [Decidable c] {α : Type} {x y z : α} (hc : c) (h : (if c then x else y) = z) : x = z := by rw [if_pos hc] at h; exact h
theorem og_f {c : Prop} [Decidable c] {α : Type} {x y z : α} (hc : ¬ c) (h : (if c then x else y) = z) : y = z := by rw [if_neg hc] at h; exact h
theorem og_b {α β : Type} {x : Option α} {f : α → Option β} {y : β} (h : x.bind f = some y) : ∃ a, x = some a ∧ f a = some y := Option.bind_eq_some_iff.mp h
theorem og_n {α : Type} {y : α} {P : Prop} (h : (none : Option α) = some y) : P := by cases h
/-! A world by keys: cell (t, i) lies at ad t i and holds ct t i. -/
def kw (D : va_G) (cl : List vw_C) (ad : Nat → Nat → Nat) (dom : Nat → Nat → Prop) (ct : Nat → Nat → va_E) (H : Heap) : Prop := (∀ t i, dom t i → va_at D cl (ad t i, ct t i) H) ∧ ∀ t i t' i', dom t i → dom t' i' → ad t i = ad t' i' → t = t' ∧ i = i'
theorem kw.one {D : va_G} {cl : List vw_C} {ad : Nat → Nat → Nat} {dom : Nat → Nat → Prop} {ct : Nat → Nat → va_E} {H : Heap} (h : kw D cl ad dom ct H) {t i : Nat} (hd : dom t i) : va_P D cl [(ad t i, ct t i)] H := fun k q hk => by
  cases k with
  | zero => cases hk; exact h.1 t i hd
  | succ k => simp at hk
theorem kw.put {D : va_G} {cl : List vw_C} {ad : Nat → Nat → Nat} {dom : Nat → Nat → Prop} {ct ct' : Nat → Nat → va_E} {H H1 : Heap} (h : kw D cl ad dom ct H) {t i : Nat} (hd : dom t i) {e : va_E} (he : va_at D cl (ad t i, e) H1) (oq : ∀ q : Nat, q < H.size → q ≠ ad t i → H1[q]? = H[q]?) (hc : ∀ t' i', dom t' i' → ct' t' i' = if t' = t ∧ i' = i then e else ct t' i') : kw D cl ad dom ct' H1 := by
  refine ⟨fun t' i' hd' => ?_, h.2⟩
  rw [hc t' i' hd']
  by_cases hq : t' = t ∧ i' = i
  · obtain ⟨rfl, rfl⟩ := hq
    rw [if_pos ⟨rfl, rfl⟩]
    exact he
  · rw [if_neg hq]
    exact (h.1 t' i' hd').kept (oq _ (h.1 t' i' hd').lt (fun z => hq (h.2 _ _ _ _ hd' hd z)))
theorem kw.kept {D : va_G} {cl : List vw_C} {ad : Nat → Nat → Nat} {dom : Nat → Nat → Prop} {ct : Nat → Nat → va_E} {H H1 : Heap} (h : kw D cl ad dom ct H) (oq : ∀ t i, dom t i → H1[ad t i]? = H[ad t i]?) : kw D cl ad dom ct H1 := ⟨fun t i hd => (h.1 t i hd).kept (oq t i hd), h.2⟩
theorem kw.recv {D : va_G} {cl : List vw_C} {ad : Nat → Nat → Nat} {dom : Nat → Nat → Prop} {ct : Nat → Nat → va_E} {H : Heap} {s : State} {tys : List (ClassId × FieldType)} (hK : va_K D cl tys s) (h : kw D cl ad dom ct H) {t i : Nat} (hd : dom t i) {ci : Nat} {fs : List Value} (he : ct t i = .inr (ci, fs)) {q : vw_C} (hc : cl[ci]? = some q) : ∃ cell : Cell, H[ad t i]? = some cell ∧ cell.vm.isStatics = false ∧ s.vm.findClass q.1 = some cell.cls :=
  va_recv hK (h.one hd) hc (q0 := 0) (by rw [he]; rfl)
theorem kw_inj {D : va_G} {cl : List vw_C} {ad : Nat → Nat → Nat} {dom : Nat → Nat → Prop} {ct : Nat → Nat → va_E} {H : Heap} (h : kw D cl ad dom ct H) {t i j : Nat} (hi : dom t i) (hj : dom t j) : (some (ad t i) = some (ad t j)) ↔ i = j := ⟨fun e => (h.2 _ _ _ _ hi hj (Option.some.inj e)).2, fun e => by rw [e]⟩
section KR
variable {p : Program} {l : Launch} {e : Env} {R : Room} {s : State} {m : MethodId} {args : Array Value} {below : List Frame} {meth : Method} {c : Code} {H : Heap} {locs : List Loc} {cells slots : Nat} {Q : State → Prop}
variable {cc : ByteArray} {pc : Nat} {ls : Array Slot} {rest : List Value} {D : va_G} {cl : List vw_C} {A : Nat → Prop} {tys : List (ClassId × FieldType)} {H0 : Heap} {ad : Nat → Nat → Nat} {dom : Nat → Nat → Prop} {ct ct' : Nat → Nat → va_E}
theorem k_put (hexec : p.tables.exec = Jvm.exec) (hb : c.code = cc) {own ref C : String} {T : u_T} {N ci index : Nat} {Ts : List Cond} (hts : ∀ w ∈ Ts, w.before args s = true) (hin : ∀ w ∈ u_ws C T N, w ∈ Ts) (ty0 : Nat → FieldType) (hty : ∀ k, k < N → parseFieldDescriptor (T k).2.2.1 = some (ty0 k)) (hnm : ∀ a, a < N → ∀ b, b < N → a ≠ b → (T a).2.1 ≠ (T b).2.1) (hown : s.vm.findClass own = some m.cls) (hK : va_K D cl tys s) (hW : kw D cl ad dom ct H) (hS0 : va_S A H0 H locs) {t i : Nat} (hd : dom t i) (hAa : A (ad t i)) {fs : List Value} (he : ct t i = .inr (ci, fs)) (hc : cl[ci]? = some (C, T, N)) (k : Nat) (hk : k < N) (hlink : (Cond.fieldLink own index ref (T k).2.1 (T k).2.2.1).before args s = true) (hsame : ∀ x, s.fieldFound? (T k).1 (T k).2.1 (T k).2.2.1 = some x → s.fieldFound? ref (T k).2.1 (T k).2.2.1 = some x) (hfin : (T k).2.2.2 = false) {ty : FieldType} {v : Value} (hdd : parseFieldDescriptor (T k).2.2.1 = some ty) (hn : narrow ty v = v) (hfit : fits ty v = true) (hl : k < fs.length)
    (hdg : decode cc pc = .ok (.putfield index, 3)) (hct : ∀ t' i', dom t' i' → ct' t' i' = if t' = t ∧ i' = i then .inr (ci, fs.set k v) else ct t' i') (kk : ∀ (H1 : Heap) (locs1 : List Loc), kw D cl ad dom ct' H1 → va_S A H0 H1 locs1 → W p l e R s m args below meth c H1 locs1 cells slots Q (F0 m (pc + 3) ls rest)) : W p l e R s m args below meth c H locs cells slots Q (F0 m pc ls (v :: .ref (ad t i) :: rest)) := by
  have hap := va_apart (own := own) hts hin ty0 hty hnm hK hc
  have hat := hW.1 t i hd
  rw [he] at hat
  obtain ⟨r, h1, cell, q1, q2, q3, q4⟩ := hat
  have hr : r = (C, T, N) := Option.some.inj (h1.symm.trans hc)
  subst hr
  obtain ⟨hS, hfc, kC, hkC, hkind⟩ := hK.1 ci _ hc
  obtain ⟨cf, kf, fi, f, hi, hsl⟩ := hS k hk
  have hlay := hts _ (hin _ (u_in_lay hk))
  unfold u_lay at hlay
  rw [if_neg (by rw [hfin]; decide)] at hlay
  have hst := (u_facts hfc hkC (u_lays hts hin hk) hi).1
  have h6 := u_store hfc hkC hkind hlay hi hdd hn hfit
  refine W.putK hexec hb (f := f) ⟨hown, hlink, ⟨_, _, _, hsame _ hi⟩, hst⟩ (by rw [q2]; exact h6) q1 q3 (by rw [hsl]; exact k2_hasslot (q4 k hk)) rfl rfl hdg fun H' e1 e2 e3 => ?_
  rw [hsl] at e1 ⊢
  exact kk H' _ (hW.put hd (e := .inr (ci, fs.set k v)) ⟨_, hc, t_OB.to (V := updV (vp_V fs) k v) ⟨_, e1, q2, q3, t_set q4 hap hk v⟩ (fun j _ => vp_updV_set hl v j)⟩ (fun q _ h => e3 q h) hct) (hS0.put e2 e3 hAa)
theorem k_iast (hexec : p.tables.exec = Jvm.exec) (hb : c.code = cc) (hK : va_K D cl tys s) (hW : kw D cl ad dom ct H) (hS : va_S A H0 H locs) {t i : Nat} (hd : dom t i) (hAa : A (ad t i)) (t0 : Nat) {cA : ClassId} {n : Nat} {f : Nat → Int32} (he : ct t i = .inl (cA, n, .inl f)) (ht : tys[t0]? = some (cA, .int)) {j : Int32} {x : Int32} (hin : vp_in j n) (hdg : decode cc pc = .ok (.iastore, 1))
    (hct : ∀ t' i', dom t' i' → ct' t' i' = if t' = t ∧ i' = i then .inl (cA, n, .inl (upd f j.toNatClampNeg x)) else ct t' i') (kk : ∀ (H1 : Heap) (locs1 : List Loc), kw D cl ad dom ct' H1 → va_S A H0 H1 locs1 → W p l e R s m args below meth c H1 locs1 cells slots Q (F0 m (pc + 1) ls rest)) : W p l e R s m args below meth c H locs cells slots Q (F0 m pc ls (.int x :: .int j :: .ref (ad t i) :: rest)) := by
  have hat := hW.1 t i hd
  rw [he] at hat
  refine W.iast hexec hb hat ((hK.2 t0 _ ht).1 n (fun j => .int (f j))) (fun q => by cases q) (by show ¬ (j < 0 ∨ (arrV _ _ _).slots.size ≤ _); rw [arrV_size]; exact hin) rfl rfl hdg fun H1 e z oq => ?_
  refine kk H1 _ (hW.put hd (e := .inl (cA, n, .inl (upd f j.toNatClampNeg x))) ?_ (fun q _ h => oq q h) hct) (hS.put z oq hAa)
  show H1[ad t i]? = some (vp_cell _ _)
  rw [e, vp_cell_i, vp_cell_i, arrV_store]
  congr 2
  funext q
  by_cases hq : q = j.toNatClampNeg
  · subst hq
    simp [updV, upd]
  · simp [updV, upd, hq]
theorem k_last (hexec : p.tables.exec = Jvm.exec) (hb : c.code = cc) (hK : va_K D cl tys s) (hW : kw D cl ad dom ct H) (hS : va_S A H0 H locs) {t i : Nat} (hd : dom t i) (hAa : A (ad t i)) (t0 : Nat) {cA : ClassId} {n : Nat} {f : Nat → Int64} (he : ct t i = .inl (cA, n, .inr (.inl f))) (ht : tys[t0]? = some (cA, .long)) {j : Int32} {x : Int64} (hin : vp_in j n) (hdg : decode cc pc = .ok (.lastore, 1))
    (hct : ∀ t' i', dom t' i' → ct' t' i' = if t' = t ∧ i' = i then .inl (cA, n, .inr (.inl (vp_updL f j.toNatClampNeg x))) else ct t' i') (kk : ∀ (H1 : Heap) (locs1 : List Loc), kw D cl ad dom ct' H1 → va_S A H0 H1 locs1 → W p l e R s m args below meth c H1 locs1 cells slots Q (F0 m (pc + 1) ls rest)) : W p l e R s m args below meth c H locs cells slots Q (F0 m pc ls (.long x :: .int j :: .ref (ad t i) :: rest)) := by
  have hat := hW.1 t i hd
  rw [he] at hat
  refine W.last hexec hb hat ((hK.2 t0 _ ht).1 n (fun j => .long (f j))) (fun q => by cases q) (by show ¬ (j < 0 ∨ (arrV _ _ _).slots.size ≤ _); rw [arrV_size]; exact hin) rfl rfl hdg fun H1 e z oq => ?_
  refine kk H1 _ (hW.put hd (e := .inl (cA, n, .inr (.inl (vp_updL f j.toNatClampNeg x)))) ?_ (fun q _ h => oq q h) hct) (hS.put z oq hAa)
  show H1[ad t i]? = some (vp_cell _ _)
  rw [e, vp_cell_l, vp_cell_l, arrV_store]
  congr 2
  funext q
  by_cases hq : q = j.toNatClampNeg
  · subst hq
    simp [updV, vp_updL]
  · simp [updV, vp_updL, hq]
theorem k_aast (hexec : p.tables.exec = Jvm.exec) (hb : c.code = cc) (hK : va_K D cl tys s) (hW : kw D cl ad dom ct H) (hS : va_S A H0 H locs) {t i : Nat} (hd : dom t i) (hAa : A (ad t i)) (t0 ci : Nat) {tv iv : Nat} (hdv : dom tv iv) {vs : List Value} (hev : ct tv iv = .inr (ci, vs)) {r : vw_C} (hc : cl[ci]? = some r) {cA : ClassId} {n : Nat} {f : Nat → Option Nat} (he : ct t i = .inl (cA, n, .inr (.inr (.inr (.inr f))))) (ht : tys[t0]? = some (cA, .object r.1)) {j : Int32} (hin : vp_in j n) (hdg : decode cc pc = .ok (.aastore, 1))
    (hct : ∀ t' i', dom t' i' → ct' t' i' = if t' = t ∧ i' = i then .inl (cA, n, .inr (.inr (.inr (.inr (va_up f j.toNatClampNeg (some (ad tv iv))))))) else ct t' i') (kk : ∀ (H1 : Heap) (locs1 : List Loc), kw D cl ad dom ct' H1 → va_S A H0 H1 locs1 → W p l e R s m args below meth c H1 locs1 cells slots Q (F0 m (pc + 1) ls rest)) : W p l e R s m args below meth c H locs cells slots Q (F0 m pc ls (.ref (ad tv iv) :: .int j :: .ref (ad t i) :: rest)) := by
  have hlt : j.toNatClampNeg < n := Nat.not_le.mp fun q => hin (Or.inr q)
  have h0 : ¬ j < 0 := fun q => hin (Or.inl q)
  have hat := hW.1 t i hd
  rw [he] at hat
  have hav := hW.1 tv iv hdv
  rw [hev] at hav
  obtain ⟨r', hr', cellV, g1, g2, g3, -⟩ := hav
  have hcls := (hK.1 ci r hc).2
  obtain ⟨kA, comp, k1, k2, k3, -⟩ := (hK.2 t0 _ ht).2
  have hcomp : comp = D.1 ci := Option.some.inj (k3.symm.trans hcls.1)
  subst hcomp
  obtain ⟨kC, hkC, -⟩ := hcls.2
  refine W.aast hexec hb hat (fun q h => by cases h) (fun h => by cases h) k1 k2 rfl hkC ⟨h0, by show _ < (arrV _ _ _).slots.size; rw [arrV_size]; exact hlt⟩ g1 (fun q h => by rw [g3] at h; cases h) (by rw [g2]; exact hkC) (by rw [g2]; exact va_assign hcls) rfl rfl hdg fun H1 e z oq => ?_
  refine kk H1 _ (hW.put hd (e := .inl (cA, n, .inr (.inr (.inr (.inr (va_up f j.toNatClampNeg (some (ad tv iv)))))))) ?_ (fun q _ h => oq q h) hct) (hS.put z oq hAa)
  show H1[ad t i]? = some (vp_cell _ _)
  rw [e, vp_cell_q, vp_cell_q, arrV_store]
  congr 2
  funext q
  by_cases hq : q = j.toNatClampNeg
  · subst hq
    simp [updV, va_up, va_rf]
  · simp [updV, va_up, hq]
/-- a comparison of longs and the branch behind it -/
theorem lc_ge (hexec : p.tables.exec = Jvm.exec) (hb : c.code = cc) {x y : Int64} {off : Int} {tgt : Nat} (hd1 : decode cc pc = .ok (.lcmp, 1)) (hd2 : decode cc (pc + 1) = .ok (.ifCond .ge off, 3)) (ht : ((pc + 1 : Nat) : Int) + off = (tgt : Int))
    (kt : y ≤ x → W p l e R s m args below meth c H locs cells slots Q (F0 m tgt ls rest)) (kf : ¬ y ≤ x → W p l e R s m args below meth c H locs cells slots Q (F0 m (pc + 1 + 3) ls rest)) : W p l e R s m args below meth c H locs cells slots Q (F0 m pc ls (.long y :: .long x :: rest)) :=
  W.lcmp hexec hb hd1 (lv_if_ge hexec hb hd2 ht (fun h => kt ((lg_cmp_ge x y).mp h)) (fun h => kf (fun q => h ((lg_cmp_ge x y).mpr q))))
theorem lc_lt (hexec : p.tables.exec = Jvm.exec) (hb : c.code = cc) {x y : Int64} {off : Int} {tgt : Nat} (hd1 : decode cc pc = .ok (.lcmp, 1)) (hd2 : decode cc (pc + 1) = .ok (.ifCond .lt off, 3)) (ht : ((pc + 1 : Nat) : Int) + off = (tgt : Int))
    (kt : x < y → W p l e R s m args below meth c H locs cells slots Q (F0 m tgt ls rest)) (kf : ¬ x < y → W p l e R s m args below meth c H locs cells slots Q (F0 m (pc + 1 + 3) ls rest)) : W p l e R s m args below meth c H locs cells slots Q (F0 m pc ls (.long y :: .long x :: rest)) :=
  W.lcmp hexec hb hd1 (lv_if_lt hexec hb hd2 ht (fun h => kt ((lg_cmp_lt x y).mp h)) (fun h => kf (fun q => h ((lg_cmp_lt x y).mpr q))))
theorem lc_gt (hexec : p.tables.exec = Jvm.exec) (hb : c.code = cc) {x y : Int64} {off : Int} {tgt : Nat} (hd1 : decode cc pc = .ok (.lcmp, 1)) (hd2 : decode cc (pc + 1) = .ok (.ifCond .gt off, 3)) (ht : ((pc + 1 : Nat) : Int) + off = (tgt : Int))
    (kt : y < x → W p l e R s m args below meth c H locs cells slots Q (F0 m tgt ls rest)) (kf : ¬ y < x → W p l e R s m args below meth c H locs cells slots Q (F0 m (pc + 1 + 3) ls rest)) : W p l e R s m args below meth c H locs cells slots Q (F0 m pc ls (.long y :: .long x :: rest)) :=
  W.lcmp hexec hb hd1 (lv_if_gt hexec hb hd2 ht (fun h => kt ((lg_cmp_gt x y).mp h)) (fun h => kf (fun q => h ((lg_cmp_gt x y).mpr q))))
theorem lc_le (hexec : p.tables.exec = Jvm.exec) (hb : c.code = cc) {x y : Int64} {off : Int} {tgt : Nat} (hd1 : decode cc pc = .ok (.lcmp, 1)) (hd2 : decode cc (pc + 1) = .ok (.ifCond .le off, 3)) (ht : ((pc + 1 : Nat) : Int) + off = (tgt : Int))
    (kt : x ≤ y → W p l e R s m args below meth c H locs cells slots Q (F0 m tgt ls rest)) (kf : ¬ x ≤ y → W p l e R s m args below meth c H locs cells slots Q (F0 m (pc + 1 + 3) ls rest)) : W p l e R s m args below meth c H locs cells slots Q (F0 m pc ls (.long y :: .long x :: rest)) :=
  W.lcmp hexec hb hd1 (lv_if_le hexec hb hd2 ht (fun h => kt ((lg_cmp_le x y).mp h)) (fun h => kf (fun q => h ((lg_cmp_le x y).mpr q))))
theorem lc_eq (hexec : p.tables.exec = Jvm.exec) (hb : c.code = cc) {x y : Int64} {off : Int} {tgt : Nat} (hd1 : decode cc pc = .ok (.lcmp, 1)) (hd2 : decode cc (pc + 1) = .ok (.ifCond .eq off, 3)) (ht : ((pc + 1 : Nat) : Int) + off = (tgt : Int))
    (kt : x = y → W p l e R s m args below meth c H locs cells slots Q (F0 m tgt ls rest)) (kf : ¬ x = y → W p l e R s m args below meth c H locs cells slots Q (F0 m (pc + 1 + 3) ls rest)) : W p l e R s m args below meth c H locs cells slots Q (F0 m pc ls (.long y :: .long x :: rest)) :=
  W.lcmp hexec hb hd1 (lv_if_eq hexec hb hd2 ht (fun h => kt ((lg_cmp_eq x y).mp h)) (fun h => kf (fun q => h ((lg_cmp_eq x y).mpr q))))
theorem lc_ne (hexec : p.tables.exec = Jvm.exec) (hb : c.code = cc) {x y : Int64} {off : Int} {tgt : Nat} (hd1 : decode cc pc = .ok (.lcmp, 1)) (hd2 : decode cc (pc + 1) = .ok (.ifCond .ne off, 3)) (ht : ((pc + 1 : Nat) : Int) + off = (tgt : Int))
    (kt : ¬ x = y → W p l e R s m args below meth c H locs cells slots Q (F0 m tgt ls rest)) (kf : x = y → W p l e R s m args below meth c H locs cells slots Q (F0 m (pc + 1 + 3) ls rest)) : W p l e R s m args below meth c H locs cells slots Q (F0 m pc ls (.long y :: .long x :: rest)) :=
  W.lcmp hexec hb hd1 (lv_if_ne hexec hb hd2 ht (fun h => kt (fun q => h ((lg_cmp_eq x y).mpr q))) (fun h => kf ((lg_cmp_eq x y).mp h)))
end KR
theorem k_blind {av : List Value} {P : Heap → Prop} {D : va_G} {cl : List vw_C} {tys : List (ClassId × FieldType)} : FrameBlind (va_Pc av (fun U => P U.heap ∧ va_K D cl tys U)) := fun a U g mk q => by
  obtain ⟨q0, qP, qK⟩ := q
  exact ⟨q0, qP, va_K.moved (u := U) (U := U.calling g mk a) (Vm.Alike.refl U.vm) qK⟩
theorem k_pre {av : List Value} {P : Heap → Prop} {D : va_G} {cl : List vw_C} {tys : List (ClassId × FieldType)} {H : Heap} {s : State} (hP : P H) (hK : va_K D cl tys s) : ∀ U : State, U.heap = H → s.WarmedH U.vm → va_Pc av (fun U => P U.heap ∧ va_K D cl tys U) av.toArray U := fun U hU hWm => ⟨rfl, by rw [hU]; exact hP, va_K.moved hWm.alike hK⟩
section KC
variable {p : Program} {l : Launch} {e : Env} {R : Room} {s : State} {m : MethodId} {args : Array Value} {below : List Frame} {meth : Method} {c : Code} {H : Heap} {locs : List Loc} {cells slots : Nat} {Q : State → Prop}
variable {pc : Nat} {ls : Array Slot} {rest st0 : List Value} {a : Array Value} {A : Nat → Prop} {H0 : Heap} {P : St → Heap → Prop} {Kp : State → Prop}
theorem kc_i {out : Int32 × St} (hr : va_Run p l e R s m args below meth c H locs cells slots 0 0 (F0 m pc ls st0) rest (va_Qi (fun r u => (r, u) = out) (fun u t => P u t.heap ∧ Kp t) A a) A) (hS : va_S A H0 H locs)
    (kk : ∀ (H1 : Heap) (locs1 : List Loc), P out.2 H1 → va_S A H0 H1 locs1 → W p l e R s m args below meth c H1 locs1 cells slots Q (F0 m (pc + 3) ls (.int out.1 :: rest))) : W p l e R s m args below meth c H locs cells slots Q (F0 m pc ls st0) :=
  va_calli hr hS (fun _ _ h => h) (fun _ h => h) (fun r u t H1 locs1 ht hvm hp hB hz hk hS => by
    cases hp
    exact kk H1 locs1 (by rw [← ht]; exact hB.1) hS)
theorem kc_l {out : Int64 × St} (hr : va_Run p l e R s m args below meth c H locs cells slots 0 0 (F0 m pc ls st0) rest (va_Ql (fun r u => (r, u) = out) (fun u t => P u t.heap ∧ Kp t) A a) A) (hS : va_S A H0 H locs)
    (kk : ∀ (H1 : Heap) (locs1 : List Loc), P out.2 H1 → va_S A H0 H1 locs1 → W p l e R s m args below meth c H1 locs1 cells slots Q (F0 m (pc + 3) ls (.long out.1 :: rest))) : W p l e R s m args below meth c H locs cells slots Q (F0 m pc ls st0) :=
  va_calll hr hS (fun _ _ h => h) (fun _ h => h) (fun r u t H1 locs1 ht hvm hp hB hz hk hS => by
    cases hp
    exact kk H1 locs1 (by rw [← ht]; exact hB.1) hS)
theorem kc_v {out : Unit × St} (hr : va_Run p l e R s m args below meth c H locs cells slots 0 0 (F0 m pc ls st0) rest (va_Qv (fun u => ((), u) = out) (fun u t => P u t.heap ∧ Kp t) A a) A) (hS : va_S A H0 H locs)
    (kk : ∀ (H1 : Heap) (locs1 : List Loc), P out.2 H1 → va_S A H0 H1 locs1 → W p l e R s m args below meth c H1 locs1 cells slots Q (F0 m (pc + 3) ls rest)) : W p l e R s m args below meth c H locs cells slots Q (F0 m pc ls st0) :=
  va_callv hr hS (fun _ _ h => h) (fun _ h => h) (fun u t H1 locs1 ht hvm hp hB hz hk hS => by
    cases hp
    exact kk H1 locs1 (by rw [← ht]; exact hB.1) hS)
end KC
end
section
theorem tw_0 : .selects "GridlockDesk" ⟨"GridlockDesk", "isBank", "(I)Z"⟩ ⟨"GridlockDesk", "isBank", "(I)Z"⟩ ∈ TB := tb_in 0 (by decide +kernel) (by decide +kernel)
theorem tw_31 : .initialized "GridlockDesk" ∈ TB := tb_in 31 (by decide +kernel) (by decide +kernel)
theorem tw_70 : .fieldLink "GridlockDesk$Bank" 27 "GridlockDesk$Bank" "sent" "[J" ∈ TB := tb_in 70 (by decide +kernel) (by decide +kernel)
theorem tw_72 : .fieldLink "GridlockDesk$Bank" 32 "GridlockDesk$Bank" "queue" "[LGridlockDesk$Payment;" ∈ TB := tb_in 72 (by decide +kernel) (by decide +kernel)
theorem tw_74 : .fieldLink "GridlockDesk$Bank" 36 "GridlockDesk$Bank" "queueLength" "I" ∈ TB := tb_in 74 (by decide +kernel) (by decide +kernel)
theorem tw_93 : .fieldLink "GridlockDesk" 20 "GridlockDesk" "banks" "[LGridlockDesk$Bank;" ∈ TB := tb_in 93 (by decide +kernel) (by decide +kernel)
theorem tw_117 : .methodLink "GridlockDesk" 37 ⟨"GridlockDesk", "isBank", "(I)Z"⟩ ∈ TB := tb_in 117 (by decide +kernel) (by decide +kernel)
theorem tw_119 : .instanceMethod ⟨"GridlockDesk", "isBank", "(I)Z"⟩ ∈ TB := tb_in 119 (by decide +kernel) (by decide +kernel)
theorem tw_120 : .code ⟨"GridlockDesk", "isBank", "(I)Z"⟩ prog_1_method_19_code 2 (some .boolean) ∈ TB := tb_in 120 (by decide +kernel) (by decide +kernel)
theorem tw_223 : .fieldLink "GridlockDesk$Bank" 43 "GridlockDesk$Payment" "to" "I" ∈ TB := tb_in 223 (by decide +kernel) (by decide +kernel)
theorem tw_226 : .fieldLink "GridlockDesk$Bank" 46 "GridlockDesk$Payment" "amount" "J" ∈ TB := tb_in 226 (by decide +kernel) (by decide +kernel)
theorem tw_231 : .fieldLink "GridlockDesk$Bank" 40 "GridlockDesk$Payment" "priority" "I" ∈ TB := tb_in 231 (by decide +kernel) (by decide +kernel)
abbrev y_B_headGoesTo : MethodName := ⟨"GridlockDesk$Bank", "headGoesTo", "()I"⟩
abbrev ws_B_headGoesTo : List Cond := .code y_B_headGoesTo prog_2_method_4_code 1 (some .int) :: TB
theorem d_B_headGoesTo_0 : decode prog_2_method_4_code 0 = .ok (.aload_n 0, 1) := by decide +kernel
theorem d_B_headGoesTo_1 : decode prog_2_method_4_code 1 = .ok (.getfield 36, 3) := by decide +kernel
theorem d_B_headGoesTo_4 : decode prog_2_method_4_code 4 = .ok (.ifCond .le 15, 3) := by decide +kernel
theorem d_B_headGoesTo_7 : decode prog_2_method_4_code 7 = .ok (.aload_n 0, 1) := by decide +kernel
theorem d_B_headGoesTo_8 : decode prog_2_method_4_code 8 = .ok (.getfield 32, 3) := by decide +kernel
theorem d_B_headGoesTo_11 : decode prog_2_method_4_code 11 = .ok (.iconst 0, 1) := by decide +kernel
theorem d_B_headGoesTo_12 : decode prog_2_method_4_code 12 = .ok (.aaload, 1) := by decide +kernel
theorem d_B_headGoesTo_13 : decode prog_2_method_4_code 13 = .ok (.getfield 43, 3) := by decide +kernel
theorem d_B_headGoesTo_16 : decode prog_2_method_4_code 16 = .ok (.goto 4, 3) := by decide +kernel
theorem d_B_headGoesTo_19 : decode prog_2_method_4_code 19 = .ok (.iconst (-1), 1) := by decide +kernel
theorem d_B_headGoesTo_20 : decode prog_2_method_4_code 20 = .ok (.ireturn, 1) := by decide +kernel
abbrev y_B_sentWith : MethodName := ⟨"GridlockDesk$Bank", "sentWith", "(II)J"⟩
abbrev ws_B_sentWith : List Cond := .code y_B_sentWith prog_2_method_5_code 6 (some .long) :: TB
theorem d_B_sentWith_0 : decode prog_2_method_5_code 0 = .ok (.aload_n 0, 1) := by decide +kernel
theorem d_B_sentWith_1 : decode prog_2_method_5_code 1 = .ok (.getfield 27, 3) := by decide +kernel
theorem d_B_sentWith_4 : decode prog_2_method_5_code 4 = .ok (.iload_n 2, 1) := by decide +kernel
theorem d_B_sentWith_5 : decode prog_2_method_5_code 5 = .ok (.laload, 1) := by decide +kernel
theorem d_B_sentWith_6 : decode prog_2_method_5_code 6 = .ok (.lstore_n 3, 1) := by decide +kernel
theorem d_B_sentWith_7 : decode prog_2_method_5_code 7 = .ok (.iconst 0, 1) := by decide +kernel
theorem d_B_sentWith_8 : decode prog_2_method_5_code 8 = .ok (.istore 5, 2) := by decide +kernel
theorem d_B_sentWith_10 : decode prog_2_method_5_code 10 = .ok (.iload 5, 2) := by decide +kernel
theorem d_B_sentWith_12 : decode prog_2_method_5_code 12 = .ok (.iload_n 1, 1) := by decide +kernel
theorem d_B_sentWith_13 : decode prog_2_method_5_code 13 = .ok (.if_icmp .ge 45, 3) := by decide +kernel
theorem d_B_sentWith_16 : decode prog_2_method_5_code 16 = .ok (.iload 5, 2) := by decide +kernel
theorem d_B_sentWith_18 : decode prog_2_method_5_code 18 = .ok (.aload_n 0, 1) := by decide +kernel
theorem d_B_sentWith_19 : decode prog_2_method_5_code 19 = .ok (.getfield 36, 3) := by decide +kernel
theorem d_B_sentWith_22 : decode prog_2_method_5_code 22 = .ok (.if_icmp .ge 36, 3) := by decide +kernel
theorem d_B_sentWith_25 : decode prog_2_method_5_code 25 = .ok (.aload_n 0, 1) := by decide +kernel
theorem d_B_sentWith_26 : decode prog_2_method_5_code 26 = .ok (.getfield 32, 3) := by decide +kernel
theorem d_B_sentWith_29 : decode prog_2_method_5_code 29 = .ok (.iload 5, 2) := by decide +kernel
theorem d_B_sentWith_31 : decode prog_2_method_5_code 31 = .ok (.aaload, 1) := by decide +kernel
theorem d_B_sentWith_32 : decode prog_2_method_5_code 32 = .ok (.getfield 43, 3) := by decide +kernel
theorem d_B_sentWith_35 : decode prog_2_method_5_code 35 = .ok (.iload_n 2, 1) := by decide +kernel
theorem d_B_sentWith_36 : decode prog_2_method_5_code 36 = .ok (.if_icmp .ne 16, 3) := by decide +kernel
theorem d_B_sentWith_39 : decode prog_2_method_5_code 39 = .ok (.lload_n 3, 1) := by decide +kernel
theorem d_B_sentWith_40 : decode prog_2_method_5_code 40 = .ok (.aload_n 0, 1) := by decide +kernel
theorem d_B_sentWith_41 : decode prog_2_method_5_code 41 = .ok (.getfield 32, 3) := by decide +kernel
theorem d_B_sentWith_44 : decode prog_2_method_5_code 44 = .ok (.iload 5, 2) := by decide +kernel
theorem d_B_sentWith_46 : decode prog_2_method_5_code 46 = .ok (.aaload, 1) := by decide +kernel
theorem d_B_sentWith_47 : decode prog_2_method_5_code 47 = .ok (.getfield 46, 3) := by decide +kernel
theorem d_B_sentWith_50 : decode prog_2_method_5_code 50 = .ok (.ladd, 1) := by decide +kernel
theorem d_B_sentWith_51 : decode prog_2_method_5_code 51 = .ok (.lstore_n 3, 1) := by decide +kernel
theorem d_B_sentWith_52 : decode prog_2_method_5_code 52 = .ok (.iinc 5 1, 3) := by decide +kernel
theorem d_B_sentWith_55 : decode prog_2_method_5_code 55 = .ok (.goto (-45), 3) := by decide +kernel
theorem d_B_sentWith_58 : decode prog_2_method_5_code 58 = .ok (.lload_n 3, 1) := by decide +kernel
theorem d_B_sentWith_59 : decode prog_2_method_5_code 59 = .ok (.lreturn, 1) := by decide +kernel
abbrev y_B_remove : MethodName := ⟨"GridlockDesk$Bank", "remove", "(LGridlockDesk$Payment;)V"⟩
abbrev ws_B_remove : List Cond := .code y_B_remove prog_2_method_3_code 4 none :: TB
theorem d_B_remove_0 : decode prog_2_method_3_code 0 = .ok (.iconst 0, 1) := by decide +kernel
theorem d_B_remove_1 : decode prog_2_method_3_code 1 = .ok (.istore_n 2, 1) := by decide +kernel
theorem d_B_remove_2 : decode prog_2_method_3_code 2 = .ok (.iconst 0, 1) := by decide +kernel
theorem d_B_remove_3 : decode prog_2_method_3_code 3 = .ok (.istore_n 3, 1) := by decide +kernel
theorem d_B_remove_4 : decode prog_2_method_3_code 4 = .ok (.iload_n 3, 1) := by decide +kernel
theorem d_B_remove_5 : decode prog_2_method_3_code 5 = .ok (.aload_n 0, 1) := by decide +kernel
theorem d_B_remove_6 : decode prog_2_method_3_code 6 = .ok (.getfield 36, 3) := by decide +kernel
theorem d_B_remove_9 : decode prog_2_method_3_code 9 = .ok (.if_icmp .ge 34, 3) := by decide +kernel
theorem d_B_remove_12 : decode prog_2_method_3_code 12 = .ok (.aload_n 0, 1) := by decide +kernel
theorem d_B_remove_13 : decode prog_2_method_3_code 13 = .ok (.getfield 32, 3) := by decide +kernel
theorem d_B_remove_16 : decode prog_2_method_3_code 16 = .ok (.iload_n 3, 1) := by decide +kernel
theorem d_B_remove_17 : decode prog_2_method_3_code 17 = .ok (.aaload, 1) := by decide +kernel
theorem d_B_remove_18 : decode prog_2_method_3_code 18 = .ok (.aload_n 1, 1) := by decide +kernel
theorem d_B_remove_19 : decode prog_2_method_3_code 19 = .ok (.if_acmp .eq 18, 3) := by decide +kernel
theorem d_B_remove_22 : decode prog_2_method_3_code 22 = .ok (.aload_n 0, 1) := by decide +kernel
theorem d_B_remove_23 : decode prog_2_method_3_code 23 = .ok (.getfield 32, 3) := by decide +kernel
theorem d_B_remove_26 : decode prog_2_method_3_code 26 = .ok (.iload_n 2, 1) := by decide +kernel
theorem d_B_remove_27 : decode prog_2_method_3_code 27 = .ok (.aload_n 0, 1) := by decide +kernel
theorem d_B_remove_28 : decode prog_2_method_3_code 28 = .ok (.getfield 32, 3) := by decide +kernel
theorem d_B_remove_31 : decode prog_2_method_3_code 31 = .ok (.iload_n 3, 1) := by decide +kernel
theorem d_B_remove_32 : decode prog_2_method_3_code 32 = .ok (.aaload, 1) := by decide +kernel
theorem d_B_remove_33 : decode prog_2_method_3_code 33 = .ok (.aastore, 1) := by decide +kernel
theorem d_B_remove_34 : decode prog_2_method_3_code 34 = .ok (.iinc 2 1, 3) := by decide +kernel
theorem d_B_remove_37 : decode prog_2_method_3_code 37 = .ok (.iinc 3 1, 3) := by decide +kernel
theorem d_B_remove_40 : decode prog_2_method_3_code 40 = .ok (.goto (-36), 3) := by decide +kernel
theorem d_B_remove_43 : decode prog_2_method_3_code 43 = .ok (.aload_n 0, 1) := by decide +kernel
theorem d_B_remove_44 : decode prog_2_method_3_code 44 = .ok (.iload_n 2, 1) := by decide +kernel
theorem d_B_remove_45 : decode prog_2_method_3_code 45 = .ok (.putfield 36, 3) := by decide +kernel
theorem d_B_remove_48 : decode prog_2_method_3_code 48 = .ok (.return_, 1) := by decide +kernel
abbrev y_B_enqueue : MethodName := ⟨"GridlockDesk$Bank", "enqueue", "(LGridlockDesk$Payment;)V"⟩
abbrev ws_B_enqueue : List Cond := .code y_B_enqueue prog_2_method_2_code 3 none :: TB
theorem d_B_enqueue_0 : decode prog_2_method_2_code 0 = .ok (.aload_n 0, 1) := by decide +kernel
theorem d_B_enqueue_1 : decode prog_2_method_2_code 1 = .ok (.getfield 36, 3) := by decide +kernel
theorem d_B_enqueue_4 : decode prog_2_method_2_code 4 = .ok (.aload_n 0, 1) := by decide +kernel
theorem d_B_enqueue_5 : decode prog_2_method_2_code 5 = .ok (.getfield 32, 3) := by decide +kernel
theorem d_B_enqueue_8 : decode prog_2_method_2_code 8 = .ok (.arraylength, 1) := by decide +kernel
theorem d_B_enqueue_9 : decode prog_2_method_2_code 9 = .ok (.if_icmp .lt 4, 3) := by decide +kernel
theorem d_B_enqueue_12 : decode prog_2_method_2_code 12 = .ok (.return_, 1) := by decide +kernel
theorem d_B_enqueue_13 : decode prog_2_method_2_code 13 = .ok (.aload_n 0, 1) := by decide +kernel
theorem d_B_enqueue_14 : decode prog_2_method_2_code 14 = .ok (.getfield 36, 3) := by decide +kernel
theorem d_B_enqueue_17 : decode prog_2_method_2_code 17 = .ok (.istore_n 2, 1) := by decide +kernel
theorem d_B_enqueue_18 : decode prog_2_method_2_code 18 = .ok (.iload_n 2, 1) := by decide +kernel
theorem d_B_enqueue_19 : decode prog_2_method_2_code 19 = .ok (.ifCond .le 41, 3) := by decide +kernel
theorem d_B_enqueue_22 : decode prog_2_method_2_code 22 = .ok (.aload_n 0, 1) := by decide +kernel
theorem d_B_enqueue_23 : decode prog_2_method_2_code 23 = .ok (.getfield 32, 3) := by decide +kernel
theorem d_B_enqueue_26 : decode prog_2_method_2_code 26 = .ok (.iload_n 2, 1) := by decide +kernel
theorem d_B_enqueue_27 : decode prog_2_method_2_code 27 = .ok (.iconst 1, 1) := by decide +kernel
theorem d_B_enqueue_28 : decode prog_2_method_2_code 28 = .ok (.isub, 1) := by decide +kernel
theorem d_B_enqueue_29 : decode prog_2_method_2_code 29 = .ok (.aaload, 1) := by decide +kernel
theorem d_B_enqueue_30 : decode prog_2_method_2_code 30 = .ok (.getfield 40, 3) := by decide +kernel
theorem d_B_enqueue_33 : decode prog_2_method_2_code 33 = .ok (.aload_n 1, 1) := by decide +kernel
theorem d_B_enqueue_34 : decode prog_2_method_2_code 34 = .ok (.getfield 40, 3) := by decide +kernel
theorem d_B_enqueue_37 : decode prog_2_method_2_code 37 = .ok (.if_icmp .ge 23, 3) := by decide +kernel
theorem d_B_enqueue_40 : decode prog_2_method_2_code 40 = .ok (.aload_n 0, 1) := by decide +kernel
theorem d_B_enqueue_41 : decode prog_2_method_2_code 41 = .ok (.getfield 32, 3) := by decide +kernel
theorem d_B_enqueue_44 : decode prog_2_method_2_code 44 = .ok (.iload_n 2, 1) := by decide +kernel
theorem d_B_enqueue_45 : decode prog_2_method_2_code 45 = .ok (.aload_n 0, 1) := by decide +kernel
theorem d_B_enqueue_46 : decode prog_2_method_2_code 46 = .ok (.getfield 32, 3) := by decide +kernel
theorem d_B_enqueue_49 : decode prog_2_method_2_code 49 = .ok (.iload_n 2, 1) := by decide +kernel
theorem d_B_enqueue_50 : decode prog_2_method_2_code 50 = .ok (.iconst 1, 1) := by decide +kernel
theorem d_B_enqueue_51 : decode prog_2_method_2_code 51 = .ok (.isub, 1) := by decide +kernel
theorem d_B_enqueue_52 : decode prog_2_method_2_code 52 = .ok (.aaload, 1) := by decide +kernel
theorem d_B_enqueue_53 : decode prog_2_method_2_code 53 = .ok (.aastore, 1) := by decide +kernel
theorem d_B_enqueue_54 : decode prog_2_method_2_code 54 = .ok (.iinc 2 (-1), 3) := by decide +kernel
theorem d_B_enqueue_57 : decode prog_2_method_2_code 57 = .ok (.goto (-39), 3) := by decide +kernel
theorem d_B_enqueue_60 : decode prog_2_method_2_code 60 = .ok (.aload_n 0, 1) := by decide +kernel
theorem d_B_enqueue_61 : decode prog_2_method_2_code 61 = .ok (.getfield 32, 3) := by decide +kernel
theorem d_B_enqueue_64 : decode prog_2_method_2_code 64 = .ok (.iload_n 2, 1) := by decide +kernel
theorem d_B_enqueue_65 : decode prog_2_method_2_code 65 = .ok (.aload_n 1, 1) := by decide +kernel
theorem d_B_enqueue_66 : decode prog_2_method_2_code 66 = .ok (.aastore, 1) := by decide +kernel
theorem d_B_enqueue_67 : decode prog_2_method_2_code 67 = .ok (.aload_n 0, 1) := by decide +kernel
theorem d_B_enqueue_68 : decode prog_2_method_2_code 68 = .ok (.dup, 1) := by decide +kernel
theorem d_B_enqueue_69 : decode prog_2_method_2_code 69 = .ok (.getfield 36, 3) := by decide +kernel
theorem d_B_enqueue_72 : decode prog_2_method_2_code 72 = .ok (.iconst 1, 1) := by decide +kernel
theorem d_B_enqueue_73 : decode prog_2_method_2_code 73 = .ok (.iadd, 1) := by decide +kernel
theorem d_B_enqueue_74 : decode prog_2_method_2_code 74 = .ok (.putfield 36, 3) := by decide +kernel
theorem d_B_enqueue_77 : decode prog_2_method_2_code 77 = .ok (.return_, 1) := by decide +kernel
abbrev y_X_isBank : MethodName := ⟨"GridlockDesk", "isBank", "(I)Z"⟩
abbrev ws_X_isBank : List Cond := .code y_X_isBank prog_1_method_19_code 2 (some .boolean) :: TB
theorem d_X_isBank_0 : decode prog_1_method_19_code 0 = .ok (.iload_n 1, 1) := by decide +kernel
theorem d_X_isBank_1 : decode prog_1_method_19_code 1 = .ok (.ifCond .lt 16, 3) := by decide +kernel
theorem d_X_isBank_4 : decode prog_1_method_19_code 4 = .ok (.iload_n 1, 1) := by decide +kernel
theorem d_X_isBank_5 : decode prog_1_method_19_code 5 = .ok (.aload_n 0, 1) := by decide +kernel
theorem d_X_isBank_6 : decode prog_1_method_19_code 6 = .ok (.getfield 20, 3) := by decide +kernel
theorem d_X_isBank_9 : decode prog_1_method_19_code 9 = .ok (.arraylength, 1) := by decide +kernel
theorem d_X_isBank_10 : decode prog_1_method_19_code 10 = .ok (.if_icmp .ge 7, 3) := by decide +kernel
theorem d_X_isBank_13 : decode prog_1_method_19_code 13 = .ok (.iconst 1, 1) := by decide +kernel
theorem d_X_isBank_14 : decode prog_1_method_19_code 14 = .ok (.goto 4, 3) := by decide +kernel
theorem d_X_isBank_17 : decode prog_1_method_19_code 17 = .ok (.iconst 0, 1) := by decide +kernel
theorem d_X_isBank_18 : decode prog_1_method_19_code 18 = .ok (.ireturn, 1) := by decide +kernel
abbrev y_X_areTwoBanks : MethodName := ⟨"GridlockDesk", "areTwoBanks", "(II)Z"⟩
abbrev ws_X_areTwoBanks : List Cond := .code y_X_areTwoBanks prog_1_method_20_code 3 (some .boolean) :: TB
theorem d_X_areTwoBanks_0 : decode prog_1_method_20_code 0 = .ok (.aload_n 0, 1) := by decide +kernel
theorem d_X_areTwoBanks_1 : decode prog_1_method_20_code 1 = .ok (.iload_n 1, 1) := by decide +kernel
theorem d_X_areTwoBanks_2 : decode prog_1_method_20_code 2 = .ok (.invokevirtual 37, 3) := by decide +kernel
theorem d_X_areTwoBanks_5 : decode prog_1_method_20_code 5 = .ok (.ifCond .eq 20, 3) := by decide +kernel
theorem d_X_areTwoBanks_8 : decode prog_1_method_20_code 8 = .ok (.aload_n 0, 1) := by decide +kernel
theorem d_X_areTwoBanks_9 : decode prog_1_method_20_code 9 = .ok (.iload_n 2, 1) := by decide +kernel
theorem d_X_areTwoBanks_10 : decode prog_1_method_20_code 10 = .ok (.invokevirtual 37, 3) := by decide +kernel
theorem d_X_areTwoBanks_13 : decode prog_1_method_20_code 13 = .ok (.ifCond .eq 12, 3) := by decide +kernel
theorem d_X_areTwoBanks_16 : decode prog_1_method_20_code 16 = .ok (.iload_n 1, 1) := by decide +kernel
theorem d_X_areTwoBanks_17 : decode prog_1_method_20_code 17 = .ok (.iload_n 2, 1) := by decide +kernel
theorem d_X_areTwoBanks_18 : decode prog_1_method_20_code 18 = .ok (.if_icmp .eq 7, 3) := by decide +kernel
theorem d_X_areTwoBanks_21 : decode prog_1_method_20_code 21 = .ok (.iconst 1, 1) := by decide +kernel
theorem d_X_areTwoBanks_22 : decode prog_1_method_20_code 22 = .ok (.goto 4, 3) := by decide +kernel
theorem d_X_areTwoBanks_25 : decode prog_1_method_20_code 25 = .ok (.iconst 0, 1) := by decide +kernel
theorem d_X_areTwoBanks_26 : decode prog_1_method_20_code 26 = .ok (.ireturn, 1) := by decide +kernel
end
section
abbrev atys (cA : Nat → ClassId) : List (ClassId × FieldType) := [(cA 0, .long), (cA 1, .int), (cA 2, .object "GridlockDesk$Bank"), (cA 3, .object "GridlockDesk$Payment")]
def cdom (n : Nat) (σ : St) (t i : Nat) : Prop := match t with
  | 0 => i = 0
  | 1 => i = 0
  | 2 => i = 0
  | 3 => i = 0
  | 4 => i < n
  | 5 => i < n
  | 6 => i < n
  | 7 => i < n
  | 8 => i < sN σ
  | _ => False
def cct (cA : Nat → ClassId) (ad : Nat → Nat → Nat) (n : Nat) (σ : St) (t i : Nat) : va_E := match t with
  | 0 => .inr (2, [.ref (ad 1 0), .ref (ad 2 0), .int (sI σ 0 i 0), .long (sL σ 0 i 0), .int (sI σ 1 i 0), .ref (ad 3 0)])
  | 1 => .inl (cA 2, n, .inr (.inr (.inr (.inr (fun j => some (ad 4 j))))))
  | 2 => .inl (cA 3, 100, .inr (.inr (.inr (.inr (fun j => (sR σ 0 i j).map (ad 8))))))
  | 3 => .inl (cA 1, n, .inl (fun j => sI σ 2 i j))
  | 4 => .inr (0, [.long (sL σ 1 i 0), .long (sL σ 2 i 0), .long (sL σ 3 i 0), .ref (ad 5 i), .ref (ad 6 i), .ref (ad 7 i), .int (sI σ 3 i 0)])
  | 5 => .inl (cA 0, n, .inr (.inl (fun j => sL σ 4 i j)))
  | 6 => .inl (cA 0, n, .inr (.inl (fun j => sL σ 5 i j)))
  | 7 => .inl (cA 3, 6, .inr (.inr (.inr (.inr (fun j => (sR σ 1 i j).map (ad 8))))))
  | 8 => .inr (1, [.int (sI σ 4 i 0), .int (sI σ 5 i 0), .int (sI σ 6 i 0), .long (sL σ 6 i 0), .int (sI σ 7 i 0), .int (sI σ 8 i 0), .int (sI σ 9 i 0)])
  | _ => .inr (0, [])
def CW (D : va_G) (cA : Nat → ClassId) (ad : Nat → Nat → Nat) (n : Nat) (A : Nat → Prop) (σ : St) (H : Heap) : Prop := kw D vCl ad (cdom n σ) (cct cA ad n σ) H ∧ ∀ t i, cdom n σ t i → A (ad t i)
theorem CW.wI {D : va_G} {cA : Nat → ClassId} {ad : Nat → Nat → Nat} {n : Nat} {A : Nat → Prop} {σ : St} {H : Heap} {c i : Nat} {j : Nat} {v : Int32} (h : kw D vCl ad (cdom n σ) (cct cA ad n (wI σ c i j v)) H) (hA : ∀ t i, cdom n σ t i → A (ad t i)) : CW D cA ad n A (wI σ c i j v) H := ⟨h, hA⟩
theorem CW.wL {D : va_G} {cA : Nat → ClassId} {ad : Nat → Nat → Nat} {n : Nat} {A : Nat → Prop} {σ : St} {H : Heap} {c i : Nat} {j : Nat} {v : Int64} (h : kw D vCl ad (cdom n σ) (cct cA ad n (wL σ c i j v)) H) (hA : ∀ t i, cdom n σ t i → A (ad t i)) : CW D cA ad n A (wL σ c i j v) H := ⟨h, hA⟩
theorem CW.wR {D : va_G} {cA : Nat → ClassId} {ad : Nat → Nat → Nat} {n : Nat} {A : Nat → Prop} {σ : St} {H : Heap} {c i : Nat} {j : Nat} {v : Option Nat} (h : kw D vCl ad (cdom n σ) (cct cA ad n (wR σ c i j v)) H) (hA : ∀ t i, cdom n σ t i → A (ad t i)) : CW D cA ad n A (wR σ c i j v) H := ⟨h, hA⟩
theorem CW.fI {D : va_G} {cA : Nat → ClassId} {ad : Nat → Nat → Nat} {n : Nat} {A : Nat → Prop} {σ : St} {H : Heap} {c i : Nat} {v : Int32} (h : kw D vCl ad (cdom n σ) (cct cA ad n (fI σ c i v)) H) (hA : ∀ t i, cdom n σ t i → A (ad t i)) : CW D cA ad n A (fI σ c i v) H := ⟨h, hA⟩
theorem CW.fL {D : va_G} {cA : Nat → ClassId} {ad : Nat → Nat → Nat} {n : Nat} {A : Nat → Prop} {σ : St} {H : Heap} {c i : Nat} {v : Int64} (h : kw D vCl ad (cdom n σ) (cct cA ad n (fL σ c i v)) H) (hA : ∀ t i, cdom n σ t i → A (ad t i)) : CW D cA ad n A (fL σ c i v) H := ⟨h, hA⟩
theorem cc_wI0 {cA : Nat → ClassId} {ad : Nat → Nat → Nat} {n : Nat} {σ : St} {v : Int32} : ∀ t' i', cdom n σ t' i' → cct cA ad n (wI σ 0 0 0 v) t' i' = if t' = 0 ∧ i' = 0 then .inr (2, List.set [.ref (ad 1 0), .ref (ad 2 0), .int (sI σ 0 0 0), .long (sL σ 0 0 0), .int (sI σ 1 0 0), .ref (ad 3 0)] 2 (.int v)) else cct cA ad n σ t' i' := by
  intro t' i' h
  match t', h with
  | 0, h =>
    have h : i' = 0 := h
    subst h
    rw [if_pos ⟨rfl, rfl⟩]
    first | rfl | (simp [cct, sI_wI, sL_wI, sR_wI]; done) | (simp [cct, sI_wI, sL_wI, sR_wI]; funext jj; by_cases hj : jj = j <;> simp [sI_wI, sL_wI, sR_wI, hj])
  | 1, h => rw [if_neg (by omega)]; first | rfl | simp [cct, sI_wI, sL_wI, sR_wI]
  | 2, h => rw [if_neg (by omega)]; first | rfl | simp [cct, sI_wI, sL_wI, sR_wI]
  | 3, h => rw [if_neg (by omega)]; first | rfl | simp [cct, sI_wI, sL_wI, sR_wI]
  | 4, h => rw [if_neg (by omega)]; first | rfl | simp [cct, sI_wI, sL_wI, sR_wI]
  | 5, h => rw [if_neg (by omega)]; first | rfl | simp [cct, sI_wI, sL_wI, sR_wI]
  | 6, h => rw [if_neg (by omega)]; first | rfl | simp [cct, sI_wI, sL_wI, sR_wI]
  | 7, h => rw [if_neg (by omega)]; first | rfl | simp [cct, sI_wI, sL_wI, sR_wI]
  | 8, h => rw [if_neg (by omega)]; first | rfl | simp [cct, sI_wI, sL_wI, sR_wI]
theorem cc_wL0 {cA : Nat → ClassId} {ad : Nat → Nat → Nat} {n : Nat} {σ : St} {v : Int64} : ∀ t' i', cdom n σ t' i' → cct cA ad n (wL σ 0 0 0 v) t' i' = if t' = 0 ∧ i' = 0 then .inr (2, List.set [.ref (ad 1 0), .ref (ad 2 0), .int (sI σ 0 0 0), .long (sL σ 0 0 0), .int (sI σ 1 0 0), .ref (ad 3 0)] 3 (.long v)) else cct cA ad n σ t' i' := by
  intro t' i' h
  match t', h with
  | 0, h =>
    have h : i' = 0 := h
    subst h
    rw [if_pos ⟨rfl, rfl⟩]
    first | rfl | (simp [cct, sI_wL, sL_wL, sR_wL]; done) | (simp [cct, sI_wL, sL_wL, sR_wL]; funext jj; by_cases hj : jj = j <;> simp [sI_wL, sL_wL, sR_wL, hj])
  | 1, h => rw [if_neg (by omega)]; first | rfl | simp [cct, sI_wL, sL_wL, sR_wL]
  | 2, h => rw [if_neg (by omega)]; first | rfl | simp [cct, sI_wL, sL_wL, sR_wL]
  | 3, h => rw [if_neg (by omega)]; first | rfl | simp [cct, sI_wL, sL_wL, sR_wL]
  | 4, h => rw [if_neg (by omega)]; first | rfl | simp [cct, sI_wL, sL_wL, sR_wL]
  | 5, h => rw [if_neg (by omega)]; first | rfl | simp [cct, sI_wL, sL_wL, sR_wL]
  | 6, h => rw [if_neg (by omega)]; first | rfl | simp [cct, sI_wL, sL_wL, sR_wL]
  | 7, h => rw [if_neg (by omega)]; first | rfl | simp [cct, sI_wL, sL_wL, sR_wL]
  | 8, h => rw [if_neg (by omega)]; first | rfl | simp [cct, sI_wL, sL_wL, sR_wL]
theorem cc_wI1 {cA : Nat → ClassId} {ad : Nat → Nat → Nat} {n : Nat} {σ : St} {v : Int32} : ∀ t' i', cdom n σ t' i' → cct cA ad n (wI σ 1 0 0 v) t' i' = if t' = 0 ∧ i' = 0 then .inr (2, List.set [.ref (ad 1 0), .ref (ad 2 0), .int (sI σ 0 0 0), .long (sL σ 0 0 0), .int (sI σ 1 0 0), .ref (ad 3 0)] 4 (.int v)) else cct cA ad n σ t' i' := by
  intro t' i' h
  match t', h with
  | 0, h =>
    have h : i' = 0 := h
    subst h
    rw [if_pos ⟨rfl, rfl⟩]
    first | rfl | (simp [cct, sI_wI, sL_wI, sR_wI]; done) | (simp [cct, sI_wI, sL_wI, sR_wI]; funext jj; by_cases hj : jj = j <;> simp [sI_wI, sL_wI, sR_wI, hj])
  | 1, h => rw [if_neg (by omega)]; first | rfl | simp [cct, sI_wI, sL_wI, sR_wI]
  | 2, h => rw [if_neg (by omega)]; first | rfl | simp [cct, sI_wI, sL_wI, sR_wI]
  | 3, h => rw [if_neg (by omega)]; first | rfl | simp [cct, sI_wI, sL_wI, sR_wI]
  | 4, h => rw [if_neg (by omega)]; first | rfl | simp [cct, sI_wI, sL_wI, sR_wI]
  | 5, h => rw [if_neg (by omega)]; first | rfl | simp [cct, sI_wI, sL_wI, sR_wI]
  | 6, h => rw [if_neg (by omega)]; first | rfl | simp [cct, sI_wI, sL_wI, sR_wI]
  | 7, h => rw [if_neg (by omega)]; first | rfl | simp [cct, sI_wI, sL_wI, sR_wI]
  | 8, h => rw [if_neg (by omega)]; first | rfl | simp [cct, sI_wI, sL_wI, sR_wI]
theorem cc_wR0 {cA : Nat → ClassId} {ad : Nat → Nat → Nat} {n : Nat} {σ : St} {j k : Nat} : ∀ t' i', cdom n σ t' i' → cct cA ad n (wR σ 0 0 j (some k)) t' i' = if t' = 2 ∧ i' = 0 then .inl (cA 3, 100, .inr (.inr (.inr (.inr (va_up (fun j => (sR σ 0 0 j).map (ad 8)) j (some (ad 8 k))))))) else cct cA ad n σ t' i' := by
  intro t' i' h
  match t', h with
  | 0, h => rw [if_neg (by omega)]; first | rfl | simp [cct, sI_wR, sL_wR, sR_wR, va_up]
  | 1, h => rw [if_neg (by omega)]; first | rfl | simp [cct, sI_wR, sL_wR, sR_wR, va_up]
  | 2, h =>
    have h : i' = 0 := h
    subst h
    rw [if_pos ⟨rfl, rfl⟩]
    first | rfl | (simp [cct, sI_wR, sL_wR, sR_wR, va_up]; done) | (simp [cct, sI_wR, sL_wR, sR_wR, va_up]; funext jj; by_cases hj : jj = j <;> simp [sI_wR, sL_wR, sR_wR, va_up, hj])
  | 3, h => rw [if_neg (by omega)]; first | rfl | simp [cct, sI_wR, sL_wR, sR_wR, va_up]
  | 4, h => rw [if_neg (by omega)]; first | rfl | simp [cct, sI_wR, sL_wR, sR_wR, va_up]
  | 5, h => rw [if_neg (by omega)]; first | rfl | simp [cct, sI_wR, sL_wR, sR_wR, va_up]
  | 6, h => rw [if_neg (by omega)]; first | rfl | simp [cct, sI_wR, sL_wR, sR_wR, va_up]
  | 7, h => rw [if_neg (by omega)]; first | rfl | simp [cct, sI_wR, sL_wR, sR_wR, va_up]
  | 8, h => rw [if_neg (by omega)]; first | rfl | simp [cct, sI_wR, sL_wR, sR_wR, va_up]
theorem cc_wI2 {cA : Nat → ClassId} {ad : Nat → Nat → Nat} {n : Nat} {σ : St} {j : Nat} {v : Int32} : ∀ t' i', cdom n σ t' i' → cct cA ad n (wI σ 2 0 j v) t' i' = if t' = 3 ∧ i' = 0 then .inl (cA 1, n, .inl (upd (fun j => sI σ 2 0 j) j v)) else cct cA ad n σ t' i' := by
  intro t' i' h
  match t', h with
  | 0, h => rw [if_neg (by omega)]; first | rfl | simp [cct, sI_wI, sL_wI, sR_wI, upd]
  | 1, h => rw [if_neg (by omega)]; first | rfl | simp [cct, sI_wI, sL_wI, sR_wI, upd]
  | 2, h => rw [if_neg (by omega)]; first | rfl | simp [cct, sI_wI, sL_wI, sR_wI, upd]
  | 3, h =>
    have h : i' = 0 := h
    subst h
    rw [if_pos ⟨rfl, rfl⟩]
    first | rfl | (simp [cct, sI_wI, sL_wI, sR_wI, upd]; done) | (simp [cct, sI_wI, sL_wI, sR_wI, upd]; funext jj; by_cases hj : jj = j <;> simp [sI_wI, sL_wI, sR_wI, upd, hj])
  | 4, h => rw [if_neg (by omega)]; first | rfl | simp [cct, sI_wI, sL_wI, sR_wI, upd]
  | 5, h => rw [if_neg (by omega)]; first | rfl | simp [cct, sI_wI, sL_wI, sR_wI, upd]
  | 6, h => rw [if_neg (by omega)]; first | rfl | simp [cct, sI_wI, sL_wI, sR_wI, upd]
  | 7, h => rw [if_neg (by omega)]; first | rfl | simp [cct, sI_wI, sL_wI, sR_wI, upd]
  | 8, h => rw [if_neg (by omega)]; first | rfl | simp [cct, sI_wI, sL_wI, sR_wI, upd]
theorem cc_fI2 {cA : Nat → ClassId} {ad : Nat → Nat → Nat} {n : Nat} {σ : St} {v : Int32} : ∀ t' i', cdom n σ t' i' → cct cA ad n (fI σ 2 0 v) t' i' = if t' = 3 ∧ i' = 0 then .inl (cA 1, n, .inl (fun _ => v)) else cct cA ad n σ t' i' := by
  intro t' i' h
  match t', h with
  | 0, h => rw [if_neg (by omega)]; first | rfl | simp [cct, sI_fI, sL_fI, sR_fI]
  | 1, h => rw [if_neg (by omega)]; first | rfl | simp [cct, sI_fI, sL_fI, sR_fI]
  | 2, h => rw [if_neg (by omega)]; first | rfl | simp [cct, sI_fI, sL_fI, sR_fI]
  | 3, h =>
    have h : i' = 0 := h
    subst h
    rw [if_pos ⟨rfl, rfl⟩]
    first | rfl | (simp [cct, sI_fI, sL_fI, sR_fI]; done) | (simp [cct, sI_fI, sL_fI, sR_fI]; funext jj; by_cases hj : jj = j <;> simp [sI_fI, sL_fI, sR_fI, hj])
  | 4, h => rw [if_neg (by omega)]; first | rfl | simp [cct, sI_fI, sL_fI, sR_fI]
  | 5, h => rw [if_neg (by omega)]; first | rfl | simp [cct, sI_fI, sL_fI, sR_fI]
  | 6, h => rw [if_neg (by omega)]; first | rfl | simp [cct, sI_fI, sL_fI, sR_fI]
  | 7, h => rw [if_neg (by omega)]; first | rfl | simp [cct, sI_fI, sL_fI, sR_fI]
  | 8, h => rw [if_neg (by omega)]; first | rfl | simp [cct, sI_fI, sL_fI, sR_fI]
theorem cc_wL1 {cA : Nat → ClassId} {ad : Nat → Nat → Nat} {n : Nat} {σ : St} {i : Nat} {v : Int64} : ∀ t' i', cdom n σ t' i' → cct cA ad n (wL σ 1 i 0 v) t' i' = if t' = 4 ∧ i' = i then .inr (0, List.set [.long (sL σ 1 i 0), .long (sL σ 2 i 0), .long (sL σ 3 i 0), .ref (ad 5 i), .ref (ad 6 i), .ref (ad 7 i), .int (sI σ 3 i 0)] 0 (.long v)) else cct cA ad n σ t' i' := by
  intro t' i' h
  match t', h with
  | 0, h => rw [if_neg (by omega)]; first | rfl | simp [cct, sI_wL, sL_wL, sR_wL]
  | 1, h => rw [if_neg (by omega)]; first | rfl | simp [cct, sI_wL, sL_wL, sR_wL]
  | 2, h => rw [if_neg (by omega)]; first | rfl | simp [cct, sI_wL, sL_wL, sR_wL]
  | 3, h => rw [if_neg (by omega)]; first | rfl | simp [cct, sI_wL, sL_wL, sR_wL]
  | 4, h =>
    by_cases hi : i' = i
    · subst hi
      rw [if_pos ⟨rfl, rfl⟩]
      first | rfl | (simp [cct, sI_wL, sL_wL, sR_wL]; done) | (simp [cct, sI_wL, sL_wL, sR_wL]; funext jj; by_cases hj : jj = j <;> simp [sI_wL, sL_wL, sR_wL, hj])
    · rw [if_neg (fun q => hi q.2)]
      first | rfl | (simp [cct, sI_wL, sL_wL, sR_wL, hi]; done)
  | 5, h => rw [if_neg (by omega)]; first | rfl | simp [cct, sI_wL, sL_wL, sR_wL]
  | 6, h => rw [if_neg (by omega)]; first | rfl | simp [cct, sI_wL, sL_wL, sR_wL]
  | 7, h => rw [if_neg (by omega)]; first | rfl | simp [cct, sI_wL, sL_wL, sR_wL]
  | 8, h => rw [if_neg (by omega)]; first | rfl | simp [cct, sI_wL, sL_wL, sR_wL]
theorem cc_wL2 {cA : Nat → ClassId} {ad : Nat → Nat → Nat} {n : Nat} {σ : St} {i : Nat} {v : Int64} : ∀ t' i', cdom n σ t' i' → cct cA ad n (wL σ 2 i 0 v) t' i' = if t' = 4 ∧ i' = i then .inr (0, List.set [.long (sL σ 1 i 0), .long (sL σ 2 i 0), .long (sL σ 3 i 0), .ref (ad 5 i), .ref (ad 6 i), .ref (ad 7 i), .int (sI σ 3 i 0)] 1 (.long v)) else cct cA ad n σ t' i' := by
  intro t' i' h
  match t', h with
  | 0, h => rw [if_neg (by omega)]; first | rfl | simp [cct, sI_wL, sL_wL, sR_wL]
  | 1, h => rw [if_neg (by omega)]; first | rfl | simp [cct, sI_wL, sL_wL, sR_wL]
  | 2, h => rw [if_neg (by omega)]; first | rfl | simp [cct, sI_wL, sL_wL, sR_wL]
  | 3, h => rw [if_neg (by omega)]; first | rfl | simp [cct, sI_wL, sL_wL, sR_wL]
  | 4, h =>
    by_cases hi : i' = i
    · subst hi
      rw [if_pos ⟨rfl, rfl⟩]
      first | rfl | (simp [cct, sI_wL, sL_wL, sR_wL]; done) | (simp [cct, sI_wL, sL_wL, sR_wL]; funext jj; by_cases hj : jj = j <;> simp [sI_wL, sL_wL, sR_wL, hj])
    · rw [if_neg (fun q => hi q.2)]
      first | rfl | (simp [cct, sI_wL, sL_wL, sR_wL, hi]; done)
  | 5, h => rw [if_neg (by omega)]; first | rfl | simp [cct, sI_wL, sL_wL, sR_wL]
  | 6, h => rw [if_neg (by omega)]; first | rfl | simp [cct, sI_wL, sL_wL, sR_wL]
  | 7, h => rw [if_neg (by omega)]; first | rfl | simp [cct, sI_wL, sL_wL, sR_wL]
  | 8, h => rw [if_neg (by omega)]; first | rfl | simp [cct, sI_wL, sL_wL, sR_wL]
theorem cc_wL3 {cA : Nat → ClassId} {ad : Nat → Nat → Nat} {n : Nat} {σ : St} {i : Nat} {v : Int64} : ∀ t' i', cdom n σ t' i' → cct cA ad n (wL σ 3 i 0 v) t' i' = if t' = 4 ∧ i' = i then .inr (0, List.set [.long (sL σ 1 i 0), .long (sL σ 2 i 0), .long (sL σ 3 i 0), .ref (ad 5 i), .ref (ad 6 i), .ref (ad 7 i), .int (sI σ 3 i 0)] 2 (.long v)) else cct cA ad n σ t' i' := by
  intro t' i' h
  match t', h with
  | 0, h => rw [if_neg (by omega)]; first | rfl | simp [cct, sI_wL, sL_wL, sR_wL]
  | 1, h => rw [if_neg (by omega)]; first | rfl | simp [cct, sI_wL, sL_wL, sR_wL]
  | 2, h => rw [if_neg (by omega)]; first | rfl | simp [cct, sI_wL, sL_wL, sR_wL]
  | 3, h => rw [if_neg (by omega)]; first | rfl | simp [cct, sI_wL, sL_wL, sR_wL]
  | 4, h =>
    by_cases hi : i' = i
    · subst hi
      rw [if_pos ⟨rfl, rfl⟩]
      first | rfl | (simp [cct, sI_wL, sL_wL, sR_wL]; done) | (simp [cct, sI_wL, sL_wL, sR_wL]; funext jj; by_cases hj : jj = j <;> simp [sI_wL, sL_wL, sR_wL, hj])
    · rw [if_neg (fun q => hi q.2)]
      first | rfl | (simp [cct, sI_wL, sL_wL, sR_wL, hi]; done)
  | 5, h => rw [if_neg (by omega)]; first | rfl | simp [cct, sI_wL, sL_wL, sR_wL]
  | 6, h => rw [if_neg (by omega)]; first | rfl | simp [cct, sI_wL, sL_wL, sR_wL]
  | 7, h => rw [if_neg (by omega)]; first | rfl | simp [cct, sI_wL, sL_wL, sR_wL]
  | 8, h => rw [if_neg (by omega)]; first | rfl | simp [cct, sI_wL, sL_wL, sR_wL]
theorem cc_wI3 {cA : Nat → ClassId} {ad : Nat → Nat → Nat} {n : Nat} {σ : St} {i : Nat} {v : Int32} : ∀ t' i', cdom n σ t' i' → cct cA ad n (wI σ 3 i 0 v) t' i' = if t' = 4 ∧ i' = i then .inr (0, List.set [.long (sL σ 1 i 0), .long (sL σ 2 i 0), .long (sL σ 3 i 0), .ref (ad 5 i), .ref (ad 6 i), .ref (ad 7 i), .int (sI σ 3 i 0)] 6 (.int v)) else cct cA ad n σ t' i' := by
  intro t' i' h
  match t', h with
  | 0, h => rw [if_neg (by omega)]; first | rfl | simp [cct, sI_wI, sL_wI, sR_wI]
  | 1, h => rw [if_neg (by omega)]; first | rfl | simp [cct, sI_wI, sL_wI, sR_wI]
  | 2, h => rw [if_neg (by omega)]; first | rfl | simp [cct, sI_wI, sL_wI, sR_wI]
  | 3, h => rw [if_neg (by omega)]; first | rfl | simp [cct, sI_wI, sL_wI, sR_wI]
  | 4, h =>
    by_cases hi : i' = i
    · subst hi
      rw [if_pos ⟨rfl, rfl⟩]
      first | rfl | (simp [cct, sI_wI, sL_wI, sR_wI]; done) | (simp [cct, sI_wI, sL_wI, sR_wI]; funext jj; by_cases hj : jj = j <;> simp [sI_wI, sL_wI, sR_wI, hj])
    · rw [if_neg (fun q => hi q.2)]
      first | rfl | (simp [cct, sI_wI, sL_wI, sR_wI, hi]; done)
  | 5, h => rw [if_neg (by omega)]; first | rfl | simp [cct, sI_wI, sL_wI, sR_wI]
  | 6, h => rw [if_neg (by omega)]; first | rfl | simp [cct, sI_wI, sL_wI, sR_wI]
  | 7, h => rw [if_neg (by omega)]; first | rfl | simp [cct, sI_wI, sL_wI, sR_wI]
  | 8, h => rw [if_neg (by omega)]; first | rfl | simp [cct, sI_wI, sL_wI, sR_wI]
theorem cc_wL4 {cA : Nat → ClassId} {ad : Nat → Nat → Nat} {n : Nat} {σ : St} {i : Nat} {j : Nat} {v : Int64} : ∀ t' i', cdom n σ t' i' → cct cA ad n (wL σ 4 i j v) t' i' = if t' = 5 ∧ i' = i then .inl (cA 0, n, .inr (.inl (vp_updL (fun j => sL σ 4 i j) j v))) else cct cA ad n σ t' i' := by
  intro t' i' h
  match t', h with
  | 0, h => rw [if_neg (by omega)]; first | rfl | simp [cct, sI_wL, sL_wL, sR_wL, vp_updL]
  | 1, h => rw [if_neg (by omega)]; first | rfl | simp [cct, sI_wL, sL_wL, sR_wL, vp_updL]
  | 2, h => rw [if_neg (by omega)]; first | rfl | simp [cct, sI_wL, sL_wL, sR_wL, vp_updL]
  | 3, h => rw [if_neg (by omega)]; first | rfl | simp [cct, sI_wL, sL_wL, sR_wL, vp_updL]
  | 4, h => rw [if_neg (by omega)]; first | rfl | simp [cct, sI_wL, sL_wL, sR_wL, vp_updL]
  | 5, h =>
    by_cases hi : i' = i
    · subst hi
      rw [if_pos ⟨rfl, rfl⟩]
      first | rfl | (simp [cct, sI_wL, sL_wL, sR_wL, vp_updL]; done) | (simp [cct, sI_wL, sL_wL, sR_wL, vp_updL]; funext jj; by_cases hj : jj = j <;> simp [sI_wL, sL_wL, sR_wL, vp_updL, hj])
    · rw [if_neg (fun q => hi q.2)]
      first | rfl | (simp [cct, sI_wL, sL_wL, sR_wL, vp_updL, hi]; done)
  | 6, h => rw [if_neg (by omega)]; first | rfl | simp [cct, sI_wL, sL_wL, sR_wL, vp_updL]
  | 7, h => rw [if_neg (by omega)]; first | rfl | simp [cct, sI_wL, sL_wL, sR_wL, vp_updL]
  | 8, h => rw [if_neg (by omega)]; first | rfl | simp [cct, sI_wL, sL_wL, sR_wL, vp_updL]
theorem cc_fL4 {cA : Nat → ClassId} {ad : Nat → Nat → Nat} {n : Nat} {σ : St} {i : Nat} {v : Int64} : ∀ t' i', cdom n σ t' i' → cct cA ad n (fL σ 4 i v) t' i' = if t' = 5 ∧ i' = i then .inl (cA 0, n, .inr (.inl (fun _ => v))) else cct cA ad n σ t' i' := by
  intro t' i' h
  match t', h with
  | 0, h => rw [if_neg (by omega)]; first | rfl | simp [cct, sI_fL, sL_fL, sR_fL]
  | 1, h => rw [if_neg (by omega)]; first | rfl | simp [cct, sI_fL, sL_fL, sR_fL]
  | 2, h => rw [if_neg (by omega)]; first | rfl | simp [cct, sI_fL, sL_fL, sR_fL]
  | 3, h => rw [if_neg (by omega)]; first | rfl | simp [cct, sI_fL, sL_fL, sR_fL]
  | 4, h => rw [if_neg (by omega)]; first | rfl | simp [cct, sI_fL, sL_fL, sR_fL]
  | 5, h =>
    by_cases hi : i' = i
    · subst hi
      rw [if_pos ⟨rfl, rfl⟩]
      first | rfl | (simp [cct, sI_fL, sL_fL, sR_fL]; done) | (simp [cct, sI_fL, sL_fL, sR_fL]; funext jj; by_cases hj : jj = j <;> simp [sI_fL, sL_fL, sR_fL, hj])
    · rw [if_neg (fun q => hi q.2)]
      first | rfl | (simp [cct, sI_fL, sL_fL, sR_fL, hi]; done)
  | 6, h => rw [if_neg (by omega)]; first | rfl | simp [cct, sI_fL, sL_fL, sR_fL]
  | 7, h => rw [if_neg (by omega)]; first | rfl | simp [cct, sI_fL, sL_fL, sR_fL]
  | 8, h => rw [if_neg (by omega)]; first | rfl | simp [cct, sI_fL, sL_fL, sR_fL]
theorem cc_wL5 {cA : Nat → ClassId} {ad : Nat → Nat → Nat} {n : Nat} {σ : St} {i : Nat} {j : Nat} {v : Int64} : ∀ t' i', cdom n σ t' i' → cct cA ad n (wL σ 5 i j v) t' i' = if t' = 6 ∧ i' = i then .inl (cA 0, n, .inr (.inl (vp_updL (fun j => sL σ 5 i j) j v))) else cct cA ad n σ t' i' := by
  intro t' i' h
  match t', h with
  | 0, h => rw [if_neg (by omega)]; first | rfl | simp [cct, sI_wL, sL_wL, sR_wL, vp_updL]
  | 1, h => rw [if_neg (by omega)]; first | rfl | simp [cct, sI_wL, sL_wL, sR_wL, vp_updL]
  | 2, h => rw [if_neg (by omega)]; first | rfl | simp [cct, sI_wL, sL_wL, sR_wL, vp_updL]
  | 3, h => rw [if_neg (by omega)]; first | rfl | simp [cct, sI_wL, sL_wL, sR_wL, vp_updL]
  | 4, h => rw [if_neg (by omega)]; first | rfl | simp [cct, sI_wL, sL_wL, sR_wL, vp_updL]
  | 5, h => rw [if_neg (by omega)]; first | rfl | simp [cct, sI_wL, sL_wL, sR_wL, vp_updL]
  | 6, h =>
    by_cases hi : i' = i
    · subst hi
      rw [if_pos ⟨rfl, rfl⟩]
      first | rfl | (simp [cct, sI_wL, sL_wL, sR_wL, vp_updL]; done) | (simp [cct, sI_wL, sL_wL, sR_wL, vp_updL]; funext jj; by_cases hj : jj = j <;> simp [sI_wL, sL_wL, sR_wL, vp_updL, hj])
    · rw [if_neg (fun q => hi q.2)]
      first | rfl | (simp [cct, sI_wL, sL_wL, sR_wL, vp_updL, hi]; done)
  | 7, h => rw [if_neg (by omega)]; first | rfl | simp [cct, sI_wL, sL_wL, sR_wL, vp_updL]
  | 8, h => rw [if_neg (by omega)]; first | rfl | simp [cct, sI_wL, sL_wL, sR_wL, vp_updL]
theorem cc_fL5 {cA : Nat → ClassId} {ad : Nat → Nat → Nat} {n : Nat} {σ : St} {i : Nat} {v : Int64} : ∀ t' i', cdom n σ t' i' → cct cA ad n (fL σ 5 i v) t' i' = if t' = 6 ∧ i' = i then .inl (cA 0, n, .inr (.inl (fun _ => v))) else cct cA ad n σ t' i' := by
  intro t' i' h
  match t', h with
  | 0, h => rw [if_neg (by omega)]; first | rfl | simp [cct, sI_fL, sL_fL, sR_fL]
  | 1, h => rw [if_neg (by omega)]; first | rfl | simp [cct, sI_fL, sL_fL, sR_fL]
  | 2, h => rw [if_neg (by omega)]; first | rfl | simp [cct, sI_fL, sL_fL, sR_fL]
  | 3, h => rw [if_neg (by omega)]; first | rfl | simp [cct, sI_fL, sL_fL, sR_fL]
  | 4, h => rw [if_neg (by omega)]; first | rfl | simp [cct, sI_fL, sL_fL, sR_fL]
  | 5, h => rw [if_neg (by omega)]; first | rfl | simp [cct, sI_fL, sL_fL, sR_fL]
  | 6, h =>
    by_cases hi : i' = i
    · subst hi
      rw [if_pos ⟨rfl, rfl⟩]
      first | rfl | (simp [cct, sI_fL, sL_fL, sR_fL]; done) | (simp [cct, sI_fL, sL_fL, sR_fL]; funext jj; by_cases hj : jj = j <;> simp [sI_fL, sL_fL, sR_fL, hj])
    · rw [if_neg (fun q => hi q.2)]
      first | rfl | (simp [cct, sI_fL, sL_fL, sR_fL, hi]; done)
  | 7, h => rw [if_neg (by omega)]; first | rfl | simp [cct, sI_fL, sL_fL, sR_fL]
  | 8, h => rw [if_neg (by omega)]; first | rfl | simp [cct, sI_fL, sL_fL, sR_fL]
theorem cc_wR1 {cA : Nat → ClassId} {ad : Nat → Nat → Nat} {n : Nat} {σ : St} {i : Nat} {j k : Nat} : ∀ t' i', cdom n σ t' i' → cct cA ad n (wR σ 1 i j (some k)) t' i' = if t' = 7 ∧ i' = i then .inl (cA 3, 6, .inr (.inr (.inr (.inr (va_up (fun j => (sR σ 1 i j).map (ad 8)) j (some (ad 8 k))))))) else cct cA ad n σ t' i' := by
  intro t' i' h
  match t', h with
  | 0, h => rw [if_neg (by omega)]; first | rfl | simp [cct, sI_wR, sL_wR, sR_wR, va_up]
  | 1, h => rw [if_neg (by omega)]; first | rfl | simp [cct, sI_wR, sL_wR, sR_wR, va_up]
  | 2, h => rw [if_neg (by omega)]; first | rfl | simp [cct, sI_wR, sL_wR, sR_wR, va_up]
  | 3, h => rw [if_neg (by omega)]; first | rfl | simp [cct, sI_wR, sL_wR, sR_wR, va_up]
  | 4, h => rw [if_neg (by omega)]; first | rfl | simp [cct, sI_wR, sL_wR, sR_wR, va_up]
  | 5, h => rw [if_neg (by omega)]; first | rfl | simp [cct, sI_wR, sL_wR, sR_wR, va_up]
  | 6, h => rw [if_neg (by omega)]; first | rfl | simp [cct, sI_wR, sL_wR, sR_wR, va_up]
  | 7, h =>
    by_cases hi : i' = i
    · subst hi
      rw [if_pos ⟨rfl, rfl⟩]
      first | rfl | (simp [cct, sI_wR, sL_wR, sR_wR, va_up]; done) | (simp [cct, sI_wR, sL_wR, sR_wR, va_up]; funext jj; by_cases hj : jj = j <;> simp [sI_wR, sL_wR, sR_wR, va_up, hj])
    · rw [if_neg (fun q => hi q.2)]
      first | rfl | (simp [cct, sI_wR, sL_wR, sR_wR, va_up, hi]; done)
  | 8, h => rw [if_neg (by omega)]; first | rfl | simp [cct, sI_wR, sL_wR, sR_wR, va_up]
theorem cc_wI4 {cA : Nat → ClassId} {ad : Nat → Nat → Nat} {n : Nat} {σ : St} {i : Nat} {v : Int32} : ∀ t' i', cdom n σ t' i' → cct cA ad n (wI σ 4 i 0 v) t' i' = if t' = 8 ∧ i' = i then .inr (1, List.set [.int (sI σ 4 i 0), .int (sI σ 5 i 0), .int (sI σ 6 i 0), .long (sL σ 6 i 0), .int (sI σ 7 i 0), .int (sI σ 8 i 0), .int (sI σ 9 i 0)] 0 (.int v)) else cct cA ad n σ t' i' := by
  intro t' i' h
  match t', h with
  | 0, h => rw [if_neg (by omega)]; first | rfl | simp [cct, sI_wI, sL_wI, sR_wI]
  | 1, h => rw [if_neg (by omega)]; first | rfl | simp [cct, sI_wI, sL_wI, sR_wI]
  | 2, h => rw [if_neg (by omega)]; first | rfl | simp [cct, sI_wI, sL_wI, sR_wI]
  | 3, h => rw [if_neg (by omega)]; first | rfl | simp [cct, sI_wI, sL_wI, sR_wI]
  | 4, h => rw [if_neg (by omega)]; first | rfl | simp [cct, sI_wI, sL_wI, sR_wI]
  | 5, h => rw [if_neg (by omega)]; first | rfl | simp [cct, sI_wI, sL_wI, sR_wI]
  | 6, h => rw [if_neg (by omega)]; first | rfl | simp [cct, sI_wI, sL_wI, sR_wI]
  | 7, h => rw [if_neg (by omega)]; first | rfl | simp [cct, sI_wI, sL_wI, sR_wI]
  | 8, h =>
    by_cases hi : i' = i
    · subst hi
      rw [if_pos ⟨rfl, rfl⟩]
      first | rfl | (simp [cct, sI_wI, sL_wI, sR_wI]; done) | (simp [cct, sI_wI, sL_wI, sR_wI]; funext jj; by_cases hj : jj = j <;> simp [sI_wI, sL_wI, sR_wI, hj])
    · rw [if_neg (fun q => hi q.2)]
      first | rfl | (simp [cct, sI_wI, sL_wI, sR_wI, hi]; done)
theorem cc_wI5 {cA : Nat → ClassId} {ad : Nat → Nat → Nat} {n : Nat} {σ : St} {i : Nat} {v : Int32} : ∀ t' i', cdom n σ t' i' → cct cA ad n (wI σ 5 i 0 v) t' i' = if t' = 8 ∧ i' = i then .inr (1, List.set [.int (sI σ 4 i 0), .int (sI σ 5 i 0), .int (sI σ 6 i 0), .long (sL σ 6 i 0), .int (sI σ 7 i 0), .int (sI σ 8 i 0), .int (sI σ 9 i 0)] 1 (.int v)) else cct cA ad n σ t' i' := by
  intro t' i' h
  match t', h with
  | 0, h => rw [if_neg (by omega)]; first | rfl | simp [cct, sI_wI, sL_wI, sR_wI]
  | 1, h => rw [if_neg (by omega)]; first | rfl | simp [cct, sI_wI, sL_wI, sR_wI]
  | 2, h => rw [if_neg (by omega)]; first | rfl | simp [cct, sI_wI, sL_wI, sR_wI]
  | 3, h => rw [if_neg (by omega)]; first | rfl | simp [cct, sI_wI, sL_wI, sR_wI]
  | 4, h => rw [if_neg (by omega)]; first | rfl | simp [cct, sI_wI, sL_wI, sR_wI]
  | 5, h => rw [if_neg (by omega)]; first | rfl | simp [cct, sI_wI, sL_wI, sR_wI]
  | 6, h => rw [if_neg (by omega)]; first | rfl | simp [cct, sI_wI, sL_wI, sR_wI]
  | 7, h => rw [if_neg (by omega)]; first | rfl | simp [cct, sI_wI, sL_wI, sR_wI]
  | 8, h =>
    by_cases hi : i' = i
    · subst hi
      rw [if_pos ⟨rfl, rfl⟩]
      first | rfl | (simp [cct, sI_wI, sL_wI, sR_wI]; done) | (simp [cct, sI_wI, sL_wI, sR_wI]; funext jj; by_cases hj : jj = j <;> simp [sI_wI, sL_wI, sR_wI, hj])
    · rw [if_neg (fun q => hi q.2)]
      first | rfl | (simp [cct, sI_wI, sL_wI, sR_wI, hi]; done)
theorem cc_wI6 {cA : Nat → ClassId} {ad : Nat → Nat → Nat} {n : Nat} {σ : St} {i : Nat} {v : Int32} : ∀ t' i', cdom n σ t' i' → cct cA ad n (wI σ 6 i 0 v) t' i' = if t' = 8 ∧ i' = i then .inr (1, List.set [.int (sI σ 4 i 0), .int (sI σ 5 i 0), .int (sI σ 6 i 0), .long (sL σ 6 i 0), .int (sI σ 7 i 0), .int (sI σ 8 i 0), .int (sI σ 9 i 0)] 2 (.int v)) else cct cA ad n σ t' i' := by
  intro t' i' h
  match t', h with
  | 0, h => rw [if_neg (by omega)]; first | rfl | simp [cct, sI_wI, sL_wI, sR_wI]
  | 1, h => rw [if_neg (by omega)]; first | rfl | simp [cct, sI_wI, sL_wI, sR_wI]
  | 2, h => rw [if_neg (by omega)]; first | rfl | simp [cct, sI_wI, sL_wI, sR_wI]
  | 3, h => rw [if_neg (by omega)]; first | rfl | simp [cct, sI_wI, sL_wI, sR_wI]
  | 4, h => rw [if_neg (by omega)]; first | rfl | simp [cct, sI_wI, sL_wI, sR_wI]
  | 5, h => rw [if_neg (by omega)]; first | rfl | simp [cct, sI_wI, sL_wI, sR_wI]
  | 6, h => rw [if_neg (by omega)]; first | rfl | simp [cct, sI_wI, sL_wI, sR_wI]
  | 7, h => rw [if_neg (by omega)]; first | rfl | simp [cct, sI_wI, sL_wI, sR_wI]
  | 8, h =>
    by_cases hi : i' = i
    · subst hi
      rw [if_pos ⟨rfl, rfl⟩]
      first | rfl | (simp [cct, sI_wI, sL_wI, sR_wI]; done) | (simp [cct, sI_wI, sL_wI, sR_wI]; funext jj; by_cases hj : jj = j <;> simp [sI_wI, sL_wI, sR_wI, hj])
    · rw [if_neg (fun q => hi q.2)]
      first | rfl | (simp [cct, sI_wI, sL_wI, sR_wI, hi]; done)
theorem cc_wL6 {cA : Nat → ClassId} {ad : Nat → Nat → Nat} {n : Nat} {σ : St} {i : Nat} {v : Int64} : ∀ t' i', cdom n σ t' i' → cct cA ad n (wL σ 6 i 0 v) t' i' = if t' = 8 ∧ i' = i then .inr (1, List.set [.int (sI σ 4 i 0), .int (sI σ 5 i 0), .int (sI σ 6 i 0), .long (sL σ 6 i 0), .int (sI σ 7 i 0), .int (sI σ 8 i 0), .int (sI σ 9 i 0)] 3 (.long v)) else cct cA ad n σ t' i' := by
  intro t' i' h
  match t', h with
  | 0, h => rw [if_neg (by omega)]; first | rfl | simp [cct, sI_wL, sL_wL, sR_wL]
  | 1, h => rw [if_neg (by omega)]; first | rfl | simp [cct, sI_wL, sL_wL, sR_wL]
  | 2, h => rw [if_neg (by omega)]; first | rfl | simp [cct, sI_wL, sL_wL, sR_wL]
  | 3, h => rw [if_neg (by omega)]; first | rfl | simp [cct, sI_wL, sL_wL, sR_wL]
  | 4, h => rw [if_neg (by omega)]; first | rfl | simp [cct, sI_wL, sL_wL, sR_wL]
  | 5, h => rw [if_neg (by omega)]; first | rfl | simp [cct, sI_wL, sL_wL, sR_wL]
  | 6, h => rw [if_neg (by omega)]; first | rfl | simp [cct, sI_wL, sL_wL, sR_wL]
  | 7, h => rw [if_neg (by omega)]; first | rfl | simp [cct, sI_wL, sL_wL, sR_wL]
  | 8, h =>
    by_cases hi : i' = i
    · subst hi
      rw [if_pos ⟨rfl, rfl⟩]
      first | rfl | (simp [cct, sI_wL, sL_wL, sR_wL]; done) | (simp [cct, sI_wL, sL_wL, sR_wL]; funext jj; by_cases hj : jj = j <;> simp [sI_wL, sL_wL, sR_wL, hj])
    · rw [if_neg (fun q => hi q.2)]
      first | rfl | (simp [cct, sI_wL, sL_wL, sR_wL, hi]; done)
theorem cc_wI7 {cA : Nat → ClassId} {ad : Nat → Nat → Nat} {n : Nat} {σ : St} {i : Nat} {v : Int32} : ∀ t' i', cdom n σ t' i' → cct cA ad n (wI σ 7 i 0 v) t' i' = if t' = 8 ∧ i' = i then .inr (1, List.set [.int (sI σ 4 i 0), .int (sI σ 5 i 0), .int (sI σ 6 i 0), .long (sL σ 6 i 0), .int (sI σ 7 i 0), .int (sI σ 8 i 0), .int (sI σ 9 i 0)] 4 (.int v)) else cct cA ad n σ t' i' := by
  intro t' i' h
  match t', h with
  | 0, h => rw [if_neg (by omega)]; first | rfl | simp [cct, sI_wI, sL_wI, sR_wI]
  | 1, h => rw [if_neg (by omega)]; first | rfl | simp [cct, sI_wI, sL_wI, sR_wI]
  | 2, h => rw [if_neg (by omega)]; first | rfl | simp [cct, sI_wI, sL_wI, sR_wI]
  | 3, h => rw [if_neg (by omega)]; first | rfl | simp [cct, sI_wI, sL_wI, sR_wI]
  | 4, h => rw [if_neg (by omega)]; first | rfl | simp [cct, sI_wI, sL_wI, sR_wI]
  | 5, h => rw [if_neg (by omega)]; first | rfl | simp [cct, sI_wI, sL_wI, sR_wI]
  | 6, h => rw [if_neg (by omega)]; first | rfl | simp [cct, sI_wI, sL_wI, sR_wI]
  | 7, h => rw [if_neg (by omega)]; first | rfl | simp [cct, sI_wI, sL_wI, sR_wI]
  | 8, h =>
    by_cases hi : i' = i
    · subst hi
      rw [if_pos ⟨rfl, rfl⟩]
      first | rfl | (simp [cct, sI_wI, sL_wI, sR_wI]; done) | (simp [cct, sI_wI, sL_wI, sR_wI]; funext jj; by_cases hj : jj = j <;> simp [sI_wI, sL_wI, sR_wI, hj])
    · rw [if_neg (fun q => hi q.2)]
      first | rfl | (simp [cct, sI_wI, sL_wI, sR_wI, hi]; done)
theorem cc_wI8 {cA : Nat → ClassId} {ad : Nat → Nat → Nat} {n : Nat} {σ : St} {i : Nat} {v : Int32} : ∀ t' i', cdom n σ t' i' → cct cA ad n (wI σ 8 i 0 v) t' i' = if t' = 8 ∧ i' = i then .inr (1, List.set [.int (sI σ 4 i 0), .int (sI σ 5 i 0), .int (sI σ 6 i 0), .long (sL σ 6 i 0), .int (sI σ 7 i 0), .int (sI σ 8 i 0), .int (sI σ 9 i 0)] 5 (.int v)) else cct cA ad n σ t' i' := by
  intro t' i' h
  match t', h with
  | 0, h => rw [if_neg (by omega)]; first | rfl | simp [cct, sI_wI, sL_wI, sR_wI]
  | 1, h => rw [if_neg (by omega)]; first | rfl | simp [cct, sI_wI, sL_wI, sR_wI]
  | 2, h => rw [if_neg (by omega)]; first | rfl | simp [cct, sI_wI, sL_wI, sR_wI]
  | 3, h => rw [if_neg (by omega)]; first | rfl | simp [cct, sI_wI, sL_wI, sR_wI]
  | 4, h => rw [if_neg (by omega)]; first | rfl | simp [cct, sI_wI, sL_wI, sR_wI]
  | 5, h => rw [if_neg (by omega)]; first | rfl | simp [cct, sI_wI, sL_wI, sR_wI]
  | 6, h => rw [if_neg (by omega)]; first | rfl | simp [cct, sI_wI, sL_wI, sR_wI]
  | 7, h => rw [if_neg (by omega)]; first | rfl | simp [cct, sI_wI, sL_wI, sR_wI]
  | 8, h =>
    by_cases hi : i' = i
    · subst hi
      rw [if_pos ⟨rfl, rfl⟩]
      first | rfl | (simp [cct, sI_wI, sL_wI, sR_wI]; done) | (simp [cct, sI_wI, sL_wI, sR_wI]; funext jj; by_cases hj : jj = j <;> simp [sI_wI, sL_wI, sR_wI, hj])
    · rw [if_neg (fun q => hi q.2)]
      first | rfl | (simp [cct, sI_wI, sL_wI, sR_wI, hi]; done)
theorem cc_wI9 {cA : Nat → ClassId} {ad : Nat → Nat → Nat} {n : Nat} {σ : St} {i : Nat} {v : Int32} : ∀ t' i', cdom n σ t' i' → cct cA ad n (wI σ 9 i 0 v) t' i' = if t' = 8 ∧ i' = i then .inr (1, List.set [.int (sI σ 4 i 0), .int (sI σ 5 i 0), .int (sI σ 6 i 0), .long (sL σ 6 i 0), .int (sI σ 7 i 0), .int (sI σ 8 i 0), .int (sI σ 9 i 0)] 6 (.int v)) else cct cA ad n σ t' i' := by
  intro t' i' h
  match t', h with
  | 0, h => rw [if_neg (by omega)]; first | rfl | simp [cct, sI_wI, sL_wI, sR_wI]
  | 1, h => rw [if_neg (by omega)]; first | rfl | simp [cct, sI_wI, sL_wI, sR_wI]
  | 2, h => rw [if_neg (by omega)]; first | rfl | simp [cct, sI_wI, sL_wI, sR_wI]
  | 3, h => rw [if_neg (by omega)]; first | rfl | simp [cct, sI_wI, sL_wI, sR_wI]
  | 4, h => rw [if_neg (by omega)]; first | rfl | simp [cct, sI_wI, sL_wI, sR_wI]
  | 5, h => rw [if_neg (by omega)]; first | rfl | simp [cct, sI_wI, sL_wI, sR_wI]
  | 6, h => rw [if_neg (by omega)]; first | rfl | simp [cct, sI_wI, sL_wI, sR_wI]
  | 7, h => rw [if_neg (by omega)]; first | rfl | simp [cct, sI_wI, sL_wI, sR_wI]
  | 8, h =>
    by_cases hi : i' = i
    · subst hi
      rw [if_pos ⟨rfl, rfl⟩]
      first | rfl | (simp [cct, sI_wI, sL_wI, sR_wI]; done) | (simp [cct, sI_wI, sL_wI, sR_wI]; funext jj; by_cases hj : jj = j <;> simp [sI_wI, sL_wI, sR_wI, hj])
    · rw [if_neg (fun q => hi q.2)]
      first | rfl | (simp [cct, sI_wI, sL_wI, sR_wI, hi]; done)
end
section
def f_B_headGoesTo (n : Nat) (σ : St) (a0 : Nat) : Option (Int32 × St) :=
  if (sI σ 3 a0 0) ≤ 0 then
  some ((-1), σ)
  else
  if vin 0 6 then
  (dR σ (sR σ 1 a0 (Int32.toNatClampNeg 0))).bind fun k2 =>
  some (sI σ 6 k2 0, σ)
  else none

def lp_B_sentWith_10 (n : Nat) (k : St → Int64 → Option (Int64 × St)) : Nat → St → Nat → Int32 → Int32 → Int64 → Int32 → Option (Int64 × St)
  | 0, _, _, _, _, _, _ => none
  | fu + 1, σ, v0, v1, v2, v3, v5 =>
  if v1 ≤ v5 then
  k σ v3
  else
  if (sI σ 3 v0 0) ≤ v5 then
  k σ v3
  else
  if vin v5 6 then
  (dR σ (sR σ 1 v0 (Int32.toNatClampNeg v5))).bind fun k3 =>
  if (sI σ 6 k3 0) = v2 then
  if vin v5 6 then
  (dR σ (sR σ 1 v0 (Int32.toNatClampNeg v5))).bind fun k5 =>
  lp_B_sentWith_10 n k fu σ v0 v1 v2 (v3 + (sL σ 6 k5 0)) (v5 + 1)
  else none
  else
  lp_B_sentWith_10 n k fu σ v0 v1 v2 v3 (v5 + 1)
  else none
theorem lp_B_sentWith_10_s (n : Nat) (k : St → Int64 → Option (Int64 × St)) (fu : Nat) (σ : St) (v0 : Nat) (v1 : Int32) (v2 : Int32) (v3 : Int64) (v5 : Int32) : lp_B_sentWith_10 n k (fu + 1) σ v0 v1 v2 v3 v5 =
  (if v1 ≤ v5 then
  k σ v3
  else
  if (sI σ 3 v0 0) ≤ v5 then
  k σ v3
  else
  if vin v5 6 then
  (dR σ (sR σ 1 v0 (Int32.toNatClampNeg v5))).bind fun k3 =>
  if (sI σ 6 k3 0) = v2 then
  if vin v5 6 then
  (dR σ (sR σ 1 v0 (Int32.toNatClampNeg v5))).bind fun k5 =>
  lp_B_sentWith_10 n k fu σ v0 v1 v2 (v3 + (sL σ 6 k5 0)) (v5 + 1)
  else none
  else
  lp_B_sentWith_10 n k fu σ v0 v1 v2 v3 (v5 + 1)
  else none) := rfl

def f_B_sentWith (n : Nat) (σ : St) (a0 : Nat) (x1 : Int32) (x2 : Int32) : Option (Int64 × St) :=
  if vin x2 n then
  lp_B_sentWith_10 n (fun σ7 y3_6 =>
  some (y3_6, σ7)) 1000 σ a0 x1 x2 (sL σ 5 a0 (Int32.toNatClampNeg x2)) 0
  else none

def lp_B_remove_4 (n : Nat) (k : St → Int32 → Option (Unit × St)) : Nat → St → Nat → Nat → Int32 → Int32 → Option (Unit × St)
  | 0, _, _, _, _, _ => none
  | fu + 1, σ, v0, v1, v2, v3 =>
  if (sI σ 3 v0 0) ≤ v3 then
  k σ v2
  else
  if vin v3 6 then
  (dR σ (sR σ 1 v0 (Int32.toNatClampNeg v3))).bind fun k2 =>
  if v1 < sN σ then
  if k2 = v1 then
  lp_B_remove_4 n k fu σ v0 v1 v2 (v3 + 1)
  else
  if vin v3 6 then
  (dR σ (sR σ 1 v0 (Int32.toNatClampNeg v3))).bind fun k5 =>
  if vin v2 6 then
  (some (wR σ 1 v0 (Int32.toNatClampNeg v2) (some k5))).bind fun σ7 =>
  lp_B_remove_4 n k fu σ7 v0 v1 (v2 + 1) (v3 + 1)
  else none
  else none
  else none
  else none
theorem lp_B_remove_4_s (n : Nat) (k : St → Int32 → Option (Unit × St)) (fu : Nat) (σ : St) (v0 : Nat) (v1 : Nat) (v2 : Int32) (v3 : Int32) : lp_B_remove_4 n k (fu + 1) σ v0 v1 v2 v3 =
  (if (sI σ 3 v0 0) ≤ v3 then
  k σ v2
  else
  if vin v3 6 then
  (dR σ (sR σ 1 v0 (Int32.toNatClampNeg v3))).bind fun k2 =>
  if v1 < sN σ then
  if k2 = v1 then
  lp_B_remove_4 n k fu σ v0 v1 v2 (v3 + 1)
  else
  if vin v3 6 then
  (dR σ (sR σ 1 v0 (Int32.toNatClampNeg v3))).bind fun k5 =>
  if vin v2 6 then
  (some (wR σ 1 v0 (Int32.toNatClampNeg v2) (some k5))).bind fun σ7 =>
  lp_B_remove_4 n k fu σ7 v0 v1 (v2 + 1) (v3 + 1)
  else none
  else none
  else none
  else none) := rfl

def f_B_remove (n : Nat) (σ : St) (a0 : Nat) (x1 : Nat) : Option (Unit × St) :=
  lp_B_remove_4 n (fun σ9 y2_8 =>
  (some (wI σ9 3 a0 0 y2_8)).bind fun σ10 =>
  some ((), σ10)) 1000 σ a0 x1 0 0

def lp_B_enqueue_18 (n : Nat) (k : St → Int32 → Option (Unit × St)) : Nat → St → Nat → Nat → Int32 → Option (Unit × St)
  | 0, _, _, _, _ => none
  | fu + 1, σ, v0, v1, v2 =>
  if v2 ≤ 0 then
  k σ v2
  else
  if vin (v2 - 1) 6 then
  (dR σ (sR σ 1 v0 (Int32.toNatClampNeg (v2 - 1)))).bind fun k2 =>
  if v1 < sN σ then
  if (sI σ 8 v1 0) ≤ (sI σ 8 k2 0) then
  k σ v2
  else
  if vin (v2 - 1) 6 then
  (dR σ (sR σ 1 v0 (Int32.toNatClampNeg (v2 - 1)))).bind fun k5 =>
  if vin v2 6 then
  (some (wR σ 1 v0 (Int32.toNatClampNeg v2) (some k5))).bind fun σ7 =>
  lp_B_enqueue_18 n k fu σ7 v0 v1 (v2 + (-1))
  else none
  else none
  else none
  else none
theorem lp_B_enqueue_18_s (n : Nat) (k : St → Int32 → Option (Unit × St)) (fu : Nat) (σ : St) (v0 : Nat) (v1 : Nat) (v2 : Int32) : lp_B_enqueue_18 n k (fu + 1) σ v0 v1 v2 =
  (if v2 ≤ 0 then
  k σ v2
  else
  if vin (v2 - 1) 6 then
  (dR σ (sR σ 1 v0 (Int32.toNatClampNeg (v2 - 1)))).bind fun k2 =>
  if v1 < sN σ then
  if (sI σ 8 v1 0) ≤ (sI σ 8 k2 0) then
  k σ v2
  else
  if vin (v2 - 1) 6 then
  (dR σ (sR σ 1 v0 (Int32.toNatClampNeg (v2 - 1)))).bind fun k5 =>
  if vin v2 6 then
  (some (wR σ 1 v0 (Int32.toNatClampNeg v2) (some k5))).bind fun σ7 =>
  lp_B_enqueue_18 n k fu σ7 v0 v1 (v2 + (-1))
  else none
  else none
  else none
  else none) := rfl

def f_B_enqueue (n : Nat) (σ : St) (a0 : Nat) (x1 : Nat) : Option (Unit × St) :=
  if (sI σ 3 a0 0) < (nI 6) then
  lp_B_enqueue_18 n (fun σ9 y2_8 =>
  if x1 < sN σ9 then
  if vin y2_8 6 then
  (some (wR σ9 1 a0 (Int32.toNatClampNeg y2_8) (some x1))).bind fun σ12 =>
  (some (wI σ12 3 a0 0 ((sI σ12 3 a0 0) + 1))).bind fun σ13 =>
  some ((), σ13)
  else none
  else none) 1000 σ a0 x1 (sI σ 3 a0 0)
  else
  some ((), σ)

def f_X_isBank (n : Nat) (σ : St) (x1 : Int32) : Option (Int32 × St) :=
  if x1 < 0 then
  some (0, σ)
  else
  if (nI n) ≤ x1 then
  some (0, σ)
  else
  some (1, σ)

def f_X_areTwoBanks (n : Nat) (σ : St) (x1 : Int32) (x2 : Int32) : Option (Int32 × St) :=
  (f_X_isBank n σ x1).bind fun o1 =>
  if o1.1 = 0 then
  some (0, o1.2)
  else
  (f_X_isBank n o1.2 x2).bind fun o2 =>
  if o2.1 = 0 then
  some (0, o2.2)
  else
  if x1 = x2 then
  some (0, o2.2)
  else
  some (1, o2.2)
end
section
set_option maxHeartbeats 4000000 in
set_option maxRecDepth 100000 in
theorem m_B_headGoesTo (l : Launch) (D : va_G) (cA : Nat → ClassId) (ad : Nat → Nat → Nat) (n : Nat) (A : Nat → Prop) (σ : St) (a0 : Nat) (ha0 : a0 < n) (out : Int32 × St) (hf : f_B_headGoesTo n σ a0 = some out) : Met l y_B_headGoesTo ws_B_headGoesTo ({ frames := 0, cells := 0, slots := 0, locals := 0 }) (va_Pc [.ref (ad 4 a0)] (fun U => CW D cA ad n A σ U.heap ∧ va_K D vCl (atys cA) U)) (va_Qi (fun r u => (r, u) = out) (fun u t => CW D cA ad n A u t.heap ∧ va_K D vCl (atys cA) t) A) 0 0 A := by
  refine Met.ofW (cc := prog_2_method_4_code) (maxL := 1) (ret := (some .int)) (by decide) rfl ?_
  intro p e s m args below meth c s₁ B hml hv
  obtain ⟨rfl, hW, hK⟩ := hv
  have hx := B.exec
  have hb := B.bytes
  have hr := B.returns
  have hts := atoms_spec (ws := ws_B_headGoesTo) B.pre
  have ht : ∀ w ∈ TB, w.before _ s = true := fun w h => hts w (List.mem_cons_of_mem _ h)
  have hown : s.vm.findClass "GridlockDesk$Bank" = some m.cls := findClass_of_methodNamed B.named
  have hlocks := B.notSynchronized
  have hS : va_S A s.heap s.heap [] := va_S.rf
  have hl := lv_entry ([.ref (ad 4 a0)]) (n := 1) (Nat.le_of_ble_eq_true rfl)
  rw [lg_entry_eq]
  generalize (lg_sl ([.ref (ad 4 a0)]) ++ List.replicate (1 - (lg_sl ([.ref (ad 4 a0)])).length) Slot.unset).toArray = ls at hl ⊢
  have hl : lv_has ls 1 [(0, .ref (ad 4 a0))] := hl
  unfold f_B_headGoesTo at hf
  refine lv_aload_n hx hb d_B_headGoesTo_0 rfl (lv_at hl 0 rfl) ?_
  refine va_get (D := D) (ci := 0) (C := "GridlockDesk$Bank") (T := T_B) (N := 7) hx hb ht hin_B hown hK (hW.1.one (t := 4) ha0) 0 rfl rfl 6 (by decide) (ht _ tw_74) (fun _ h9 => h9) rfl d_B_headGoesTo_1 ?_
  refine lv_if_le (tgt := 19) hx hb d_B_headGoesTo_4 rfl (fun hc => ?_) (fun hc => ?_)
  · replace hf := og_t hc hf
    refine lv_iconst (v := (-1)) hx hb d_B_headGoesTo_19 (by decide) ?_
    exact W.iret hx hb hr (fun t ht hWm => ⟨⟨_, _, rfl, Option.some.inj hf, by rw [ht]; exact hW, va_K.moved hWm.alike hK⟩, hS.F ht⟩) hS.2.2 d_B_headGoesTo_20
  · replace hf := og_f hc hf
    refine lv_aload_n hx hb d_B_headGoesTo_7 rfl (lv_at hl 0 rfl) ?_
    refine va_get (D := D) (ci := 0) (C := "GridlockDesk$Bank") (T := T_B) (N := 7) hx hb ht hin_B hown hK (hW.1.one (t := 4) ha0) 0 rfl rfl 5 (by decide) (ht _ tw_72) (fun _ h9 => h9) rfl d_B_headGoesTo_8 ?_
    refine lv_iconst (v := 0) hx hb d_B_headGoesTo_11 (by decide) ?_
    obtain ⟨hin1, hf⟩ := og_if hf
    refine va_aldq (D := D) hx hb hK (hW.1.one (t := 7) ha0) 0 3 rfl rfl hin1 d_B_headGoesTo_12 ?_
    obtain ⟨k2, hk2, hf⟩ := og_b hf
    obtain ⟨ek2, hk2⟩ := dR_spec hk2
    rw [ek2]
    refine W.eq (g2 := F0 m 13 ls [.ref (ad 8 k2)]) rfl ?_
    refine va_get (D := D) (ci := 1) (C := "GridlockDesk$Payment") (T := T_P) (N := 7) hx hb ht hin_P hown hK (hW.1.one (t := 8) hk2) 0 rfl rfl 2 (by decide) (ht _ tw_223) (fun _ h9 => h9) rfl d_B_headGoesTo_13 ?_
    refine lv_goto (tgt := 20) hx hb d_B_headGoesTo_16 rfl ?_
    exact W.iret hx hb hr (fun t ht hWm => ⟨⟨_, _, rfl, Option.some.inj hf, by rw [ht]; exact hW, va_K.moved hWm.alike hK⟩, hS.F ht⟩) hS.2.2 d_B_headGoesTo_20

set_option maxHeartbeats 4000000 in
set_option maxRecDepth 100000 in
theorem lp_B_sentWith_10_ok {p : Program} {l : Launch} {e : Env} {s : State} {m : MethodId} {args : Array Value} {below : List Frame} {meth : Method} {c : Code} (D : va_G) (cA : Nat → ClassId) (ad : Nat → Nat → Nat) (n : Nat) (A : Nat → Prop) (hx : p.tables.exec = Jvm.exec) (hb : c.code = prog_2_method_5_code) (hml : c.maxLocals = 6) (hr : meth.sig.returnType = (some .long)) (hts : ∀ w ∈ ws_B_sentWith, w.before args s = true) (hown : s.vm.findClass "GridlockDesk$Bank" = some m.cls) (hlocks : meth.locks = false) (hK : va_K D vCl (atys cA) s) (k : St → Int64 → Option (Int64 × St)) (out : Int64 × St) (v0 : Nat) (v1 : Int32) (v2 : Int32) (hk : ∀ (σ : St) (v3 : Int64) (H : Heap) (locs : List Loc) (ls : Array Slot), lv_has ls 6 [(3, .long v3)] → CW D cA ad n A σ H → va_S A s.heap H locs → k σ v3 = some out → W p l e (headSpec ws_B_sentWith ({ frames := 0, cells := 0, slots := 0, locals := 0 })).room s m args below meth c H locs 0 0 (MQ below (va_Ql (fun r u => (r, u) = out) (fun u t => CW D cA ad n A u t.heap ∧ va_K D vCl (atys cA) t) A) args s 0 0 A) (F0 m 58 ls [])) : ∀ (fu : Nat) (σ : St) (v3 : Int64) (v5 : Int32) (H : Heap) (locs : List Loc) (ls : Array Slot), v0 < n → lv_has ls 6 [(0, .ref (ad 4 v0)), (1, .int v1), (2, .int v2), (3, .long v3), (5, .int v5)] → CW D cA ad n A σ H → va_S A s.heap H locs → lp_B_sentWith_10 n k fu σ v0 v1 v2 v3 v5 = some out → W p l e (headSpec ws_B_sentWith ({ frames := 0, cells := 0, slots := 0, locals := 0 })).room s m args below meth c H locs 0 0 (MQ below (va_Ql (fun r u => (r, u) = out) (fun u t => CW D cA ad n A u t.heap ∧ va_K D vCl (atys cA) t) A) args s 0 0 A) (F0 m 10 ls []) := by
  intro fu
  induction fu with
  | zero =>
    intro σ v3 v5 H locs ls hv0 hl hW hS hf
    exact og_n hf
  | succ fu ih =>
    intro σ v3 v5 H locs ls hv0 hl hW hS hf
    rw [lp_B_sentWith_10_s] at hf
    have ht : ∀ w ∈ TB, w.before args s = true := fun w h => hts w (List.mem_cons_of_mem _ h)
    refine lv_iload hx hb d_B_sentWith_10 (lv_at hl 4 rfl) ?_
    refine lv_iload_n hx hb d_B_sentWith_12 rfl (lv_at hl 1 rfl) ?_
    refine lv_icmp_ge (tgt := 58) hx hb d_B_sentWith_13 rfl (fun hc => ?_) (fun hc => ?_)
    · replace hf := og_t hc hf
      exact hk _ _ _ _ _  (lv_sub hl [3] rfl) hW hS hf
    · replace hf := og_f hc hf
      refine lv_iload hx hb d_B_sentWith_16 (lv_at hl 4 rfl) ?_
      refine lv_aload_n hx hb d_B_sentWith_18 rfl (lv_at hl 0 rfl) ?_
      refine va_get (D := D) (ci := 0) (C := "GridlockDesk$Bank") (T := T_B) (N := 7) hx hb ht hin_B hown hK (hW.1.one (t := 4) hv0) 0 rfl rfl 6 (by decide) (ht _ tw_74) (fun _ h9 => h9) rfl d_B_sentWith_19 ?_
      refine lv_icmp_ge (tgt := 58) hx hb d_B_sentWith_22 rfl (fun hc => ?_) (fun hc => ?_)
      · replace hf := og_t hc hf
        exact hk _ _ _ _ _  (lv_sub hl [3] rfl) hW hS hf
      · replace hf := og_f hc hf
        refine lv_aload_n hx hb d_B_sentWith_25 rfl (lv_at hl 0 rfl) ?_
        refine va_get (D := D) (ci := 0) (C := "GridlockDesk$Bank") (T := T_B) (N := 7) hx hb ht hin_B hown hK (hW.1.one (t := 4) hv0) 0 rfl rfl 5 (by decide) (ht _ tw_72) (fun _ h9 => h9) rfl d_B_sentWith_26 ?_
        refine lv_iload hx hb d_B_sentWith_29 (lv_at hl 4 rfl) ?_
        obtain ⟨hin2, hf⟩ := og_if hf
        refine va_aldq (D := D) hx hb hK (hW.1.one (t := 7) hv0) 0 3 rfl rfl hin2 d_B_sentWith_31 ?_
        obtain ⟨k3, hk3, hf⟩ := og_b hf
        obtain ⟨ek3, hk3⟩ := dR_spec hk3
        rw [ek3]
        refine W.eq (g2 := F0 m 32 ls [.ref (ad 8 k3)]) rfl ?_
        refine va_get (D := D) (ci := 1) (C := "GridlockDesk$Payment") (T := T_P) (N := 7) hx hb ht hin_P hown hK (hW.1.one (t := 8) hk3) 0 rfl rfl 2 (by decide) (ht _ tw_223) (fun _ h9 => h9) rfl d_B_sentWith_32 ?_
        refine lv_iload_n hx hb d_B_sentWith_35 rfl (lv_at hl 2 rfl) ?_
        refine lv_icmp_ne (tgt := 52) hx hb d_B_sentWith_36 rfl (fun hc => ?_) (fun hc => ?_)
        · replace hf := og_f hc hf
          refine lv_iinc (k := 4) (v := _ + 1) (lv' := [(5, .int _), (0, .ref _), (1, .int _), (2, .int _), (3, .long _)]) hx hb d_B_sentWith_52 hl rfl rfl (by decide) rfl (fun ls hl => ?_)
          refine lv_goto (tgt := 10) hx hb d_B_sentWith_55 rfl ?_
          exact ih _ _ _ _ _ _ hv0 (lv_sub hl [1, 2, 3, 4, 0] rfl) hW hS hf
        · replace hf := og_t hc hf
          refine lv_lload_n hx hb d_B_sentWith_39 rfl (lv_at hl 3 rfl) ?_
          refine lv_aload_n hx hb d_B_sentWith_40 rfl (lv_at hl 0 rfl) ?_
          refine va_get (D := D) (ci := 0) (C := "GridlockDesk$Bank") (T := T_B) (N := 7) hx hb ht hin_B hown hK (hW.1.one (t := 4) hv0) 0 rfl rfl 5 (by decide) (ht _ tw_72) (fun _ h9 => h9) rfl d_B_sentWith_41 ?_
          refine lv_iload hx hb d_B_sentWith_44 (lv_at hl 4 rfl) ?_
          obtain ⟨hin4, hf⟩ := og_if hf
          refine va_aldq (D := D) hx hb hK (hW.1.one (t := 7) hv0) 0 3 rfl rfl hin4 d_B_sentWith_46 ?_
          obtain ⟨k5, hk5, hf⟩ := og_b hf
          obtain ⟨ek5, hk5⟩ := dR_spec hk5
          rw [ek5]
          refine W.eq (g2 := F0 m 47 ls [.ref (ad 8 k5), _]) rfl ?_
          refine va_get (D := D) (ci := 1) (C := "GridlockDesk$Payment") (T := T_P) (N := 7) hx hb ht hin_P hown hK (hW.1.one (t := 8) hk5) 0 rfl rfl 3 (by decide) (ht _ tw_226) (fun _ h9 => h9) rfl d_B_sentWith_47 ?_
          refine lv_ladd hx hb d_B_sentWith_50 ?_
          refine lv_lstore_n (lv' := [(3, .long _), (0, .ref _), (1, .int _), (2, .int _), (5, .int _)]) hx hb d_B_sentWith_51 rfl hl (by decide) rfl (fun ls hl => ?_)
          refine lv_iinc (k := 4) (v := _ + 1) (lv' := [(5, .int _), (3, .long _), (0, .ref _), (1, .int _), (2, .int _)]) hx hb d_B_sentWith_52 hl rfl rfl (by decide) rfl (fun ls hl => ?_)
          refine lv_goto (tgt := 10) hx hb d_B_sentWith_55 rfl ?_
          exact ih _ _ _ _ _ _ hv0 (lv_sub hl [2, 3, 4, 1, 0] rfl) hW hS hf

set_option maxHeartbeats 4000000 in
set_option maxRecDepth 100000 in
theorem m_B_sentWith (l : Launch) (D : va_G) (cA : Nat → ClassId) (ad : Nat → Nat → Nat) (n : Nat) (A : Nat → Prop) (σ : St) (a0 : Nat) (x1 : Int32) (x2 : Int32) (ha0 : a0 < n) (out : Int64 × St) (hf : f_B_sentWith n σ a0 x1 x2 = some out) : Met l y_B_sentWith ws_B_sentWith ({ frames := 0, cells := 0, slots := 0, locals := 0 }) (va_Pc [.ref (ad 4 a0), .int x1, .int x2] (fun U => CW D cA ad n A σ U.heap ∧ va_K D vCl (atys cA) U)) (va_Ql (fun r u => (r, u) = out) (fun u t => CW D cA ad n A u t.heap ∧ va_K D vCl (atys cA) t) A) 0 0 A := by
  refine Met.ofW (cc := prog_2_method_5_code) (maxL := 6) (ret := (some .long)) (by decide) rfl ?_
  intro p e s m args below meth c s₁ B hml hv
  obtain ⟨rfl, hW, hK⟩ := hv
  have hx := B.exec
  have hb := B.bytes
  have hr := B.returns
  have hts := atoms_spec (ws := ws_B_sentWith) B.pre
  have ht : ∀ w ∈ TB, w.before _ s = true := fun w h => hts w (List.mem_cons_of_mem _ h)
  have hown : s.vm.findClass "GridlockDesk$Bank" = some m.cls := findClass_of_methodNamed B.named
  have hlocks := B.notSynchronized
  have hS : va_S A s.heap s.heap [] := va_S.rf
  have hl := lv_entry ([.ref (ad 4 a0), .int x1, .int x2]) (n := 6) (Nat.le_of_ble_eq_true rfl)
  rw [lg_entry_eq]
  generalize (lg_sl ([.ref (ad 4 a0), .int x1, .int x2]) ++ List.replicate (6 - (lg_sl ([.ref (ad 4 a0), .int x1, .int x2])).length) Slot.unset).toArray = ls at hl ⊢
  have hl : lv_has ls 6 [(0, .ref (ad 4 a0)), (1, .int x1), (2, .int x2)] := hl
  unfold f_B_sentWith at hf
  refine lv_aload_n hx hb d_B_sentWith_0 rfl (lv_at hl 0 rfl) ?_
  refine va_get (D := D) (ci := 0) (C := "GridlockDesk$Bank") (T := T_B) (N := 7) hx hb ht hin_B hown hK (hW.1.one (t := 4) ha0) 0 rfl rfl 4 (by decide) (ht _ tw_70) (fun _ h9 => h9) rfl d_B_sentWith_1 ?_
  refine lv_iload_n hx hb d_B_sentWith_4 rfl (lv_at hl 2 rfl) ?_
  obtain ⟨hin1, hf⟩ := og_if hf
  refine va_lald (D := D) hx hb hK (hW.1.one (t := 6) ha0) 0 0 rfl rfl hin1 d_B_sentWith_5 ?_
  refine lv_lstore_n (lv' := [(3, .long _), (0, .ref _), (1, .int _), (2, .int _)]) hx hb d_B_sentWith_6 rfl hl (by decide) rfl (fun ls hl => ?_)
  refine lv_iconst (v := 0) hx hb d_B_sentWith_7 (by decide) ?_
  refine lv_istore (lv' := [(5, .int _), (3, .long _), (0, .ref _), (1, .int _), (2, .int _)]) hx hb d_B_sentWith_8 hl (by decide) rfl (fun ls hl => ?_)
  refine lp_B_sentWith_10_ok D cA ad n A hx hb hml hr hts hown hlocks hK _ _ _ _ _ (fun σ7 y3_6 H locs ls  hl hW hS hf => ?_) _ _ _ _ _ _ _ ha0 (lv_sub hl [2, 3, 4, 1, 0] rfl) hW hS hf
  refine lv_lload_n hx hb d_B_sentWith_58 rfl (lv_at hl 0 rfl) ?_
  exact W.lret hx hb hr (fun t ht hWm => ⟨⟨_, _, rfl, Option.some.inj hf, by rw [ht]; exact hW, va_K.moved hWm.alike hK⟩, hS.F ht⟩) hS.2.2 d_B_sentWith_59

set_option maxHeartbeats 4000000 in
set_option maxRecDepth 100000 in
theorem lp_B_remove_4_ok {p : Program} {l : Launch} {e : Env} {s : State} {m : MethodId} {args : Array Value} {below : List Frame} {meth : Method} {c : Code} (D : va_G) (cA : Nat → ClassId) (ad : Nat → Nat → Nat) (n : Nat) (A : Nat → Prop) (hx : p.tables.exec = Jvm.exec) (hb : c.code = prog_2_method_3_code) (hml : c.maxLocals = 4) (hr : meth.sig.returnType = none) (hts : ∀ w ∈ ws_B_remove, w.before args s = true) (hown : s.vm.findClass "GridlockDesk$Bank" = some m.cls) (hlocks : meth.locks = false) (hK : va_K D vCl (atys cA) s) (k : St → Int32 → Option (Unit × St)) (out : Unit × St) (v0 : Nat) (v1 : Nat) (hk : ∀ (σ : St) (v2 : Int32) (H : Heap) (locs : List Loc) (ls : Array Slot), lv_has ls 4 [(0, .ref (ad 4 v0)), (2, .int v2)] → CW D cA ad n A σ H → va_S A s.heap H locs → k σ v2 = some out → W p l e (headSpec ws_B_remove ({ frames := 0, cells := 0, slots := 0, locals := 0 })).room s m args below meth c H locs 0 0 (MQ below (va_Qv (fun u => ((), u) = out) (fun u t => CW D cA ad n A u t.heap ∧ va_K D vCl (atys cA) t) A) args s 0 0 A) (F0 m 43 ls [])) : ∀ (fu : Nat) (σ : St) (v2 : Int32) (v3 : Int32) (H : Heap) (locs : List Loc) (ls : Array Slot), v0 < n → lv_has ls 4 [(0, .ref (ad 4 v0)), (1, .ref (ad 8 v1)), (2, .int v2), (3, .int v3)] → CW D cA ad n A σ H → va_S A s.heap H locs → lp_B_remove_4 n k fu σ v0 v1 v2 v3 = some out → W p l e (headSpec ws_B_remove ({ frames := 0, cells := 0, slots := 0, locals := 0 })).room s m args below meth c H locs 0 0 (MQ below (va_Qv (fun u => ((), u) = out) (fun u t => CW D cA ad n A u t.heap ∧ va_K D vCl (atys cA) t) A) args s 0 0 A) (F0 m 4 ls []) := by
  intro fu
  induction fu with
  | zero =>
    intro σ v2 v3 H locs ls hv0 hl hW hS hf
    exact og_n hf
  | succ fu ih =>
    intro σ v2 v3 H locs ls hv0 hl hW hS hf
    rw [lp_B_remove_4_s] at hf
    have ht : ∀ w ∈ TB, w.before args s = true := fun w h => hts w (List.mem_cons_of_mem _ h)
    refine lv_iload_n hx hb d_B_remove_4 rfl (lv_at hl 3 rfl) ?_
    refine lv_aload_n hx hb d_B_remove_5 rfl (lv_at hl 0 rfl) ?_
    refine va_get (D := D) (ci := 0) (C := "GridlockDesk$Bank") (T := T_B) (N := 7) hx hb ht hin_B hown hK (hW.1.one (t := 4) hv0) 0 rfl rfl 6 (by decide) (ht _ tw_74) (fun _ h9 => h9) rfl d_B_remove_6 ?_
    refine lv_icmp_ge (tgt := 43) hx hb d_B_remove_9 rfl (fun hc => ?_) (fun hc => ?_)
    · replace hf := og_t hc hf
      exact hk _ _ _ _ _  (lv_sub hl [0, 2] rfl) hW hS hf
    · replace hf := og_f hc hf
      refine lv_aload_n hx hb d_B_remove_12 rfl (lv_at hl 0 rfl) ?_
      refine va_get (D := D) (ci := 0) (C := "GridlockDesk$Bank") (T := T_B) (N := 7) hx hb ht hin_B hown hK (hW.1.one (t := 4) hv0) 0 rfl rfl 5 (by decide) (ht _ tw_72) (fun _ h9 => h9) rfl d_B_remove_13 ?_
      refine lv_iload_n hx hb d_B_remove_16 rfl (lv_at hl 3 rfl) ?_
      obtain ⟨hin1, hf⟩ := og_if hf
      refine va_aldq (D := D) hx hb hK (hW.1.one (t := 7) hv0) 0 3 rfl rfl hin1 d_B_remove_17 ?_
      refine lv_aload_n hx hb d_B_remove_18 rfl (lv_at hl 1 rfl) ?_
      obtain ⟨k2, hk2, hf⟩ := og_b hf
      obtain ⟨ek2, hk2⟩ := dR_spec hk2
      rw [ek2]
      refine W.eq (g2 := F0 m 19 ls [_, .ref (ad 8 k2)]) rfl ?_
      obtain ⟨hn3, hf⟩ := og_if hf
      refine W.eq (g2 := F0 m 19 ls (va_rf (some (ad 8 _)) :: va_rf (some (ad 8 _)) :: [])) rfl ?_
      refine lv_acmp_eq (tgt := 37) hx hb d_B_remove_19 rfl (fun hc => ?_) (fun hc => ?_)
      · replace hc := (kw_inj (t := 8) hW.1 hk2 hn3).mp hc
        replace hf := og_t hc hf
        refine lv_iinc (k := 3) (v := _ + 1) (lv' := [(3, .int _), (0, .ref _), (1, .ref _), (2, .int _)]) hx hb d_B_remove_37 hl rfl rfl (by decide) rfl (fun ls hl => ?_)
        refine lv_goto (tgt := 4) hx hb d_B_remove_40 rfl ?_
        exact ih _ _ _ _ _ _ hv0 (lv_sub hl [1, 2, 3, 0] rfl) hW hS hf
      · replace hc := fun z => hc ((kw_inj (t := 8) hW.1 hk2 hn3).mpr z)
        replace hf := og_f hc hf
        refine lv_aload_n hx hb d_B_remove_22 rfl (lv_at hl 0 rfl) ?_
        refine va_get (D := D) (ci := 0) (C := "GridlockDesk$Bank") (T := T_B) (N := 7) hx hb ht hin_B hown hK (hW.1.one (t := 4) hv0) 0 rfl rfl 5 (by decide) (ht _ tw_72) (fun _ h9 => h9) rfl d_B_remove_23 ?_
        refine lv_iload_n hx hb d_B_remove_26 rfl (lv_at hl 2 rfl) ?_
        refine lv_aload_n hx hb d_B_remove_27 rfl (lv_at hl 0 rfl) ?_
        refine va_get (D := D) (ci := 0) (C := "GridlockDesk$Bank") (T := T_B) (N := 7) hx hb ht hin_B hown hK (hW.1.one (t := 4) hv0) 0 rfl rfl 5 (by decide) (ht _ tw_72) (fun _ h9 => h9) rfl d_B_remove_28 ?_
        refine lv_iload_n hx hb d_B_remove_31 rfl (lv_at hl 3 rfl) ?_
        obtain ⟨hin4, hf⟩ := og_if hf
        refine va_aldq (D := D) hx hb hK (hW.1.one (t := 7) hv0) 0 3 rfl rfl hin4 d_B_remove_32 ?_
        obtain ⟨k5, hk5, hf⟩ := og_b hf
        obtain ⟨ek5, hk5⟩ := dR_spec hk5
        rw [ek5]
        refine W.eq (g2 := F0 m 33 ls [.ref (ad 8 k5), _, _]) rfl ?_
        obtain ⟨hin6, hf⟩ := og_if hf
        obtain ⟨σ7, eσ7, hf⟩ := og_b hf
        cases eσ7
        refine k_aast  (t := 7) (tv := 8) hx hb hK hW.1 hS hv0 (hW.2 _ _ hv0) 3 1 hk5 rfl rfl rfl rfl hin6 d_B_remove_33 cc_wR1 (fun H locs hW1 hS => ?_)
        have hW := CW.wR hW1 hW.2
        refine lv_iinc (k := 2) (v := _ + 1) (lv' := [(2, .int _), (0, .ref _), (1, .ref _), (3, .int _)]) hx hb d_B_remove_34 hl rfl rfl (by decide) rfl (fun ls hl => ?_)
        refine lv_iinc (k := 3) (v := _ + 1) (lv' := [(3, .int _), (2, .int _), (0, .ref _), (1, .ref _)]) hx hb d_B_remove_37 hl rfl rfl (by decide) rfl (fun ls hl => ?_)
        refine lv_goto (tgt := 4) hx hb d_B_remove_40 rfl ?_
        exact ih _ _ _ _ _ _ hv0 (lv_sub hl [2, 3, 1, 0] rfl) hW hS hf

set_option maxHeartbeats 4000000 in
set_option maxRecDepth 100000 in
theorem m_B_remove (l : Launch) (D : va_G) (cA : Nat → ClassId) (ad : Nat → Nat → Nat) (n : Nat) (A : Nat → Prop) (σ : St) (a0 : Nat) (x1 : Nat) (ha0 : a0 < n) (out : Unit × St) (hf : f_B_remove n σ a0 x1 = some out) : Met l y_B_remove ws_B_remove ({ frames := 0, cells := 0, slots := 0, locals := 0 }) (va_Pc [.ref (ad 4 a0), .ref (ad 8 x1)] (fun U => CW D cA ad n A σ U.heap ∧ va_K D vCl (atys cA) U)) (va_Qv (fun u => ((), u) = out) (fun u t => CW D cA ad n A u t.heap ∧ va_K D vCl (atys cA) t) A) 0 0 A := by
  refine Met.ofW (cc := prog_2_method_3_code) (maxL := 4) (ret := none) (by decide) rfl ?_
  intro p e s m args below meth c s₁ B hml hv
  obtain ⟨rfl, hW, hK⟩ := hv
  have hx := B.exec
  have hb := B.bytes
  have hr := B.returns
  have hts := atoms_spec (ws := ws_B_remove) B.pre
  have ht : ∀ w ∈ TB, w.before _ s = true := fun w h => hts w (List.mem_cons_of_mem _ h)
  have hown : s.vm.findClass "GridlockDesk$Bank" = some m.cls := findClass_of_methodNamed B.named
  have hlocks := B.notSynchronized
  have hS : va_S A s.heap s.heap [] := va_S.rf
  have hl := lv_entry ([.ref (ad 4 a0), .ref (ad 8 x1)]) (n := 4) (Nat.le_of_ble_eq_true rfl)
  rw [lg_entry_eq]
  generalize (lg_sl ([.ref (ad 4 a0), .ref (ad 8 x1)]) ++ List.replicate (4 - (lg_sl ([.ref (ad 4 a0), .ref (ad 8 x1)])).length) Slot.unset).toArray = ls at hl ⊢
  have hl : lv_has ls 4 [(0, .ref (ad 4 a0)), (1, .ref (ad 8 x1))] := hl
  unfold f_B_remove at hf
  refine lv_iconst (v := 0) hx hb d_B_remove_0 (by decide) ?_
  refine lv_istore_n (lv' := [(2, .int _), (0, .ref _), (1, .ref _)]) hx hb d_B_remove_1 rfl hl (by decide) rfl (fun ls hl => ?_)
  refine lv_iconst (v := 0) hx hb d_B_remove_2 (by decide) ?_
  refine lv_istore_n (lv' := [(3, .int _), (2, .int _), (0, .ref _), (1, .ref _)]) hx hb d_B_remove_3 rfl hl (by decide) rfl (fun ls hl => ?_)
  refine lp_B_remove_4_ok D cA ad n A hx hb hml hr hts hown hlocks hK _ _ _ _ (fun σ9 y2_8 H locs ls  hl hW hS hf => ?_) _ _ _ _ _ _ _ ha0 (lv_sub hl [2, 3, 1, 0] rfl) hW hS hf
  refine lv_aload_n hx hb d_B_remove_43 rfl (lv_at hl 0 rfl) ?_
  refine lv_iload_n hx hb d_B_remove_44 rfl (lv_at hl 1 rfl) ?_
  obtain ⟨σ10, eσ10, hf⟩ := og_b hf
  cases eσ10
  refine k_put  (ci := 0) (C := "GridlockDesk$Bank") (T := T_B) (N := 7) (ty := .int) (t := 4) hx hb ht hin_B ft_B ft_B_ok nm_B hown hK hW.1 hS ha0 (hW.2 _ _ ha0) rfl rfl 6 (by decide) (ht _ tw_74) (fun _ h9 => h9) rfl (by decide +kernel) rfl rfl (Nat.le_of_ble_eq_true rfl) d_B_remove_45 cc_wI3 (fun H locs hW1 hS => ?_)
  have hW := CW.wI hW1 hW.2
  exact W.vret hx hb hr (fun t ht hWm => ⟨⟨_, rfl, Option.some.inj hf, by rw [ht]; exact hW, va_K.moved hWm.alike hK⟩, hS.F ht⟩) hS.2.2 d_B_remove_48

set_option maxHeartbeats 4000000 in
set_option maxRecDepth 100000 in
theorem lp_B_enqueue_18_ok {p : Program} {l : Launch} {e : Env} {s : State} {m : MethodId} {args : Array Value} {below : List Frame} {meth : Method} {c : Code} (D : va_G) (cA : Nat → ClassId) (ad : Nat → Nat → Nat) (n : Nat) (A : Nat → Prop) (hx : p.tables.exec = Jvm.exec) (hb : c.code = prog_2_method_2_code) (hml : c.maxLocals = 3) (hr : meth.sig.returnType = none) (hts : ∀ w ∈ ws_B_enqueue, w.before args s = true) (hown : s.vm.findClass "GridlockDesk$Bank" = some m.cls) (hlocks : meth.locks = false) (hK : va_K D vCl (atys cA) s) (k : St → Int32 → Option (Unit × St)) (out : Unit × St) (v0 : Nat) (v1 : Nat) (hk : ∀ (σ : St) (v2 : Int32) (H : Heap) (locs : List Loc) (ls : Array Slot), lv_has ls 3 [(0, .ref (ad 4 v0)), (1, .ref (ad 8 v1)), (2, .int v2)] → CW D cA ad n A σ H → va_S A s.heap H locs → k σ v2 = some out → W p l e (headSpec ws_B_enqueue ({ frames := 0, cells := 0, slots := 0, locals := 0 })).room s m args below meth c H locs 0 0 (MQ below (va_Qv (fun u => ((), u) = out) (fun u t => CW D cA ad n A u t.heap ∧ va_K D vCl (atys cA) t) A) args s 0 0 A) (F0 m 60 ls [])) : ∀ (fu : Nat) (σ : St) (v2 : Int32) (H : Heap) (locs : List Loc) (ls : Array Slot), v0 < n → lv_has ls 3 [(0, .ref (ad 4 v0)), (1, .ref (ad 8 v1)), (2, .int v2)] → CW D cA ad n A σ H → va_S A s.heap H locs → lp_B_enqueue_18 n k fu σ v0 v1 v2 = some out → W p l e (headSpec ws_B_enqueue ({ frames := 0, cells := 0, slots := 0, locals := 0 })).room s m args below meth c H locs 0 0 (MQ below (va_Qv (fun u => ((), u) = out) (fun u t => CW D cA ad n A u t.heap ∧ va_K D vCl (atys cA) t) A) args s 0 0 A) (F0 m 18 ls []) := by
  intro fu
  induction fu with
  | zero =>
    intro σ v2 H locs ls hv0 hl hW hS hf
    exact og_n hf
  | succ fu ih =>
    intro σ v2 H locs ls hv0 hl hW hS hf
    rw [lp_B_enqueue_18_s] at hf
    have ht : ∀ w ∈ TB, w.before args s = true := fun w h => hts w (List.mem_cons_of_mem _ h)
    refine lv_iload_n hx hb d_B_enqueue_18 rfl (lv_at hl 2 rfl) ?_
    refine lv_if_le (tgt := 60) hx hb d_B_enqueue_19 rfl (fun hc => ?_) (fun hc => ?_)
    · replace hf := og_t hc hf
      exact hk _ _ _ _ _  (lv_sub hl [0, 1, 2] rfl) hW hS hf
    · replace hf := og_f hc hf
      refine lv_aload_n hx hb d_B_enqueue_22 rfl (lv_at hl 0 rfl) ?_
      refine va_get (D := D) (ci := 0) (C := "GridlockDesk$Bank") (T := T_B) (N := 7) hx hb ht hin_B hown hK (hW.1.one (t := 4) hv0) 0 rfl rfl 5 (by decide) (ht _ tw_72) (fun _ h9 => h9) rfl d_B_enqueue_23 ?_
      refine lv_iload_n hx hb d_B_enqueue_26 rfl (lv_at hl 2 rfl) ?_
      refine lv_iconst (v := 1) hx hb d_B_enqueue_27 (by decide) ?_
      refine lv_isub hx hb d_B_enqueue_28 ?_
      obtain ⟨hin1, hf⟩ := og_if hf
      refine va_aldq (D := D) hx hb hK (hW.1.one (t := 7) hv0) 0 3 rfl rfl hin1 d_B_enqueue_29 ?_
      obtain ⟨k2, hk2, hf⟩ := og_b hf
      obtain ⟨ek2, hk2⟩ := dR_spec hk2
      rw [ek2]
      refine W.eq (g2 := F0 m 30 ls [.ref (ad 8 k2)]) rfl ?_
      refine va_get (D := D) (ci := 1) (C := "GridlockDesk$Payment") (T := T_P) (N := 7) hx hb ht hin_P hown hK (hW.1.one (t := 8) hk2) 0 rfl rfl 5 (by decide) (ht _ tw_231) (fun _ h9 => h9) rfl d_B_enqueue_30 ?_
      refine lv_aload_n hx hb d_B_enqueue_33 rfl (lv_at hl 1 rfl) ?_
      obtain ⟨hn3, hf⟩ := og_if hf
      refine va_get (D := D) (ci := 1) (C := "GridlockDesk$Payment") (T := T_P) (N := 7) hx hb ht hin_P hown hK (hW.1.one (t := 8) hn3) 0 rfl rfl 5 (by decide) (ht _ tw_231) (fun _ h9 => h9) rfl d_B_enqueue_34 ?_
      refine lv_icmp_ge (tgt := 60) hx hb d_B_enqueue_37 rfl (fun hc => ?_) (fun hc => ?_)
      · replace hf := og_t hc hf
        exact hk _ _ _ _ _  (lv_sub hl [0, 1, 2] rfl) hW hS hf
      · replace hf := og_f hc hf
        refine lv_aload_n hx hb d_B_enqueue_40 rfl (lv_at hl 0 rfl) ?_
        refine va_get (D := D) (ci := 0) (C := "GridlockDesk$Bank") (T := T_B) (N := 7) hx hb ht hin_B hown hK (hW.1.one (t := 4) hv0) 0 rfl rfl 5 (by decide) (ht _ tw_72) (fun _ h9 => h9) rfl d_B_enqueue_41 ?_
        refine lv_iload_n hx hb d_B_enqueue_44 rfl (lv_at hl 2 rfl) ?_
        refine lv_aload_n hx hb d_B_enqueue_45 rfl (lv_at hl 0 rfl) ?_
        refine va_get (D := D) (ci := 0) (C := "GridlockDesk$Bank") (T := T_B) (N := 7) hx hb ht hin_B hown hK (hW.1.one (t := 4) hv0) 0 rfl rfl 5 (by decide) (ht _ tw_72) (fun _ h9 => h9) rfl d_B_enqueue_46 ?_
        refine lv_iload_n hx hb d_B_enqueue_49 rfl (lv_at hl 2 rfl) ?_
        refine lv_iconst (v := 1) hx hb d_B_enqueue_50 (by decide) ?_
        refine lv_isub hx hb d_B_enqueue_51 ?_
        obtain ⟨hin4, hf⟩ := og_if hf
        refine va_aldq (D := D) hx hb hK (hW.1.one (t := 7) hv0) 0 3 rfl rfl hin4 d_B_enqueue_52 ?_
        obtain ⟨k5, hk5, hf⟩ := og_b hf
        obtain ⟨ek5, hk5⟩ := dR_spec hk5
        rw [ek5]
        refine W.eq (g2 := F0 m 53 ls [.ref (ad 8 k5), _, _]) rfl ?_
        obtain ⟨hin6, hf⟩ := og_if hf
        obtain ⟨σ7, eσ7, hf⟩ := og_b hf
        cases eσ7
        refine k_aast  (t := 7) (tv := 8) hx hb hK hW.1 hS hv0 (hW.2 _ _ hv0) 3 1 hk5 rfl rfl rfl rfl hin6 d_B_enqueue_53 cc_wR1 (fun H locs hW1 hS => ?_)
        have hW := CW.wR hW1 hW.2
        refine lv_iinc (k := 2) (v := _ + (-1)) (lv' := [(2, .int _), (0, .ref _), (1, .ref _)]) hx hb d_B_enqueue_54 hl rfl rfl (by decide) rfl (fun ls hl => ?_)
        refine lv_goto (tgt := 18) hx hb d_B_enqueue_57 rfl ?_
        exact ih _ _ _ _ _ hv0 (lv_sub hl [1, 2, 0] rfl) hW hS hf

set_option maxHeartbeats 4000000 in
set_option maxRecDepth 100000 in
theorem m_B_enqueue (l : Launch) (D : va_G) (cA : Nat → ClassId) (ad : Nat → Nat → Nat) (n : Nat) (A : Nat → Prop) (σ : St) (a0 : Nat) (x1 : Nat) (ha0 : a0 < n) (out : Unit × St) (hf : f_B_enqueue n σ a0 x1 = some out) : Met l y_B_enqueue ws_B_enqueue ({ frames := 0, cells := 0, slots := 0, locals := 0 }) (va_Pc [.ref (ad 4 a0), .ref (ad 8 x1)] (fun U => CW D cA ad n A σ U.heap ∧ va_K D vCl (atys cA) U)) (va_Qv (fun u => ((), u) = out) (fun u t => CW D cA ad n A u t.heap ∧ va_K D vCl (atys cA) t) A) 0 0 A := by
  refine Met.ofW (cc := prog_2_method_2_code) (maxL := 3) (ret := none) (by decide) rfl ?_
  intro p e s m args below meth c s₁ B hml hv
  obtain ⟨rfl, hW, hK⟩ := hv
  have hx := B.exec
  have hb := B.bytes
  have hr := B.returns
  have hts := atoms_spec (ws := ws_B_enqueue) B.pre
  have ht : ∀ w ∈ TB, w.before _ s = true := fun w h => hts w (List.mem_cons_of_mem _ h)
  have hown : s.vm.findClass "GridlockDesk$Bank" = some m.cls := findClass_of_methodNamed B.named
  have hlocks := B.notSynchronized
  have hS : va_S A s.heap s.heap [] := va_S.rf
  have hl := lv_entry ([.ref (ad 4 a0), .ref (ad 8 x1)]) (n := 3) (Nat.le_of_ble_eq_true rfl)
  rw [lg_entry_eq]
  generalize (lg_sl ([.ref (ad 4 a0), .ref (ad 8 x1)]) ++ List.replicate (3 - (lg_sl ([.ref (ad 4 a0), .ref (ad 8 x1)])).length) Slot.unset).toArray = ls at hl ⊢
  have hl : lv_has ls 3 [(0, .ref (ad 4 a0)), (1, .ref (ad 8 x1))] := hl
  unfold f_B_enqueue at hf
  refine lv_aload_n hx hb d_B_enqueue_0 rfl (lv_at hl 0 rfl) ?_
  refine va_get (D := D) (ci := 0) (C := "GridlockDesk$Bank") (T := T_B) (N := 7) hx hb ht hin_B hown hK (hW.1.one (t := 4) ha0) 0 rfl rfl 6 (by decide) (ht _ tw_74) (fun _ h9 => h9) rfl d_B_enqueue_1 ?_
  refine lv_aload_n hx hb d_B_enqueue_4 rfl (lv_at hl 0 rfl) ?_
  refine va_get (D := D) (ci := 0) (C := "GridlockDesk$Bank") (T := T_B) (N := 7) hx hb ht hin_B hown hK (hW.1.one (t := 4) ha0) 0 rfl rfl 5 (by decide) (ht _ tw_72) (fun _ h9 => h9) rfl d_B_enqueue_5 ?_
  refine va_alen (D := D) (v := nI 6) hx hb hK (hW.1.one (t := 7) ha0) 0 3 rfl rfl rfl d_B_enqueue_8 ?_
  refine lv_icmp_lt (tgt := 13) hx hb d_B_enqueue_9 rfl (fun hc => ?_) (fun hc => ?_)
  · replace hf := og_t hc hf
    refine lv_aload_n hx hb d_B_enqueue_13 rfl (lv_at hl 0 rfl) ?_
    refine va_get (D := D) (ci := 0) (C := "GridlockDesk$Bank") (T := T_B) (N := 7) hx hb ht hin_B hown hK (hW.1.one (t := 4) ha0) 0 rfl rfl 6 (by decide) (ht _ tw_74) (fun _ h9 => h9) rfl d_B_enqueue_14 ?_
    refine lv_istore_n (lv' := [(2, .int _), (0, .ref _), (1, .ref _)]) hx hb d_B_enqueue_17 rfl hl (by decide) rfl (fun ls hl => ?_)
    refine lp_B_enqueue_18_ok D cA ad n A hx hb hml hr hts hown hlocks hK _ _ _ _ (fun σ9 y2_8 H locs ls  hl hW hS hf => ?_) _ _ _ _ _ _ ha0 (lv_sub hl [1, 2, 0] rfl) hW hS hf
    refine lv_aload_n hx hb d_B_enqueue_60 rfl (lv_at hl 0 rfl) ?_
    refine va_get (D := D) (ci := 0) (C := "GridlockDesk$Bank") (T := T_B) (N := 7) hx hb ht hin_B hown hK (hW.1.one (t := 4) ha0) 0 rfl rfl 5 (by decide) (ht _ tw_72) (fun _ h9 => h9) rfl d_B_enqueue_61 ?_
    refine lv_iload_n hx hb d_B_enqueue_64 rfl (lv_at hl 2 rfl) ?_
    refine lv_aload_n hx hb d_B_enqueue_65 rfl (lv_at hl 1 rfl) ?_
    obtain ⟨hn10, hf⟩ := og_if hf
    obtain ⟨hin11, hf⟩ := og_if hf
    obtain ⟨σ12, eσ12, hf⟩ := og_b hf
    cases eσ12
    refine k_aast  (t := 7) (tv := 8) hx hb hK hW.1 hS ha0 (hW.2 _ _ ha0) 3 1 hn10 rfl rfl rfl rfl hin11 d_B_enqueue_66 cc_wR1 (fun H locs hW1 hS => ?_)
    have hW := CW.wR hW1 hW.2
    refine lv_aload_n hx hb d_B_enqueue_67 rfl (lv_at hl 0 rfl) ?_
    refine lv_dup hx hb d_B_enqueue_68 rfl ?_
    refine va_get (D := D) (ci := 0) (C := "GridlockDesk$Bank") (T := T_B) (N := 7) hx hb ht hin_B hown hK (hW.1.one (t := 4) ha0) 0 rfl rfl 6 (by decide) (ht _ tw_74) (fun _ h9 => h9) rfl d_B_enqueue_69 ?_
    refine lv_iconst (v := 1) hx hb d_B_enqueue_72 (by decide) ?_
    refine lv_iadd hx hb d_B_enqueue_73 ?_
    obtain ⟨σ13, eσ13, hf⟩ := og_b hf
    cases eσ13
    refine k_put  (ci := 0) (C := "GridlockDesk$Bank") (T := T_B) (N := 7) (ty := .int) (t := 4) hx hb ht hin_B ft_B ft_B_ok nm_B hown hK hW.1 hS ha0 (hW.2 _ _ ha0) rfl rfl 6 (by decide) (ht _ tw_74) (fun _ h9 => h9) rfl (by decide +kernel) rfl rfl (Nat.le_of_ble_eq_true rfl) d_B_enqueue_74 cc_wI3 (fun H locs hW1 hS => ?_)
    have hW := CW.wI hW1 hW.2
    exact W.vret hx hb hr (fun t ht hWm => ⟨⟨_, rfl, Option.some.inj hf, by rw [ht]; exact hW, va_K.moved hWm.alike hK⟩, hS.F ht⟩) hS.2.2 d_B_enqueue_77
  · replace hf := og_f hc hf
    exact W.vret hx hb hr (fun t ht hWm => ⟨⟨_, rfl, Option.some.inj hf, by rw [ht]; exact hW, va_K.moved hWm.alike hK⟩, hS.F ht⟩) hS.2.2 d_B_enqueue_12

set_option maxHeartbeats 4000000 in
set_option maxRecDepth 100000 in
theorem m_X_isBank (l : Launch) (D : va_G) (cA : Nat → ClassId) (ad : Nat → Nat → Nat) (n : Nat) (A : Nat → Prop) (σ : St) (x1 : Int32)  (out : Int32 × St) (hf : f_X_isBank n σ x1 = some out) : Met l y_X_isBank ws_X_isBank ({ frames := 0, cells := 0, slots := 0, locals := 0 }) (va_Pc [.ref (ad 0 0), .int x1] (fun U => CW D cA ad n A σ U.heap ∧ va_K D vCl (atys cA) U)) (va_Qi (fun r u => (r, u) = out) (fun u t => CW D cA ad n A u t.heap ∧ va_K D vCl (atys cA) t) A) 0 0 A := by
  refine Met.ofW (cc := prog_1_method_19_code) (maxL := 2) (ret := (some .boolean)) (by decide) rfl ?_
  intro p e s m args below meth c s₁ B hml hv
  obtain ⟨rfl, hW, hK⟩ := hv
  have hx := B.exec
  have hb := B.bytes
  have hr := B.returns
  have hts := atoms_spec (ws := ws_X_isBank) B.pre
  have ht : ∀ w ∈ TB, w.before _ s = true := fun w h => hts w (List.mem_cons_of_mem _ h)
  have hown : s.vm.findClass "GridlockDesk" = some m.cls := findClass_of_methodNamed B.named
  have hlocks := B.notSynchronized
  have hS : va_S A s.heap s.heap [] := va_S.rf
  have hl := lv_entry ([.ref (ad 0 0), .int x1]) (n := 2) (Nat.le_of_ble_eq_true rfl)
  rw [lg_entry_eq]
  generalize (lg_sl ([.ref (ad 0 0), .int x1]) ++ List.replicate (2 - (lg_sl ([.ref (ad 0 0), .int x1])).length) Slot.unset).toArray = ls at hl ⊢
  have hl : lv_has ls 2 [(0, .ref (ad 0 0)), (1, .int x1)] := hl
  unfold f_X_isBank at hf
  refine lv_iload_n hx hb d_X_isBank_0 rfl (lv_at hl 1 rfl) ?_
  refine lv_if_lt (tgt := 17) hx hb d_X_isBank_1 rfl (fun hc => ?_) (fun hc => ?_)
  · replace hf := og_t hc hf
    refine lv_iconst (v := 0) hx hb d_X_isBank_17 (by decide) ?_
    exact W.zret hx hb hr rfl (fun t ht hWm => ⟨⟨_, _, rfl, Option.some.inj hf, by rw [ht]; exact hW, va_K.moved hWm.alike hK⟩, hS.F ht⟩) hS.2.2 d_X_isBank_18
  · replace hf := og_f hc hf
    refine lv_iload_n hx hb d_X_isBank_4 rfl (lv_at hl 1 rfl) ?_
    refine lv_aload_n hx hb d_X_isBank_5 rfl (lv_at hl 0 rfl) ?_
    refine va_get (D := D) (ci := 2) (C := "GridlockDesk") (T := T_X) (N := 6) hx hb ht hin_X hown hK (hW.1.one (t := 0) rfl) 0 rfl rfl 0 (by decide) (ht _ tw_93) (fun _ h9 => h9) rfl d_X_isBank_6 ?_
    refine va_alen (D := D) (v := nI n) hx hb hK (hW.1.one (t := 1) rfl) 0 2 rfl rfl rfl d_X_isBank_9 ?_
    refine lv_icmp_ge (tgt := 17) hx hb d_X_isBank_10 rfl (fun hc => ?_) (fun hc => ?_)
    · replace hf := og_t hc hf
      refine lv_iconst (v := 0) hx hb d_X_isBank_17 (by decide) ?_
      exact W.zret hx hb hr rfl (fun t ht hWm => ⟨⟨_, _, rfl, Option.some.inj hf, by rw [ht]; exact hW, va_K.moved hWm.alike hK⟩, hS.F ht⟩) hS.2.2 d_X_isBank_18
    · replace hf := og_f hc hf
      refine lv_iconst (v := 1) hx hb d_X_isBank_13 (by decide) ?_
      refine lv_goto (tgt := 18) hx hb d_X_isBank_14 rfl ?_
      exact W.zret hx hb hr rfl (fun t ht hWm => ⟨⟨_, _, rfl, Option.some.inj hf, by rw [ht]; exact hW, va_K.moved hWm.alike hK⟩, hS.F ht⟩) hS.2.2 d_X_isBank_18

set_option maxHeartbeats 4000000 in
set_option maxRecDepth 100000 in
theorem m_X_areTwoBanks (l : Launch) (D : va_G) (cA : Nat → ClassId) (ad : Nat → Nat → Nat) (n : Nat) (A : Nat → Prop) (σ : St) (x1 : Int32) (x2 : Int32)  (out : Int32 × St) (hf : f_X_areTwoBanks n σ x1 x2 = some out) : Met l y_X_areTwoBanks ws_X_areTwoBanks ({ frames := 1, cells := 0, slots := 0, locals := 21 }) (va_Pc [.ref (ad 0 0), .int x1, .int x2] (fun U => CW D cA ad n A σ U.heap ∧ va_K D vCl (atys cA) U)) (va_Qi (fun r u => (r, u) = out) (fun u t => CW D cA ad n A u t.heap ∧ va_K D vCl (atys cA) t) A) 0 0 A := by
  refine Met.ofW (cc := prog_1_method_20_code) (maxL := 3) (ret := (some .boolean)) (by decide) rfl ?_
  intro p e s m args below meth c s₁ B hml hv
  obtain ⟨rfl, hW, hK⟩ := hv
  have hx := B.exec
  have hb := B.bytes
  have hr := B.returns
  have hts := atoms_spec (ws := ws_X_areTwoBanks) B.pre
  have ht : ∀ w ∈ TB, w.before _ s = true := fun w h => hts w (List.mem_cons_of_mem _ h)
  have hown : s.vm.findClass "GridlockDesk" = some m.cls := findClass_of_methodNamed B.named
  have hlocks := B.notSynchronized
  have hS : va_S A s.heap s.heap [] := va_S.rf
  have hl := lv_entry ([.ref (ad 0 0), .int x1, .int x2]) (n := 3) (Nat.le_of_ble_eq_true rfl)
  rw [lg_entry_eq]
  generalize (lg_sl ([.ref (ad 0 0), .int x1, .int x2]) ++ List.replicate (3 - (lg_sl ([.ref (ad 0 0), .int x1, .int x2])).length) Slot.unset).toArray = ls at hl ⊢
  have hl : lv_has ls 3 [(0, .ref (ad 0 0)), (1, .int x1), (2, .int x2)] := hl
  unfold f_X_areTwoBanks at hf
  refine lv_aload_n hx hb d_X_areTwoBanks_0 rfl (lv_at hl 0 rfl) ?_
  refine lv_iload_n hx hb d_X_areTwoBanks_1 rfl (lv_at hl 1 rfl) ?_
  obtain ⟨o1, ho1, hf⟩ := og_b hf
  refine kc_i (P := (fun u H => CW D cA ad n A u H)) (va_runV (C := "GridlockDesk") (As := [.int _]) (rest := []) ⟨hx, hb, hml, hown, hts⟩ (m_X_isBank l D cA ad n A _  _  o1 ho1) (cwV 1 hts (tb_V tw_117 tw_119 tw_0 tw_31 tw_120) rfl rfl rfl (by decide +kernel) ⟨Nat.le_of_ble_eq_true rfl, Nat.le_of_ble_eq_true rfl⟩) ⟨k_blind, kw.recv hK hW.1 (t := 0) rfl rfl rfl, k_pre hW hK⟩ rfl rfl hl.1 rfl (lv_room (Nat.le_of_ble_eq_true rfl)) d_X_areTwoBanks_2 ⟨Nat.zero_le _, Nat.zero_le _⟩) hS (fun H locs hW hS => ?_)
  refine lv_if_eq (tgt := 25) hx hb d_X_areTwoBanks_5 rfl (fun hc => ?_) (fun hc => ?_)
  · replace hf := og_t hc hf
    refine lv_iconst (v := 0) hx hb d_X_areTwoBanks_25 (by decide) ?_
    exact W.zret hx hb hr rfl (fun t ht hWm => ⟨⟨_, _, rfl, Option.some.inj hf, by rw [ht]; exact hW, va_K.moved hWm.alike hK⟩, hS.F ht⟩) hS.2.2 d_X_areTwoBanks_26
  · replace hf := og_f hc hf
    refine lv_aload_n hx hb d_X_areTwoBanks_8 rfl (lv_at hl 0 rfl) ?_
    refine lv_iload_n hx hb d_X_areTwoBanks_9 rfl (lv_at hl 2 rfl) ?_
    obtain ⟨o2, ho2, hf⟩ := og_b hf
    refine kc_i (P := (fun u H => CW D cA ad n A u H)) (va_runV (C := "GridlockDesk") (As := [.int _]) (rest := []) ⟨hx, hb, hml, hown, hts⟩ (m_X_isBank l D cA ad n A _  _  o2 ho2) (cwV 1 hts (tb_V tw_117 tw_119 tw_0 tw_31 tw_120) rfl rfl rfl (by decide +kernel) ⟨Nat.le_of_ble_eq_true rfl, Nat.le_of_ble_eq_true rfl⟩) ⟨k_blind, kw.recv hK hW.1 (t := 0) rfl rfl rfl, k_pre hW hK⟩ rfl rfl hl.1 rfl (lv_room (Nat.le_of_ble_eq_true rfl)) d_X_areTwoBanks_10 ⟨Nat.zero_le _, Nat.zero_le _⟩) hS (fun H locs hW hS => ?_)
    refine lv_if_eq (tgt := 25) hx hb d_X_areTwoBanks_13 rfl (fun hc => ?_) (fun hc => ?_)
    · replace hf := og_t hc hf
      refine lv_iconst (v := 0) hx hb d_X_areTwoBanks_25 (by decide) ?_
      exact W.zret hx hb hr rfl (fun t ht hWm => ⟨⟨_, _, rfl, Option.some.inj hf, by rw [ht]; exact hW, va_K.moved hWm.alike hK⟩, hS.F ht⟩) hS.2.2 d_X_areTwoBanks_26
    · replace hf := og_f hc hf
      refine lv_iload_n hx hb d_X_areTwoBanks_16 rfl (lv_at hl 1 rfl) ?_
      refine lv_iload_n hx hb d_X_areTwoBanks_17 rfl (lv_at hl 2 rfl) ?_
      refine lv_icmp_eq (tgt := 25) hx hb d_X_areTwoBanks_18 rfl (fun hc => ?_) (fun hc => ?_)
      · replace hf := og_t hc hf
        refine lv_iconst (v := 0) hx hb d_X_areTwoBanks_25 (by decide) ?_
        exact W.zret hx hb hr rfl (fun t ht hWm => ⟨⟨_, _, rfl, Option.some.inj hf, by rw [ht]; exact hW, va_K.moved hWm.alike hK⟩, hS.F ht⟩) hS.2.2 d_X_areTwoBanks_26
      · replace hf := og_f hc hf
        refine lv_iconst (v := 1) hx hb d_X_areTwoBanks_21 (by decide) ?_
        refine lv_goto (tgt := 26) hx hb d_X_areTwoBanks_22 rfl ?_
        exact W.zret hx hb hr rfl (fun t ht hWm => ⟨⟨_, _, rfl, Option.some.inj hf, by rw [ht]; exact hW, va_K.moved hWm.alike hK⟩, hS.F ht⟩) hS.2.2 d_X_areTwoBanks_26
end
