theorem tw_0 : .selects "GridlockDesk" ⟨"GridlockDesk", "isBank", "(I)Z"⟩ ⟨"GridlockDesk", "isBank", "(I)Z"⟩ ∈ TB := tb_in 0 (by decide +kernel) (by decide +kernel)
theorem tw_31 : .initialized "GridlockDesk" ∈ TB := tb_in 31 (by decide +kernel) (by decide +kernel)
theorem tw_70 : .fieldLink "GridlockDesk$Bank" 27 "GridlockDesk$Bank" "sent" "[J" ∈ TB := tb_in 70 (by decide +kernel) (by decide +kernel)
theorem tw_72 : .fieldLink "GridlockDesk$Bank" 32 "GridlockDesk$Bank" "queue" "[LGridlockDesk$Payment;" ∈ TB := tb_in 72 (by decide +kernel) (by decide +kernel)
theorem tw_74 : .fieldLink "GridlockDesk$Bank" 36 "GridlockDesk$Bank" "queueLength" "I" ∈ TB := tb_in 74 (by decide +kernel) (by decide +kernel)
theorem tw_93 : .fieldLink "GridlockDesk" 20 "GridlockDesk" "banks" "[LGridlockDesk$Bank;" ∈ TB := tb_in 93 (by decide +kernel) (by decide +kernel)
theorem tw_117 : .methodLink "GridlockDesk" 37 ⟨"GridlockDesk", "isBank", "(I)Z"⟩ ∈ TB := tb_in 117 (by decide +kernel) (by decide +kernel)
theorem tw_119 : .instanceMethod ⟨"GridlockDesk", "isBank", "(I)Z"⟩ ∈ TB := tb_in 119 (by decide +kernel) (by decide +kernel)
theorem tw_120 : .code ⟨"GridlockDesk", "isBank", "(I)Z"⟩ prog_1_method_19_code 2 (some .boolean) ∈ TB := tb_in 120 (by decide +kernel) (by decide +kernel)
theorem tw_223 : .fieldLink "GridlockDesk$Bank" 43 "GridlockDesk$Payment" "to" "I" ∈ TB := tb_in 223 (by decide +kernel) (by decide +kernel)
theorem tw_226 : .fieldLink "GridlockDesk$Bank" 46 "GridlockDesk$Payment" "amount" "J" ∈ TB := tb_in 226 (by decide +kernel) (by decide +kernel)
theorem tw_231 : .fieldLink "GridlockDesk$Bank" 40 "GridlockDesk$Payment" "priority" "I" ∈ TB := tb_in 231 (by decide +kernel) (by decide +kernel)
abbrev y_B_headGoesTo : MethodName := ⟨"GridlockDesk$Bank", "headGoesTo", "()I"⟩
abbrev ws_B_headGoesTo : List Cond := .code y_B_headGoesTo prog_2_method_4_code 1 (some .int) :: TB
theorem d_B_headGoesTo_0 : decode prog_2_method_4_code 0 = .ok (.aload_n 0, 1) := by decide +kernel
theorem d_B_headGoesTo_1 : decode prog_2_method_4_code 1 = .ok (.getfield 36, 3) := by decide +kernel
theorem d_B_headGoesTo_4 : decode prog_2_method_4_code 4 = .ok (.ifCond .le 15, 3) := by decide +kernel
theorem d_B_headGoesTo_7 : decode prog_2_method_4_code 7 = .ok (.aload_n 0, 1) := by decide +kernel
theorem d_B_headGoesTo_8 : decode prog_2_method_4_code 8 = .ok (.getfield 32, 3) := by decide +kernel
theorem d_B_headGoesTo_11 : decode prog_2_method_4_code 11 = .ok (.iconst 0, 1) := by decide +kernel
theorem d_B_headGoesTo_12 : decode prog_2_method_4_code 12 = .ok (.aaload, 1) := by decide +kernel
theorem d_B_headGoesTo_13 : decode prog_2_method_4_code 13 = .ok (.getfield 43, 3) := by decide +kernel
theorem d_B_headGoesTo_16 : decode prog_2_method_4_code 16 = .ok (.goto 4, 3) := by decide +kernel
theorem d_B_headGoesTo_19 : decode prog_2_method_4_code 19 = .ok (.iconst (-1), 1) := by decide +kernel
theorem d_B_headGoesTo_20 : decode prog_2_method_4_code 20 = .ok (.ireturn, 1) := by decide +kernel
abbrev y_B_sentWith : MethodName := ⟨"GridlockDesk$Bank", "sentWith", "(II)J"⟩
abbrev ws_B_sentWith : List Cond := .code y_B_sentWith prog_2_method_5_code 6 (some .long) :: TB
theorem d_B_sentWith_0 : decode prog_2_method_5_code 0 = .ok (.aload_n 0, 1) := by decide +kernel
theorem d_B_sentWith_1 : decode prog_2_method_5_code 1 = .ok (.getfield 27, 3) := by decide +kernel
theorem d_B_sentWith_4 : decode prog_2_method_5_code 4 = .ok (.iload_n 2, 1) := by decide +kernel
theorem d_B_sentWith_5 : decode prog_2_method_5_code 5 = .ok (.laload, 1) := by decide +kernel
theorem d_B_sentWith_6 : decode prog_2_method_5_code 6 = .ok (.lstore_n 3, 1) := by decide +kernel
theorem d_B_sentWith_7 : decode prog_2_method_5_code 7 = .ok (.iconst 0, 1) := by decide +kernel
theorem d_B_sentWith_8 : decode prog_2_method_5_code 8 = .ok (.istore 5, 2) := by decide +kernel
theorem d_B_sentWith_10 : decode prog_2_method_5_code 10 = .ok (.iload 5, 2) := by decide +kernel
theorem d_B_sentWith_12 : decode prog_2_method_5_code 12 = .ok (.iload_n 1, 1) := by decide +kernel
theorem d_B_sentWith_13 : decode prog_2_method_5_code 13 = .ok (.if_icmp .ge 45, 3) := by decide +kernel
theorem d_B_sentWith_16 : decode prog_2_method_5_code 16 = .ok (.iload 5, 2) := by decide +kernel
theorem d_B_sentWith_18 : decode prog_2_method_5_code 18 = .ok (.aload_n 0, 1) := by decide +kernel
theorem d_B_sentWith_19 : decode prog_2_method_5_code 19 = .ok (.getfield 36, 3) := by decide +kernel
theorem d_B_sentWith_22 : decode prog_2_method_5_code 22 = .ok (.if_icmp .ge 36, 3) := by decide +kernel
theorem d_B_sentWith_25 : decode prog_2_method_5_code 25 = .ok (.aload_n 0, 1) := by decide +kernel
theorem d_B_sentWith_26 : decode prog_2_method_5_code 26 = .ok (.getfield 32, 3) := by decide +kernel
theorem d_B_sentWith_29 : decode prog_2_method_5_code 29 = .ok (.iload 5, 2) := by decide +kernel
theorem d_B_sentWith_31 : decode prog_2_method_5_code 31 = .ok (.aaload, 1) := by decide +kernel
theorem d_B_sentWith_32 : decode prog_2_method_5_code 32 = .ok (.getfield 43, 3) := by decide +kernel
theorem d_B_sentWith_35 : decode prog_2_method_5_code 35 = .ok (.iload_n 2, 1) := by decide +kernel
theorem d_B_sentWith_36 : decode prog_2_method_5_code 36 = .ok (.if_icmp .ne 16, 3) := by decide +kernel
theorem d_B_sentWith_39 : decode prog_2_method_5_code 39 = .ok (.lload_n 3, 1) := by decide +kernel
theorem d_B_sentWith_40 : decode prog_2_method_5_code 40 = .ok (.aload_n 0, 1) := by decide +kernel
theorem d_B_sentWith_41 : decode prog_2_method_5_code 41 = .ok (.getfield 32, 3) := by decide +kernel
theorem d_B_sentWith_44 : decode prog_2_method_5_code 44 = .ok (.iload 5, 2) := by decide +kernel
theorem d_B_sentWith_46 : decode prog_2_method_5_code 46 = .ok (.aaload, 1) := by decide +kernel
theorem d_B_sentWith_47 : decode prog_2_method_5_code 47 = .ok (.getfield 46, 3) := by decide +kernel
theorem d_B_sentWith_50 : decode prog_2_method_5_code 50 = .ok (.ladd, 1) := by decide +kernel
theorem d_B_sentWith_51 : decode prog_2_method_5_code 51 = .ok (.lstore_n 3, 1) := by decide +kernel
theorem d_B_sentWith_52 : decode prog_2_method_5_code 52 = .ok (.iinc 5 1, 3) := by decide +kernel
theorem d_B_sentWith_55 : decode prog_2_method_5_code 55 = .ok (.goto (-45), 3) := by decide +kernel
theorem d_B_sentWith_58 : decode prog_2_method_5_code 58 = .ok (.lload_n 3, 1) := by decide +kernel
theorem d_B_sentWith_59 : decode prog_2_method_5_code 59 = .ok (.lreturn, 1) := by decide +kernel
abbrev y_B_remove : MethodName := ⟨"GridlockDesk$Bank", "remove", "(LGridlockDesk$Payment;)V"⟩
abbrev ws_B_remove : List Cond := .code y_B_remove prog_2_method_3_code 4 none :: TB
theorem d_B_remove_0 : decode prog_2_method_3_code 0 = .ok (.iconst 0, 1) := by decide +kernel
theorem d_B_remove_1 : decode prog_2_method_3_code 1 = .ok (.istore_n 2, 1) := by decide +kernel
theorem d_B_remove_2 : decode prog_2_method_3_code 2 = .ok (.iconst 0, 1) := by decide +kernel
theorem d_B_remove_3 : decode prog_2_method_3_code 3 = .ok (.istore_n 3, 1) := by decide +kernel
theorem d_B_remove_4 : decode prog_2_method_3_code 4 = .ok (.iload_n 3, 1) := by decide +kernel
theorem d_B_remove_5 : decode prog_2_method_3_code 5 = .ok (.aload_n 0, 1) := by decide +kernel
theorem d_B_remove_6 : decode prog_2_method_3_code 6 = .ok (.getfield 36, 3) := by decide +kernel
theorem d_B_remove_9 : decode prog_2_method_3_code 9 = .ok (.if_icmp .ge 34, 3) := by decide +kernel
theorem d_B_remove_12 : decode prog_2_method_3_code 12 = .ok (.aload_n 0, 1) := by decide +kernel
theorem d_B_remove_13 : decode prog_2_method_3_code 13 = .ok (.getfield 32, 3) := by decide +kernel
theorem d_B_remove_16 : decode prog_2_method_3_code 16 = .ok (.iload_n 3, 1) := by decide +kernel
theorem d_B_remove_17 : decode prog_2_method_3_code 17 = .ok (.aaload, 1) := by decide +kernel
theorem d_B_remove_18 : decode prog_2_method_3_code 18 = .ok (.aload_n 1, 1) := by decide +kernel
theorem d_B_remove_19 : decode prog_2_method_3_code 19 = .ok (.if_acmp .eq 18, 3) := by decide +kernel
theorem d_B_remove_22 : decode prog_2_method_3_code 22 = .ok (.aload_n 0, 1) := by decide +kernel
theorem d_B_remove_23 : decode prog_2_method_3_code 23 = .ok (.getfield 32, 3) := by decide +kernel
theorem d_B_remove_26 : decode prog_2_method_3_code 26 = .ok (.iload_n 2, 1) := by decide +kernel
theorem d_B_remove_27 : decode prog_2_method_3_code 27 = .ok (.aload_n 0, 1) := by decide +kernel
theorem d_B_remove_28 : decode prog_2_method_3_code 28 = .ok (.getfield 32, 3) := by decide +kernel
theorem d_B_remove_31 : decode prog_2_method_3_code 31 = .ok (.iload_n 3, 1) := by decide +kernel
theorem d_B_remove_32 : decode prog_2_method_3_code 32 = .ok (.aaload, 1) := by decide +kernel
theorem d_B_remove_33 : decode prog_2_method_3_code 33 = .ok (.aastore, 1) := by decide +kernel
theorem d_B_remove_34 : decode prog_2_method_3_code 34 = .ok (.iinc 2 1, 3) := by decide +kernel
theorem d_B_remove_37 : decode prog_2_method_3_code 37 = .ok (.iinc 3 1, 3) := by decide +kernel
theorem d_B_remove_40 : decode prog_2_method_3_code 40 = .ok (.goto (-36), 3) := by decide +kernel
theorem d_B_remove_43 : decode prog_2_method_3_code 43 = .ok (.aload_n 0, 1) := by decide +kernel
theorem d_B_remove_44 : decode prog_2_method_3_code 44 = .ok (.iload_n 2, 1) := by decide +kernel
theorem d_B_remove_45 : decode prog_2_method_3_code 45 = .ok (.putfield 36, 3) := by decide +kernel
theorem d_B_remove_48 : decode prog_2_method_3_code 48 = .ok (.return_, 1) := by decide +kernel
abbrev y_B_enqueue : MethodName := ⟨"GridlockDesk$Bank", "enqueue", "(LGridlockDesk$Payment;)V"⟩
abbrev ws_B_enqueue : List Cond := .code y_B_enqueue prog_2_method_2_code 3 none :: TB
theorem d_B_enqueue_0 : decode prog_2_method_2_code 0 = .ok (.aload_n 0, 1) := by decide +kernel
theorem d_B_enqueue_1 : decode prog_2_method_2_code 1 = .ok (.getfield 36, 3) := by decide +kernel
theorem d_B_enqueue_4 : decode prog_2_method_2_code 4 = .ok (.aload_n 0, 1) := by decide +kernel
theorem d_B_enqueue_5 : decode prog_2_method_2_code 5 = .ok (.getfield 32, 3) := by decide +kernel
theorem d_B_enqueue_8 : decode prog_2_method_2_code 8 = .ok (.arraylength, 1) := by decide +kernel
theorem d_B_enqueue_9 : decode prog_2_method_2_code 9 = .ok (.if_icmp .lt 4, 3) := by decide +kernel
theorem d_B_enqueue_12 : decode prog_2_method_2_code 12 = .ok (.return_, 1) := by decide +kernel
theorem d_B_enqueue_13 : decode prog_2_method_2_code 13 = .ok (.aload_n 0, 1) := by decide +kernel
theorem d_B_enqueue_14 : decode prog_2_method_2_code 14 = .ok (.getfield 36, 3) := by decide +kernel
theorem d_B_enqueue_17 : decode prog_2_method_2_code 17 = .ok (.istore_n 2, 1) := by decide +kernel
theorem d_B_enqueue_18 : decode prog_2_method_2_code 18 = .ok (.iload_n 2, 1) := by decide +kernel
theorem d_B_enqueue_19 : decode prog_2_method_2_code 19 = .ok (.ifCond .le 41, 3) := by decide +kernel
theorem d_B_enqueue_22 : decode prog_2_method_2_code 22 = .ok (.aload_n 0, 1) := by decide +kernel
theorem d_B_enqueue_23 : decode prog_2_method_2_code 23 = .ok (.getfield 32, 3) := by decide +kernel
theorem d_B_enqueue_26 : decode prog_2_method_2_code 26 = .ok (.iload_n 2, 1) := by decide +kernel
theorem d_B_enqueue_27 : decode prog_2_method_2_code 27 = .ok (.iconst 1, 1) := by decide +kernel
theorem d_B_enqueue_28 : decode prog_2_method_2_code 28 = .ok (.isub, 1) := by decide +kernel
theorem d_B_enqueue_29 : decode prog_2_method_2_code 29 = .ok (.aaload, 1) := by decide +kernel
theorem d_B_enqueue_30 : decode prog_2_method_2_code 30 = .ok (.getfield 40, 3) := by decide +kernel
theorem d_B_enqueue_33 : decode prog_2_method_2_code 33 = .ok (.aload_n 1, 1) := by decide +kernel
theorem d_B_enqueue_34 : decode prog_2_method_2_code 34 = .ok (.getfield 40, 3) := by decide +kernel
theorem d_B_enqueue_37 : decode prog_2_method_2_code 37 = .ok (.if_icmp .ge 23, 3) := by decide +kernel
theorem d_B_enqueue_40 : decode prog_2_method_2_code 40 = .ok (.aload_n 0, 1) := by decide +kernel
theorem d_B_enqueue_41 : decode prog_2_method_2_code 41 = .ok (.getfield 32, 3) := by decide +kernel
theorem d_B_enqueue_44 : decode prog_2_method_2_code 44 = .ok (.iload_n 2, 1) := by decide +kernel
theorem d_B_enqueue_45 : decode prog_2_method_2_code 45 = .ok (.aload_n 0, 1) := by decide +kernel
theorem d_B_enqueue_46 : decode prog_2_method_2_code 46 = .ok (.getfield 32, 3) := by decide +kernel
theorem d_B_enqueue_49 : decode prog_2_method_2_code 49 = .ok (.iload_n 2, 1) := by decide +kernel
theorem d_B_enqueue_50 : decode prog_2_method_2_code 50 = .ok (.iconst 1, 1) := by decide +kernel
theorem d_B_enqueue_51 : decode prog_2_method_2_code 51 = .ok (.isub, 1) := by decide +kernel
theorem d_B_enqueue_52 : decode prog_2_method_2_code 52 = .ok (.aaload, 1) := by decide +kernel
theorem d_B_enqueue_53 : decode prog_2_method_2_code 53 = .ok (.aastore, 1) := by decide +kernel
theorem d_B_enqueue_54 : decode prog_2_method_2_code 54 = .ok (.iinc 2 (-1), 3) := by decide +kernel
theorem d_B_enqueue_57 : decode prog_2_method_2_code 57 = .ok (.goto (-39), 3) := by decide +kernel
theorem d_B_enqueue_60 : decode prog_2_method_2_code 60 = .ok (.aload_n 0, 1) := by decide +kernel
theorem d_B_enqueue_61 : decode prog_2_method_2_code 61 = .ok (.getfield 32, 3) := by decide +kernel
theorem d_B_enqueue_64 : decode prog_2_method_2_code 64 = .ok (.iload_n 2, 1) := by decide +kernel
theorem d_B_enqueue_65 : decode prog_2_method_2_code 65 = .ok (.aload_n 1, 1) := by decide +kernel
theorem d_B_enqueue_66 : decode prog_2_method_2_code 66 = .ok (.aastore, 1) := by decide +kernel
theorem d_B_enqueue_67 : decode prog_2_method_2_code 67 = .ok (.aload_n 0, 1) := by decide +kernel
theorem d_B_enqueue_68 : decode prog_2_method_2_code 68 = .ok (.dup, 1) := by decide +kernel
theorem d_B_enqueue_69 : decode prog_2_method_2_code 69 = .ok (.getfield 36, 3) := by decide +kernel
theorem d_B_enqueue_72 : decode prog_2_method_2_code 72 = .ok (.iconst 1, 1) := by decide +kernel
theorem d_B_enqueue_73 : decode prog_2_method_2_code 73 = .ok (.iadd, 1) := by decide +kernel
theorem d_B_enqueue_74 : decode prog_2_method_2_code 74 = .ok (.putfield 36, 3) := by decide +kernel
theorem d_B_enqueue_77 : decode prog_2_method_2_code 77 = .ok (.return_, 1) := by decide +kernel
abbrev y_X_isBank : MethodName := ⟨"GridlockDesk", "isBank", "(I)Z"⟩
abbrev ws_X_isBank : List Cond := .code y_X_isBank prog_1_method_19_code 2 (some .boolean) :: TB
theorem d_X_isBank_0 : decode prog_1_method_19_code 0 = .ok (.iload_n 1, 1) := by decide +kernel
theorem d_X_isBank_1 : decode prog_1_method_19_code 1 = .ok (.ifCond .lt 16, 3) := by decide +kernel
theorem d_X_isBank_4 : decode prog_1_method_19_code 4 = .ok (.iload_n 1, 1) := by decide +kernel
theorem d_X_isBank_5 : decode prog_1_method_19_code 5 = .ok (.aload_n 0, 1) := by decide +kernel
theorem d_X_isBank_6 : decode prog_1_method_19_code 6 = .ok (.getfield 20, 3) := by decide +kernel
theorem d_X_isBank_9 : decode prog_1_method_19_code 9 = .ok (.arraylength, 1) := by decide +kernel
theorem d_X_isBank_10 : decode prog_1_method_19_code 10 = .ok (.if_icmp .ge 7, 3) := by decide +kernel
theorem d_X_isBank_13 : decode prog_1_method_19_code 13 = .ok (.iconst 1, 1) := by decide +kernel
theorem d_X_isBank_14 : decode prog_1_method_19_code 14 = .ok (.goto 4, 3) := by decide +kernel
theorem d_X_isBank_17 : decode prog_1_method_19_code 17 = .ok (.iconst 0, 1) := by decide +kernel
theorem d_X_isBank_18 : decode prog_1_method_19_code 18 = .ok (.ireturn, 1) := by decide +kernel
abbrev y_X_areTwoBanks : MethodName := ⟨"GridlockDesk", "areTwoBanks", "(II)Z"⟩
abbrev ws_X_areTwoBanks : List Cond := .code y_X_areTwoBanks prog_1_method_20_code 3 (some .boolean) :: TB
theorem d_X_areTwoBanks_0 : decode prog_1_method_20_code 0 = .ok (.aload_n 0, 1) := by decide +kernel
theorem d_X_areTwoBanks_1 : decode prog_1_method_20_code 1 = .ok (.iload_n 1, 1) := by decide +kernel
theorem d_X_areTwoBanks_2 : decode prog_1_method_20_code 2 = .ok (.invokevirtual 37, 3) := by decide +kernel
theorem d_X_areTwoBanks_5 : decode prog_1_method_20_code 5 = .ok (.ifCond .eq 20, 3) := by decide +kernel
theorem d_X_areTwoBanks_8 : decode prog_1_method_20_code 8 = .ok (.aload_n 0, 1) := by decide +kernel
theorem d_X_areTwoBanks_9 : decode prog_1_method_20_code 9 = .ok (.iload_n 2, 1) := by decide +kernel
theorem d_X_areTwoBanks_10 : decode prog_1_method_20_code 10 = .ok (.invokevirtual 37, 3) := by decide +kernel
theorem d_X_areTwoBanks_13 : decode prog_1_method_20_code 13 = .ok (.ifCond .eq 12, 3) := by decide +kernel
theorem d_X_areTwoBanks_16 : decode prog_1_method_20_code 16 = .ok (.iload_n 1, 1) := by decide +kernel
theorem d_X_areTwoBanks_17 : decode prog_1_method_20_code 17 = .ok (.iload_n 2, 1) := by decide +kernel
theorem d_X_areTwoBanks_18 : decode prog_1_method_20_code 18 = .ok (.if_icmp .eq 7, 3) := by decide +kernel
theorem d_X_areTwoBanks_21 : decode prog_1_method_20_code 21 = .ok (.iconst 1, 1) := by decide +kernel
theorem d_X_areTwoBanks_22 : decode prog_1_method_20_code 22 = .ok (.goto 4, 3) := by decide +kernel
theorem d_X_areTwoBanks_25 : decode prog_1_method_20_code 25 = .ok (.iconst 0, 1) := by decide +kernel
theorem d_X_areTwoBanks_26 : decode prog_1_method_20_code 26 = .ok (.ireturn, 1) := by decide +kernel
