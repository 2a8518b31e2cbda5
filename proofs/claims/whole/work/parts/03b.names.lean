abbrev y_J_fillI : MethodName := ⟨"java/util/Arrays", "fill", "([II)V"⟩
abbrev ws_J_fillI : List Cond := .code y_J_fillI prog_7_method_103_code 4 none :: TB
theorem d_J_fillI_0 : decode prog_7_method_103_code 0 = .ok (.iconst 0, 1) := by decide +kernel
theorem d_J_fillI_1 : decode prog_7_method_103_code 1 = .ok (.istore_n 2, 1) := by decide +kernel
theorem d_J_fillI_2 : decode prog_7_method_103_code 2 = .ok (.aload_n 0, 1) := by decide +kernel
theorem d_J_fillI_3 : decode prog_7_method_103_code 3 = .ok (.arraylength, 1) := by decide +kernel
theorem d_J_fillI_4 : decode prog_7_method_103_code 4 = .ok (.istore_n 3, 1) := by decide +kernel
theorem d_J_fillI_5 : decode prog_7_method_103_code 5 = .ok (.iload_n 2, 1) := by decide +kernel
theorem d_J_fillI_6 : decode prog_7_method_103_code 6 = .ok (.iload_n 3, 1) := by decide +kernel
theorem d_J_fillI_7 : decode prog_7_method_103_code 7 = .ok (.if_icmp .ge 13, 3) := by decide +kernel
theorem d_J_fillI_10 : decode prog_7_method_103_code 10 = .ok (.aload_n 0, 1) := by decide +kernel
theorem d_J_fillI_11 : decode prog_7_method_103_code 11 = .ok (.iload_n 2, 1) := by decide +kernel
theorem d_J_fillI_12 : decode prog_7_method_103_code 12 = .ok (.iload_n 1, 1) := by decide +kernel
theorem d_J_fillI_13 : decode prog_7_method_103_code 13 = .ok (.iastore, 1) := by decide +kernel
theorem d_J_fillI_14 : decode prog_7_method_103_code 14 = .ok (.iinc 2 1, 3) := by decide +kernel
theorem d_J_fillI_17 : decode prog_7_method_103_code 17 = .ok (.goto (-12), 3) := by decide +kernel
theorem d_J_fillI_20 : decode prog_7_method_103_code 20 = .ok (.return_, 1) := by decide +kernel
abbrev y_J_fillJ : MethodName := ⟨"java/util/Arrays", "fill", "([JJ)V"⟩
abbrev ws_J_fillJ : List Cond := .code y_J_fillJ prog_7_method_101_code 5 none :: TB
theorem d_J_fillJ_0 : decode prog_7_method_101_code 0 = .ok (.iconst 0, 1) := by decide +kernel
theorem d_J_fillJ_1 : decode prog_7_method_101_code 1 = .ok (.istore_n 3, 1) := by decide +kernel
theorem d_J_fillJ_2 : decode prog_7_method_101_code 2 = .ok (.aload_n 0, 1) := by decide +kernel
theorem d_J_fillJ_3 : decode prog_7_method_101_code 3 = .ok (.arraylength, 1) := by decide +kernel
theorem d_J_fillJ_4 : decode prog_7_method_101_code 4 = .ok (.istore 4, 2) := by decide +kernel
theorem d_J_fillJ_6 : decode prog_7_method_101_code 6 = .ok (.iload_n 3, 1) := by decide +kernel
theorem d_J_fillJ_7 : decode prog_7_method_101_code 7 = .ok (.iload 4, 2) := by decide +kernel
theorem d_J_fillJ_9 : decode prog_7_method_101_code 9 = .ok (.if_icmp .ge 13, 3) := by decide +kernel
theorem d_J_fillJ_12 : decode prog_7_method_101_code 12 = .ok (.aload_n 0, 1) := by decide +kernel
theorem d_J_fillJ_13 : decode prog_7_method_101_code 13 = .ok (.iload_n 3, 1) := by decide +kernel
theorem d_J_fillJ_14 : decode prog_7_method_101_code 14 = .ok (.lload_n 1, 1) := by decide +kernel
theorem d_J_fillJ_15 : decode prog_7_method_101_code 15 = .ok (.lastore, 1) := by decide +kernel
theorem d_J_fillJ_16 : decode prog_7_method_101_code 16 = .ok (.iinc 3 1, 3) := by decide +kernel
theorem d_J_fillJ_19 : decode prog_7_method_101_code 19 = .ok (.goto (-13), 3) := by decide +kernel
theorem d_J_fillJ_22 : decode prog_7_method_101_code 22 = .ok (.return_, 1) := by decide +kernel
abbrev y_B_headGoesTo : MethodName := ⟨"GridlockDesk$Bank", "headGoesTo", "()I"⟩
abbrev ws_B_headGoesTo : List Cond := .code y_B_headGoesTo prog_2_method_4_code 1 (some .int) :: TB
theorem d_B_headGoesTo_0 : decode prog_2_method_4_code 0 = .ok (.aload_n 0, 1) := by decide +kernel
theorem d_B_headGoesTo_1 : decode prog_2_method_4_code 1 = .ok (.getfield 36, 3) := by decide +kernel
theorem d_B_headGoesTo_4 : decode prog_2_method_4_code 4 = .ok (.ifCond .le 15, 3) := by decide +kernel
theorem d_B_headGoesTo_7 : decode prog_2_method_4_code 7 = .ok (.aload_n 0, 1) := by decide +kernel
theorem d_B_headGoesTo_8 : decode prog_2_method_4_code 8 = .ok (.getfield 32, 3) := by decide +kernel
theorem d_B_headGoesTo_11 : decode prog_2_method_4_code 11 = .ok (.iconst 0, 1) := by decide +kernel
theorem d_B_headGoesTo_12 : decode prog_2_method_4_code 12 = .ok (.aaload, 1) := by decide +kernel
theorem d_B_headGoesTo_13 : decode prog_2_method_4_code 13 = .ok (.getfield 43, 3) := by decide +kernel
theorem d_B_headGoesTo_16 : decode prog_2_method_4_code 16 = .ok (.goto 4, 3) := by decide +kernel
theorem d_B_headGoesTo_19 : decode prog_2_method_4_code 19 = .ok (.iconst (-1), 1) := by decide +kernel
theorem d_B_headGoesTo_20 : decode prog_2_method_4_code 20 = .ok (.ireturn, 1) := by decide +kernel
abbrev y_B_sentWith : MethodName := ⟨"GridlockDesk$Bank", "sentWith", "(II)J"⟩
abbrev ws_B_sentWith : List Cond := .code y_B_sentWith prog_2_method_5_code 6 (some .long) :: TB
theorem d_B_sentWith_0 : decode prog_2_method_5_code 0 = .ok (.aload_n 0, 1) := by decide +kernel
theorem d_B_sentWith_1 : decode prog_2_method_5_code 1 = .ok (.getfield 27, 3) := by decide +kernel
theorem d_B_sentWith_4 : decode prog_2_method_5_code 4 = .ok (.iload_n 2, 1) := by decide +kernel
theorem d_B_sentWith_5 : decode prog_2_method_5_code 5 = .ok (.laload, 1) := by decide +kernel
theorem d_B_sentWith_6 : decode prog_2_method_5_code 6 = .ok (.lstore_n 3, 1) := by decide +kernel
theorem d_B_sentWith_7 : decode prog_2_method_5_code 7 = .ok (.iconst 0, 1) := by decide +kernel
theorem d_B_sentWith_8 : decode prog_2_method_5_code 8 = .ok (.istore 5, 2) := by decide +kernel
theorem d_B_sentWith_10 : decode prog_2_method_5_code 10 = .ok (.iload 5, 2) := by decide +kernel
theorem d_B_sentWith_12 : decode prog_2_method_5_code 12 = .ok (.iload_n 1, 1) := by decide +kernel
theorem d_B_sentWith_13 : decode prog_2_method_5_code 13 = .ok (.if_icmp .ge 45, 3) := by decide +kernel
theorem d_B_sentWith_16 : decode prog_2_method_5_code 16 = .ok (.iload 5, 2) := by decide +kernel
theorem d_B_sentWith_18 : decode prog_2_method_5_code 18 = .ok (.aload_n 0, 1) := by decide +kernel
theorem d_B_sentWith_19 : decode prog_2_method_5_code 19 = .ok (.getfield 36, 3) := by decide +kernel
theorem d_B_sentWith_22 : decode prog_2_method_5_code 22 = .ok (.if_icmp .ge 36, 3) := by decide +kernel
theorem d_B_sentWith_25 : decode prog_2_method_5_code 25 = .ok (.aload_n 0, 1) := by decide +kernel
theorem d_B_sentWith_26 : decode prog_2_method_5_code 26 = .ok (.getfield 32, 3) := by decide +kernel
theorem d_B_sentWith_29 : decode prog_2_method_5_code 29 = .ok (.iload 5, 2) := by decide +kernel
theorem d_B_sentWith_31 : decode prog_2_method_5_code 31 = .ok (.aaload, 1) := by decide +kernel
theorem d_B_sentWith_32 : decode prog_2_method_5_code 32 = .ok (.getfield 43, 3) := by decide +kernel
theorem d_B_sentWith_35 : decode prog_2_method_5_code 35 = .ok (.iload_n 2, 1) := by decide +kernel
theorem d_B_sentWith_36 : decode prog_2_method_5_code 36 = .ok (.if_icmp .ne 16, 3) := by decide +kernel
theorem d_B_sentWith_39 : decode prog_2_method_5_code 39 = .ok (.lload_n 3, 1) := by decide +kernel
theorem d_B_sentWith_40 : decode prog_2_method_5_code 40 = .ok (.aload_n 0, 1) := by decide +kernel
theorem d_B_sentWith_41 : decode prog_2_method_5_code 41 = .ok (.getfield 32, 3) := by decide +kernel
theorem d_B_sentWith_44 : decode prog_2_method_5_code 44 = .ok (.iload 5, 2) := by decide +kernel
theorem d_B_sentWith_46 : decode prog_2_method_5_code 46 = .ok (.aaload, 1) := by decide +kernel
theorem d_B_sentWith_47 : decode prog_2_method_5_code 47 = .ok (.getfield 46, 3) := by decide +kernel
theorem d_B_sentWith_50 : decode prog_2_method_5_code 50 = .ok (.ladd, 1) := by decide +kernel
theorem d_B_sentWith_51 : decode prog_2_method_5_code 51 = .ok (.lstore_n 3, 1) := by decide +kernel
theorem d_B_sentWith_52 : decode prog_2_method_5_code 52 = .ok (.iinc 5 1, 3) := by decide +kernel
theorem d_B_sentWith_55 : decode prog_2_method_5_code 55 = .ok (.goto (-45), 3) := by decide +kernel
theorem d_B_sentWith_58 : decode prog_2_method_5_code 58 = .ok (.lload_n 3, 1) := by decide +kernel
theorem d_B_sentWith_59 : decode prog_2_method_5_code 59 = .ok (.lreturn, 1) := by decide +kernel
abbrev y_B_remove : MethodName := ⟨"GridlockDesk$Bank", "remove", "(LGridlockDesk$Payment;)V"⟩
abbrev ws_B_remove : List Cond := .code y_B_remove prog_2_method_3_code 4 none :: TB
theorem d_B_remove_0 : decode prog_2_method_3_code 0 = .ok (.iconst 0, 1) := by decide +kernel
theorem d_B_remove_1 : decode prog_2_method_3_code 1 = .ok (.istore_n 2, 1) := by decide +kernel
theorem d_B_remove_2 : decode prog_2_method_3_code 2 = .ok (.iconst 0, 1) := by decide +kernel
theorem d_B_remove_3 : decode prog_2_method_3_code 3 = .ok (.istore_n 3, 1) := by decide +kernel
theorem d_B_remove_4 : decode prog_2_method_3_code 4 = .ok (.iload_n 3, 1) := by decide +kernel
theorem d_B_remove_5 : decode prog_2_method_3_code 5 = .ok (.aload_n 0, 1) := by decide +kernel
theorem d_B_remove_6 : decode prog_2_method_3_code 6 = .ok (.getfield 36, 3) := by decide +kernel
theorem d_B_remove_9 : decode prog_2_method_3_code 9 = .ok (.if_icmp .ge 34, 3) := by decide +kernel
theorem d_B_remove_12 : decode prog_2_method_3_code 12 = .ok (.aload_n 0, 1) := by decide +kernel
theorem d_B_remove_13 : decode prog_2_method_3_code 13 = .ok (.getfield 32, 3) := by decide +kernel
theorem d_B_remove_16 : decode prog_2_method_3_code 16 = .ok (.iload_n 3, 1) := by decide +kernel
theorem d_B_remove_17 : decode prog_2_method_3_code 17 = .ok (.aaload, 1) := by decide +kernel
theorem d_B_remove_18 : decode prog_2_method_3_code 18 = .ok (.aload_n 1, 1) := by decide +kernel
theorem d_B_remove_19 : decode prog_2_method_3_code 19 = .ok (.if_acmp .eq 18, 3) := by decide +kernel
theorem d_B_remove_22 : decode prog_2_method_3_code 22 = .ok (.aload_n 0, 1) := by decide +kernel
theorem d_B_remove_23 : decode prog_2_method_3_code 23 = .ok (.getfield 32, 3) := by decide +kernel
theorem d_B_remove_26 : decode prog_2_method_3_code 26 = .ok (.iload_n 2, 1) := by decide +kernel
theorem d_B_remove_27 : decode prog_2_method_3_code 27 = .ok (.aload_n 0, 1) := by decide +kernel
theorem d_B_remove_28 : decode prog_2_method_3_code 28 = .ok (.getfield 32, 3) := by decide +kernel
theorem d_B_remove_31 : decode prog_2_method_3_code 31 = .ok (.iload_n 3, 1) := by decide +kernel
theorem d_B_remove_32 : decode prog_2_method_3_code 32 = .ok (.aaload, 1) := by decide +kernel
theorem d_B_remove_33 : decode prog_2_method_3_code 33 = .ok (.aastore, 1) := by decide +kernel
theorem d_B_remove_34 : decode prog_2_method_3_code 34 = .ok (.iinc 2 1, 3) := by decide +kernel
theorem d_B_remove_37 : decode prog_2_method_3_code 37 = .ok (.iinc 3 1, 3) := by decide +kernel
theorem d_B_remove_40 : decode prog_2_method_3_code 40 = .ok (.goto (-36), 3) := by decide +kernel
theorem d_B_remove_43 : decode prog_2_method_3_code 43 = .ok (.aload_n 0, 1) := by decide +kernel
theorem d_B_remove_44 : decode prog_2_method_3_code 44 = .ok (.iload_n 2, 1) := by decide +kernel
theorem d_B_remove_45 : decode prog_2_method_3_code 45 = .ok (.putfield 36, 3) := by decide +kernel
theorem d_B_remove_48 : decode prog_2_method_3_code 48 = .ok (.return_, 1) := by decide +kernel
abbrev y_B_enqueue : MethodName := ⟨"GridlockDesk$Bank", "enqueue", "(LGridlockDesk$Payment;)V"⟩
abbrev ws_B_enqueue : List Cond := .code y_B_enqueue prog_2_method_2_code 3 none :: TB
theorem d_B_enqueue_0 : decode prog_2_method_2_code 0 = .ok (.aload_n 0, 1) := by decide +kernel
theorem d_B_enqueue_1 : decode prog_2_method_2_code 1 = .ok (.getfield 36, 3) := by decide +kernel
theorem d_B_enqueue_4 : decode prog_2_method_2_code 4 = .ok (.aload_n 0, 1) := by decide +kernel
theorem d_B_enqueue_5 : decode prog_2_method_2_code 5 = .ok (.getfield 32, 3) := by decide +kernel
theorem d_B_enqueue_8 : decode prog_2_method_2_code 8 = .ok (.arraylength, 1) := by decide +kernel
theorem d_B_enqueue_9 : decode prog_2_method_2_code 9 = .ok (.if_icmp .lt 4, 3) := by decide +kernel
theorem d_B_enqueue_12 : decode prog_2_method_2_code 12 = .ok (.return_, 1) := by decide +kernel
theorem d_B_enqueue_13 : decode prog_2_method_2_code 13 = .ok (.aload_n 0, 1) := by decide +kernel
theorem d_B_enqueue_14 : decode prog_2_method_2_code 14 = .ok (.getfield 36, 3) := by decide +kernel
theorem d_B_enqueue_17 : decode prog_2_method_2_code 17 = .ok (.istore_n 2, 1) := by decide +kernel
theorem d_B_enqueue_18 : decode prog_2_method_2_code 18 = .ok (.iload_n 2, 1) := by decide +kernel
theorem d_B_enqueue_19 : decode prog_2_method_2_code 19 = .ok (.ifCond .le 41, 3) := by decide +kernel
theorem d_B_enqueue_22 : decode prog_2_method_2_code 22 = .ok (.aload_n 0, 1) := by decide +kernel
theorem d_B_enqueue_23 : decode prog_2_method_2_code 23 = .ok (.getfield 32, 3) := by decide +kernel
theorem d_B_enqueue_26 : decode prog_2_method_2_code 26 = .ok (.iload_n 2, 1) := by decide +kernel
theorem d_B_enqueue_27 : decode prog_2_method_2_code 27 = .ok (.iconst 1, 1) := by decide +kernel
theorem d_B_enqueue_28 : decode prog_2_method_2_code 28 = .ok (.isub, 1) := by decide +kernel
theorem d_B_enqueue_29 : decode prog_2_method_2_code 29 = .ok (.aaload, 1) := by decide +kernel
theorem d_B_enqueue_30 : decode prog_2_method_2_code 30 = .ok (.getfield 40, 3) := by decide +kernel
theorem d_B_enqueue_33 : decode prog_2_method_2_code 33 = .ok (.aload_n 1, 1) := by decide +kernel
theorem d_B_enqueue_34 : decode prog_2_method_2_code 34 = .ok (.getfield 40, 3) := by decide +kernel
theorem d_B_enqueue_37 : decode prog_2_method_2_code 37 = .ok (.if_icmp .ge 23, 3) := by decide +kernel
theorem d_B_enqueue_40 : decode prog_2_method_2_code 40 = .ok (.aload_n 0, 1) := by decide +kernel
theorem d_B_enqueue_41 : decode prog_2_method_2_code 41 = .ok (.getfield 32, 3) := by decide +kernel
theorem d_B_enqueue_44 : decode prog_2_method_2_code 44 = .ok (.iload_n 2, 1) := by decide +kernel
theorem d_B_enqueue_45 : decode prog_2_method_2_code 45 = .ok (.aload_n 0, 1) := by decide +kernel
theorem d_B_enqueue_46 : decode prog_2_method_2_code 46 = .ok (.getfield 32, 3) := by decide +kernel
theorem d_B_enqueue_49 : decode prog_2_method_2_code 49 = .ok (.iload_n 2, 1) := by decide +kernel
theorem d_B_enqueue_50 : decode prog_2_method_2_code 50 = .ok (.iconst 1, 1) := by decide +kernel
theorem d_B_enqueue_51 : decode prog_2_method_2_code 51 = .ok (.isub, 1) := by decide +kernel
theorem d_B_enqueue_52 : decode prog_2_method_2_code 52 = .ok (.aaload, 1) := by decide +kernel
theorem d_B_enqueue_53 : decode prog_2_method_2_code 53 = .ok (.aastore, 1) := by decide +kernel
theorem d_B_enqueue_54 : decode prog_2_method_2_code 54 = .ok (.iinc 2 (-1), 3) := by decide +kernel
theorem d_B_enqueue_57 : decode prog_2_method_2_code 57 = .ok (.goto (-39), 3) := by decide +kernel
theorem d_B_enqueue_60 : decode prog_2_method_2_code 60 = .ok (.aload_n 0, 1) := by decide +kernel
theorem d_B_enqueue_61 : decode prog_2_method_2_code 61 = .ok (.getfield 32, 3) := by decide +kernel
theorem d_B_enqueue_64 : decode prog_2_method_2_code 64 = .ok (.iload_n 2, 1) := by decide +kernel
theorem d_B_enqueue_65 : decode prog_2_method_2_code 65 = .ok (.aload_n 1, 1) := by decide +kernel
theorem d_B_enqueue_66 : decode prog_2_method_2_code 66 = .ok (.aastore, 1) := by decide +kernel
theorem d_B_enqueue_67 : decode prog_2_method_2_code 67 = .ok (.aload_n 0, 1) := by decide +kernel
theorem d_B_enqueue_68 : decode prog_2_method_2_code 68 = .ok (.dup, 1) := by decide +kernel
theorem d_B_enqueue_69 : decode prog_2_method_2_code 69 = .ok (.getfield 36, 3) := by decide +kernel
theorem d_B_enqueue_72 : decode prog_2_method_2_code 72 = .ok (.iconst 1, 1) := by decide +kernel
theorem d_B_enqueue_73 : decode prog_2_method_2_code 73 = .ok (.iadd, 1) := by decide +kernel
theorem d_B_enqueue_74 : decode prog_2_method_2_code 74 = .ok (.putfield 36, 3) := by decide +kernel
theorem d_B_enqueue_77 : decode prog_2_method_2_code 77 = .ok (.return_, 1) := by decide +kernel
abbrev y_X_isBank : MethodName := ⟨"GridlockDesk", "isBank", "(I)Z"⟩
abbrev ws_X_isBank : List Cond := .code y_X_isBank prog_1_method_19_code 2 (some .boolean) :: TB
theorem d_X_isBank_0 : decode prog_1_method_19_code 0 = .ok (.iload_n 1, 1) := by decide +kernel
theorem d_X_isBank_1 : decode prog_1_method_19_code 1 = .ok (.ifCond .lt 16, 3) := by decide +kernel
theorem d_X_isBank_4 : decode prog_1_method_19_code 4 = .ok (.iload_n 1, 1) := by decide +kernel
theorem d_X_isBank_5 : decode prog_1_method_19_code 5 = .ok (.aload_n 0, 1) := by decide +kernel
theorem d_X_isBank_6 : decode prog_1_method_19_code 6 = .ok (.getfield 20, 3) := by decide +kernel
theorem d_X_isBank_9 : decode prog_1_method_19_code 9 = .ok (.arraylength, 1) := by decide +kernel
theorem d_X_isBank_10 : decode prog_1_method_19_code 10 = .ok (.if_icmp .ge 7, 3) := by decide +kernel
theorem d_X_isBank_13 : decode prog_1_method_19_code 13 = .ok (.iconst 1, 1) := by decide +kernel
theorem d_X_isBank_14 : decode prog_1_method_19_code 14 = .ok (.goto 4, 3) := by decide +kernel
theorem d_X_isBank_17 : decode prog_1_method_19_code 17 = .ok (.iconst 0, 1) := by decide +kernel
theorem d_X_isBank_18 : decode prog_1_method_19_code 18 = .ok (.ireturn, 1) := by decide +kernel
abbrev y_X_areTwoBanks : MethodName := ⟨"GridlockDesk", "areTwoBanks", "(II)Z"⟩
abbrev ws_X_areTwoBanks : List Cond := .code y_X_areTwoBanks prog_1_method_20_code 3 (some .boolean) :: TB
theorem d_X_areTwoBanks_0 : decode prog_1_method_20_code 0 = .ok (.aload_n 0, 1) := by decide +kernel
theorem d_X_areTwoBanks_1 : decode prog_1_method_20_code 1 = .ok (.iload_n 1, 1) := by decide +kernel
theorem d_X_areTwoBanks_2 : decode prog_1_method_20_code 2 = .ok (.invokevirtual 37, 3) := by decide +kernel
theorem d_X_areTwoBanks_5 : decode prog_1_method_20_code 5 = .ok (.ifCond .eq 20, 3) := by decide +kernel
theorem d_X_areTwoBanks_8 : decode prog_1_method_20_code 8 = .ok (.aload_n 0, 1) := by decide +kernel
theorem d_X_areTwoBanks_9 : decode prog_1_method_20_code 9 = .ok (.iload_n 2, 1) := by decide +kernel
theorem d_X_areTwoBanks_10 : decode prog_1_method_20_code 10 = .ok (.invokevirtual 37, 3) := by decide +kernel
theorem d_X_areTwoBanks_13 : decode prog_1_method_20_code 13 = .ok (.ifCond .eq 12, 3) := by decide +kernel
theorem d_X_areTwoBanks_16 : decode prog_1_method_20_code 16 = .ok (.iload_n 1, 1) := by decide +kernel
theorem d_X_areTwoBanks_17 : decode prog_1_method_20_code 17 = .ok (.iload_n 2, 1) := by decide +kernel
theorem d_X_areTwoBanks_18 : decode prog_1_method_20_code 18 = .ok (.if_icmp .eq 7, 3) := by decide +kernel
theorem d_X_areTwoBanks_21 : decode prog_1_method_20_code 21 = .ok (.iconst 1, 1) := by decide +kernel
theorem d_X_areTwoBanks_22 : decode prog_1_method_20_code 22 = .ok (.goto 4, 3) := by decide +kernel
theorem d_X_areTwoBanks_25 : decode prog_1_method_20_code 25 = .ok (.iconst 0, 1) := by decide +kernel
theorem d_X_areTwoBanks_26 : decode prog_1_method_20_code 26 = .ok (.ireturn, 1) := by decide +kernel
abbrev y_X_isPayment : MethodName := ⟨"GridlockDesk", "isPayment", "(I)Z"⟩
abbrev ws_X_isPayment : List Cond := .code y_X_isPayment prog_1_method_21_code 2 (some .boolean) :: TB
theorem d_X_isPayment_0 : decode prog_1_method_21_code 0 = .ok (.iload_n 1, 1) := by decide +kernel
theorem d_X_isPayment_1 : decode prog_1_method_21_code 1 = .ok (.ifCond .lt 15, 3) := by decide +kernel
theorem d_X_isPayment_4 : decode prog_1_method_21_code 4 = .ok (.iload_n 1, 1) := by decide +kernel
theorem d_X_isPayment_5 : decode prog_1_method_21_code 5 = .ok (.aload_n 0, 1) := by decide +kernel
theorem d_X_isPayment_6 : decode prog_1_method_21_code 6 = .ok (.getfield 91, 3) := by decide +kernel
theorem d_X_isPayment_9 : decode prog_1_method_21_code 9 = .ok (.if_icmp .ge 7, 3) := by decide +kernel
theorem d_X_isPayment_12 : decode prog_1_method_21_code 12 = .ok (.iconst 1, 1) := by decide +kernel
theorem d_X_isPayment_13 : decode prog_1_method_21_code 13 = .ok (.goto 4, 3) := by decide +kernel
theorem d_X_isPayment_16 : decode prog_1_method_21_code 16 = .ok (.iconst 0, 1) := by decide +kernel
theorem d_X_isPayment_17 : decode prog_1_method_21_code 17 = .ok (.ireturn, 1) := by decide +kernel
abbrev y_X_isQueued : MethodName := ⟨"GridlockDesk", "isQueued", "(I)Z"⟩
abbrev ws_X_isQueued : List Cond := .code y_X_isQueued prog_1_method_22_code 2 (some .boolean) :: TB
theorem d_X_isQueued_0 : decode prog_1_method_22_code 0 = .ok (.aload_n 0, 1) := by decide +kernel
theorem d_X_isQueued_1 : decode prog_1_method_22_code 1 = .ok (.iload_n 1, 1) := by decide +kernel
theorem d_X_isQueued_2 : decode prog_1_method_22_code 2 = .ok (.invokevirtual 145, 3) := by decide +kernel
theorem d_X_isQueued_5 : decode prog_1_method_22_code 5 = .ok (.ifCond .eq 19, 3) := by decide +kernel
theorem d_X_isQueued_8 : decode prog_1_method_22_code 8 = .ok (.aload_n 0, 1) := by decide +kernel
theorem d_X_isQueued_9 : decode prog_1_method_22_code 9 = .ok (.getfield 29, 3) := by decide +kernel
theorem d_X_isQueued_12 : decode prog_1_method_22_code 12 = .ok (.iload_n 1, 1) := by decide +kernel
theorem d_X_isQueued_13 : decode prog_1_method_22_code 13 = .ok (.aaload, 1) := by decide +kernel
theorem d_X_isQueued_14 : decode prog_1_method_22_code 14 = .ok (.getfield 148, 3) := by decide +kernel
theorem d_X_isQueued_17 : decode prog_1_method_22_code 17 = .ok (.ifCond .ne 7, 3) := by decide +kernel
theorem d_X_isQueued_20 : decode prog_1_method_22_code 20 = .ok (.iconst 1, 1) := by decide +kernel
theorem d_X_isQueued_21 : decode prog_1_method_22_code 21 = .ok (.goto 4, 3) := by decide +kernel
theorem d_X_isQueued_24 : decode prog_1_method_22_code 24 = .ok (.iconst 0, 1) := by decide +kernel
theorem d_X_isQueued_25 : decode prog_1_method_22_code 25 = .ok (.ireturn, 1) := by decide +kernel
abbrev y_X_isPriority : MethodName := ⟨"GridlockDesk", "isPriority", "(I)Z"⟩
abbrev ws_X_isPriority : List Cond := .code y_X_isPriority prog_1_method_23_code 1 (some .boolean) :: TB
theorem d_X_isPriority_0 : decode prog_1_method_23_code 0 = .ok (.iload_n 0, 1) := by decide +kernel
theorem d_X_isPriority_1 : decode prog_1_method_23_code 1 = .ok (.ifCond .lt 12, 3) := by decide +kernel
theorem d_X_isPriority_4 : decode prog_1_method_23_code 4 = .ok (.iload_n 0, 1) := by decide +kernel
theorem d_X_isPriority_5 : decode prog_1_method_23_code 5 = .ok (.iconst 3, 1) := by decide +kernel
theorem d_X_isPriority_6 : decode prog_1_method_23_code 6 = .ok (.if_icmp .gt 7, 3) := by decide +kernel
theorem d_X_isPriority_9 : decode prog_1_method_23_code 9 = .ok (.iconst 1, 1) := by decide +kernel
theorem d_X_isPriority_10 : decode prog_1_method_23_code 10 = .ok (.goto 4, 3) := by decide +kernel
theorem d_X_isPriority_13 : decode prog_1_method_23_code 13 = .ok (.iconst 0, 1) := by decide +kernel
theorem d_X_isPriority_14 : decode prog_1_method_23_code 14 = .ok (.ireturn, 1) := by decide +kernel
abbrev y_X_isLimit : MethodName := ⟨"GridlockDesk", "isLimit", "(J)Z"⟩
abbrev ws_X_isLimit : List Cond := .code y_X_isLimit prog_1_method_24_code 2 (some .boolean) :: TB
theorem d_X_isLimit_0 : decode prog_1_method_24_code 0 = .ok (.lload_n 0, 1) := by decide +kernel
theorem d_X_isLimit_1 : decode prog_1_method_24_code 1 = .ok (.ldc2_w 154, 3) := by decide +kernel
theorem d_X_isLimit_4 : decode prog_1_method_24_code 4 = .ok (.lcmp, 1) := by decide +kernel
theorem d_X_isLimit_5 : decode prog_1_method_24_code 5 = .ok (.ifCond .eq 17, 3) := by decide +kernel
theorem d_X_isLimit_8 : decode prog_1_method_24_code 8 = .ok (.lload_n 0, 1) := by decide +kernel
theorem d_X_isLimit_9 : decode prog_1_method_24_code 9 = .ok (.lconst 0, 1) := by decide +kernel
theorem d_X_isLimit_10 : decode prog_1_method_24_code 10 = .ok (.lcmp, 1) := by decide +kernel
theorem d_X_isLimit_11 : decode prog_1_method_24_code 11 = .ok (.ifCond .lt 15, 3) := by decide +kernel
theorem d_X_isLimit_14 : decode prog_1_method_24_code 14 = .ok (.lload_n 0, 1) := by decide +kernel
theorem d_X_isLimit_15 : decode prog_1_method_24_code 15 = .ok (.ldc2_w 55, 3) := by decide +kernel
theorem d_X_isLimit_18 : decode prog_1_method_24_code 18 = .ok (.lcmp, 1) := by decide +kernel
theorem d_X_isLimit_19 : decode prog_1_method_24_code 19 = .ok (.ifCond .gt 7, 3) := by decide +kernel
theorem d_X_isLimit_22 : decode prog_1_method_24_code 22 = .ok (.iconst 1, 1) := by decide +kernel
theorem d_X_isLimit_23 : decode prog_1_method_24_code 23 = .ok (.goto 4, 3) := by decide +kernel
theorem d_X_isLimit_26 : decode prog_1_method_24_code 26 = .ok (.iconst 0, 1) := by decide +kernel
theorem d_X_isLimit_27 : decode prog_1_method_24_code 27 = .ok (.ireturn, 1) := by decide +kernel
abbrev y_X_exceeds : MethodName := ⟨"GridlockDesk", "exceeds", "(JJ)Z"⟩
abbrev ws_X_exceeds : List Cond := .code y_X_exceeds prog_1_method_25_code 4 (some .boolean) :: TB
theorem d_X_exceeds_0 : decode prog_1_method_25_code 0 = .ok (.lload_n 2, 1) := by decide +kernel
theorem d_X_exceeds_1 : decode prog_1_method_25_code 1 = .ok (.ldc2_w 154, 3) := by decide +kernel
theorem d_X_exceeds_4 : decode prog_1_method_25_code 4 = .ok (.lcmp, 1) := by decide +kernel
theorem d_X_exceeds_5 : decode prog_1_method_25_code 5 = .ok (.ifCond .eq 13, 3) := by decide +kernel
theorem d_X_exceeds_8 : decode prog_1_method_25_code 8 = .ok (.lload_n 0, 1) := by decide +kernel
theorem d_X_exceeds_9 : decode prog_1_method_25_code 9 = .ok (.lload_n 2, 1) := by decide +kernel
theorem d_X_exceeds_10 : decode prog_1_method_25_code 10 = .ok (.lcmp, 1) := by decide +kernel
theorem d_X_exceeds_11 : decode prog_1_method_25_code 11 = .ok (.ifCond .le 7, 3) := by decide +kernel
theorem d_X_exceeds_14 : decode prog_1_method_25_code 14 = .ok (.iconst 1, 1) := by decide +kernel
theorem d_X_exceeds_15 : decode prog_1_method_25_code 15 = .ok (.goto 4, 3) := by decide +kernel
theorem d_X_exceeds_18 : decode prog_1_method_25_code 18 = .ok (.iconst 0, 1) := by decide +kernel
theorem d_X_exceeds_19 : decode prog_1_method_25_code 19 = .ok (.ireturn, 1) := by decide +kernel
abbrev y_X_positionOf : MethodName := ⟨"GridlockDesk", "positionOf", "(II)J"⟩
abbrev ws_X_positionOf : List Cond := .code y_X_positionOf prog_1_method_26_code 3 (some .long) :: TB
theorem d_X_positionOf_0 : decode prog_1_method_26_code 0 = .ok (.aload_n 0, 1) := by decide +kernel
theorem d_X_positionOf_1 : decode prog_1_method_26_code 1 = .ok (.getfield 20, 3) := by decide +kernel
theorem d_X_positionOf_4 : decode prog_1_method_26_code 4 = .ok (.iload_n 1, 1) := by decide +kernel
theorem d_X_positionOf_5 : decode prog_1_method_26_code 5 = .ok (.aaload, 1) := by decide +kernel
theorem d_X_positionOf_6 : decode prog_1_method_26_code 6 = .ok (.getfield 130, 3) := by decide +kernel
theorem d_X_positionOf_9 : decode prog_1_method_26_code 9 = .ok (.iload_n 2, 1) := by decide +kernel
theorem d_X_positionOf_10 : decode prog_1_method_26_code 10 = .ok (.laload, 1) := by decide +kernel
theorem d_X_positionOf_11 : decode prog_1_method_26_code 11 = .ok (.aload_n 0, 1) := by decide +kernel
theorem d_X_positionOf_12 : decode prog_1_method_26_code 12 = .ok (.getfield 20, 3) := by decide +kernel
theorem d_X_positionOf_15 : decode prog_1_method_26_code 15 = .ok (.iload_n 2, 1) := by decide +kernel
theorem d_X_positionOf_16 : decode prog_1_method_26_code 16 = .ok (.aaload, 1) := by decide +kernel
theorem d_X_positionOf_17 : decode prog_1_method_26_code 17 = .ok (.getfield 130, 3) := by decide +kernel
theorem d_X_positionOf_20 : decode prog_1_method_26_code 20 = .ok (.iload_n 1, 1) := by decide +kernel
theorem d_X_positionOf_21 : decode prog_1_method_26_code 21 = .ok (.laload, 1) := by decide +kernel
theorem d_X_positionOf_22 : decode prog_1_method_26_code 22 = .ok (.lsub, 1) := by decide +kernel
theorem d_X_positionOf_23 : decode prog_1_method_26_code 23 = .ok (.lreturn, 1) := by decide +kernel
abbrev y_X_totalPositionOf : MethodName := ⟨"GridlockDesk", "totalPositionOf", "(I)J"⟩
abbrev ws_X_totalPositionOf : List Cond := .code y_X_totalPositionOf prog_1_method_27_code 5 (some .long) :: TB
theorem d_X_totalPositionOf_0 : decode prog_1_method_27_code 0 = .ok (.lconst 0, 1) := by decide +kernel
theorem d_X_totalPositionOf_1 : decode prog_1_method_27_code 1 = .ok (.lstore_n 2, 1) := by decide +kernel
theorem d_X_totalPositionOf_2 : decode prog_1_method_27_code 2 = .ok (.iconst 0, 1) := by decide +kernel
theorem d_X_totalPositionOf_3 : decode prog_1_method_27_code 3 = .ok (.istore 4, 2) := by decide +kernel
theorem d_X_totalPositionOf_5 : decode prog_1_method_27_code 5 = .ok (.iload 4, 2) := by decide +kernel
theorem d_X_totalPositionOf_7 : decode prog_1_method_27_code 7 = .ok (.aload_n 0, 1) := by decide +kernel
theorem d_X_totalPositionOf_8 : decode prog_1_method_27_code 8 = .ok (.getfield 20, 3) := by decide +kernel
theorem d_X_totalPositionOf_11 : decode prog_1_method_27_code 11 = .ok (.arraylength, 1) := by decide +kernel
theorem d_X_totalPositionOf_12 : decode prog_1_method_27_code 12 = .ok (.if_icmp .ge 19, 3) := by decide +kernel
theorem d_X_totalPositionOf_15 : decode prog_1_method_27_code 15 = .ok (.lload_n 2, 1) := by decide +kernel
theorem d_X_totalPositionOf_16 : decode prog_1_method_27_code 16 = .ok (.aload_n 0, 1) := by decide +kernel
theorem d_X_totalPositionOf_17 : decode prog_1_method_27_code 17 = .ok (.iload_n 1, 1) := by decide +kernel
theorem d_X_totalPositionOf_18 : decode prog_1_method_27_code 18 = .ok (.iload 4, 2) := by decide +kernel
theorem d_X_totalPositionOf_20 : decode prog_1_method_27_code 20 = .ok (.invokevirtual 65, 3) := by decide +kernel
theorem d_X_totalPositionOf_23 : decode prog_1_method_27_code 23 = .ok (.ladd, 1) := by decide +kernel
theorem d_X_totalPositionOf_24 : decode prog_1_method_27_code 24 = .ok (.lstore_n 2, 1) := by decide +kernel
theorem d_X_totalPositionOf_25 : decode prog_1_method_27_code 25 = .ok (.iinc 4 1, 3) := by decide +kernel
theorem d_X_totalPositionOf_28 : decode prog_1_method_27_code 28 = .ok (.goto (-23), 3) := by decide +kernel
theorem d_X_totalPositionOf_31 : decode prog_1_method_27_code 31 = .ok (.lload_n 2, 1) := by decide +kernel
theorem d_X_totalPositionOf_32 : decode prog_1_method_27_code 32 = .ok (.lreturn, 1) := by decide +kernel
abbrev y_X_end : MethodName := ⟨"GridlockDesk", "end", "(LGridlockDesk$Payment;I)V"⟩
abbrev ws_X_end : List Cond := .code y_X_end prog_1_method_37_code 3 none :: TB
theorem d_X_end_0 : decode prog_1_method_37_code 0 = .ok (.aload_n 0, 1) := by decide +kernel
theorem d_X_end_1 : decode prog_1_method_37_code 1 = .ok (.getfield 20, 3) := by decide +kernel
theorem d_X_end_4 : decode prog_1_method_37_code 4 = .ok (.aload_n 1, 1) := by decide +kernel
theorem d_X_end_5 : decode prog_1_method_37_code 5 = .ok (.getfield 111, 3) := by decide +kernel
theorem d_X_end_8 : decode prog_1_method_37_code 8 = .ok (.aaload, 1) := by decide +kernel
theorem d_X_end_9 : decode prog_1_method_37_code 9 = .ok (.aload_n 1, 1) := by decide +kernel
theorem d_X_end_10 : decode prog_1_method_37_code 10 = .ok (.invokevirtual 114, 3) := by decide +kernel
theorem d_X_end_13 : decode prog_1_method_37_code 13 = .ok (.aload_n 1, 1) := by decide +kernel
theorem d_X_end_14 : decode prog_1_method_37_code 14 = .ok (.iload_n 2, 1) := by decide +kernel
theorem d_X_end_15 : decode prog_1_method_37_code 15 = .ok (.putfield 148, 3) := by decide +kernel
theorem d_X_end_18 : decode prog_1_method_37_code 18 = .ok (.return_, 1) := by decide +kernel
abbrev y_X_settle : MethodName := ⟨"GridlockDesk", "settle", "(LGridlockDesk$Payment;I)V"⟩
abbrev ws_X_settle : List Cond := .code y_X_settle prog_1_method_36_code 4 none :: TB
theorem d_X_settle_0 : decode prog_1_method_36_code 0 = .ok (.aload_n 0, 1) := by decide +kernel
theorem d_X_settle_1 : decode prog_1_method_36_code 1 = .ok (.aload_n 1, 1) := by decide +kernel
theorem d_X_settle_2 : decode prog_1_method_36_code 2 = .ok (.iload_n 2, 1) := by decide +kernel
theorem d_X_settle_3 : decode prog_1_method_36_code 3 = .ok (.invokevirtual 107, 3) := by decide +kernel
theorem d_X_settle_6 : decode prog_1_method_36_code 6 = .ok (.aload_n 0, 1) := by decide +kernel
theorem d_X_settle_7 : decode prog_1_method_36_code 7 = .ok (.getfield 20, 3) := by decide +kernel
theorem d_X_settle_10 : decode prog_1_method_36_code 10 = .ok (.aload_n 1, 1) := by decide +kernel
theorem d_X_settle_11 : decode prog_1_method_36_code 11 = .ok (.getfield 111, 3) := by decide +kernel
theorem d_X_settle_14 : decode prog_1_method_36_code 14 = .ok (.aaload, 1) := by decide +kernel
theorem d_X_settle_15 : decode prog_1_method_36_code 15 = .ok (.astore_n 3, 1) := by decide +kernel
theorem d_X_settle_16 : decode prog_1_method_36_code 16 = .ok (.aload_n 3, 1) := by decide +kernel
theorem d_X_settle_17 : decode prog_1_method_36_code 17 = .ok (.dup, 1) := by decide +kernel
theorem d_X_settle_18 : decode prog_1_method_36_code 18 = .ok (.getfield 45, 3) := by decide +kernel
theorem d_X_settle_21 : decode prog_1_method_36_code 21 = .ok (.aload_n 1, 1) := by decide +kernel
theorem d_X_settle_22 : decode prog_1_method_36_code 22 = .ok (.getfield 185, 3) := by decide +kernel
theorem d_X_settle_25 : decode prog_1_method_36_code 25 = .ok (.lsub, 1) := by decide +kernel
theorem d_X_settle_26 : decode prog_1_method_36_code 26 = .ok (.putfield 45, 3) := by decide +kernel
theorem d_X_settle_29 : decode prog_1_method_36_code 29 = .ok (.aload_n 3, 1) := by decide +kernel
theorem d_X_settle_30 : decode prog_1_method_36_code 30 = .ok (.getfield 130, 3) := by decide +kernel
theorem d_X_settle_33 : decode prog_1_method_36_code 33 = .ok (.aload_n 1, 1) := by decide +kernel
theorem d_X_settle_34 : decode prog_1_method_36_code 34 = .ok (.getfield 188, 3) := by decide +kernel
theorem d_X_settle_37 : decode prog_1_method_36_code 37 = .ok (.dup2, 1) := by decide +kernel
theorem d_X_settle_38 : decode prog_1_method_36_code 38 = .ok (.laload, 1) := by decide +kernel
theorem d_X_settle_39 : decode prog_1_method_36_code 39 = .ok (.aload_n 1, 1) := by decide +kernel
theorem d_X_settle_40 : decode prog_1_method_36_code 40 = .ok (.getfield 185, 3) := by decide +kernel
theorem d_X_settle_43 : decode prog_1_method_36_code 43 = .ok (.ladd, 1) := by decide +kernel
theorem d_X_settle_44 : decode prog_1_method_36_code 44 = .ok (.lastore, 1) := by decide +kernel
theorem d_X_settle_45 : decode prog_1_method_36_code 45 = .ok (.aload_n 0, 1) := by decide +kernel
theorem d_X_settle_46 : decode prog_1_method_36_code 46 = .ok (.getfield 20, 3) := by decide +kernel
theorem d_X_settle_49 : decode prog_1_method_36_code 49 = .ok (.aload_n 1, 1) := by decide +kernel
theorem d_X_settle_50 : decode prog_1_method_36_code 50 = .ok (.getfield 188, 3) := by decide +kernel
theorem d_X_settle_53 : decode prog_1_method_36_code 53 = .ok (.aaload, 1) := by decide +kernel
theorem d_X_settle_54 : decode prog_1_method_36_code 54 = .ok (.dup, 1) := by decide +kernel
theorem d_X_settle_55 : decode prog_1_method_36_code 55 = .ok (.getfield 45, 3) := by decide +kernel
theorem d_X_settle_58 : decode prog_1_method_36_code 58 = .ok (.aload_n 1, 1) := by decide +kernel
theorem d_X_settle_59 : decode prog_1_method_36_code 59 = .ok (.getfield 185, 3) := by decide +kernel
theorem d_X_settle_62 : decode prog_1_method_36_code 62 = .ok (.ladd, 1) := by decide +kernel
theorem d_X_settle_63 : decode prog_1_method_36_code 63 = .ok (.putfield 45, 3) := by decide +kernel
theorem d_X_settle_66 : decode prog_1_method_36_code 66 = .ok (.aload_n 0, 1) := by decide +kernel
theorem d_X_settle_67 : decode prog_1_method_36_code 67 = .ok (.dup, 1) := by decide +kernel
theorem d_X_settle_68 : decode prog_1_method_36_code 68 = .ok (.getfield 151, 3) := by decide +kernel
theorem d_X_settle_71 : decode prog_1_method_36_code 71 = .ok (.aload_n 1, 1) := by decide +kernel
theorem d_X_settle_72 : decode prog_1_method_36_code 72 = .ok (.getfield 185, 3) := by decide +kernel
theorem d_X_settle_75 : decode prog_1_method_36_code 75 = .ok (.ladd, 1) := by decide +kernel
theorem d_X_settle_76 : decode prog_1_method_36_code 76 = .ok (.putfield 151, 3) := by decide +kernel
theorem d_X_settle_79 : decode prog_1_method_36_code 79 = .ok (.return_, 1) := by decide +kernel
abbrev y_X_settleChosen : MethodName := ⟨"GridlockDesk", "settleChosen", "(I)I"⟩
abbrev ws_X_settleChosen : List Cond := .code y_X_settleChosen prog_1_method_35_code 5 (some .int) :: TB
theorem d_X_settleChosen_0 : decode prog_1_method_35_code 0 = .ok (.iconst 0, 1) := by decide +kernel
theorem d_X_settleChosen_1 : decode prog_1_method_35_code 1 = .ok (.istore_n 2, 1) := by decide +kernel
theorem d_X_settleChosen_2 : decode prog_1_method_35_code 2 = .ok (.iconst 0, 1) := by decide +kernel
theorem d_X_settleChosen_3 : decode prog_1_method_35_code 3 = .ok (.istore_n 3, 1) := by decide +kernel
theorem d_X_settleChosen_4 : decode prog_1_method_35_code 4 = .ok (.iload_n 3, 1) := by decide +kernel
theorem d_X_settleChosen_5 : decode prog_1_method_35_code 5 = .ok (.aload_n 0, 1) := by decide +kernel
theorem d_X_settleChosen_6 : decode prog_1_method_35_code 6 = .ok (.getfield 20, 3) := by decide +kernel
theorem d_X_settleChosen_9 : decode prog_1_method_35_code 9 = .ok (.arraylength, 1) := by decide +kernel
theorem d_X_settleChosen_10 : decode prog_1_method_35_code 10 = .ok (.if_icmp .ge 60, 3) := by decide +kernel
theorem d_X_settleChosen_13 : decode prog_1_method_35_code 13 = .ok (.iconst 0, 1) := by decide +kernel
theorem d_X_settleChosen_14 : decode prog_1_method_35_code 14 = .ok (.istore 4, 2) := by decide +kernel
theorem d_X_settleChosen_16 : decode prog_1_method_35_code 16 = .ok (.iload 4, 2) := by decide +kernel
theorem d_X_settleChosen_18 : decode prog_1_method_35_code 18 = .ok (.aload_n 0, 1) := by decide +kernel
theorem d_X_settleChosen_19 : decode prog_1_method_35_code 19 = .ok (.getfield 33, 3) := by decide +kernel
theorem d_X_settleChosen_22 : decode prog_1_method_35_code 22 = .ok (.iload_n 3, 1) := by decide +kernel
theorem d_X_settleChosen_23 : decode prog_1_method_35_code 23 = .ok (.iaload, 1) := by decide +kernel
theorem d_X_settleChosen_24 : decode prog_1_method_35_code 24 = .ok (.if_icmp .ge 40, 3) := by decide +kernel
theorem d_X_settleChosen_27 : decode prog_1_method_35_code 27 = .ok (.aload_n 0, 1) := by decide +kernel
theorem d_X_settleChosen_28 : decode prog_1_method_35_code 28 = .ok (.getfield 20, 3) := by decide +kernel
theorem d_X_settleChosen_31 : decode prog_1_method_35_code 31 = .ok (.iload_n 3, 1) := by decide +kernel
theorem d_X_settleChosen_32 : decode prog_1_method_35_code 32 = .ok (.aaload, 1) := by decide +kernel
theorem d_X_settleChosen_33 : decode prog_1_method_35_code 33 = .ok (.getfield 94, 3) := by decide +kernel
theorem d_X_settleChosen_36 : decode prog_1_method_35_code 36 = .ok (.ifCond .le 28, 3) := by decide +kernel
theorem d_X_settleChosen_39 : decode prog_1_method_35_code 39 = .ok (.aload_n 0, 1) := by decide +kernel
theorem d_X_settleChosen_40 : decode prog_1_method_35_code 40 = .ok (.aload_n 0, 1) := by decide +kernel
theorem d_X_settleChosen_41 : decode prog_1_method_35_code 41 = .ok (.getfield 20, 3) := by decide +kernel
theorem d_X_settleChosen_44 : decode prog_1_method_35_code 44 = .ok (.iload_n 3, 1) := by decide +kernel
theorem d_X_settleChosen_45 : decode prog_1_method_35_code 45 = .ok (.aaload, 1) := by decide +kernel
theorem d_X_settleChosen_46 : decode prog_1_method_35_code 46 = .ok (.getfield 139, 3) := by decide +kernel
theorem d_X_settleChosen_49 : decode prog_1_method_35_code 49 = .ok (.iconst 0, 1) := by decide +kernel
theorem d_X_settleChosen_50 : decode prog_1_method_35_code 50 = .ok (.aaload, 1) := by decide +kernel
theorem d_X_settleChosen_51 : decode prog_1_method_35_code 51 = .ok (.iload_n 1, 1) := by decide +kernel
theorem d_X_settleChosen_52 : decode prog_1_method_35_code 52 = .ok (.invokevirtual 182, 3) := by decide +kernel
theorem d_X_settleChosen_55 : decode prog_1_method_35_code 55 = .ok (.iinc 2 1, 3) := by decide +kernel
theorem d_X_settleChosen_58 : decode prog_1_method_35_code 58 = .ok (.iinc 4 1, 3) := by decide +kernel
theorem d_X_settleChosen_61 : decode prog_1_method_35_code 61 = .ok (.goto (-45), 3) := by decide +kernel
theorem d_X_settleChosen_64 : decode prog_1_method_35_code 64 = .ok (.iinc 3 1, 3) := by decide +kernel
theorem d_X_settleChosen_67 : decode prog_1_method_35_code 67 = .ok (.goto (-63), 3) := by decide +kernel
theorem d_X_settleChosen_70 : decode prog_1_method_35_code 70 = .ok (.iload_n 2, 1) := by decide +kernel
theorem d_X_settleChosen_71 : decode prog_1_method_35_code 71 = .ok (.ireturn, 1) := by decide +kernel
abbrev y_X_wouldBeWell : MethodName := ⟨"GridlockDesk", "wouldBeWell", "(I)Z"⟩
abbrev ws_X_wouldBeWell : List Cond := .code y_X_wouldBeWell prog_1_method_34_code 10 (some .boolean) :: TB
theorem d_X_wouldBeWell_0 : decode prog_1_method_34_code 0 = .ok (.aload_n 0, 1) := by decide +kernel
theorem d_X_wouldBeWell_1 : decode prog_1_method_34_code 1 = .ok (.getfield 20, 3) := by decide +kernel
theorem d_X_wouldBeWell_4 : decode prog_1_method_34_code 4 = .ok (.iload_n 1, 1) := by decide +kernel
theorem d_X_wouldBeWell_5 : decode prog_1_method_34_code 5 = .ok (.aaload, 1) := by decide +kernel
theorem d_X_wouldBeWell_6 : decode prog_1_method_34_code 6 = .ok (.astore_n 2, 1) := by decide +kernel
theorem d_X_wouldBeWell_7 : decode prog_1_method_34_code 7 = .ok (.lconst 0, 1) := by decide +kernel
theorem d_X_wouldBeWell_8 : decode prog_1_method_34_code 8 = .ok (.lstore_n 3, 1) := by decide +kernel
theorem d_X_wouldBeWell_9 : decode prog_1_method_34_code 9 = .ok (.lconst 0, 1) := by decide +kernel
theorem d_X_wouldBeWell_10 : decode prog_1_method_34_code 10 = .ok (.lstore 5, 2) := by decide +kernel
theorem d_X_wouldBeWell_12 : decode prog_1_method_34_code 12 = .ok (.iconst 0, 1) := by decide +kernel
theorem d_X_wouldBeWell_13 : decode prog_1_method_34_code 13 = .ok (.istore 7, 2) := by decide +kernel
theorem d_X_wouldBeWell_15 : decode prog_1_method_34_code 15 = .ok (.iload 7, 2) := by decide +kernel
theorem d_X_wouldBeWell_17 : decode prog_1_method_34_code 17 = .ok (.aload_n 0, 1) := by decide +kernel
theorem d_X_wouldBeWell_18 : decode prog_1_method_34_code 18 = .ok (.getfield 20, 3) := by decide +kernel
theorem d_X_wouldBeWell_21 : decode prog_1_method_34_code 21 = .ok (.arraylength, 1) := by decide +kernel
theorem d_X_wouldBeWell_22 : decode prog_1_method_34_code 22 = .ok (.if_icmp .ge 79, 3) := by decide +kernel
theorem d_X_wouldBeWell_25 : decode prog_1_method_34_code 25 = .ok (.aload_n 2, 1) := by decide +kernel
theorem d_X_wouldBeWell_26 : decode prog_1_method_34_code 26 = .ok (.aload_n 0, 1) := by decide +kernel
theorem d_X_wouldBeWell_27 : decode prog_1_method_34_code 27 = .ok (.getfield 33, 3) := by decide +kernel
theorem d_X_wouldBeWell_30 : decode prog_1_method_34_code 30 = .ok (.iload_n 1, 1) := by decide +kernel
theorem d_X_wouldBeWell_31 : decode prog_1_method_34_code 31 = .ok (.iaload, 1) := by decide +kernel
theorem d_X_wouldBeWell_32 : decode prog_1_method_34_code 32 = .ok (.iload 7, 2) := by decide +kernel
theorem d_X_wouldBeWell_34 : decode prog_1_method_34_code 34 = .ok (.invokevirtual 179, 3) := by decide +kernel
theorem d_X_wouldBeWell_37 : decode prog_1_method_34_code 37 = .ok (.aload_n 0, 1) := by decide +kernel
theorem d_X_wouldBeWell_38 : decode prog_1_method_34_code 38 = .ok (.getfield 20, 3) := by decide +kernel
theorem d_X_wouldBeWell_41 : decode prog_1_method_34_code 41 = .ok (.iload 7, 2) := by decide +kernel
theorem d_X_wouldBeWell_43 : decode prog_1_method_34_code 43 = .ok (.aaload, 1) := by decide +kernel
theorem d_X_wouldBeWell_44 : decode prog_1_method_34_code 44 = .ok (.aload_n 0, 1) := by decide +kernel
theorem d_X_wouldBeWell_45 : decode prog_1_method_34_code 45 = .ok (.getfield 33, 3) := by decide +kernel
theorem d_X_wouldBeWell_48 : decode prog_1_method_34_code 48 = .ok (.iload 7, 2) := by decide +kernel
theorem d_X_wouldBeWell_50 : decode prog_1_method_34_code 50 = .ok (.iaload, 1) := by decide +kernel
theorem d_X_wouldBeWell_51 : decode prog_1_method_34_code 51 = .ok (.iload_n 1, 1) := by decide +kernel
theorem d_X_wouldBeWell_52 : decode prog_1_method_34_code 52 = .ok (.invokevirtual 179, 3) := by decide +kernel
theorem d_X_wouldBeWell_55 : decode prog_1_method_34_code 55 = .ok (.lsub, 1) := by decide +kernel
theorem d_X_wouldBeWell_56 : decode prog_1_method_34_code 56 = .ok (.lstore 8, 2) := by decide +kernel
theorem d_X_wouldBeWell_58 : decode prog_1_method_34_code 58 = .ok (.lload 8, 2) := by decide +kernel
theorem d_X_wouldBeWell_60 : decode prog_1_method_34_code 60 = .ok (.aload_n 2, 1) := by decide +kernel
theorem d_X_wouldBeWell_61 : decode prog_1_method_34_code 61 = .ok (.getfield 73, 3) := by decide +kernel
theorem d_X_wouldBeWell_64 : decode prog_1_method_34_code 64 = .ok (.iload 7, 2) := by decide +kernel
theorem d_X_wouldBeWell_66 : decode prog_1_method_34_code 66 = .ok (.laload, 1) := by decide +kernel
theorem d_X_wouldBeWell_67 : decode prog_1_method_34_code 67 = .ok (.invokestatic 69, 3) := by decide +kernel
theorem d_X_wouldBeWell_70 : decode prog_1_method_34_code 70 = .ok (.ifCond .eq 5, 3) := by decide +kernel
theorem d_X_wouldBeWell_73 : decode prog_1_method_34_code 73 = .ok (.iconst 0, 1) := by decide +kernel
theorem d_X_wouldBeWell_74 : decode prog_1_method_34_code 74 = .ok (.ireturn, 1) := by decide +kernel
theorem d_X_wouldBeWell_75 : decode prog_1_method_34_code 75 = .ok (.lload_n 3, 1) := by decide +kernel
theorem d_X_wouldBeWell_76 : decode prog_1_method_34_code 76 = .ok (.lload 8, 2) := by decide +kernel
theorem d_X_wouldBeWell_78 : decode prog_1_method_34_code 78 = .ok (.ladd, 1) := by decide +kernel
theorem d_X_wouldBeWell_79 : decode prog_1_method_34_code 79 = .ok (.lstore_n 3, 1) := by decide +kernel
theorem d_X_wouldBeWell_80 : decode prog_1_method_34_code 80 = .ok (.lload 5, 2) := by decide +kernel
theorem d_X_wouldBeWell_82 : decode prog_1_method_34_code 82 = .ok (.lload 8, 2) := by decide +kernel
theorem d_X_wouldBeWell_84 : decode prog_1_method_34_code 84 = .ok (.aload_n 0, 1) := by decide +kernel
theorem d_X_wouldBeWell_85 : decode prog_1_method_34_code 85 = .ok (.iload_n 1, 1) := by decide +kernel
theorem d_X_wouldBeWell_86 : decode prog_1_method_34_code 86 = .ok (.iload 7, 2) := by decide +kernel
theorem d_X_wouldBeWell_88 : decode prog_1_method_34_code 88 = .ok (.invokevirtual 65, 3) := by decide +kernel
theorem d_X_wouldBeWell_91 : decode prog_1_method_34_code 91 = .ok (.lsub, 1) := by decide +kernel
theorem d_X_wouldBeWell_92 : decode prog_1_method_34_code 92 = .ok (.ladd, 1) := by decide +kernel
theorem d_X_wouldBeWell_93 : decode prog_1_method_34_code 93 = .ok (.lstore 5, 2) := by decide +kernel
theorem d_X_wouldBeWell_95 : decode prog_1_method_34_code 95 = .ok (.iinc 7 1, 3) := by decide +kernel
theorem d_X_wouldBeWell_98 : decode prog_1_method_34_code 98 = .ok (.goto (-83), 3) := by decide +kernel
theorem d_X_wouldBeWell_101 : decode prog_1_method_34_code 101 = .ok (.aload_n 2, 1) := by decide +kernel
theorem d_X_wouldBeWell_102 : decode prog_1_method_34_code 102 = .ok (.getfield 45, 3) := by decide +kernel
theorem d_X_wouldBeWell_105 : decode prog_1_method_34_code 105 = .ok (.lload 5, 2) := by decide +kernel
theorem d_X_wouldBeWell_107 : decode prog_1_method_34_code 107 = .ok (.lsub, 1) := by decide +kernel
theorem d_X_wouldBeWell_108 : decode prog_1_method_34_code 108 = .ok (.aload_n 2, 1) := by decide +kernel
theorem d_X_wouldBeWell_109 : decode prog_1_method_34_code 109 = .ok (.getfield 49, 3) := by decide +kernel
theorem d_X_wouldBeWell_112 : decode prog_1_method_34_code 112 = .ok (.lneg, 1) := by decide +kernel
theorem d_X_wouldBeWell_113 : decode prog_1_method_34_code 113 = .ok (.lcmp, 1) := by decide +kernel
theorem d_X_wouldBeWell_114 : decode prog_1_method_34_code 114 = .ok (.ifCond .lt 18, 3) := by decide +kernel
theorem d_X_wouldBeWell_117 : decode prog_1_method_34_code 117 = .ok (.lload_n 3, 1) := by decide +kernel
theorem d_X_wouldBeWell_118 : decode prog_1_method_34_code 118 = .ok (.aload_n 2, 1) := by decide +kernel
theorem d_X_wouldBeWell_119 : decode prog_1_method_34_code 119 = .ok (.getfield 81, 3) := by decide +kernel
theorem d_X_wouldBeWell_122 : decode prog_1_method_34_code 122 = .ok (.invokestatic 69, 3) := by decide +kernel
theorem d_X_wouldBeWell_125 : decode prog_1_method_34_code 125 = .ok (.ifCond .ne 7, 3) := by decide +kernel
theorem d_X_wouldBeWell_128 : decode prog_1_method_34_code 128 = .ok (.iconst 1, 1) := by decide +kernel
theorem d_X_wouldBeWell_129 : decode prog_1_method_34_code 129 = .ok (.goto 4, 3) := by decide +kernel
theorem d_X_wouldBeWell_132 : decode prog_1_method_34_code 132 = .ok (.iconst 0, 1) := by decide +kernel
theorem d_X_wouldBeWell_133 : decode prog_1_method_34_code 133 = .ok (.ireturn, 1) := by decide +kernel
abbrev y_X_firstUnwellBank : MethodName := ⟨"GridlockDesk", "firstUnwellBank", "()I"⟩
abbrev ws_X_firstUnwellBank : List Cond := .code y_X_firstUnwellBank prog_1_method_33_code 2 (some .int) :: TB
theorem d_X_firstUnwellBank_0 : decode prog_1_method_33_code 0 = .ok (.iconst 0, 1) := by decide +kernel
theorem d_X_firstUnwellBank_1 : decode prog_1_method_33_code 1 = .ok (.istore_n 1, 1) := by decide +kernel
theorem d_X_firstUnwellBank_2 : decode prog_1_method_33_code 2 = .ok (.iload_n 1, 1) := by decide +kernel
theorem d_X_firstUnwellBank_3 : decode prog_1_method_33_code 3 = .ok (.aload_n 0, 1) := by decide +kernel
theorem d_X_firstUnwellBank_4 : decode prog_1_method_33_code 4 = .ok (.getfield 20, 3) := by decide +kernel
theorem d_X_firstUnwellBank_7 : decode prog_1_method_33_code 7 = .ok (.arraylength, 1) := by decide +kernel
theorem d_X_firstUnwellBank_8 : decode prog_1_method_33_code 8 = .ok (.if_icmp .ge 19, 3) := by decide +kernel
theorem d_X_firstUnwellBank_11 : decode prog_1_method_33_code 11 = .ok (.aload_n 0, 1) := by decide +kernel
theorem d_X_firstUnwellBank_12 : decode prog_1_method_33_code 12 = .ok (.iload_n 1, 1) := by decide +kernel
theorem d_X_firstUnwellBank_13 : decode prog_1_method_33_code 13 = .ok (.invokevirtual 176, 3) := by decide +kernel
theorem d_X_firstUnwellBank_16 : decode prog_1_method_33_code 16 = .ok (.ifCond .ne 5, 3) := by decide +kernel
theorem d_X_firstUnwellBank_19 : decode prog_1_method_33_code 19 = .ok (.iload_n 1, 1) := by decide +kernel
theorem d_X_firstUnwellBank_20 : decode prog_1_method_33_code 20 = .ok (.ireturn, 1) := by decide +kernel
theorem d_X_firstUnwellBank_21 : decode prog_1_method_33_code 21 = .ok (.iinc 1 1, 3) := by decide +kernel
theorem d_X_firstUnwellBank_24 : decode prog_1_method_33_code 24 = .ok (.goto (-22), 3) := by decide +kernel
theorem d_X_firstUnwellBank_27 : decode prog_1_method_33_code 27 = .ok (.iconst (-1), 1) := by decide +kernel
theorem d_X_firstUnwellBank_28 : decode prog_1_method_33_code 28 = .ok (.ireturn, 1) := by decide +kernel
abbrev y_X_chooseHeads : MethodName := ⟨"GridlockDesk", "chooseHeads", "(II)Z"⟩
abbrev ws_X_chooseHeads : List Cond := .code y_X_chooseHeads prog_1_method_31_code 3 (some .boolean) :: TB
theorem d_X_chooseHeads_0 : decode prog_1_method_31_code 0 = .ok (.aload_n 0, 1) := by decide +kernel
theorem d_X_chooseHeads_1 : decode prog_1_method_31_code 1 = .ok (.getfield 33, 3) := by decide +kernel
theorem d_X_chooseHeads_4 : decode prog_1_method_31_code 4 = .ok (.iconst 0, 1) := by decide +kernel
theorem d_X_chooseHeads_5 : decode prog_1_method_31_code 5 = .ok (.invokestatic 170, 3) := by decide +kernel
theorem d_X_chooseHeads_8 : decode prog_1_method_31_code 8 = .ok (.aload_n 0, 1) := by decide +kernel
theorem d_X_chooseHeads_9 : decode prog_1_method_31_code 9 = .ok (.getfield 33, 3) := by decide +kernel
theorem d_X_chooseHeads_12 : decode prog_1_method_31_code 12 = .ok (.iload_n 1, 1) := by decide +kernel
theorem d_X_chooseHeads_13 : decode prog_1_method_31_code 13 = .ok (.iconst 1, 1) := by decide +kernel
theorem d_X_chooseHeads_14 : decode prog_1_method_31_code 14 = .ok (.iastore, 1) := by decide +kernel
theorem d_X_chooseHeads_15 : decode prog_1_method_31_code 15 = .ok (.aload_n 0, 1) := by decide +kernel
theorem d_X_chooseHeads_16 : decode prog_1_method_31_code 16 = .ok (.getfield 33, 3) := by decide +kernel
theorem d_X_chooseHeads_19 : decode prog_1_method_31_code 19 = .ok (.iload_n 2, 1) := by decide +kernel
theorem d_X_chooseHeads_20 : decode prog_1_method_31_code 20 = .ok (.iconst 1, 1) := by decide +kernel
theorem d_X_chooseHeads_21 : decode prog_1_method_31_code 21 = .ok (.iastore, 1) := by decide +kernel
theorem d_X_chooseHeads_22 : decode prog_1_method_31_code 22 = .ok (.aload_n 0, 1) := by decide +kernel
theorem d_X_chooseHeads_23 : decode prog_1_method_31_code 23 = .ok (.invokevirtual 173, 3) := by decide +kernel
theorem d_X_chooseHeads_26 : decode prog_1_method_31_code 26 = .ok (.iconst (-1), 1) := by decide +kernel
theorem d_X_chooseHeads_27 : decode prog_1_method_31_code 27 = .ok (.if_icmp .ne 7, 3) := by decide +kernel
theorem d_X_chooseHeads_30 : decode prog_1_method_31_code 30 = .ok (.iconst 1, 1) := by decide +kernel
theorem d_X_chooseHeads_31 : decode prog_1_method_31_code 31 = .ok (.goto 4, 3) := by decide +kernel
theorem d_X_chooseHeads_34 : decode prog_1_method_31_code 34 = .ok (.iconst 0, 1) := by decide +kernel
theorem d_X_chooseHeads_35 : decode prog_1_method_31_code 35 = .ok (.ireturn, 1) := by decide +kernel
abbrev y_X_chooseReadyHead : MethodName := ⟨"GridlockDesk", "chooseReadyHead", "()Z"⟩
abbrev ws_X_chooseReadyHead : List Cond := .code y_X_chooseReadyHead prog_1_method_29_code 2 (some .boolean) :: TB
theorem d_X_chooseReadyHead_0 : decode prog_1_method_29_code 0 = .ok (.iconst 0, 1) := by decide +kernel
theorem d_X_chooseReadyHead_1 : decode prog_1_method_29_code 1 = .ok (.istore_n 1, 1) := by decide +kernel
theorem d_X_chooseReadyHead_2 : decode prog_1_method_29_code 2 = .ok (.iload_n 1, 1) := by decide +kernel
theorem d_X_chooseReadyHead_3 : decode prog_1_method_29_code 3 = .ok (.aload_n 0, 1) := by decide +kernel
theorem d_X_chooseReadyHead_4 : decode prog_1_method_29_code 4 = .ok (.getfield 20, 3) := by decide +kernel
theorem d_X_chooseReadyHead_7 : decode prog_1_method_29_code 7 = .ok (.arraylength, 1) := by decide +kernel
theorem d_X_chooseReadyHead_8 : decode prog_1_method_29_code 8 = .ok (.if_icmp .ge 32, 3) := by decide +kernel
theorem d_X_chooseReadyHead_11 : decode prog_1_method_29_code 11 = .ok (.aload_n 0, 1) := by decide +kernel
theorem d_X_chooseReadyHead_12 : decode prog_1_method_29_code 12 = .ok (.getfield 20, 3) := by decide +kernel
theorem d_X_chooseReadyHead_15 : decode prog_1_method_29_code 15 = .ok (.iload_n 1, 1) := by decide +kernel
theorem d_X_chooseReadyHead_16 : decode prog_1_method_29_code 16 = .ok (.aaload, 1) := by decide +kernel
theorem d_X_chooseReadyHead_17 : decode prog_1_method_29_code 17 = .ok (.getfield 94, 3) := by decide +kernel
theorem d_X_chooseReadyHead_20 : decode prog_1_method_29_code 20 = .ok (.ifCond .le 14, 3) := by decide +kernel
theorem d_X_chooseReadyHead_23 : decode prog_1_method_29_code 23 = .ok (.aload_n 0, 1) := by decide +kernel
theorem d_X_chooseReadyHead_24 : decode prog_1_method_29_code 24 = .ok (.iload_n 1, 1) := by decide +kernel
theorem d_X_chooseReadyHead_25 : decode prog_1_method_29_code 25 = .ok (.iload_n 1, 1) := by decide +kernel
theorem d_X_chooseReadyHead_26 : decode prog_1_method_29_code 26 = .ok (.invokevirtual 163, 3) := by decide +kernel
theorem d_X_chooseReadyHead_29 : decode prog_1_method_29_code 29 = .ok (.ifCond .eq 5, 3) := by decide +kernel
theorem d_X_chooseReadyHead_32 : decode prog_1_method_29_code 32 = .ok (.iconst 1, 1) := by decide +kernel
theorem d_X_chooseReadyHead_33 : decode prog_1_method_29_code 33 = .ok (.ireturn, 1) := by decide +kernel
theorem d_X_chooseReadyHead_34 : decode prog_1_method_29_code 34 = .ok (.iinc 1 1, 3) := by decide +kernel
theorem d_X_chooseReadyHead_37 : decode prog_1_method_29_code 37 = .ok (.goto (-35), 3) := by decide +kernel
theorem d_X_chooseReadyHead_40 : decode prog_1_method_29_code 40 = .ok (.iconst 0, 1) := by decide +kernel
theorem d_X_chooseReadyHead_41 : decode prog_1_method_29_code 41 = .ok (.ireturn, 1) := by decide +kernel
abbrev y_X_chooseReadyPair : MethodName := ⟨"GridlockDesk", "chooseReadyPair", "()Z"⟩
abbrev ws_X_chooseReadyPair : List Cond := .code y_X_chooseReadyPair prog_1_method_30_code 3 (some .boolean) :: TB
theorem d_X_chooseReadyPair_0 : decode prog_1_method_30_code 0 = .ok (.iconst 0, 1) := by decide +kernel
theorem d_X_chooseReadyPair_1 : decode prog_1_method_30_code 1 = .ok (.istore_n 1, 1) := by decide +kernel
theorem d_X_chooseReadyPair_2 : decode prog_1_method_30_code 2 = .ok (.iload_n 1, 1) := by decide +kernel
theorem d_X_chooseReadyPair_3 : decode prog_1_method_30_code 3 = .ok (.aload_n 0, 1) := by decide +kernel
theorem d_X_chooseReadyPair_4 : decode prog_1_method_30_code 4 = .ok (.getfield 20, 3) := by decide +kernel
theorem d_X_chooseReadyPair_7 : decode prog_1_method_30_code 7 = .ok (.arraylength, 1) := by decide +kernel
theorem d_X_chooseReadyPair_8 : decode prog_1_method_30_code 8 = .ok (.if_icmp .ge 48, 3) := by decide +kernel
theorem d_X_chooseReadyPair_11 : decode prog_1_method_30_code 11 = .ok (.aload_n 0, 1) := by decide +kernel
theorem d_X_chooseReadyPair_12 : decode prog_1_method_30_code 12 = .ok (.getfield 20, 3) := by decide +kernel
theorem d_X_chooseReadyPair_15 : decode prog_1_method_30_code 15 = .ok (.iload_n 1, 1) := by decide +kernel
theorem d_X_chooseReadyPair_16 : decode prog_1_method_30_code 16 = .ok (.aaload, 1) := by decide +kernel
theorem d_X_chooseReadyPair_17 : decode prog_1_method_30_code 17 = .ok (.invokevirtual 166, 3) := by decide +kernel
theorem d_X_chooseReadyPair_20 : decode prog_1_method_30_code 20 = .ok (.istore_n 2, 1) := by decide +kernel
theorem d_X_chooseReadyPair_21 : decode prog_1_method_30_code 21 = .ok (.iload_n 2, 1) := by decide +kernel
theorem d_X_chooseReadyPair_22 : decode prog_1_method_30_code 22 = .ok (.iload_n 1, 1) := by decide +kernel
theorem d_X_chooseReadyPair_23 : decode prog_1_method_30_code 23 = .ok (.if_icmp .le 27, 3) := by decide +kernel
theorem d_X_chooseReadyPair_26 : decode prog_1_method_30_code 26 = .ok (.aload_n 0, 1) := by decide +kernel
theorem d_X_chooseReadyPair_27 : decode prog_1_method_30_code 27 = .ok (.getfield 20, 3) := by decide +kernel
theorem d_X_chooseReadyPair_30 : decode prog_1_method_30_code 30 = .ok (.iload_n 2, 1) := by decide +kernel
theorem d_X_chooseReadyPair_31 : decode prog_1_method_30_code 31 = .ok (.aaload, 1) := by decide +kernel
theorem d_X_chooseReadyPair_32 : decode prog_1_method_30_code 32 = .ok (.invokevirtual 166, 3) := by decide +kernel
theorem d_X_chooseReadyPair_35 : decode prog_1_method_30_code 35 = .ok (.iload_n 1, 1) := by decide +kernel
theorem d_X_chooseReadyPair_36 : decode prog_1_method_30_code 36 = .ok (.if_icmp .ne 14, 3) := by decide +kernel
theorem d_X_chooseReadyPair_39 : decode prog_1_method_30_code 39 = .ok (.aload_n 0, 1) := by decide +kernel
theorem d_X_chooseReadyPair_40 : decode prog_1_method_30_code 40 = .ok (.iload_n 1, 1) := by decide +kernel
theorem d_X_chooseReadyPair_41 : decode prog_1_method_30_code 41 = .ok (.iload_n 2, 1) := by decide +kernel
theorem d_X_chooseReadyPair_42 : decode prog_1_method_30_code 42 = .ok (.invokevirtual 163, 3) := by decide +kernel
theorem d_X_chooseReadyPair_45 : decode prog_1_method_30_code 45 = .ok (.ifCond .eq 5, 3) := by decide +kernel
theorem d_X_chooseReadyPair_48 : decode prog_1_method_30_code 48 = .ok (.iconst 1, 1) := by decide +kernel
theorem d_X_chooseReadyPair_49 : decode prog_1_method_30_code 49 = .ok (.ireturn, 1) := by decide +kernel
theorem d_X_chooseReadyPair_50 : decode prog_1_method_30_code 50 = .ok (.iinc 1 1, 3) := by decide +kernel
theorem d_X_chooseReadyPair_53 : decode prog_1_method_30_code 53 = .ok (.goto (-51), 3) := by decide +kernel
theorem d_X_chooseReadyPair_56 : decode prog_1_method_30_code 56 = .ok (.iconst 0, 1) := by decide +kernel
theorem d_X_chooseReadyPair_57 : decode prog_1_method_30_code 57 = .ok (.ireturn, 1) := by decide +kernel
abbrev y_X_sweep : MethodName := ⟨"GridlockDesk", "sweep", "()V"⟩
abbrev ws_X_sweep : List Cond := .code y_X_sweep prog_1_method_28_code 2 none :: TB
theorem d_X_sweep_0 : decode prog_1_method_28_code 0 = .ok (.iconst 0, 1) := by decide +kernel
theorem d_X_sweep_1 : decode prog_1_method_28_code 1 = .ok (.istore_n 1, 1) := by decide +kernel
theorem d_X_sweep_2 : decode prog_1_method_28_code 2 = .ok (.iload_n 1, 1) := by decide +kernel
theorem d_X_sweep_3 : decode prog_1_method_28_code 3 = .ok (.bipush 24, 2) := by decide +kernel
theorem d_X_sweep_5 : decode prog_1_method_28_code 5 = .ok (.if_icmp .ge 42, 3) := by decide +kernel
theorem d_X_sweep_8 : decode prog_1_method_28_code 8 = .ok (.aload_n 0, 1) := by decide +kernel
theorem d_X_sweep_9 : decode prog_1_method_28_code 9 = .ok (.invokevirtual 156, 3) := by decide +kernel
theorem d_X_sweep_12 : decode prog_1_method_28_code 12 = .ok (.ifCond .eq 12, 3) := by decide +kernel
theorem d_X_sweep_15 : decode prog_1_method_28_code 15 = .ok (.aload_n 0, 1) := by decide +kernel
theorem d_X_sweep_16 : decode prog_1_method_28_code 16 = .ok (.iconst 1, 1) := by decide +kernel
theorem d_X_sweep_17 : decode prog_1_method_28_code 17 = .ok (.invokevirtual 123, 3) := by decide +kernel
theorem d_X_sweep_20 : decode prog_1_method_28_code 20 = .ok (.pop, 1) := by decide +kernel
theorem d_X_sweep_21 : decode prog_1_method_28_code 21 = .ok (.goto 20, 3) := by decide +kernel
theorem d_X_sweep_24 : decode prog_1_method_28_code 24 = .ok (.aload_n 0, 1) := by decide +kernel
theorem d_X_sweep_25 : decode prog_1_method_28_code 25 = .ok (.invokevirtual 160, 3) := by decide +kernel
theorem d_X_sweep_28 : decode prog_1_method_28_code 28 = .ok (.ifCond .eq 12, 3) := by decide +kernel
theorem d_X_sweep_31 : decode prog_1_method_28_code 31 = .ok (.aload_n 0, 1) := by decide +kernel
theorem d_X_sweep_32 : decode prog_1_method_28_code 32 = .ok (.iconst 2, 1) := by decide +kernel
theorem d_X_sweep_33 : decode prog_1_method_28_code 33 = .ok (.invokevirtual 123, 3) := by decide +kernel
theorem d_X_sweep_36 : decode prog_1_method_28_code 36 = .ok (.pop, 1) := by decide +kernel
theorem d_X_sweep_37 : decode prog_1_method_28_code 37 = .ok (.goto 4, 3) := by decide +kernel
theorem d_X_sweep_40 : decode prog_1_method_28_code 40 = .ok (.return_, 1) := by decide +kernel
theorem d_X_sweep_41 : decode prog_1_method_28_code 41 = .ok (.iinc 1 1, 3) := by decide +kernel
theorem d_X_sweep_44 : decode prog_1_method_28_code 44 = .ok (.goto (-42), 3) := by decide +kernel
theorem d_X_sweep_47 : decode prog_1_method_28_code 47 = .ok (.return_, 1) := by decide +kernel
abbrev y_X_chooseGreatest : MethodName := ⟨"GridlockDesk", "chooseGreatest", "()V"⟩
abbrev ws_X_chooseGreatest : List Cond := .code y_X_chooseGreatest prog_1_method_32_code 3 none :: TB
theorem d_X_chooseGreatest_0 : decode prog_1_method_32_code 0 = .ok (.iconst 0, 1) := by decide +kernel
theorem d_X_chooseGreatest_1 : decode prog_1_method_32_code 1 = .ok (.istore_n 1, 1) := by decide +kernel
theorem d_X_chooseGreatest_2 : decode prog_1_method_32_code 2 = .ok (.iload_n 1, 1) := by decide +kernel
theorem d_X_chooseGreatest_3 : decode prog_1_method_32_code 3 = .ok (.aload_n 0, 1) := by decide +kernel
theorem d_X_chooseGreatest_4 : decode prog_1_method_32_code 4 = .ok (.getfield 20, 3) := by decide +kernel
theorem d_X_chooseGreatest_7 : decode prog_1_method_32_code 7 = .ok (.arraylength, 1) := by decide +kernel
theorem d_X_chooseGreatest_8 : decode prog_1_method_32_code 8 = .ok (.if_icmp .ge 24, 3) := by decide +kernel
theorem d_X_chooseGreatest_11 : decode prog_1_method_32_code 11 = .ok (.aload_n 0, 1) := by decide +kernel
theorem d_X_chooseGreatest_12 : decode prog_1_method_32_code 12 = .ok (.getfield 33, 3) := by decide +kernel
theorem d_X_chooseGreatest_15 : decode prog_1_method_32_code 15 = .ok (.iload_n 1, 1) := by decide +kernel
theorem d_X_chooseGreatest_16 : decode prog_1_method_32_code 16 = .ok (.aload_n 0, 1) := by decide +kernel
theorem d_X_chooseGreatest_17 : decode prog_1_method_32_code 17 = .ok (.getfield 20, 3) := by decide +kernel
theorem d_X_chooseGreatest_20 : decode prog_1_method_32_code 20 = .ok (.iload_n 1, 1) := by decide +kernel
theorem d_X_chooseGreatest_21 : decode prog_1_method_32_code 21 = .ok (.aaload, 1) := by decide +kernel
theorem d_X_chooseGreatest_22 : decode prog_1_method_32_code 22 = .ok (.getfield 94, 3) := by decide +kernel
theorem d_X_chooseGreatest_25 : decode prog_1_method_32_code 25 = .ok (.iastore, 1) := by decide +kernel
theorem d_X_chooseGreatest_26 : decode prog_1_method_32_code 26 = .ok (.iinc 1 1, 3) := by decide +kernel
theorem d_X_chooseGreatest_29 : decode prog_1_method_32_code 29 = .ok (.goto (-27), 3) := by decide +kernel
theorem d_X_chooseGreatest_32 : decode prog_1_method_32_code 32 = .ok (.iconst 0, 1) := by decide +kernel
theorem d_X_chooseGreatest_33 : decode prog_1_method_32_code 33 = .ok (.istore_n 1, 1) := by decide +kernel
theorem d_X_chooseGreatest_34 : decode prog_1_method_32_code 34 = .ok (.iload_n 1, 1) := by decide +kernel
theorem d_X_chooseGreatest_35 : decode prog_1_method_32_code 35 = .ok (.bipush 24, 2) := by decide +kernel
theorem d_X_chooseGreatest_37 : decode prog_1_method_32_code 37 = .ok (.if_icmp .ge 30, 3) := by decide +kernel
theorem d_X_chooseGreatest_40 : decode prog_1_method_32_code 40 = .ok (.aload_n 0, 1) := by decide +kernel
theorem d_X_chooseGreatest_41 : decode prog_1_method_32_code 41 = .ok (.invokevirtual 173, 3) := by decide +kernel
theorem d_X_chooseGreatest_44 : decode prog_1_method_32_code 44 = .ok (.istore_n 2, 1) := by decide +kernel
theorem d_X_chooseGreatest_45 : decode prog_1_method_32_code 45 = .ok (.iload_n 2, 1) := by decide +kernel
theorem d_X_chooseGreatest_46 : decode prog_1_method_32_code 46 = .ok (.iconst (-1), 1) := by decide +kernel
theorem d_X_chooseGreatest_47 : decode prog_1_method_32_code 47 = .ok (.if_icmp .ne 4, 3) := by decide +kernel
theorem d_X_chooseGreatest_50 : decode prog_1_method_32_code 50 = .ok (.return_, 1) := by decide +kernel
theorem d_X_chooseGreatest_51 : decode prog_1_method_32_code 51 = .ok (.aload_n 0, 1) := by decide +kernel
theorem d_X_chooseGreatest_52 : decode prog_1_method_32_code 52 = .ok (.getfield 33, 3) := by decide +kernel
theorem d_X_chooseGreatest_55 : decode prog_1_method_32_code 55 = .ok (.iload_n 2, 1) := by decide +kernel
theorem d_X_chooseGreatest_56 : decode prog_1_method_32_code 56 = .ok (.dup2, 1) := by decide +kernel
theorem d_X_chooseGreatest_57 : decode prog_1_method_32_code 57 = .ok (.iaload, 1) := by decide +kernel
theorem d_X_chooseGreatest_58 : decode prog_1_method_32_code 58 = .ok (.iconst 1, 1) := by decide +kernel
theorem d_X_chooseGreatest_59 : decode prog_1_method_32_code 59 = .ok (.isub, 1) := by decide +kernel
theorem d_X_chooseGreatest_60 : decode prog_1_method_32_code 60 = .ok (.iastore, 1) := by decide +kernel
theorem d_X_chooseGreatest_61 : decode prog_1_method_32_code 61 = .ok (.iinc 1 1, 3) := by decide +kernel
theorem d_X_chooseGreatest_64 : decode prog_1_method_32_code 64 = .ok (.goto (-30), 3) := by decide +kernel
theorem d_X_chooseGreatest_67 : decode prog_1_method_32_code 67 = .ok (.return_, 1) := by decide +kernel
abbrev y_X_fund : MethodName := ⟨"GridlockDesk", "fund", "(IJ)Z"⟩
abbrev ws_X_fund : List Cond := .code y_X_fund prog_1_method_2_code 5 (some .boolean) :: TB
theorem d_X_fund_0 : decode prog_1_method_2_code 0 = .ok (.aload_n 0, 1) := by decide +kernel
theorem d_X_fund_1 : decode prog_1_method_2_code 1 = .ok (.iload_n 1, 1) := by decide +kernel
theorem d_X_fund_2 : decode prog_1_method_2_code 2 = .ok (.invokevirtual 37, 3) := by decide +kernel
theorem d_X_fund_5 : decode prog_1_method_2_code 5 = .ok (.ifCond .eq 19, 3) := by decide +kernel
theorem d_X_fund_8 : decode prog_1_method_2_code 8 = .ok (.lload_n 2, 1) := by decide +kernel
theorem d_X_fund_9 : decode prog_1_method_2_code 9 = .ok (.ldc2_w 41, 3) := by decide +kernel
theorem d_X_fund_12 : decode prog_1_method_2_code 12 = .ok (.lcmp, 1) := by decide +kernel
theorem d_X_fund_13 : decode prog_1_method_2_code 13 = .ok (.ifCond .lt 11, 3) := by decide +kernel
theorem d_X_fund_16 : decode prog_1_method_2_code 16 = .ok (.lload_n 2, 1) := by decide +kernel
theorem d_X_fund_17 : decode prog_1_method_2_code 17 = .ok (.ldc2_w 43, 3) := by decide +kernel
theorem d_X_fund_20 : decode prog_1_method_2_code 20 = .ok (.lcmp, 1) := by decide +kernel
theorem d_X_fund_21 : decode prog_1_method_2_code 21 = .ok (.ifCond .le 5, 3) := by decide +kernel
theorem d_X_fund_24 : decode prog_1_method_2_code 24 = .ok (.iconst 0, 1) := by decide +kernel
theorem d_X_fund_25 : decode prog_1_method_2_code 25 = .ok (.ireturn, 1) := by decide +kernel
theorem d_X_fund_26 : decode prog_1_method_2_code 26 = .ok (.aload_n 0, 1) := by decide +kernel
theorem d_X_fund_27 : decode prog_1_method_2_code 27 = .ok (.getfield 20, 3) := by decide +kernel
theorem d_X_fund_30 : decode prog_1_method_2_code 30 = .ok (.iload_n 1, 1) := by decide +kernel
theorem d_X_fund_31 : decode prog_1_method_2_code 31 = .ok (.aaload, 1) := by decide +kernel
theorem d_X_fund_32 : decode prog_1_method_2_code 32 = .ok (.astore 4, 2) := by decide +kernel
theorem d_X_fund_34 : decode prog_1_method_2_code 34 = .ok (.aload 4, 2) := by decide +kernel
theorem d_X_fund_36 : decode prog_1_method_2_code 36 = .ok (.getfield 45, 3) := by decide +kernel
theorem d_X_fund_39 : decode prog_1_method_2_code 39 = .ok (.lload_n 2, 1) := by decide +kernel
theorem d_X_fund_40 : decode prog_1_method_2_code 40 = .ok (.ladd, 1) := by decide +kernel
theorem d_X_fund_41 : decode prog_1_method_2_code 41 = .ok (.aload 4, 2) := by decide +kernel
theorem d_X_fund_43 : decode prog_1_method_2_code 43 = .ok (.getfield 49, 3) := by decide +kernel
theorem d_X_fund_46 : decode prog_1_method_2_code 46 = .ok (.lneg, 1) := by decide +kernel
theorem d_X_fund_47 : decode prog_1_method_2_code 47 = .ok (.lcmp, 1) := by decide +kernel
theorem d_X_fund_48 : decode prog_1_method_2_code 48 = .ok (.ifCond .ge 5, 3) := by decide +kernel
theorem d_X_fund_51 : decode prog_1_method_2_code 51 = .ok (.iconst 0, 1) := by decide +kernel
theorem d_X_fund_52 : decode prog_1_method_2_code 52 = .ok (.ireturn, 1) := by decide +kernel
theorem d_X_fund_53 : decode prog_1_method_2_code 53 = .ok (.aload 4, 2) := by decide +kernel
theorem d_X_fund_55 : decode prog_1_method_2_code 55 = .ok (.dup, 1) := by decide +kernel
theorem d_X_fund_56 : decode prog_1_method_2_code 56 = .ok (.getfield 45, 3) := by decide +kernel
theorem d_X_fund_59 : decode prog_1_method_2_code 59 = .ok (.lload_n 2, 1) := by decide +kernel
theorem d_X_fund_60 : decode prog_1_method_2_code 60 = .ok (.ladd, 1) := by decide +kernel
theorem d_X_fund_61 : decode prog_1_method_2_code 61 = .ok (.putfield 45, 3) := by decide +kernel
theorem d_X_fund_64 : decode prog_1_method_2_code 64 = .ok (.aload_n 0, 1) := by decide +kernel
theorem d_X_fund_65 : decode prog_1_method_2_code 65 = .ok (.invokevirtual 52, 3) := by decide +kernel
theorem d_X_fund_68 : decode prog_1_method_2_code 68 = .ok (.iconst 1, 1) := by decide +kernel
theorem d_X_fund_69 : decode prog_1_method_2_code 69 = .ok (.ireturn, 1) := by decide +kernel
abbrev y_X_credit : MethodName := ⟨"GridlockDesk", "credit", "(IJ)Z"⟩
abbrev ws_X_credit : List Cond := .code y_X_credit prog_1_method_3_code 4 (some .boolean) :: TB
theorem d_X_credit_0 : decode prog_1_method_3_code 0 = .ok (.aload_n 0, 1) := by decide +kernel
theorem d_X_credit_1 : decode prog_1_method_3_code 1 = .ok (.iload_n 1, 1) := by decide +kernel
theorem d_X_credit_2 : decode prog_1_method_3_code 2 = .ok (.invokevirtual 37, 3) := by decide +kernel
theorem d_X_credit_5 : decode prog_1_method_3_code 5 = .ok (.ifCond .eq 32, 3) := by decide +kernel
theorem d_X_credit_8 : decode prog_1_method_3_code 8 = .ok (.lload_n 2, 1) := by decide +kernel
theorem d_X_credit_9 : decode prog_1_method_3_code 9 = .ok (.lconst 0, 1) := by decide +kernel
theorem d_X_credit_10 : decode prog_1_method_3_code 10 = .ok (.lcmp, 1) := by decide +kernel
theorem d_X_credit_11 : decode prog_1_method_3_code 11 = .ok (.ifCond .lt 26, 3) := by decide +kernel
theorem d_X_credit_14 : decode prog_1_method_3_code 14 = .ok (.lload_n 2, 1) := by decide +kernel
theorem d_X_credit_15 : decode prog_1_method_3_code 15 = .ok (.ldc2_w 55, 3) := by decide +kernel
theorem d_X_credit_18 : decode prog_1_method_3_code 18 = .ok (.lcmp, 1) := by decide +kernel
theorem d_X_credit_19 : decode prog_1_method_3_code 19 = .ok (.ifCond .gt 18, 3) := by decide +kernel
theorem d_X_credit_22 : decode prog_1_method_3_code 22 = .ok (.aload_n 0, 1) := by decide +kernel
theorem d_X_credit_23 : decode prog_1_method_3_code 23 = .ok (.getfield 20, 3) := by decide +kernel
theorem d_X_credit_26 : decode prog_1_method_3_code 26 = .ok (.iload_n 1, 1) := by decide +kernel
theorem d_X_credit_27 : decode prog_1_method_3_code 27 = .ok (.aaload, 1) := by decide +kernel
theorem d_X_credit_28 : decode prog_1_method_3_code 28 = .ok (.getfield 45, 3) := by decide +kernel
theorem d_X_credit_31 : decode prog_1_method_3_code 31 = .ok (.lload_n 2, 1) := by decide +kernel
theorem d_X_credit_32 : decode prog_1_method_3_code 32 = .ok (.lneg, 1) := by decide +kernel
theorem d_X_credit_33 : decode prog_1_method_3_code 33 = .ok (.lcmp, 1) := by decide +kernel
theorem d_X_credit_34 : decode prog_1_method_3_code 34 = .ok (.ifCond .ge 5, 3) := by decide +kernel
theorem d_X_credit_37 : decode prog_1_method_3_code 37 = .ok (.iconst 0, 1) := by decide +kernel
theorem d_X_credit_38 : decode prog_1_method_3_code 38 = .ok (.ireturn, 1) := by decide +kernel
theorem d_X_credit_39 : decode prog_1_method_3_code 39 = .ok (.aload_n 0, 1) := by decide +kernel
theorem d_X_credit_40 : decode prog_1_method_3_code 40 = .ok (.getfield 20, 3) := by decide +kernel
theorem d_X_credit_43 : decode prog_1_method_3_code 43 = .ok (.iload_n 1, 1) := by decide +kernel
theorem d_X_credit_44 : decode prog_1_method_3_code 44 = .ok (.aaload, 1) := by decide +kernel
theorem d_X_credit_45 : decode prog_1_method_3_code 45 = .ok (.lload_n 2, 1) := by decide +kernel
theorem d_X_credit_46 : decode prog_1_method_3_code 46 = .ok (.putfield 49, 3) := by decide +kernel
theorem d_X_credit_49 : decode prog_1_method_3_code 49 = .ok (.aload_n 0, 1) := by decide +kernel
theorem d_X_credit_50 : decode prog_1_method_3_code 50 = .ok (.invokevirtual 52, 3) := by decide +kernel
theorem d_X_credit_53 : decode prog_1_method_3_code 53 = .ok (.iconst 1, 1) := by decide +kernel
theorem d_X_credit_54 : decode prog_1_method_3_code 54 = .ok (.ireturn, 1) := by decide +kernel
abbrev y_X_limit : MethodName := ⟨"GridlockDesk", "limit", "(IIJ)Z"⟩
abbrev ws_X_limit : List Cond := .code y_X_limit prog_1_method_4_code 5 (some .boolean) :: TB
theorem d_X_limit_0 : decode prog_1_method_4_code 0 = .ok (.aload_n 0, 1) := by decide +kernel
theorem d_X_limit_1 : decode prog_1_method_4_code 1 = .ok (.iload_n 1, 1) := by decide +kernel
theorem d_X_limit_2 : decode prog_1_method_4_code 2 = .ok (.iload_n 2, 1) := by decide +kernel
theorem d_X_limit_3 : decode prog_1_method_4_code 3 = .ok (.invokevirtual 57, 3) := by decide +kernel
theorem d_X_limit_6 : decode prog_1_method_4_code 6 = .ok (.ifCond .eq 23, 3) := by decide +kernel
theorem d_X_limit_9 : decode prog_1_method_4_code 9 = .ok (.lload_n 3, 1) := by decide +kernel
theorem d_X_limit_10 : decode prog_1_method_4_code 10 = .ok (.invokestatic 61, 3) := by decide +kernel
theorem d_X_limit_13 : decode prog_1_method_4_code 13 = .ok (.ifCond .eq 16, 3) := by decide +kernel
theorem d_X_limit_16 : decode prog_1_method_4_code 16 = .ok (.aload_n 0, 1) := by decide +kernel
theorem d_X_limit_17 : decode prog_1_method_4_code 17 = .ok (.iload_n 1, 1) := by decide +kernel
theorem d_X_limit_18 : decode prog_1_method_4_code 18 = .ok (.iload_n 2, 1) := by decide +kernel
theorem d_X_limit_19 : decode prog_1_method_4_code 19 = .ok (.invokevirtual 65, 3) := by decide +kernel
theorem d_X_limit_22 : decode prog_1_method_4_code 22 = .ok (.lload_n 3, 1) := by decide +kernel
theorem d_X_limit_23 : decode prog_1_method_4_code 23 = .ok (.invokestatic 69, 3) := by decide +kernel
theorem d_X_limit_26 : decode prog_1_method_4_code 26 = .ok (.ifCond .eq 5, 3) := by decide +kernel
theorem d_X_limit_29 : decode prog_1_method_4_code 29 = .ok (.iconst 0, 1) := by decide +kernel
theorem d_X_limit_30 : decode prog_1_method_4_code 30 = .ok (.ireturn, 1) := by decide +kernel
theorem d_X_limit_31 : decode prog_1_method_4_code 31 = .ok (.aload_n 0, 1) := by decide +kernel
theorem d_X_limit_32 : decode prog_1_method_4_code 32 = .ok (.getfield 20, 3) := by decide +kernel
theorem d_X_limit_35 : decode prog_1_method_4_code 35 = .ok (.iload_n 1, 1) := by decide +kernel
theorem d_X_limit_36 : decode prog_1_method_4_code 36 = .ok (.aaload, 1) := by decide +kernel
theorem d_X_limit_37 : decode prog_1_method_4_code 37 = .ok (.getfield 73, 3) := by decide +kernel
theorem d_X_limit_40 : decode prog_1_method_4_code 40 = .ok (.iload_n 2, 1) := by decide +kernel
theorem d_X_limit_41 : decode prog_1_method_4_code 41 = .ok (.lload_n 3, 1) := by decide +kernel
theorem d_X_limit_42 : decode prog_1_method_4_code 42 = .ok (.lastore, 1) := by decide +kernel
theorem d_X_limit_43 : decode prog_1_method_4_code 43 = .ok (.aload_n 0, 1) := by decide +kernel
theorem d_X_limit_44 : decode prog_1_method_4_code 44 = .ok (.invokevirtual 52, 3) := by decide +kernel
theorem d_X_limit_47 : decode prog_1_method_4_code 47 = .ok (.iconst 1, 1) := by decide +kernel
theorem d_X_limit_48 : decode prog_1_method_4_code 48 = .ok (.ireturn, 1) := by decide +kernel
abbrev y_X_totalLimit : MethodName := ⟨"GridlockDesk", "totalLimit", "(IJ)Z"⟩
abbrev ws_X_totalLimit : List Cond := .code y_X_totalLimit prog_1_method_5_code 4 (some .boolean) :: TB
theorem d_X_totalLimit_0 : decode prog_1_method_5_code 0 = .ok (.aload_n 0, 1) := by decide +kernel
theorem d_X_totalLimit_1 : decode prog_1_method_5_code 1 = .ok (.iload_n 1, 1) := by decide +kernel
theorem d_X_totalLimit_2 : decode prog_1_method_5_code 2 = .ok (.invokevirtual 37, 3) := by decide +kernel
theorem d_X_totalLimit_5 : decode prog_1_method_5_code 5 = .ok (.ifCond .eq 22, 3) := by decide +kernel
theorem d_X_totalLimit_8 : decode prog_1_method_5_code 8 = .ok (.lload_n 2, 1) := by decide +kernel
theorem d_X_totalLimit_9 : decode prog_1_method_5_code 9 = .ok (.invokestatic 61, 3) := by decide +kernel
theorem d_X_totalLimit_12 : decode prog_1_method_5_code 12 = .ok (.ifCond .eq 15, 3) := by decide +kernel
theorem d_X_totalLimit_15 : decode prog_1_method_5_code 15 = .ok (.aload_n 0, 1) := by decide +kernel
theorem d_X_totalLimit_16 : decode prog_1_method_5_code 16 = .ok (.iload_n 1, 1) := by decide +kernel
theorem d_X_totalLimit_17 : decode prog_1_method_5_code 17 = .ok (.invokevirtual 77, 3) := by decide +kernel
theorem d_X_totalLimit_20 : decode prog_1_method_5_code 20 = .ok (.lload_n 2, 1) := by decide +kernel
theorem d_X_totalLimit_21 : decode prog_1_method_5_code 21 = .ok (.invokestatic 69, 3) := by decide +kernel
theorem d_X_totalLimit_24 : decode prog_1_method_5_code 24 = .ok (.ifCond .eq 5, 3) := by decide +kernel
theorem d_X_totalLimit_27 : decode prog_1_method_5_code 27 = .ok (.iconst 0, 1) := by decide +kernel
theorem d_X_totalLimit_28 : decode prog_1_method_5_code 28 = .ok (.ireturn, 1) := by decide +kernel
theorem d_X_totalLimit_29 : decode prog_1_method_5_code 29 = .ok (.aload_n 0, 1) := by decide +kernel
theorem d_X_totalLimit_30 : decode prog_1_method_5_code 30 = .ok (.getfield 20, 3) := by decide +kernel
theorem d_X_totalLimit_33 : decode prog_1_method_5_code 33 = .ok (.iload_n 1, 1) := by decide +kernel
theorem d_X_totalLimit_34 : decode prog_1_method_5_code 34 = .ok (.aaload, 1) := by decide +kernel
theorem d_X_totalLimit_35 : decode prog_1_method_5_code 35 = .ok (.lload_n 2, 1) := by decide +kernel
theorem d_X_totalLimit_36 : decode prog_1_method_5_code 36 = .ok (.putfield 81, 3) := by decide +kernel
theorem d_X_totalLimit_39 : decode prog_1_method_5_code 39 = .ok (.aload_n 0, 1) := by decide +kernel
theorem d_X_totalLimit_40 : decode prog_1_method_5_code 40 = .ok (.invokevirtual 52, 3) := by decide +kernel
theorem d_X_totalLimit_43 : decode prog_1_method_5_code 43 = .ok (.iconst 1, 1) := by decide +kernel
theorem d_X_totalLimit_44 : decode prog_1_method_5_code 44 = .ok (.ireturn, 1) := by decide +kernel
abbrev y_X_cancel : MethodName := ⟨"GridlockDesk", "cancel", "(I)Z"⟩
abbrev ws_X_cancel : List Cond := .code y_X_cancel prog_1_method_7_code 2 (some .boolean) :: TB
theorem d_X_cancel_0 : decode prog_1_method_7_code 0 = .ok (.aload_n 0, 1) := by decide +kernel
theorem d_X_cancel_1 : decode prog_1_method_7_code 1 = .ok (.iload_n 1, 1) := by decide +kernel
theorem d_X_cancel_2 : decode prog_1_method_7_code 2 = .ok (.invokevirtual 104, 3) := by decide +kernel
theorem d_X_cancel_5 : decode prog_1_method_7_code 5 = .ok (.ifCond .ne 5, 3) := by decide +kernel
theorem d_X_cancel_8 : decode prog_1_method_7_code 8 = .ok (.iconst 0, 1) := by decide +kernel
theorem d_X_cancel_9 : decode prog_1_method_7_code 9 = .ok (.ireturn, 1) := by decide +kernel
theorem d_X_cancel_10 : decode prog_1_method_7_code 10 = .ok (.aload_n 0, 1) := by decide +kernel
theorem d_X_cancel_11 : decode prog_1_method_7_code 11 = .ok (.aload_n 0, 1) := by decide +kernel
theorem d_X_cancel_12 : decode prog_1_method_7_code 12 = .ok (.getfield 29, 3) := by decide +kernel
theorem d_X_cancel_15 : decode prog_1_method_7_code 15 = .ok (.iload_n 1, 1) := by decide +kernel
theorem d_X_cancel_16 : decode prog_1_method_7_code 16 = .ok (.aaload, 1) := by decide +kernel
theorem d_X_cancel_17 : decode prog_1_method_7_code 17 = .ok (.iconst 4, 1) := by decide +kernel
theorem d_X_cancel_18 : decode prog_1_method_7_code 18 = .ok (.invokevirtual 107, 3) := by decide +kernel
theorem d_X_cancel_21 : decode prog_1_method_7_code 21 = .ok (.aload_n 0, 1) := by decide +kernel
theorem d_X_cancel_22 : decode prog_1_method_7_code 22 = .ok (.invokevirtual 52, 3) := by decide +kernel
theorem d_X_cancel_25 : decode prog_1_method_7_code 25 = .ok (.iconst 1, 1) := by decide +kernel
theorem d_X_cancel_26 : decode prog_1_method_7_code 26 = .ok (.ireturn, 1) := by decide +kernel
abbrev y_X_urge : MethodName := ⟨"GridlockDesk", "urge", "(II)Z"⟩
abbrev ws_X_urge : List Cond := .code y_X_urge prog_1_method_8_code 5 (some .boolean) :: TB
theorem d_X_urge_0 : decode prog_1_method_8_code 0 = .ok (.aload_n 0, 1) := by decide +kernel
theorem d_X_urge_1 : decode prog_1_method_8_code 1 = .ok (.iload_n 1, 1) := by decide +kernel
theorem d_X_urge_2 : decode prog_1_method_8_code 2 = .ok (.invokevirtual 104, 3) := by decide +kernel
theorem d_X_urge_5 : decode prog_1_method_8_code 5 = .ok (.ifCond .eq 10, 3) := by decide +kernel
theorem d_X_urge_8 : decode prog_1_method_8_code 8 = .ok (.iload_n 2, 1) := by decide +kernel
theorem d_X_urge_9 : decode prog_1_method_8_code 9 = .ok (.invokestatic 84, 3) := by decide +kernel
theorem d_X_urge_12 : decode prog_1_method_8_code 12 = .ok (.ifCond .ne 5, 3) := by decide +kernel
theorem d_X_urge_15 : decode prog_1_method_8_code 15 = .ok (.iconst 0, 1) := by decide +kernel
theorem d_X_urge_16 : decode prog_1_method_8_code 16 = .ok (.ireturn, 1) := by decide +kernel
theorem d_X_urge_17 : decode prog_1_method_8_code 17 = .ok (.aload_n 0, 1) := by decide +kernel
theorem d_X_urge_18 : decode prog_1_method_8_code 18 = .ok (.getfield 29, 3) := by decide +kernel
theorem d_X_urge_21 : decode prog_1_method_8_code 21 = .ok (.iload_n 1, 1) := by decide +kernel
theorem d_X_urge_22 : decode prog_1_method_8_code 22 = .ok (.aaload, 1) := by decide +kernel
theorem d_X_urge_23 : decode prog_1_method_8_code 23 = .ok (.astore_n 3, 1) := by decide +kernel
theorem d_X_urge_24 : decode prog_1_method_8_code 24 = .ok (.aload_n 0, 1) := by decide +kernel
theorem d_X_urge_25 : decode prog_1_method_8_code 25 = .ok (.getfield 20, 3) := by decide +kernel
theorem d_X_urge_28 : decode prog_1_method_8_code 28 = .ok (.aload_n 3, 1) := by decide +kernel
theorem d_X_urge_29 : decode prog_1_method_8_code 29 = .ok (.getfield 111, 3) := by decide +kernel
theorem d_X_urge_32 : decode prog_1_method_8_code 32 = .ok (.aaload, 1) := by decide +kernel
theorem d_X_urge_33 : decode prog_1_method_8_code 33 = .ok (.astore 4, 2) := by decide +kernel
theorem d_X_urge_35 : decode prog_1_method_8_code 35 = .ok (.aload 4, 2) := by decide +kernel
theorem d_X_urge_37 : decode prog_1_method_8_code 37 = .ok (.aload_n 3, 1) := by decide +kernel
theorem d_X_urge_38 : decode prog_1_method_8_code 38 = .ok (.invokevirtual 114, 3) := by decide +kernel
theorem d_X_urge_41 : decode prog_1_method_8_code 41 = .ok (.aload_n 3, 1) := by decide +kernel
theorem d_X_urge_42 : decode prog_1_method_8_code 42 = .ok (.iload_n 2, 1) := by decide +kernel
theorem d_X_urge_43 : decode prog_1_method_8_code 43 = .ok (.putfield 117, 3) := by decide +kernel
theorem d_X_urge_46 : decode prog_1_method_8_code 46 = .ok (.aload 4, 2) := by decide +kernel
theorem d_X_urge_48 : decode prog_1_method_8_code 48 = .ok (.aload_n 3, 1) := by decide +kernel
theorem d_X_urge_49 : decode prog_1_method_8_code 49 = .ok (.invokevirtual 100, 3) := by decide +kernel
theorem d_X_urge_52 : decode prog_1_method_8_code 52 = .ok (.aload_n 0, 1) := by decide +kernel
theorem d_X_urge_53 : decode prog_1_method_8_code 53 = .ok (.invokevirtual 52, 3) := by decide +kernel
theorem d_X_urge_56 : decode prog_1_method_8_code 56 = .ok (.iconst 1, 1) := by decide +kernel
theorem d_X_urge_57 : decode prog_1_method_8_code 57 = .ok (.ireturn, 1) := by decide +kernel
abbrev y_X_resolve : MethodName := ⟨"GridlockDesk", "resolve", "()I"⟩
abbrev ws_X_resolve : List Cond := .code y_X_resolve prog_1_method_9_code 2 (some .int) :: TB
theorem d_X_resolve_0 : decode prog_1_method_9_code 0 = .ok (.aload_n 0, 1) := by decide +kernel
theorem d_X_resolve_1 : decode prog_1_method_9_code 1 = .ok (.invokevirtual 120, 3) := by decide +kernel
theorem d_X_resolve_4 : decode prog_1_method_9_code 4 = .ok (.aload_n 0, 1) := by decide +kernel
theorem d_X_resolve_5 : decode prog_1_method_9_code 5 = .ok (.iconst 3, 1) := by decide +kernel
theorem d_X_resolve_6 : decode prog_1_method_9_code 6 = .ok (.invokevirtual 123, 3) := by decide +kernel
theorem d_X_resolve_9 : decode prog_1_method_9_code 9 = .ok (.istore_n 1, 1) := by decide +kernel
theorem d_X_resolve_10 : decode prog_1_method_9_code 10 = .ok (.aload_n 0, 1) := by decide +kernel
theorem d_X_resolve_11 : decode prog_1_method_9_code 11 = .ok (.invokevirtual 52, 3) := by decide +kernel
theorem d_X_resolve_14 : decode prog_1_method_9_code 14 = .ok (.iload_n 1, 1) := by decide +kernel
theorem d_X_resolve_15 : decode prog_1_method_9_code 15 = .ok (.ireturn, 1) := by decide +kernel
abbrev y_X_tick : MethodName := ⟨"GridlockDesk", "tick", "(I)I"⟩
abbrev ws_X_tick : List Cond := .code y_X_tick prog_1_method_10_code 4 (some .int) :: TB
theorem d_X_tick_0 : decode prog_1_method_10_code 0 = .ok (.iload_n 1, 1) := by decide +kernel
theorem d_X_tick_1 : decode prog_1_method_10_code 1 = .ok (.iconst 1, 1) := by decide +kernel
theorem d_X_tick_2 : decode prog_1_method_10_code 2 = .ok (.if_icmp .lt 10, 3) := by decide +kernel
theorem d_X_tick_5 : decode prog_1_method_10_code 5 = .ok (.iload_n 1, 1) := by decide +kernel
theorem d_X_tick_6 : decode prog_1_method_10_code 6 = .ok (.sipush 1000, 3) := by decide +kernel
theorem d_X_tick_9 : decode prog_1_method_10_code 9 = .ok (.if_icmp .le 5, 3) := by decide +kernel
theorem d_X_tick_12 : decode prog_1_method_10_code 12 = .ok (.iconst (-1), 1) := by decide +kernel
theorem d_X_tick_13 : decode prog_1_method_10_code 13 = .ok (.ireturn, 1) := by decide +kernel
theorem d_X_tick_14 : decode prog_1_method_10_code 14 = .ok (.aload_n 0, 1) := by decide +kernel
theorem d_X_tick_15 : decode prog_1_method_10_code 15 = .ok (.dup, 1) := by decide +kernel
theorem d_X_tick_16 : decode prog_1_method_10_code 16 = .ok (.getfield 87, 3) := by decide +kernel
theorem d_X_tick_19 : decode prog_1_method_10_code 19 = .ok (.iload_n 1, 1) := by decide +kernel
theorem d_X_tick_20 : decode prog_1_method_10_code 20 = .ok (.iadd, 1) := by decide +kernel
theorem d_X_tick_21 : decode prog_1_method_10_code 21 = .ok (.putfield 87, 3) := by decide +kernel
theorem d_X_tick_24 : decode prog_1_method_10_code 24 = .ok (.iconst 0, 1) := by decide +kernel
theorem d_X_tick_25 : decode prog_1_method_10_code 25 = .ok (.istore_n 2, 1) := by decide +kernel
theorem d_X_tick_26 : decode prog_1_method_10_code 26 = .ok (.iconst 0, 1) := by decide +kernel
theorem d_X_tick_27 : decode prog_1_method_10_code 27 = .ok (.istore_n 3, 1) := by decide +kernel
theorem d_X_tick_28 : decode prog_1_method_10_code 28 = .ok (.iload_n 3, 1) := by decide +kernel
theorem d_X_tick_29 : decode prog_1_method_10_code 29 = .ok (.aload_n 0, 1) := by decide +kernel
theorem d_X_tick_30 : decode prog_1_method_10_code 30 = .ok (.getfield 91, 3) := by decide +kernel
theorem d_X_tick_33 : decode prog_1_method_10_code 33 = .ok (.if_icmp .ge 47, 3) := by decide +kernel
theorem d_X_tick_36 : decode prog_1_method_10_code 36 = .ok (.aload_n 0, 1) := by decide +kernel
theorem d_X_tick_37 : decode prog_1_method_10_code 37 = .ok (.iload_n 3, 1) := by decide +kernel
theorem d_X_tick_38 : decode prog_1_method_10_code 38 = .ok (.invokevirtual 104, 3) := by decide +kernel
theorem d_X_tick_41 : decode prog_1_method_10_code 41 = .ok (.ifCond .eq 33, 3) := by decide +kernel
theorem d_X_tick_44 : decode prog_1_method_10_code 44 = .ok (.aload_n 0, 1) := by decide +kernel
theorem d_X_tick_45 : decode prog_1_method_10_code 45 = .ok (.getfield 29, 3) := by decide +kernel
theorem d_X_tick_48 : decode prog_1_method_10_code 48 = .ok (.iload_n 3, 1) := by decide +kernel
theorem d_X_tick_49 : decode prog_1_method_10_code 49 = .ok (.aaload, 1) := by decide +kernel
theorem d_X_tick_50 : decode prog_1_method_10_code 50 = .ok (.getfield 127, 3) := by decide +kernel
theorem d_X_tick_53 : decode prog_1_method_10_code 53 = .ok (.aload_n 0, 1) := by decide +kernel
theorem d_X_tick_54 : decode prog_1_method_10_code 54 = .ok (.getfield 87, 3) := by decide +kernel
theorem d_X_tick_57 : decode prog_1_method_10_code 57 = .ok (.if_icmp .ge 17, 3) := by decide +kernel
theorem d_X_tick_60 : decode prog_1_method_10_code 60 = .ok (.aload_n 0, 1) := by decide +kernel
theorem d_X_tick_61 : decode prog_1_method_10_code 61 = .ok (.aload_n 0, 1) := by decide +kernel
theorem d_X_tick_62 : decode prog_1_method_10_code 62 = .ok (.getfield 29, 3) := by decide +kernel
theorem d_X_tick_65 : decode prog_1_method_10_code 65 = .ok (.iload_n 3, 1) := by decide +kernel
theorem d_X_tick_66 : decode prog_1_method_10_code 66 = .ok (.aaload, 1) := by decide +kernel
theorem d_X_tick_67 : decode prog_1_method_10_code 67 = .ok (.iconst 5, 1) := by decide +kernel
theorem d_X_tick_68 : decode prog_1_method_10_code 68 = .ok (.invokevirtual 107, 3) := by decide +kernel
theorem d_X_tick_71 : decode prog_1_method_10_code 71 = .ok (.iinc 2 1, 3) := by decide +kernel
theorem d_X_tick_74 : decode prog_1_method_10_code 74 = .ok (.iinc 3 1, 3) := by decide +kernel
theorem d_X_tick_77 : decode prog_1_method_10_code 77 = .ok (.goto (-49), 3) := by decide +kernel
theorem d_X_tick_80 : decode prog_1_method_10_code 80 = .ok (.aload_n 0, 1) := by decide +kernel
theorem d_X_tick_81 : decode prog_1_method_10_code 81 = .ok (.invokevirtual 52, 3) := by decide +kernel
theorem d_X_tick_84 : decode prog_1_method_10_code 84 = .ok (.iload_n 2, 1) := by decide +kernel
theorem d_X_tick_85 : decode prog_1_method_10_code 85 = .ok (.ireturn, 1) := by decide +kernel
abbrev y_X_close : MethodName := ⟨"GridlockDesk", "close", "()I"⟩
abbrev ws_X_close : List Cond := .code y_X_close prog_1_method_11_code 6 (some .int) :: TB
theorem d_X_close_0 : decode prog_1_method_11_code 0 = .ok (.iconst 0, 1) := by decide +kernel
theorem d_X_close_1 : decode prog_1_method_11_code 1 = .ok (.istore_n 1, 1) := by decide +kernel
theorem d_X_close_2 : decode prog_1_method_11_code 2 = .ok (.iconst 0, 1) := by decide +kernel
theorem d_X_close_3 : decode prog_1_method_11_code 3 = .ok (.istore_n 2, 1) := by decide +kernel
theorem d_X_close_4 : decode prog_1_method_11_code 4 = .ok (.iload_n 2, 1) := by decide +kernel
theorem d_X_close_5 : decode prog_1_method_11_code 5 = .ok (.aload_n 0, 1) := by decide +kernel
theorem d_X_close_6 : decode prog_1_method_11_code 6 = .ok (.getfield 91, 3) := by decide +kernel
theorem d_X_close_9 : decode prog_1_method_11_code 9 = .ok (.if_icmp .ge 32, 3) := by decide +kernel
theorem d_X_close_12 : decode prog_1_method_11_code 12 = .ok (.aload_n 0, 1) := by decide +kernel
theorem d_X_close_13 : decode prog_1_method_11_code 13 = .ok (.iload_n 2, 1) := by decide +kernel
theorem d_X_close_14 : decode prog_1_method_11_code 14 = .ok (.invokevirtual 104, 3) := by decide +kernel
theorem d_X_close_17 : decode prog_1_method_11_code 17 = .ok (.ifCond .eq 18, 3) := by decide +kernel
theorem d_X_close_20 : decode prog_1_method_11_code 20 = .ok (.aload_n 0, 1) := by decide +kernel
theorem d_X_close_21 : decode prog_1_method_11_code 21 = .ok (.aload_n 0, 1) := by decide +kernel
theorem d_X_close_22 : decode prog_1_method_11_code 22 = .ok (.getfield 29, 3) := by decide +kernel
theorem d_X_close_25 : decode prog_1_method_11_code 25 = .ok (.iload_n 2, 1) := by decide +kernel
theorem d_X_close_26 : decode prog_1_method_11_code 26 = .ok (.aaload, 1) := by decide +kernel
theorem d_X_close_27 : decode prog_1_method_11_code 27 = .ok (.bipush 6, 2) := by decide +kernel
theorem d_X_close_29 : decode prog_1_method_11_code 29 = .ok (.invokevirtual 107, 3) := by decide +kernel
theorem d_X_close_32 : decode prog_1_method_11_code 32 = .ok (.iinc 1 1, 3) := by decide +kernel
theorem d_X_close_35 : decode prog_1_method_11_code 35 = .ok (.iinc 2 1, 3) := by decide +kernel
theorem d_X_close_38 : decode prog_1_method_11_code 38 = .ok (.goto (-34), 3) := by decide +kernel
theorem d_X_close_41 : decode prog_1_method_11_code 41 = .ok (.aload_n 0, 1) := by decide +kernel
theorem d_X_close_42 : decode prog_1_method_11_code 42 = .ok (.getfield 20, 3) := by decide +kernel
theorem d_X_close_45 : decode prog_1_method_11_code 45 = .ok (.astore_n 2, 1) := by decide +kernel
theorem d_X_close_46 : decode prog_1_method_11_code 46 = .ok (.aload_n 2, 1) := by decide +kernel
theorem d_X_close_47 : decode prog_1_method_11_code 47 = .ok (.arraylength, 1) := by decide +kernel
theorem d_X_close_48 : decode prog_1_method_11_code 48 = .ok (.istore_n 3, 1) := by decide +kernel
theorem d_X_close_49 : decode prog_1_method_11_code 49 = .ok (.iconst 0, 1) := by decide +kernel
theorem d_X_close_50 : decode prog_1_method_11_code 50 = .ok (.istore 4, 2) := by decide +kernel
theorem d_X_close_52 : decode prog_1_method_11_code 52 = .ok (.iload 4, 2) := by decide +kernel
theorem d_X_close_54 : decode prog_1_method_11_code 54 = .ok (.iload_n 3, 1) := by decide +kernel
theorem d_X_close_55 : decode prog_1_method_11_code 55 = .ok (.if_icmp .ge 24, 3) := by decide +kernel
theorem d_X_close_58 : decode prog_1_method_11_code 58 = .ok (.aload_n 2, 1) := by decide +kernel
theorem d_X_close_59 : decode prog_1_method_11_code 59 = .ok (.iload 4, 2) := by decide +kernel
theorem d_X_close_61 : decode prog_1_method_11_code 61 = .ok (.aaload, 1) := by decide +kernel
theorem d_X_close_62 : decode prog_1_method_11_code 62 = .ok (.astore 5, 2) := by decide +kernel
theorem d_X_close_64 : decode prog_1_method_11_code 64 = .ok (.aload 5, 2) := by decide +kernel
theorem d_X_close_66 : decode prog_1_method_11_code 66 = .ok (.getfield 130, 3) := by decide +kernel
theorem d_X_close_69 : decode prog_1_method_11_code 69 = .ok (.lconst 0, 1) := by decide +kernel
theorem d_X_close_70 : decode prog_1_method_11_code 70 = .ok (.invokestatic 133, 3) := by decide +kernel
theorem d_X_close_73 : decode prog_1_method_11_code 73 = .ok (.iinc 4 1, 3) := by decide +kernel
theorem d_X_close_76 : decode prog_1_method_11_code 76 = .ok (.goto (-24), 3) := by decide +kernel
theorem d_X_close_79 : decode prog_1_method_11_code 79 = .ok (.iload_n 1, 1) := by decide +kernel
theorem d_X_close_80 : decode prog_1_method_11_code 80 = .ok (.ireturn, 1) := by decide +kernel
abbrev y_X_balance : MethodName := ⟨"GridlockDesk", "balance", "(I)J"⟩
abbrev ws_X_balance : List Cond := .code y_X_balance prog_1_method_12_code 2 (some .long) :: TB
theorem d_X_balance_0 : decode prog_1_method_12_code 0 = .ok (.aload_n 0, 1) := by decide +kernel
theorem d_X_balance_1 : decode prog_1_method_12_code 1 = .ok (.iload_n 1, 1) := by decide +kernel
theorem d_X_balance_2 : decode prog_1_method_12_code 2 = .ok (.invokevirtual 37, 3) := by decide +kernel
theorem d_X_balance_5 : decode prog_1_method_12_code 5 = .ok (.ifCond .eq 15, 3) := by decide +kernel
theorem d_X_balance_8 : decode prog_1_method_12_code 8 = .ok (.aload_n 0, 1) := by decide +kernel
theorem d_X_balance_9 : decode prog_1_method_12_code 9 = .ok (.getfield 20, 3) := by decide +kernel
theorem d_X_balance_12 : decode prog_1_method_12_code 12 = .ok (.iload_n 1, 1) := by decide +kernel
theorem d_X_balance_13 : decode prog_1_method_12_code 13 = .ok (.aaload, 1) := by decide +kernel
theorem d_X_balance_14 : decode prog_1_method_12_code 14 = .ok (.getfield 45, 3) := by decide +kernel
theorem d_X_balance_17 : decode prog_1_method_12_code 17 = .ok (.goto 4, 3) := by decide +kernel
theorem d_X_balance_20 : decode prog_1_method_12_code 20 = .ok (.lconst 0, 1) := by decide +kernel
theorem d_X_balance_21 : decode prog_1_method_12_code 21 = .ok (.lreturn, 1) := by decide +kernel
abbrev y_X_position : MethodName := ⟨"GridlockDesk", "position", "(II)J"⟩
abbrev ws_X_position : List Cond := .code y_X_position prog_1_method_13_code 3 (some .long) :: TB
theorem d_X_position_0 : decode prog_1_method_13_code 0 = .ok (.aload_n 0, 1) := by decide +kernel
theorem d_X_position_1 : decode prog_1_method_13_code 1 = .ok (.iload_n 1, 1) := by decide +kernel
theorem d_X_position_2 : decode prog_1_method_13_code 2 = .ok (.iload_n 2, 1) := by decide +kernel
theorem d_X_position_3 : decode prog_1_method_13_code 3 = .ok (.invokevirtual 57, 3) := by decide +kernel
theorem d_X_position_6 : decode prog_1_method_13_code 6 = .ok (.ifCond .eq 12, 3) := by decide +kernel
theorem d_X_position_9 : decode prog_1_method_13_code 9 = .ok (.aload_n 0, 1) := by decide +kernel
theorem d_X_position_10 : decode prog_1_method_13_code 10 = .ok (.iload_n 1, 1) := by decide +kernel
theorem d_X_position_11 : decode prog_1_method_13_code 11 = .ok (.iload_n 2, 1) := by decide +kernel
theorem d_X_position_12 : decode prog_1_method_13_code 12 = .ok (.invokevirtual 65, 3) := by decide +kernel
theorem d_X_position_15 : decode prog_1_method_13_code 15 = .ok (.goto 4, 3) := by decide +kernel
theorem d_X_position_18 : decode prog_1_method_13_code 18 = .ok (.lconst 0, 1) := by decide +kernel
theorem d_X_position_19 : decode prog_1_method_13_code 19 = .ok (.lreturn, 1) := by decide +kernel
abbrev y_X_waiting : MethodName := ⟨"GridlockDesk", "waiting", "(I)I"⟩
abbrev ws_X_waiting : List Cond := .code y_X_waiting prog_1_method_14_code 2 (some .int) :: TB
theorem d_X_waiting_0 : decode prog_1_method_14_code 0 = .ok (.aload_n 0, 1) := by decide +kernel
theorem d_X_waiting_1 : decode prog_1_method_14_code 1 = .ok (.iload_n 1, 1) := by decide +kernel
theorem d_X_waiting_2 : decode prog_1_method_14_code 2 = .ok (.invokevirtual 37, 3) := by decide +kernel
theorem d_X_waiting_5 : decode prog_1_method_14_code 5 = .ok (.ifCond .eq 15, 3) := by decide +kernel
theorem d_X_waiting_8 : decode prog_1_method_14_code 8 = .ok (.aload_n 0, 1) := by decide +kernel
theorem d_X_waiting_9 : decode prog_1_method_14_code 9 = .ok (.getfield 20, 3) := by decide +kernel
theorem d_X_waiting_12 : decode prog_1_method_14_code 12 = .ok (.iload_n 1, 1) := by decide +kernel
theorem d_X_waiting_13 : decode prog_1_method_14_code 13 = .ok (.aaload, 1) := by decide +kernel
theorem d_X_waiting_14 : decode prog_1_method_14_code 14 = .ok (.getfield 94, 3) := by decide +kernel
theorem d_X_waiting_17 : decode prog_1_method_14_code 17 = .ok (.goto 4, 3) := by decide +kernel
theorem d_X_waiting_20 : decode prog_1_method_14_code 20 = .ok (.iconst (-1), 1) := by decide +kernel
theorem d_X_waiting_21 : decode prog_1_method_14_code 21 = .ok (.ireturn, 1) := by decide +kernel
abbrev y_X_queued : MethodName := ⟨"GridlockDesk", "queued", "(II)I"⟩
abbrev ws_X_queued : List Cond := .code y_X_queued prog_1_method_15_code 3 (some .int) :: TB
theorem d_X_queued_0 : decode prog_1_method_15_code 0 = .ok (.aload_n 0, 1) := by decide +kernel
theorem d_X_queued_1 : decode prog_1_method_15_code 1 = .ok (.iload_n 1, 1) := by decide +kernel
theorem d_X_queued_2 : decode prog_1_method_15_code 2 = .ok (.invokevirtual 37, 3) := by decide +kernel
theorem d_X_queued_5 : decode prog_1_method_15_code 5 = .ok (.ifCond .eq 20, 3) := by decide +kernel
theorem d_X_queued_8 : decode prog_1_method_15_code 8 = .ok (.iload_n 2, 1) := by decide +kernel
theorem d_X_queued_9 : decode prog_1_method_15_code 9 = .ok (.ifCond .lt 16, 3) := by decide +kernel
theorem d_X_queued_12 : decode prog_1_method_15_code 12 = .ok (.iload_n 2, 1) := by decide +kernel
theorem d_X_queued_13 : decode prog_1_method_15_code 13 = .ok (.aload_n 0, 1) := by decide +kernel
theorem d_X_queued_14 : decode prog_1_method_15_code 14 = .ok (.getfield 20, 3) := by decide +kernel
theorem d_X_queued_17 : decode prog_1_method_15_code 17 = .ok (.iload_n 1, 1) := by decide +kernel
theorem d_X_queued_18 : decode prog_1_method_15_code 18 = .ok (.aaload, 1) := by decide +kernel
theorem d_X_queued_19 : decode prog_1_method_15_code 19 = .ok (.getfield 94, 3) := by decide +kernel
theorem d_X_queued_22 : decode prog_1_method_15_code 22 = .ok (.if_icmp .lt 5, 3) := by decide +kernel
theorem d_X_queued_25 : decode prog_1_method_15_code 25 = .ok (.iconst (-1), 1) := by decide +kernel
theorem d_X_queued_26 : decode prog_1_method_15_code 26 = .ok (.ireturn, 1) := by decide +kernel
theorem d_X_queued_27 : decode prog_1_method_15_code 27 = .ok (.aload_n 0, 1) := by decide +kernel
theorem d_X_queued_28 : decode prog_1_method_15_code 28 = .ok (.getfield 20, 3) := by decide +kernel
theorem d_X_queued_31 : decode prog_1_method_15_code 31 = .ok (.iload_n 1, 1) := by decide +kernel
theorem d_X_queued_32 : decode prog_1_method_15_code 32 = .ok (.aaload, 1) := by decide +kernel
theorem d_X_queued_33 : decode prog_1_method_15_code 33 = .ok (.getfield 139, 3) := by decide +kernel
theorem d_X_queued_36 : decode prog_1_method_15_code 36 = .ok (.iload_n 2, 1) := by decide +kernel
theorem d_X_queued_37 : decode prog_1_method_15_code 37 = .ok (.aaload, 1) := by decide +kernel
theorem d_X_queued_38 : decode prog_1_method_15_code 38 = .ok (.getfield 142, 3) := by decide +kernel
theorem d_X_queued_41 : decode prog_1_method_15_code 41 = .ok (.ireturn, 1) := by decide +kernel
abbrev y_X_state : MethodName := ⟨"GridlockDesk", "state", "(I)I"⟩
abbrev ws_X_state : List Cond := .code y_X_state prog_1_method_16_code 2 (some .int) :: TB
theorem d_X_state_0 : decode prog_1_method_16_code 0 = .ok (.aload_n 0, 1) := by decide +kernel
theorem d_X_state_1 : decode prog_1_method_16_code 1 = .ok (.iload_n 1, 1) := by decide +kernel
theorem d_X_state_2 : decode prog_1_method_16_code 2 = .ok (.invokevirtual 145, 3) := by decide +kernel
theorem d_X_state_5 : decode prog_1_method_16_code 5 = .ok (.ifCond .eq 15, 3) := by decide +kernel
theorem d_X_state_8 : decode prog_1_method_16_code 8 = .ok (.aload_n 0, 1) := by decide +kernel
theorem d_X_state_9 : decode prog_1_method_16_code 9 = .ok (.getfield 29, 3) := by decide +kernel
theorem d_X_state_12 : decode prog_1_method_16_code 12 = .ok (.iload_n 1, 1) := by decide +kernel
theorem d_X_state_13 : decode prog_1_method_16_code 13 = .ok (.aaload, 1) := by decide +kernel
theorem d_X_state_14 : decode prog_1_method_16_code 14 = .ok (.getfield 148, 3) := by decide +kernel
theorem d_X_state_17 : decode prog_1_method_16_code 17 = .ok (.goto 4, 3) := by decide +kernel
theorem d_X_state_20 : decode prog_1_method_16_code 20 = .ok (.iconst (-1), 1) := by decide +kernel
theorem d_X_state_21 : decode prog_1_method_16_code 21 = .ok (.ireturn, 1) := by decide +kernel
abbrev y_X_turnover : MethodName := ⟨"GridlockDesk", "turnover", "()J"⟩
abbrev ws_X_turnover : List Cond := .code y_X_turnover prog_1_method_17_code 1 (some .long) :: TB
theorem d_X_turnover_0 : decode prog_1_method_17_code 0 = .ok (.aload_n 0, 1) := by decide +kernel
theorem d_X_turnover_1 : decode prog_1_method_17_code 1 = .ok (.getfield 151, 3) := by decide +kernel
theorem d_X_turnover_4 : decode prog_1_method_17_code 4 = .ok (.lreturn, 1) := by decide +kernel
abbrev y_X_now : MethodName := ⟨"GridlockDesk", "now", "()I"⟩
abbrev ws_X_now : List Cond := .code y_X_now prog_1_method_18_code 1 (some .int) :: TB
theorem d_X_now_0 : decode prog_1_method_18_code 0 = .ok (.aload_n 0, 1) := by decide +kernel
theorem d_X_now_1 : decode prog_1_method_18_code 1 = .ok (.getfield 87, 3) := by decide +kernel
theorem d_X_now_4 : decode prog_1_method_18_code 4 = .ok (.ireturn, 1) := by decide +kernel
