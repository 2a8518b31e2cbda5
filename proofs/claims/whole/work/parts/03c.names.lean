abbrev y_M_isBank : MethodName := ⟨"GridlockDeskModel", "isBank", "(I)Z"⟩
abbrev ws_M_isBank : List Cond := .code y_M_isBank prog_5_method_2_code 2 (some .boolean) :: TB
theorem d_M_isBank_0 : decode prog_5_method_2_code 0 = .ok (.iload_n 1, 1) := by decide +kernel
theorem d_M_isBank_1 : decode prog_5_method_2_code 1 = .ok (.ifCond .lt 15, 3) := by decide +kernel
theorem d_M_isBank_4 : decode prog_5_method_2_code 4 = .ok (.iload_n 1, 1) := by decide +kernel
theorem d_M_isBank_5 : decode prog_5_method_2_code 5 = .ok (.aload_n 0, 1) := by decide +kernel
theorem d_M_isBank_6 : decode prog_5_method_2_code 6 = .ok (.getfield 62, 3) := by decide +kernel
theorem d_M_isBank_9 : decode prog_5_method_2_code 9 = .ok (.if_icmp .ge 7, 3) := by decide +kernel
theorem d_M_isBank_12 : decode prog_5_method_2_code 12 = .ok (.iconst 1, 1) := by decide +kernel
theorem d_M_isBank_13 : decode prog_5_method_2_code 13 = .ok (.goto 4, 3) := by decide +kernel
theorem d_M_isBank_16 : decode prog_5_method_2_code 16 = .ok (.iconst 0, 1) := by decide +kernel
theorem d_M_isBank_17 : decode prog_5_method_2_code 17 = .ok (.ireturn, 1) := by decide +kernel
abbrev y_M_isQueued : MethodName := ⟨"GridlockDeskModel", "isQueued", "(I)Z"⟩
abbrev ws_M_isQueued : List Cond := .code y_M_isQueued prog_5_method_3_code 2 (some .boolean) :: TB
theorem d_M_isQueued_0 : decode prog_5_method_3_code 0 = .ok (.iload_n 1, 1) := by decide +kernel
theorem d_M_isQueued_1 : decode prog_5_method_3_code 1 = .ok (.ifCond .lt 24, 3) := by decide +kernel
theorem d_M_isQueued_4 : decode prog_5_method_3_code 4 = .ok (.iload_n 1, 1) := by decide +kernel
theorem d_M_isQueued_5 : decode prog_5_method_3_code 5 = .ok (.aload_n 0, 1) := by decide +kernel
theorem d_M_isQueued_6 : decode prog_5_method_3_code 6 = .ok (.getfield 68, 3) := by decide +kernel
theorem d_M_isQueued_9 : decode prog_5_method_3_code 9 = .ok (.if_icmp .ge 16, 3) := by decide +kernel
theorem d_M_isQueued_12 : decode prog_5_method_3_code 12 = .ok (.aload_n 0, 1) := by decide +kernel
theorem d_M_isQueued_13 : decode prog_5_method_3_code 13 = .ok (.getfield 44, 3) := by decide +kernel
theorem d_M_isQueued_16 : decode prog_5_method_3_code 16 = .ok (.iload_n 1, 1) := by decide +kernel
theorem d_M_isQueued_17 : decode prog_5_method_3_code 17 = .ok (.iaload, 1) := by decide +kernel
theorem d_M_isQueued_18 : decode prog_5_method_3_code 18 = .ok (.ifCond .ne 7, 3) := by decide +kernel
theorem d_M_isQueued_21 : decode prog_5_method_3_code 21 = .ok (.iconst 1, 1) := by decide +kernel
theorem d_M_isQueued_22 : decode prog_5_method_3_code 22 = .ok (.goto 4, 3) := by decide +kernel
theorem d_M_isQueued_25 : decode prog_5_method_3_code 25 = .ok (.iconst 0, 1) := by decide +kernel
theorem d_M_isQueued_26 : decode prog_5_method_3_code 26 = .ok (.ireturn, 1) := by decide +kernel
abbrev y_M_before : MethodName := ⟨"GridlockDeskModel", "before", "(II)Z"⟩
abbrev ws_M_before : List Cond := .code y_M_before prog_5_method_4_code 3 (some .boolean) :: TB
theorem d_M_before_0 : decode prog_5_method_4_code 0 = .ok (.aload_n 0, 1) := by decide +kernel
theorem d_M_before_1 : decode prog_5_method_4_code 1 = .ok (.getfield 35, 3) := by decide +kernel
theorem d_M_before_4 : decode prog_5_method_4_code 4 = .ok (.iload_n 1, 1) := by decide +kernel
theorem d_M_before_5 : decode prog_5_method_4_code 5 = .ok (.iaload, 1) := by decide +kernel
theorem d_M_before_6 : decode prog_5_method_4_code 6 = .ok (.aload_n 0, 1) := by decide +kernel
theorem d_M_before_7 : decode prog_5_method_4_code 7 = .ok (.getfield 35, 3) := by decide +kernel
theorem d_M_before_10 : decode prog_5_method_4_code 10 = .ok (.iload_n 2, 1) := by decide +kernel
theorem d_M_before_11 : decode prog_5_method_4_code 11 = .ok (.iaload, 1) := by decide +kernel
theorem d_M_before_12 : decode prog_5_method_4_code 12 = .ok (.if_icmp .gt 33, 3) := by decide +kernel
theorem d_M_before_15 : decode prog_5_method_4_code 15 = .ok (.aload_n 0, 1) := by decide +kernel
theorem d_M_before_16 : decode prog_5_method_4_code 16 = .ok (.getfield 35, 3) := by decide +kernel
theorem d_M_before_19 : decode prog_5_method_4_code 19 = .ok (.iload_n 1, 1) := by decide +kernel
theorem d_M_before_20 : decode prog_5_method_4_code 20 = .ok (.iaload, 1) := by decide +kernel
theorem d_M_before_21 : decode prog_5_method_4_code 21 = .ok (.aload_n 0, 1) := by decide +kernel
theorem d_M_before_22 : decode prog_5_method_4_code 22 = .ok (.getfield 35, 3) := by decide +kernel
theorem d_M_before_25 : decode prog_5_method_4_code 25 = .ok (.iload_n 2, 1) := by decide +kernel
theorem d_M_before_26 : decode prog_5_method_4_code 26 = .ok (.iaload, 1) := by decide +kernel
theorem d_M_before_27 : decode prog_5_method_4_code 27 = .ok (.if_icmp .ne 22, 3) := by decide +kernel
theorem d_M_before_30 : decode prog_5_method_4_code 30 = .ok (.aload_n 0, 1) := by decide +kernel
theorem d_M_before_31 : decode prog_5_method_4_code 31 = .ok (.getfield 41, 3) := by decide +kernel
theorem d_M_before_34 : decode prog_5_method_4_code 34 = .ok (.iload_n 1, 1) := by decide +kernel
theorem d_M_before_35 : decode prog_5_method_4_code 35 = .ok (.iaload, 1) := by decide +kernel
theorem d_M_before_36 : decode prog_5_method_4_code 36 = .ok (.aload_n 0, 1) := by decide +kernel
theorem d_M_before_37 : decode prog_5_method_4_code 37 = .ok (.getfield 41, 3) := by decide +kernel
theorem d_M_before_40 : decode prog_5_method_4_code 40 = .ok (.iload_n 2, 1) := by decide +kernel
theorem d_M_before_41 : decode prog_5_method_4_code 41 = .ok (.iaload, 1) := by decide +kernel
theorem d_M_before_42 : decode prog_5_method_4_code 42 = .ok (.if_icmp .ge 7, 3) := by decide +kernel
theorem d_M_before_45 : decode prog_5_method_4_code 45 = .ok (.iconst 1, 1) := by decide +kernel
theorem d_M_before_46 : decode prog_5_method_4_code 46 = .ok (.goto 4, 3) := by decide +kernel
theorem d_M_before_49 : decode prog_5_method_4_code 49 = .ok (.iconst 0, 1) := by decide +kernel
theorem d_M_before_50 : decode prog_5_method_4_code 50 = .ok (.ireturn, 1) := by decide +kernel
abbrev y_M_lineUp : MethodName := ⟨"GridlockDeskModel", "lineUp", "()V"⟩
abbrev ws_M_lineUp : List Cond := .code y_M_lineUp prog_5_method_5_code 5 none :: TB
theorem d_M_lineUp_0 : decode prog_5_method_5_code 0 = .ok (.iconst 0, 1) := by decide +kernel
theorem d_M_lineUp_1 : decode prog_5_method_5_code 1 = .ok (.istore_n 1, 1) := by decide +kernel
theorem d_M_lineUp_2 : decode prog_5_method_5_code 2 = .ok (.iload_n 1, 1) := by decide +kernel
theorem d_M_lineUp_3 : decode prog_5_method_5_code 3 = .ok (.iconst 4, 1) := by decide +kernel
theorem d_M_lineUp_4 : decode prog_5_method_5_code 4 = .ok (.if_icmp .ge 16, 3) := by decide +kernel
theorem d_M_lineUp_7 : decode prog_5_method_5_code 7 = .ok (.aload_n 0, 1) := by decide +kernel
theorem d_M_lineUp_8 : decode prog_5_method_5_code 8 = .ok (.getfield 50, 3) := by decide +kernel
theorem d_M_lineUp_11 : decode prog_5_method_5_code 11 = .ok (.iload_n 1, 1) := by decide +kernel
theorem d_M_lineUp_12 : decode prog_5_method_5_code 12 = .ok (.iconst 0, 1) := by decide +kernel
theorem d_M_lineUp_13 : decode prog_5_method_5_code 13 = .ok (.iastore, 1) := by decide +kernel
theorem d_M_lineUp_14 : decode prog_5_method_5_code 14 = .ok (.iinc 1 1, 3) := by decide +kernel
theorem d_M_lineUp_17 : decode prog_5_method_5_code 17 = .ok (.goto (-15), 3) := by decide +kernel
theorem d_M_lineUp_20 : decode prog_5_method_5_code 20 = .ok (.iconst 0, 1) := by decide +kernel
theorem d_M_lineUp_21 : decode prog_5_method_5_code 21 = .ok (.istore_n 1, 1) := by decide +kernel
theorem d_M_lineUp_22 : decode prog_5_method_5_code 22 = .ok (.iload_n 1, 1) := by decide +kernel
theorem d_M_lineUp_23 : decode prog_5_method_5_code 23 = .ok (.aload_n 0, 1) := by decide +kernel
theorem d_M_lineUp_24 : decode prog_5_method_5_code 24 = .ok (.getfield 68, 3) := by decide +kernel
theorem d_M_lineUp_27 : decode prog_5_method_5_code 27 = .ok (.if_icmp .ge 130, 3) := by decide +kernel
theorem d_M_lineUp_30 : decode prog_5_method_5_code 30 = .ok (.aload_n 0, 1) := by decide +kernel
theorem d_M_lineUp_31 : decode prog_5_method_5_code 31 = .ok (.getfield 44, 3) := by decide +kernel
theorem d_M_lineUp_34 : decode prog_5_method_5_code 34 = .ok (.iload_n 1, 1) := by decide +kernel
theorem d_M_lineUp_35 : decode prog_5_method_5_code 35 = .ok (.iaload, 1) := by decide +kernel
theorem d_M_lineUp_36 : decode prog_5_method_5_code 36 = .ok (.ifCond .ne 115, 3) := by decide +kernel
theorem d_M_lineUp_39 : decode prog_5_method_5_code 39 = .ok (.iconst 0, 1) := by decide +kernel
theorem d_M_lineUp_40 : decode prog_5_method_5_code 40 = .ok (.istore_n 2, 1) := by decide +kernel
theorem d_M_lineUp_41 : decode prog_5_method_5_code 41 = .ok (.iconst 0, 1) := by decide +kernel
theorem d_M_lineUp_42 : decode prog_5_method_5_code 42 = .ok (.istore_n 3, 1) := by decide +kernel
theorem d_M_lineUp_43 : decode prog_5_method_5_code 43 = .ok (.iload_n 3, 1) := by decide +kernel
theorem d_M_lineUp_44 : decode prog_5_method_5_code 44 = .ok (.aload_n 0, 1) := by decide +kernel
theorem d_M_lineUp_45 : decode prog_5_method_5_code 45 = .ok (.getfield 68, 3) := by decide +kernel
theorem d_M_lineUp_48 : decode prog_5_method_5_code 48 = .ok (.if_icmp .ge 62, 3) := by decide +kernel
theorem d_M_lineUp_51 : decode prog_5_method_5_code 51 = .ok (.aload_n 0, 1) := by decide +kernel
theorem d_M_lineUp_52 : decode prog_5_method_5_code 52 = .ok (.getfield 44, 3) := by decide +kernel
theorem d_M_lineUp_55 : decode prog_5_method_5_code 55 = .ok (.iload_n 3, 1) := by decide +kernel
theorem d_M_lineUp_56 : decode prog_5_method_5_code 56 = .ok (.iaload, 1) := by decide +kernel
theorem d_M_lineUp_57 : decode prog_5_method_5_code 57 = .ok (.ifCond .ne 31, 3) := by decide +kernel
theorem d_M_lineUp_60 : decode prog_5_method_5_code 60 = .ok (.aload_n 0, 1) := by decide +kernel
theorem d_M_lineUp_61 : decode prog_5_method_5_code 61 = .ok (.getfield 25, 3) := by decide +kernel
theorem d_M_lineUp_64 : decode prog_5_method_5_code 64 = .ok (.iload_n 3, 1) := by decide +kernel
theorem d_M_lineUp_65 : decode prog_5_method_5_code 65 = .ok (.iaload, 1) := by decide +kernel
theorem d_M_lineUp_66 : decode prog_5_method_5_code 66 = .ok (.aload_n 0, 1) := by decide +kernel
theorem d_M_lineUp_67 : decode prog_5_method_5_code 67 = .ok (.getfield 25, 3) := by decide +kernel
theorem d_M_lineUp_70 : decode prog_5_method_5_code 70 = .ok (.iload_n 1, 1) := by decide +kernel
theorem d_M_lineUp_71 : decode prog_5_method_5_code 71 = .ok (.iaload, 1) := by decide +kernel
theorem d_M_lineUp_72 : decode prog_5_method_5_code 72 = .ok (.if_icmp .ne 16, 3) := by decide +kernel
theorem d_M_lineUp_75 : decode prog_5_method_5_code 75 = .ok (.aload_n 0, 1) := by decide +kernel
theorem d_M_lineUp_76 : decode prog_5_method_5_code 76 = .ok (.iload_n 3, 1) := by decide +kernel
theorem d_M_lineUp_77 : decode prog_5_method_5_code 77 = .ok (.iload_n 1, 1) := by decide +kernel
theorem d_M_lineUp_78 : decode prog_5_method_5_code 78 = .ok (.invokevirtual 71, 3) := by decide +kernel
theorem d_M_lineUp_81 : decode prog_5_method_5_code 81 = .ok (.ifCond .eq 7, 3) := by decide +kernel
theorem d_M_lineUp_84 : decode prog_5_method_5_code 84 = .ok (.iconst 1, 1) := by decide +kernel
theorem d_M_lineUp_85 : decode prog_5_method_5_code 85 = .ok (.goto 4, 3) := by decide +kernel
theorem d_M_lineUp_88 : decode prog_5_method_5_code 88 = .ok (.iconst 0, 1) := by decide +kernel
theorem d_M_lineUp_89 : decode prog_5_method_5_code 89 = .ok (.istore 4, 2) := by decide +kernel
theorem d_M_lineUp_91 : decode prog_5_method_5_code 91 = .ok (.iload 4, 2) := by decide +kernel
theorem d_M_lineUp_93 : decode prog_5_method_5_code 93 = .ok (.ifCond .eq 9, 3) := by decide +kernel
theorem d_M_lineUp_96 : decode prog_5_method_5_code 96 = .ok (.iload_n 2, 1) := by decide +kernel
theorem d_M_lineUp_97 : decode prog_5_method_5_code 97 = .ok (.iconst 1, 1) := by decide +kernel
theorem d_M_lineUp_98 : decode prog_5_method_5_code 98 = .ok (.iadd, 1) := by decide +kernel
theorem d_M_lineUp_99 : decode prog_5_method_5_code 99 = .ok (.goto 4, 3) := by decide +kernel
theorem d_M_lineUp_102 : decode prog_5_method_5_code 102 = .ok (.iload_n 2, 1) := by decide +kernel
theorem d_M_lineUp_103 : decode prog_5_method_5_code 103 = .ok (.istore_n 2, 1) := by decide +kernel
theorem d_M_lineUp_104 : decode prog_5_method_5_code 104 = .ok (.iinc 3 1, 3) := by decide +kernel
theorem d_M_lineUp_107 : decode prog_5_method_5_code 107 = .ok (.goto (-64), 3) := by decide +kernel
theorem d_M_lineUp_110 : decode prog_5_method_5_code 110 = .ok (.aload_n 0, 1) := by decide +kernel
theorem d_M_lineUp_111 : decode prog_5_method_5_code 111 = .ok (.getfield 47, 3) := by decide +kernel
theorem d_M_lineUp_114 : decode prog_5_method_5_code 114 = .ok (.bipush 6, 2) := by decide +kernel
theorem d_M_lineUp_116 : decode prog_5_method_5_code 116 = .ok (.aload_n 0, 1) := by decide +kernel
theorem d_M_lineUp_117 : decode prog_5_method_5_code 117 = .ok (.getfield 25, 3) := by decide +kernel
theorem d_M_lineUp_120 : decode prog_5_method_5_code 120 = .ok (.iload_n 1, 1) := by decide +kernel
theorem d_M_lineUp_121 : decode prog_5_method_5_code 121 = .ok (.iaload, 1) := by decide +kernel
theorem d_M_lineUp_122 : decode prog_5_method_5_code 122 = .ok (.imul, 1) := by decide +kernel
theorem d_M_lineUp_123 : decode prog_5_method_5_code 123 = .ok (.iload_n 2, 1) := by decide +kernel
theorem d_M_lineUp_124 : decode prog_5_method_5_code 124 = .ok (.iadd, 1) := by decide +kernel
theorem d_M_lineUp_125 : decode prog_5_method_5_code 125 = .ok (.iload_n 1, 1) := by decide +kernel
theorem d_M_lineUp_126 : decode prog_5_method_5_code 126 = .ok (.iastore, 1) := by decide +kernel
theorem d_M_lineUp_127 : decode prog_5_method_5_code 127 = .ok (.aload_n 0, 1) := by decide +kernel
theorem d_M_lineUp_128 : decode prog_5_method_5_code 128 = .ok (.getfield 50, 3) := by decide +kernel
theorem d_M_lineUp_131 : decode prog_5_method_5_code 131 = .ok (.aload_n 0, 1) := by decide +kernel
theorem d_M_lineUp_132 : decode prog_5_method_5_code 132 = .ok (.getfield 25, 3) := by decide +kernel
theorem d_M_lineUp_135 : decode prog_5_method_5_code 135 = .ok (.iload_n 1, 1) := by decide +kernel
theorem d_M_lineUp_136 : decode prog_5_method_5_code 136 = .ok (.iaload, 1) := by decide +kernel
theorem d_M_lineUp_137 : decode prog_5_method_5_code 137 = .ok (.aload_n 0, 1) := by decide +kernel
theorem d_M_lineUp_138 : decode prog_5_method_5_code 138 = .ok (.getfield 50, 3) := by decide +kernel
theorem d_M_lineUp_141 : decode prog_5_method_5_code 141 = .ok (.aload_n 0, 1) := by decide +kernel
theorem d_M_lineUp_142 : decode prog_5_method_5_code 142 = .ok (.getfield 25, 3) := by decide +kernel
theorem d_M_lineUp_145 : decode prog_5_method_5_code 145 = .ok (.iload_n 1, 1) := by decide +kernel
theorem d_M_lineUp_146 : decode prog_5_method_5_code 146 = .ok (.iaload, 1) := by decide +kernel
theorem d_M_lineUp_147 : decode prog_5_method_5_code 147 = .ok (.iaload, 1) := by decide +kernel
theorem d_M_lineUp_148 : decode prog_5_method_5_code 148 = .ok (.iconst 1, 1) := by decide +kernel
theorem d_M_lineUp_149 : decode prog_5_method_5_code 149 = .ok (.iadd, 1) := by decide +kernel
theorem d_M_lineUp_150 : decode prog_5_method_5_code 150 = .ok (.iastore, 1) := by decide +kernel
theorem d_M_lineUp_151 : decode prog_5_method_5_code 151 = .ok (.iinc 1 1, 3) := by decide +kernel
theorem d_M_lineUp_154 : decode prog_5_method_5_code 154 = .ok (.goto (-132), 3) := by decide +kernel
theorem d_M_lineUp_157 : decode prog_5_method_5_code 157 = .ok (.return_, 1) := by decide +kernel
abbrev y_M_now0 : MethodName := ⟨"GridlockDeskModel", "now0", "()V"⟩
abbrev ws_M_now0 : List Cond := .code y_M_now0 prog_5_method_6_code 2 none :: TB
theorem d_M_now0_0 : decode prog_5_method_6_code 0 = .ok (.iconst 0, 1) := by decide +kernel
theorem d_M_now0_1 : decode prog_5_method_6_code 1 = .ok (.istore_n 1, 1) := by decide +kernel
theorem d_M_now0_2 : decode prog_5_method_6_code 2 = .ok (.iload_n 1, 1) := by decide +kernel
theorem d_M_now0_3 : decode prog_5_method_6_code 3 = .ok (.iconst 4, 1) := by decide +kernel
theorem d_M_now0_4 : decode prog_5_method_6_code 4 = .ok (.if_icmp .ge 21, 3) := by decide +kernel
theorem d_M_now0_7 : decode prog_5_method_6_code 7 = .ok (.aload_n 0, 1) := by decide +kernel
theorem d_M_now0_8 : decode prog_5_method_6_code 8 = .ok (.getfield 53, 3) := by decide +kernel
theorem d_M_now0_11 : decode prog_5_method_6_code 11 = .ok (.iload_n 1, 1) := by decide +kernel
theorem d_M_now0_12 : decode prog_5_method_6_code 12 = .ok (.aload_n 0, 1) := by decide +kernel
theorem d_M_now0_13 : decode prog_5_method_6_code 13 = .ok (.getfield 7, 3) := by decide +kernel
theorem d_M_now0_16 : decode prog_5_method_6_code 16 = .ok (.iload_n 1, 1) := by decide +kernel
theorem d_M_now0_17 : decode prog_5_method_6_code 17 = .ok (.laload, 1) := by decide +kernel
theorem d_M_now0_18 : decode prog_5_method_6_code 18 = .ok (.lastore, 1) := by decide +kernel
theorem d_M_now0_19 : decode prog_5_method_6_code 19 = .ok (.iinc 1 1, 3) := by decide +kernel
theorem d_M_now0_22 : decode prog_5_method_6_code 22 = .ok (.goto (-20), 3) := by decide +kernel
theorem d_M_now0_25 : decode prog_5_method_6_code 25 = .ok (.iconst 0, 1) := by decide +kernel
theorem d_M_now0_26 : decode prog_5_method_6_code 26 = .ok (.istore_n 1, 1) := by decide +kernel
theorem d_M_now0_27 : decode prog_5_method_6_code 27 = .ok (.iload_n 1, 1) := by decide +kernel
theorem d_M_now0_28 : decode prog_5_method_6_code 28 = .ok (.bipush 16, 2) := by decide +kernel
theorem d_M_now0_30 : decode prog_5_method_6_code 30 = .ok (.if_icmp .ge 21, 3) := by decide +kernel
theorem d_M_now0_33 : decode prog_5_method_6_code 33 = .ok (.aload_n 0, 1) := by decide +kernel
theorem d_M_now0_34 : decode prog_5_method_6_code 34 = .ok (.getfield 56, 3) := by decide +kernel
theorem d_M_now0_37 : decode prog_5_method_6_code 37 = .ok (.iload_n 1, 1) := by decide +kernel
theorem d_M_now0_38 : decode prog_5_method_6_code 38 = .ok (.aload_n 0, 1) := by decide +kernel
theorem d_M_now0_39 : decode prog_5_method_6_code 39 = .ok (.getfield 22, 3) := by decide +kernel
theorem d_M_now0_42 : decode prog_5_method_6_code 42 = .ok (.iload_n 1, 1) := by decide +kernel
theorem d_M_now0_43 : decode prog_5_method_6_code 43 = .ok (.laload, 1) := by decide +kernel
theorem d_M_now0_44 : decode prog_5_method_6_code 44 = .ok (.lastore, 1) := by decide +kernel
theorem d_M_now0_45 : decode prog_5_method_6_code 45 = .ok (.iinc 1 1, 3) := by decide +kernel
theorem d_M_now0_48 : decode prog_5_method_6_code 48 = .ok (.goto (-21), 3) := by decide +kernel
theorem d_M_now0_51 : decode prog_5_method_6_code 51 = .ok (.return_, 1) := by decide +kernel
abbrev y_M_plan : MethodName := ⟨"GridlockDeskModel", "plan", "(I)V"⟩
abbrev ws_M_plan : List Cond := .code y_M_plan prog_5_method_7_code 3 none :: TB
theorem d_M_plan_0 : decode prog_5_method_7_code 0 = .ok (.aload_n 0, 1) := by decide +kernel
theorem d_M_plan_1 : decode prog_5_method_7_code 1 = .ok (.getfield 53, 3) := by decide +kernel
theorem d_M_plan_4 : decode prog_5_method_7_code 4 = .ok (.aload_n 0, 1) := by decide +kernel
theorem d_M_plan_5 : decode prog_5_method_7_code 5 = .ok (.getfield 25, 3) := by decide +kernel
theorem d_M_plan_8 : decode prog_5_method_7_code 8 = .ok (.iload_n 1, 1) := by decide +kernel
theorem d_M_plan_9 : decode prog_5_method_7_code 9 = .ok (.iaload, 1) := by decide +kernel
theorem d_M_plan_10 : decode prog_5_method_7_code 10 = .ok (.aload_n 0, 1) := by decide +kernel
theorem d_M_plan_11 : decode prog_5_method_7_code 11 = .ok (.getfield 53, 3) := by decide +kernel
theorem d_M_plan_14 : decode prog_5_method_7_code 14 = .ok (.aload_n 0, 1) := by decide +kernel
theorem d_M_plan_15 : decode prog_5_method_7_code 15 = .ok (.getfield 25, 3) := by decide +kernel
theorem d_M_plan_18 : decode prog_5_method_7_code 18 = .ok (.iload_n 1, 1) := by decide +kernel
theorem d_M_plan_19 : decode prog_5_method_7_code 19 = .ok (.iaload, 1) := by decide +kernel
theorem d_M_plan_20 : decode prog_5_method_7_code 20 = .ok (.laload, 1) := by decide +kernel
theorem d_M_plan_21 : decode prog_5_method_7_code 21 = .ok (.aload_n 0, 1) := by decide +kernel
theorem d_M_plan_22 : decode prog_5_method_7_code 22 = .ok (.getfield 32, 3) := by decide +kernel
theorem d_M_plan_25 : decode prog_5_method_7_code 25 = .ok (.iload_n 1, 1) := by decide +kernel
theorem d_M_plan_26 : decode prog_5_method_7_code 26 = .ok (.laload, 1) := by decide +kernel
theorem d_M_plan_27 : decode prog_5_method_7_code 27 = .ok (.lsub, 1) := by decide +kernel
theorem d_M_plan_28 : decode prog_5_method_7_code 28 = .ok (.lastore, 1) := by decide +kernel
theorem d_M_plan_29 : decode prog_5_method_7_code 29 = .ok (.aload_n 0, 1) := by decide +kernel
theorem d_M_plan_30 : decode prog_5_method_7_code 30 = .ok (.getfield 53, 3) := by decide +kernel
theorem d_M_plan_33 : decode prog_5_method_7_code 33 = .ok (.aload_n 0, 1) := by decide +kernel
theorem d_M_plan_34 : decode prog_5_method_7_code 34 = .ok (.getfield 29, 3) := by decide +kernel
theorem d_M_plan_37 : decode prog_5_method_7_code 37 = .ok (.iload_n 1, 1) := by decide +kernel
theorem d_M_plan_38 : decode prog_5_method_7_code 38 = .ok (.iaload, 1) := by decide +kernel
theorem d_M_plan_39 : decode prog_5_method_7_code 39 = .ok (.aload_n 0, 1) := by decide +kernel
theorem d_M_plan_40 : decode prog_5_method_7_code 40 = .ok (.getfield 53, 3) := by decide +kernel
theorem d_M_plan_43 : decode prog_5_method_7_code 43 = .ok (.aload_n 0, 1) := by decide +kernel
theorem d_M_plan_44 : decode prog_5_method_7_code 44 = .ok (.getfield 29, 3) := by decide +kernel
theorem d_M_plan_47 : decode prog_5_method_7_code 47 = .ok (.iload_n 1, 1) := by decide +kernel
theorem d_M_plan_48 : decode prog_5_method_7_code 48 = .ok (.iaload, 1) := by decide +kernel
theorem d_M_plan_49 : decode prog_5_method_7_code 49 = .ok (.laload, 1) := by decide +kernel
theorem d_M_plan_50 : decode prog_5_method_7_code 50 = .ok (.aload_n 0, 1) := by decide +kernel
theorem d_M_plan_51 : decode prog_5_method_7_code 51 = .ok (.getfield 32, 3) := by decide +kernel
theorem d_M_plan_54 : decode prog_5_method_7_code 54 = .ok (.iload_n 1, 1) := by decide +kernel
theorem d_M_plan_55 : decode prog_5_method_7_code 55 = .ok (.laload, 1) := by decide +kernel
theorem d_M_plan_56 : decode prog_5_method_7_code 56 = .ok (.ladd, 1) := by decide +kernel
theorem d_M_plan_57 : decode prog_5_method_7_code 57 = .ok (.lastore, 1) := by decide +kernel
theorem d_M_plan_58 : decode prog_5_method_7_code 58 = .ok (.iconst 4, 1) := by decide +kernel
theorem d_M_plan_59 : decode prog_5_method_7_code 59 = .ok (.aload_n 0, 1) := by decide +kernel
theorem d_M_plan_60 : decode prog_5_method_7_code 60 = .ok (.getfield 25, 3) := by decide +kernel
theorem d_M_plan_63 : decode prog_5_method_7_code 63 = .ok (.iload_n 1, 1) := by decide +kernel
theorem d_M_plan_64 : decode prog_5_method_7_code 64 = .ok (.iaload, 1) := by decide +kernel
theorem d_M_plan_65 : decode prog_5_method_7_code 65 = .ok (.imul, 1) := by decide +kernel
theorem d_M_plan_66 : decode prog_5_method_7_code 66 = .ok (.aload_n 0, 1) := by decide +kernel
theorem d_M_plan_67 : decode prog_5_method_7_code 67 = .ok (.getfield 29, 3) := by decide +kernel
theorem d_M_plan_70 : decode prog_5_method_7_code 70 = .ok (.iload_n 1, 1) := by decide +kernel
theorem d_M_plan_71 : decode prog_5_method_7_code 71 = .ok (.iaload, 1) := by decide +kernel
theorem d_M_plan_72 : decode prog_5_method_7_code 72 = .ok (.iadd, 1) := by decide +kernel
theorem d_M_plan_73 : decode prog_5_method_7_code 73 = .ok (.istore_n 2, 1) := by decide +kernel
theorem d_M_plan_74 : decode prog_5_method_7_code 74 = .ok (.aload_n 0, 1) := by decide +kernel
theorem d_M_plan_75 : decode prog_5_method_7_code 75 = .ok (.getfield 56, 3) := by decide +kernel
theorem d_M_plan_78 : decode prog_5_method_7_code 78 = .ok (.iload_n 2, 1) := by decide +kernel
theorem d_M_plan_79 : decode prog_5_method_7_code 79 = .ok (.aload_n 0, 1) := by decide +kernel
theorem d_M_plan_80 : decode prog_5_method_7_code 80 = .ok (.getfield 56, 3) := by decide +kernel
theorem d_M_plan_83 : decode prog_5_method_7_code 83 = .ok (.iload_n 2, 1) := by decide +kernel
theorem d_M_plan_84 : decode prog_5_method_7_code 84 = .ok (.laload, 1) := by decide +kernel
theorem d_M_plan_85 : decode prog_5_method_7_code 85 = .ok (.aload_n 0, 1) := by decide +kernel
theorem d_M_plan_86 : decode prog_5_method_7_code 86 = .ok (.getfield 32, 3) := by decide +kernel
theorem d_M_plan_89 : decode prog_5_method_7_code 89 = .ok (.iload_n 1, 1) := by decide +kernel
theorem d_M_plan_90 : decode prog_5_method_7_code 90 = .ok (.laload, 1) := by decide +kernel
theorem d_M_plan_91 : decode prog_5_method_7_code 91 = .ok (.ladd, 1) := by decide +kernel
theorem d_M_plan_92 : decode prog_5_method_7_code 92 = .ok (.lastore, 1) := by decide +kernel
theorem d_M_plan_93 : decode prog_5_method_7_code 93 = .ok (.return_, 1) := by decide +kernel
abbrev y_M_allWell : MethodName := ⟨"GridlockDeskModel", "allWell", "()Z"⟩
abbrev ws_M_allWell : List Cond := .code y_M_allWell prog_5_method_8_code 7 (some .boolean) :: TB
theorem d_M_allWell_0 : decode prog_5_method_8_code 0 = .ok (.iconst 0, 1) := by decide +kernel
theorem d_M_allWell_1 : decode prog_5_method_8_code 1 = .ok (.istore_n 1, 1) := by decide +kernel
theorem d_M_allWell_2 : decode prog_5_method_8_code 2 = .ok (.iload_n 1, 1) := by decide +kernel
theorem d_M_allWell_3 : decode prog_5_method_8_code 3 = .ok (.aload_n 0, 1) := by decide +kernel
theorem d_M_allWell_4 : decode prog_5_method_8_code 4 = .ok (.getfield 62, 3) := by decide +kernel
theorem d_M_allWell_7 : decode prog_5_method_8_code 7 = .ok (.if_icmp .ge 135, 3) := by decide +kernel
theorem d_M_allWell_10 : decode prog_5_method_8_code 10 = .ok (.lconst 0, 1) := by decide +kernel
theorem d_M_allWell_11 : decode prog_5_method_8_code 11 = .ok (.lstore_n 2, 1) := by decide +kernel
theorem d_M_allWell_12 : decode prog_5_method_8_code 12 = .ok (.iconst 0, 1) := by decide +kernel
theorem d_M_allWell_13 : decode prog_5_method_8_code 13 = .ok (.istore 4, 2) := by decide +kernel
theorem d_M_allWell_15 : decode prog_5_method_8_code 15 = .ok (.iload 4, 2) := by decide +kernel
theorem d_M_allWell_17 : decode prog_5_method_8_code 17 = .ok (.aload_n 0, 1) := by decide +kernel
theorem d_M_allWell_18 : decode prog_5_method_8_code 18 = .ok (.getfield 62, 3) := by decide +kernel
theorem d_M_allWell_21 : decode prog_5_method_8_code 21 = .ok (.if_icmp .ge 74, 3) := by decide +kernel
theorem d_M_allWell_24 : decode prog_5_method_8_code 24 = .ok (.aload_n 0, 1) := by decide +kernel
theorem d_M_allWell_25 : decode prog_5_method_8_code 25 = .ok (.getfield 56, 3) := by decide +kernel
theorem d_M_allWell_28 : decode prog_5_method_8_code 28 = .ok (.iconst 4, 1) := by decide +kernel
theorem d_M_allWell_29 : decode prog_5_method_8_code 29 = .ok (.iload_n 1, 1) := by decide +kernel
theorem d_M_allWell_30 : decode prog_5_method_8_code 30 = .ok (.imul, 1) := by decide +kernel
theorem d_M_allWell_31 : decode prog_5_method_8_code 31 = .ok (.iload 4, 2) := by decide +kernel
theorem d_M_allWell_33 : decode prog_5_method_8_code 33 = .ok (.iadd, 1) := by decide +kernel
theorem d_M_allWell_34 : decode prog_5_method_8_code 34 = .ok (.laload, 1) := by decide +kernel
theorem d_M_allWell_35 : decode prog_5_method_8_code 35 = .ok (.aload_n 0, 1) := by decide +kernel
theorem d_M_allWell_36 : decode prog_5_method_8_code 36 = .ok (.getfield 56, 3) := by decide +kernel
theorem d_M_allWell_39 : decode prog_5_method_8_code 39 = .ok (.iconst 4, 1) := by decide +kernel
theorem d_M_allWell_40 : decode prog_5_method_8_code 40 = .ok (.iload 4, 2) := by decide +kernel
theorem d_M_allWell_42 : decode prog_5_method_8_code 42 = .ok (.imul, 1) := by decide +kernel
theorem d_M_allWell_43 : decode prog_5_method_8_code 43 = .ok (.iload_n 1, 1) := by decide +kernel
theorem d_M_allWell_44 : decode prog_5_method_8_code 44 = .ok (.iadd, 1) := by decide +kernel
theorem d_M_allWell_45 : decode prog_5_method_8_code 45 = .ok (.laload, 1) := by decide +kernel
theorem d_M_allWell_46 : decode prog_5_method_8_code 46 = .ok (.lsub, 1) := by decide +kernel
theorem d_M_allWell_47 : decode prog_5_method_8_code 47 = .ok (.lstore 5, 2) := by decide +kernel
theorem d_M_allWell_49 : decode prog_5_method_8_code 49 = .ok (.lload_n 2, 1) := by decide +kernel
theorem d_M_allWell_50 : decode prog_5_method_8_code 50 = .ok (.lload 5, 2) := by decide +kernel
theorem d_M_allWell_52 : decode prog_5_method_8_code 52 = .ok (.ladd, 1) := by decide +kernel
theorem d_M_allWell_53 : decode prog_5_method_8_code 53 = .ok (.lstore_n 2, 1) := by decide +kernel
theorem d_M_allWell_54 : decode prog_5_method_8_code 54 = .ok (.aload_n 0, 1) := by decide +kernel
theorem d_M_allWell_55 : decode prog_5_method_8_code 55 = .ok (.getfield 19, 3) := by decide +kernel
theorem d_M_allWell_58 : decode prog_5_method_8_code 58 = .ok (.iconst 4, 1) := by decide +kernel
theorem d_M_allWell_59 : decode prog_5_method_8_code 59 = .ok (.iload_n 1, 1) := by decide +kernel
theorem d_M_allWell_60 : decode prog_5_method_8_code 60 = .ok (.imul, 1) := by decide +kernel
theorem d_M_allWell_61 : decode prog_5_method_8_code 61 = .ok (.iload 4, 2) := by decide +kernel
theorem d_M_allWell_63 : decode prog_5_method_8_code 63 = .ok (.iadd, 1) := by decide +kernel
theorem d_M_allWell_64 : decode prog_5_method_8_code 64 = .ok (.laload, 1) := by decide +kernel
theorem d_M_allWell_65 : decode prog_5_method_8_code 65 = .ok (.lconst 0, 1) := by decide +kernel
theorem d_M_allWell_66 : decode prog_5_method_8_code 66 = .ok (.lcmp, 1) := by decide +kernel
theorem d_M_allWell_67 : decode prog_5_method_8_code 67 = .ok (.ifCond .lt 22, 3) := by decide +kernel
theorem d_M_allWell_70 : decode prog_5_method_8_code 70 = .ok (.lload 5, 2) := by decide +kernel
theorem d_M_allWell_72 : decode prog_5_method_8_code 72 = .ok (.aload_n 0, 1) := by decide +kernel
theorem d_M_allWell_73 : decode prog_5_method_8_code 73 = .ok (.getfield 19, 3) := by decide +kernel
theorem d_M_allWell_76 : decode prog_5_method_8_code 76 = .ok (.iconst 4, 1) := by decide +kernel
theorem d_M_allWell_77 : decode prog_5_method_8_code 77 = .ok (.iload_n 1, 1) := by decide +kernel
theorem d_M_allWell_78 : decode prog_5_method_8_code 78 = .ok (.imul, 1) := by decide +kernel
theorem d_M_allWell_79 : decode prog_5_method_8_code 79 = .ok (.iload 4, 2) := by decide +kernel
theorem d_M_allWell_81 : decode prog_5_method_8_code 81 = .ok (.iadd, 1) := by decide +kernel
theorem d_M_allWell_82 : decode prog_5_method_8_code 82 = .ok (.laload, 1) := by decide +kernel
theorem d_M_allWell_83 : decode prog_5_method_8_code 83 = .ok (.lcmp, 1) := by decide +kernel
theorem d_M_allWell_84 : decode prog_5_method_8_code 84 = .ok (.ifCond .le 5, 3) := by decide +kernel
theorem d_M_allWell_87 : decode prog_5_method_8_code 87 = .ok (.iconst 0, 1) := by decide +kernel
theorem d_M_allWell_88 : decode prog_5_method_8_code 88 = .ok (.ireturn, 1) := by decide +kernel
theorem d_M_allWell_89 : decode prog_5_method_8_code 89 = .ok (.iinc 4 1, 3) := by decide +kernel
theorem d_M_allWell_92 : decode prog_5_method_8_code 92 = .ok (.goto (-77), 3) := by decide +kernel
theorem d_M_allWell_95 : decode prog_5_method_8_code 95 = .ok (.aload_n 0, 1) := by decide +kernel
theorem d_M_allWell_96 : decode prog_5_method_8_code 96 = .ok (.getfield 53, 3) := by decide +kernel
theorem d_M_allWell_99 : decode prog_5_method_8_code 99 = .ok (.iload_n 1, 1) := by decide +kernel
theorem d_M_allWell_100 : decode prog_5_method_8_code 100 = .ok (.laload, 1) := by decide +kernel
theorem d_M_allWell_101 : decode prog_5_method_8_code 101 = .ok (.aload_n 0, 1) := by decide +kernel
theorem d_M_allWell_102 : decode prog_5_method_8_code 102 = .ok (.getfield 13, 3) := by decide +kernel
theorem d_M_allWell_105 : decode prog_5_method_8_code 105 = .ok (.iload_n 1, 1) := by decide +kernel
theorem d_M_allWell_106 : decode prog_5_method_8_code 106 = .ok (.laload, 1) := by decide +kernel
theorem d_M_allWell_107 : decode prog_5_method_8_code 107 = .ok (.lneg, 1) := by decide +kernel
theorem d_M_allWell_108 : decode prog_5_method_8_code 108 = .ok (.lcmp, 1) := by decide +kernel
theorem d_M_allWell_109 : decode prog_5_method_8_code 109 = .ok (.ifCond .lt 25, 3) := by decide +kernel
theorem d_M_allWell_112 : decode prog_5_method_8_code 112 = .ok (.aload_n 0, 1) := by decide +kernel
theorem d_M_allWell_113 : decode prog_5_method_8_code 113 = .ok (.getfield 16, 3) := by decide +kernel
theorem d_M_allWell_116 : decode prog_5_method_8_code 116 = .ok (.iload_n 1, 1) := by decide +kernel
theorem d_M_allWell_117 : decode prog_5_method_8_code 117 = .ok (.laload, 1) := by decide +kernel
theorem d_M_allWell_118 : decode prog_5_method_8_code 118 = .ok (.lconst 0, 1) := by decide +kernel
theorem d_M_allWell_119 : decode prog_5_method_8_code 119 = .ok (.lcmp, 1) := by decide +kernel
theorem d_M_allWell_120 : decode prog_5_method_8_code 120 = .ok (.ifCond .lt 16, 3) := by decide +kernel
theorem d_M_allWell_123 : decode prog_5_method_8_code 123 = .ok (.lload_n 2, 1) := by decide +kernel
theorem d_M_allWell_124 : decode prog_5_method_8_code 124 = .ok (.aload_n 0, 1) := by decide +kernel
theorem d_M_allWell_125 : decode prog_5_method_8_code 125 = .ok (.getfield 16, 3) := by decide +kernel
theorem d_M_allWell_128 : decode prog_5_method_8_code 128 = .ok (.iload_n 1, 1) := by decide +kernel
theorem d_M_allWell_129 : decode prog_5_method_8_code 129 = .ok (.laload, 1) := by decide +kernel
theorem d_M_allWell_130 : decode prog_5_method_8_code 130 = .ok (.lcmp, 1) := by decide +kernel
theorem d_M_allWell_131 : decode prog_5_method_8_code 131 = .ok (.ifCond .le 5, 3) := by decide +kernel
theorem d_M_allWell_134 : decode prog_5_method_8_code 134 = .ok (.iconst 0, 1) := by decide +kernel
theorem d_M_allWell_135 : decode prog_5_method_8_code 135 = .ok (.ireturn, 1) := by decide +kernel
theorem d_M_allWell_136 : decode prog_5_method_8_code 136 = .ok (.iinc 1 1, 3) := by decide +kernel
theorem d_M_allWell_139 : decode prog_5_method_8_code 139 = .ok (.goto (-137), 3) := by decide +kernel
theorem d_M_allWell_142 : decode prog_5_method_8_code 142 = .ok (.iconst 1, 1) := by decide +kernel
theorem d_M_allWell_143 : decode prog_5_method_8_code 143 = .ok (.ireturn, 1) := by decide +kernel
abbrev y_M_ready : MethodName := ⟨"GridlockDeskModel", "ready", "(II)Z"⟩
abbrev ws_M_ready : List Cond := .code y_M_ready prog_5_method_9_code 3 (some .boolean) :: TB
theorem d_M_ready_0 : decode prog_5_method_9_code 0 = .ok (.aload_n 0, 1) := by decide +kernel
theorem d_M_ready_1 : decode prog_5_method_9_code 1 = .ok (.invokevirtual 75, 3) := by decide +kernel
theorem d_M_ready_4 : decode prog_5_method_9_code 4 = .ok (.aload_n 0, 1) := by decide +kernel
theorem d_M_ready_5 : decode prog_5_method_9_code 5 = .ok (.iload_n 1, 1) := by decide +kernel
theorem d_M_ready_6 : decode prog_5_method_9_code 6 = .ok (.invokevirtual 78, 3) := by decide +kernel
theorem d_M_ready_9 : decode prog_5_method_9_code 9 = .ok (.iload_n 2, 1) := by decide +kernel
theorem d_M_ready_10 : decode prog_5_method_9_code 10 = .ok (.ifCond .lt 8, 3) := by decide +kernel
theorem d_M_ready_13 : decode prog_5_method_9_code 13 = .ok (.aload_n 0, 1) := by decide +kernel
theorem d_M_ready_14 : decode prog_5_method_9_code 14 = .ok (.iload_n 2, 1) := by decide +kernel
theorem d_M_ready_15 : decode prog_5_method_9_code 15 = .ok (.invokevirtual 78, 3) := by decide +kernel
theorem d_M_ready_18 : decode prog_5_method_9_code 18 = .ok (.aload_n 0, 1) := by decide +kernel
theorem d_M_ready_19 : decode prog_5_method_9_code 19 = .ok (.invokevirtual 82, 3) := by decide +kernel
theorem d_M_ready_22 : decode prog_5_method_9_code 22 = .ok (.ireturn, 1) := by decide +kernel
abbrev y_M_settle : MethodName := ⟨"GridlockDeskModel", "settle", "(II)V"⟩
abbrev ws_M_settle : List Cond := .code y_M_settle prog_5_method_10_code 4 none :: TB
theorem d_M_settle_0 : decode prog_5_method_10_code 0 = .ok (.iconst 4, 1) := by decide +kernel
theorem d_M_settle_1 : decode prog_5_method_10_code 1 = .ok (.aload_n 0, 1) := by decide +kernel
theorem d_M_settle_2 : decode prog_5_method_10_code 2 = .ok (.getfield 25, 3) := by decide +kernel
theorem d_M_settle_5 : decode prog_5_method_10_code 5 = .ok (.iload_n 1, 1) := by decide +kernel
theorem d_M_settle_6 : decode prog_5_method_10_code 6 = .ok (.iaload, 1) := by decide +kernel
theorem d_M_settle_7 : decode prog_5_method_10_code 7 = .ok (.imul, 1) := by decide +kernel
theorem d_M_settle_8 : decode prog_5_method_10_code 8 = .ok (.aload_n 0, 1) := by decide +kernel
theorem d_M_settle_9 : decode prog_5_method_10_code 9 = .ok (.getfield 29, 3) := by decide +kernel
theorem d_M_settle_12 : decode prog_5_method_10_code 12 = .ok (.iload_n 1, 1) := by decide +kernel
theorem d_M_settle_13 : decode prog_5_method_10_code 13 = .ok (.iaload, 1) := by decide +kernel
theorem d_M_settle_14 : decode prog_5_method_10_code 14 = .ok (.iadd, 1) := by decide +kernel
theorem d_M_settle_15 : decode prog_5_method_10_code 15 = .ok (.istore_n 3, 1) := by decide +kernel
theorem d_M_settle_16 : decode prog_5_method_10_code 16 = .ok (.aload_n 0, 1) := by decide +kernel
theorem d_M_settle_17 : decode prog_5_method_10_code 17 = .ok (.getfield 7, 3) := by decide +kernel
theorem d_M_settle_20 : decode prog_5_method_10_code 20 = .ok (.aload_n 0, 1) := by decide +kernel
theorem d_M_settle_21 : decode prog_5_method_10_code 21 = .ok (.getfield 25, 3) := by decide +kernel
theorem d_M_settle_24 : decode prog_5_method_10_code 24 = .ok (.iload_n 1, 1) := by decide +kernel
theorem d_M_settle_25 : decode prog_5_method_10_code 25 = .ok (.iaload, 1) := by decide +kernel
theorem d_M_settle_26 : decode prog_5_method_10_code 26 = .ok (.aload_n 0, 1) := by decide +kernel
theorem d_M_settle_27 : decode prog_5_method_10_code 27 = .ok (.getfield 7, 3) := by decide +kernel
theorem d_M_settle_30 : decode prog_5_method_10_code 30 = .ok (.aload_n 0, 1) := by decide +kernel
theorem d_M_settle_31 : decode prog_5_method_10_code 31 = .ok (.getfield 25, 3) := by decide +kernel
theorem d_M_settle_34 : decode prog_5_method_10_code 34 = .ok (.iload_n 1, 1) := by decide +kernel
theorem d_M_settle_35 : decode prog_5_method_10_code 35 = .ok (.iaload, 1) := by decide +kernel
theorem d_M_settle_36 : decode prog_5_method_10_code 36 = .ok (.laload, 1) := by decide +kernel
theorem d_M_settle_37 : decode prog_5_method_10_code 37 = .ok (.aload_n 0, 1) := by decide +kernel
theorem d_M_settle_38 : decode prog_5_method_10_code 38 = .ok (.getfield 32, 3) := by decide +kernel
theorem d_M_settle_41 : decode prog_5_method_10_code 41 = .ok (.iload_n 1, 1) := by decide +kernel
theorem d_M_settle_42 : decode prog_5_method_10_code 42 = .ok (.laload, 1) := by decide +kernel
theorem d_M_settle_43 : decode prog_5_method_10_code 43 = .ok (.lsub, 1) := by decide +kernel
theorem d_M_settle_44 : decode prog_5_method_10_code 44 = .ok (.lastore, 1) := by decide +kernel
theorem d_M_settle_45 : decode prog_5_method_10_code 45 = .ok (.aload_n 0, 1) := by decide +kernel
theorem d_M_settle_46 : decode prog_5_method_10_code 46 = .ok (.getfield 7, 3) := by decide +kernel
theorem d_M_settle_49 : decode prog_5_method_10_code 49 = .ok (.aload_n 0, 1) := by decide +kernel
theorem d_M_settle_50 : decode prog_5_method_10_code 50 = .ok (.getfield 29, 3) := by decide +kernel
theorem d_M_settle_53 : decode prog_5_method_10_code 53 = .ok (.iload_n 1, 1) := by decide +kernel
theorem d_M_settle_54 : decode prog_5_method_10_code 54 = .ok (.iaload, 1) := by decide +kernel
theorem d_M_settle_55 : decode prog_5_method_10_code 55 = .ok (.aload_n 0, 1) := by decide +kernel
theorem d_M_settle_56 : decode prog_5_method_10_code 56 = .ok (.getfield 7, 3) := by decide +kernel
theorem d_M_settle_59 : decode prog_5_method_10_code 59 = .ok (.aload_n 0, 1) := by decide +kernel
theorem d_M_settle_60 : decode prog_5_method_10_code 60 = .ok (.getfield 29, 3) := by decide +kernel
theorem d_M_settle_63 : decode prog_5_method_10_code 63 = .ok (.iload_n 1, 1) := by decide +kernel
theorem d_M_settle_64 : decode prog_5_method_10_code 64 = .ok (.iaload, 1) := by decide +kernel
theorem d_M_settle_65 : decode prog_5_method_10_code 65 = .ok (.laload, 1) := by decide +kernel
theorem d_M_settle_66 : decode prog_5_method_10_code 66 = .ok (.aload_n 0, 1) := by decide +kernel
theorem d_M_settle_67 : decode prog_5_method_10_code 67 = .ok (.getfield 32, 3) := by decide +kernel
theorem d_M_settle_70 : decode prog_5_method_10_code 70 = .ok (.iload_n 1, 1) := by decide +kernel
theorem d_M_settle_71 : decode prog_5_method_10_code 71 = .ok (.laload, 1) := by decide +kernel
theorem d_M_settle_72 : decode prog_5_method_10_code 72 = .ok (.ladd, 1) := by decide +kernel
theorem d_M_settle_73 : decode prog_5_method_10_code 73 = .ok (.lastore, 1) := by decide +kernel
theorem d_M_settle_74 : decode prog_5_method_10_code 74 = .ok (.aload_n 0, 1) := by decide +kernel
theorem d_M_settle_75 : decode prog_5_method_10_code 75 = .ok (.getfield 22, 3) := by decide +kernel
theorem d_M_settle_78 : decode prog_5_method_10_code 78 = .ok (.iload_n 3, 1) := by decide +kernel
theorem d_M_settle_79 : decode prog_5_method_10_code 79 = .ok (.aload_n 0, 1) := by decide +kernel
theorem d_M_settle_80 : decode prog_5_method_10_code 80 = .ok (.getfield 22, 3) := by decide +kernel
theorem d_M_settle_83 : decode prog_5_method_10_code 83 = .ok (.iload_n 3, 1) := by decide +kernel
theorem d_M_settle_84 : decode prog_5_method_10_code 84 = .ok (.laload, 1) := by decide +kernel
theorem d_M_settle_85 : decode prog_5_method_10_code 85 = .ok (.aload_n 0, 1) := by decide +kernel
theorem d_M_settle_86 : decode prog_5_method_10_code 86 = .ok (.getfield 32, 3) := by decide +kernel
theorem d_M_settle_89 : decode prog_5_method_10_code 89 = .ok (.iload_n 1, 1) := by decide +kernel
theorem d_M_settle_90 : decode prog_5_method_10_code 90 = .ok (.laload, 1) := by decide +kernel
theorem d_M_settle_91 : decode prog_5_method_10_code 91 = .ok (.ladd, 1) := by decide +kernel
theorem d_M_settle_92 : decode prog_5_method_10_code 92 = .ok (.lastore, 1) := by decide +kernel
theorem d_M_settle_93 : decode prog_5_method_10_code 93 = .ok (.aload_n 0, 1) := by decide +kernel
theorem d_M_settle_94 : decode prog_5_method_10_code 94 = .ok (.aload_n 0, 1) := by decide +kernel
theorem d_M_settle_95 : decode prog_5_method_10_code 95 = .ok (.getfield 86, 3) := by decide +kernel
theorem d_M_settle_98 : decode prog_5_method_10_code 98 = .ok (.aload_n 0, 1) := by decide +kernel
theorem d_M_settle_99 : decode prog_5_method_10_code 99 = .ok (.getfield 32, 3) := by decide +kernel
theorem d_M_settle_102 : decode prog_5_method_10_code 102 = .ok (.iload_n 1, 1) := by decide +kernel
theorem d_M_settle_103 : decode prog_5_method_10_code 103 = .ok (.laload, 1) := by decide +kernel
theorem d_M_settle_104 : decode prog_5_method_10_code 104 = .ok (.ladd, 1) := by decide +kernel
theorem d_M_settle_105 : decode prog_5_method_10_code 105 = .ok (.putfield 86, 3) := by decide +kernel
theorem d_M_settle_108 : decode prog_5_method_10_code 108 = .ok (.aload_n 0, 1) := by decide +kernel
theorem d_M_settle_109 : decode prog_5_method_10_code 109 = .ok (.getfield 44, 3) := by decide +kernel
theorem d_M_settle_112 : decode prog_5_method_10_code 112 = .ok (.iload_n 1, 1) := by decide +kernel
theorem d_M_settle_113 : decode prog_5_method_10_code 113 = .ok (.iload_n 2, 1) := by decide +kernel
theorem d_M_settle_114 : decode prog_5_method_10_code 114 = .ok (.iastore, 1) := by decide +kernel
theorem d_M_settle_115 : decode prog_5_method_10_code 115 = .ok (.return_, 1) := by decide +kernel
abbrev y_M_alone : MethodName := ⟨"GridlockDeskModel", "alone", "()Z"⟩
abbrev ws_M_alone : List Cond := .code y_M_alone prog_5_method_11_code 2 (some .boolean) :: TB
theorem d_M_alone_0 : decode prog_5_method_11_code 0 = .ok (.iconst 0, 1) := by decide +kernel
theorem d_M_alone_1 : decode prog_5_method_11_code 1 = .ok (.istore_n 1, 1) := by decide +kernel
theorem d_M_alone_2 : decode prog_5_method_11_code 2 = .ok (.iload_n 1, 1) := by decide +kernel
theorem d_M_alone_3 : decode prog_5_method_11_code 3 = .ok (.aload_n 0, 1) := by decide +kernel
theorem d_M_alone_4 : decode prog_5_method_11_code 4 = .ok (.getfield 62, 3) := by decide +kernel
theorem d_M_alone_7 : decode prog_5_method_11_code 7 = .ok (.if_icmp .ge 51, 3) := by decide +kernel
theorem d_M_alone_10 : decode prog_5_method_11_code 10 = .ok (.aload_n 0, 1) := by decide +kernel
theorem d_M_alone_11 : decode prog_5_method_11_code 11 = .ok (.getfield 50, 3) := by decide +kernel
theorem d_M_alone_14 : decode prog_5_method_11_code 14 = .ok (.iload_n 1, 1) := by decide +kernel
theorem d_M_alone_15 : decode prog_5_method_11_code 15 = .ok (.iaload, 1) := by decide +kernel
theorem d_M_alone_16 : decode prog_5_method_11_code 16 = .ok (.ifCond .le 36, 3) := by decide +kernel
theorem d_M_alone_19 : decode prog_5_method_11_code 19 = .ok (.aload_n 0, 1) := by decide +kernel
theorem d_M_alone_20 : decode prog_5_method_11_code 20 = .ok (.aload_n 0, 1) := by decide +kernel
theorem d_M_alone_21 : decode prog_5_method_11_code 21 = .ok (.getfield 47, 3) := by decide +kernel
theorem d_M_alone_24 : decode prog_5_method_11_code 24 = .ok (.bipush 6, 2) := by decide +kernel
theorem d_M_alone_26 : decode prog_5_method_11_code 26 = .ok (.iload_n 1, 1) := by decide +kernel
theorem d_M_alone_27 : decode prog_5_method_11_code 27 = .ok (.imul, 1) := by decide +kernel
theorem d_M_alone_28 : decode prog_5_method_11_code 28 = .ok (.iaload, 1) := by decide +kernel
theorem d_M_alone_29 : decode prog_5_method_11_code 29 = .ok (.iconst (-1), 1) := by decide +kernel
theorem d_M_alone_30 : decode prog_5_method_11_code 30 = .ok (.invokevirtual 90, 3) := by decide +kernel
theorem d_M_alone_33 : decode prog_5_method_11_code 33 = .ok (.ifCond .eq 19, 3) := by decide +kernel
theorem d_M_alone_36 : decode prog_5_method_11_code 36 = .ok (.aload_n 0, 1) := by decide +kernel
theorem d_M_alone_37 : decode prog_5_method_11_code 37 = .ok (.aload_n 0, 1) := by decide +kernel
theorem d_M_alone_38 : decode prog_5_method_11_code 38 = .ok (.getfield 47, 3) := by decide +kernel
theorem d_M_alone_41 : decode prog_5_method_11_code 41 = .ok (.bipush 6, 2) := by decide +kernel
theorem d_M_alone_43 : decode prog_5_method_11_code 43 = .ok (.iload_n 1, 1) := by decide +kernel
theorem d_M_alone_44 : decode prog_5_method_11_code 44 = .ok (.imul, 1) := by decide +kernel
theorem d_M_alone_45 : decode prog_5_method_11_code 45 = .ok (.iaload, 1) := by decide +kernel
theorem d_M_alone_46 : decode prog_5_method_11_code 46 = .ok (.iconst 1, 1) := by decide +kernel
theorem d_M_alone_47 : decode prog_5_method_11_code 47 = .ok (.invokevirtual 93, 3) := by decide +kernel
theorem d_M_alone_50 : decode prog_5_method_11_code 50 = .ok (.iconst 1, 1) := by decide +kernel
theorem d_M_alone_51 : decode prog_5_method_11_code 51 = .ok (.ireturn, 1) := by decide +kernel
theorem d_M_alone_52 : decode prog_5_method_11_code 52 = .ok (.iinc 1 1, 3) := by decide +kernel
theorem d_M_alone_55 : decode prog_5_method_11_code 55 = .ok (.goto (-53), 3) := by decide +kernel
theorem d_M_alone_58 : decode prog_5_method_11_code 58 = .ok (.iconst 0, 1) := by decide +kernel
theorem d_M_alone_59 : decode prog_5_method_11_code 59 = .ok (.ireturn, 1) := by decide +kernel
abbrev y_M_pair : MethodName := ⟨"GridlockDeskModel", "pair", "()Z"⟩
abbrev ws_M_pair : List Cond := .code y_M_pair prog_5_method_12_code 4 (some .boolean) :: TB
theorem d_M_pair_0 : decode prog_5_method_12_code 0 = .ok (.iconst 0, 1) := by decide +kernel
theorem d_M_pair_1 : decode prog_5_method_12_code 1 = .ok (.istore_n 1, 1) := by decide +kernel
theorem d_M_pair_2 : decode prog_5_method_12_code 2 = .ok (.iload_n 1, 1) := by decide +kernel
theorem d_M_pair_3 : decode prog_5_method_12_code 3 = .ok (.aload_n 0, 1) := by decide +kernel
theorem d_M_pair_4 : decode prog_5_method_12_code 4 = .ok (.getfield 62, 3) := by decide +kernel
theorem d_M_pair_7 : decode prog_5_method_12_code 7 = .ok (.if_icmp .ge 146, 3) := by decide +kernel
theorem d_M_pair_10 : decode prog_5_method_12_code 10 = .ok (.iload_n 1, 1) := by decide +kernel
theorem d_M_pair_11 : decode prog_5_method_12_code 11 = .ok (.iconst 1, 1) := by decide +kernel
theorem d_M_pair_12 : decode prog_5_method_12_code 12 = .ok (.iadd, 1) := by decide +kernel
theorem d_M_pair_13 : decode prog_5_method_12_code 13 = .ok (.istore_n 2, 1) := by decide +kernel
theorem d_M_pair_14 : decode prog_5_method_12_code 14 = .ok (.iload_n 2, 1) := by decide +kernel
theorem d_M_pair_15 : decode prog_5_method_12_code 15 = .ok (.aload_n 0, 1) := by decide +kernel
theorem d_M_pair_16 : decode prog_5_method_12_code 16 = .ok (.getfield 62, 3) := by decide +kernel
theorem d_M_pair_19 : decode prog_5_method_12_code 19 = .ok (.if_icmp .ge 128, 3) := by decide +kernel
theorem d_M_pair_22 : decode prog_5_method_12_code 22 = .ok (.aload_n 0, 1) := by decide +kernel
theorem d_M_pair_23 : decode prog_5_method_12_code 23 = .ok (.getfield 50, 3) := by decide +kernel
theorem d_M_pair_26 : decode prog_5_method_12_code 26 = .ok (.iload_n 1, 1) := by decide +kernel
theorem d_M_pair_27 : decode prog_5_method_12_code 27 = .ok (.iaload, 1) := by decide +kernel
theorem d_M_pair_28 : decode prog_5_method_12_code 28 = .ok (.ifCond .le 52, 3) := by decide +kernel
theorem d_M_pair_31 : decode prog_5_method_12_code 31 = .ok (.aload_n 0, 1) := by decide +kernel
theorem d_M_pair_32 : decode prog_5_method_12_code 32 = .ok (.getfield 50, 3) := by decide +kernel
theorem d_M_pair_35 : decode prog_5_method_12_code 35 = .ok (.iload_n 2, 1) := by decide +kernel
theorem d_M_pair_36 : decode prog_5_method_12_code 36 = .ok (.iaload, 1) := by decide +kernel
theorem d_M_pair_37 : decode prog_5_method_12_code 37 = .ok (.ifCond .le 43, 3) := by decide +kernel
theorem d_M_pair_40 : decode prog_5_method_12_code 40 = .ok (.aload_n 0, 1) := by decide +kernel
theorem d_M_pair_41 : decode prog_5_method_12_code 41 = .ok (.getfield 29, 3) := by decide +kernel
theorem d_M_pair_44 : decode prog_5_method_12_code 44 = .ok (.aload_n 0, 1) := by decide +kernel
theorem d_M_pair_45 : decode prog_5_method_12_code 45 = .ok (.getfield 47, 3) := by decide +kernel
theorem d_M_pair_48 : decode prog_5_method_12_code 48 = .ok (.bipush 6, 2) := by decide +kernel
theorem d_M_pair_50 : decode prog_5_method_12_code 50 = .ok (.iload_n 1, 1) := by decide +kernel
theorem d_M_pair_51 : decode prog_5_method_12_code 51 = .ok (.imul, 1) := by decide +kernel
theorem d_M_pair_52 : decode prog_5_method_12_code 52 = .ok (.iaload, 1) := by decide +kernel
theorem d_M_pair_53 : decode prog_5_method_12_code 53 = .ok (.iaload, 1) := by decide +kernel
theorem d_M_pair_54 : decode prog_5_method_12_code 54 = .ok (.iload_n 2, 1) := by decide +kernel
theorem d_M_pair_55 : decode prog_5_method_12_code 55 = .ok (.if_icmp .ne 25, 3) := by decide +kernel
theorem d_M_pair_58 : decode prog_5_method_12_code 58 = .ok (.aload_n 0, 1) := by decide +kernel
theorem d_M_pair_59 : decode prog_5_method_12_code 59 = .ok (.getfield 29, 3) := by decide +kernel
theorem d_M_pair_62 : decode prog_5_method_12_code 62 = .ok (.aload_n 0, 1) := by decide +kernel
theorem d_M_pair_63 : decode prog_5_method_12_code 63 = .ok (.getfield 47, 3) := by decide +kernel
theorem d_M_pair_66 : decode prog_5_method_12_code 66 = .ok (.bipush 6, 2) := by decide +kernel
theorem d_M_pair_68 : decode prog_5_method_12_code 68 = .ok (.iload_n 2, 1) := by decide +kernel
theorem d_M_pair_69 : decode prog_5_method_12_code 69 = .ok (.imul, 1) := by decide +kernel
theorem d_M_pair_70 : decode prog_5_method_12_code 70 = .ok (.iaload, 1) := by decide +kernel
theorem d_M_pair_71 : decode prog_5_method_12_code 71 = .ok (.iaload, 1) := by decide +kernel
theorem d_M_pair_72 : decode prog_5_method_12_code 72 = .ok (.iload_n 1, 1) := by decide +kernel
theorem d_M_pair_73 : decode prog_5_method_12_code 73 = .ok (.if_icmp .ne 7, 3) := by decide +kernel
theorem d_M_pair_76 : decode prog_5_method_12_code 76 = .ok (.iconst 1, 1) := by decide +kernel
theorem d_M_pair_77 : decode prog_5_method_12_code 77 = .ok (.goto 4, 3) := by decide +kernel
theorem d_M_pair_80 : decode prog_5_method_12_code 80 = .ok (.iconst 0, 1) := by decide +kernel
theorem d_M_pair_81 : decode prog_5_method_12_code 81 = .ok (.istore_n 3, 1) := by decide +kernel
theorem d_M_pair_82 : decode prog_5_method_12_code 82 = .ok (.iload_n 3, 1) := by decide +kernel
theorem d_M_pair_83 : decode prog_5_method_12_code 83 = .ok (.ifCond .eq 58, 3) := by decide +kernel
theorem d_M_pair_86 : decode prog_5_method_12_code 86 = .ok (.aload_n 0, 1) := by decide +kernel
theorem d_M_pair_87 : decode prog_5_method_12_code 87 = .ok (.aload_n 0, 1) := by decide +kernel
theorem d_M_pair_88 : decode prog_5_method_12_code 88 = .ok (.getfield 47, 3) := by decide +kernel
theorem d_M_pair_91 : decode prog_5_method_12_code 91 = .ok (.bipush 6, 2) := by decide +kernel
theorem d_M_pair_93 : decode prog_5_method_12_code 93 = .ok (.iload_n 1, 1) := by decide +kernel
theorem d_M_pair_94 : decode prog_5_method_12_code 94 = .ok (.imul, 1) := by decide +kernel
theorem d_M_pair_95 : decode prog_5_method_12_code 95 = .ok (.iaload, 1) := by decide +kernel
theorem d_M_pair_96 : decode prog_5_method_12_code 96 = .ok (.aload_n 0, 1) := by decide +kernel
theorem d_M_pair_97 : decode prog_5_method_12_code 97 = .ok (.getfield 47, 3) := by decide +kernel
theorem d_M_pair_100 : decode prog_5_method_12_code 100 = .ok (.bipush 6, 2) := by decide +kernel
theorem d_M_pair_102 : decode prog_5_method_12_code 102 = .ok (.iload_n 2, 1) := by decide +kernel
theorem d_M_pair_103 : decode prog_5_method_12_code 103 = .ok (.imul, 1) := by decide +kernel
theorem d_M_pair_104 : decode prog_5_method_12_code 104 = .ok (.iaload, 1) := by decide +kernel
theorem d_M_pair_105 : decode prog_5_method_12_code 105 = .ok (.invokevirtual 90, 3) := by decide +kernel
theorem d_M_pair_108 : decode prog_5_method_12_code 108 = .ok (.ifCond .eq 33, 3) := by decide +kernel
theorem d_M_pair_111 : decode prog_5_method_12_code 111 = .ok (.aload_n 0, 1) := by decide +kernel
theorem d_M_pair_112 : decode prog_5_method_12_code 112 = .ok (.aload_n 0, 1) := by decide +kernel
theorem d_M_pair_113 : decode prog_5_method_12_code 113 = .ok (.getfield 47, 3) := by decide +kernel
theorem d_M_pair_116 : decode prog_5_method_12_code 116 = .ok (.bipush 6, 2) := by decide +kernel
theorem d_M_pair_118 : decode prog_5_method_12_code 118 = .ok (.iload_n 1, 1) := by decide +kernel
theorem d_M_pair_119 : decode prog_5_method_12_code 119 = .ok (.imul, 1) := by decide +kernel
theorem d_M_pair_120 : decode prog_5_method_12_code 120 = .ok (.iaload, 1) := by decide +kernel
theorem d_M_pair_121 : decode prog_5_method_12_code 121 = .ok (.iconst 2, 1) := by decide +kernel
theorem d_M_pair_122 : decode prog_5_method_12_code 122 = .ok (.invokevirtual 93, 3) := by decide +kernel
theorem d_M_pair_125 : decode prog_5_method_12_code 125 = .ok (.aload_n 0, 1) := by decide +kernel
theorem d_M_pair_126 : decode prog_5_method_12_code 126 = .ok (.aload_n 0, 1) := by decide +kernel
theorem d_M_pair_127 : decode prog_5_method_12_code 127 = .ok (.getfield 47, 3) := by decide +kernel
theorem d_M_pair_130 : decode prog_5_method_12_code 130 = .ok (.bipush 6, 2) := by decide +kernel
theorem d_M_pair_132 : decode prog_5_method_12_code 132 = .ok (.iload_n 2, 1) := by decide +kernel
theorem d_M_pair_133 : decode prog_5_method_12_code 133 = .ok (.imul, 1) := by decide +kernel
theorem d_M_pair_134 : decode prog_5_method_12_code 134 = .ok (.iaload, 1) := by decide +kernel
theorem d_M_pair_135 : decode prog_5_method_12_code 135 = .ok (.iconst 2, 1) := by decide +kernel
theorem d_M_pair_136 : decode prog_5_method_12_code 136 = .ok (.invokevirtual 93, 3) := by decide +kernel
theorem d_M_pair_139 : decode prog_5_method_12_code 139 = .ok (.iconst 1, 1) := by decide +kernel
theorem d_M_pair_140 : decode prog_5_method_12_code 140 = .ok (.ireturn, 1) := by decide +kernel
theorem d_M_pair_141 : decode prog_5_method_12_code 141 = .ok (.iinc 2 1, 3) := by decide +kernel
theorem d_M_pair_144 : decode prog_5_method_12_code 144 = .ok (.goto (-130), 3) := by decide +kernel
theorem d_M_pair_147 : decode prog_5_method_12_code 147 = .ok (.iinc 1 1, 3) := by decide +kernel
theorem d_M_pair_150 : decode prog_5_method_12_code 150 = .ok (.goto (-148), 3) := by decide +kernel
theorem d_M_pair_153 : decode prog_5_method_12_code 153 = .ok (.iconst 0, 1) := by decide +kernel
theorem d_M_pair_154 : decode prog_5_method_12_code 154 = .ok (.ireturn, 1) := by decide +kernel
abbrev y_M_sweep : MethodName := ⟨"GridlockDeskModel", "sweep", "()V"⟩
abbrev ws_M_sweep : List Cond := .code y_M_sweep prog_5_method_13_code 3 none :: TB
theorem d_M_sweep_0 : decode prog_5_method_13_code 0 = .ok (.iconst 1, 1) := by decide +kernel
theorem d_M_sweep_1 : decode prog_5_method_13_code 1 = .ok (.istore_n 1, 1) := by decide +kernel
theorem d_M_sweep_2 : decode prog_5_method_13_code 2 = .ok (.iconst 0, 1) := by decide +kernel
theorem d_M_sweep_3 : decode prog_5_method_13_code 3 = .ok (.istore_n 2, 1) := by decide +kernel
theorem d_M_sweep_4 : decode prog_5_method_13_code 4 = .ok (.iload_n 2, 1) := by decide +kernel
theorem d_M_sweep_5 : decode prog_5_method_13_code 5 = .ok (.sipush 200, 3) := by decide +kernel
theorem d_M_sweep_8 : decode prog_5_method_13_code 8 = .ok (.if_icmp .ge 37, 3) := by decide +kernel
theorem d_M_sweep_11 : decode prog_5_method_13_code 11 = .ok (.iload_n 1, 1) := by decide +kernel
theorem d_M_sweep_12 : decode prog_5_method_13_code 12 = .ok (.ifCond .eq 33, 3) := by decide +kernel
theorem d_M_sweep_15 : decode prog_5_method_13_code 15 = .ok (.aload_n 0, 1) := by decide +kernel
theorem d_M_sweep_16 : decode prog_5_method_13_code 16 = .ok (.invokevirtual 97, 3) := by decide +kernel
theorem d_M_sweep_19 : decode prog_5_method_13_code 19 = .ok (.aload_n 0, 1) := by decide +kernel
theorem d_M_sweep_20 : decode prog_5_method_13_code 20 = .ok (.invokevirtual 100, 3) := by decide +kernel
theorem d_M_sweep_23 : decode prog_5_method_13_code 23 = .ok (.ifCond .ne 10, 3) := by decide +kernel
theorem d_M_sweep_26 : decode prog_5_method_13_code 26 = .ok (.aload_n 0, 1) := by decide +kernel
theorem d_M_sweep_27 : decode prog_5_method_13_code 27 = .ok (.invokevirtual 103, 3) := by decide +kernel
theorem d_M_sweep_30 : decode prog_5_method_13_code 30 = .ok (.ifCond .eq 7, 3) := by decide +kernel
theorem d_M_sweep_33 : decode prog_5_method_13_code 33 = .ok (.iconst 1, 1) := by decide +kernel
theorem d_M_sweep_34 : decode prog_5_method_13_code 34 = .ok (.goto 4, 3) := by decide +kernel
theorem d_M_sweep_37 : decode prog_5_method_13_code 37 = .ok (.iconst 0, 1) := by decide +kernel
theorem d_M_sweep_38 : decode prog_5_method_13_code 38 = .ok (.istore_n 1, 1) := by decide +kernel
theorem d_M_sweep_39 : decode prog_5_method_13_code 39 = .ok (.iinc 2 1, 3) := by decide +kernel
theorem d_M_sweep_42 : decode prog_5_method_13_code 42 = .ok (.goto (-38), 3) := by decide +kernel
theorem d_M_sweep_45 : decode prog_5_method_13_code 45 = .ok (.return_, 1) := by decide +kernel
abbrev y_M_digit : MethodName := ⟨"GridlockDeskModel", "digit", "(II)I"⟩
abbrev ws_M_digit : List Cond := .code y_M_digit prog_5_method_14_code 4 (some .int) :: TB
theorem d_M_digit_0 : decode prog_5_method_14_code 0 = .ok (.iload_n 0, 1) := by decide +kernel
theorem d_M_digit_1 : decode prog_5_method_14_code 1 = .ok (.istore_n 2, 1) := by decide +kernel
theorem d_M_digit_2 : decode prog_5_method_14_code 2 = .ok (.iconst 0, 1) := by decide +kernel
theorem d_M_digit_3 : decode prog_5_method_14_code 3 = .ok (.istore_n 3, 1) := by decide +kernel
theorem d_M_digit_4 : decode prog_5_method_14_code 4 = .ok (.iload_n 3, 1) := by decide +kernel
theorem d_M_digit_5 : decode prog_5_method_14_code 5 = .ok (.iload_n 1, 1) := by decide +kernel
theorem d_M_digit_6 : decode prog_5_method_14_code 6 = .ok (.if_icmp .ge 14, 3) := by decide +kernel
theorem d_M_digit_9 : decode prog_5_method_14_code 9 = .ok (.iload_n 2, 1) := by decide +kernel
theorem d_M_digit_10 : decode prog_5_method_14_code 10 = .ok (.bipush 7, 2) := by decide +kernel
theorem d_M_digit_12 : decode prog_5_method_14_code 12 = .ok (.idiv, 1) := by decide +kernel
theorem d_M_digit_13 : decode prog_5_method_14_code 13 = .ok (.istore_n 2, 1) := by decide +kernel
theorem d_M_digit_14 : decode prog_5_method_14_code 14 = .ok (.iinc 3 1, 3) := by decide +kernel
theorem d_M_digit_17 : decode prog_5_method_14_code 17 = .ok (.goto (-13), 3) := by decide +kernel
theorem d_M_digit_20 : decode prog_5_method_14_code 20 = .ok (.iload_n 2, 1) := by decide +kernel
theorem d_M_digit_21 : decode prog_5_method_14_code 21 = .ok (.bipush 7, 2) := by decide +kernel
theorem d_M_digit_23 : decode prog_5_method_14_code 23 = .ok (.irem, 1) := by decide +kernel
theorem d_M_digit_24 : decode prog_5_method_14_code 24 = .ok (.ireturn, 1) := by decide +kernel
abbrev y_M_good : MethodName := ⟨"GridlockDeskModel", "good", "(I)Z"⟩
abbrev ws_M_good : List Cond := .code y_M_good prog_5_method_15_code 5 (some .boolean) :: TB
theorem d_M_good_0 : decode prog_5_method_15_code 0 = .ok (.aload_n 0, 1) := by decide +kernel
theorem d_M_good_1 : decode prog_5_method_15_code 1 = .ok (.invokevirtual 75, 3) := by decide +kernel
theorem d_M_good_4 : decode prog_5_method_15_code 4 = .ok (.iconst 0, 1) := by decide +kernel
theorem d_M_good_5 : decode prog_5_method_15_code 5 = .ok (.istore_n 2, 1) := by decide +kernel
theorem d_M_good_6 : decode prog_5_method_15_code 6 = .ok (.iload_n 2, 1) := by decide +kernel
theorem d_M_good_7 : decode prog_5_method_15_code 7 = .ok (.iconst 4, 1) := by decide +kernel
theorem d_M_good_8 : decode prog_5_method_15_code 8 = .ok (.if_icmp .ge 58, 3) := by decide +kernel
theorem d_M_good_11 : decode prog_5_method_15_code 11 = .ok (.iload_n 1, 1) := by decide +kernel
theorem d_M_good_12 : decode prog_5_method_15_code 12 = .ok (.iload_n 2, 1) := by decide +kernel
theorem d_M_good_13 : decode prog_5_method_15_code 13 = .ok (.invokestatic 106, 3) := by decide +kernel
theorem d_M_good_16 : decode prog_5_method_15_code 16 = .ok (.istore_n 3, 1) := by decide +kernel
theorem d_M_good_17 : decode prog_5_method_15_code 17 = .ok (.iload_n 3, 1) := by decide +kernel
theorem d_M_good_18 : decode prog_5_method_15_code 18 = .ok (.aload_n 0, 1) := by decide +kernel
theorem d_M_good_19 : decode prog_5_method_15_code 19 = .ok (.getfield 50, 3) := by decide +kernel
theorem d_M_good_22 : decode prog_5_method_15_code 22 = .ok (.iload_n 2, 1) := by decide +kernel
theorem d_M_good_23 : decode prog_5_method_15_code 23 = .ok (.iaload, 1) := by decide +kernel
theorem d_M_good_24 : decode prog_5_method_15_code 24 = .ok (.if_icmp .le 5, 3) := by decide +kernel
theorem d_M_good_27 : decode prog_5_method_15_code 27 = .ok (.iconst 0, 1) := by decide +kernel
theorem d_M_good_28 : decode prog_5_method_15_code 28 = .ok (.ireturn, 1) := by decide +kernel
theorem d_M_good_29 : decode prog_5_method_15_code 29 = .ok (.iconst 0, 1) := by decide +kernel
theorem d_M_good_30 : decode prog_5_method_15_code 30 = .ok (.istore 4, 2) := by decide +kernel
theorem d_M_good_32 : decode prog_5_method_15_code 32 = .ok (.iload 4, 2) := by decide +kernel
theorem d_M_good_34 : decode prog_5_method_15_code 34 = .ok (.iload_n 3, 1) := by decide +kernel
theorem d_M_good_35 : decode prog_5_method_15_code 35 = .ok (.if_icmp .ge 25, 3) := by decide +kernel
theorem d_M_good_38 : decode prog_5_method_15_code 38 = .ok (.aload_n 0, 1) := by decide +kernel
theorem d_M_good_39 : decode prog_5_method_15_code 39 = .ok (.aload_n 0, 1) := by decide +kernel
theorem d_M_good_40 : decode prog_5_method_15_code 40 = .ok (.getfield 47, 3) := by decide +kernel
theorem d_M_good_43 : decode prog_5_method_15_code 43 = .ok (.bipush 6, 2) := by decide +kernel
theorem d_M_good_45 : decode prog_5_method_15_code 45 = .ok (.iload_n 2, 1) := by decide +kernel
theorem d_M_good_46 : decode prog_5_method_15_code 46 = .ok (.imul, 1) := by decide +kernel
theorem d_M_good_47 : decode prog_5_method_15_code 47 = .ok (.iload 4, 2) := by decide +kernel
theorem d_M_good_49 : decode prog_5_method_15_code 49 = .ok (.iadd, 1) := by decide +kernel
theorem d_M_good_50 : decode prog_5_method_15_code 50 = .ok (.iaload, 1) := by decide +kernel
theorem d_M_good_51 : decode prog_5_method_15_code 51 = .ok (.invokevirtual 78, 3) := by decide +kernel
theorem d_M_good_54 : decode prog_5_method_15_code 54 = .ok (.iinc 4 1, 3) := by decide +kernel
theorem d_M_good_57 : decode prog_5_method_15_code 57 = .ok (.goto (-25), 3) := by decide +kernel
theorem d_M_good_60 : decode prog_5_method_15_code 60 = .ok (.iinc 2 1, 3) := by decide +kernel
theorem d_M_good_63 : decode prog_5_method_15_code 63 = .ok (.goto (-57), 3) := by decide +kernel
theorem d_M_good_66 : decode prog_5_method_15_code 66 = .ok (.aload_n 0, 1) := by decide +kernel
theorem d_M_good_67 : decode prog_5_method_15_code 67 = .ok (.invokevirtual 82, 3) := by decide +kernel
theorem d_M_good_70 : decode prog_5_method_15_code 70 = .ok (.ireturn, 1) := by decide +kernel
abbrev y_M_resolve : MethodName := ⟨"GridlockDeskModel", "resolve", "()I"⟩
abbrev ws_M_resolve : List Cond := .code y_M_resolve prog_5_method_16_code 4 (some .int) :: TB
theorem d_M_resolve_0 : decode prog_5_method_16_code 0 = .ok (.aload_n 0, 1) := by decide +kernel
theorem d_M_resolve_1 : decode prog_5_method_16_code 1 = .ok (.invokevirtual 97, 3) := by decide +kernel
theorem d_M_resolve_4 : decode prog_5_method_16_code 4 = .ok (.iconst 0, 1) := by decide +kernel
theorem d_M_resolve_5 : decode prog_5_method_16_code 5 = .ok (.istore_n 1, 1) := by decide +kernel
theorem d_M_resolve_6 : decode prog_5_method_16_code 6 = .ok (.iload_n 1, 1) := by decide +kernel
theorem d_M_resolve_7 : decode prog_5_method_16_code 7 = .ok (.iconst 4, 1) := by decide +kernel
theorem d_M_resolve_8 : decode prog_5_method_16_code 8 = .ok (.if_icmp .ge 16, 3) := by decide +kernel
theorem d_M_resolve_11 : decode prog_5_method_16_code 11 = .ok (.aload_n 0, 1) := by decide +kernel
theorem d_M_resolve_12 : decode prog_5_method_16_code 12 = .ok (.getfield 59, 3) := by decide +kernel
theorem d_M_resolve_15 : decode prog_5_method_16_code 15 = .ok (.iload_n 1, 1) := by decide +kernel
theorem d_M_resolve_16 : decode prog_5_method_16_code 16 = .ok (.iconst 0, 1) := by decide +kernel
theorem d_M_resolve_17 : decode prog_5_method_16_code 17 = .ok (.iastore, 1) := by decide +kernel
theorem d_M_resolve_18 : decode prog_5_method_16_code 18 = .ok (.iinc 1 1, 3) := by decide +kernel
theorem d_M_resolve_21 : decode prog_5_method_16_code 21 = .ok (.goto (-15), 3) := by decide +kernel
theorem d_M_resolve_24 : decode prog_5_method_16_code 24 = .ok (.iconst 0, 1) := by decide +kernel
theorem d_M_resolve_25 : decode prog_5_method_16_code 25 = .ok (.istore_n 1, 1) := by decide +kernel
theorem d_M_resolve_26 : decode prog_5_method_16_code 26 = .ok (.iload_n 1, 1) := by decide +kernel
theorem d_M_resolve_27 : decode prog_5_method_16_code 27 = .ok (.sipush 2401, 3) := by decide +kernel
theorem d_M_resolve_30 : decode prog_5_method_16_code 30 = .ok (.if_icmp .ge 62, 3) := by decide +kernel
theorem d_M_resolve_33 : decode prog_5_method_16_code 33 = .ok (.aload_n 0, 1) := by decide +kernel
theorem d_M_resolve_34 : decode prog_5_method_16_code 34 = .ok (.iload_n 1, 1) := by decide +kernel
theorem d_M_resolve_35 : decode prog_5_method_16_code 35 = .ok (.invokevirtual 110, 3) := by decide +kernel
theorem d_M_resolve_38 : decode prog_5_method_16_code 38 = .ok (.ifCond .eq 48, 3) := by decide +kernel
theorem d_M_resolve_41 : decode prog_5_method_16_code 41 = .ok (.iconst 0, 1) := by decide +kernel
theorem d_M_resolve_42 : decode prog_5_method_16_code 42 = .ok (.istore_n 2, 1) := by decide +kernel
theorem d_M_resolve_43 : decode prog_5_method_16_code 43 = .ok (.iload_n 2, 1) := by decide +kernel
theorem d_M_resolve_44 : decode prog_5_method_16_code 44 = .ok (.iconst 4, 1) := by decide +kernel
theorem d_M_resolve_45 : decode prog_5_method_16_code 45 = .ok (.if_icmp .ge 41, 3) := by decide +kernel
theorem d_M_resolve_48 : decode prog_5_method_16_code 48 = .ok (.iload_n 1, 1) := by decide +kernel
theorem d_M_resolve_49 : decode prog_5_method_16_code 49 = .ok (.iload_n 2, 1) := by decide +kernel
theorem d_M_resolve_50 : decode prog_5_method_16_code 50 = .ok (.invokestatic 106, 3) := by decide +kernel
theorem d_M_resolve_53 : decode prog_5_method_16_code 53 = .ok (.istore_n 3, 1) := by decide +kernel
theorem d_M_resolve_54 : decode prog_5_method_16_code 54 = .ok (.aload_n 0, 1) := by decide +kernel
theorem d_M_resolve_55 : decode prog_5_method_16_code 55 = .ok (.getfield 59, 3) := by decide +kernel
theorem d_M_resolve_58 : decode prog_5_method_16_code 58 = .ok (.iload_n 2, 1) := by decide +kernel
theorem d_M_resolve_59 : decode prog_5_method_16_code 59 = .ok (.iload_n 3, 1) := by decide +kernel
theorem d_M_resolve_60 : decode prog_5_method_16_code 60 = .ok (.aload_n 0, 1) := by decide +kernel
theorem d_M_resolve_61 : decode prog_5_method_16_code 61 = .ok (.getfield 59, 3) := by decide +kernel
theorem d_M_resolve_64 : decode prog_5_method_16_code 64 = .ok (.iload_n 2, 1) := by decide +kernel
theorem d_M_resolve_65 : decode prog_5_method_16_code 65 = .ok (.iaload, 1) := by decide +kernel
theorem d_M_resolve_66 : decode prog_5_method_16_code 66 = .ok (.if_icmp .le 7, 3) := by decide +kernel
theorem d_M_resolve_69 : decode prog_5_method_16_code 69 = .ok (.iload_n 3, 1) := by decide +kernel
theorem d_M_resolve_70 : decode prog_5_method_16_code 70 = .ok (.goto 9, 3) := by decide +kernel
theorem d_M_resolve_73 : decode prog_5_method_16_code 73 = .ok (.aload_n 0, 1) := by decide +kernel
theorem d_M_resolve_74 : decode prog_5_method_16_code 74 = .ok (.getfield 59, 3) := by decide +kernel
theorem d_M_resolve_77 : decode prog_5_method_16_code 77 = .ok (.iload_n 2, 1) := by decide +kernel
theorem d_M_resolve_78 : decode prog_5_method_16_code 78 = .ok (.iaload, 1) := by decide +kernel
theorem d_M_resolve_79 : decode prog_5_method_16_code 79 = .ok (.iastore, 1) := by decide +kernel
theorem d_M_resolve_80 : decode prog_5_method_16_code 80 = .ok (.iinc 2 1, 3) := by decide +kernel
theorem d_M_resolve_83 : decode prog_5_method_16_code 83 = .ok (.goto (-40), 3) := by decide +kernel
theorem d_M_resolve_86 : decode prog_5_method_16_code 86 = .ok (.iinc 1 1, 3) := by decide +kernel
theorem d_M_resolve_89 : decode prog_5_method_16_code 89 = .ok (.goto (-63), 3) := by decide +kernel
theorem d_M_resolve_92 : decode prog_5_method_16_code 92 = .ok (.iconst 0, 1) := by decide +kernel
theorem d_M_resolve_93 : decode prog_5_method_16_code 93 = .ok (.istore_n 1, 1) := by decide +kernel
theorem d_M_resolve_94 : decode prog_5_method_16_code 94 = .ok (.iconst 0, 1) := by decide +kernel
theorem d_M_resolve_95 : decode prog_5_method_16_code 95 = .ok (.istore_n 2, 1) := by decide +kernel
theorem d_M_resolve_96 : decode prog_5_method_16_code 96 = .ok (.iload_n 2, 1) := by decide +kernel
theorem d_M_resolve_97 : decode prog_5_method_16_code 97 = .ok (.iconst 4, 1) := by decide +kernel
theorem d_M_resolve_98 : decode prog_5_method_16_code 98 = .ok (.if_icmp .ge 46, 3) := by decide +kernel
theorem d_M_resolve_101 : decode prog_5_method_16_code 101 = .ok (.iconst 0, 1) := by decide +kernel
theorem d_M_resolve_102 : decode prog_5_method_16_code 102 = .ok (.istore_n 3, 1) := by decide +kernel
theorem d_M_resolve_103 : decode prog_5_method_16_code 103 = .ok (.iload_n 3, 1) := by decide +kernel
theorem d_M_resolve_104 : decode prog_5_method_16_code 104 = .ok (.aload_n 0, 1) := by decide +kernel
theorem d_M_resolve_105 : decode prog_5_method_16_code 105 = .ok (.getfield 59, 3) := by decide +kernel
theorem d_M_resolve_108 : decode prog_5_method_16_code 108 = .ok (.iload_n 2, 1) := by decide +kernel
theorem d_M_resolve_109 : decode prog_5_method_16_code 109 = .ok (.iaload, 1) := by decide +kernel
theorem d_M_resolve_110 : decode prog_5_method_16_code 110 = .ok (.if_icmp .ge 28, 3) := by decide +kernel
theorem d_M_resolve_113 : decode prog_5_method_16_code 113 = .ok (.aload_n 0, 1) := by decide +kernel
theorem d_M_resolve_114 : decode prog_5_method_16_code 114 = .ok (.aload_n 0, 1) := by decide +kernel
theorem d_M_resolve_115 : decode prog_5_method_16_code 115 = .ok (.getfield 47, 3) := by decide +kernel
theorem d_M_resolve_118 : decode prog_5_method_16_code 118 = .ok (.bipush 6, 2) := by decide +kernel
theorem d_M_resolve_120 : decode prog_5_method_16_code 120 = .ok (.iload_n 2, 1) := by decide +kernel
theorem d_M_resolve_121 : decode prog_5_method_16_code 121 = .ok (.imul, 1) := by decide +kernel
theorem d_M_resolve_122 : decode prog_5_method_16_code 122 = .ok (.iload_n 3, 1) := by decide +kernel
theorem d_M_resolve_123 : decode prog_5_method_16_code 123 = .ok (.iadd, 1) := by decide +kernel
theorem d_M_resolve_124 : decode prog_5_method_16_code 124 = .ok (.iaload, 1) := by decide +kernel
theorem d_M_resolve_125 : decode prog_5_method_16_code 125 = .ok (.iconst 3, 1) := by decide +kernel
theorem d_M_resolve_126 : decode prog_5_method_16_code 126 = .ok (.invokevirtual 93, 3) := by decide +kernel
theorem d_M_resolve_129 : decode prog_5_method_16_code 129 = .ok (.iinc 1 1, 3) := by decide +kernel
theorem d_M_resolve_132 : decode prog_5_method_16_code 132 = .ok (.iinc 3 1, 3) := by decide +kernel
theorem d_M_resolve_135 : decode prog_5_method_16_code 135 = .ok (.goto (-32), 3) := by decide +kernel
theorem d_M_resolve_138 : decode prog_5_method_16_code 138 = .ok (.iinc 2 1, 3) := by decide +kernel
theorem d_M_resolve_141 : decode prog_5_method_16_code 141 = .ok (.goto (-45), 3) := by decide +kernel
theorem d_M_resolve_144 : decode prog_5_method_16_code 144 = .ok (.aload_n 0, 1) := by decide +kernel
theorem d_M_resolve_145 : decode prog_5_method_16_code 145 = .ok (.invokevirtual 114, 3) := by decide +kernel
theorem d_M_resolve_148 : decode prog_5_method_16_code 148 = .ok (.iload_n 1, 1) := by decide +kernel
theorem d_M_resolve_149 : decode prog_5_method_16_code 149 = .ok (.ireturn, 1) := by decide +kernel
abbrev y_M_fund : MethodName := ⟨"GridlockDeskModel", "fund", "(IJ)Z"⟩
abbrev ws_M_fund : List Cond := .code y_M_fund prog_5_method_17_code 4 (some .boolean) :: TB
theorem d_M_fund_0 : decode prog_5_method_17_code 0 = .ok (.aload_n 0, 1) := by decide +kernel
theorem d_M_fund_1 : decode prog_5_method_17_code 1 = .ok (.iload_n 1, 1) := by decide +kernel
theorem d_M_fund_2 : decode prog_5_method_17_code 2 = .ok (.invokevirtual 117, 3) := by decide +kernel
theorem d_M_fund_5 : decode prog_5_method_17_code 5 = .ok (.ifCond .eq 38, 3) := by decide +kernel
theorem d_M_fund_8 : decode prog_5_method_17_code 8 = .ok (.lload_n 2, 1) := by decide +kernel
theorem d_M_fund_9 : decode prog_5_method_17_code 9 = .ok (.ldc2_w 120, 3) := by decide +kernel
theorem d_M_fund_12 : decode prog_5_method_17_code 12 = .ok (.lcmp, 1) := by decide +kernel
theorem d_M_fund_13 : decode prog_5_method_17_code 13 = .ok (.ifCond .lt 30, 3) := by decide +kernel
theorem d_M_fund_16 : decode prog_5_method_17_code 16 = .ok (.lload_n 2, 1) := by decide +kernel
theorem d_M_fund_17 : decode prog_5_method_17_code 17 = .ok (.ldc2_w 122, 3) := by decide +kernel
theorem d_M_fund_20 : decode prog_5_method_17_code 20 = .ok (.lcmp, 1) := by decide +kernel
theorem d_M_fund_21 : decode prog_5_method_17_code 21 = .ok (.ifCond .gt 22, 3) := by decide +kernel
theorem d_M_fund_24 : decode prog_5_method_17_code 24 = .ok (.aload_n 0, 1) := by decide +kernel
theorem d_M_fund_25 : decode prog_5_method_17_code 25 = .ok (.getfield 7, 3) := by decide +kernel
theorem d_M_fund_28 : decode prog_5_method_17_code 28 = .ok (.iload_n 1, 1) := by decide +kernel
theorem d_M_fund_29 : decode prog_5_method_17_code 29 = .ok (.laload, 1) := by decide +kernel
theorem d_M_fund_30 : decode prog_5_method_17_code 30 = .ok (.lload_n 2, 1) := by decide +kernel
theorem d_M_fund_31 : decode prog_5_method_17_code 31 = .ok (.ladd, 1) := by decide +kernel
theorem d_M_fund_32 : decode prog_5_method_17_code 32 = .ok (.aload_n 0, 1) := by decide +kernel
theorem d_M_fund_33 : decode prog_5_method_17_code 33 = .ok (.getfield 13, 3) := by decide +kernel
theorem d_M_fund_36 : decode prog_5_method_17_code 36 = .ok (.iload_n 1, 1) := by decide +kernel
theorem d_M_fund_37 : decode prog_5_method_17_code 37 = .ok (.laload, 1) := by decide +kernel
theorem d_M_fund_38 : decode prog_5_method_17_code 38 = .ok (.lneg, 1) := by decide +kernel
theorem d_M_fund_39 : decode prog_5_method_17_code 39 = .ok (.lcmp, 1) := by decide +kernel
theorem d_M_fund_40 : decode prog_5_method_17_code 40 = .ok (.ifCond .ge 5, 3) := by decide +kernel
theorem d_M_fund_43 : decode prog_5_method_17_code 43 = .ok (.iconst 0, 1) := by decide +kernel
theorem d_M_fund_44 : decode prog_5_method_17_code 44 = .ok (.ireturn, 1) := by decide +kernel
theorem d_M_fund_45 : decode prog_5_method_17_code 45 = .ok (.aload_n 0, 1) := by decide +kernel
theorem d_M_fund_46 : decode prog_5_method_17_code 46 = .ok (.getfield 7, 3) := by decide +kernel
theorem d_M_fund_49 : decode prog_5_method_17_code 49 = .ok (.iload_n 1, 1) := by decide +kernel
theorem d_M_fund_50 : decode prog_5_method_17_code 50 = .ok (.aload_n 0, 1) := by decide +kernel
theorem d_M_fund_51 : decode prog_5_method_17_code 51 = .ok (.getfield 7, 3) := by decide +kernel
theorem d_M_fund_54 : decode prog_5_method_17_code 54 = .ok (.iload_n 1, 1) := by decide +kernel
theorem d_M_fund_55 : decode prog_5_method_17_code 55 = .ok (.laload, 1) := by decide +kernel
theorem d_M_fund_56 : decode prog_5_method_17_code 56 = .ok (.lload_n 2, 1) := by decide +kernel
theorem d_M_fund_57 : decode prog_5_method_17_code 57 = .ok (.ladd, 1) := by decide +kernel
theorem d_M_fund_58 : decode prog_5_method_17_code 58 = .ok (.lastore, 1) := by decide +kernel
theorem d_M_fund_59 : decode prog_5_method_17_code 59 = .ok (.aload_n 0, 1) := by decide +kernel
theorem d_M_fund_60 : decode prog_5_method_17_code 60 = .ok (.invokevirtual 114, 3) := by decide +kernel
theorem d_M_fund_63 : decode prog_5_method_17_code 63 = .ok (.iconst 1, 1) := by decide +kernel
theorem d_M_fund_64 : decode prog_5_method_17_code 64 = .ok (.ireturn, 1) := by decide +kernel
abbrev y_M_credit : MethodName := ⟨"GridlockDeskModel", "credit", "(IJ)Z"⟩
abbrev ws_M_credit : List Cond := .code y_M_credit prog_5_method_18_code 4 (some .boolean) :: TB
theorem d_M_credit_0 : decode prog_5_method_18_code 0 = .ok (.aload_n 0, 1) := by decide +kernel
theorem d_M_credit_1 : decode prog_5_method_18_code 1 = .ok (.iload_n 1, 1) := by decide +kernel
theorem d_M_credit_2 : decode prog_5_method_18_code 2 = .ok (.invokevirtual 117, 3) := by decide +kernel
theorem d_M_credit_5 : decode prog_5_method_18_code 5 = .ok (.ifCond .eq 29, 3) := by decide +kernel
theorem d_M_credit_8 : decode prog_5_method_18_code 8 = .ok (.lload_n 2, 1) := by decide +kernel
theorem d_M_credit_9 : decode prog_5_method_18_code 9 = .ok (.lconst 0, 1) := by decide +kernel
theorem d_M_credit_10 : decode prog_5_method_18_code 10 = .ok (.lcmp, 1) := by decide +kernel
theorem d_M_credit_11 : decode prog_5_method_18_code 11 = .ok (.ifCond .lt 23, 3) := by decide +kernel
theorem d_M_credit_14 : decode prog_5_method_18_code 14 = .ok (.lload_n 2, 1) := by decide +kernel
theorem d_M_credit_15 : decode prog_5_method_18_code 15 = .ok (.ldc2_w 124, 3) := by decide +kernel
theorem d_M_credit_18 : decode prog_5_method_18_code 18 = .ok (.lcmp, 1) := by decide +kernel
theorem d_M_credit_19 : decode prog_5_method_18_code 19 = .ok (.ifCond .gt 15, 3) := by decide +kernel
theorem d_M_credit_22 : decode prog_5_method_18_code 22 = .ok (.aload_n 0, 1) := by decide +kernel
theorem d_M_credit_23 : decode prog_5_method_18_code 23 = .ok (.getfield 7, 3) := by decide +kernel
theorem d_M_credit_26 : decode prog_5_method_18_code 26 = .ok (.iload_n 1, 1) := by decide +kernel
theorem d_M_credit_27 : decode prog_5_method_18_code 27 = .ok (.laload, 1) := by decide +kernel
theorem d_M_credit_28 : decode prog_5_method_18_code 28 = .ok (.lload_n 2, 1) := by decide +kernel
theorem d_M_credit_29 : decode prog_5_method_18_code 29 = .ok (.lneg, 1) := by decide +kernel
theorem d_M_credit_30 : decode prog_5_method_18_code 30 = .ok (.lcmp, 1) := by decide +kernel
theorem d_M_credit_31 : decode prog_5_method_18_code 31 = .ok (.ifCond .ge 5, 3) := by decide +kernel
theorem d_M_credit_34 : decode prog_5_method_18_code 34 = .ok (.iconst 0, 1) := by decide +kernel
theorem d_M_credit_35 : decode prog_5_method_18_code 35 = .ok (.ireturn, 1) := by decide +kernel
theorem d_M_credit_36 : decode prog_5_method_18_code 36 = .ok (.aload_n 0, 1) := by decide +kernel
theorem d_M_credit_37 : decode prog_5_method_18_code 37 = .ok (.getfield 13, 3) := by decide +kernel
theorem d_M_credit_40 : decode prog_5_method_18_code 40 = .ok (.iload_n 1, 1) := by decide +kernel
theorem d_M_credit_41 : decode prog_5_method_18_code 41 = .ok (.lload_n 2, 1) := by decide +kernel
theorem d_M_credit_42 : decode prog_5_method_18_code 42 = .ok (.lastore, 1) := by decide +kernel
theorem d_M_credit_43 : decode prog_5_method_18_code 43 = .ok (.aload_n 0, 1) := by decide +kernel
theorem d_M_credit_44 : decode prog_5_method_18_code 44 = .ok (.invokevirtual 114, 3) := by decide +kernel
theorem d_M_credit_47 : decode prog_5_method_18_code 47 = .ok (.iconst 1, 1) := by decide +kernel
theorem d_M_credit_48 : decode prog_5_method_18_code 48 = .ok (.ireturn, 1) := by decide +kernel
abbrev y_M_limit : MethodName := ⟨"GridlockDeskModel", "limit", "(IIJ)Z"⟩
abbrev ws_M_limit : List Cond := .code y_M_limit prog_5_method_19_code 5 (some .boolean) :: TB
theorem d_M_limit_0 : decode prog_5_method_19_code 0 = .ok (.aload_n 0, 1) := by decide +kernel
theorem d_M_limit_1 : decode prog_5_method_19_code 1 = .ok (.iload_n 1, 1) := by decide +kernel
theorem d_M_limit_2 : decode prog_5_method_19_code 2 = .ok (.invokevirtual 117, 3) := by decide +kernel
theorem d_M_limit_5 : decode prog_5_method_19_code 5 = .ok (.ifCond .eq 32, 3) := by decide +kernel
theorem d_M_limit_8 : decode prog_5_method_19_code 8 = .ok (.aload_n 0, 1) := by decide +kernel
theorem d_M_limit_9 : decode prog_5_method_19_code 9 = .ok (.iload_n 2, 1) := by decide +kernel
theorem d_M_limit_10 : decode prog_5_method_19_code 10 = .ok (.invokevirtual 117, 3) := by decide +kernel
theorem d_M_limit_13 : decode prog_5_method_19_code 13 = .ok (.ifCond .eq 24, 3) := by decide +kernel
theorem d_M_limit_16 : decode prog_5_method_19_code 16 = .ok (.iload_n 1, 1) := by decide +kernel
theorem d_M_limit_17 : decode prog_5_method_19_code 17 = .ok (.iload_n 2, 1) := by decide +kernel
theorem d_M_limit_18 : decode prog_5_method_19_code 18 = .ok (.if_icmp .eq 19, 3) := by decide +kernel
theorem d_M_limit_21 : decode prog_5_method_19_code 21 = .ok (.lload_n 3, 1) := by decide +kernel
theorem d_M_limit_22 : decode prog_5_method_19_code 22 = .ok (.ldc2_w 66, 3) := by decide +kernel
theorem d_M_limit_25 : decode prog_5_method_19_code 25 = .ok (.lcmp, 1) := by decide +kernel
theorem d_M_limit_26 : decode prog_5_method_19_code 26 = .ok (.ifCond .lt 11, 3) := by decide +kernel
theorem d_M_limit_29 : decode prog_5_method_19_code 29 = .ok (.lload_n 3, 1) := by decide +kernel
theorem d_M_limit_30 : decode prog_5_method_19_code 30 = .ok (.ldc2_w 124, 3) := by decide +kernel
theorem d_M_limit_33 : decode prog_5_method_19_code 33 = .ok (.lcmp, 1) := by decide +kernel
theorem d_M_limit_34 : decode prog_5_method_19_code 34 = .ok (.ifCond .le 5, 3) := by decide +kernel
theorem d_M_limit_37 : decode prog_5_method_19_code 37 = .ok (.iconst 0, 1) := by decide +kernel
theorem d_M_limit_38 : decode prog_5_method_19_code 38 = .ok (.ireturn, 1) := by decide +kernel
theorem d_M_limit_39 : decode prog_5_method_19_code 39 = .ok (.lload_n 3, 1) := by decide +kernel
theorem d_M_limit_40 : decode prog_5_method_19_code 40 = .ok (.lconst 0, 1) := by decide +kernel
theorem d_M_limit_41 : decode prog_5_method_19_code 41 = .ok (.lcmp, 1) := by decide +kernel
theorem d_M_limit_42 : decode prog_5_method_19_code 42 = .ok (.ifCond .lt 31, 3) := by decide +kernel
theorem d_M_limit_45 : decode prog_5_method_19_code 45 = .ok (.aload_n 0, 1) := by decide +kernel
theorem d_M_limit_46 : decode prog_5_method_19_code 46 = .ok (.getfield 22, 3) := by decide +kernel
theorem d_M_limit_49 : decode prog_5_method_19_code 49 = .ok (.iconst 4, 1) := by decide +kernel
theorem d_M_limit_50 : decode prog_5_method_19_code 50 = .ok (.iload_n 1, 1) := by decide +kernel
theorem d_M_limit_51 : decode prog_5_method_19_code 51 = .ok (.imul, 1) := by decide +kernel
theorem d_M_limit_52 : decode prog_5_method_19_code 52 = .ok (.iload_n 2, 1) := by decide +kernel
theorem d_M_limit_53 : decode prog_5_method_19_code 53 = .ok (.iadd, 1) := by decide +kernel
theorem d_M_limit_54 : decode prog_5_method_19_code 54 = .ok (.laload, 1) := by decide +kernel
theorem d_M_limit_55 : decode prog_5_method_19_code 55 = .ok (.aload_n 0, 1) := by decide +kernel
theorem d_M_limit_56 : decode prog_5_method_19_code 56 = .ok (.getfield 22, 3) := by decide +kernel
theorem d_M_limit_59 : decode prog_5_method_19_code 59 = .ok (.iconst 4, 1) := by decide +kernel
theorem d_M_limit_60 : decode prog_5_method_19_code 60 = .ok (.iload_n 2, 1) := by decide +kernel
theorem d_M_limit_61 : decode prog_5_method_19_code 61 = .ok (.imul, 1) := by decide +kernel
theorem d_M_limit_62 : decode prog_5_method_19_code 62 = .ok (.iload_n 1, 1) := by decide +kernel
theorem d_M_limit_63 : decode prog_5_method_19_code 63 = .ok (.iadd, 1) := by decide +kernel
theorem d_M_limit_64 : decode prog_5_method_19_code 64 = .ok (.laload, 1) := by decide +kernel
theorem d_M_limit_65 : decode prog_5_method_19_code 65 = .ok (.lsub, 1) := by decide +kernel
theorem d_M_limit_66 : decode prog_5_method_19_code 66 = .ok (.lload_n 3, 1) := by decide +kernel
theorem d_M_limit_67 : decode prog_5_method_19_code 67 = .ok (.lcmp, 1) := by decide +kernel
theorem d_M_limit_68 : decode prog_5_method_19_code 68 = .ok (.ifCond .le 5, 3) := by decide +kernel
theorem d_M_limit_71 : decode prog_5_method_19_code 71 = .ok (.iconst 0, 1) := by decide +kernel
theorem d_M_limit_72 : decode prog_5_method_19_code 72 = .ok (.ireturn, 1) := by decide +kernel
theorem d_M_limit_73 : decode prog_5_method_19_code 73 = .ok (.aload_n 0, 1) := by decide +kernel
theorem d_M_limit_74 : decode prog_5_method_19_code 74 = .ok (.getfield 19, 3) := by decide +kernel
theorem d_M_limit_77 : decode prog_5_method_19_code 77 = .ok (.iconst 4, 1) := by decide +kernel
theorem d_M_limit_78 : decode prog_5_method_19_code 78 = .ok (.iload_n 1, 1) := by decide +kernel
theorem d_M_limit_79 : decode prog_5_method_19_code 79 = .ok (.imul, 1) := by decide +kernel
theorem d_M_limit_80 : decode prog_5_method_19_code 80 = .ok (.iload_n 2, 1) := by decide +kernel
theorem d_M_limit_81 : decode prog_5_method_19_code 81 = .ok (.iadd, 1) := by decide +kernel
theorem d_M_limit_82 : decode prog_5_method_19_code 82 = .ok (.lload_n 3, 1) := by decide +kernel
theorem d_M_limit_83 : decode prog_5_method_19_code 83 = .ok (.lastore, 1) := by decide +kernel
theorem d_M_limit_84 : decode prog_5_method_19_code 84 = .ok (.aload_n 0, 1) := by decide +kernel
theorem d_M_limit_85 : decode prog_5_method_19_code 85 = .ok (.invokevirtual 114, 3) := by decide +kernel
theorem d_M_limit_88 : decode prog_5_method_19_code 88 = .ok (.iconst 1, 1) := by decide +kernel
theorem d_M_limit_89 : decode prog_5_method_19_code 89 = .ok (.ireturn, 1) := by decide +kernel
abbrev y_M_totalLimit : MethodName := ⟨"GridlockDeskModel", "totalLimit", "(IJ)Z"⟩
abbrev ws_M_totalLimit : List Cond := .code y_M_totalLimit prog_5_method_20_code 7 (some .boolean) :: TB
theorem d_M_totalLimit_0 : decode prog_5_method_20_code 0 = .ok (.aload_n 0, 1) := by decide +kernel
theorem d_M_totalLimit_1 : decode prog_5_method_20_code 1 = .ok (.iload_n 1, 1) := by decide +kernel
theorem d_M_totalLimit_2 : decode prog_5_method_20_code 2 = .ok (.invokevirtual 117, 3) := by decide +kernel
theorem d_M_totalLimit_5 : decode prog_5_method_20_code 5 = .ok (.ifCond .eq 19, 3) := by decide +kernel
theorem d_M_totalLimit_8 : decode prog_5_method_20_code 8 = .ok (.lload_n 2, 1) := by decide +kernel
theorem d_M_totalLimit_9 : decode prog_5_method_20_code 9 = .ok (.ldc2_w 66, 3) := by decide +kernel
theorem d_M_totalLimit_12 : decode prog_5_method_20_code 12 = .ok (.lcmp, 1) := by decide +kernel
theorem d_M_totalLimit_13 : decode prog_5_method_20_code 13 = .ok (.ifCond .lt 11, 3) := by decide +kernel
theorem d_M_totalLimit_16 : decode prog_5_method_20_code 16 = .ok (.lload_n 2, 1) := by decide +kernel
theorem d_M_totalLimit_17 : decode prog_5_method_20_code 17 = .ok (.ldc2_w 124, 3) := by decide +kernel
theorem d_M_totalLimit_20 : decode prog_5_method_20_code 20 = .ok (.lcmp, 1) := by decide +kernel
theorem d_M_totalLimit_21 : decode prog_5_method_20_code 21 = .ok (.ifCond .le 5, 3) := by decide +kernel
theorem d_M_totalLimit_24 : decode prog_5_method_20_code 24 = .ok (.iconst 0, 1) := by decide +kernel
theorem d_M_totalLimit_25 : decode prog_5_method_20_code 25 = .ok (.ireturn, 1) := by decide +kernel
theorem d_M_totalLimit_26 : decode prog_5_method_20_code 26 = .ok (.lconst 0, 1) := by decide +kernel
theorem d_M_totalLimit_27 : decode prog_5_method_20_code 27 = .ok (.lstore 4, 2) := by decide +kernel
theorem d_M_totalLimit_29 : decode prog_5_method_20_code 29 = .ok (.iconst 0, 1) := by decide +kernel
theorem d_M_totalLimit_30 : decode prog_5_method_20_code 30 = .ok (.istore 6, 2) := by decide +kernel
theorem d_M_totalLimit_32 : decode prog_5_method_20_code 32 = .ok (.iload 6, 2) := by decide +kernel
theorem d_M_totalLimit_34 : decode prog_5_method_20_code 34 = .ok (.aload_n 0, 1) := by decide +kernel
theorem d_M_totalLimit_35 : decode prog_5_method_20_code 35 = .ok (.getfield 62, 3) := by decide +kernel
theorem d_M_totalLimit_38 : decode prog_5_method_20_code 38 = .ok (.if_icmp .ge 37, 3) := by decide +kernel
theorem d_M_totalLimit_41 : decode prog_5_method_20_code 41 = .ok (.lload 4, 2) := by decide +kernel
theorem d_M_totalLimit_43 : decode prog_5_method_20_code 43 = .ok (.aload_n 0, 1) := by decide +kernel
theorem d_M_totalLimit_44 : decode prog_5_method_20_code 44 = .ok (.getfield 22, 3) := by decide +kernel
theorem d_M_totalLimit_47 : decode prog_5_method_20_code 47 = .ok (.iconst 4, 1) := by decide +kernel
theorem d_M_totalLimit_48 : decode prog_5_method_20_code 48 = .ok (.iload_n 1, 1) := by decide +kernel
theorem d_M_totalLimit_49 : decode prog_5_method_20_code 49 = .ok (.imul, 1) := by decide +kernel
theorem d_M_totalLimit_50 : decode prog_5_method_20_code 50 = .ok (.iload 6, 2) := by decide +kernel
theorem d_M_totalLimit_52 : decode prog_5_method_20_code 52 = .ok (.iadd, 1) := by decide +kernel
theorem d_M_totalLimit_53 : decode prog_5_method_20_code 53 = .ok (.laload, 1) := by decide +kernel
theorem d_M_totalLimit_54 : decode prog_5_method_20_code 54 = .ok (.ladd, 1) := by decide +kernel
theorem d_M_totalLimit_55 : decode prog_5_method_20_code 55 = .ok (.aload_n 0, 1) := by decide +kernel
theorem d_M_totalLimit_56 : decode prog_5_method_20_code 56 = .ok (.getfield 22, 3) := by decide +kernel
theorem d_M_totalLimit_59 : decode prog_5_method_20_code 59 = .ok (.iconst 4, 1) := by decide +kernel
theorem d_M_totalLimit_60 : decode prog_5_method_20_code 60 = .ok (.iload 6, 2) := by decide +kernel
theorem d_M_totalLimit_62 : decode prog_5_method_20_code 62 = .ok (.imul, 1) := by decide +kernel
theorem d_M_totalLimit_63 : decode prog_5_method_20_code 63 = .ok (.iload_n 1, 1) := by decide +kernel
theorem d_M_totalLimit_64 : decode prog_5_method_20_code 64 = .ok (.iadd, 1) := by decide +kernel
theorem d_M_totalLimit_65 : decode prog_5_method_20_code 65 = .ok (.laload, 1) := by decide +kernel
theorem d_M_totalLimit_66 : decode prog_5_method_20_code 66 = .ok (.lsub, 1) := by decide +kernel
theorem d_M_totalLimit_67 : decode prog_5_method_20_code 67 = .ok (.lstore 4, 2) := by decide +kernel
theorem d_M_totalLimit_69 : decode prog_5_method_20_code 69 = .ok (.iinc 6 1, 3) := by decide +kernel
theorem d_M_totalLimit_72 : decode prog_5_method_20_code 72 = .ok (.goto (-40), 3) := by decide +kernel
theorem d_M_totalLimit_75 : decode prog_5_method_20_code 75 = .ok (.lload_n 2, 1) := by decide +kernel
theorem d_M_totalLimit_76 : decode prog_5_method_20_code 76 = .ok (.lconst 0, 1) := by decide +kernel
theorem d_M_totalLimit_77 : decode prog_5_method_20_code 77 = .ok (.lcmp, 1) := by decide +kernel
theorem d_M_totalLimit_78 : decode prog_5_method_20_code 78 = .ok (.ifCond .lt 12, 3) := by decide +kernel
theorem d_M_totalLimit_81 : decode prog_5_method_20_code 81 = .ok (.lload 4, 2) := by decide +kernel
theorem d_M_totalLimit_83 : decode prog_5_method_20_code 83 = .ok (.lload_n 2, 1) := by decide +kernel
theorem d_M_totalLimit_84 : decode prog_5_method_20_code 84 = .ok (.lcmp, 1) := by decide +kernel
theorem d_M_totalLimit_85 : decode prog_5_method_20_code 85 = .ok (.ifCond .le 5, 3) := by decide +kernel
theorem d_M_totalLimit_88 : decode prog_5_method_20_code 88 = .ok (.iconst 0, 1) := by decide +kernel
theorem d_M_totalLimit_89 : decode prog_5_method_20_code 89 = .ok (.ireturn, 1) := by decide +kernel
theorem d_M_totalLimit_90 : decode prog_5_method_20_code 90 = .ok (.aload_n 0, 1) := by decide +kernel
theorem d_M_totalLimit_91 : decode prog_5_method_20_code 91 = .ok (.getfield 16, 3) := by decide +kernel
theorem d_M_totalLimit_94 : decode prog_5_method_20_code 94 = .ok (.iload_n 1, 1) := by decide +kernel
theorem d_M_totalLimit_95 : decode prog_5_method_20_code 95 = .ok (.lload_n 2, 1) := by decide +kernel
theorem d_M_totalLimit_96 : decode prog_5_method_20_code 96 = .ok (.lastore, 1) := by decide +kernel
theorem d_M_totalLimit_97 : decode prog_5_method_20_code 97 = .ok (.aload_n 0, 1) := by decide +kernel
theorem d_M_totalLimit_98 : decode prog_5_method_20_code 98 = .ok (.invokevirtual 114, 3) := by decide +kernel
theorem d_M_totalLimit_101 : decode prog_5_method_20_code 101 = .ok (.iconst 1, 1) := by decide +kernel
theorem d_M_totalLimit_102 : decode prog_5_method_20_code 102 = .ok (.ireturn, 1) := by decide +kernel
abbrev y_M_queuedAt : MethodName := ⟨"GridlockDeskModel", "queuedAt", "(I)I"⟩
abbrev ws_M_queuedAt : List Cond := .code y_M_queuedAt prog_5_method_21_code 4 (some .int) :: TB
theorem d_M_queuedAt_0 : decode prog_5_method_21_code 0 = .ok (.iconst 0, 1) := by decide +kernel
theorem d_M_queuedAt_1 : decode prog_5_method_21_code 1 = .ok (.istore_n 2, 1) := by decide +kernel
theorem d_M_queuedAt_2 : decode prog_5_method_21_code 2 = .ok (.iconst 0, 1) := by decide +kernel
theorem d_M_queuedAt_3 : decode prog_5_method_21_code 3 = .ok (.istore_n 3, 1) := by decide +kernel
theorem d_M_queuedAt_4 : decode prog_5_method_21_code 4 = .ok (.iload_n 3, 1) := by decide +kernel
theorem d_M_queuedAt_5 : decode prog_5_method_21_code 5 = .ok (.aload_n 0, 1) := by decide +kernel
theorem d_M_queuedAt_6 : decode prog_5_method_21_code 6 = .ok (.getfield 68, 3) := by decide +kernel
theorem d_M_queuedAt_9 : decode prog_5_method_21_code 9 = .ok (.if_icmp .ge 36, 3) := by decide +kernel
theorem d_M_queuedAt_12 : decode prog_5_method_21_code 12 = .ok (.aload_n 0, 1) := by decide +kernel
theorem d_M_queuedAt_13 : decode prog_5_method_21_code 13 = .ok (.getfield 44, 3) := by decide +kernel
theorem d_M_queuedAt_16 : decode prog_5_method_21_code 16 = .ok (.iload_n 3, 1) := by decide +kernel
theorem d_M_queuedAt_17 : decode prog_5_method_21_code 17 = .ok (.iaload, 1) := by decide +kernel
theorem d_M_queuedAt_18 : decode prog_5_method_21_code 18 = .ok (.ifCond .ne 19, 3) := by decide +kernel
theorem d_M_queuedAt_21 : decode prog_5_method_21_code 21 = .ok (.aload_n 0, 1) := by decide +kernel
theorem d_M_queuedAt_22 : decode prog_5_method_21_code 22 = .ok (.getfield 25, 3) := by decide +kernel
theorem d_M_queuedAt_25 : decode prog_5_method_21_code 25 = .ok (.iload_n 3, 1) := by decide +kernel
theorem d_M_queuedAt_26 : decode prog_5_method_21_code 26 = .ok (.iaload, 1) := by decide +kernel
theorem d_M_queuedAt_27 : decode prog_5_method_21_code 27 = .ok (.iload_n 1, 1) := by decide +kernel
theorem d_M_queuedAt_28 : decode prog_5_method_21_code 28 = .ok (.if_icmp .ne 9, 3) := by decide +kernel
theorem d_M_queuedAt_31 : decode prog_5_method_21_code 31 = .ok (.iload_n 2, 1) := by decide +kernel
theorem d_M_queuedAt_32 : decode prog_5_method_21_code 32 = .ok (.iconst 1, 1) := by decide +kernel
theorem d_M_queuedAt_33 : decode prog_5_method_21_code 33 = .ok (.iadd, 1) := by decide +kernel
theorem d_M_queuedAt_34 : decode prog_5_method_21_code 34 = .ok (.goto 4, 3) := by decide +kernel
theorem d_M_queuedAt_37 : decode prog_5_method_21_code 37 = .ok (.iload_n 2, 1) := by decide +kernel
theorem d_M_queuedAt_38 : decode prog_5_method_21_code 38 = .ok (.istore_n 2, 1) := by decide +kernel
theorem d_M_queuedAt_39 : decode prog_5_method_21_code 39 = .ok (.iinc 3 1, 3) := by decide +kernel
theorem d_M_queuedAt_42 : decode prog_5_method_21_code 42 = .ok (.goto (-38), 3) := by decide +kernel
theorem d_M_queuedAt_45 : decode prog_5_method_21_code 45 = .ok (.iload_n 2, 1) := by decide +kernel
theorem d_M_queuedAt_46 : decode prog_5_method_21_code 46 = .ok (.ireturn, 1) := by decide +kernel
abbrev y_M_pay : MethodName := ⟨"GridlockDeskModel", "pay", "(IIJII)I"⟩
abbrev ws_M_pay : List Cond := .code y_M_pay prog_5_method_22_code 9 (some .int) :: TB
theorem d_M_pay_0 : decode prog_5_method_22_code 0 = .ok (.aload_n 0, 1) := by decide +kernel
theorem d_M_pay_1 : decode prog_5_method_22_code 1 = .ok (.iload_n 1, 1) := by decide +kernel
theorem d_M_pay_2 : decode prog_5_method_22_code 2 = .ok (.invokevirtual 117, 3) := by decide +kernel
theorem d_M_pay_5 : decode prog_5_method_22_code 5 = .ok (.ifCond .eq 54, 3) := by decide +kernel
theorem d_M_pay_8 : decode prog_5_method_22_code 8 = .ok (.aload_n 0, 1) := by decide +kernel
theorem d_M_pay_9 : decode prog_5_method_22_code 9 = .ok (.iload_n 2, 1) := by decide +kernel
theorem d_M_pay_10 : decode prog_5_method_22_code 10 = .ok (.invokevirtual 117, 3) := by decide +kernel
theorem d_M_pay_13 : decode prog_5_method_22_code 13 = .ok (.ifCond .eq 46, 3) := by decide +kernel
theorem d_M_pay_16 : decode prog_5_method_22_code 16 = .ok (.iload_n 1, 1) := by decide +kernel
theorem d_M_pay_17 : decode prog_5_method_22_code 17 = .ok (.iload_n 2, 1) := by decide +kernel
theorem d_M_pay_18 : decode prog_5_method_22_code 18 = .ok (.if_icmp .eq 41, 3) := by decide +kernel
theorem d_M_pay_21 : decode prog_5_method_22_code 21 = .ok (.lload_n 3, 1) := by decide +kernel
theorem d_M_pay_22 : decode prog_5_method_22_code 22 = .ok (.lconst 1, 1) := by decide +kernel
theorem d_M_pay_23 : decode prog_5_method_22_code 23 = .ok (.lcmp, 1) := by decide +kernel
theorem d_M_pay_24 : decode prog_5_method_22_code 24 = .ok (.ifCond .lt 35, 3) := by decide +kernel
theorem d_M_pay_27 : decode prog_5_method_22_code 27 = .ok (.lload_n 3, 1) := by decide +kernel
theorem d_M_pay_28 : decode prog_5_method_22_code 28 = .ok (.ldc2_w 122, 3) := by decide +kernel
theorem d_M_pay_31 : decode prog_5_method_22_code 31 = .ok (.lcmp, 1) := by decide +kernel
theorem d_M_pay_32 : decode prog_5_method_22_code 32 = .ok (.ifCond .gt 27, 3) := by decide +kernel
theorem d_M_pay_35 : decode prog_5_method_22_code 35 = .ok (.iload 5, 2) := by decide +kernel
theorem d_M_pay_37 : decode prog_5_method_22_code 37 = .ok (.ifCond .lt 22, 3) := by decide +kernel
theorem d_M_pay_40 : decode prog_5_method_22_code 40 = .ok (.iload 5, 2) := by decide +kernel
theorem d_M_pay_42 : decode prog_5_method_22_code 42 = .ok (.iconst 3, 1) := by decide +kernel
theorem d_M_pay_43 : decode prog_5_method_22_code 43 = .ok (.if_icmp .gt 16, 3) := by decide +kernel
theorem d_M_pay_46 : decode prog_5_method_22_code 46 = .ok (.iload 6, 2) := by decide +kernel
theorem d_M_pay_48 : decode prog_5_method_22_code 48 = .ok (.aload_n 0, 1) := by decide +kernel
theorem d_M_pay_49 : decode prog_5_method_22_code 49 = .ok (.getfield 126, 3) := by decide +kernel
theorem d_M_pay_52 : decode prog_5_method_22_code 52 = .ok (.if_icmp .lt 7, 3) := by decide +kernel
theorem d_M_pay_55 : decode prog_5_method_22_code 55 = .ok (.iconst 1, 1) := by decide +kernel
theorem d_M_pay_56 : decode prog_5_method_22_code 56 = .ok (.goto 4, 3) := by decide +kernel
theorem d_M_pay_59 : decode prog_5_method_22_code 59 = .ok (.iconst 0, 1) := by decide +kernel
theorem d_M_pay_60 : decode prog_5_method_22_code 60 = .ok (.istore 7, 2) := by decide +kernel
theorem d_M_pay_62 : decode prog_5_method_22_code 62 = .ok (.iload 7, 2) := by decide +kernel
theorem d_M_pay_64 : decode prog_5_method_22_code 64 = .ok (.ifCond .ne 5, 3) := by decide +kernel
theorem d_M_pay_67 : decode prog_5_method_22_code 67 = .ok (.iconst (-1), 1) := by decide +kernel
theorem d_M_pay_68 : decode prog_5_method_22_code 68 = .ok (.ireturn, 1) := by decide +kernel
theorem d_M_pay_69 : decode prog_5_method_22_code 69 = .ok (.aload_n 0, 1) := by decide +kernel
theorem d_M_pay_70 : decode prog_5_method_22_code 70 = .ok (.getfield 68, 3) := by decide +kernel
theorem d_M_pay_73 : decode prog_5_method_22_code 73 = .ok (.bipush 100, 2) := by decide +kernel
theorem d_M_pay_75 : decode prog_5_method_22_code 75 = .ok (.if_icmp .lt 6, 3) := by decide +kernel
theorem d_M_pay_78 : decode prog_5_method_22_code 78 = .ok (.bipush (-3), 2) := by decide +kernel
theorem d_M_pay_80 : decode prog_5_method_22_code 80 = .ok (.ireturn, 1) := by decide +kernel
theorem d_M_pay_81 : decode prog_5_method_22_code 81 = .ok (.aload_n 0, 1) := by decide +kernel
theorem d_M_pay_82 : decode prog_5_method_22_code 82 = .ok (.iload_n 1, 1) := by decide +kernel
theorem d_M_pay_83 : decode prog_5_method_22_code 83 = .ok (.invokevirtual 129, 3) := by decide +kernel
theorem d_M_pay_86 : decode prog_5_method_22_code 86 = .ok (.bipush 6, 2) := by decide +kernel
theorem d_M_pay_88 : decode prog_5_method_22_code 88 = .ok (.if_icmp .lt 6, 3) := by decide +kernel
theorem d_M_pay_91 : decode prog_5_method_22_code 91 = .ok (.bipush (-2), 2) := by decide +kernel
theorem d_M_pay_93 : decode prog_5_method_22_code 93 = .ok (.ireturn, 1) := by decide +kernel
theorem d_M_pay_94 : decode prog_5_method_22_code 94 = .ok (.aload_n 0, 1) := by decide +kernel
theorem d_M_pay_95 : decode prog_5_method_22_code 95 = .ok (.getfield 68, 3) := by decide +kernel
theorem d_M_pay_98 : decode prog_5_method_22_code 98 = .ok (.istore 8, 2) := by decide +kernel
theorem d_M_pay_100 : decode prog_5_method_22_code 100 = .ok (.aload_n 0, 1) := by decide +kernel
theorem d_M_pay_101 : decode prog_5_method_22_code 101 = .ok (.getfield 25, 3) := by decide +kernel
theorem d_M_pay_104 : decode prog_5_method_22_code 104 = .ok (.iload 8, 2) := by decide +kernel
theorem d_M_pay_106 : decode prog_5_method_22_code 106 = .ok (.iload_n 1, 1) := by decide +kernel
theorem d_M_pay_107 : decode prog_5_method_22_code 107 = .ok (.iastore, 1) := by decide +kernel
theorem d_M_pay_108 : decode prog_5_method_22_code 108 = .ok (.aload_n 0, 1) := by decide +kernel
theorem d_M_pay_109 : decode prog_5_method_22_code 109 = .ok (.getfield 29, 3) := by decide +kernel
theorem d_M_pay_112 : decode prog_5_method_22_code 112 = .ok (.iload 8, 2) := by decide +kernel
theorem d_M_pay_114 : decode prog_5_method_22_code 114 = .ok (.iload_n 2, 1) := by decide +kernel
theorem d_M_pay_115 : decode prog_5_method_22_code 115 = .ok (.iastore, 1) := by decide +kernel
theorem d_M_pay_116 : decode prog_5_method_22_code 116 = .ok (.aload_n 0, 1) := by decide +kernel
theorem d_M_pay_117 : decode prog_5_method_22_code 117 = .ok (.getfield 32, 3) := by decide +kernel
theorem d_M_pay_120 : decode prog_5_method_22_code 120 = .ok (.iload 8, 2) := by decide +kernel
theorem d_M_pay_122 : decode prog_5_method_22_code 122 = .ok (.lload_n 3, 1) := by decide +kernel
theorem d_M_pay_123 : decode prog_5_method_22_code 123 = .ok (.lastore, 1) := by decide +kernel
theorem d_M_pay_124 : decode prog_5_method_22_code 124 = .ok (.aload_n 0, 1) := by decide +kernel
theorem d_M_pay_125 : decode prog_5_method_22_code 125 = .ok (.getfield 35, 3) := by decide +kernel
theorem d_M_pay_128 : decode prog_5_method_22_code 128 = .ok (.iload 8, 2) := by decide +kernel
theorem d_M_pay_130 : decode prog_5_method_22_code 130 = .ok (.iload 5, 2) := by decide +kernel
theorem d_M_pay_132 : decode prog_5_method_22_code 132 = .ok (.iastore, 1) := by decide +kernel
theorem d_M_pay_133 : decode prog_5_method_22_code 133 = .ok (.aload_n 0, 1) := by decide +kernel
theorem d_M_pay_134 : decode prog_5_method_22_code 134 = .ok (.getfield 38, 3) := by decide +kernel
theorem d_M_pay_137 : decode prog_5_method_22_code 137 = .ok (.iload 8, 2) := by decide +kernel
theorem d_M_pay_139 : decode prog_5_method_22_code 139 = .ok (.iload 6, 2) := by decide +kernel
theorem d_M_pay_141 : decode prog_5_method_22_code 141 = .ok (.iastore, 1) := by decide +kernel
theorem d_M_pay_142 : decode prog_5_method_22_code 142 = .ok (.aload_n 0, 1) := by decide +kernel
theorem d_M_pay_143 : decode prog_5_method_22_code 143 = .ok (.dup, 1) := by decide +kernel
theorem d_M_pay_144 : decode prog_5_method_22_code 144 = .ok (.getfield 133, 3) := by decide +kernel
theorem d_M_pay_147 : decode prog_5_method_22_code 147 = .ok (.iconst 1, 1) := by decide +kernel
theorem d_M_pay_148 : decode prog_5_method_22_code 148 = .ok (.iadd, 1) := by decide +kernel
theorem d_M_pay_149 : decode prog_5_method_22_code 149 = .ok (.putfield 133, 3) := by decide +kernel
theorem d_M_pay_152 : decode prog_5_method_22_code 152 = .ok (.aload_n 0, 1) := by decide +kernel
theorem d_M_pay_153 : decode prog_5_method_22_code 153 = .ok (.getfield 41, 3) := by decide +kernel
theorem d_M_pay_156 : decode prog_5_method_22_code 156 = .ok (.iload 8, 2) := by decide +kernel
theorem d_M_pay_158 : decode prog_5_method_22_code 158 = .ok (.aload_n 0, 1) := by decide +kernel
theorem d_M_pay_159 : decode prog_5_method_22_code 159 = .ok (.getfield 133, 3) := by decide +kernel
theorem d_M_pay_162 : decode prog_5_method_22_code 162 = .ok (.iastore, 1) := by decide +kernel
theorem d_M_pay_163 : decode prog_5_method_22_code 163 = .ok (.aload_n 0, 1) := by decide +kernel
theorem d_M_pay_164 : decode prog_5_method_22_code 164 = .ok (.getfield 44, 3) := by decide +kernel
theorem d_M_pay_167 : decode prog_5_method_22_code 167 = .ok (.iload 8, 2) := by decide +kernel
theorem d_M_pay_169 : decode prog_5_method_22_code 169 = .ok (.iconst 0, 1) := by decide +kernel
theorem d_M_pay_170 : decode prog_5_method_22_code 170 = .ok (.iastore, 1) := by decide +kernel
theorem d_M_pay_171 : decode prog_5_method_22_code 171 = .ok (.aload_n 0, 1) := by decide +kernel
theorem d_M_pay_172 : decode prog_5_method_22_code 172 = .ok (.dup, 1) := by decide +kernel
theorem d_M_pay_173 : decode prog_5_method_22_code 173 = .ok (.getfield 68, 3) := by decide +kernel
theorem d_M_pay_176 : decode prog_5_method_22_code 176 = .ok (.iconst 1, 1) := by decide +kernel
theorem d_M_pay_177 : decode prog_5_method_22_code 177 = .ok (.iadd, 1) := by decide +kernel
theorem d_M_pay_178 : decode prog_5_method_22_code 178 = .ok (.putfield 68, 3) := by decide +kernel
theorem d_M_pay_181 : decode prog_5_method_22_code 181 = .ok (.aload_n 0, 1) := by decide +kernel
theorem d_M_pay_182 : decode prog_5_method_22_code 182 = .ok (.invokevirtual 114, 3) := by decide +kernel
theorem d_M_pay_185 : decode prog_5_method_22_code 185 = .ok (.iload 8, 2) := by decide +kernel
theorem d_M_pay_187 : decode prog_5_method_22_code 187 = .ok (.ireturn, 1) := by decide +kernel
abbrev y_M_cancel : MethodName := ⟨"GridlockDeskModel", "cancel", "(I)Z"⟩
abbrev ws_M_cancel : List Cond := .code y_M_cancel prog_5_method_23_code 2 (some .boolean) :: TB
theorem d_M_cancel_0 : decode prog_5_method_23_code 0 = .ok (.aload_n 0, 1) := by decide +kernel
theorem d_M_cancel_1 : decode prog_5_method_23_code 1 = .ok (.iload_n 1, 1) := by decide +kernel
theorem d_M_cancel_2 : decode prog_5_method_23_code 2 = .ok (.invokevirtual 136, 3) := by decide +kernel
theorem d_M_cancel_5 : decode prog_5_method_23_code 5 = .ok (.ifCond .ne 5, 3) := by decide +kernel
theorem d_M_cancel_8 : decode prog_5_method_23_code 8 = .ok (.iconst 0, 1) := by decide +kernel
theorem d_M_cancel_9 : decode prog_5_method_23_code 9 = .ok (.ireturn, 1) := by decide +kernel
theorem d_M_cancel_10 : decode prog_5_method_23_code 10 = .ok (.aload_n 0, 1) := by decide +kernel
theorem d_M_cancel_11 : decode prog_5_method_23_code 11 = .ok (.getfield 44, 3) := by decide +kernel
theorem d_M_cancel_14 : decode prog_5_method_23_code 14 = .ok (.iload_n 1, 1) := by decide +kernel
theorem d_M_cancel_15 : decode prog_5_method_23_code 15 = .ok (.iconst 4, 1) := by decide +kernel
theorem d_M_cancel_16 : decode prog_5_method_23_code 16 = .ok (.iastore, 1) := by decide +kernel
theorem d_M_cancel_17 : decode prog_5_method_23_code 17 = .ok (.aload_n 0, 1) := by decide +kernel
theorem d_M_cancel_18 : decode prog_5_method_23_code 18 = .ok (.invokevirtual 114, 3) := by decide +kernel
theorem d_M_cancel_21 : decode prog_5_method_23_code 21 = .ok (.iconst 1, 1) := by decide +kernel
theorem d_M_cancel_22 : decode prog_5_method_23_code 22 = .ok (.ireturn, 1) := by decide +kernel
abbrev y_M_urge : MethodName := ⟨"GridlockDeskModel", "urge", "(II)Z"⟩
abbrev ws_M_urge : List Cond := .code y_M_urge prog_5_method_24_code 3 (some .boolean) :: TB
theorem d_M_urge_0 : decode prog_5_method_24_code 0 = .ok (.aload_n 0, 1) := by decide +kernel
theorem d_M_urge_1 : decode prog_5_method_24_code 1 = .ok (.iload_n 1, 1) := by decide +kernel
theorem d_M_urge_2 : decode prog_5_method_24_code 2 = .ok (.invokevirtual 136, 3) := by decide +kernel
theorem d_M_urge_5 : decode prog_5_method_24_code 5 = .ok (.ifCond .eq 12, 3) := by decide +kernel
theorem d_M_urge_8 : decode prog_5_method_24_code 8 = .ok (.iload_n 2, 1) := by decide +kernel
theorem d_M_urge_9 : decode prog_5_method_24_code 9 = .ok (.ifCond .lt 8, 3) := by decide +kernel
theorem d_M_urge_12 : decode prog_5_method_24_code 12 = .ok (.iload_n 2, 1) := by decide +kernel
theorem d_M_urge_13 : decode prog_5_method_24_code 13 = .ok (.iconst 3, 1) := by decide +kernel
theorem d_M_urge_14 : decode prog_5_method_24_code 14 = .ok (.if_icmp .le 5, 3) := by decide +kernel
theorem d_M_urge_17 : decode prog_5_method_24_code 17 = .ok (.iconst 0, 1) := by decide +kernel
theorem d_M_urge_18 : decode prog_5_method_24_code 18 = .ok (.ireturn, 1) := by decide +kernel
theorem d_M_urge_19 : decode prog_5_method_24_code 19 = .ok (.aload_n 0, 1) := by decide +kernel
theorem d_M_urge_20 : decode prog_5_method_24_code 20 = .ok (.getfield 35, 3) := by decide +kernel
theorem d_M_urge_23 : decode prog_5_method_24_code 23 = .ok (.iload_n 1, 1) := by decide +kernel
theorem d_M_urge_24 : decode prog_5_method_24_code 24 = .ok (.iload_n 2, 1) := by decide +kernel
theorem d_M_urge_25 : decode prog_5_method_24_code 25 = .ok (.iastore, 1) := by decide +kernel
theorem d_M_urge_26 : decode prog_5_method_24_code 26 = .ok (.aload_n 0, 1) := by decide +kernel
theorem d_M_urge_27 : decode prog_5_method_24_code 27 = .ok (.dup, 1) := by decide +kernel
theorem d_M_urge_28 : decode prog_5_method_24_code 28 = .ok (.getfield 133, 3) := by decide +kernel
theorem d_M_urge_31 : decode prog_5_method_24_code 31 = .ok (.iconst 1, 1) := by decide +kernel
theorem d_M_urge_32 : decode prog_5_method_24_code 32 = .ok (.iadd, 1) := by decide +kernel
theorem d_M_urge_33 : decode prog_5_method_24_code 33 = .ok (.putfield 133, 3) := by decide +kernel
theorem d_M_urge_36 : decode prog_5_method_24_code 36 = .ok (.aload_n 0, 1) := by decide +kernel
theorem d_M_urge_37 : decode prog_5_method_24_code 37 = .ok (.getfield 41, 3) := by decide +kernel
theorem d_M_urge_40 : decode prog_5_method_24_code 40 = .ok (.iload_n 1, 1) := by decide +kernel
theorem d_M_urge_41 : decode prog_5_method_24_code 41 = .ok (.aload_n 0, 1) := by decide +kernel
theorem d_M_urge_42 : decode prog_5_method_24_code 42 = .ok (.getfield 133, 3) := by decide +kernel
theorem d_M_urge_45 : decode prog_5_method_24_code 45 = .ok (.iastore, 1) := by decide +kernel
theorem d_M_urge_46 : decode prog_5_method_24_code 46 = .ok (.aload_n 0, 1) := by decide +kernel
theorem d_M_urge_47 : decode prog_5_method_24_code 47 = .ok (.invokevirtual 114, 3) := by decide +kernel
theorem d_M_urge_50 : decode prog_5_method_24_code 50 = .ok (.iconst 1, 1) := by decide +kernel
theorem d_M_urge_51 : decode prog_5_method_24_code 51 = .ok (.ireturn, 1) := by decide +kernel
abbrev y_M_tick : MethodName := ⟨"GridlockDeskModel", "tick", "(I)I"⟩
abbrev ws_M_tick : List Cond := .code y_M_tick prog_5_method_25_code 4 (some .int) :: TB
theorem d_M_tick_0 : decode prog_5_method_25_code 0 = .ok (.iload_n 1, 1) := by decide +kernel
theorem d_M_tick_1 : decode prog_5_method_25_code 1 = .ok (.iconst 1, 1) := by decide +kernel
theorem d_M_tick_2 : decode prog_5_method_25_code 2 = .ok (.if_icmp .lt 10, 3) := by decide +kernel
theorem d_M_tick_5 : decode prog_5_method_25_code 5 = .ok (.iload_n 1, 1) := by decide +kernel
theorem d_M_tick_6 : decode prog_5_method_25_code 6 = .ok (.sipush 1000, 3) := by decide +kernel
theorem d_M_tick_9 : decode prog_5_method_25_code 9 = .ok (.if_icmp .le 5, 3) := by decide +kernel
theorem d_M_tick_12 : decode prog_5_method_25_code 12 = .ok (.iconst (-1), 1) := by decide +kernel
theorem d_M_tick_13 : decode prog_5_method_25_code 13 = .ok (.ireturn, 1) := by decide +kernel
theorem d_M_tick_14 : decode prog_5_method_25_code 14 = .ok (.aload_n 0, 1) := by decide +kernel
theorem d_M_tick_15 : decode prog_5_method_25_code 15 = .ok (.aload_n 0, 1) := by decide +kernel
theorem d_M_tick_16 : decode prog_5_method_25_code 16 = .ok (.getfield 126, 3) := by decide +kernel
theorem d_M_tick_19 : decode prog_5_method_25_code 19 = .ok (.iload_n 1, 1) := by decide +kernel
theorem d_M_tick_20 : decode prog_5_method_25_code 20 = .ok (.iadd, 1) := by decide +kernel
theorem d_M_tick_21 : decode prog_5_method_25_code 21 = .ok (.putfield 126, 3) := by decide +kernel
theorem d_M_tick_24 : decode prog_5_method_25_code 24 = .ok (.iconst 0, 1) := by decide +kernel
theorem d_M_tick_25 : decode prog_5_method_25_code 25 = .ok (.istore_n 2, 1) := by decide +kernel
theorem d_M_tick_26 : decode prog_5_method_25_code 26 = .ok (.iconst 0, 1) := by decide +kernel
theorem d_M_tick_27 : decode prog_5_method_25_code 27 = .ok (.istore_n 3, 1) := by decide +kernel
theorem d_M_tick_28 : decode prog_5_method_25_code 28 = .ok (.iload_n 3, 1) := by decide +kernel
theorem d_M_tick_29 : decode prog_5_method_25_code 29 = .ok (.aload_n 0, 1) := by decide +kernel
theorem d_M_tick_30 : decode prog_5_method_25_code 30 = .ok (.getfield 68, 3) := by decide +kernel
theorem d_M_tick_33 : decode prog_5_method_25_code 33 = .ok (.if_icmp .ge 41, 3) := by decide +kernel
theorem d_M_tick_36 : decode prog_5_method_25_code 36 = .ok (.aload_n 0, 1) := by decide +kernel
theorem d_M_tick_37 : decode prog_5_method_25_code 37 = .ok (.getfield 44, 3) := by decide +kernel
theorem d_M_tick_40 : decode prog_5_method_25_code 40 = .ok (.iload_n 3, 1) := by decide +kernel
theorem d_M_tick_41 : decode prog_5_method_25_code 41 = .ok (.iaload, 1) := by decide +kernel
theorem d_M_tick_42 : decode prog_5_method_25_code 42 = .ok (.ifCond .ne 26, 3) := by decide +kernel
theorem d_M_tick_45 : decode prog_5_method_25_code 45 = .ok (.aload_n 0, 1) := by decide +kernel
theorem d_M_tick_46 : decode prog_5_method_25_code 46 = .ok (.getfield 38, 3) := by decide +kernel
theorem d_M_tick_49 : decode prog_5_method_25_code 49 = .ok (.iload_n 3, 1) := by decide +kernel
theorem d_M_tick_50 : decode prog_5_method_25_code 50 = .ok (.iaload, 1) := by decide +kernel
theorem d_M_tick_51 : decode prog_5_method_25_code 51 = .ok (.aload_n 0, 1) := by decide +kernel
theorem d_M_tick_52 : decode prog_5_method_25_code 52 = .ok (.getfield 126, 3) := by decide +kernel
theorem d_M_tick_55 : decode prog_5_method_25_code 55 = .ok (.if_icmp .ge 13, 3) := by decide +kernel
theorem d_M_tick_58 : decode prog_5_method_25_code 58 = .ok (.aload_n 0, 1) := by decide +kernel
theorem d_M_tick_59 : decode prog_5_method_25_code 59 = .ok (.getfield 44, 3) := by decide +kernel
theorem d_M_tick_62 : decode prog_5_method_25_code 62 = .ok (.iload_n 3, 1) := by decide +kernel
theorem d_M_tick_63 : decode prog_5_method_25_code 63 = .ok (.iconst 5, 1) := by decide +kernel
theorem d_M_tick_64 : decode prog_5_method_25_code 64 = .ok (.iastore, 1) := by decide +kernel
theorem d_M_tick_65 : decode prog_5_method_25_code 65 = .ok (.iinc 2 1, 3) := by decide +kernel
theorem d_M_tick_68 : decode prog_5_method_25_code 68 = .ok (.iinc 3 1, 3) := by decide +kernel
theorem d_M_tick_71 : decode prog_5_method_25_code 71 = .ok (.goto (-43), 3) := by decide +kernel
theorem d_M_tick_74 : decode prog_5_method_25_code 74 = .ok (.aload_n 0, 1) := by decide +kernel
theorem d_M_tick_75 : decode prog_5_method_25_code 75 = .ok (.invokevirtual 114, 3) := by decide +kernel
theorem d_M_tick_78 : decode prog_5_method_25_code 78 = .ok (.iload_n 2, 1) := by decide +kernel
theorem d_M_tick_79 : decode prog_5_method_25_code 79 = .ok (.ireturn, 1) := by decide +kernel
abbrev y_M_close : MethodName := ⟨"GridlockDeskModel", "close", "()I"⟩
abbrev ws_M_close : List Cond := .code y_M_close prog_5_method_26_code 3 (some .int) :: TB
theorem d_M_close_0 : decode prog_5_method_26_code 0 = .ok (.iconst 0, 1) := by decide +kernel
theorem d_M_close_1 : decode prog_5_method_26_code 1 = .ok (.istore_n 1, 1) := by decide +kernel
theorem d_M_close_2 : decode prog_5_method_26_code 2 = .ok (.iconst 0, 1) := by decide +kernel
theorem d_M_close_3 : decode prog_5_method_26_code 3 = .ok (.istore_n 2, 1) := by decide +kernel
theorem d_M_close_4 : decode prog_5_method_26_code 4 = .ok (.iload_n 2, 1) := by decide +kernel
theorem d_M_close_5 : decode prog_5_method_26_code 5 = .ok (.aload_n 0, 1) := by decide +kernel
theorem d_M_close_6 : decode prog_5_method_26_code 6 = .ok (.getfield 68, 3) := by decide +kernel
theorem d_M_close_9 : decode prog_5_method_26_code 9 = .ok (.if_icmp .ge 29, 3) := by decide +kernel
theorem d_M_close_12 : decode prog_5_method_26_code 12 = .ok (.aload_n 0, 1) := by decide +kernel
theorem d_M_close_13 : decode prog_5_method_26_code 13 = .ok (.getfield 44, 3) := by decide +kernel
theorem d_M_close_16 : decode prog_5_method_26_code 16 = .ok (.iload_n 2, 1) := by decide +kernel
theorem d_M_close_17 : decode prog_5_method_26_code 17 = .ok (.iaload, 1) := by decide +kernel
theorem d_M_close_18 : decode prog_5_method_26_code 18 = .ok (.ifCond .ne 14, 3) := by decide +kernel
theorem d_M_close_21 : decode prog_5_method_26_code 21 = .ok (.aload_n 0, 1) := by decide +kernel
theorem d_M_close_22 : decode prog_5_method_26_code 22 = .ok (.getfield 44, 3) := by decide +kernel
theorem d_M_close_25 : decode prog_5_method_26_code 25 = .ok (.iload_n 2, 1) := by decide +kernel
theorem d_M_close_26 : decode prog_5_method_26_code 26 = .ok (.bipush 6, 2) := by decide +kernel
theorem d_M_close_28 : decode prog_5_method_26_code 28 = .ok (.iastore, 1) := by decide +kernel
theorem d_M_close_29 : decode prog_5_method_26_code 29 = .ok (.iinc 1 1, 3) := by decide +kernel
theorem d_M_close_32 : decode prog_5_method_26_code 32 = .ok (.iinc 2 1, 3) := by decide +kernel
theorem d_M_close_35 : decode prog_5_method_26_code 35 = .ok (.goto (-31), 3) := by decide +kernel
theorem d_M_close_38 : decode prog_5_method_26_code 38 = .ok (.iconst 0, 1) := by decide +kernel
theorem d_M_close_39 : decode prog_5_method_26_code 39 = .ok (.istore_n 2, 1) := by decide +kernel
theorem d_M_close_40 : decode prog_5_method_26_code 40 = .ok (.iload_n 2, 1) := by decide +kernel
theorem d_M_close_41 : decode prog_5_method_26_code 41 = .ok (.bipush 16, 2) := by decide +kernel
theorem d_M_close_43 : decode prog_5_method_26_code 43 = .ok (.if_icmp .ge 16, 3) := by decide +kernel
theorem d_M_close_46 : decode prog_5_method_26_code 46 = .ok (.aload_n 0, 1) := by decide +kernel
theorem d_M_close_47 : decode prog_5_method_26_code 47 = .ok (.getfield 22, 3) := by decide +kernel
theorem d_M_close_50 : decode prog_5_method_26_code 50 = .ok (.iload_n 2, 1) := by decide +kernel
theorem d_M_close_51 : decode prog_5_method_26_code 51 = .ok (.lconst 0, 1) := by decide +kernel
theorem d_M_close_52 : decode prog_5_method_26_code 52 = .ok (.lastore, 1) := by decide +kernel
theorem d_M_close_53 : decode prog_5_method_26_code 53 = .ok (.iinc 2 1, 3) := by decide +kernel
theorem d_M_close_56 : decode prog_5_method_26_code 56 = .ok (.goto (-16), 3) := by decide +kernel
theorem d_M_close_59 : decode prog_5_method_26_code 59 = .ok (.iload_n 1, 1) := by decide +kernel
theorem d_M_close_60 : decode prog_5_method_26_code 60 = .ok (.ireturn, 1) := by decide +kernel
abbrev y_M_balance : MethodName := ⟨"GridlockDeskModel", "balance", "(I)J"⟩
abbrev ws_M_balance : List Cond := .code y_M_balance prog_5_method_27_code 2 (some .long) :: TB
theorem d_M_balance_0 : decode prog_5_method_27_code 0 = .ok (.aload_n 0, 1) := by decide +kernel
theorem d_M_balance_1 : decode prog_5_method_27_code 1 = .ok (.iload_n 1, 1) := by decide +kernel
theorem d_M_balance_2 : decode prog_5_method_27_code 2 = .ok (.invokevirtual 117, 3) := by decide +kernel
theorem d_M_balance_5 : decode prog_5_method_27_code 5 = .ok (.ifCond .eq 12, 3) := by decide +kernel
theorem d_M_balance_8 : decode prog_5_method_27_code 8 = .ok (.aload_n 0, 1) := by decide +kernel
theorem d_M_balance_9 : decode prog_5_method_27_code 9 = .ok (.getfield 7, 3) := by decide +kernel
theorem d_M_balance_12 : decode prog_5_method_27_code 12 = .ok (.iload_n 1, 1) := by decide +kernel
theorem d_M_balance_13 : decode prog_5_method_27_code 13 = .ok (.laload, 1) := by decide +kernel
theorem d_M_balance_14 : decode prog_5_method_27_code 14 = .ok (.goto 4, 3) := by decide +kernel
theorem d_M_balance_17 : decode prog_5_method_27_code 17 = .ok (.lconst 0, 1) := by decide +kernel
theorem d_M_balance_18 : decode prog_5_method_27_code 18 = .ok (.lreturn, 1) := by decide +kernel
abbrev y_M_position : MethodName := ⟨"GridlockDeskModel", "position", "(II)J"⟩
abbrev ws_M_position : List Cond := .code y_M_position prog_5_method_28_code 3 (some .long) :: TB
theorem d_M_position_0 : decode prog_5_method_28_code 0 = .ok (.aload_n 0, 1) := by decide +kernel
theorem d_M_position_1 : decode prog_5_method_28_code 1 = .ok (.iload_n 1, 1) := by decide +kernel
theorem d_M_position_2 : decode prog_5_method_28_code 2 = .ok (.invokevirtual 117, 3) := by decide +kernel
theorem d_M_position_5 : decode prog_5_method_28_code 5 = .ok (.ifCond .eq 35, 3) := by decide +kernel
theorem d_M_position_8 : decode prog_5_method_28_code 8 = .ok (.aload_n 0, 1) := by decide +kernel
theorem d_M_position_9 : decode prog_5_method_28_code 9 = .ok (.iload_n 2, 1) := by decide +kernel
theorem d_M_position_10 : decode prog_5_method_28_code 10 = .ok (.invokevirtual 117, 3) := by decide +kernel
theorem d_M_position_13 : decode prog_5_method_28_code 13 = .ok (.ifCond .eq 27, 3) := by decide +kernel
theorem d_M_position_16 : decode prog_5_method_28_code 16 = .ok (.aload_n 0, 1) := by decide +kernel
theorem d_M_position_17 : decode prog_5_method_28_code 17 = .ok (.getfield 22, 3) := by decide +kernel
theorem d_M_position_20 : decode prog_5_method_28_code 20 = .ok (.iconst 4, 1) := by decide +kernel
theorem d_M_position_21 : decode prog_5_method_28_code 21 = .ok (.iload_n 1, 1) := by decide +kernel
theorem d_M_position_22 : decode prog_5_method_28_code 22 = .ok (.imul, 1) := by decide +kernel
theorem d_M_position_23 : decode prog_5_method_28_code 23 = .ok (.iload_n 2, 1) := by decide +kernel
theorem d_M_position_24 : decode prog_5_method_28_code 24 = .ok (.iadd, 1) := by decide +kernel
theorem d_M_position_25 : decode prog_5_method_28_code 25 = .ok (.laload, 1) := by decide +kernel
theorem d_M_position_26 : decode prog_5_method_28_code 26 = .ok (.aload_n 0, 1) := by decide +kernel
theorem d_M_position_27 : decode prog_5_method_28_code 27 = .ok (.getfield 22, 3) := by decide +kernel
theorem d_M_position_30 : decode prog_5_method_28_code 30 = .ok (.iconst 4, 1) := by decide +kernel
theorem d_M_position_31 : decode prog_5_method_28_code 31 = .ok (.iload_n 2, 1) := by decide +kernel
theorem d_M_position_32 : decode prog_5_method_28_code 32 = .ok (.imul, 1) := by decide +kernel
theorem d_M_position_33 : decode prog_5_method_28_code 33 = .ok (.iload_n 1, 1) := by decide +kernel
theorem d_M_position_34 : decode prog_5_method_28_code 34 = .ok (.iadd, 1) := by decide +kernel
theorem d_M_position_35 : decode prog_5_method_28_code 35 = .ok (.laload, 1) := by decide +kernel
theorem d_M_position_36 : decode prog_5_method_28_code 36 = .ok (.lsub, 1) := by decide +kernel
theorem d_M_position_37 : decode prog_5_method_28_code 37 = .ok (.goto 4, 3) := by decide +kernel
theorem d_M_position_40 : decode prog_5_method_28_code 40 = .ok (.lconst 0, 1) := by decide +kernel
theorem d_M_position_41 : decode prog_5_method_28_code 41 = .ok (.lreturn, 1) := by decide +kernel
abbrev y_M_waiting : MethodName := ⟨"GridlockDeskModel", "waiting", "(I)I"⟩
abbrev ws_M_waiting : List Cond := .code y_M_waiting prog_5_method_29_code 2 (some .int) :: TB
theorem d_M_waiting_0 : decode prog_5_method_29_code 0 = .ok (.aload_n 0, 1) := by decide +kernel
theorem d_M_waiting_1 : decode prog_5_method_29_code 1 = .ok (.iload_n 1, 1) := by decide +kernel
theorem d_M_waiting_2 : decode prog_5_method_29_code 2 = .ok (.invokevirtual 117, 3) := by decide +kernel
theorem d_M_waiting_5 : decode prog_5_method_29_code 5 = .ok (.ifCond .eq 11, 3) := by decide +kernel
theorem d_M_waiting_8 : decode prog_5_method_29_code 8 = .ok (.aload_n 0, 1) := by decide +kernel
theorem d_M_waiting_9 : decode prog_5_method_29_code 9 = .ok (.iload_n 1, 1) := by decide +kernel
theorem d_M_waiting_10 : decode prog_5_method_29_code 10 = .ok (.invokevirtual 129, 3) := by decide +kernel
theorem d_M_waiting_13 : decode prog_5_method_29_code 13 = .ok (.goto 4, 3) := by decide +kernel
theorem d_M_waiting_16 : decode prog_5_method_29_code 16 = .ok (.iconst (-1), 1) := by decide +kernel
theorem d_M_waiting_17 : decode prog_5_method_29_code 17 = .ok (.ireturn, 1) := by decide +kernel
abbrev y_M_queued : MethodName := ⟨"GridlockDeskModel", "queued", "(II)I"⟩
abbrev ws_M_queued : List Cond := .code y_M_queued prog_5_method_30_code 3 (some .int) :: TB
theorem d_M_queued_0 : decode prog_5_method_30_code 0 = .ok (.aload_n 0, 1) := by decide +kernel
theorem d_M_queued_1 : decode prog_5_method_30_code 1 = .ok (.iload_n 1, 1) := by decide +kernel
theorem d_M_queued_2 : decode prog_5_method_30_code 2 = .ok (.invokevirtual 117, 3) := by decide +kernel
theorem d_M_queued_5 : decode prog_5_method_30_code 5 = .ok (.ifCond .ne 5, 3) := by decide +kernel
theorem d_M_queued_8 : decode prog_5_method_30_code 8 = .ok (.iconst (-1), 1) := by decide +kernel
theorem d_M_queued_9 : decode prog_5_method_30_code 9 = .ok (.ireturn, 1) := by decide +kernel
theorem d_M_queued_10 : decode prog_5_method_30_code 10 = .ok (.aload_n 0, 1) := by decide +kernel
theorem d_M_queued_11 : decode prog_5_method_30_code 11 = .ok (.invokevirtual 97, 3) := by decide +kernel
theorem d_M_queued_14 : decode prog_5_method_30_code 14 = .ok (.iload_n 2, 1) := by decide +kernel
theorem d_M_queued_15 : decode prog_5_method_30_code 15 = .ok (.ifCond .lt 13, 3) := by decide +kernel
theorem d_M_queued_18 : decode prog_5_method_30_code 18 = .ok (.iload_n 2, 1) := by decide +kernel
theorem d_M_queued_19 : decode prog_5_method_30_code 19 = .ok (.aload_n 0, 1) := by decide +kernel
theorem d_M_queued_20 : decode prog_5_method_30_code 20 = .ok (.getfield 50, 3) := by decide +kernel
theorem d_M_queued_23 : decode prog_5_method_30_code 23 = .ok (.iload_n 1, 1) := by decide +kernel
theorem d_M_queued_24 : decode prog_5_method_30_code 24 = .ok (.iaload, 1) := by decide +kernel
theorem d_M_queued_25 : decode prog_5_method_30_code 25 = .ok (.if_icmp .lt 7, 3) := by decide +kernel
theorem d_M_queued_28 : decode prog_5_method_30_code 28 = .ok (.iconst (-1), 1) := by decide +kernel
theorem d_M_queued_29 : decode prog_5_method_30_code 29 = .ok (.goto 14, 3) := by decide +kernel
theorem d_M_queued_32 : decode prog_5_method_30_code 32 = .ok (.aload_n 0, 1) := by decide +kernel
theorem d_M_queued_33 : decode prog_5_method_30_code 33 = .ok (.getfield 47, 3) := by decide +kernel
theorem d_M_queued_36 : decode prog_5_method_30_code 36 = .ok (.bipush 6, 2) := by decide +kernel
theorem d_M_queued_38 : decode prog_5_method_30_code 38 = .ok (.iload_n 1, 1) := by decide +kernel
theorem d_M_queued_39 : decode prog_5_method_30_code 39 = .ok (.imul, 1) := by decide +kernel
theorem d_M_queued_40 : decode prog_5_method_30_code 40 = .ok (.iload_n 2, 1) := by decide +kernel
theorem d_M_queued_41 : decode prog_5_method_30_code 41 = .ok (.iadd, 1) := by decide +kernel
theorem d_M_queued_42 : decode prog_5_method_30_code 42 = .ok (.iaload, 1) := by decide +kernel
theorem d_M_queued_43 : decode prog_5_method_30_code 43 = .ok (.ireturn, 1) := by decide +kernel
abbrev y_M_state : MethodName := ⟨"GridlockDeskModel", "state", "(I)I"⟩
abbrev ws_M_state : List Cond := .code y_M_state prog_5_method_31_code 2 (some .int) :: TB
theorem d_M_state_0 : decode prog_5_method_31_code 0 = .ok (.iload_n 1, 1) := by decide +kernel
theorem d_M_state_1 : decode prog_5_method_31_code 1 = .ok (.ifCond .lt 11, 3) := by decide +kernel
theorem d_M_state_4 : decode prog_5_method_31_code 4 = .ok (.iload_n 1, 1) := by decide +kernel
theorem d_M_state_5 : decode prog_5_method_31_code 5 = .ok (.aload_n 0, 1) := by decide +kernel
theorem d_M_state_6 : decode prog_5_method_31_code 6 = .ok (.getfield 68, 3) := by decide +kernel
theorem d_M_state_9 : decode prog_5_method_31_code 9 = .ok (.if_icmp .lt 7, 3) := by decide +kernel
theorem d_M_state_12 : decode prog_5_method_31_code 12 = .ok (.iconst (-1), 1) := by decide +kernel
theorem d_M_state_13 : decode prog_5_method_31_code 13 = .ok (.goto 9, 3) := by decide +kernel
theorem d_M_state_16 : decode prog_5_method_31_code 16 = .ok (.aload_n 0, 1) := by decide +kernel
theorem d_M_state_17 : decode prog_5_method_31_code 17 = .ok (.getfield 44, 3) := by decide +kernel
theorem d_M_state_20 : decode prog_5_method_31_code 20 = .ok (.iload_n 1, 1) := by decide +kernel
theorem d_M_state_21 : decode prog_5_method_31_code 21 = .ok (.iaload, 1) := by decide +kernel
theorem d_M_state_22 : decode prog_5_method_31_code 22 = .ok (.ireturn, 1) := by decide +kernel
abbrev y_M_turnover : MethodName := ⟨"GridlockDeskModel", "turnover", "()J"⟩
abbrev ws_M_turnover : List Cond := .code y_M_turnover prog_5_method_32_code 1 (some .long) :: TB
theorem d_M_turnover_0 : decode prog_5_method_32_code 0 = .ok (.aload_n 0, 1) := by decide +kernel
theorem d_M_turnover_1 : decode prog_5_method_32_code 1 = .ok (.getfield 86, 3) := by decide +kernel
theorem d_M_turnover_4 : decode prog_5_method_32_code 4 = .ok (.lreturn, 1) := by decide +kernel
abbrev y_M_now : MethodName := ⟨"GridlockDeskModel", "now", "()I"⟩
abbrev ws_M_now : List Cond := .code y_M_now prog_5_method_33_code 1 (some .int) :: TB
theorem d_M_now_0 : decode prog_5_method_33_code 0 = .ok (.aload_n 0, 1) := by decide +kernel
theorem d_M_now_1 : decode prog_5_method_33_code 1 = .ok (.getfield 126, 3) := by decide +kernel
theorem d_M_now_4 : decode prog_5_method_33_code 4 = .ok (.ireturn, 1) := by decide +kernel
abbrev y_X_init : MethodName := ⟨"GridlockDesk", "<init>", "(I)V"⟩
abbrev ws_X_init : List Cond := .code y_X_init prog_1_method_1_code 4 none :: TB
theorem d_X_init_0 : decode prog_1_method_1_code 0 = .ok (.aload_n 0, 1) := by decide +kernel
theorem d_X_init_1 : decode prog_1_method_1_code 1 = .ok (.invokespecial 3, 3) := by decide +kernel
theorem d_X_init_4 : decode prog_1_method_1_code 4 = .ok (.iconst 2, 1) := by decide +kernel
theorem d_X_init_5 : decode prog_1_method_1_code 5 = .ok (.iconst 4, 1) := by decide +kernel
theorem d_X_init_6 : decode prog_1_method_1_code 6 = .ok (.iload_n 1, 1) := by decide +kernel
theorem d_X_init_7 : decode prog_1_method_1_code 7 = .ok (.invokestatic 9, 3) := by decide +kernel
theorem d_X_init_10 : decode prog_1_method_1_code 10 = .ok (.invokestatic 15, 3) := by decide +kernel
theorem d_X_init_13 : decode prog_1_method_1_code 13 = .ok (.istore_n 2, 1) := by decide +kernel
theorem d_X_init_14 : decode prog_1_method_1_code 14 = .ok (.aload_n 0, 1) := by decide +kernel
theorem d_X_init_15 : decode prog_1_method_1_code 15 = .ok (.iload_n 2, 1) := by decide +kernel
theorem d_X_init_16 : decode prog_1_method_1_code 16 = .ok (.anewarray 18, 3) := by decide +kernel
theorem d_X_init_19 : decode prog_1_method_1_code 19 = .ok (.putfield 20, 3) := by decide +kernel
theorem d_X_init_22 : decode prog_1_method_1_code 22 = .ok (.iconst 0, 1) := by decide +kernel
theorem d_X_init_23 : decode prog_1_method_1_code 23 = .ok (.istore_n 3, 1) := by decide +kernel
theorem d_X_init_24 : decode prog_1_method_1_code 24 = .ok (.iload_n 3, 1) := by decide +kernel
theorem d_X_init_25 : decode prog_1_method_1_code 25 = .ok (.iload_n 2, 1) := by decide +kernel
theorem d_X_init_26 : decode prog_1_method_1_code 26 = .ok (.if_icmp .ge 23, 3) := by decide +kernel
theorem d_X_init_29 : decode prog_1_method_1_code 29 = .ok (.aload_n 0, 1) := by decide +kernel
theorem d_X_init_30 : decode prog_1_method_1_code 30 = .ok (.getfield 20, 3) := by decide +kernel
theorem d_X_init_33 : decode prog_1_method_1_code 33 = .ok (.iload_n 3, 1) := by decide +kernel
theorem d_X_init_34 : decode prog_1_method_1_code 34 = .ok (.new 18, 3) := by decide +kernel
theorem d_X_init_37 : decode prog_1_method_1_code 37 = .ok (.dup, 1) := by decide +kernel
theorem d_X_init_38 : decode prog_1_method_1_code 38 = .ok (.iload_n 2, 1) := by decide +kernel
theorem d_X_init_39 : decode prog_1_method_1_code 39 = .ok (.invokespecial 24, 3) := by decide +kernel
theorem d_X_init_42 : decode prog_1_method_1_code 42 = .ok (.aastore, 1) := by decide +kernel
theorem d_X_init_43 : decode prog_1_method_1_code 43 = .ok (.iinc 3 1, 3) := by decide +kernel
theorem d_X_init_46 : decode prog_1_method_1_code 46 = .ok (.goto (-22), 3) := by decide +kernel
theorem d_X_init_49 : decode prog_1_method_1_code 49 = .ok (.aload_n 0, 1) := by decide +kernel
theorem d_X_init_50 : decode prog_1_method_1_code 50 = .ok (.bipush 100, 2) := by decide +kernel
theorem d_X_init_52 : decode prog_1_method_1_code 52 = .ok (.anewarray 27, 3) := by decide +kernel
theorem d_X_init_55 : decode prog_1_method_1_code 55 = .ok (.putfield 29, 3) := by decide +kernel
theorem d_X_init_58 : decode prog_1_method_1_code 58 = .ok (.aload_n 0, 1) := by decide +kernel
theorem d_X_init_59 : decode prog_1_method_1_code 59 = .ok (.iload_n 2, 1) := by decide +kernel
theorem d_X_init_60 : decode prog_1_method_1_code 60 = .ok (.newarray .int, 2) := by decide +kernel
theorem d_X_init_62 : decode prog_1_method_1_code 62 = .ok (.putfield 33, 3) := by decide +kernel
theorem d_X_init_65 : decode prog_1_method_1_code 65 = .ok (.return_, 1) := by decide +kernel
abbrev y_B_init : MethodName := ⟨"GridlockDesk$Bank", "<init>", "(I)V"⟩
abbrev ws_B_init : List Cond := .code y_B_init prog_2_method_1_code 2 none :: TB
theorem d_B_init_0 : decode prog_2_method_1_code 0 = .ok (.aload_n 0, 1) := by decide +kernel
theorem d_B_init_1 : decode prog_2_method_1_code 1 = .ok (.invokespecial 3, 3) := by decide +kernel
theorem d_B_init_4 : decode prog_2_method_1_code 4 = .ok (.aload_n 0, 1) := by decide +kernel
theorem d_B_init_5 : decode prog_2_method_1_code 5 = .ok (.ldc2_w 9, 3) := by decide +kernel
theorem d_B_init_8 : decode prog_2_method_1_code 8 = .ok (.putfield 11, 3) := by decide +kernel
theorem d_B_init_11 : decode prog_2_method_1_code 11 = .ok (.aload_n 0, 1) := by decide +kernel
theorem d_B_init_12 : decode prog_2_method_1_code 12 = .ok (.iload_n 1, 1) := by decide +kernel
theorem d_B_init_13 : decode prog_2_method_1_code 13 = .ok (.newarray .long, 2) := by decide +kernel
theorem d_B_init_15 : decode prog_2_method_1_code 15 = .ok (.putfield 17, 3) := by decide +kernel
theorem d_B_init_18 : decode prog_2_method_1_code 18 = .ok (.aload_n 0, 1) := by decide +kernel
theorem d_B_init_19 : decode prog_2_method_1_code 19 = .ok (.getfield 17, 3) := by decide +kernel
theorem d_B_init_22 : decode prog_2_method_1_code 22 = .ok (.ldc2_w 9, 3) := by decide +kernel
theorem d_B_init_25 : decode prog_2_method_1_code 25 = .ok (.invokestatic 21, 3) := by decide +kernel
theorem d_B_init_28 : decode prog_2_method_1_code 28 = .ok (.aload_n 0, 1) := by decide +kernel
theorem d_B_init_29 : decode prog_2_method_1_code 29 = .ok (.iload_n 1, 1) := by decide +kernel
theorem d_B_init_30 : decode prog_2_method_1_code 30 = .ok (.newarray .long, 2) := by decide +kernel
theorem d_B_init_32 : decode prog_2_method_1_code 32 = .ok (.putfield 27, 3) := by decide +kernel
theorem d_B_init_35 : decode prog_2_method_1_code 35 = .ok (.aload_n 0, 1) := by decide +kernel
theorem d_B_init_36 : decode prog_2_method_1_code 36 = .ok (.bipush 6, 2) := by decide +kernel
theorem d_B_init_38 : decode prog_2_method_1_code 38 = .ok (.anewarray 30, 3) := by decide +kernel
theorem d_B_init_41 : decode prog_2_method_1_code 41 = .ok (.putfield 32, 3) := by decide +kernel
theorem d_B_init_44 : decode prog_2_method_1_code 44 = .ok (.return_, 1) := by decide +kernel
abbrev y_P_init : MethodName := ⟨"GridlockDesk$Payment", "<init>", "(IIIJII)V"⟩
abbrev ws_P_init : List Cond := .code y_P_init prog_3_method_1_code 8 none :: TB
theorem d_P_init_0 : decode prog_3_method_1_code 0 = .ok (.aload_n 0, 1) := by decide +kernel
theorem d_P_init_1 : decode prog_3_method_1_code 1 = .ok (.invokespecial 3, 3) := by decide +kernel
theorem d_P_init_4 : decode prog_3_method_1_code 4 = .ok (.aload_n 0, 1) := by decide +kernel
theorem d_P_init_5 : decode prog_3_method_1_code 5 = .ok (.iload_n 1, 1) := by decide +kernel
theorem d_P_init_6 : decode prog_3_method_1_code 6 = .ok (.putfield 9, 3) := by decide +kernel
theorem d_P_init_9 : decode prog_3_method_1_code 9 = .ok (.aload_n 0, 1) := by decide +kernel
theorem d_P_init_10 : decode prog_3_method_1_code 10 = .ok (.iload_n 2, 1) := by decide +kernel
theorem d_P_init_11 : decode prog_3_method_1_code 11 = .ok (.putfield 15, 3) := by decide +kernel
theorem d_P_init_14 : decode prog_3_method_1_code 14 = .ok (.aload_n 0, 1) := by decide +kernel
theorem d_P_init_15 : decode prog_3_method_1_code 15 = .ok (.iload_n 3, 1) := by decide +kernel
theorem d_P_init_16 : decode prog_3_method_1_code 16 = .ok (.putfield 18, 3) := by decide +kernel
theorem d_P_init_19 : decode prog_3_method_1_code 19 = .ok (.aload_n 0, 1) := by decide +kernel
theorem d_P_init_20 : decode prog_3_method_1_code 20 = .ok (.lload 4, 2) := by decide +kernel
theorem d_P_init_22 : decode prog_3_method_1_code 22 = .ok (.putfield 21, 3) := by decide +kernel
theorem d_P_init_25 : decode prog_3_method_1_code 25 = .ok (.aload_n 0, 1) := by decide +kernel
theorem d_P_init_26 : decode prog_3_method_1_code 26 = .ok (.iload 6, 2) := by decide +kernel
theorem d_P_init_28 : decode prog_3_method_1_code 28 = .ok (.putfield 25, 3) := by decide +kernel
theorem d_P_init_31 : decode prog_3_method_1_code 31 = .ok (.aload_n 0, 1) := by decide +kernel
theorem d_P_init_32 : decode prog_3_method_1_code 32 = .ok (.iload 7, 2) := by decide +kernel
theorem d_P_init_34 : decode prog_3_method_1_code 34 = .ok (.putfield 28, 3) := by decide +kernel
theorem d_P_init_37 : decode prog_3_method_1_code 37 = .ok (.aload_n 0, 1) := by decide +kernel
theorem d_P_init_38 : decode prog_3_method_1_code 38 = .ok (.iconst 0, 1) := by decide +kernel
theorem d_P_init_39 : decode prog_3_method_1_code 39 = .ok (.putfield 31, 3) := by decide +kernel
theorem d_P_init_42 : decode prog_3_method_1_code 42 = .ok (.return_, 1) := by decide +kernel
abbrev y_M_init : MethodName := ⟨"GridlockDeskModel", "<init>", "(I)V"⟩
abbrev ws_M_init : List Cond := .code y_M_init prog_5_method_1_code 3 none :: TB
theorem d_M_init_0 : decode prog_5_method_1_code 0 = .ok (.aload_n 0, 1) := by decide +kernel
theorem d_M_init_1 : decode prog_5_method_1_code 1 = .ok (.invokespecial 1, 3) := by decide +kernel
theorem d_M_init_4 : decode prog_5_method_1_code 4 = .ok (.aload_n 0, 1) := by decide +kernel
theorem d_M_init_5 : decode prog_5_method_1_code 5 = .ok (.iconst 4, 1) := by decide +kernel
theorem d_M_init_6 : decode prog_5_method_1_code 6 = .ok (.newarray .long, 2) := by decide +kernel
theorem d_M_init_8 : decode prog_5_method_1_code 8 = .ok (.putfield 7, 3) := by decide +kernel
theorem d_M_init_11 : decode prog_5_method_1_code 11 = .ok (.aload_n 0, 1) := by decide +kernel
theorem d_M_init_12 : decode prog_5_method_1_code 12 = .ok (.iconst 4, 1) := by decide +kernel
theorem d_M_init_13 : decode prog_5_method_1_code 13 = .ok (.newarray .long, 2) := by decide +kernel
theorem d_M_init_15 : decode prog_5_method_1_code 15 = .ok (.putfield 13, 3) := by decide +kernel
theorem d_M_init_18 : decode prog_5_method_1_code 18 = .ok (.aload_n 0, 1) := by decide +kernel
theorem d_M_init_19 : decode prog_5_method_1_code 19 = .ok (.iconst 4, 1) := by decide +kernel
theorem d_M_init_20 : decode prog_5_method_1_code 20 = .ok (.newarray .long, 2) := by decide +kernel
theorem d_M_init_22 : decode prog_5_method_1_code 22 = .ok (.putfield 16, 3) := by decide +kernel
theorem d_M_init_25 : decode prog_5_method_1_code 25 = .ok (.aload_n 0, 1) := by decide +kernel
theorem d_M_init_26 : decode prog_5_method_1_code 26 = .ok (.bipush 16, 2) := by decide +kernel
theorem d_M_init_28 : decode prog_5_method_1_code 28 = .ok (.newarray .long, 2) := by decide +kernel
theorem d_M_init_30 : decode prog_5_method_1_code 30 = .ok (.putfield 19, 3) := by decide +kernel
theorem d_M_init_33 : decode prog_5_method_1_code 33 = .ok (.aload_n 0, 1) := by decide +kernel
theorem d_M_init_34 : decode prog_5_method_1_code 34 = .ok (.bipush 16, 2) := by decide +kernel
theorem d_M_init_36 : decode prog_5_method_1_code 36 = .ok (.newarray .long, 2) := by decide +kernel
theorem d_M_init_38 : decode prog_5_method_1_code 38 = .ok (.putfield 22, 3) := by decide +kernel
theorem d_M_init_41 : decode prog_5_method_1_code 41 = .ok (.aload_n 0, 1) := by decide +kernel
theorem d_M_init_42 : decode prog_5_method_1_code 42 = .ok (.bipush 100, 2) := by decide +kernel
theorem d_M_init_44 : decode prog_5_method_1_code 44 = .ok (.newarray .int, 2) := by decide +kernel
theorem d_M_init_46 : decode prog_5_method_1_code 46 = .ok (.putfield 25, 3) := by decide +kernel
theorem d_M_init_49 : decode prog_5_method_1_code 49 = .ok (.aload_n 0, 1) := by decide +kernel
theorem d_M_init_50 : decode prog_5_method_1_code 50 = .ok (.bipush 100, 2) := by decide +kernel
theorem d_M_init_52 : decode prog_5_method_1_code 52 = .ok (.newarray .int, 2) := by decide +kernel
theorem d_M_init_54 : decode prog_5_method_1_code 54 = .ok (.putfield 29, 3) := by decide +kernel
theorem d_M_init_57 : decode prog_5_method_1_code 57 = .ok (.aload_n 0, 1) := by decide +kernel
theorem d_M_init_58 : decode prog_5_method_1_code 58 = .ok (.bipush 100, 2) := by decide +kernel
theorem d_M_init_60 : decode prog_5_method_1_code 60 = .ok (.newarray .long, 2) := by decide +kernel
theorem d_M_init_62 : decode prog_5_method_1_code 62 = .ok (.putfield 32, 3) := by decide +kernel
theorem d_M_init_65 : decode prog_5_method_1_code 65 = .ok (.aload_n 0, 1) := by decide +kernel
theorem d_M_init_66 : decode prog_5_method_1_code 66 = .ok (.bipush 100, 2) := by decide +kernel
theorem d_M_init_68 : decode prog_5_method_1_code 68 = .ok (.newarray .int, 2) := by decide +kernel
theorem d_M_init_70 : decode prog_5_method_1_code 70 = .ok (.putfield 35, 3) := by decide +kernel
theorem d_M_init_73 : decode prog_5_method_1_code 73 = .ok (.aload_n 0, 1) := by decide +kernel
theorem d_M_init_74 : decode prog_5_method_1_code 74 = .ok (.bipush 100, 2) := by decide +kernel
theorem d_M_init_76 : decode prog_5_method_1_code 76 = .ok (.newarray .int, 2) := by decide +kernel
theorem d_M_init_78 : decode prog_5_method_1_code 78 = .ok (.putfield 38, 3) := by decide +kernel
theorem d_M_init_81 : decode prog_5_method_1_code 81 = .ok (.aload_n 0, 1) := by decide +kernel
theorem d_M_init_82 : decode prog_5_method_1_code 82 = .ok (.bipush 100, 2) := by decide +kernel
theorem d_M_init_84 : decode prog_5_method_1_code 84 = .ok (.newarray .int, 2) := by decide +kernel
theorem d_M_init_86 : decode prog_5_method_1_code 86 = .ok (.putfield 41, 3) := by decide +kernel
theorem d_M_init_89 : decode prog_5_method_1_code 89 = .ok (.aload_n 0, 1) := by decide +kernel
theorem d_M_init_90 : decode prog_5_method_1_code 90 = .ok (.bipush 100, 2) := by decide +kernel
theorem d_M_init_92 : decode prog_5_method_1_code 92 = .ok (.newarray .int, 2) := by decide +kernel
theorem d_M_init_94 : decode prog_5_method_1_code 94 = .ok (.putfield 44, 3) := by decide +kernel
theorem d_M_init_97 : decode prog_5_method_1_code 97 = .ok (.aload_n 0, 1) := by decide +kernel
theorem d_M_init_98 : decode prog_5_method_1_code 98 = .ok (.bipush 24, 2) := by decide +kernel
theorem d_M_init_100 : decode prog_5_method_1_code 100 = .ok (.newarray .int, 2) := by decide +kernel
theorem d_M_init_102 : decode prog_5_method_1_code 102 = .ok (.putfield 47, 3) := by decide +kernel
theorem d_M_init_105 : decode prog_5_method_1_code 105 = .ok (.aload_n 0, 1) := by decide +kernel
theorem d_M_init_106 : decode prog_5_method_1_code 106 = .ok (.iconst 4, 1) := by decide +kernel
theorem d_M_init_107 : decode prog_5_method_1_code 107 = .ok (.newarray .int, 2) := by decide +kernel
theorem d_M_init_109 : decode prog_5_method_1_code 109 = .ok (.putfield 50, 3) := by decide +kernel
theorem d_M_init_112 : decode prog_5_method_1_code 112 = .ok (.aload_n 0, 1) := by decide +kernel
theorem d_M_init_113 : decode prog_5_method_1_code 113 = .ok (.iconst 4, 1) := by decide +kernel
theorem d_M_init_114 : decode prog_5_method_1_code 114 = .ok (.newarray .long, 2) := by decide +kernel
theorem d_M_init_116 : decode prog_5_method_1_code 116 = .ok (.putfield 53, 3) := by decide +kernel
theorem d_M_init_119 : decode prog_5_method_1_code 119 = .ok (.aload_n 0, 1) := by decide +kernel
theorem d_M_init_120 : decode prog_5_method_1_code 120 = .ok (.bipush 16, 2) := by decide +kernel
theorem d_M_init_122 : decode prog_5_method_1_code 122 = .ok (.newarray .long, 2) := by decide +kernel
theorem d_M_init_124 : decode prog_5_method_1_code 124 = .ok (.putfield 56, 3) := by decide +kernel
theorem d_M_init_127 : decode prog_5_method_1_code 127 = .ok (.aload_n 0, 1) := by decide +kernel
theorem d_M_init_128 : decode prog_5_method_1_code 128 = .ok (.iconst 4, 1) := by decide +kernel
theorem d_M_init_129 : decode prog_5_method_1_code 129 = .ok (.newarray .int, 2) := by decide +kernel
theorem d_M_init_131 : decode prog_5_method_1_code 131 = .ok (.putfield 59, 3) := by decide +kernel
theorem d_M_init_134 : decode prog_5_method_1_code 134 = .ok (.aload_n 0, 1) := by decide +kernel
theorem d_M_init_135 : decode prog_5_method_1_code 135 = .ok (.iload_n 1, 1) := by decide +kernel
theorem d_M_init_136 : decode prog_5_method_1_code 136 = .ok (.iconst 2, 1) := by decide +kernel
theorem d_M_init_137 : decode prog_5_method_1_code 137 = .ok (.if_icmp .ge 7, 3) := by decide +kernel
theorem d_M_init_140 : decode prog_5_method_1_code 140 = .ok (.iconst 2, 1) := by decide +kernel
theorem d_M_init_141 : decode prog_5_method_1_code 141 = .ok (.goto 13, 3) := by decide +kernel
theorem d_M_init_144 : decode prog_5_method_1_code 144 = .ok (.iload_n 1, 1) := by decide +kernel
theorem d_M_init_145 : decode prog_5_method_1_code 145 = .ok (.iconst 4, 1) := by decide +kernel
theorem d_M_init_146 : decode prog_5_method_1_code 146 = .ok (.if_icmp .le 7, 3) := by decide +kernel
theorem d_M_init_149 : decode prog_5_method_1_code 149 = .ok (.iconst 4, 1) := by decide +kernel
theorem d_M_init_150 : decode prog_5_method_1_code 150 = .ok (.goto 4, 3) := by decide +kernel
theorem d_M_init_153 : decode prog_5_method_1_code 153 = .ok (.iload_n 1, 1) := by decide +kernel
theorem d_M_init_154 : decode prog_5_method_1_code 154 = .ok (.putfield 62, 3) := by decide +kernel
theorem d_M_init_157 : decode prog_5_method_1_code 157 = .ok (.iconst 0, 1) := by decide +kernel
theorem d_M_init_158 : decode prog_5_method_1_code 158 = .ok (.istore_n 2, 1) := by decide +kernel
theorem d_M_init_159 : decode prog_5_method_1_code 159 = .ok (.iload_n 2, 1) := by decide +kernel
theorem d_M_init_160 : decode prog_5_method_1_code 160 = .ok (.iconst 4, 1) := by decide +kernel
theorem d_M_init_161 : decode prog_5_method_1_code 161 = .ok (.if_icmp .ge 18, 3) := by decide +kernel
theorem d_M_init_164 : decode prog_5_method_1_code 164 = .ok (.aload_n 0, 1) := by decide +kernel
theorem d_M_init_165 : decode prog_5_method_1_code 165 = .ok (.getfield 16, 3) := by decide +kernel
theorem d_M_init_168 : decode prog_5_method_1_code 168 = .ok (.iload_n 2, 1) := by decide +kernel
theorem d_M_init_169 : decode prog_5_method_1_code 169 = .ok (.ldc2_w 66, 3) := by decide +kernel
theorem d_M_init_172 : decode prog_5_method_1_code 172 = .ok (.lastore, 1) := by decide +kernel
theorem d_M_init_173 : decode prog_5_method_1_code 173 = .ok (.iinc 2 1, 3) := by decide +kernel
theorem d_M_init_176 : decode prog_5_method_1_code 176 = .ok (.goto (-17), 3) := by decide +kernel
theorem d_M_init_179 : decode prog_5_method_1_code 179 = .ok (.iconst 0, 1) := by decide +kernel
theorem d_M_init_180 : decode prog_5_method_1_code 180 = .ok (.istore_n 2, 1) := by decide +kernel
theorem d_M_init_181 : decode prog_5_method_1_code 181 = .ok (.iload_n 2, 1) := by decide +kernel
theorem d_M_init_182 : decode prog_5_method_1_code 182 = .ok (.bipush 16, 2) := by decide +kernel
theorem d_M_init_184 : decode prog_5_method_1_code 184 = .ok (.if_icmp .ge 18, 3) := by decide +kernel
theorem d_M_init_187 : decode prog_5_method_1_code 187 = .ok (.aload_n 0, 1) := by decide +kernel
theorem d_M_init_188 : decode prog_5_method_1_code 188 = .ok (.getfield 19, 3) := by decide +kernel
theorem d_M_init_191 : decode prog_5_method_1_code 191 = .ok (.iload_n 2, 1) := by decide +kernel
theorem d_M_init_192 : decode prog_5_method_1_code 192 = .ok (.ldc2_w 66, 3) := by decide +kernel
theorem d_M_init_195 : decode prog_5_method_1_code 195 = .ok (.lastore, 1) := by decide +kernel
theorem d_M_init_196 : decode prog_5_method_1_code 196 = .ok (.iinc 2 1, 3) := by decide +kernel
theorem d_M_init_199 : decode prog_5_method_1_code 199 = .ok (.goto (-18), 3) := by decide +kernel
theorem d_M_init_202 : decode prog_5_method_1_code 202 = .ok (.return_, 1) := by decide +kernel
abbrev y_X_pay : MethodName := ⟨"GridlockDesk", "pay", "(IIJII)I"⟩
abbrev ws_X_pay : List Cond := .code y_X_pay prog_1_method_6_code 10 (some .int) :: TB
theorem d_X_pay_0 : decode prog_1_method_6_code 0 = .ok (.aload_n 0, 1) := by decide +kernel
theorem d_X_pay_1 : decode prog_1_method_6_code 1 = .ok (.iload_n 1, 1) := by decide +kernel
theorem d_X_pay_2 : decode prog_1_method_6_code 2 = .ok (.iload_n 2, 1) := by decide +kernel
theorem d_X_pay_3 : decode prog_1_method_6_code 3 = .ok (.invokevirtual 57, 3) := by decide +kernel
theorem d_X_pay_6 : decode prog_1_method_6_code 6 = .ok (.ifCond .eq 38, 3) := by decide +kernel
theorem d_X_pay_9 : decode prog_1_method_6_code 9 = .ok (.lload_n 3, 1) := by decide +kernel
theorem d_X_pay_10 : decode prog_1_method_6_code 10 = .ok (.lconst 1, 1) := by decide +kernel
theorem d_X_pay_11 : decode prog_1_method_6_code 11 = .ok (.lcmp, 1) := by decide +kernel
theorem d_X_pay_12 : decode prog_1_method_6_code 12 = .ok (.ifCond .lt 32, 3) := by decide +kernel
theorem d_X_pay_15 : decode prog_1_method_6_code 15 = .ok (.lload_n 3, 1) := by decide +kernel
theorem d_X_pay_16 : decode prog_1_method_6_code 16 = .ok (.ldc2_w 43, 3) := by decide +kernel
theorem d_X_pay_19 : decode prog_1_method_6_code 19 = .ok (.lcmp, 1) := by decide +kernel
theorem d_X_pay_20 : decode prog_1_method_6_code 20 = .ok (.ifCond .gt 24, 3) := by decide +kernel
theorem d_X_pay_23 : decode prog_1_method_6_code 23 = .ok (.iload 5, 2) := by decide +kernel
theorem d_X_pay_25 : decode prog_1_method_6_code 25 = .ok (.invokestatic 84, 3) := by decide +kernel
theorem d_X_pay_28 : decode prog_1_method_6_code 28 = .ok (.ifCond .eq 16, 3) := by decide +kernel
theorem d_X_pay_31 : decode prog_1_method_6_code 31 = .ok (.iload 6, 2) := by decide +kernel
theorem d_X_pay_33 : decode prog_1_method_6_code 33 = .ok (.aload_n 0, 1) := by decide +kernel
theorem d_X_pay_34 : decode prog_1_method_6_code 34 = .ok (.getfield 87, 3) := by decide +kernel
theorem d_X_pay_37 : decode prog_1_method_6_code 37 = .ok (.if_icmp .lt 7, 3) := by decide +kernel
theorem d_X_pay_40 : decode prog_1_method_6_code 40 = .ok (.iconst 1, 1) := by decide +kernel
theorem d_X_pay_41 : decode prog_1_method_6_code 41 = .ok (.goto 4, 3) := by decide +kernel
theorem d_X_pay_44 : decode prog_1_method_6_code 44 = .ok (.iconst 0, 1) := by decide +kernel
theorem d_X_pay_45 : decode prog_1_method_6_code 45 = .ok (.istore 7, 2) := by decide +kernel
theorem d_X_pay_47 : decode prog_1_method_6_code 47 = .ok (.iload 7, 2) := by decide +kernel
theorem d_X_pay_49 : decode prog_1_method_6_code 49 = .ok (.ifCond .ne 5, 3) := by decide +kernel
theorem d_X_pay_52 : decode prog_1_method_6_code 52 = .ok (.iconst (-1), 1) := by decide +kernel
theorem d_X_pay_53 : decode prog_1_method_6_code 53 = .ok (.ireturn, 1) := by decide +kernel
theorem d_X_pay_54 : decode prog_1_method_6_code 54 = .ok (.aload_n 0, 1) := by decide +kernel
theorem d_X_pay_55 : decode prog_1_method_6_code 55 = .ok (.getfield 91, 3) := by decide +kernel
theorem d_X_pay_58 : decode prog_1_method_6_code 58 = .ok (.bipush 100, 2) := by decide +kernel
theorem d_X_pay_60 : decode prog_1_method_6_code 60 = .ok (.if_icmp .lt 6, 3) := by decide +kernel
theorem d_X_pay_63 : decode prog_1_method_6_code 63 = .ok (.bipush (-3), 2) := by decide +kernel
theorem d_X_pay_65 : decode prog_1_method_6_code 65 = .ok (.ireturn, 1) := by decide +kernel
theorem d_X_pay_66 : decode prog_1_method_6_code 66 = .ok (.aload_n 0, 1) := by decide +kernel
theorem d_X_pay_67 : decode prog_1_method_6_code 67 = .ok (.getfield 20, 3) := by decide +kernel
theorem d_X_pay_70 : decode prog_1_method_6_code 70 = .ok (.iload_n 1, 1) := by decide +kernel
theorem d_X_pay_71 : decode prog_1_method_6_code 71 = .ok (.aaload, 1) := by decide +kernel
theorem d_X_pay_72 : decode prog_1_method_6_code 72 = .ok (.getfield 94, 3) := by decide +kernel
theorem d_X_pay_75 : decode prog_1_method_6_code 75 = .ok (.bipush 6, 2) := by decide +kernel
theorem d_X_pay_77 : decode prog_1_method_6_code 77 = .ok (.if_icmp .lt 6, 3) := by decide +kernel
theorem d_X_pay_80 : decode prog_1_method_6_code 80 = .ok (.bipush (-2), 2) := by decide +kernel
theorem d_X_pay_82 : decode prog_1_method_6_code 82 = .ok (.ireturn, 1) := by decide +kernel
theorem d_X_pay_83 : decode prog_1_method_6_code 83 = .ok (.aload_n 0, 1) := by decide +kernel
theorem d_X_pay_84 : decode prog_1_method_6_code 84 = .ok (.getfield 91, 3) := by decide +kernel
theorem d_X_pay_87 : decode prog_1_method_6_code 87 = .ok (.istore 8, 2) := by decide +kernel
theorem d_X_pay_89 : decode prog_1_method_6_code 89 = .ok (.new 27, 3) := by decide +kernel
theorem d_X_pay_92 : decode prog_1_method_6_code 92 = .ok (.dup, 1) := by decide +kernel
theorem d_X_pay_93 : decode prog_1_method_6_code 93 = .ok (.iload 8, 2) := by decide +kernel
theorem d_X_pay_95 : decode prog_1_method_6_code 95 = .ok (.iload_n 1, 1) := by decide +kernel
theorem d_X_pay_96 : decode prog_1_method_6_code 96 = .ok (.iload_n 2, 1) := by decide +kernel
theorem d_X_pay_97 : decode prog_1_method_6_code 97 = .ok (.lload_n 3, 1) := by decide +kernel
theorem d_X_pay_98 : decode prog_1_method_6_code 98 = .ok (.iload 5, 2) := by decide +kernel
theorem d_X_pay_100 : decode prog_1_method_6_code 100 = .ok (.iload 6, 2) := by decide +kernel
theorem d_X_pay_102 : decode prog_1_method_6_code 102 = .ok (.invokespecial 97, 3) := by decide +kernel
theorem d_X_pay_105 : decode prog_1_method_6_code 105 = .ok (.astore 9, 2) := by decide +kernel
theorem d_X_pay_107 : decode prog_1_method_6_code 107 = .ok (.aload_n 0, 1) := by decide +kernel
theorem d_X_pay_108 : decode prog_1_method_6_code 108 = .ok (.getfield 29, 3) := by decide +kernel
theorem d_X_pay_111 : decode prog_1_method_6_code 111 = .ok (.iload 8, 2) := by decide +kernel
theorem d_X_pay_113 : decode prog_1_method_6_code 113 = .ok (.aload 9, 2) := by decide +kernel
theorem d_X_pay_115 : decode prog_1_method_6_code 115 = .ok (.aastore, 1) := by decide +kernel
theorem d_X_pay_116 : decode prog_1_method_6_code 116 = .ok (.aload_n 0, 1) := by decide +kernel
theorem d_X_pay_117 : decode prog_1_method_6_code 117 = .ok (.dup, 1) := by decide +kernel
theorem d_X_pay_118 : decode prog_1_method_6_code 118 = .ok (.getfield 91, 3) := by decide +kernel
theorem d_X_pay_121 : decode prog_1_method_6_code 121 = .ok (.iconst 1, 1) := by decide +kernel
theorem d_X_pay_122 : decode prog_1_method_6_code 122 = .ok (.iadd, 1) := by decide +kernel
theorem d_X_pay_123 : decode prog_1_method_6_code 123 = .ok (.putfield 91, 3) := by decide +kernel
theorem d_X_pay_126 : decode prog_1_method_6_code 126 = .ok (.aload_n 0, 1) := by decide +kernel
theorem d_X_pay_127 : decode prog_1_method_6_code 127 = .ok (.getfield 20, 3) := by decide +kernel
theorem d_X_pay_130 : decode prog_1_method_6_code 130 = .ok (.iload_n 1, 1) := by decide +kernel
theorem d_X_pay_131 : decode prog_1_method_6_code 131 = .ok (.aaload, 1) := by decide +kernel
theorem d_X_pay_132 : decode prog_1_method_6_code 132 = .ok (.aload 9, 2) := by decide +kernel
theorem d_X_pay_134 : decode prog_1_method_6_code 134 = .ok (.invokevirtual 100, 3) := by decide +kernel
theorem d_X_pay_137 : decode prog_1_method_6_code 137 = .ok (.aload_n 0, 1) := by decide +kernel
theorem d_X_pay_138 : decode prog_1_method_6_code 138 = .ok (.invokevirtual 52, 3) := by decide +kernel
theorem d_X_pay_141 : decode prog_1_method_6_code 141 = .ok (.iload 8, 2) := by decide +kernel
theorem d_X_pay_143 : decode prog_1_method_6_code 143 = .ok (.ireturn, 1) := by decide +kernel
abbrev y_L_cell : MethodName := ⟨"GridlockDeskLaw", "cell", "([II)I"⟩
abbrev ws_L_cell : List Cond := .code y_L_cell method_2_code 2 (some .int) :: TB
theorem d_L_cell_0 : decode method_2_code 0 = .ok (.iload_n 1, 1) := by decide +kernel
theorem d_L_cell_1 : decode method_2_code 1 = .ok (.aload_n 0, 1) := by decide +kernel
theorem d_L_cell_2 : decode method_2_code 2 = .ok (.arraylength, 1) := by decide +kernel
theorem d_L_cell_3 : decode method_2_code 3 = .ok (.if_icmp .ge 9, 3) := by decide +kernel
theorem d_L_cell_6 : decode method_2_code 6 = .ok (.aload_n 0, 1) := by decide +kernel
theorem d_L_cell_7 : decode method_2_code 7 = .ok (.iload_n 1, 1) := by decide +kernel
theorem d_L_cell_8 : decode method_2_code 8 = .ok (.iaload, 1) := by decide +kernel
theorem d_L_cell_9 : decode method_2_code 9 = .ok (.goto 4, 3) := by decide +kernel
theorem d_L_cell_12 : decode method_2_code 12 = .ok (.iconst 0, 1) := by decide +kernel
theorem d_L_cell_13 : decode method_2_code 13 = .ok (.ireturn, 1) := by decide +kernel
