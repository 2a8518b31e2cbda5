theorem tw_0 : .selects "GridlockDesk" ⟨"GridlockDesk", "isBank", "(I)Z"⟩ ⟨"GridlockDesk", "isBank", "(I)Z"⟩ ∈ TB := tb_in 0 (by decide +kernel) (by decide +kernel)
theorem tw_1 : .selects "GridlockDesk" ⟨"GridlockDesk", "sweep", "()V"⟩ ⟨"GridlockDesk", "sweep", "()V"⟩ ∈ TB := tb_in 1 (by decide +kernel) (by decide +kernel)
theorem tw_2 : .selects "GridlockDesk" ⟨"GridlockDesk", "chooseReadyHead", "()Z"⟩ ⟨"GridlockDesk", "chooseReadyHead", "()Z"⟩ ∈ TB := tb_in 2 (by decide +kernel) (by decide +kernel)
theorem tw_3 : .selects "GridlockDesk" ⟨"GridlockDesk", "chooseHeads", "(II)Z"⟩ ⟨"GridlockDesk", "chooseHeads", "(II)Z"⟩ ∈ TB := tb_in 3 (by decide +kernel) (by decide +kernel)
theorem tw_4 : .selects "GridlockDesk" ⟨"GridlockDesk", "firstUnwellBank", "()I"⟩ ⟨"GridlockDesk", "firstUnwellBank", "()I"⟩ ∈ TB := tb_in 4 (by decide +kernel) (by decide +kernel)
theorem tw_5 : .selects "GridlockDesk" ⟨"GridlockDesk", "wouldBeWell", "(I)Z"⟩ ⟨"GridlockDesk", "wouldBeWell", "(I)Z"⟩ ∈ TB := tb_in 5 (by decide +kernel) (by decide +kernel)
theorem tw_6 : .selects "GridlockDesk" ⟨"GridlockDesk", "positionOf", "(II)J"⟩ ⟨"GridlockDesk", "positionOf", "(II)J"⟩ ∈ TB := tb_in 6 (by decide +kernel) (by decide +kernel)
theorem tw_7 : .selects "GridlockDesk" ⟨"GridlockDesk", "settleChosen", "(I)I"⟩ ⟨"GridlockDesk", "settleChosen", "(I)I"⟩ ∈ TB := tb_in 7 (by decide +kernel) (by decide +kernel)
theorem tw_8 : .selects "GridlockDesk" ⟨"GridlockDesk", "settle", "(LGridlockDesk$Payment;I)V"⟩ ⟨"GridlockDesk", "settle", "(LGridlockDesk$Payment;I)V"⟩ ∈ TB := tb_in 8 (by decide +kernel) (by decide +kernel)
theorem tw_9 : .selects "GridlockDesk" ⟨"GridlockDesk", "end", "(LGridlockDesk$Payment;I)V"⟩ ⟨"GridlockDesk", "end", "(LGridlockDesk$Payment;I)V"⟩ ∈ TB := tb_in 9 (by decide +kernel) (by decide +kernel)
theorem tw_10 : .selects "GridlockDesk" ⟨"GridlockDesk", "chooseReadyPair", "()Z"⟩ ⟨"GridlockDesk", "chooseReadyPair", "()Z"⟩ ∈ TB := tb_in 10 (by decide +kernel) (by decide +kernel)
theorem tw_11 : .selects "GridlockDesk" ⟨"GridlockDesk", "areTwoBanks", "(II)Z"⟩ ⟨"GridlockDesk", "areTwoBanks", "(II)Z"⟩ ∈ TB := tb_in 11 (by decide +kernel) (by decide +kernel)
theorem tw_12 : .selects "GridlockDesk" ⟨"GridlockDesk", "totalPositionOf", "(I)J"⟩ ⟨"GridlockDesk", "totalPositionOf", "(I)J"⟩ ∈ TB := tb_in 12 (by decide +kernel) (by decide +kernel)
theorem tw_13 : .selects "GridlockDesk" ⟨"GridlockDesk", "isQueued", "(I)Z"⟩ ⟨"GridlockDesk", "isQueued", "(I)Z"⟩ ∈ TB := tb_in 13 (by decide +kernel) (by decide +kernel)
theorem tw_14 : .selects "GridlockDesk" ⟨"GridlockDesk", "isPayment", "(I)Z"⟩ ⟨"GridlockDesk", "isPayment", "(I)Z"⟩ ∈ TB := tb_in 14 (by decide +kernel) (by decide +kernel)
theorem tw_15 : .selects "GridlockDesk" ⟨"GridlockDesk", "chooseGreatest", "()V"⟩ ⟨"GridlockDesk", "chooseGreatest", "()V"⟩ ∈ TB := tb_in 15 (by decide +kernel) (by decide +kernel)
theorem tw_16 : .selects "GridlockDeskModel" ⟨"GridlockDeskModel", "lineUp", "()V"⟩ ⟨"GridlockDeskModel", "lineUp", "()V"⟩ ∈ TB := tb_in 16 (by decide +kernel) (by decide +kernel)
theorem tw_17 : .selects "GridlockDeskModel" ⟨"GridlockDeskModel", "before", "(II)Z"⟩ ⟨"GridlockDeskModel", "before", "(II)Z"⟩ ∈ TB := tb_in 17 (by decide +kernel) (by decide +kernel)
theorem tw_18 : .selects "GridlockDeskModel" ⟨"GridlockDeskModel", "good", "(I)Z"⟩ ⟨"GridlockDeskModel", "good", "(I)Z"⟩ ∈ TB := tb_in 18 (by decide +kernel) (by decide +kernel)
theorem tw_19 : .selects "GridlockDeskModel" ⟨"GridlockDeskModel", "now0", "()V"⟩ ⟨"GridlockDeskModel", "now0", "()V"⟩ ∈ TB := tb_in 19 (by decide +kernel) (by decide +kernel)
theorem tw_20 : .selects "GridlockDeskModel" ⟨"GridlockDeskModel", "plan", "(I)V"⟩ ⟨"GridlockDeskModel", "plan", "(I)V"⟩ ∈ TB := tb_in 20 (by decide +kernel) (by decide +kernel)
theorem tw_21 : .selects "GridlockDeskModel" ⟨"GridlockDeskModel", "allWell", "()Z"⟩ ⟨"GridlockDeskModel", "allWell", "()Z"⟩ ∈ TB := tb_in 21 (by decide +kernel) (by decide +kernel)
theorem tw_22 : .selects "GridlockDeskModel" ⟨"GridlockDeskModel", "settle", "(II)V"⟩ ⟨"GridlockDeskModel", "settle", "(II)V"⟩ ∈ TB := tb_in 22 (by decide +kernel) (by decide +kernel)
theorem tw_23 : .selects "GridlockDeskModel" ⟨"GridlockDeskModel", "sweep", "()V"⟩ ⟨"GridlockDeskModel", "sweep", "()V"⟩ ∈ TB := tb_in 23 (by decide +kernel) (by decide +kernel)
theorem tw_24 : .selects "GridlockDeskModel" ⟨"GridlockDeskModel", "alone", "()Z"⟩ ⟨"GridlockDeskModel", "alone", "()Z"⟩ ∈ TB := tb_in 24 (by decide +kernel) (by decide +kernel)
theorem tw_25 : .selects "GridlockDeskModel" ⟨"GridlockDeskModel", "ready", "(II)Z"⟩ ⟨"GridlockDeskModel", "ready", "(II)Z"⟩ ∈ TB := tb_in 25 (by decide +kernel) (by decide +kernel)
theorem tw_26 : .selects "GridlockDeskModel" ⟨"GridlockDeskModel", "pair", "()Z"⟩ ⟨"GridlockDeskModel", "pair", "()Z"⟩ ∈ TB := tb_in 26 (by decide +kernel) (by decide +kernel)
theorem tw_27 : .selects "GridlockDeskModel" ⟨"GridlockDeskModel", "isBank", "(I)Z"⟩ ⟨"GridlockDeskModel", "isBank", "(I)Z"⟩ ∈ TB := tb_in 27 (by decide +kernel) (by decide +kernel)
theorem tw_28 : .selects "GridlockDeskModel" ⟨"GridlockDeskModel", "queuedAt", "(I)I"⟩ ⟨"GridlockDeskModel", "queuedAt", "(I)I"⟩ ∈ TB := tb_in 28 (by decide +kernel) (by decide +kernel)
theorem tw_29 : .selects "GridlockDeskModel" ⟨"GridlockDeskModel", "isQueued", "(I)Z"⟩ ⟨"GridlockDeskModel", "isQueued", "(I)Z"⟩ ∈ TB := tb_in 29 (by decide +kernel) (by decide +kernel)
theorem tw_31 : .initialized "GridlockDesk" ∈ TB := tb_in 31 (by decide +kernel) (by decide +kernel)
theorem tw_33 : .initialized "GridlockDesk$Bank" ∈ TB := tb_in 33 (by decide +kernel) (by decide +kernel)
theorem tw_34 : .initialized "java/util/Arrays" ∈ TB := tb_in 34 (by decide +kernel) (by decide +kernel)
theorem tw_35 : .initialized "GridlockDeskModel" ∈ TB := tb_in 35 (by decide +kernel) (by decide +kernel)
theorem tw_60 : .static ⟨"java/util/Arrays", "fill", "([JJ)V"⟩ ∈ TB := tb_in 60 (by decide +kernel) (by decide +kernel)
theorem tw_61 : .code ⟨"java/util/Arrays", "fill", "([JJ)V"⟩ prog_7_method_101_code 5 none ∈ TB := tb_in 61 (by decide +kernel) (by decide +kernel)
theorem tw_64 : .fieldLink "GridlockDesk" 45 "GridlockDesk$Bank" "balance" "J" ∈ TB := tb_in 64 (by decide +kernel) (by decide +kernel)
theorem tw_65 : .fieldLink "GridlockDesk" 49 "GridlockDesk$Bank" "creditLine" "J" ∈ TB := tb_in 65 (by decide +kernel) (by decide +kernel)
theorem tw_67 : .fieldLink "GridlockDesk" 81 "GridlockDesk$Bank" "totalLimit" "J" ∈ TB := tb_in 67 (by decide +kernel) (by decide +kernel)
theorem tw_69 : .fieldLink "GridlockDesk" 73 "GridlockDesk$Bank" "limits" "[J" ∈ TB := tb_in 69 (by decide +kernel) (by decide +kernel)
theorem tw_70 : .fieldLink "GridlockDesk$Bank" 27 "GridlockDesk$Bank" "sent" "[J" ∈ TB := tb_in 70 (by decide +kernel) (by decide +kernel)
theorem tw_71 : .fieldLink "GridlockDesk" 130 "GridlockDesk$Bank" "sent" "[J" ∈ TB := tb_in 71 (by decide +kernel) (by decide +kernel)
theorem tw_72 : .fieldLink "GridlockDesk$Bank" 32 "GridlockDesk$Bank" "queue" "[LGridlockDesk$Payment;" ∈ TB := tb_in 72 (by decide +kernel) (by decide +kernel)
theorem tw_73 : .fieldLink "GridlockDesk" 139 "GridlockDesk$Bank" "queue" "[LGridlockDesk$Payment;" ∈ TB := tb_in 73 (by decide +kernel) (by decide +kernel)
theorem tw_74 : .fieldLink "GridlockDesk$Bank" 36 "GridlockDesk$Bank" "queueLength" "I" ∈ TB := tb_in 74 (by decide +kernel) (by decide +kernel)
theorem tw_75 : .fieldLink "GridlockDesk" 94 "GridlockDesk$Bank" "queueLength" "I" ∈ TB := tb_in 75 (by decide +kernel) (by decide +kernel)
theorem tw_93 : .fieldLink "GridlockDesk" 20 "GridlockDesk" "banks" "[LGridlockDesk$Bank;" ∈ TB := tb_in 93 (by decide +kernel) (by decide +kernel)
theorem tw_94 : .fieldLink "GridlockDesk" 29 "GridlockDesk" "payments" "[LGridlockDesk$Payment;" ∈ TB := tb_in 94 (by decide +kernel) (by decide +kernel)
theorem tw_95 : .fieldLink "GridlockDesk" 91 "GridlockDesk" "paymentCount" "I" ∈ TB := tb_in 95 (by decide +kernel) (by decide +kernel)
theorem tw_96 : .fieldLink "GridlockDesk" 151 "GridlockDesk" "settledSum" "J" ∈ TB := tb_in 96 (by decide +kernel) (by decide +kernel)
theorem tw_97 : .fieldLink "GridlockDesk" 87 "GridlockDesk" "time" "I" ∈ TB := tb_in 97 (by decide +kernel) (by decide +kernel)
theorem tw_98 : .fieldLink "GridlockDesk" 33 "GridlockDesk" "chosen" "[I" ∈ TB := tb_in 98 (by decide +kernel) (by decide +kernel)
theorem tw_117 : .methodLink "GridlockDesk" 37 ⟨"GridlockDesk", "isBank", "(I)Z"⟩ ∈ TB := tb_in 117 (by decide +kernel) (by decide +kernel)
theorem tw_119 : .instanceMethod ⟨"GridlockDesk", "isBank", "(I)Z"⟩ ∈ TB := tb_in 119 (by decide +kernel) (by decide +kernel)
theorem tw_120 : .code ⟨"GridlockDesk", "isBank", "(I)Z"⟩ prog_1_method_19_code 2 (some .boolean) ∈ TB := tb_in 120 (by decide +kernel) (by decide +kernel)
theorem tw_121 : .constantLong "GridlockDesk" 41 (-1000000000000) ∈ TB := tb_in 121 (by decide +kernel) (by decide +kernel)
theorem tw_122 : .constantLong "GridlockDesk" 43 1000000000000 ∈ TB := tb_in 122 (by decide +kernel) (by decide +kernel)
theorem tw_123 : .methodLink "GridlockDesk" 52 ⟨"GridlockDesk", "sweep", "()V"⟩ ∈ TB := tb_in 123 (by decide +kernel) (by decide +kernel)
theorem tw_125 : .instanceMethod ⟨"GridlockDesk", "sweep", "()V"⟩ ∈ TB := tb_in 125 (by decide +kernel) (by decide +kernel)
theorem tw_126 : .code ⟨"GridlockDesk", "sweep", "()V"⟩ prog_1_method_28_code 2 none ∈ TB := tb_in 126 (by decide +kernel) (by decide +kernel)
theorem tw_127 : .methodLink "GridlockDesk" 156 ⟨"GridlockDesk", "chooseReadyHead", "()Z"⟩ ∈ TB := tb_in 127 (by decide +kernel) (by decide +kernel)
theorem tw_129 : .instanceMethod ⟨"GridlockDesk", "chooseReadyHead", "()Z"⟩ ∈ TB := tb_in 129 (by decide +kernel) (by decide +kernel)
theorem tw_130 : .code ⟨"GridlockDesk", "chooseReadyHead", "()Z"⟩ prog_1_method_29_code 2 (some .boolean) ∈ TB := tb_in 130 (by decide +kernel) (by decide +kernel)
theorem tw_131 : .methodLink "GridlockDesk" 163 ⟨"GridlockDesk", "chooseHeads", "(II)Z"⟩ ∈ TB := tb_in 131 (by decide +kernel) (by decide +kernel)
theorem tw_133 : .instanceMethod ⟨"GridlockDesk", "chooseHeads", "(II)Z"⟩ ∈ TB := tb_in 133 (by decide +kernel) (by decide +kernel)
theorem tw_134 : .code ⟨"GridlockDesk", "chooseHeads", "(II)Z"⟩ prog_1_method_31_code 3 (some .boolean) ∈ TB := tb_in 134 (by decide +kernel) (by decide +kernel)
theorem tw_135 : .methodLink "GridlockDesk" 170 ⟨"java/util/Arrays", "fill", "([II)V"⟩ ∈ TB := tb_in 135 (by decide +kernel) (by decide +kernel)
theorem tw_136 : .static ⟨"java/util/Arrays", "fill", "([II)V"⟩ ∈ TB := tb_in 136 (by decide +kernel) (by decide +kernel)
theorem tw_137 : .code ⟨"java/util/Arrays", "fill", "([II)V"⟩ prog_7_method_103_code 4 none ∈ TB := tb_in 137 (by decide +kernel) (by decide +kernel)
theorem tw_138 : .methodLink "GridlockDesk" 173 ⟨"GridlockDesk", "firstUnwellBank", "()I"⟩ ∈ TB := tb_in 138 (by decide +kernel) (by decide +kernel)
theorem tw_140 : .instanceMethod ⟨"GridlockDesk", "firstUnwellBank", "()I"⟩ ∈ TB := tb_in 140 (by decide +kernel) (by decide +kernel)
theorem tw_141 : .code ⟨"GridlockDesk", "firstUnwellBank", "()I"⟩ prog_1_method_33_code 2 (some .int) ∈ TB := tb_in 141 (by decide +kernel) (by decide +kernel)
theorem tw_142 : .methodLink "GridlockDesk" 176 ⟨"GridlockDesk", "wouldBeWell", "(I)Z"⟩ ∈ TB := tb_in 142 (by decide +kernel) (by decide +kernel)
theorem tw_144 : .instanceMethod ⟨"GridlockDesk", "wouldBeWell", "(I)Z"⟩ ∈ TB := tb_in 144 (by decide +kernel) (by decide +kernel)
theorem tw_145 : .code ⟨"GridlockDesk", "wouldBeWell", "(I)Z"⟩ prog_1_method_34_code 10 (some .boolean) ∈ TB := tb_in 145 (by decide +kernel) (by decide +kernel)
theorem tw_146 : .methodLink "GridlockDesk" 179 ⟨"GridlockDesk$Bank", "sentWith", "(II)J"⟩ ∈ TB := tb_in 146 (by decide +kernel) (by decide +kernel)
theorem tw_147 : .instanceMethod ⟨"GridlockDesk$Bank", "sentWith", "(II)J"⟩ ∈ TB := tb_in 147 (by decide +kernel) (by decide +kernel)
theorem tw_148 : .selects "GridlockDesk$Bank" ⟨"GridlockDesk$Bank", "sentWith", "(II)J"⟩ ⟨"GridlockDesk$Bank", "sentWith", "(II)J"⟩ ∈ TB := tb_in 148 (by decide +kernel) (by decide +kernel)
theorem tw_149 : .code ⟨"GridlockDesk$Bank", "sentWith", "(II)J"⟩ prog_2_method_5_code 6 (some .long) ∈ TB := tb_in 149 (by decide +kernel) (by decide +kernel)
theorem tw_150 : .methodLink "GridlockDesk" 69 ⟨"GridlockDesk", "exceeds", "(JJ)Z"⟩ ∈ TB := tb_in 150 (by decide +kernel) (by decide +kernel)
theorem tw_151 : .static ⟨"GridlockDesk", "exceeds", "(JJ)Z"⟩ ∈ TB := tb_in 151 (by decide +kernel) (by decide +kernel)
theorem tw_152 : .code ⟨"GridlockDesk", "exceeds", "(JJ)Z"⟩ prog_1_method_25_code 4 (some .boolean) ∈ TB := tb_in 152 (by decide +kernel) (by decide +kernel)
theorem tw_153 : .constantLong "GridlockDesk" 154 (-1) ∈ TB := tb_in 153 (by decide +kernel) (by decide +kernel)
theorem tw_154 : .methodLink "GridlockDesk" 65 ⟨"GridlockDesk", "positionOf", "(II)J"⟩ ∈ TB := tb_in 154 (by decide +kernel) (by decide +kernel)
theorem tw_156 : .instanceMethod ⟨"GridlockDesk", "positionOf", "(II)J"⟩ ∈ TB := tb_in 156 (by decide +kernel) (by decide +kernel)
theorem tw_157 : .code ⟨"GridlockDesk", "positionOf", "(II)J"⟩ prog_1_method_26_code 3 (some .long) ∈ TB := tb_in 157 (by decide +kernel) (by decide +kernel)
theorem tw_158 : .methodLink "GridlockDesk" 123 ⟨"GridlockDesk", "settleChosen", "(I)I"⟩ ∈ TB := tb_in 158 (by decide +kernel) (by decide +kernel)
theorem tw_160 : .instanceMethod ⟨"GridlockDesk", "settleChosen", "(I)I"⟩ ∈ TB := tb_in 160 (by decide +kernel) (by decide +kernel)
theorem tw_161 : .code ⟨"GridlockDesk", "settleChosen", "(I)I"⟩ prog_1_method_35_code 5 (some .int) ∈ TB := tb_in 161 (by decide +kernel) (by decide +kernel)
theorem tw_162 : .methodLink "GridlockDesk" 182 ⟨"GridlockDesk", "settle", "(LGridlockDesk$Payment;I)V"⟩ ∈ TB := tb_in 162 (by decide +kernel) (by decide +kernel)
theorem tw_164 : .instanceMethod ⟨"GridlockDesk", "settle", "(LGridlockDesk$Payment;I)V"⟩ ∈ TB := tb_in 164 (by decide +kernel) (by decide +kernel)
theorem tw_165 : .code ⟨"GridlockDesk", "settle", "(LGridlockDesk$Payment;I)V"⟩ prog_1_method_36_code 4 none ∈ TB := tb_in 165 (by decide +kernel) (by decide +kernel)
theorem tw_166 : .methodLink "GridlockDesk" 107 ⟨"GridlockDesk", "end", "(LGridlockDesk$Payment;I)V"⟩ ∈ TB := tb_in 166 (by decide +kernel) (by decide +kernel)
theorem tw_168 : .instanceMethod ⟨"GridlockDesk", "end", "(LGridlockDesk$Payment;I)V"⟩ ∈ TB := tb_in 168 (by decide +kernel) (by decide +kernel)
theorem tw_169 : .code ⟨"GridlockDesk", "end", "(LGridlockDesk$Payment;I)V"⟩ prog_1_method_37_code 3 none ∈ TB := tb_in 169 (by decide +kernel) (by decide +kernel)
theorem tw_170 : .methodLink "GridlockDesk" 114 ⟨"GridlockDesk$Bank", "remove", "(LGridlockDesk$Payment;)V"⟩ ∈ TB := tb_in 170 (by decide +kernel) (by decide +kernel)
theorem tw_171 : .instanceMethod ⟨"GridlockDesk$Bank", "remove", "(LGridlockDesk$Payment;)V"⟩ ∈ TB := tb_in 171 (by decide +kernel) (by decide +kernel)
theorem tw_172 : .selects "GridlockDesk$Bank" ⟨"GridlockDesk$Bank", "remove", "(LGridlockDesk$Payment;)V"⟩ ⟨"GridlockDesk$Bank", "remove", "(LGridlockDesk$Payment;)V"⟩ ∈ TB := tb_in 172 (by decide +kernel) (by decide +kernel)
theorem tw_173 : .code ⟨"GridlockDesk$Bank", "remove", "(LGridlockDesk$Payment;)V"⟩ prog_2_method_3_code 4 none ∈ TB := tb_in 173 (by decide +kernel) (by decide +kernel)
theorem tw_174 : .methodLink "GridlockDesk" 160 ⟨"GridlockDesk", "chooseReadyPair", "()Z"⟩ ∈ TB := tb_in 174 (by decide +kernel) (by decide +kernel)
theorem tw_176 : .instanceMethod ⟨"GridlockDesk", "chooseReadyPair", "()Z"⟩ ∈ TB := tb_in 176 (by decide +kernel) (by decide +kernel)
theorem tw_177 : .code ⟨"GridlockDesk", "chooseReadyPair", "()Z"⟩ prog_1_method_30_code 3 (some .boolean) ∈ TB := tb_in 177 (by decide +kernel) (by decide +kernel)
theorem tw_178 : .methodLink "GridlockDesk" 166 ⟨"GridlockDesk$Bank", "headGoesTo", "()I"⟩ ∈ TB := tb_in 178 (by decide +kernel) (by decide +kernel)
theorem tw_179 : .instanceMethod ⟨"GridlockDesk$Bank", "headGoesTo", "()I"⟩ ∈ TB := tb_in 179 (by decide +kernel) (by decide +kernel)
theorem tw_180 : .selects "GridlockDesk$Bank" ⟨"GridlockDesk$Bank", "headGoesTo", "()I"⟩ ⟨"GridlockDesk$Bank", "headGoesTo", "()I"⟩ ∈ TB := tb_in 180 (by decide +kernel) (by decide +kernel)
theorem tw_181 : .code ⟨"GridlockDesk$Bank", "headGoesTo", "()I"⟩ prog_2_method_4_code 1 (some .int) ∈ TB := tb_in 181 (by decide +kernel) (by decide +kernel)
theorem tw_186 : .constantLong "GridlockDesk" 55 1000000000000000 ∈ TB := tb_in 186 (by decide +kernel) (by decide +kernel)
theorem tw_191 : .methodLink "GridlockDesk" 57 ⟨"GridlockDesk", "areTwoBanks", "(II)Z"⟩ ∈ TB := tb_in 191 (by decide +kernel) (by decide +kernel)
theorem tw_193 : .instanceMethod ⟨"GridlockDesk", "areTwoBanks", "(II)Z"⟩ ∈ TB := tb_in 193 (by decide +kernel) (by decide +kernel)
theorem tw_194 : .code ⟨"GridlockDesk", "areTwoBanks", "(II)Z"⟩ prog_1_method_20_code 3 (some .boolean) ∈ TB := tb_in 194 (by decide +kernel) (by decide +kernel)
theorem tw_195 : .methodLink "GridlockDesk" 61 ⟨"GridlockDesk", "isLimit", "(J)Z"⟩ ∈ TB := tb_in 195 (by decide +kernel) (by decide +kernel)
theorem tw_196 : .static ⟨"GridlockDesk", "isLimit", "(J)Z"⟩ ∈ TB := tb_in 196 (by decide +kernel) (by decide +kernel)
theorem tw_197 : .code ⟨"GridlockDesk", "isLimit", "(J)Z"⟩ prog_1_method_24_code 2 (some .boolean) ∈ TB := tb_in 197 (by decide +kernel) (by decide +kernel)
theorem tw_202 : .methodLink "GridlockDesk" 77 ⟨"GridlockDesk", "totalPositionOf", "(I)J"⟩ ∈ TB := tb_in 202 (by decide +kernel) (by decide +kernel)
theorem tw_204 : .instanceMethod ⟨"GridlockDesk", "totalPositionOf", "(I)J"⟩ ∈ TB := tb_in 204 (by decide +kernel) (by decide +kernel)
theorem tw_205 : .code ⟨"GridlockDesk", "totalPositionOf", "(I)J"⟩ prog_1_method_27_code 5 (some .long) ∈ TB := tb_in 205 (by decide +kernel) (by decide +kernel)
theorem tw_210 : .methodLink "GridlockDesk" 84 ⟨"GridlockDesk", "isPriority", "(I)Z"⟩ ∈ TB := tb_in 210 (by decide +kernel) (by decide +kernel)
theorem tw_211 : .static ⟨"GridlockDesk", "isPriority", "(I)Z"⟩ ∈ TB := tb_in 211 (by decide +kernel) (by decide +kernel)
theorem tw_212 : .code ⟨"GridlockDesk", "isPriority", "(I)Z"⟩ prog_1_method_23_code 1 (some .boolean) ∈ TB := tb_in 212 (by decide +kernel) (by decide +kernel)
theorem tw_219 : .fieldLink "GridlockDesk" 142 "GridlockDesk$Payment" "number" "I" ∈ TB := tb_in 219 (by decide +kernel) (by decide +kernel)
theorem tw_221 : .fieldLink "GridlockDesk" 111 "GridlockDesk$Payment" "from" "I" ∈ TB := tb_in 221 (by decide +kernel) (by decide +kernel)
theorem tw_223 : .fieldLink "GridlockDesk$Bank" 43 "GridlockDesk$Payment" "to" "I" ∈ TB := tb_in 223 (by decide +kernel) (by decide +kernel)
theorem tw_224 : .fieldLink "GridlockDesk" 188 "GridlockDesk$Payment" "to" "I" ∈ TB := tb_in 224 (by decide +kernel) (by decide +kernel)
theorem tw_226 : .fieldLink "GridlockDesk$Bank" 46 "GridlockDesk$Payment" "amount" "J" ∈ TB := tb_in 226 (by decide +kernel) (by decide +kernel)
theorem tw_227 : .fieldLink "GridlockDesk" 185 "GridlockDesk$Payment" "amount" "J" ∈ TB := tb_in 227 (by decide +kernel) (by decide +kernel)
theorem tw_229 : .fieldLink "GridlockDesk" 127 "GridlockDesk$Payment" "until" "I" ∈ TB := tb_in 229 (by decide +kernel) (by decide +kernel)
theorem tw_231 : .fieldLink "GridlockDesk$Bank" 40 "GridlockDesk$Payment" "priority" "I" ∈ TB := tb_in 231 (by decide +kernel) (by decide +kernel)
theorem tw_232 : .fieldLink "GridlockDesk" 117 "GridlockDesk$Payment" "priority" "I" ∈ TB := tb_in 232 (by decide +kernel) (by decide +kernel)
theorem tw_234 : .fieldLink "GridlockDesk" 148 "GridlockDesk$Payment" "fate" "I" ∈ TB := tb_in 234 (by decide +kernel) (by decide +kernel)
theorem tw_250 : .methodLink "GridlockDesk" 100 ⟨"GridlockDesk$Bank", "enqueue", "(LGridlockDesk$Payment;)V"⟩ ∈ TB := tb_in 250 (by decide +kernel) (by decide +kernel)
theorem tw_251 : .instanceMethod ⟨"GridlockDesk$Bank", "enqueue", "(LGridlockDesk$Payment;)V"⟩ ∈ TB := tb_in 251 (by decide +kernel) (by decide +kernel)
theorem tw_252 : .selects "GridlockDesk$Bank" ⟨"GridlockDesk$Bank", "enqueue", "(LGridlockDesk$Payment;)V"⟩ ⟨"GridlockDesk$Bank", "enqueue", "(LGridlockDesk$Payment;)V"⟩ ∈ TB := tb_in 252 (by decide +kernel) (by decide +kernel)
theorem tw_253 : .code ⟨"GridlockDesk$Bank", "enqueue", "(LGridlockDesk$Payment;)V"⟩ prog_2_method_2_code 3 none ∈ TB := tb_in 253 (by decide +kernel) (by decide +kernel)
theorem tw_258 : .methodLink "GridlockDesk" 104 ⟨"GridlockDesk", "isQueued", "(I)Z"⟩ ∈ TB := tb_in 258 (by decide +kernel) (by decide +kernel)
theorem tw_260 : .instanceMethod ⟨"GridlockDesk", "isQueued", "(I)Z"⟩ ∈ TB := tb_in 260 (by decide +kernel) (by decide +kernel)
theorem tw_261 : .code ⟨"GridlockDesk", "isQueued", "(I)Z"⟩ prog_1_method_22_code 2 (some .boolean) ∈ TB := tb_in 261 (by decide +kernel) (by decide +kernel)
theorem tw_262 : .methodLink "GridlockDesk" 145 ⟨"GridlockDesk", "isPayment", "(I)Z"⟩ ∈ TB := tb_in 262 (by decide +kernel) (by decide +kernel)
theorem tw_264 : .instanceMethod ⟨"GridlockDesk", "isPayment", "(I)Z"⟩ ∈ TB := tb_in 264 (by decide +kernel) (by decide +kernel)
theorem tw_265 : .code ⟨"GridlockDesk", "isPayment", "(I)Z"⟩ prog_1_method_21_code 2 (some .boolean) ∈ TB := tb_in 265 (by decide +kernel) (by decide +kernel)
theorem tw_274 : .methodLink "GridlockDesk" 120 ⟨"GridlockDesk", "chooseGreatest", "()V"⟩ ∈ TB := tb_in 274 (by decide +kernel) (by decide +kernel)
theorem tw_276 : .instanceMethod ⟨"GridlockDesk", "chooseGreatest", "()V"⟩ ∈ TB := tb_in 276 (by decide +kernel) (by decide +kernel)
theorem tw_277 : .code ⟨"GridlockDesk", "chooseGreatest", "()V"⟩ prog_1_method_32_code 3 none ∈ TB := tb_in 277 (by decide +kernel) (by decide +kernel)
theorem tw_286 : .methodLink "GridlockDesk" 133 ⟨"java/util/Arrays", "fill", "([JJ)V"⟩ ∈ TB := tb_in 286 (by decide +kernel) (by decide +kernel)
theorem tw_324 : .constantLong "GridlockDeskModel" 66 (-1) ∈ TB := tb_in 324 (by decide +kernel) (by decide +kernel)
theorem tw_325 : .fieldLink "GridlockDeskModel" 62 "GridlockDeskModel" "n" "I" ∈ TB := tb_in 325 (by decide +kernel) (by decide +kernel)
theorem tw_326 : .fieldLink "GridlockDeskModel" 126 "GridlockDeskModel" "time" "I" ∈ TB := tb_in 326 (by decide +kernel) (by decide +kernel)
theorem tw_327 : .fieldLink "GridlockDeskModel" 86 "GridlockDeskModel" "settledInAll" "J" ∈ TB := tb_in 327 (by decide +kernel) (by decide +kernel)
theorem tw_328 : .fieldLink "GridlockDeskModel" 7 "GridlockDeskModel" "funds" "[J" ∈ TB := tb_in 328 (by decide +kernel) (by decide +kernel)
theorem tw_329 : .fieldLink "GridlockDeskModel" 13 "GridlockDeskModel" "line" "[J" ∈ TB := tb_in 329 (by decide +kernel) (by decide +kernel)
theorem tw_330 : .fieldLink "GridlockDeskModel" 16 "GridlockDeskModel" "totals" "[J" ∈ TB := tb_in 330 (by decide +kernel) (by decide +kernel)
theorem tw_331 : .fieldLink "GridlockDeskModel" 19 "GridlockDeskModel" "limits" "[J" ∈ TB := tb_in 331 (by decide +kernel) (by decide +kernel)
theorem tw_332 : .fieldLink "GridlockDeskModel" 22 "GridlockDeskModel" "sent" "[J" ∈ TB := tb_in 332 (by decide +kernel) (by decide +kernel)
theorem tw_333 : .fieldLink "GridlockDeskModel" 68 "GridlockDeskModel" "count" "I" ∈ TB := tb_in 333 (by decide +kernel) (by decide +kernel)
theorem tw_334 : .fieldLink "GridlockDeskModel" 133 "GridlockDeskModel" "stamps" "I" ∈ TB := tb_in 334 (by decide +kernel) (by decide +kernel)
theorem tw_335 : .fieldLink "GridlockDeskModel" 25 "GridlockDeskModel" "payer" "[I" ∈ TB := tb_in 335 (by decide +kernel) (by decide +kernel)
theorem tw_336 : .fieldLink "GridlockDeskModel" 29 "GridlockDeskModel" "payee" "[I" ∈ TB := tb_in 336 (by decide +kernel) (by decide +kernel)
theorem tw_337 : .fieldLink "GridlockDeskModel" 32 "GridlockDeskModel" "sum" "[J" ∈ TB := tb_in 337 (by decide +kernel) (by decide +kernel)
theorem tw_338 : .fieldLink "GridlockDeskModel" 35 "GridlockDeskModel" "rank" "[I" ∈ TB := tb_in 338 (by decide +kernel) (by decide +kernel)
theorem tw_339 : .fieldLink "GridlockDeskModel" 38 "GridlockDeskModel" "last" "[I" ∈ TB := tb_in 339 (by decide +kernel) (by decide +kernel)
theorem tw_340 : .fieldLink "GridlockDeskModel" 41 "GridlockDeskModel" "stamp" "[I" ∈ TB := tb_in 340 (by decide +kernel) (by decide +kernel)
theorem tw_341 : .fieldLink "GridlockDeskModel" 44 "GridlockDeskModel" "fate" "[I" ∈ TB := tb_in 341 (by decide +kernel) (by decide +kernel)
theorem tw_342 : .fieldLink "GridlockDeskModel" 47 "GridlockDeskModel" "queue" "[I" ∈ TB := tb_in 342 (by decide +kernel) (by decide +kernel)
theorem tw_343 : .fieldLink "GridlockDeskModel" 50 "GridlockDeskModel" "queueLength" "[I" ∈ TB := tb_in 343 (by decide +kernel) (by decide +kernel)
theorem tw_344 : .fieldLink "GridlockDeskModel" 53 "GridlockDeskModel" "thenFunds" "[J" ∈ TB := tb_in 344 (by decide +kernel) (by decide +kernel)
theorem tw_345 : .fieldLink "GridlockDeskModel" 56 "GridlockDeskModel" "thenSent" "[J" ∈ TB := tb_in 345 (by decide +kernel) (by decide +kernel)
theorem tw_346 : .fieldLink "GridlockDeskModel" 59 "GridlockDeskModel" "best" "[I" ∈ TB := tb_in 346 (by decide +kernel) (by decide +kernel)
theorem tw_396 : .methodLink "GridlockDeskModel" 97 ⟨"GridlockDeskModel", "lineUp", "()V"⟩ ∈ TB := tb_in 396 (by decide +kernel) (by decide +kernel)
theorem tw_398 : .instanceMethod ⟨"GridlockDeskModel", "lineUp", "()V"⟩ ∈ TB := tb_in 398 (by decide +kernel) (by decide +kernel)
theorem tw_399 : .code ⟨"GridlockDeskModel", "lineUp", "()V"⟩ prog_5_method_5_code 5 none ∈ TB := tb_in 399 (by decide +kernel) (by decide +kernel)
theorem tw_400 : .methodLink "GridlockDeskModel" 71 ⟨"GridlockDeskModel", "before", "(II)Z"⟩ ∈ TB := tb_in 400 (by decide +kernel) (by decide +kernel)
theorem tw_402 : .instanceMethod ⟨"GridlockDeskModel", "before", "(II)Z"⟩ ∈ TB := tb_in 402 (by decide +kernel) (by decide +kernel)
theorem tw_403 : .code ⟨"GridlockDeskModel", "before", "(II)Z"⟩ prog_5_method_4_code 3 (some .boolean) ∈ TB := tb_in 403 (by decide +kernel) (by decide +kernel)
theorem tw_404 : .methodLink "GridlockDeskModel" 110 ⟨"GridlockDeskModel", "good", "(I)Z"⟩ ∈ TB := tb_in 404 (by decide +kernel) (by decide +kernel)
theorem tw_406 : .instanceMethod ⟨"GridlockDeskModel", "good", "(I)Z"⟩ ∈ TB := tb_in 406 (by decide +kernel) (by decide +kernel)
theorem tw_407 : .code ⟨"GridlockDeskModel", "good", "(I)Z"⟩ prog_5_method_15_code 5 (some .boolean) ∈ TB := tb_in 407 (by decide +kernel) (by decide +kernel)
theorem tw_408 : .methodLink "GridlockDeskModel" 75 ⟨"GridlockDeskModel", "now0", "()V"⟩ ∈ TB := tb_in 408 (by decide +kernel) (by decide +kernel)
theorem tw_410 : .instanceMethod ⟨"GridlockDeskModel", "now0", "()V"⟩ ∈ TB := tb_in 410 (by decide +kernel) (by decide +kernel)
theorem tw_411 : .code ⟨"GridlockDeskModel", "now0", "()V"⟩ prog_5_method_6_code 2 none ∈ TB := tb_in 411 (by decide +kernel) (by decide +kernel)
theorem tw_412 : .methodLink "GridlockDeskModel" 106 ⟨"GridlockDeskModel", "digit", "(II)I"⟩ ∈ TB := tb_in 412 (by decide +kernel) (by decide +kernel)
theorem tw_413 : .static ⟨"GridlockDeskModel", "digit", "(II)I"⟩ ∈ TB := tb_in 413 (by decide +kernel) (by decide +kernel)
theorem tw_414 : .code ⟨"GridlockDeskModel", "digit", "(II)I"⟩ prog_5_method_14_code 4 (some .int) ∈ TB := tb_in 414 (by decide +kernel) (by decide +kernel)
theorem tw_415 : .methodLink "GridlockDeskModel" 78 ⟨"GridlockDeskModel", "plan", "(I)V"⟩ ∈ TB := tb_in 415 (by decide +kernel) (by decide +kernel)
theorem tw_417 : .instanceMethod ⟨"GridlockDeskModel", "plan", "(I)V"⟩ ∈ TB := tb_in 417 (by decide +kernel) (by decide +kernel)
theorem tw_418 : .code ⟨"GridlockDeskModel", "plan", "(I)V"⟩ prog_5_method_7_code 3 none ∈ TB := tb_in 418 (by decide +kernel) (by decide +kernel)
theorem tw_419 : .methodLink "GridlockDeskModel" 82 ⟨"GridlockDeskModel", "allWell", "()Z"⟩ ∈ TB := tb_in 419 (by decide +kernel) (by decide +kernel)
theorem tw_421 : .instanceMethod ⟨"GridlockDeskModel", "allWell", "()Z"⟩ ∈ TB := tb_in 421 (by decide +kernel) (by decide +kernel)
theorem tw_422 : .code ⟨"GridlockDeskModel", "allWell", "()Z"⟩ prog_5_method_8_code 7 (some .boolean) ∈ TB := tb_in 422 (by decide +kernel) (by decide +kernel)
theorem tw_423 : .methodLink "GridlockDeskModel" 93 ⟨"GridlockDeskModel", "settle", "(II)V"⟩ ∈ TB := tb_in 423 (by decide +kernel) (by decide +kernel)
theorem tw_425 : .instanceMethod ⟨"GridlockDeskModel", "settle", "(II)V"⟩ ∈ TB := tb_in 425 (by decide +kernel) (by decide +kernel)
theorem tw_426 : .code ⟨"GridlockDeskModel", "settle", "(II)V"⟩ prog_5_method_10_code 4 none ∈ TB := tb_in 426 (by decide +kernel) (by decide +kernel)
theorem tw_427 : .methodLink "GridlockDeskModel" 114 ⟨"GridlockDeskModel", "sweep", "()V"⟩ ∈ TB := tb_in 427 (by decide +kernel) (by decide +kernel)
theorem tw_429 : .instanceMethod ⟨"GridlockDeskModel", "sweep", "()V"⟩ ∈ TB := tb_in 429 (by decide +kernel) (by decide +kernel)
theorem tw_430 : .code ⟨"GridlockDeskModel", "sweep", "()V"⟩ prog_5_method_13_code 3 none ∈ TB := tb_in 430 (by decide +kernel) (by decide +kernel)
theorem tw_431 : .methodLink "GridlockDeskModel" 100 ⟨"GridlockDeskModel", "alone", "()Z"⟩ ∈ TB := tb_in 431 (by decide +kernel) (by decide +kernel)
theorem tw_433 : .instanceMethod ⟨"GridlockDeskModel", "alone", "()Z"⟩ ∈ TB := tb_in 433 (by decide +kernel) (by decide +kernel)
theorem tw_434 : .code ⟨"GridlockDeskModel", "alone", "()Z"⟩ prog_5_method_11_code 2 (some .boolean) ∈ TB := tb_in 434 (by decide +kernel) (by decide +kernel)
theorem tw_435 : .methodLink "GridlockDeskModel" 90 ⟨"GridlockDeskModel", "ready", "(II)Z"⟩ ∈ TB := tb_in 435 (by decide +kernel) (by decide +kernel)
theorem tw_437 : .instanceMethod ⟨"GridlockDeskModel", "ready", "(II)Z"⟩ ∈ TB := tb_in 437 (by decide +kernel) (by decide +kernel)
theorem tw_438 : .code ⟨"GridlockDeskModel", "ready", "(II)Z"⟩ prog_5_method_9_code 3 (some .boolean) ∈ TB := tb_in 438 (by decide +kernel) (by decide +kernel)
theorem tw_439 : .methodLink "GridlockDeskModel" 103 ⟨"GridlockDeskModel", "pair", "()Z"⟩ ∈ TB := tb_in 439 (by decide +kernel) (by decide +kernel)
theorem tw_441 : .instanceMethod ⟨"GridlockDeskModel", "pair", "()Z"⟩ ∈ TB := tb_in 441 (by decide +kernel) (by decide +kernel)
theorem tw_442 : .code ⟨"GridlockDeskModel", "pair", "()Z"⟩ prog_5_method_12_code 4 (some .boolean) ∈ TB := tb_in 442 (by decide +kernel) (by decide +kernel)
theorem tw_447 : .methodLink "GridlockDeskModel" 117 ⟨"GridlockDeskModel", "isBank", "(I)Z"⟩ ∈ TB := tb_in 447 (by decide +kernel) (by decide +kernel)
theorem tw_449 : .instanceMethod ⟨"GridlockDeskModel", "isBank", "(I)Z"⟩ ∈ TB := tb_in 449 (by decide +kernel) (by decide +kernel)
theorem tw_450 : .code ⟨"GridlockDeskModel", "isBank", "(I)Z"⟩ prog_5_method_2_code 2 (some .boolean) ∈ TB := tb_in 450 (by decide +kernel) (by decide +kernel)
theorem tw_451 : .constantLong "GridlockDeskModel" 120 (-1000000000000) ∈ TB := tb_in 451 (by decide +kernel) (by decide +kernel)
theorem tw_452 : .constantLong "GridlockDeskModel" 122 1000000000000 ∈ TB := tb_in 452 (by decide +kernel) (by decide +kernel)
theorem tw_457 : .constantLong "GridlockDeskModel" 124 1000000000000000 ∈ TB := tb_in 457 (by decide +kernel) (by decide +kernel)
theorem tw_470 : .methodLink "GridlockDeskModel" 129 ⟨"GridlockDeskModel", "queuedAt", "(I)I"⟩ ∈ TB := tb_in 470 (by decide +kernel) (by decide +kernel)
theorem tw_472 : .instanceMethod ⟨"GridlockDeskModel", "queuedAt", "(I)I"⟩ ∈ TB := tb_in 472 (by decide +kernel) (by decide +kernel)
theorem tw_473 : .code ⟨"GridlockDeskModel", "queuedAt", "(I)I"⟩ prog_5_method_21_code 4 (some .int) ∈ TB := tb_in 473 (by decide +kernel) (by decide +kernel)
theorem tw_478 : .methodLink "GridlockDeskModel" 136 ⟨"GridlockDeskModel", "isQueued", "(I)Z"⟩ ∈ TB := tb_in 478 (by decide +kernel) (by decide +kernel)
theorem tw_480 : .instanceMethod ⟨"GridlockDeskModel", "isQueued", "(I)Z"⟩ ∈ TB := tb_in 480 (by decide +kernel) (by decide +kernel)
theorem tw_481 : .code ⟨"GridlockDeskModel", "isQueued", "(I)Z"⟩ prog_5_method_3_code 2 (some .boolean) ∈ TB := tb_in 481 (by decide +kernel) (by decide +kernel)
abbrev y_J_fillI : MethodName := ⟨"java/util/Arrays", "fill", "([II)V"⟩
abbrev ws_J_fillI : List Cond := .code y_J_fillI prog_7_method_103_code 4 none :: TB
theorem d_J_fillI_0 : decode prog_7_method_103_code 0 = .ok (.iconst 0, 1) := by decide +kernel
theorem d_J_fillI_1 : decode prog_7_method_103_code 1 = .ok (.istore_n 2, 1) := by decide +kernel
theorem d_J_fillI_2 : decode prog_7_method_103_code 2 = .ok (.aload_n 0, 1) := by decide +kernel
theorem d_J_fillI_3 : decode prog_7_method_103_code 3 = .ok (.arraylength, 1) := by decide +kernel
theorem d_J_fillI_4 : decode prog_7_method_103_code 4 = .ok (.istore_n 3, 1) := by decide +kernel
theorem d_J_fillI_5 : decode prog_7_method_103_code 5 = .ok (.iload_n 2, 1) := by decide +kernel
theorem d_J_fillI_6 : decode prog_7_method_103_code 6 = .ok (.iload_n 3, 1) := by decide +kernel
theorem d_J_fillI_7 : decode prog_7_method_103_code 7 = .ok (.if_icmp .ge 13, 3) := by decide +kernel
theorem d_J_fillI_10 : decode prog_7_method_103_code 10 = .ok (.aload_n 0, 1) := by decide +kernel
theorem d_J_fillI_11 : decode prog_7_method_103_code 11 = .ok (.iload_n 2, 1) := by decide +kernel
theorem d_J_fillI_12 : decode prog_7_method_103_code 12 = .ok (.iload_n 1, 1) := by decide +kernel
theorem d_J_fillI_13 : decode prog_7_method_103_code 13 = .ok (.iastore, 1) := by decide +kernel
theorem d_J_fillI_14 : decode prog_7_method_103_code 14 = .ok (.iinc 2 1, 3) := by decide +kernel
theorem d_J_fillI_17 : decode prog_7_method_103_code 17 = .ok (.goto (-12), 3) := by decide +kernel
theorem d_J_fillI_20 : decode prog_7_method_103_code 20 = .ok (.return_, 1) := by decide +kernel
abbrev y_J_fillJ : MethodName := ⟨"java/util/Arrays", "fill", "([JJ)V"⟩
abbrev ws_J_fillJ : List Cond := .code y_J_fillJ prog_7_method_101_code 5 none :: TB
theorem d_J_fillJ_0 : decode prog_7_method_101_code 0 = .ok (.iconst 0, 1) := by decide +kernel
theorem d_J_fillJ_1 : decode prog_7_method_101_code 1 = .ok (.istore_n 3, 1) := by decide +kernel
theorem d_J_fillJ_2 : decode prog_7_method_101_code 2 = .ok (.aload_n 0, 1) := by decide +kernel
theorem d_J_fillJ_3 : decode prog_7_method_101_code 3 = .ok (.arraylength, 1) := by decide +kernel
theorem d_J_fillJ_4 : decode prog_7_method_101_code 4 = .ok (.istore 4, 2) := by decide +kernel
theorem d_J_fillJ_6 : decode prog_7_method_101_code 6 = .ok (.iload_n 3, 1) := by decide +kernel
theorem d_J_fillJ_7 : decode prog_7_method_101_code 7 = .ok (.iload 4, 2) := by decide +kernel
theorem d_J_fillJ_9 : decode prog_7_method_101_code 9 = .ok (.if_icmp .ge 13, 3) := by decide +kernel
theorem d_J_fillJ_12 : decode prog_7_method_101_code 12 = .ok (.aload_n 0, 1) := by decide +kernel
theorem d_J_fillJ_13 : decode prog_7_method_101_code 13 = .ok (.iload_n 3, 1) := by decide +kernel
theorem d_J_fillJ_14 : decode prog_7_method_101_code 14 = .ok (.lload_n 1, 1) := by decide +kernel
theorem d_J_fillJ_15 : decode prog_7_method_101_code 15 = .ok (.lastore, 1) := by decide +kernel
theorem d_J_fillJ_16 : decode prog_7_method_101_code 16 = .ok (.iinc 3 1, 3) := by decide +kernel
theorem d_J_fillJ_19 : decode prog_7_method_101_code 19 = .ok (.goto (-13), 3) := by decide +kernel
theorem d_J_fillJ_22 : decode prog_7_method_101_code 22 = .ok (.return_, 1) := by decide +kernel
abbrev y_B_headGoesTo : MethodName := ⟨"GridlockDesk$Bank", "headGoesTo", "()I"⟩
abbrev ws_B_headGoesTo : List Cond := .code y_B_headGoesTo prog_2_method_4_code 1 (some .int) :: TB
theorem d_B_headGoesTo_0 : decode prog_2_method_4_code 0 = .ok (.aload_n 0, 1) := by decide +kernel
theorem d_B_headGoesTo_1 : decode prog_2_method_4_code 1 = .ok (.getfield 36, 3) := by decide +kernel
theorem d_B_headGoesTo_4 : decode prog_2_method_4_code 4 = .ok (.ifCond .le 15, 3) := by decide +kernel
theorem d_B_headGoesTo_7 : decode prog_2_method_4_code 7 = .ok (.aload_n 0, 1) := by decide +kernel
theorem d_B_headGoesTo_8 : decode prog_2_method_4_code 8 = .ok (.getfield 32, 3) := by decide +kernel
theorem d_B_headGoesTo_11 : decode prog_2_method_4_code 11 = .ok (.iconst 0, 1) := by decide +kernel
theorem d_B_headGoesTo_12 : decode prog_2_method_4_code 12 = .ok (.aaload, 1) := by decide +kernel
theorem d_B_headGoesTo_13 : decode prog_2_method_4_code 13 = .ok (.getfield 43, 3) := by decide +kernel
theorem d_B_headGoesTo_16 : decode prog_2_method_4_code 16 = .ok (.goto 4, 3) := by decide +kernel
theorem d_B_headGoesTo_19 : decode prog_2_method_4_code 19 = .ok (.iconst (-1), 1) := by decide +kernel
theorem d_B_headGoesTo_20 : decode prog_2_method_4_code 20 = .ok (.ireturn, 1) := by decide +kernel
abbrev y_B_sentWith : MethodName := ⟨"GridlockDesk$Bank", "sentWith", "(II)J"⟩
abbrev ws_B_sentWith : List Cond := .code y_B_sentWith prog_2_method_5_code 6 (some .long) :: TB
theorem d_B_sentWith_0 : decode prog_2_method_5_code 0 = .ok (.aload_n 0, 1) := by decide +kernel
theorem d_B_sentWith_1 : decode prog_2_method_5_code 1 = .ok (.getfield 27, 3) := by decide +kernel
theorem d_B_sentWith_4 : decode prog_2_method_5_code 4 = .ok (.iload_n 2, 1) := by decide +kernel
theorem d_B_sentWith_5 : decode prog_2_method_5_code 5 = .ok (.laload, 1) := by decide +kernel
theorem d_B_sentWith_6 : decode prog_2_method_5_code 6 = .ok (.lstore_n 3, 1) := by decide +kernel
theorem d_B_sentWith_7 : decode prog_2_method_5_code 7 = .ok (.iconst 0, 1) := by decide +kernel
theorem d_B_sentWith_8 : decode prog_2_method_5_code 8 = .ok (.istore 5, 2) := by decide +kernel
theorem d_B_sentWith_10 : decode prog_2_method_5_code 10 = .ok (.iload 5, 2) := by decide +kernel
theorem d_B_sentWith_12 : decode prog_2_method_5_code 12 = .ok (.iload_n 1, 1) := by decide +kernel
theorem d_B_sentWith_13 : decode prog_2_method_5_code 13 = .ok (.if_icmp .ge 45, 3) := by decide +kernel
theorem d_B_sentWith_16 : decode prog_2_method_5_code 16 = .ok (.iload 5, 2) := by decide +kernel
theorem d_B_sentWith_18 : decode prog_2_method_5_code 18 = .ok (.aload_n 0, 1) := by decide +kernel
theorem d_B_sentWith_19 : decode prog_2_method_5_code 19 = .ok (.getfield 36, 3) := by decide +kernel
theorem d_B_sentWith_22 : decode prog_2_method_5_code 22 = .ok (.if_icmp .ge 36, 3) := by decide +kernel
theorem d_B_sentWith_25 : decode prog_2_method_5_code 25 = .ok (.aload_n 0, 1) := by decide +kernel
theorem d_B_sentWith_26 : decode prog_2_method_5_code 26 = .ok (.getfield 32, 3) := by decide +kernel
theorem d_B_sentWith_29 : decode prog_2_method_5_code 29 = .ok (.iload 5, 2) := by decide +kernel
theorem d_B_sentWith_31 : decode prog_2_method_5_code 31 = .ok (.aaload, 1) := by decide +kernel
theorem d_B_sentWith_32 : decode prog_2_method_5_code 32 = .ok (.getfield 43, 3) := by decide +kernel
theorem d_B_sentWith_35 : decode prog_2_method_5_code 35 = .ok (.iload_n 2, 1) := by decide +kernel
theorem d_B_sentWith_36 : decode prog_2_method_5_code 36 = .ok (.if_icmp .ne 16, 3) := by decide +kernel
theorem d_B_sentWith_39 : decode prog_2_method_5_code 39 = .ok (.lload_n 3, 1) := by decide +kernel
theorem d_B_sentWith_40 : decode prog_2_method_5_code 40 = .ok (.aload_n 0, 1) := by decide +kernel
theorem d_B_sentWith_41 : decode prog_2_method_5_code 41 = .ok (.getfield 32, 3) := by decide +kernel
theorem d_B_sentWith_44 : decode prog_2_method_5_code 44 = .ok (.iload 5, 2) := by decide +kernel
theorem d_B_sentWith_46 : decode prog_2_method_5_code 46 = .ok (.aaload, 1) := by decide +kernel
theorem d_B_sentWith_47 : decode prog_2_method_5_code 47 = .ok (.getfield 46, 3) := by decide +kernel
theorem d_B_sentWith_50 : decode prog_2_method_5_code 50 = .ok (.ladd, 1) := by decide +kernel
theorem d_B_sentWith_51 : decode prog_2_method_5_code 51 = .ok (.lstore_n 3, 1) := by decide +kernel
theorem d_B_sentWith_52 : decode prog_2_method_5_code 52 = .ok (.iinc 5 1, 3) := by decide +kernel
theorem d_B_sentWith_55 : decode prog_2_method_5_code 55 = .ok (.goto (-45), 3) := by decide +kernel
theorem d_B_sentWith_58 : decode prog_2_method_5_code 58 = .ok (.lload_n 3, 1) := by decide +kernel
theorem d_B_sentWith_59 : decode prog_2_method_5_code 59 = .ok (.lreturn, 1) := by decide +kernel
abbrev y_B_remove : MethodName := ⟨"GridlockDesk$Bank", "remove", "(LGridlockDesk$Payment;)V"⟩
abbrev ws_B_remove : List Cond := .code y_B_remove prog_2_method_3_code 4 none :: TB
theorem d_B_remove_0 : decode prog_2_method_3_code 0 = .ok (.iconst 0, 1) := by decide +kernel
theorem d_B_remove_1 : decode prog_2_method_3_code 1 = .ok (.istore_n 2, 1) := by decide +kernel
theorem d_B_remove_2 : decode prog_2_method_3_code 2 = .ok (.iconst 0, 1) := by decide +kernel
theorem d_B_remove_3 : decode prog_2_method_3_code 3 = .ok (.istore_n 3, 1) := by decide +kernel
theorem d_B_remove_4 : decode prog_2_method_3_code 4 = .ok (.iload_n 3, 1) := by decide +kernel
theorem d_B_remove_5 : decode prog_2_method_3_code 5 = .ok (.aload_n 0, 1) := by decide +kernel
theorem d_B_remove_6 : decode prog_2_method_3_code 6 = .ok (.getfield 36, 3) := by decide +kernel
theorem d_B_remove_9 : decode prog_2_method_3_code 9 = .ok (.if_icmp .ge 34, 3) := by decide +kernel
theorem d_B_remove_12 : decode prog_2_method_3_code 12 = .ok (.aload_n 0, 1) := by decide +kernel
theorem d_B_remove_13 : decode prog_2_method_3_code 13 = .ok (.getfield 32, 3) := by decide +kernel
theorem d_B_remove_16 : decode prog_2_method_3_code 16 = .ok (.iload_n 3, 1) := by decide +kernel
theorem d_B_remove_17 : decode prog_2_method_3_code 17 = .ok (.aaload, 1) := by decide +kernel
theorem d_B_remove_18 : decode prog_2_method_3_code 18 = .ok (.aload_n 1, 1) := by decide +kernel
theorem d_B_remove_19 : decode prog_2_method_3_code 19 = .ok (.if_acmp .eq 18, 3) := by decide +kernel
theorem d_B_remove_22 : decode prog_2_method_3_code 22 = .ok (.aload_n 0, 1) := by decide +kernel
theorem d_B_remove_23 : decode prog_2_method_3_code 23 = .ok (.getfield 32, 3) := by decide +kernel
theorem d_B_remove_26 : decode prog_2_method_3_code 26 = .ok (.iload_n 2, 1) := by decide +kernel
theorem d_B_remove_27 : decode prog_2_method_3_code 27 = .ok (.aload_n 0, 1) := by decide +kernel
theorem d_B_remove_28 : decode prog_2_method_3_code 28 = .ok (.getfield 32, 3) := by decide +kernel
theorem d_B_remove_31 : decode prog_2_method_3_code 31 = .ok (.iload_n 3, 1) := by decide +kernel
theorem d_B_remove_32 : decode prog_2_method_3_code 32 = .ok (.aaload, 1) := by decide +kernel
theorem d_B_remove_33 : decode prog_2_method_3_code 33 = .ok (.aastore, 1) := by decide +kernel
theorem d_B_remove_34 : decode prog_2_method_3_code 34 = .ok (.iinc 2 1, 3) := by decide +kernel
theorem d_B_remove_37 : decode prog_2_method_3_code 37 = .ok (.iinc 3 1, 3) := by decide +kernel
theorem d_B_remove_40 : decode prog_2_method_3_code 40 = .ok (.goto (-36), 3) := by decide +kernel
theorem d_B_remove_43 : decode prog_2_method_3_code 43 = .ok (.aload_n 0, 1) := by decide +kernel
theorem d_B_remove_44 : decode prog_2_method_3_code 44 = .ok (.iload_n 2, 1) := by decide +kernel
theorem d_B_remove_45 : decode prog_2_method_3_code 45 = .ok (.putfield 36, 3) := by decide +kernel
theorem d_B_remove_48 : decode prog_2_method_3_code 48 = .ok (.return_, 1) := by decide +kernel
abbrev y_B_enqueue : MethodName := ⟨"GridlockDesk$Bank", "enqueue", "(LGridlockDesk$Payment;)V"⟩
abbrev ws_B_enqueue : List Cond := .code y_B_enqueue prog_2_method_2_code 3 none :: TB
theorem d_B_enqueue_0 : decode prog_2_method_2_code 0 = .ok (.aload_n 0, 1) := by decide +kernel
theorem d_B_enqueue_1 : decode prog_2_method_2_code 1 = .ok (.getfield 36, 3) := by decide +kernel
theorem d_B_enqueue_4 : decode prog_2_method_2_code 4 = .ok (.aload_n 0, 1) := by decide +kernel
theorem d_B_enqueue_5 : decode prog_2_method_2_code 5 = .ok (.getfield 32, 3) := by decide +kernel
theorem d_B_enqueue_8 : decode prog_2_method_2_code 8 = .ok (.arraylength, 1) := by decide +kernel
theorem d_B_enqueue_9 : decode prog_2_method_2_code 9 = .ok (.if_icmp .lt 4, 3) := by decide +kernel
theorem d_B_enqueue_12 : decode prog_2_method_2_code 12 = .ok (.return_, 1) := by decide +kernel
theorem d_B_enqueue_13 : decode prog_2_method_2_code 13 = .ok (.aload_n 0, 1) := by decide +kernel
theorem d_B_enqueue_14 : decode prog_2_method_2_code 14 = .ok (.getfield 36, 3) := by decide +kernel
theorem d_B_enqueue_17 : decode prog_2_method_2_code 17 = .ok (.istore_n 2, 1) := by decide +kernel
theorem d_B_enqueue_18 : decode prog_2_method_2_code 18 = .ok (.iload_n 2, 1) := by decide +kernel
theorem d_B_enqueue_19 : decode prog_2_method_2_code 19 = .ok (.ifCond .le 41, 3) := by decide +kernel
theorem d_B_enqueue_22 : decode prog_2_method_2_code 22 = .ok (.aload_n 0, 1) := by decide +kernel
theorem d_B_enqueue_23 : decode prog_2_method_2_code 23 = .ok (.getfield 32, 3) := by decide +kernel
theorem d_B_enqueue_26 : decode prog_2_method_2_code 26 = .ok (.iload_n 2, 1) := by decide +kernel
theorem d_B_enqueue_27 : decode prog_2_method_2_code 27 = .ok (.iconst 1, 1) := by decide +kernel
theorem d_B_enqueue_28 : decode prog_2_method_2_code 28 = .ok (.isub, 1) := by decide +kernel
theorem d_B_enqueue_29 : decode prog_2_method_2_code 29 = .ok (.aaload, 1) := by decide +kernel
theorem d_B_enqueue_30 : decode prog_2_method_2_code 30 = .ok (.getfield 40, 3) := by decide +kernel
theorem d_B_enqueue_33 : decode prog_2_method_2_code 33 = .ok (.aload_n 1, 1) := by decide +kernel
theorem d_B_enqueue_34 : decode prog_2_method_2_code 34 = .ok (.getfield 40, 3) := by decide +kernel
theorem d_B_enqueue_37 : decode prog_2_method_2_code 37 = .ok (.if_icmp .ge 23, 3) := by decide +kernel
theorem d_B_enqueue_40 : decode prog_2_method_2_code 40 = .ok (.aload_n 0, 1) := by decide +kernel
theorem d_B_enqueue_41 : decode prog_2_method_2_code 41 = .ok (.getfield 32, 3) := by decide +kernel
theorem d_B_enqueue_44 : decode prog_2_method_2_code 44 = .ok (.iload_n 2, 1) := by decide +kernel
theorem d_B_enqueue_45 : decode prog_2_method_2_code 45 = .ok (.aload_n 0, 1) := by decide +kernel
theorem d_B_enqueue_46 : decode prog_2_method_2_code 46 = .ok (.getfield 32, 3) := by decide +kernel
theorem d_B_enqueue_49 : decode prog_2_method_2_code 49 = .ok (.iload_n 2, 1) := by decide +kernel
theorem d_B_enqueue_50 : decode prog_2_method_2_code 50 = .ok (.iconst 1, 1) := by decide +kernel
theorem d_B_enqueue_51 : decode prog_2_method_2_code 51 = .ok (.isub, 1) := by decide +kernel
theorem d_B_enqueue_52 : decode prog_2_method_2_code 52 = .ok (.aaload, 1) := by decide +kernel
theorem d_B_enqueue_53 : decode prog_2_method_2_code 53 = .ok (.aastore, 1) := by decide +kernel
theorem d_B_enqueue_54 : decode prog_2_method_2_code 54 = .ok (.iinc 2 (-1), 3) := by decide +kernel
theorem d_B_enqueue_57 : decode prog_2_method_2_code 57 = .ok (.goto (-39), 3) := by decide +kernel
theorem d_B_enqueue_60 : decode prog_2_method_2_code 60 = .ok (.aload_n 0, 1) := by decide +kernel
theorem d_B_enqueue_61 : decode prog_2_method_2_code 61 = .ok (.getfield 32, 3) := by decide +kernel
theorem d_B_enqueue_64 : decode prog_2_method_2_code 64 = .ok (.iload_n 2, 1) := by decide +kernel
theorem d_B_enqueue_65 : decode prog_2_method_2_code 65 = .ok (.aload_n 1, 1) := by decide +kernel
theorem d_B_enqueue_66 : decode prog_2_method_2_code 66 = .ok (.aastore, 1) := by decide +kernel
theorem d_B_enqueue_67 : decode prog_2_method_2_code 67 = .ok (.aload_n 0, 1) := by decide +kernel
theorem d_B_enqueue_68 : decode prog_2_method_2_code 68 = .ok (.dup, 1) := by decide +kernel
theorem d_B_enqueue_69 : decode prog_2_method_2_code 69 = .ok (.getfield 36, 3) := by decide +kernel
theorem d_B_enqueue_72 : decode prog_2_method_2_code 72 = .ok (.iconst 1, 1) := by decide +kernel
theorem d_B_enqueue_73 : decode prog_2_method_2_code 73 = .ok (.iadd, 1) := by decide +kernel
theorem d_B_enqueue_74 : decode prog_2_method_2_code 74 = .ok (.putfield 36, 3) := by decide +kernel
theorem d_B_enqueue_77 : decode prog_2_method_2_code 77 = .ok (.return_, 1) := by decide +kernel
abbrev y_X_isBank : MethodName := ⟨"GridlockDesk", "isBank", "(I)Z"⟩
abbrev ws_X_isBank : List Cond := .code y_X_isBank prog_1_method_19_code 2 (some .boolean) :: TB
theorem d_X_isBank_0 : decode prog_1_method_19_code 0 = .ok (.iload_n 1, 1) := by decide +kernel
theorem d_X_isBank_1 : decode prog_1_method_19_code 1 = .ok (.ifCond .lt 16, 3) := by decide +kernel
theorem d_X_isBank_4 : decode prog_1_method_19_code 4 = .ok (.iload_n 1, 1) := by decide +kernel
theorem d_X_isBank_5 : decode prog_1_method_19_code 5 = .ok (.aload_n 0, 1) := by decide +kernel
theorem d_X_isBank_6 : decode prog_1_method_19_code 6 = .ok (.getfield 20, 3) := by decide +kernel
theorem d_X_isBank_9 : decode prog_1_method_19_code 9 = .ok (.arraylength, 1) := by decide +kernel
theorem d_X_isBank_10 : decode prog_1_method_19_code 10 = .ok (.if_icmp .ge 7, 3) := by decide +kernel
theorem d_X_isBank_13 : decode prog_1_method_19_code 13 = .ok (.iconst 1, 1) := by decide +kernel
theorem d_X_isBank_14 : decode prog_1_method_19_code 14 = .ok (.goto 4, 3) := by decide +kernel
theorem d_X_isBank_17 : decode prog_1_method_19_code 17 = .ok (.iconst 0, 1) := by decide +kernel
theorem d_X_isBank_18 : decode prog_1_method_19_code 18 = .ok (.ireturn, 1) := by decide +kernel
abbrev y_X_areTwoBanks : MethodName := ⟨"GridlockDesk", "areTwoBanks", "(II)Z"⟩
abbrev ws_X_areTwoBanks : List Cond := .code y_X_areTwoBanks prog_1_method_20_code 3 (some .boolean) :: TB
theorem d_X_areTwoBanks_0 : decode prog_1_method_20_code 0 = .ok (.aload_n 0, 1) := by decide +kernel
theorem d_X_areTwoBanks_1 : decode prog_1_method_20_code 1 = .ok (.iload_n 1, 1) := by decide +kernel
theorem d_X_areTwoBanks_2 : decode prog_1_method_20_code 2 = .ok (.invokevirtual 37, 3) := by decide +kernel
theorem d_X_areTwoBanks_5 : decode prog_1_method_20_code 5 = .ok (.ifCond .eq 20, 3) := by decide +kernel
theorem d_X_areTwoBanks_8 : decode prog_1_method_20_code 8 = .ok (.aload_n 0, 1) := by decide +kernel
theorem d_X_areTwoBanks_9 : decode prog_1_method_20_code 9 = .ok (.iload_n 2, 1) := by decide +kernel
theorem d_X_areTwoBanks_10 : decode prog_1_method_20_code 10 = .ok (.invokevirtual 37, 3) := by decide +kernel
theorem d_X_areTwoBanks_13 : decode prog_1_method_20_code 13 = .ok (.ifCond .eq 12, 3) := by decide +kernel
theorem d_X_areTwoBanks_16 : decode prog_1_method_20_code 16 = .ok (.iload_n 1, 1) := by decide +kernel
theorem d_X_areTwoBanks_17 : decode prog_1_method_20_code 17 = .ok (.iload_n 2, 1) := by decide +kernel
theorem d_X_areTwoBanks_18 : decode prog_1_method_20_code 18 = .ok (.if_icmp .eq 7, 3) := by decide +kernel
theorem d_X_areTwoBanks_21 : decode prog_1_method_20_code 21 = .ok (.iconst 1, 1) := by decide +kernel
theorem d_X_areTwoBanks_22 : decode prog_1_method_20_code 22 = .ok (.goto 4, 3) := by decide +kernel
theorem d_X_areTwoBanks_25 : decode prog_1_method_20_code 25 = .ok (.iconst 0, 1) := by decide +kernel
theorem d_X_areTwoBanks_26 : decode prog_1_method_20_code 26 = .ok (.ireturn, 1) := by decide +kernel
abbrev y_X_isPayment : MethodName := ⟨"GridlockDesk", "isPayment", "(I)Z"⟩
abbrev ws_X_isPayment : List Cond := .code y_X_isPayment prog_1_method_21_code 2 (some .boolean) :: TB
theorem d_X_isPayment_0 : decode prog_1_method_21_code 0 = .ok (.iload_n 1, 1) := by decide +kernel
theorem d_X_isPayment_1 : decode prog_1_method_21_code 1 = .ok (.ifCond .lt 15, 3) := by decide +kernel
theorem d_X_isPayment_4 : decode prog_1_method_21_code 4 = .ok (.iload_n 1, 1) := by decide +kernel
theorem d_X_isPayment_5 : decode prog_1_method_21_code 5 = .ok (.aload_n 0, 1) := by decide +kernel
theorem d_X_isPayment_6 : decode prog_1_method_21_code 6 = .ok (.getfield 91, 3) := by decide +kernel
theorem d_X_isPayment_9 : decode prog_1_method_21_code 9 = .ok (.if_icmp .ge 7, 3) := by decide +kernel
theorem d_X_isPayment_12 : decode prog_1_method_21_code 12 = .ok (.iconst 1, 1) := by decide +kernel
theorem d_X_isPayment_13 : decode prog_1_method_21_code 13 = .ok (.goto 4, 3) := by decide +kernel
theorem d_X_isPayment_16 : decode prog_1_method_21_code 16 = .ok (.iconst 0, 1) := by decide +kernel
theorem d_X_isPayment_17 : decode prog_1_method_21_code 17 = .ok (.ireturn, 1) := by decide +kernel
abbrev y_X_isQueued : MethodName := ⟨"GridlockDesk", "isQueued", "(I)Z"⟩
abbrev ws_X_isQueued : List Cond := .code y_X_isQueued prog_1_method_22_code 2 (some .boolean) :: TB
theorem d_X_isQueued_0 : decode prog_1_method_22_code 0 = .ok (.aload_n 0, 1) := by decide +kernel
theorem d_X_isQueued_1 : decode prog_1_method_22_code 1 = .ok (.iload_n 1, 1) := by decide +kernel
theorem d_X_isQueued_2 : decode prog_1_method_22_code 2 = .ok (.invokevirtual 145, 3) := by decide +kernel
theorem d_X_isQueued_5 : decode prog_1_method_22_code 5 = .ok (.ifCond .eq 19, 3) := by decide +kernel
theorem d_X_isQueued_8 : decode prog_1_method_22_code 8 = .ok (.aload_n 0, 1) := by decide +kernel
theorem d_X_isQueued_9 : decode prog_1_method_22_code 9 = .ok (.getfield 29, 3) := by decide +kernel
theorem d_X_isQueued_12 : decode prog_1_method_22_code 12 = .ok (.iload_n 1, 1) := by decide +kernel
theorem d_X_isQueued_13 : decode prog_1_method_22_code 13 = .ok (.aaload, 1) := by decide +kernel
theorem d_X_isQueued_14 : decode prog_1_method_22_code 14 = .ok (.getfield 148, 3) := by decide +kernel
theorem d_X_isQueued_17 : decode prog_1_method_22_code 17 = .ok (.ifCond .ne 7, 3) := by decide +kernel
theorem d_X_isQueued_20 : decode prog_1_method_22_code 20 = .ok (.iconst 1, 1) := by decide +kernel
theorem d_X_isQueued_21 : decode prog_1_method_22_code 21 = .ok (.goto 4, 3) := by decide +kernel
theorem d_X_isQueued_24 : decode prog_1_method_22_code 24 = .ok (.iconst 0, 1) := by decide +kernel
theorem d_X_isQueued_25 : decode prog_1_method_22_code 25 = .ok (.ireturn, 1) := by decide +kernel
abbrev y_X_isPriority : MethodName := ⟨"GridlockDesk", "isPriority", "(I)Z"⟩
abbrev ws_X_isPriority : List Cond := .code y_X_isPriority prog_1_method_23_code 1 (some .boolean) :: TB
theorem d_X_isPriority_0 : decode prog_1_method_23_code 0 = .ok (.iload_n 0, 1) := by decide +kernel
theorem d_X_isPriority_1 : decode prog_1_method_23_code 1 = .ok (.ifCond .lt 12, 3) := by decide +kernel
theorem d_X_isPriority_4 : decode prog_1_method_23_code 4 = .ok (.iload_n 0, 1) := by decide +kernel
theorem d_X_isPriority_5 : decode prog_1_method_23_code 5 = .ok (.iconst 3, 1) := by decide +kernel
theorem d_X_isPriority_6 : decode prog_1_method_23_code 6 = .ok (.if_icmp .gt 7, 3) := by decide +kernel
theorem d_X_isPriority_9 : decode prog_1_method_23_code 9 = .ok (.iconst 1, 1) := by decide +kernel
theorem d_X_isPriority_10 : decode prog_1_method_23_code 10 = .ok (.goto 4, 3) := by decide +kernel
theorem d_X_isPriority_13 : decode prog_1_method_23_code 13 = .ok (.iconst 0, 1) := by decide +kernel
theorem d_X_isPriority_14 : decode prog_1_method_23_code 14 = .ok (.ireturn, 1) := by decide +kernel
abbrev y_X_isLimit : MethodName := ⟨"GridlockDesk", "isLimit", "(J)Z"⟩
abbrev ws_X_isLimit : List Cond := .code y_X_isLimit prog_1_method_24_code 2 (some .boolean) :: TB
theorem d_X_isLimit_0 : decode prog_1_method_24_code 0 = .ok (.lload_n 0, 1) := by decide +kernel
theorem d_X_isLimit_1 : decode prog_1_method_24_code 1 = .ok (.ldc2_w 154, 3) := by decide +kernel
theorem d_X_isLimit_4 : decode prog_1_method_24_code 4 = .ok (.lcmp, 1) := by decide +kernel
theorem d_X_isLimit_5 : decode prog_1_method_24_code 5 = .ok (.ifCond .eq 17, 3) := by decide +kernel
theorem d_X_isLimit_8 : decode prog_1_method_24_code 8 = .ok (.lload_n 0, 1) := by decide +kernel
theorem d_X_isLimit_9 : decode prog_1_method_24_code 9 = .ok (.lconst 0, 1) := by decide +kernel
theorem d_X_isLimit_10 : decode prog_1_method_24_code 10 = .ok (.lcmp, 1) := by decide +kernel
theorem d_X_isLimit_11 : decode prog_1_method_24_code 11 = .ok (.ifCond .lt 15, 3) := by decide +kernel
theorem d_X_isLimit_14 : decode prog_1_method_24_code 14 = .ok (.lload_n 0, 1) := by decide +kernel
theorem d_X_isLimit_15 : decode prog_1_method_24_code 15 = .ok (.ldc2_w 55, 3) := by decide +kernel
theorem d_X_isLimit_18 : decode prog_1_method_24_code 18 = .ok (.lcmp, 1) := by decide +kernel
theorem d_X_isLimit_19 : decode prog_1_method_24_code 19 = .ok (.ifCond .gt 7, 3) := by decide +kernel
theorem d_X_isLimit_22 : decode prog_1_method_24_code 22 = .ok (.iconst 1, 1) := by decide +kernel
theorem d_X_isLimit_23 : decode prog_1_method_24_code 23 = .ok (.goto 4, 3) := by decide +kernel
theorem d_X_isLimit_26 : decode prog_1_method_24_code 26 = .ok (.iconst 0, 1) := by decide +kernel
theorem d_X_isLimit_27 : decode prog_1_method_24_code 27 = .ok (.ireturn, 1) := by decide +kernel
abbrev y_X_exceeds : MethodName := ⟨"GridlockDesk", "exceeds", "(JJ)Z"⟩
abbrev ws_X_exceeds : List Cond := .code y_X_exceeds prog_1_method_25_code 4 (some .boolean) :: TB
theorem d_X_exceeds_0 : decode prog_1_method_25_code 0 = .ok (.lload_n 2, 1) := by decide +kernel
theorem d_X_exceeds_1 : decode prog_1_method_25_code 1 = .ok (.ldc2_w 154, 3) := by decide +kernel
theorem d_X_exceeds_4 : decode prog_1_method_25_code 4 = .ok (.lcmp, 1) := by decide +kernel
theorem d_X_exceeds_5 : decode prog_1_method_25_code 5 = .ok (.ifCond .eq 13, 3) := by decide +kernel
theorem d_X_exceeds_8 : decode prog_1_method_25_code 8 = .ok (.lload_n 0, 1) := by decide +kernel
theorem d_X_exceeds_9 : decode prog_1_method_25_code 9 = .ok (.lload_n 2, 1) := by decide +kernel
theorem d_X_exceeds_10 : decode prog_1_method_25_code 10 = .ok (.lcmp, 1) := by decide +kernel
theorem d_X_exceeds_11 : decode prog_1_method_25_code 11 = .ok (.ifCond .le 7, 3) := by decide +kernel
theorem d_X_exceeds_14 : decode prog_1_method_25_code 14 = .ok (.iconst 1, 1) := by decide +kernel
theorem d_X_exceeds_15 : decode prog_1_method_25_code 15 = .ok (.goto 4, 3) := by decide +kernel
theorem d_X_exceeds_18 : decode prog_1_method_25_code 18 = .ok (.iconst 0, 1) := by decide +kernel
theorem d_X_exceeds_19 : decode prog_1_method_25_code 19 = .ok (.ireturn, 1) := by decide +kernel
abbrev y_X_positionOf : MethodName := ⟨"GridlockDesk", "positionOf", "(II)J"⟩
abbrev ws_X_positionOf : List Cond := .code y_X_positionOf prog_1_method_26_code 3 (some .long) :: TB
theorem d_X_positionOf_0 : decode prog_1_method_26_code 0 = .ok (.aload_n 0, 1) := by decide +kernel
theorem d_X_positionOf_1 : decode prog_1_method_26_code 1 = .ok (.getfield 20, 3) := by decide +kernel
theorem d_X_positionOf_4 : decode prog_1_method_26_code 4 = .ok (.iload_n 1, 1) := by decide +kernel
theorem d_X_positionOf_5 : decode prog_1_method_26_code 5 = .ok (.aaload, 1) := by decide +kernel
theorem d_X_positionOf_6 : decode prog_1_method_26_code 6 = .ok (.getfield 130, 3) := by decide +kernel
theorem d_X_positionOf_9 : decode prog_1_method_26_code 9 = .ok (.iload_n 2, 1) := by decide +kernel
theorem d_X_positionOf_10 : decode prog_1_method_26_code 10 = .ok (.laload, 1) := by decide +kernel
theorem d_X_positionOf_11 : decode prog_1_method_26_code 11 = .ok (.aload_n 0, 1) := by decide +kernel
theorem d_X_positionOf_12 : decode prog_1_method_26_code 12 = .ok (.getfield 20, 3) := by decide +kernel
theorem d_X_positionOf_15 : decode prog_1_method_26_code 15 = .ok (.iload_n 2, 1) := by decide +kernel
theorem d_X_positionOf_16 : decode prog_1_method_26_code 16 = .ok (.aaload, 1) := by decide +kernel
theorem d_X_positionOf_17 : decode prog_1_method_26_code 17 = .ok (.getfield 130, 3) := by decide +kernel
theorem d_X_positionOf_20 : decode prog_1_method_26_code 20 = .ok (.iload_n 1, 1) := by decide +kernel
theorem d_X_positionOf_21 : decode prog_1_method_26_code 21 = .ok (.laload, 1) := by decide +kernel
theorem d_X_positionOf_22 : decode prog_1_method_26_code 22 = .ok (.lsub, 1) := by decide +kernel
theorem d_X_positionOf_23 : decode prog_1_method_26_code 23 = .ok (.lreturn, 1) := by decide +kernel
abbrev y_X_totalPositionOf : MethodName := ⟨"GridlockDesk", "totalPositionOf", "(I)J"⟩
abbrev ws_X_totalPositionOf : List Cond := .code y_X_totalPositionOf prog_1_method_27_code 5 (some .long) :: TB
theorem d_X_totalPositionOf_0 : decode prog_1_method_27_code 0 = .ok (.lconst 0, 1) := by decide +kernel
theorem d_X_totalPositionOf_1 : decode prog_1_method_27_code 1 = .ok (.lstore_n 2, 1) := by decide +kernel
theorem d_X_totalPositionOf_2 : decode prog_1_method_27_code 2 = .ok (.iconst 0, 1) := by decide +kernel
theorem d_X_totalPositionOf_3 : decode prog_1_method_27_code 3 = .ok (.istore 4, 2) := by decide +kernel
theorem d_X_totalPositionOf_5 : decode prog_1_method_27_code 5 = .ok (.iload 4, 2) := by decide +kernel
theorem d_X_totalPositionOf_7 : decode prog_1_method_27_code 7 = .ok (.aload_n 0, 1) := by decide +kernel
theorem d_X_totalPositionOf_8 : decode prog_1_method_27_code 8 = .ok (.getfield 20, 3) := by decide +kernel
theorem d_X_totalPositionOf_11 : decode prog_1_method_27_code 11 = .ok (.arraylength, 1) := by decide +kernel
theorem d_X_totalPositionOf_12 : decode prog_1_method_27_code 12 = .ok (.if_icmp .ge 19, 3) := by decide +kernel
theorem d_X_totalPositionOf_15 : decode prog_1_method_27_code 15 = .ok (.lload_n 2, 1) := by decide +kernel
theorem d_X_totalPositionOf_16 : decode prog_1_method_27_code 16 = .ok (.aload_n 0, 1) := by decide +kernel
theorem d_X_totalPositionOf_17 : decode prog_1_method_27_code 17 = .ok (.iload_n 1, 1) := by decide +kernel
theorem d_X_totalPositionOf_18 : decode prog_1_method_27_code 18 = .ok (.iload 4, 2) := by decide +kernel
theorem d_X_totalPositionOf_20 : decode prog_1_method_27_code 20 = .ok (.invokevirtual 65, 3) := by decide +kernel
theorem d_X_totalPositionOf_23 : decode prog_1_method_27_code 23 = .ok (.ladd, 1) := by decide +kernel
theorem d_X_totalPositionOf_24 : decode prog_1_method_27_code 24 = .ok (.lstore_n 2, 1) := by decide +kernel
theorem d_X_totalPositionOf_25 : decode prog_1_method_27_code 25 = .ok (.iinc 4 1, 3) := by decide +kernel
theorem d_X_totalPositionOf_28 : decode prog_1_method_27_code 28 = .ok (.goto (-23), 3) := by decide +kernel
theorem d_X_totalPositionOf_31 : decode prog_1_method_27_code 31 = .ok (.lload_n 2, 1) := by decide +kernel
theorem d_X_totalPositionOf_32 : decode prog_1_method_27_code 32 = .ok (.lreturn, 1) := by decide +kernel
abbrev y_X_end : MethodName := ⟨"GridlockDesk", "end", "(LGridlockDesk$Payment;I)V"⟩
abbrev ws_X_end : List Cond := .code y_X_end prog_1_method_37_code 3 none :: TB
theorem d_X_end_0 : decode prog_1_method_37_code 0 = .ok (.aload_n 0, 1) := by decide +kernel
theorem d_X_end_1 : decode prog_1_method_37_code 1 = .ok (.getfield 20, 3) := by decide +kernel
theorem d_X_end_4 : decode prog_1_method_37_code 4 = .ok (.aload_n 1, 1) := by decide +kernel
theorem d_X_end_5 : decode prog_1_method_37_code 5 = .ok (.getfield 111, 3) := by decide +kernel
theorem d_X_end_8 : decode prog_1_method_37_code 8 = .ok (.aaload, 1) := by decide +kernel
theorem d_X_end_9 : decode prog_1_method_37_code 9 = .ok (.aload_n 1, 1) := by decide +kernel
theorem d_X_end_10 : decode prog_1_method_37_code 10 = .ok (.invokevirtual 114, 3) := by decide +kernel
theorem d_X_end_13 : decode prog_1_method_37_code 13 = .ok (.aload_n 1, 1) := by decide +kernel
theorem d_X_end_14 : decode prog_1_method_37_code 14 = .ok (.iload_n 2, 1) := by decide +kernel
theorem d_X_end_15 : decode prog_1_method_37_code 15 = .ok (.putfield 148, 3) := by decide +kernel
theorem d_X_end_18 : decode prog_1_method_37_code 18 = .ok (.return_, 1) := by decide +kernel
abbrev y_X_settle : MethodName := ⟨"GridlockDesk", "settle", "(LGridlockDesk$Payment;I)V"⟩
abbrev ws_X_settle : List Cond := .code y_X_settle prog_1_method_36_code 4 none :: TB
theorem d_X_settle_0 : decode prog_1_method_36_code 0 = .ok (.aload_n 0, 1) := by decide +kernel
theorem d_X_settle_1 : decode prog_1_method_36_code 1 = .ok (.aload_n 1, 1) := by decide +kernel
theorem d_X_settle_2 : decode prog_1_method_36_code 2 = .ok (.iload_n 2, 1) := by decide +kernel
theorem d_X_settle_3 : decode prog_1_method_36_code 3 = .ok (.invokevirtual 107, 3) := by decide +kernel
theorem d_X_settle_6 : decode prog_1_method_36_code 6 = .ok (.aload_n 0, 1) := by decide +kernel
theorem d_X_settle_7 : decode prog_1_method_36_code 7 = .ok (.getfield 20, 3) := by decide +kernel
theorem d_X_settle_10 : decode prog_1_method_36_code 10 = .ok (.aload_n 1, 1) := by decide +kernel
theorem d_X_settle_11 : decode prog_1_method_36_code 11 = .ok (.getfield 111, 3) := by decide +kernel
theorem d_X_settle_14 : decode prog_1_method_36_code 14 = .ok (.aaload, 1) := by decide +kernel
theorem d_X_settle_15 : decode prog_1_method_36_code 15 = .ok (.astore_n 3, 1) := by decide +kernel
theorem d_X_settle_16 : decode prog_1_method_36_code 16 = .ok (.aload_n 3, 1) := by decide +kernel
theorem d_X_settle_17 : decode prog_1_method_36_code 17 = .ok (.dup, 1) := by decide +kernel
theorem d_X_settle_18 : decode prog_1_method_36_code 18 = .ok (.getfield 45, 3) := by decide +kernel
theorem d_X_settle_21 : decode prog_1_method_36_code 21 = .ok (.aload_n 1, 1) := by decide +kernel
theorem d_X_settle_22 : decode prog_1_method_36_code 22 = .ok (.getfield 185, 3) := by decide +kernel
theorem d_X_settle_25 : decode prog_1_method_36_code 25 = .ok (.lsub, 1) := by decide +kernel
theorem d_X_settle_26 : decode prog_1_method_36_code 26 = .ok (.putfield 45, 3) := by decide +kernel
theorem d_X_settle_29 : decode prog_1_method_36_code 29 = .ok (.aload_n 3, 1) := by decide +kernel
theorem d_X_settle_30 : decode prog_1_method_36_code 30 = .ok (.getfield 130, 3) := by decide +kernel
theorem d_X_settle_33 : decode prog_1_method_36_code 33 = .ok (.aload_n 1, 1) := by decide +kernel
theorem d_X_settle_34 : decode prog_1_method_36_code 34 = .ok (.getfield 188, 3) := by decide +kernel
theorem d_X_settle_37 : decode prog_1_method_36_code 37 = .ok (.dup2, 1) := by decide +kernel
theorem d_X_settle_38 : decode prog_1_method_36_code 38 = .ok (.laload, 1) := by decide +kernel
theorem d_X_settle_39 : decode prog_1_method_36_code 39 = .ok (.aload_n 1, 1) := by decide +kernel
theorem d_X_settle_40 : decode prog_1_method_36_code 40 = .ok (.getfield 185, 3) := by decide +kernel
theorem d_X_settle_43 : decode prog_1_method_36_code 43 = .ok (.ladd, 1) := by decide +kernel
theorem d_X_settle_44 : decode prog_1_method_36_code 44 = .ok (.lastore, 1) := by decide +kernel
theorem d_X_settle_45 : decode prog_1_method_36_code 45 = .ok (.aload_n 0, 1) := by decide +kernel
theorem d_X_settle_46 : decode prog_1_method_36_code 46 = .ok (.getfield 20, 3) := by decide +kernel
theorem d_X_settle_49 : decode prog_1_method_36_code 49 = .ok (.aload_n 1, 1) := by decide +kernel
theorem d_X_settle_50 : decode prog_1_method_36_code 50 = .ok (.getfield 188, 3) := by decide +kernel
theorem d_X_settle_53 : decode prog_1_method_36_code 53 = .ok (.aaload, 1) := by decide +kernel
theorem d_X_settle_54 : decode prog_1_method_36_code 54 = .ok (.dup, 1) := by decide +kernel
theorem d_X_settle_55 : decode prog_1_method_36_code 55 = .ok (.getfield 45, 3) := by decide +kernel
theorem d_X_settle_58 : decode prog_1_method_36_code 58 = .ok (.aload_n 1, 1) := by decide +kernel
theorem d_X_settle_59 : decode prog_1_method_36_code 59 = .ok (.getfield 185, 3) := by decide +kernel
theorem d_X_settle_62 : decode prog_1_method_36_code 62 = .ok (.ladd, 1) := by decide +kernel
theorem d_X_settle_63 : decode prog_1_method_36_code 63 = .ok (.putfield 45, 3) := by decide +kernel
theorem d_X_settle_66 : decode prog_1_method_36_code 66 = .ok (.aload_n 0, 1) := by decide +kernel
theorem d_X_settle_67 : decode prog_1_method_36_code 67 = .ok (.dup, 1) := by decide +kernel
theorem d_X_settle_68 : decode prog_1_method_36_code 68 = .ok (.getfield 151, 3) := by decide +kernel
theorem d_X_settle_71 : decode prog_1_method_36_code 71 = .ok (.aload_n 1, 1) := by decide +kernel
theorem d_X_settle_72 : decode prog_1_method_36_code 72 = .ok (.getfield 185, 3) := by decide +kernel
theorem d_X_settle_75 : decode prog_1_method_36_code 75 = .ok (.ladd, 1) := by decide +kernel
theorem d_X_settle_76 : decode prog_1_method_36_code 76 = .ok (.putfield 151, 3) := by decide +kernel
theorem d_X_settle_79 : decode prog_1_method_36_code 79 = .ok (.return_, 1) := by decide +kernel
abbrev y_X_settleChosen : MethodName := ⟨"GridlockDesk", "settleChosen", "(I)I"⟩
abbrev ws_X_settleChosen : List Cond := .code y_X_settleChosen prog_1_method_35_code 5 (some .int) :: TB
theorem d_X_settleChosen_0 : decode prog_1_method_35_code 0 = .ok (.iconst 0, 1) := by decide +kernel
theorem d_X_settleChosen_1 : decode prog_1_method_35_code 1 = .ok (.istore_n 2, 1) := by decide +kernel
theorem d_X_settleChosen_2 : decode prog_1_method_35_code 2 = .ok (.iconst 0, 1) := by decide +kernel
theorem d_X_settleChosen_3 : decode prog_1_method_35_code 3 = .ok (.istore_n 3, 1) := by decide +kernel
theorem d_X_settleChosen_4 : decode prog_1_method_35_code 4 = .ok (.iload_n 3, 1) := by decide +kernel
theorem d_X_settleChosen_5 : decode prog_1_method_35_code 5 = .ok (.aload_n 0, 1) := by decide +kernel
theorem d_X_settleChosen_6 : decode prog_1_method_35_code 6 = .ok (.getfield 20, 3) := by decide +kernel
theorem d_X_settleChosen_9 : decode prog_1_method_35_code 9 = .ok (.arraylength, 1) := by decide +kernel
theorem d_X_settleChosen_10 : decode prog_1_method_35_code 10 = .ok (.if_icmp .ge 60, 3) := by decide +kernel
theorem d_X_settleChosen_13 : decode prog_1_method_35_code 13 = .ok (.iconst 0, 1) := by decide +kernel
theorem d_X_settleChosen_14 : decode prog_1_method_35_code 14 = .ok (.istore 4, 2) := by decide +kernel
theorem d_X_settleChosen_16 : decode prog_1_method_35_code 16 = .ok (.iload 4, 2) := by decide +kernel
theorem d_X_settleChosen_18 : decode prog_1_method_35_code 18 = .ok (.aload_n 0, 1) := by decide +kernel
theorem d_X_settleChosen_19 : decode prog_1_method_35_code 19 = .ok (.getfield 33, 3) := by decide +kernel
theorem d_X_settleChosen_22 : decode prog_1_method_35_code 22 = .ok (.iload_n 3, 1) := by decide +kernel
theorem d_X_settleChosen_23 : decode prog_1_method_35_code 23 = .ok (.iaload, 1) := by decide +kernel
theorem d_X_settleChosen_24 : decode prog_1_method_35_code 24 = .ok (.if_icmp .ge 40, 3) := by decide +kernel
theorem d_X_settleChosen_27 : decode prog_1_method_35_code 27 = .ok (.aload_n 0, 1) := by decide +kernel
theorem d_X_settleChosen_28 : decode prog_1_method_35_code 28 = .ok (.getfield 20, 3) := by decide +kernel
theorem d_X_settleChosen_31 : decode prog_1_method_35_code 31 = .ok (.iload_n 3, 1) := by decide +kernel
theorem d_X_settleChosen_32 : decode prog_1_method_35_code 32 = .ok (.aaload, 1) := by decide +kernel
theorem d_X_settleChosen_33 : decode prog_1_method_35_code 33 = .ok (.getfield 94, 3) := by decide +kernel
theorem d_X_settleChosen_36 : decode prog_1_method_35_code 36 = .ok (.ifCond .le 28, 3) := by decide +kernel
theorem d_X_settleChosen_39 : decode prog_1_method_35_code 39 = .ok (.aload_n 0, 1) := by decide +kernel
theorem d_X_settleChosen_40 : decode prog_1_method_35_code 40 = .ok (.aload_n 0, 1) := by decide +kernel
theorem d_X_settleChosen_41 : decode prog_1_method_35_code 41 = .ok (.getfield 20, 3) := by decide +kernel
theorem d_X_settleChosen_44 : decode prog_1_method_35_code 44 = .ok (.iload_n 3, 1) := by decide +kernel
theorem d_X_settleChosen_45 : decode prog_1_method_35_code 45 = .ok (.aaload, 1) := by decide +kernel
theorem d_X_settleChosen_46 : decode prog_1_method_35_code 46 = .ok (.getfield 139, 3) := by decide +kernel
theorem d_X_settleChosen_49 : decode prog_1_method_35_code 49 = .ok (.iconst 0, 1) := by decide +kernel
theorem d_X_settleChosen_50 : decode prog_1_method_35_code 50 = .ok (.aaload, 1) := by decide +kernel
theorem d_X_settleChosen_51 : decode prog_1_method_35_code 51 = .ok (.iload_n 1, 1) := by decide +kernel
theorem d_X_settleChosen_52 : decode prog_1_method_35_code 52 = .ok (.invokevirtual 182, 3) := by decide +kernel
theorem d_X_settleChosen_55 : decode prog_1_method_35_code 55 = .ok (.iinc 2 1, 3) := by decide +kernel
theorem d_X_settleChosen_58 : decode prog_1_method_35_code 58 = .ok (.iinc 4 1, 3) := by decide +kernel
theorem d_X_settleChosen_61 : decode prog_1_method_35_code 61 = .ok (.goto (-45), 3) := by decide +kernel
theorem d_X_settleChosen_64 : decode prog_1_method_35_code 64 = .ok (.iinc 3 1, 3) := by decide +kernel
theorem d_X_settleChosen_67 : decode prog_1_method_35_code 67 = .ok (.goto (-63), 3) := by decide +kernel
theorem d_X_settleChosen_70 : decode prog_1_method_35_code 70 = .ok (.iload_n 2, 1) := by decide +kernel
theorem d_X_settleChosen_71 : decode prog_1_method_35_code 71 = .ok (.ireturn, 1) := by decide +kernel
abbrev y_X_wouldBeWell : MethodName := ⟨"GridlockDesk", "wouldBeWell", "(I)Z"⟩
abbrev ws_X_wouldBeWell : List Cond := .code y_X_wouldBeWell prog_1_method_34_code 10 (some .boolean) :: TB
theorem d_X_wouldBeWell_0 : decode prog_1_method_34_code 0 = .ok (.aload_n 0, 1) := by decide +kernel
theorem d_X_wouldBeWell_1 : decode prog_1_method_34_code 1 = .ok (.getfield 20, 3) := by decide +kernel
theorem d_X_wouldBeWell_4 : decode prog_1_method_34_code 4 = .ok (.iload_n 1, 1) := by decide +kernel
theorem d_X_wouldBeWell_5 : decode prog_1_method_34_code 5 = .ok (.aaload, 1) := by decide +kernel
theorem d_X_wouldBeWell_6 : decode prog_1_method_34_code 6 = .ok (.astore_n 2, 1) := by decide +kernel
theorem d_X_wouldBeWell_7 : decode prog_1_method_34_code 7 = .ok (.lconst 0, 1) := by decide +kernel
theorem d_X_wouldBeWell_8 : decode prog_1_method_34_code 8 = .ok (.lstore_n 3, 1) := by decide +kernel
theorem d_X_wouldBeWell_9 : decode prog_1_method_34_code 9 = .ok (.lconst 0, 1) := by decide +kernel
theorem d_X_wouldBeWell_10 : decode prog_1_method_34_code 10 = .ok (.lstore 5, 2) := by decide +kernel
theorem d_X_wouldBeWell_12 : decode prog_1_method_34_code 12 = .ok (.iconst 0, 1) := by decide +kernel
theorem d_X_wouldBeWell_13 : decode prog_1_method_34_code 13 = .ok (.istore 7, 2) := by decide +kernel
theorem d_X_wouldBeWell_15 : decode prog_1_method_34_code 15 = .ok (.iload 7, 2) := by decide +kernel
theorem d_X_wouldBeWell_17 : decode prog_1_method_34_code 17 = .ok (.aload_n 0, 1) := by decide +kernel
theorem d_X_wouldBeWell_18 : decode prog_1_method_34_code 18 = .ok (.getfield 20, 3) := by decide +kernel
theorem d_X_wouldBeWell_21 : decode prog_1_method_34_code 21 = .ok (.arraylength, 1) := by decide +kernel
theorem d_X_wouldBeWell_22 : decode prog_1_method_34_code 22 = .ok (.if_icmp .ge 79, 3) := by decide +kernel
theorem d_X_wouldBeWell_25 : decode prog_1_method_34_code 25 = .ok (.aload_n 2, 1) := by decide +kernel
theorem d_X_wouldBeWell_26 : decode prog_1_method_34_code 26 = .ok (.aload_n 0, 1) := by decide +kernel
theorem d_X_wouldBeWell_27 : decode prog_1_method_34_code 27 = .ok (.getfield 33, 3) := by decide +kernel
theorem d_X_wouldBeWell_30 : decode prog_1_method_34_code 30 = .ok (.iload_n 1, 1) := by decide +kernel
theorem d_X_wouldBeWell_31 : decode prog_1_method_34_code 31 = .ok (.iaload, 1) := by decide +kernel
theorem d_X_wouldBeWell_32 : decode prog_1_method_34_code 32 = .ok (.iload 7, 2) := by decide +kernel
theorem d_X_wouldBeWell_34 : decode prog_1_method_34_code 34 = .ok (.invokevirtual 179, 3) := by decide +kernel
theorem d_X_wouldBeWell_37 : decode prog_1_method_34_code 37 = .ok (.aload_n 0, 1) := by decide +kernel
theorem d_X_wouldBeWell_38 : decode prog_1_method_34_code 38 = .ok (.getfield 20, 3) := by decide +kernel
theorem d_X_wouldBeWell_41 : decode prog_1_method_34_code 41 = .ok (.iload 7, 2) := by decide +kernel
theorem d_X_wouldBeWell_43 : decode prog_1_method_34_code 43 = .ok (.aaload, 1) := by decide +kernel
theorem d_X_wouldBeWell_44 : decode prog_1_method_34_code 44 = .ok (.aload_n 0, 1) := by decide +kernel
theorem d_X_wouldBeWell_45 : decode prog_1_method_34_code 45 = .ok (.getfield 33, 3) := by decide +kernel
theorem d_X_wouldBeWell_48 : decode prog_1_method_34_code 48 = .ok (.iload 7, 2) := by decide +kernel
theorem d_X_wouldBeWell_50 : decode prog_1_method_34_code 50 = .ok (.iaload, 1) := by decide +kernel
theorem d_X_wouldBeWell_51 : decode prog_1_method_34_code 51 = .ok (.iload_n 1, 1) := by decide +kernel
theorem d_X_wouldBeWell_52 : decode prog_1_method_34_code 52 = .ok (.invokevirtual 179, 3) := by decide +kernel
theorem d_X_wouldBeWell_55 : decode prog_1_method_34_code 55 = .ok (.lsub, 1) := by decide +kernel
theorem d_X_wouldBeWell_56 : decode prog_1_method_34_code 56 = .ok (.lstore 8, 2) := by decide +kernel
theorem d_X_wouldBeWell_58 : decode prog_1_method_34_code 58 = .ok (.lload 8, 2) := by decide +kernel
theorem d_X_wouldBeWell_60 : decode prog_1_method_34_code 60 = .ok (.aload_n 2, 1) := by decide +kernel
theorem d_X_wouldBeWell_61 : decode prog_1_method_34_code 61 = .ok (.getfield 73, 3) := by decide +kernel
theorem d_X_wouldBeWell_64 : decode prog_1_method_34_code 64 = .ok (.iload 7, 2) := by decide +kernel
theorem d_X_wouldBeWell_66 : decode prog_1_method_34_code 66 = .ok (.laload, 1) := by decide +kernel
theorem d_X_wouldBeWell_67 : decode prog_1_method_34_code 67 = .ok (.invokestatic 69, 3) := by decide +kernel
theorem d_X_wouldBeWell_70 : decode prog_1_method_34_code 70 = .ok (.ifCond .eq 5, 3) := by decide +kernel
theorem d_X_wouldBeWell_73 : decode prog_1_method_34_code 73 = .ok (.iconst 0, 1) := by decide +kernel
theorem d_X_wouldBeWell_74 : decode prog_1_method_34_code 74 = .ok (.ireturn, 1) := by decide +kernel
theorem d_X_wouldBeWell_75 : decode prog_1_method_34_code 75 = .ok (.lload_n 3, 1) := by decide +kernel
theorem d_X_wouldBeWell_76 : decode prog_1_method_34_code 76 = .ok (.lload 8, 2) := by decide +kernel
theorem d_X_wouldBeWell_78 : decode prog_1_method_34_code 78 = .ok (.ladd, 1) := by decide +kernel
theorem d_X_wouldBeWell_79 : decode prog_1_method_34_code 79 = .ok (.lstore_n 3, 1) := by decide +kernel
theorem d_X_wouldBeWell_80 : decode prog_1_method_34_code 80 = .ok (.lload 5, 2) := by decide +kernel
theorem d_X_wouldBeWell_82 : decode prog_1_method_34_code 82 = .ok (.lload 8, 2) := by decide +kernel
theorem d_X_wouldBeWell_84 : decode prog_1_method_34_code 84 = .ok (.aload_n 0, 1) := by decide +kernel
theorem d_X_wouldBeWell_85 : decode prog_1_method_34_code 85 = .ok (.iload_n 1, 1) := by decide +kernel
theorem d_X_wouldBeWell_86 : decode prog_1_method_34_code 86 = .ok (.iload 7, 2) := by decide +kernel
theorem d_X_wouldBeWell_88 : decode prog_1_method_34_code 88 = .ok (.invokevirtual 65, 3) := by decide +kernel
theorem d_X_wouldBeWell_91 : decode prog_1_method_34_code 91 = .ok (.lsub, 1) := by decide +kernel
theorem d_X_wouldBeWell_92 : decode prog_1_method_34_code 92 = .ok (.ladd, 1) := by decide +kernel
theorem d_X_wouldBeWell_93 : decode prog_1_method_34_code 93 = .ok (.lstore 5, 2) := by decide +kernel
theorem d_X_wouldBeWell_95 : decode prog_1_method_34_code 95 = .ok (.iinc 7 1, 3) := by decide +kernel
theorem d_X_wouldBeWell_98 : decode prog_1_method_34_code 98 = .ok (.goto (-83), 3) := by decide +kernel
theorem d_X_wouldBeWell_101 : decode prog_1_method_34_code 101 = .ok (.aload_n 2, 1) := by decide +kernel
theorem d_X_wouldBeWell_102 : decode prog_1_method_34_code 102 = .ok (.getfield 45, 3) := by decide +kernel
theorem d_X_wouldBeWell_105 : decode prog_1_method_34_code 105 = .ok (.lload 5, 2) := by decide +kernel
theorem d_X_wouldBeWell_107 : decode prog_1_method_34_code 107 = .ok (.lsub, 1) := by decide +kernel
theorem d_X_wouldBeWell_108 : decode prog_1_method_34_code 108 = .ok (.aload_n 2, 1) := by decide +kernel
theorem d_X_wouldBeWell_109 : decode prog_1_method_34_code 109 = .ok (.getfield 49, 3) := by decide +kernel
theorem d_X_wouldBeWell_112 : decode prog_1_method_34_code 112 = .ok (.lneg, 1) := by decide +kernel
theorem d_X_wouldBeWell_113 : decode prog_1_method_34_code 113 = .ok (.lcmp, 1) := by decide +kernel
theorem d_X_wouldBeWell_114 : decode prog_1_method_34_code 114 = .ok (.ifCond .lt 18, 3) := by decide +kernel
theorem d_X_wouldBeWell_117 : decode prog_1_method_34_code 117 = .ok (.lload_n 3, 1) := by decide +kernel
theorem d_X_wouldBeWell_118 : decode prog_1_method_34_code 118 = .ok (.aload_n 2, 1) := by decide +kernel
theorem d_X_wouldBeWell_119 : decode prog_1_method_34_code 119 = .ok (.getfield 81, 3) := by decide +kernel
theorem d_X_wouldBeWell_122 : decode prog_1_method_34_code 122 = .ok (.invokestatic 69, 3) := by decide +kernel
theorem d_X_wouldBeWell_125 : decode prog_1_method_34_code 125 = .ok (.ifCond .ne 7, 3) := by decide +kernel
theorem d_X_wouldBeWell_128 : decode prog_1_method_34_code 128 = .ok (.iconst 1, 1) := by decide +kernel
theorem d_X_wouldBeWell_129 : decode prog_1_method_34_code 129 = .ok (.goto 4, 3) := by decide +kernel
theorem d_X_wouldBeWell_132 : decode prog_1_method_34_code 132 = .ok (.iconst 0, 1) := by decide +kernel
theorem d_X_wouldBeWell_133 : decode prog_1_method_34_code 133 = .ok (.ireturn, 1) := by decide +kernel
abbrev y_X_firstUnwellBank : MethodName := ⟨"GridlockDesk", "firstUnwellBank", "()I"⟩
abbrev ws_X_firstUnwellBank : List Cond := .code y_X_firstUnwellBank prog_1_method_33_code 2 (some .int) :: TB
theorem d_X_firstUnwellBank_0 : decode prog_1_method_33_code 0 = .ok (.iconst 0, 1) := by decide +kernel
theorem d_X_firstUnwellBank_1 : decode prog_1_method_33_code 1 = .ok (.istore_n 1, 1) := by decide +kernel
theorem d_X_firstUnwellBank_2 : decode prog_1_method_33_code 2 = .ok (.iload_n 1, 1) := by decide +kernel
theorem d_X_firstUnwellBank_3 : decode prog_1_method_33_code 3 = .ok (.aload_n 0, 1) := by decide +kernel
theorem d_X_firstUnwellBank_4 : decode prog_1_method_33_code 4 = .ok (.getfield 20, 3) := by decide +kernel
theorem d_X_firstUnwellBank_7 : decode prog_1_method_33_code 7 = .ok (.arraylength, 1) := by decide +kernel
theorem d_X_firstUnwellBank_8 : decode prog_1_method_33_code 8 = .ok (.if_icmp .ge 19, 3) := by decide +kernel
theorem d_X_firstUnwellBank_11 : decode prog_1_method_33_code 11 = .ok (.aload_n 0, 1) := by decide +kernel
theorem d_X_firstUnwellBank_12 : decode prog_1_method_33_code 12 = .ok (.iload_n 1, 1) := by decide +kernel
theorem d_X_firstUnwellBank_13 : decode prog_1_method_33_code 13 = .ok (.invokevirtual 176, 3) := by decide +kernel
theorem d_X_firstUnwellBank_16 : decode prog_1_method_33_code 16 = .ok (.ifCond .ne 5, 3) := by decide +kernel
theorem d_X_firstUnwellBank_19 : decode prog_1_method_33_code 19 = .ok (.iload_n 1, 1) := by decide +kernel
theorem d_X_firstUnwellBank_20 : decode prog_1_method_33_code 20 = .ok (.ireturn, 1) := by decide +kernel
theorem d_X_firstUnwellBank_21 : decode prog_1_method_33_code 21 = .ok (.iinc 1 1, 3) := by decide +kernel
theorem d_X_firstUnwellBank_24 : decode prog_1_method_33_code 24 = .ok (.goto (-22), 3) := by decide +kernel
theorem d_X_firstUnwellBank_27 : decode prog_1_method_33_code 27 = .ok (.iconst (-1), 1) := by decide +kernel
theorem d_X_firstUnwellBank_28 : decode prog_1_method_33_code 28 = .ok (.ireturn, 1) := by decide +kernel
abbrev y_X_chooseHeads : MethodName := ⟨"GridlockDesk", "chooseHeads", "(II)Z"⟩
abbrev ws_X_chooseHeads : List Cond := .code y_X_chooseHeads prog_1_method_31_code 3 (some .boolean) :: TB
theorem d_X_chooseHeads_0 : decode prog_1_method_31_code 0 = .ok (.aload_n 0, 1) := by decide +kernel
theorem d_X_chooseHeads_1 : decode prog_1_method_31_code 1 = .ok (.getfield 33, 3) := by decide +kernel
theorem d_X_chooseHeads_4 : decode prog_1_method_31_code 4 = .ok (.iconst 0, 1) := by decide +kernel
theorem d_X_chooseHeads_5 : decode prog_1_method_31_code 5 = .ok (.invokestatic 170, 3) := by decide +kernel
theorem d_X_chooseHeads_8 : decode prog_1_method_31_code 8 = .ok (.aload_n 0, 1) := by decide +kernel
theorem d_X_chooseHeads_9 : decode prog_1_method_31_code 9 = .ok (.getfield 33, 3) := by decide +kernel
theorem d_X_chooseHeads_12 : decode prog_1_method_31_code 12 = .ok (.iload_n 1, 1) := by decide +kernel
theorem d_X_chooseHeads_13 : decode prog_1_method_31_code 13 = .ok (.iconst 1, 1) := by decide +kernel
theorem d_X_chooseHeads_14 : decode prog_1_method_31_code 14 = .ok (.iastore, 1) := by decide +kernel
theorem d_X_chooseHeads_15 : decode prog_1_method_31_code 15 = .ok (.aload_n 0, 1) := by decide +kernel
theorem d_X_chooseHeads_16 : decode prog_1_method_31_code 16 = .ok (.getfield 33, 3) := by decide +kernel
theorem d_X_chooseHeads_19 : decode prog_1_method_31_code 19 = .ok (.iload_n 2, 1) := by decide +kernel
theorem d_X_chooseHeads_20 : decode prog_1_method_31_code 20 = .ok (.iconst 1, 1) := by decide +kernel
theorem d_X_chooseHeads_21 : decode prog_1_method_31_code 21 = .ok (.iastore, 1) := by decide +kernel
theorem d_X_chooseHeads_22 : decode prog_1_method_31_code 22 = .ok (.aload_n 0, 1) := by decide +kernel
theorem d_X_chooseHeads_23 : decode prog_1_method_31_code 23 = .ok (.invokevirtual 173, 3) := by decide +kernel
theorem d_X_chooseHeads_26 : decode prog_1_method_31_code 26 = .ok (.iconst (-1), 1) := by decide +kernel
theorem d_X_chooseHeads_27 : decode prog_1_method_31_code 27 = .ok (.if_icmp .ne 7, 3) := by decide +kernel
theorem d_X_chooseHeads_30 : decode prog_1_method_31_code 30 = .ok (.iconst 1, 1) := by decide +kernel
theorem d_X_chooseHeads_31 : decode prog_1_method_31_code 31 = .ok (.goto 4, 3) := by decide +kernel
theorem d_X_chooseHeads_34 : decode prog_1_method_31_code 34 = .ok (.iconst 0, 1) := by decide +kernel
theorem d_X_chooseHeads_35 : decode prog_1_method_31_code 35 = .ok (.ireturn, 1) := by decide +kernel
abbrev y_X_chooseReadyHead : MethodName := ⟨"GridlockDesk", "chooseReadyHead", "()Z"⟩
abbrev ws_X_chooseReadyHead : List Cond := .code y_X_chooseReadyHead prog_1_method_29_code 2 (some .boolean) :: TB
theorem d_X_chooseReadyHead_0 : decode prog_1_method_29_code 0 = .ok (.iconst 0, 1) := by decide +kernel
theorem d_X_chooseReadyHead_1 : decode prog_1_method_29_code 1 = .ok (.istore_n 1, 1) := by decide +kernel
theorem d_X_chooseReadyHead_2 : decode prog_1_method_29_code 2 = .ok (.iload_n 1, 1) := by decide +kernel
theorem d_X_chooseReadyHead_3 : decode prog_1_method_29_code 3 = .ok (.aload_n 0, 1) := by decide +kernel
theorem d_X_chooseReadyHead_4 : decode prog_1_method_29_code 4 = .ok (.getfield 20, 3) := by decide +kernel
theorem d_X_chooseReadyHead_7 : decode prog_1_method_29_code 7 = .ok (.arraylength, 1) := by decide +kernel
theorem d_X_chooseReadyHead_8 : decode prog_1_method_29_code 8 = .ok (.if_icmp .ge 32, 3) := by decide +kernel
theorem d_X_chooseReadyHead_11 : decode prog_1_method_29_code 11 = .ok (.aload_n 0, 1) := by decide +kernel
theorem d_X_chooseReadyHead_12 : decode prog_1_method_29_code 12 = .ok (.getfield 20, 3) := by decide +kernel
theorem d_X_chooseReadyHead_15 : decode prog_1_method_29_code 15 = .ok (.iload_n 1, 1) := by decide +kernel
theorem d_X_chooseReadyHead_16 : decode prog_1_method_29_code 16 = .ok (.aaload, 1) := by decide +kernel
theorem d_X_chooseReadyHead_17 : decode prog_1_method_29_code 17 = .ok (.getfield 94, 3) := by decide +kernel
theorem d_X_chooseReadyHead_20 : decode prog_1_method_29_code 20 = .ok (.ifCond .le 14, 3) := by decide +kernel
theorem d_X_chooseReadyHead_23 : decode prog_1_method_29_code 23 = .ok (.aload_n 0, 1) := by decide +kernel
theorem d_X_chooseReadyHead_24 : decode prog_1_method_29_code 24 = .ok (.iload_n 1, 1) := by decide +kernel
theorem d_X_chooseReadyHead_25 : decode prog_1_method_29_code 25 = .ok (.iload_n 1, 1) := by decide +kernel
theorem d_X_chooseReadyHead_26 : decode prog_1_method_29_code 26 = .ok (.invokevirtual 163, 3) := by decide +kernel
theorem d_X_chooseReadyHead_29 : decode prog_1_method_29_code 29 = .ok (.ifCond .eq 5, 3) := by decide +kernel
theorem d_X_chooseReadyHead_32 : decode prog_1_method_29_code 32 = .ok (.iconst 1, 1) := by decide +kernel
theorem d_X_chooseReadyHead_33 : decode prog_1_method_29_code 33 = .ok (.ireturn, 1) := by decide +kernel
theorem d_X_chooseReadyHead_34 : decode prog_1_method_29_code 34 = .ok (.iinc 1 1, 3) := by decide +kernel
theorem d_X_chooseReadyHead_37 : decode prog_1_method_29_code 37 = .ok (.goto (-35), 3) := by decide +kernel
theorem d_X_chooseReadyHead_40 : decode prog_1_method_29_code 40 = .ok (.iconst 0, 1) := by decide +kernel
theorem d_X_chooseReadyHead_41 : decode prog_1_method_29_code 41 = .ok (.ireturn, 1) := by decide +kernel
abbrev y_X_chooseReadyPair : MethodName := ⟨"GridlockDesk", "chooseReadyPair", "()Z"⟩
abbrev ws_X_chooseReadyPair : List Cond := .code y_X_chooseReadyPair prog_1_method_30_code 3 (some .boolean) :: TB
theorem d_X_chooseReadyPair_0 : decode prog_1_method_30_code 0 = .ok (.iconst 0, 1) := by decide +kernel
theorem d_X_chooseReadyPair_1 : decode prog_1_method_30_code 1 = .ok (.istore_n 1, 1) := by decide +kernel
theorem d_X_chooseReadyPair_2 : decode prog_1_method_30_code 2 = .ok (.iload_n 1, 1) := by decide +kernel
theorem d_X_chooseReadyPair_3 : decode prog_1_method_30_code 3 = .ok (.aload_n 0, 1) := by decide +kernel
theorem d_X_chooseReadyPair_4 : decode prog_1_method_30_code 4 = .ok (.getfield 20, 3) := by decide +kernel
theorem d_X_chooseReadyPair_7 : decode prog_1_method_30_code 7 = .ok (.arraylength, 1) := by decide +kernel
theorem d_X_chooseReadyPair_8 : decode prog_1_method_30_code 8 = .ok (.if_icmp .ge 48, 3) := by decide +kernel
theorem d_X_chooseReadyPair_11 : decode prog_1_method_30_code 11 = .ok (.aload_n 0, 1) := by decide +kernel
theorem d_X_chooseReadyPair_12 : decode prog_1_method_30_code 12 = .ok (.getfield 20, 3) := by decide +kernel
theorem d_X_chooseReadyPair_15 : decode prog_1_method_30_code 15 = .ok (.iload_n 1, 1) := by decide +kernel
theorem d_X_chooseReadyPair_16 : decode prog_1_method_30_code 16 = .ok (.aaload, 1) := by decide +kernel
theorem d_X_chooseReadyPair_17 : decode prog_1_method_30_code 17 = .ok (.invokevirtual 166, 3) := by decide +kernel
theorem d_X_chooseReadyPair_20 : decode prog_1_method_30_code 20 = .ok (.istore_n 2, 1) := by decide +kernel
theorem d_X_chooseReadyPair_21 : decode prog_1_method_30_code 21 = .ok (.iload_n 2, 1) := by decide +kernel
theorem d_X_chooseReadyPair_22 : decode prog_1_method_30_code 22 = .ok (.iload_n 1, 1) := by decide +kernel
theorem d_X_chooseReadyPair_23 : decode prog_1_method_30_code 23 = .ok (.if_icmp .le 27, 3) := by decide +kernel
theorem d_X_chooseReadyPair_26 : decode prog_1_method_30_code 26 = .ok (.aload_n 0, 1) := by decide +kernel
theorem d_X_chooseReadyPair_27 : decode prog_1_method_30_code 27 = .ok (.getfield 20, 3) := by decide +kernel
theorem d_X_chooseReadyPair_30 : decode prog_1_method_30_code 30 = .ok (.iload_n 2, 1) := by decide +kernel
theorem d_X_chooseReadyPair_31 : decode prog_1_method_30_code 31 = .ok (.aaload, 1) := by decide +kernel
theorem d_X_chooseReadyPair_32 : decode prog_1_method_30_code 32 = .ok (.invokevirtual 166, 3) := by decide +kernel
theorem d_X_chooseReadyPair_35 : decode prog_1_method_30_code 35 = .ok (.iload_n 1, 1) := by decide +kernel
theorem d_X_chooseReadyPair_36 : decode prog_1_method_30_code 36 = .ok (.if_icmp .ne 14, 3) := by decide +kernel
theorem d_X_chooseReadyPair_39 : decode prog_1_method_30_code 39 = .ok (.aload_n 0, 1) := by decide +kernel
theorem d_X_chooseReadyPair_40 : decode prog_1_method_30_code 40 = .ok (.iload_n 1, 1) := by decide +kernel
theorem d_X_chooseReadyPair_41 : decode prog_1_method_30_code 41 = .ok (.iload_n 2, 1) := by decide +kernel
theorem d_X_chooseReadyPair_42 : decode prog_1_method_30_code 42 = .ok (.invokevirtual 163, 3) := by decide +kernel
theorem d_X_chooseReadyPair_45 : decode prog_1_method_30_code 45 = .ok (.ifCond .eq 5, 3) := by decide +kernel
theorem d_X_chooseReadyPair_48 : decode prog_1_method_30_code 48 = .ok (.iconst 1, 1) := by decide +kernel
theorem d_X_chooseReadyPair_49 : decode prog_1_method_30_code 49 = .ok (.ireturn, 1) := by decide +kernel
theorem d_X_chooseReadyPair_50 : decode prog_1_method_30_code 50 = .ok (.iinc 1 1, 3) := by decide +kernel
theorem d_X_chooseReadyPair_53 : decode prog_1_method_30_code 53 = .ok (.goto (-51), 3) := by decide +kernel
theorem d_X_chooseReadyPair_56 : decode prog_1_method_30_code 56 = .ok (.iconst 0, 1) := by decide +kernel
theorem d_X_chooseReadyPair_57 : decode prog_1_method_30_code 57 = .ok (.ireturn, 1) := by decide +kernel
abbrev y_X_sweep : MethodName := ⟨"GridlockDesk", "sweep", "()V"⟩
abbrev ws_X_sweep : List Cond := .code y_X_sweep prog_1_method_28_code 2 none :: TB
theorem d_X_sweep_0 : decode prog_1_method_28_code 0 = .ok (.iconst 0, 1) := by decide +kernel
theorem d_X_sweep_1 : decode prog_1_method_28_code 1 = .ok (.istore_n 1, 1) := by decide +kernel
theorem d_X_sweep_2 : decode prog_1_method_28_code 2 = .ok (.iload_n 1, 1) := by decide +kernel
theorem d_X_sweep_3 : decode prog_1_method_28_code 3 = .ok (.bipush 24, 2) := by decide +kernel
theorem d_X_sweep_5 : decode prog_1_method_28_code 5 = .ok (.if_icmp .ge 42, 3) := by decide +kernel
theorem d_X_sweep_8 : decode prog_1_method_28_code 8 = .ok (.aload_n 0, 1) := by decide +kernel
theorem d_X_sweep_9 : decode prog_1_method_28_code 9 = .ok (.invokevirtual 156, 3) := by decide +kernel
theorem d_X_sweep_12 : decode prog_1_method_28_code 12 = .ok (.ifCond .eq 12, 3) := by decide +kernel
theorem d_X_sweep_15 : decode prog_1_method_28_code 15 = .ok (.aload_n 0, 1) := by decide +kernel
theorem d_X_sweep_16 : decode prog_1_method_28_code 16 = .ok (.iconst 1, 1) := by decide +kernel
theorem d_X_sweep_17 : decode prog_1_method_28_code 17 = .ok (.invokevirtual 123, 3) := by decide +kernel
theorem d_X_sweep_20 : decode prog_1_method_28_code 20 = .ok (.pop, 1) := by decide +kernel
theorem d_X_sweep_21 : decode prog_1_method_28_code 21 = .ok (.goto 20, 3) := by decide +kernel
theorem d_X_sweep_24 : decode prog_1_method_28_code 24 = .ok (.aload_n 0, 1) := by decide +kernel
theorem d_X_sweep_25 : decode prog_1_method_28_code 25 = .ok (.invokevirtual 160, 3) := by decide +kernel
theorem d_X_sweep_28 : decode prog_1_method_28_code 28 = .ok (.ifCond .eq 12, 3) := by decide +kernel
theorem d_X_sweep_31 : decode prog_1_method_28_code 31 = .ok (.aload_n 0, 1) := by decide +kernel
theorem d_X_sweep_32 : decode prog_1_method_28_code 32 = .ok (.iconst 2, 1) := by decide +kernel
theorem d_X_sweep_33 : decode prog_1_method_28_code 33 = .ok (.invokevirtual 123, 3) := by decide +kernel
theorem d_X_sweep_36 : decode prog_1_method_28_code 36 = .ok (.pop, 1) := by decide +kernel
theorem d_X_sweep_37 : decode prog_1_method_28_code 37 = .ok (.goto 4, 3) := by decide +kernel
theorem d_X_sweep_40 : decode prog_1_method_28_code 40 = .ok (.return_, 1) := by decide +kernel
theorem d_X_sweep_41 : decode prog_1_method_28_code 41 = .ok (.iinc 1 1, 3) := by decide +kernel
theorem d_X_sweep_44 : decode prog_1_method_28_code 44 = .ok (.goto (-42), 3) := by decide +kernel
theorem d_X_sweep_47 : decode prog_1_method_28_code 47 = .ok (.return_, 1) := by decide +kernel
abbrev y_X_chooseGreatest : MethodName := ⟨"GridlockDesk", "chooseGreatest", "()V"⟩
abbrev ws_X_chooseGreatest : List Cond := .code y_X_chooseGreatest prog_1_method_32_code 3 none :: TB
theorem d_X_chooseGreatest_0 : decode prog_1_method_32_code 0 = .ok (.iconst 0, 1) := by decide +kernel
theorem d_X_chooseGreatest_1 : decode prog_1_method_32_code 1 = .ok (.istore_n 1, 1) := by decide +kernel
theorem d_X_chooseGreatest_2 : decode prog_1_method_32_code 2 = .ok (.iload_n 1, 1) := by decide +kernel
theorem d_X_chooseGreatest_3 : decode prog_1_method_32_code 3 = .ok (.aload_n 0, 1) := by decide +kernel
theorem d_X_chooseGreatest_4 : decode prog_1_method_32_code 4 = .ok (.getfield 20, 3) := by decide +kernel
theorem d_X_chooseGreatest_7 : decode prog_1_method_32_code 7 = .ok (.arraylength, 1) := by decide +kernel
theorem d_X_chooseGreatest_8 : decode prog_1_method_32_code 8 = .ok (.if_icmp .ge 24, 3) := by decide +kernel
theorem d_X_chooseGreatest_11 : decode prog_1_method_32_code 11 = .ok (.aload_n 0, 1) := by decide +kernel
theorem d_X_chooseGreatest_12 : decode prog_1_method_32_code 12 = .ok (.getfield 33, 3) := by decide +kernel
theorem d_X_chooseGreatest_15 : decode prog_1_method_32_code 15 = .ok (.iload_n 1, 1) := by decide +kernel
theorem d_X_chooseGreatest_16 : decode prog_1_method_32_code 16 = .ok (.aload_n 0, 1) := by decide +kernel
theorem d_X_chooseGreatest_17 : decode prog_1_method_32_code 17 = .ok (.getfield 20, 3) := by decide +kernel
theorem d_X_chooseGreatest_20 : decode prog_1_method_32_code 20 = .ok (.iload_n 1, 1) := by decide +kernel
theorem d_X_chooseGreatest_21 : decode prog_1_method_32_code 21 = .ok (.aaload, 1) := by decide +kernel
theorem d_X_chooseGreatest_22 : decode prog_1_method_32_code 22 = .ok (.getfield 94, 3) := by decide +kernel
theorem d_X_chooseGreatest_25 : decode prog_1_method_32_code 25 = .ok (.iastore, 1) := by decide +kernel
theorem d_X_chooseGreatest_26 : decode prog_1_method_32_code 26 = .ok (.iinc 1 1, 3) := by decide +kernel
theorem d_X_chooseGreatest_29 : decode prog_1_method_32_code 29 = .ok (.goto (-27), 3) := by decide +kernel
theorem d_X_chooseGreatest_32 : decode prog_1_method_32_code 32 = .ok (.iconst 0, 1) := by decide +kernel
theorem d_X_chooseGreatest_33 : decode prog_1_method_32_code 33 = .ok (.istore_n 1, 1) := by decide +kernel
theorem d_X_chooseGreatest_34 : decode prog_1_method_32_code 34 = .ok (.iload_n 1, 1) := by decide +kernel
theorem d_X_chooseGreatest_35 : decode prog_1_method_32_code 35 = .ok (.bipush 24, 2) := by decide +kernel
theorem d_X_chooseGreatest_37 : decode prog_1_method_32_code 37 = .ok (.if_icmp .ge 30, 3) := by decide +kernel
theorem d_X_chooseGreatest_40 : decode prog_1_method_32_code 40 = .ok (.aload_n 0, 1) := by decide +kernel
theorem d_X_chooseGreatest_41 : decode prog_1_method_32_code 41 = .ok (.invokevirtual 173, 3) := by decide +kernel
theorem d_X_chooseGreatest_44 : decode prog_1_method_32_code 44 = .ok (.istore_n 2, 1) := by decide +kernel
theorem d_X_chooseGreatest_45 : decode prog_1_method_32_code 45 = .ok (.iload_n 2, 1) := by decide +kernel
theorem d_X_chooseGreatest_46 : decode prog_1_method_32_code 46 = .ok (.iconst (-1), 1) := by decide +kernel
theorem d_X_chooseGreatest_47 : decode prog_1_method_32_code 47 = .ok (.if_icmp .ne 4, 3) := by decide +kernel
theorem d_X_chooseGreatest_50 : decode prog_1_method_32_code 50 = .ok (.return_, 1) := by decide +kernel
theorem d_X_chooseGreatest_51 : decode prog_1_method_32_code 51 = .ok (.aload_n 0, 1) := by decide +kernel
theorem d_X_chooseGreatest_52 : decode prog_1_method_32_code 52 = .ok (.getfield 33, 3) := by decide +kernel
theorem d_X_chooseGreatest_55 : decode prog_1_method_32_code 55 = .ok (.iload_n 2, 1) := by decide +kernel
theorem d_X_chooseGreatest_56 : decode prog_1_method_32_code 56 = .ok (.dup2, 1) := by decide +kernel
theorem d_X_chooseGreatest_57 : decode prog_1_method_32_code 57 = .ok (.iaload, 1) := by decide +kernel
theorem d_X_chooseGreatest_58 : decode prog_1_method_32_code 58 = .ok (.iconst 1, 1) := by decide +kernel
theorem d_X_chooseGreatest_59 : decode prog_1_method_32_code 59 = .ok (.isub, 1) := by decide +kernel
theorem d_X_chooseGreatest_60 : decode prog_1_method_32_code 60 = .ok (.iastore, 1) := by decide +kernel
theorem d_X_chooseGreatest_61 : decode prog_1_method_32_code 61 = .ok (.iinc 1 1, 3) := by decide +kernel
theorem d_X_chooseGreatest_64 : decode prog_1_method_32_code 64 = .ok (.goto (-30), 3) := by decide +kernel
theorem d_X_chooseGreatest_67 : decode prog_1_method_32_code 67 = .ok (.return_, 1) := by decide +kernel
abbrev y_X_fund : MethodName := ⟨"GridlockDesk", "fund", "(IJ)Z"⟩
abbrev ws_X_fund : List Cond := .code y_X_fund prog_1_method_2_code 5 (some .boolean) :: TB
theorem d_X_fund_0 : decode prog_1_method_2_code 0 = .ok (.aload_n 0, 1) := by decide +kernel
theorem d_X_fund_1 : decode prog_1_method_2_code 1 = .ok (.iload_n 1, 1) := by decide +kernel
theorem d_X_fund_2 : decode prog_1_method_2_code 2 = .ok (.invokevirtual 37, 3) := by decide +kernel
theorem d_X_fund_5 : decode prog_1_method_2_code 5 = .ok (.ifCond .eq 19, 3) := by decide +kernel
theorem d_X_fund_8 : decode prog_1_method_2_code 8 = .ok (.lload_n 2, 1) := by decide +kernel
theorem d_X_fund_9 : decode prog_1_method_2_code 9 = .ok (.ldc2_w 41, 3) := by decide +kernel
theorem d_X_fund_12 : decode prog_1_method_2_code 12 = .ok (.lcmp, 1) := by decide +kernel
theorem d_X_fund_13 : decode prog_1_method_2_code 13 = .ok (.ifCond .lt 11, 3) := by decide +kernel
theorem d_X_fund_16 : decode prog_1_method_2_code 16 = .ok (.lload_n 2, 1) := by decide +kernel
theorem d_X_fund_17 : decode prog_1_method_2_code 17 = .ok (.ldc2_w 43, 3) := by decide +kernel
theorem d_X_fund_20 : decode prog_1_method_2_code 20 = .ok (.lcmp, 1) := by decide +kernel
theorem d_X_fund_21 : decode prog_1_method_2_code 21 = .ok (.ifCond .le 5, 3) := by decide +kernel
theorem d_X_fund_24 : decode prog_1_method_2_code 24 = .ok (.iconst 0, 1) := by decide +kernel
theorem d_X_fund_25 : decode prog_1_method_2_code 25 = .ok (.ireturn, 1) := by decide +kernel
theorem d_X_fund_26 : decode prog_1_method_2_code 26 = .ok (.aload_n 0, 1) := by decide +kernel
theorem d_X_fund_27 : decode prog_1_method_2_code 27 = .ok (.getfield 20, 3) := by decide +kernel
theorem d_X_fund_30 : decode prog_1_method_2_code 30 = .ok (.iload_n 1, 1) := by decide +kernel
theorem d_X_fund_31 : decode prog_1_method_2_code 31 = .ok (.aaload, 1) := by decide +kernel
theorem d_X_fund_32 : decode prog_1_method_2_code 32 = .ok (.astore 4, 2) := by decide +kernel
theorem d_X_fund_34 : decode prog_1_method_2_code 34 = .ok (.aload 4, 2) := by decide +kernel
theorem d_X_fund_36 : decode prog_1_method_2_code 36 = .ok (.getfield 45, 3) := by decide +kernel
theorem d_X_fund_39 : decode prog_1_method_2_code 39 = .ok (.lload_n 2, 1) := by decide +kernel
theorem d_X_fund_40 : decode prog_1_method_2_code 40 = .ok (.ladd, 1) := by decide +kernel
theorem d_X_fund_41 : decode prog_1_method_2_code 41 = .ok (.aload 4, 2) := by decide +kernel
theorem d_X_fund_43 : decode prog_1_method_2_code 43 = .ok (.getfield 49, 3) := by decide +kernel
theorem d_X_fund_46 : decode prog_1_method_2_code 46 = .ok (.lneg, 1) := by decide +kernel
theorem d_X_fund_47 : decode prog_1_method_2_code 47 = .ok (.lcmp, 1) := by decide +kernel
theorem d_X_fund_48 : decode prog_1_method_2_code 48 = .ok (.ifCond .ge 5, 3) := by decide +kernel
theorem d_X_fund_51 : decode prog_1_method_2_code 51 = .ok (.iconst 0, 1) := by decide +kernel
theorem d_X_fund_52 : decode prog_1_method_2_code 52 = .ok (.ireturn, 1) := by decide +kernel
theorem d_X_fund_53 : decode prog_1_method_2_code 53 = .ok (.aload 4, 2) := by decide +kernel
theorem d_X_fund_55 : decode prog_1_method_2_code 55 = .ok (.dup, 1) := by decide +kernel
theorem d_X_fund_56 : decode prog_1_method_2_code 56 = .ok (.getfield 45, 3) := by decide +kernel
theorem d_X_fund_59 : decode prog_1_method_2_code 59 = .ok (.lload_n 2, 1) := by decide +kernel
theorem d_X_fund_60 : decode prog_1_method_2_code 60 = .ok (.ladd, 1) := by decide +kernel
theorem d_X_fund_61 : decode prog_1_method_2_code 61 = .ok (.putfield 45, 3) := by decide +kernel
theorem d_X_fund_64 : decode prog_1_method_2_code 64 = .ok (.aload_n 0, 1) := by decide +kernel
theorem d_X_fund_65 : decode prog_1_method_2_code 65 = .ok (.invokevirtual 52, 3) := by decide +kernel
theorem d_X_fund_68 : decode prog_1_method_2_code 68 = .ok (.iconst 1, 1) := by decide +kernel
theorem d_X_fund_69 : decode prog_1_method_2_code 69 = .ok (.ireturn, 1) := by decide +kernel
abbrev y_X_credit : MethodName := ⟨"GridlockDesk", "credit", "(IJ)Z"⟩
abbrev ws_X_credit : List Cond := .code y_X_credit prog_1_method_3_code 4 (some .boolean) :: TB
theorem d_X_credit_0 : decode prog_1_method_3_code 0 = .ok (.aload_n 0, 1) := by decide +kernel
theorem d_X_credit_1 : decode prog_1_method_3_code 1 = .ok (.iload_n 1, 1) := by decide +kernel
theorem d_X_credit_2 : decode prog_1_method_3_code 2 = .ok (.invokevirtual 37, 3) := by decide +kernel
theorem d_X_credit_5 : decode prog_1_method_3_code 5 = .ok (.ifCond .eq 32, 3) := by decide +kernel
theorem d_X_credit_8 : decode prog_1_method_3_code 8 = .ok (.lload_n 2, 1) := by decide +kernel
theorem d_X_credit_9 : decode prog_1_method_3_code 9 = .ok (.lconst 0, 1) := by decide +kernel
theorem d_X_credit_10 : decode prog_1_method_3_code 10 = .ok (.lcmp, 1) := by decide +kernel
theorem d_X_credit_11 : decode prog_1_method_3_code 11 = .ok (.ifCond .lt 26, 3) := by decide +kernel
theorem d_X_credit_14 : decode prog_1_method_3_code 14 = .ok (.lload_n 2, 1) := by decide +kernel
theorem d_X_credit_15 : decode prog_1_method_3_code 15 = .ok (.ldc2_w 55, 3) := by decide +kernel
theorem d_X_credit_18 : decode prog_1_method_3_code 18 = .ok (.lcmp, 1) := by decide +kernel
theorem d_X_credit_19 : decode prog_1_method_3_code 19 = .ok (.ifCond .gt 18, 3) := by decide +kernel
theorem d_X_credit_22 : decode prog_1_method_3_code 22 = .ok (.aload_n 0, 1) := by decide +kernel
theorem d_X_credit_23 : decode prog_1_method_3_code 23 = .ok (.getfield 20, 3) := by decide +kernel
theorem d_X_credit_26 : decode prog_1_method_3_code 26 = .ok (.iload_n 1, 1) := by decide +kernel
theorem d_X_credit_27 : decode prog_1_method_3_code 27 = .ok (.aaload, 1) := by decide +kernel
theorem d_X_credit_28 : decode prog_1_method_3_code 28 = .ok (.getfield 45, 3) := by decide +kernel
theorem d_X_credit_31 : decode prog_1_method_3_code 31 = .ok (.lload_n 2, 1) := by decide +kernel
theorem d_X_credit_32 : decode prog_1_method_3_code 32 = .ok (.lneg, 1) := by decide +kernel
theorem d_X_credit_33 : decode prog_1_method_3_code 33 = .ok (.lcmp, 1) := by decide +kernel
theorem d_X_credit_34 : decode prog_1_method_3_code 34 = .ok (.ifCond .ge 5, 3) := by decide +kernel
theorem d_X_credit_37 : decode prog_1_method_3_code 37 = .ok (.iconst 0, 1) := by decide +kernel
theorem d_X_credit_38 : decode prog_1_method_3_code 38 = .ok (.ireturn, 1) := by decide +kernel
theorem d_X_credit_39 : decode prog_1_method_3_code 39 = .ok (.aload_n 0, 1) := by decide +kernel
theorem d_X_credit_40 : decode prog_1_method_3_code 40 = .ok (.getfield 20, 3) := by decide +kernel
theorem d_X_credit_43 : decode prog_1_method_3_code 43 = .ok (.iload_n 1, 1) := by decide +kernel
theorem d_X_credit_44 : decode prog_1_method_3_code 44 = .ok (.aaload, 1) := by decide +kernel
theorem d_X_credit_45 : decode prog_1_method_3_code 45 = .ok (.lload_n 2, 1) := by decide +kernel
theorem d_X_credit_46 : decode prog_1_method_3_code 46 = .ok (.putfield 49, 3) := by decide +kernel
theorem d_X_credit_49 : decode prog_1_method_3_code 49 = .ok (.aload_n 0, 1) := by decide +kernel
theorem d_X_credit_50 : decode prog_1_method_3_code 50 = .ok (.invokevirtual 52, 3) := by decide +kernel
theorem d_X_credit_53 : decode prog_1_method_3_code 53 = .ok (.iconst 1, 1) := by decide +kernel
theorem d_X_credit_54 : decode prog_1_method_3_code 54 = .ok (.ireturn, 1) := by decide +kernel
abbrev y_X_limit : MethodName := ⟨"GridlockDesk", "limit", "(IIJ)Z"⟩
abbrev ws_X_limit : List Cond := .code y_X_limit prog_1_method_4_code 5 (some .boolean) :: TB
theorem d_X_limit_0 : decode prog_1_method_4_code 0 = .ok (.aload_n 0, 1) := by decide +kernel
theorem d_X_limit_1 : decode prog_1_method_4_code 1 = .ok (.iload_n 1, 1) := by decide +kernel
theorem d_X_limit_2 : decode prog_1_method_4_code 2 = .ok (.iload_n 2, 1) := by decide +kernel
theorem d_X_limit_3 : decode prog_1_method_4_code 3 = .ok (.invokevirtual 57, 3) := by decide +kernel
theorem d_X_limit_6 : decode prog_1_method_4_code 6 = .ok (.ifCond .eq 23, 3) := by decide +kernel
theorem d_X_limit_9 : decode prog_1_method_4_code 9 = .ok (.lload_n 3, 1) := by decide +kernel
theorem d_X_limit_10 : decode prog_1_method_4_code 10 = .ok (.invokestatic 61, 3) := by decide +kernel
theorem d_X_limit_13 : decode prog_1_method_4_code 13 = .ok (.ifCond .eq 16, 3) := by decide +kernel
theorem d_X_limit_16 : decode prog_1_method_4_code 16 = .ok (.aload_n 0, 1) := by decide +kernel
theorem d_X_limit_17 : decode prog_1_method_4_code 17 = .ok (.iload_n 1, 1) := by decide +kernel
theorem d_X_limit_18 : decode prog_1_method_4_code 18 = .ok (.iload_n 2, 1) := by decide +kernel
theorem d_X_limit_19 : decode prog_1_method_4_code 19 = .ok (.invokevirtual 65, 3) := by decide +kernel
theorem d_X_limit_22 : decode prog_1_method_4_code 22 = .ok (.lload_n 3, 1) := by decide +kernel
theorem d_X_limit_23 : decode prog_1_method_4_code 23 = .ok (.invokestatic 69, 3) := by decide +kernel
theorem d_X_limit_26 : decode prog_1_method_4_code 26 = .ok (.ifCond .eq 5, 3) := by decide +kernel
theorem d_X_limit_29 : decode prog_1_method_4_code 29 = .ok (.iconst 0, 1) := by decide +kernel
theorem d_X_limit_30 : decode prog_1_method_4_code 30 = .ok (.ireturn, 1) := by decide +kernel
theorem d_X_limit_31 : decode prog_1_method_4_code 31 = .ok (.aload_n 0, 1) := by decide +kernel
theorem d_X_limit_32 : decode prog_1_method_4_code 32 = .ok (.getfield 20, 3) := by decide +kernel
theorem d_X_limit_35 : decode prog_1_method_4_code 35 = .ok (.iload_n 1, 1) := by decide +kernel
theorem d_X_limit_36 : decode prog_1_method_4_code 36 = .ok (.aaload, 1) := by decide +kernel
theorem d_X_limit_37 : decode prog_1_method_4_code 37 = .ok (.getfield 73, 3) := by decide +kernel
theorem d_X_limit_40 : decode prog_1_method_4_code 40 = .ok (.iload_n 2, 1) := by decide +kernel
theorem d_X_limit_41 : decode prog_1_method_4_code 41 = .ok (.lload_n 3, 1) := by decide +kernel
theorem d_X_limit_42 : decode prog_1_method_4_code 42 = .ok (.lastore, 1) := by decide +kernel
theorem d_X_limit_43 : decode prog_1_method_4_code 43 = .ok (.aload_n 0, 1) := by decide +kernel
theorem d_X_limit_44 : decode prog_1_method_4_code 44 = .ok (.invokevirtual 52, 3) := by decide +kernel
theorem d_X_limit_47 : decode prog_1_method_4_code 47 = .ok (.iconst 1, 1) := by decide +kernel
theorem d_X_limit_48 : decode prog_1_method_4_code 48 = .ok (.ireturn, 1) := by decide +kernel
abbrev y_X_totalLimit : MethodName := ⟨"GridlockDesk", "totalLimit", "(IJ)Z"⟩
abbrev ws_X_totalLimit : List Cond := .code y_X_totalLimit prog_1_method_5_code 4 (some .boolean) :: TB
theorem d_X_totalLimit_0 : decode prog_1_method_5_code 0 = .ok (.aload_n 0, 1) := by decide +kernel
theorem d_X_totalLimit_1 : decode prog_1_method_5_code 1 = .ok (.iload_n 1, 1) := by decide +kernel
theorem d_X_totalLimit_2 : decode prog_1_method_5_code 2 = .ok (.invokevirtual 37, 3) := by decide +kernel
theorem d_X_totalLimit_5 : decode prog_1_method_5_code 5 = .ok (.ifCond .eq 22, 3) := by decide +kernel
theorem d_X_totalLimit_8 : decode prog_1_method_5_code 8 = .ok (.lload_n 2, 1) := by decide +kernel
theorem d_X_totalLimit_9 : decode prog_1_method_5_code 9 = .ok (.invokestatic 61, 3) := by decide +kernel
theorem d_X_totalLimit_12 : decode prog_1_method_5_code 12 = .ok (.ifCond .eq 15, 3) := by decide +kernel
theorem d_X_totalLimit_15 : decode prog_1_method_5_code 15 = .ok (.aload_n 0, 1) := by decide +kernel
theorem d_X_totalLimit_16 : decode prog_1_method_5_code 16 = .ok (.iload_n 1, 1) := by decide +kernel
theorem d_X_totalLimit_17 : decode prog_1_method_5_code 17 = .ok (.invokevirtual 77, 3) := by decide +kernel
theorem d_X_totalLimit_20 : decode prog_1_method_5_code 20 = .ok (.lload_n 2, 1) := by decide +kernel
theorem d_X_totalLimit_21 : decode prog_1_method_5_code 21 = .ok (.invokestatic 69, 3) := by decide +kernel
theorem d_X_totalLimit_24 : decode prog_1_method_5_code 24 = .ok (.ifCond .eq 5, 3) := by decide +kernel
theorem d_X_totalLimit_27 : decode prog_1_method_5_code 27 = .ok (.iconst 0, 1) := by decide +kernel
theorem d_X_totalLimit_28 : decode prog_1_method_5_code 28 = .ok (.ireturn, 1) := by decide +kernel
theorem d_X_totalLimit_29 : decode prog_1_method_5_code 29 = .ok (.aload_n 0, 1) := by decide +kernel
theorem d_X_totalLimit_30 : decode prog_1_method_5_code 30 = .ok (.getfield 20, 3) := by decide +kernel
theorem d_X_totalLimit_33 : decode prog_1_method_5_code 33 = .ok (.iload_n 1, 1) := by decide +kernel
theorem d_X_totalLimit_34 : decode prog_1_method_5_code 34 = .ok (.aaload, 1) := by decide +kernel
theorem d_X_totalLimit_35 : decode prog_1_method_5_code 35 = .ok (.lload_n 2, 1) := by decide +kernel
theorem d_X_totalLimit_36 : decode prog_1_method_5_code 36 = .ok (.putfield 81, 3) := by decide +kernel
theorem d_X_totalLimit_39 : decode prog_1_method_5_code 39 = .ok (.aload_n 0, 1) := by decide +kernel
theorem d_X_totalLimit_40 : decode prog_1_method_5_code 40 = .ok (.invokevirtual 52, 3) := by decide +kernel
theorem d_X_totalLimit_43 : decode prog_1_method_5_code 43 = .ok (.iconst 1, 1) := by decide +kernel
theorem d_X_totalLimit_44 : decode prog_1_method_5_code 44 = .ok (.ireturn, 1) := by decide +kernel
abbrev y_X_cancel : MethodName := ⟨"GridlockDesk", "cancel", "(I)Z"⟩
abbrev ws_X_cancel : List Cond := .code y_X_cancel prog_1_method_7_code 2 (some .boolean) :: TB
theorem d_X_cancel_0 : decode prog_1_method_7_code 0 = .ok (.aload_n 0, 1) := by decide +kernel
theorem d_X_cancel_1 : decode prog_1_method_7_code 1 = .ok (.iload_n 1, 1) := by decide +kernel
theorem d_X_cancel_2 : decode prog_1_method_7_code 2 = .ok (.invokevirtual 104, 3) := by decide +kernel
theorem d_X_cancel_5 : decode prog_1_method_7_code 5 = .ok (.ifCond .ne 5, 3) := by decide +kernel
theorem d_X_cancel_8 : decode prog_1_method_7_code 8 = .ok (.iconst 0, 1) := by decide +kernel
theorem d_X_cancel_9 : decode prog_1_method_7_code 9 = .ok (.ireturn, 1) := by decide +kernel
theorem d_X_cancel_10 : decode prog_1_method_7_code 10 = .ok (.aload_n 0, 1) := by decide +kernel
theorem d_X_cancel_11 : decode prog_1_method_7_code 11 = .ok (.aload_n 0, 1) := by decide +kernel
theorem d_X_cancel_12 : decode prog_1_method_7_code 12 = .ok (.getfield 29, 3) := by decide +kernel
theorem d_X_cancel_15 : decode prog_1_method_7_code 15 = .ok (.iload_n 1, 1) := by decide +kernel
theorem d_X_cancel_16 : decode prog_1_method_7_code 16 = .ok (.aaload, 1) := by decide +kernel
theorem d_X_cancel_17 : decode prog_1_method_7_code 17 = .ok (.iconst 4, 1) := by decide +kernel
theorem d_X_cancel_18 : decode prog_1_method_7_code 18 = .ok (.invokevirtual 107, 3) := by decide +kernel
theorem d_X_cancel_21 : decode prog_1_method_7_code 21 = .ok (.aload_n 0, 1) := by decide +kernel
theorem d_X_cancel_22 : decode prog_1_method_7_code 22 = .ok (.invokevirtual 52, 3) := by decide +kernel
theorem d_X_cancel_25 : decode prog_1_method_7_code 25 = .ok (.iconst 1, 1) := by decide +kernel
theorem d_X_cancel_26 : decode prog_1_method_7_code 26 = .ok (.ireturn, 1) := by decide +kernel
abbrev y_X_urge : MethodName := ⟨"GridlockDesk", "urge", "(II)Z"⟩
abbrev ws_X_urge : List Cond := .code y_X_urge prog_1_method_8_code 5 (some .boolean) :: TB
theorem d_X_urge_0 : decode prog_1_method_8_code 0 = .ok (.aload_n 0, 1) := by decide +kernel
theorem d_X_urge_1 : decode prog_1_method_8_code 1 = .ok (.iload_n 1, 1) := by decide +kernel
theorem d_X_urge_2 : decode prog_1_method_8_code 2 = .ok (.invokevirtual 104, 3) := by decide +kernel
theorem d_X_urge_5 : decode prog_1_method_8_code 5 = .ok (.ifCond .eq 10, 3) := by decide +kernel
theorem d_X_urge_8 : decode prog_1_method_8_code 8 = .ok (.iload_n 2, 1) := by decide +kernel
theorem d_X_urge_9 : decode prog_1_method_8_code 9 = .ok (.invokestatic 84, 3) := by decide +kernel
theorem d_X_urge_12 : decode prog_1_method_8_code 12 = .ok (.ifCond .ne 5, 3) := by decide +kernel
theorem d_X_urge_15 : decode prog_1_method_8_code 15 = .ok (.iconst 0, 1) := by decide +kernel
theorem d_X_urge_16 : decode prog_1_method_8_code 16 = .ok (.ireturn, 1) := by decide +kernel
theorem d_X_urge_17 : decode prog_1_method_8_code 17 = .ok (.aload_n 0, 1) := by decide +kernel
theorem d_X_urge_18 : decode prog_1_method_8_code 18 = .ok (.getfield 29, 3) := by decide +kernel
theorem d_X_urge_21 : decode prog_1_method_8_code 21 = .ok (.iload_n 1, 1) := by decide +kernel
theorem d_X_urge_22 : decode prog_1_method_8_code 22 = .ok (.aaload, 1) := by decide +kernel
theorem d_X_urge_23 : decode prog_1_method_8_code 23 = .ok (.astore_n 3, 1) := by decide +kernel
theorem d_X_urge_24 : decode prog_1_method_8_code 24 = .ok (.aload_n 0, 1) := by decide +kernel
theorem d_X_urge_25 : decode prog_1_method_8_code 25 = .ok (.getfield 20, 3) := by decide +kernel
theorem d_X_urge_28 : decode prog_1_method_8_code 28 = .ok (.aload_n 3, 1) := by decide +kernel
theorem d_X_urge_29 : decode prog_1_method_8_code 29 = .ok (.getfield 111, 3) := by decide +kernel
theorem d_X_urge_32 : decode prog_1_method_8_code 32 = .ok (.aaload, 1) := by decide +kernel
theorem d_X_urge_33 : decode prog_1_method_8_code 33 = .ok (.astore 4, 2) := by decide +kernel
theorem d_X_urge_35 : decode prog_1_method_8_code 35 = .ok (.aload 4, 2) := by decide +kernel
theorem d_X_urge_37 : decode prog_1_method_8_code 37 = .ok (.aload_n 3, 1) := by decide +kernel
theorem d_X_urge_38 : decode prog_1_method_8_code 38 = .ok (.invokevirtual 114, 3) := by decide +kernel
theorem d_X_urge_41 : decode prog_1_method_8_code 41 = .ok (.aload_n 3, 1) := by decide +kernel
theorem d_X_urge_42 : decode prog_1_method_8_code 42 = .ok (.iload_n 2, 1) := by decide +kernel
theorem d_X_urge_43 : decode prog_1_method_8_code 43 = .ok (.putfield 117, 3) := by decide +kernel
theorem d_X_urge_46 : decode prog_1_method_8_code 46 = .ok (.aload 4, 2) := by decide +kernel
theorem d_X_urge_48 : decode prog_1_method_8_code 48 = .ok (.aload_n 3, 1) := by decide +kernel
theorem d_X_urge_49 : decode prog_1_method_8_code 49 = .ok (.invokevirtual 100, 3) := by decide +kernel
theorem d_X_urge_52 : decode prog_1_method_8_code 52 = .ok (.aload_n 0, 1) := by decide +kernel
theorem d_X_urge_53 : decode prog_1_method_8_code 53 = .ok (.invokevirtual 52, 3) := by decide +kernel
theorem d_X_urge_56 : decode prog_1_method_8_code 56 = .ok (.iconst 1, 1) := by decide +kernel
theorem d_X_urge_57 : decode prog_1_method_8_code 57 = .ok (.ireturn, 1) := by decide +kernel
abbrev y_X_resolve : MethodName := ⟨"GridlockDesk", "resolve", "()I"⟩
abbrev ws_X_resolve : List Cond := .code y_X_resolve prog_1_method_9_code 2 (some .int) :: TB
theorem d_X_resolve_0 : decode prog_1_method_9_code 0 = .ok (.aload_n 0, 1) := by decide +kernel
theorem d_X_resolve_1 : decode prog_1_method_9_code 1 = .ok (.invokevirtual 120, 3) := by decide +kernel
theorem d_X_resolve_4 : decode prog_1_method_9_code 4 = .ok (.aload_n 0, 1) := by decide +kernel
theorem d_X_resolve_5 : decode prog_1_method_9_code 5 = .ok (.iconst 3, 1) := by decide +kernel
theorem d_X_resolve_6 : decode prog_1_method_9_code 6 = .ok (.invokevirtual 123, 3) := by decide +kernel
theorem d_X_resolve_9 : decode prog_1_method_9_code 9 = .ok (.istore_n 1, 1) := by decide +kernel
theorem d_X_resolve_10 : decode prog_1_method_9_code 10 = .ok (.aload_n 0, 1) := by decide +kernel
theorem d_X_resolve_11 : decode prog_1_method_9_code 11 = .ok (.invokevirtual 52, 3) := by decide +kernel
theorem d_X_resolve_14 : decode prog_1_method_9_code 14 = .ok (.iload_n 1, 1) := by decide +kernel
theorem d_X_resolve_15 : decode prog_1_method_9_code 15 = .ok (.ireturn, 1) := by decide +kernel
abbrev y_X_tick : MethodName := ⟨"GridlockDesk", "tick", "(I)I"⟩
abbrev ws_X_tick : List Cond := .code y_X_tick prog_1_method_10_code 4 (some .int) :: TB
theorem d_X_tick_0 : decode prog_1_method_10_code 0 = .ok (.iload_n 1, 1) := by decide +kernel
theorem d_X_tick_1 : decode prog_1_method_10_code 1 = .ok (.iconst 1, 1) := by decide +kernel
theorem d_X_tick_2 : decode prog_1_method_10_code 2 = .ok (.if_icmp .lt 10, 3) := by decide +kernel
theorem d_X_tick_5 : decode prog_1_method_10_code 5 = .ok (.iload_n 1, 1) := by decide +kernel
theorem d_X_tick_6 : decode prog_1_method_10_code 6 = .ok (.sipush 1000, 3) := by decide +kernel
theorem d_X_tick_9 : decode prog_1_method_10_code 9 = .ok (.if_icmp .le 5, 3) := by decide +kernel
theorem d_X_tick_12 : decode prog_1_method_10_code 12 = .ok (.iconst (-1), 1) := by decide +kernel
theorem d_X_tick_13 : decode prog_1_method_10_code 13 = .ok (.ireturn, 1) := by decide +kernel
theorem d_X_tick_14 : decode prog_1_method_10_code 14 = .ok (.aload_n 0, 1) := by decide +kernel
theorem d_X_tick_15 : decode prog_1_method_10_code 15 = .ok (.dup, 1) := by decide +kernel
theorem d_X_tick_16 : decode prog_1_method_10_code 16 = .ok (.getfield 87, 3) := by decide +kernel
theorem d_X_tick_19 : decode prog_1_method_10_code 19 = .ok (.iload_n 1, 1) := by decide +kernel
theorem d_X_tick_20 : decode prog_1_method_10_code 20 = .ok (.iadd, 1) := by decide +kernel
theorem d_X_tick_21 : decode prog_1_method_10_code 21 = .ok (.putfield 87, 3) := by decide +kernel
theorem d_X_tick_24 : decode prog_1_method_10_code 24 = .ok (.iconst 0, 1) := by decide +kernel
theorem d_X_tick_25 : decode prog_1_method_10_code 25 = .ok (.istore_n 2, 1) := by decide +kernel
theorem d_X_tick_26 : decode prog_1_method_10_code 26 = .ok (.iconst 0, 1) := by decide +kernel
theorem d_X_tick_27 : decode prog_1_method_10_code 27 = .ok (.istore_n 3, 1) := by decide +kernel
theorem d_X_tick_28 : decode prog_1_method_10_code 28 = .ok (.iload_n 3, 1) := by decide +kernel
theorem d_X_tick_29 : decode prog_1_method_10_code 29 = .ok (.aload_n 0, 1) := by decide +kernel
theorem d_X_tick_30 : decode prog_1_method_10_code 30 = .ok (.getfield 91, 3) := by decide +kernel
theorem d_X_tick_33 : decode prog_1_method_10_code 33 = .ok (.if_icmp .ge 47, 3) := by decide +kernel
theorem d_X_tick_36 : decode prog_1_method_10_code 36 = .ok (.aload_n 0, 1) := by decide +kernel
theorem d_X_tick_37 : decode prog_1_method_10_code 37 = .ok (.iload_n 3, 1) := by decide +kernel
theorem d_X_tick_38 : decode prog_1_method_10_code 38 = .ok (.invokevirtual 104, 3) := by decide +kernel
theorem d_X_tick_41 : decode prog_1_method_10_code 41 = .ok (.ifCond .eq 33, 3) := by decide +kernel
theorem d_X_tick_44 : decode prog_1_method_10_code 44 = .ok (.aload_n 0, 1) := by decide +kernel
theorem d_X_tick_45 : decode prog_1_method_10_code 45 = .ok (.getfield 29, 3) := by decide +kernel
theorem d_X_tick_48 : decode prog_1_method_10_code 48 = .ok (.iload_n 3, 1) := by decide +kernel
theorem d_X_tick_49 : decode prog_1_method_10_code 49 = .ok (.aaload, 1) := by decide +kernel
theorem d_X_tick_50 : decode prog_1_method_10_code 50 = .ok (.getfield 127, 3) := by decide +kernel
theorem d_X_tick_53 : decode prog_1_method_10_code 53 = .ok (.aload_n 0, 1) := by decide +kernel
theorem d_X_tick_54 : decode prog_1_method_10_code 54 = .ok (.getfield 87, 3) := by decide +kernel
theorem d_X_tick_57 : decode prog_1_method_10_code 57 = .ok (.if_icmp .ge 17, 3) := by decide +kernel
theorem d_X_tick_60 : decode prog_1_method_10_code 60 = .ok (.aload_n 0, 1) := by decide +kernel
theorem d_X_tick_61 : decode prog_1_method_10_code 61 = .ok (.aload_n 0, 1) := by decide +kernel
theorem d_X_tick_62 : decode prog_1_method_10_code 62 = .ok (.getfield 29, 3) := by decide +kernel
theorem d_X_tick_65 : decode prog_1_method_10_code 65 = .ok (.iload_n 3, 1) := by decide +kernel
theorem d_X_tick_66 : decode prog_1_method_10_code 66 = .ok (.aaload, 1) := by decide +kernel
theorem d_X_tick_67 : decode prog_1_method_10_code 67 = .ok (.iconst 5, 1) := by decide +kernel
theorem d_X_tick_68 : decode prog_1_method_10_code 68 = .ok (.invokevirtual 107, 3) := by decide +kernel
theorem d_X_tick_71 : decode prog_1_method_10_code 71 = .ok (.iinc 2 1, 3) := by decide +kernel
theorem d_X_tick_74 : decode prog_1_method_10_code 74 = .ok (.iinc 3 1, 3) := by decide +kernel
theorem d_X_tick_77 : decode prog_1_method_10_code 77 = .ok (.goto (-49), 3) := by decide +kernel
theorem d_X_tick_80 : decode prog_1_method_10_code 80 = .ok (.aload_n 0, 1) := by decide +kernel
theorem d_X_tick_81 : decode prog_1_method_10_code 81 = .ok (.invokevirtual 52, 3) := by decide +kernel
theorem d_X_tick_84 : decode prog_1_method_10_code 84 = .ok (.iload_n 2, 1) := by decide +kernel
theorem d_X_tick_85 : decode prog_1_method_10_code 85 = .ok (.ireturn, 1) := by decide +kernel
abbrev y_X_close : MethodName := ⟨"GridlockDesk", "close", "()I"⟩
abbrev ws_X_close : List Cond := .code y_X_close prog_1_method_11_code 6 (some .int) :: TB
theorem d_X_close_0 : decode prog_1_method_11_code 0 = .ok (.iconst 0, 1) := by decide +kernel
theorem d_X_close_1 : decode prog_1_method_11_code 1 = .ok (.istore_n 1, 1) := by decide +kernel
theorem d_X_close_2 : decode prog_1_method_11_code 2 = .ok (.iconst 0, 1) := by decide +kernel
theorem d_X_close_3 : decode prog_1_method_11_code 3 = .ok (.istore_n 2, 1) := by decide +kernel
theorem d_X_close_4 : decode prog_1_method_11_code 4 = .ok (.iload_n 2, 1) := by decide +kernel
theorem d_X_close_5 : decode prog_1_method_11_code 5 = .ok (.aload_n 0, 1) := by decide +kernel
theorem d_X_close_6 : decode prog_1_method_11_code 6 = .ok (.getfield 91, 3) := by decide +kernel
theorem d_X_close_9 : decode prog_1_method_11_code 9 = .ok (.if_icmp .ge 32, 3) := by decide +kernel
theorem d_X_close_12 : decode prog_1_method_11_code 12 = .ok (.aload_n 0, 1) := by decide +kernel
theorem d_X_close_13 : decode prog_1_method_11_code 13 = .ok (.iload_n 2, 1) := by decide +kernel
theorem d_X_close_14 : decode prog_1_method_11_code 14 = .ok (.invokevirtual 104, 3) := by decide +kernel
theorem d_X_close_17 : decode prog_1_method_11_code 17 = .ok (.ifCond .eq 18, 3) := by decide +kernel
theorem d_X_close_20 : decode prog_1_method_11_code 20 = .ok (.aload_n 0, 1) := by decide +kernel
theorem d_X_close_21 : decode prog_1_method_11_code 21 = .ok (.aload_n 0, 1) := by decide +kernel
theorem d_X_close_22 : decode prog_1_method_11_code 22 = .ok (.getfield 29, 3) := by decide +kernel
theorem d_X_close_25 : decode prog_1_method_11_code 25 = .ok (.iload_n 2, 1) := by decide +kernel
theorem d_X_close_26 : decode prog_1_method_11_code 26 = .ok (.aaload, 1) := by decide +kernel
theorem d_X_close_27 : decode prog_1_method_11_code 27 = .ok (.bipush 6, 2) := by decide +kernel
theorem d_X_close_29 : decode prog_1_method_11_code 29 = .ok (.invokevirtual 107, 3) := by decide +kernel
theorem d_X_close_32 : decode prog_1_method_11_code 32 = .ok (.iinc 1 1, 3) := by decide +kernel
theorem d_X_close_35 : decode prog_1_method_11_code 35 = .ok (.iinc 2 1, 3) := by decide +kernel
theorem d_X_close_38 : decode prog_1_method_11_code 38 = .ok (.goto (-34), 3) := by decide +kernel
theorem d_X_close_41 : decode prog_1_method_11_code 41 = .ok (.aload_n 0, 1) := by decide +kernel
theorem d_X_close_42 : decode prog_1_method_11_code 42 = .ok (.getfield 20, 3) := by decide +kernel
theorem d_X_close_45 : decode prog_1_method_11_code 45 = .ok (.astore_n 2, 1) := by decide +kernel
theorem d_X_close_46 : decode prog_1_method_11_code 46 = .ok (.aload_n 2, 1) := by decide +kernel
theorem d_X_close_47 : decode prog_1_method_11_code 47 = .ok (.arraylength, 1) := by decide +kernel
theorem d_X_close_48 : decode prog_1_method_11_code 48 = .ok (.istore_n 3, 1) := by decide +kernel
theorem d_X_close_49 : decode prog_1_method_11_code 49 = .ok (.iconst 0, 1) := by decide +kernel
theorem d_X_close_50 : decode prog_1_method_11_code 50 = .ok (.istore 4, 2) := by decide +kernel
theorem d_X_close_52 : decode prog_1_method_11_code 52 = .ok (.iload 4, 2) := by decide +kernel
theorem d_X_close_54 : decode prog_1_method_11_code 54 = .ok (.iload_n 3, 1) := by decide +kernel
theorem d_X_close_55 : decode prog_1_method_11_code 55 = .ok (.if_icmp .ge 24, 3) := by decide +kernel
theorem d_X_close_58 : decode prog_1_method_11_code 58 = .ok (.aload_n 2, 1) := by decide +kernel
theorem d_X_close_59 : decode prog_1_method_11_code 59 = .ok (.iload 4, 2) := by decide +kernel
theorem d_X_close_61 : decode prog_1_method_11_code 61 = .ok (.aaload, 1) := by decide +kernel
theorem d_X_close_62 : decode prog_1_method_11_code 62 = .ok (.astore 5, 2) := by decide +kernel
theorem d_X_close_64 : decode prog_1_method_11_code 64 = .ok (.aload 5, 2) := by decide +kernel
theorem d_X_close_66 : decode prog_1_method_11_code 66 = .ok (.getfield 130, 3) := by decide +kernel
theorem d_X_close_69 : decode prog_1_method_11_code 69 = .ok (.lconst 0, 1) := by decide +kernel
theorem d_X_close_70 : decode prog_1_method_11_code 70 = .ok (.invokestatic 133, 3) := by decide +kernel
theorem d_X_close_73 : decode prog_1_method_11_code 73 = .ok (.iinc 4 1, 3) := by decide +kernel
theorem d_X_close_76 : decode prog_1_method_11_code 76 = .ok (.goto (-24), 3) := by decide +kernel
theorem d_X_close_79 : decode prog_1_method_11_code 79 = .ok (.iload_n 1, 1) := by decide +kernel
theorem d_X_close_80 : decode prog_1_method_11_code 80 = .ok (.ireturn, 1) := by decide +kernel
abbrev y_X_balance : MethodName := ⟨"GridlockDesk", "balance", "(I)J"⟩
abbrev ws_X_balance : List Cond := .code y_X_balance prog_1_method_12_code 2 (some .long) :: TB
theorem d_X_balance_0 : decode prog_1_method_12_code 0 = .ok (.aload_n 0, 1) := by decide +kernel
theorem d_X_balance_1 : decode prog_1_method_12_code 1 = .ok (.iload_n 1, 1) := by decide +kernel
theorem d_X_balance_2 : decode prog_1_method_12_code 2 = .ok (.invokevirtual 37, 3) := by decide +kernel
theorem d_X_balance_5 : decode prog_1_method_12_code 5 = .ok (.ifCond .eq 15, 3) := by decide +kernel
theorem d_X_balance_8 : decode prog_1_method_12_code 8 = .ok (.aload_n 0, 1) := by decide +kernel
theorem d_X_balance_9 : decode prog_1_method_12_code 9 = .ok (.getfield 20, 3) := by decide +kernel
theorem d_X_balance_12 : decode prog_1_method_12_code 12 = .ok (.iload_n 1, 1) := by decide +kernel
theorem d_X_balance_13 : decode prog_1_method_12_code 13 = .ok (.aaload, 1) := by decide +kernel
theorem d_X_balance_14 : decode prog_1_method_12_code 14 = .ok (.getfield 45, 3) := by decide +kernel
theorem d_X_balance_17 : decode prog_1_method_12_code 17 = .ok (.goto 4, 3) := by decide +kernel
theorem d_X_balance_20 : decode prog_1_method_12_code 20 = .ok (.lconst 0, 1) := by decide +kernel
theorem d_X_balance_21 : decode prog_1_method_12_code 21 = .ok (.lreturn, 1) := by decide +kernel
abbrev y_X_position : MethodName := ⟨"GridlockDesk", "position", "(II)J"⟩
abbrev ws_X_position : List Cond := .code y_X_position prog_1_method_13_code 3 (some .long) :: TB
theorem d_X_position_0 : decode prog_1_method_13_code 0 = .ok (.aload_n 0, 1) := by decide +kernel
theorem d_X_position_1 : decode prog_1_method_13_code 1 = .ok (.iload_n 1, 1) := by decide +kernel
theorem d_X_position_2 : decode prog_1_method_13_code 2 = .ok (.iload_n 2, 1) := by decide +kernel
theorem d_X_position_3 : decode prog_1_method_13_code 3 = .ok (.invokevirtual 57, 3) := by decide +kernel
theorem d_X_position_6 : decode prog_1_method_13_code 6 = .ok (.ifCond .eq 12, 3) := by decide +kernel
theorem d_X_position_9 : decode prog_1_method_13_code 9 = .ok (.aload_n 0, 1) := by decide +kernel
theorem d_X_position_10 : decode prog_1_method_13_code 10 = .ok (.iload_n 1, 1) := by decide +kernel
theorem d_X_position_11 : decode prog_1_method_13_code 11 = .ok (.iload_n 2, 1) := by decide +kernel
theorem d_X_position_12 : decode prog_1_method_13_code 12 = .ok (.invokevirtual 65, 3) := by decide +kernel
theorem d_X_position_15 : decode prog_1_method_13_code 15 = .ok (.goto 4, 3) := by decide +kernel
theorem d_X_position_18 : decode prog_1_method_13_code 18 = .ok (.lconst 0, 1) := by decide +kernel
theorem d_X_position_19 : decode prog_1_method_13_code 19 = .ok (.lreturn, 1) := by decide +kernel
abbrev y_X_waiting : MethodName := ⟨"GridlockDesk", "waiting", "(I)I"⟩
abbrev ws_X_waiting : List Cond := .code y_X_waiting prog_1_method_14_code 2 (some .int) :: TB
theorem d_X_waiting_0 : decode prog_1_method_14_code 0 = .ok (.aload_n 0, 1) := by decide +kernel
theorem d_X_waiting_1 : decode prog_1_method_14_code 1 = .ok (.iload_n 1, 1) := by decide +kernel
theorem d_X_waiting_2 : decode prog_1_method_14_code 2 = .ok (.invokevirtual 37, 3) := by decide +kernel
theorem d_X_waiting_5 : decode prog_1_method_14_code 5 = .ok (.ifCond .eq 15, 3) := by decide +kernel
theorem d_X_waiting_8 : decode prog_1_method_14_code 8 = .ok (.aload_n 0, 1) := by decide +kernel
theorem d_X_waiting_9 : decode prog_1_method_14_code 9 = .ok (.getfield 20, 3) := by decide +kernel
theorem d_X_waiting_12 : decode prog_1_method_14_code 12 = .ok (.iload_n 1, 1) := by decide +kernel
theorem d_X_waiting_13 : decode prog_1_method_14_code 13 = .ok (.aaload, 1) := by decide +kernel
theorem d_X_waiting_14 : decode prog_1_method_14_code 14 = .ok (.getfield 94, 3) := by decide +kernel
theorem d_X_waiting_17 : decode prog_1_method_14_code 17 = .ok (.goto 4, 3) := by decide +kernel
theorem d_X_waiting_20 : decode prog_1_method_14_code 20 = .ok (.iconst (-1), 1) := by decide +kernel
theorem d_X_waiting_21 : decode prog_1_method_14_code 21 = .ok (.ireturn, 1) := by decide +kernel
abbrev y_X_queued : MethodName := ⟨"GridlockDesk", "queued", "(II)I"⟩
abbrev ws_X_queued : List Cond := .code y_X_queued prog_1_method_15_code 3 (some .int) :: TB
theorem d_X_queued_0 : decode prog_1_method_15_code 0 = .ok (.aload_n 0, 1) := by decide +kernel
theorem d_X_queued_1 : decode prog_1_method_15_code 1 = .ok (.iload_n 1, 1) := by decide +kernel
theorem d_X_queued_2 : decode prog_1_method_15_code 2 = .ok (.invokevirtual 37, 3) := by decide +kernel
theorem d_X_queued_5 : decode prog_1_method_15_code 5 = .ok (.ifCond .eq 20, 3) := by decide +kernel
theorem d_X_queued_8 : decode prog_1_method_15_code 8 = .ok (.iload_n 2, 1) := by decide +kernel
theorem d_X_queued_9 : decode prog_1_method_15_code 9 = .ok (.ifCond .lt 16, 3) := by decide +kernel
theorem d_X_queued_12 : decode prog_1_method_15_code 12 = .ok (.iload_n 2, 1) := by decide +kernel
theorem d_X_queued_13 : decode prog_1_method_15_code 13 = .ok (.aload_n 0, 1) := by decide +kernel
theorem d_X_queued_14 : decode prog_1_method_15_code 14 = .ok (.getfield 20, 3) := by decide +kernel
theorem d_X_queued_17 : decode prog_1_method_15_code 17 = .ok (.iload_n 1, 1) := by decide +kernel
theorem d_X_queued_18 : decode prog_1_method_15_code 18 = .ok (.aaload, 1) := by decide +kernel
theorem d_X_queued_19 : decode prog_1_method_15_code 19 = .ok (.getfield 94, 3) := by decide +kernel
theorem d_X_queued_22 : decode prog_1_method_15_code 22 = .ok (.if_icmp .lt 5, 3) := by decide +kernel
theorem d_X_queued_25 : decode prog_1_method_15_code 25 = .ok (.iconst (-1), 1) := by decide +kernel
theorem d_X_queued_26 : decode prog_1_method_15_code 26 = .ok (.ireturn, 1) := by decide +kernel
theorem d_X_queued_27 : decode prog_1_method_15_code 27 = .ok (.aload_n 0, 1) := by decide +kernel
theorem d_X_queued_28 : decode prog_1_method_15_code 28 = .ok (.getfield 20, 3) := by decide +kernel
theorem d_X_queued_31 : decode prog_1_method_15_code 31 = .ok (.iload_n 1, 1) := by decide +kernel
theorem d_X_queued_32 : decode prog_1_method_15_code 32 = .ok (.aaload, 1) := by decide +kernel
theorem d_X_queued_33 : decode prog_1_method_15_code 33 = .ok (.getfield 139, 3) := by decide +kernel
theorem d_X_queued_36 : decode prog_1_method_15_code 36 = .ok (.iload_n 2, 1) := by decide +kernel
theorem d_X_queued_37 : decode prog_1_method_15_code 37 = .ok (.aaload, 1) := by decide +kernel
theorem d_X_queued_38 : decode prog_1_method_15_code 38 = .ok (.getfield 142, 3) := by decide +kernel
theorem d_X_queued_41 : decode prog_1_method_15_code 41 = .ok (.ireturn, 1) := by decide +kernel
abbrev y_X_state : MethodName := ⟨"GridlockDesk", "state", "(I)I"⟩
abbrev ws_X_state : List Cond := .code y_X_state prog_1_method_16_code 2 (some .int) :: TB
theorem d_X_state_0 : decode prog_1_method_16_code 0 = .ok (.aload_n 0, 1) := by decide +kernel
theorem d_X_state_1 : decode prog_1_method_16_code 1 = .ok (.iload_n 1, 1) := by decide +kernel
theorem d_X_state_2 : decode prog_1_method_16_code 2 = .ok (.invokevirtual 145, 3) := by decide +kernel
theorem d_X_state_5 : decode prog_1_method_16_code 5 = .ok (.ifCond .eq 15, 3) := by decide +kernel
theorem d_X_state_8 : decode prog_1_method_16_code 8 = .ok (.aload_n 0, 1) := by decide +kernel
theorem d_X_state_9 : decode prog_1_method_16_code 9 = .ok (.getfield 29, 3) := by decide +kernel
theorem d_X_state_12 : decode prog_1_method_16_code 12 = .ok (.iload_n 1, 1) := by decide +kernel
theorem d_X_state_13 : decode prog_1_method_16_code 13 = .ok (.aaload, 1) := by decide +kernel
theorem d_X_state_14 : decode prog_1_method_16_code 14 = .ok (.getfield 148, 3) := by decide +kernel
theorem d_X_state_17 : decode prog_1_method_16_code 17 = .ok (.goto 4, 3) := by decide +kernel
theorem d_X_state_20 : decode prog_1_method_16_code 20 = .ok (.iconst (-1), 1) := by decide +kernel
theorem d_X_state_21 : decode prog_1_method_16_code 21 = .ok (.ireturn, 1) := by decide +kernel
abbrev y_X_turnover : MethodName := ⟨"GridlockDesk", "turnover", "()J"⟩
abbrev ws_X_turnover : List Cond := .code y_X_turnover prog_1_method_17_code 1 (some .long) :: TB
theorem d_X_turnover_0 : decode prog_1_method_17_code 0 = .ok (.aload_n 0, 1) := by decide +kernel
theorem d_X_turnover_1 : decode prog_1_method_17_code 1 = .ok (.getfield 151, 3) := by decide +kernel
theorem d_X_turnover_4 : decode prog_1_method_17_code 4 = .ok (.lreturn, 1) := by decide +kernel
abbrev y_X_now : MethodName := ⟨"GridlockDesk", "now", "()I"⟩
abbrev ws_X_now : List Cond := .code y_X_now prog_1_method_18_code 1 (some .int) :: TB
theorem d_X_now_0 : decode prog_1_method_18_code 0 = .ok (.aload_n 0, 1) := by decide +kernel
theorem d_X_now_1 : decode prog_1_method_18_code 1 = .ok (.getfield 87, 3) := by decide +kernel
theorem d_X_now_4 : decode prog_1_method_18_code 4 = .ok (.ireturn, 1) := by decide +kernel
abbrev y_M_isBank : MethodName := ⟨"GridlockDeskModel", "isBank", "(I)Z"⟩
abbrev ws_M_isBank : List Cond := .code y_M_isBank prog_5_method_2_code 2 (some .boolean) :: TB
theorem d_M_isBank_0 : decode prog_5_method_2_code 0 = .ok (.iload_n 1, 1) := by decide +kernel
theorem d_M_isBank_1 : decode prog_5_method_2_code 1 = .ok (.ifCond .lt 15, 3) := by decide +kernel
theorem d_M_isBank_4 : decode prog_5_method_2_code 4 = .ok (.iload_n 1, 1) := by decide +kernel
theorem d_M_isBank_5 : decode prog_5_method_2_code 5 = .ok (.aload_n 0, 1) := by decide +kernel
theorem d_M_isBank_6 : decode prog_5_method_2_code 6 = .ok (.getfield 62, 3) := by decide +kernel
theorem d_M_isBank_9 : decode prog_5_method_2_code 9 = .ok (.if_icmp .ge 7, 3) := by decide +kernel
theorem d_M_isBank_12 : decode prog_5_method_2_code 12 = .ok (.iconst 1, 1) := by decide +kernel
theorem d_M_isBank_13 : decode prog_5_method_2_code 13 = .ok (.goto 4, 3) := by decide +kernel
theorem d_M_isBank_16 : decode prog_5_method_2_code 16 = .ok (.iconst 0, 1) := by decide +kernel
theorem d_M_isBank_17 : decode prog_5_method_2_code 17 = .ok (.ireturn, 1) := by decide +kernel
abbrev y_M_isQueued : MethodName := ⟨"GridlockDeskModel", "isQueued", "(I)Z"⟩
abbrev ws_M_isQueued : List Cond := .code y_M_isQueued prog_5_method_3_code 2 (some .boolean) :: TB
theorem d_M_isQueued_0 : decode prog_5_method_3_code 0 = .ok (.iload_n 1, 1) := by decide +kernel
theorem d_M_isQueued_1 : decode prog_5_method_3_code 1 = .ok (.ifCond .lt 24, 3) := by decide +kernel
theorem d_M_isQueued_4 : decode prog_5_method_3_code 4 = .ok (.iload_n 1, 1) := by decide +kernel
theorem d_M_isQueued_5 : decode prog_5_method_3_code 5 = .ok (.aload_n 0, 1) := by decide +kernel
theorem d_M_isQueued_6 : decode prog_5_method_3_code 6 = .ok (.getfield 68, 3) := by decide +kernel
theorem d_M_isQueued_9 : decode prog_5_method_3_code 9 = .ok (.if_icmp .ge 16, 3) := by decide +kernel
theorem d_M_isQueued_12 : decode prog_5_method_3_code 12 = .ok (.aload_n 0, 1) := by decide +kernel
theorem d_M_isQueued_13 : decode prog_5_method_3_code 13 = .ok (.getfield 44, 3) := by decide +kernel
theorem d_M_isQueued_16 : decode prog_5_method_3_code 16 = .ok (.iload_n 1, 1) := by decide +kernel
theorem d_M_isQueued_17 : decode prog_5_method_3_code 17 = .ok (.iaload, 1) := by decide +kernel
theorem d_M_isQueued_18 : decode prog_5_method_3_code 18 = .ok (.ifCond .ne 7, 3) := by decide +kernel
theorem d_M_isQueued_21 : decode prog_5_method_3_code 21 = .ok (.iconst 1, 1) := by decide +kernel
theorem d_M_isQueued_22 : decode prog_5_method_3_code 22 = .ok (.goto 4, 3) := by decide +kernel
theorem d_M_isQueued_25 : decode prog_5_method_3_code 25 = .ok (.iconst 0, 1) := by decide +kernel
theorem d_M_isQueued_26 : decode prog_5_method_3_code 26 = .ok (.ireturn, 1) := by decide +kernel
abbrev y_M_before : MethodName := ⟨"GridlockDeskModel", "before", "(II)Z"⟩
abbrev ws_M_before : List Cond := .code y_M_before prog_5_method_4_code 3 (some .boolean) :: TB
theorem d_M_before_0 : decode prog_5_method_4_code 0 = .ok (.aload_n 0, 1) := by decide +kernel
theorem d_M_before_1 : decode prog_5_method_4_code 1 = .ok (.getfield 35, 3) := by decide +kernel
theorem d_M_before_4 : decode prog_5_method_4_code 4 = .ok (.iload_n 1, 1) := by decide +kernel
theorem d_M_before_5 : decode prog_5_method_4_code 5 = .ok (.iaload, 1) := by decide +kernel
theorem d_M_before_6 : decode prog_5_method_4_code 6 = .ok (.aload_n 0, 1) := by decide +kernel
theorem d_M_before_7 : decode prog_5_method_4_code 7 = .ok (.getfield 35, 3) := by decide +kernel
theorem d_M_before_10 : decode prog_5_method_4_code 10 = .ok (.iload_n 2, 1) := by decide +kernel
theorem d_M_before_11 : decode prog_5_method_4_code 11 = .ok (.iaload, 1) := by decide +kernel
theorem d_M_before_12 : decode prog_5_method_4_code 12 = .ok (.if_icmp .gt 33, 3) := by decide +kernel
theorem d_M_before_15 : decode prog_5_method_4_code 15 = .ok (.aload_n 0, 1) := by decide +kernel
theorem d_M_before_16 : decode prog_5_method_4_code 16 = .ok (.getfield 35, 3) := by decide +kernel
theorem d_M_before_19 : decode prog_5_method_4_code 19 = .ok (.iload_n 1, 1) := by decide +kernel
theorem d_M_before_20 : decode prog_5_method_4_code 20 = .ok (.iaload, 1) := by decide +kernel
theorem d_M_before_21 : decode prog_5_method_4_code 21 = .ok (.aload_n 0, 1) := by decide +kernel
theorem d_M_before_22 : decode prog_5_method_4_code 22 = .ok (.getfield 35, 3) := by decide +kernel
theorem d_M_before_25 : decode prog_5_method_4_code 25 = .ok (.iload_n 2, 1) := by decide +kernel
theorem d_M_before_26 : decode prog_5_method_4_code 26 = .ok (.iaload, 1) := by decide +kernel
theorem d_M_before_27 : decode prog_5_method_4_code 27 = .ok (.if_icmp .ne 22, 3) := by decide +kernel
theorem d_M_before_30 : decode prog_5_method_4_code 30 = .ok (.aload_n 0, 1) := by decide +kernel
theorem d_M_before_31 : decode prog_5_method_4_code 31 = .ok (.getfield 41, 3) := by decide +kernel
theorem d_M_before_34 : decode prog_5_method_4_code 34 = .ok (.iload_n 1, 1) := by decide +kernel
theorem d_M_before_35 : decode prog_5_method_4_code 35 = .ok (.iaload, 1) := by decide +kernel
theorem d_M_before_36 : decode prog_5_method_4_code 36 = .ok (.aload_n 0, 1) := by decide +kernel
theorem d_M_before_37 : decode prog_5_method_4_code 37 = .ok (.getfield 41, 3) := by decide +kernel
theorem d_M_before_40 : decode prog_5_method_4_code 40 = .ok (.iload_n 2, 1) := by decide +kernel
theorem d_M_before_41 : decode prog_5_method_4_code 41 = .ok (.iaload, 1) := by decide +kernel
theorem d_M_before_42 : decode prog_5_method_4_code 42 = .ok (.if_icmp .ge 7, 3) := by decide +kernel
theorem d_M_before_45 : decode prog_5_method_4_code 45 = .ok (.iconst 1, 1) := by decide +kernel
theorem d_M_before_46 : decode prog_5_method_4_code 46 = .ok (.goto 4, 3) := by decide +kernel
theorem d_M_before_49 : decode prog_5_method_4_code 49 = .ok (.iconst 0, 1) := by decide +kernel
theorem d_M_before_50 : decode prog_5_method_4_code 50 = .ok (.ireturn, 1) := by decide +kernel
abbrev y_M_lineUp : MethodName := ⟨"GridlockDeskModel", "lineUp", "()V"⟩
abbrev ws_M_lineUp : List Cond := .code y_M_lineUp prog_5_method_5_code 5 none :: TB
theorem d_M_lineUp_0 : decode prog_5_method_5_code 0 = .ok (.iconst 0, 1) := by decide +kernel
theorem d_M_lineUp_1 : decode prog_5_method_5_code 1 = .ok (.istore_n 1, 1) := by decide +kernel
theorem d_M_lineUp_2 : decode prog_5_method_5_code 2 = .ok (.iload_n 1, 1) := by decide +kernel
theorem d_M_lineUp_3 : decode prog_5_method_5_code 3 = .ok (.iconst 4, 1) := by decide +kernel
theorem d_M_lineUp_4 : decode prog_5_method_5_code 4 = .ok (.if_icmp .ge 16, 3) := by decide +kernel
theorem d_M_lineUp_7 : decode prog_5_method_5_code 7 = .ok (.aload_n 0, 1) := by decide +kernel
theorem d_M_lineUp_8 : decode prog_5_method_5_code 8 = .ok (.getfield 50, 3) := by decide +kernel
theorem d_M_lineUp_11 : decode prog_5_method_5_code 11 = .ok (.iload_n 1, 1) := by decide +kernel
theorem d_M_lineUp_12 : decode prog_5_method_5_code 12 = .ok (.iconst 0, 1) := by decide +kernel
theorem d_M_lineUp_13 : decode prog_5_method_5_code 13 = .ok (.iastore, 1) := by decide +kernel
theorem d_M_lineUp_14 : decode prog_5_method_5_code 14 = .ok (.iinc 1 1, 3) := by decide +kernel
theorem d_M_lineUp_17 : decode prog_5_method_5_code 17 = .ok (.goto (-15), 3) := by decide +kernel
theorem d_M_lineUp_20 : decode prog_5_method_5_code 20 = .ok (.iconst 0, 1) := by decide +kernel
theorem d_M_lineUp_21 : decode prog_5_method_5_code 21 = .ok (.istore_n 1, 1) := by decide +kernel
theorem d_M_lineUp_22 : decode prog_5_method_5_code 22 = .ok (.iload_n 1, 1) := by decide +kernel
theorem d_M_lineUp_23 : decode prog_5_method_5_code 23 = .ok (.aload_n 0, 1) := by decide +kernel
theorem d_M_lineUp_24 : decode prog_5_method_5_code 24 = .ok (.getfield 68, 3) := by decide +kernel
theorem d_M_lineUp_27 : decode prog_5_method_5_code 27 = .ok (.if_icmp .ge 130, 3) := by decide +kernel
theorem d_M_lineUp_30 : decode prog_5_method_5_code 30 = .ok (.aload_n 0, 1) := by decide +kernel
theorem d_M_lineUp_31 : decode prog_5_method_5_code 31 = .ok (.getfield 44, 3) := by decide +kernel
theorem d_M_lineUp_34 : decode prog_5_method_5_code 34 = .ok (.iload_n 1, 1) := by decide +kernel
theorem d_M_lineUp_35 : decode prog_5_method_5_code 35 = .ok (.iaload, 1) := by decide +kernel
theorem d_M_lineUp_36 : decode prog_5_method_5_code 36 = .ok (.ifCond .ne 115, 3) := by decide +kernel
theorem d_M_lineUp_39 : decode prog_5_method_5_code 39 = .ok (.iconst 0, 1) := by decide +kernel
theorem d_M_lineUp_40 : decode prog_5_method_5_code 40 = .ok (.istore_n 2, 1) := by decide +kernel
theorem d_M_lineUp_41 : decode prog_5_method_5_code 41 = .ok (.iconst 0, 1) := by decide +kernel
theorem d_M_lineUp_42 : decode prog_5_method_5_code 42 = .ok (.istore_n 3, 1) := by decide +kernel
theorem d_M_lineUp_43 : decode prog_5_method_5_code 43 = .ok (.iload_n 3, 1) := by decide +kernel
theorem d_M_lineUp_44 : decode prog_5_method_5_code 44 = .ok (.aload_n 0, 1) := by decide +kernel
theorem d_M_lineUp_45 : decode prog_5_method_5_code 45 = .ok (.getfield 68, 3) := by decide +kernel
theorem d_M_lineUp_48 : decode prog_5_method_5_code 48 = .ok (.if_icmp .ge 62, 3) := by decide +kernel
theorem d_M_lineUp_51 : decode prog_5_method_5_code 51 = .ok (.aload_n 0, 1) := by decide +kernel
theorem d_M_lineUp_52 : decode prog_5_method_5_code 52 = .ok (.getfield 44, 3) := by decide +kernel
theorem d_M_lineUp_55 : decode prog_5_method_5_code 55 = .ok (.iload_n 3, 1) := by decide +kernel
theorem d_M_lineUp_56 : decode prog_5_method_5_code 56 = .ok (.iaload, 1) := by decide +kernel
theorem d_M_lineUp_57 : decode prog_5_method_5_code 57 = .ok (.ifCond .ne 31, 3) := by decide +kernel
theorem d_M_lineUp_60 : decode prog_5_method_5_code 60 = .ok (.aload_n 0, 1) := by decide +kernel
theorem d_M_lineUp_61 : decode prog_5_method_5_code 61 = .ok (.getfield 25, 3) := by decide +kernel
theorem d_M_lineUp_64 : decode prog_5_method_5_code 64 = .ok (.iload_n 3, 1) := by decide +kernel
theorem d_M_lineUp_65 : decode prog_5_method_5_code 65 = .ok (.iaload, 1) := by decide +kernel
theorem d_M_lineUp_66 : decode prog_5_method_5_code 66 = .ok (.aload_n 0, 1) := by decide +kernel
theorem d_M_lineUp_67 : decode prog_5_method_5_code 67 = .ok (.getfield 25, 3) := by decide +kernel
theorem d_M_lineUp_70 : decode prog_5_method_5_code 70 = .ok (.iload_n 1, 1) := by decide +kernel
theorem d_M_lineUp_71 : decode prog_5_method_5_code 71 = .ok (.iaload, 1) := by decide +kernel
theorem d_M_lineUp_72 : decode prog_5_method_5_code 72 = .ok (.if_icmp .ne 16, 3) := by decide +kernel
theorem d_M_lineUp_75 : decode prog_5_method_5_code 75 = .ok (.aload_n 0, 1) := by decide +kernel
theorem d_M_lineUp_76 : decode prog_5_method_5_code 76 = .ok (.iload_n 3, 1) := by decide +kernel
theorem d_M_lineUp_77 : decode prog_5_method_5_code 77 = .ok (.iload_n 1, 1) := by decide +kernel
theorem d_M_lineUp_78 : decode prog_5_method_5_code 78 = .ok (.invokevirtual 71, 3) := by decide +kernel
theorem d_M_lineUp_81 : decode prog_5_method_5_code 81 = .ok (.ifCond .eq 7, 3) := by decide +kernel
theorem d_M_lineUp_84 : decode prog_5_method_5_code 84 = .ok (.iconst 1, 1) := by decide +kernel
theorem d_M_lineUp_85 : decode prog_5_method_5_code 85 = .ok (.goto 4, 3) := by decide +kernel
theorem d_M_lineUp_88 : decode prog_5_method_5_code 88 = .ok (.iconst 0, 1) := by decide +kernel
theorem d_M_lineUp_89 : decode prog_5_method_5_code 89 = .ok (.istore 4, 2) := by decide +kernel
theorem d_M_lineUp_91 : decode prog_5_method_5_code 91 = .ok (.iload 4, 2) := by decide +kernel
theorem d_M_lineUp_93 : decode prog_5_method_5_code 93 = .ok (.ifCond .eq 9, 3) := by decide +kernel
theorem d_M_lineUp_96 : decode prog_5_method_5_code 96 = .ok (.iload_n 2, 1) := by decide +kernel
theorem d_M_lineUp_97 : decode prog_5_method_5_code 97 = .ok (.iconst 1, 1) := by decide +kernel
theorem d_M_lineUp_98 : decode prog_5_method_5_code 98 = .ok (.iadd, 1) := by decide +kernel
theorem d_M_lineUp_99 : decode prog_5_method_5_code 99 = .ok (.goto 4, 3) := by decide +kernel
theorem d_M_lineUp_102 : decode prog_5_method_5_code 102 = .ok (.iload_n 2, 1) := by decide +kernel
theorem d_M_lineUp_103 : decode prog_5_method_5_code 103 = .ok (.istore_n 2, 1) := by decide +kernel
theorem d_M_lineUp_104 : decode prog_5_method_5_code 104 = .ok (.iinc 3 1, 3) := by decide +kernel
theorem d_M_lineUp_107 : decode prog_5_method_5_code 107 = .ok (.goto (-64), 3) := by decide +kernel
theorem d_M_lineUp_110 : decode prog_5_method_5_code 110 = .ok (.aload_n 0, 1) := by decide +kernel
theorem d_M_lineUp_111 : decode prog_5_method_5_code 111 = .ok (.getfield 47, 3) := by decide +kernel
theorem d_M_lineUp_114 : decode prog_5_method_5_code 114 = .ok (.bipush 6, 2) := by decide +kernel
theorem d_M_lineUp_116 : decode prog_5_method_5_code 116 = .ok (.aload_n 0, 1) := by decide +kernel
theorem d_M_lineUp_117 : decode prog_5_method_5_code 117 = .ok (.getfield 25, 3) := by decide +kernel
theorem d_M_lineUp_120 : decode prog_5_method_5_code 120 = .ok (.iload_n 1, 1) := by decide +kernel
theorem d_M_lineUp_121 : decode prog_5_method_5_code 121 = .ok (.iaload, 1) := by decide +kernel
theorem d_M_lineUp_122 : decode prog_5_method_5_code 122 = .ok (.imul, 1) := by decide +kernel
theorem d_M_lineUp_123 : decode prog_5_method_5_code 123 = .ok (.iload_n 2, 1) := by decide +kernel
theorem d_M_lineUp_124 : decode prog_5_method_5_code 124 = .ok (.iadd, 1) := by decide +kernel
theorem d_M_lineUp_125 : decode prog_5_method_5_code 125 = .ok (.iload_n 1, 1) := by decide +kernel
theorem d_M_lineUp_126 : decode prog_5_method_5_code 126 = .ok (.iastore, 1) := by decide +kernel
theorem d_M_lineUp_127 : decode prog_5_method_5_code 127 = .ok (.aload_n 0, 1) := by decide +kernel
theorem d_M_lineUp_128 : decode prog_5_method_5_code 128 = .ok (.getfield 50, 3) := by decide +kernel
theorem d_M_lineUp_131 : decode prog_5_method_5_code 131 = .ok (.aload_n 0, 1) := by decide +kernel
theorem d_M_lineUp_132 : decode prog_5_method_5_code 132 = .ok (.getfield 25, 3) := by decide +kernel
theorem d_M_lineUp_135 : decode prog_5_method_5_code 135 = .ok (.iload_n 1, 1) := by decide +kernel
theorem d_M_lineUp_136 : decode prog_5_method_5_code 136 = .ok (.iaload, 1) := by decide +kernel
theorem d_M_lineUp_137 : decode prog_5_method_5_code 137 = .ok (.aload_n 0, 1) := by decide +kernel
theorem d_M_lineUp_138 : decode prog_5_method_5_code 138 = .ok (.getfield 50, 3) := by decide +kernel
theorem d_M_lineUp_141 : decode prog_5_method_5_code 141 = .ok (.aload_n 0, 1) := by decide +kernel
theorem d_M_lineUp_142 : decode prog_5_method_5_code 142 = .ok (.getfield 25, 3) := by decide +kernel
theorem d_M_lineUp_145 : decode prog_5_method_5_code 145 = .ok (.iload_n 1, 1) := by decide +kernel
theorem d_M_lineUp_146 : decode prog_5_method_5_code 146 = .ok (.iaload, 1) := by decide +kernel
theorem d_M_lineUp_147 : decode prog_5_method_5_code 147 = .ok (.iaload, 1) := by decide +kernel
theorem d_M_lineUp_148 : decode prog_5_method_5_code 148 = .ok (.iconst 1, 1) := by decide +kernel
theorem d_M_lineUp_149 : decode prog_5_method_5_code 149 = .ok (.iadd, 1) := by decide +kernel
theorem d_M_lineUp_150 : decode prog_5_method_5_code 150 = .ok (.iastore, 1) := by decide +kernel
theorem d_M_lineUp_151 : decode prog_5_method_5_code 151 = .ok (.iinc 1 1, 3) := by decide +kernel
theorem d_M_lineUp_154 : decode prog_5_method_5_code 154 = .ok (.goto (-132), 3) := by decide +kernel
theorem d_M_lineUp_157 : decode prog_5_method_5_code 157 = .ok (.return_, 1) := by decide +kernel
abbrev y_M_now0 : MethodName := ⟨"GridlockDeskModel", "now0", "()V"⟩
abbrev ws_M_now0 : List Cond := .code y_M_now0 prog_5_method_6_code 2 none :: TB
theorem d_M_now0_0 : decode prog_5_method_6_code 0 = .ok (.iconst 0, 1) := by decide +kernel
theorem d_M_now0_1 : decode prog_5_method_6_code 1 = .ok (.istore_n 1, 1) := by decide +kernel
theorem d_M_now0_2 : decode prog_5_method_6_code 2 = .ok (.iload_n 1, 1) := by decide +kernel
theorem d_M_now0_3 : decode prog_5_method_6_code 3 = .ok (.iconst 4, 1) := by decide +kernel
theorem d_M_now0_4 : decode prog_5_method_6_code 4 = .ok (.if_icmp .ge 21, 3) := by decide +kernel
theorem d_M_now0_7 : decode prog_5_method_6_code 7 = .ok (.aload_n 0, 1) := by decide +kernel
theorem d_M_now0_8 : decode prog_5_method_6_code 8 = .ok (.getfield 53, 3) := by decide +kernel
theorem d_M_now0_11 : decode prog_5_method_6_code 11 = .ok (.iload_n 1, 1) := by decide +kernel
theorem d_M_now0_12 : decode prog_5_method_6_code 12 = .ok (.aload_n 0, 1) := by decide +kernel
theorem d_M_now0_13 : decode prog_5_method_6_code 13 = .ok (.getfield 7, 3) := by decide +kernel
theorem d_M_now0_16 : decode prog_5_method_6_code 16 = .ok (.iload_n 1, 1) := by decide +kernel
theorem d_M_now0_17 : decode prog_5_method_6_code 17 = .ok (.laload, 1) := by decide +kernel
theorem d_M_now0_18 : decode prog_5_method_6_code 18 = .ok (.lastore, 1) := by decide +kernel
theorem d_M_now0_19 : decode prog_5_method_6_code 19 = .ok (.iinc 1 1, 3) := by decide +kernel
theorem d_M_now0_22 : decode prog_5_method_6_code 22 = .ok (.goto (-20), 3) := by decide +kernel
theorem d_M_now0_25 : decode prog_5_method_6_code 25 = .ok (.iconst 0, 1) := by decide +kernel
theorem d_M_now0_26 : decode prog_5_method_6_code 26 = .ok (.istore_n 1, 1) := by decide +kernel
theorem d_M_now0_27 : decode prog_5_method_6_code 27 = .ok (.iload_n 1, 1) := by decide +kernel
theorem d_M_now0_28 : decode prog_5_method_6_code 28 = .ok (.bipush 16, 2) := by decide +kernel
theorem d_M_now0_30 : decode prog_5_method_6_code 30 = .ok (.if_icmp .ge 21, 3) := by decide +kernel
theorem d_M_now0_33 : decode prog_5_method_6_code 33 = .ok (.aload_n 0, 1) := by decide +kernel
theorem d_M_now0_34 : decode prog_5_method_6_code 34 = .ok (.getfield 56, 3) := by decide +kernel
theorem d_M_now0_37 : decode prog_5_method_6_code 37 = .ok (.iload_n 1, 1) := by decide +kernel
theorem d_M_now0_38 : decode prog_5_method_6_code 38 = .ok (.aload_n 0, 1) := by decide +kernel
theorem d_M_now0_39 : decode prog_5_method_6_code 39 = .ok (.getfield 22, 3) := by decide +kernel
theorem d_M_now0_42 : decode prog_5_method_6_code 42 = .ok (.iload_n 1, 1) := by decide +kernel
theorem d_M_now0_43 : decode prog_5_method_6_code 43 = .ok (.laload, 1) := by decide +kernel
theorem d_M_now0_44 : decode prog_5_method_6_code 44 = .ok (.lastore, 1) := by decide +kernel
theorem d_M_now0_45 : decode prog_5_method_6_code 45 = .ok (.iinc 1 1, 3) := by decide +kernel
theorem d_M_now0_48 : decode prog_5_method_6_code 48 = .ok (.goto (-21), 3) := by decide +kernel
theorem d_M_now0_51 : decode prog_5_method_6_code 51 = .ok (.return_, 1) := by decide +kernel
abbrev y_M_plan : MethodName := ⟨"GridlockDeskModel", "plan", "(I)V"⟩
abbrev ws_M_plan : List Cond := .code y_M_plan prog_5_method_7_code 3 none :: TB
theorem d_M_plan_0 : decode prog_5_method_7_code 0 = .ok (.aload_n 0, 1) := by decide +kernel
theorem d_M_plan_1 : decode prog_5_method_7_code 1 = .ok (.getfield 53, 3) := by decide +kernel
theorem d_M_plan_4 : decode prog_5_method_7_code 4 = .ok (.aload_n 0, 1) := by decide +kernel
theorem d_M_plan_5 : decode prog_5_method_7_code 5 = .ok (.getfield 25, 3) := by decide +kernel
theorem d_M_plan_8 : decode prog_5_method_7_code 8 = .ok (.iload_n 1, 1) := by decide +kernel
theorem d_M_plan_9 : decode prog_5_method_7_code 9 = .ok (.iaload, 1) := by decide +kernel
theorem d_M_plan_10 : decode prog_5_method_7_code 10 = .ok (.aload_n 0, 1) := by decide +kernel
theorem d_M_plan_11 : decode prog_5_method_7_code 11 = .ok (.getfield 53, 3) := by decide +kernel
theorem d_M_plan_14 : decode prog_5_method_7_code 14 = .ok (.aload_n 0, 1) := by decide +kernel
theorem d_M_plan_15 : decode prog_5_method_7_code 15 = .ok (.getfield 25, 3) := by decide +kernel
theorem d_M_plan_18 : decode prog_5_method_7_code 18 = .ok (.iload_n 1, 1) := by decide +kernel
theorem d_M_plan_19 : decode prog_5_method_7_code 19 = .ok (.iaload, 1) := by decide +kernel
theorem d_M_plan_20 : decode prog_5_method_7_code 20 = .ok (.laload, 1) := by decide +kernel
theorem d_M_plan_21 : decode prog_5_method_7_code 21 = .ok (.aload_n 0, 1) := by decide +kernel
theorem d_M_plan_22 : decode prog_5_method_7_code 22 = .ok (.getfield 32, 3) := by decide +kernel
theorem d_M_plan_25 : decode prog_5_method_7_code 25 = .ok (.iload_n 1, 1) := by decide +kernel
theorem d_M_plan_26 : decode prog_5_method_7_code 26 = .ok (.laload, 1) := by decide +kernel
theorem d_M_plan_27 : decode prog_5_method_7_code 27 = .ok (.lsub, 1) := by decide +kernel
theorem d_M_plan_28 : decode prog_5_method_7_code 28 = .ok (.lastore, 1) := by decide +kernel
theorem d_M_plan_29 : decode prog_5_method_7_code 29 = .ok (.aload_n 0, 1) := by decide +kernel
theorem d_M_plan_30 : decode prog_5_method_7_code 30 = .ok (.getfield 53, 3) := by decide +kernel
theorem d_M_plan_33 : decode prog_5_method_7_code 33 = .ok (.aload_n 0, 1) := by decide +kernel
theorem d_M_plan_34 : decode prog_5_method_7_code 34 = .ok (.getfield 29, 3) := by decide +kernel
theorem d_M_plan_37 : decode prog_5_method_7_code 37 = .ok (.iload_n 1, 1) := by decide +kernel
theorem d_M_plan_38 : decode prog_5_method_7_code 38 = .ok (.iaload, 1) := by decide +kernel
theorem d_M_plan_39 : decode prog_5_method_7_code 39 = .ok (.aload_n 0, 1) := by decide +kernel
theorem d_M_plan_40 : decode prog_5_method_7_code 40 = .ok (.getfield 53, 3) := by decide +kernel
theorem d_M_plan_43 : decode prog_5_method_7_code 43 = .ok (.aload_n 0, 1) := by decide +kernel
theorem d_M_plan_44 : decode prog_5_method_7_code 44 = .ok (.getfield 29, 3) := by decide +kernel
theorem d_M_plan_47 : decode prog_5_method_7_code 47 = .ok (.iload_n 1, 1) := by decide +kernel
theorem d_M_plan_48 : decode prog_5_method_7_code 48 = .ok (.iaload, 1) := by decide +kernel
theorem d_M_plan_49 : decode prog_5_method_7_code 49 = .ok (.laload, 1) := by decide +kernel
theorem d_M_plan_50 : decode prog_5_method_7_code 50 = .ok (.aload_n 0, 1) := by decide +kernel
theorem d_M_plan_51 : decode prog_5_method_7_code 51 = .ok (.getfield 32, 3) := by decide +kernel
theorem d_M_plan_54 : decode prog_5_method_7_code 54 = .ok (.iload_n 1, 1) := by decide +kernel
theorem d_M_plan_55 : decode prog_5_method_7_code 55 = .ok (.laload, 1) := by decide +kernel
theorem d_M_plan_56 : decode prog_5_method_7_code 56 = .ok (.ladd, 1) := by decide +kernel
theorem d_M_plan_57 : decode prog_5_method_7_code 57 = .ok (.lastore, 1) := by decide +kernel
theorem d_M_plan_58 : decode prog_5_method_7_code 58 = .ok (.iconst 4, 1) := by decide +kernel
theorem d_M_plan_59 : decode prog_5_method_7_code 59 = .ok (.aload_n 0, 1) := by decide +kernel
theorem d_M_plan_60 : decode prog_5_method_7_code 60 = .ok (.getfield 25, 3) := by decide +kernel
theorem d_M_plan_63 : decode prog_5_method_7_code 63 = .ok (.iload_n 1, 1) := by decide +kernel
theorem d_M_plan_64 : decode prog_5_method_7_code 64 = .ok (.iaload, 1) := by decide +kernel
theorem d_M_plan_65 : decode prog_5_method_7_code 65 = .ok (.imul, 1) := by decide +kernel
theorem d_M_plan_66 : decode prog_5_method_7_code 66 = .ok (.aload_n 0, 1) := by decide +kernel
theorem d_M_plan_67 : decode prog_5_method_7_code 67 = .ok (.getfield 29, 3) := by decide +kernel
theorem d_M_plan_70 : decode prog_5_method_7_code 70 = .ok (.iload_n 1, 1) := by decide +kernel
theorem d_M_plan_71 : decode prog_5_method_7_code 71 = .ok (.iaload, 1) := by decide +kernel
theorem d_M_plan_72 : decode prog_5_method_7_code 72 = .ok (.iadd, 1) := by decide +kernel
theorem d_M_plan_73 : decode prog_5_method_7_code 73 = .ok (.istore_n 2, 1) := by decide +kernel
theorem d_M_plan_74 : decode prog_5_method_7_code 74 = .ok (.aload_n 0, 1) := by decide +kernel
theorem d_M_plan_75 : decode prog_5_method_7_code 75 = .ok (.getfield 56, 3) := by decide +kernel
theorem d_M_plan_78 : decode prog_5_method_7_code 78 = .ok (.iload_n 2, 1) := by decide +kernel
theorem d_M_plan_79 : decode prog_5_method_7_code 79 = .ok (.aload_n 0, 1) := by decide +kernel
theorem d_M_plan_80 : decode prog_5_method_7_code 80 = .ok (.getfield 56, 3) := by decide +kernel
theorem d_M_plan_83 : decode prog_5_method_7_code 83 = .ok (.iload_n 2, 1) := by decide +kernel
theorem d_M_plan_84 : decode prog_5_method_7_code 84 = .ok (.laload, 1) := by decide +kernel
theorem d_M_plan_85 : decode prog_5_method_7_code 85 = .ok (.aload_n 0, 1) := by decide +kernel
theorem d_M_plan_86 : decode prog_5_method_7_code 86 = .ok (.getfield 32, 3) := by decide +kernel
theorem d_M_plan_89 : decode prog_5_method_7_code 89 = .ok (.iload_n 1, 1) := by decide +kernel
theorem d_M_plan_90 : decode prog_5_method_7_code 90 = .ok (.laload, 1) := by decide +kernel
theorem d_M_plan_91 : decode prog_5_method_7_code 91 = .ok (.ladd, 1) := by decide +kernel
theorem d_M_plan_92 : decode prog_5_method_7_code 92 = .ok (.lastore, 1) := by decide +kernel
theorem d_M_plan_93 : decode prog_5_method_7_code 93 = .ok (.return_, 1) := by decide +kernel
abbrev y_M_allWell : MethodName := ⟨"GridlockDeskModel", "allWell", "()Z"⟩
abbrev ws_M_allWell : List Cond := .code y_M_allWell prog_5_method_8_code 7 (some .boolean) :: TB
theorem d_M_allWell_0 : decode prog_5_method_8_code 0 = .ok (.iconst 0, 1) := by decide +kernel
theorem d_M_allWell_1 : decode prog_5_method_8_code 1 = .ok (.istore_n 1, 1) := by decide +kernel
theorem d_M_allWell_2 : decode prog_5_method_8_code 2 = .ok (.iload_n 1, 1) := by decide +kernel
theorem d_M_allWell_3 : decode prog_5_method_8_code 3 = .ok (.aload_n 0, 1) := by decide +kernel
theorem d_M_allWell_4 : decode prog_5_method_8_code 4 = .ok (.getfield 62, 3) := by decide +kernel
theorem d_M_allWell_7 : decode prog_5_method_8_code 7 = .ok (.if_icmp .ge 135, 3) := by decide +kernel
theorem d_M_allWell_10 : decode prog_5_method_8_code 10 = .ok (.lconst 0, 1) := by decide +kernel
theorem d_M_allWell_11 : decode prog_5_method_8_code 11 = .ok (.lstore_n 2, 1) := by decide +kernel
theorem d_M_allWell_12 : decode prog_5_method_8_code 12 = .ok (.iconst 0, 1) := by decide +kernel
theorem d_M_allWell_13 : decode prog_5_method_8_code 13 = .ok (.istore 4, 2) := by decide +kernel
theorem d_M_allWell_15 : decode prog_5_method_8_code 15 = .ok (.iload 4, 2) := by decide +kernel
theorem d_M_allWell_17 : decode prog_5_method_8_code 17 = .ok (.aload_n 0, 1) := by decide +kernel
theorem d_M_allWell_18 : decode prog_5_method_8_code 18 = .ok (.getfield 62, 3) := by decide +kernel
theorem d_M_allWell_21 : decode prog_5_method_8_code 21 = .ok (.if_icmp .ge 74, 3) := by decide +kernel
theorem d_M_allWell_24 : decode prog_5_method_8_code 24 = .ok (.aload_n 0, 1) := by decide +kernel
theorem d_M_allWell_25 : decode prog_5_method_8_code 25 = .ok (.getfield 56, 3) := by decide +kernel
theorem d_M_allWell_28 : decode prog_5_method_8_code 28 = .ok (.iconst 4, 1) := by decide +kernel
theorem d_M_allWell_29 : decode prog_5_method_8_code 29 = .ok (.iload_n 1, 1) := by decide +kernel
theorem d_M_allWell_30 : decode prog_5_method_8_code 30 = .ok (.imul, 1) := by decide +kernel
theorem d_M_allWell_31 : decode prog_5_method_8_code 31 = .ok (.iload 4, 2) := by decide +kernel
theorem d_M_allWell_33 : decode prog_5_method_8_code 33 = .ok (.iadd, 1) := by decide +kernel
theorem d_M_allWell_34 : decode prog_5_method_8_code 34 = .ok (.laload, 1) := by decide +kernel
theorem d_M_allWell_35 : decode prog_5_method_8_code 35 = .ok (.aload_n 0, 1) := by decide +kernel
theorem d_M_allWell_36 : decode prog_5_method_8_code 36 = .ok (.getfield 56, 3) := by decide +kernel
theorem d_M_allWell_39 : decode prog_5_method_8_code 39 = .ok (.iconst 4, 1) := by decide +kernel
theorem d_M_allWell_40 : decode prog_5_method_8_code 40 = .ok (.iload 4, 2) := by decide +kernel
theorem d_M_allWell_42 : decode prog_5_method_8_code 42 = .ok (.imul, 1) := by decide +kernel
theorem d_M_allWell_43 : decode prog_5_method_8_code 43 = .ok (.iload_n 1, 1) := by decide +kernel
theorem d_M_allWell_44 : decode prog_5_method_8_code 44 = .ok (.iadd, 1) := by decide +kernel
theorem d_M_allWell_45 : decode prog_5_method_8_code 45 = .ok (.laload, 1) := by decide +kernel
theorem d_M_allWell_46 : decode prog_5_method_8_code 46 = .ok (.lsub, 1) := by decide +kernel
theorem d_M_allWell_47 : decode prog_5_method_8_code 47 = .ok (.lstore 5, 2) := by decide +kernel
theorem d_M_allWell_49 : decode prog_5_method_8_code 49 = .ok (.lload_n 2, 1) := by decide +kernel
theorem d_M_allWell_50 : decode prog_5_method_8_code 50 = .ok (.lload 5, 2) := by decide +kernel
theorem d_M_allWell_52 : decode prog_5_method_8_code 52 = .ok (.ladd, 1) := by decide +kernel
theorem d_M_allWell_53 : decode prog_5_method_8_code 53 = .ok (.lstore_n 2, 1) := by decide +kernel
theorem d_M_allWell_54 : decode prog_5_method_8_code 54 = .ok (.aload_n 0, 1) := by decide +kernel
theorem d_M_allWell_55 : decode prog_5_method_8_code 55 = .ok (.getfield 19, 3) := by decide +kernel
theorem d_M_allWell_58 : decode prog_5_method_8_code 58 = .ok (.iconst 4, 1) := by decide +kernel
theorem d_M_allWell_59 : decode prog_5_method_8_code 59 = .ok (.iload_n 1, 1) := by decide +kernel
theorem d_M_allWell_60 : decode prog_5_method_8_code 60 = .ok (.imul, 1) := by decide +kernel
theorem d_M_allWell_61 : decode prog_5_method_8_code 61 = .ok (.iload 4, 2) := by decide +kernel
theorem d_M_allWell_63 : decode prog_5_method_8_code 63 = .ok (.iadd, 1) := by decide +kernel
theorem d_M_allWell_64 : decode prog_5_method_8_code 64 = .ok (.laload, 1) := by decide +kernel
theorem d_M_allWell_65 : decode prog_5_method_8_code 65 = .ok (.lconst 0, 1) := by decide +kernel
theorem d_M_allWell_66 : decode prog_5_method_8_code 66 = .ok (.lcmp, 1) := by decide +kernel
theorem d_M_allWell_67 : decode prog_5_method_8_code 67 = .ok (.ifCond .lt 22, 3) := by decide +kernel
theorem d_M_allWell_70 : decode prog_5_method_8_code 70 = .ok (.lload 5, 2) := by decide +kernel
theorem d_M_allWell_72 : decode prog_5_method_8_code 72 = .ok (.aload_n 0, 1) := by decide +kernel
theorem d_M_allWell_73 : decode prog_5_method_8_code 73 = .ok (.getfield 19, 3) := by decide +kernel
theorem d_M_allWell_76 : decode prog_5_method_8_code 76 = .ok (.iconst 4, 1) := by decide +kernel
theorem d_M_allWell_77 : decode prog_5_method_8_code 77 = .ok (.iload_n 1, 1) := by decide +kernel
theorem d_M_allWell_78 : decode prog_5_method_8_code 78 = .ok (.imul, 1) := by decide +kernel
theorem d_M_allWell_79 : decode prog_5_method_8_code 79 = .ok (.iload 4, 2) := by decide +kernel
theorem d_M_allWell_81 : decode prog_5_method_8_code 81 = .ok (.iadd, 1) := by decide +kernel
theorem d_M_allWell_82 : decode prog_5_method_8_code 82 = .ok (.laload, 1) := by decide +kernel
theorem d_M_allWell_83 : decode prog_5_method_8_code 83 = .ok (.lcmp, 1) := by decide +kernel
theorem d_M_allWell_84 : decode prog_5_method_8_code 84 = .ok (.ifCond .le 5, 3) := by decide +kernel
theorem d_M_allWell_87 : decode prog_5_method_8_code 87 = .ok (.iconst 0, 1) := by decide +kernel
theorem d_M_allWell_88 : decode prog_5_method_8_code 88 = .ok (.ireturn, 1) := by decide +kernel
theorem d_M_allWell_89 : decode prog_5_method_8_code 89 = .ok (.iinc 4 1, 3) := by decide +kernel
theorem d_M_allWell_92 : decode prog_5_method_8_code 92 = .ok (.goto (-77), 3) := by decide +kernel
theorem d_M_allWell_95 : decode prog_5_method_8_code 95 = .ok (.aload_n 0, 1) := by decide +kernel
theorem d_M_allWell_96 : decode prog_5_method_8_code 96 = .ok (.getfield 53, 3) := by decide +kernel
theorem d_M_allWell_99 : decode prog_5_method_8_code 99 = .ok (.iload_n 1, 1) := by decide +kernel
theorem d_M_allWell_100 : decode prog_5_method_8_code 100 = .ok (.laload, 1) := by decide +kernel
theorem d_M_allWell_101 : decode prog_5_method_8_code 101 = .ok (.aload_n 0, 1) := by decide +kernel
theorem d_M_allWell_102 : decode prog_5_method_8_code 102 = .ok (.getfield 13, 3) := by decide +kernel
theorem d_M_allWell_105 : decode prog_5_method_8_code 105 = .ok (.iload_n 1, 1) := by decide +kernel
theorem d_M_allWell_106 : decode prog_5_method_8_code 106 = .ok (.laload, 1) := by decide +kernel
theorem d_M_allWell_107 : decode prog_5_method_8_code 107 = .ok (.lneg, 1) := by decide +kernel
theorem d_M_allWell_108 : decode prog_5_method_8_code 108 = .ok (.lcmp, 1) := by decide +kernel
theorem d_M_allWell_109 : decode prog_5_method_8_code 109 = .ok (.ifCond .lt 25, 3) := by decide +kernel
theorem d_M_allWell_112 : decode prog_5_method_8_code 112 = .ok (.aload_n 0, 1) := by decide +kernel
theorem d_M_allWell_113 : decode prog_5_method_8_code 113 = .ok (.getfield 16, 3) := by decide +kernel
theorem d_M_allWell_116 : decode prog_5_method_8_code 116 = .ok (.iload_n 1, 1) := by decide +kernel
theorem d_M_allWell_117 : decode prog_5_method_8_code 117 = .ok (.laload, 1) := by decide +kernel
theorem d_M_allWell_118 : decode prog_5_method_8_code 118 = .ok (.lconst 0, 1) := by decide +kernel
theorem d_M_allWell_119 : decode prog_5_method_8_code 119 = .ok (.lcmp, 1) := by decide +kernel
theorem d_M_allWell_120 : decode prog_5_method_8_code 120 = .ok (.ifCond .lt 16, 3) := by decide +kernel
theorem d_M_allWell_123 : decode prog_5_method_8_code 123 = .ok (.lload_n 2, 1) := by decide +kernel
theorem d_M_allWell_124 : decode prog_5_method_8_code 124 = .ok (.aload_n 0, 1) := by decide +kernel
theorem d_M_allWell_125 : decode prog_5_method_8_code 125 = .ok (.getfield 16, 3) := by decide +kernel
theorem d_M_allWell_128 : decode prog_5_method_8_code 128 = .ok (.iload_n 1, 1) := by decide +kernel
theorem d_M_allWell_129 : decode prog_5_method_8_code 129 = .ok (.laload, 1) := by decide +kernel
theorem d_M_allWell_130 : decode prog_5_method_8_code 130 = .ok (.lcmp, 1) := by decide +kernel
theorem d_M_allWell_131 : decode prog_5_method_8_code 131 = .ok (.ifCond .le 5, 3) := by decide +kernel
theorem d_M_allWell_134 : decode prog_5_method_8_code 134 = .ok (.iconst 0, 1) := by decide +kernel
theorem d_M_allWell_135 : decode prog_5_method_8_code 135 = .ok (.ireturn, 1) := by decide +kernel
theorem d_M_allWell_136 : decode prog_5_method_8_code 136 = .ok (.iinc 1 1, 3) := by decide +kernel
theorem d_M_allWell_139 : decode prog_5_method_8_code 139 = .ok (.goto (-137), 3) := by decide +kernel
theorem d_M_allWell_142 : decode prog_5_method_8_code 142 = .ok (.iconst 1, 1) := by decide +kernel
theorem d_M_allWell_143 : decode prog_5_method_8_code 143 = .ok (.ireturn, 1) := by decide +kernel
abbrev y_M_ready : MethodName := ⟨"GridlockDeskModel", "ready", "(II)Z"⟩
abbrev ws_M_ready : List Cond := .code y_M_ready prog_5_method_9_code 3 (some .boolean) :: TB
theorem d_M_ready_0 : decode prog_5_method_9_code 0 = .ok (.aload_n 0, 1) := by decide +kernel
theorem d_M_ready_1 : decode prog_5_method_9_code 1 = .ok (.invokevirtual 75, 3) := by decide +kernel
theorem d_M_ready_4 : decode prog_5_method_9_code 4 = .ok (.aload_n 0, 1) := by decide +kernel
theorem d_M_ready_5 : decode prog_5_method_9_code 5 = .ok (.iload_n 1, 1) := by decide +kernel
theorem d_M_ready_6 : decode prog_5_method_9_code 6 = .ok (.invokevirtual 78, 3) := by decide +kernel
theorem d_M_ready_9 : decode prog_5_method_9_code 9 = .ok (.iload_n 2, 1) := by decide +kernel
theorem d_M_ready_10 : decode prog_5_method_9_code 10 = .ok (.ifCond .lt 8, 3) := by decide +kernel
theorem d_M_ready_13 : decode prog_5_method_9_code 13 = .ok (.aload_n 0, 1) := by decide +kernel
theorem d_M_ready_14 : decode prog_5_method_9_code 14 = .ok (.iload_n 2, 1) := by decide +kernel
theorem d_M_ready_15 : decode prog_5_method_9_code 15 = .ok (.invokevirtual 78, 3) := by decide +kernel
theorem d_M_ready_18 : decode prog_5_method_9_code 18 = .ok (.aload_n 0, 1) := by decide +kernel
theorem d_M_ready_19 : decode prog_5_method_9_code 19 = .ok (.invokevirtual 82, 3) := by decide +kernel
theorem d_M_ready_22 : decode prog_5_method_9_code 22 = .ok (.ireturn, 1) := by decide +kernel
abbrev y_M_settle : MethodName := ⟨"GridlockDeskModel", "settle", "(II)V"⟩
abbrev ws_M_settle : List Cond := .code y_M_settle prog_5_method_10_code 4 none :: TB
theorem d_M_settle_0 : decode prog_5_method_10_code 0 = .ok (.iconst 4, 1) := by decide +kernel
theorem d_M_settle_1 : decode prog_5_method_10_code 1 = .ok (.aload_n 0, 1) := by decide +kernel
theorem d_M_settle_2 : decode prog_5_method_10_code 2 = .ok (.getfield 25, 3) := by decide +kernel
theorem d_M_settle_5 : decode prog_5_method_10_code 5 = .ok (.iload_n 1, 1) := by decide +kernel
theorem d_M_settle_6 : decode prog_5_method_10_code 6 = .ok (.iaload, 1) := by decide +kernel
theorem d_M_settle_7 : decode prog_5_method_10_code 7 = .ok (.imul, 1) := by decide +kernel
theorem d_M_settle_8 : decode prog_5_method_10_code 8 = .ok (.aload_n 0, 1) := by decide +kernel
theorem d_M_settle_9 : decode prog_5_method_10_code 9 = .ok (.getfield 29, 3) := by decide +kernel
theorem d_M_settle_12 : decode prog_5_method_10_code 12 = .ok (.iload_n 1, 1) := by decide +kernel
theorem d_M_settle_13 : decode prog_5_method_10_code 13 = .ok (.iaload, 1) := by decide +kernel
theorem d_M_settle_14 : decode prog_5_method_10_code 14 = .ok (.iadd, 1) := by decide +kernel
theorem d_M_settle_15 : decode prog_5_method_10_code 15 = .ok (.istore_n 3, 1) := by decide +kernel
theorem d_M_settle_16 : decode prog_5_method_10_code 16 = .ok (.aload_n 0, 1) := by decide +kernel
theorem d_M_settle_17 : decode prog_5_method_10_code 17 = .ok (.getfield 7, 3) := by decide +kernel
theorem d_M_settle_20 : decode prog_5_method_10_code 20 = .ok (.aload_n 0, 1) := by decide +kernel
theorem d_M_settle_21 : decode prog_5_method_10_code 21 = .ok (.getfield 25, 3) := by decide +kernel
theorem d_M_settle_24 : decode prog_5_method_10_code 24 = .ok (.iload_n 1, 1) := by decide +kernel
theorem d_M_settle_25 : decode prog_5_method_10_code 25 = .ok (.iaload, 1) := by decide +kernel
theorem d_M_settle_26 : decode prog_5_method_10_code 26 = .ok (.aload_n 0, 1) := by decide +kernel
theorem d_M_settle_27 : decode prog_5_method_10_code 27 = .ok (.getfield 7, 3) := by decide +kernel
theorem d_M_settle_30 : decode prog_5_method_10_code 30 = .ok (.aload_n 0, 1) := by decide +kernel
theorem d_M_settle_31 : decode prog_5_method_10_code 31 = .ok (.getfield 25, 3) := by decide +kernel
theorem d_M_settle_34 : decode prog_5_method_10_code 34 = .ok (.iload_n 1, 1) := by decide +kernel
theorem d_M_settle_35 : decode prog_5_method_10_code 35 = .ok (.iaload, 1) := by decide +kernel
theorem d_M_settle_36 : decode prog_5_method_10_code 36 = .ok (.laload, 1) := by decide +kernel
theorem d_M_settle_37 : decode prog_5_method_10_code 37 = .ok (.aload_n 0, 1) := by decide +kernel
theorem d_M_settle_38 : decode prog_5_method_10_code 38 = .ok (.getfield 32, 3) := by decide +kernel
theorem d_M_settle_41 : decode prog_5_method_10_code 41 = .ok (.iload_n 1, 1) := by decide +kernel
theorem d_M_settle_42 : decode prog_5_method_10_code 42 = .ok (.laload, 1) := by decide +kernel
theorem d_M_settle_43 : decode prog_5_method_10_code 43 = .ok (.lsub, 1) := by decide +kernel
theorem d_M_settle_44 : decode prog_5_method_10_code 44 = .ok (.lastore, 1) := by decide +kernel
theorem d_M_settle_45 : decode prog_5_method_10_code 45 = .ok (.aload_n 0, 1) := by decide +kernel
theorem d_M_settle_46 : decode prog_5_method_10_code 46 = .ok (.getfield 7, 3) := by decide +kernel
theorem d_M_settle_49 : decode prog_5_method_10_code 49 = .ok (.aload_n 0, 1) := by decide +kernel
theorem d_M_settle_50 : decode prog_5_method_10_code 50 = .ok (.getfield 29, 3) := by decide +kernel
theorem d_M_settle_53 : decode prog_5_method_10_code 53 = .ok (.iload_n 1, 1) := by decide +kernel
theorem d_M_settle_54 : decode prog_5_method_10_code 54 = .ok (.iaload, 1) := by decide +kernel
theorem d_M_settle_55 : decode prog_5_method_10_code 55 = .ok (.aload_n 0, 1) := by decide +kernel
theorem d_M_settle_56 : decode prog_5_method_10_code 56 = .ok (.getfield 7, 3) := by decide +kernel
theorem d_M_settle_59 : decode prog_5_method_10_code 59 = .ok (.aload_n 0, 1) := by decide +kernel
theorem d_M_settle_60 : decode prog_5_method_10_code 60 = .ok (.getfield 29, 3) := by decide +kernel
theorem d_M_settle_63 : decode prog_5_method_10_code 63 = .ok (.iload_n 1, 1) := by decide +kernel
theorem d_M_settle_64 : decode prog_5_method_10_code 64 = .ok (.iaload, 1) := by decide +kernel
theorem d_M_settle_65 : decode prog_5_method_10_code 65 = .ok (.laload, 1) := by decide +kernel
theorem d_M_settle_66 : decode prog_5_method_10_code 66 = .ok (.aload_n 0, 1) := by decide +kernel
theorem d_M_settle_67 : decode prog_5_method_10_code 67 = .ok (.getfield 32, 3) := by decide +kernel
theorem d_M_settle_70 : decode prog_5_method_10_code 70 = .ok (.iload_n 1, 1) := by decide +kernel
theorem d_M_settle_71 : decode prog_5_method_10_code 71 = .ok (.laload, 1) := by decide +kernel
theorem d_M_settle_72 : decode prog_5_method_10_code 72 = .ok (.ladd, 1) := by decide +kernel
theorem d_M_settle_73 : decode prog_5_method_10_code 73 = .ok (.lastore, 1) := by decide +kernel
theorem d_M_settle_74 : decode prog_5_method_10_code 74 = .ok (.aload_n 0, 1) := by decide +kernel
theorem d_M_settle_75 : decode prog_5_method_10_code 75 = .ok (.getfield 22, 3) := by decide +kernel
theorem d_M_settle_78 : decode prog_5_method_10_code 78 = .ok (.iload_n 3, 1) := by decide +kernel
theorem d_M_settle_79 : decode prog_5_method_10_code 79 = .ok (.aload_n 0, 1) := by decide +kernel
theorem d_M_settle_80 : decode prog_5_method_10_code 80 = .ok (.getfield 22, 3) := by decide +kernel
theorem d_M_settle_83 : decode prog_5_method_10_code 83 = .ok (.iload_n 3, 1) := by decide +kernel
theorem d_M_settle_84 : decode prog_5_method_10_code 84 = .ok (.laload, 1) := by decide +kernel
theorem d_M_settle_85 : decode prog_5_method_10_code 85 = .ok (.aload_n 0, 1) := by decide +kernel
theorem d_M_settle_86 : decode prog_5_method_10_code 86 = .ok (.getfield 32, 3) := by decide +kernel
theorem d_M_settle_89 : decode prog_5_method_10_code 89 = .ok (.iload_n 1, 1) := by decide +kernel
theorem d_M_settle_90 : decode prog_5_method_10_code 90 = .ok (.laload, 1) := by decide +kernel
theorem d_M_settle_91 : decode prog_5_method_10_code 91 = .ok (.ladd, 1) := by decide +kernel
theorem d_M_settle_92 : decode prog_5_method_10_code 92 = .ok (.lastore, 1) := by decide +kernel
theorem d_M_settle_93 : decode prog_5_method_10_code 93 = .ok (.aload_n 0, 1) := by decide +kernel
theorem d_M_settle_94 : decode prog_5_method_10_code 94 = .ok (.aload_n 0, 1) := by decide +kernel
theorem d_M_settle_95 : decode prog_5_method_10_code 95 = .ok (.getfield 86, 3) := by decide +kernel
theorem d_M_settle_98 : decode prog_5_method_10_code 98 = .ok (.aload_n 0, 1) := by decide +kernel
theorem d_M_settle_99 : decode prog_5_method_10_code 99 = .ok (.getfield 32, 3) := by decide +kernel
theorem d_M_settle_102 : decode prog_5_method_10_code 102 = .ok (.iload_n 1, 1) := by decide +kernel
theorem d_M_settle_103 : decode prog_5_method_10_code 103 = .ok (.laload, 1) := by decide +kernel
theorem d_M_settle_104 : decode prog_5_method_10_code 104 = .ok (.ladd, 1) := by decide +kernel
theorem d_M_settle_105 : decode prog_5_method_10_code 105 = .ok (.putfield 86, 3) := by decide +kernel
theorem d_M_settle_108 : decode prog_5_method_10_code 108 = .ok (.aload_n 0, 1) := by decide +kernel
theorem d_M_settle_109 : decode prog_5_method_10_code 109 = .ok (.getfield 44, 3) := by decide +kernel
theorem d_M_settle_112 : decode prog_5_method_10_code 112 = .ok (.iload_n 1, 1) := by decide +kernel
theorem d_M_settle_113 : decode prog_5_method_10_code 113 = .ok (.iload_n 2, 1) := by decide +kernel
theorem d_M_settle_114 : decode prog_5_method_10_code 114 = .ok (.iastore, 1) := by decide +kernel
theorem d_M_settle_115 : decode prog_5_method_10_code 115 = .ok (.return_, 1) := by decide +kernel
abbrev y_M_alone : MethodName := ⟨"GridlockDeskModel", "alone", "()Z"⟩
abbrev ws_M_alone : List Cond := .code y_M_alone prog_5_method_11_code 2 (some .boolean) :: TB
theorem d_M_alone_0 : decode prog_5_method_11_code 0 = .ok (.iconst 0, 1) := by decide +kernel
theorem d_M_alone_1 : decode prog_5_method_11_code 1 = .ok (.istore_n 1, 1) := by decide +kernel
theorem d_M_alone_2 : decode prog_5_method_11_code 2 = .ok (.iload_n 1, 1) := by decide +kernel
theorem d_M_alone_3 : decode prog_5_method_11_code 3 = .ok (.aload_n 0, 1) := by decide +kernel
theorem d_M_alone_4 : decode prog_5_method_11_code 4 = .ok (.getfield 62, 3) := by decide +kernel
theorem d_M_alone_7 : decode prog_5_method_11_code 7 = .ok (.if_icmp .ge 51, 3) := by decide +kernel
theorem d_M_alone_10 : decode prog_5_method_11_code 10 = .ok (.aload_n 0, 1) := by decide +kernel
theorem d_M_alone_11 : decode prog_5_method_11_code 11 = .ok (.getfield 50, 3) := by decide +kernel
theorem d_M_alone_14 : decode prog_5_method_11_code 14 = .ok (.iload_n 1, 1) := by decide +kernel
theorem d_M_alone_15 : decode prog_5_method_11_code 15 = .ok (.iaload, 1) := by decide +kernel
theorem d_M_alone_16 : decode prog_5_method_11_code 16 = .ok (.ifCond .le 36, 3) := by decide +kernel
theorem d_M_alone_19 : decode prog_5_method_11_code 19 = .ok (.aload_n 0, 1) := by decide +kernel
theorem d_M_alone_20 : decode prog_5_method_11_code 20 = .ok (.aload_n 0, 1) := by decide +kernel
theorem d_M_alone_21 : decode prog_5_method_11_code 21 = .ok (.getfield 47, 3) := by decide +kernel
theorem d_M_alone_24 : decode prog_5_method_11_code 24 = .ok (.bipush 6, 2) := by decide +kernel
theorem d_M_alone_26 : decode prog_5_method_11_code 26 = .ok (.iload_n 1, 1) := by decide +kernel
theorem d_M_alone_27 : decode prog_5_method_11_code 27 = .ok (.imul, 1) := by decide +kernel
theorem d_M_alone_28 : decode prog_5_method_11_code 28 = .ok (.iaload, 1) := by decide +kernel
theorem d_M_alone_29 : decode prog_5_method_11_code 29 = .ok (.iconst (-1), 1) := by decide +kernel
theorem d_M_alone_30 : decode prog_5_method_11_code 30 = .ok (.invokevirtual 90, 3) := by decide +kernel
theorem d_M_alone_33 : decode prog_5_method_11_code 33 = .ok (.ifCond .eq 19, 3) := by decide +kernel
theorem d_M_alone_36 : decode prog_5_method_11_code 36 = .ok (.aload_n 0, 1) := by decide +kernel
theorem d_M_alone_37 : decode prog_5_method_11_code 37 = .ok (.aload_n 0, 1) := by decide +kernel
theorem d_M_alone_38 : decode prog_5_method_11_code 38 = .ok (.getfield 47, 3) := by decide +kernel
theorem d_M_alone_41 : decode prog_5_method_11_code 41 = .ok (.bipush 6, 2) := by decide +kernel
theorem d_M_alone_43 : decode prog_5_method_11_code 43 = .ok (.iload_n 1, 1) := by decide +kernel
theorem d_M_alone_44 : decode prog_5_method_11_code 44 = .ok (.imul, 1) := by decide +kernel
theorem d_M_alone_45 : decode prog_5_method_11_code 45 = .ok (.iaload, 1) := by decide +kernel
theorem d_M_alone_46 : decode prog_5_method_11_code 46 = .ok (.iconst 1, 1) := by decide +kernel
theorem d_M_alone_47 : decode prog_5_method_11_code 47 = .ok (.invokevirtual 93, 3) := by decide +kernel
theorem d_M_alone_50 : decode prog_5_method_11_code 50 = .ok (.iconst 1, 1) := by decide +kernel
theorem d_M_alone_51 : decode prog_5_method_11_code 51 = .ok (.ireturn, 1) := by decide +kernel
theorem d_M_alone_52 : decode prog_5_method_11_code 52 = .ok (.iinc 1 1, 3) := by decide +kernel
theorem d_M_alone_55 : decode prog_5_method_11_code 55 = .ok (.goto (-53), 3) := by decide +kernel
theorem d_M_alone_58 : decode prog_5_method_11_code 58 = .ok (.iconst 0, 1) := by decide +kernel
theorem d_M_alone_59 : decode prog_5_method_11_code 59 = .ok (.ireturn, 1) := by decide +kernel
abbrev y_M_pair : MethodName := ⟨"GridlockDeskModel", "pair", "()Z"⟩
abbrev ws_M_pair : List Cond := .code y_M_pair prog_5_method_12_code 4 (some .boolean) :: TB
theorem d_M_pair_0 : decode prog_5_method_12_code 0 = .ok (.iconst 0, 1) := by decide +kernel
theorem d_M_pair_1 : decode prog_5_method_12_code 1 = .ok (.istore_n 1, 1) := by decide +kernel
theorem d_M_pair_2 : decode prog_5_method_12_code 2 = .ok (.iload_n 1, 1) := by decide +kernel
theorem d_M_pair_3 : decode prog_5_method_12_code 3 = .ok (.aload_n 0, 1) := by decide +kernel
theorem d_M_pair_4 : decode prog_5_method_12_code 4 = .ok (.getfield 62, 3) := by decide +kernel
theorem d_M_pair_7 : decode prog_5_method_12_code 7 = .ok (.if_icmp .ge 146, 3) := by decide +kernel
theorem d_M_pair_10 : decode prog_5_method_12_code 10 = .ok (.iload_n 1, 1) := by decide +kernel
theorem d_M_pair_11 : decode prog_5_method_12_code 11 = .ok (.iconst 1, 1) := by decide +kernel
theorem d_M_pair_12 : decode prog_5_method_12_code 12 = .ok (.iadd, 1) := by decide +kernel
theorem d_M_pair_13 : decode prog_5_method_12_code 13 = .ok (.istore_n 2, 1) := by decide +kernel
theorem d_M_pair_14 : decode prog_5_method_12_code 14 = .ok (.iload_n 2, 1) := by decide +kernel
theorem d_M_pair_15 : decode prog_5_method_12_code 15 = .ok (.aload_n 0, 1) := by decide +kernel
theorem d_M_pair_16 : decode prog_5_method_12_code 16 = .ok (.getfield 62, 3) := by decide +kernel
theorem d_M_pair_19 : decode prog_5_method_12_code 19 = .ok (.if_icmp .ge 128, 3) := by decide +kernel
theorem d_M_pair_22 : decode prog_5_method_12_code 22 = .ok (.aload_n 0, 1) := by decide +kernel
theorem d_M_pair_23 : decode prog_5_method_12_code 23 = .ok (.getfield 50, 3) := by decide +kernel
theorem d_M_pair_26 : decode prog_5_method_12_code 26 = .ok (.iload_n 1, 1) := by decide +kernel
theorem d_M_pair_27 : decode prog_5_method_12_code 27 = .ok (.iaload, 1) := by decide +kernel
theorem d_M_pair_28 : decode prog_5_method_12_code 28 = .ok (.ifCond .le 52, 3) := by decide +kernel
theorem d_M_pair_31 : decode prog_5_method_12_code 31 = .ok (.aload_n 0, 1) := by decide +kernel
theorem d_M_pair_32 : decode prog_5_method_12_code 32 = .ok (.getfield 50, 3) := by decide +kernel
theorem d_M_pair_35 : decode prog_5_method_12_code 35 = .ok (.iload_n 2, 1) := by decide +kernel
theorem d_M_pair_36 : decode prog_5_method_12_code 36 = .ok (.iaload, 1) := by decide +kernel
theorem d_M_pair_37 : decode prog_5_method_12_code 37 = .ok (.ifCond .le 43, 3) := by decide +kernel
theorem d_M_pair_40 : decode prog_5_method_12_code 40 = .ok (.aload_n 0, 1) := by decide +kernel
theorem d_M_pair_41 : decode prog_5_method_12_code 41 = .ok (.getfield 29, 3) := by decide +kernel
theorem d_M_pair_44 : decode prog_5_method_12_code 44 = .ok (.aload_n 0, 1) := by decide +kernel
theorem d_M_pair_45 : decode prog_5_method_12_code 45 = .ok (.getfield 47, 3) := by decide +kernel
theorem d_M_pair_48 : decode prog_5_method_12_code 48 = .ok (.bipush 6, 2) := by decide +kernel
theorem d_M_pair_50 : decode prog_5_method_12_code 50 = .ok (.iload_n 1, 1) := by decide +kernel
theorem d_M_pair_51 : decode prog_5_method_12_code 51 = .ok (.imul, 1) := by decide +kernel
theorem d_M_pair_52 : decode prog_5_method_12_code 52 = .ok (.iaload, 1) := by decide +kernel
theorem d_M_pair_53 : decode prog_5_method_12_code 53 = .ok (.iaload, 1) := by decide +kernel
theorem d_M_pair_54 : decode prog_5_method_12_code 54 = .ok (.iload_n 2, 1) := by decide +kernel
theorem d_M_pair_55 : decode prog_5_method_12_code 55 = .ok (.if_icmp .ne 25, 3) := by decide +kernel
theorem d_M_pair_58 : decode prog_5_method_12_code 58 = .ok (.aload_n 0, 1) := by decide +kernel
theorem d_M_pair_59 : decode prog_5_method_12_code 59 = .ok (.getfield 29, 3) := by decide +kernel
theorem d_M_pair_62 : decode prog_5_method_12_code 62 = .ok (.aload_n 0, 1) := by decide +kernel
theorem d_M_pair_63 : decode prog_5_method_12_code 63 = .ok (.getfield 47, 3) := by decide +kernel
theorem d_M_pair_66 : decode prog_5_method_12_code 66 = .ok (.bipush 6, 2) := by decide +kernel
theorem d_M_pair_68 : decode prog_5_method_12_code 68 = .ok (.iload_n 2, 1) := by decide +kernel
theorem d_M_pair_69 : decode prog_5_method_12_code 69 = .ok (.imul, 1) := by decide +kernel
theorem d_M_pair_70 : decode prog_5_method_12_code 70 = .ok (.iaload, 1) := by decide +kernel
theorem d_M_pair_71 : decode prog_5_method_12_code 71 = .ok (.iaload, 1) := by decide +kernel
theorem d_M_pair_72 : decode prog_5_method_12_code 72 = .ok (.iload_n 1, 1) := by decide +kernel
theorem d_M_pair_73 : decode prog_5_method_12_code 73 = .ok (.if_icmp .ne 7, 3) := by decide +kernel
theorem d_M_pair_76 : decode prog_5_method_12_code 76 = .ok (.iconst 1, 1) := by decide +kernel
theorem d_M_pair_77 : decode prog_5_method_12_code 77 = .ok (.goto 4, 3) := by decide +kernel
theorem d_M_pair_80 : decode prog_5_method_12_code 80 = .ok (.iconst 0, 1) := by decide +kernel
theorem d_M_pair_81 : decode prog_5_method_12_code 81 = .ok (.istore_n 3, 1) := by decide +kernel
theorem d_M_pair_82 : decode prog_5_method_12_code 82 = .ok (.iload_n 3, 1) := by decide +kernel
theorem d_M_pair_83 : decode prog_5_method_12_code 83 = .ok (.ifCond .eq 58, 3) := by decide +kernel
theorem d_M_pair_86 : decode prog_5_method_12_code 86 = .ok (.aload_n 0, 1) := by decide +kernel
theorem d_M_pair_87 : decode prog_5_method_12_code 87 = .ok (.aload_n 0, 1) := by decide +kernel
theorem d_M_pair_88 : decode prog_5_method_12_code 88 = .ok (.getfield 47, 3) := by decide +kernel
theorem d_M_pair_91 : decode prog_5_method_12_code 91 = .ok (.bipush 6, 2) := by decide +kernel
theorem d_M_pair_93 : decode prog_5_method_12_code 93 = .ok (.iload_n 1, 1) := by decide +kernel
theorem d_M_pair_94 : decode prog_5_method_12_code 94 = .ok (.imul, 1) := by decide +kernel
theorem d_M_pair_95 : decode prog_5_method_12_code 95 = .ok (.iaload, 1) := by decide +kernel
theorem d_M_pair_96 : decode prog_5_method_12_code 96 = .ok (.aload_n 0, 1) := by decide +kernel
theorem d_M_pair_97 : decode prog_5_method_12_code 97 = .ok (.getfield 47, 3) := by decide +kernel
theorem d_M_pair_100 : decode prog_5_method_12_code 100 = .ok (.bipush 6, 2) := by decide +kernel
theorem d_M_pair_102 : decode prog_5_method_12_code 102 = .ok (.iload_n 2, 1) := by decide +kernel
theorem d_M_pair_103 : decode prog_5_method_12_code 103 = .ok (.imul, 1) := by decide +kernel
theorem d_M_pair_104 : decode prog_5_method_12_code 104 = .ok (.iaload, 1) := by decide +kernel
theorem d_M_pair_105 : decode prog_5_method_12_code 105 = .ok (.invokevirtual 90, 3) := by decide +kernel
theorem d_M_pair_108 : decode prog_5_method_12_code 108 = .ok (.ifCond .eq 33, 3) := by decide +kernel
theorem d_M_pair_111 : decode prog_5_method_12_code 111 = .ok (.aload_n 0, 1) := by decide +kernel
theorem d_M_pair_112 : decode prog_5_method_12_code 112 = .ok (.aload_n 0, 1) := by decide +kernel
theorem d_M_pair_113 : decode prog_5_method_12_code 113 = .ok (.getfield 47, 3) := by decide +kernel
theorem d_M_pair_116 : decode prog_5_method_12_code 116 = .ok (.bipush 6, 2) := by decide +kernel
theorem d_M_pair_118 : decode prog_5_method_12_code 118 = .ok (.iload_n 1, 1) := by decide +kernel
theorem d_M_pair_119 : decode prog_5_method_12_code 119 = .ok (.imul, 1) := by decide +kernel
theorem d_M_pair_120 : decode prog_5_method_12_code 120 = .ok (.iaload, 1) := by decide +kernel
theorem d_M_pair_121 : decode prog_5_method_12_code 121 = .ok (.iconst 2, 1) := by decide +kernel
theorem d_M_pair_122 : decode prog_5_method_12_code 122 = .ok (.invokevirtual 93, 3) := by decide +kernel
theorem d_M_pair_125 : decode prog_5_method_12_code 125 = .ok (.aload_n 0, 1) := by decide +kernel
theorem d_M_pair_126 : decode prog_5_method_12_code 126 = .ok (.aload_n 0, 1) := by decide +kernel
theorem d_M_pair_127 : decode prog_5_method_12_code 127 = .ok (.getfield 47, 3) := by decide +kernel
theorem d_M_pair_130 : decode prog_5_method_12_code 130 = .ok (.bipush 6, 2) := by decide +kernel
theorem d_M_pair_132 : decode prog_5_method_12_code 132 = .ok (.iload_n 2, 1) := by decide +kernel
theorem d_M_pair_133 : decode prog_5_method_12_code 133 = .ok (.imul, 1) := by decide +kernel
theorem d_M_pair_134 : decode prog_5_method_12_code 134 = .ok (.iaload, 1) := by decide +kernel
theorem d_M_pair_135 : decode prog_5_method_12_code 135 = .ok (.iconst 2, 1) := by decide +kernel
theorem d_M_pair_136 : decode prog_5_method_12_code 136 = .ok (.invokevirtual 93, 3) := by decide +kernel
theorem d_M_pair_139 : decode prog_5_method_12_code 139 = .ok (.iconst 1, 1) := by decide +kernel
theorem d_M_pair_140 : decode prog_5_method_12_code 140 = .ok (.ireturn, 1) := by decide +kernel
theorem d_M_pair_141 : decode prog_5_method_12_code 141 = .ok (.iinc 2 1, 3) := by decide +kernel
theorem d_M_pair_144 : decode prog_5_method_12_code 144 = .ok (.goto (-130), 3) := by decide +kernel
theorem d_M_pair_147 : decode prog_5_method_12_code 147 = .ok (.iinc 1 1, 3) := by decide +kernel
theorem d_M_pair_150 : decode prog_5_method_12_code 150 = .ok (.goto (-148), 3) := by decide +kernel
theorem d_M_pair_153 : decode prog_5_method_12_code 153 = .ok (.iconst 0, 1) := by decide +kernel
theorem d_M_pair_154 : decode prog_5_method_12_code 154 = .ok (.ireturn, 1) := by decide +kernel
abbrev y_M_sweep : MethodName := ⟨"GridlockDeskModel", "sweep", "()V"⟩
abbrev ws_M_sweep : List Cond := .code y_M_sweep prog_5_method_13_code 3 none :: TB
theorem d_M_sweep_0 : decode prog_5_method_13_code 0 = .ok (.iconst 1, 1) := by decide +kernel
theorem d_M_sweep_1 : decode prog_5_method_13_code 1 = .ok (.istore_n 1, 1) := by decide +kernel
theorem d_M_sweep_2 : decode prog_5_method_13_code 2 = .ok (.iconst 0, 1) := by decide +kernel
theorem d_M_sweep_3 : decode prog_5_method_13_code 3 = .ok (.istore_n 2, 1) := by decide +kernel
theorem d_M_sweep_4 : decode prog_5_method_13_code 4 = .ok (.iload_n 2, 1) := by decide +kernel
theorem d_M_sweep_5 : decode prog_5_method_13_code 5 = .ok (.sipush 200, 3) := by decide +kernel
theorem d_M_sweep_8 : decode prog_5_method_13_code 8 = .ok (.if_icmp .ge 37, 3) := by decide +kernel
theorem d_M_sweep_11 : decode prog_5_method_13_code 11 = .ok (.iload_n 1, 1) := by decide +kernel
theorem d_M_sweep_12 : decode prog_5_method_13_code 12 = .ok (.ifCond .eq 33, 3) := by decide +kernel
theorem d_M_sweep_15 : decode prog_5_method_13_code 15 = .ok (.aload_n 0, 1) := by decide +kernel
theorem d_M_sweep_16 : decode prog_5_method_13_code 16 = .ok (.invokevirtual 97, 3) := by decide +kernel
theorem d_M_sweep_19 : decode prog_5_method_13_code 19 = .ok (.aload_n 0, 1) := by decide +kernel
theorem d_M_sweep_20 : decode prog_5_method_13_code 20 = .ok (.invokevirtual 100, 3) := by decide +kernel
theorem d_M_sweep_23 : decode prog_5_method_13_code 23 = .ok (.ifCond .ne 10, 3) := by decide +kernel
theorem d_M_sweep_26 : decode prog_5_method_13_code 26 = .ok (.aload_n 0, 1) := by decide +kernel
theorem d_M_sweep_27 : decode prog_5_method_13_code 27 = .ok (.invokevirtual 103, 3) := by decide +kernel
theorem d_M_sweep_30 : decode prog_5_method_13_code 30 = .ok (.ifCond .eq 7, 3) := by decide +kernel
theorem d_M_sweep_33 : decode prog_5_method_13_code 33 = .ok (.iconst 1, 1) := by decide +kernel
theorem d_M_sweep_34 : decode prog_5_method_13_code 34 = .ok (.goto 4, 3) := by decide +kernel
theorem d_M_sweep_37 : decode prog_5_method_13_code 37 = .ok (.iconst 0, 1) := by decide +kernel
theorem d_M_sweep_38 : decode prog_5_method_13_code 38 = .ok (.istore_n 1, 1) := by decide +kernel
theorem d_M_sweep_39 : decode prog_5_method_13_code 39 = .ok (.iinc 2 1, 3) := by decide +kernel
theorem d_M_sweep_42 : decode prog_5_method_13_code 42 = .ok (.goto (-38), 3) := by decide +kernel
theorem d_M_sweep_45 : decode prog_5_method_13_code 45 = .ok (.return_, 1) := by decide +kernel
abbrev y_M_digit : MethodName := ⟨"GridlockDeskModel", "digit", "(II)I"⟩
abbrev ws_M_digit : List Cond := .code y_M_digit prog_5_method_14_code 4 (some .int) :: TB
theorem d_M_digit_0 : decode prog_5_method_14_code 0 = .ok (.iload_n 0, 1) := by decide +kernel
theorem d_M_digit_1 : decode prog_5_method_14_code 1 = .ok (.istore_n 2, 1) := by decide +kernel
theorem d_M_digit_2 : decode prog_5_method_14_code 2 = .ok (.iconst 0, 1) := by decide +kernel
theorem d_M_digit_3 : decode prog_5_method_14_code 3 = .ok (.istore_n 3, 1) := by decide +kernel
theorem d_M_digit_4 : decode prog_5_method_14_code 4 = .ok (.iload_n 3, 1) := by decide +kernel
theorem d_M_digit_5 : decode prog_5_method_14_code 5 = .ok (.iload_n 1, 1) := by decide +kernel
theorem d_M_digit_6 : decode prog_5_method_14_code 6 = .ok (.if_icmp .ge 14, 3) := by decide +kernel
theorem d_M_digit_9 : decode prog_5_method_14_code 9 = .ok (.iload_n 2, 1) := by decide +kernel
theorem d_M_digit_10 : decode prog_5_method_14_code 10 = .ok (.bipush 7, 2) := by decide +kernel
theorem d_M_digit_12 : decode prog_5_method_14_code 12 = .ok (.idiv, 1) := by decide +kernel
theorem d_M_digit_13 : decode prog_5_method_14_code 13 = .ok (.istore_n 2, 1) := by decide +kernel
theorem d_M_digit_14 : decode prog_5_method_14_code 14 = .ok (.iinc 3 1, 3) := by decide +kernel
theorem d_M_digit_17 : decode prog_5_method_14_code 17 = .ok (.goto (-13), 3) := by decide +kernel
theorem d_M_digit_20 : decode prog_5_method_14_code 20 = .ok (.iload_n 2, 1) := by decide +kernel
theorem d_M_digit_21 : decode prog_5_method_14_code 21 = .ok (.bipush 7, 2) := by decide +kernel
theorem d_M_digit_23 : decode prog_5_method_14_code 23 = .ok (.irem, 1) := by decide +kernel
theorem d_M_digit_24 : decode prog_5_method_14_code 24 = .ok (.ireturn, 1) := by decide +kernel
abbrev y_M_good : MethodName := ⟨"GridlockDeskModel", "good", "(I)Z"⟩
abbrev ws_M_good : List Cond := .code y_M_good prog_5_method_15_code 5 (some .boolean) :: TB
theorem d_M_good_0 : decode prog_5_method_15_code 0 = .ok (.aload_n 0, 1) := by decide +kernel
theorem d_M_good_1 : decode prog_5_method_15_code 1 = .ok (.invokevirtual 75, 3) := by decide +kernel
theorem d_M_good_4 : decode prog_5_method_15_code 4 = .ok (.iconst 0, 1) := by decide +kernel
theorem d_M_good_5 : decode prog_5_method_15_code 5 = .ok (.istore_n 2, 1) := by decide +kernel
theorem d_M_good_6 : decode prog_5_method_15_code 6 = .ok (.iload_n 2, 1) := by decide +kernel
theorem d_M_good_7 : decode prog_5_method_15_code 7 = .ok (.iconst 4, 1) := by decide +kernel
theorem d_M_good_8 : decode prog_5_method_15_code 8 = .ok (.if_icmp .ge 58, 3) := by decide +kernel
theorem d_M_good_11 : decode prog_5_method_15_code 11 = .ok (.iload_n 1, 1) := by decide +kernel
theorem d_M_good_12 : decode prog_5_method_15_code 12 = .ok (.iload_n 2, 1) := by decide +kernel
theorem d_M_good_13 : decode prog_5_method_15_code 13 = .ok (.invokestatic 106, 3) := by decide +kernel
theorem d_M_good_16 : decode prog_5_method_15_code 16 = .ok (.istore_n 3, 1) := by decide +kernel
theorem d_M_good_17 : decode prog_5_method_15_code 17 = .ok (.iload_n 3, 1) := by decide +kernel
theorem d_M_good_18 : decode prog_5_method_15_code 18 = .ok (.aload_n 0, 1) := by decide +kernel
theorem d_M_good_19 : decode prog_5_method_15_code 19 = .ok (.getfield 50, 3) := by decide +kernel
theorem d_M_good_22 : decode prog_5_method_15_code 22 = .ok (.iload_n 2, 1) := by decide +kernel
theorem d_M_good_23 : decode prog_5_method_15_code 23 = .ok (.iaload, 1) := by decide +kernel
theorem d_M_good_24 : decode prog_5_method_15_code 24 = .ok (.if_icmp .le 5, 3) := by decide +kernel
theorem d_M_good_27 : decode prog_5_method_15_code 27 = .ok (.iconst 0, 1) := by decide +kernel
theorem d_M_good_28 : decode prog_5_method_15_code 28 = .ok (.ireturn, 1) := by decide +kernel
theorem d_M_good_29 : decode prog_5_method_15_code 29 = .ok (.iconst 0, 1) := by decide +kernel
theorem d_M_good_30 : decode prog_5_method_15_code 30 = .ok (.istore 4, 2) := by decide +kernel
theorem d_M_good_32 : decode prog_5_method_15_code 32 = .ok (.iload 4, 2) := by decide +kernel
theorem d_M_good_34 : decode prog_5_method_15_code 34 = .ok (.iload_n 3, 1) := by decide +kernel
theorem d_M_good_35 : decode prog_5_method_15_code 35 = .ok (.if_icmp .ge 25, 3) := by decide +kernel
theorem d_M_good_38 : decode prog_5_method_15_code 38 = .ok (.aload_n 0, 1) := by decide +kernel
theorem d_M_good_39 : decode prog_5_method_15_code 39 = .ok (.aload_n 0, 1) := by decide +kernel
theorem d_M_good_40 : decode prog_5_method_15_code 40 = .ok (.getfield 47, 3) := by decide +kernel
theorem d_M_good_43 : decode prog_5_method_15_code 43 = .ok (.bipush 6, 2) := by decide +kernel
theorem d_M_good_45 : decode prog_5_method_15_code 45 = .ok (.iload_n 2, 1) := by decide +kernel
theorem d_M_good_46 : decode prog_5_method_15_code 46 = .ok (.imul, 1) := by decide +kernel
theorem d_M_good_47 : decode prog_5_method_15_code 47 = .ok (.iload 4, 2) := by decide +kernel
theorem d_M_good_49 : decode prog_5_method_15_code 49 = .ok (.iadd, 1) := by decide +kernel
theorem d_M_good_50 : decode prog_5_method_15_code 50 = .ok (.iaload, 1) := by decide +kernel
theorem d_M_good_51 : decode prog_5_method_15_code 51 = .ok (.invokevirtual 78, 3) := by decide +kernel
theorem d_M_good_54 : decode prog_5_method_15_code 54 = .ok (.iinc 4 1, 3) := by decide +kernel
theorem d_M_good_57 : decode prog_5_method_15_code 57 = .ok (.goto (-25), 3) := by decide +kernel
theorem d_M_good_60 : decode prog_5_method_15_code 60 = .ok (.iinc 2 1, 3) := by decide +kernel
theorem d_M_good_63 : decode prog_5_method_15_code 63 = .ok (.goto (-57), 3) := by decide +kernel
theorem d_M_good_66 : decode prog_5_method_15_code 66 = .ok (.aload_n 0, 1) := by decide +kernel
theorem d_M_good_67 : decode prog_5_method_15_code 67 = .ok (.invokevirtual 82, 3) := by decide +kernel
theorem d_M_good_70 : decode prog_5_method_15_code 70 = .ok (.ireturn, 1) := by decide +kernel
abbrev y_M_resolve : MethodName := ⟨"GridlockDeskModel", "resolve", "()I"⟩
abbrev ws_M_resolve : List Cond := .code y_M_resolve prog_5_method_16_code 4 (some .int) :: TB
theorem d_M_resolve_0 : decode prog_5_method_16_code 0 = .ok (.aload_n 0, 1) := by decide +kernel
theorem d_M_resolve_1 : decode prog_5_method_16_code 1 = .ok (.invokevirtual 97, 3) := by decide +kernel
theorem d_M_resolve_4 : decode prog_5_method_16_code 4 = .ok (.iconst 0, 1) := by decide +kernel
theorem d_M_resolve_5 : decode prog_5_method_16_code 5 = .ok (.istore_n 1, 1) := by decide +kernel
theorem d_M_resolve_6 : decode prog_5_method_16_code 6 = .ok (.iload_n 1, 1) := by decide +kernel
theorem d_M_resolve_7 : decode prog_5_method_16_code 7 = .ok (.iconst 4, 1) := by decide +kernel
theorem d_M_resolve_8 : decode prog_5_method_16_code 8 = .ok (.if_icmp .ge 16, 3) := by decide +kernel
theorem d_M_resolve_11 : decode prog_5_method_16_code 11 = .ok (.aload_n 0, 1) := by decide +kernel
theorem d_M_resolve_12 : decode prog_5_method_16_code 12 = .ok (.getfield 59, 3) := by decide +kernel
theorem d_M_resolve_15 : decode prog_5_method_16_code 15 = .ok (.iload_n 1, 1) := by decide +kernel
theorem d_M_resolve_16 : decode prog_5_method_16_code 16 = .ok (.iconst 0, 1) := by decide +kernel
theorem d_M_resolve_17 : decode prog_5_method_16_code 17 = .ok (.iastore, 1) := by decide +kernel
theorem d_M_resolve_18 : decode prog_5_method_16_code 18 = .ok (.iinc 1 1, 3) := by decide +kernel
theorem d_M_resolve_21 : decode prog_5_method_16_code 21 = .ok (.goto (-15), 3) := by decide +kernel
theorem d_M_resolve_24 : decode prog_5_method_16_code 24 = .ok (.iconst 0, 1) := by decide +kernel
theorem d_M_resolve_25 : decode prog_5_method_16_code 25 = .ok (.istore_n 1, 1) := by decide +kernel
theorem d_M_resolve_26 : decode prog_5_method_16_code 26 = .ok (.iload_n 1, 1) := by decide +kernel
theorem d_M_resolve_27 : decode prog_5_method_16_code 27 = .ok (.sipush 2401, 3) := by decide +kernel
theorem d_M_resolve_30 : decode prog_5_method_16_code 30 = .ok (.if_icmp .ge 62, 3) := by decide +kernel
theorem d_M_resolve_33 : decode prog_5_method_16_code 33 = .ok (.aload_n 0, 1) := by decide +kernel
theorem d_M_resolve_34 : decode prog_5_method_16_code 34 = .ok (.iload_n 1, 1) := by decide +kernel
theorem d_M_resolve_35 : decode prog_5_method_16_code 35 = .ok (.invokevirtual 110, 3) := by decide +kernel
theorem d_M_resolve_38 : decode prog_5_method_16_code 38 = .ok (.ifCond .eq 48, 3) := by decide +kernel
theorem d_M_resolve_41 : decode prog_5_method_16_code 41 = .ok (.iconst 0, 1) := by decide +kernel
theorem d_M_resolve_42 : decode prog_5_method_16_code 42 = .ok (.istore_n 2, 1) := by decide +kernel
theorem d_M_resolve_43 : decode prog_5_method_16_code 43 = .ok (.iload_n 2, 1) := by decide +kernel
theorem d_M_resolve_44 : decode prog_5_method_16_code 44 = .ok (.iconst 4, 1) := by decide +kernel
theorem d_M_resolve_45 : decode prog_5_method_16_code 45 = .ok (.if_icmp .ge 41, 3) := by decide +kernel
theorem d_M_resolve_48 : decode prog_5_method_16_code 48 = .ok (.iload_n 1, 1) := by decide +kernel
theorem d_M_resolve_49 : decode prog_5_method_16_code 49 = .ok (.iload_n 2, 1) := by decide +kernel
theorem d_M_resolve_50 : decode prog_5_method_16_code 50 = .ok (.invokestatic 106, 3) := by decide +kernel
theorem d_M_resolve_53 : decode prog_5_method_16_code 53 = .ok (.istore_n 3, 1) := by decide +kernel
theorem d_M_resolve_54 : decode prog_5_method_16_code 54 = .ok (.aload_n 0, 1) := by decide +kernel
theorem d_M_resolve_55 : decode prog_5_method_16_code 55 = .ok (.getfield 59, 3) := by decide +kernel
theorem d_M_resolve_58 : decode prog_5_method_16_code 58 = .ok (.iload_n 2, 1) := by decide +kernel
theorem d_M_resolve_59 : decode prog_5_method_16_code 59 = .ok (.iload_n 3, 1) := by decide +kernel
theorem d_M_resolve_60 : decode prog_5_method_16_code 60 = .ok (.aload_n 0, 1) := by decide +kernel
theorem d_M_resolve_61 : decode prog_5_method_16_code 61 = .ok (.getfield 59, 3) := by decide +kernel
theorem d_M_resolve_64 : decode prog_5_method_16_code 64 = .ok (.iload_n 2, 1) := by decide +kernel
theorem d_M_resolve_65 : decode prog_5_method_16_code 65 = .ok (.iaload, 1) := by decide +kernel
theorem d_M_resolve_66 : decode prog_5_method_16_code 66 = .ok (.if_icmp .le 7, 3) := by decide +kernel
theorem d_M_resolve_69 : decode prog_5_method_16_code 69 = .ok (.iload_n 3, 1) := by decide +kernel
theorem d_M_resolve_70 : decode prog_5_method_16_code 70 = .ok (.goto 9, 3) := by decide +kernel
theorem d_M_resolve_73 : decode prog_5_method_16_code 73 = .ok (.aload_n 0, 1) := by decide +kernel
theorem d_M_resolve_74 : decode prog_5_method_16_code 74 = .ok (.getfield 59, 3) := by decide +kernel
theorem d_M_resolve_77 : decode prog_5_method_16_code 77 = .ok (.iload_n 2, 1) := by decide +kernel
theorem d_M_resolve_78 : decode prog_5_method_16_code 78 = .ok (.iaload, 1) := by decide +kernel
theorem d_M_resolve_79 : decode prog_5_method_16_code 79 = .ok (.iastore, 1) := by decide +kernel
theorem d_M_resolve_80 : decode prog_5_method_16_code 80 = .ok (.iinc 2 1, 3) := by decide +kernel
theorem d_M_resolve_83 : decode prog_5_method_16_code 83 = .ok (.goto (-40), 3) := by decide +kernel
theorem d_M_resolve_86 : decode prog_5_method_16_code 86 = .ok (.iinc 1 1, 3) := by decide +kernel
theorem d_M_resolve_89 : decode prog_5_method_16_code 89 = .ok (.goto (-63), 3) := by decide +kernel
theorem d_M_resolve_92 : decode prog_5_method_16_code 92 = .ok (.iconst 0, 1) := by decide +kernel
theorem d_M_resolve_93 : decode prog_5_method_16_code 93 = .ok (.istore_n 1, 1) := by decide +kernel
theorem d_M_resolve_94 : decode prog_5_method_16_code 94 = .ok (.iconst 0, 1) := by decide +kernel
theorem d_M_resolve_95 : decode prog_5_method_16_code 95 = .ok (.istore_n 2, 1) := by decide +kernel
theorem d_M_resolve_96 : decode prog_5_method_16_code 96 = .ok (.iload_n 2, 1) := by decide +kernel
theorem d_M_resolve_97 : decode prog_5_method_16_code 97 = .ok (.iconst 4, 1) := by decide +kernel
theorem d_M_resolve_98 : decode prog_5_method_16_code 98 = .ok (.if_icmp .ge 46, 3) := by decide +kernel
theorem d_M_resolve_101 : decode prog_5_method_16_code 101 = .ok (.iconst 0, 1) := by decide +kernel
theorem d_M_resolve_102 : decode prog_5_method_16_code 102 = .ok (.istore_n 3, 1) := by decide +kernel
theorem d_M_resolve_103 : decode prog_5_method_16_code 103 = .ok (.iload_n 3, 1) := by decide +kernel
theorem d_M_resolve_104 : decode prog_5_method_16_code 104 = .ok (.aload_n 0, 1) := by decide +kernel
theorem d_M_resolve_105 : decode prog_5_method_16_code 105 = .ok (.getfield 59, 3) := by decide +kernel
theorem d_M_resolve_108 : decode prog_5_method_16_code 108 = .ok (.iload_n 2, 1) := by decide +kernel
theorem d_M_resolve_109 : decode prog_5_method_16_code 109 = .ok (.iaload, 1) := by decide +kernel
theorem d_M_resolve_110 : decode prog_5_method_16_code 110 = .ok (.if_icmp .ge 28, 3) := by decide +kernel
theorem d_M_resolve_113 : decode prog_5_method_16_code 113 = .ok (.aload_n 0, 1) := by decide +kernel
theorem d_M_resolve_114 : decode prog_5_method_16_code 114 = .ok (.aload_n 0, 1) := by decide +kernel
theorem d_M_resolve_115 : decode prog_5_method_16_code 115 = .ok (.getfield 47, 3) := by decide +kernel
theorem d_M_resolve_118 : decode prog_5_method_16_code 118 = .ok (.bipush 6, 2) := by decide +kernel
theorem d_M_resolve_120 : decode prog_5_method_16_code 120 = .ok (.iload_n 2, 1) := by decide +kernel
theorem d_M_resolve_121 : decode prog_5_method_16_code 121 = .ok (.imul, 1) := by decide +kernel
theorem d_M_resolve_122 : decode prog_5_method_16_code 122 = .ok (.iload_n 3, 1) := by decide +kernel
theorem d_M_resolve_123 : decode prog_5_method_16_code 123 = .ok (.iadd, 1) := by decide +kernel
theorem d_M_resolve_124 : decode prog_5_method_16_code 124 = .ok (.iaload, 1) := by decide +kernel
theorem d_M_resolve_125 : decode prog_5_method_16_code 125 = .ok (.iconst 3, 1) := by decide +kernel
theorem d_M_resolve_126 : decode prog_5_method_16_code 126 = .ok (.invokevirtual 93, 3) := by decide +kernel
theorem d_M_resolve_129 : decode prog_5_method_16_code 129 = .ok (.iinc 1 1, 3) := by decide +kernel
theorem d_M_resolve_132 : decode prog_5_method_16_code 132 = .ok (.iinc 3 1, 3) := by decide +kernel
theorem d_M_resolve_135 : decode prog_5_method_16_code 135 = .ok (.goto (-32), 3) := by decide +kernel
theorem d_M_resolve_138 : decode prog_5_method_16_code 138 = .ok (.iinc 2 1, 3) := by decide +kernel
theorem d_M_resolve_141 : decode prog_5_method_16_code 141 = .ok (.goto (-45), 3) := by decide +kernel
theorem d_M_resolve_144 : decode prog_5_method_16_code 144 = .ok (.aload_n 0, 1) := by decide +kernel
theorem d_M_resolve_145 : decode prog_5_method_16_code 145 = .ok (.invokevirtual 114, 3) := by decide +kernel
theorem d_M_resolve_148 : decode prog_5_method_16_code 148 = .ok (.iload_n 1, 1) := by decide +kernel
theorem d_M_resolve_149 : decode prog_5_method_16_code 149 = .ok (.ireturn, 1) := by decide +kernel
abbrev y_M_fund : MethodName := ⟨"GridlockDeskModel", "fund", "(IJ)Z"⟩
abbrev ws_M_fund : List Cond := .code y_M_fund prog_5_method_17_code 4 (some .boolean) :: TB
theorem d_M_fund_0 : decode prog_5_method_17_code 0 = .ok (.aload_n 0, 1) := by decide +kernel
theorem d_M_fund_1 : decode prog_5_method_17_code 1 = .ok (.iload_n 1, 1) := by decide +kernel
theorem d_M_fund_2 : decode prog_5_method_17_code 2 = .ok (.invokevirtual 117, 3) := by decide +kernel
theorem d_M_fund_5 : decode prog_5_method_17_code 5 = .ok (.ifCond .eq 38, 3) := by decide +kernel
theorem d_M_fund_8 : decode prog_5_method_17_code 8 = .ok (.lload_n 2, 1) := by decide +kernel
theorem d_M_fund_9 : decode prog_5_method_17_code 9 = .ok (.ldc2_w 120, 3) := by decide +kernel
theorem d_M_fund_12 : decode prog_5_method_17_code 12 = .ok (.lcmp, 1) := by decide +kernel
theorem d_M_fund_13 : decode prog_5_method_17_code 13 = .ok (.ifCond .lt 30, 3) := by decide +kernel
theorem d_M_fund_16 : decode prog_5_method_17_code 16 = .ok (.lload_n 2, 1) := by decide +kernel
theorem d_M_fund_17 : decode prog_5_method_17_code 17 = .ok (.ldc2_w 122, 3) := by decide +kernel
theorem d_M_fund_20 : decode prog_5_method_17_code 20 = .ok (.lcmp, 1) := by decide +kernel
theorem d_M_fund_21 : decode prog_5_method_17_code 21 = .ok (.ifCond .gt 22, 3) := by decide +kernel
theorem d_M_fund_24 : decode prog_5_method_17_code 24 = .ok (.aload_n 0, 1) := by decide +kernel
theorem d_M_fund_25 : decode prog_5_method_17_code 25 = .ok (.getfield 7, 3) := by decide +kernel
theorem d_M_fund_28 : decode prog_5_method_17_code 28 = .ok (.iload_n 1, 1) := by decide +kernel
theorem d_M_fund_29 : decode prog_5_method_17_code 29 = .ok (.laload, 1) := by decide +kernel
theorem d_M_fund_30 : decode prog_5_method_17_code 30 = .ok (.lload_n 2, 1) := by decide +kernel
theorem d_M_fund_31 : decode prog_5_method_17_code 31 = .ok (.ladd, 1) := by decide +kernel
theorem d_M_fund_32 : decode prog_5_method_17_code 32 = .ok (.aload_n 0, 1) := by decide +kernel
theorem d_M_fund_33 : decode prog_5_method_17_code 33 = .ok (.getfield 13, 3) := by decide +kernel
theorem d_M_fund_36 : decode prog_5_method_17_code 36 = .ok (.iload_n 1, 1) := by decide +kernel
theorem d_M_fund_37 : decode prog_5_method_17_code 37 = .ok (.laload, 1) := by decide +kernel
theorem d_M_fund_38 : decode prog_5_method_17_code 38 = .ok (.lneg, 1) := by decide +kernel
theorem d_M_fund_39 : decode prog_5_method_17_code 39 = .ok (.lcmp, 1) := by decide +kernel
theorem d_M_fund_40 : decode prog_5_method_17_code 40 = .ok (.ifCond .ge 5, 3) := by decide +kernel
theorem d_M_fund_43 : decode prog_5_method_17_code 43 = .ok (.iconst 0, 1) := by decide +kernel
theorem d_M_fund_44 : decode prog_5_method_17_code 44 = .ok (.ireturn, 1) := by decide +kernel
theorem d_M_fund_45 : decode prog_5_method_17_code 45 = .ok (.aload_n 0, 1) := by decide +kernel
theorem d_M_fund_46 : decode prog_5_method_17_code 46 = .ok (.getfield 7, 3) := by decide +kernel
theorem d_M_fund_49 : decode prog_5_method_17_code 49 = .ok (.iload_n 1, 1) := by decide +kernel
theorem d_M_fund_50 : decode prog_5_method_17_code 50 = .ok (.aload_n 0, 1) := by decide +kernel
theorem d_M_fund_51 : decode prog_5_method_17_code 51 = .ok (.getfield 7, 3) := by decide +kernel
theorem d_M_fund_54 : decode prog_5_method_17_code 54 = .ok (.iload_n 1, 1) := by decide +kernel
theorem d_M_fund_55 : decode prog_5_method_17_code 55 = .ok (.laload, 1) := by decide +kernel
theorem d_M_fund_56 : decode prog_5_method_17_code 56 = .ok (.lload_n 2, 1) := by decide +kernel
theorem d_M_fund_57 : decode prog_5_method_17_code 57 = .ok (.ladd, 1) := by decide +kernel
theorem d_M_fund_58 : decode prog_5_method_17_code 58 = .ok (.lastore, 1) := by decide +kernel
theorem d_M_fund_59 : decode prog_5_method_17_code 59 = .ok (.aload_n 0, 1) := by decide +kernel
theorem d_M_fund_60 : decode prog_5_method_17_code 60 = .ok (.invokevirtual 114, 3) := by decide +kernel
theorem d_M_fund_63 : decode prog_5_method_17_code 63 = .ok (.iconst 1, 1) := by decide +kernel
theorem d_M_fund_64 : decode prog_5_method_17_code 64 = .ok (.ireturn, 1) := by decide +kernel
abbrev y_M_credit : MethodName := ⟨"GridlockDeskModel", "credit", "(IJ)Z"⟩
abbrev ws_M_credit : List Cond := .code y_M_credit prog_5_method_18_code 4 (some .boolean) :: TB
theorem d_M_credit_0 : decode prog_5_method_18_code 0 = .ok (.aload_n 0, 1) := by decide +kernel
theorem d_M_credit_1 : decode prog_5_method_18_code 1 = .ok (.iload_n 1, 1) := by decide +kernel
theorem d_M_credit_2 : decode prog_5_method_18_code 2 = .ok (.invokevirtual 117, 3) := by decide +kernel
theorem d_M_credit_5 : decode prog_5_method_18_code 5 = .ok (.ifCond .eq 29, 3) := by decide +kernel
theorem d_M_credit_8 : decode prog_5_method_18_code 8 = .ok (.lload_n 2, 1) := by decide +kernel
theorem d_M_credit_9 : decode prog_5_method_18_code 9 = .ok (.lconst 0, 1) := by decide +kernel
theorem d_M_credit_10 : decode prog_5_method_18_code 10 = .ok (.lcmp, 1) := by decide +kernel
theorem d_M_credit_11 : decode prog_5_method_18_code 11 = .ok (.ifCond .lt 23, 3) := by decide +kernel
theorem d_M_credit_14 : decode prog_5_method_18_code 14 = .ok (.lload_n 2, 1) := by decide +kernel
theorem d_M_credit_15 : decode prog_5_method_18_code 15 = .ok (.ldc2_w 124, 3) := by decide +kernel
theorem d_M_credit_18 : decode prog_5_method_18_code 18 = .ok (.lcmp, 1) := by decide +kernel
theorem d_M_credit_19 : decode prog_5_method_18_code 19 = .ok (.ifCond .gt 15, 3) := by decide +kernel
theorem d_M_credit_22 : decode prog_5_method_18_code 22 = .ok (.aload_n 0, 1) := by decide +kernel
theorem d_M_credit_23 : decode prog_5_method_18_code 23 = .ok (.getfield 7, 3) := by decide +kernel
theorem d_M_credit_26 : decode prog_5_method_18_code 26 = .ok (.iload_n 1, 1) := by decide +kernel
theorem d_M_credit_27 : decode prog_5_method_18_code 27 = .ok (.laload, 1) := by decide +kernel
theorem d_M_credit_28 : decode prog_5_method_18_code 28 = .ok (.lload_n 2, 1) := by decide +kernel
theorem d_M_credit_29 : decode prog_5_method_18_code 29 = .ok (.lneg, 1) := by decide +kernel
theorem d_M_credit_30 : decode prog_5_method_18_code 30 = .ok (.lcmp, 1) := by decide +kernel
theorem d_M_credit_31 : decode prog_5_method_18_code 31 = .ok (.ifCond .ge 5, 3) := by decide +kernel
theorem d_M_credit_34 : decode prog_5_method_18_code 34 = .ok (.iconst 0, 1) := by decide +kernel
theorem d_M_credit_35 : decode prog_5_method_18_code 35 = .ok (.ireturn, 1) := by decide +kernel
theorem d_M_credit_36 : decode prog_5_method_18_code 36 = .ok (.aload_n 0, 1) := by decide +kernel
theorem d_M_credit_37 : decode prog_5_method_18_code 37 = .ok (.getfield 13, 3) := by decide +kernel
theorem d_M_credit_40 : decode prog_5_method_18_code 40 = .ok (.iload_n 1, 1) := by decide +kernel
theorem d_M_credit_41 : decode prog_5_method_18_code 41 = .ok (.lload_n 2, 1) := by decide +kernel
theorem d_M_credit_42 : decode prog_5_method_18_code 42 = .ok (.lastore, 1) := by decide +kernel
theorem d_M_credit_43 : decode prog_5_method_18_code 43 = .ok (.aload_n 0, 1) := by decide +kernel
theorem d_M_credit_44 : decode prog_5_method_18_code 44 = .ok (.invokevirtual 114, 3) := by decide +kernel
theorem d_M_credit_47 : decode prog_5_method_18_code 47 = .ok (.iconst 1, 1) := by decide +kernel
theorem d_M_credit_48 : decode prog_5_method_18_code 48 = .ok (.ireturn, 1) := by decide +kernel
abbrev y_M_limit : MethodName := ⟨"GridlockDeskModel", "limit", "(IIJ)Z"⟩
abbrev ws_M_limit : List Cond := .code y_M_limit prog_5_method_19_code 5 (some .boolean) :: TB
theorem d_M_limit_0 : decode prog_5_method_19_code 0 = .ok (.aload_n 0, 1) := by decide +kernel
theorem d_M_limit_1 : decode prog_5_method_19_code 1 = .ok (.iload_n 1, 1) := by decide +kernel
theorem d_M_limit_2 : decode prog_5_method_19_code 2 = .ok (.invokevirtual 117, 3) := by decide +kernel
theorem d_M_limit_5 : decode prog_5_method_19_code 5 = .ok (.ifCond .eq 32, 3) := by decide +kernel
theorem d_M_limit_8 : decode prog_5_method_19_code 8 = .ok (.aload_n 0, 1) := by decide +kernel
theorem d_M_limit_9 : decode prog_5_method_19_code 9 = .ok (.iload_n 2, 1) := by decide +kernel
theorem d_M_limit_10 : decode prog_5_method_19_code 10 = .ok (.invokevirtual 117, 3) := by decide +kernel
theorem d_M_limit_13 : decode prog_5_method_19_code 13 = .ok (.ifCond .eq 24, 3) := by decide +kernel
theorem d_M_limit_16 : decode prog_5_method_19_code 16 = .ok (.iload_n 1, 1) := by decide +kernel
theorem d_M_limit_17 : decode prog_5_method_19_code 17 = .ok (.iload_n 2, 1) := by decide +kernel
theorem d_M_limit_18 : decode prog_5_method_19_code 18 = .ok (.if_icmp .eq 19, 3) := by decide +kernel
theorem d_M_limit_21 : decode prog_5_method_19_code 21 = .ok (.lload_n 3, 1) := by decide +kernel
theorem d_M_limit_22 : decode prog_5_method_19_code 22 = .ok (.ldc2_w 66, 3) := by decide +kernel
theorem d_M_limit_25 : decode prog_5_method_19_code 25 = .ok (.lcmp, 1) := by decide +kernel
theorem d_M_limit_26 : decode prog_5_method_19_code 26 = .ok (.ifCond .lt 11, 3) := by decide +kernel
theorem d_M_limit_29 : decode prog_5_method_19_code 29 = .ok (.lload_n 3, 1) := by decide +kernel
theorem d_M_limit_30 : decode prog_5_method_19_code 30 = .ok (.ldc2_w 124, 3) := by decide +kernel
theorem d_M_limit_33 : decode prog_5_method_19_code 33 = .ok (.lcmp, 1) := by decide +kernel
theorem d_M_limit_34 : decode prog_5_method_19_code 34 = .ok (.ifCond .le 5, 3) := by decide +kernel
theorem d_M_limit_37 : decode prog_5_method_19_code 37 = .ok (.iconst 0, 1) := by decide +kernel
theorem d_M_limit_38 : decode prog_5_method_19_code 38 = .ok (.ireturn, 1) := by decide +kernel
theorem d_M_limit_39 : decode prog_5_method_19_code 39 = .ok (.lload_n 3, 1) := by decide +kernel
theorem d_M_limit_40 : decode prog_5_method_19_code 40 = .ok (.lconst 0, 1) := by decide +kernel
theorem d_M_limit_41 : decode prog_5_method_19_code 41 = .ok (.lcmp, 1) := by decide +kernel
theorem d_M_limit_42 : decode prog_5_method_19_code 42 = .ok (.ifCond .lt 31, 3) := by decide +kernel
theorem d_M_limit_45 : decode prog_5_method_19_code 45 = .ok (.aload_n 0, 1) := by decide +kernel
theorem d_M_limit_46 : decode prog_5_method_19_code 46 = .ok (.getfield 22, 3) := by decide +kernel
theorem d_M_limit_49 : decode prog_5_method_19_code 49 = .ok (.iconst 4, 1) := by decide +kernel
theorem d_M_limit_50 : decode prog_5_method_19_code 50 = .ok (.iload_n 1, 1) := by decide +kernel
theorem d_M_limit_51 : decode prog_5_method_19_code 51 = .ok (.imul, 1) := by decide +kernel
theorem d_M_limit_52 : decode prog_5_method_19_code 52 = .ok (.iload_n 2, 1) := by decide +kernel
theorem d_M_limit_53 : decode prog_5_method_19_code 53 = .ok (.iadd, 1) := by decide +kernel
theorem d_M_limit_54 : decode prog_5_method_19_code 54 = .ok (.laload, 1) := by decide +kernel
theorem d_M_limit_55 : decode prog_5_method_19_code 55 = .ok (.aload_n 0, 1) := by decide +kernel
theorem d_M_limit_56 : decode prog_5_method_19_code 56 = .ok (.getfield 22, 3) := by decide +kernel
theorem d_M_limit_59 : decode prog_5_method_19_code 59 = .ok (.iconst 4, 1) := by decide +kernel
theorem d_M_limit_60 : decode prog_5_method_19_code 60 = .ok (.iload_n 2, 1) := by decide +kernel
theorem d_M_limit_61 : decode prog_5_method_19_code 61 = .ok (.imul, 1) := by decide +kernel
theorem d_M_limit_62 : decode prog_5_method_19_code 62 = .ok (.iload_n 1, 1) := by decide +kernel
theorem d_M_limit_63 : decode prog_5_method_19_code 63 = .ok (.iadd, 1) := by decide +kernel
theorem d_M_limit_64 : decode prog_5_method_19_code 64 = .ok (.laload, 1) := by decide +kernel
theorem d_M_limit_65 : decode prog_5_method_19_code 65 = .ok (.lsub, 1) := by decide +kernel
theorem d_M_limit_66 : decode prog_5_method_19_code 66 = .ok (.lload_n 3, 1) := by decide +kernel
theorem d_M_limit_67 : decode prog_5_method_19_code 67 = .ok (.lcmp, 1) := by decide +kernel
theorem d_M_limit_68 : decode prog_5_method_19_code 68 = .ok (.ifCond .le 5, 3) := by decide +kernel
theorem d_M_limit_71 : decode prog_5_method_19_code 71 = .ok (.iconst 0, 1) := by decide +kernel
theorem d_M_limit_72 : decode prog_5_method_19_code 72 = .ok (.ireturn, 1) := by decide +kernel
theorem d_M_limit_73 : decode prog_5_method_19_code 73 = .ok (.aload_n 0, 1) := by decide +kernel
theorem d_M_limit_74 : decode prog_5_method_19_code 74 = .ok (.getfield 19, 3) := by decide +kernel
theorem d_M_limit_77 : decode prog_5_method_19_code 77 = .ok (.iconst 4, 1) := by decide +kernel
theorem d_M_limit_78 : decode prog_5_method_19_code 78 = .ok (.iload_n 1, 1) := by decide +kernel
theorem d_M_limit_79 : decode prog_5_method_19_code 79 = .ok (.imul, 1) := by decide +kernel
theorem d_M_limit_80 : decode prog_5_method_19_code 80 = .ok (.iload_n 2, 1) := by decide +kernel
theorem d_M_limit_81 : decode prog_5_method_19_code 81 = .ok (.iadd, 1) := by decide +kernel
theorem d_M_limit_82 : decode prog_5_method_19_code 82 = .ok (.lload_n 3, 1) := by decide +kernel
theorem d_M_limit_83 : decode prog_5_method_19_code 83 = .ok (.lastore, 1) := by decide +kernel
theorem d_M_limit_84 : decode prog_5_method_19_code 84 = .ok (.aload_n 0, 1) := by decide +kernel
theorem d_M_limit_85 : decode prog_5_method_19_code 85 = .ok (.invokevirtual 114, 3) := by decide +kernel
theorem d_M_limit_88 : decode prog_5_method_19_code 88 = .ok (.iconst 1, 1) := by decide +kernel
theorem d_M_limit_89 : decode prog_5_method_19_code 89 = .ok (.ireturn, 1) := by decide +kernel
abbrev y_M_totalLimit : MethodName := ⟨"GridlockDeskModel", "totalLimit", "(IJ)Z"⟩
abbrev ws_M_totalLimit : List Cond := .code y_M_totalLimit prog_5_method_20_code 7 (some .boolean) :: TB
theorem d_M_totalLimit_0 : decode prog_5_method_20_code 0 = .ok (.aload_n 0, 1) := by decide +kernel
theorem d_M_totalLimit_1 : decode prog_5_method_20_code 1 = .ok (.iload_n 1, 1) := by decide +kernel
theorem d_M_totalLimit_2 : decode prog_5_method_20_code 2 = .ok (.invokevirtual 117, 3) := by decide +kernel
theorem d_M_totalLimit_5 : decode prog_5_method_20_code 5 = .ok (.ifCond .eq 19, 3) := by decide +kernel
theorem d_M_totalLimit_8 : decode prog_5_method_20_code 8 = .ok (.lload_n 2, 1) := by decide +kernel
theorem d_M_totalLimit_9 : decode prog_5_method_20_code 9 = .ok (.ldc2_w 66, 3) := by decide +kernel
theorem d_M_totalLimit_12 : decode prog_5_method_20_code 12 = .ok (.lcmp, 1) := by decide +kernel
theorem d_M_totalLimit_13 : decode prog_5_method_20_code 13 = .ok (.ifCond .lt 11, 3) := by decide +kernel
theorem d_M_totalLimit_16 : decode prog_5_method_20_code 16 = .ok (.lload_n 2, 1) := by decide +kernel
theorem d_M_totalLimit_17 : decode prog_5_method_20_code 17 = .ok (.ldc2_w 124, 3) := by decide +kernel
theorem d_M_totalLimit_20 : decode prog_5_method_20_code 20 = .ok (.lcmp, 1) := by decide +kernel
theorem d_M_totalLimit_21 : decode prog_5_method_20_code 21 = .ok (.ifCond .le 5, 3) := by decide +kernel
theorem d_M_totalLimit_24 : decode prog_5_method_20_code 24 = .ok (.iconst 0, 1) := by decide +kernel
theorem d_M_totalLimit_25 : decode prog_5_method_20_code 25 = .ok (.ireturn, 1) := by decide +kernel
theorem d_M_totalLimit_26 : decode prog_5_method_20_code 26 = .ok (.lconst 0, 1) := by decide +kernel
theorem d_M_totalLimit_27 : decode prog_5_method_20_code 27 = .ok (.lstore 4, 2) := by decide +kernel
theorem d_M_totalLimit_29 : decode prog_5_method_20_code 29 = .ok (.iconst 0, 1) := by decide +kernel
theorem d_M_totalLimit_30 : decode prog_5_method_20_code 30 = .ok (.istore 6, 2) := by decide +kernel
theorem d_M_totalLimit_32 : decode prog_5_method_20_code 32 = .ok (.iload 6, 2) := by decide +kernel
theorem d_M_totalLimit_34 : decode prog_5_method_20_code 34 = .ok (.aload_n 0, 1) := by decide +kernel
theorem d_M_totalLimit_35 : decode prog_5_method_20_code 35 = .ok (.getfield 62, 3) := by decide +kernel
theorem d_M_totalLimit_38 : decode prog_5_method_20_code 38 = .ok (.if_icmp .ge 37, 3) := by decide +kernel
theorem d_M_totalLimit_41 : decode prog_5_method_20_code 41 = .ok (.lload 4, 2) := by decide +kernel
theorem d_M_totalLimit_43 : decode prog_5_method_20_code 43 = .ok (.aload_n 0, 1) := by decide +kernel
theorem d_M_totalLimit_44 : decode prog_5_method_20_code 44 = .ok (.getfield 22, 3) := by decide +kernel
theorem d_M_totalLimit_47 : decode prog_5_method_20_code 47 = .ok (.iconst 4, 1) := by decide +kernel
theorem d_M_totalLimit_48 : decode prog_5_method_20_code 48 = .ok (.iload_n 1, 1) := by decide +kernel
theorem d_M_totalLimit_49 : decode prog_5_method_20_code 49 = .ok (.imul, 1) := by decide +kernel
theorem d_M_totalLimit_50 : decode prog_5_method_20_code 50 = .ok (.iload 6, 2) := by decide +kernel
theorem d_M_totalLimit_52 : decode prog_5_method_20_code 52 = .ok (.iadd, 1) := by decide +kernel
theorem d_M_totalLimit_53 : decode prog_5_method_20_code 53 = .ok (.laload, 1) := by decide +kernel
theorem d_M_totalLimit_54 : decode prog_5_method_20_code 54 = .ok (.ladd, 1) := by decide +kernel
theorem d_M_totalLimit_55 : decode prog_5_method_20_code 55 = .ok (.aload_n 0, 1) := by decide +kernel
theorem d_M_totalLimit_56 : decode prog_5_method_20_code 56 = .ok (.getfield 22, 3) := by decide +kernel
theorem d_M_totalLimit_59 : decode prog_5_method_20_code 59 = .ok (.iconst 4, 1) := by decide +kernel
theorem d_M_totalLimit_60 : decode prog_5_method_20_code 60 = .ok (.iload 6, 2) := by decide +kernel
theorem d_M_totalLimit_62 : decode prog_5_method_20_code 62 = .ok (.imul, 1) := by decide +kernel
theorem d_M_totalLimit_63 : decode prog_5_method_20_code 63 = .ok (.iload_n 1, 1) := by decide +kernel
theorem d_M_totalLimit_64 : decode prog_5_method_20_code 64 = .ok (.iadd, 1) := by decide +kernel
theorem d_M_totalLimit_65 : decode prog_5_method_20_code 65 = .ok (.laload, 1) := by decide +kernel
theorem d_M_totalLimit_66 : decode prog_5_method_20_code 66 = .ok (.lsub, 1) := by decide +kernel
theorem d_M_totalLimit_67 : decode prog_5_method_20_code 67 = .ok (.lstore 4, 2) := by decide +kernel
theorem d_M_totalLimit_69 : decode prog_5_method_20_code 69 = .ok (.iinc 6 1, 3) := by decide +kernel
theorem d_M_totalLimit_72 : decode prog_5_method_20_code 72 = .ok (.goto (-40), 3) := by decide +kernel
theorem d_M_totalLimit_75 : decode prog_5_method_20_code 75 = .ok (.lload_n 2, 1) := by decide +kernel
theorem d_M_totalLimit_76 : decode prog_5_method_20_code 76 = .ok (.lconst 0, 1) := by decide +kernel
theorem d_M_totalLimit_77 : decode prog_5_method_20_code 77 = .ok (.lcmp, 1) := by decide +kernel
theorem d_M_totalLimit_78 : decode prog_5_method_20_code 78 = .ok (.ifCond .lt 12, 3) := by decide +kernel
theorem d_M_totalLimit_81 : decode prog_5_method_20_code 81 = .ok (.lload 4, 2) := by decide +kernel
theorem d_M_totalLimit_83 : decode prog_5_method_20_code 83 = .ok (.lload_n 2, 1) := by decide +kernel
theorem d_M_totalLimit_84 : decode prog_5_method_20_code 84 = .ok (.lcmp, 1) := by decide +kernel
theorem d_M_totalLimit_85 : decode prog_5_method_20_code 85 = .ok (.ifCond .le 5, 3) := by decide +kernel
theorem d_M_totalLimit_88 : decode prog_5_method_20_code 88 = .ok (.iconst 0, 1) := by decide +kernel
theorem d_M_totalLimit_89 : decode prog_5_method_20_code 89 = .ok (.ireturn, 1) := by decide +kernel
theorem d_M_totalLimit_90 : decode prog_5_method_20_code 90 = .ok (.aload_n 0, 1) := by decide +kernel
theorem d_M_totalLimit_91 : decode prog_5_method_20_code 91 = .ok (.getfield 16, 3) := by decide +kernel
theorem d_M_totalLimit_94 : decode prog_5_method_20_code 94 = .ok (.iload_n 1, 1) := by decide +kernel
theorem d_M_totalLimit_95 : decode prog_5_method_20_code 95 = .ok (.lload_n 2, 1) := by decide +kernel
theorem d_M_totalLimit_96 : decode prog_5_method_20_code 96 = .ok (.lastore, 1) := by decide +kernel
theorem d_M_totalLimit_97 : decode prog_5_method_20_code 97 = .ok (.aload_n 0, 1) := by decide +kernel
theorem d_M_totalLimit_98 : decode prog_5_method_20_code 98 = .ok (.invokevirtual 114, 3) := by decide +kernel
theorem d_M_totalLimit_101 : decode prog_5_method_20_code 101 = .ok (.iconst 1, 1) := by decide +kernel
theorem d_M_totalLimit_102 : decode prog_5_method_20_code 102 = .ok (.ireturn, 1) := by decide +kernel
abbrev y_M_queuedAt : MethodName := ⟨"GridlockDeskModel", "queuedAt", "(I)I"⟩
abbrev ws_M_queuedAt : List Cond := .code y_M_queuedAt prog_5_method_21_code 4 (some .int) :: TB
theorem d_M_queuedAt_0 : decode prog_5_method_21_code 0 = .ok (.iconst 0, 1) := by decide +kernel
theorem d_M_queuedAt_1 : decode prog_5_method_21_code 1 = .ok (.istore_n 2, 1) := by decide +kernel
theorem d_M_queuedAt_2 : decode prog_5_method_21_code 2 = .ok (.iconst 0, 1) := by decide +kernel
theorem d_M_queuedAt_3 : decode prog_5_method_21_code 3 = .ok (.istore_n 3, 1) := by decide +kernel
theorem d_M_queuedAt_4 : decode prog_5_method_21_code 4 = .ok (.iload_n 3, 1) := by decide +kernel
theorem d_M_queuedAt_5 : decode prog_5_method_21_code 5 = .ok (.aload_n 0, 1) := by decide +kernel
theorem d_M_queuedAt_6 : decode prog_5_method_21_code 6 = .ok (.getfield 68, 3) := by decide +kernel
theorem d_M_queuedAt_9 : decode prog_5_method_21_code 9 = .ok (.if_icmp .ge 36, 3) := by decide +kernel
theorem d_M_queuedAt_12 : decode prog_5_method_21_code 12 = .ok (.aload_n 0, 1) := by decide +kernel
theorem d_M_queuedAt_13 : decode prog_5_method_21_code 13 = .ok (.getfield 44, 3) := by decide +kernel
theorem d_M_queuedAt_16 : decode prog_5_method_21_code 16 = .ok (.iload_n 3, 1) := by decide +kernel
theorem d_M_queuedAt_17 : decode prog_5_method_21_code 17 = .ok (.iaload, 1) := by decide +kernel
theorem d_M_queuedAt_18 : decode prog_5_method_21_code 18 = .ok (.ifCond .ne 19, 3) := by decide +kernel
theorem d_M_queuedAt_21 : decode prog_5_method_21_code 21 = .ok (.aload_n 0, 1) := by decide +kernel
theorem d_M_queuedAt_22 : decode prog_5_method_21_code 22 = .ok (.getfield 25, 3) := by decide +kernel
theorem d_M_queuedAt_25 : decode prog_5_method_21_code 25 = .ok (.iload_n 3, 1) := by decide +kernel
theorem d_M_queuedAt_26 : decode prog_5_method_21_code 26 = .ok (.iaload, 1) := by decide +kernel
theorem d_M_queuedAt_27 : decode prog_5_method_21_code 27 = .ok (.iload_n 1, 1) := by decide +kernel
theorem d_M_queuedAt_28 : decode prog_5_method_21_code 28 = .ok (.if_icmp .ne 9, 3) := by decide +kernel
theorem d_M_queuedAt_31 : decode prog_5_method_21_code 31 = .ok (.iload_n 2, 1) := by decide +kernel
theorem d_M_queuedAt_32 : decode prog_5_method_21_code 32 = .ok (.iconst 1, 1) := by decide +kernel
theorem d_M_queuedAt_33 : decode prog_5_method_21_code 33 = .ok (.iadd, 1) := by decide +kernel
theorem d_M_queuedAt_34 : decode prog_5_method_21_code 34 = .ok (.goto 4, 3) := by decide +kernel
theorem d_M_queuedAt_37 : decode prog_5_method_21_code 37 = .ok (.iload_n 2, 1) := by decide +kernel
theorem d_M_queuedAt_38 : decode prog_5_method_21_code 38 = .ok (.istore_n 2, 1) := by decide +kernel
theorem d_M_queuedAt_39 : decode prog_5_method_21_code 39 = .ok (.iinc 3 1, 3) := by decide +kernel
theorem d_M_queuedAt_42 : decode prog_5_method_21_code 42 = .ok (.goto (-38), 3) := by decide +kernel
theorem d_M_queuedAt_45 : decode prog_5_method_21_code 45 = .ok (.iload_n 2, 1) := by decide +kernel
theorem d_M_queuedAt_46 : decode prog_5_method_21_code 46 = .ok (.ireturn, 1) := by decide +kernel
abbrev y_M_pay : MethodName := ⟨"GridlockDeskModel", "pay", "(IIJII)I"⟩
abbrev ws_M_pay : List Cond := .code y_M_pay prog_5_method_22_code 9 (some .int) :: TB
theorem d_M_pay_0 : decode prog_5_method_22_code 0 = .ok (.aload_n 0, 1) := by decide +kernel
theorem d_M_pay_1 : decode prog_5_method_22_code 1 = .ok (.iload_n 1, 1) := by decide +kernel
theorem d_M_pay_2 : decode prog_5_method_22_code 2 = .ok (.invokevirtual 117, 3) := by decide +kernel
theorem d_M_pay_5 : decode prog_5_method_22_code 5 = .ok (.ifCond .eq 54, 3) := by decide +kernel
theorem d_M_pay_8 : decode prog_5_method_22_code 8 = .ok (.aload_n 0, 1) := by decide +kernel
theorem d_M_pay_9 : decode prog_5_method_22_code 9 = .ok (.iload_n 2, 1) := by decide +kernel
theorem d_M_pay_10 : decode prog_5_method_22_code 10 = .ok (.invokevirtual 117, 3) := by decide +kernel
theorem d_M_pay_13 : decode prog_5_method_22_code 13 = .ok (.ifCond .eq 46, 3) := by decide +kernel
theorem d_M_pay_16 : decode prog_5_method_22_code 16 = .ok (.iload_n 1, 1) := by decide +kernel
theorem d_M_pay_17 : decode prog_5_method_22_code 17 = .ok (.iload_n 2, 1) := by decide +kernel
theorem d_M_pay_18 : decode prog_5_method_22_code 18 = .ok (.if_icmp .eq 41, 3) := by decide +kernel
theorem d_M_pay_21 : decode prog_5_method_22_code 21 = .ok (.lload_n 3, 1) := by decide +kernel
theorem d_M_pay_22 : decode prog_5_method_22_code 22 = .ok (.lconst 1, 1) := by decide +kernel
theorem d_M_pay_23 : decode prog_5_method_22_code 23 = .ok (.lcmp, 1) := by decide +kernel
theorem d_M_pay_24 : decode prog_5_method_22_code 24 = .ok (.ifCond .lt 35, 3) := by decide +kernel
theorem d_M_pay_27 : decode prog_5_method_22_code 27 = .ok (.lload_n 3, 1) := by decide +kernel
theorem d_M_pay_28 : decode prog_5_method_22_code 28 = .ok (.ldc2_w 122, 3) := by decide +kernel
theorem d_M_pay_31 : decode prog_5_method_22_code 31 = .ok (.lcmp, 1) := by decide +kernel
theorem d_M_pay_32 : decode prog_5_method_22_code 32 = .ok (.ifCond .gt 27, 3) := by decide +kernel
theorem d_M_pay_35 : decode prog_5_method_22_code 35 = .ok (.iload 5, 2) := by decide +kernel
theorem d_M_pay_37 : decode prog_5_method_22_code 37 = .ok (.ifCond .lt 22, 3) := by decide +kernel
theorem d_M_pay_40 : decode prog_5_method_22_code 40 = .ok (.iload 5, 2) := by decide +kernel
theorem d_M_pay_42 : decode prog_5_method_22_code 42 = .ok (.iconst 3, 1) := by decide +kernel
theorem d_M_pay_43 : decode prog_5_method_22_code 43 = .ok (.if_icmp .gt 16, 3) := by decide +kernel
theorem d_M_pay_46 : decode prog_5_method_22_code 46 = .ok (.iload 6, 2) := by decide +kernel
theorem d_M_pay_48 : decode prog_5_method_22_code 48 = .ok (.aload_n 0, 1) := by decide +kernel
theorem d_M_pay_49 : decode prog_5_method_22_code 49 = .ok (.getfield 126, 3) := by decide +kernel
theorem d_M_pay_52 : decode prog_5_method_22_code 52 = .ok (.if_icmp .lt 7, 3) := by decide +kernel
theorem d_M_pay_55 : decode prog_5_method_22_code 55 = .ok (.iconst 1, 1) := by decide +kernel
theorem d_M_pay_56 : decode prog_5_method_22_code 56 = .ok (.goto 4, 3) := by decide +kernel
theorem d_M_pay_59 : decode prog_5_method_22_code 59 = .ok (.iconst 0, 1) := by decide +kernel
theorem d_M_pay_60 : decode prog_5_method_22_code 60 = .ok (.istore 7, 2) := by decide +kernel
theorem d_M_pay_62 : decode prog_5_method_22_code 62 = .ok (.iload 7, 2) := by decide +kernel
theorem d_M_pay_64 : decode prog_5_method_22_code 64 = .ok (.ifCond .ne 5, 3) := by decide +kernel
theorem d_M_pay_67 : decode prog_5_method_22_code 67 = .ok (.iconst (-1), 1) := by decide +kernel
theorem d_M_pay_68 : decode prog_5_method_22_code 68 = .ok (.ireturn, 1) := by decide +kernel
theorem d_M_pay_69 : decode prog_5_method_22_code 69 = .ok (.aload_n 0, 1) := by decide +kernel
theorem d_M_pay_70 : decode prog_5_method_22_code 70 = .ok (.getfield 68, 3) := by decide +kernel
theorem d_M_pay_73 : decode prog_5_method_22_code 73 = .ok (.bipush 100, 2) := by decide +kernel
theorem d_M_pay_75 : decode prog_5_method_22_code 75 = .ok (.if_icmp .lt 6, 3) := by decide +kernel
theorem d_M_pay_78 : decode prog_5_method_22_code 78 = .ok (.bipush (-3), 2) := by decide +kernel
theorem d_M_pay_80 : decode prog_5_method_22_code 80 = .ok (.ireturn, 1) := by decide +kernel
theorem d_M_pay_81 : decode prog_5_method_22_code 81 = .ok (.aload_n 0, 1) := by decide +kernel
theorem d_M_pay_82 : decode prog_5_method_22_code 82 = .ok (.iload_n 1, 1) := by decide +kernel
theorem d_M_pay_83 : decode prog_5_method_22_code 83 = .ok (.invokevirtual 129, 3) := by decide +kernel
theorem d_M_pay_86 : decode prog_5_method_22_code 86 = .ok (.bipush 6, 2) := by decide +kernel
theorem d_M_pay_88 : decode prog_5_method_22_code 88 = .ok (.if_icmp .lt 6, 3) := by decide +kernel
theorem d_M_pay_91 : decode prog_5_method_22_code 91 = .ok (.bipush (-2), 2) := by decide +kernel
theorem d_M_pay_93 : decode prog_5_method_22_code 93 = .ok (.ireturn, 1) := by decide +kernel
theorem d_M_pay_94 : decode prog_5_method_22_code 94 = .ok (.aload_n 0, 1) := by decide +kernel
theorem d_M_pay_95 : decode prog_5_method_22_code 95 = .ok (.getfield 68, 3) := by decide +kernel
theorem d_M_pay_98 : decode prog_5_method_22_code 98 = .ok (.istore 8, 2) := by decide +kernel
theorem d_M_pay_100 : decode prog_5_method_22_code 100 = .ok (.aload_n 0, 1) := by decide +kernel
theorem d_M_pay_101 : decode prog_5_method_22_code 101 = .ok (.getfield 25, 3) := by decide +kernel
theorem d_M_pay_104 : decode prog_5_method_22_code 104 = .ok (.iload 8, 2) := by decide +kernel
theorem d_M_pay_106 : decode prog_5_method_22_code 106 = .ok (.iload_n 1, 1) := by decide +kernel
theorem d_M_pay_107 : decode prog_5_method_22_code 107 = .ok (.iastore, 1) := by decide +kernel
theorem d_M_pay_108 : decode prog_5_method_22_code 108 = .ok (.aload_n 0, 1) := by decide +kernel
theorem d_M_pay_109 : decode prog_5_method_22_code 109 = .ok (.getfield 29, 3) := by decide +kernel
theorem d_M_pay_112 : decode prog_5_method_22_code 112 = .ok (.iload 8, 2) := by decide +kernel
theorem d_M_pay_114 : decode prog_5_method_22_code 114 = .ok (.iload_n 2, 1) := by decide +kernel
theorem d_M_pay_115 : decode prog_5_method_22_code 115 = .ok (.iastore, 1) := by decide +kernel
theorem d_M_pay_116 : decode prog_5_method_22_code 116 = .ok (.aload_n 0, 1) := by decide +kernel
theorem d_M_pay_117 : decode prog_5_method_22_code 117 = .ok (.getfield 32, 3) := by decide +kernel
theorem d_M_pay_120 : decode prog_5_method_22_code 120 = .ok (.iload 8, 2) := by decide +kernel
theorem d_M_pay_122 : decode prog_5_method_22_code 122 = .ok (.lload_n 3, 1) := by decide +kernel
theorem d_M_pay_123 : decode prog_5_method_22_code 123 = .ok (.lastore, 1) := by decide +kernel
theorem d_M_pay_124 : decode prog_5_method_22_code 124 = .ok (.aload_n 0, 1) := by decide +kernel
theorem d_M_pay_125 : decode prog_5_method_22_code 125 = .ok (.getfield 35, 3) := by decide +kernel
theorem d_M_pay_128 : decode prog_5_method_22_code 128 = .ok (.iload 8, 2) := by decide +kernel
theorem d_M_pay_130 : decode prog_5_method_22_code 130 = .ok (.iload 5, 2) := by decide +kernel
theorem d_M_pay_132 : decode prog_5_method_22_code 132 = .ok (.iastore, 1) := by decide +kernel
theorem d_M_pay_133 : decode prog_5_method_22_code 133 = .ok (.aload_n 0, 1) := by decide +kernel
theorem d_M_pay_134 : decode prog_5_method_22_code 134 = .ok (.getfield 38, 3) := by decide +kernel
theorem d_M_pay_137 : decode prog_5_method_22_code 137 = .ok (.iload 8, 2) := by decide +kernel
theorem d_M_pay_139 : decode prog_5_method_22_code 139 = .ok (.iload 6, 2) := by decide +kernel
theorem d_M_pay_141 : decode prog_5_method_22_code 141 = .ok (.iastore, 1) := by decide +kernel
theorem d_M_pay_142 : decode prog_5_method_22_code 142 = .ok (.aload_n 0, 1) := by decide +kernel
theorem d_M_pay_143 : decode prog_5_method_22_code 143 = .ok (.dup, 1) := by decide +kernel
theorem d_M_pay_144 : decode prog_5_method_22_code 144 = .ok (.getfield 133, 3) := by decide +kernel
theorem d_M_pay_147 : decode prog_5_method_22_code 147 = .ok (.iconst 1, 1) := by decide +kernel
theorem d_M_pay_148 : decode prog_5_method_22_code 148 = .ok (.iadd, 1) := by decide +kernel
theorem d_M_pay_149 : decode prog_5_method_22_code 149 = .ok (.putfield 133, 3) := by decide +kernel
theorem d_M_pay_152 : decode prog_5_method_22_code 152 = .ok (.aload_n 0, 1) := by decide +kernel
theorem d_M_pay_153 : decode prog_5_method_22_code 153 = .ok (.getfield 41, 3) := by decide +kernel
theorem d_M_pay_156 : decode prog_5_method_22_code 156 = .ok (.iload 8, 2) := by decide +kernel
theorem d_M_pay_158 : decode prog_5_method_22_code 158 = .ok (.aload_n 0, 1) := by decide +kernel
theorem d_M_pay_159 : decode prog_5_method_22_code 159 = .ok (.getfield 133, 3) := by decide +kernel
theorem d_M_pay_162 : decode prog_5_method_22_code 162 = .ok (.iastore, 1) := by decide +kernel
theorem d_M_pay_163 : decode prog_5_method_22_code 163 = .ok (.aload_n 0, 1) := by decide +kernel
theorem d_M_pay_164 : decode prog_5_method_22_code 164 = .ok (.getfield 44, 3) := by decide +kernel
theorem d_M_pay_167 : decode prog_5_method_22_code 167 = .ok (.iload 8, 2) := by decide +kernel
theorem d_M_pay_169 : decode prog_5_method_22_code 169 = .ok (.iconst 0, 1) := by decide +kernel
theorem d_M_pay_170 : decode prog_5_method_22_code 170 = .ok (.iastore, 1) := by decide +kernel
theorem d_M_pay_171 : decode prog_5_method_22_code 171 = .ok (.aload_n 0, 1) := by decide +kernel
theorem d_M_pay_172 : decode prog_5_method_22_code 172 = .ok (.dup, 1) := by decide +kernel
theorem d_M_pay_173 : decode prog_5_method_22_code 173 = .ok (.getfield 68, 3) := by decide +kernel
theorem d_M_pay_176 : decode prog_5_method_22_code 176 = .ok (.iconst 1, 1) := by decide +kernel
theorem d_M_pay_177 : decode prog_5_method_22_code 177 = .ok (.iadd, 1) := by decide +kernel
theorem d_M_pay_178 : decode prog_5_method_22_code 178 = .ok (.putfield 68, 3) := by decide +kernel
theorem d_M_pay_181 : decode prog_5_method_22_code 181 = .ok (.aload_n 0, 1) := by decide +kernel
theorem d_M_pay_182 : decode prog_5_method_22_code 182 = .ok (.invokevirtual 114, 3) := by decide +kernel
theorem d_M_pay_185 : decode prog_5_method_22_code 185 = .ok (.iload 8, 2) := by decide +kernel
theorem d_M_pay_187 : decode prog_5_method_22_code 187 = .ok (.ireturn, 1) := by decide +kernel
abbrev y_M_cancel : MethodName := ⟨"GridlockDeskModel", "cancel", "(I)Z"⟩
abbrev ws_M_cancel : List Cond := .code y_M_cancel prog_5_method_23_code 2 (some .boolean) :: TB
theorem d_M_cancel_0 : decode prog_5_method_23_code 0 = .ok (.aload_n 0, 1) := by decide +kernel
theorem d_M_cancel_1 : decode prog_5_method_23_code 1 = .ok (.iload_n 1, 1) := by decide +kernel
theorem d_M_cancel_2 : decode prog_5_method_23_code 2 = .ok (.invokevirtual 136, 3) := by decide +kernel
theorem d_M_cancel_5 : decode prog_5_method_23_code 5 = .ok (.ifCond .ne 5, 3) := by decide +kernel
theorem d_M_cancel_8 : decode prog_5_method_23_code 8 = .ok (.iconst 0, 1) := by decide +kernel
theorem d_M_cancel_9 : decode prog_5_method_23_code 9 = .ok (.ireturn, 1) := by decide +kernel
theorem d_M_cancel_10 : decode prog_5_method_23_code 10 = .ok (.aload_n 0, 1) := by decide +kernel
theorem d_M_cancel_11 : decode prog_5_method_23_code 11 = .ok (.getfield 44, 3) := by decide +kernel
theorem d_M_cancel_14 : decode prog_5_method_23_code 14 = .ok (.iload_n 1, 1) := by decide +kernel
theorem d_M_cancel_15 : decode prog_5_method_23_code 15 = .ok (.iconst 4, 1) := by decide +kernel
theorem d_M_cancel_16 : decode prog_5_method_23_code 16 = .ok (.iastore, 1) := by decide +kernel
theorem d_M_cancel_17 : decode prog_5_method_23_code 17 = .ok (.aload_n 0, 1) := by decide +kernel
theorem d_M_cancel_18 : decode prog_5_method_23_code 18 = .ok (.invokevirtual 114, 3) := by decide +kernel
theorem d_M_cancel_21 : decode prog_5_method_23_code 21 = .ok (.iconst 1, 1) := by decide +kernel
theorem d_M_cancel_22 : decode prog_5_method_23_code 22 = .ok (.ireturn, 1) := by decide +kernel
abbrev y_M_urge : MethodName := ⟨"GridlockDeskModel", "urge", "(II)Z"⟩
abbrev ws_M_urge : List Cond := .code y_M_urge prog_5_method_24_code 3 (some .boolean) :: TB
theorem d_M_urge_0 : decode prog_5_method_24_code 0 = .ok (.aload_n 0, 1) := by decide +kernel
theorem d_M_urge_1 : decode prog_5_method_24_code 1 = .ok (.iload_n 1, 1) := by decide +kernel
theorem d_M_urge_2 : decode prog_5_method_24_code 2 = .ok (.invokevirtual 136, 3) := by decide +kernel
theorem d_M_urge_5 : decode prog_5_method_24_code 5 = .ok (.ifCond .eq 12, 3) := by decide +kernel
theorem d_M_urge_8 : decode prog_5_method_24_code 8 = .ok (.iload_n 2, 1) := by decide +kernel
theorem d_M_urge_9 : decode prog_5_method_24_code 9 = .ok (.ifCond .lt 8, 3) := by decide +kernel
theorem d_M_urge_12 : decode prog_5_method_24_code 12 = .ok (.iload_n 2, 1) := by decide +kernel
theorem d_M_urge_13 : decode prog_5_method_24_code 13 = .ok (.iconst 3, 1) := by decide +kernel
theorem d_M_urge_14 : decode prog_5_method_24_code 14 = .ok (.if_icmp .le 5, 3) := by decide +kernel
theorem d_M_urge_17 : decode prog_5_method_24_code 17 = .ok (.iconst 0, 1) := by decide +kernel
theorem d_M_urge_18 : decode prog_5_method_24_code 18 = .ok (.ireturn, 1) := by decide +kernel
theorem d_M_urge_19 : decode prog_5_method_24_code 19 = .ok (.aload_n 0, 1) := by decide +kernel
theorem d_M_urge_20 : decode prog_5_method_24_code 20 = .ok (.getfield 35, 3) := by decide +kernel
theorem d_M_urge_23 : decode prog_5_method_24_code 23 = .ok (.iload_n 1, 1) := by decide +kernel
theorem d_M_urge_24 : decode prog_5_method_24_code 24 = .ok (.iload_n 2, 1) := by decide +kernel
theorem d_M_urge_25 : decode prog_5_method_24_code 25 = .ok (.iastore, 1) := by decide +kernel
theorem d_M_urge_26 : decode prog_5_method_24_code 26 = .ok (.aload_n 0, 1) := by decide +kernel
theorem d_M_urge_27 : decode prog_5_method_24_code 27 = .ok (.dup, 1) := by decide +kernel
theorem d_M_urge_28 : decode prog_5_method_24_code 28 = .ok (.getfield 133, 3) := by decide +kernel
theorem d_M_urge_31 : decode prog_5_method_24_code 31 = .ok (.iconst 1, 1) := by decide +kernel
theorem d_M_urge_32 : decode prog_5_method_24_code 32 = .ok (.iadd, 1) := by decide +kernel
theorem d_M_urge_33 : decode prog_5_method_24_code 33 = .ok (.putfield 133, 3) := by decide +kernel
theorem d_M_urge_36 : decode prog_5_method_24_code 36 = .ok (.aload_n 0, 1) := by decide +kernel
theorem d_M_urge_37 : decode prog_5_method_24_code 37 = .ok (.getfield 41, 3) := by decide +kernel
theorem d_M_urge_40 : decode prog_5_method_24_code 40 = .ok (.iload_n 1, 1) := by decide +kernel
theorem d_M_urge_41 : decode prog_5_method_24_code 41 = .ok (.aload_n 0, 1) := by decide +kernel
theorem d_M_urge_42 : decode prog_5_method_24_code 42 = .ok (.getfield 133, 3) := by decide +kernel
theorem d_M_urge_45 : decode prog_5_method_24_code 45 = .ok (.iastore, 1) := by decide +kernel
theorem d_M_urge_46 : decode prog_5_method_24_code 46 = .ok (.aload_n 0, 1) := by decide +kernel
theorem d_M_urge_47 : decode prog_5_method_24_code 47 = .ok (.invokevirtual 114, 3) := by decide +kernel
theorem d_M_urge_50 : decode prog_5_method_24_code 50 = .ok (.iconst 1, 1) := by decide +kernel
theorem d_M_urge_51 : decode prog_5_method_24_code 51 = .ok (.ireturn, 1) := by decide +kernel
abbrev y_M_tick : MethodName := ⟨"GridlockDeskModel", "tick", "(I)I"⟩
abbrev ws_M_tick : List Cond := .code y_M_tick prog_5_method_25_code 4 (some .int) :: TB
theorem d_M_tick_0 : decode prog_5_method_25_code 0 = .ok (.iload_n 1, 1) := by decide +kernel
theorem d_M_tick_1 : decode prog_5_method_25_code 1 = .ok (.iconst 1, 1) := by decide +kernel
theorem d_M_tick_2 : decode prog_5_method_25_code 2 = .ok (.if_icmp .lt 10, 3) := by decide +kernel
theorem d_M_tick_5 : decode prog_5_method_25_code 5 = .ok (.iload_n 1, 1) := by decide +kernel
theorem d_M_tick_6 : decode prog_5_method_25_code 6 = .ok (.sipush 1000, 3) := by decide +kernel
theorem d_M_tick_9 : decode prog_5_method_25_code 9 = .ok (.if_icmp .le 5, 3) := by decide +kernel
theorem d_M_tick_12 : decode prog_5_method_25_code 12 = .ok (.iconst (-1), 1) := by decide +kernel
theorem d_M_tick_13 : decode prog_5_method_25_code 13 = .ok (.ireturn, 1) := by decide +kernel
theorem d_M_tick_14 : decode prog_5_method_25_code 14 = .ok (.aload_n 0, 1) := by decide +kernel
theorem d_M_tick_15 : decode prog_5_method_25_code 15 = .ok (.aload_n 0, 1) := by decide +kernel
theorem d_M_tick_16 : decode prog_5_method_25_code 16 = .ok (.getfield 126, 3) := by decide +kernel
theorem d_M_tick_19 : decode prog_5_method_25_code 19 = .ok (.iload_n 1, 1) := by decide +kernel
theorem d_M_tick_20 : decode prog_5_method_25_code 20 = .ok (.iadd, 1) := by decide +kernel
theorem d_M_tick_21 : decode prog_5_method_25_code 21 = .ok (.putfield 126, 3) := by decide +kernel
theorem d_M_tick_24 : decode prog_5_method_25_code 24 = .ok (.iconst 0, 1) := by decide +kernel
theorem d_M_tick_25 : decode prog_5_method_25_code 25 = .ok (.istore_n 2, 1) := by decide +kernel
theorem d_M_tick_26 : decode prog_5_method_25_code 26 = .ok (.iconst 0, 1) := by decide +kernel
theorem d_M_tick_27 : decode prog_5_method_25_code 27 = .ok (.istore_n 3, 1) := by decide +kernel
theorem d_M_tick_28 : decode prog_5_method_25_code 28 = .ok (.iload_n 3, 1) := by decide +kernel
theorem d_M_tick_29 : decode prog_5_method_25_code 29 = .ok (.aload_n 0, 1) := by decide +kernel
theorem d_M_tick_30 : decode prog_5_method_25_code 30 = .ok (.getfield 68, 3) := by decide +kernel
theorem d_M_tick_33 : decode prog_5_method_25_code 33 = .ok (.if_icmp .ge 41, 3) := by decide +kernel
theorem d_M_tick_36 : decode prog_5_method_25_code 36 = .ok (.aload_n 0, 1) := by decide +kernel
theorem d_M_tick_37 : decode prog_5_method_25_code 37 = .ok (.getfield 44, 3) := by decide +kernel
theorem d_M_tick_40 : decode prog_5_method_25_code 40 = .ok (.iload_n 3, 1) := by decide +kernel
theorem d_M_tick_41 : decode prog_5_method_25_code 41 = .ok (.iaload, 1) := by decide +kernel
theorem d_M_tick_42 : decode prog_5_method_25_code 42 = .ok (.ifCond .ne 26, 3) := by decide +kernel
theorem d_M_tick_45 : decode prog_5_method_25_code 45 = .ok (.aload_n 0, 1) := by decide +kernel
theorem d_M_tick_46 : decode prog_5_method_25_code 46 = .ok (.getfield 38, 3) := by decide +kernel
theorem d_M_tick_49 : decode prog_5_method_25_code 49 = .ok (.iload_n 3, 1) := by decide +kernel
theorem d_M_tick_50 : decode prog_5_method_25_code 50 = .ok (.iaload, 1) := by decide +kernel
theorem d_M_tick_51 : decode prog_5_method_25_code 51 = .ok (.aload_n 0, 1) := by decide +kernel
theorem d_M_tick_52 : decode prog_5_method_25_code 52 = .ok (.getfield 126, 3) := by decide +kernel
theorem d_M_tick_55 : decode prog_5_method_25_code 55 = .ok (.if_icmp .ge 13, 3) := by decide +kernel
theorem d_M_tick_58 : decode prog_5_method_25_code 58 = .ok (.aload_n 0, 1) := by decide +kernel
theorem d_M_tick_59 : decode prog_5_method_25_code 59 = .ok (.getfield 44, 3) := by decide +kernel
theorem d_M_tick_62 : decode prog_5_method_25_code 62 = .ok (.iload_n 3, 1) := by decide +kernel
theorem d_M_tick_63 : decode prog_5_method_25_code 63 = .ok (.iconst 5, 1) := by decide +kernel
theorem d_M_tick_64 : decode prog_5_method_25_code 64 = .ok (.iastore, 1) := by decide +kernel
theorem d_M_tick_65 : decode prog_5_method_25_code 65 = .ok (.iinc 2 1, 3) := by decide +kernel
theorem d_M_tick_68 : decode prog_5_method_25_code 68 = .ok (.iinc 3 1, 3) := by decide +kernel
theorem d_M_tick_71 : decode prog_5_method_25_code 71 = .ok (.goto (-43), 3) := by decide +kernel
theorem d_M_tick_74 : decode prog_5_method_25_code 74 = .ok (.aload_n 0, 1) := by decide +kernel
theorem d_M_tick_75 : decode prog_5_method_25_code 75 = .ok (.invokevirtual 114, 3) := by decide +kernel
theorem d_M_tick_78 : decode prog_5_method_25_code 78 = .ok (.iload_n 2, 1) := by decide +kernel
theorem d_M_tick_79 : decode prog_5_method_25_code 79 = .ok (.ireturn, 1) := by decide +kernel
abbrev y_M_close : MethodName := ⟨"GridlockDeskModel", "close", "()I"⟩
abbrev ws_M_close : List Cond := .code y_M_close prog_5_method_26_code 3 (some .int) :: TB
theorem d_M_close_0 : decode prog_5_method_26_code 0 = .ok (.iconst 0, 1) := by decide +kernel
theorem d_M_close_1 : decode prog_5_method_26_code 1 = .ok (.istore_n 1, 1) := by decide +kernel
theorem d_M_close_2 : decode prog_5_method_26_code 2 = .ok (.iconst 0, 1) := by decide +kernel
theorem d_M_close_3 : decode prog_5_method_26_code 3 = .ok (.istore_n 2, 1) := by decide +kernel
theorem d_M_close_4 : decode prog_5_method_26_code 4 = .ok (.iload_n 2, 1) := by decide +kernel
theorem d_M_close_5 : decode prog_5_method_26_code 5 = .ok (.aload_n 0, 1) := by decide +kernel
theorem d_M_close_6 : decode prog_5_method_26_code 6 = .ok (.getfield 68, 3) := by decide +kernel
theorem d_M_close_9 : decode prog_5_method_26_code 9 = .ok (.if_icmp .ge 29, 3) := by decide +kernel
theorem d_M_close_12 : decode prog_5_method_26_code 12 = .ok (.aload_n 0, 1) := by decide +kernel
theorem d_M_close_13 : decode prog_5_method_26_code 13 = .ok (.getfield 44, 3) := by decide +kernel
theorem d_M_close_16 : decode prog_5_method_26_code 16 = .ok (.iload_n 2, 1) := by decide +kernel
theorem d_M_close_17 : decode prog_5_method_26_code 17 = .ok (.iaload, 1) := by decide +kernel
theorem d_M_close_18 : decode prog_5_method_26_code 18 = .ok (.ifCond .ne 14, 3) := by decide +kernel
theorem d_M_close_21 : decode prog_5_method_26_code 21 = .ok (.aload_n 0, 1) := by decide +kernel
theorem d_M_close_22 : decode prog_5_method_26_code 22 = .ok (.getfield 44, 3) := by decide +kernel
theorem d_M_close_25 : decode prog_5_method_26_code 25 = .ok (.iload_n 2, 1) := by decide +kernel
theorem d_M_close_26 : decode prog_5_method_26_code 26 = .ok (.bipush 6, 2) := by decide +kernel
theorem d_M_close_28 : decode prog_5_method_26_code 28 = .ok (.iastore, 1) := by decide +kernel
theorem d_M_close_29 : decode prog_5_method_26_code 29 = .ok (.iinc 1 1, 3) := by decide +kernel
theorem d_M_close_32 : decode prog_5_method_26_code 32 = .ok (.iinc 2 1, 3) := by decide +kernel
theorem d_M_close_35 : decode prog_5_method_26_code 35 = .ok (.goto (-31), 3) := by decide +kernel
theorem d_M_close_38 : decode prog_5_method_26_code 38 = .ok (.iconst 0, 1) := by decide +kernel
theorem d_M_close_39 : decode prog_5_method_26_code 39 = .ok (.istore_n 2, 1) := by decide +kernel
theorem d_M_close_40 : decode prog_5_method_26_code 40 = .ok (.iload_n 2, 1) := by decide +kernel
theorem d_M_close_41 : decode prog_5_method_26_code 41 = .ok (.bipush 16, 2) := by decide +kernel
theorem d_M_close_43 : decode prog_5_method_26_code 43 = .ok (.if_icmp .ge 16, 3) := by decide +kernel
theorem d_M_close_46 : decode prog_5_method_26_code 46 = .ok (.aload_n 0, 1) := by decide +kernel
theorem d_M_close_47 : decode prog_5_method_26_code 47 = .ok (.getfield 22, 3) := by decide +kernel
theorem d_M_close_50 : decode prog_5_method_26_code 50 = .ok (.iload_n 2, 1) := by decide +kernel
theorem d_M_close_51 : decode prog_5_method_26_code 51 = .ok (.lconst 0, 1) := by decide +kernel
theorem d_M_close_52 : decode prog_5_method_26_code 52 = .ok (.lastore, 1) := by decide +kernel
theorem d_M_close_53 : decode prog_5_method_26_code 53 = .ok (.iinc 2 1, 3) := by decide +kernel
theorem d_M_close_56 : decode prog_5_method_26_code 56 = .ok (.goto (-16), 3) := by decide +kernel
theorem d_M_close_59 : decode prog_5_method_26_code 59 = .ok (.iload_n 1, 1) := by decide +kernel
theorem d_M_close_60 : decode prog_5_method_26_code 60 = .ok (.ireturn, 1) := by decide +kernel
abbrev y_M_balance : MethodName := ⟨"GridlockDeskModel", "balance", "(I)J"⟩
abbrev ws_M_balance : List Cond := .code y_M_balance prog_5_method_27_code 2 (some .long) :: TB
theorem d_M_balance_0 : decode prog_5_method_27_code 0 = .ok (.aload_n 0, 1) := by decide +kernel
theorem d_M_balance_1 : decode prog_5_method_27_code 1 = .ok (.iload_n 1, 1) := by decide +kernel
theorem d_M_balance_2 : decode prog_5_method_27_code 2 = .ok (.invokevirtual 117, 3) := by decide +kernel
theorem d_M_balance_5 : decode prog_5_method_27_code 5 = .ok (.ifCond .eq 12, 3) := by decide +kernel
theorem d_M_balance_8 : decode prog_5_method_27_code 8 = .ok (.aload_n 0, 1) := by decide +kernel
theorem d_M_balance_9 : decode prog_5_method_27_code 9 = .ok (.getfield 7, 3) := by decide +kernel
theorem d_M_balance_12 : decode prog_5_method_27_code 12 = .ok (.iload_n 1, 1) := by decide +kernel
theorem d_M_balance_13 : decode prog_5_method_27_code 13 = .ok (.laload, 1) := by decide +kernel
theorem d_M_balance_14 : decode prog_5_method_27_code 14 = .ok (.goto 4, 3) := by decide +kernel
theorem d_M_balance_17 : decode prog_5_method_27_code 17 = .ok (.lconst 0, 1) := by decide +kernel
theorem d_M_balance_18 : decode prog_5_method_27_code 18 = .ok (.lreturn, 1) := by decide +kernel
abbrev y_M_position : MethodName := ⟨"GridlockDeskModel", "position", "(II)J"⟩
abbrev ws_M_position : List Cond := .code y_M_position prog_5_method_28_code 3 (some .long) :: TB
theorem d_M_position_0 : decode prog_5_method_28_code 0 = .ok (.aload_n 0, 1) := by decide +kernel
theorem d_M_position_1 : decode prog_5_method_28_code 1 = .ok (.iload_n 1, 1) := by decide +kernel
theorem d_M_position_2 : decode prog_5_method_28_code 2 = .ok (.invokevirtual 117, 3) := by decide +kernel
theorem d_M_position_5 : decode prog_5_method_28_code 5 = .ok (.ifCond .eq 35, 3) := by decide +kernel
theorem d_M_position_8 : decode prog_5_method_28_code 8 = .ok (.aload_n 0, 1) := by decide +kernel
theorem d_M_position_9 : decode prog_5_method_28_code 9 = .ok (.iload_n 2, 1) := by decide +kernel
theorem d_M_position_10 : decode prog_5_method_28_code 10 = .ok (.invokevirtual 117, 3) := by decide +kernel
theorem d_M_position_13 : decode prog_5_method_28_code 13 = .ok (.ifCond .eq 27, 3) := by decide +kernel
theorem d_M_position_16 : decode prog_5_method_28_code 16 = .ok (.aload_n 0, 1) := by decide +kernel
theorem d_M_position_17 : decode prog_5_method_28_code 17 = .ok (.getfield 22, 3) := by decide +kernel
theorem d_M_position_20 : decode prog_5_method_28_code 20 = .ok (.iconst 4, 1) := by decide +kernel
theorem d_M_position_21 : decode prog_5_method_28_code 21 = .ok (.iload_n 1, 1) := by decide +kernel
theorem d_M_position_22 : decode prog_5_method_28_code 22 = .ok (.imul, 1) := by decide +kernel
theorem d_M_position_23 : decode prog_5_method_28_code 23 = .ok (.iload_n 2, 1) := by decide +kernel
theorem d_M_position_24 : decode prog_5_method_28_code 24 = .ok (.iadd, 1) := by decide +kernel
theorem d_M_position_25 : decode prog_5_method_28_code 25 = .ok (.laload, 1) := by decide +kernel
theorem d_M_position_26 : decode prog_5_method_28_code 26 = .ok (.aload_n 0, 1) := by decide +kernel
theorem d_M_position_27 : decode prog_5_method_28_code 27 = .ok (.getfield 22, 3) := by decide +kernel
theorem d_M_position_30 : decode prog_5_method_28_code 30 = .ok (.iconst 4, 1) := by decide +kernel
theorem d_M_position_31 : decode prog_5_method_28_code 31 = .ok (.iload_n 2, 1) := by decide +kernel
theorem d_M_position_32 : decode prog_5_method_28_code 32 = .ok (.imul, 1) := by decide +kernel
theorem d_M_position_33 : decode prog_5_method_28_code 33 = .ok (.iload_n 1, 1) := by decide +kernel
theorem d_M_position_34 : decode prog_5_method_28_code 34 = .ok (.iadd, 1) := by decide +kernel
theorem d_M_position_35 : decode prog_5_method_28_code 35 = .ok (.laload, 1) := by decide +kernel
theorem d_M_position_36 : decode prog_5_method_28_code 36 = .ok (.lsub, 1) := by decide +kernel
theorem d_M_position_37 : decode prog_5_method_28_code 37 = .ok (.goto 4, 3) := by decide +kernel
theorem d_M_position_40 : decode prog_5_method_28_code 40 = .ok (.lconst 0, 1) := by decide +kernel
theorem d_M_position_41 : decode prog_5_method_28_code 41 = .ok (.lreturn, 1) := by decide +kernel
abbrev y_M_waiting : MethodName := ⟨"GridlockDeskModel", "waiting", "(I)I"⟩
abbrev ws_M_waiting : List Cond := .code y_M_waiting prog_5_method_29_code 2 (some .int) :: TB
theorem d_M_waiting_0 : decode prog_5_method_29_code 0 = .ok (.aload_n 0, 1) := by decide +kernel
theorem d_M_waiting_1 : decode prog_5_method_29_code 1 = .ok (.iload_n 1, 1) := by decide +kernel
theorem d_M_waiting_2 : decode prog_5_method_29_code 2 = .ok (.invokevirtual 117, 3) := by decide +kernel
theorem d_M_waiting_5 : decode prog_5_method_29_code 5 = .ok (.ifCond .eq 11, 3) := by decide +kernel
theorem d_M_waiting_8 : decode prog_5_method_29_code 8 = .ok (.aload_n 0, 1) := by decide +kernel
theorem d_M_waiting_9 : decode prog_5_method_29_code 9 = .ok (.iload_n 1, 1) := by decide +kernel
theorem d_M_waiting_10 : decode prog_5_method_29_code 10 = .ok (.invokevirtual 129, 3) := by decide +kernel
theorem d_M_waiting_13 : decode prog_5_method_29_code 13 = .ok (.goto 4, 3) := by decide +kernel
theorem d_M_waiting_16 : decode prog_5_method_29_code 16 = .ok (.iconst (-1), 1) := by decide +kernel
theorem d_M_waiting_17 : decode prog_5_method_29_code 17 = .ok (.ireturn, 1) := by decide +kernel
abbrev y_M_queued : MethodName := ⟨"GridlockDeskModel", "queued", "(II)I"⟩
abbrev ws_M_queued : List Cond := .code y_M_queued prog_5_method_30_code 3 (some .int) :: TB
theorem d_M_queued_0 : decode prog_5_method_30_code 0 = .ok (.aload_n 0, 1) := by decide +kernel
theorem d_M_queued_1 : decode prog_5_method_30_code 1 = .ok (.iload_n 1, 1) := by decide +kernel
theorem d_M_queued_2 : decode prog_5_method_30_code 2 = .ok (.invokevirtual 117, 3) := by decide +kernel
theorem d_M_queued_5 : decode prog_5_method_30_code 5 = .ok (.ifCond .ne 5, 3) := by decide +kernel
theorem d_M_queued_8 : decode prog_5_method_30_code 8 = .ok (.iconst (-1), 1) := by decide +kernel
theorem d_M_queued_9 : decode prog_5_method_30_code 9 = .ok (.ireturn, 1) := by decide +kernel
theorem d_M_queued_10 : decode prog_5_method_30_code 10 = .ok (.aload_n 0, 1) := by decide +kernel
theorem d_M_queued_11 : decode prog_5_method_30_code 11 = .ok (.invokevirtual 97, 3) := by decide +kernel
theorem d_M_queued_14 : decode prog_5_method_30_code 14 = .ok (.iload_n 2, 1) := by decide +kernel
theorem d_M_queued_15 : decode prog_5_method_30_code 15 = .ok (.ifCond .lt 13, 3) := by decide +kernel
theorem d_M_queued_18 : decode prog_5_method_30_code 18 = .ok (.iload_n 2, 1) := by decide +kernel
theorem d_M_queued_19 : decode prog_5_method_30_code 19 = .ok (.aload_n 0, 1) := by decide +kernel
theorem d_M_queued_20 : decode prog_5_method_30_code 20 = .ok (.getfield 50, 3) := by decide +kernel
theorem d_M_queued_23 : decode prog_5_method_30_code 23 = .ok (.iload_n 1, 1) := by decide +kernel
theorem d_M_queued_24 : decode prog_5_method_30_code 24 = .ok (.iaload, 1) := by decide +kernel
theorem d_M_queued_25 : decode prog_5_method_30_code 25 = .ok (.if_icmp .lt 7, 3) := by decide +kernel
theorem d_M_queued_28 : decode prog_5_method_30_code 28 = .ok (.iconst (-1), 1) := by decide +kernel
theorem d_M_queued_29 : decode prog_5_method_30_code 29 = .ok (.goto 14, 3) := by decide +kernel
theorem d_M_queued_32 : decode prog_5_method_30_code 32 = .ok (.aload_n 0, 1) := by decide +kernel
theorem d_M_queued_33 : decode prog_5_method_30_code 33 = .ok (.getfield 47, 3) := by decide +kernel
theorem d_M_queued_36 : decode prog_5_method_30_code 36 = .ok (.bipush 6, 2) := by decide +kernel
theorem d_M_queued_38 : decode prog_5_method_30_code 38 = .ok (.iload_n 1, 1) := by decide +kernel
theorem d_M_queued_39 : decode prog_5_method_30_code 39 = .ok (.imul, 1) := by decide +kernel
theorem d_M_queued_40 : decode prog_5_method_30_code 40 = .ok (.iload_n 2, 1) := by decide +kernel
theorem d_M_queued_41 : decode prog_5_method_30_code 41 = .ok (.iadd, 1) := by decide +kernel
theorem d_M_queued_42 : decode prog_5_method_30_code 42 = .ok (.iaload, 1) := by decide +kernel
theorem d_M_queued_43 : decode prog_5_method_30_code 43 = .ok (.ireturn, 1) := by decide +kernel
abbrev y_M_state : MethodName := ⟨"GridlockDeskModel", "state", "(I)I"⟩
abbrev ws_M_state : List Cond := .code y_M_state prog_5_method_31_code 2 (some .int) :: TB
theorem d_M_state_0 : decode prog_5_method_31_code 0 = .ok (.iload_n 1, 1) := by decide +kernel
theorem d_M_state_1 : decode prog_5_method_31_code 1 = .ok (.ifCond .lt 11, 3) := by decide +kernel
theorem d_M_state_4 : decode prog_5_method_31_code 4 = .ok (.iload_n 1, 1) := by decide +kernel
theorem d_M_state_5 : decode prog_5_method_31_code 5 = .ok (.aload_n 0, 1) := by decide +kernel
theorem d_M_state_6 : decode prog_5_method_31_code 6 = .ok (.getfield 68, 3) := by decide +kernel
theorem d_M_state_9 : decode prog_5_method_31_code 9 = .ok (.if_icmp .lt 7, 3) := by decide +kernel
theorem d_M_state_12 : decode prog_5_method_31_code 12 = .ok (.iconst (-1), 1) := by decide +kernel
theorem d_M_state_13 : decode prog_5_method_31_code 13 = .ok (.goto 9, 3) := by decide +kernel
theorem d_M_state_16 : decode prog_5_method_31_code 16 = .ok (.aload_n 0, 1) := by decide +kernel
theorem d_M_state_17 : decode prog_5_method_31_code 17 = .ok (.getfield 44, 3) := by decide +kernel
theorem d_M_state_20 : decode prog_5_method_31_code 20 = .ok (.iload_n 1, 1) := by decide +kernel
theorem d_M_state_21 : decode prog_5_method_31_code 21 = .ok (.iaload, 1) := by decide +kernel
theorem d_M_state_22 : decode prog_5_method_31_code 22 = .ok (.ireturn, 1) := by decide +kernel
abbrev y_M_turnover : MethodName := ⟨"GridlockDeskModel", "turnover", "()J"⟩
abbrev ws_M_turnover : List Cond := .code y_M_turnover prog_5_method_32_code 1 (some .long) :: TB
theorem d_M_turnover_0 : decode prog_5_method_32_code 0 = .ok (.aload_n 0, 1) := by decide +kernel
theorem d_M_turnover_1 : decode prog_5_method_32_code 1 = .ok (.getfield 86, 3) := by decide +kernel
theorem d_M_turnover_4 : decode prog_5_method_32_code 4 = .ok (.lreturn, 1) := by decide +kernel
abbrev y_M_now : MethodName := ⟨"GridlockDeskModel", "now", "()I"⟩
abbrev ws_M_now : List Cond := .code y_M_now prog_5_method_33_code 1 (some .int) :: TB
theorem d_M_now_0 : decode prog_5_method_33_code 0 = .ok (.aload_n 0, 1) := by decide +kernel
theorem d_M_now_1 : decode prog_5_method_33_code 1 = .ok (.getfield 126, 3) := by decide +kernel
theorem d_M_now_4 : decode prog_5_method_33_code 4 = .ok (.ireturn, 1) := by decide +kernel
