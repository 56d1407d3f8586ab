theorem r0_0 : rF 0 0 = 1 := by decide +kernel
theorem r0_1 : rF 0 1 = 13 := by decide +kernel
theorem r0_2 : rF 0 2 = 25 := by decide +kernel
theorem r0_3 : rF 0 3 = 27 := by decide +kernel
theorem r0_4 : rF 0 4 = 28 := by decide +kernel
theorem r0_5 : rF 0 5 = 30 := by decide +kernel
theorem r0_6 : rF 0 6 = 31 := by decide +kernel
theorem r0_7 : rF 0 7 = 35 := by decide +kernel
theorem r0_8 : rF 0 8 = 39 := by decide +kernel
theorem r0_9 : rF 0 9 = 105 := by decide +kernel
theorem r0_10 : rF 0 10 = 111 := by decide +kernel
theorem r0_11 : rF 0 11 = 156 := by decide +kernel
theorem r0_12 : rF 0 12 = 160 := by decide +kernel
theorem r1_4 : rF 1 4 = 2 := by decide +kernel
theorem r1_5 : rF 1 5 = 3 := by decide +kernel
theorem r1_6 : rF 1 6 = 4 := by decide +kernel
theorem r1_7 : rF 1 7 = 5 := by decide +kernel
theorem r1_8 : rF 1 8 = 6 := by decide +kernel
theorem r1_9 : rF 1 9 = 7 := by decide +kernel
theorem r1_10 : rF 1 10 = 8 := by decide +kernel
theorem r1_11 : rF 1 11 = 9 := by decide +kernel
theorem r1_12 : rF 1 12 = 10 := by decide +kernel
theorem l2 : sL 2 = 7 := by decide +kernel
theorem l3 : sL 3 = 5 := by decide +kernel
theorem l4 : sL 4 = 5 := by decide +kernel
theorem l5 : sL 5 = 8 := by decide +kernel
theorem l6 : sL 6 = 8 := by decide +kernel
theorem l7 : sL 7 = 8 := by decide +kernel
theorem l8 : sL 8 = 8 := by decide +kernel
theorem l9 : sL 9 = 12 := by decide +kernel
theorem r10_0 : rF 10 0 = 11 := by decide +kernel
theorem r10_1 : rF 10 1 = 12 := by decide +kernel
theorem l11 : sL 11 = 1000 := by decide +kernel
theorem l12 : sL 12 = 32 := by decide +kernel
theorem r13_4 : rF 13 4 = 14 := by decide +kernel
theorem r13_5 : rF 13 5 = 15 := by decide +kernel
theorem r13_6 : rF 13 6 = 16 := by decide +kernel
theorem r13_7 : rF 13 7 = 17 := by decide +kernel
theorem r13_8 : rF 13 8 = 18 := by decide +kernel
theorem r13_9 : rF 13 9 = 19 := by decide +kernel
theorem r13_10 : rF 13 10 = 20 := by decide +kernel
theorem r13_11 : rF 13 11 = 21 := by decide +kernel
theorem r13_12 : rF 13 12 = 22 := by decide +kernel
theorem l14 : sL 14 = 7 := by decide +kernel
theorem l15 : sL 15 = 5 := by decide +kernel
theorem l16 : sL 16 = 5 := by decide +kernel
theorem l17 : sL 17 = 8 := by decide +kernel
theorem l18 : sL 18 = 8 := by decide +kernel
theorem l19 : sL 19 = 8 := by decide +kernel
theorem l20 : sL 20 = 8 := by decide +kernel
theorem l21 : sL 21 = 12 := by decide +kernel
theorem r22_0 : rF 22 0 = 23 := by decide +kernel
theorem r22_1 : rF 22 1 = 24 := by decide +kernel
theorem l23 : sL 23 = 1000 := by decide +kernel
theorem l24 : sL 24 = 32 := by decide +kernel
theorem r25_0 : rF 25 0 = 26 := by decide +kernel
theorem l26 : sL 26 = 1000 := by decide +kernel
theorem r27_0 : rF 27 0 = 25 := by decide +kernel
theorem r28_0 : rF 28 0 = 25 := by decide +kernel
theorem r28_1 : rF 28 1 = 29 := by decide +kernel
theorem l29 : sL 29 = 40 := by decide +kernel
theorem l30 : sL 30 = 40 := by decide +kernel
theorem r31_0 : rF 31 0 = 1 := by decide +kernel
theorem r31_3 : rF 31 3 = 32 := by decide +kernel
theorem r31_4 : rF 31 4 = 33 := by decide +kernel
theorem r31_5 : rF 31 5 = 34 := by decide +kernel
theorem l32 : sL 32 = 8 := by decide +kernel
theorem l33 : sL 33 = 8 := by decide +kernel
theorem l34 : sL 34 = 5 := by decide +kernel
theorem r35_0 : rF 35 0 = 1 := by decide +kernel
theorem r35_3 : rF 35 3 = 36 := by decide +kernel
theorem r35_4 : rF 35 4 = 37 := by decide +kernel
theorem r35_5 : rF 35 5 = 38 := by decide +kernel
theorem l36 : sL 36 = 8 := by decide +kernel
theorem l37 : sL 37 = 8 := by decide +kernel
theorem l38 : sL 38 = 5 := by decide +kernel
theorem r39_0 : rF 39 0 = 40 := by decide +kernel
theorem l40 : sL 40 = 16 := by decide +kernel
theorem r41_0 : rF 41 0 = 1 := by decide +kernel
theorem r41_3 : rF 41 3 = 42 := by decide +kernel
theorem r41_4 : rF 41 4 = 43 := by decide +kernel
theorem r41_5 : rF 41 5 = 44 := by decide +kernel
theorem l42 : sL 42 = 8 := by decide +kernel
theorem l43 : sL 43 = 8 := by decide +kernel
theorem l44 : sL 44 = 5 := by decide +kernel
theorem r45_0 : rF 45 0 = 1 := by decide +kernel
theorem r45_3 : rF 45 3 = 46 := by decide +kernel
theorem r45_4 : rF 45 4 = 47 := by decide +kernel
theorem r45_5 : rF 45 5 = 48 := by decide +kernel
theorem l46 : sL 46 = 8 := by decide +kernel
theorem l47 : sL 47 = 8 := by decide +kernel
theorem l48 : sL 48 = 5 := by decide +kernel
theorem r49_0 : rF 49 0 = 1 := by decide +kernel
theorem r49_3 : rF 49 3 = 50 := by decide +kernel
theorem r49_4 : rF 49 4 = 51 := by decide +kernel
theorem r49_5 : rF 49 5 = 52 := by decide +kernel
theorem l50 : sL 50 = 8 := by decide +kernel
theorem l51 : sL 51 = 8 := by decide +kernel
theorem l52 : sL 52 = 5 := by decide +kernel
theorem r53_0 : rF 53 0 = 1 := by decide +kernel
theorem r53_3 : rF 53 3 = 54 := by decide +kernel
theorem r53_4 : rF 53 4 = 55 := by decide +kernel
theorem r53_5 : rF 53 5 = 56 := by decide +kernel
theorem l54 : sL 54 = 8 := by decide +kernel
theorem l55 : sL 55 = 8 := by decide +kernel
theorem l56 : sL 56 = 5 := by decide +kernel
theorem r57_0 : rF 57 0 = 1 := by decide +kernel
theorem r57_3 : rF 57 3 = 58 := by decide +kernel
theorem r57_4 : rF 57 4 = 59 := by decide +kernel
theorem r57_5 : rF 57 5 = 60 := by decide +kernel
theorem l58 : sL 58 = 8 := by decide +kernel
theorem l59 : sL 59 = 8 := by decide +kernel
theorem l60 : sL 60 = 5 := by decide +kernel
theorem r61_0 : rF 61 0 = 1 := by decide +kernel
theorem r61_3 : rF 61 3 = 62 := by decide +kernel
theorem r61_4 : rF 61 4 = 63 := by decide +kernel
theorem r61_5 : rF 61 5 = 64 := by decide +kernel
theorem l62 : sL 62 = 8 := by decide +kernel
theorem l63 : sL 63 = 8 := by decide +kernel
theorem l64 : sL 64 = 5 := by decide +kernel
theorem r65_0 : rF 65 0 = 1 := by decide +kernel
theorem r65_3 : rF 65 3 = 66 := by decide +kernel
theorem r65_4 : rF 65 4 = 67 := by decide +kernel
theorem r65_5 : rF 65 5 = 68 := by decide +kernel
theorem l66 : sL 66 = 8 := by decide +kernel
theorem l67 : sL 67 = 8 := by decide +kernel
theorem l68 : sL 68 = 5 := by decide +kernel
theorem r69_0 : rF 69 0 = 1 := by decide +kernel
theorem r69_3 : rF 69 3 = 70 := by decide +kernel
theorem r69_4 : rF 69 4 = 71 := by decide +kernel
theorem r69_5 : rF 69 5 = 72 := by decide +kernel
theorem l70 : sL 70 = 8 := by decide +kernel
theorem l71 : sL 71 = 8 := by decide +kernel
theorem l72 : sL 72 = 5 := by decide +kernel
theorem r73_0 : rF 73 0 = 1 := by decide +kernel
theorem r73_3 : rF 73 3 = 74 := by decide +kernel
theorem r73_4 : rF 73 4 = 75 := by decide +kernel
theorem r73_5 : rF 73 5 = 76 := by decide +kernel
theorem l74 : sL 74 = 8 := by decide +kernel
theorem l75 : sL 75 = 8 := by decide +kernel
theorem l76 : sL 76 = 5 := by decide +kernel
theorem r77_0 : rF 77 0 = 1 := by decide +kernel
theorem r77_3 : rF 77 3 = 78 := by decide +kernel
theorem r77_4 : rF 77 4 = 79 := by decide +kernel
theorem r77_5 : rF 77 5 = 80 := by decide +kernel
theorem l78 : sL 78 = 8 := by decide +kernel
theorem l79 : sL 79 = 8 := by decide +kernel
theorem l80 : sL 80 = 5 := by decide +kernel
theorem r81_0 : rF 81 0 = 1 := by decide +kernel
theorem r81_3 : rF 81 3 = 82 := by decide +kernel
theorem r81_4 : rF 81 4 = 83 := by decide +kernel
theorem r81_5 : rF 81 5 = 84 := by decide +kernel
theorem l82 : sL 82 = 8 := by decide +kernel
theorem l83 : sL 83 = 8 := by decide +kernel
theorem l84 : sL 84 = 5 := by decide +kernel
theorem r85_0 : rF 85 0 = 1 := by decide +kernel
theorem r85_3 : rF 85 3 = 86 := by decide +kernel
theorem r85_4 : rF 85 4 = 87 := by decide +kernel
theorem r85_5 : rF 85 5 = 88 := by decide +kernel
theorem l86 : sL 86 = 8 := by decide +kernel
theorem l87 : sL 87 = 8 := by decide +kernel
theorem l88 : sL 88 = 5 := by decide +kernel
theorem r89_0 : rF 89 0 = 1 := by decide +kernel
theorem r89_3 : rF 89 3 = 90 := by decide +kernel
theorem r89_4 : rF 89 4 = 91 := by decide +kernel
theorem r89_5 : rF 89 5 = 92 := by decide +kernel
theorem l90 : sL 90 = 8 := by decide +kernel
theorem l91 : sL 91 = 8 := by decide +kernel
theorem l92 : sL 92 = 5 := by decide +kernel
theorem r93_0 : rF 93 0 = 1 := by decide +kernel
theorem r93_3 : rF 93 3 = 94 := by decide +kernel
theorem r93_4 : rF 93 4 = 95 := by decide +kernel
theorem r93_5 : rF 93 5 = 96 := by decide +kernel
theorem l94 : sL 94 = 8 := by decide +kernel
theorem l95 : sL 95 = 8 := by decide +kernel
theorem l96 : sL 96 = 5 := by decide +kernel
theorem r97_0 : rF 97 0 = 1 := by decide +kernel
theorem r97_3 : rF 97 3 = 98 := by decide +kernel
theorem r97_4 : rF 97 4 = 99 := by decide +kernel
theorem r97_5 : rF 97 5 = 100 := by decide +kernel
theorem l98 : sL 98 = 8 := by decide +kernel
theorem l99 : sL 99 = 8 := by decide +kernel
theorem l100 : sL 100 = 5 := by decide +kernel
theorem r101_0 : rF 101 0 = 1 := by decide +kernel
theorem r101_3 : rF 101 3 = 102 := by decide +kernel
theorem r101_4 : rF 101 4 = 103 := by decide +kernel
theorem r101_5 : rF 101 5 = 104 := by decide +kernel
theorem l102 : sL 102 = 8 := by decide +kernel
theorem l103 : sL 103 = 8 := by decide +kernel
theorem l104 : sL 104 = 5 := by decide +kernel
theorem r105_2 : rF 105 2 = 106 := by decide +kernel
theorem r105_3 : rF 105 3 = 107 := by decide +kernel
theorem r105_4 : rF 105 4 = 108 := by decide +kernel
theorem r105_5 : rF 105 5 = 109 := by decide +kernel
theorem r105_6 : rF 105 6 = 110 := by decide +kernel
theorem l106 : sL 106 = 8 := by decide +kernel
theorem l107 : sL 107 = 8 := by decide +kernel
theorem l108 : sL 108 = 8 := by decide +kernel
theorem l109 : sL 109 = 8 := by decide +kernel
theorem l110 : sL 110 = 8 := by decide +kernel
theorem l111 : sL 111 = 4 := by decide +kernel
theorem r112_0 : rF 112 0 = 119 := by decide +kernel
theorem r112_1 : rF 112 1 = 113 := by decide +kernel
theorem r113_2 : rF 113 2 = 114 := by decide +kernel
theorem r113_3 : rF 113 3 = 115 := by decide +kernel
theorem r113_4 : rF 113 4 = 116 := by decide +kernel
theorem r113_5 : rF 113 5 = 117 := by decide +kernel
theorem r113_6 : rF 113 6 = 118 := by decide +kernel
theorem l114 : sL 114 = 8 := by decide +kernel
theorem l115 : sL 115 = 8 := by decide +kernel
theorem l116 : sL 116 = 8 := by decide +kernel
theorem l117 : sL 117 = 8 := by decide +kernel
theorem l118 : sL 118 = 8 := by decide +kernel
theorem r119_0 : rF 119 0 = 1 := by decide +kernel
theorem r119_3 : rF 119 3 = 120 := by decide +kernel
theorem r119_4 : rF 119 4 = 121 := by decide +kernel
theorem r119_5 : rF 119 5 = 122 := by decide +kernel
theorem l120 : sL 120 = 8 := by decide +kernel
theorem l121 : sL 121 = 8 := by decide +kernel
theorem l122 : sL 122 = 5 := by decide +kernel
theorem r123_0 : rF 123 0 = 130 := by decide +kernel
theorem r123_1 : rF 123 1 = 124 := by decide +kernel
theorem r124_2 : rF 124 2 = 125 := by decide +kernel
theorem r124_3 : rF 124 3 = 126 := by decide +kernel
theorem r124_4 : rF 124 4 = 127 := by decide +kernel
theorem r124_5 : rF 124 5 = 128 := by decide +kernel
theorem r124_6 : rF 124 6 = 129 := by decide +kernel
theorem l125 : sL 125 = 8 := by decide +kernel
theorem l126 : sL 126 = 8 := by decide +kernel
theorem l127 : sL 127 = 8 := by decide +kernel
theorem l128 : sL 128 = 8 := by decide +kernel
theorem l129 : sL 129 = 8 := by decide +kernel
theorem r130_0 : rF 130 0 = 1 := by decide +kernel
theorem r130_3 : rF 130 3 = 131 := by decide +kernel
theorem r130_4 : rF 130 4 = 132 := by decide +kernel
theorem r130_5 : rF 130 5 = 133 := by decide +kernel
theorem l131 : sL 131 = 8 := by decide +kernel
theorem l132 : sL 132 = 8 := by decide +kernel
theorem l133 : sL 133 = 5 := by decide +kernel
theorem r134_0 : rF 134 0 = 141 := by decide +kernel
theorem r134_1 : rF 134 1 = 135 := by decide +kernel
theorem r135_2 : rF 135 2 = 136 := by decide +kernel
theorem r135_3 : rF 135 3 = 137 := by decide +kernel
theorem r135_4 : rF 135 4 = 138 := by decide +kernel
theorem r135_5 : rF 135 5 = 139 := by decide +kernel
theorem r135_6 : rF 135 6 = 140 := by decide +kernel
theorem l136 : sL 136 = 8 := by decide +kernel
theorem l137 : sL 137 = 8 := by decide +kernel
theorem l138 : sL 138 = 8 := by decide +kernel
theorem l139 : sL 139 = 8 := by decide +kernel
theorem l140 : sL 140 = 8 := by decide +kernel
theorem r141_0 : rF 141 0 = 1 := by decide +kernel
theorem r141_3 : rF 141 3 = 142 := by decide +kernel
theorem r141_4 : rF 141 4 = 143 := by decide +kernel
theorem r141_5 : rF 141 5 = 144 := by decide +kernel
theorem l142 : sL 142 = 8 := by decide +kernel
theorem l143 : sL 143 = 8 := by decide +kernel
theorem l144 : sL 144 = 5 := by decide +kernel
theorem r145_0 : rF 145 0 = 152 := by decide +kernel
theorem r145_1 : rF 145 1 = 146 := by decide +kernel
theorem r146_2 : rF 146 2 = 147 := by decide +kernel
theorem r146_3 : rF 146 3 = 148 := by decide +kernel
theorem r146_4 : rF 146 4 = 149 := by decide +kernel
theorem r146_5 : rF 146 5 = 150 := by decide +kernel
theorem r146_6 : rF 146 6 = 151 := by decide +kernel
theorem l147 : sL 147 = 8 := by decide +kernel
theorem l148 : sL 148 = 8 := by decide +kernel
theorem l149 : sL 149 = 8 := by decide +kernel
theorem l150 : sL 150 = 8 := by decide +kernel
theorem l151 : sL 151 = 8 := by decide +kernel
theorem r152_0 : rF 152 0 = 1 := by decide +kernel
theorem r152_3 : rF 152 3 = 153 := by decide +kernel
theorem r152_4 : rF 152 4 = 154 := by decide +kernel
theorem r152_5 : rF 152 5 = 155 := by decide +kernel
theorem l153 : sL 153 = 8 := by decide +kernel
theorem l154 : sL 154 = 8 := by decide +kernel
theorem l155 : sL 155 = 5 := by decide +kernel
theorem r156_0 : rF 156 0 = 31 := by decide +kernel
theorem r156_1 : rF 156 1 = 1 := by decide +kernel
theorem r156_2 : rF 156 2 = 157 := by decide +kernel
theorem r156_3 : rF 156 3 = 158 := by decide +kernel
theorem r156_4 : rF 156 4 = 159 := by decide +kernel
theorem l157 : sL 157 = 61 := by decide +kernel
theorem l158 : sL 158 = 8 := by decide +kernel
theorem l159 : sL 159 = 80 := by decide +kernel
theorem r160_0 : rF 160 0 = 31 := by decide +kernel
theorem r160_1 : rF 160 1 = 1 := by decide +kernel
theorem r160_2 : rF 160 2 = 156 := by decide +kernel
theorem r160_3 : rF 160 3 = 161 := by decide +kernel
theorem r160_4 : rF 160 4 = 162 := by decide +kernel
theorem l161 : sL 161 = 3 := by decide +kernel
theorem l162 : sL 162 = 4 := by decide +kernel
theorem r163_1 : rF 163 1 = 164 := by decide +kernel
theorem r163_4 : rF 163 4 = 165 := by decide +kernel
theorem r163_5 : rF 163 5 = 166 := by decide +kernel
theorem r163_6 : rF 163 6 = 167 := by decide +kernel
theorem r163_9 : rF 163 9 = 168 := by decide +kernel
theorem r163_10 : rF 163 10 = 169 := by decide +kernel
theorem r163_11 : rF 163 11 = 170 := by decide +kernel
theorem r163_12 : rF 163 12 = 171 := by decide +kernel
theorem r163_14 : rF 163 14 = 172 := by decide +kernel
theorem r163_15 : rF 163 15 = 173 := by decide +kernel
theorem r163_16 : rF 163 16 = 174 := by decide +kernel
theorem r163_17 : rF 163 17 = 175 := by decide +kernel
theorem r163_21 : rF 163 21 = 176 := by decide +kernel
theorem r163_22 : rF 163 22 = 177 := by decide +kernel
theorem r163_23 : rF 163 23 = 178 := by decide +kernel
theorem r163_24 : rF 163 24 = 179 := by decide +kernel
theorem r163_26 : rF 163 26 = 180 := by decide +kernel
theorem r163_27 : rF 163 27 = 181 := by decide +kernel
theorem r163_28 : rF 163 28 = 182 := by decide +kernel
theorem r163_29 : rF 163 29 = 183 := by decide +kernel
theorem r163_30 : rF 163 30 = 184 := by decide +kernel
theorem l164 : sL 164 = 1000 := by decide +kernel
theorem l165 : sL 165 = 1002 := by decide +kernel
theorem l166 : sL 166 = 1002 := by decide +kernel
theorem l167 : sL 167 = 1002 := by decide +kernel
theorem l168 : sL 168 = 23 := by decide +kernel
theorem l169 : sL 169 = 120 := by decide +kernel
theorem l170 : sL 170 = 2200 := by decide +kernel
theorem l171 : sL 171 = 2200 := by decide +kernel
theorem l172 : sL 172 = 12 := by decide +kernel
theorem l173 : sL 173 = 12 := by decide +kernel
theorem l174 : sL 174 = 12 := by decide +kernel
theorem l175 : sL 175 = 12 := by decide +kernel
theorem l176 : sL 176 = 250 := by decide +kernel
theorem l177 : sL 177 = 4 := by decide +kernel
theorem l178 : sL 178 = 1100 := by decide +kernel
theorem l179 : sL 179 = 1495 := by decide +kernel
theorem l180 : sL 180 = 4 := by decide +kernel
theorem l181 : sL 181 = 41 := by decide +kernel
theorem l182 : sL 182 = 3 := by decide +kernel
theorem l183 : sL 183 = 8 := by decide +kernel
theorem l184 : sL 184 = 310 := by decide +kernel
theorem e40_0 : rA 40 0 = 41 := by decide +kernel
theorem e40_1 : rA 40 1 = 45 := by decide +kernel
theorem e40_2 : rA 40 2 = 49 := by decide +kernel
theorem e40_3 : rA 40 3 = 53 := by decide +kernel
theorem e40_4 : rA 40 4 = 57 := by decide +kernel
theorem e40_5 : rA 40 5 = 61 := by decide +kernel
theorem e40_6 : rA 40 6 = 65 := by decide +kernel
theorem e40_7 : rA 40 7 = 69 := by decide +kernel
theorem e40_8 : rA 40 8 = 73 := by decide +kernel
theorem e40_9 : rA 40 9 = 77 := by decide +kernel
theorem e40_10 : rA 40 10 = 81 := by decide +kernel
theorem e40_11 : rA 40 11 = 85 := by decide +kernel
theorem e40_12 : rA 40 12 = 89 := by decide +kernel
theorem e40_13 : rA 40 13 = 93 := by decide +kernel
theorem e40_14 : rA 40 14 = 97 := by decide +kernel
theorem e40_15 : rA 40 15 = 101 := by decide +kernel
theorem e111_0 : rA 111 0 = 112 := by decide +kernel
theorem e111_1 : rA 111 1 = 123 := by decide +kernel
theorem e111_2 : rA 111 2 = 134 := by decide +kernel
theorem e111_3 : rA 111 3 = 145 := by decide +kernel
theorem isSt : ∀ o ∈ [31, 35, 41, 45, 49, 53, 57, 61, 65, 69, 73, 77, 81, 85, 89, 93, 97, 101, 119, 130, 141, 152], isK o 19 := by unfold isK; decide +kernel
theorem stF : ∀ o ∈ [31, 35, 41, 45, 49, 53, 57, 61, 65, 69, 73, 77, 81, 85, 89, 93, 97, 101, 119, 130, 141, 152], rF o 0 = 1 ∧ rF o 3 = o + 1 ∧ rF o 4 = o + 2 ∧ rF o 5 = o + 3 ∧ sL (o + 1) = 8 ∧ sL (o + 2) = 8 ∧ sL (o + 3) = 5 := by decide +kernel
