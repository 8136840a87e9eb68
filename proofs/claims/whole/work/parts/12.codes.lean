/-! each method's code row stands in the tables -/
theorem in_t1 {w : Cond} (h : w ∈ tables_1_1) : w ∈ tables_1 := List.mem_append_left _ h
theorem in_t2 {w : Cond} (h : w ∈ tables_1_2) : w ∈ tables_1 := List.mem_append_right _ (List.mem_append_left _ h)
theorem in_t3 {w : Cond} (h : w ∈ tables_1_3) : w ∈ tables_1 := List.mem_append_right _ (List.mem_append_right _ (List.mem_append_left _ h))
theorem in_t4 {w : Cond} (h : w ∈ tables_1_4) : w ∈ tables_1 := List.mem_append_right _ (List.mem_append_right _ (List.mem_append_right _ (List.mem_append_left _ h)))
theorem in_t5 {w : Cond} (h : w ∈ tables_1_5) : w ∈ tables_1 := List.mem_append_right _ (List.mem_append_right _ (List.mem_append_right _ (List.mem_append_right _ (List.mem_append_left _ h))))
theorem in_t6 {w : Cond} (h : w ∈ tables_1_6) : w ∈ tables_1 := List.mem_append_right _ (List.mem_append_right _ (List.mem_append_right _ (List.mem_append_right _ (List.mem_append_right _ (List.mem_append_left _ h)))))
theorem in_t7 {w : Cond} (h : w ∈ tables_1_7) : w ∈ tables_1 := List.mem_append_right _ (List.mem_append_right _ (List.mem_append_right _ (List.mem_append_right _ (List.mem_append_right _ (List.mem_append_right _ (List.mem_append_left _ h))))))
theorem in_t8 {w : Cond} (h : w ∈ tables_1_8) : w ∈ tables_1 := List.mem_append_right _ (List.mem_append_right _ (List.mem_append_right _ (List.mem_append_right _ (List.mem_append_right _ (List.mem_append_right _ (List.mem_append_right _ (List.mem_append_left _ h)))))))
theorem in_t9 {w : Cond} (h : w ∈ tables_1_9) : w ∈ tables_1 := List.mem_append_right _ (List.mem_append_right _ (List.mem_append_right _ (List.mem_append_right _ (List.mem_append_right _ (List.mem_append_right _ (List.mem_append_right _ (List.mem_append_right _ (h))))))))
def cdP (m : Nat) : Prop := Cond.code (mN m) (mB m) (mX m) (mR m) ∈ tables_1
theorem cd_1 : cdP 1 := in_t1 (List.mem_of_getElem? (i := 26) rfl)
theorem cd_2 : cdP 2 := in_t3 (List.mem_of_getElem? (i := 37) rfl)
theorem cd_3 : cdP 3 := in_t3 (List.mem_of_getElem? (i := 40) rfl)
theorem cd_4 : cdP 4 := in_t3 (List.mem_of_getElem? (i := 44) rfl)
theorem cd_5 : cdP 5 := in_t3 (List.mem_of_getElem? (i := 61) rfl)
theorem cd_6 : cdP 6 := in_t3 (List.mem_of_getElem? (i := 68) rfl)
theorem cd_7 : cdP 7 := in_t3 (List.mem_of_getElem? (i := 72) rfl)
theorem cd_8 : cdP 8 := in_t3 (List.mem_of_getElem? (i := 76) rfl)
theorem cd_9 : cdP 9 := in_t3 (List.mem_of_getElem? (i := 80) rfl)
theorem cd_10 : cdP 10 := in_t3 (List.mem_of_getElem? (i := 84) rfl)
theorem cd_11 : cdP 11 := in_t3 (List.mem_of_getElem? (i := 88) rfl)
theorem cd_12 : cdP 12 := in_t3 (List.mem_of_getElem? (i := 92) rfl)
theorem cd_13 : cdP 13 := in_t3 (List.mem_of_getElem? (i := 96) rfl)
theorem cd_14 : cdP 14 := in_t4 (List.mem_of_getElem? (i := 75) rfl)
theorem cd_15 : cdP 15 := in_t4 (List.mem_of_getElem? (i := 79) rfl)
theorem cd_16 : cdP 16 := in_t4 (List.mem_of_getElem? (i := 87) rfl)
theorem cd_17 : cdP 17 := in_t4 (List.mem_of_getElem? (i := 100) rfl)
theorem cd_18 : cdP 18 := in_t4 (List.mem_of_getElem? (i := 175) rfl)
theorem cd_19 : cdP 19 := in_t4 (List.mem_of_getElem? (i := 194) rfl)
theorem cd_20 : cdP 20 := in_t4 (List.mem_of_getElem? (i := 229) rfl)
theorem cd_21 : cdP 21 := in_t5 (List.mem_of_getElem? (i := 19) rfl)
theorem cd_22 : cdP 22 := in_t5 (List.mem_of_getElem? (i := 23) rfl)
theorem cd_23 : cdP 23 := in_t5 (List.mem_of_getElem? (i := 39) rfl)
theorem cd_24 : cdP 24 := in_t5 (List.mem_of_getElem? (i := 64) rfl)
theorem cd_25 : cdP 25 := in_t5 (List.mem_of_getElem? (i := 76) rfl)
theorem cd_26 : cdP 26 := in_t5 (List.mem_of_getElem? (i := 80) rfl)
theorem cd_27 : cdP 27 := in_t5 (List.mem_of_getElem? (i := 94) rfl)
theorem cd_28 : cdP 28 := in_t5 (List.mem_of_getElem? (i := 100) rfl)
theorem cd_29 : cdP 29 := in_t5 (List.mem_of_getElem? (i := 105) rfl)
theorem cd_30 : cdP 30 := in_t5 (List.mem_of_getElem? (i := 114) rfl)
theorem cd_31 : cdP 31 := in_t5 (List.mem_of_getElem? (i := 160) rfl)
theorem cd_32 : cdP 32 := in_t5 (List.mem_of_getElem? (i := 164) rfl)
theorem cd_33 : cdP 33 := in_t5 (List.mem_of_getElem? (i := 168) rfl)
theorem cd_34 : cdP 34 := in_t5 (List.mem_of_getElem? (i := 177) rfl)
theorem cd_35 : cdP 35 := in_t5 (List.mem_of_getElem? (i := 186) rfl)
theorem cd_36 : cdP 36 := in_t5 (List.mem_of_getElem? (i := 204) rfl)
theorem cd_37 : cdP 37 := in_t5 (List.mem_of_getElem? (i := 239) rfl)
theorem cd_38 : cdP 38 := in_t6 (List.mem_of_getElem? (i := 5) rfl)
theorem cd_39 : cdP 39 := in_t6 (List.mem_of_getElem? (i := 14) rfl)
theorem cd_40 : cdP 40 := in_t6 (List.mem_of_getElem? (i := 18) rfl)
theorem cd_41 : cdP 41 := in_t6 (List.mem_of_getElem? (i := 32) rfl)
theorem cd_42 : cdP 42 := in_t6 (List.mem_of_getElem? (i := 54) rfl)
theorem cd_43 : cdP 43 := in_t6 (List.mem_of_getElem? (i := 73) rfl)
theorem cd_44 : cdP 44 := in_t6 (List.mem_of_getElem? (i := 77) rfl)
theorem cd_45 : cdP 45 := in_t6 (List.mem_of_getElem? (i := 81) rfl)
theorem cd_46 : cdP 46 := in_t6 (List.mem_of_getElem? (i := 85) rfl)
theorem cd_47 : cdP 47 := in_t6 (List.mem_of_getElem? (i := 89) rfl)
theorem cd_48 : cdP 48 := in_t6 (List.mem_of_getElem? (i := 92) rfl)
theorem cd_49 : cdP 49 := in_t6 (List.mem_of_getElem? (i := 95) rfl)
theorem cd_50 : cdP 50 := in_t6 (List.mem_of_getElem? (i := 99) rfl)
theorem cd_51 : cdP 51 := in_t6 (List.mem_of_getElem? (i := 104) rfl)
theorem cd_52 : cdP 52 := in_t6 (List.mem_of_getElem? (i := 122) rfl)
theorem cd_53 : cdP 53 := in_t6 (List.mem_of_getElem? (i := 126) rfl)
theorem cd_54 : cdP 54 := in_t1 (List.mem_of_getElem? (i := 34) rfl)
theorem cd_55 : cdP 55 := in_t3 (List.mem_of_getElem? (i := 48) rfl)
theorem cd_56 : cdP 56 := in_t3 (List.mem_of_getElem? (i := 52) rfl)
theorem cd_57 : cdP 57 := in_t3 (List.mem_of_getElem? (i := 57) rfl)
theorem cd_58 : cdP 58 := in_t3 (List.mem_of_getElem? (i := 65) rfl)
theorem cd_59 : cdP 59 := in_t4 (List.mem_of_getElem? (i := 83) rfl)
theorem cd_60 : cdP 60 := in_t4 (List.mem_of_getElem? (i := 127) rfl)
theorem cd_61 : cdP 61 := in_t4 (List.mem_of_getElem? (i := 202) rfl)
theorem cd_62 : cdP 62 := in_t5 (List.mem_of_getElem? (i := 10) rfl)
theorem cd_63 : cdP 63 := in_t5 (List.mem_of_getElem? (i := 56) rfl)
theorem cd_64 : cdP 64 := in_t6 (List.mem_of_getElem? (i := 10) rfl)
theorem cd_65 : cdP 65 := in_t6 (List.mem_of_getElem? (i := 108) rfl)
theorem cd_66 : cdP 66 := in_t1 (List.mem_of_getElem? (i := 153) rfl)
theorem cd_67 : cdP 67 := in_t4 (List.mem_of_getElem? (i := 95) rfl)
theorem cd_68 : cdP 68 := in_t4 (List.mem_of_getElem? (i := 109) rfl)
theorem cd_69 : cdP 69 := in_t5 (List.mem_of_getElem? (i := 15) rfl)
theorem cd_70 : cdP 70 := in_t5 (List.mem_of_getElem? (i := 72) rfl)
theorem cd_71 : cdP 71 := in_t5 (List.mem_of_getElem? (i := 109) rfl)
theorem cd_72 : cdP 72 := in_t6 (List.mem_of_getElem? (i := 113) rfl)
theorem cd_73 : cdP 73 := in_t1 (List.mem_of_getElem? (i := 211) rfl)
theorem cd_74 : cdP 74 := in_t4 (List.mem_of_getElem? (i := 91) rfl)
theorem cd_75 : cdP 75 := in_t5 (List.mem_of_getElem? (i := 68) rfl)
theorem cd_76 : cdP 76 := in_t6 (List.mem_of_getElem? (i := 117) rfl)
theorem cd_77 : cdP 77 := in_t1 (List.mem_of_getElem? (i := 228) rfl)
theorem cd_78 : cdP 78 := in_t4 (List.mem_of_getElem? (i := 123) rfl)
theorem cd_79 : cdP 79 := in_t4 (List.mem_of_getElem? (i := 144) rfl)
theorem cd_80 : cdP 80 := in_t4 (List.mem_of_getElem? (i := 149) rfl)
theorem cd_81 : cdP 81 := in_t4 (List.mem_of_getElem? (i := 155) rfl)
theorem cd_82 : cdP 82 := in_t4 (List.mem_of_getElem? (i := 161) rfl)
theorem cd_83 : cdP 83 := in_t4 (List.mem_of_getElem? (i := 168) rfl)
theorem cd_84 : cdP 84 := in_t4 (List.mem_of_getElem? (i := 189) rfl)
theorem cd_85 : cdP 85 := in_t4 (List.mem_of_getElem? (i := 206) rfl)
theorem cd_86 : cdP 86 := in_t4 (List.mem_of_getElem? (i := 219) rfl)
theorem cd_87 : cdP 87 := in_t4 (List.mem_of_getElem? (i := 225) rfl)
theorem cd_88 : cdP 88 := in_t5 (List.mem_of_getElem? (i := 6) rfl)
theorem cd_89 : cdP 89 := in_t5 (List.mem_of_getElem? (i := 85) rfl)
theorem cd_90 : cdP 90 := in_t5 (List.mem_of_getElem? (i := 89) rfl)
theorem cd_91 : cdP 91 := in_t5 (List.mem_of_getElem? (i := 133) rfl)
theorem cd_92 : cdP 92 := in_t2 (List.mem_of_getElem? (i := 4) rfl)
theorem cd_93 : cdP 93 := in_t4 (List.mem_of_getElem? (i := 105) rfl)
theorem cd_94 : cdP 94 := in_t4 (List.mem_of_getElem? (i := 113) rfl)
theorem cd_95 : cdP 95 := in_t4 (List.mem_of_getElem? (i := 179) rfl)
theorem cd_96 : cdP 96 := in_t4 (List.mem_of_getElem? (i := 184) rfl)
theorem cd_97 : cdP 97 := in_t4 (List.mem_of_getElem? (i := 198) rfl)
theorem cd_98 : cdP 98 := in_t4 (List.mem_of_getElem? (i := 211) rfl)
theorem cd_99 : cdP 99 := in_t4 (List.mem_of_getElem? (i := 215) rfl)
theorem cd_100 : cdP 100 := in_t4 (List.mem_of_getElem? (i := 233) rfl)
theorem cd_101 : cdP 101 := in_t4 (List.mem_of_getElem? (i := 237) rfl)
theorem cd_102 : cdP 102 := in_t5 (List.mem_of_getElem? (i := 1) rfl)
theorem cd_103 : cdP 103 := in_t5 (List.mem_of_getElem? (i := 43) rfl)
theorem cd_104 : cdP 104 := in_t5 (List.mem_of_getElem? (i := 48) rfl)
theorem cd_105 : cdP 105 := in_t5 (List.mem_of_getElem? (i := 52) rfl)
theorem cd_106 : cdP 106 := in_t2 (List.mem_of_getElem? (i := 23) rfl)
theorem cd_107 : cdP 107 := in_t5 (List.mem_of_getElem? (i := 118) rfl)
theorem cd_108 : cdP 108 := in_t5 (List.mem_of_getElem? (i := 125) rfl)
theorem cd_109 : cdP 109 := in_t5 (List.mem_of_getElem? (i := 129) rfl)
theorem cd_110 : cdP 110 := in_t5 (List.mem_of_getElem? (i := 141) rfl)
theorem cd_111 : cdP 111 := in_t5 (List.mem_of_getElem? (i := 147) rfl)
theorem cd_112 : cdP 112 := in_t5 (List.mem_of_getElem? (i := 151) rfl)
theorem cd_113 : cdP 113 := in_t5 (List.mem_of_getElem? (i := 156) rfl)
theorem cd_114 : cdP 114 := in_t5 (List.mem_of_getElem? (i := 172) rfl)
theorem cd_115 : cdP 115 := in_t5 (List.mem_of_getElem? (i := 181) rfl)
theorem cd_116 : cdP 116 := in_t5 (List.mem_of_getElem? (i := 190) rfl)
theorem cd_117 : cdP 117 := in_t5 (List.mem_of_getElem? (i := 195) rfl)
theorem cd_118 : cdP 118 := in_t5 (List.mem_of_getElem? (i := 199) rfl)
theorem cd_119 : cdP 119 := in_t4 (List.mem_of_getElem? (i := 52) rfl)
theorem cd_120 : cdP 120 := in_t4 (List.mem_of_getElem? (i := 132) rfl)
theorem cd_121 : cdP 121 := in_t4 (List.mem_of_getElem? (i := 136) rfl)
theorem cd_122 : cdP 122 := in_t4 (List.mem_of_getElem? (i := 140) rfl)
theorem cd_123 : cdP 123 := in_t5 (List.mem_of_getElem? (i := 27) rfl)
theorem cd_124 : cdP 124 := in_t2 (List.mem_of_getElem? (i := 94) rfl)
theorem cd_125 : cdP 125 := in_t5 (List.mem_of_getElem? (i := 208) rfl)
theorem cd_126 : cdP 126 := in_t5 (List.mem_of_getElem? (i := 212) rfl)
theorem cd_127 : cdP 127 := in_t5 (List.mem_of_getElem? (i := 217) rfl)
theorem cd_128 : cdP 128 := in_t5 (List.mem_of_getElem? (i := 221) rfl)
theorem cd_129 : cdP 129 := in_t5 (List.mem_of_getElem? (i := 225) rfl)
theorem cd_130 : cdP 130 := in_t5 (List.mem_of_getElem? (i := 230) rfl)
theorem cd_131 : cdP 131 := in_t5 (List.mem_of_getElem? (i := 234) rfl)
theorem cd_132 : cdP 132 := in_t2 (List.mem_of_getElem? (i := 120) rfl)
theorem cd_133 : cdP 133 := in_t6 (List.mem_of_getElem? (i := 22) rfl)
theorem cd_134 : cdP 134 := in_t6 (List.mem_of_getElem? (i := 27) rfl)
theorem cd_135 : cdP 135 := in_t6 (List.mem_of_getElem? (i := 36) rfl)
theorem cd_136 : cdP 136 := in_t6 (List.mem_of_getElem? (i := 40) rfl)
theorem cd_137 : cdP 137 := in_t6 (List.mem_of_getElem? (i := 44) rfl)
theorem cd_138 : cdP 138 := in_t6 (List.mem_of_getElem? (i := 49) rfl)
theorem cd_139 : cdP 139 := in_t6 (List.mem_of_getElem? (i := 58) rfl)
theorem cd_140 : cdP 140 := in_t6 (List.mem_of_getElem? (i := 63) rfl)
theorem cd_141 : cdP 141 := in_t6 (List.mem_of_getElem? (i := 68) rfl)
theorem cd_142 : cdP 142 := in_t2 (List.mem_of_getElem? (i := 143) rfl)
theorem cd_143 : cdP 143 := in_t3 (List.mem_of_getElem? (i := 100) rfl)
theorem cd_144 : cdP 144 := in_t3 (List.mem_of_getElem? (i := 203) rfl)
theorem cd_145 : cdP 145 := in_t3 (List.mem_of_getElem? (i := 207) rfl)
theorem cd_146 : cdP 146 := in_t3 (List.mem_of_getElem? (i := 211) rfl)
theorem cd_147 : cdP 147 := in_t3 (List.mem_of_getElem? (i := 219) rfl)
theorem cd_148 : cdP 148 := in_t3 (List.mem_of_getElem? (i := 223) rfl)
theorem cd_149 : cdP 149 := in_t3 (List.mem_of_getElem? (i := 227) rfl)
theorem cd_150 : cdP 150 := in_t3 (List.mem_of_getElem? (i := 231) rfl)
theorem cd_151 : cdP 151 := in_t3 (List.mem_of_getElem? (i := 235) rfl)
theorem cd_152 : cdP 152 := in_t3 (List.mem_of_getElem? (i := 239) rfl)
theorem cd_153 : cdP 153 := in_t4 (List.mem_of_getElem? (i := 4) rfl)
theorem cd_154 : cdP 154 := in_t4 (List.mem_of_getElem? (i := 8) rfl)
theorem cd_155 : cdP 155 := in_t4 (List.mem_of_getElem? (i := 12) rfl)
theorem cd_156 : cdP 156 := in_t4 (List.mem_of_getElem? (i := 16) rfl)
theorem cd_157 : cdP 157 := in_t4 (List.mem_of_getElem? (i := 20) rfl)
theorem cd_158 : cdP 158 := in_t4 (List.mem_of_getElem? (i := 24) rfl)
theorem cd_159 : cdP 159 := in_t4 (List.mem_of_getElem? (i := 27) rfl)
theorem cd_160 : cdP 160 := in_t4 (List.mem_of_getElem? (i := 31) rfl)
theorem cd_161 : cdP 161 := in_t2 (List.mem_of_getElem? (i := 149) rfl)
theorem cd_162 : cdP 162 := in_t3 (List.mem_of_getElem? (i := 107) rfl)
theorem cd_163 : cdP 163 := in_t3 (List.mem_of_getElem? (i := 117) rfl)
theorem cd_164 : cdP 164 := in_t3 (List.mem_of_getElem? (i := 121) rfl)
theorem cd_165 : cdP 165 := in_t3 (List.mem_of_getElem? (i := 124) rfl)
theorem cd_166 : cdP 166 := in_t3 (List.mem_of_getElem? (i := 127) rfl)
theorem cd_167 : cdP 167 := in_t3 (List.mem_of_getElem? (i := 131) rfl)
theorem cd_168 : cdP 168 := in_t3 (List.mem_of_getElem? (i := 135) rfl)
theorem cd_169 : cdP 169 := in_t3 (List.mem_of_getElem? (i := 188) rfl)
theorem cd_170 : cdP 170 := in_t3 (List.mem_of_getElem? (i := 191) rfl)
theorem cd_171 : cdP 171 := in_t3 (List.mem_of_getElem? (i := 195) rfl)
theorem cd_172 : cdP 172 := in_t3 (List.mem_of_getElem? (i := 199) rfl)
theorem cd_173 : cdP 173 := in_t6 (List.mem_of_getElem? (i := 131) rfl)
theorem cd_174 : cdP 174 := in_t6 (List.mem_of_getElem? (i := 135) rfl)
theorem cd_175 : cdP 175 := in_t7 (List.mem_of_getElem? (i := 7) rfl)
theorem cd_176 : cdP 176 := in_t7 (List.mem_of_getElem? (i := 10) rfl)
theorem cd_177 : cdP 177 := in_t7 (List.mem_of_getElem? (i := 14) rfl)
theorem cd_178 : cdP 178 := in_t7 (List.mem_of_getElem? (i := 18) rfl)
theorem cd_179 : cdP 179 := in_t7 (List.mem_of_getElem? (i := 22) rfl)
theorem cd_180 : cdP 180 := in_t7 (List.mem_of_getElem? (i := 26) rfl)
theorem cd_181 : cdP 181 := in_t7 (List.mem_of_getElem? (i := 30) rfl)
theorem cd_182 : cdP 182 := in_t7 (List.mem_of_getElem? (i := 34) rfl)
theorem cd_183 : cdP 183 := in_t7 (List.mem_of_getElem? (i := 38) rfl)
theorem cd_184 : cdP 184 := in_t7 (List.mem_of_getElem? (i := 42) rfl)
theorem cd_185 : cdP 185 := in_t7 (List.mem_of_getElem? (i := 46) rfl)
theorem cd_186 : cdP 186 := in_t7 (List.mem_of_getElem? (i := 50) rfl)
theorem cd_187 : cdP 187 := in_t7 (List.mem_of_getElem? (i := 54) rfl)
theorem cd_188 : cdP 188 := in_t7 (List.mem_of_getElem? (i := 58) rfl)
theorem cd_189 : cdP 189 := in_t7 (List.mem_of_getElem? (i := 62) rfl)
theorem cd_190 : cdP 190 := in_t7 (List.mem_of_getElem? (i := 66) rfl)
theorem cd_191 : cdP 191 := in_t7 (List.mem_of_getElem? (i := 70) rfl)
theorem cd_192 : cdP 192 := in_t7 (List.mem_of_getElem? (i := 73) rfl)
theorem cd_193 : cdP 193 := in_t7 (List.mem_of_getElem? (i := 77) rfl)
theorem cd_194 : cdP 194 := in_t7 (List.mem_of_getElem? (i := 81) rfl)
theorem cd_195 : cdP 195 := in_t7 (List.mem_of_getElem? (i := 85) rfl)
theorem cd_196 : cdP 196 := in_t7 (List.mem_of_getElem? (i := 89) rfl)
theorem cd_197 : cdP 197 := in_t7 (List.mem_of_getElem? (i := 92) rfl)
theorem cd_198 : cdP 198 := in_t7 (List.mem_of_getElem? (i := 95) rfl)
theorem cd_199 : cdP 199 := in_t7 (List.mem_of_getElem? (i := 98) rfl)
theorem cd_200 : cdP 200 := in_t7 (List.mem_of_getElem? (i := 101) rfl)
theorem cd_201 : cdP 201 := in_t7 (List.mem_of_getElem? (i := 105) rfl)
theorem cd_202 : cdP 202 := in_t7 (List.mem_of_getElem? (i := 110) rfl)
theorem cd_203 : cdP 203 := in_t7 (List.mem_of_getElem? (i := 114) rfl)
theorem cd_204 : cdP 204 := in_t7 (List.mem_of_getElem? (i := 118) rfl)
theorem cd_205 : cdP 205 := in_t7 (List.mem_of_getElem? (i := 122) rfl)
theorem cd_206 : cdP 206 := in_t7 (List.mem_of_getElem? (i := 126) rfl)
theorem cd_207 : cdP 207 := in_t7 (List.mem_of_getElem? (i := 131) rfl)
theorem cd_208 : cdP 208 := in_t7 (List.mem_of_getElem? (i := 135) rfl)
theorem cd_209 : cdP 209 := in_t7 (List.mem_of_getElem? (i := 139) rfl)
theorem cd_210 : cdP 210 := in_t7 (List.mem_of_getElem? (i := 145) rfl)
theorem cd_211 : cdP 211 := in_t7 (List.mem_of_getElem? (i := 149) rfl)
theorem cd_212 : cdP 212 := in_t7 (List.mem_of_getElem? (i := 153) rfl)
theorem cd_213 : cdP 213 := in_t7 (List.mem_of_getElem? (i := 156) rfl)
theorem cd_214 : cdP 214 := in_t7 (List.mem_of_getElem? (i := 160) rfl)
theorem cd_215 : cdP 215 := in_t7 (List.mem_of_getElem? (i := 164) rfl)
theorem cd_216 : cdP 216 := in_t7 (List.mem_of_getElem? (i := 168) rfl)
theorem cd_217 : cdP 217 := in_t7 (List.mem_of_getElem? (i := 172) rfl)
theorem cd_218 : cdP 218 := in_t7 (List.mem_of_getElem? (i := 176) rfl)
theorem cd_219 : cdP 219 := in_t7 (List.mem_of_getElem? (i := 180) rfl)
theorem cd_220 : cdP 220 := in_t7 (List.mem_of_getElem? (i := 184) rfl)
theorem cd_221 : cdP 221 := in_t7 (List.mem_of_getElem? (i := 188) rfl)
theorem cd_222 : cdP 222 := in_t7 (List.mem_of_getElem? (i := 192) rfl)
theorem cd_223 : cdP 223 := in_t7 (List.mem_of_getElem? (i := 196) rfl)
theorem cd_224 : cdP 224 := in_t7 (List.mem_of_getElem? (i := 200) rfl)
theorem cd_225 : cdP 225 := in_t7 (List.mem_of_getElem? (i := 204) rfl)
theorem cd_226 : cdP 226 := in_t7 (List.mem_of_getElem? (i := 208) rfl)
theorem cd_227 : cdP 227 := in_t7 (List.mem_of_getElem? (i := 212) rfl)
theorem cd_228 : cdP 228 := in_t7 (List.mem_of_getElem? (i := 217) rfl)
theorem cd_229 : cdP 229 := in_t7 (List.mem_of_getElem? (i := 221) rfl)
theorem cd_230 : cdP 230 := in_t7 (List.mem_of_getElem? (i := 225) rfl)
theorem cd_231 : cdP 231 := in_t7 (List.mem_of_getElem? (i := 228) rfl)
theorem cd_232 : cdP 232 := in_t7 (List.mem_of_getElem? (i := 232) rfl)
theorem cd_233 : cdP 233 := in_t7 (List.mem_of_getElem? (i := 236) rfl)
theorem cd_234 : cdP 234 := in_t8 (List.mem_of_getElem? (i := 0) rfl)
theorem cd_235 : cdP 235 := in_t8 (List.mem_of_getElem? (i := 3) rfl)
theorem cd_236 : cdP 236 := in_t8 (List.mem_of_getElem? (i := 6) rfl)
theorem cd_237 : cdP 237 := in_t8 (List.mem_of_getElem? (i := 12) rfl)
theorem cd_238 : cdP 238 := in_t8 (List.mem_of_getElem? (i := 16) rfl)
theorem cd_239 : cdP 239 := in_t8 (List.mem_of_getElem? (i := 20) rfl)
theorem cd_240 : cdP 240 := in_t8 (List.mem_of_getElem? (i := 24) rfl)
theorem cd_241 : cdP 241 := in_t8 (List.mem_of_getElem? (i := 28) rfl)
theorem cd_242 : cdP 242 := in_t8 (List.mem_of_getElem? (i := 32) rfl)
theorem cd_243 : cdP 243 := in_t8 (List.mem_of_getElem? (i := 36) rfl)
theorem cd_244 : cdP 244 := in_t8 (List.mem_of_getElem? (i := 40) rfl)
theorem cd_245 : cdP 245 := in_t8 (List.mem_of_getElem? (i := 44) rfl)
theorem cd_246 : cdP 246 := in_t8 (List.mem_of_getElem? (i := 48) rfl)
theorem cd_247 : cdP 247 := in_t8 (List.mem_of_getElem? (i := 52) rfl)
theorem cd_248 : cdP 248 := in_t8 (List.mem_of_getElem? (i := 56) rfl)
theorem cd_249 : cdP 249 := in_t8 (List.mem_of_getElem? (i := 60) rfl)
theorem cd_250 : cdP 250 := in_t8 (List.mem_of_getElem? (i := 64) rfl)
theorem cd_251 : cdP 251 := in_t8 (List.mem_of_getElem? (i := 68) rfl)
theorem cd_252 : cdP 252 := in_t8 (List.mem_of_getElem? (i := 72) rfl)
theorem cd_253 : cdP 253 := in_t8 (List.mem_of_getElem? (i := 76) rfl)
theorem cd_254 : cdP 254 := in_t8 (List.mem_of_getElem? (i := 88) rfl)
theorem cd_255 : cdP 255 := in_t8 (List.mem_of_getElem? (i := 92) rfl)
theorem cd_256 : cdP 256 := in_t8 (List.mem_of_getElem? (i := 96) rfl)
theorem cd_257 : cdP 257 := in_t8 (List.mem_of_getElem? (i := 100) rfl)
theorem cd_258 : cdP 258 := in_t8 (List.mem_of_getElem? (i := 104) rfl)
theorem cd_259 : cdP 259 := in_t8 (List.mem_of_getElem? (i := 108) rfl)
theorem cd_260 : cdP 260 := in_t8 (List.mem_of_getElem? (i := 112) rfl)
theorem cd_261 : cdP 261 := in_t8 (List.mem_of_getElem? (i := 116) rfl)
theorem cd_262 : cdP 262 := in_t8 (List.mem_of_getElem? (i := 120) rfl)
theorem cd_263 : cdP 263 := in_t8 (List.mem_of_getElem? (i := 124) rfl)
theorem cd_264 : cdP 264 := in_t8 (List.mem_of_getElem? (i := 128) rfl)
theorem cd_265 : cdP 265 := in_t8 (List.mem_of_getElem? (i := 132) rfl)
theorem cd_266 : cdP 266 := in_t8 (List.mem_of_getElem? (i := 136) rfl)
theorem cd_267 : cdP 267 := in_t8 (List.mem_of_getElem? (i := 140) rfl)
theorem cd_268 : cdP 268 := in_t8 (List.mem_of_getElem? (i := 144) rfl)
theorem cd_269 : cdP 269 := in_t8 (List.mem_of_getElem? (i := 148) rfl)
theorem cd_270 : cdP 270 := in_t8 (List.mem_of_getElem? (i := 152) rfl)
theorem cd_271 : cdP 271 := in_t8 (List.mem_of_getElem? (i := 156) rfl)
theorem cd_272 : cdP 272 := in_t8 (List.mem_of_getElem? (i := 160) rfl)
theorem cd_273 : cdP 273 := in_t8 (List.mem_of_getElem? (i := 164) rfl)
theorem cd_274 : cdP 274 := in_t8 (List.mem_of_getElem? (i := 168) rfl)
theorem cd_275 : cdP 275 := in_t8 (List.mem_of_getElem? (i := 172) rfl)
theorem cd_276 : cdP 276 := in_t8 (List.mem_of_getElem? (i := 176) rfl)
theorem cd_277 : cdP 277 := in_t8 (List.mem_of_getElem? (i := 180) rfl)
theorem cd_278 : cdP 278 := in_t8 (List.mem_of_getElem? (i := 184) rfl)
theorem cd_279 : cdP 279 := in_t8 (List.mem_of_getElem? (i := 189) rfl)
theorem cd_280 : cdP 280 := in_t8 (List.mem_of_getElem? (i := 193) rfl)
theorem cd_281 : cdP 281 := in_t8 (List.mem_of_getElem? (i := 197) rfl)
theorem cd_282 : cdP 282 := in_t8 (List.mem_of_getElem? (i := 201) rfl)
theorem cd_283 : cdP 283 := in_t8 (List.mem_of_getElem? (i := 205) rfl)
theorem cd_284 : cdP 284 := in_t8 (List.mem_of_getElem? (i := 209) rfl)
theorem cd_285 : cdP 285 := in_t8 (List.mem_of_getElem? (i := 213) rfl)
theorem cd_286 : cdP 286 := in_t8 (List.mem_of_getElem? (i := 217) rfl)
theorem cd_287 : cdP 287 := in_t8 (List.mem_of_getElem? (i := 221) rfl)
theorem cd_288 : cdP 288 := in_t8 (List.mem_of_getElem? (i := 225) rfl)
theorem cd_289 : cdP 289 := in_t8 (List.mem_of_getElem? (i := 229) rfl)
theorem cd_290 : cdP 290 := in_t8 (List.mem_of_getElem? (i := 233) rfl)
theorem cd_291 : cdP 291 := in_t8 (List.mem_of_getElem? (i := 237) rfl)
theorem cd_292 : cdP 292 := in_t9 (List.mem_of_getElem? (i := 1) rfl)
theorem cd_293 : cdP 293 := in_t9 (List.mem_of_getElem? (i := 6) rfl)
theorem cd_294 : cdP 294 := in_t9 (List.mem_of_getElem? (i := 9) rfl)
theorem cd_295 : cdP 295 := in_t9 (List.mem_of_getElem? (i := 13) rfl)
theorem cd_296 : cdP 296 := in_t9 (List.mem_of_getElem? (i := 18) rfl)
theorem cd_297 : cdP 297 := in_t9 (List.mem_of_getElem? (i := 22) rfl)
theorem cd_298 : cdP 298 := in_t9 (List.mem_of_getElem? (i := 26) rfl)
theorem cd_299 : cdP 299 := in_t9 (List.mem_of_getElem? (i := 30) rfl)
theorem cd_300 : cdP 300 := in_t9 (List.mem_of_getElem? (i := 33) rfl)
theorem cd_301 : cdP 301 := in_t9 (List.mem_of_getElem? (i := 38) rfl)
theorem cd_302 : cdP 302 := in_t9 (List.mem_of_getElem? (i := 41) rfl)
theorem cd_303 : cdP 303 := in_t9 (List.mem_of_getElem? (i := 45) rfl)
theorem cd_304 : cdP 304 := in_t9 (List.mem_of_getElem? (i := 49) rfl)
theorem cd_305 : cdP 305 := in_t9 (List.mem_of_getElem? (i := 54) rfl)
theorem cd_306 : cdP 306 := in_t9 (List.mem_of_getElem? (i := 58) rfl)
theorem cd_307 : cdP 307 := in_t9 (List.mem_of_getElem? (i := 62) rfl)
theorem cd_308 : cdP 308 := in_t4 (List.mem_of_getElem? (i := 116) rfl)
theorem cd_309 : cdP 309 := in_t3 (List.mem_of_getElem? (i := 103) rfl)
theorem cd_310 : cdP 310 := in_t4 (List.mem_of_getElem? (i := 34) rfl)
theorem cd_all : ∀ m, 0 < m → m < 311 → cdP m
  | 0, h, _ => absurd h (by decide)
  | 1, _, _ => cd_1
  | 2, _, _ => cd_2
  | 3, _, _ => cd_3
  | 4, _, _ => cd_4
  | 5, _, _ => cd_5
  | 6, _, _ => cd_6
  | 7, _, _ => cd_7
  | 8, _, _ => cd_8
  | 9, _, _ => cd_9
  | 10, _, _ => cd_10
  | 11, _, _ => cd_11
  | 12, _, _ => cd_12
  | 13, _, _ => cd_13
  | 14, _, _ => cd_14
  | 15, _, _ => cd_15
  | 16, _, _ => cd_16
  | 17, _, _ => cd_17
  | 18, _, _ => cd_18
  | 19, _, _ => cd_19
  | 20, _, _ => cd_20
  | 21, _, _ => cd_21
  | 22, _, _ => cd_22
  | 23, _, _ => cd_23
  | 24, _, _ => cd_24
  | 25, _, _ => cd_25
  | 26, _, _ => cd_26
  | 27, _, _ => cd_27
  | 28, _, _ => cd_28
  | 29, _, _ => cd_29
  | 30, _, _ => cd_30
  | 31, _, _ => cd_31
  | 32, _, _ => cd_32
  | 33, _, _ => cd_33
  | 34, _, _ => cd_34
  | 35, _, _ => cd_35
  | 36, _, _ => cd_36
  | 37, _, _ => cd_37
  | 38, _, _ => cd_38
  | 39, _, _ => cd_39
  | 40, _, _ => cd_40
  | 41, _, _ => cd_41
  | 42, _, _ => cd_42
  | 43, _, _ => cd_43
  | 44, _, _ => cd_44
  | 45, _, _ => cd_45
  | 46, _, _ => cd_46
  | 47, _, _ => cd_47
  | 48, _, _ => cd_48
  | 49, _, _ => cd_49
  | 50, _, _ => cd_50
  | 51, _, _ => cd_51
  | 52, _, _ => cd_52
  | 53, _, _ => cd_53
  | 54, _, _ => cd_54
  | 55, _, _ => cd_55
  | 56, _, _ => cd_56
  | 57, _, _ => cd_57
  | 58, _, _ => cd_58
  | 59, _, _ => cd_59
  | 60, _, _ => cd_60
  | 61, _, _ => cd_61
  | 62, _, _ => cd_62
  | 63, _, _ => cd_63
  | 64, _, _ => cd_64
  | 65, _, _ => cd_65
  | 66, _, _ => cd_66
  | 67, _, _ => cd_67
  | 68, _, _ => cd_68
  | 69, _, _ => cd_69
  | 70, _, _ => cd_70
  | 71, _, _ => cd_71
  | 72, _, _ => cd_72
  | 73, _, _ => cd_73
  | 74, _, _ => cd_74
  | 75, _, _ => cd_75
  | 76, _, _ => cd_76
  | 77, _, _ => cd_77
  | 78, _, _ => cd_78
  | 79, _, _ => cd_79
  | 80, _, _ => cd_80
  | 81, _, _ => cd_81
  | 82, _, _ => cd_82
  | 83, _, _ => cd_83
  | 84, _, _ => cd_84
  | 85, _, _ => cd_85
  | 86, _, _ => cd_86
  | 87, _, _ => cd_87
  | 88, _, _ => cd_88
  | 89, _, _ => cd_89
  | 90, _, _ => cd_90
  | 91, _, _ => cd_91
  | 92, _, _ => cd_92
  | 93, _, _ => cd_93
  | 94, _, _ => cd_94
  | 95, _, _ => cd_95
  | 96, _, _ => cd_96
  | 97, _, _ => cd_97
  | 98, _, _ => cd_98
  | 99, _, _ => cd_99
  | 100, _, _ => cd_100
  | 101, _, _ => cd_101
  | 102, _, _ => cd_102
  | 103, _, _ => cd_103
  | 104, _, _ => cd_104
  | 105, _, _ => cd_105
  | 106, _, _ => cd_106
  | 107, _, _ => cd_107
  | 108, _, _ => cd_108
  | 109, _, _ => cd_109
  | 110, _, _ => cd_110
  | 111, _, _ => cd_111
  | 112, _, _ => cd_112
  | 113, _, _ => cd_113
  | 114, _, _ => cd_114
  | 115, _, _ => cd_115
  | 116, _, _ => cd_116
  | 117, _, _ => cd_117
  | 118, _, _ => cd_118
  | 119, _, _ => cd_119
  | 120, _, _ => cd_120
  | 121, _, _ => cd_121
  | 122, _, _ => cd_122
  | 123, _, _ => cd_123
  | 124, _, _ => cd_124
  | 125, _, _ => cd_125
  | 126, _, _ => cd_126
  | 127, _, _ => cd_127
  | 128, _, _ => cd_128
  | 129, _, _ => cd_129
  | 130, _, _ => cd_130
  | 131, _, _ => cd_131
  | 132, _, _ => cd_132
  | 133, _, _ => cd_133
  | 134, _, _ => cd_134
  | 135, _, _ => cd_135
  | 136, _, _ => cd_136
  | 137, _, _ => cd_137
  | 138, _, _ => cd_138
  | 139, _, _ => cd_139
  | 140, _, _ => cd_140
  | 141, _, _ => cd_141
  | 142, _, _ => cd_142
  | 143, _, _ => cd_143
  | 144, _, _ => cd_144
  | 145, _, _ => cd_145
  | 146, _, _ => cd_146
  | 147, _, _ => cd_147
  | 148, _, _ => cd_148
  | 149, _, _ => cd_149
  | 150, _, _ => cd_150
  | 151, _, _ => cd_151
  | 152, _, _ => cd_152
  | 153, _, _ => cd_153
  | 154, _, _ => cd_154
  | 155, _, _ => cd_155
  | 156, _, _ => cd_156
  | 157, _, _ => cd_157
  | 158, _, _ => cd_158
  | 159, _, _ => cd_159
  | 160, _, _ => cd_160
  | 161, _, _ => cd_161
  | 162, _, _ => cd_162
  | 163, _, _ => cd_163
  | 164, _, _ => cd_164
  | 165, _, _ => cd_165
  | 166, _, _ => cd_166
  | 167, _, _ => cd_167
  | 168, _, _ => cd_168
  | 169, _, _ => cd_169
  | 170, _, _ => cd_170
  | 171, _, _ => cd_171
  | 172, _, _ => cd_172
  | 173, _, _ => cd_173
  | 174, _, _ => cd_174
  | 175, _, _ => cd_175
  | 176, _, _ => cd_176
  | 177, _, _ => cd_177
  | 178, _, _ => cd_178
  | 179, _, _ => cd_179
  | 180, _, _ => cd_180
  | 181, _, _ => cd_181
  | 182, _, _ => cd_182
  | 183, _, _ => cd_183
  | 184, _, _ => cd_184
  | 185, _, _ => cd_185
  | 186, _, _ => cd_186
  | 187, _, _ => cd_187
  | 188, _, _ => cd_188
  | 189, _, _ => cd_189
  | 190, _, _ => cd_190
  | 191, _, _ => cd_191
  | 192, _, _ => cd_192
  | 193, _, _ => cd_193
  | 194, _, _ => cd_194
  | 195, _, _ => cd_195
  | 196, _, _ => cd_196
  | 197, _, _ => cd_197
  | 198, _, _ => cd_198
  | 199, _, _ => cd_199
  | 200, _, _ => cd_200
  | 201, _, _ => cd_201
  | 202, _, _ => cd_202
  | 203, _, _ => cd_203
  | 204, _, _ => cd_204
  | 205, _, _ => cd_205
  | 206, _, _ => cd_206
  | 207, _, _ => cd_207
  | 208, _, _ => cd_208
  | 209, _, _ => cd_209
  | 210, _, _ => cd_210
  | 211, _, _ => cd_211
  | 212, _, _ => cd_212
  | 213, _, _ => cd_213
  | 214, _, _ => cd_214
  | 215, _, _ => cd_215
  | 216, _, _ => cd_216
  | 217, _, _ => cd_217
  | 218, _, _ => cd_218
  | 219, _, _ => cd_219
  | 220, _, _ => cd_220
  | 221, _, _ => cd_221
  | 222, _, _ => cd_222
  | 223, _, _ => cd_223
  | 224, _, _ => cd_224
  | 225, _, _ => cd_225
  | 226, _, _ => cd_226
  | 227, _, _ => cd_227
  | 228, _, _ => cd_228
  | 229, _, _ => cd_229
  | 230, _, _ => cd_230
  | 231, _, _ => cd_231
  | 232, _, _ => cd_232
  | 233, _, _ => cd_233
  | 234, _, _ => cd_234
  | 235, _, _ => cd_235
  | 236, _, _ => cd_236
  | 237, _, _ => cd_237
  | 238, _, _ => cd_238
  | 239, _, _ => cd_239
  | 240, _, _ => cd_240
  | 241, _, _ => cd_241
  | 242, _, _ => cd_242
  | 243, _, _ => cd_243
  | 244, _, _ => cd_244
  | 245, _, _ => cd_245
  | 246, _, _ => cd_246
  | 247, _, _ => cd_247
  | 248, _, _ => cd_248
  | 249, _, _ => cd_249
  | 250, _, _ => cd_250
  | 251, _, _ => cd_251
  | 252, _, _ => cd_252
  | 253, _, _ => cd_253
  | 254, _, _ => cd_254
  | 255, _, _ => cd_255
  | 256, _, _ => cd_256
  | 257, _, _ => cd_257
  | 258, _, _ => cd_258
  | 259, _, _ => cd_259
  | 260, _, _ => cd_260
  | 261, _, _ => cd_261
  | 262, _, _ => cd_262
  | 263, _, _ => cd_263
  | 264, _, _ => cd_264
  | 265, _, _ => cd_265
  | 266, _, _ => cd_266
  | 267, _, _ => cd_267
  | 268, _, _ => cd_268
  | 269, _, _ => cd_269
  | 270, _, _ => cd_270
  | 271, _, _ => cd_271
  | 272, _, _ => cd_272
  | 273, _, _ => cd_273
  | 274, _, _ => cd_274
  | 275, _, _ => cd_275
  | 276, _, _ => cd_276
  | 277, _, _ => cd_277
  | 278, _, _ => cd_278
  | 279, _, _ => cd_279
  | 280, _, _ => cd_280
  | 281, _, _ => cd_281
  | 282, _, _ => cd_282
  | 283, _, _ => cd_283
  | 284, _, _ => cd_284
  | 285, _, _ => cd_285
  | 286, _, _ => cd_286
  | 287, _, _ => cd_287
  | 288, _, _ => cd_288
  | 289, _, _ => cd_289
  | 290, _, _ => cd_290
  | 291, _, _ => cd_291
  | 292, _, _ => cd_292
  | 293, _, _ => cd_293
  | 294, _, _ => cd_294
  | 295, _, _ => cd_295
  | 296, _, _ => cd_296
  | 297, _, _ => cd_297
  | 298, _, _ => cd_298
  | 299, _, _ => cd_299
  | 300, _, _ => cd_300
  | 301, _, _ => cd_301
  | 302, _, _ => cd_302
  | 303, _, _ => cd_303
  | 304, _, _ => cd_304
  | 305, _, _ => cd_305
  | 306, _, _ => cd_306
  | 307, _, _ => cd_307
  | 308, _, _ => cd_308
  | 309, _, _ => cd_309
  | 310, _, _ => cd_310
  | n + 311, _, h => absurd h (by omega)
