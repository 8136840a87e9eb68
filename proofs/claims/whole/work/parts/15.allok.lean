/-! EVERY ENTRY OF THE PROGRAM IS CHECKED -/
set_option maxRecDepth 100000 in
theorem ok_0_0 : k_0_0.all (chkE 0) = true := by decide +kernel
set_option maxRecDepth 100000 in
theorem ok_0_1 : k_0_1.all (chkE 0) = true := by decide +kernel
set_option maxRecDepth 100000 in
theorem ok_0_2 : k_0_2.all (chkE 0) = true := by decide +kernel
set_option maxRecDepth 100000 in
theorem ok_0_3 : k_0_3.all (chkE 0) = true := by decide +kernel
set_option maxRecDepth 100000 in
theorem ok_0_4 : k_0_4.all (chkE 0) = true := by decide +kernel
set_option maxRecDepth 100000 in
theorem ok_0_5 : k_0_5.all (chkE 0) = true := by decide +kernel
set_option maxRecDepth 100000 in
theorem ok_0_6 : k_0_6.all (chkE 0) = true := by decide +kernel
set_option maxRecDepth 100000 in
theorem ok_0_7 : k_0_7.all (chkE 0) = true := by decide +kernel
set_option maxRecDepth 100000 in
theorem ok_0_8 : k_0_8.all (chkE 0) = true := by decide +kernel
set_option maxRecDepth 100000 in
theorem ok_0_9 : k_0_9.all (chkE 0) = true := by decide +kernel
set_option maxRecDepth 100000 in
theorem ok_0_10 : k_0_10.all (chkE 0) = true := by decide +kernel
set_option maxRecDepth 100000 in
theorem ok_0_11 : k_0_11.all (chkE 0) = true := by decide +kernel
set_option maxRecDepth 100000 in
theorem ok_0_12 : k_0_12.all (chkE 0) = true := by decide +kernel
set_option maxRecDepth 100000 in
theorem ok_0_13 : k_0_13.all (chkE 0) = true := by decide +kernel
set_option maxRecDepth 100000 in
theorem ok_0_14 : k_0_14.all (chkE 0) = true := by decide +kernel
set_option maxRecDepth 100000 in
theorem ok_0_15 : k_0_15.all (chkE 0) = true := by decide +kernel
set_option maxRecDepth 100000 in
theorem ok_0_16 : k_0_16.all (chkE 0) = true := by decide +kernel
set_option maxRecDepth 100000 in
theorem ok_0_17 : k_0_17.all (chkE 0) = true := by decide +kernel
set_option maxRecDepth 100000 in
theorem ok_0_18 : k_0_18.all (chkE 0) = true := by decide +kernel
set_option maxRecDepth 100000 in
theorem ok_0_19 : k_0_19.all (chkE 0) = true := by decide +kernel
set_option maxRecDepth 100000 in
theorem ok_0_20 : k_0_20.all (chkE 0) = true := by decide +kernel
set_option maxRecDepth 100000 in
theorem ok_0_21 : k_0_21.all (chkE 0) = true := by decide +kernel
set_option maxRecDepth 100000 in
theorem ok_0_22 : k_0_22.all (chkE 0) = true := by decide +kernel
set_option maxRecDepth 100000 in
theorem ok_0_23 : k_0_23.all (chkE 0) = true := by decide +kernel
set_option maxRecDepth 100000 in
theorem ok_0_24 : k_0_24.all (chkE 0) = true := by decide +kernel
set_option maxRecDepth 100000 in
theorem ok_0_25 : k_0_25.all (chkE 0) = true := by decide +kernel
set_option maxRecDepth 100000 in
theorem ok_0_26 : k_0_26.all (chkE 0) = true := by decide +kernel
set_option maxRecDepth 100000 in
theorem ok_0_27 : k_0_27.all (chkE 0) = true := by decide +kernel
set_option maxRecDepth 100000 in
theorem ok_0_28 : k_0_28.all (chkE 0) = true := by decide +kernel
set_option maxRecDepth 100000 in
theorem ok_0_29 : k_0_29.all (chkE 0) = true := by decide +kernel
set_option maxRecDepth 100000 in
theorem ok_0_30 : k_0_30.all (chkE 0) = true := by decide +kernel
set_option maxRecDepth 100000 in
theorem ok_0_31 : k_0_31.all (chkE 0) = true := by decide +kernel
set_option maxRecDepth 100000 in
theorem ok_0_32 : k_0_32.all (chkE 0) = true := by decide +kernel
set_option maxRecDepth 100000 in
theorem ok_0_33 : k_0_33.all (chkE 0) = true := by decide +kernel
set_option maxRecDepth 100000 in
theorem ok_0_34 : k_0_34.all (chkE 0) = true := by decide +kernel
set_option maxRecDepth 100000 in
theorem ok_0_35 : k_0_35.all (chkE 0) = true := by decide +kernel
set_option maxRecDepth 100000 in
theorem ok_0_36 : k_0_36.all (chkE 0) = true := by decide +kernel
set_option maxRecDepth 100000 in
theorem ok_0_37 : k_0_37.all (chkE 0) = true := by decide +kernel
set_option maxRecDepth 100000 in
theorem ok_0_38 : k_0_38.all (chkE 0) = true := by decide +kernel
set_option maxRecDepth 100000 in
theorem ok_0_39 : k_0_39.all (chkE 0) = true := by decide +kernel
set_option maxRecDepth 100000 in
theorem ok_0_40 : k_0_40.all (chkE 0) = true := by decide +kernel
set_option maxRecDepth 100000 in
theorem ok_0_41 : k_0_41.all (chkE 0) = true := by decide +kernel
set_option maxRecDepth 100000 in
theorem ok_0_42 : k_0_42.all (chkE 0) = true := by decide +kernel
set_option maxRecDepth 100000 in
theorem ok_0_43 : k_0_43.all (chkE 0) = true := by decide +kernel
set_option maxRecDepth 100000 in
theorem ok_0_44 : k_0_44.all (chkE 0) = true := by decide +kernel
set_option maxRecDepth 100000 in
theorem ok_0_45 : k_0_45.all (chkE 0) = true := by decide +kernel
set_option maxRecDepth 100000 in
theorem ok_0_46 : k_0_46.all (chkE 0) = true := by decide +kernel
set_option maxRecDepth 100000 in
theorem ok_0_47 : k_0_47.all (chkE 0) = true := by decide +kernel
set_option maxRecDepth 100000 in
theorem ok_0_48 : k_0_48.all (chkE 0) = true := by decide +kernel
set_option maxRecDepth 100000 in
theorem ok_0_49 : k_0_49.all (chkE 0) = true := by decide +kernel
set_option maxRecDepth 100000 in
theorem ok_0_50 : k_0_50.all (chkE 0) = true := by decide +kernel
set_option maxRecDepth 100000 in
theorem ok_0_51 : k_0_51.all (chkE 0) = true := by decide +kernel
set_option maxRecDepth 100000 in
theorem ok_0_52 : k_0_52.all (chkE 0) = true := by decide +kernel
set_option maxRecDepth 100000 in
theorem ok_0_53 : k_0_53.all (chkE 0) = true := by decide +kernel
set_option maxRecDepth 100000 in
theorem ok_0_54 : k_0_54.all (chkE 0) = true := by decide +kernel
set_option maxRecDepth 100000 in
theorem ok_0_55 : k_0_55.all (chkE 0) = true := by decide +kernel
set_option maxRecDepth 100000 in
theorem ok_0_56 : k_0_56.all (chkE 0) = true := by decide +kernel
set_option maxRecDepth 100000 in
theorem ok_0_57 : k_0_57.all (chkE 0) = true := by decide +kernel
set_option maxRecDepth 100000 in
theorem ok_0_58 : k_0_58.all (chkE 0) = true := by decide +kernel
set_option maxRecDepth 100000 in
theorem ok_0_59 : k_0_59.all (chkE 0) = true := by decide +kernel
set_option maxRecDepth 100000 in
theorem ok_0_60 : k_0_60.all (chkE 0) = true := by decide +kernel
set_option maxRecDepth 100000 in
theorem ok_0_61 : k_0_61.all (chkE 0) = true := by decide +kernel
set_option maxRecDepth 100000 in
theorem ok_0_62 : k_0_62.all (chkE 0) = true := by decide +kernel
set_option maxRecDepth 100000 in
theorem ok_0_63 : k_0_63.all (chkE 0) = true := by decide +kernel
set_option maxRecDepth 100000 in
theorem ok_0_64 : k_0_64.all (chkE 0) = true := by decide +kernel
set_option maxRecDepth 100000 in
theorem ok_0_65 : k_0_65.all (chkE 0) = true := by decide +kernel
set_option maxRecDepth 100000 in
theorem ok_0_66 : k_0_66.all (chkE 0) = true := by decide +kernel
set_option maxRecDepth 100000 in
theorem ok_0_67 : k_0_67.all (chkE 0) = true := by decide +kernel
set_option maxRecDepth 100000 in
theorem ok_0_68 : k_0_68.all (chkE 0) = true := by decide +kernel
set_option maxRecDepth 100000 in
theorem ok_0_69 : k_0_69.all (chkE 0) = true := by decide +kernel
set_option maxRecDepth 100000 in
theorem ok_0_70 : k_0_70.all (chkE 0) = true := by decide +kernel
set_option maxRecDepth 100000 in
theorem ok_0_71 : k_0_71.all (chkE 0) = true := by decide +kernel
set_option maxRecDepth 100000 in
theorem ok_0_72 : k_0_72.all (chkE 0) = true := by decide +kernel
set_option maxRecDepth 100000 in
theorem ok_0_73 : k_0_73.all (chkE 0) = true := by decide +kernel
set_option maxRecDepth 100000 in
theorem ok_0_74 : k_0_74.all (chkE 0) = true := by decide +kernel
set_option maxRecDepth 100000 in
theorem ok_0_75 : k_0_75.all (chkE 0) = true := by decide +kernel
set_option maxRecDepth 100000 in
theorem ok_0_76 : k_0_76.all (chkE 0) = true := by decide +kernel
set_option maxRecDepth 100000 in
theorem ok_0_77 : k_0_77.all (chkE 0) = true := by decide +kernel
set_option maxRecDepth 100000 in
theorem ok_0_78 : k_0_78.all (chkE 0) = true := by decide +kernel
set_option maxRecDepth 100000 in
theorem ok_0_79 : k_0_79.all (chkE 0) = true := by decide +kernel
set_option maxRecDepth 100000 in
theorem ok_0_80 : k_0_80.all (chkE 0) = true := by decide +kernel
set_option maxRecDepth 100000 in
theorem ok_0_81 : k_0_81.all (chkE 0) = true := by decide +kernel
set_option maxRecDepth 100000 in
theorem ok_0_82 : k_0_82.all (chkE 0) = true := by decide +kernel
set_option maxRecDepth 100000 in
theorem ok_0_83 : k_0_83.all (chkE 0) = true := by decide +kernel
set_option maxRecDepth 100000 in
theorem ok_0_84 : k_0_84.all (chkE 0) = true := by decide +kernel
set_option maxRecDepth 100000 in
theorem ok_0_85 : k_0_85.all (chkE 0) = true := by decide +kernel
set_option maxRecDepth 100000 in
theorem ok_0_86 : k_0_86.all (chkE 0) = true := by decide +kernel
set_option maxRecDepth 100000 in
theorem ok_0_87 : k_0_87.all (chkE 0) = true := by decide +kernel
set_option maxRecDepth 100000 in
theorem ok_0_88 : k_0_88.all (chkE 0) = true := by decide +kernel
set_option maxRecDepth 100000 in
theorem ok_0_89 : k_0_89.all (chkE 0) = true := by decide +kernel
set_option maxRecDepth 100000 in
theorem ok_0_90 : k_0_90.all (chkE 0) = true := by decide +kernel
set_option maxRecDepth 100000 in
theorem ok_0_91 : k_0_91.all (chkE 0) = true := by decide +kernel
set_option maxRecDepth 100000 in
theorem ok_0_92 : k_0_92.all (chkE 0) = true := by decide +kernel
set_option maxRecDepth 100000 in
theorem ok_0_93 : k_0_93.all (chkE 0) = true := by decide +kernel
set_option maxRecDepth 100000 in
theorem ok_0_94 : k_0_94.all (chkE 0) = true := by decide +kernel
set_option maxRecDepth 100000 in
theorem ok_0_95 : k_0_95.all (chkE 0) = true := by decide +kernel
set_option maxRecDepth 100000 in
theorem ok_0_96 : k_0_96.all (chkE 0) = true := by decide +kernel
set_option maxRecDepth 100000 in
theorem ok_0_97 : k_0_97.all (chkE 0) = true := by decide +kernel
set_option maxRecDepth 100000 in
theorem ok_0_98 : k_0_98.all (chkE 0) = true := by decide +kernel
set_option maxRecDepth 100000 in
theorem ok_0_99 : k_0_99.all (chkE 0) = true := by decide +kernel
set_option maxRecDepth 100000 in
theorem ok_0_100 : k_0_100.all (chkE 0) = true := by decide +kernel
set_option maxRecDepth 100000 in
theorem ok_0_101 : k_0_101.all (chkE 0) = true := by decide +kernel
set_option maxRecDepth 100000 in
theorem ok_0_102 : k_0_102.all (chkE 0) = true := by decide +kernel
set_option maxRecDepth 100000 in
theorem ok_0_103 : k_0_103.all (chkE 0) = true := by decide +kernel
set_option maxRecDepth 100000 in
theorem ok_0_104 : k_0_104.all (chkE 0) = true := by decide +kernel
set_option maxRecDepth 100000 in
theorem ok_0_105 : k_0_105.all (chkE 0) = true := by decide +kernel
set_option maxRecDepth 100000 in
theorem ok_0_106 : k_0_106.all (chkE 0) = true := by decide +kernel
set_option maxRecDepth 100000 in
theorem ok_0_107 : k_0_107.all (chkE 0) = true := by decide +kernel
set_option maxRecDepth 100000 in
theorem ok_0_108 : k_0_108.all (chkE 0) = true := by decide +kernel
set_option maxRecDepth 100000 in
theorem ok_0_109 : k_0_109.all (chkE 0) = true := by decide +kernel
set_option maxRecDepth 100000 in
theorem ok_0_110 : k_0_110.all (chkE 0) = true := by decide +kernel
set_option maxRecDepth 100000 in
theorem ok_0_111 : k_0_111.all (chkE 0) = true := by decide +kernel
set_option maxRecDepth 100000 in
theorem ok_0_112 : k_0_112.all (chkE 0) = true := by decide +kernel
set_option maxRecDepth 100000 in
theorem ok_0_113 : k_0_113.all (chkE 0) = true := by decide +kernel
set_option maxRecDepth 100000 in
theorem ok_0_114 : k_0_114.all (chkE 0) = true := by decide +kernel
set_option maxRecDepth 100000 in
theorem ok_0_115 : k_0_115.all (chkE 0) = true := by decide +kernel
set_option maxRecDepth 100000 in
theorem ok_0_116 : k_0_116.all (chkE 0) = true := by decide +kernel
set_option maxRecDepth 100000 in
theorem ok_0_117 : k_0_117.all (chkE 0) = true := by decide +kernel
set_option maxRecDepth 100000 in
theorem ok_0_118 : k_0_118.all (chkE 0) = true := by decide +kernel
set_option maxRecDepth 100000 in
theorem ok_0_119 : k_0_119.all (chkE 0) = true := by decide +kernel
set_option maxRecDepth 100000 in
theorem ok_0_120 : k_0_120.all (chkE 0) = true := by decide +kernel
set_option maxRecDepth 100000 in
theorem ok_0_121 : k_0_121.all (chkE 0) = true := by decide +kernel
set_option maxRecDepth 100000 in
theorem ok_0_122 : k_0_122.all (chkE 0) = true := by decide +kernel
set_option maxRecDepth 100000 in
theorem ok_0_123 : k_0_123.all (chkE 0) = true := by decide +kernel
set_option maxRecDepth 100000 in
theorem ok_0_124 : k_0_124.all (chkE 0) = true := by decide +kernel
set_option maxRecDepth 100000 in
theorem ok_0_125 : k_0_125.all (chkE 0) = true := by decide +kernel
set_option maxRecDepth 100000 in
theorem ok_0_126 : k_0_126.all (chkE 0) = true := by decide +kernel
set_option maxRecDepth 100000 in
theorem ok_0_127 : k_0_127.all (chkE 0) = true := by decide +kernel
set_option maxRecDepth 100000 in
theorem ok_0_128 : k_0_128.all (chkE 0) = true := by decide +kernel
set_option maxRecDepth 100000 in
theorem ok_0_129 : k_0_129.all (chkE 0) = true := by decide +kernel
set_option maxRecDepth 100000 in
theorem ok_0_130 : k_0_130.all (chkE 0) = true := by decide +kernel
set_option maxRecDepth 100000 in
theorem ok_0_131 : k_0_131.all (chkE 0) = true := by decide +kernel
set_option maxRecDepth 100000 in
theorem ok_0_132 : k_0_132.all (chkE 0) = true := by decide +kernel
set_option maxRecDepth 100000 in
theorem ok_0_133 : k_0_133.all (chkE 0) = true := by decide +kernel
set_option maxRecDepth 100000 in
theorem ok_0_134 : k_0_134.all (chkE 0) = true := by decide +kernel
set_option maxRecDepth 100000 in
theorem ok_0_135 : k_0_135.all (chkE 0) = true := by decide +kernel
set_option maxRecDepth 100000 in
theorem ok_0_136 : k_0_136.all (chkE 0) = true := by decide +kernel
set_option maxRecDepth 100000 in
theorem ok_0_137 : k_0_137.all (chkE 0) = true := by decide +kernel
set_option maxRecDepth 100000 in
theorem ok_0_138 : k_0_138.all (chkE 0) = true := by decide +kernel
set_option maxRecDepth 100000 in
theorem ok_0_139 : k_0_139.all (chkE 0) = true := by decide +kernel
set_option maxRecDepth 100000 in
theorem ok_0_140 : k_0_140.all (chkE 0) = true := by decide +kernel
set_option maxRecDepth 100000 in
theorem ok_0_141 : k_0_141.all (chkE 0) = true := by decide +kernel
set_option maxRecDepth 100000 in
theorem ok_0_142 : k_0_142.all (chkE 0) = true := by decide +kernel
set_option maxRecDepth 100000 in
theorem ok_0_143 : k_0_143.all (chkE 0) = true := by decide +kernel
set_option maxRecDepth 100000 in
theorem ok_0_144 : k_0_144.all (chkE 0) = true := by decide +kernel
set_option maxRecDepth 100000 in
theorem ok_0_145 : k_0_145.all (chkE 0) = true := by decide +kernel
set_option maxRecDepth 100000 in
theorem ok_0_146 : k_0_146.all (chkE 0) = true := by decide +kernel
set_option maxRecDepth 100000 in
theorem ok_0_147 : k_0_147.all (chkE 0) = true := by decide +kernel
set_option maxRecDepth 100000 in
theorem ok_0_148 : k_0_148.all (chkE 0) = true := by decide +kernel
set_option maxRecDepth 100000 in
theorem ok_0_149 : k_0_149.all (chkE 0) = true := by decide +kernel
set_option maxRecDepth 100000 in
theorem ok_0_150 : k_0_150.all (chkE 0) = true := by decide +kernel
set_option maxRecDepth 100000 in
theorem ok_0_151 : k_0_151.all (chkE 0) = true := by decide +kernel
set_option maxRecDepth 100000 in
theorem ok_0_152 : k_0_152.all (chkE 0) = true := by decide +kernel
set_option maxRecDepth 100000 in
theorem ok_0_153 : k_0_153.all (chkE 0) = true := by decide +kernel
set_option maxRecDepth 100000 in
theorem ok_0_154 : k_0_154.all (chkE 0) = true := by decide +kernel
set_option maxRecDepth 100000 in
theorem ok_0_155 : k_0_155.all (chkE 0) = true := by decide +kernel
set_option maxRecDepth 100000 in
theorem ok_0_156 : k_0_156.all (chkE 0) = true := by decide +kernel
set_option maxRecDepth 100000 in
theorem ok_0_157 : k_0_157.all (chkE 0) = true := by decide +kernel
set_option maxRecDepth 100000 in
theorem ok_0_158 : k_0_158.all (chkE 0) = true := by decide +kernel
set_option maxRecDepth 100000 in
theorem ok_0_159 : k_0_159.all (chkE 0) = true := by decide +kernel
set_option maxRecDepth 100000 in
theorem ok_0_160 : k_0_160.all (chkE 0) = true := by decide +kernel
set_option maxRecDepth 100000 in
theorem ok_0_161 : k_0_161.all (chkE 0) = true := by decide +kernel
set_option maxRecDepth 100000 in
theorem ok_0_162 : k_0_162.all (chkE 0) = true := by decide +kernel
set_option maxRecDepth 100000 in
theorem ok_0_163 : k_0_163.all (chkE 0) = true := by decide +kernel
set_option maxRecDepth 100000 in
theorem ok_0_164 : k_0_164.all (chkE 0) = true := by decide +kernel
set_option maxRecDepth 100000 in
theorem ok_0_165 : k_0_165.all (chkE 0) = true := by decide +kernel
set_option maxRecDepth 100000 in
theorem ok_0_166 : k_0_166.all (chkE 0) = true := by decide +kernel
set_option maxRecDepth 100000 in
theorem ok_0_167 : k_0_167.all (chkE 0) = true := by decide +kernel
set_option maxRecDepth 100000 in
theorem ok_0_168 : k_0_168.all (chkE 0) = true := by decide +kernel
set_option maxRecDepth 100000 in
theorem ok_0_169 : k_0_169.all (chkE 0) = true := by decide +kernel
set_option maxRecDepth 100000 in
theorem ok_0_170 : k_0_170.all (chkE 0) = true := by decide +kernel
set_option maxRecDepth 100000 in
theorem ok_0_171 : k_0_171.all (chkE 0) = true := by decide +kernel
set_option maxRecDepth 100000 in
theorem ok_0_172 : k_0_172.all (chkE 0) = true := by decide +kernel
set_option maxRecDepth 100000 in
theorem ok_0_173 : k_0_173.all (chkE 0) = true := by decide +kernel
set_option maxRecDepth 100000 in
theorem ok_0_174 : k_0_174.all (chkE 0) = true := by decide +kernel
set_option maxRecDepth 100000 in
theorem ok_0_175 : k_0_175.all (chkE 0) = true := by decide +kernel
set_option maxRecDepth 100000 in
theorem ok_0_176 : k_0_176.all (chkE 0) = true := by decide +kernel
set_option maxRecDepth 100000 in
theorem ok_0_177 : k_0_177.all (chkE 0) = true := by decide +kernel
set_option maxRecDepth 100000 in
theorem ok_0_178 : k_0_178.all (chkE 0) = true := by decide +kernel
set_option maxRecDepth 100000 in
theorem ok_0_179 : k_0_179.all (chkE 0) = true := by decide +kernel
set_option maxRecDepth 100000 in
theorem ok_0_180 : k_0_180.all (chkE 0) = true := by decide +kernel
set_option maxRecDepth 100000 in
theorem ok_0_181 : k_0_181.all (chkE 0) = true := by decide +kernel
set_option maxRecDepth 100000 in
theorem ok_0_182 : k_0_182.all (chkE 0) = true := by decide +kernel
set_option maxRecDepth 100000 in
theorem ok_0_183 : k_0_183.all (chkE 0) = true := by decide +kernel
set_option maxRecDepth 100000 in
theorem ok_0_184 : k_0_184.all (chkE 0) = true := by decide +kernel
set_option maxRecDepth 100000 in
theorem ok_0_185 : k_0_185.all (chkE 0) = true := by decide +kernel
set_option maxRecDepth 100000 in
theorem ok_0_186 : k_0_186.all (chkE 0) = true := by decide +kernel
set_option maxRecDepth 100000 in
theorem ok_0_187 : k_0_187.all (chkE 0) = true := by decide +kernel
set_option maxRecDepth 100000 in
theorem ok_0_188 : k_0_188.all (chkE 0) = true := by decide +kernel
set_option maxRecDepth 100000 in
theorem ok_0 : chkM 0 k_0 = true := by
  simp only [chkM, k_0, List.all_cons, List.all_nil, Bool.and_true, ok_0_0, ok_0_1, ok_0_2, ok_0_3, ok_0_4, ok_0_5, ok_0_6, ok_0_7, ok_0_8, ok_0_9, ok_0_10, ok_0_11, ok_0_12, ok_0_13, ok_0_14, ok_0_15, ok_0_16, ok_0_17, ok_0_18, ok_0_19, ok_0_20, ok_0_21, ok_0_22, ok_0_23, ok_0_24, ok_0_25, ok_0_26, ok_0_27, ok_0_28, ok_0_29, ok_0_30, ok_0_31, ok_0_32, ok_0_33, ok_0_34, ok_0_35, ok_0_36, ok_0_37, ok_0_38, ok_0_39, ok_0_40, ok_0_41, ok_0_42, ok_0_43, ok_0_44, ok_0_45, ok_0_46, ok_0_47, ok_0_48, ok_0_49, ok_0_50, ok_0_51, ok_0_52, ok_0_53, ok_0_54, ok_0_55, ok_0_56, ok_0_57, ok_0_58, ok_0_59, ok_0_60, ok_0_61, ok_0_62, ok_0_63, ok_0_64, ok_0_65, ok_0_66, ok_0_67, ok_0_68, ok_0_69, ok_0_70, ok_0_71, ok_0_72, ok_0_73, ok_0_74, ok_0_75, ok_0_76, ok_0_77, ok_0_78, ok_0_79, ok_0_80, ok_0_81, ok_0_82, ok_0_83, ok_0_84, ok_0_85, ok_0_86, ok_0_87, ok_0_88, ok_0_89, ok_0_90, ok_0_91, ok_0_92, ok_0_93, ok_0_94, ok_0_95, ok_0_96, ok_0_97, ok_0_98, ok_0_99, ok_0_100, ok_0_101, ok_0_102, ok_0_103, ok_0_104, ok_0_105, ok_0_106, ok_0_107, ok_0_108, ok_0_109, ok_0_110, ok_0_111, ok_0_112, ok_0_113, ok_0_114, ok_0_115, ok_0_116, ok_0_117, ok_0_118, ok_0_119, ok_0_120, ok_0_121, ok_0_122, ok_0_123, ok_0_124, ok_0_125, ok_0_126, ok_0_127, ok_0_128, ok_0_129, ok_0_130, ok_0_131, ok_0_132, ok_0_133, ok_0_134, ok_0_135, ok_0_136, ok_0_137, ok_0_138, ok_0_139, ok_0_140, ok_0_141, ok_0_142, ok_0_143, ok_0_144, ok_0_145, ok_0_146, ok_0_147, ok_0_148, ok_0_149, ok_0_150, ok_0_151, ok_0_152, ok_0_153, ok_0_154, ok_0_155, ok_0_156, ok_0_157, ok_0_158, ok_0_159, ok_0_160, ok_0_161, ok_0_162, ok_0_163, ok_0_164, ok_0_165, ok_0_166, ok_0_167, ok_0_168, ok_0_169, ok_0_170, ok_0_171, ok_0_172, ok_0_173, ok_0_174, ok_0_175, ok_0_176, ok_0_177, ok_0_178, ok_0_179, ok_0_180, ok_0_181, ok_0_182, ok_0_183, ok_0_184, ok_0_185, ok_0_186, ok_0_187, ok_0_188]
set_option maxRecDepth 100000 in
theorem ok_1 : chkM 1 k_1 = true := by decide +kernel
set_option maxRecDepth 100000 in
theorem ok_2 : chkM 2 k_2 = true := by decide +kernel
set_option maxRecDepth 100000 in
theorem ok_3 : chkM 3 k_3 = true := by decide +kernel
set_option maxRecDepth 100000 in
theorem ok_4 : chkM 4 k_4 = true := by decide +kernel
set_option maxRecDepth 100000 in
theorem ok_5 : chkM 5 k_5 = true := by decide +kernel
set_option maxRecDepth 100000 in
theorem ok_6 : chkM 6 k_6 = true := by decide +kernel
set_option maxRecDepth 100000 in
theorem ok_7 : chkM 7 k_7 = true := by decide +kernel
set_option maxRecDepth 100000 in
theorem ok_8 : chkM 8 k_8 = true := by decide +kernel
set_option maxRecDepth 100000 in
theorem ok_9 : chkM 9 k_9 = true := by decide +kernel
set_option maxRecDepth 100000 in
theorem ok_10 : chkM 10 k_10 = true := by decide +kernel
set_option maxRecDepth 100000 in
theorem ok_11 : chkM 11 k_11 = true := by decide +kernel
set_option maxRecDepth 100000 in
theorem ok_12 : chkM 12 k_12 = true := by decide +kernel
set_option maxRecDepth 100000 in
theorem ok_13 : chkM 13 k_13 = true := by decide +kernel
set_option maxRecDepth 100000 in
theorem ok_14 : chkM 14 k_14 = true := by decide +kernel
set_option maxRecDepth 100000 in
theorem ok_15 : chkM 15 k_15 = true := by decide +kernel
set_option maxRecDepth 100000 in
theorem ok_16 : chkM 16 k_16 = true := by decide +kernel
set_option maxRecDepth 100000 in
theorem ok_17 : chkM 17 k_17 = true := by decide +kernel
set_option maxRecDepth 100000 in
theorem ok_18 : chkM 18 k_18 = true := by decide +kernel
set_option maxRecDepth 100000 in
theorem ok_19 : chkM 19 k_19 = true := by decide +kernel
set_option maxRecDepth 100000 in
theorem ok_20 : chkM 20 k_20 = true := by decide +kernel
set_option maxRecDepth 100000 in
theorem ok_21 : chkM 21 k_21 = true := by decide +kernel
set_option maxRecDepth 100000 in
theorem ok_22 : chkM 22 k_22 = true := by decide +kernel
set_option maxRecDepth 100000 in
theorem ok_23 : chkM 23 k_23 = true := by decide +kernel
set_option maxRecDepth 100000 in
theorem ok_24 : chkM 24 k_24 = true := by decide +kernel
set_option maxRecDepth 100000 in
theorem ok_25 : chkM 25 k_25 = true := by decide +kernel
set_option maxRecDepth 100000 in
theorem ok_26 : chkM 26 k_26 = true := by decide +kernel
set_option maxRecDepth 100000 in
theorem ok_27 : chkM 27 k_27 = true := by decide +kernel
set_option maxRecDepth 100000 in
theorem ok_28 : chkM 28 k_28 = true := by decide +kernel
set_option maxRecDepth 100000 in
theorem ok_29 : chkM 29 k_29 = true := by decide +kernel
set_option maxRecDepth 100000 in
theorem ok_30 : chkM 30 k_30 = true := by decide +kernel
set_option maxRecDepth 100000 in
theorem ok_31 : chkM 31 k_31 = true := by decide +kernel
set_option maxRecDepth 100000 in
theorem ok_32 : chkM 32 k_32 = true := by decide +kernel
set_option maxRecDepth 100000 in
theorem ok_33 : chkM 33 k_33 = true := by decide +kernel
set_option maxRecDepth 100000 in
theorem ok_34 : chkM 34 k_34 = true := by decide +kernel
set_option maxRecDepth 100000 in
theorem ok_35 : chkM 35 k_35 = true := by decide +kernel
set_option maxRecDepth 100000 in
theorem ok_36 : chkM 36 k_36 = true := by decide +kernel
set_option maxRecDepth 100000 in
theorem ok_37 : chkM 37 k_37 = true := by decide +kernel
set_option maxRecDepth 100000 in
theorem ok_38 : chkM 38 k_38 = true := by decide +kernel
set_option maxRecDepth 100000 in
theorem ok_39 : chkM 39 k_39 = true := by decide +kernel
set_option maxRecDepth 100000 in
theorem ok_40 : chkM 40 k_40 = true := by decide +kernel
set_option maxRecDepth 100000 in
theorem ok_41 : chkM 41 k_41 = true := by decide +kernel
set_option maxRecDepth 100000 in
theorem ok_42 : chkM 42 k_42 = true := by decide +kernel
set_option maxRecDepth 100000 in
theorem ok_43 : chkM 43 k_43 = true := by decide +kernel
set_option maxRecDepth 100000 in
theorem ok_44 : chkM 44 k_44 = true := by decide +kernel
set_option maxRecDepth 100000 in
theorem ok_45 : chkM 45 k_45 = true := by decide +kernel
set_option maxRecDepth 100000 in
theorem ok_46 : chkM 46 k_46 = true := by decide +kernel
set_option maxRecDepth 100000 in
theorem ok_47 : chkM 47 k_47 = true := by decide +kernel
set_option maxRecDepth 100000 in
theorem ok_48 : chkM 48 k_48 = true := by decide +kernel
set_option maxRecDepth 100000 in
theorem ok_49 : chkM 49 k_49 = true := by decide +kernel
set_option maxRecDepth 100000 in
theorem ok_50 : chkM 50 k_50 = true := by decide +kernel
set_option maxRecDepth 100000 in
theorem ok_51 : chkM 51 k_51 = true := by decide +kernel
set_option maxRecDepth 100000 in
theorem ok_52 : chkM 52 k_52 = true := by decide +kernel
set_option maxRecDepth 100000 in
theorem ok_53 : chkM 53 k_53 = true := by decide +kernel
set_option maxRecDepth 100000 in
theorem ok_54 : chkM 54 k_54 = true := by decide +kernel
set_option maxRecDepth 100000 in
theorem ok_55 : chkM 55 k_55 = true := by decide +kernel
set_option maxRecDepth 100000 in
theorem ok_56 : chkM 56 k_56 = true := by decide +kernel
set_option maxRecDepth 100000 in
theorem ok_57 : chkM 57 k_57 = true := by decide +kernel
set_option maxRecDepth 100000 in
theorem ok_58 : chkM 58 k_58 = true := by decide +kernel
set_option maxRecDepth 100000 in
theorem ok_59 : chkM 59 k_59 = true := by decide +kernel
set_option maxRecDepth 100000 in
theorem ok_60 : chkM 60 k_60 = true := by decide +kernel
set_option maxRecDepth 100000 in
theorem ok_61 : chkM 61 k_61 = true := by decide +kernel
set_option maxRecDepth 100000 in
theorem ok_62 : chkM 62 k_62 = true := by decide +kernel
set_option maxRecDepth 100000 in
theorem ok_63 : chkM 63 k_63 = true := by decide +kernel
set_option maxRecDepth 100000 in
theorem ok_64 : chkM 64 k_64 = true := by decide +kernel
set_option maxRecDepth 100000 in
theorem ok_65 : chkM 65 k_65 = true := by decide +kernel
set_option maxRecDepth 100000 in
theorem ok_66 : chkM 66 k_66 = true := by decide +kernel
set_option maxRecDepth 100000 in
theorem ok_67 : chkM 67 k_67 = true := by decide +kernel
set_option maxRecDepth 100000 in
theorem ok_68 : chkM 68 k_68 = true := by decide +kernel
set_option maxRecDepth 100000 in
theorem ok_69 : chkM 69 k_69 = true := by decide +kernel
set_option maxRecDepth 100000 in
theorem ok_70 : chkM 70 k_70 = true := by decide +kernel
set_option maxRecDepth 100000 in
theorem ok_71 : chkM 71 k_71 = true := by decide +kernel
set_option maxRecDepth 100000 in
theorem ok_72 : chkM 72 k_72 = true := by decide +kernel
set_option maxRecDepth 100000 in
theorem ok_73 : chkM 73 k_73 = true := by decide +kernel
set_option maxRecDepth 100000 in
theorem ok_74 : chkM 74 k_74 = true := by decide +kernel
set_option maxRecDepth 100000 in
theorem ok_75 : chkM 75 k_75 = true := by decide +kernel
set_option maxRecDepth 100000 in
theorem ok_76 : chkM 76 k_76 = true := by decide +kernel
set_option maxRecDepth 100000 in
theorem ok_77 : chkM 77 k_77 = true := by decide +kernel
set_option maxRecDepth 100000 in
theorem ok_78 : chkM 78 k_78 = true := by decide +kernel
set_option maxRecDepth 100000 in
theorem ok_79 : chkM 79 k_79 = true := by decide +kernel
set_option maxRecDepth 100000 in
theorem ok_80 : chkM 80 k_80 = true := by decide +kernel
set_option maxRecDepth 100000 in
theorem ok_81 : chkM 81 k_81 = true := by decide +kernel
set_option maxRecDepth 100000 in
theorem ok_82 : chkM 82 k_82 = true := by decide +kernel
set_option maxRecDepth 100000 in
theorem ok_83 : chkM 83 k_83 = true := by decide +kernel
set_option maxRecDepth 100000 in
theorem ok_84 : chkM 84 k_84 = true := by decide +kernel
set_option maxRecDepth 100000 in
theorem ok_85 : chkM 85 k_85 = true := by decide +kernel
set_option maxRecDepth 100000 in
theorem ok_86 : chkM 86 k_86 = true := by decide +kernel
set_option maxRecDepth 100000 in
theorem ok_87 : chkM 87 k_87 = true := by decide +kernel
set_option maxRecDepth 100000 in
theorem ok_88 : chkM 88 k_88 = true := by decide +kernel
set_option maxRecDepth 100000 in
theorem ok_89 : chkM 89 k_89 = true := by decide +kernel
set_option maxRecDepth 100000 in
theorem ok_90 : chkM 90 k_90 = true := by decide +kernel
set_option maxRecDepth 100000 in
theorem ok_91 : chkM 91 k_91 = true := by decide +kernel
set_option maxRecDepth 100000 in
theorem ok_92 : chkM 92 k_92 = true := by decide +kernel
set_option maxRecDepth 100000 in
theorem ok_93 : chkM 93 k_93 = true := by decide +kernel
set_option maxRecDepth 100000 in
theorem ok_94 : chkM 94 k_94 = true := by decide +kernel
set_option maxRecDepth 100000 in
theorem ok_95 : chkM 95 k_95 = true := by decide +kernel
set_option maxRecDepth 100000 in
theorem ok_96 : chkM 96 k_96 = true := by decide +kernel
set_option maxRecDepth 100000 in
theorem ok_97 : chkM 97 k_97 = true := by decide +kernel
set_option maxRecDepth 100000 in
theorem ok_98 : chkM 98 k_98 = true := by decide +kernel
set_option maxRecDepth 100000 in
theorem ok_99 : chkM 99 k_99 = true := by decide +kernel
set_option maxRecDepth 100000 in
theorem ok_100 : chkM 100 k_100 = true := by decide +kernel
set_option maxRecDepth 100000 in
theorem ok_101 : chkM 101 k_101 = true := by decide +kernel
set_option maxRecDepth 100000 in
theorem ok_102 : chkM 102 k_102 = true := by decide +kernel
set_option maxRecDepth 100000 in
theorem ok_103 : chkM 103 k_103 = true := by decide +kernel
set_option maxRecDepth 100000 in
theorem ok_104 : chkM 104 k_104 = true := by decide +kernel
set_option maxRecDepth 100000 in
theorem ok_105 : chkM 105 k_105 = true := by decide +kernel
set_option maxRecDepth 100000 in
theorem ok_106 : chkM 106 k_106 = true := by decide +kernel
set_option maxRecDepth 100000 in
theorem ok_107 : chkM 107 k_107 = true := by decide +kernel
set_option maxRecDepth 100000 in
theorem ok_108 : chkM 108 k_108 = true := by decide +kernel
set_option maxRecDepth 100000 in
theorem ok_109 : chkM 109 k_109 = true := by decide +kernel
set_option maxRecDepth 100000 in
theorem ok_110 : chkM 110 k_110 = true := by decide +kernel
set_option maxRecDepth 100000 in
theorem ok_111 : chkM 111 k_111 = true := by decide +kernel
set_option maxRecDepth 100000 in
theorem ok_112 : chkM 112 k_112 = true := by decide +kernel
set_option maxRecDepth 100000 in
theorem ok_113 : chkM 113 k_113 = true := by decide +kernel
set_option maxRecDepth 100000 in
theorem ok_114 : chkM 114 k_114 = true := by decide +kernel
set_option maxRecDepth 100000 in
theorem ok_115 : chkM 115 k_115 = true := by decide +kernel
set_option maxRecDepth 100000 in
theorem ok_116 : chkM 116 k_116 = true := by decide +kernel
set_option maxRecDepth 100000 in
theorem ok_117 : chkM 117 k_117 = true := by decide +kernel
set_option maxRecDepth 100000 in
theorem ok_118 : chkM 118 k_118 = true := by decide +kernel
set_option maxRecDepth 100000 in
theorem ok_119 : chkM 119 k_119 = true := by decide +kernel
set_option maxRecDepth 100000 in
theorem ok_120 : chkM 120 k_120 = true := by decide +kernel
set_option maxRecDepth 100000 in
theorem ok_121 : chkM 121 k_121 = true := by decide +kernel
set_option maxRecDepth 100000 in
theorem ok_122 : chkM 122 k_122 = true := by decide +kernel
set_option maxRecDepth 100000 in
theorem ok_123 : chkM 123 k_123 = true := by decide +kernel
set_option maxRecDepth 100000 in
theorem ok_124 : chkM 124 k_124 = true := by decide +kernel
set_option maxRecDepth 100000 in
theorem ok_125 : chkM 125 k_125 = true := by decide +kernel
set_option maxRecDepth 100000 in
theorem ok_126 : chkM 126 k_126 = true := by decide +kernel
set_option maxRecDepth 100000 in
theorem ok_127 : chkM 127 k_127 = true := by decide +kernel
set_option maxRecDepth 100000 in
theorem ok_128 : chkM 128 k_128 = true := by decide +kernel
set_option maxRecDepth 100000 in
theorem ok_129 : chkM 129 k_129 = true := by decide +kernel
set_option maxRecDepth 100000 in
theorem ok_130 : chkM 130 k_130 = true := by decide +kernel
set_option maxRecDepth 100000 in
theorem ok_131 : chkM 131 k_131 = true := by decide +kernel
set_option maxRecDepth 100000 in
theorem ok_132 : chkM 132 k_132 = true := by decide +kernel
set_option maxRecDepth 100000 in
theorem ok_133 : chkM 133 k_133 = true := by decide +kernel
set_option maxRecDepth 100000 in
theorem ok_134 : chkM 134 k_134 = true := by decide +kernel
set_option maxRecDepth 100000 in
theorem ok_135 : chkM 135 k_135 = true := by decide +kernel
set_option maxRecDepth 100000 in
theorem ok_136 : chkM 136 k_136 = true := by decide +kernel
set_option maxRecDepth 100000 in
theorem ok_137 : chkM 137 k_137 = true := by decide +kernel
set_option maxRecDepth 100000 in
theorem ok_138 : chkM 138 k_138 = true := by decide +kernel
set_option maxRecDepth 100000 in
theorem ok_139 : chkM 139 k_139 = true := by decide +kernel
set_option maxRecDepth 100000 in
theorem ok_140 : chkM 140 k_140 = true := by decide +kernel
set_option maxRecDepth 100000 in
theorem ok_141 : chkM 141 k_141 = true := by decide +kernel
set_option maxRecDepth 100000 in
theorem ok_142 : chkM 142 k_142 = true := by decide +kernel
set_option maxRecDepth 100000 in
theorem ok_143 : chkM 143 k_143 = true := by decide +kernel
set_option maxRecDepth 100000 in
theorem ok_144 : chkM 144 k_144 = true := by decide +kernel
set_option maxRecDepth 100000 in
theorem ok_145 : chkM 145 k_145 = true := by decide +kernel
set_option maxRecDepth 100000 in
theorem ok_146 : chkM 146 k_146 = true := by decide +kernel
set_option maxRecDepth 100000 in
theorem ok_147 : chkM 147 k_147 = true := by decide +kernel
set_option maxRecDepth 100000 in
theorem ok_148 : chkM 148 k_148 = true := by decide +kernel
set_option maxRecDepth 100000 in
theorem ok_149 : chkM 149 k_149 = true := by decide +kernel
set_option maxRecDepth 100000 in
theorem ok_150 : chkM 150 k_150 = true := by decide +kernel
set_option maxRecDepth 100000 in
theorem ok_151 : chkM 151 k_151 = true := by decide +kernel
set_option maxRecDepth 100000 in
theorem ok_152 : chkM 152 k_152 = true := by decide +kernel
set_option maxRecDepth 100000 in
theorem ok_153 : chkM 153 k_153 = true := by decide +kernel
set_option maxRecDepth 100000 in
theorem ok_154 : chkM 154 k_154 = true := by decide +kernel
set_option maxRecDepth 100000 in
theorem ok_155 : chkM 155 k_155 = true := by decide +kernel
set_option maxRecDepth 100000 in
theorem ok_156 : chkM 156 k_156 = true := by decide +kernel
set_option maxRecDepth 100000 in
theorem ok_157 : chkM 157 k_157 = true := by decide +kernel
set_option maxRecDepth 100000 in
theorem ok_158 : chkM 158 k_158 = true := by decide +kernel
set_option maxRecDepth 100000 in
theorem ok_159 : chkM 159 k_159 = true := by decide +kernel
set_option maxRecDepth 100000 in
theorem ok_160 : chkM 160 k_160 = true := by decide +kernel
set_option maxRecDepth 100000 in
theorem ok_161 : chkM 161 k_161 = true := by decide +kernel
set_option maxRecDepth 100000 in
theorem ok_162 : chkM 162 k_162 = true := by decide +kernel
set_option maxRecDepth 100000 in
theorem ok_163 : chkM 163 k_163 = true := by decide +kernel
set_option maxRecDepth 100000 in
theorem ok_164 : chkM 164 k_164 = true := by decide +kernel
set_option maxRecDepth 100000 in
theorem ok_165 : chkM 165 k_165 = true := by decide +kernel
set_option maxRecDepth 100000 in
theorem ok_166 : chkM 166 k_166 = true := by decide +kernel
set_option maxRecDepth 100000 in
theorem ok_167 : chkM 167 k_167 = true := by decide +kernel
set_option maxRecDepth 100000 in
theorem ok_168 : chkM 168 k_168 = true := by decide +kernel
set_option maxRecDepth 100000 in
theorem ok_169 : chkM 169 k_169 = true := by decide +kernel
set_option maxRecDepth 100000 in
theorem ok_170 : chkM 170 k_170 = true := by decide +kernel
set_option maxRecDepth 100000 in
theorem ok_171 : chkM 171 k_171 = true := by decide +kernel
set_option maxRecDepth 100000 in
theorem ok_172 : chkM 172 k_172 = true := by decide +kernel
set_option maxRecDepth 100000 in
theorem ok_173 : chkM 173 k_173 = true := by decide +kernel
set_option maxRecDepth 100000 in
theorem ok_174 : chkM 174 k_174 = true := by decide +kernel
set_option maxRecDepth 100000 in
theorem ok_175 : chkM 175 k_175 = true := by decide +kernel
set_option maxRecDepth 100000 in
theorem ok_176 : chkM 176 k_176 = true := by decide +kernel
set_option maxRecDepth 100000 in
theorem ok_177 : chkM 177 k_177 = true := by decide +kernel
set_option maxRecDepth 100000 in
theorem ok_178 : chkM 178 k_178 = true := by decide +kernel
set_option maxRecDepth 100000 in
theorem ok_179 : chkM 179 k_179 = true := by decide +kernel
set_option maxRecDepth 100000 in
theorem ok_180 : chkM 180 k_180 = true := by decide +kernel
set_option maxRecDepth 100000 in
theorem ok_181 : chkM 181 k_181 = true := by decide +kernel
set_option maxRecDepth 100000 in
theorem ok_182 : chkM 182 k_182 = true := by decide +kernel
set_option maxRecDepth 100000 in
theorem ok_183 : chkM 183 k_183 = true := by decide +kernel
set_option maxRecDepth 100000 in
theorem ok_184 : chkM 184 k_184 = true := by decide +kernel
set_option maxRecDepth 100000 in
theorem ok_185 : chkM 185 k_185 = true := by decide +kernel
set_option maxRecDepth 100000 in
theorem ok_186 : chkM 186 k_186 = true := by decide +kernel
set_option maxRecDepth 100000 in
theorem ok_187 : chkM 187 k_187 = true := by decide +kernel
set_option maxRecDepth 100000 in
theorem ok_188 : chkM 188 k_188 = true := by decide +kernel
set_option maxRecDepth 100000 in
theorem ok_189 : chkM 189 k_189 = true := by decide +kernel
set_option maxRecDepth 100000 in
theorem ok_190_0 : k_190_0.all (chkE 190) = true := by decide +kernel
set_option maxRecDepth 100000 in
theorem ok_190_1 : k_190_1.all (chkE 190) = true := by decide +kernel
set_option maxRecDepth 100000 in
theorem ok_190_2 : k_190_2.all (chkE 190) = true := by decide +kernel
set_option maxRecDepth 100000 in
theorem ok_190_3 : k_190_3.all (chkE 190) = true := by decide +kernel
set_option maxRecDepth 100000 in
theorem ok_190_4 : k_190_4.all (chkE 190) = true := by decide +kernel
set_option maxRecDepth 100000 in
theorem ok_190_5 : k_190_5.all (chkE 190) = true := by decide +kernel
set_option maxRecDepth 100000 in
theorem ok_190_6 : k_190_6.all (chkE 190) = true := by decide +kernel
set_option maxRecDepth 100000 in
theorem ok_190_7 : k_190_7.all (chkE 190) = true := by decide +kernel
set_option maxRecDepth 100000 in
theorem ok_190_8 : k_190_8.all (chkE 190) = true := by decide +kernel
set_option maxRecDepth 100000 in
theorem ok_190_9 : k_190_9.all (chkE 190) = true := by decide +kernel
set_option maxRecDepth 100000 in
theorem ok_190_10 : k_190_10.all (chkE 190) = true := by decide +kernel
set_option maxRecDepth 100000 in
theorem ok_190_11 : k_190_11.all (chkE 190) = true := by decide +kernel
set_option maxRecDepth 100000 in
theorem ok_190_12 : k_190_12.all (chkE 190) = true := by decide +kernel
set_option maxRecDepth 100000 in
theorem ok_190_13 : k_190_13.all (chkE 190) = true := by decide +kernel
set_option maxRecDepth 100000 in
theorem ok_190_14 : k_190_14.all (chkE 190) = true := by decide +kernel
set_option maxRecDepth 100000 in
theorem ok_190_15 : k_190_15.all (chkE 190) = true := by decide +kernel
set_option maxRecDepth 100000 in
theorem ok_190_16 : k_190_16.all (chkE 190) = true := by decide +kernel
set_option maxRecDepth 100000 in
theorem ok_190_17 : k_190_17.all (chkE 190) = true := by decide +kernel
set_option maxRecDepth 100000 in
theorem ok_190_18 : k_190_18.all (chkE 190) = true := by decide +kernel
set_option maxRecDepth 100000 in
theorem ok_190_19 : k_190_19.all (chkE 190) = true := by decide +kernel
set_option maxRecDepth 100000 in
theorem ok_190_20 : k_190_20.all (chkE 190) = true := by decide +kernel
set_option maxRecDepth 100000 in
theorem ok_190_21 : k_190_21.all (chkE 190) = true := by decide +kernel
set_option maxRecDepth 100000 in
theorem ok_190_22 : k_190_22.all (chkE 190) = true := by decide +kernel
set_option maxRecDepth 100000 in
theorem ok_190_23 : k_190_23.all (chkE 190) = true := by decide +kernel
set_option maxRecDepth 100000 in
theorem ok_190_24 : k_190_24.all (chkE 190) = true := by decide +kernel
set_option maxRecDepth 100000 in
theorem ok_190_25 : k_190_25.all (chkE 190) = true := by decide +kernel
set_option maxRecDepth 100000 in
theorem ok_190_26 : k_190_26.all (chkE 190) = true := by decide +kernel
set_option maxRecDepth 100000 in
theorem ok_190_27 : k_190_27.all (chkE 190) = true := by decide +kernel
set_option maxRecDepth 100000 in
theorem ok_190_28 : k_190_28.all (chkE 190) = true := by decide +kernel
set_option maxRecDepth 100000 in
theorem ok_190_29 : k_190_29.all (chkE 190) = true := by decide +kernel
set_option maxRecDepth 100000 in
theorem ok_190_30 : k_190_30.all (chkE 190) = true := by decide +kernel
set_option maxRecDepth 100000 in
theorem ok_190_31 : k_190_31.all (chkE 190) = true := by decide +kernel
set_option maxRecDepth 100000 in
theorem ok_190_32 : k_190_32.all (chkE 190) = true := by decide +kernel
set_option maxRecDepth 100000 in
theorem ok_190_33 : k_190_33.all (chkE 190) = true := by decide +kernel
set_option maxRecDepth 100000 in
theorem ok_190_34 : k_190_34.all (chkE 190) = true := by decide +kernel
set_option maxRecDepth 100000 in
theorem ok_190_35 : k_190_35.all (chkE 190) = true := by decide +kernel
set_option maxRecDepth 100000 in
theorem ok_190_36 : k_190_36.all (chkE 190) = true := by decide +kernel
set_option maxRecDepth 100000 in
theorem ok_190_37 : k_190_37.all (chkE 190) = true := by decide +kernel
set_option maxRecDepth 100000 in
theorem ok_190_38 : k_190_38.all (chkE 190) = true := by decide +kernel
set_option maxRecDepth 100000 in
theorem ok_190 : chkM 190 k_190 = true := by
  simp only [chkM, k_190, List.all_cons, List.all_nil, Bool.and_true, ok_190_0, ok_190_1, ok_190_2, ok_190_3, ok_190_4, ok_190_5, ok_190_6, ok_190_7, ok_190_8, ok_190_9, ok_190_10, ok_190_11, ok_190_12, ok_190_13, ok_190_14, ok_190_15, ok_190_16, ok_190_17, ok_190_18, ok_190_19, ok_190_20, ok_190_21, ok_190_22, ok_190_23, ok_190_24, ok_190_25, ok_190_26, ok_190_27, ok_190_28, ok_190_29, ok_190_30, ok_190_31, ok_190_32, ok_190_33, ok_190_34, ok_190_35, ok_190_36, ok_190_37, ok_190_38]
set_option maxRecDepth 100000 in
theorem ok_191 : chkM 191 k_191 = true := by decide +kernel
set_option maxRecDepth 100000 in
theorem ok_192 : chkM 192 k_192 = true := by decide +kernel
set_option maxRecDepth 100000 in
theorem ok_193 : chkM 193 k_193 = true := by decide +kernel
set_option maxRecDepth 100000 in
theorem ok_194 : chkM 194 k_194 = true := by decide +kernel
set_option maxRecDepth 100000 in
theorem ok_195 : chkM 195 k_195 = true := by decide +kernel
set_option maxRecDepth 100000 in
theorem ok_196 : chkM 196 k_196 = true := by decide +kernel
set_option maxRecDepth 100000 in
theorem ok_197 : chkM 197 k_197 = true := by decide +kernel
set_option maxRecDepth 100000 in
theorem ok_198 : chkM 198 k_198 = true := by decide +kernel
set_option maxRecDepth 100000 in
theorem ok_199 : chkM 199 k_199 = true := by decide +kernel
set_option maxRecDepth 100000 in
theorem ok_200 : chkM 200 k_200 = true := by decide +kernel
set_option maxRecDepth 100000 in
theorem ok_201 : chkM 201 k_201 = true := by decide +kernel
set_option maxRecDepth 100000 in
theorem ok_202 : chkM 202 k_202 = true := by decide +kernel
set_option maxRecDepth 100000 in
theorem ok_203 : chkM 203 k_203 = true := by decide +kernel
set_option maxRecDepth 100000 in
theorem ok_204 : chkM 204 k_204 = true := by decide +kernel
set_option maxRecDepth 100000 in
theorem ok_205 : chkM 205 k_205 = true := by decide +kernel
set_option maxRecDepth 100000 in
theorem ok_206 : chkM 206 k_206 = true := by decide +kernel
set_option maxRecDepth 100000 in
theorem ok_207 : chkM 207 k_207 = true := by decide +kernel
set_option maxRecDepth 100000 in
theorem ok_208 : chkM 208 k_208 = true := by decide +kernel
set_option maxRecDepth 100000 in
theorem ok_209 : chkM 209 k_209 = true := by decide +kernel
set_option maxRecDepth 100000 in
theorem ok_210 : chkM 210 k_210 = true := by decide +kernel
set_option maxRecDepth 100000 in
theorem ok_211 : chkM 211 k_211 = true := by decide +kernel
set_option maxRecDepth 100000 in
theorem ok_212 : chkM 212 k_212 = true := by decide +kernel
set_option maxRecDepth 100000 in
theorem ok_213 : chkM 213 k_213 = true := by decide +kernel
set_option maxRecDepth 100000 in
theorem ok_214 : chkM 214 k_214 = true := by decide +kernel
set_option maxRecDepth 100000 in
theorem ok_215 : chkM 215 k_215 = true := by decide +kernel
set_option maxRecDepth 100000 in
theorem ok_216 : chkM 216 k_216 = true := by decide +kernel
set_option maxRecDepth 100000 in
theorem ok_217 : chkM 217 k_217 = true := by decide +kernel
set_option maxRecDepth 100000 in
theorem ok_218 : chkM 218 k_218 = true := by decide +kernel
set_option maxRecDepth 100000 in
theorem ok_219 : chkM 219 k_219 = true := by decide +kernel
set_option maxRecDepth 100000 in
theorem ok_220 : chkM 220 k_220 = true := by decide +kernel
set_option maxRecDepth 100000 in
theorem ok_221 : chkM 221 k_221 = true := by decide +kernel
set_option maxRecDepth 100000 in
theorem ok_222 : chkM 222 k_222 = true := by decide +kernel
set_option maxRecDepth 100000 in
theorem ok_223 : chkM 223 k_223 = true := by decide +kernel
set_option maxRecDepth 100000 in
theorem ok_224 : chkM 224 k_224 = true := by decide +kernel
set_option maxRecDepth 100000 in
theorem ok_225 : chkM 225 k_225 = true := by decide +kernel
set_option maxRecDepth 100000 in
theorem ok_226 : chkM 226 k_226 = true := by decide +kernel
set_option maxRecDepth 100000 in
theorem ok_227 : chkM 227 k_227 = true := by decide +kernel
set_option maxRecDepth 100000 in
theorem ok_228 : chkM 228 k_228 = true := by decide +kernel
set_option maxRecDepth 100000 in
theorem ok_229 : chkM 229 k_229 = true := by decide +kernel
set_option maxRecDepth 100000 in
theorem ok_230 : chkM 230 k_230 = true := by decide +kernel
set_option maxRecDepth 100000 in
theorem ok_231 : chkM 231 k_231 = true := by decide +kernel
set_option maxRecDepth 100000 in
theorem ok_232 : chkM 232 k_232 = true := by decide +kernel
set_option maxRecDepth 100000 in
theorem ok_233 : chkM 233 k_233 = true := by decide +kernel
set_option maxRecDepth 100000 in
theorem ok_234 : chkM 234 k_234 = true := by decide +kernel
set_option maxRecDepth 100000 in
theorem ok_235 : chkM 235 k_235 = true := by decide +kernel
set_option maxRecDepth 100000 in
theorem ok_236 : chkM 236 k_236 = true := by decide +kernel
set_option maxRecDepth 100000 in
theorem ok_237 : chkM 237 k_237 = true := by decide +kernel
set_option maxRecDepth 100000 in
theorem ok_238 : chkM 238 k_238 = true := by decide +kernel
set_option maxRecDepth 100000 in
theorem ok_239 : chkM 239 k_239 = true := by decide +kernel
set_option maxRecDepth 100000 in
theorem ok_240 : chkM 240 k_240 = true := by decide +kernel
set_option maxRecDepth 100000 in
theorem ok_241 : chkM 241 k_241 = true := by decide +kernel
set_option maxRecDepth 100000 in
theorem ok_242 : chkM 242 k_242 = true := by decide +kernel
set_option maxRecDepth 100000 in
theorem ok_243 : chkM 243 k_243 = true := by decide +kernel
set_option maxRecDepth 100000 in
theorem ok_244 : chkM 244 k_244 = true := by decide +kernel
set_option maxRecDepth 100000 in
theorem ok_245 : chkM 245 k_245 = true := by decide +kernel
set_option maxRecDepth 100000 in
theorem ok_246 : chkM 246 k_246 = true := by decide +kernel
set_option maxRecDepth 100000 in
theorem ok_247 : chkM 247 k_247 = true := by decide +kernel
set_option maxRecDepth 100000 in
theorem ok_248 : chkM 248 k_248 = true := by decide +kernel
set_option maxRecDepth 100000 in
theorem ok_249 : chkM 249 k_249 = true := by decide +kernel
set_option maxRecDepth 100000 in
theorem ok_250 : chkM 250 k_250 = true := by decide +kernel
set_option maxRecDepth 100000 in
theorem ok_251 : chkM 251 k_251 = true := by decide +kernel
set_option maxRecDepth 100000 in
theorem ok_252 : chkM 252 k_252 = true := by decide +kernel
set_option maxRecDepth 100000 in
theorem ok_253 : chkM 253 k_253 = true := by decide +kernel
set_option maxRecDepth 100000 in
theorem ok_254 : chkM 254 k_254 = true := by decide +kernel
set_option maxRecDepth 100000 in
theorem ok_255 : chkM 255 k_255 = true := by decide +kernel
set_option maxRecDepth 100000 in
theorem ok_256 : chkM 256 k_256 = true := by decide +kernel
set_option maxRecDepth 100000 in
theorem ok_257 : chkM 257 k_257 = true := by decide +kernel
set_option maxRecDepth 100000 in
theorem ok_258 : chkM 258 k_258 = true := by decide +kernel
set_option maxRecDepth 100000 in
theorem ok_259 : chkM 259 k_259 = true := by decide +kernel
set_option maxRecDepth 100000 in
theorem ok_260 : chkM 260 k_260 = true := by decide +kernel
set_option maxRecDepth 100000 in
theorem ok_261 : chkM 261 k_261 = true := by decide +kernel
set_option maxRecDepth 100000 in
theorem ok_262 : chkM 262 k_262 = true := by decide +kernel
set_option maxRecDepth 100000 in
theorem ok_263 : chkM 263 k_263 = true := by decide +kernel
set_option maxRecDepth 100000 in
theorem ok_264 : chkM 264 k_264 = true := by decide +kernel
set_option maxRecDepth 100000 in
theorem ok_265 : chkM 265 k_265 = true := by decide +kernel
set_option maxRecDepth 100000 in
theorem ok_266 : chkM 266 k_266 = true := by decide +kernel
set_option maxRecDepth 100000 in
theorem ok_267 : chkM 267 k_267 = true := by decide +kernel
set_option maxRecDepth 100000 in
theorem ok_268 : chkM 268 k_268 = true := by decide +kernel
set_option maxRecDepth 100000 in
theorem ok_269 : chkM 269 k_269 = true := by decide +kernel
set_option maxRecDepth 100000 in
theorem ok_270 : chkM 270 k_270 = true := by decide +kernel
set_option maxRecDepth 100000 in
theorem ok_271 : chkM 271 k_271 = true := by decide +kernel
set_option maxRecDepth 100000 in
theorem ok_272 : chkM 272 k_272 = true := by decide +kernel
set_option maxRecDepth 100000 in
theorem ok_273 : chkM 273 k_273 = true := by decide +kernel
set_option maxRecDepth 100000 in
theorem ok_274 : chkM 274 k_274 = true := by decide +kernel
set_option maxRecDepth 100000 in
theorem ok_275 : chkM 275 k_275 = true := by decide +kernel
set_option maxRecDepth 100000 in
theorem ok_276 : chkM 276 k_276 = true := by decide +kernel
set_option maxRecDepth 100000 in
theorem ok_277 : chkM 277 k_277 = true := by decide +kernel
set_option maxRecDepth 100000 in
theorem ok_278 : chkM 278 k_278 = true := by decide +kernel
set_option maxRecDepth 100000 in
theorem ok_279 : chkM 279 k_279 = true := by decide +kernel
set_option maxRecDepth 100000 in
theorem ok_280 : chkM 280 k_280 = true := by decide +kernel
set_option maxRecDepth 100000 in
theorem ok_281 : chkM 281 k_281 = true := by decide +kernel
set_option maxRecDepth 100000 in
theorem ok_282 : chkM 282 k_282 = true := by decide +kernel
set_option maxRecDepth 100000 in
theorem ok_283 : chkM 283 k_283 = true := by decide +kernel
set_option maxRecDepth 100000 in
theorem ok_284 : chkM 284 k_284 = true := by decide +kernel
set_option maxRecDepth 100000 in
theorem ok_285 : chkM 285 k_285 = true := by decide +kernel
set_option maxRecDepth 100000 in
theorem ok_286 : chkM 286 k_286 = true := by decide +kernel
set_option maxRecDepth 100000 in
theorem ok_287 : chkM 287 k_287 = true := by decide +kernel
set_option maxRecDepth 100000 in
theorem ok_288 : chkM 288 k_288 = true := by decide +kernel
set_option maxRecDepth 100000 in
theorem ok_289 : chkM 289 k_289 = true := by decide +kernel
set_option maxRecDepth 100000 in
theorem ok_290 : chkM 290 k_290 = true := by decide +kernel
set_option maxRecDepth 100000 in
theorem ok_291 : chkM 291 k_291 = true := by decide +kernel
set_option maxRecDepth 100000 in
theorem ok_292 : chkM 292 k_292 = true := by decide +kernel
set_option maxRecDepth 100000 in
theorem ok_293 : chkM 293 k_293 = true := by decide +kernel
set_option maxRecDepth 100000 in
theorem ok_294 : chkM 294 k_294 = true := by decide +kernel
set_option maxRecDepth 100000 in
theorem ok_295 : chkM 295 k_295 = true := by decide +kernel
set_option maxRecDepth 100000 in
theorem ok_296 : chkM 296 k_296 = true := by decide +kernel
set_option maxRecDepth 100000 in
theorem ok_297 : chkM 297 k_297 = true := by decide +kernel
set_option maxRecDepth 100000 in
theorem ok_298 : chkM 298 k_298 = true := by decide +kernel
set_option maxRecDepth 100000 in
theorem ok_299 : chkM 299 k_299 = true := by decide +kernel
set_option maxRecDepth 100000 in
theorem ok_300 : chkM 300 k_300 = true := by decide +kernel
set_option maxRecDepth 100000 in
theorem ok_301 : chkM 301 k_301 = true := by decide +kernel
set_option maxRecDepth 100000 in
theorem ok_302 : chkM 302 k_302 = true := by decide +kernel
set_option maxRecDepth 100000 in
theorem ok_303 : chkM 303 k_303 = true := by decide +kernel
set_option maxRecDepth 100000 in
theorem ok_304 : chkM 304 k_304 = true := by decide +kernel
set_option maxRecDepth 100000 in
theorem ok_305 : chkM 305 k_305 = true := by decide +kernel
set_option maxRecDepth 100000 in
theorem ok_306 : chkM 306 k_306 = true := by decide +kernel
set_option maxRecDepth 100000 in
theorem ok_307 : chkM 307 k_307 = true := by decide +kernel
set_option maxRecDepth 100000 in
theorem ok_308 : chkM 308 k_308 = true := by decide +kernel
set_option maxRecDepth 100000 in
theorem ok_309 : chkM 309 k_309 = true := by decide +kernel
set_option maxRecDepth 100000 in
theorem ok_310 : chkM 310 k_310 = true := by decide +kernel
abbrev kM (m : Nat) : List (List (Nat × AE × List Nat)) := nth (nth k_all (m / 16) []) (m % 16) []
theorem ok_lt : ∀ m, m < 311 → chkM m (kM m) = true
  | 0, _ => ok_0
  | 1, _ => ok_1
  | 2, _ => ok_2
  | 3, _ => ok_3
  | 4, _ => ok_4
  | 5, _ => ok_5
  | 6, _ => ok_6
  | 7, _ => ok_7
  | 8, _ => ok_8
  | 9, _ => ok_9
  | 10, _ => ok_10
  | 11, _ => ok_11
  | 12, _ => ok_12
  | 13, _ => ok_13
  | 14, _ => ok_14
  | 15, _ => ok_15
  | 16, _ => ok_16
  | 17, _ => ok_17
  | 18, _ => ok_18
  | 19, _ => ok_19
  | 20, _ => ok_20
  | 21, _ => ok_21
  | 22, _ => ok_22
  | 23, _ => ok_23
  | 24, _ => ok_24
  | 25, _ => ok_25
  | 26, _ => ok_26
  | 27, _ => ok_27
  | 28, _ => ok_28
  | 29, _ => ok_29
  | 30, _ => ok_30
  | 31, _ => ok_31
  | 32, _ => ok_32
  | 33, _ => ok_33
  | 34, _ => ok_34
  | 35, _ => ok_35
  | 36, _ => ok_36
  | 37, _ => ok_37
  | 38, _ => ok_38
  | 39, _ => ok_39
  | 40, _ => ok_40
  | 41, _ => ok_41
  | 42, _ => ok_42
  | 43, _ => ok_43
  | 44, _ => ok_44
  | 45, _ => ok_45
  | 46, _ => ok_46
  | 47, _ => ok_47
  | 48, _ => ok_48
  | 49, _ => ok_49
  | 50, _ => ok_50
  | 51, _ => ok_51
  | 52, _ => ok_52
  | 53, _ => ok_53
  | 54, _ => ok_54
  | 55, _ => ok_55
  | 56, _ => ok_56
  | 57, _ => ok_57
  | 58, _ => ok_58
  | 59, _ => ok_59
  | 60, _ => ok_60
  | 61, _ => ok_61
  | 62, _ => ok_62
  | 63, _ => ok_63
  | 64, _ => ok_64
  | 65, _ => ok_65
  | 66, _ => ok_66
  | 67, _ => ok_67
  | 68, _ => ok_68
  | 69, _ => ok_69
  | 70, _ => ok_70
  | 71, _ => ok_71
  | 72, _ => ok_72
  | 73, _ => ok_73
  | 74, _ => ok_74
  | 75, _ => ok_75
  | 76, _ => ok_76
  | 77, _ => ok_77
  | 78, _ => ok_78
  | 79, _ => ok_79
  | 80, _ => ok_80
  | 81, _ => ok_81
  | 82, _ => ok_82
  | 83, _ => ok_83
  | 84, _ => ok_84
  | 85, _ => ok_85
  | 86, _ => ok_86
  | 87, _ => ok_87
  | 88, _ => ok_88
  | 89, _ => ok_89
  | 90, _ => ok_90
  | 91, _ => ok_91
  | 92, _ => ok_92
  | 93, _ => ok_93
  | 94, _ => ok_94
  | 95, _ => ok_95
  | 96, _ => ok_96
  | 97, _ => ok_97
  | 98, _ => ok_98
  | 99, _ => ok_99
  | 100, _ => ok_100
  | 101, _ => ok_101
  | 102, _ => ok_102
  | 103, _ => ok_103
  | 104, _ => ok_104
  | 105, _ => ok_105
  | 106, _ => ok_106
  | 107, _ => ok_107
  | 108, _ => ok_108
  | 109, _ => ok_109
  | 110, _ => ok_110
  | 111, _ => ok_111
  | 112, _ => ok_112
  | 113, _ => ok_113
  | 114, _ => ok_114
  | 115, _ => ok_115
  | 116, _ => ok_116
  | 117, _ => ok_117
  | 118, _ => ok_118
  | 119, _ => ok_119
  | 120, _ => ok_120
  | 121, _ => ok_121
  | 122, _ => ok_122
  | 123, _ => ok_123
  | 124, _ => ok_124
  | 125, _ => ok_125
  | 126, _ => ok_126
  | 127, _ => ok_127
  | 128, _ => ok_128
  | 129, _ => ok_129
  | 130, _ => ok_130
  | 131, _ => ok_131
  | 132, _ => ok_132
  | 133, _ => ok_133
  | 134, _ => ok_134
  | 135, _ => ok_135
  | 136, _ => ok_136
  | 137, _ => ok_137
  | 138, _ => ok_138
  | 139, _ => ok_139
  | 140, _ => ok_140
  | 141, _ => ok_141
  | 142, _ => ok_142
  | 143, _ => ok_143
  | 144, _ => ok_144
  | 145, _ => ok_145
  | 146, _ => ok_146
  | 147, _ => ok_147
  | 148, _ => ok_148
  | 149, _ => ok_149
  | 150, _ => ok_150
  | 151, _ => ok_151
  | 152, _ => ok_152
  | 153, _ => ok_153
  | 154, _ => ok_154
  | 155, _ => ok_155
  | 156, _ => ok_156
  | 157, _ => ok_157
  | 158, _ => ok_158
  | 159, _ => ok_159
  | 160, _ => ok_160
  | 161, _ => ok_161
  | 162, _ => ok_162
  | 163, _ => ok_163
  | 164, _ => ok_164
  | 165, _ => ok_165
  | 166, _ => ok_166
  | 167, _ => ok_167
  | 168, _ => ok_168
  | 169, _ => ok_169
  | 170, _ => ok_170
  | 171, _ => ok_171
  | 172, _ => ok_172
  | 173, _ => ok_173
  | 174, _ => ok_174
  | 175, _ => ok_175
  | 176, _ => ok_176
  | 177, _ => ok_177
  | 178, _ => ok_178
  | 179, _ => ok_179
  | 180, _ => ok_180
  | 181, _ => ok_181
  | 182, _ => ok_182
  | 183, _ => ok_183
  | 184, _ => ok_184
  | 185, _ => ok_185
  | 186, _ => ok_186
  | 187, _ => ok_187
  | 188, _ => ok_188
  | 189, _ => ok_189
  | 190, _ => ok_190
  | 191, _ => ok_191
  | 192, _ => ok_192
  | 193, _ => ok_193
  | 194, _ => ok_194
  | 195, _ => ok_195
  | 196, _ => ok_196
  | 197, _ => ok_197
  | 198, _ => ok_198
  | 199, _ => ok_199
  | 200, _ => ok_200
  | 201, _ => ok_201
  | 202, _ => ok_202
  | 203, _ => ok_203
  | 204, _ => ok_204
  | 205, _ => ok_205
  | 206, _ => ok_206
  | 207, _ => ok_207
  | 208, _ => ok_208
  | 209, _ => ok_209
  | 210, _ => ok_210
  | 211, _ => ok_211
  | 212, _ => ok_212
  | 213, _ => ok_213
  | 214, _ => ok_214
  | 215, _ => ok_215
  | 216, _ => ok_216
  | 217, _ => ok_217
  | 218, _ => ok_218
  | 219, _ => ok_219
  | 220, _ => ok_220
  | 221, _ => ok_221
  | 222, _ => ok_222
  | 223, _ => ok_223
  | 224, _ => ok_224
  | 225, _ => ok_225
  | 226, _ => ok_226
  | 227, _ => ok_227
  | 228, _ => ok_228
  | 229, _ => ok_229
  | 230, _ => ok_230
  | 231, _ => ok_231
  | 232, _ => ok_232
  | 233, _ => ok_233
  | 234, _ => ok_234
  | 235, _ => ok_235
  | 236, _ => ok_236
  | 237, _ => ok_237
  | 238, _ => ok_238
  | 239, _ => ok_239
  | 240, _ => ok_240
  | 241, _ => ok_241
  | 242, _ => ok_242
  | 243, _ => ok_243
  | 244, _ => ok_244
  | 245, _ => ok_245
  | 246, _ => ok_246
  | 247, _ => ok_247
  | 248, _ => ok_248
  | 249, _ => ok_249
  | 250, _ => ok_250
  | 251, _ => ok_251
  | 252, _ => ok_252
  | 253, _ => ok_253
  | 254, _ => ok_254
  | 255, _ => ok_255
  | 256, _ => ok_256
  | 257, _ => ok_257
  | 258, _ => ok_258
  | 259, _ => ok_259
  | 260, _ => ok_260
  | 261, _ => ok_261
  | 262, _ => ok_262
  | 263, _ => ok_263
  | 264, _ => ok_264
  | 265, _ => ok_265
  | 266, _ => ok_266
  | 267, _ => ok_267
  | 268, _ => ok_268
  | 269, _ => ok_269
  | 270, _ => ok_270
  | 271, _ => ok_271
  | 272, _ => ok_272
  | 273, _ => ok_273
  | 274, _ => ok_274
  | 275, _ => ok_275
  | 276, _ => ok_276
  | 277, _ => ok_277
  | 278, _ => ok_278
  | 279, _ => ok_279
  | 280, _ => ok_280
  | 281, _ => ok_281
  | 282, _ => ok_282
  | 283, _ => ok_283
  | 284, _ => ok_284
  | 285, _ => ok_285
  | 286, _ => ok_286
  | 287, _ => ok_287
  | 288, _ => ok_288
  | 289, _ => ok_289
  | 290, _ => ok_290
  | 291, _ => ok_291
  | 292, _ => ok_292
  | 293, _ => ok_293
  | 294, _ => ok_294
  | 295, _ => ok_295
  | 296, _ => ok_296
  | 297, _ => ok_297
  | 298, _ => ok_298
  | 299, _ => ok_299
  | 300, _ => ok_300
  | 301, _ => ok_301
  | 302, _ => ok_302
  | 303, _ => ok_303
  | 304, _ => ok_304
  | 305, _ => ok_305
  | 306, _ => ok_306
  | 307, _ => ok_307
  | 308, _ => ok_308
  | 309, _ => ok_309
  | 310, _ => ok_310
  | n + 311, h => absurd h (by omega)
theorem kM_out {m : Nat} (h : 311 ≤ m) : kM m = [] := by
  rcases Nat.lt_or_ge (m / 16) 20 with q | q
  · have e : m / 16 = 19 := by omega
    have e2 : 7 ≤ m % 16 := by omega
    show nth (nth k_all (m / 16) []) (m % 16) [] = []
    rw [e]
    exact nth_out _ _ _ e2
  · show nth (nth k_all (m / 16) []) (m % 16) [] = []
    rw [nth_out k_all (m / 16) [] q]
    exact nth_out _ _ _ (Nat.zero_le _)
theorem ok_all (m : Nat) : chkM m (kM m) = true := by
  rcases Nat.lt_or_ge m 311 with h | h
  · exact ok_lt m h
  · rw [kM_out h]; rfl
theorem lkp_in : ∀ (r : List (Nat × AE × List Nat)) (pc : Nat), lkp r pc = ((.nop, 0, [], 0), []) ∨ (pc, lkp r pc) ∈ r
  | [], _ => Or.inl rfl
  | (q, e) :: r, pc => by
    unfold lkp
    cases h : Nat.beq pc q with
    | true =>
      right
      obtain rfl := Nat.eq_of_beq_eq_true h
      exact List.mem_cons_self
    | false =>
      rcases lkp_in r pc with h | h
      · exact Or.inl h
      · exact Or.inr (List.mem_cons_of_mem _ h)
theorem fetch_ok (m pc : Nat) : fetch m pc = ((.nop, 0, [], 0), []) ∨ chkE m (pc, fetch m pc) = true := by
  unfold fetch
  rcases lkp_in (nth (kM m) (pc / 8) []) pc with h | h
  · exact Or.inl h
  · right
    have h1 := ok_all m
    unfold chkM at h1
    rcases Nat.lt_or_ge (pc / 8) (kM m).length with h2 | h2
    · exact List.all_eq_true.mp (List.all_eq_true.mp h1 _ (List.mem_of_getElem? (nth_in (kM m) (pc / 8) [] h2))) _ h
    · rw [nth_out _ _ _ h2] at h
      exact absurd h List.not_mem_nil
