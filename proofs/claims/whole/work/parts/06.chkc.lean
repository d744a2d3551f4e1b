set_option maxRecDepth 100000 in
theorem q_okC_0 : q_okCd 0 = true := by decide +kernel
set_option maxRecDepth 100000 in
theorem q_okC_1 : q_okCd 1 = true := by decide +kernel
set_option maxRecDepth 100000 in
theorem q_okC_2 : q_okCd 2 = true := by decide +kernel
set_option maxRecDepth 100000 in
theorem q_okC_3 : q_okCd 3 = true := by decide +kernel
set_option maxRecDepth 100000 in
theorem q_okC_4 : q_okCd 4 = true := by decide +kernel
set_option maxRecDepth 100000 in
theorem q_okC_5 : q_okCd 5 = true := by decide +kernel
set_option maxRecDepth 100000 in
theorem q_okC_6 : q_okCd 6 = true := by decide +kernel
set_option maxRecDepth 100000 in
theorem q_okC_7 : q_okCd 7 = true := by decide +kernel
set_option maxRecDepth 100000 in
theorem q_okC_8 : q_okCd 8 = true := by decide +kernel
set_option maxRecDepth 100000 in
theorem q_okC_9 : q_okCd 9 = true := by decide +kernel
set_option maxRecDepth 100000 in
theorem q_okC_10 : q_okCd 10 = true := by decide +kernel
set_option maxRecDepth 100000 in
theorem q_okC_11 : q_okCd 11 = true := by decide +kernel
set_option maxRecDepth 100000 in
theorem q_okC_12 : q_okCd 12 = true := by decide +kernel
set_option maxRecDepth 100000 in
theorem q_okC_13 : q_okCd 13 = true := by decide +kernel
set_option maxRecDepth 100000 in
theorem q_okC_14 : q_okCd 14 = true := by decide +kernel
set_option maxRecDepth 100000 in
theorem q_okC_15 : q_okCd 15 = true := by decide +kernel
set_option maxRecDepth 100000 in
theorem q_okC_16 : q_okCd 16 = true := by decide +kernel
set_option maxRecDepth 100000 in
theorem q_okC_17 : q_okCd 17 = true := by decide +kernel
set_option maxRecDepth 100000 in
theorem q_okC_18 : q_okCd 18 = true := by decide +kernel
set_option maxRecDepth 100000 in
theorem q_okC_19 : q_okCd 19 = true := by decide +kernel
set_option maxRecDepth 100000 in
theorem q_okC_20 : q_okCd 20 = true := by decide +kernel
set_option maxRecDepth 100000 in
theorem q_okC_21 : q_okCd 21 = true := by decide +kernel
set_option maxRecDepth 100000 in
theorem q_okC_22 : q_okCd 22 = true := by decide +kernel
set_option maxRecDepth 100000 in
theorem q_okC_23 : q_okCd 23 = true := by decide +kernel
set_option maxRecDepth 100000 in
theorem q_okC_24 : q_okCd 24 = true := by decide +kernel
set_option maxRecDepth 100000 in
theorem q_okC_25 : q_okCd 25 = true := by decide +kernel
set_option maxRecDepth 100000 in
theorem q_okC_26 : q_okCd 26 = true := by decide +kernel
set_option maxRecDepth 100000 in
theorem q_okC_27 : q_okCd 27 = true := by decide +kernel
set_option maxRecDepth 100000 in
theorem q_okC_28 : q_okCd 28 = true := by decide +kernel
set_option maxRecDepth 100000 in
theorem q_okC_29 : q_okCd 29 = true := by decide +kernel
set_option maxRecDepth 100000 in
theorem q_okC_30 : q_okCd 30 = true := by decide +kernel
set_option maxRecDepth 100000 in
theorem q_okC_31 : q_okCd 31 = true := by decide +kernel
set_option maxRecDepth 100000 in
theorem q_okC_32 : q_okCd 32 = true := by decide +kernel
set_option maxRecDepth 100000 in
theorem q_okC_33 : q_okCd 33 = true := by decide +kernel
set_option maxRecDepth 100000 in
theorem q_okC_34 : q_okCd 34 = true := by decide +kernel
set_option maxRecDepth 100000 in
theorem q_okC_35 : q_okCd 35 = true := by decide +kernel
set_option maxRecDepth 100000 in
theorem q_okC_36 : q_okCd 36 = true := by decide +kernel
set_option maxRecDepth 100000 in
theorem q_okC_37 : q_okCd 37 = true := by decide +kernel
set_option maxRecDepth 100000 in
theorem q_okC_38 : q_okCd 38 = true := by decide +kernel
set_option maxRecDepth 100000 in
theorem q_okC_39 : q_okCd 39 = true := by decide +kernel
set_option maxRecDepth 100000 in
theorem q_okC_40 : q_okCd 40 = true := by decide +kernel
set_option maxRecDepth 100000 in
theorem q_okC_41 : q_okCd 41 = true := by decide +kernel
set_option maxRecDepth 100000 in
theorem q_okC_42 : q_okCd 42 = true := by decide +kernel
set_option maxRecDepth 100000 in
theorem q_okC_43 : q_okCd 43 = true := by decide +kernel
set_option maxRecDepth 100000 in
theorem q_okC_44 : q_okCd 44 = true := by decide +kernel
set_option maxRecDepth 100000 in
theorem q_okC_45 : q_okCd 45 = true := by decide +kernel
set_option maxRecDepth 100000 in
theorem q_okC_46 : q_okCd 46 = true := by decide +kernel
set_option maxRecDepth 100000 in
theorem q_okC_47 : q_okCd 47 = true := by decide +kernel
set_option maxRecDepth 100000 in
theorem q_okC_48 : q_okCd 48 = true := by decide +kernel
set_option maxRecDepth 100000 in
theorem q_okC_49 : q_okCd 49 = true := by decide +kernel
set_option maxRecDepth 100000 in
theorem q_okC_50 : q_okCd 50 = true := by decide +kernel
set_option maxRecDepth 100000 in
theorem q_okC_51 : q_okCd 51 = true := by decide +kernel
set_option maxRecDepth 100000 in
theorem q_okC_52 : q_okCd 52 = true := by decide +kernel
set_option maxRecDepth 100000 in
theorem q_okC_53 : q_okCd 53 = true := by decide +kernel
set_option maxRecDepth 100000 in
theorem q_okC_54 : q_okCd 54 = true := by decide +kernel
set_option maxRecDepth 100000 in
theorem q_okC_55 : q_okCd 55 = true := by decide +kernel
set_option maxRecDepth 100000 in
theorem q_okC_56 : q_okCd 56 = true := by decide +kernel
set_option maxRecDepth 100000 in
theorem q_okC_57 : q_okCd 57 = true := by decide +kernel
set_option maxRecDepth 100000 in
theorem q_okC_58 : q_okCd 58 = true := by decide +kernel
set_option maxRecDepth 100000 in
theorem q_okC_59 : q_okCd 59 = true := by decide +kernel
set_option maxRecDepth 100000 in
theorem q_okC_60 : q_okCd 60 = true := by decide +kernel
set_option maxRecDepth 100000 in
theorem q_okC_61 : q_okCd 61 = true := by decide +kernel
set_option maxRecDepth 100000 in
theorem q_okC_62 : q_okCd 62 = true := by decide +kernel
set_option maxRecDepth 100000 in
theorem q_okC_63 : q_okCd 63 = true := by decide +kernel
set_option maxRecDepth 100000 in
theorem q_okC_64 : q_okCd 64 = true := by decide +kernel
set_option maxRecDepth 100000 in
theorem q_okC_65 : q_okCd 65 = true := by decide +kernel
set_option maxRecDepth 100000 in
theorem q_okC_66 : q_okCd 66 = true := by decide +kernel
set_option maxRecDepth 100000 in
theorem q_okC_67 : q_okCd 67 = true := by decide +kernel
set_option maxRecDepth 100000 in
theorem q_okC_68 : q_okCd 68 = true := by decide +kernel
set_option maxRecDepth 100000 in
theorem q_okC_69 : q_okCd 69 = true := by decide +kernel
set_option maxRecDepth 100000 in
theorem q_okC_70 : q_okCd 70 = true := by decide +kernel
set_option maxRecDepth 100000 in
theorem q_okC_71 : q_okCd 71 = true := by decide +kernel
set_option maxRecDepth 100000 in
theorem q_okC_72 : q_okCd 72 = true := by decide +kernel
set_option maxRecDepth 100000 in
theorem q_okC_73 : q_okCd 73 = true := by decide +kernel
set_option maxRecDepth 100000 in
theorem q_okC_74 : q_okCd 74 = true := by decide +kernel
set_option maxRecDepth 100000 in
theorem q_okC_75 : q_okCd 75 = true := by decide +kernel
set_option maxRecDepth 100000 in
theorem q_okC_76 : q_okCd 76 = true := by decide +kernel
set_option maxRecDepth 100000 in
theorem q_okC_77 : q_okCd 77 = true := by decide +kernel
set_option maxRecDepth 100000 in
theorem q_okC_78 : q_okCd 78 = true := by decide +kernel
set_option maxRecDepth 100000 in
theorem q_okC_79 : q_okCd 79 = true := by decide +kernel
set_option maxRecDepth 100000 in
theorem q_okC_80 : q_okCd 80 = true := by decide +kernel
set_option maxRecDepth 100000 in
theorem q_okC_81 : q_okCd 81 = true := by decide +kernel
set_option maxRecDepth 100000 in
theorem q_okC_82 : q_okCd 82 = true := by decide +kernel
set_option maxRecDepth 100000 in
theorem q_okC_83 : q_okCd 83 = true := by decide +kernel
set_option maxRecDepth 100000 in
theorem q_okC_84 : q_okCd 84 = true := by decide +kernel
set_option maxRecDepth 100000 in
theorem q_okC_85 : q_okCd 85 = true := by decide +kernel
set_option maxRecDepth 100000 in
theorem q_okC_86 : q_okCd 86 = true := by decide +kernel
set_option maxRecDepth 100000 in
theorem q_okC_87 : q_okCd 87 = true := by decide +kernel
set_option maxRecDepth 100000 in
theorem q_okC_88 : q_okCd 88 = true := by decide +kernel
set_option maxRecDepth 100000 in
theorem q_okC_89 : q_okCd 89 = true := by decide +kernel
set_option maxRecDepth 100000 in
theorem q_okC_90 : q_okCd 90 = true := by decide +kernel
set_option maxRecDepth 100000 in
theorem q_okC_91 : q_okCd 91 = true := by decide +kernel
set_option maxRecDepth 100000 in
theorem q_okC_92 : q_okCd 92 = true := by decide +kernel
set_option maxRecDepth 100000 in
theorem q_okC_93 : q_okCd 93 = true := by decide +kernel
set_option maxRecDepth 100000 in
theorem q_okC_94 : q_okCd 94 = true := by decide +kernel
set_option maxRecDepth 100000 in
theorem q_okC_95 : q_okCd 95 = true := by decide +kernel
set_option maxRecDepth 100000 in
theorem q_okC_96 : q_okCd 96 = true := by decide +kernel
set_option maxRecDepth 100000 in
theorem q_okC_97 : q_okCd 97 = true := by decide +kernel
set_option maxRecDepth 100000 in
theorem q_okC_98 : q_okCd 98 = true := by decide +kernel
set_option maxRecDepth 100000 in
theorem q_okC_99 : q_okCd 99 = true := by decide +kernel
set_option maxRecDepth 100000 in
theorem q_okC_100 : q_okCd 100 = true := by decide +kernel
set_option maxRecDepth 100000 in
theorem q_okC_101 : q_okCd 101 = true := by decide +kernel
set_option maxRecDepth 100000 in
theorem q_okC_102 : q_okCd 102 = true := by decide +kernel
set_option maxRecDepth 100000 in
theorem q_okC_103 : q_okCd 103 = true := by decide +kernel
set_option maxRecDepth 100000 in
theorem q_okC_104 : q_okCd 104 = true := by decide +kernel
set_option maxRecDepth 100000 in
theorem q_okC_105 : q_okCd 105 = true := by decide +kernel
set_option maxRecDepth 100000 in
theorem q_okC_106 : q_okCd 106 = true := by decide +kernel
set_option maxRecDepth 100000 in
theorem q_okC_107 : q_okCd 107 = true := by decide +kernel
set_option maxRecDepth 100000 in
theorem q_okC_108 : q_okCd 108 = true := by decide +kernel
set_option maxRecDepth 100000 in
theorem q_okC_109 : q_okCd 109 = true := by decide +kernel
set_option maxRecDepth 100000 in
theorem q_okC_110 : q_okCd 110 = true := by decide +kernel
set_option maxRecDepth 100000 in
theorem q_okC_111 : q_okCd 111 = true := by decide +kernel
set_option maxRecDepth 100000 in
theorem q_okC_112 : q_okCd 112 = true := by decide +kernel
set_option maxRecDepth 100000 in
theorem q_okC_113 : q_okCd 113 = true := by decide +kernel
set_option maxRecDepth 100000 in
theorem q_okC_114 : q_okCd 114 = true := by decide +kernel
set_option maxRecDepth 100000 in
theorem q_okC_115 : q_okCd 115 = true := by decide +kernel
set_option maxRecDepth 100000 in
theorem q_okC_116 : q_okCd 116 = true := by decide +kernel
set_option maxRecDepth 100000 in
theorem q_okC_117 : q_okCd 117 = true := by decide +kernel
set_option maxRecDepth 100000 in
theorem q_okC_118 : q_okCd 118 = true := by decide +kernel
set_option maxRecDepth 100000 in
theorem q_okC_119 : q_okCd 119 = true := by decide +kernel
set_option maxRecDepth 100000 in
theorem q_okC_120 : q_okCd 120 = true := by decide +kernel
set_option maxRecDepth 100000 in
theorem q_okC_121 : q_okCd 121 = true := by decide +kernel
set_option maxRecDepth 100000 in
theorem q_okC_122 : q_okCd 122 = true := by decide +kernel
set_option maxRecDepth 100000 in
theorem q_okC_123 : q_okCd 123 = true := by decide +kernel
set_option maxRecDepth 100000 in
theorem q_okC_124 : q_okCd 124 = true := by decide +kernel
set_option maxRecDepth 100000 in
theorem q_okC_125 : q_okCd 125 = true := by decide +kernel
set_option maxRecDepth 100000 in
theorem q_okC_126 : q_okCd 126 = true := by decide +kernel
set_option maxRecDepth 100000 in
theorem q_okC_127 : q_okCd 127 = true := by decide +kernel
set_option maxRecDepth 100000 in
theorem q_okC_128 : q_okCd 128 = true := by decide +kernel
set_option maxRecDepth 100000 in
theorem q_okC_129 : q_okCd 129 = true := by decide +kernel
set_option maxRecDepth 100000 in
theorem q_okC_130 : q_okCd 130 = true := by decide +kernel
set_option maxRecDepth 100000 in
theorem q_okC_131 : q_okCd 131 = true := by decide +kernel
set_option maxRecDepth 100000 in
theorem q_okC_132 : q_okCd 132 = true := by decide +kernel
set_option maxRecDepth 100000 in
theorem q_okC_133 : q_okCd 133 = true := by decide +kernel
set_option maxRecDepth 100000 in
theorem q_okC_134 : q_okCd 134 = true := by decide +kernel
set_option maxRecDepth 100000 in
theorem q_okC_135 : q_okCd 135 = true := by decide +kernel
set_option maxRecDepth 100000 in
theorem q_okC_136 : q_okCd 136 = true := by decide +kernel
set_option maxRecDepth 100000 in
theorem q_okC_137 : q_okCd 137 = true := by decide +kernel
set_option maxRecDepth 100000 in
theorem q_okC_138 : q_okCd 138 = true := by decide +kernel
set_option maxRecDepth 100000 in
theorem q_okC_139 : q_okCd 139 = true := by decide +kernel
set_option maxRecDepth 100000 in
theorem q_okC_140 : q_okCd 140 = true := by decide +kernel
set_option maxRecDepth 100000 in
theorem q_okC_141 : q_okCd 141 = true := by decide +kernel
set_option maxRecDepth 100000 in
theorem q_okC_142 : q_okCd 142 = true := by decide +kernel
set_option maxRecDepth 100000 in
theorem q_okC_143 : q_okCd 143 = true := by decide +kernel
set_option maxRecDepth 100000 in
theorem q_okC_144 : q_okCd 144 = true := by decide +kernel
set_option maxRecDepth 100000 in
theorem q_okC_145 : q_okCd 145 = true := by decide +kernel
set_option maxRecDepth 100000 in
theorem q_okC_146 : q_okCd 146 = true := by decide +kernel
set_option maxRecDepth 100000 in
theorem q_okC_147 : q_okCd 147 = true := by decide +kernel
set_option maxRecDepth 100000 in
theorem q_okC_148 : q_okCd 148 = true := by decide +kernel
set_option maxRecDepth 100000 in
theorem q_okC_149 : q_okCd 149 = true := by decide +kernel
set_option maxRecDepth 100000 in
theorem q_okC_150 : q_okCd 150 = true := by decide +kernel
set_option maxRecDepth 100000 in
theorem q_okC_151 : q_okCd 151 = true := by decide +kernel
set_option maxRecDepth 100000 in
theorem q_okC_152 : q_okCd 152 = true := by decide +kernel
set_option maxRecDepth 100000 in
theorem q_okC_153 : q_okCd 153 = true := by decide +kernel
set_option maxRecDepth 100000 in
theorem q_okC_154 : q_okCd 154 = true := by decide +kernel
set_option maxRecDepth 100000 in
theorem q_okC_155 : q_okCd 155 = true := by decide +kernel
set_option maxRecDepth 100000 in
theorem q_okC_156 : q_okCd 156 = true := by decide +kernel
set_option maxRecDepth 100000 in
theorem q_okC_157 : q_okCd 157 = true := by decide +kernel
set_option maxRecDepth 100000 in
theorem q_okC_158 : q_okCd 158 = true := by decide +kernel
set_option maxRecDepth 100000 in
theorem q_okC_159 : q_okCd 159 = true := by decide +kernel
set_option maxRecDepth 100000 in
theorem q_okC_160 : q_okCd 160 = true := by decide +kernel
set_option maxRecDepth 100000 in
theorem q_okC_161 : q_okCd 161 = true := by decide +kernel
set_option maxRecDepth 100000 in
theorem q_okC_162 : q_okCd 162 = true := by decide +kernel
set_option maxRecDepth 100000 in
theorem q_okC_163 : q_okCd 163 = true := by decide +kernel
set_option maxRecDepth 100000 in
theorem q_okC_164 : q_okCd 164 = true := by decide +kernel
set_option maxRecDepth 100000 in
theorem q_okC_165 : q_okCd 165 = true := by decide +kernel
set_option maxRecDepth 100000 in
theorem q_okC_166 : q_okCd 166 = true := by decide +kernel
set_option maxRecDepth 100000 in
theorem q_okC_167 : q_okCd 167 = true := by decide +kernel
set_option maxRecDepth 100000 in
theorem q_okC_168 : q_okCd 168 = true := by decide +kernel
set_option maxRecDepth 100000 in
theorem q_okC_169 : q_okCd 169 = true := by decide +kernel
set_option maxRecDepth 100000 in
theorem q_okC_170 : q_okCd 170 = true := by decide +kernel
set_option maxRecDepth 100000 in
theorem q_okC_171 : q_okCd 171 = true := by decide +kernel
set_option maxRecDepth 100000 in
theorem q_okC_172 : q_okCd 172 = true := by decide +kernel
set_option maxRecDepth 100000 in
theorem q_okC_173 : q_okCd 173 = true := by decide +kernel
set_option maxRecDepth 100000 in
theorem q_okC_174 : q_okCd 174 = true := by decide +kernel
set_option maxRecDepth 100000 in
theorem q_okC_175 : q_okCd 175 = true := by decide +kernel
set_option maxRecDepth 100000 in
theorem q_okC_176 : q_okCd 176 = true := by decide +kernel
set_option maxRecDepth 100000 in
theorem q_okC_177 : q_okCd 177 = true := by decide +kernel
set_option maxRecDepth 100000 in
theorem q_okC_178 : q_okCd 178 = true := by decide +kernel
set_option maxRecDepth 100000 in
theorem q_okC_179 : q_okCd 179 = true := by decide +kernel
set_option maxRecDepth 100000 in
theorem q_okC_180 : q_okCd 180 = true := by decide +kernel
set_option maxRecDepth 100000 in
theorem q_okC_181 : q_okCd 181 = true := by decide +kernel
set_option maxRecDepth 100000 in
theorem q_okC_182 : q_okCd 182 = true := by decide +kernel
set_option maxRecDepth 100000 in
theorem q_okC_183 : q_okCd 183 = true := by decide +kernel
set_option maxRecDepth 100000 in
theorem q_okC_184 : q_okCd 184 = true := by decide +kernel
set_option maxRecDepth 100000 in
theorem q_okC_185 : q_okCd 185 = true := by decide +kernel
set_option maxRecDepth 100000 in
theorem q_okC_186 : q_okCd 186 = true := by decide +kernel
set_option maxRecDepth 100000 in
theorem q_okC_187 : q_okCd 187 = true := by decide +kernel
set_option maxRecDepth 100000 in
theorem q_okC_188 : q_okCd 188 = true := by decide +kernel
set_option maxRecDepth 100000 in
theorem q_okC_189 : q_okCd 189 = true := by decide +kernel
set_option maxRecDepth 100000 in
theorem q_okC_190 : q_okCd 190 = true := by decide +kernel
set_option maxRecDepth 100000 in
theorem q_okC_191 : q_okCd 191 = true := by decide +kernel
set_option maxRecDepth 100000 in
theorem q_okC_192 : q_okCd 192 = true := by decide +kernel
set_option maxRecDepth 100000 in
theorem q_okC_193 : q_okCd 193 = true := by decide +kernel
set_option maxRecDepth 100000 in
theorem q_okC_194 : q_okCd 194 = true := by decide +kernel
set_option maxRecDepth 100000 in
theorem q_okC_195 : q_okCd 195 = true := by decide +kernel
set_option maxRecDepth 100000 in
theorem q_okC_196 : q_okCd 196 = true := by decide +kernel
set_option maxRecDepth 100000 in
theorem q_okC_197 : q_okCd 197 = true := by decide +kernel
set_option maxRecDepth 100000 in
theorem q_okC_198 : q_okCd 198 = true := by decide +kernel
set_option maxRecDepth 100000 in
theorem q_okC_199 : q_okCd 199 = true := by decide +kernel
set_option maxRecDepth 100000 in
theorem q_okC_200 : q_okCd 200 = true := by decide +kernel
set_option maxRecDepth 100000 in
theorem q_okC_201 : q_okCd 201 = true := by decide +kernel
set_option maxRecDepth 100000 in
theorem q_okC_202 : q_okCd 202 = true := by decide +kernel
set_option maxRecDepth 100000 in
theorem q_okC_203 : q_okCd 203 = true := by decide +kernel
set_option maxRecDepth 100000 in
theorem q_okC_204 : q_okCd 204 = true := by decide +kernel
set_option maxRecDepth 100000 in
theorem q_okL_0 : (((q_cd 205).zipIdx.drop 0).take 51).all (fun q => q_okE 205 (q_cd 205) q.2 q.1) = true := by decide +kernel
set_option maxRecDepth 100000 in
theorem q_okL_1 : (((q_cd 205).zipIdx.drop 51).take 51).all (fun q => q_okE 205 (q_cd 205) q.2 q.1) = true := by decide +kernel
set_option maxRecDepth 100000 in
theorem q_okL_2 : (((q_cd 205).zipIdx.drop 102).take 51).all (fun q => q_okE 205 (q_cd 205) q.2 q.1) = true := by decide +kernel
set_option maxRecDepth 100000 in
theorem q_okL_3 : (((q_cd 205).zipIdx.drop 153).take 51).all (fun q => q_okE 205 (q_cd 205) q.2 q.1) = true := by decide +kernel
set_option maxRecDepth 100000 in
theorem q_okL_4 : (((q_cd 205).zipIdx.drop 204).take 51).all (fun q => q_okE 205 (q_cd 205) q.2 q.1) = true := by decide +kernel
set_option maxRecDepth 100000 in
theorem q_okL_5 : (((q_cd 205).zipIdx.drop 255).take 51).all (fun q => q_okE 205 (q_cd 205) q.2 q.1) = true := by decide +kernel
set_option maxRecDepth 100000 in
theorem q_okL_6 : (((q_cd 205).zipIdx.drop 306).take 51).all (fun q => q_okE 205 (q_cd 205) q.2 q.1) = true := by decide +kernel
set_option maxRecDepth 100000 in
theorem q_okL_7 : (((q_cd 205).zipIdx.drop 357).take 51).all (fun q => q_okE 205 (q_cd 205) q.2 q.1) = true := by decide +kernel
set_option maxRecDepth 100000 in
theorem q_okL_8 : (((q_cd 205).zipIdx.drop 408).take 51).all (fun q => q_okE 205 (q_cd 205) q.2 q.1) = true := by decide +kernel
set_option maxRecDepth 100000 in
theorem q_okL_9 : (((q_cd 205).zipIdx.drop 459).take 51).all (fun q => q_okE 205 (q_cd 205) q.2 q.1) = true := by decide +kernel
set_option maxRecDepth 100000 in
theorem q_okL_10 : (((q_cd 205).zipIdx.drop 510).take 51).all (fun q => q_okE 205 (q_cd 205) q.2 q.1) = true := by decide +kernel
set_option maxRecDepth 100000 in
theorem q_okL_11 : (((q_cd 205).zipIdx.drop 561).take 51).all (fun q => q_okE 205 (q_cd 205) q.2 q.1) = true := by decide +kernel
set_option maxRecDepth 100000 in
theorem q_okL_12 : (((q_cd 205).zipIdx.drop 612).take 51).all (fun q => q_okE 205 (q_cd 205) q.2 q.1) = true := by decide +kernel
set_option maxRecDepth 100000 in
theorem q_okL_13 : (((q_cd 205).zipIdx.drop 663).take 51).all (fun q => q_okE 205 (q_cd 205) q.2 q.1) = true := by decide +kernel
set_option maxRecDepth 100000 in
theorem q_okL_14 : (((q_cd 205).zipIdx.drop 714).take 51).all (fun q => q_okE 205 (q_cd 205) q.2 q.1) = true := by decide +kernel
set_option maxRecDepth 100000 in
theorem q_okL_15 : (((q_cd 205).zipIdx.drop 765).take 51).all (fun q => q_okE 205 (q_cd 205) q.2 q.1) = true := by decide +kernel
set_option maxRecDepth 100000 in
theorem q_okL_16 : (((q_cd 205).zipIdx.drop 816).take 51).all (fun q => q_okE 205 (q_cd 205) q.2 q.1) = true := by decide +kernel
set_option maxRecDepth 100000 in
theorem q_okL_17 : (((q_cd 205).zipIdx.drop 867).take 51).all (fun q => q_okE 205 (q_cd 205) q.2 q.1) = true := by decide +kernel
set_option maxRecDepth 100000 in
theorem q_okL_18 : (((q_cd 205).zipIdx.drop 918).take 51).all (fun q => q_okE 205 (q_cd 205) q.2 q.1) = true := by decide +kernel
set_option maxRecDepth 100000 in
theorem q_okL_19 : (((q_cd 205).zipIdx.drop 969).take 51).all (fun q => q_okE 205 (q_cd 205) q.2 q.1) = true := by decide +kernel
theorem q_okC_all (k : Nat) (hk : k < 205) : q_okCd k = true := by
  rcases Nat.lt_or_ge k 102 with h1 | h1
  · rcases Nat.lt_or_ge k 51 with h2 | h2
    · rcases Nat.lt_or_ge k 25 with h3 | h3
      · rcases Nat.lt_or_ge k 12 with h4 | h4
        · rcases Nat.lt_or_ge k 6 with h5 | h5
          · rcases Nat.lt_or_ge k 3 with h6 | h6
            · rcases Nat.lt_or_ge k 1 with h7 | h7
              · obtain rfl : k = 0 := by omega
                exact q_okC_0
              · rcases Nat.lt_or_ge k 2 with h8 | h8
                · obtain rfl : k = 1 := by omega
                  exact q_okC_1
                · obtain rfl : k = 2 := by omega
                  exact q_okC_2
            · rcases Nat.lt_or_ge k 4 with h7 | h7
              · obtain rfl : k = 3 := by omega
                exact q_okC_3
              · rcases Nat.lt_or_ge k 5 with h8 | h8
                · obtain rfl : k = 4 := by omega
                  exact q_okC_4
                · obtain rfl : k = 5 := by omega
                  exact q_okC_5
          · rcases Nat.lt_or_ge k 9 with h6 | h6
            · rcases Nat.lt_or_ge k 7 with h7 | h7
              · obtain rfl : k = 6 := by omega
                exact q_okC_6
              · rcases Nat.lt_or_ge k 8 with h8 | h8
                · obtain rfl : k = 7 := by omega
                  exact q_okC_7
                · obtain rfl : k = 8 := by omega
                  exact q_okC_8
            · rcases Nat.lt_or_ge k 10 with h7 | h7
              · obtain rfl : k = 9 := by omega
                exact q_okC_9
              · rcases Nat.lt_or_ge k 11 with h8 | h8
                · obtain rfl : k = 10 := by omega
                  exact q_okC_10
                · obtain rfl : k = 11 := by omega
                  exact q_okC_11
        · rcases Nat.lt_or_ge k 18 with h5 | h5
          · rcases Nat.lt_or_ge k 15 with h6 | h6
            · rcases Nat.lt_or_ge k 13 with h7 | h7
              · obtain rfl : k = 12 := by omega
                exact q_okC_12
              · rcases Nat.lt_or_ge k 14 with h8 | h8
                · obtain rfl : k = 13 := by omega
                  exact q_okC_13
                · obtain rfl : k = 14 := by omega
                  exact q_okC_14
            · rcases Nat.lt_or_ge k 16 with h7 | h7
              · obtain rfl : k = 15 := by omega
                exact q_okC_15
              · rcases Nat.lt_or_ge k 17 with h8 | h8
                · obtain rfl : k = 16 := by omega
                  exact q_okC_16
                · obtain rfl : k = 17 := by omega
                  exact q_okC_17
          · rcases Nat.lt_or_ge k 21 with h6 | h6
            · rcases Nat.lt_or_ge k 19 with h7 | h7
              · obtain rfl : k = 18 := by omega
                exact q_okC_18
              · rcases Nat.lt_or_ge k 20 with h8 | h8
                · obtain rfl : k = 19 := by omega
                  exact q_okC_19
                · obtain rfl : k = 20 := by omega
                  exact q_okC_20
            · rcases Nat.lt_or_ge k 23 with h7 | h7
              · rcases Nat.lt_or_ge k 22 with h8 | h8
                · obtain rfl : k = 21 := by omega
                  exact q_okC_21
                · obtain rfl : k = 22 := by omega
                  exact q_okC_22
              · rcases Nat.lt_or_ge k 24 with h8 | h8
                · obtain rfl : k = 23 := by omega
                  exact q_okC_23
                · obtain rfl : k = 24 := by omega
                  exact q_okC_24
      · rcases Nat.lt_or_ge k 38 with h4 | h4
        · rcases Nat.lt_or_ge k 31 with h5 | h5
          · rcases Nat.lt_or_ge k 28 with h6 | h6
            · rcases Nat.lt_or_ge k 26 with h7 | h7
              · obtain rfl : k = 25 := by omega
                exact q_okC_25
              · rcases Nat.lt_or_ge k 27 with h8 | h8
                · obtain rfl : k = 26 := by omega
                  exact q_okC_26
                · obtain rfl : k = 27 := by omega
                  exact q_okC_27
            · rcases Nat.lt_or_ge k 29 with h7 | h7
              · obtain rfl : k = 28 := by omega
                exact q_okC_28
              · rcases Nat.lt_or_ge k 30 with h8 | h8
                · obtain rfl : k = 29 := by omega
                  exact q_okC_29
                · obtain rfl : k = 30 := by omega
                  exact q_okC_30
          · rcases Nat.lt_or_ge k 34 with h6 | h6
            · rcases Nat.lt_or_ge k 32 with h7 | h7
              · obtain rfl : k = 31 := by omega
                exact q_okC_31
              · rcases Nat.lt_or_ge k 33 with h8 | h8
                · obtain rfl : k = 32 := by omega
                  exact q_okC_32
                · obtain rfl : k = 33 := by omega
                  exact q_okC_33
            · rcases Nat.lt_or_ge k 36 with h7 | h7
              · rcases Nat.lt_or_ge k 35 with h8 | h8
                · obtain rfl : k = 34 := by omega
                  exact q_okC_34
                · obtain rfl : k = 35 := by omega
                  exact q_okC_35
              · rcases Nat.lt_or_ge k 37 with h8 | h8
                · obtain rfl : k = 36 := by omega
                  exact q_okC_36
                · obtain rfl : k = 37 := by omega
                  exact q_okC_37
        · rcases Nat.lt_or_ge k 44 with h5 | h5
          · rcases Nat.lt_or_ge k 41 with h6 | h6
            · rcases Nat.lt_or_ge k 39 with h7 | h7
              · obtain rfl : k = 38 := by omega
                exact q_okC_38
              · rcases Nat.lt_or_ge k 40 with h8 | h8
                · obtain rfl : k = 39 := by omega
                  exact q_okC_39
                · obtain rfl : k = 40 := by omega
                  exact q_okC_40
            · rcases Nat.lt_or_ge k 42 with h7 | h7
              · obtain rfl : k = 41 := by omega
                exact q_okC_41
              · rcases Nat.lt_or_ge k 43 with h8 | h8
                · obtain rfl : k = 42 := by omega
                  exact q_okC_42
                · obtain rfl : k = 43 := by omega
                  exact q_okC_43
          · rcases Nat.lt_or_ge k 47 with h6 | h6
            · rcases Nat.lt_or_ge k 45 with h7 | h7
              · obtain rfl : k = 44 := by omega
                exact q_okC_44
              · rcases Nat.lt_or_ge k 46 with h8 | h8
                · obtain rfl : k = 45 := by omega
                  exact q_okC_45
                · obtain rfl : k = 46 := by omega
                  exact q_okC_46
            · rcases Nat.lt_or_ge k 49 with h7 | h7
              · rcases Nat.lt_or_ge k 48 with h8 | h8
                · obtain rfl : k = 47 := by omega
                  exact q_okC_47
                · obtain rfl : k = 48 := by omega
                  exact q_okC_48
              · rcases Nat.lt_or_ge k 50 with h8 | h8
                · obtain rfl : k = 49 := by omega
                  exact q_okC_49
                · obtain rfl : k = 50 := by omega
                  exact q_okC_50
    · rcases Nat.lt_or_ge k 76 with h3 | h3
      · rcases Nat.lt_or_ge k 63 with h4 | h4
        · rcases Nat.lt_or_ge k 57 with h5 | h5
          · rcases Nat.lt_or_ge k 54 with h6 | h6
            · rcases Nat.lt_or_ge k 52 with h7 | h7
              · obtain rfl : k = 51 := by omega
                exact q_okC_51
              · rcases Nat.lt_or_ge k 53 with h8 | h8
                · obtain rfl : k = 52 := by omega
                  exact q_okC_52
                · obtain rfl : k = 53 := by omega
                  exact q_okC_53
            · rcases Nat.lt_or_ge k 55 with h7 | h7
              · obtain rfl : k = 54 := by omega
                exact q_okC_54
              · rcases Nat.lt_or_ge k 56 with h8 | h8
                · obtain rfl : k = 55 := by omega
                  exact q_okC_55
                · obtain rfl : k = 56 := by omega
                  exact q_okC_56
          · rcases Nat.lt_or_ge k 60 with h6 | h6
            · rcases Nat.lt_or_ge k 58 with h7 | h7
              · obtain rfl : k = 57 := by omega
                exact q_okC_57
              · rcases Nat.lt_or_ge k 59 with h8 | h8
                · obtain rfl : k = 58 := by omega
                  exact q_okC_58
                · obtain rfl : k = 59 := by omega
                  exact q_okC_59
            · rcases Nat.lt_or_ge k 61 with h7 | h7
              · obtain rfl : k = 60 := by omega
                exact q_okC_60
              · rcases Nat.lt_or_ge k 62 with h8 | h8
                · obtain rfl : k = 61 := by omega
                  exact q_okC_61
                · obtain rfl : k = 62 := by omega
                  exact q_okC_62
        · rcases Nat.lt_or_ge k 69 with h5 | h5
          · rcases Nat.lt_or_ge k 66 with h6 | h6
            · rcases Nat.lt_or_ge k 64 with h7 | h7
              · obtain rfl : k = 63 := by omega
                exact q_okC_63
              · rcases Nat.lt_or_ge k 65 with h8 | h8
                · obtain rfl : k = 64 := by omega
                  exact q_okC_64
                · obtain rfl : k = 65 := by omega
                  exact q_okC_65
            · rcases Nat.lt_or_ge k 67 with h7 | h7
              · obtain rfl : k = 66 := by omega
                exact q_okC_66
              · rcases Nat.lt_or_ge k 68 with h8 | h8
                · obtain rfl : k = 67 := by omega
                  exact q_okC_67
                · obtain rfl : k = 68 := by omega
                  exact q_okC_68
          · rcases Nat.lt_or_ge k 72 with h6 | h6
            · rcases Nat.lt_or_ge k 70 with h7 | h7
              · obtain rfl : k = 69 := by omega
                exact q_okC_69
              · rcases Nat.lt_or_ge k 71 with h8 | h8
                · obtain rfl : k = 70 := by omega
                  exact q_okC_70
                · obtain rfl : k = 71 := by omega
                  exact q_okC_71
            · rcases Nat.lt_or_ge k 74 with h7 | h7
              · rcases Nat.lt_or_ge k 73 with h8 | h8
                · obtain rfl : k = 72 := by omega
                  exact q_okC_72
                · obtain rfl : k = 73 := by omega
                  exact q_okC_73
              · rcases Nat.lt_or_ge k 75 with h8 | h8
                · obtain rfl : k = 74 := by omega
                  exact q_okC_74
                · obtain rfl : k = 75 := by omega
                  exact q_okC_75
      · rcases Nat.lt_or_ge k 89 with h4 | h4
        · rcases Nat.lt_or_ge k 82 with h5 | h5
          · rcases Nat.lt_or_ge k 79 with h6 | h6
            · rcases Nat.lt_or_ge k 77 with h7 | h7
              · obtain rfl : k = 76 := by omega
                exact q_okC_76
              · rcases Nat.lt_or_ge k 78 with h8 | h8
                · obtain rfl : k = 77 := by omega
                  exact q_okC_77
                · obtain rfl : k = 78 := by omega
                  exact q_okC_78
            · rcases Nat.lt_or_ge k 80 with h7 | h7
              · obtain rfl : k = 79 := by omega
                exact q_okC_79
              · rcases Nat.lt_or_ge k 81 with h8 | h8
                · obtain rfl : k = 80 := by omega
                  exact q_okC_80
                · obtain rfl : k = 81 := by omega
                  exact q_okC_81
          · rcases Nat.lt_or_ge k 85 with h6 | h6
            · rcases Nat.lt_or_ge k 83 with h7 | h7
              · obtain rfl : k = 82 := by omega
                exact q_okC_82
              · rcases Nat.lt_or_ge k 84 with h8 | h8
                · obtain rfl : k = 83 := by omega
                  exact q_okC_83
                · obtain rfl : k = 84 := by omega
                  exact q_okC_84
            · rcases Nat.lt_or_ge k 87 with h7 | h7
              · rcases Nat.lt_or_ge k 86 with h8 | h8
                · obtain rfl : k = 85 := by omega
                  exact q_okC_85
                · obtain rfl : k = 86 := by omega
                  exact q_okC_86
              · rcases Nat.lt_or_ge k 88 with h8 | h8
                · obtain rfl : k = 87 := by omega
                  exact q_okC_87
                · obtain rfl : k = 88 := by omega
                  exact q_okC_88
        · rcases Nat.lt_or_ge k 95 with h5 | h5
          · rcases Nat.lt_or_ge k 92 with h6 | h6
            · rcases Nat.lt_or_ge k 90 with h7 | h7
              · obtain rfl : k = 89 := by omega
                exact q_okC_89
              · rcases Nat.lt_or_ge k 91 with h8 | h8
                · obtain rfl : k = 90 := by omega
                  exact q_okC_90
                · obtain rfl : k = 91 := by omega
                  exact q_okC_91
            · rcases Nat.lt_or_ge k 93 with h7 | h7
              · obtain rfl : k = 92 := by omega
                exact q_okC_92
              · rcases Nat.lt_or_ge k 94 with h8 | h8
                · obtain rfl : k = 93 := by omega
                  exact q_okC_93
                · obtain rfl : k = 94 := by omega
                  exact q_okC_94
          · rcases Nat.lt_or_ge k 98 with h6 | h6
            · rcases Nat.lt_or_ge k 96 with h7 | h7
              · obtain rfl : k = 95 := by omega
                exact q_okC_95
              · rcases Nat.lt_or_ge k 97 with h8 | h8
                · obtain rfl : k = 96 := by omega
                  exact q_okC_96
                · obtain rfl : k = 97 := by omega
                  exact q_okC_97
            · rcases Nat.lt_or_ge k 100 with h7 | h7
              · rcases Nat.lt_or_ge k 99 with h8 | h8
                · obtain rfl : k = 98 := by omega
                  exact q_okC_98
                · obtain rfl : k = 99 := by omega
                  exact q_okC_99
              · rcases Nat.lt_or_ge k 101 with h8 | h8
                · obtain rfl : k = 100 := by omega
                  exact q_okC_100
                · obtain rfl : k = 101 := by omega
                  exact q_okC_101
  · rcases Nat.lt_or_ge k 153 with h2 | h2
    · rcases Nat.lt_or_ge k 127 with h3 | h3
      · rcases Nat.lt_or_ge k 114 with h4 | h4
        · rcases Nat.lt_or_ge k 108 with h5 | h5
          · rcases Nat.lt_or_ge k 105 with h6 | h6
            · rcases Nat.lt_or_ge k 103 with h7 | h7
              · obtain rfl : k = 102 := by omega
                exact q_okC_102
              · rcases Nat.lt_or_ge k 104 with h8 | h8
                · obtain rfl : k = 103 := by omega
                  exact q_okC_103
                · obtain rfl : k = 104 := by omega
                  exact q_okC_104
            · rcases Nat.lt_or_ge k 106 with h7 | h7
              · obtain rfl : k = 105 := by omega
                exact q_okC_105
              · rcases Nat.lt_or_ge k 107 with h8 | h8
                · obtain rfl : k = 106 := by omega
                  exact q_okC_106
                · obtain rfl : k = 107 := by omega
                  exact q_okC_107
          · rcases Nat.lt_or_ge k 111 with h6 | h6
            · rcases Nat.lt_or_ge k 109 with h7 | h7
              · obtain rfl : k = 108 := by omega
                exact q_okC_108
              · rcases Nat.lt_or_ge k 110 with h8 | h8
                · obtain rfl : k = 109 := by omega
                  exact q_okC_109
                · obtain rfl : k = 110 := by omega
                  exact q_okC_110
            · rcases Nat.lt_or_ge k 112 with h7 | h7
              · obtain rfl : k = 111 := by omega
                exact q_okC_111
              · rcases Nat.lt_or_ge k 113 with h8 | h8
                · obtain rfl : k = 112 := by omega
                  exact q_okC_112
                · obtain rfl : k = 113 := by omega
                  exact q_okC_113
        · rcases Nat.lt_or_ge k 120 with h5 | h5
          · rcases Nat.lt_or_ge k 117 with h6 | h6
            · rcases Nat.lt_or_ge k 115 with h7 | h7
              · obtain rfl : k = 114 := by omega
                exact q_okC_114
              · rcases Nat.lt_or_ge k 116 with h8 | h8
                · obtain rfl : k = 115 := by omega
                  exact q_okC_115
                · obtain rfl : k = 116 := by omega
                  exact q_okC_116
            · rcases Nat.lt_or_ge k 118 with h7 | h7
              · obtain rfl : k = 117 := by omega
                exact q_okC_117
              · rcases Nat.lt_or_ge k 119 with h8 | h8
                · obtain rfl : k = 118 := by omega
                  exact q_okC_118
                · obtain rfl : k = 119 := by omega
                  exact q_okC_119
          · rcases Nat.lt_or_ge k 123 with h6 | h6
            · rcases Nat.lt_or_ge k 121 with h7 | h7
              · obtain rfl : k = 120 := by omega
                exact q_okC_120
              · rcases Nat.lt_or_ge k 122 with h8 | h8
                · obtain rfl : k = 121 := by omega
                  exact q_okC_121
                · obtain rfl : k = 122 := by omega
                  exact q_okC_122
            · rcases Nat.lt_or_ge k 125 with h7 | h7
              · rcases Nat.lt_or_ge k 124 with h8 | h8
                · obtain rfl : k = 123 := by omega
                  exact q_okC_123
                · obtain rfl : k = 124 := by omega
                  exact q_okC_124
              · rcases Nat.lt_or_ge k 126 with h8 | h8
                · obtain rfl : k = 125 := by omega
                  exact q_okC_125
                · obtain rfl : k = 126 := by omega
                  exact q_okC_126
      · rcases Nat.lt_or_ge k 140 with h4 | h4
        · rcases Nat.lt_or_ge k 133 with h5 | h5
          · rcases Nat.lt_or_ge k 130 with h6 | h6
            · rcases Nat.lt_or_ge k 128 with h7 | h7
              · obtain rfl : k = 127 := by omega
                exact q_okC_127
              · rcases Nat.lt_or_ge k 129 with h8 | h8
                · obtain rfl : k = 128 := by omega
                  exact q_okC_128
                · obtain rfl : k = 129 := by omega
                  exact q_okC_129
            · rcases Nat.lt_or_ge k 131 with h7 | h7
              · obtain rfl : k = 130 := by omega
                exact q_okC_130
              · rcases Nat.lt_or_ge k 132 with h8 | h8
                · obtain rfl : k = 131 := by omega
                  exact q_okC_131
                · obtain rfl : k = 132 := by omega
                  exact q_okC_132
          · rcases Nat.lt_or_ge k 136 with h6 | h6
            · rcases Nat.lt_or_ge k 134 with h7 | h7
              · obtain rfl : k = 133 := by omega
                exact q_okC_133
              · rcases Nat.lt_or_ge k 135 with h8 | h8
                · obtain rfl : k = 134 := by omega
                  exact q_okC_134
                · obtain rfl : k = 135 := by omega
                  exact q_okC_135
            · rcases Nat.lt_or_ge k 138 with h7 | h7
              · rcases Nat.lt_or_ge k 137 with h8 | h8
                · obtain rfl : k = 136 := by omega
                  exact q_okC_136
                · obtain rfl : k = 137 := by omega
                  exact q_okC_137
              · rcases Nat.lt_or_ge k 139 with h8 | h8
                · obtain rfl : k = 138 := by omega
                  exact q_okC_138
                · obtain rfl : k = 139 := by omega
                  exact q_okC_139
        · rcases Nat.lt_or_ge k 146 with h5 | h5
          · rcases Nat.lt_or_ge k 143 with h6 | h6
            · rcases Nat.lt_or_ge k 141 with h7 | h7
              · obtain rfl : k = 140 := by omega
                exact q_okC_140
              · rcases Nat.lt_or_ge k 142 with h8 | h8
                · obtain rfl : k = 141 := by omega
                  exact q_okC_141
                · obtain rfl : k = 142 := by omega
                  exact q_okC_142
            · rcases Nat.lt_or_ge k 144 with h7 | h7
              · obtain rfl : k = 143 := by omega
                exact q_okC_143
              · rcases Nat.lt_or_ge k 145 with h8 | h8
                · obtain rfl : k = 144 := by omega
                  exact q_okC_144
                · obtain rfl : k = 145 := by omega
                  exact q_okC_145
          · rcases Nat.lt_or_ge k 149 with h6 | h6
            · rcases Nat.lt_or_ge k 147 with h7 | h7
              · obtain rfl : k = 146 := by omega
                exact q_okC_146
              · rcases Nat.lt_or_ge k 148 with h8 | h8
                · obtain rfl : k = 147 := by omega
                  exact q_okC_147
                · obtain rfl : k = 148 := by omega
                  exact q_okC_148
            · rcases Nat.lt_or_ge k 151 with h7 | h7
              · rcases Nat.lt_or_ge k 150 with h8 | h8
                · obtain rfl : k = 149 := by omega
                  exact q_okC_149
                · obtain rfl : k = 150 := by omega
                  exact q_okC_150
              · rcases Nat.lt_or_ge k 152 with h8 | h8
                · obtain rfl : k = 151 := by omega
                  exact q_okC_151
                · obtain rfl : k = 152 := by omega
                  exact q_okC_152
    · rcases Nat.lt_or_ge k 179 with h3 | h3
      · rcases Nat.lt_or_ge k 166 with h4 | h4
        · rcases Nat.lt_or_ge k 159 with h5 | h5
          · rcases Nat.lt_or_ge k 156 with h6 | h6
            · rcases Nat.lt_or_ge k 154 with h7 | h7
              · obtain rfl : k = 153 := by omega
                exact q_okC_153
              · rcases Nat.lt_or_ge k 155 with h8 | h8
                · obtain rfl : k = 154 := by omega
                  exact q_okC_154
                · obtain rfl : k = 155 := by omega
                  exact q_okC_155
            · rcases Nat.lt_or_ge k 157 with h7 | h7
              · obtain rfl : k = 156 := by omega
                exact q_okC_156
              · rcases Nat.lt_or_ge k 158 with h8 | h8
                · obtain rfl : k = 157 := by omega
                  exact q_okC_157
                · obtain rfl : k = 158 := by omega
                  exact q_okC_158
          · rcases Nat.lt_or_ge k 162 with h6 | h6
            · rcases Nat.lt_or_ge k 160 with h7 | h7
              · obtain rfl : k = 159 := by omega
                exact q_okC_159
              · rcases Nat.lt_or_ge k 161 with h8 | h8
                · obtain rfl : k = 160 := by omega
                  exact q_okC_160
                · obtain rfl : k = 161 := by omega
                  exact q_okC_161
            · rcases Nat.lt_or_ge k 164 with h7 | h7
              · rcases Nat.lt_or_ge k 163 with h8 | h8
                · obtain rfl : k = 162 := by omega
                  exact q_okC_162
                · obtain rfl : k = 163 := by omega
                  exact q_okC_163
              · rcases Nat.lt_or_ge k 165 with h8 | h8
                · obtain rfl : k = 164 := by omega
                  exact q_okC_164
                · obtain rfl : k = 165 := by omega
                  exact q_okC_165
        · rcases Nat.lt_or_ge k 172 with h5 | h5
          · rcases Nat.lt_or_ge k 169 with h6 | h6
            · rcases Nat.lt_or_ge k 167 with h7 | h7
              · obtain rfl : k = 166 := by omega
                exact q_okC_166
              · rcases Nat.lt_or_ge k 168 with h8 | h8
                · obtain rfl : k = 167 := by omega
                  exact q_okC_167
                · obtain rfl : k = 168 := by omega
                  exact q_okC_168
            · rcases Nat.lt_or_ge k 170 with h7 | h7
              · obtain rfl : k = 169 := by omega
                exact q_okC_169
              · rcases Nat.lt_or_ge k 171 with h8 | h8
                · obtain rfl : k = 170 := by omega
                  exact q_okC_170
                · obtain rfl : k = 171 := by omega
                  exact q_okC_171
          · rcases Nat.lt_or_ge k 175 with h6 | h6
            · rcases Nat.lt_or_ge k 173 with h7 | h7
              · obtain rfl : k = 172 := by omega
                exact q_okC_172
              · rcases Nat.lt_or_ge k 174 with h8 | h8
                · obtain rfl : k = 173 := by omega
                  exact q_okC_173
                · obtain rfl : k = 174 := by omega
                  exact q_okC_174
            · rcases Nat.lt_or_ge k 177 with h7 | h7
              · rcases Nat.lt_or_ge k 176 with h8 | h8
                · obtain rfl : k = 175 := by omega
                  exact q_okC_175
                · obtain rfl : k = 176 := by omega
                  exact q_okC_176
              · rcases Nat.lt_or_ge k 178 with h8 | h8
                · obtain rfl : k = 177 := by omega
                  exact q_okC_177
                · obtain rfl : k = 178 := by omega
                  exact q_okC_178
      · rcases Nat.lt_or_ge k 192 with h4 | h4
        · rcases Nat.lt_or_ge k 185 with h5 | h5
          · rcases Nat.lt_or_ge k 182 with h6 | h6
            · rcases Nat.lt_or_ge k 180 with h7 | h7
              · obtain rfl : k = 179 := by omega
                exact q_okC_179
              · rcases Nat.lt_or_ge k 181 with h8 | h8
                · obtain rfl : k = 180 := by omega
                  exact q_okC_180
                · obtain rfl : k = 181 := by omega
                  exact q_okC_181
            · rcases Nat.lt_or_ge k 183 with h7 | h7
              · obtain rfl : k = 182 := by omega
                exact q_okC_182
              · rcases Nat.lt_or_ge k 184 with h8 | h8
                · obtain rfl : k = 183 := by omega
                  exact q_okC_183
                · obtain rfl : k = 184 := by omega
                  exact q_okC_184
          · rcases Nat.lt_or_ge k 188 with h6 | h6
            · rcases Nat.lt_or_ge k 186 with h7 | h7
              · obtain rfl : k = 185 := by omega
                exact q_okC_185
              · rcases Nat.lt_or_ge k 187 with h8 | h8
                · obtain rfl : k = 186 := by omega
                  exact q_okC_186
                · obtain rfl : k = 187 := by omega
                  exact q_okC_187
            · rcases Nat.lt_or_ge k 190 with h7 | h7
              · rcases Nat.lt_or_ge k 189 with h8 | h8
                · obtain rfl : k = 188 := by omega
                  exact q_okC_188
                · obtain rfl : k = 189 := by omega
                  exact q_okC_189
              · rcases Nat.lt_or_ge k 191 with h8 | h8
                · obtain rfl : k = 190 := by omega
                  exact q_okC_190
                · obtain rfl : k = 191 := by omega
                  exact q_okC_191
        · rcases Nat.lt_or_ge k 198 with h5 | h5
          · rcases Nat.lt_or_ge k 195 with h6 | h6
            · rcases Nat.lt_or_ge k 193 with h7 | h7
              · obtain rfl : k = 192 := by omega
                exact q_okC_192
              · rcases Nat.lt_or_ge k 194 with h8 | h8
                · obtain rfl : k = 193 := by omega
                  exact q_okC_193
                · obtain rfl : k = 194 := by omega
                  exact q_okC_194
            · rcases Nat.lt_or_ge k 196 with h7 | h7
              · obtain rfl : k = 195 := by omega
                exact q_okC_195
              · rcases Nat.lt_or_ge k 197 with h8 | h8
                · obtain rfl : k = 196 := by omega
                  exact q_okC_196
                · obtain rfl : k = 197 := by omega
                  exact q_okC_197
          · rcases Nat.lt_or_ge k 201 with h6 | h6
            · rcases Nat.lt_or_ge k 199 with h7 | h7
              · obtain rfl : k = 198 := by omega
                exact q_okC_198
              · rcases Nat.lt_or_ge k 200 with h8 | h8
                · obtain rfl : k = 199 := by omega
                  exact q_okC_199
                · obtain rfl : k = 200 := by omega
                  exact q_okC_200
            · rcases Nat.lt_or_ge k 203 with h7 | h7
              · rcases Nat.lt_or_ge k 202 with h8 | h8
                · obtain rfl : k = 201 := by omega
                  exact q_okC_201
                · obtain rfl : k = 202 := by omega
                  exact q_okC_202
              · rcases Nat.lt_or_ge k 204 with h8 | h8
                · obtain rfl : k = 203 := by omega
                  exact q_okC_203
                · obtain rfl : k = 204 := by omega
                  exact q_okC_204
theorem q_okL_all (k : Nat) (hk : k < 20) : (((q_cd 205).zipIdx.drop (51 * k)).take 51).all (fun q => q_okE 205 (q_cd 205) q.2 q.1) = true := by
  rcases Nat.lt_or_ge k 10 with h1 | h1
  · rcases Nat.lt_or_ge k 5 with h2 | h2
    · rcases Nat.lt_or_ge k 2 with h3 | h3
      · rcases Nat.lt_or_ge k 1 with h4 | h4
        · obtain rfl : k = 0 := by omega
          exact q_okL_0
        · obtain rfl : k = 1 := by omega
          exact q_okL_1
      · rcases Nat.lt_or_ge k 3 with h4 | h4
        · obtain rfl : k = 2 := by omega
          exact q_okL_2
        · rcases Nat.lt_or_ge k 4 with h5 | h5
          · obtain rfl : k = 3 := by omega
            exact q_okL_3
          · obtain rfl : k = 4 := by omega
            exact q_okL_4
    · rcases Nat.lt_or_ge k 7 with h3 | h3
      · rcases Nat.lt_or_ge k 6 with h4 | h4
        · obtain rfl : k = 5 := by omega
          exact q_okL_5
        · obtain rfl : k = 6 := by omega
          exact q_okL_6
      · rcases Nat.lt_or_ge k 8 with h4 | h4
        · obtain rfl : k = 7 := by omega
          exact q_okL_7
        · rcases Nat.lt_or_ge k 9 with h5 | h5
          · obtain rfl : k = 8 := by omega
            exact q_okL_8
          · obtain rfl : k = 9 := by omega
            exact q_okL_9
  · rcases Nat.lt_or_ge k 15 with h2 | h2
    · rcases Nat.lt_or_ge k 12 with h3 | h3
      · rcases Nat.lt_or_ge k 11 with h4 | h4
        · obtain rfl : k = 10 := by omega
          exact q_okL_10
        · obtain rfl : k = 11 := by omega
          exact q_okL_11
      · rcases Nat.lt_or_ge k 13 with h4 | h4
        · obtain rfl : k = 12 := by omega
          exact q_okL_12
        · rcases Nat.lt_or_ge k 14 with h5 | h5
          · obtain rfl : k = 13 := by omega
            exact q_okL_13
          · obtain rfl : k = 14 := by omega
            exact q_okL_14
    · rcases Nat.lt_or_ge k 17 with h3 | h3
      · rcases Nat.lt_or_ge k 16 with h4 | h4
        · obtain rfl : k = 15 := by omega
          exact q_okL_15
        · obtain rfl : k = 16 := by omega
          exact q_okL_16
      · rcases Nat.lt_or_ge k 18 with h4 | h4
        · obtain rfl : k = 17 := by omega
          exact q_okL_17
        · rcases Nat.lt_or_ge k 19 with h5 | h5
          · obtain rfl : k = 18 := by omega
            exact q_okL_18
          · obtain rfl : k = 19 := by omega
            exact q_okL_19
theorem q_cd_law : (q_cd 205).length = 1020 := by decide +kernel
theorem q_okE_at (k : Nat) (hk : k ≤ 205) (i : Nat) (e : q_Ent) (h : (q_cd k)[i]? = some e) : q_okE k (q_cd k) i e = true := by
  rcases Nat.lt_or_ge k 205 with h1 | h1
  · have h2 := q_okC_all k h1
    simp only [q_okCd] at h2
    split at h2
    · rw [Bool.and_eq_true] at h2
      exact List.all_eq_true.mp h2.2 (e, i) (List.mk_mem_zipIdx_iff_getElem?.mpr h)
    · cases h2
  · obtain rfl : k = 205 := by omega
    have hi : i < 1020 := by rw [← q_cd_law]; exact (List.getElem?_eq_some_iff.mp h).1
    have h2 := q_okL_all (i / 51) (by omega)
    refine List.all_eq_true.mp h2 (e, i) (List.mem_of_getElem? (i := i % 51) ?_)
    rw [List.getElem?_take_of_lt (by omega), List.getElem?_drop, show 51 * (i / 51) + i % 51 = i by omega, List.getElem?_zipIdx, h]
    simp
theorem q_cd0 (k : Nat) (hk : k ≤ 205) : ∃ e, (q_cd k)[0]? = some e ∧ e.1 = 0 := by
  rcases Nat.lt_or_ge k 205 with h1 | h1
  · have h2 := q_okC_all k h1
    simp only [q_okCd] at h2
    split at h2
    · rename_i e he
      rw [Bool.and_eq_true] at h2
      exact ⟨e, he, Nat.eq_of_beq_eq_true h2.1⟩
    · cases h2
  · obtain rfl : k = 205 := by omega
    exact ⟨_, rfl, rfl⟩
