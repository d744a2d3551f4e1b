set_option maxRecDepth 100000 in
theorem q_okM_0 : q_okM 0 = true := by decide +kernel
set_option maxRecDepth 100000 in
theorem q_okM_1 : q_okM 1 = true := by decide +kernel
set_option maxRecDepth 100000 in
theorem q_okM_2 : q_okM 2 = true := by decide +kernel
set_option maxRecDepth 100000 in
theorem q_okM_3 : q_okM 3 = true := by decide +kernel
set_option maxRecDepth 100000 in
theorem q_okM_4 : q_okM 4 = true := by decide +kernel
set_option maxRecDepth 100000 in
theorem q_okM_5 : q_okM 5 = true := by decide +kernel
set_option maxRecDepth 100000 in
theorem q_okM_6 : q_okM 6 = true := by decide +kernel
set_option maxRecDepth 100000 in
theorem q_okM_7 : q_okM 7 = true := by decide +kernel
set_option maxRecDepth 100000 in
theorem q_okM_8 : q_okM 8 = true := by decide +kernel
set_option maxRecDepth 100000 in
theorem q_okM_9 : q_okM 9 = true := by decide +kernel
set_option maxRecDepth 100000 in
theorem q_okM_10 : q_okM 10 = true := by decide +kernel
set_option maxRecDepth 100000 in
theorem q_okM_11 : q_okM 11 = true := by decide +kernel
set_option maxRecDepth 100000 in
theorem q_okM_12 : q_okM 12 = true := by decide +kernel
set_option maxRecDepth 100000 in
theorem q_okM_13 : q_okM 13 = true := by decide +kernel
set_option maxRecDepth 100000 in
theorem q_okM_14 : q_okM 14 = true := by decide +kernel
set_option maxRecDepth 100000 in
theorem q_okM_15 : q_okM 15 = true := by decide +kernel
set_option maxRecDepth 100000 in
theorem q_okM_16 : q_okM 16 = true := by decide +kernel
set_option maxRecDepth 100000 in
theorem q_okM_17 : q_okM 17 = true := by decide +kernel
set_option maxRecDepth 100000 in
theorem q_okM_18 : q_okM 18 = true := by decide +kernel
set_option maxRecDepth 100000 in
theorem q_okM_19 : q_okM 19 = true := by decide +kernel
set_option maxRecDepth 100000 in
theorem q_okM_20 : q_okM 20 = true := by decide +kernel
set_option maxRecDepth 100000 in
theorem q_okM_21 : q_okM 21 = true := by decide +kernel
set_option maxRecDepth 100000 in
theorem q_okM_22 : q_okM 22 = true := by decide +kernel
set_option maxRecDepth 100000 in
theorem q_okM_23 : q_okM 23 = true := by decide +kernel
set_option maxRecDepth 100000 in
theorem q_okM_24 : q_okM 24 = true := by decide +kernel
set_option maxRecDepth 100000 in
theorem q_okM_25 : q_okM 25 = true := by decide +kernel
set_option maxRecDepth 100000 in
theorem q_okM_26 : q_okM 26 = true := by decide +kernel
set_option maxRecDepth 100000 in
theorem q_okM_27 : q_okM 27 = true := by decide +kernel
set_option maxRecDepth 100000 in
theorem q_okM_28 : q_okM 28 = true := by decide +kernel
set_option maxRecDepth 100000 in
theorem q_okM_29 : q_okM 29 = true := by decide +kernel
set_option maxRecDepth 100000 in
theorem q_okM_30 : q_okM 30 = true := by decide +kernel
set_option maxRecDepth 100000 in
theorem q_okM_31 : q_okM 31 = true := by decide +kernel
set_option maxRecDepth 100000 in
theorem q_okM_32 : q_okM 32 = true := by decide +kernel
set_option maxRecDepth 100000 in
theorem q_okM_33 : q_okM 33 = true := by decide +kernel
set_option maxRecDepth 100000 in
theorem q_okM_34 : q_okM 34 = true := by decide +kernel
set_option maxRecDepth 100000 in
theorem q_okM_35 : q_okM 35 = true := by decide +kernel
set_option maxRecDepth 100000 in
theorem q_okM_36 : q_okM 36 = true := by decide +kernel
set_option maxRecDepth 100000 in
theorem q_okM_37 : q_okM 37 = true := by decide +kernel
set_option maxRecDepth 100000 in
theorem q_okM_38 : q_okM 38 = true := by decide +kernel
set_option maxRecDepth 100000 in
theorem q_okM_39 : q_okM 39 = true := by decide +kernel
set_option maxRecDepth 100000 in
theorem q_okM_40 : q_okM 40 = true := by decide +kernel
set_option maxRecDepth 100000 in
theorem q_okM_41 : q_okM 41 = true := by decide +kernel
set_option maxRecDepth 100000 in
theorem q_okM_42 : q_okM 42 = true := by decide +kernel
set_option maxRecDepth 100000 in
theorem q_okM_43 : q_okM 43 = true := by decide +kernel
set_option maxRecDepth 100000 in
theorem q_okM_44 : q_okM 44 = true := by decide +kernel
set_option maxRecDepth 100000 in
theorem q_okM_45 : q_okM 45 = true := by decide +kernel
set_option maxRecDepth 100000 in
theorem q_okM_46 : q_okM 46 = true := by decide +kernel
set_option maxRecDepth 100000 in
theorem q_okM_47 : q_okM 47 = true := by decide +kernel
set_option maxRecDepth 100000 in
theorem q_okM_48 : q_okM 48 = true := by decide +kernel
set_option maxRecDepth 100000 in
theorem q_okM_49 : q_okM 49 = true := by decide +kernel
set_option maxRecDepth 100000 in
theorem q_okM_50 : q_okM 50 = true := by decide +kernel
set_option maxRecDepth 100000 in
theorem q_okM_51 : q_okM 51 = true := by decide +kernel
set_option maxRecDepth 100000 in
theorem q_okM_52 : q_okM 52 = true := by decide +kernel
set_option maxRecDepth 100000 in
theorem q_okM_53 : q_okM 53 = true := by decide +kernel
set_option maxRecDepth 100000 in
theorem q_okM_54 : q_okM 54 = true := by decide +kernel
set_option maxRecDepth 100000 in
theorem q_okM_55 : q_okM 55 = true := by decide +kernel
set_option maxRecDepth 100000 in
theorem q_okM_56 : q_okM 56 = true := by decide +kernel
set_option maxRecDepth 100000 in
theorem q_okM_57 : q_okM 57 = true := by decide +kernel
set_option maxRecDepth 100000 in
theorem q_okM_58 : q_okM 58 = true := by decide +kernel
set_option maxRecDepth 100000 in
theorem q_okM_59 : q_okM 59 = true := by decide +kernel
set_option maxRecDepth 100000 in
theorem q_okM_60 : q_okM 60 = true := by decide +kernel
set_option maxRecDepth 100000 in
theorem q_okM_61 : q_okM 61 = true := by decide +kernel
set_option maxRecDepth 100000 in
theorem q_okM_62 : q_okM 62 = true := by decide +kernel
set_option maxRecDepth 100000 in
theorem q_okM_63 : q_okM 63 = true := by decide +kernel
set_option maxRecDepth 100000 in
theorem q_okM_64 : q_okM 64 = true := by decide +kernel
set_option maxRecDepth 100000 in
theorem q_okM_65 : q_okM 65 = true := by decide +kernel
set_option maxRecDepth 100000 in
theorem q_okM_66 : q_okM 66 = true := by decide +kernel
set_option maxRecDepth 100000 in
theorem q_okM_67 : q_okM 67 = true := by decide +kernel
set_option maxRecDepth 100000 in
theorem q_okM_68 : q_okM 68 = true := by decide +kernel
set_option maxRecDepth 100000 in
theorem q_okM_69 : q_okM 69 = true := by decide +kernel
set_option maxRecDepth 100000 in
theorem q_okM_70 : q_okM 70 = true := by decide +kernel
set_option maxRecDepth 100000 in
theorem q_okM_71 : q_okM 71 = true := by decide +kernel
set_option maxRecDepth 100000 in
theorem q_okM_72 : q_okM 72 = true := by decide +kernel
set_option maxRecDepth 100000 in
theorem q_okM_73 : q_okM 73 = true := by decide +kernel
set_option maxRecDepth 100000 in
theorem q_okM_74 : q_okM 74 = true := by decide +kernel
set_option maxRecDepth 100000 in
theorem q_okM_75 : q_okM 75 = true := by decide +kernel
set_option maxRecDepth 100000 in
theorem q_okM_76 : q_okM 76 = true := by decide +kernel
set_option maxRecDepth 100000 in
theorem q_okM_77 : q_okM 77 = true := by decide +kernel
set_option maxRecDepth 100000 in
theorem q_okM_78 : q_okM 78 = true := by decide +kernel
set_option maxRecDepth 100000 in
theorem q_okM_79 : q_okM 79 = true := by decide +kernel
set_option maxRecDepth 100000 in
theorem q_okM_80 : q_okM 80 = true := by decide +kernel
set_option maxRecDepth 100000 in
theorem q_okM_81 : q_okM 81 = true := by decide +kernel
set_option maxRecDepth 100000 in
theorem q_okM_82 : q_okM 82 = true := by decide +kernel
set_option maxRecDepth 100000 in
theorem q_okM_83 : q_okM 83 = true := by decide +kernel
set_option maxRecDepth 100000 in
theorem q_okM_84 : q_okM 84 = true := by decide +kernel
set_option maxRecDepth 100000 in
theorem q_okM_85 : q_okM 85 = true := by decide +kernel
set_option maxRecDepth 100000 in
theorem q_okM_86 : q_okM 86 = true := by decide +kernel
set_option maxRecDepth 100000 in
theorem q_okM_87 : q_okM 87 = true := by decide +kernel
set_option maxRecDepth 100000 in
theorem q_okM_88 : q_okM 88 = true := by decide +kernel
set_option maxRecDepth 100000 in
theorem q_okM_89 : q_okM 89 = true := by decide +kernel
set_option maxRecDepth 100000 in
theorem q_okM_90 : q_okM 90 = true := by decide +kernel
set_option maxRecDepth 100000 in
theorem q_okM_91 : q_okM 91 = true := by decide +kernel
set_option maxRecDepth 100000 in
theorem q_okM_92 : q_okM 92 = true := by decide +kernel
set_option maxRecDepth 100000 in
theorem q_okM_93 : q_okM 93 = true := by decide +kernel
set_option maxRecDepth 100000 in
theorem q_okM_94 : q_okM 94 = true := by decide +kernel
set_option maxRecDepth 100000 in
theorem q_okM_95 : q_okM 95 = true := by decide +kernel
set_option maxRecDepth 100000 in
theorem q_okM_96 : q_okM 96 = true := by decide +kernel
set_option maxRecDepth 100000 in
theorem q_okM_97 : q_okM 97 = true := by decide +kernel
set_option maxRecDepth 100000 in
theorem q_okM_98 : q_okM 98 = true := by decide +kernel
set_option maxRecDepth 100000 in
theorem q_okM_99 : q_okM 99 = true := by decide +kernel
set_option maxRecDepth 100000 in
theorem q_okM_100 : q_okM 100 = true := by decide +kernel
set_option maxRecDepth 100000 in
theorem q_okM_101 : q_okM 101 = true := by decide +kernel
set_option maxRecDepth 100000 in
theorem q_okM_102 : q_okM 102 = true := by decide +kernel
set_option maxRecDepth 100000 in
theorem q_okM_103 : q_okM 103 = true := by decide +kernel
set_option maxRecDepth 100000 in
theorem q_okM_104 : q_okM 104 = true := by decide +kernel
set_option maxRecDepth 100000 in
theorem q_okM_105 : q_okM 105 = true := by decide +kernel
set_option maxRecDepth 100000 in
theorem q_okM_106 : q_okM 106 = true := by decide +kernel
set_option maxRecDepth 100000 in
theorem q_okM_107 : q_okM 107 = true := by decide +kernel
set_option maxRecDepth 100000 in
theorem q_okM_108 : q_okM 108 = true := by decide +kernel
set_option maxRecDepth 100000 in
theorem q_okM_109 : q_okM 109 = true := by decide +kernel
set_option maxRecDepth 100000 in
theorem q_okM_110 : q_okM 110 = true := by decide +kernel
set_option maxRecDepth 100000 in
theorem q_okM_111 : q_okM 111 = true := by decide +kernel
set_option maxRecDepth 100000 in
theorem q_okM_112 : q_okM 112 = true := by decide +kernel
set_option maxRecDepth 100000 in
theorem q_okM_113 : q_okM 113 = true := by decide +kernel
set_option maxRecDepth 100000 in
theorem q_okM_114 : q_okM 114 = true := by decide +kernel
set_option maxRecDepth 100000 in
theorem q_okM_115 : q_okM 115 = true := by decide +kernel
set_option maxRecDepth 100000 in
theorem q_okM_116 : q_okM 116 = true := by decide +kernel
set_option maxRecDepth 100000 in
theorem q_okM_117 : q_okM 117 = true := by decide +kernel
set_option maxRecDepth 100000 in
theorem q_okM_118 : q_okM 118 = true := by decide +kernel
set_option maxRecDepth 100000 in
theorem q_okM_119 : q_okM 119 = true := by decide +kernel
set_option maxRecDepth 100000 in
theorem q_okM_120 : q_okM 120 = true := by decide +kernel
set_option maxRecDepth 100000 in
theorem q_okM_121 : q_okM 121 = true := by decide +kernel
set_option maxRecDepth 100000 in
theorem q_okM_122 : q_okM 122 = true := by decide +kernel
set_option maxRecDepth 100000 in
theorem q_okM_123 : q_okM 123 = true := by decide +kernel
set_option maxRecDepth 100000 in
theorem q_okM_124 : q_okM 124 = true := by decide +kernel
set_option maxRecDepth 100000 in
theorem q_okM_125 : q_okM 125 = true := by decide +kernel
set_option maxRecDepth 100000 in
theorem q_okM_126 : q_okM 126 = true := by decide +kernel
set_option maxRecDepth 100000 in
theorem q_okM_127 : q_okM 127 = true := by decide +kernel
set_option maxRecDepth 100000 in
theorem q_okM_128 : q_okM 128 = true := by decide +kernel
set_option maxRecDepth 100000 in
theorem q_okM_129 : q_okM 129 = true := by decide +kernel
set_option maxRecDepth 100000 in
theorem q_okM_130 : q_okM 130 = true := by decide +kernel
set_option maxRecDepth 100000 in
theorem q_okM_131 : q_okM 131 = true := by decide +kernel
set_option maxRecDepth 100000 in
theorem q_okM_132 : q_okM 132 = true := by decide +kernel
set_option maxRecDepth 100000 in
theorem q_okM_133 : q_okM 133 = true := by decide +kernel
set_option maxRecDepth 100000 in
theorem q_okM_134 : q_okM 134 = true := by decide +kernel
set_option maxRecDepth 100000 in
theorem q_okM_135 : q_okM 135 = true := by decide +kernel
set_option maxRecDepth 100000 in
theorem q_okM_136 : q_okM 136 = true := by decide +kernel
set_option maxRecDepth 100000 in
theorem q_okM_137 : q_okM 137 = true := by decide +kernel
set_option maxRecDepth 100000 in
theorem q_okM_138 : q_okM 138 = true := by decide +kernel
set_option maxRecDepth 100000 in
theorem q_okM_139 : q_okM 139 = true := by decide +kernel
set_option maxRecDepth 100000 in
theorem q_okM_140 : q_okM 140 = true := by decide +kernel
set_option maxRecDepth 100000 in
theorem q_okM_141 : q_okM 141 = true := by decide +kernel
set_option maxRecDepth 100000 in
theorem q_okM_142 : q_okM 142 = true := by decide +kernel
set_option maxRecDepth 100000 in
theorem q_okM_143 : q_okM 143 = true := by decide +kernel
set_option maxRecDepth 100000 in
theorem q_okM_144 : q_okM 144 = true := by decide +kernel
set_option maxRecDepth 100000 in
theorem q_okM_145 : q_okM 145 = true := by decide +kernel
set_option maxRecDepth 100000 in
theorem q_okM_146 : q_okM 146 = true := by decide +kernel
set_option maxRecDepth 100000 in
theorem q_okM_147 : q_okM 147 = true := by decide +kernel
set_option maxRecDepth 100000 in
theorem q_okM_148 : q_okM 148 = true := by decide +kernel
set_option maxRecDepth 100000 in
theorem q_okM_149 : q_okM 149 = true := by decide +kernel
set_option maxRecDepth 100000 in
theorem q_okM_150 : q_okM 150 = true := by decide +kernel
set_option maxRecDepth 100000 in
theorem q_okM_151 : q_okM 151 = true := by decide +kernel
set_option maxRecDepth 100000 in
theorem q_okM_152 : q_okM 152 = true := by decide +kernel
set_option maxRecDepth 100000 in
theorem q_okM_153 : q_okM 153 = true := by decide +kernel
set_option maxRecDepth 100000 in
theorem q_okM_154 : q_okM 154 = true := by decide +kernel
set_option maxRecDepth 100000 in
theorem q_okM_155 : q_okM 155 = true := by decide +kernel
set_option maxRecDepth 100000 in
theorem q_okM_156 : q_okM 156 = true := by decide +kernel
set_option maxRecDepth 100000 in
theorem q_okM_157 : q_okM 157 = true := by decide +kernel
set_option maxRecDepth 100000 in
theorem q_okM_158 : q_okM 158 = true := by decide +kernel
set_option maxRecDepth 100000 in
theorem q_okM_159 : q_okM 159 = true := by decide +kernel
set_option maxRecDepth 100000 in
theorem q_okM_160 : q_okM 160 = true := by decide +kernel
set_option maxRecDepth 100000 in
theorem q_okM_161 : q_okM 161 = true := by decide +kernel
set_option maxRecDepth 100000 in
theorem q_okM_162 : q_okM 162 = true := by decide +kernel
set_option maxRecDepth 100000 in
theorem q_okM_163 : q_okM 163 = true := by decide +kernel
set_option maxRecDepth 100000 in
theorem q_okM_164 : q_okM 164 = true := by decide +kernel
set_option maxRecDepth 100000 in
theorem q_okM_165 : q_okM 165 = true := by decide +kernel
set_option maxRecDepth 100000 in
theorem q_okM_166 : q_okM 166 = true := by decide +kernel
set_option maxRecDepth 100000 in
theorem q_okM_167 : q_okM 167 = true := by decide +kernel
set_option maxRecDepth 100000 in
theorem q_okM_168 : q_okM 168 = true := by decide +kernel
set_option maxRecDepth 100000 in
theorem q_okM_169 : q_okM 169 = true := by decide +kernel
set_option maxRecDepth 100000 in
theorem q_okM_170 : q_okM 170 = true := by decide +kernel
set_option maxRecDepth 100000 in
theorem q_okM_171 : q_okM 171 = true := by decide +kernel
set_option maxRecDepth 100000 in
theorem q_okM_172 : q_okM 172 = true := by decide +kernel
set_option maxRecDepth 100000 in
theorem q_okM_173 : q_okM 173 = true := by decide +kernel
set_option maxRecDepth 100000 in
theorem q_okM_174 : q_okM 174 = true := by decide +kernel
set_option maxRecDepth 100000 in
theorem q_okM_175 : q_okM 175 = true := by decide +kernel
set_option maxRecDepth 100000 in
theorem q_okM_176 : q_okM 176 = true := by decide +kernel
set_option maxRecDepth 100000 in
theorem q_okM_177 : q_okM 177 = true := by decide +kernel
set_option maxRecDepth 100000 in
theorem q_okM_178 : q_okM 178 = true := by decide +kernel
set_option maxRecDepth 100000 in
theorem q_okM_179 : q_okM 179 = true := by decide +kernel
set_option maxRecDepth 100000 in
theorem q_okM_180 : q_okM 180 = true := by decide +kernel
set_option maxRecDepth 100000 in
theorem q_okM_181 : q_okM 181 = true := by decide +kernel
set_option maxRecDepth 100000 in
theorem q_okM_182 : q_okM 182 = true := by decide +kernel
set_option maxRecDepth 100000 in
theorem q_okM_183 : q_okM 183 = true := by decide +kernel
set_option maxRecDepth 100000 in
theorem q_okM_184 : q_okM 184 = true := by decide +kernel
set_option maxRecDepth 100000 in
theorem q_okM_185 : q_okM 185 = true := by decide +kernel
set_option maxRecDepth 100000 in
theorem q_okM_186 : q_okM 186 = true := by decide +kernel
set_option maxRecDepth 100000 in
theorem q_okM_187 : q_okM 187 = true := by decide +kernel
set_option maxRecDepth 100000 in
theorem q_okM_188 : q_okM 188 = true := by decide +kernel
set_option maxRecDepth 100000 in
theorem q_okM_189 : q_okM 189 = true := by decide +kernel
set_option maxRecDepth 100000 in
theorem q_okM_190 : q_okM 190 = true := by decide +kernel
set_option maxRecDepth 100000 in
theorem q_okM_191 : q_okM 191 = true := by decide +kernel
set_option maxRecDepth 100000 in
theorem q_okM_192 : q_okM 192 = true := by decide +kernel
set_option maxRecDepth 100000 in
theorem q_okM_193 : q_okM 193 = true := by decide +kernel
set_option maxRecDepth 100000 in
theorem q_okM_194 : q_okM 194 = true := by decide +kernel
set_option maxRecDepth 100000 in
theorem q_okM_195 : q_okM 195 = true := by decide +kernel
set_option maxRecDepth 100000 in
theorem q_okM_196 : q_okM 196 = true := by decide +kernel
set_option maxRecDepth 100000 in
theorem q_okM_197 : q_okM 197 = true := by decide +kernel
set_option maxRecDepth 100000 in
theorem q_okM_198 : q_okM 198 = true := by decide +kernel
set_option maxRecDepth 100000 in
theorem q_okM_199 : q_okM 199 = true := by decide +kernel
set_option maxRecDepth 100000 in
theorem q_okM_200 : q_okM 200 = true := by decide +kernel
set_option maxRecDepth 100000 in
theorem q_okM_201 : q_okM 201 = true := by decide +kernel
set_option maxRecDepth 100000 in
theorem q_okM_202 : q_okM 202 = true := by decide +kernel
set_option maxRecDepth 100000 in
theorem q_okM_203 : q_okM 203 = true := by decide +kernel
set_option maxRecDepth 100000 in
theorem q_okM_204 : q_okM 204 = true := by decide +kernel
theorem q_okM_all (k : Nat) (hk : k < 205) : q_okM k = true := by
  rcases Nat.lt_or_ge k 102 with h1 | h1
  · rcases Nat.lt_or_ge k 51 with h2 | h2
    · rcases Nat.lt_or_ge k 25 with h3 | h3
      · rcases Nat.lt_or_ge k 12 with h4 | h4
        · rcases Nat.lt_or_ge k 6 with h5 | h5
          · rcases Nat.lt_or_ge k 3 with h6 | h6
            · rcases Nat.lt_or_ge k 1 with h7 | h7
              · obtain rfl : k = 0 := by omega
                exact q_okM_0
              · rcases Nat.lt_or_ge k 2 with h8 | h8
                · obtain rfl : k = 1 := by omega
                  exact q_okM_1
                · obtain rfl : k = 2 := by omega
                  exact q_okM_2
            · rcases Nat.lt_or_ge k 4 with h7 | h7
              · obtain rfl : k = 3 := by omega
                exact q_okM_3
              · rcases Nat.lt_or_ge k 5 with h8 | h8
                · obtain rfl : k = 4 := by omega
                  exact q_okM_4
                · obtain rfl : k = 5 := by omega
                  exact q_okM_5
          · rcases Nat.lt_or_ge k 9 with h6 | h6
            · rcases Nat.lt_or_ge k 7 with h7 | h7
              · obtain rfl : k = 6 := by omega
                exact q_okM_6
              · rcases Nat.lt_or_ge k 8 with h8 | h8
                · obtain rfl : k = 7 := by omega
                  exact q_okM_7
                · obtain rfl : k = 8 := by omega
                  exact q_okM_8
            · rcases Nat.lt_or_ge k 10 with h7 | h7
              · obtain rfl : k = 9 := by omega
                exact q_okM_9
              · rcases Nat.lt_or_ge k 11 with h8 | h8
                · obtain rfl : k = 10 := by omega
                  exact q_okM_10
                · obtain rfl : k = 11 := by omega
                  exact q_okM_11
        · rcases Nat.lt_or_ge k 18 with h5 | h5
          · rcases Nat.lt_or_ge k 15 with h6 | h6
            · rcases Nat.lt_or_ge k 13 with h7 | h7
              · obtain rfl : k = 12 := by omega
                exact q_okM_12
              · rcases Nat.lt_or_ge k 14 with h8 | h8
                · obtain rfl : k = 13 := by omega
                  exact q_okM_13
                · obtain rfl : k = 14 := by omega
                  exact q_okM_14
            · rcases Nat.lt_or_ge k 16 with h7 | h7
              · obtain rfl : k = 15 := by omega
                exact q_okM_15
              · rcases Nat.lt_or_ge k 17 with h8 | h8
                · obtain rfl : k = 16 := by omega
                  exact q_okM_16
                · obtain rfl : k = 17 := by omega
                  exact q_okM_17
          · rcases Nat.lt_or_ge k 21 with h6 | h6
            · rcases Nat.lt_or_ge k 19 with h7 | h7
              · obtain rfl : k = 18 := by omega
                exact q_okM_18
              · rcases Nat.lt_or_ge k 20 with h8 | h8
                · obtain rfl : k = 19 := by omega
                  exact q_okM_19
                · obtain rfl : k = 20 := by omega
                  exact q_okM_20
            · rcases Nat.lt_or_ge k 23 with h7 | h7
              · rcases Nat.lt_or_ge k 22 with h8 | h8
                · obtain rfl : k = 21 := by omega
                  exact q_okM_21
                · obtain rfl : k = 22 := by omega
                  exact q_okM_22
              · rcases Nat.lt_or_ge k 24 with h8 | h8
                · obtain rfl : k = 23 := by omega
                  exact q_okM_23
                · obtain rfl : k = 24 := by omega
                  exact q_okM_24
      · rcases Nat.lt_or_ge k 38 with h4 | h4
        · rcases Nat.lt_or_ge k 31 with h5 | h5
          · rcases Nat.lt_or_ge k 28 with h6 | h6
            · rcases Nat.lt_or_ge k 26 with h7 | h7
              · obtain rfl : k = 25 := by omega
                exact q_okM_25
              · rcases Nat.lt_or_ge k 27 with h8 | h8
                · obtain rfl : k = 26 := by omega
                  exact q_okM_26
                · obtain rfl : k = 27 := by omega
                  exact q_okM_27
            · rcases Nat.lt_or_ge k 29 with h7 | h7
              · obtain rfl : k = 28 := by omega
                exact q_okM_28
              · rcases Nat.lt_or_ge k 30 with h8 | h8
                · obtain rfl : k = 29 := by omega
                  exact q_okM_29
                · obtain rfl : k = 30 := by omega
                  exact q_okM_30
          · rcases Nat.lt_or_ge k 34 with h6 | h6
            · rcases Nat.lt_or_ge k 32 with h7 | h7
              · obtain rfl : k = 31 := by omega
                exact q_okM_31
              · rcases Nat.lt_or_ge k 33 with h8 | h8
                · obtain rfl : k = 32 := by omega
                  exact q_okM_32
                · obtain rfl : k = 33 := by omega
                  exact q_okM_33
            · rcases Nat.lt_or_ge k 36 with h7 | h7
              · rcases Nat.lt_or_ge k 35 with h8 | h8
                · obtain rfl : k = 34 := by omega
                  exact q_okM_34
                · obtain rfl : k = 35 := by omega
                  exact q_okM_35
              · rcases Nat.lt_or_ge k 37 with h8 | h8
                · obtain rfl : k = 36 := by omega
                  exact q_okM_36
                · obtain rfl : k = 37 := by omega
                  exact q_okM_37
        · rcases Nat.lt_or_ge k 44 with h5 | h5
          · rcases Nat.lt_or_ge k 41 with h6 | h6
            · rcases Nat.lt_or_ge k 39 with h7 | h7
              · obtain rfl : k = 38 := by omega
                exact q_okM_38
              · rcases Nat.lt_or_ge k 40 with h8 | h8
                · obtain rfl : k = 39 := by omega
                  exact q_okM_39
                · obtain rfl : k = 40 := by omega
                  exact q_okM_40
            · rcases Nat.lt_or_ge k 42 with h7 | h7
              · obtain rfl : k = 41 := by omega
                exact q_okM_41
              · rcases Nat.lt_or_ge k 43 with h8 | h8
                · obtain rfl : k = 42 := by omega
                  exact q_okM_42
                · obtain rfl : k = 43 := by omega
                  exact q_okM_43
          · rcases Nat.lt_or_ge k 47 with h6 | h6
            · rcases Nat.lt_or_ge k 45 with h7 | h7
              · obtain rfl : k = 44 := by omega
                exact q_okM_44
              · rcases Nat.lt_or_ge k 46 with h8 | h8
                · obtain rfl : k = 45 := by omega
                  exact q_okM_45
                · obtain rfl : k = 46 := by omega
                  exact q_okM_46
            · rcases Nat.lt_or_ge k 49 with h7 | h7
              · rcases Nat.lt_or_ge k 48 with h8 | h8
                · obtain rfl : k = 47 := by omega
                  exact q_okM_47
                · obtain rfl : k = 48 := by omega
                  exact q_okM_48
              · rcases Nat.lt_or_ge k 50 with h8 | h8
                · obtain rfl : k = 49 := by omega
                  exact q_okM_49
                · obtain rfl : k = 50 := by omega
                  exact q_okM_50
    · rcases Nat.lt_or_ge k 76 with h3 | h3
      · rcases Nat.lt_or_ge k 63 with h4 | h4
        · rcases Nat.lt_or_ge k 57 with h5 | h5
          · rcases Nat.lt_or_ge k 54 with h6 | h6
            · rcases Nat.lt_or_ge k 52 with h7 | h7
              · obtain rfl : k = 51 := by omega
                exact q_okM_51
              · rcases Nat.lt_or_ge k 53 with h8 | h8
                · obtain rfl : k = 52 := by omega
                  exact q_okM_52
                · obtain rfl : k = 53 := by omega
                  exact q_okM_53
            · rcases Nat.lt_or_ge k 55 with h7 | h7
              · obtain rfl : k = 54 := by omega
                exact q_okM_54
              · rcases Nat.lt_or_ge k 56 with h8 | h8
                · obtain rfl : k = 55 := by omega
                  exact q_okM_55
                · obtain rfl : k = 56 := by omega
                  exact q_okM_56
          · rcases Nat.lt_or_ge k 60 with h6 | h6
            · rcases Nat.lt_or_ge k 58 with h7 | h7
              · obtain rfl : k = 57 := by omega
                exact q_okM_57
              · rcases Nat.lt_or_ge k 59 with h8 | h8
                · obtain rfl : k = 58 := by omega
                  exact q_okM_58
                · obtain rfl : k = 59 := by omega
                  exact q_okM_59
            · rcases Nat.lt_or_ge k 61 with h7 | h7
              · obtain rfl : k = 60 := by omega
                exact q_okM_60
              · rcases Nat.lt_or_ge k 62 with h8 | h8
                · obtain rfl : k = 61 := by omega
                  exact q_okM_61
                · obtain rfl : k = 62 := by omega
                  exact q_okM_62
        · rcases Nat.lt_or_ge k 69 with h5 | h5
          · rcases Nat.lt_or_ge k 66 with h6 | h6
            · rcases Nat.lt_or_ge k 64 with h7 | h7
              · obtain rfl : k = 63 := by omega
                exact q_okM_63
              · rcases Nat.lt_or_ge k 65 with h8 | h8
                · obtain rfl : k = 64 := by omega
                  exact q_okM_64
                · obtain rfl : k = 65 := by omega
                  exact q_okM_65
            · rcases Nat.lt_or_ge k 67 with h7 | h7
              · obtain rfl : k = 66 := by omega
                exact q_okM_66
              · rcases Nat.lt_or_ge k 68 with h8 | h8
                · obtain rfl : k = 67 := by omega
                  exact q_okM_67
                · obtain rfl : k = 68 := by omega
                  exact q_okM_68
          · rcases Nat.lt_or_ge k 72 with h6 | h6
            · rcases Nat.lt_or_ge k 70 with h7 | h7
              · obtain rfl : k = 69 := by omega
                exact q_okM_69
              · rcases Nat.lt_or_ge k 71 with h8 | h8
                · obtain rfl : k = 70 := by omega
                  exact q_okM_70
                · obtain rfl : k = 71 := by omega
                  exact q_okM_71
            · rcases Nat.lt_or_ge k 74 with h7 | h7
              · rcases Nat.lt_or_ge k 73 with h8 | h8
                · obtain rfl : k = 72 := by omega
                  exact q_okM_72
                · obtain rfl : k = 73 := by omega
                  exact q_okM_73
              · rcases Nat.lt_or_ge k 75 with h8 | h8
                · obtain rfl : k = 74 := by omega
                  exact q_okM_74
                · obtain rfl : k = 75 := by omega
                  exact q_okM_75
      · rcases Nat.lt_or_ge k 89 with h4 | h4
        · rcases Nat.lt_or_ge k 82 with h5 | h5
          · rcases Nat.lt_or_ge k 79 with h6 | h6
            · rcases Nat.lt_or_ge k 77 with h7 | h7
              · obtain rfl : k = 76 := by omega
                exact q_okM_76
              · rcases Nat.lt_or_ge k 78 with h8 | h8
                · obtain rfl : k = 77 := by omega
                  exact q_okM_77
                · obtain rfl : k = 78 := by omega
                  exact q_okM_78
            · rcases Nat.lt_or_ge k 80 with h7 | h7
              · obtain rfl : k = 79 := by omega
                exact q_okM_79
              · rcases Nat.lt_or_ge k 81 with h8 | h8
                · obtain rfl : k = 80 := by omega
                  exact q_okM_80
                · obtain rfl : k = 81 := by omega
                  exact q_okM_81
          · rcases Nat.lt_or_ge k 85 with h6 | h6
            · rcases Nat.lt_or_ge k 83 with h7 | h7
              · obtain rfl : k = 82 := by omega
                exact q_okM_82
              · rcases Nat.lt_or_ge k 84 with h8 | h8
                · obtain rfl : k = 83 := by omega
                  exact q_okM_83
                · obtain rfl : k = 84 := by omega
                  exact q_okM_84
            · rcases Nat.lt_or_ge k 87 with h7 | h7
              · rcases Nat.lt_or_ge k 86 with h8 | h8
                · obtain rfl : k = 85 := by omega
                  exact q_okM_85
                · obtain rfl : k = 86 := by omega
                  exact q_okM_86
              · rcases Nat.lt_or_ge k 88 with h8 | h8
                · obtain rfl : k = 87 := by omega
                  exact q_okM_87
                · obtain rfl : k = 88 := by omega
                  exact q_okM_88
        · rcases Nat.lt_or_ge k 95 with h5 | h5
          · rcases Nat.lt_or_ge k 92 with h6 | h6
            · rcases Nat.lt_or_ge k 90 with h7 | h7
              · obtain rfl : k = 89 := by omega
                exact q_okM_89
              · rcases Nat.lt_or_ge k 91 with h8 | h8
                · obtain rfl : k = 90 := by omega
                  exact q_okM_90
                · obtain rfl : k = 91 := by omega
                  exact q_okM_91
            · rcases Nat.lt_or_ge k 93 with h7 | h7
              · obtain rfl : k = 92 := by omega
                exact q_okM_92
              · rcases Nat.lt_or_ge k 94 with h8 | h8
                · obtain rfl : k = 93 := by omega
                  exact q_okM_93
                · obtain rfl : k = 94 := by omega
                  exact q_okM_94
          · rcases Nat.lt_or_ge k 98 with h6 | h6
            · rcases Nat.lt_or_ge k 96 with h7 | h7
              · obtain rfl : k = 95 := by omega
                exact q_okM_95
              · rcases Nat.lt_or_ge k 97 with h8 | h8
                · obtain rfl : k = 96 := by omega
                  exact q_okM_96
                · obtain rfl : k = 97 := by omega
                  exact q_okM_97
            · rcases Nat.lt_or_ge k 100 with h7 | h7
              · rcases Nat.lt_or_ge k 99 with h8 | h8
                · obtain rfl : k = 98 := by omega
                  exact q_okM_98
                · obtain rfl : k = 99 := by omega
                  exact q_okM_99
              · rcases Nat.lt_or_ge k 101 with h8 | h8
                · obtain rfl : k = 100 := by omega
                  exact q_okM_100
                · obtain rfl : k = 101 := by omega
                  exact q_okM_101
  · rcases Nat.lt_or_ge k 153 with h2 | h2
    · rcases Nat.lt_or_ge k 127 with h3 | h3
      · rcases Nat.lt_or_ge k 114 with h4 | h4
        · rcases Nat.lt_or_ge k 108 with h5 | h5
          · rcases Nat.lt_or_ge k 105 with h6 | h6
            · rcases Nat.lt_or_ge k 103 with h7 | h7
              · obtain rfl : k = 102 := by omega
                exact q_okM_102
              · rcases Nat.lt_or_ge k 104 with h8 | h8
                · obtain rfl : k = 103 := by omega
                  exact q_okM_103
                · obtain rfl : k = 104 := by omega
                  exact q_okM_104
            · rcases Nat.lt_or_ge k 106 with h7 | h7
              · obtain rfl : k = 105 := by omega
                exact q_okM_105
              · rcases Nat.lt_or_ge k 107 with h8 | h8
                · obtain rfl : k = 106 := by omega
                  exact q_okM_106
                · obtain rfl : k = 107 := by omega
                  exact q_okM_107
          · rcases Nat.lt_or_ge k 111 with h6 | h6
            · rcases Nat.lt_or_ge k 109 with h7 | h7
              · obtain rfl : k = 108 := by omega
                exact q_okM_108
              · rcases Nat.lt_or_ge k 110 with h8 | h8
                · obtain rfl : k = 109 := by omega
                  exact q_okM_109
                · obtain rfl : k = 110 := by omega
                  exact q_okM_110
            · rcases Nat.lt_or_ge k 112 with h7 | h7
              · obtain rfl : k = 111 := by omega
                exact q_okM_111
              · rcases Nat.lt_or_ge k 113 with h8 | h8
                · obtain rfl : k = 112 := by omega
                  exact q_okM_112
                · obtain rfl : k = 113 := by omega
                  exact q_okM_113
        · rcases Nat.lt_or_ge k 120 with h5 | h5
          · rcases Nat.lt_or_ge k 117 with h6 | h6
            · rcases Nat.lt_or_ge k 115 with h7 | h7
              · obtain rfl : k = 114 := by omega
                exact q_okM_114
              · rcases Nat.lt_or_ge k 116 with h8 | h8
                · obtain rfl : k = 115 := by omega
                  exact q_okM_115
                · obtain rfl : k = 116 := by omega
                  exact q_okM_116
            · rcases Nat.lt_or_ge k 118 with h7 | h7
              · obtain rfl : k = 117 := by omega
                exact q_okM_117
              · rcases Nat.lt_or_ge k 119 with h8 | h8
                · obtain rfl : k = 118 := by omega
                  exact q_okM_118
                · obtain rfl : k = 119 := by omega
                  exact q_okM_119
          · rcases Nat.lt_or_ge k 123 with h6 | h6
            · rcases Nat.lt_or_ge k 121 with h7 | h7
              · obtain rfl : k = 120 := by omega
                exact q_okM_120
              · rcases Nat.lt_or_ge k 122 with h8 | h8
                · obtain rfl : k = 121 := by omega
                  exact q_okM_121
                · obtain rfl : k = 122 := by omega
                  exact q_okM_122
            · rcases Nat.lt_or_ge k 125 with h7 | h7
              · rcases Nat.lt_or_ge k 124 with h8 | h8
                · obtain rfl : k = 123 := by omega
                  exact q_okM_123
                · obtain rfl : k = 124 := by omega
                  exact q_okM_124
              · rcases Nat.lt_or_ge k 126 with h8 | h8
                · obtain rfl : k = 125 := by omega
                  exact q_okM_125
                · obtain rfl : k = 126 := by omega
                  exact q_okM_126
      · rcases Nat.lt_or_ge k 140 with h4 | h4
        · rcases Nat.lt_or_ge k 133 with h5 | h5
          · rcases Nat.lt_or_ge k 130 with h6 | h6
            · rcases Nat.lt_or_ge k 128 with h7 | h7
              · obtain rfl : k = 127 := by omega
                exact q_okM_127
              · rcases Nat.lt_or_ge k 129 with h8 | h8
                · obtain rfl : k = 128 := by omega
                  exact q_okM_128
                · obtain rfl : k = 129 := by omega
                  exact q_okM_129
            · rcases Nat.lt_or_ge k 131 with h7 | h7
              · obtain rfl : k = 130 := by omega
                exact q_okM_130
              · rcases Nat.lt_or_ge k 132 with h8 | h8
                · obtain rfl : k = 131 := by omega
                  exact q_okM_131
                · obtain rfl : k = 132 := by omega
                  exact q_okM_132
          · rcases Nat.lt_or_ge k 136 with h6 | h6
            · rcases Nat.lt_or_ge k 134 with h7 | h7
              · obtain rfl : k = 133 := by omega
                exact q_okM_133
              · rcases Nat.lt_or_ge k 135 with h8 | h8
                · obtain rfl : k = 134 := by omega
                  exact q_okM_134
                · obtain rfl : k = 135 := by omega
                  exact q_okM_135
            · rcases Nat.lt_or_ge k 138 with h7 | h7
              · rcases Nat.lt_or_ge k 137 with h8 | h8
                · obtain rfl : k = 136 := by omega
                  exact q_okM_136
                · obtain rfl : k = 137 := by omega
                  exact q_okM_137
              · rcases Nat.lt_or_ge k 139 with h8 | h8
                · obtain rfl : k = 138 := by omega
                  exact q_okM_138
                · obtain rfl : k = 139 := by omega
                  exact q_okM_139
        · rcases Nat.lt_or_ge k 146 with h5 | h5
          · rcases Nat.lt_or_ge k 143 with h6 | h6
            · rcases Nat.lt_or_ge k 141 with h7 | h7
              · obtain rfl : k = 140 := by omega
                exact q_okM_140
              · rcases Nat.lt_or_ge k 142 with h8 | h8
                · obtain rfl : k = 141 := by omega
                  exact q_okM_141
                · obtain rfl : k = 142 := by omega
                  exact q_okM_142
            · rcases Nat.lt_or_ge k 144 with h7 | h7
              · obtain rfl : k = 143 := by omega
                exact q_okM_143
              · rcases Nat.lt_or_ge k 145 with h8 | h8
                · obtain rfl : k = 144 := by omega
                  exact q_okM_144
                · obtain rfl : k = 145 := by omega
                  exact q_okM_145
          · rcases Nat.lt_or_ge k 149 with h6 | h6
            · rcases Nat.lt_or_ge k 147 with h7 | h7
              · obtain rfl : k = 146 := by omega
                exact q_okM_146
              · rcases Nat.lt_or_ge k 148 with h8 | h8
                · obtain rfl : k = 147 := by omega
                  exact q_okM_147
                · obtain rfl : k = 148 := by omega
                  exact q_okM_148
            · rcases Nat.lt_or_ge k 151 with h7 | h7
              · rcases Nat.lt_or_ge k 150 with h8 | h8
                · obtain rfl : k = 149 := by omega
                  exact q_okM_149
                · obtain rfl : k = 150 := by omega
                  exact q_okM_150
              · rcases Nat.lt_or_ge k 152 with h8 | h8
                · obtain rfl : k = 151 := by omega
                  exact q_okM_151
                · obtain rfl : k = 152 := by omega
                  exact q_okM_152
    · rcases Nat.lt_or_ge k 179 with h3 | h3
      · rcases Nat.lt_or_ge k 166 with h4 | h4
        · rcases Nat.lt_or_ge k 159 with h5 | h5
          · rcases Nat.lt_or_ge k 156 with h6 | h6
            · rcases Nat.lt_or_ge k 154 with h7 | h7
              · obtain rfl : k = 153 := by omega
                exact q_okM_153
              · rcases Nat.lt_or_ge k 155 with h8 | h8
                · obtain rfl : k = 154 := by omega
                  exact q_okM_154
                · obtain rfl : k = 155 := by omega
                  exact q_okM_155
            · rcases Nat.lt_or_ge k 157 with h7 | h7
              · obtain rfl : k = 156 := by omega
                exact q_okM_156
              · rcases Nat.lt_or_ge k 158 with h8 | h8
                · obtain rfl : k = 157 := by omega
                  exact q_okM_157
                · obtain rfl : k = 158 := by omega
                  exact q_okM_158
          · rcases Nat.lt_or_ge k 162 with h6 | h6
            · rcases Nat.lt_or_ge k 160 with h7 | h7
              · obtain rfl : k = 159 := by omega
                exact q_okM_159
              · rcases Nat.lt_or_ge k 161 with h8 | h8
                · obtain rfl : k = 160 := by omega
                  exact q_okM_160
                · obtain rfl : k = 161 := by omega
                  exact q_okM_161
            · rcases Nat.lt_or_ge k 164 with h7 | h7
              · rcases Nat.lt_or_ge k 163 with h8 | h8
                · obtain rfl : k = 162 := by omega
                  exact q_okM_162
                · obtain rfl : k = 163 := by omega
                  exact q_okM_163
              · rcases Nat.lt_or_ge k 165 with h8 | h8
                · obtain rfl : k = 164 := by omega
                  exact q_okM_164
                · obtain rfl : k = 165 := by omega
                  exact q_okM_165
        · rcases Nat.lt_or_ge k 172 with h5 | h5
          · rcases Nat.lt_or_ge k 169 with h6 | h6
            · rcases Nat.lt_or_ge k 167 with h7 | h7
              · obtain rfl : k = 166 := by omega
                exact q_okM_166
              · rcases Nat.lt_or_ge k 168 with h8 | h8
                · obtain rfl : k = 167 := by omega
                  exact q_okM_167
                · obtain rfl : k = 168 := by omega
                  exact q_okM_168
            · rcases Nat.lt_or_ge k 170 with h7 | h7
              · obtain rfl : k = 169 := by omega
                exact q_okM_169
              · rcases Nat.lt_or_ge k 171 with h8 | h8
                · obtain rfl : k = 170 := by omega
                  exact q_okM_170
                · obtain rfl : k = 171 := by omega
                  exact q_okM_171
          · rcases Nat.lt_or_ge k 175 with h6 | h6
            · rcases Nat.lt_or_ge k 173 with h7 | h7
              · obtain rfl : k = 172 := by omega
                exact q_okM_172
              · rcases Nat.lt_or_ge k 174 with h8 | h8
                · obtain rfl : k = 173 := by omega
                  exact q_okM_173
                · obtain rfl : k = 174 := by omega
                  exact q_okM_174
            · rcases Nat.lt_or_ge k 177 with h7 | h7
              · rcases Nat.lt_or_ge k 176 with h8 | h8
                · obtain rfl : k = 175 := by omega
                  exact q_okM_175
                · obtain rfl : k = 176 := by omega
                  exact q_okM_176
              · rcases Nat.lt_or_ge k 178 with h8 | h8
                · obtain rfl : k = 177 := by omega
                  exact q_okM_177
                · obtain rfl : k = 178 := by omega
                  exact q_okM_178
      · rcases Nat.lt_or_ge k 192 with h4 | h4
        · rcases Nat.lt_or_ge k 185 with h5 | h5
          · rcases Nat.lt_or_ge k 182 with h6 | h6
            · rcases Nat.lt_or_ge k 180 with h7 | h7
              · obtain rfl : k = 179 := by omega
                exact q_okM_179
              · rcases Nat.lt_or_ge k 181 with h8 | h8
                · obtain rfl : k = 180 := by omega
                  exact q_okM_180
                · obtain rfl : k = 181 := by omega
                  exact q_okM_181
            · rcases Nat.lt_or_ge k 183 with h7 | h7
              · obtain rfl : k = 182 := by omega
                exact q_okM_182
              · rcases Nat.lt_or_ge k 184 with h8 | h8
                · obtain rfl : k = 183 := by omega
                  exact q_okM_183
                · obtain rfl : k = 184 := by omega
                  exact q_okM_184
          · rcases Nat.lt_or_ge k 188 with h6 | h6
            · rcases Nat.lt_or_ge k 186 with h7 | h7
              · obtain rfl : k = 185 := by omega
                exact q_okM_185
              · rcases Nat.lt_or_ge k 187 with h8 | h8
                · obtain rfl : k = 186 := by omega
                  exact q_okM_186
                · obtain rfl : k = 187 := by omega
                  exact q_okM_187
            · rcases Nat.lt_or_ge k 190 with h7 | h7
              · rcases Nat.lt_or_ge k 189 with h8 | h8
                · obtain rfl : k = 188 := by omega
                  exact q_okM_188
                · obtain rfl : k = 189 := by omega
                  exact q_okM_189
              · rcases Nat.lt_or_ge k 191 with h8 | h8
                · obtain rfl : k = 190 := by omega
                  exact q_okM_190
                · obtain rfl : k = 191 := by omega
                  exact q_okM_191
        · rcases Nat.lt_or_ge k 198 with h5 | h5
          · rcases Nat.lt_or_ge k 195 with h6 | h6
            · rcases Nat.lt_or_ge k 193 with h7 | h7
              · obtain rfl : k = 192 := by omega
                exact q_okM_192
              · rcases Nat.lt_or_ge k 194 with h8 | h8
                · obtain rfl : k = 193 := by omega
                  exact q_okM_193
                · obtain rfl : k = 194 := by omega
                  exact q_okM_194
            · rcases Nat.lt_or_ge k 196 with h7 | h7
              · obtain rfl : k = 195 := by omega
                exact q_okM_195
              · rcases Nat.lt_or_ge k 197 with h8 | h8
                · obtain rfl : k = 196 := by omega
                  exact q_okM_196
                · obtain rfl : k = 197 := by omega
                  exact q_okM_197
          · rcases Nat.lt_or_ge k 201 with h6 | h6
            · rcases Nat.lt_or_ge k 199 with h7 | h7
              · obtain rfl : k = 198 := by omega
                exact q_okM_198
              · rcases Nat.lt_or_ge k 200 with h8 | h8
                · obtain rfl : k = 199 := by omega
                  exact q_okM_199
                · obtain rfl : k = 200 := by omega
                  exact q_okM_200
            · rcases Nat.lt_or_ge k 203 with h7 | h7
              · rcases Nat.lt_or_ge k 202 with h8 | h8
                · obtain rfl : k = 201 := by omega
                  exact q_okM_201
                · obtain rfl : k = 202 := by omega
                  exact q_okM_202
              · rcases Nat.lt_or_ge k 204 with h8 | h8
                · obtain rfl : k = 203 := by omega
                  exact q_okM_203
                · obtain rfl : k = 204 := by omega
                  exact q_okM_204
