set_option maxRecDepth 20000 in
theorem mk_0 : mwk 0 = true := by decide +kernel
set_option maxRecDepth 20000 in
theorem mk_1 : mwk 1 = true := by decide +kernel
set_option maxRecDepth 20000 in
theorem mk_2 : mwk 2 = true := by decide +kernel
set_option maxRecDepth 20000 in
theorem mk_3 : mwk 3 = true := by decide +kernel
set_option maxRecDepth 20000 in
theorem mk_4 : mwk 4 = true := by decide +kernel
set_option maxRecDepth 20000 in
theorem mk_5 : mwk 5 = true := by decide +kernel
set_option maxRecDepth 20000 in
theorem mk_6 : mwk 6 = true := by decide +kernel
set_option maxRecDepth 20000 in
theorem mk_7 : mwk 7 = true := by decide +kernel
set_option maxRecDepth 20000 in
theorem mk_8 : mwk 8 = true := by decide +kernel
set_option maxRecDepth 20000 in
theorem mk_9 : mwk 9 = true := by decide +kernel
set_option maxRecDepth 20000 in
theorem mk_10 : mwk 10 = true := by decide +kernel
set_option maxRecDepth 20000 in
theorem mk_11 : mwk 11 = true := by decide +kernel
set_option maxRecDepth 20000 in
theorem mk_12 : mwk 12 = true := by decide +kernel
set_option maxRecDepth 20000 in
theorem mk_13 : mwk 13 = true := by decide +kernel
set_option maxRecDepth 20000 in
theorem mk_14 : mwk 14 = true := by decide +kernel
set_option maxRecDepth 20000 in
theorem mk_15 : mwk 15 = true := by decide +kernel
set_option maxRecDepth 20000 in
theorem mk_16 : mwk 16 = true := by decide +kernel
set_option maxRecDepth 20000 in
theorem mk_17 : mwk 17 = true := by decide +kernel
set_option maxRecDepth 20000 in
theorem mk_18 : mwk 18 = true := by decide +kernel
set_option maxRecDepth 20000 in
theorem mk_19 : mwk 19 = true := by decide +kernel
set_option maxRecDepth 20000 in
theorem mk_20 : mwk 20 = true := by decide +kernel
set_option maxRecDepth 20000 in
theorem mk_21 : mwk 21 = true := by decide +kernel
set_option maxRecDepth 20000 in
theorem mk_22 : mwk 22 = true := by decide +kernel
set_option maxRecDepth 20000 in
theorem mk_23 : mwk 23 = true := by decide +kernel
set_option maxRecDepth 20000 in
theorem mk_24 : mwk 24 = true := by decide +kernel
set_option maxRecDepth 20000 in
theorem mk_25 : mwk 25 = true := by decide +kernel
set_option maxRecDepth 20000 in
theorem mk_26 : mwk 26 = true := by decide +kernel
set_option maxRecDepth 20000 in
theorem mk_27 : mwk 27 = true := by decide +kernel
set_option maxRecDepth 20000 in
theorem mk_28 : mwk 28 = true := by decide +kernel
set_option maxRecDepth 20000 in
theorem mk_29 : mwk 29 = true := by decide +kernel
set_option maxRecDepth 20000 in
theorem mk_30 : mwk 30 = true := by decide +kernel
set_option maxRecDepth 20000 in
theorem mk_31 : mwk 31 = true := by decide +kernel
set_option maxRecDepth 20000 in
theorem mk_32 : mwk 32 = true := by decide +kernel
set_option maxRecDepth 20000 in
theorem mk_33 : mwk 33 = true := by decide +kernel
set_option maxRecDepth 20000 in
theorem mk_34 : mwk 34 = true := by decide +kernel
set_option maxRecDepth 20000 in
theorem mk_35 : mwk 35 = true := by decide +kernel
set_option maxRecDepth 20000 in
theorem mk_36 : mwk 36 = true := by decide +kernel
set_option maxRecDepth 20000 in
theorem mk_37 : mwk 37 = true := by decide +kernel
set_option maxRecDepth 20000 in
theorem mk_38 : mwk 38 = true := by decide +kernel
set_option maxRecDepth 20000 in
theorem mk_39 : mwk 39 = true := by decide +kernel
set_option maxRecDepth 20000 in
theorem mk_40 : mwk 40 = true := by decide +kernel
set_option maxRecDepth 20000 in
theorem mk_41 : mwk 41 = true := by decide +kernel
set_option maxRecDepth 20000 in
theorem mk_42 : mwk 42 = true := by decide +kernel
set_option maxRecDepth 20000 in
theorem mk_43 : mwk 43 = true := by decide +kernel
set_option maxRecDepth 20000 in
theorem mk_44 : mwk 44 = true := by decide +kernel
set_option maxRecDepth 20000 in
theorem mk_45 : mwk 45 = true := by decide +kernel
set_option maxRecDepth 20000 in
theorem mk_46 : mwk 46 = true := by decide +kernel
set_option maxRecDepth 20000 in
theorem mk_47 : mwk 47 = true := by decide +kernel
set_option maxRecDepth 20000 in
theorem mk_48 : mwk 48 = true := by decide +kernel
set_option maxRecDepth 20000 in
theorem mk_49 : mwk 49 = true := by decide +kernel
set_option maxRecDepth 20000 in
theorem mk_50 : mwk 50 = true := by decide +kernel
set_option maxRecDepth 20000 in
theorem mk_51 : mwk 51 = true := by decide +kernel
set_option maxRecDepth 20000 in
theorem mk_52 : mwk 52 = true := by decide +kernel
set_option maxRecDepth 20000 in
theorem mk_53 : mwk 53 = true := by decide +kernel
set_option maxRecDepth 20000 in
theorem mk_54 : mwk 54 = true := by decide +kernel
set_option maxRecDepth 20000 in
theorem mk_55 : mwk 55 = true := by decide +kernel
set_option maxRecDepth 20000 in
theorem mk_56 : mwk 56 = true := by decide +kernel
set_option maxRecDepth 20000 in
theorem mk_57 : mwk 57 = true := by decide +kernel
set_option maxRecDepth 20000 in
theorem mk_58 : mwk 58 = true := by decide +kernel
set_option maxRecDepth 20000 in
theorem mk_59 : mwk 59 = true := by decide +kernel
set_option maxRecDepth 20000 in
theorem mk_60 : mwk 60 = true := by decide +kernel
set_option maxRecDepth 20000 in
theorem mk_61 : mwk 61 = true := by decide +kernel
set_option maxRecDepth 20000 in
theorem mk_62 : mwk 62 = true := by decide +kernel
set_option maxRecDepth 20000 in
theorem mk_63 : mwk 63 = true := by decide +kernel
set_option maxRecDepth 20000 in
theorem mk_64 : mwk 64 = true := by decide +kernel
set_option maxRecDepth 20000 in
theorem mk_65 : mwk 65 = true := by decide +kernel
set_option maxRecDepth 20000 in
theorem mk_66 : mwk 66 = true := by decide +kernel
set_option maxRecDepth 20000 in
theorem mk_67 : mwk 67 = true := by decide +kernel
set_option maxRecDepth 20000 in
theorem mk_68 : mwk 68 = true := by decide +kernel
set_option maxRecDepth 20000 in
theorem mk_69 : mwk 69 = true := by decide +kernel
set_option maxRecDepth 20000 in
theorem mk_70 : mwk 70 = true := by decide +kernel
set_option maxRecDepth 20000 in
theorem mk_71 : mwk 71 = true := by decide +kernel
set_option maxRecDepth 20000 in
theorem mk_72 : mwk 72 = true := by decide +kernel
set_option maxRecDepth 20000 in
theorem mk_73 : mwk 73 = true := by decide +kernel
set_option maxRecDepth 20000 in
theorem mk_74 : mwk 74 = true := by decide +kernel
set_option maxRecDepth 20000 in
theorem mk_75 : mwk 75 = true := by decide +kernel
set_option maxRecDepth 20000 in
theorem mk_76 : mwk 76 = true := by decide +kernel
set_option maxRecDepth 20000 in
theorem mk_77 : mwk 77 = true := by decide +kernel
set_option maxRecDepth 20000 in
theorem mk_78 : mwk 78 = true := by decide +kernel
set_option maxRecDepth 20000 in
theorem mk_79 : mwk 79 = true := by decide +kernel
set_option maxRecDepth 20000 in
theorem mk_80 : mwk 80 = true := by decide +kernel
set_option maxRecDepth 20000 in
theorem mk_81 : mwk 81 = true := by decide +kernel
set_option maxRecDepth 20000 in
theorem mk_82 : mwk 82 = true := by decide +kernel
set_option maxRecDepth 20000 in
theorem mk_83 : mwk 83 = true := by decide +kernel
set_option maxRecDepth 20000 in
theorem mk_84 : mwk 84 = true := by decide +kernel
set_option maxRecDepth 20000 in
theorem mk_85 : mwk 85 = true := by decide +kernel
set_option maxRecDepth 20000 in
theorem mk_86 : mwk 86 = true := by decide +kernel
set_option maxRecDepth 20000 in
theorem mk_87 : mwk 87 = true := by decide +kernel
set_option maxRecDepth 20000 in
theorem mk_88 : mwk 88 = true := by decide +kernel
set_option maxRecDepth 20000 in
theorem mk_89 : mwk 89 = true := by decide +kernel
set_option maxRecDepth 20000 in
theorem mk_90 : mwk 90 = true := by decide +kernel
set_option maxRecDepth 20000 in
theorem mk_91 : mwk 91 = true := by decide +kernel
set_option maxRecDepth 20000 in
theorem mk_92 : mwk 92 = true := by decide +kernel
set_option maxRecDepth 20000 in
theorem mk_93 : mwk 93 = true := by decide +kernel
set_option maxRecDepth 20000 in
theorem mk_94 : mwk 94 = true := by decide +kernel
set_option maxRecDepth 20000 in
theorem mk_95 : mwk 95 = true := by decide +kernel
set_option maxRecDepth 20000 in
theorem mk_96 : mwk 96 = true := by decide +kernel
set_option maxRecDepth 20000 in
theorem mk_97 : mwk 97 = true := by decide +kernel
set_option maxRecDepth 20000 in
theorem mk_98 : mwk 98 = true := by decide +kernel
set_option maxRecDepth 20000 in
theorem mk_99 : mwk 99 = true := by decide +kernel
set_option maxRecDepth 20000 in
theorem mk_100 : mwk 100 = true := by decide +kernel
set_option maxRecDepth 20000 in
theorem mk_101 : mwk 101 = true := by decide +kernel
set_option maxRecDepth 20000 in
theorem mk_102 : mwk 102 = true := by decide +kernel
set_option maxRecDepth 20000 in
theorem mk_103 : mwk 103 = true := by decide +kernel
set_option maxRecDepth 20000 in
theorem mk_104 : mwk 104 = true := by decide +kernel
set_option maxRecDepth 20000 in
theorem mk_105 : mwk 105 = true := by decide +kernel
set_option maxRecDepth 20000 in
theorem mk_106 : mwk 106 = true := by decide +kernel
set_option maxRecDepth 20000 in
theorem mk_107 : mwk 107 = true := by decide +kernel
set_option maxRecDepth 20000 in
theorem mk_108 : mwk 108 = true := by decide +kernel
set_option maxRecDepth 20000 in
theorem mk_109 : mwk 109 = true := by decide +kernel
set_option maxRecDepth 20000 in
theorem mk_110 : mwk 110 = true := by decide +kernel
set_option maxRecDepth 20000 in
theorem mk_111 : mwk 111 = true := by decide +kernel
set_option maxRecDepth 20000 in
theorem mk_112 : mwk 112 = true := by decide +kernel
set_option maxRecDepth 20000 in
theorem mk_113 : mwk 113 = true := by decide +kernel
set_option maxRecDepth 20000 in
theorem mk_114 : mwk 114 = true := by decide +kernel
set_option maxRecDepth 20000 in
theorem mk_115 : mwk 115 = true := by decide +kernel
set_option maxRecDepth 20000 in
theorem mk_116 : mwk 116 = true := by decide +kernel
set_option maxRecDepth 20000 in
theorem mk_117 : mwk 117 = true := by decide +kernel
set_option maxRecDepth 20000 in
theorem mk_118 : mwk 118 = true := by decide +kernel
set_option maxRecDepth 20000 in
theorem mk_119 : mwk 119 = true := by decide +kernel
set_option maxRecDepth 20000 in
theorem mk_120 : mwk 120 = true := by decide +kernel
set_option maxRecDepth 20000 in
theorem mk_121 : mwk 121 = true := by decide +kernel
set_option maxRecDepth 20000 in
theorem mk_122 : mwk 122 = true := by decide +kernel
set_option maxRecDepth 20000 in
theorem mk_123 : mwk 123 = true := by decide +kernel
set_option maxRecDepth 20000 in
theorem mk_124 : mwk 124 = true := by decide +kernel
set_option maxRecDepth 20000 in
theorem mk_125 : mwk 125 = true := by decide +kernel
set_option maxRecDepth 20000 in
theorem mk_126 : mwk 126 = true := by decide +kernel
set_option maxRecDepth 20000 in
theorem mk_127 : mwk 127 = true := by decide +kernel
set_option maxRecDepth 20000 in
theorem mk_128 : mwk 128 = true := by decide +kernel
set_option maxRecDepth 20000 in
theorem mk_129 : mwk 129 = true := by decide +kernel
set_option maxRecDepth 20000 in
theorem mk_130 : mwk 130 = true := by decide +kernel
set_option maxRecDepth 20000 in
theorem mk_131 : mwk 131 = true := by decide +kernel
set_option maxRecDepth 20000 in
theorem mk_132 : mwk 132 = true := by decide +kernel
set_option maxRecDepth 20000 in
theorem mk_133 : mwk 133 = true := by decide +kernel
set_option maxRecDepth 20000 in
theorem mk_134 : mwk 134 = true := by decide +kernel
set_option maxRecDepth 20000 in
theorem mk_135 : mwk 135 = true := by decide +kernel
set_option maxRecDepth 20000 in
theorem mk_136 : mwk 136 = true := by decide +kernel
set_option maxRecDepth 20000 in
theorem mk_137 : mwk 137 = true := by decide +kernel
set_option maxRecDepth 20000 in
theorem mk_138 : mwk 138 = true := by decide +kernel
set_option maxRecDepth 20000 in
theorem mk_139 : mwk 139 = true := by decide +kernel
set_option maxRecDepth 20000 in
theorem mk_140 : mwk 140 = true := by decide +kernel
set_option maxRecDepth 20000 in
theorem mk_141 : mwk 141 = true := by decide +kernel
set_option maxRecDepth 20000 in
theorem mk_142 : mwk 142 = true := by decide +kernel
set_option maxRecDepth 20000 in
theorem mk_143 : mwk 143 = true := by decide +kernel
set_option maxRecDepth 20000 in
theorem mk_144 : mwk 144 = true := by decide +kernel
set_option maxRecDepth 20000 in
theorem mk_145 : mwk 145 = true := by decide +kernel
set_option maxRecDepth 20000 in
theorem mk_146 : mwk 146 = true := by decide +kernel
set_option maxRecDepth 20000 in
theorem mk_147 : mwk 147 = true := by decide +kernel
set_option maxRecDepth 20000 in
theorem mk_148 : mwk 148 = true := by decide +kernel
set_option maxRecDepth 20000 in
theorem mk_149 : mwk 149 = true := by decide +kernel
set_option maxRecDepth 20000 in
theorem mk_150 : mwk 150 = true := by decide +kernel
set_option maxRecDepth 20000 in
theorem mk_151 : mwk 151 = true := by decide +kernel
set_option maxRecDepth 20000 in
theorem mk_152 : mwk 152 = true := by decide +kernel
set_option maxRecDepth 20000 in
theorem mk_153 : mwk 153 = true := by decide +kernel
set_option maxRecDepth 20000 in
theorem mk_154 : mwk 154 = true := by decide +kernel
set_option maxRecDepth 20000 in
theorem mk_155 : mwk 155 = true := by decide +kernel
set_option maxRecDepth 20000 in
theorem mk_156 : mwk 156 = true := by decide +kernel
set_option maxRecDepth 20000 in
theorem mk_157 : mwk 157 = true := by decide +kernel
set_option maxRecDepth 20000 in
theorem mk_158 : mwk 158 = true := by decide +kernel
set_option maxRecDepth 20000 in
theorem mk_159 : mwk 159 = true := by decide +kernel
set_option maxRecDepth 20000 in
theorem mk_160 : mwk 160 = true := by decide +kernel
set_option maxRecDepth 20000 in
theorem mk_161 : mwk 161 = true := by decide +kernel
set_option maxRecDepth 20000 in
theorem mk_162 : mwk 162 = true := by decide +kernel
set_option maxRecDepth 20000 in
theorem mk_163 : mwk 163 = true := by decide +kernel
set_option maxRecDepth 20000 in
theorem mk_164 : mwk 164 = true := by decide +kernel
set_option maxRecDepth 20000 in
theorem mk_165 : mwk 165 = true := by decide +kernel
set_option maxRecDepth 20000 in
theorem mk_166 : mwk 166 = true := by decide +kernel
set_option maxRecDepth 20000 in
theorem mk_167 : mwk 167 = true := by decide +kernel
set_option maxRecDepth 20000 in
theorem mk_168 : mwk 168 = true := by decide +kernel
set_option maxRecDepth 20000 in
theorem mk_169 : mwk 169 = true := by decide +kernel
set_option maxRecDepth 20000 in
theorem mk_170 : mwk 170 = true := by decide +kernel
set_option maxRecDepth 20000 in
theorem mk_171 : mwk 171 = true := by decide +kernel
set_option maxRecDepth 20000 in
theorem mk_172 : mwk 172 = true := by decide +kernel
set_option maxRecDepth 20000 in
theorem mk_173 : mwk 173 = true := by decide +kernel
set_option maxRecDepth 20000 in
theorem mk_174 : mwk 174 = true := by decide +kernel
set_option maxRecDepth 20000 in
theorem mk_175 : mwk 175 = true := by decide +kernel
set_option maxRecDepth 20000 in
theorem mk_176 : mwk 176 = true := by decide +kernel
set_option maxRecDepth 20000 in
theorem mk_177 : mwk 177 = true := by decide +kernel
set_option maxRecDepth 20000 in
theorem mk_178 : mwk 178 = true := by decide +kernel
set_option maxRecDepth 20000 in
theorem mk_179 : mwk 179 = true := by decide +kernel
set_option maxRecDepth 20000 in
theorem mk_180 : mwk 180 = true := by decide +kernel
set_option maxRecDepth 20000 in
theorem mk_181 : mwk 181 = true := by decide +kernel
set_option maxRecDepth 20000 in
theorem mk_182 : mwk 182 = true := by decide +kernel
set_option maxRecDepth 20000 in
theorem mk_183 : mwk 183 = true := by decide +kernel
set_option maxRecDepth 20000 in
theorem mk_184 : mwk 184 = true := by decide +kernel
set_option maxRecDepth 20000 in
theorem mk_185 : mwk 185 = true := by decide +kernel
set_option maxRecDepth 20000 in
theorem mk_186 : mwk 186 = true := by decide +kernel
set_option maxRecDepth 20000 in
theorem mk_187 : mwk 187 = true := by decide +kernel
set_option maxRecDepth 20000 in
theorem mk_188 : mwk 188 = true := by decide +kernel
set_option maxRecDepth 20000 in
theorem mk_189 : mwk 189 = true := by decide +kernel
set_option maxRecDepth 20000 in
theorem mk_190 : mwk 190 = true := by decide +kernel
set_option maxRecDepth 20000 in
theorem mk_191 : mwk 191 = true := by decide +kernel
set_option maxRecDepth 20000 in
theorem mk_192 : mwk 192 = true := by decide +kernel
set_option maxRecDepth 20000 in
theorem mk_193 : mwk 193 = true := by decide +kernel
set_option maxRecDepth 20000 in
theorem mk_194 : mwk 194 = true := by decide +kernel
set_option maxRecDepth 20000 in
theorem mk_195 : mwk 195 = true := by decide +kernel
set_option maxRecDepth 20000 in
theorem mk_196 : mwk 196 = true := by decide +kernel
set_option maxRecDepth 20000 in
theorem mk_197 : mwk 197 = true := by decide +kernel
set_option maxRecDepth 20000 in
theorem mk_198 : mwk 198 = true := by decide +kernel
set_option maxRecDepth 20000 in
theorem mk_199 : mwk 199 = true := by decide +kernel
set_option maxRecDepth 20000 in
theorem mk_200 : mwk 200 = true := by decide +kernel
set_option maxRecDepth 20000 in
theorem mk_201 : mwk 201 = true := by decide +kernel
set_option maxRecDepth 20000 in
theorem mk_202 : mwk 202 = true := by decide +kernel
set_option maxRecDepth 20000 in
theorem mk_203 : mwk 203 = true := by decide +kernel
set_option maxRecDepth 20000 in
theorem mk_204 : mwk 204 = true := by decide +kernel
set_option maxRecDepth 20000 in
theorem mk_205 : mwk 205 = true := by decide +kernel
set_option maxRecDepth 20000 in
theorem mk_206 : mwk 206 = true := by decide +kernel
set_option maxRecDepth 20000 in
theorem mk_207 : mwk 207 = true := by decide +kernel
set_option maxRecDepth 20000 in
theorem mk_208 : mwk 208 = true := by decide +kernel
set_option maxRecDepth 20000 in
theorem mk_209 : mwk 209 = true := by decide +kernel
set_option maxRecDepth 20000 in
theorem mk_210 : mwk 210 = true := by decide +kernel
set_option maxRecDepth 20000 in
theorem mk_211 : mwk 211 = true := by decide +kernel
set_option maxRecDepth 20000 in
theorem mk_212 : mwk 212 = true := by decide +kernel
set_option maxRecDepth 20000 in
theorem mk_213 : mwk 213 = true := by decide +kernel
set_option maxRecDepth 20000 in
theorem mk_214 : mwk 214 = true := by decide +kernel
set_option maxRecDepth 20000 in
theorem mk_215 : mwk 215 = true := by decide +kernel
set_option maxRecDepth 20000 in
theorem mk_216 : mwk 216 = true := by decide +kernel
set_option maxRecDepth 20000 in
theorem mk_217 : mwk 217 = true := by decide +kernel
theorem ckA_c0 : ∀ a, a < 0 → chkM a (mcl a).2.2.2 = true := fun a h => absurd h (Nat.not_lt_zero a)
theorem ckA_c20 : ∀ a, a < 20 → chkM a (mcl a).2.2.2 = true := (lt_s (lt_s (lt_s (lt_s (lt_s (lt_s (lt_s (lt_s (lt_s (lt_s (lt_s (lt_s (lt_s (lt_s (lt_s (lt_s (lt_s (lt_s (lt_s (lt_s ckA_c0 ck_0) ck_1) ck_2) ck_3) ck_4) ck_5) ck_6) ck_7) ck_8) ck_9) ck_10) ck_11) ck_12) ck_13) ck_14) ck_15) ck_16) ck_17) ck_18) ck_19)
theorem ckA_c40 : ∀ a, a < 40 → chkM a (mcl a).2.2.2 = true := (lt_s (lt_s (lt_s (lt_s (lt_s (lt_s (lt_s (lt_s (lt_s (lt_s (lt_s (lt_s (lt_s (lt_s (lt_s (lt_s (lt_s (lt_s (lt_s (lt_s ckA_c20 ck_20) ck_21) ck_22) ck_23) ck_24) ck_25) ck_26) ck_27) ck_28) ck_29) ck_30) ck_31) ck_32) ck_33) ck_34) ck_35) ck_36) ck_37) ck_38) ck_39)
theorem ckA_c60 : ∀ a, a < 60 → chkM a (mcl a).2.2.2 = true := (lt_s (lt_s (lt_s (lt_s (lt_s (lt_s (lt_s (lt_s (lt_s (lt_s (lt_s (lt_s (lt_s (lt_s (lt_s (lt_s (lt_s (lt_s (lt_s (lt_s ckA_c40 ck_40) ck_41) ck_42) ck_43) ck_44) ck_45) ck_46) ck_47) ck_48) ck_49) ck_50) ck_51) ck_52) ck_53) ck_54) ck_55) ck_56) ck_57) ck_58) ck_59)
theorem ckA_c80 : ∀ a, a < 80 → chkM a (mcl a).2.2.2 = true := (lt_s (lt_s (lt_s (lt_s (lt_s (lt_s (lt_s (lt_s (lt_s (lt_s (lt_s (lt_s (lt_s (lt_s (lt_s (lt_s (lt_s (lt_s (lt_s (lt_s ckA_c60 ck_60) ck_61) ck_62) ck_63) ck_64) ck_65) ck_66) ck_67) ck_68) ck_69) ck_70) ck_71) ck_72) ck_73) ck_74) ck_75) ck_76) ck_77) ck_78) ck_79)
theorem ckA_c100 : ∀ a, a < 100 → chkM a (mcl a).2.2.2 = true := (lt_s (lt_s (lt_s (lt_s (lt_s (lt_s (lt_s (lt_s (lt_s (lt_s (lt_s (lt_s (lt_s (lt_s (lt_s (lt_s (lt_s (lt_s (lt_s (lt_s ckA_c80 ck_80) ck_81) ck_82) ck_83) ck_84) ck_85) ck_86) ck_87) ck_88) ck_89) ck_90) ck_91) ck_92) ck_93) ck_94) ck_95) ck_96) ck_97) ck_98) ck_99)
theorem ckA_c120 : ∀ a, a < 120 → chkM a (mcl a).2.2.2 = true := (lt_s (lt_s (lt_s (lt_s (lt_s (lt_s (lt_s (lt_s (lt_s (lt_s (lt_s (lt_s (lt_s (lt_s (lt_s (lt_s (lt_s (lt_s (lt_s (lt_s ckA_c100 ck_100) ck_101) ck_102) ck_103) ck_104) ck_105) ck_106) ck_107) ck_108) ck_109) ck_110) ck_111) ck_112) ck_113) ck_114) ck_115) ck_116) ck_117) ck_118) ck_119)
theorem ckA_c140 : ∀ a, a < 140 → chkM a (mcl a).2.2.2 = true := (lt_s (lt_s (lt_s (lt_s (lt_s (lt_s (lt_s (lt_s (lt_s (lt_s (lt_s (lt_s (lt_s (lt_s (lt_s (lt_s (lt_s (lt_s (lt_s (lt_s ckA_c120 ck_120) ck_121) ck_122) ck_123) ck_124) ck_125) ck_126) ck_127) ck_128) ck_129) ck_130) ck_131) ck_132) ck_133) ck_134) ck_135) ck_136) ck_137) ck_138) ck_139)
theorem ckA_c160 : ∀ a, a < 160 → chkM a (mcl a).2.2.2 = true := (lt_s (lt_s (lt_s (lt_s (lt_s (lt_s (lt_s (lt_s (lt_s (lt_s (lt_s (lt_s (lt_s (lt_s (lt_s (lt_s (lt_s (lt_s (lt_s (lt_s ckA_c140 ck_140) ck_141) ck_142) ck_143) ck_144) ck_145) ck_146) ck_147) ck_148) ck_149) ck_150) ck_151) ck_152) ck_153) ck_154) ck_155) ck_156) ck_157) ck_158) ck_159)
theorem ckA_c180 : ∀ a, a < 180 → chkM a (mcl a).2.2.2 = true := (lt_s (lt_s (lt_s (lt_s (lt_s (lt_s (lt_s (lt_s (lt_s (lt_s (lt_s (lt_s (lt_s (lt_s (lt_s (lt_s (lt_s (lt_s (lt_s (lt_s ckA_c160 ck_160) ck_161) ck_162) ck_163) ck_164) ck_165) ck_166) ck_167) ck_168) ck_169) ck_170) ck_171) ck_172) ck_173) ck_174) ck_175) ck_176) ck_177) ck_178) ck_179)
theorem ckA_c200 : ∀ a, a < 200 → chkM a (mcl a).2.2.2 = true := (lt_s (lt_s (lt_s (lt_s (lt_s (lt_s (lt_s (lt_s (lt_s (lt_s (lt_s (lt_s (lt_s (lt_s (lt_s (lt_s (lt_s (lt_s (lt_s (lt_s ckA_c180 ck_180) ck_181) ck_182) ck_183) ck_184) ck_185) ck_186) ck_187) ck_188) ck_189) ck_190) ck_191) ck_192) ck_193) ck_194) ck_195) ck_196) ck_197) ck_198) ck_199)
theorem ckA_c218 : ∀ a, a < 218 → chkM a (mcl a).2.2.2 = true := (lt_s (lt_s (lt_s (lt_s (lt_s (lt_s (lt_s (lt_s (lt_s (lt_s (lt_s (lt_s (lt_s (lt_s (lt_s (lt_s (lt_s (lt_s ckA_c200 ck_200) ck_201) ck_202) ck_203) ck_204) ck_205) ck_206) ck_207) ck_208) ck_209) ck_210) ck_211) ck_212) ck_213) ck_214) ck_215) ck_216) ck_217)
theorem mkA_c0 : ∀ a, a < 0 → mwk a = true := fun a h => absurd h (Nat.not_lt_zero a)
theorem mkA_c20 : ∀ a, a < 20 → mwk a = true := (lt_s (lt_s (lt_s (lt_s (lt_s (lt_s (lt_s (lt_s (lt_s (lt_s (lt_s (lt_s (lt_s (lt_s (lt_s (lt_s (lt_s (lt_s (lt_s (lt_s mkA_c0 mk_0) mk_1) mk_2) mk_3) mk_4) mk_5) mk_6) mk_7) mk_8) mk_9) mk_10) mk_11) mk_12) mk_13) mk_14) mk_15) mk_16) mk_17) mk_18) mk_19)
theorem mkA_c40 : ∀ a, a < 40 → mwk a = true := (lt_s (lt_s (lt_s (lt_s (lt_s (lt_s (lt_s (lt_s (lt_s (lt_s (lt_s (lt_s (lt_s (lt_s (lt_s (lt_s (lt_s (lt_s (lt_s (lt_s mkA_c20 mk_20) mk_21) mk_22) mk_23) mk_24) mk_25) mk_26) mk_27) mk_28) mk_29) mk_30) mk_31) mk_32) mk_33) mk_34) mk_35) mk_36) mk_37) mk_38) mk_39)
theorem mkA_c60 : ∀ a, a < 60 → mwk a = true := (lt_s (lt_s (lt_s (lt_s (lt_s (lt_s (lt_s (lt_s (lt_s (lt_s (lt_s (lt_s (lt_s (lt_s (lt_s (lt_s (lt_s (lt_s (lt_s (lt_s mkA_c40 mk_40) mk_41) mk_42) mk_43) mk_44) mk_45) mk_46) mk_47) mk_48) mk_49) mk_50) mk_51) mk_52) mk_53) mk_54) mk_55) mk_56) mk_57) mk_58) mk_59)
theorem mkA_c80 : ∀ a, a < 80 → mwk a = true := (lt_s (lt_s (lt_s (lt_s (lt_s (lt_s (lt_s (lt_s (lt_s (lt_s (lt_s (lt_s (lt_s (lt_s (lt_s (lt_s (lt_s (lt_s (lt_s (lt_s mkA_c60 mk_60) mk_61) mk_62) mk_63) mk_64) mk_65) mk_66) mk_67) mk_68) mk_69) mk_70) mk_71) mk_72) mk_73) mk_74) mk_75) mk_76) mk_77) mk_78) mk_79)
theorem mkA_c100 : ∀ a, a < 100 → mwk a = true := (lt_s (lt_s (lt_s (lt_s (lt_s (lt_s (lt_s (lt_s (lt_s (lt_s (lt_s (lt_s (lt_s (lt_s (lt_s (lt_s (lt_s (lt_s (lt_s (lt_s mkA_c80 mk_80) mk_81) mk_82) mk_83) mk_84) mk_85) mk_86) mk_87) mk_88) mk_89) mk_90) mk_91) mk_92) mk_93) mk_94) mk_95) mk_96) mk_97) mk_98) mk_99)
theorem mkA_c120 : ∀ a, a < 120 → mwk a = true := (lt_s (lt_s (lt_s (lt_s (lt_s (lt_s (lt_s (lt_s (lt_s (lt_s (lt_s (lt_s (lt_s (lt_s (lt_s (lt_s (lt_s (lt_s (lt_s (lt_s mkA_c100 mk_100) mk_101) mk_102) mk_103) mk_104) mk_105) mk_106) mk_107) mk_108) mk_109) mk_110) mk_111) mk_112) mk_113) mk_114) mk_115) mk_116) mk_117) mk_118) mk_119)
theorem mkA_c140 : ∀ a, a < 140 → mwk a = true := (lt_s (lt_s (lt_s (lt_s (lt_s (lt_s (lt_s (lt_s (lt_s (lt_s (lt_s (lt_s (lt_s (lt_s (lt_s (lt_s (lt_s (lt_s (lt_s (lt_s mkA_c120 mk_120) mk_121) mk_122) mk_123) mk_124) mk_125) mk_126) mk_127) mk_128) mk_129) mk_130) mk_131) mk_132) mk_133) mk_134) mk_135) mk_136) mk_137) mk_138) mk_139)
theorem mkA_c160 : ∀ a, a < 160 → mwk a = true := (lt_s (lt_s (lt_s (lt_s (lt_s (lt_s (lt_s (lt_s (lt_s (lt_s (lt_s (lt_s (lt_s (lt_s (lt_s (lt_s (lt_s (lt_s (lt_s (lt_s mkA_c140 mk_140) mk_141) mk_142) mk_143) mk_144) mk_145) mk_146) mk_147) mk_148) mk_149) mk_150) mk_151) mk_152) mk_153) mk_154) mk_155) mk_156) mk_157) mk_158) mk_159)
theorem mkA_c180 : ∀ a, a < 180 → mwk a = true := (lt_s (lt_s (lt_s (lt_s (lt_s (lt_s (lt_s (lt_s (lt_s (lt_s (lt_s (lt_s (lt_s (lt_s (lt_s (lt_s (lt_s (lt_s (lt_s (lt_s mkA_c160 mk_160) mk_161) mk_162) mk_163) mk_164) mk_165) mk_166) mk_167) mk_168) mk_169) mk_170) mk_171) mk_172) mk_173) mk_174) mk_175) mk_176) mk_177) mk_178) mk_179)
theorem mkA_c200 : ∀ a, a < 200 → mwk a = true := (lt_s (lt_s (lt_s (lt_s (lt_s (lt_s (lt_s (lt_s (lt_s (lt_s (lt_s (lt_s (lt_s (lt_s (lt_s (lt_s (lt_s (lt_s (lt_s (lt_s mkA_c180 mk_180) mk_181) mk_182) mk_183) mk_184) mk_185) mk_186) mk_187) mk_188) mk_189) mk_190) mk_191) mk_192) mk_193) mk_194) mk_195) mk_196) mk_197) mk_198) mk_199)
theorem mkA_c218 : ∀ a, a < 218 → mwk a = true := (lt_s (lt_s (lt_s (lt_s (lt_s (lt_s (lt_s (lt_s (lt_s (lt_s (lt_s (lt_s (lt_s (lt_s (lt_s (lt_s (lt_s (lt_s mkA_c200 mk_200) mk_201) mk_202) mk_203) mk_204) mk_205) mk_206) mk_207) mk_208) mk_209) mk_210) mk_211) mk_212) mk_213) mk_214) mk_215) mk_216) mk_217)
