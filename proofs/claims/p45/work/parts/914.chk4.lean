set_option maxRecDepth 20000 in
theorem mk_0 : mwe 0 = true := by decide +kernel
set_option maxRecDepth 20000 in
theorem mk_1 : mwe 1 = true := by decide +kernel
set_option maxRecDepth 20000 in
theorem mk_2 : mwe 2 = true := by decide +kernel
set_option maxRecDepth 20000 in
theorem mk_3 : mwe 3 = true := by decide +kernel
set_option maxRecDepth 20000 in
theorem mk_4 : mwe 4 = true := by decide +kernel
set_option maxRecDepth 20000 in
theorem mk_5 : mwe 5 = true := by decide +kernel
set_option maxRecDepth 20000 in
theorem mk_6 : mwe 6 = true := by decide +kernel
set_option maxRecDepth 20000 in
theorem mk_7 : mwe 7 = true := by decide +kernel
set_option maxRecDepth 20000 in
theorem mk_8 : mwe 8 = true := by decide +kernel
set_option maxRecDepth 20000 in
theorem mk_9 : mwe 9 = true := by decide +kernel
set_option maxRecDepth 20000 in
theorem mk_10 : mwe 10 = true := by decide +kernel
set_option maxRecDepth 20000 in
theorem mk_11 : mwe 11 = true := by decide +kernel
set_option maxRecDepth 20000 in
theorem mk_12 : mwe 12 = true := by decide +kernel
set_option maxRecDepth 20000 in
theorem mk_13 : mwe 13 = true := by decide +kernel
set_option maxRecDepth 20000 in
theorem mk_14 : mwe 14 = true := by decide +kernel
set_option maxRecDepth 20000 in
theorem mk_15 : mwe 15 = true := by decide +kernel
set_option maxRecDepth 20000 in
theorem mk_16 : mwe 16 = true := by decide +kernel
set_option maxRecDepth 20000 in
theorem mk_17 : mwe 17 = true := by decide +kernel
set_option maxRecDepth 20000 in
theorem mk_18 : mwe 18 = true := by decide +kernel
set_option maxRecDepth 20000 in
theorem mk_19 : mwe 19 = true := by decide +kernel
set_option maxRecDepth 20000 in
theorem mk_20 : mwe 20 = true := by decide +kernel
set_option maxRecDepth 20000 in
theorem mk_21 : mwe 21 = true := by decide +kernel
set_option maxRecDepth 20000 in
theorem mk_22 : mwe 22 = true := by decide +kernel
set_option maxRecDepth 20000 in
theorem mk_23 : mwe 23 = true := by decide +kernel
set_option maxRecDepth 20000 in
theorem mk_24 : mwe 24 = true := by decide +kernel
set_option maxRecDepth 20000 in
theorem mk_25 : mwe 25 = true := by decide +kernel
set_option maxRecDepth 20000 in
theorem mk_26 : mwe 26 = true := by decide +kernel
set_option maxRecDepth 20000 in
theorem mk_27 : mwe 27 = true := by decide +kernel
set_option maxRecDepth 20000 in
theorem mk_28 : mwe 28 = true := by decide +kernel
set_option maxRecDepth 20000 in
theorem mk_29 : mwe 29 = true := by decide +kernel
set_option maxRecDepth 20000 in
theorem mk_30 : mwe 30 = true := by decide +kernel
set_option maxRecDepth 20000 in
theorem mk_31 : mwe 31 = true := by decide +kernel
set_option maxRecDepth 20000 in
theorem mk_32 : mwe 32 = true := by decide +kernel
set_option maxRecDepth 20000 in
theorem mk_33 : mwe 33 = true := by decide +kernel
set_option maxRecDepth 20000 in
theorem mk_34 : mwe 34 = true := by decide +kernel
set_option maxRecDepth 20000 in
theorem mk_35 : mwe 35 = true := by decide +kernel
set_option maxRecDepth 20000 in
theorem mk_36 : mwe 36 = true := by decide +kernel
set_option maxRecDepth 20000 in
theorem mk_37 : mwe 37 = true := by decide +kernel
set_option maxRecDepth 20000 in
theorem mk_38 : mwe 38 = true := by decide +kernel
set_option maxRecDepth 20000 in
theorem mk_39 : mwe 39 = true := by decide +kernel
set_option maxRecDepth 20000 in
theorem mk_40 : mwe 40 = true := by decide +kernel
set_option maxRecDepth 20000 in
theorem mk_41 : mwe 41 = true := by decide +kernel
set_option maxRecDepth 20000 in
theorem mk_42 : mwe 42 = true := by decide +kernel
set_option maxRecDepth 20000 in
theorem mk_43 : mwe 43 = true := by decide +kernel
set_option maxRecDepth 20000 in
theorem mk_44 : mwe 44 = true := by decide +kernel
set_option maxRecDepth 20000 in
theorem mk_45 : mwe 45 = true := by decide +kernel
set_option maxRecDepth 20000 in
theorem mk_46 : mwe 46 = true := by decide +kernel
set_option maxRecDepth 20000 in
theorem mk_47 : mwe 47 = true := by decide +kernel
set_option maxRecDepth 20000 in
theorem mk_48 : mwe 48 = true := by decide +kernel
set_option maxRecDepth 20000 in
theorem mk_49 : mwe 49 = true := by decide +kernel
set_option maxRecDepth 20000 in
theorem mk_50 : mwe 50 = true := by decide +kernel
set_option maxRecDepth 20000 in
theorem mk_51 : mwe 51 = true := by decide +kernel
set_option maxRecDepth 20000 in
theorem mk_52 : mwe 52 = true := by decide +kernel
set_option maxRecDepth 20000 in
theorem mk_53 : mwe 53 = true := by decide +kernel
set_option maxRecDepth 20000 in
theorem mk_54 : mwe 54 = true := by decide +kernel
set_option maxRecDepth 20000 in
theorem mk_55 : mwe 55 = true := by decide +kernel
set_option maxRecDepth 20000 in
theorem mk_56 : mwe 56 = true := by decide +kernel
set_option maxRecDepth 20000 in
theorem mk_57 : mwe 57 = true := by decide +kernel
set_option maxRecDepth 20000 in
theorem mk_58 : mwe 58 = true := by decide +kernel
set_option maxRecDepth 20000 in
theorem mk_59 : mwe 59 = true := by decide +kernel
set_option maxRecDepth 20000 in
theorem mk_60 : mwe 60 = true := by decide +kernel
set_option maxRecDepth 20000 in
theorem mk_61 : mwe 61 = true := by decide +kernel
set_option maxRecDepth 20000 in
theorem mk_62 : mwe 62 = true := by decide +kernel
set_option maxRecDepth 20000 in
theorem mk_63 : mwe 63 = true := by decide +kernel
set_option maxRecDepth 20000 in
theorem mk_64 : mwe 64 = true := by decide +kernel
set_option maxRecDepth 20000 in
theorem mk_65 : mwe 65 = true := by decide +kernel
set_option maxRecDepth 20000 in
theorem mk_66 : mwe 66 = true := by decide +kernel
set_option maxRecDepth 20000 in
theorem mk_67 : mwe 67 = true := by decide +kernel
set_option maxRecDepth 20000 in
theorem mk_68 : mwe 68 = true := by decide +kernel
set_option maxRecDepth 20000 in
theorem mk_69 : mwe 69 = true := by decide +kernel
set_option maxRecDepth 20000 in
theorem mk_70 : mwe 70 = true := by decide +kernel
set_option maxRecDepth 20000 in
theorem mk_71 : mwe 71 = true := by decide +kernel
set_option maxRecDepth 20000 in
theorem mk_72 : mwe 72 = true := by decide +kernel
set_option maxRecDepth 20000 in
theorem mk_73 : mwe 73 = true := by decide +kernel
set_option maxRecDepth 20000 in
theorem mk_74 : mwe 74 = true := by decide +kernel
set_option maxRecDepth 20000 in
theorem mk_75 : mwe 75 = true := by decide +kernel
set_option maxRecDepth 20000 in
theorem mk_76 : mwe 76 = true := by decide +kernel
set_option maxRecDepth 20000 in
theorem mk_77 : mwe 77 = true := by decide +kernel
set_option maxRecDepth 20000 in
theorem mk_78 : mwe 78 = true := by decide +kernel
set_option maxRecDepth 20000 in
theorem mk_79 : mwe 79 = true := by decide +kernel
set_option maxRecDepth 20000 in
theorem mk_80 : mwe 80 = true := by decide +kernel
set_option maxRecDepth 20000 in
theorem mk_81 : mwe 81 = true := by decide +kernel
set_option maxRecDepth 20000 in
theorem mk_82 : mwe 82 = true := by decide +kernel
set_option maxRecDepth 20000 in
theorem mk_83 : mwe 83 = true := by decide +kernel
set_option maxRecDepth 20000 in
theorem mk_84 : mwe 84 = true := by decide +kernel
set_option maxRecDepth 20000 in
theorem mk_85 : mwe 85 = true := by decide +kernel
set_option maxRecDepth 20000 in
theorem mk_86 : mwe 86 = true := by decide +kernel
set_option maxRecDepth 20000 in
theorem mk_87 : mwe 87 = true := by decide +kernel
set_option maxRecDepth 20000 in
theorem mk_88 : mwe 88 = true := by decide +kernel
set_option maxRecDepth 20000 in
theorem mk_89 : mwe 89 = true := by decide +kernel
set_option maxRecDepth 20000 in
theorem mk_90 : mwe 90 = true := by decide +kernel
set_option maxRecDepth 20000 in
theorem mk_91 : mwe 91 = true := by decide +kernel
set_option maxRecDepth 20000 in
theorem mk_92 : mwe 92 = true := by decide +kernel
set_option maxRecDepth 20000 in
theorem mk_93 : mwe 93 = true := by decide +kernel
set_option maxRecDepth 20000 in
theorem mk_94 : mwe 94 = true := by decide +kernel
set_option maxRecDepth 20000 in
theorem mk_95 : mwe 95 = true := by decide +kernel
set_option maxRecDepth 20000 in
theorem mk_96 : mwe 96 = true := by decide +kernel
set_option maxRecDepth 20000 in
theorem mk_97 : mwe 97 = true := by decide +kernel
set_option maxRecDepth 20000 in
theorem mk_98 : mwe 98 = true := by decide +kernel
set_option maxRecDepth 20000 in
theorem mk_99 : mwe 99 = true := by decide +kernel
set_option maxRecDepth 20000 in
theorem mk_100 : mwe 100 = true := by decide +kernel
set_option maxRecDepth 20000 in
theorem mk_101 : mwe 101 = true := by decide +kernel
set_option maxRecDepth 20000 in
theorem mk_102 : mwe 102 = true := by decide +kernel
set_option maxRecDepth 20000 in
theorem mk_103 : mwe 103 = true := by decide +kernel
set_option maxRecDepth 20000 in
theorem mk_104 : mwe 104 = true := by decide +kernel
set_option maxRecDepth 20000 in
theorem mk_105 : mwe 105 = true := by decide +kernel
set_option maxRecDepth 20000 in
theorem mk_106 : mwe 106 = true := by decide +kernel
set_option maxRecDepth 20000 in
theorem mk_107 : mwe 107 = true := by decide +kernel
set_option maxRecDepth 20000 in
theorem mk_108 : mwe 108 = true := by decide +kernel
set_option maxRecDepth 20000 in
theorem mk_109 : mwe 109 = true := by decide +kernel
set_option maxRecDepth 20000 in
theorem mk_110 : mwe 110 = true := by decide +kernel
set_option maxRecDepth 20000 in
theorem mk_111 : mwe 111 = true := by decide +kernel
set_option maxRecDepth 20000 in
theorem mk_112 : mwe 112 = true := by decide +kernel
set_option maxRecDepth 20000 in
theorem mk_113 : mwe 113 = true := by decide +kernel
set_option maxRecDepth 20000 in
theorem mk_114 : mwe 114 = true := by decide +kernel
set_option maxRecDepth 20000 in
theorem mk_115 : mwe 115 = true := by decide +kernel
set_option maxRecDepth 20000 in
theorem mk_116 : mwe 116 = true := by decide +kernel
set_option maxRecDepth 20000 in
theorem mk_117 : mwe 117 = true := by decide +kernel
set_option maxRecDepth 20000 in
theorem mk_118 : mwe 118 = true := by decide +kernel
set_option maxRecDepth 20000 in
theorem mk_119 : mwe 119 = true := by decide +kernel
set_option maxRecDepth 20000 in
theorem mk_120 : mwe 120 = true := by decide +kernel
set_option maxRecDepth 20000 in
theorem mk_121 : mwe 121 = true := by decide +kernel
set_option maxRecDepth 20000 in
theorem mk_122 : mwe 122 = true := by decide +kernel
set_option maxRecDepth 20000 in
theorem mk_123 : mwe 123 = true := by decide +kernel
set_option maxRecDepth 20000 in
theorem mk_124 : mwe 124 = true := by decide +kernel
set_option maxRecDepth 20000 in
theorem mk_125 : mwe 125 = true := by decide +kernel
set_option maxRecDepth 20000 in
theorem mk_126 : mwe 126 = true := by decide +kernel
set_option maxRecDepth 20000 in
theorem mk_127 : mwe 127 = true := by decide +kernel
set_option maxRecDepth 20000 in
theorem mk_128 : mwe 128 = true := by decide +kernel
set_option maxRecDepth 20000 in
theorem wq_c129 : wq 102 (.code (mcl 129).1 (mcl 129).2.1 (mcl 129).2.2.1 (mcl 129).2.2.2) = true := decide_eq_true rfl
theorem mws_129 : mws_.getD 129 [] = [102, 101, 100] := by decide +kernel
theorem mwk_of3 {x a b c : Nat} (e : mws_.getD x [] = [a, b, c]) (h0 : decide (plainName (mcl x).1.cls = true ∧ (mcl x).1.cls ≠ "java/lang/invoke/MethodHandle" ∧ (mcl x).1.cls ≠ "java/lang/invoke/VarHandle" ∧ (mcl x).2.2.1 ≤ 20) = true) (h1 : wq a (.code (mcl x).1 (mcl x).2.1 (mcl x).2.2.1 (mcl x).2.2.2) = true) (h2 : wq b (.initialized (mcl x).1.cls) = true) (h3 : wq c (.static (mcl x).1) = true) : mwe x = true := by
  have h : mwk x = true := by
    unfold mwk
    rw [e]
    simp only [h0, h1, h2, h3, Bool.and_true]
  unfold mwe
  rw [e]
  simp only [List.isEmpty_cons, cond_false]
  exact h
set_option maxRecDepth 20000 in
theorem mk_129 : mwe 129 = true := mwk_of3 mws_129 (by decide +kernel) wq_c129 (by decide +kernel) (by decide +kernel)
set_option maxRecDepth 20000 in
theorem mk_130 : mwe 130 = true := by decide +kernel
set_option maxRecDepth 20000 in
theorem mk_131 : mwe 131 = true := by decide +kernel
set_option maxRecDepth 20000 in
theorem mk_132 : mwe 132 = true := by decide +kernel
set_option maxRecDepth 20000 in
theorem mk_133 : mwe 133 = true := by decide +kernel
set_option maxRecDepth 20000 in
theorem mk_134 : mwe 134 = true := by decide +kernel
set_option maxRecDepth 20000 in
theorem mk_135 : mwe 135 = true := by decide +kernel
set_option maxRecDepth 20000 in
theorem mk_136 : mwe 136 = true := by decide +kernel
set_option maxRecDepth 20000 in
theorem mk_137 : mwe 137 = true := by decide +kernel
set_option maxRecDepth 20000 in
theorem mk_138 : mwe 138 = true := by decide +kernel
set_option maxRecDepth 20000 in
theorem mk_139 : mwe 139 = true := by decide +kernel
set_option maxRecDepth 20000 in
theorem mk_140 : mwe 140 = true := by decide +kernel
set_option maxRecDepth 20000 in
theorem mk_141 : mwe 141 = true := by decide +kernel
set_option maxRecDepth 20000 in
theorem mk_142 : mwe 142 = true := by decide +kernel
set_option maxRecDepth 20000 in
theorem mk_143 : mwe 143 = true := by decide +kernel
set_option maxRecDepth 20000 in
theorem mk_144 : mwe 144 = true := by decide +kernel
set_option maxRecDepth 20000 in
theorem mk_145 : mwe 145 = true := by decide +kernel
set_option maxRecDepth 20000 in
theorem mk_146 : mwe 146 = true := by decide +kernel
set_option maxRecDepth 20000 in
theorem mk_147 : mwe 147 = true := by decide +kernel
set_option maxRecDepth 20000 in
theorem mk_148 : mwe 148 = true := by decide +kernel
set_option maxRecDepth 20000 in
theorem mk_149 : mwe 149 = true := by decide +kernel
set_option maxRecDepth 20000 in
theorem mk_150 : mwe 150 = true := by decide +kernel
set_option maxRecDepth 20000 in
theorem mk_151 : mwe 151 = true := by decide +kernel
set_option maxRecDepth 20000 in
theorem mk_152 : mwe 152 = true := by decide +kernel
set_option maxRecDepth 20000 in
theorem mk_153 : mwe 153 = true := by decide +kernel
set_option maxRecDepth 20000 in
theorem mk_154 : mwe 154 = true := by decide +kernel
set_option maxRecDepth 20000 in
theorem mk_155 : mwe 155 = true := by decide +kernel
set_option maxRecDepth 20000 in
theorem mk_156 : mwe 156 = true := by decide +kernel
set_option maxRecDepth 20000 in
theorem mk_157 : mwe 157 = true := by decide +kernel
set_option maxRecDepth 20000 in
theorem mk_158 : mwe 158 = true := by decide +kernel
set_option maxRecDepth 20000 in
theorem mk_159 : mwe 159 = true := by decide +kernel
set_option maxRecDepth 20000 in
theorem mk_160 : mwe 160 = true := by decide +kernel
set_option maxRecDepth 20000 in
theorem mk_161 : mwe 161 = true := by decide +kernel
set_option maxRecDepth 20000 in
theorem mk_162 : mwe 162 = true := by decide +kernel
set_option maxRecDepth 20000 in
theorem mk_163 : mwe 163 = true := by decide +kernel
set_option maxRecDepth 20000 in
theorem mk_164 : mwe 164 = true := by decide +kernel
set_option maxRecDepth 20000 in
theorem mk_165 : mwe 165 = true := by decide +kernel
set_option maxRecDepth 20000 in
theorem mk_166 : mwe 166 = true := by decide +kernel
set_option maxRecDepth 20000 in
theorem mk_167 : mwe 167 = true := by decide +kernel
set_option maxRecDepth 20000 in
theorem mk_168 : mwe 168 = true := by decide +kernel
set_option maxRecDepth 20000 in
theorem mk_169 : mwe 169 = true := by decide +kernel
set_option maxRecDepth 20000 in
theorem mk_170 : mwe 170 = true := by decide +kernel
set_option maxRecDepth 20000 in
theorem mk_171 : mwe 171 = true := by decide +kernel
set_option maxRecDepth 20000 in
theorem mk_172 : mwe 172 = true := by decide +kernel
set_option maxRecDepth 20000 in
theorem mk_173 : mwe 173 = true := by decide +kernel
set_option maxRecDepth 20000 in
theorem mk_174 : mwe 174 = true := by decide +kernel
set_option maxRecDepth 20000 in
theorem mk_175 : mwe 175 = true := by decide +kernel
set_option maxRecDepth 20000 in
theorem mk_176 : mwe 176 = true := by decide +kernel
set_option maxRecDepth 20000 in
theorem mk_177 : mwe 177 = true := by decide +kernel
set_option maxRecDepth 20000 in
theorem mk_178 : mwe 178 = true := by decide +kernel
set_option maxRecDepth 20000 in
theorem mk_179 : mwe 179 = true := by decide +kernel
set_option maxRecDepth 20000 in
theorem mk_180 : mwe 180 = true := by decide +kernel
set_option maxRecDepth 20000 in
theorem mk_181 : mwe 181 = true := by decide +kernel
set_option maxRecDepth 20000 in
theorem mk_182 : mwe 182 = true := by decide +kernel
set_option maxRecDepth 20000 in
theorem mk_183 : mwe 183 = true := by decide +kernel
set_option maxRecDepth 20000 in
theorem mk_184 : mwe 184 = true := by decide +kernel
set_option maxRecDepth 20000 in
theorem mk_185 : mwe 185 = true := by decide +kernel
set_option maxRecDepth 20000 in
theorem mk_186 : mwe 186 = true := by decide +kernel
set_option maxRecDepth 20000 in
theorem mk_187 : mwe 187 = true := by decide +kernel
set_option maxRecDepth 20000 in
theorem mk_188 : mwe 188 = true := by decide +kernel
set_option maxRecDepth 20000 in
theorem mk_189 : mwe 189 = true := by decide +kernel
set_option maxRecDepth 20000 in
theorem mk_190 : mwe 190 = true := by decide +kernel
set_option maxRecDepth 20000 in
theorem mk_191 : mwe 191 = true := by decide +kernel
set_option maxRecDepth 20000 in
theorem mk_192 : mwe 192 = true := by decide +kernel
set_option maxRecDepth 20000 in
theorem mk_193 : mwe 193 = true := by decide +kernel
set_option maxRecDepth 20000 in
theorem mk_194 : mwe 194 = true := by decide +kernel
set_option maxRecDepth 20000 in
theorem mk_195 : mwe 195 = true := by decide +kernel
set_option maxRecDepth 20000 in
theorem mk_196 : mwe 196 = true := by decide +kernel
set_option maxRecDepth 20000 in
theorem mk_197 : mwe 197 = true := by decide +kernel
set_option maxRecDepth 20000 in
theorem mk_198 : mwe 198 = true := by decide +kernel
set_option maxRecDepth 20000 in
theorem mk_199 : mwe 199 = true := by decide +kernel
set_option maxRecDepth 20000 in
theorem mk_200 : mwe 200 = true := by decide +kernel
set_option maxRecDepth 20000 in
theorem mk_201 : mwe 201 = true := by decide +kernel
set_option maxRecDepth 20000 in
theorem mk_202 : mwe 202 = true := by decide +kernel
set_option maxRecDepth 20000 in
theorem mk_203 : mwe 203 = true := by decide +kernel
set_option maxRecDepth 20000 in
theorem mk_204 : mwe 204 = true := by decide +kernel
set_option maxRecDepth 20000 in
theorem mk_205 : mwe 205 = true := by decide +kernel
set_option maxRecDepth 20000 in
theorem mk_206 : mwe 206 = true := by decide +kernel
set_option maxRecDepth 20000 in
theorem mk_207 : mwe 207 = true := by decide +kernel
set_option maxRecDepth 20000 in
theorem mk_208 : mwe 208 = true := by decide +kernel
set_option maxRecDepth 20000 in
theorem mk_209 : mwe 209 = true := by decide +kernel
set_option maxRecDepth 20000 in
theorem mk_210 : mwe 210 = true := by decide +kernel
set_option maxRecDepth 20000 in
theorem mk_211 : mwe 211 = true := by decide +kernel
set_option maxRecDepth 20000 in
theorem mk_212 : mwe 212 = true := by decide +kernel
set_option maxRecDepth 20000 in
theorem mk_213 : mwe 213 = true := by decide +kernel
set_option maxRecDepth 20000 in
theorem mk_214 : mwe 214 = true := by decide +kernel
set_option maxRecDepth 20000 in
theorem mk_215 : mwe 215 = true := by decide +kernel
set_option maxRecDepth 20000 in
theorem mk_216 : mwe 216 = true := by decide +kernel
set_option maxRecDepth 20000 in
theorem mk_217 : mwe 217 = true := by decide +kernel
theorem ckA_c0 : ∀ a, a < 0 → chkM a (mcl a).2.2.2 = true := fun a h => absurd h (Nat.not_lt_zero a)
theorem ckA_c20 : ∀ a, a < 20 → chkM a (mcl a).2.2.2 = true := (lt_s (lt_s (lt_s (lt_s (lt_s (lt_s (lt_s (lt_s (lt_s (lt_s (lt_s (lt_s (lt_s (lt_s (lt_s (lt_s (lt_s (lt_s (lt_s (lt_s ckA_c0 ck_0) ck_1) ck_2) ck_3) ck_4) ck_5) ck_6) ck_7) ck_8) ck_9) ck_10) ck_11) ck_12) ck_13) ck_14) ck_15) ck_16) ck_17) ck_18) ck_19)
theorem ckA_c40 : ∀ a, a < 40 → chkM a (mcl a).2.2.2 = true := (lt_s (lt_s (lt_s (lt_s (lt_s (lt_s (lt_s (lt_s (lt_s (lt_s (lt_s (lt_s (lt_s (lt_s (lt_s (lt_s (lt_s (lt_s (lt_s (lt_s ckA_c20 ck_20) ck_21) ck_22) ck_23) ck_24) ck_25) ck_26) ck_27) ck_28) ck_29) ck_30) ck_31) ck_32) ck_33) ck_34) ck_35) ck_36) ck_37) ck_38) ck_39)
theorem ckA_c60 : ∀ a, a < 60 → chkM a (mcl a).2.2.2 = true := (lt_s (lt_s (lt_s (lt_s (lt_s (lt_s (lt_s (lt_s (lt_s (lt_s (lt_s (lt_s (lt_s (lt_s (lt_s (lt_s (lt_s (lt_s (lt_s (lt_s ckA_c40 ck_40) ck_41) ck_42) ck_43) ck_44) ck_45) ck_46) ck_47) ck_48) ck_49) ck_50) ck_51) ck_52) ck_53) ck_54) ck_55) ck_56) ck_57) ck_58) ck_59)
theorem ckA_c80 : ∀ a, a < 80 → chkM a (mcl a).2.2.2 = true := (lt_s (lt_s (lt_s (lt_s (lt_s (lt_s (lt_s (lt_s (lt_s (lt_s (lt_s (lt_s (lt_s (lt_s (lt_s (lt_s (lt_s (lt_s (lt_s (lt_s ckA_c60 ck_60) ck_61) ck_62) ck_63) ck_64) ck_65) ck_66) ck_67) ck_68) ck_69) ck_70) ck_71) ck_72) ck_73) ck_74) ck_75) ck_76) ck_77) ck_78) ck_79)
theorem ckA_c100 : ∀ a, a < 100 → chkM a (mcl a).2.2.2 = true := (lt_s (lt_s (lt_s (lt_s (lt_s (lt_s (lt_s (lt_s (lt_s (lt_s (lt_s (lt_s (lt_s (lt_s (lt_s (lt_s (lt_s (lt_s (lt_s (lt_s ckA_c80 ck_80) ck_81) ck_82) ck_83) ck_84) ck_85) ck_86) ck_87) ck_88) ck_89) ck_90) ck_91) ck_92) ck_93) ck_94) ck_95) ck_96) ck_97) ck_98) ck_99)
theorem ckA_c120 : ∀ a, a < 120 → chkM a (mcl a).2.2.2 = true := (lt_s (lt_s (lt_s (lt_s (lt_s (lt_s (lt_s (lt_s (lt_s (lt_s (lt_s (lt_s (lt_s (lt_s (lt_s (lt_s (lt_s (lt_s (lt_s (lt_s ckA_c100 ck_100) ck_101) ck_102) ck_103) ck_104) ck_105) ck_106) ck_107) ck_108) ck_109) ck_110) ck_111) ck_112) ck_113) ck_114) ck_115) ck_116) ck_117) ck_118) ck_119)
theorem ckA_c140 : ∀ a, a < 140 → chkM a (mcl a).2.2.2 = true := (lt_s (lt_s (lt_s (lt_s (lt_s (lt_s (lt_s (lt_s (lt_s (lt_s (lt_s (lt_s (lt_s (lt_s (lt_s (lt_s (lt_s (lt_s (lt_s (lt_s ckA_c120 ck_120) ck_121) ck_122) ck_123) ck_124) ck_125) ck_126) ck_127) ck_128) ck_129) ck_130) ck_131) ck_132) ck_133) ck_134) ck_135) ck_136) ck_137) ck_138) ck_139)
theorem ckA_c160 : ∀ a, a < 160 → chkM a (mcl a).2.2.2 = true := (lt_s (lt_s (lt_s (lt_s (lt_s (lt_s (lt_s (lt_s (lt_s (lt_s (lt_s (lt_s (lt_s (lt_s (lt_s (lt_s (lt_s (lt_s (lt_s (lt_s ckA_c140 ck_140) ck_141) ck_142) ck_143) ck_144) ck_145) ck_146) ck_147) ck_148) ck_149) ck_150) ck_151) ck_152) ck_153) ck_154) ck_155) ck_156) ck_157) ck_158) ck_159)
theorem ckA_c180 : ∀ a, a < 180 → chkM a (mcl a).2.2.2 = true := (lt_s (lt_s (lt_s (lt_s (lt_s (lt_s (lt_s (lt_s (lt_s (lt_s (lt_s (lt_s (lt_s (lt_s (lt_s (lt_s (lt_s (lt_s (lt_s (lt_s ckA_c160 ck_160) ck_161) ck_162) ck_163) ck_164) ck_165) ck_166) ck_167) ck_168) ck_169) ck_170) ck_171) ck_172) ck_173) ck_174) ck_175) ck_176) ck_177) ck_178) ck_179)
theorem ckA_c200 : ∀ a, a < 200 → chkM a (mcl a).2.2.2 = true := (lt_s (lt_s (lt_s (lt_s (lt_s (lt_s (lt_s (lt_s (lt_s (lt_s (lt_s (lt_s (lt_s (lt_s (lt_s (lt_s (lt_s (lt_s (lt_s (lt_s ckA_c180 ck_180) ck_181) ck_182) ck_183) ck_184) ck_185) ck_186) ck_187) ck_188) ck_189) ck_190) ck_191) ck_192) ck_193) ck_194) ck_195) ck_196) ck_197) ck_198) ck_199)
theorem ckA_c218 : ∀ a, a < 218 → chkM a (mcl a).2.2.2 = true := (lt_s (lt_s (lt_s (lt_s (lt_s (lt_s (lt_s (lt_s (lt_s (lt_s (lt_s (lt_s (lt_s (lt_s (lt_s (lt_s (lt_s (lt_s ckA_c200 ck_200) ck_201) ck_202) ck_203) ck_204) ck_205) ck_206) ck_207) ck_208) ck_209) ck_210) ck_211) ck_212) ck_213) ck_214) ck_215) ck_216) ck_217)
theorem meA_c0 : ∀ a, a < 0 → mwe a = true := fun a h => absurd h (Nat.not_lt_zero a)
theorem meA_c20 : ∀ a, a < 20 → mwe a = true := (lt_s (lt_s (lt_s (lt_s (lt_s (lt_s (lt_s (lt_s (lt_s (lt_s (lt_s (lt_s (lt_s (lt_s (lt_s (lt_s (lt_s (lt_s (lt_s (lt_s meA_c0 mk_0) mk_1) mk_2) mk_3) mk_4) mk_5) mk_6) mk_7) mk_8) mk_9) mk_10) mk_11) mk_12) mk_13) mk_14) mk_15) mk_16) mk_17) mk_18) mk_19)
theorem meA_c40 : ∀ a, a < 40 → mwe a = true := (lt_s (lt_s (lt_s (lt_s (lt_s (lt_s (lt_s (lt_s (lt_s (lt_s (lt_s (lt_s (lt_s (lt_s (lt_s (lt_s (lt_s (lt_s (lt_s (lt_s meA_c20 mk_20) mk_21) mk_22) mk_23) mk_24) mk_25) mk_26) mk_27) mk_28) mk_29) mk_30) mk_31) mk_32) mk_33) mk_34) mk_35) mk_36) mk_37) mk_38) mk_39)
theorem meA_c60 : ∀ a, a < 60 → mwe a = true := (lt_s (lt_s (lt_s (lt_s (lt_s (lt_s (lt_s (lt_s (lt_s (lt_s (lt_s (lt_s (lt_s (lt_s (lt_s (lt_s (lt_s (lt_s (lt_s (lt_s meA_c40 mk_40) mk_41) mk_42) mk_43) mk_44) mk_45) mk_46) mk_47) mk_48) mk_49) mk_50) mk_51) mk_52) mk_53) mk_54) mk_55) mk_56) mk_57) mk_58) mk_59)
theorem meA_c80 : ∀ a, a < 80 → mwe a = true := (lt_s (lt_s (lt_s (lt_s (lt_s (lt_s (lt_s (lt_s (lt_s (lt_s (lt_s (lt_s (lt_s (lt_s (lt_s (lt_s (lt_s (lt_s (lt_s (lt_s meA_c60 mk_60) mk_61) mk_62) mk_63) mk_64) mk_65) mk_66) mk_67) mk_68) mk_69) mk_70) mk_71) mk_72) mk_73) mk_74) mk_75) mk_76) mk_77) mk_78) mk_79)
theorem meA_c100 : ∀ a, a < 100 → mwe a = true := (lt_s (lt_s (lt_s (lt_s (lt_s (lt_s (lt_s (lt_s (lt_s (lt_s (lt_s (lt_s (lt_s (lt_s (lt_s (lt_s (lt_s (lt_s (lt_s (lt_s meA_c80 mk_80) mk_81) mk_82) mk_83) mk_84) mk_85) mk_86) mk_87) mk_88) mk_89) mk_90) mk_91) mk_92) mk_93) mk_94) mk_95) mk_96) mk_97) mk_98) mk_99)
theorem meA_c120 : ∀ a, a < 120 → mwe a = true := (lt_s (lt_s (lt_s (lt_s (lt_s (lt_s (lt_s (lt_s (lt_s (lt_s (lt_s (lt_s (lt_s (lt_s (lt_s (lt_s (lt_s (lt_s (lt_s (lt_s meA_c100 mk_100) mk_101) mk_102) mk_103) mk_104) mk_105) mk_106) mk_107) mk_108) mk_109) mk_110) mk_111) mk_112) mk_113) mk_114) mk_115) mk_116) mk_117) mk_118) mk_119)
theorem meA_c140 : ∀ a, a < 140 → mwe a = true := (lt_s (lt_s (lt_s (lt_s (lt_s (lt_s (lt_s (lt_s (lt_s (lt_s (lt_s (lt_s (lt_s (lt_s (lt_s (lt_s (lt_s (lt_s (lt_s (lt_s meA_c120 mk_120) mk_121) mk_122) mk_123) mk_124) mk_125) mk_126) mk_127) mk_128) mk_129) mk_130) mk_131) mk_132) mk_133) mk_134) mk_135) mk_136) mk_137) mk_138) mk_139)
theorem meA_c160 : ∀ a, a < 160 → mwe a = true := (lt_s (lt_s (lt_s (lt_s (lt_s (lt_s (lt_s (lt_s (lt_s (lt_s (lt_s (lt_s (lt_s (lt_s (lt_s (lt_s (lt_s (lt_s (lt_s (lt_s meA_c140 mk_140) mk_141) mk_142) mk_143) mk_144) mk_145) mk_146) mk_147) mk_148) mk_149) mk_150) mk_151) mk_152) mk_153) mk_154) mk_155) mk_156) mk_157) mk_158) mk_159)
theorem meA_c180 : ∀ a, a < 180 → mwe a = true := (lt_s (lt_s (lt_s (lt_s (lt_s (lt_s (lt_s (lt_s (lt_s (lt_s (lt_s (lt_s (lt_s (lt_s (lt_s (lt_s (lt_s (lt_s (lt_s (lt_s meA_c160 mk_160) mk_161) mk_162) mk_163) mk_164) mk_165) mk_166) mk_167) mk_168) mk_169) mk_170) mk_171) mk_172) mk_173) mk_174) mk_175) mk_176) mk_177) mk_178) mk_179)
theorem meA_c200 : ∀ a, a < 200 → mwe a = true := (lt_s (lt_s (lt_s (lt_s (lt_s (lt_s (lt_s (lt_s (lt_s (lt_s (lt_s (lt_s (lt_s (lt_s (lt_s (lt_s (lt_s (lt_s (lt_s (lt_s meA_c180 mk_180) mk_181) mk_182) mk_183) mk_184) mk_185) mk_186) mk_187) mk_188) mk_189) mk_190) mk_191) mk_192) mk_193) mk_194) mk_195) mk_196) mk_197) mk_198) mk_199)
theorem meA_c218 : ∀ a, a < 218 → mwe a = true := (lt_s (lt_s (lt_s (lt_s (lt_s (lt_s (lt_s (lt_s (lt_s (lt_s (lt_s (lt_s (lt_s (lt_s (lt_s (lt_s (lt_s (lt_s meA_c200 mk_200) mk_201) mk_202) mk_203) mk_204) mk_205) mk_206) mk_207) mk_208) mk_209) mk_210) mk_211) mk_212) mk_213) mk_214) mk_215) mk_216) mk_217)
theorem mkA_c218 {x : Nat} (hx : x < 218) {k : Nat} (h : (mws_.getD x []).length = k + 1) : mwk x = true := by
  have h1 := meA_c218 x hx
  unfold mwe at h1
  cases hq : mws_.getD x [] with
  | nil => rw [hq] at h; cases h
  | cons a l => rw [hq] at h1; exact h1
theorem meA_no {x : Nat} (hx : x < 218) (h : mws_.getD x [] = []) : tbs_.getD x [] = [] := by
  have h1 := meA_c218 x hx
  unfold mwe at h1
  rw [h] at h1
  exact List.isEmpty_iff.mp h1
