set_option maxRecDepth 20000 in
theorem ck_128 : chkM 128 none = true := by decide +kernel
set_option maxRecDepth 20000 in
theorem ck129r_0 : chkR 129 0 (some .boolean) = true := by decide +kernel
set_option maxRecDepth 20000 in
theorem ck129r_1 : chkR 129 1 (some .boolean) = true := by decide +kernel
set_option maxRecDepth 20000 in
theorem ck129r_2 : chkR 129 2 (some .boolean) = true := by decide +kernel
set_option maxRecDepth 20000 in
theorem ck129r_3 : chkR 129 3 (some .boolean) = true := by decide +kernel
set_option maxRecDepth 20000 in
theorem ck129r_4 : chkR 129 4 (some .boolean) = true := by decide +kernel
set_option maxRecDepth 20000 in
theorem ck129r_5 : chkR 129 5 (some .boolean) = true := by decide +kernel
set_option maxRecDepth 20000 in
theorem ck129r_6 : chkR 129 6 (some .boolean) = true := by decide +kernel
set_option maxRecDepth 20000 in
theorem ck129r_7 : chkR 129 7 (some .boolean) = true := by decide +kernel
set_option maxRecDepth 20000 in
theorem ck129r_8 : chkR 129 8 (some .boolean) = true := by decide +kernel
set_option maxRecDepth 20000 in
theorem ck129r_9 : chkR 129 9 (some .boolean) = true := by decide +kernel
set_option maxRecDepth 20000 in
theorem ck129r_10 : chkR 129 10 (some .boolean) = true := by decide +kernel
set_option maxRecDepth 20000 in
theorem ck129r_11 : chkR 129 11 (some .boolean) = true := by decide +kernel
set_option maxRecDepth 20000 in
theorem ck129r_12 : chkR 129 12 (some .boolean) = true := by decide +kernel
set_option maxRecDepth 20000 in
theorem ck129r_13 : chkR 129 13 (some .boolean) = true := by decide +kernel
set_option maxRecDepth 20000 in
theorem ck129r_14 : chkR 129 14 (some .boolean) = true := by decide +kernel
set_option maxRecDepth 20000 in
theorem ck129r_15 : chkR 129 15 (some .boolean) = true := by decide +kernel
set_option maxRecDepth 20000 in
theorem ck129r_16 : chkR 129 16 (some .boolean) = true := by decide +kernel
set_option maxRecDepth 20000 in
theorem ck129r_17 : chkR 129 17 (some .boolean) = true := by decide +kernel
set_option maxRecDepth 20000 in
theorem ck129r_18 : chkR 129 18 (some .boolean) = true := by decide +kernel
set_option maxRecDepth 20000 in
theorem ck129r_19 : chkR 129 19 (some .boolean) = true := by decide +kernel
set_option maxRecDepth 20000 in
theorem ck129r_20 : chkR 129 20 (some .boolean) = true := by decide +kernel
set_option maxRecDepth 20000 in
theorem ck129r_21 : chkR 129 21 (some .boolean) = true := by decide +kernel
set_option maxRecDepth 20000 in
theorem ck129r_22 : chkR 129 22 (some .boolean) = true := by decide +kernel
set_option maxRecDepth 20000 in
theorem ck129r_23 : chkR 129 23 (some .boolean) = true := by decide +kernel
set_option maxRecDepth 20000 in
theorem ck129r_24 : chkR 129 24 (some .boolean) = true := by decide +kernel
set_option maxRecDepth 20000 in
theorem ck129r_25 : chkR 129 25 (some .boolean) = true := by decide +kernel
set_option maxRecDepth 20000 in
theorem ck129r_26 : chkR 129 26 (some .boolean) = true := by decide +kernel
set_option maxRecDepth 20000 in
theorem ck129r_27 : chkR 129 27 (some .boolean) = true := by decide +kernel
set_option maxRecDepth 20000 in
theorem ck129r_28 : chkR 129 28 (some .boolean) = true := by decide +kernel
set_option maxRecDepth 20000 in
theorem ck129r_29 : chkR 129 29 (some .boolean) = true := by decide +kernel
set_option maxRecDepth 20000 in
theorem ck129rw_0 : ∀ a, a < 0 → chkR 129 a (some .boolean) = true := fun a h => absurd h (Nat.not_lt_zero a)
set_option maxRecDepth 20000 in
theorem ck129rw_1 : ∀ a, a < 1 → chkR 129 a (some .boolean) = true := lt_s ck129rw_0 ck129r_0
set_option maxRecDepth 20000 in
theorem ck129rw_2 : ∀ a, a < 2 → chkR 129 a (some .boolean) = true := lt_s ck129rw_1 ck129r_1
set_option maxRecDepth 20000 in
theorem ck129rw_3 : ∀ a, a < 3 → chkR 129 a (some .boolean) = true := lt_s ck129rw_2 ck129r_2
set_option maxRecDepth 20000 in
theorem ck129rw_4 : ∀ a, a < 4 → chkR 129 a (some .boolean) = true := lt_s ck129rw_3 ck129r_3
set_option maxRecDepth 20000 in
theorem ck129rw_5 : ∀ a, a < 5 → chkR 129 a (some .boolean) = true := lt_s ck129rw_4 ck129r_4
set_option maxRecDepth 20000 in
theorem ck129rw_6 : ∀ a, a < 6 → chkR 129 a (some .boolean) = true := lt_s ck129rw_5 ck129r_5
set_option maxRecDepth 20000 in
theorem ck129rw_7 : ∀ a, a < 7 → chkR 129 a (some .boolean) = true := lt_s ck129rw_6 ck129r_6
set_option maxRecDepth 20000 in
theorem ck129rw_8 : ∀ a, a < 8 → chkR 129 a (some .boolean) = true := lt_s ck129rw_7 ck129r_7
set_option maxRecDepth 20000 in
theorem ck129rw_9 : ∀ a, a < 9 → chkR 129 a (some .boolean) = true := lt_s ck129rw_8 ck129r_8
set_option maxRecDepth 20000 in
theorem ck129rw_10 : ∀ a, a < 10 → chkR 129 a (some .boolean) = true := lt_s ck129rw_9 ck129r_9
set_option maxRecDepth 20000 in
theorem ck129rw_11 : ∀ a, a < 11 → chkR 129 a (some .boolean) = true := lt_s ck129rw_10 ck129r_10
set_option maxRecDepth 20000 in
theorem ck129rw_12 : ∀ a, a < 12 → chkR 129 a (some .boolean) = true := lt_s ck129rw_11 ck129r_11
set_option maxRecDepth 20000 in
theorem ck129rw_13 : ∀ a, a < 13 → chkR 129 a (some .boolean) = true := lt_s ck129rw_12 ck129r_12
set_option maxRecDepth 20000 in
theorem ck129rw_14 : ∀ a, a < 14 → chkR 129 a (some .boolean) = true := lt_s ck129rw_13 ck129r_13
set_option maxRecDepth 20000 in
theorem ck129rw_15 : ∀ a, a < 15 → chkR 129 a (some .boolean) = true := lt_s ck129rw_14 ck129r_14
set_option maxRecDepth 20000 in
theorem ck129rw_16 : ∀ a, a < 16 → chkR 129 a (some .boolean) = true := lt_s ck129rw_15 ck129r_15
set_option maxRecDepth 20000 in
theorem ck129rw_17 : ∀ a, a < 17 → chkR 129 a (some .boolean) = true := lt_s ck129rw_16 ck129r_16
set_option maxRecDepth 20000 in
theorem ck129rw_18 : ∀ a, a < 18 → chkR 129 a (some .boolean) = true := lt_s ck129rw_17 ck129r_17
set_option maxRecDepth 20000 in
theorem ck129rw_19 : ∀ a, a < 19 → chkR 129 a (some .boolean) = true := lt_s ck129rw_18 ck129r_18
set_option maxRecDepth 20000 in
theorem ck129rw_20 : ∀ a, a < 20 → chkR 129 a (some .boolean) = true := lt_s ck129rw_19 ck129r_19
set_option maxRecDepth 20000 in
theorem ck129rw_21 : ∀ a, a < 21 → chkR 129 a (some .boolean) = true := lt_s ck129rw_20 ck129r_20
set_option maxRecDepth 20000 in
theorem ck129rw_22 : ∀ a, a < 22 → chkR 129 a (some .boolean) = true := lt_s ck129rw_21 ck129r_21
set_option maxRecDepth 20000 in
theorem ck129rw_23 : ∀ a, a < 23 → chkR 129 a (some .boolean) = true := lt_s ck129rw_22 ck129r_22
set_option maxRecDepth 20000 in
theorem ck129rw_24 : ∀ a, a < 24 → chkR 129 a (some .boolean) = true := lt_s ck129rw_23 ck129r_23
set_option maxRecDepth 20000 in
theorem ck129rw_25 : ∀ a, a < 25 → chkR 129 a (some .boolean) = true := lt_s ck129rw_24 ck129r_24
set_option maxRecDepth 20000 in
theorem ck129rw_26 : ∀ a, a < 26 → chkR 129 a (some .boolean) = true := lt_s ck129rw_25 ck129r_25
set_option maxRecDepth 20000 in
theorem ck129rw_27 : ∀ a, a < 27 → chkR 129 a (some .boolean) = true := lt_s ck129rw_26 ck129r_26
set_option maxRecDepth 20000 in
theorem ck129rw_28 : ∀ a, a < 28 → chkR 129 a (some .boolean) = true := lt_s ck129rw_27 ck129r_27
set_option maxRecDepth 20000 in
theorem ck129rw_29 : ∀ a, a < 29 → chkR 129 a (some .boolean) = true := lt_s ck129rw_28 ck129r_28
set_option maxRecDepth 20000 in
theorem ck129rw_30 : ∀ a, a < 30 → chkR 129 a (some .boolean) = true := lt_s ck129rw_29 ck129r_29
set_option maxRecDepth 20000 in
theorem ck_129 : chkM 129 (some .boolean) = true := chkR_all (n := 30) (by decide +kernel) ck129rw_30
set_option maxRecDepth 20000 in
theorem ck_130 : chkM 130 none = true := by decide +kernel
set_option maxRecDepth 20000 in
theorem ck_131 : chkM 131 (some .int) = true := by decide +kernel
set_option maxRecDepth 20000 in
theorem ck132r_0 : chkR 132 0 none = true := by decide +kernel
set_option maxRecDepth 20000 in
theorem ck132r_1 : chkR 132 1 none = true := by decide +kernel
set_option maxRecDepth 20000 in
theorem ck132r_2 : chkR 132 2 none = true := by decide +kernel
set_option maxRecDepth 20000 in
theorem ck132r_3 : chkR 132 3 none = true := by decide +kernel
set_option maxRecDepth 20000 in
theorem ck132r_4 : chkR 132 4 none = true := by decide +kernel
set_option maxRecDepth 20000 in
theorem ck132r_5 : chkR 132 5 none = true := by decide +kernel
set_option maxRecDepth 20000 in
theorem ck132r_6 : chkR 132 6 none = true := by decide +kernel
set_option maxRecDepth 20000 in
theorem ck132r_7 : chkR 132 7 none = true := by decide +kernel
set_option maxRecDepth 20000 in
theorem ck132r_8 : chkR 132 8 none = true := by decide +kernel
set_option maxRecDepth 20000 in
theorem ck132r_9 : chkR 132 9 none = true := by decide +kernel
set_option maxRecDepth 20000 in
theorem ck132r_10 : chkR 132 10 none = true := by decide +kernel
set_option maxRecDepth 20000 in
theorem ck132r_11 : chkR 132 11 none = true := by decide +kernel
set_option maxRecDepth 20000 in
theorem ck132r_12 : chkR 132 12 none = true := by decide +kernel
set_option maxRecDepth 20000 in
theorem ck132rw_0 : ∀ a, a < 0 → chkR 132 a none = true := fun a h => absurd h (Nat.not_lt_zero a)
set_option maxRecDepth 20000 in
theorem ck132rw_1 : ∀ a, a < 1 → chkR 132 a none = true := lt_s ck132rw_0 ck132r_0
set_option maxRecDepth 20000 in
theorem ck132rw_2 : ∀ a, a < 2 → chkR 132 a none = true := lt_s ck132rw_1 ck132r_1
set_option maxRecDepth 20000 in
theorem ck132rw_3 : ∀ a, a < 3 → chkR 132 a none = true := lt_s ck132rw_2 ck132r_2
set_option maxRecDepth 20000 in
theorem ck132rw_4 : ∀ a, a < 4 → chkR 132 a none = true := lt_s ck132rw_3 ck132r_3
set_option maxRecDepth 20000 in
theorem ck132rw_5 : ∀ a, a < 5 → chkR 132 a none = true := lt_s ck132rw_4 ck132r_4
set_option maxRecDepth 20000 in
theorem ck132rw_6 : ∀ a, a < 6 → chkR 132 a none = true := lt_s ck132rw_5 ck132r_5
set_option maxRecDepth 20000 in
theorem ck132rw_7 : ∀ a, a < 7 → chkR 132 a none = true := lt_s ck132rw_6 ck132r_6
set_option maxRecDepth 20000 in
theorem ck132rw_8 : ∀ a, a < 8 → chkR 132 a none = true := lt_s ck132rw_7 ck132r_7
set_option maxRecDepth 20000 in
theorem ck132rw_9 : ∀ a, a < 9 → chkR 132 a none = true := lt_s ck132rw_8 ck132r_8
set_option maxRecDepth 20000 in
theorem ck132rw_10 : ∀ a, a < 10 → chkR 132 a none = true := lt_s ck132rw_9 ck132r_9
set_option maxRecDepth 20000 in
theorem ck132rw_11 : ∀ a, a < 11 → chkR 132 a none = true := lt_s ck132rw_10 ck132r_10
set_option maxRecDepth 20000 in
theorem ck132rw_12 : ∀ a, a < 12 → chkR 132 a none = true := lt_s ck132rw_11 ck132r_11
set_option maxRecDepth 20000 in
theorem ck132rw_13 : ∀ a, a < 13 → chkR 132 a none = true := lt_s ck132rw_12 ck132r_12
set_option maxRecDepth 20000 in
theorem ck_132 : chkM 132 none = true := chkR_all (n := 13) (by decide +kernel) ck132rw_13
set_option maxRecDepth 20000 in
theorem ck_133 : chkM 133 (some .int) = true := by decide +kernel
set_option maxRecDepth 20000 in
theorem ck_134 : chkM 134 (some .boolean) = true := by decide +kernel
set_option maxRecDepth 20000 in
theorem ck_135 : chkM 135 none = true := by decide +kernel
set_option maxRecDepth 20000 in
theorem ck_136 : chkM 136 none = true := by decide +kernel
set_option maxRecDepth 20000 in
theorem ck_137 : chkM 137 none = true := by decide +kernel
set_option maxRecDepth 20000 in
theorem ck_138 : chkM 138 none = true := by decide +kernel
set_option maxRecDepth 20000 in
theorem ck_139 : chkM 139 none = true := by decide +kernel
set_option maxRecDepth 20000 in
theorem ck_140 : chkM 140 none = true := by decide +kernel
set_option maxRecDepth 20000 in
theorem ck_141 : chkM 141 none = true := by decide +kernel
set_option maxRecDepth 20000 in
theorem ck_142 : chkM 142 none = true := by decide +kernel
set_option maxRecDepth 20000 in
theorem ck_143 : chkM 143 none = true := by decide +kernel
set_option maxRecDepth 20000 in
theorem ck_144 : chkM 144 none = true := by decide +kernel
set_option maxRecDepth 20000 in
theorem ck_145 : chkM 145 none = true := by decide +kernel
set_option maxRecDepth 20000 in
theorem ck_146 : chkM 146 none = true := by decide +kernel
set_option maxRecDepth 20000 in
theorem ck_147 : chkM 147 none = true := by decide +kernel
set_option maxRecDepth 20000 in
theorem ck_148 : chkM 148 none = true := by decide +kernel
set_option maxRecDepth 20000 in
theorem ck_149 : chkM 149 none = true := by decide +kernel
set_option maxRecDepth 20000 in
theorem ck_150 : chkM 150 none = true := by decide +kernel
set_option maxRecDepth 20000 in
theorem ck_151 : chkM 151 none = true := by decide +kernel
set_option maxRecDepth 20000 in
theorem ck_152 : chkM 152 none = true := by decide +kernel
set_option maxRecDepth 20000 in
theorem ck_153 : chkM 153 none = true := by decide +kernel
set_option maxRecDepth 20000 in
theorem ck_154 : chkM 154 none = true := by decide +kernel
set_option maxRecDepth 20000 in
theorem ck_155 : chkM 155 none = true := by decide +kernel
set_option maxRecDepth 20000 in
theorem ck_156 : chkM 156 none = true := by decide +kernel
set_option maxRecDepth 20000 in
theorem ck_157 : chkM 157 none = true := by decide +kernel
set_option maxRecDepth 20000 in
theorem ck_158 : chkM 158 none = true := by decide +kernel
set_option maxRecDepth 20000 in
theorem ck_159 : chkM 159 none = true := by decide +kernel
set_option maxRecDepth 20000 in
theorem ck_160 : chkM 160 none = true := by decide +kernel
set_option maxRecDepth 20000 in
theorem ck_161 : chkM 161 none = true := by decide +kernel
set_option maxRecDepth 20000 in
theorem ck_162 : chkM 162 none = true := by decide +kernel
set_option maxRecDepth 20000 in
theorem ck_163 : chkM 163 none = true := by decide +kernel
set_option maxRecDepth 20000 in
theorem ck_164 : chkM 164 none = true := by decide +kernel
set_option maxRecDepth 20000 in
theorem ck_165 : chkM 165 none = true := by decide +kernel
set_option maxRecDepth 20000 in
theorem ck_166 : chkM 166 none = true := by decide +kernel
set_option maxRecDepth 20000 in
theorem ck_167 : chkM 167 none = true := by decide +kernel
set_option maxRecDepth 20000 in
theorem ck_168 : chkM 168 none = true := by decide +kernel
set_option maxRecDepth 20000 in
theorem ck_169 : chkM 169 none = true := by decide +kernel
set_option maxRecDepth 20000 in
theorem ck_170 : chkM 170 none = true := by decide +kernel
set_option maxRecDepth 20000 in
theorem ck_171 : chkM 171 none = true := by decide +kernel
set_option maxRecDepth 20000 in
theorem ck_172 : chkM 172 none = true := by decide +kernel
set_option maxRecDepth 20000 in
theorem ck_173 : chkM 173 none = true := by decide +kernel
set_option maxRecDepth 20000 in
theorem ck_174 : chkM 174 none = true := by decide +kernel
set_option maxRecDepth 20000 in
theorem ck_175 : chkM 175 none = true := by decide +kernel
set_option maxRecDepth 20000 in
theorem ck_176 : chkM 176 none = true := by decide +kernel
set_option maxRecDepth 20000 in
theorem ck_177 : chkM 177 none = true := by decide +kernel
set_option maxRecDepth 20000 in
theorem ck_178 : chkM 178 none = true := by decide +kernel
set_option maxRecDepth 20000 in
theorem ck_179 : chkM 179 none = true := by decide +kernel
set_option maxRecDepth 20000 in
theorem ck_180 : chkM 180 none = true := by decide +kernel
set_option maxRecDepth 20000 in
theorem ck_181 : chkM 181 none = true := by decide +kernel
set_option maxRecDepth 20000 in
theorem ck_182 : chkM 182 none = true := by decide +kernel
set_option maxRecDepth 20000 in
theorem ck_183 : chkM 183 none = true := by decide +kernel
set_option maxRecDepth 20000 in
theorem ck_184 : chkM 184 none = true := by decide +kernel
set_option maxRecDepth 20000 in
theorem ck_185 : chkM 185 none = true := by decide +kernel
set_option maxRecDepth 20000 in
theorem ck_186 : chkM 186 none = true := by decide +kernel
set_option maxRecDepth 20000 in
theorem ck_187 : chkM 187 none = true := by decide +kernel
set_option maxRecDepth 20000 in
theorem ck_188 : chkM 188 none = true := by decide +kernel
set_option maxRecDepth 20000 in
theorem ck_189 : chkM 189 none = true := by decide +kernel
set_option maxRecDepth 20000 in
theorem ck_190 : chkM 190 none = true := by decide +kernel
set_option maxRecDepth 20000 in
theorem ck_191 : chkM 191 none = true := by decide +kernel
set_option maxRecDepth 20000 in
theorem ck_192 : chkM 192 none = true := by decide +kernel
set_option maxRecDepth 20000 in
theorem ck_193 : chkM 193 none = true := by decide +kernel
set_option maxRecDepth 20000 in
theorem ck_194 : chkM 194 none = true := by decide +kernel
set_option maxRecDepth 20000 in
theorem ck_195 : chkM 195 none = true := by decide +kernel
set_option maxRecDepth 20000 in
theorem ck_196 : chkM 196 none = true := by decide +kernel
set_option maxRecDepth 20000 in
theorem ck_197 : chkM 197 none = true := by decide +kernel
set_option maxRecDepth 20000 in
theorem ck_198 : chkM 198 none = true := by decide +kernel
set_option maxRecDepth 20000 in
theorem ck_199 : chkM 199 none = true := by decide +kernel
set_option maxRecDepth 20000 in
theorem ck_200 : chkM 200 none = true := by decide +kernel
set_option maxRecDepth 20000 in
theorem ck_201 : chkM 201 none = true := by decide +kernel
set_option maxRecDepth 20000 in
theorem ck_202 : chkM 202 none = true := by decide +kernel
set_option maxRecDepth 20000 in
theorem ck_203 : chkM 203 none = true := by decide +kernel
set_option maxRecDepth 20000 in
theorem ck_204 : chkM 204 none = true := by decide +kernel
set_option maxRecDepth 20000 in
theorem ck_205 : chkM 205 none = true := by decide +kernel
set_option maxRecDepth 20000 in
theorem ck_206 : chkM 206 none = true := by decide +kernel
set_option maxRecDepth 20000 in
theorem ck_207 : chkM 207 none = true := by decide +kernel
set_option maxRecDepth 20000 in
theorem ck_208 : chkM 208 none = true := by decide +kernel
set_option maxRecDepth 20000 in
theorem ck_209 : chkM 209 none = true := by decide +kernel
set_option maxRecDepth 20000 in
theorem ck_210 : chkM 210 none = true := by decide +kernel
set_option maxRecDepth 20000 in
theorem ck_211 : chkM 211 none = true := by decide +kernel
set_option maxRecDepth 20000 in
theorem ck_212 : chkM 212 none = true := by decide +kernel
set_option maxRecDepth 20000 in
theorem ck_213 : chkM 213 none = true := by decide +kernel
set_option maxRecDepth 20000 in
theorem ck_214 : chkM 214 none = true := by decide +kernel
set_option maxRecDepth 20000 in
theorem ck_215 : chkM 215 none = true := by decide +kernel
set_option maxRecDepth 20000 in
theorem ck_216 : chkM 216 none = true := by decide +kernel
set_option maxRecDepth 20000 in
theorem ck_217 : chkM 217 (some .int) = true := by decide +kernel
