set_option maxRecDepth 20000 in
theorem ck_160 : chkM 160 none = true := by decide +kernel
set_option maxRecDepth 20000 in
theorem ck_161 : chkM 161 none = true := by decide +kernel
set_option maxRecDepth 20000 in
theorem ck_162 : chkM 162 none = true := by decide +kernel
set_option maxRecDepth 20000 in
theorem ck_163 : chkM 163 (some .int) = true := by decide +kernel
set_option maxRecDepth 20000 in
theorem ck_164 : chkM 164 (some .boolean) = true := by decide +kernel
set_option maxRecDepth 20000 in
theorem ck_165 : chkM 165 (some .int) = true := by decide +kernel
set_option maxRecDepth 20000 in
theorem ck_166 : chkM 166 (some .int) = true := by decide +kernel
set_option maxRecDepth 20000 in
theorem ck_167 : chkM 167 (some .int) = true := by decide +kernel
set_option maxRecDepth 20000 in
theorem ck_168 : chkM 168 (some .int) = true := by decide +kernel
set_option maxRecDepth 20000 in
theorem ck_169 : chkM 169 (some .int) = true := by decide +kernel
set_option maxRecDepth 20000 in
theorem ck_170 : chkM 170 (some .int) = true := by decide +kernel
set_option maxRecDepth 20000 in
theorem ck_171 : chkM 171 (some .int) = true := by decide +kernel
set_option maxRecDepth 20000 in
theorem ck_172 : chkM 172 (some .boolean) = true := by decide +kernel
set_option maxRecDepth 20000 in
theorem ck_173 : chkM 173 (some .int) = true := by decide +kernel
set_option maxRecDepth 20000 in
theorem ck_174 : chkM 174 (some .int) = true := by decide +kernel
set_option maxRecDepth 20000 in
theorem ck_175 : chkM 175 (some .int) = true := by decide +kernel
set_option maxRecDepth 20000 in
theorem ck_176 : chkM 176 (some .boolean) = true := by decide +kernel
set_option maxRecDepth 20000 in
theorem ck_177 : chkM 177 (some .int) = true := by decide +kernel
set_option maxRecDepth 20000 in
theorem ck_178 : chkM 178 none = true := by decide +kernel
set_option maxRecDepth 20000 in
theorem ck_179 : chkM 179 (some .boolean) = true := by decide +kernel
set_option maxRecDepth 20000 in
theorem ck_180 : chkM 180 (some .boolean) = true := by decide +kernel
set_option maxRecDepth 20000 in
theorem ck_181 : chkM 181 (some .boolean) = true := by decide +kernel
set_option maxRecDepth 20000 in
theorem ck_182 : chkM 182 (some .int) = true := by decide +kernel
set_option maxRecDepth 20000 in
theorem ck_183 : chkM 183 (some .int) = true := by decide +kernel
set_option maxRecDepth 20000 in
theorem ck_184 : chkM 184 (some .int) = true := by decide +kernel
set_option maxRecDepth 20000 in
theorem ck_185 : chkM 185 (some .int) = true := by decide +kernel
set_option maxRecDepth 20000 in
theorem ck_186 : chkM 186 (some .boolean) = true := by decide +kernel
set_option maxRecDepth 20000 in
theorem ck_187 : chkM 187 (some .int) = true := by decide +kernel
set_option maxRecDepth 20000 in
theorem ck_188 : chkM 188 (some .int) = true := by decide +kernel
set_option maxRecDepth 20000 in
theorem ck_189 : chkM 189 (some .int) = true := by decide +kernel
set_option maxRecDepth 20000 in
theorem ck_190 : chkM 190 (some .int) = true := by decide +kernel
set_option maxRecDepth 20000 in
theorem ck_191 : chkM 191 (some .int) = true := by decide +kernel
set_option maxRecDepth 20000 in
theorem ck_192 : chkM 192 (some .int) = true := by decide +kernel
set_option maxRecDepth 20000 in
theorem ck_193 : chkM 193 (some .int) = true := by decide +kernel
set_option maxRecDepth 20000 in
theorem ck_194 : chkM 194 (some .int) = true := by decide +kernel
set_option maxRecDepth 20000 in
theorem ck_195 : chkM 195 (some .int) = true := by decide +kernel
set_option maxRecDepth 20000 in
theorem ck_196 : chkM 196 (some .int) = true := by decide +kernel
set_option maxRecDepth 20000 in
theorem ck_197 : chkM 197 (some .int) = true := by decide +kernel
set_option maxRecDepth 20000 in
theorem ck_198 : chkM 198 (some .int) = true := by decide +kernel
set_option maxRecDepth 20000 in
theorem ck_199 : chkM 199 (some .int) = true := by decide +kernel
set_option maxRecDepth 20000 in
theorem ck_200 : chkM 200 (some .int) = true := by decide +kernel
set_option maxRecDepth 20000 in
theorem ck_201 : chkM 201 (some .int) = true := by decide +kernel
set_option maxRecDepth 20000 in
theorem ck_202 : chkM 202 (some .int) = true := by decide +kernel
set_option maxRecDepth 20000 in
theorem ck_203 : chkM 203 (some .int) = true := by decide +kernel
set_option maxRecDepth 20000 in
theorem ck_204 : chkM 204 (some .int) = true := by decide +kernel
set_option maxRecDepth 20000 in
theorem ck_205 : chkM 205 (some .int) = true := by decide +kernel
set_option maxRecDepth 20000 in
theorem ck_206 : chkM 206 (some .int) = true := by decide +kernel
set_option maxRecDepth 20000 in
theorem ck_207 : chkM 207 (some .int) = true := by decide +kernel
set_option maxRecDepth 20000 in
theorem ck_208 : chkM 208 (some .int) = true := by decide +kernel
set_option maxRecDepth 20000 in
theorem ck_209 : chkM 209 (some .int) = true := by decide +kernel
set_option maxRecDepth 20000 in
theorem ck_210 : chkM 210 (some .int) = true := by decide +kernel
set_option maxRecDepth 20000 in
theorem ck_211 : chkM 211 (some .boolean) = true := by decide +kernel
set_option maxRecDepth 20000 in
theorem ck_212 : chkM 212 (some .int) = true := by decide +kernel
set_option maxRecDepth 20000 in
theorem ck_213 : chkM 213 (some .int) = true := by decide +kernel
set_option maxRecDepth 20000 in
theorem ck_214 : chkM 214 (some .int) = true := by decide +kernel
set_option maxRecDepth 20000 in
theorem ck_215 : chkM 215 (some .int) = true := by decide +kernel
set_option maxRecDepth 20000 in
theorem ck_216 : chkM 216 (some .int) = true := by decide +kernel
set_option maxRecDepth 20000 in
theorem ck_217 : chkM 217 (some .int) = true := by decide +kernel
