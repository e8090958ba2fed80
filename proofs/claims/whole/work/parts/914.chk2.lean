set_option maxRecDepth 20000 in
theorem ck_115 : chkM 115 (some .boolean) = true := by decide +kernel
set_option maxRecDepth 20000 in
theorem ck_116 : chkM 116 (some .int) = true := by decide +kernel
set_option maxRecDepth 20000 in
theorem ck_117 : chkM 117 (some .int) = true := by decide +kernel
set_option maxRecDepth 20000 in
theorem ck_118 : chkM 118 (some .int) = true := by decide +kernel
set_option maxRecDepth 20000 in
theorem ck_119 : chkM 119 (some .int) = true := by decide +kernel
set_option maxRecDepth 20000 in
theorem ck_120 : chkM 120 (some .int) = true := by decide +kernel
set_option maxRecDepth 20000 in
theorem ck_121 : chkM 121 (some .boolean) = true := by decide +kernel
set_option maxRecDepth 20000 in
theorem ck_122 : chkM 122 (some .int) = true := by decide +kernel
set_option maxRecDepth 20000 in
theorem ck_123 : chkM 123 (some .int) = true := by decide +kernel
set_option maxRecDepth 20000 in
theorem ck_124 : chkM 124 none = true := by decide +kernel
set_option maxRecDepth 20000 in
theorem ck_125 : chkM 125 none = true := by decide +kernel
set_option maxRecDepth 20000 in
theorem ck_126 : chkM 126 (some .int) = true := by decide +kernel
set_option maxRecDepth 20000 in
theorem ck_127 : chkM 127 (some .int) = true := by decide +kernel
set_option maxRecDepth 20000 in
theorem ck_128 : chkM 128 none = true := by decide +kernel
set_option maxRecDepth 20000 in
theorem ck_129 : chkM 129 (some .int) = true := by decide +kernel
set_option maxRecDepth 20000 in
theorem ck_130 : chkM 130 (some .boolean) = true := by decide +kernel
set_option maxRecDepth 20000 in
theorem ck_131 : chkM 131 (some .boolean) = true := by decide +kernel
set_option maxRecDepth 20000 in
theorem ck_132 : chkM 132 (some .int) = true := by decide +kernel
set_option maxRecDepth 20000 in
theorem ck_133 : chkM 133 (some .int) = true := by decide +kernel
set_option maxRecDepth 20000 in
theorem ck_134 : chkM 134 none = true := by decide +kernel
set_option maxRecDepth 20000 in
theorem ck_135 : chkM 135 (some .int) = true := by decide +kernel
set_option maxRecDepth 20000 in
theorem ck_136 : chkM 136 (some .int) = true := by decide +kernel
set_option maxRecDepth 20000 in
theorem ck_137 : chkM 137 none = true := by decide +kernel
set_option maxRecDepth 20000 in
theorem ck_138 : chkM 138 none = true := by decide +kernel
set_option maxRecDepth 20000 in
theorem ck_139 : chkM 139 none = true := by decide +kernel
set_option maxRecDepth 20000 in
theorem ck_140 : chkM 140 (some .int) = true := by decide +kernel
set_option maxRecDepth 20000 in
theorem ck_141 : chkM 141 (some .int) = true := by decide +kernel
set_option maxRecDepth 20000 in
theorem ck_142 : chkM 142 (some .boolean) = true := by decide +kernel
set_option maxRecDepth 20000 in
theorem ck_143 : chkM 143 (some .boolean) = true := by decide +kernel
set_option maxRecDepth 20000 in
theorem ck_144 : chkM 144 (some .boolean) = true := by decide +kernel
set_option maxRecDepth 20000 in
theorem ck_145 : chkM 145 (some .boolean) = true := by decide +kernel
set_option maxRecDepth 20000 in
theorem ck_146 : chkM 146 (some .int) = true := by decide +kernel
set_option maxRecDepth 20000 in
theorem ck_147 : chkM 147 (some .int) = true := by decide +kernel
set_option maxRecDepth 20000 in
theorem ck_148 : chkM 148 (some .int) = true := by decide +kernel
set_option maxRecDepth 20000 in
theorem ck_149 : chkM 149 (some .int) = true := by decide +kernel
set_option maxRecDepth 20000 in
theorem ck_150 : chkM 150 (some .int) = true := by decide +kernel
set_option maxRecDepth 20000 in
theorem ck_151 : chkM 151 (some .int) = true := by decide +kernel
set_option maxRecDepth 20000 in
theorem ck_152 : chkM 152 (some .int) = true := by decide +kernel
set_option maxRecDepth 20000 in
theorem ck_153 : chkM 153 none = true := by decide +kernel
set_option maxRecDepth 20000 in
theorem ck_154 : chkM 154 (some .boolean) = true := by decide +kernel
set_option maxRecDepth 20000 in
theorem ck_155 : chkM 155 (some .int) = true := by decide +kernel
set_option maxRecDepth 20000 in
theorem ck_156 : chkM 156 (some .int) = true := by decide +kernel
set_option maxRecDepth 20000 in
theorem ck_157 : chkM 157 (some .boolean) = true := by decide +kernel
set_option maxRecDepth 20000 in
theorem ck_158 : chkM 158 none = true := by decide +kernel
set_option maxRecDepth 20000 in
theorem ck_159 : chkM 159 none = true := by decide +kernel
