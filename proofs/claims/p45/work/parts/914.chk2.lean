set_option maxRecDepth 20000 in
theorem ck_115 : chkM 115 none = true := by decide +kernel
set_option maxRecDepth 20000 in
theorem ck_116 : chkM 116 none = true := by decide +kernel
set_option maxRecDepth 20000 in
theorem ck_117 : chkM 117 none = true := by decide +kernel
set_option maxRecDepth 20000 in
theorem ck_118 : chkM 118 none = true := by decide +kernel
set_option maxRecDepth 20000 in
theorem ck_119 : chkM 119 none = true := by decide +kernel
set_option maxRecDepth 20000 in
theorem ck_120 : chkM 120 (some .int) = true := by decide +kernel
set_option maxRecDepth 20000 in
theorem ck_121 : chkM 121 (some .int) = true := by decide +kernel
set_option maxRecDepth 20000 in
theorem ck_122 : chkM 122 (some .int) = true := by decide +kernel
set_option maxRecDepth 20000 in
theorem ck_123 : chkM 123 none = true := by decide +kernel
set_option maxRecDepth 20000 in
theorem ck_124 : chkM 124 none = true := by decide +kernel
set_option maxRecDepth 20000 in
theorem ck_125 : chkM 125 (some .boolean) = true := by decide +kernel
set_option maxRecDepth 20000 in
theorem ck_126 : chkM 126 none = true := by decide +kernel
set_option maxRecDepth 20000 in
theorem ck_127 : chkM 127 (some .int) = true := by decide +kernel
