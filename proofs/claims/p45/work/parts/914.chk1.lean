set_option maxRecDepth 20000 in
theorem ck_55 : chkM 55 (some .boolean) = true := by decide +kernel
set_option maxRecDepth 20000 in
theorem ck_56 : chkM 56 (some .int) = true := by decide +kernel
set_option maxRecDepth 20000 in
theorem ck_57 : chkM 57 none = true := by decide +kernel
set_option maxRecDepth 20000 in
theorem ck_58 : chkM 58 (some .int) = true := by decide +kernel
set_option maxRecDepth 20000 in
theorem ck_59 : chkM 59 none = true := by decide +kernel
set_option maxRecDepth 20000 in
theorem ck_60 : chkM 60 none = true := by decide +kernel
set_option maxRecDepth 20000 in
theorem ck_61 : chkM 61 none = true := by decide +kernel
set_option maxRecDepth 20000 in
theorem ck_62 : chkM 62 none = true := by decide +kernel
set_option maxRecDepth 20000 in
theorem ck_63 : chkM 63 none = true := by decide +kernel
set_option maxRecDepth 20000 in
theorem ck_64 : chkM 64 none = true := by decide +kernel
set_option maxRecDepth 20000 in
theorem ck_65 : chkM 65 none = true := by decide +kernel
set_option maxRecDepth 20000 in
theorem ck_66 : chkM 66 none = true := by decide +kernel
set_option maxRecDepth 20000 in
theorem ck_67 : chkM 67 (some .int) = true := by decide +kernel
set_option maxRecDepth 20000 in
theorem ck_68 : chkM 68 (some .int) = true := by decide +kernel
set_option maxRecDepth 20000 in
theorem ck_69 : chkM 69 (some .int) = true := by decide +kernel
set_option maxRecDepth 20000 in
theorem ck_70 : chkM 70 none = true := by decide +kernel
set_option maxRecDepth 20000 in
theorem ck_71 : chkM 71 (some .int) = true := by decide +kernel
set_option maxRecDepth 20000 in
theorem ck_72 : chkM 72 (some .int) = true := by decide +kernel
set_option maxRecDepth 20000 in
theorem ck_73 : chkM 73 (some .int) = true := by decide +kernel
set_option maxRecDepth 20000 in
theorem ck_74 : chkM 74 (some .int) = true := by decide +kernel
set_option maxRecDepth 20000 in
theorem ck_75 : chkM 75 (some .int) = true := by decide +kernel
set_option maxRecDepth 20000 in
theorem ck_76 : chkM 76 (some .int) = true := by decide +kernel
set_option maxRecDepth 20000 in
theorem ck_77 : chkM 77 (some .int) = true := by decide +kernel
set_option maxRecDepth 20000 in
theorem ck_78 : chkM 78 (some .int) = true := by decide +kernel
set_option maxRecDepth 20000 in
theorem ck_79 : chkM 79 (some .int) = true := by decide +kernel
set_option maxRecDepth 20000 in
theorem ck_80 : chkM 80 (some .int) = true := by decide +kernel
set_option maxRecDepth 20000 in
theorem ck_81 : chkM 81 (some .int) = true := by decide +kernel
set_option maxRecDepth 20000 in
theorem ck_82 : chkM 82 (some .int) = true := by decide +kernel
set_option maxRecDepth 20000 in
theorem ck_83 : chkM 83 (some .int) = true := by decide +kernel
set_option maxRecDepth 20000 in
theorem ck_84 : chkM 84 (some .int) = true := by decide +kernel
set_option maxRecDepth 20000 in
theorem ck_85 : chkM 85 (some .int) = true := by decide +kernel
set_option maxRecDepth 20000 in
theorem ck_86 : chkM 86 none = true := by decide +kernel
set_option maxRecDepth 20000 in
theorem ck_87 : chkM 87 none = true := by decide +kernel
set_option maxRecDepth 20000 in
theorem ck_88 : chkM 88 none = true := by decide +kernel
set_option maxRecDepth 20000 in
theorem ck_89 : chkM 89 none = true := by decide +kernel
set_option maxRecDepth 20000 in
theorem ck_90 : chkM 90 none = true := by decide +kernel
set_option maxRecDepth 20000 in
theorem ck_91 : chkM 91 (some .int) = true := by decide +kernel
set_option maxRecDepth 20000 in
theorem ck_92 : chkM 92 none = true := by decide +kernel
set_option maxRecDepth 20000 in
theorem ck_93 : chkM 93 none = true := by decide +kernel
set_option maxRecDepth 20000 in
theorem ck_94 : chkM 94 none = true := by decide +kernel
set_option maxRecDepth 20000 in
theorem ck_95 : chkM 95 none = true := by decide +kernel
set_option maxRecDepth 20000 in
theorem ck_96 : chkM 96 (some .int) = true := by decide +kernel
set_option maxRecDepth 20000 in
theorem ck_97 : chkM 97 none = true := by decide +kernel
set_option maxRecDepth 20000 in
theorem ck_98 : chkM 98 none = true := by decide +kernel
set_option maxRecDepth 20000 in
theorem ck_99 : chkM 99 none = true := by decide +kernel
set_option maxRecDepth 20000 in
theorem ck_100 : chkM 100 none = true := by decide +kernel
set_option maxRecDepth 20000 in
theorem ck_101 : chkM 101 none = true := by decide +kernel
set_option maxRecDepth 20000 in
theorem ck_102 : chkM 102 (some .int) = true := by decide +kernel
set_option maxRecDepth 20000 in
theorem ck_103 : chkM 103 (some .int) = true := by decide +kernel
set_option maxRecDepth 20000 in
theorem ck_104 : chkM 104 none = true := by decide +kernel
set_option maxRecDepth 20000 in
theorem ck_105 : chkM 105 none = true := by decide +kernel
set_option maxRecDepth 20000 in
theorem ck_106 : chkM 106 none = true := by decide +kernel
set_option maxRecDepth 20000 in
theorem ck_107 : chkM 107 none = true := by decide +kernel
set_option maxRecDepth 20000 in
theorem ck_108 : chkM 108 (some .int) = true := by decide +kernel
set_option maxRecDepth 20000 in
theorem ck_109 : chkM 109 (some .boolean) = true := by decide +kernel
set_option maxRecDepth 20000 in
theorem ck_110 : chkM 110 (some .int) = true := by decide +kernel
set_option maxRecDepth 20000 in
theorem ck_111 : chkM 111 none = true := by decide +kernel
set_option maxRecDepth 20000 in
theorem ck_112 : chkM 112 none = true := by decide +kernel
set_option maxRecDepth 20000 in
theorem ck_113 : chkM 113 none = true := by decide +kernel
set_option maxRecDepth 20000 in
theorem ck_114 : chkM 114 none = true := by decide +kernel
