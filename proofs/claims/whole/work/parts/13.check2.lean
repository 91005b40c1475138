set_option maxRecDepth 100000 in
theorem ck_m65 : ck_m 65 = true := by decide +kernel
set_option maxRecDepth 100000 in
theorem ck_m66 : ck_m 66 = true := by decide +kernel
set_option maxRecDepth 100000 in
theorem ck_m67 : ck_m 67 = true := by decide +kernel
set_option maxRecDepth 100000 in
theorem ck_m68 : ck_m 68 = true := by decide +kernel
set_option maxRecDepth 100000 in
theorem ck_m69 : ck_m 69 = true := by decide +kernel
set_option maxRecDepth 100000 in
theorem ck_m70 : ck_m 70 = true := by decide +kernel
set_option maxRecDepth 100000 in
theorem ck_m71 : ck_m 71 = true := by decide +kernel
set_option maxRecDepth 100000 in
theorem ck_m72 : ck_m 72 = true := by decide +kernel
set_option maxRecDepth 100000 in
theorem ck_m73 : ck_m 73 = true := by decide +kernel
set_option maxRecDepth 100000 in
theorem ck_m74 : ck_m 74 = true := by decide +kernel
set_option maxRecDepth 100000 in
theorem ck_m75 : ck_m 75 = true := by decide +kernel
set_option maxRecDepth 100000 in
theorem ck_m76 : ck_m 76 = true := by decide +kernel
set_option maxRecDepth 100000 in
theorem ck_m77 : ck_m 77 = true := by decide +kernel
set_option maxRecDepth 100000 in
theorem ck_m78 : ck_m 78 = true := by decide +kernel
set_option maxRecDepth 100000 in
theorem ck_m79 : ck_m 79 = true := by decide +kernel
set_option maxRecDepth 100000 in
theorem ck_m80 : ck_m 80 = true := by decide +kernel
set_option maxRecDepth 100000 in
theorem ck_m81 : ck_m 81 = true := by decide +kernel
set_option maxRecDepth 100000 in
theorem ck_m82 : ck_m 82 = true := by decide +kernel
set_option maxRecDepth 100000 in
theorem ck_m83 : ck_m 83 = true := by decide +kernel
set_option maxRecDepth 100000 in
theorem ck_m84 : ck_m 84 = true := by decide +kernel
set_option maxRecDepth 100000 in
theorem ck_m85 : ck_m 85 = true := by decide +kernel
set_option maxRecDepth 100000 in
theorem ck_m86 : ck_m 86 = true := by decide +kernel
set_option maxRecDepth 100000 in
theorem ck_m87 : ck_m 87 = true := by decide +kernel
set_option maxRecDepth 100000 in
theorem ck_m88 : ck_m 88 = true := by decide +kernel
set_option maxRecDepth 100000 in
theorem ck_m89 : ck_m 89 = true := by decide +kernel
set_option maxRecDepth 100000 in
theorem ck_m90 : ck_m 90 = true := by decide +kernel
set_option maxRecDepth 100000 in
theorem ck_m91 : ck_m 91 = true := by decide +kernel
set_option maxRecDepth 100000 in
theorem ck_m92 : ck_m 92 = true := by decide +kernel
set_option maxRecDepth 100000 in
theorem ck_m93 : ck_m 93 = true := by decide +kernel
set_option maxRecDepth 100000 in
theorem ck_m94 : ck_m 94 = true := by decide +kernel
set_option maxRecDepth 100000 in
theorem ck_m95 : ck_m 95 = true := by decide +kernel
set_option maxRecDepth 100000 in
theorem ck_m96 : ck_m 96 = true := by decide +kernel
set_option maxRecDepth 100000 in
theorem ck_m97 : ck_m 97 = true := by decide +kernel
set_option maxRecDepth 100000 in
theorem ck_m98 : ck_m 98 = true := by decide +kernel
set_option maxRecDepth 100000 in
theorem ck_m99 : ck_m 99 = true := by decide +kernel
set_option maxRecDepth 100000 in
theorem ck_m100 : ck_m 100 = true := by decide +kernel
set_option maxRecDepth 100000 in
theorem ck_m101 : ck_m 101 = true := by decide +kernel
set_option maxRecDepth 100000 in
theorem ck_m102 : ck_m 102 = true := by decide +kernel
set_option maxRecDepth 100000 in
theorem ck_m103 : ck_m 103 = true := by decide +kernel
set_option maxRecDepth 100000 in
theorem ck_m104 : ck_m 104 = true := by decide +kernel
set_option maxRecDepth 100000 in
theorem ck_m105 : ck_m 105 = true := by decide +kernel
set_option maxRecDepth 100000 in
theorem ck_m106 : ck_m 106 = true := by decide +kernel
set_option maxRecDepth 100000 in
theorem ck_m107 : ck_m 107 = true := by decide +kernel
set_option maxRecDepth 100000 in
theorem ck_m108 : ck_m 108 = true := by decide +kernel
set_option maxRecDepth 100000 in
theorem ck_m109 : ck_m 109 = true := by decide +kernel
set_option maxRecDepth 100000 in
theorem ck_m110 : ck_m 110 = true := by decide +kernel
set_option maxRecDepth 100000 in
theorem ck_m111 : ck_m 111 = true := by decide +kernel
set_option maxRecDepth 100000 in
theorem ck_m112 : ck_m 112 = true := by decide +kernel
set_option maxRecDepth 100000 in
theorem ck_m113 : ck_m 113 = true := by decide +kernel
set_option maxRecDepth 100000 in
theorem ck_m114 : ck_m 114 = true := by decide +kernel
set_option maxRecDepth 100000 in
theorem ck_m115 : ck_m 115 = true := by decide +kernel
