set_option maxRecDepth 100000 in
theorem ck_m116 : ck_m 116 = true := by decide +kernel
set_option maxRecDepth 100000 in
theorem ck_m117 : ck_m 117 = true := by decide +kernel
set_option maxRecDepth 100000 in
theorem ck_m118 : ck_m 118 = true := by decide +kernel
set_option maxRecDepth 100000 in
theorem ck_m119 : ck_m 119 = true := by decide +kernel
set_option maxRecDepth 100000 in
theorem ck_m120 : ck_m 120 = true := by decide +kernel
set_option maxRecDepth 100000 in
theorem ck_m121 : ck_m 121 = true := by decide +kernel
set_option maxRecDepth 100000 in
theorem ck_m122 : ck_m 122 = true := by decide +kernel
set_option maxRecDepth 100000 in
theorem ck_m123 : ck_m 123 = true := by decide +kernel
set_option maxRecDepth 100000 in
theorem ck_m124 : ck_m 124 = true := by decide +kernel
set_option maxRecDepth 100000 in
theorem ck_m125 : ck_m 125 = true := by decide +kernel
set_option maxRecDepth 100000 in
theorem ck_m126 : ck_m 126 = true := by decide +kernel
set_option maxRecDepth 100000 in
theorem ck_m127 : ck_m 127 = true := by decide +kernel
set_option maxRecDepth 100000 in
theorem ck_m128 : ck_m 128 = true := by decide +kernel
set_option maxRecDepth 100000 in
theorem ck_m129 : ck_m 129 = true := by decide +kernel
set_option maxRecDepth 100000 in
theorem ck_m130 : ck_m 130 = true := by decide +kernel
set_option maxRecDepth 100000 in
theorem ck_m131 : ck_m 131 = true := by decide +kernel
set_option maxRecDepth 100000 in
theorem ck_m132 : ck_m 132 = true := by decide +kernel
set_option maxRecDepth 100000 in
theorem ck_m133 : ck_m 133 = true := by decide +kernel
set_option maxRecDepth 100000 in
theorem ck_m134 : ck_m 134 = true := by decide +kernel
set_option maxRecDepth 100000 in
theorem ck_m135 : ck_m 135 = true := by decide +kernel
set_option maxRecDepth 100000 in
theorem ck_m136 : ck_m 136 = true := by decide +kernel
set_option maxRecDepth 100000 in
theorem ck_m137 : ck_m 137 = true := by decide +kernel
set_option maxRecDepth 100000 in
theorem ck_m138 : ck_m 138 = true := by decide +kernel
set_option maxRecDepth 100000 in
theorem ck_m139 : ck_m 139 = true := by decide +kernel
set_option maxRecDepth 100000 in
theorem ck_m140 : ck_m 140 = true := by decide +kernel
set_option maxRecDepth 100000 in
theorem ck_m141 : ck_m 141 = true := by decide +kernel
set_option maxRecDepth 100000 in
theorem ck_m142 : ck_m 142 = true := by decide +kernel
set_option maxRecDepth 100000 in
theorem ck_m143 : ck_m 143 = true := by decide +kernel
set_option maxRecDepth 100000 in
theorem ck_m144 : ck_m 144 = true := by decide +kernel
set_option maxRecDepth 100000 in
theorem ck_m145 : ck_m 145 = true := by decide +kernel
set_option maxRecDepth 100000 in
theorem ck_m146 : ck_m 146 = true := by decide +kernel
set_option maxRecDepth 100000 in
theorem ck_m147 : ck_m 147 = true := by decide +kernel
set_option maxRecDepth 100000 in
theorem ck_m148 : ck_m 148 = true := by decide +kernel
set_option maxRecDepth 100000 in
theorem ck_m149 : ck_m 149 = true := by decide +kernel
set_option maxRecDepth 100000 in
theorem ck_m150 : ck_m 150 = true := by decide +kernel
set_option maxRecDepth 100000 in
theorem ck_m151 : ck_m 151 = true := by decide +kernel
set_option maxRecDepth 100000 in
theorem ck_m152 : ck_m 152 = true := by decide +kernel
set_option maxRecDepth 100000 in
theorem ck_m153 : ck_m 153 = true := by decide +kernel
set_option maxRecDepth 100000 in
theorem ck_m154 : ck_m 154 = true := by decide +kernel
set_option maxRecDepth 100000 in
theorem ck_m155 : ck_m 155 = true := by decide +kernel
set_option maxRecDepth 100000 in
theorem ck_m156 : ck_m 156 = true := by decide +kernel
set_option maxRecDepth 100000 in
theorem ck_m157 : ck_m 157 = true := by decide +kernel
set_option maxRecDepth 100000 in
theorem ck_m158 : ck_m 158 = true := by decide +kernel
set_option maxRecDepth 100000 in
theorem ck_m159 : ck_m 159 = true := by decide +kernel
set_option maxRecDepth 100000 in
theorem ck_m160 : ck_m 160 = true := by decide +kernel
set_option maxRecDepth 100000 in
theorem ck_m161 : ck_m 161 = true := by decide +kernel
set_option maxRecDepth 100000 in
theorem ck_m162 : ck_m 162 = true := by decide +kernel
set_option maxRecDepth 100000 in
theorem ck_m163 : ck_m 163 = true := by decide +kernel
set_option maxRecDepth 100000 in
theorem ck_m164 : ck_m 164 = true := by decide +kernel
set_option maxRecDepth 100000 in
theorem ck_m165 : ck_m 165 = true := by decide +kernel
