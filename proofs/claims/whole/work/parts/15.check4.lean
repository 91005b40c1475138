set_option maxRecDepth 100000 in
theorem ck_m166 : ck_m 166 = true := by decide +kernel
set_option maxRecDepth 100000 in
theorem ck_m167 : ck_m 167 = true := by decide +kernel
set_option maxRecDepth 100000 in
theorem ck_m168 : ck_m 168 = true := by decide +kernel
set_option maxRecDepth 100000 in
theorem ck_m169 : ck_m 169 = true := by decide +kernel
set_option maxRecDepth 100000 in
theorem ck_m170 : ck_m 170 = true := by decide +kernel
set_option maxRecDepth 100000 in
theorem ck_m171 : ck_m 171 = true := by decide +kernel
set_option maxRecDepth 100000 in
theorem ck_m172 : ck_m 172 = true := by decide +kernel
set_option maxRecDepth 100000 in
theorem ck_m173 : ck_m 173 = true := by decide +kernel
set_option maxRecDepth 100000 in
theorem ck_m174 : ck_m 174 = true := by decide +kernel
set_option maxRecDepth 100000 in
theorem ck_m175 : ck_m 175 = true := by decide +kernel
set_option maxRecDepth 100000 in
theorem ck_m176 : ck_m 176 = true := by decide +kernel
set_option maxRecDepth 100000 in
theorem ck_m177 : ck_m 177 = true := by decide +kernel
set_option maxRecDepth 100000 in
theorem ck_m178 : ck_m 178 = true := by decide +kernel
set_option maxRecDepth 100000 in
theorem ck_m179 : ck_m 179 = true := by decide +kernel
set_option maxRecDepth 100000 in
theorem ck_m180 : ck_m 180 = true := by decide +kernel
set_option maxRecDepth 100000 in
theorem ck_m181 : ck_m 181 = true := by decide +kernel
set_option maxRecDepth 100000 in
theorem ck_m182 : ck_m 182 = true := by decide +kernel
set_option maxRecDepth 100000 in
theorem ck_m183 : ck_m 183 = true := by decide +kernel
set_option maxRecDepth 100000 in
theorem ck_m184 : ck_m 184 = true := by decide +kernel
set_option maxRecDepth 100000 in
theorem ck_m185 : ck_m 185 = true := by decide +kernel
set_option maxRecDepth 100000 in
theorem ck_m186 : ck_m 186 = true := by decide +kernel
set_option maxRecDepth 100000 in
theorem ck_m187 : ck_m 187 = true := by decide +kernel
set_option maxRecDepth 100000 in
theorem ck_m188 : ck_m 188 = true := by decide +kernel
set_option maxRecDepth 100000 in
theorem ck_m189 : ck_m 189 = true := by decide +kernel
set_option maxRecDepth 100000 in
theorem ck_m190 : ck_m 190 = true := by decide +kernel
set_option maxRecDepth 100000 in
theorem ck_m191 : ck_m 191 = true := by decide +kernel
set_option maxRecDepth 100000 in
theorem ck_m192 : ck_m 192 = true := by decide +kernel
set_option maxRecDepth 100000 in
theorem ck_m193 : ck_m 193 = true := by decide +kernel
set_option maxRecDepth 100000 in
theorem ck_m194 : ck_m 194 = true := by decide +kernel
set_option maxRecDepth 100000 in
theorem ck_m195 : ck_m 195 = true := by decide +kernel
set_option maxRecDepth 100000 in
theorem ck_m196 : ck_m 196 = true := by decide +kernel
set_option maxRecDepth 100000 in
theorem ck_m197 : ck_m 197 = true := by decide +kernel
set_option maxRecDepth 100000 in
theorem ck_m198 : ck_m 198 = true := by decide +kernel
set_option maxRecDepth 100000 in
theorem ck_m199 : ck_m 199 = true := by decide +kernel
set_option maxRecDepth 100000 in
theorem ck_m200 : ck_m 200 = true := by decide +kernel
set_option maxRecDepth 100000 in
theorem ck_m201 : ck_m 201 = true := by decide +kernel
set_option maxRecDepth 100000 in
theorem ck_m202 : ck_m 202 = true := by decide +kernel
set_option maxRecDepth 100000 in
theorem ck_m203 : ck_m 203 = true := by decide +kernel
set_option maxRecDepth 100000 in
theorem ck_m204 : ck_m 204 = true := by decide +kernel
set_option maxRecDepth 100000 in
theorem ck_m205 : ck_m 205 = true := by decide +kernel
set_option maxRecDepth 100000 in
theorem ck_m206 : ck_m 206 = true := by decide +kernel
set_option maxRecDepth 100000 in
theorem ck_m207 : ck_m 207 = true := by decide +kernel
set_option maxRecDepth 100000 in
theorem ck_m208 : ck_m 208 = true := by decide +kernel
set_option maxRecDepth 100000 in
theorem ck_m209 : ck_m 209 = true := by decide +kernel
