set_option maxRecDepth 100000 in
theorem ck_m0 : ck_m 0 = true := by decide +kernel
set_option maxRecDepth 100000 in
theorem ck_m1 : ck_m 1 = true := by decide +kernel
set_option maxRecDepth 100000 in
theorem ck_m2 : ck_m 2 = true := by decide +kernel
set_option maxRecDepth 100000 in
theorem ck_m3 : ck_m 3 = true := by decide +kernel
set_option maxRecDepth 100000 in
theorem ck_m4 : ck_m 4 = true := by decide +kernel
set_option maxRecDepth 100000 in
theorem ck_m5 : ck_m 5 = true := by decide +kernel
set_option maxRecDepth 100000 in
theorem ck_m6 : ck_m 6 = true := by decide +kernel
set_option maxRecDepth 100000 in
theorem ck_m7 : ck_m 7 = true := by decide +kernel
set_option maxRecDepth 100000 in
theorem ck_m8 : ck_m 8 = true := by decide +kernel
set_option maxRecDepth 100000 in
theorem ck_m9 : ck_m 9 = true := by decide +kernel
set_option maxRecDepth 100000 in
theorem ck_m10 : ck_m 10 = true := by decide +kernel
set_option maxRecDepth 100000 in
theorem ck_m11 : ck_m 11 = true := by decide +kernel
set_option maxRecDepth 100000 in
theorem ck_m12 : ck_m 12 = true := by decide +kernel
set_option maxRecDepth 100000 in
theorem ck_m13 : ck_m 13 = true := by decide +kernel
set_option maxRecDepth 100000 in
theorem ck_m14 : ck_m 14 = true := by decide +kernel
set_option maxRecDepth 100000 in
theorem ck_m15 : ck_m 15 = true := by decide +kernel
set_option maxRecDepth 100000 in
theorem ck_m16 : ck_m 16 = true := by decide +kernel
set_option maxRecDepth 100000 in
theorem ck_m17 : ck_m 17 = true := by decide +kernel
set_option maxRecDepth 100000 in
theorem ck_m18 : ck_m 18 = true := by decide +kernel
set_option maxRecDepth 100000 in
theorem ck_m19 : ck_m 19 = true := by decide +kernel
set_option maxRecDepth 100000 in
theorem ck_m20 : ck_m 20 = true := by decide +kernel
set_option maxRecDepth 100000 in
theorem ck_m21 : ck_m 21 = true := by decide +kernel
set_option maxRecDepth 100000 in
theorem ck_m22 : ck_m 22 = true := by decide +kernel
set_option maxRecDepth 100000 in
theorem ck_m23 : ck_m 23 = true := by decide +kernel
set_option maxRecDepth 100000 in
theorem ck_m24 : ck_m 24 = true := by decide +kernel
set_option maxRecDepth 100000 in
theorem ck_m25 : ck_m 25 = true := by decide +kernel
set_option maxRecDepth 100000 in
theorem ck_m26 : ck_m 26 = true := by decide +kernel
set_option maxRecDepth 100000 in
theorem ck_m27 : ck_m 27 = true := by decide +kernel
set_option maxRecDepth 100000 in
theorem ck_m28 : ck_m 28 = true := by decide +kernel
set_option maxRecDepth 100000 in
theorem ck_m29 : ck_m 29 = true := by decide +kernel
set_option maxRecDepth 100000 in
theorem ck_m30 : ck_m 30 = true := by decide +kernel
set_option maxRecDepth 100000 in
theorem ck_m31 : ck_m 31 = true := by decide +kernel
set_option maxRecDepth 100000 in
theorem ck_m32 : ck_m 32 = true := by decide +kernel
set_option maxRecDepth 100000 in
theorem ck_m33 : ck_m 33 = true := by decide +kernel
set_option maxRecDepth 100000 in
theorem ck_m34 : ck_m 34 = true := by decide +kernel
set_option maxRecDepth 100000 in
theorem ck_m35 : ck_m 35 = true := by decide +kernel
set_option maxRecDepth 100000 in
theorem ck_m36 : ck_m 36 = true := by decide +kernel
set_option maxRecDepth 100000 in
theorem ck_m37 : ck_m 37 = true := by decide +kernel
set_option maxRecDepth 100000 in
theorem ck_m38 : ck_m 38 = true := by decide +kernel
set_option maxRecDepth 100000 in
theorem ck_m39 : ck_m 39 = true := by decide +kernel
set_option maxRecDepth 100000 in
theorem ck_m40 : ck_m 40 = true := by decide +kernel
set_option maxRecDepth 100000 in
theorem ck_m41 : ck_m 41 = true := by decide +kernel
set_option maxRecDepth 100000 in
theorem ck_m42 : ck_m 42 = true := by decide +kernel
set_option maxRecDepth 100000 in
theorem ck_m43 : ck_m 43 = true := by decide +kernel
set_option maxRecDepth 100000 in
theorem ck_m44 : ck_m 44 = true := by decide +kernel
set_option maxRecDepth 100000 in
theorem ck_m45 : ck_m 45 = true := by decide +kernel
set_option maxRecDepth 100000 in
theorem ck_m46 : ck_m 46 = true := by decide +kernel
set_option maxRecDepth 100000 in
theorem ck_m47 : ck_m 47 = true := by decide +kernel
set_option maxRecDepth 100000 in
theorem ck_m48 : ck_m 48 = true := by decide +kernel
set_option maxRecDepth 100000 in
theorem ck_m49 : ck_m 49 = true := by decide +kernel
set_option maxRecDepth 100000 in
theorem ck_m50 : ck_m 50 = true := by decide +kernel
set_option maxRecDepth 100000 in
theorem ck_m51 : ck_m 51 = true := by decide +kernel
set_option maxRecDepth 100000 in
theorem ck_m52 : ck_m 52 = true := by decide +kernel
set_option maxRecDepth 100000 in
theorem ck_m53 : ck_m 53 = true := by decide +kernel
set_option maxRecDepth 100000 in
theorem ck_m54 : ck_m 54 = true := by decide +kernel
set_option maxRecDepth 100000 in
theorem ck_m55 : ck_m 55 = true := by decide +kernel
set_option maxRecDepth 100000 in
theorem ck_m56 : ck_m 56 = true := by decide +kernel
set_option maxRecDepth 100000 in
theorem ck_m57 : ck_m 57 = true := by decide +kernel
set_option maxRecDepth 100000 in
theorem ck_m58 : ck_m 58 = true := by decide +kernel
set_option maxRecDepth 100000 in
theorem ck_m59 : ck_m 59 = true := by decide +kernel
set_option maxRecDepth 100000 in
theorem ck_m60 : ck_m 60 = true := by decide +kernel
set_option maxRecDepth 100000 in
theorem ck_m61 : ck_m 61 = true := by decide +kernel
set_option maxRecDepth 100000 in
theorem ck_m62 : ck_m 62 = true := by decide +kernel
set_option maxRecDepth 100000 in
theorem ck_m63 : ck_m 63 = true := by decide +kernel
set_option maxRecDepth 100000 in
theorem ck_m64 : ck_m 64 = true := by decide +kernel
