def R_law : String := "CueBoardLaw"
set_option maxRecDepth 100000 in
theorem xk_law_0 : x_cr R_law code xc_Z_law 0 100 = true := by decide +kernel
set_option maxRecDepth 100000 in
theorem xk_law_100 : x_cr R_law code xc_Z_law 100 100 = true := by decide +kernel
set_option maxRecDepth 100000 in
theorem xk_law_200 : x_cr R_law code xc_Z_law 200 100 = true := by decide +kernel
set_option maxRecDepth 100000 in
theorem xk_law_300 : x_cr R_law code xc_Z_law 300 100 = true := by decide +kernel
set_option maxRecDepth 100000 in
theorem xk_law_400 : x_cr R_law code xc_Z_law 400 100 = true := by decide +kernel
set_option maxRecDepth 100000 in
theorem xk_law_500 : x_cr R_law code xc_Z_law 500 100 = true := by decide +kernel
set_option maxRecDepth 100000 in
theorem xk_law_600 : x_cr R_law code xc_Z_law 600 100 = true := by decide +kernel
set_option maxRecDepth 100000 in
theorem xk_law_700 : x_cr R_law code xc_Z_law 700 100 = true := by decide +kernel
set_option maxRecDepth 100000 in
theorem xk_law_800 : x_cr R_law code xc_Z_law 800 100 = true := by decide +kernel
set_option maxRecDepth 100000 in
theorem xk_law_900 : x_cr R_law code xc_Z_law 900 100 = true := by decide +kernel
set_option maxRecDepth 100000 in
theorem xk_law_1000 : x_cr R_law code xc_Z_law 1000 100 = true := by decide +kernel
set_option maxRecDepth 100000 in
theorem xk_law_1100 : x_cr R_law code xc_Z_law 1100 100 = true := by decide +kernel
set_option maxRecDepth 100000 in
theorem xk_law_1200 : x_cr R_law code xc_Z_law 1200 100 = true := by decide +kernel
set_option maxRecDepth 100000 in
theorem xk_law_1300 : x_cr R_law code xc_Z_law 1300 100 = true := by decide +kernel
set_option maxRecDepth 100000 in
theorem xk_law_1400 : x_cr R_law code xc_Z_law 1400 30 = true := by decide +kernel
