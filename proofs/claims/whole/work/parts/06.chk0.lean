set_option maxRecDepth 100000 in
theorem am_k0 : am_ckg 0 0 (am_tab 0) = true := by decide +kernel
set_option maxRecDepth 100000 in
theorem am_k1 : am_ckg 1 0 (am_tab 1) = true := by decide +kernel
set_option maxRecDepth 100000 in
theorem am_k2 : am_ckg 2 0 (am_tab 2) = true := by decide +kernel
set_option maxRecDepth 100000 in
theorem am_k3 : am_ckg 3 0 (am_tab 3) = true := by decide +kernel
set_option maxRecDepth 100000 in
theorem am_k4 : am_ckg 4 0 (am_tab 4) = true := by decide +kernel
set_option maxRecDepth 100000 in
theorem am_k5 : am_ckg 5 0 (am_tab 5) = true := by decide +kernel
set_option maxRecDepth 100000 in
theorem am_k6 : am_ckg 6 0 (am_tab 6) = true := by decide +kernel
set_option maxRecDepth 100000 in
theorem am_k7 : am_ckg 7 0 (am_tab 7) = true := by decide +kernel
set_option maxRecDepth 100000 in
theorem am_k8 : am_ckg 8 0 (am_tab 8) = true := by decide +kernel
set_option maxRecDepth 100000 in
theorem am_k9 : am_ckg 9 0 (am_tab 9) = true := by decide +kernel
set_option maxRecDepth 100000 in
theorem am_k10 : am_ckg 10 0 (am_tab 10) = true := by decide +kernel
set_option maxRecDepth 100000 in
theorem am_k11 : am_ckg 11 0 (am_tab 11) = true := by decide +kernel
set_option maxRecDepth 100000 in
theorem am_k12 : am_ckg 12 0 (am_tab 12) = true := by decide +kernel
set_option maxRecDepth 100000 in
theorem am_k13 : am_ckg 13 0 (am_tab 13) = true := by decide +kernel
set_option maxRecDepth 100000 in
theorem am_k14 : am_ckg 14 0 (am_tab 14) = true := by decide +kernel
set_option maxRecDepth 100000 in
theorem am_k15 : am_ckg 15 0 (am_tab 15) = true := by decide +kernel
set_option maxRecDepth 100000 in
theorem am_k16 : am_ckg 16 0 (am_tab 16) = true := by decide +kernel
set_option maxRecDepth 100000 in
theorem am_k17 : am_ckg 17 0 (am_tab 17) = true := by decide +kernel
set_option maxRecDepth 100000 in
theorem am_k18 : am_ckg 18 0 (am_tab 18) = true := by decide +kernel
set_option maxRecDepth 100000 in
theorem am_k19 : am_ckg 19 0 (am_tab 19) = true := by decide +kernel
set_option maxRecDepth 100000 in
theorem am_k20 : am_ckg 20 0 (am_tab 20) = true := by decide +kernel
set_option maxRecDepth 100000 in
theorem am_k21 : am_ckg 21 0 (am_tab 21) = true := by decide +kernel
set_option maxRecDepth 100000 in
theorem am_k22 : am_ckg 22 0 (am_tab 22) = true := by decide +kernel
set_option maxRecDepth 100000 in
theorem am_k23 : am_ckg 23 0 (am_tab 23) = true := by decide +kernel
set_option maxRecDepth 100000 in
theorem am_k24 : am_ckg 24 0 (am_tab 24) = true := by decide +kernel
set_option maxRecDepth 100000 in
theorem am_k25 : am_ckg 25 0 (am_tab 25) = true := by decide +kernel
set_option maxRecDepth 100000 in
theorem am_k26 : am_ckg 26 0 (am_tab 26) = true := by decide +kernel
set_option maxRecDepth 100000 in
theorem am_k27 : am_ckg 27 0 (am_tab 27) = true := by decide +kernel
set_option maxRecDepth 100000 in
theorem am_k28 : am_ckg 28 0 (am_tab 28) = true := by decide +kernel
set_option maxRecDepth 100000 in
theorem am_k29 : am_ckg 29 0 (am_tab 29) = true := by decide +kernel
set_option maxRecDepth 100000 in
theorem am_k30 : am_ckg 30 0 (am_tab 30) = true := by decide +kernel
set_option maxRecDepth 100000 in
theorem am_k31 : am_ckg 31 0 (am_tab 31) = true := by decide +kernel
set_option maxRecDepth 100000 in
theorem am_k32 : am_ckg 32 0 (am_tab 32) = true := by decide +kernel
set_option maxRecDepth 100000 in
theorem am_k33 : am_ckg 33 0 (am_tab 33) = true := by decide +kernel
set_option maxRecDepth 100000 in
theorem am_k34 : am_ckg 34 0 (am_tab 34) = true := by decide +kernel
set_option maxRecDepth 100000 in
theorem am_k35 : am_ckg 35 0 (am_tab 35) = true := by decide +kernel
set_option maxRecDepth 100000 in
theorem am_k36 : am_ckg 36 0 (am_tab 36) = true := by decide +kernel
set_option maxRecDepth 100000 in
theorem am_k37 : am_ckg 37 0 (am_tab 37) = true := by decide +kernel
set_option maxRecDepth 100000 in
theorem am_k38 : am_ckg 38 0 (am_tab 38) = true := by decide +kernel
set_option maxRecDepth 100000 in
theorem am_k39 : am_ckg 39 0 (am_tab 39) = true := by decide +kernel
set_option maxRecDepth 100000 in
theorem am_k40 : am_ckg 40 0 (am_tab 40) = true := by decide +kernel
set_option maxRecDepth 100000 in
theorem am_k41 : am_ckg 41 0 (am_tab 41) = true := by decide +kernel
set_option maxRecDepth 100000 in
theorem am_k42 : am_ckg 42 0 (am_tab 42) = true := by decide +kernel
set_option maxRecDepth 100000 in
theorem am_k43 : am_ckg 43 0 (am_tab 43) = true := by decide +kernel
set_option maxRecDepth 100000 in
theorem am_k44 : am_ckg 44 0 (am_tab 44) = true := by decide +kernel
set_option maxRecDepth 100000 in
theorem am_k45 : am_ckg 45 0 (am_tab 45) = true := by decide +kernel
set_option maxRecDepth 100000 in
theorem am_k46 : am_ckg 46 0 (am_tab 46) = true := by decide +kernel
set_option maxRecDepth 100000 in
theorem am_k47 : am_ckg 47 0 (am_tab 47) = true := by decide +kernel
set_option maxRecDepth 100000 in
theorem am_k48 : am_ckg 48 0 (am_tab 48) = true := by decide +kernel
set_option maxRecDepth 100000 in
theorem am_k49 : am_ckg 49 0 (am_tab 49) = true := by decide +kernel
set_option maxRecDepth 100000 in
theorem am_k50 : am_ckg 50 0 (am_tab 50) = true := by decide +kernel
set_option maxRecDepth 100000 in
theorem am_k51 : am_ckg 51 0 (am_tab 51) = true := by decide +kernel
set_option maxRecDepth 100000 in
theorem am_k52 : am_ckg 52 0 (am_tab 52) = true := by decide +kernel
set_option maxRecDepth 100000 in
theorem am_k53 : am_ckg 53 0 (am_tab 53) = true := by decide +kernel
set_option maxRecDepth 100000 in
theorem am_k54 : am_ckg 54 0 (am_tab 54) = true := by decide +kernel
set_option maxRecDepth 100000 in
theorem am_k55 : am_ckg 55 0 (am_tab 55) = true := by decide +kernel
set_option maxRecDepth 100000 in
theorem am_k56 : am_ckg 56 0 (am_tab 56) = true := by decide +kernel
set_option maxRecDepth 100000 in
theorem am_k57 : am_ckg 57 0 (am_tab 57) = true := by decide +kernel
set_option maxRecDepth 100000 in
theorem am_k58 : am_ckg 58 0 (am_tab 58) = true := by decide +kernel
set_option maxRecDepth 100000 in
theorem am_k59 : am_ckg 59 0 (am_tab 59) = true := by decide +kernel
