set_option maxRecDepth 100000 in
theorem am_k130 : am_ckg 130 0 (am_tab 130) = true := by decide +kernel
set_option maxRecDepth 100000 in
theorem am_k131 : am_ckg 131 0 (am_tab 131) = true := by decide +kernel
set_option maxRecDepth 100000 in
theorem am_k132 : am_ckg 132 0 (am_tab 132) = true := by decide +kernel
set_option maxRecDepth 100000 in
theorem am_k133 : am_ckg 133 0 (am_tab 133) = true := by decide +kernel
set_option maxRecDepth 100000 in
theorem am_k134 : am_ckg 134 0 (am_tab 134) = true := by decide +kernel
set_option maxRecDepth 100000 in
theorem am_k135 : am_ckg 135 0 (am_tab 135) = true := by decide +kernel
set_option maxRecDepth 100000 in
theorem am_k136 : am_ckg 136 0 (am_tab 136) = true := by decide +kernel
set_option maxRecDepth 100000 in
theorem am_k137 : am_ckg 137 0 (am_tab 137) = true := by decide +kernel
set_option maxRecDepth 100000 in
theorem am_k138 : am_ckg 138 0 (am_tab 138) = true := by decide +kernel
set_option maxRecDepth 100000 in
theorem am_k139 : am_ckg 139 0 (am_tab 139) = true := by decide +kernel
set_option maxRecDepth 100000 in
theorem am_k140 : am_ckg 140 0 (am_tab 140) = true := by decide +kernel
set_option maxRecDepth 100000 in
theorem am_k141 : am_ckg 141 0 (am_tab 141) = true := by decide +kernel
set_option maxRecDepth 100000 in
theorem am_k142 : am_ckg 142 0 (am_tab 142) = true := by decide +kernel
set_option maxRecDepth 100000 in
theorem am_k143 : am_ckg 143 0 (am_tab 143) = true := by decide +kernel
set_option maxRecDepth 100000 in
theorem am_k144 : am_ckg 144 0 (am_tab 144) = true := by decide +kernel
set_option maxRecDepth 100000 in
theorem am_k145 : am_ckg 145 0 (am_tab 145) = true := by decide +kernel
set_option maxRecDepth 100000 in
theorem am_k146 : am_ckg 146 0 (am_tab 146) = true := by decide +kernel
set_option maxRecDepth 100000 in
theorem am_k147 : am_ckg 147 0 (am_tab 147) = true := by decide +kernel
set_option maxRecDepth 100000 in
theorem am_k148 : am_ckg 148 0 (am_tab 148) = true := by decide +kernel
set_option maxRecDepth 100000 in
theorem am_k149 : am_ckg 149 0 (am_tab 149) = true := by decide +kernel
set_option maxRecDepth 100000 in
theorem am_k150 : am_ckg 150 0 (am_tab 150) = true := by decide +kernel
set_option maxRecDepth 100000 in
theorem am_k151 : am_ckg 151 0 (am_tab 151) = true := by decide +kernel
set_option maxRecDepth 100000 in
theorem am_k152 : am_ckg 152 0 (am_tab 152) = true := by decide +kernel
set_option maxRecDepth 100000 in
theorem am_k153 : am_ckg 153 0 (am_tab 153) = true := by decide +kernel
set_option maxRecDepth 100000 in
theorem am_k154 : am_ckg 154 0 (am_tab 154) = true := by decide +kernel
set_option maxRecDepth 100000 in
theorem am_k155 : am_ckg 155 0 (am_tab 155) = true := by decide +kernel
set_option maxRecDepth 100000 in
theorem am_k156 : am_ckg 156 0 (am_tab 156) = true := by decide +kernel
set_option maxRecDepth 100000 in
theorem am_k157 : am_ckg 157 0 (am_tab 157) = true := by decide +kernel
set_option maxRecDepth 100000 in
theorem am_k158 : am_ckg 158 0 (am_tab 158) = true := by decide +kernel
set_option maxRecDepth 100000 in
theorem am_k159 : am_ckg 159 0 (am_tab 159) = true := by decide +kernel
set_option maxRecDepth 100000 in
theorem am_k160 : am_ckg 160 0 (am_tab 160) = true := by decide +kernel
set_option maxRecDepth 100000 in
theorem am_k161 : am_ckg 161 0 (am_tab 161) = true := by decide +kernel
set_option maxRecDepth 100000 in
theorem am_k162 : am_ckg 162 0 (am_tab 162) = true := by decide +kernel
set_option maxRecDepth 100000 in
theorem am_k163 : am_ckg 163 0 (am_tab 163) = true := by decide +kernel
set_option maxRecDepth 100000 in
theorem am_k164 : am_ckg 164 0 (am_tab 164) = true := by decide +kernel
set_option maxRecDepth 100000 in
theorem am_k165 : am_ckg 165 0 (am_tab 165) = true := by decide +kernel
set_option maxRecDepth 100000 in
theorem am_k166 : am_ckg 166 0 (am_tab 166) = true := by decide +kernel
set_option maxRecDepth 100000 in
theorem am_k167 : am_ckg 167 0 (am_tab 167) = true := by decide +kernel
set_option maxRecDepth 100000 in
theorem am_k168 : am_ckg 168 0 (am_tab 168) = true := by decide +kernel
set_option maxRecDepth 100000 in
theorem am_k169 : am_ckg 169 0 (am_tab 169) = true := by decide +kernel
set_option maxRecDepth 100000 in
theorem am_k170 : am_ckg 170 0 (am_tab 170) = true := by decide +kernel
