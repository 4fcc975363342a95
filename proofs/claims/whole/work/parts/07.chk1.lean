set_option maxRecDepth 100000 in
theorem am_k60 : am_ckg 60 0 (am_tab 60) = true := by decide +kernel
set_option maxRecDepth 100000 in
theorem am_k61 : am_ckg 61 0 (am_tab 61) = true := by decide +kernel
set_option maxRecDepth 100000 in
theorem am_k62 : am_ckg 62 0 (am_tab 62) = true := by decide +kernel
set_option maxRecDepth 100000 in
theorem am_k63 : am_ckg 63 0 (am_tab 63) = true := by decide +kernel
set_option maxRecDepth 100000 in
theorem am_k64 : am_ckg 64 0 (am_tab 64) = true := by decide +kernel
set_option maxRecDepth 100000 in
theorem am_k65 : am_ckg 65 0 (am_tab 65) = true := by decide +kernel
set_option maxRecDepth 100000 in
theorem am_k66 : am_ckg 66 0 (am_tab 66) = true := by decide +kernel
set_option maxRecDepth 100000 in
theorem am_k67 : am_ckg 67 0 (am_tab 67) = true := by decide +kernel
set_option maxRecDepth 100000 in
theorem am_k68 : am_ckg 68 0 (am_tab 68) = true := by decide +kernel
set_option maxRecDepth 100000 in
theorem am_k69 : am_ckg 69 0 (am_tab 69) = true := by decide +kernel
set_option maxRecDepth 100000 in
theorem am_k70 : am_ckg 70 0 (am_tab 70) = true := by decide +kernel
set_option maxRecDepth 100000 in
theorem am_k71 : am_ckg 71 0 (am_tab 71) = true := by decide +kernel
set_option maxRecDepth 100000 in
theorem am_k72 : am_ckg 72 0 (am_tab 72) = true := by decide +kernel
set_option maxRecDepth 100000 in
theorem am_k73 : am_ckg 73 0 (am_tab 73) = true := by decide +kernel
set_option maxRecDepth 100000 in
theorem am_k74 : am_ckg 74 0 (am_tab 74) = true := by decide +kernel
set_option maxRecDepth 100000 in
theorem am_k75 : am_ckg 75 0 (am_tab 75) = true := by decide +kernel
set_option maxRecDepth 100000 in
theorem am_k76 : am_ckg 76 0 (am_tab 76) = true := by decide +kernel
set_option maxRecDepth 100000 in
theorem am_k77 : am_ckg 77 0 (am_tab 77) = true := by decide +kernel
set_option maxRecDepth 100000 in
theorem am_k78 : am_ckg 78 0 (am_tab 78) = true := by decide +kernel
set_option maxRecDepth 100000 in
theorem am_k79 : am_ckg 79 0 (am_tab 79) = true := by decide +kernel
set_option maxRecDepth 100000 in
theorem am_k80 : am_ckg 80 0 (am_tab 80) = true := by decide +kernel
set_option maxRecDepth 100000 in
theorem am_k81 : am_ckg 81 0 (am_tab 81) = true := by decide +kernel
set_option maxRecDepth 100000 in
theorem am_k82 : am_ckg 82 0 (am_tab 82) = true := by decide +kernel
set_option maxRecDepth 100000 in
theorem am_k83 : am_ckg 83 0 (am_tab 83) = true := by decide +kernel
set_option maxRecDepth 100000 in
theorem am_k84 : am_ckg 84 0 (am_tab 84) = true := by decide +kernel
set_option maxRecDepth 100000 in
theorem am_k85 : am_ckg 85 0 (am_tab 85) = true := by decide +kernel
set_option maxRecDepth 100000 in
theorem am_k86 : am_ckg 86 0 (am_tab 86) = true := by decide +kernel
set_option maxRecDepth 100000 in
theorem am_k87 : am_ckg 87 0 (am_tab 87) = true := by decide +kernel
set_option maxRecDepth 100000 in
theorem am_k88 : am_ckg 88 0 (am_tab 88) = true := by decide +kernel
set_option maxRecDepth 100000 in
theorem am_k89 : am_ckg 89 0 (am_tab 89) = true := by decide +kernel
set_option maxRecDepth 100000 in
theorem am_k90 : am_ckg 90 0 (am_tab 90) = true := by decide +kernel
set_option maxRecDepth 100000 in
theorem am_k91 : am_ckg 91 0 (am_tab 91) = true := by decide +kernel
set_option maxRecDepth 100000 in
theorem am_k92 : am_ckg 92 0 (am_tab 92) = true := by decide +kernel
set_option maxRecDepth 100000 in
theorem am_k93 : am_ckg 93 0 (am_tab 93) = true := by decide +kernel
set_option maxRecDepth 100000 in
theorem am_k94 : am_ckg 94 0 (am_tab 94) = true := by decide +kernel
set_option maxRecDepth 100000 in
theorem am_k95 : am_ckg 95 0 (am_tab 95) = true := by decide +kernel
set_option maxRecDepth 100000 in
theorem am_k96 : am_ckg 96 0 (am_tab 96) = true := by decide +kernel
set_option maxRecDepth 100000 in
theorem am_k97 : am_ckg 97 0 (am_tab 97) = true := by decide +kernel
set_option maxRecDepth 100000 in
theorem am_k98 : am_ckg 98 0 (am_tab 98) = true := by decide +kernel
set_option maxRecDepth 100000 in
theorem am_k99 : am_ckg 99 0 (am_tab 99) = true := by decide +kernel
set_option maxRecDepth 100000 in
theorem am_k100 : am_ckg 100 0 (am_tab 100) = true := by decide +kernel
set_option maxRecDepth 100000 in
theorem am_k101 : am_ckg 101 0 (am_tab 101) = true := by decide +kernel
set_option maxRecDepth 100000 in
theorem am_k102 : am_ckg 102 0 (am_tab 102) = true := by decide +kernel
set_option maxRecDepth 100000 in
theorem am_k103 : am_ckg 103 0 (am_tab 103) = true := by decide +kernel
set_option maxRecDepth 100000 in
theorem am_k104 : am_ckg 104 0 (am_tab 104) = true := by decide +kernel
set_option maxRecDepth 100000 in
theorem am_k105 : am_ckg 105 0 (am_tab 105) = true := by decide +kernel
set_option maxRecDepth 100000 in
theorem am_k106 : am_ckg 106 0 (am_tab 106) = true := by decide +kernel
set_option maxRecDepth 100000 in
theorem am_k107 : am_ckg 107 0 (am_tab 107) = true := by decide +kernel
set_option maxRecDepth 100000 in
theorem am_k108 : am_ckg 108 0 (am_tab 108) = true := by decide +kernel
set_option maxRecDepth 100000 in
theorem am_k109 : am_ckg 109 0 (am_tab 109) = true := by decide +kernel
set_option maxRecDepth 100000 in
theorem am_k110 : am_ckg 110 0 (am_tab 110) = true := by decide +kernel
set_option maxRecDepth 100000 in
theorem am_k111 : am_ckg 111 0 (am_tab 111) = true := by decide +kernel
set_option maxRecDepth 100000 in
theorem am_k112 : am_ckg 112 0 (am_tab 112) = true := by decide +kernel
set_option maxRecDepth 100000 in
theorem am_k113 : am_ckg 113 0 (am_tab 113) = true := by decide +kernel
set_option maxRecDepth 100000 in
theorem am_k114 : am_ckg 114 0 (am_tab 114) = true := by decide +kernel
set_option maxRecDepth 100000 in
theorem am_k115 : am_ckg 115 0 (am_tab 115) = true := by decide +kernel
set_option maxRecDepth 100000 in
theorem am_k116 : am_ckg 116 0 (am_tab 116) = true := by decide +kernel
set_option maxRecDepth 100000 in
theorem am_k117 : am_ckg 117 0 (am_tab 117) = true := by decide +kernel
set_option maxRecDepth 100000 in
theorem am_k118 : am_ckg 118 0 (am_tab 118) = true := by decide +kernel
set_option maxRecDepth 100000 in
theorem am_k119 : am_ckg 119 0 (am_tab 119) = true := by decide +kernel
set_option maxRecDepth 100000 in
theorem am_k120 : am_ckg 120 0 (am_tab 120) = true := by decide +kernel
set_option maxRecDepth 100000 in
theorem am_k121 : am_ckg 121 0 (am_tab 121) = true := by decide +kernel
set_option maxRecDepth 100000 in
theorem am_k122 : am_ckg 122 0 (am_tab 122) = true := by decide +kernel
set_option maxRecDepth 100000 in
theorem am_k123 : am_ckg 123 0 (am_tab 123) = true := by decide +kernel
set_option maxRecDepth 100000 in
theorem am_k124 : am_ckg 124 0 (am_tab 124) = true := by decide +kernel
set_option maxRecDepth 100000 in
theorem am_k125 : am_ckg 125 0 (am_tab 125) = true := by decide +kernel
set_option maxRecDepth 100000 in
theorem am_k126 : am_ckg 126 0 (am_tab 126) = true := by decide +kernel
set_option maxRecDepth 100000 in
theorem am_k127 : am_ckg 127 0 (am_tab 127) = true := by decide +kernel
set_option maxRecDepth 100000 in
theorem am_k128 : am_ckg 128 0 (am_tab 128) = true := by decide +kernel
set_option maxRecDepth 100000 in
theorem am_k129 : am_ckg 129 0 (am_tab 129) = true := by decide +kernel
