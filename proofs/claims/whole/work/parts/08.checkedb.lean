set_option maxRecDepth 100000 in
theorem am_k110 : am_okm 110 = true := by decide +kernel
set_option maxRecDepth 100000 in
theorem am_k111 : am_okm 111 = true := by decide +kernel
set_option maxRecDepth 100000 in
theorem am_k112 : am_okm 112 = true := by decide +kernel
set_option maxRecDepth 100000 in
theorem am_k113 : am_okm 113 = true := by decide +kernel
set_option maxRecDepth 100000 in
theorem am_k114 : am_okm 114 = true := by decide +kernel
set_option maxRecDepth 100000 in
theorem am_k115 : am_okm 115 = true := by decide +kernel
set_option maxRecDepth 100000 in
theorem am_k116 : am_okm 116 = true := by decide +kernel
set_option maxRecDepth 100000 in
theorem am_k117 : am_okm 117 = true := by decide +kernel
set_option maxRecDepth 100000 in
theorem am_k118 : am_okm 118 = true := by decide +kernel
set_option maxRecDepth 100000 in
theorem am_k119 : am_okm 119 = true := by decide +kernel
set_option maxRecDepth 100000 in
theorem am_k120 : am_okm 120 = true := by decide +kernel
set_option maxRecDepth 100000 in
theorem am_k121 : am_okm 121 = true := by decide +kernel
set_option maxRecDepth 100000 in
theorem am_k122 : am_okm 122 = true := by decide +kernel
set_option maxRecDepth 100000 in
theorem am_k123 : am_okm 123 = true := by decide +kernel
set_option maxRecDepth 100000 in
theorem am_k124 : am_okm 124 = true := by decide +kernel
set_option maxRecDepth 100000 in
theorem am_k125 : am_okm 125 = true := by decide +kernel
set_option maxRecDepth 100000 in
theorem am_k126 : am_okm 126 = true := by decide +kernel
set_option maxRecDepth 100000 in
theorem am_k127 : am_okm 127 = true := by decide +kernel
set_option maxRecDepth 100000 in
theorem am_k128 : am_okm 128 = true := by decide +kernel
set_option maxRecDepth 100000 in
theorem am_k129 : am_okm 129 = true := by decide +kernel
set_option maxRecDepth 100000 in
theorem am_k130 : am_okm 130 = true := by decide +kernel
set_option maxRecDepth 100000 in
theorem am_k131 : am_okm 131 = true := by decide +kernel
set_option maxRecDepth 100000 in
theorem am_k132 : am_okm 132 = true := by decide +kernel
set_option maxRecDepth 100000 in
theorem am_k133 : am_okm 133 = true := by decide +kernel
set_option maxRecDepth 100000 in
theorem am_k134 : am_okm 134 = true := by decide +kernel
set_option maxRecDepth 100000 in
theorem am_k135 : am_okm 135 = true := by decide +kernel
set_option maxRecDepth 100000 in
theorem am_k136 : am_okm 136 = true := by decide +kernel
set_option maxRecDepth 100000 in
theorem am_k137 : am_okm 137 = true := by decide +kernel
set_option maxRecDepth 100000 in
theorem am_k138 : am_okm 138 = true := by decide +kernel
set_option maxRecDepth 100000 in
theorem am_k139 : am_okm 139 = true := by decide +kernel
set_option maxRecDepth 100000 in
theorem am_k140 : am_okm 140 = true := by decide +kernel
set_option maxRecDepth 100000 in
theorem am_k141 : am_okm 141 = true := by decide +kernel
set_option maxRecDepth 100000 in
theorem am_k142 : am_okm 142 = true := by decide +kernel
set_option maxRecDepth 100000 in
theorem am_k143 : am_okm 143 = true := by decide +kernel
set_option maxRecDepth 100000 in
theorem am_k144 : am_okm 144 = true := by decide +kernel
set_option maxRecDepth 100000 in
theorem am_k145 : am_okm 145 = true := by decide +kernel
set_option maxRecDepth 100000 in
theorem am_k146 : am_okm 146 = true := by decide +kernel
set_option maxRecDepth 100000 in
theorem am_k147 : am_okm 147 = true := by decide +kernel
set_option maxRecDepth 100000 in
theorem am_k148 : am_okm 148 = true := by decide +kernel
set_option maxRecDepth 100000 in
theorem am_k149 : am_okm 149 = true := by decide +kernel
set_option maxRecDepth 100000 in
theorem am_k150 : am_okm 150 = true := by decide +kernel
set_option maxRecDepth 100000 in
theorem am_k151 : am_okm 151 = true := by decide +kernel
set_option maxRecDepth 100000 in
theorem am_k152 : am_okm 152 = true := by decide +kernel
set_option maxRecDepth 100000 in
theorem am_k153 : am_okm 153 = true := by decide +kernel
set_option maxRecDepth 100000 in
theorem am_k154 : am_okm 154 = true := by decide +kernel
set_option maxRecDepth 100000 in
theorem am_k155 : am_okm 155 = true := by decide +kernel
set_option maxRecDepth 100000 in
theorem am_k156 : am_okm 156 = true := by decide +kernel
set_option maxRecDepth 100000 in
theorem am_k157 : am_okm 157 = true := by decide +kernel
set_option maxRecDepth 100000 in
theorem am_k158 : am_okm 158 = true := by decide +kernel
set_option maxRecDepth 100000 in
theorem am_k159 : am_okm 159 = true := by decide +kernel
set_option maxRecDepth 100000 in
theorem am_k160 : am_okm 160 = true := by decide +kernel
set_option maxRecDepth 100000 in
theorem am_k161 : am_okm 161 = true := by decide +kernel
set_option maxRecDepth 100000 in
theorem am_k162 : am_okm 162 = true := by decide +kernel
set_option maxRecDepth 100000 in
theorem am_k163 : am_okm 163 = true := by decide +kernel
set_option maxRecDepth 100000 in
theorem am_k164 : am_okm 164 = true := by decide +kernel
set_option maxRecDepth 100000 in
theorem am_k165 : am_okm 165 = true := by decide +kernel
set_option maxRecDepth 100000 in
theorem am_k166 : am_okm 166 = true := by decide +kernel
set_option maxRecDepth 100000 in
theorem am_k167 : am_okm 167 = true := by decide +kernel
set_option maxRecDepth 100000 in
theorem am_k168 : am_okm 168 = true := by decide +kernel
set_option maxRecDepth 100000 in
theorem am_k169 : am_okm 169 = true := by decide +kernel
set_option maxRecDepth 100000 in
theorem am_k170 : am_okm 170 = true := by decide +kernel
set_option maxRecDepth 100000 in
theorem am_k171 : am_okm 171 = true := by decide +kernel
set_option maxRecDepth 100000 in
theorem am_k172 : am_okm 172 = true := by decide +kernel
set_option maxRecDepth 100000 in
theorem am_k173 : am_okm 173 = true := by decide +kernel
set_option maxRecDepth 100000 in
theorem am_k174 : am_okm 174 = true := by decide +kernel
set_option maxRecDepth 100000 in
theorem am_k175 : am_okm 175 = true := by decide +kernel
set_option maxRecDepth 100000 in
theorem am_k176 : am_okm 176 = true := by decide +kernel
set_option maxRecDepth 100000 in
theorem am_k177 : am_okm 177 = true := by decide +kernel
set_option maxRecDepth 100000 in
theorem am_k178 : am_okm 178 = true := by decide +kernel
set_option maxRecDepth 100000 in
theorem am_k179 : am_okm 179 = true := by decide +kernel
