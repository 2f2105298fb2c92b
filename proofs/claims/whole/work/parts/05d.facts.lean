set_option maxRecDepth 100000 in
theorem lp_ok132 : lp_okM 132 = true := by decide +kernel
set_option maxRecDepth 100000 in
theorem lp_ok133 : lp_okM 133 = true := by decide +kernel
set_option maxRecDepth 100000 in
theorem lp_ok134 : lp_okM 134 = true := by decide +kernel
set_option maxRecDepth 100000 in
theorem lp_ok135 : lp_okM 135 = true := by decide +kernel
set_option maxRecDepth 100000 in
theorem lp_ok136 : lp_okM 136 = true := by decide +kernel
set_option maxRecDepth 100000 in
theorem lp_ok137 : lp_okM 137 = true := by decide +kernel
set_option maxRecDepth 100000 in
theorem lp_ok138 : lp_okM 138 = true := by decide +kernel
set_option maxRecDepth 100000 in
theorem lp_ok139 : lp_okM 139 = true := by decide +kernel
set_option maxRecDepth 100000 in
theorem lp_ok140 : lp_okM 140 = true := by decide +kernel
set_option maxRecDepth 100000 in
theorem lp_ok141 : lp_okM 141 = true := by decide +kernel
set_option maxRecDepth 100000 in
theorem lp_ok142 : lp_okM 142 = true := by decide +kernel
set_option maxRecDepth 100000 in
theorem lp_ok143 : lp_okM 143 = true := by decide +kernel
set_option maxRecDepth 100000 in
theorem lp_ok144 : lp_okM 144 = true := by decide +kernel
set_option maxRecDepth 100000 in
theorem lp_ok145 : lp_okM 145 = true := by decide +kernel
set_option maxRecDepth 100000 in
theorem lp_ok146 : lp_okM 146 = true := by decide +kernel
set_option maxRecDepth 100000 in
theorem lp_ok147 : lp_okM 147 = true := by decide +kernel
set_option maxRecDepth 100000 in
theorem lp_ok148 : lp_okM 148 = true := by decide +kernel
set_option maxRecDepth 100000 in
theorem lp_ok149 : lp_okM 149 = true := by decide +kernel
set_option maxRecDepth 100000 in
theorem lp_ok150 : lp_okM 150 = true := by decide +kernel
set_option maxRecDepth 100000 in
theorem lp_ok151 : lp_okM 151 = true := by decide +kernel
set_option maxRecDepth 100000 in
theorem lp_ok152 : lp_okM 152 = true := by decide +kernel
set_option maxRecDepth 100000 in
theorem lp_ok153 : lp_okM 153 = true := by decide +kernel
set_option maxRecDepth 100000 in
theorem lp_ok154 : lp_okM 154 = true := by decide +kernel
set_option maxRecDepth 100000 in
theorem lp_ok155 : lp_okM 155 = true := by decide +kernel
set_option maxRecDepth 100000 in
theorem lp_ok156 : lp_okM 156 = true := by decide +kernel
set_option maxRecDepth 100000 in
theorem lp_ok157 : lp_okM 157 = true := by decide +kernel
set_option maxRecDepth 100000 in
theorem lp_ok158 : lp_okM 158 = true := by decide +kernel
set_option maxRecDepth 100000 in
theorem lp_ok159 : lp_okM 159 = true := by decide +kernel
set_option maxRecDepth 100000 in
theorem lp_ok160 : lp_okM 160 = true := by decide +kernel
set_option maxRecDepth 100000 in
theorem lp_ok161 : lp_okM 161 = true := by decide +kernel
set_option maxRecDepth 100000 in
theorem lp_ok162 : lp_okM 162 = true := by decide +kernel
set_option maxRecDepth 100000 in
theorem lp_ok163 : lp_okM 163 = true := by decide +kernel
set_option maxRecDepth 100000 in
theorem lp_ok164 : lp_okM 164 = true := by decide +kernel
set_option maxRecDepth 100000 in
theorem lp_ok165 : lp_okM 165 = true := by decide +kernel
set_option maxRecDepth 100000 in
theorem lp_ok166 : lp_okM 166 = true := by decide +kernel
set_option maxRecDepth 100000 in
theorem lp_ok167 : lp_okM 167 = true := by decide +kernel
set_option maxRecDepth 100000 in
theorem lp_ok168 : lp_okM 168 = true := by decide +kernel
set_option maxRecDepth 100000 in
theorem lp_ok169 : lp_okM 169 = true := by decide +kernel
set_option maxRecDepth 100000 in
theorem lp_ok170 : lp_okM 170 = true := by decide +kernel
set_option maxRecDepth 100000 in
theorem lp_ok171 : lp_okM 171 = true := by decide +kernel
set_option maxRecDepth 100000 in
theorem lp_ok172 : lp_okM 172 = true := by decide +kernel
set_option maxRecDepth 100000 in
theorem lp_ok173 : lp_okM 173 = true := by decide +kernel
set_option maxRecDepth 100000 in
theorem lp_ok174 : lp_okM 174 = true := by decide +kernel
set_option maxRecDepth 100000 in
theorem lp_ok175 : lp_okM 175 = true := by decide +kernel
