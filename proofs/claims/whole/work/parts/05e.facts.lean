set_option maxRecDepth 100000 in
theorem lp_ok176 : lp_okM 176 = true := by decide +kernel
set_option maxRecDepth 100000 in
theorem lp_ok177 : lp_okM 177 = true := by decide +kernel
set_option maxRecDepth 100000 in
theorem lp_ok178 : lp_okM 178 = true := by decide +kernel
set_option maxRecDepth 100000 in
theorem lp_ok179 : lp_okM 179 = true := by decide +kernel
set_option maxRecDepth 100000 in
theorem lp_ok180 : lp_okM 180 = true := by decide +kernel
set_option maxRecDepth 100000 in
theorem lp_ok181 : lp_okM 181 = true := by decide +kernel
set_option maxRecDepth 100000 in
theorem lp_ok182 : lp_okM 182 = true := by decide +kernel
set_option maxRecDepth 100000 in
theorem lp_ok183 : lp_okM 183 = true := by decide +kernel
set_option maxRecDepth 100000 in
theorem lp_ok184 : lp_okM 184 = true := by decide +kernel
set_option maxRecDepth 100000 in
theorem lp_ok185 : lp_okM 185 = true := by decide +kernel
set_option maxRecDepth 100000 in
theorem lp_ok186 : lp_okM 186 = true := by decide +kernel
set_option maxRecDepth 100000 in
theorem lp_ok187 : lp_okM 187 = true := by decide +kernel
set_option maxRecDepth 100000 in
theorem lp_ok188 : lp_okM 188 = true := by decide +kernel
set_option maxRecDepth 100000 in
theorem lp_ok189 : lp_okM 189 = true := by decide +kernel
set_option maxRecDepth 100000 in
theorem lp_ok190 : lp_okM 190 = true := by decide +kernel
set_option maxRecDepth 100000 in
theorem lp_ok191 : lp_okM 191 = true := by decide +kernel
set_option maxRecDepth 100000 in
theorem lp_ok192 : lp_okM 192 = true := by decide +kernel
set_option maxRecDepth 100000 in
theorem lp_ok193 : lp_okM 193 = true := by decide +kernel
set_option maxRecDepth 100000 in
theorem lp_ok194 : lp_okM 194 = true := by decide +kernel
set_option maxRecDepth 100000 in
theorem lp_ok195 : lp_okM 195 = true := by decide +kernel
set_option maxRecDepth 100000 in
theorem lp_ok196 : lp_okM 196 = true := by decide +kernel
set_option maxRecDepth 100000 in
theorem lp_ok197 : lp_okM 197 = true := by decide +kernel
set_option maxRecDepth 100000 in
theorem lp_ok198 : lp_okM 198 = true := by decide +kernel
set_option maxRecDepth 100000 in
theorem lp_ok199 : lp_okM 199 = true := by decide +kernel
set_option maxRecDepth 100000 in
theorem lp_ok200 : lp_okM 200 = true := by decide +kernel
set_option maxRecDepth 100000 in
theorem lp_ok201 : lp_okM 201 = true := by decide +kernel
set_option maxRecDepth 100000 in
theorem lp_ok202 : lp_okM 202 = true := by decide +kernel
set_option maxRecDepth 100000 in
theorem lp_ok203 : lp_okM 203 = true := by decide +kernel
set_option maxRecDepth 100000 in
theorem lp_ok204 : lp_okM 204 = true := by decide +kernel
set_option maxRecDepth 100000 in
theorem lp_ok205 : lp_okM 205 = true := by decide +kernel
set_option maxRecDepth 100000 in
theorem lp_ok206 : lp_okM 206 = true := by decide +kernel
set_option maxRecDepth 100000 in
theorem lp_ok207 : lp_okM 207 = true := by decide +kernel
set_option maxRecDepth 100000 in
theorem lp_ok208 : lp_okM 208 = true := by decide +kernel
set_option maxRecDepth 100000 in
theorem lp_ok209 : lp_okM 209 = true := by decide +kernel
