set_option maxRecDepth 100000 in
theorem lp_ok251 : lp_okM 251 = true := by decide +kernel
set_option maxRecDepth 100000 in
theorem lp_ok252 : lp_okM 252 = true := by decide +kernel
set_option maxRecDepth 100000 in
theorem lp_ok253 : lp_okM 253 = true := by decide +kernel
set_option maxRecDepth 100000 in
theorem lp_ok254 : lp_okM 254 = true := by decide +kernel
set_option maxRecDepth 100000 in
theorem lp_ok255 : lp_okM 255 = true := by decide +kernel
set_option maxRecDepth 100000 in
theorem lp_ok256 : lp_okM 256 = true := by decide +kernel
set_option maxRecDepth 100000 in
theorem lp_ok257 : lp_okM 257 = true := by decide +kernel
set_option maxRecDepth 100000 in
theorem lp_ok258 : lp_okM 258 = true := by decide +kernel
set_option maxRecDepth 100000 in
theorem lp_ok259 : lp_okM 259 = true := by decide +kernel
set_option maxRecDepth 100000 in
theorem lp_ok260 : lp_okM 260 = true := by decide +kernel
set_option maxRecDepth 100000 in
theorem lp_ok261 : lp_okM 261 = true := by decide +kernel
set_option maxRecDepth 100000 in
theorem lp_ok262 : lp_okM 262 = true := by decide +kernel
set_option maxRecDepth 100000 in
theorem lp_ok263 : lp_okM 263 = true := by decide +kernel
set_option maxRecDepth 100000 in
theorem lp_ok264 : lp_okM 264 = true := by decide +kernel
set_option maxRecDepth 100000 in
theorem lp_ok265 : lp_okM 265 = true := by decide +kernel
set_option maxRecDepth 100000 in
theorem lp_ok266 : lp_okM 266 = true := by decide +kernel
set_option maxRecDepth 100000 in
theorem lp_ok267 : lp_okM 267 = true := by decide +kernel
set_option maxRecDepth 100000 in
theorem lp_ok268 : lp_okM 268 = true := by decide +kernel
set_option maxRecDepth 100000 in
theorem lp_ok269 : lp_okM 269 = true := by decide +kernel
set_option maxRecDepth 100000 in
theorem lp_ok270 : lp_okM 270 = true := by decide +kernel
set_option maxRecDepth 100000 in
theorem lp_ok271 : lp_okM 271 = true := by decide +kernel
set_option maxRecDepth 100000 in
theorem lp_ok272 : lp_okM 272 = true := by decide +kernel
set_option maxRecDepth 100000 in
theorem lp_ok273 : lp_okM 273 = true := by decide +kernel
set_option maxRecDepth 100000 in
theorem lp_ok274 : lp_okM 274 = true := by decide +kernel
set_option maxRecDepth 100000 in
theorem lp_ok275 : lp_okM 275 = true := by decide +kernel
set_option maxRecDepth 100000 in
theorem lp_ok276 : lp_okM 276 = true := by decide +kernel
set_option maxRecDepth 100000 in
theorem lp_ok277 : lp_okM 277 = true := by decide +kernel
set_option maxRecDepth 100000 in
theorem lp_ok278 : lp_okM 278 = true := by decide +kernel
set_option maxRecDepth 100000 in
theorem lp_ok279 : lp_okM 279 = true := by decide +kernel
set_option maxRecDepth 100000 in
theorem lp_ok280 : lp_okM 280 = true := by decide +kernel
set_option maxRecDepth 100000 in
theorem lp_ok281 : lp_okM 281 = true := by decide +kernel
set_option maxRecDepth 100000 in
theorem lp_ok282 : lp_okM 282 = true := by decide +kernel
set_option maxRecDepth 100000 in
theorem lp_ok283 : lp_okM 283 = true := by decide +kernel
