set_option maxRecDepth 100000 in
theorem lp_ok284 : lp_okM 284 = true := by decide +kernel
set_option maxRecDepth 100000 in
theorem lp_ok285 : lp_okM 285 = true := by decide +kernel
set_option maxRecDepth 100000 in
theorem lp_ok286 : lp_okM 286 = true := by decide +kernel
set_option maxRecDepth 100000 in
theorem lp_ok287 : lp_okM 287 = true := by decide +kernel
set_option maxRecDepth 100000 in
theorem lp_ok288 : lp_okM 288 = true := by decide +kernel
set_option maxRecDepth 100000 in
theorem lp_ok289 : lp_okM 289 = true := by decide +kernel
set_option maxRecDepth 100000 in
theorem lp_ok290 : lp_okM 290 = true := by decide +kernel
set_option maxRecDepth 100000 in
theorem lp_ok291 : lp_okM 291 = true := by decide +kernel
set_option maxRecDepth 100000 in
theorem lp_ok292 : lp_okM 292 = true := by decide +kernel
