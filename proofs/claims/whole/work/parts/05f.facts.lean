set_option maxRecDepth 100000 in
theorem lp_ok210 : lp_okM 210 = true := by decide +kernel
set_option maxRecDepth 100000 in
theorem lp_ok211 : lp_okM 211 = true := by decide +kernel
set_option maxRecDepth 100000 in
theorem lp_ok212 : lp_okM 212 = true := by decide +kernel
set_option maxRecDepth 100000 in
theorem lp_ok213 : lp_okM 213 = true := by decide +kernel
set_option maxRecDepth 100000 in
theorem lp_ok214 : lp_okM 214 = true := by decide +kernel
set_option maxRecDepth 100000 in
theorem lp_ok215 : lp_okM 215 = true := by decide +kernel
set_option maxRecDepth 100000 in
theorem lp_ok216 : lp_okM 216 = true := by decide +kernel
set_option maxRecDepth 100000 in
theorem lp_ok217 : lp_okM 217 = true := by decide +kernel
set_option maxRecDepth 100000 in
theorem lp_ok218 : lp_okM 218 = true := by decide +kernel
set_option maxRecDepth 100000 in
theorem lp_ok219 : lp_okM 219 = true := by decide +kernel
set_option maxRecDepth 100000 in
theorem lp_ok220 : lp_okM 220 = true := by decide +kernel
set_option maxRecDepth 100000 in
theorem lp_ok221 : lp_okM 221 = true := by decide +kernel
set_option maxRecDepth 100000 in
theorem lp_ok222 : lp_okM 222 = true := by decide +kernel
set_option maxRecDepth 100000 in
theorem lp_ok223 : lp_okM 223 = true := by decide +kernel
set_option maxRecDepth 100000 in
theorem lp_ok224 : lp_okM 224 = true := by decide +kernel
set_option maxRecDepth 100000 in
theorem lp_ok225 : lp_okM 225 = true := by decide +kernel
set_option maxRecDepth 100000 in
theorem lp_ok226 : lp_okM 226 = true := by decide +kernel
set_option maxRecDepth 100000 in
theorem lp_ok227 : lp_okM 227 = true := by decide +kernel
set_option maxRecDepth 100000 in
theorem lp_ok228 : lp_okM 228 = true := by decide +kernel
set_option maxRecDepth 100000 in
theorem lp_ok229 : lp_okM 229 = true := by decide +kernel
set_option maxRecDepth 100000 in
theorem lp_ok230 : lp_okM 230 = true := by decide +kernel
set_option maxRecDepth 100000 in
theorem lp_ok231 : lp_okM 231 = true := by decide +kernel
set_option maxRecDepth 100000 in
theorem lp_ok232 : lp_okM 232 = true := by decide +kernel
set_option maxRecDepth 100000 in
theorem lp_ok233 : lp_okM 233 = true := by decide +kernel
set_option maxRecDepth 100000 in
theorem lp_ok234 : lp_okM 234 = true := by decide +kernel
set_option maxRecDepth 100000 in
theorem lp_ok235 : lp_okM 235 = true := by decide +kernel
set_option maxRecDepth 100000 in
theorem lp_ok236 : lp_okM 236 = true := by decide +kernel
set_option maxRecDepth 100000 in
theorem lp_ok237 : lp_okM 237 = true := by decide +kernel
set_option maxRecDepth 100000 in
theorem lp_ok238 : lp_okM 238 = true := by decide +kernel
set_option maxRecDepth 100000 in
theorem lp_ok239 : lp_okM 239 = true := by decide +kernel
set_option maxRecDepth 100000 in
theorem lp_ok240 : lp_okM 240 = true := by decide +kernel
set_option maxRecDepth 100000 in
theorem lp_ok241 : lp_okM 241 = true := by decide +kernel
set_option maxRecDepth 100000 in
theorem lp_ok242 : lp_okM 242 = true := by decide +kernel
set_option maxRecDepth 100000 in
theorem lp_ok243 : lp_okM 243 = true := by decide +kernel
set_option maxRecDepth 100000 in
theorem lp_ok244 : lp_okM 244 = true := by decide +kernel
set_option maxRecDepth 100000 in
theorem lp_ok245 : lp_okM 245 = true := by decide +kernel
set_option maxRecDepth 100000 in
theorem lp_ok246 : lp_okM 246 = true := by decide +kernel
set_option maxRecDepth 100000 in
theorem lp_ok247 : lp_okM 247 = true := by decide +kernel
set_option maxRecDepth 100000 in
theorem lp_ok248 : lp_okM 248 = true := by decide +kernel
set_option maxRecDepth 100000 in
theorem lp_ok249 : lp_okM 249 = true := by decide +kernel
set_option maxRecDepth 100000 in
theorem lp_ok250 : lp_okM 250 = true := by decide +kernel
