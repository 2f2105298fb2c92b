set_option maxRecDepth 100000 in
theorem lp_ok44 : lp_okM 44 = true := by decide +kernel
set_option maxRecDepth 100000 in
theorem lp_ok45 : lp_okM 45 = true := by decide +kernel
set_option maxRecDepth 100000 in
theorem lp_ok46 : lp_okM 46 = true := by decide +kernel
set_option maxRecDepth 100000 in
theorem lp_ok47 : lp_okM 47 = true := by decide +kernel
set_option maxRecDepth 100000 in
theorem lp_ok48 : lp_okM 48 = true := by decide +kernel
set_option maxRecDepth 100000 in
theorem lp_ok49 : lp_okM 49 = true := by decide +kernel
set_option maxRecDepth 100000 in
theorem lp_ok50 : lp_okM 50 = true := by decide +kernel
set_option maxRecDepth 100000 in
theorem lp_ok51 : lp_okM 51 = true := by decide +kernel
set_option maxRecDepth 100000 in
theorem lp_ok52 : lp_okM 52 = true := by decide +kernel
set_option maxRecDepth 100000 in
theorem lp_ok53 : lp_okM 53 = true := by decide +kernel
set_option maxRecDepth 100000 in
theorem lp_ok54 : lp_okM 54 = true := by decide +kernel
set_option maxRecDepth 100000 in
theorem lp_ok55 : lp_okM 55 = true := by decide +kernel
set_option maxRecDepth 100000 in
theorem lp_ok56 : lp_okM 56 = true := by decide +kernel
set_option maxRecDepth 100000 in
theorem lp_ok57 : lp_okM 57 = true := by decide +kernel
set_option maxRecDepth 100000 in
theorem lp_ok58 : lp_okM 58 = true := by decide +kernel
set_option maxRecDepth 100000 in
theorem lp_ok59 : lp_okM 59 = true := by decide +kernel
set_option maxRecDepth 100000 in
theorem lp_ok60 : lp_okM 60 = true := by decide +kernel
set_option maxRecDepth 100000 in
theorem lp_ok61 : lp_okM 61 = true := by decide +kernel
set_option maxRecDepth 100000 in
theorem lp_ok62 : lp_okM 62 = true := by decide +kernel
set_option maxRecDepth 100000 in
theorem lp_ok63 : lp_okM 63 = true := by decide +kernel
set_option maxRecDepth 100000 in
theorem lp_ok64 : lp_okM 64 = true := by decide +kernel
set_option maxRecDepth 100000 in
theorem lp_ok65 : lp_okM 65 = true := by decide +kernel
set_option maxRecDepth 100000 in
theorem lp_ok66 : lp_okM 66 = true := by decide +kernel
set_option maxRecDepth 100000 in
theorem lp_ok67 : lp_okM 67 = true := by decide +kernel
set_option maxRecDepth 100000 in
theorem lp_ok68 : lp_okM 68 = true := by decide +kernel
set_option maxRecDepth 100000 in
theorem lp_ok69 : lp_okM 69 = true := by decide +kernel
set_option maxRecDepth 100000 in
theorem lp_ok70 : lp_okM 70 = true := by decide +kernel
set_option maxRecDepth 100000 in
theorem lp_ok71 : lp_okM 71 = true := by decide +kernel
set_option maxRecDepth 100000 in
theorem lp_ok72 : lp_okM 72 = true := by decide +kernel
set_option maxRecDepth 100000 in
theorem lp_ok73 : lp_okM 73 = true := by decide +kernel
set_option maxRecDepth 100000 in
theorem lp_ok74 : lp_okM 74 = true := by decide +kernel
set_option maxRecDepth 100000 in
theorem lp_ok75 : lp_okM 75 = true := by decide +kernel
set_option maxRecDepth 100000 in
theorem lp_ok76 : lp_okM 76 = true := by decide +kernel
set_option maxRecDepth 100000 in
theorem lp_ok77 : lp_okM 77 = true := by decide +kernel
set_option maxRecDepth 100000 in
theorem lp_ok78 : lp_okM 78 = true := by decide +kernel
set_option maxRecDepth 100000 in
theorem lp_ok79 : lp_okM 79 = true := by decide +kernel
set_option maxRecDepth 100000 in
theorem lp_ok80 : lp_okM 80 = true := by decide +kernel
set_option maxRecDepth 100000 in
theorem lp_ok81 : lp_okM 81 = true := by decide +kernel
set_option maxRecDepth 100000 in
theorem lp_ok82 : lp_okM 82 = true := by decide +kernel
set_option maxRecDepth 100000 in
theorem lp_ok83 : lp_okM 83 = true := by decide +kernel
set_option maxRecDepth 100000 in
theorem lp_ok84 : lp_okM 84 = true := by decide +kernel
set_option maxRecDepth 100000 in
theorem lp_ok85 : lp_okM 85 = true := by decide +kernel
set_option maxRecDepth 100000 in
theorem lp_ok86 : lp_okM 86 = true := by decide +kernel
