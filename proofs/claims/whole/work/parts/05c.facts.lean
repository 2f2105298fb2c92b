set_option maxRecDepth 100000 in
theorem lp_ok87 : lp_okM 87 = true := by decide +kernel
set_option maxRecDepth 100000 in
theorem lp_ok88 : lp_okM 88 = true := by decide +kernel
set_option maxRecDepth 100000 in
theorem lp_ok89 : lp_okM 89 = true := by decide +kernel
set_option maxRecDepth 100000 in
theorem lp_ok90 : lp_okM 90 = true := by decide +kernel
set_option maxRecDepth 100000 in
theorem lp_ok91 : lp_okM 91 = true := by decide +kernel
set_option maxRecDepth 100000 in
theorem lp_ok92 : lp_okM 92 = true := by decide +kernel
set_option maxRecDepth 100000 in
theorem lp_ok93 : lp_okM 93 = true := by decide +kernel
set_option maxRecDepth 100000 in
theorem lp_ok94 : lp_okM 94 = true := by decide +kernel
set_option maxRecDepth 100000 in
theorem lp_ok95 : lp_okM 95 = true := by decide +kernel
set_option maxRecDepth 100000 in
theorem lp_ok96 : lp_okM 96 = true := by decide +kernel
set_option maxRecDepth 100000 in
theorem lp_ok97 : lp_okM 97 = true := by decide +kernel
set_option maxRecDepth 100000 in
theorem lp_ok98 : lp_okM 98 = true := by decide +kernel
set_option maxRecDepth 100000 in
theorem lp_ok99 : lp_okM 99 = true := by decide +kernel
set_option maxRecDepth 100000 in
theorem lp_ok100 : lp_okM 100 = true := by decide +kernel
set_option maxRecDepth 100000 in
theorem lp_ok101 : lp_okM 101 = true := by decide +kernel
set_option maxRecDepth 100000 in
theorem lp_ok102 : lp_okM 102 = true := by decide +kernel
set_option maxRecDepth 100000 in
theorem lp_ok103 : lp_okM 103 = true := by decide +kernel
set_option maxRecDepth 100000 in
theorem lp_ok104 : lp_okM 104 = true := by decide +kernel
set_option maxRecDepth 100000 in
theorem lp_ok105 : lp_okM 105 = true := by decide +kernel
set_option maxRecDepth 100000 in
theorem lp_ok106 : lp_okM 106 = true := by decide +kernel
set_option maxRecDepth 100000 in
theorem lp_ok107 : lp_okM 107 = true := by decide +kernel
set_option maxRecDepth 100000 in
theorem lp_ok108 : lp_okM 108 = true := by decide +kernel
set_option maxRecDepth 100000 in
theorem lp_ok109 : lp_okM 109 = true := by decide +kernel
set_option maxRecDepth 100000 in
theorem lp_ok110 : lp_okM 110 = true := by decide +kernel
set_option maxRecDepth 100000 in
theorem lp_ok111 : lp_okM 111 = true := by decide +kernel
set_option maxRecDepth 100000 in
theorem lp_ok112 : lp_okM 112 = true := by decide +kernel
set_option maxRecDepth 100000 in
theorem lp_ok113 : lp_okM 113 = true := by decide +kernel
set_option maxRecDepth 100000 in
theorem lp_ok114 : lp_okM 114 = true := by decide +kernel
set_option maxRecDepth 100000 in
theorem lp_ok115 : lp_okM 115 = true := by decide +kernel
set_option maxRecDepth 100000 in
theorem lp_ok116 : lp_okM 116 = true := by decide +kernel
set_option maxRecDepth 100000 in
theorem lp_ok117 : lp_okM 117 = true := by decide +kernel
set_option maxRecDepth 100000 in
theorem lp_ok118 : lp_okM 118 = true := by decide +kernel
set_option maxRecDepth 100000 in
theorem lp_ok119 : lp_okM 119 = true := by decide +kernel
set_option maxRecDepth 100000 in
theorem lp_ok120 : lp_okM 120 = true := by decide +kernel
set_option maxRecDepth 100000 in
theorem lp_ok121 : lp_okM 121 = true := by decide +kernel
set_option maxRecDepth 100000 in
theorem lp_ok122 : lp_okM 122 = true := by decide +kernel
set_option maxRecDepth 100000 in
theorem lp_ok123 : lp_okM 123 = true := by decide +kernel
set_option maxRecDepth 100000 in
theorem lp_ok124 : lp_okM 124 = true := by decide +kernel
set_option maxRecDepth 100000 in
theorem lp_ok125 : lp_okM 125 = true := by decide +kernel
set_option maxRecDepth 100000 in
theorem lp_ok126 : lp_okM 126 = true := by decide +kernel
set_option maxRecDepth 100000 in
theorem lp_ok127 : lp_okM 127 = true := by decide +kernel
set_option maxRecDepth 100000 in
theorem lp_ok128 : lp_okM 128 = true := by decide +kernel
set_option maxRecDepth 100000 in
theorem lp_ok129 : lp_okM 129 = true := by decide +kernel
set_option maxRecDepth 100000 in
theorem lp_ok130 : lp_okM 130 = true := by decide +kernel
set_option maxRecDepth 100000 in
theorem lp_ok131 : lp_okM 131 = true := by decide +kernel
