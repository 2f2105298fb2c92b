set_option maxRecDepth 100000 in
theorem lp_ok0 : lp_okM 0 = true := by decide +kernel
set_option maxRecDepth 100000 in
theorem lp_ok1 : lp_okM 1 = true := by decide +kernel
set_option maxRecDepth 100000 in
theorem lp_ok2 : lp_okM 2 = true := by decide +kernel
set_option maxRecDepth 100000 in
theorem lp_ok3 : lp_okM 3 = true := by decide +kernel
set_option maxRecDepth 100000 in
theorem lp_ok4 : lp_okM 4 = true := by decide +kernel
set_option maxRecDepth 100000 in
theorem lp_ok5 : lp_okM 5 = true := by decide +kernel
set_option maxRecDepth 100000 in
theorem lp_ok6 : lp_okM 6 = true := by decide +kernel
set_option maxRecDepth 100000 in
theorem lp_ok7 : lp_okM 7 = true := by decide +kernel
set_option maxRecDepth 100000 in
theorem lp_ok8 : lp_okM 8 = true := by decide +kernel
set_option maxRecDepth 100000 in
theorem lp_ok9 : lp_okM 9 = true := by decide +kernel
set_option maxRecDepth 100000 in
theorem lp_ok10 : lp_okM 10 = true := by decide +kernel
set_option maxRecDepth 100000 in
theorem lp_ok11 : lp_okM 11 = true := by decide +kernel
set_option maxRecDepth 100000 in
theorem lp_ok12 : lp_okM 12 = true := by decide +kernel
set_option maxRecDepth 100000 in
theorem lp_ok13 : lp_okM 13 = true := by decide +kernel
set_option maxRecDepth 100000 in
theorem lp_ok14 : lp_okM 14 = true := by decide +kernel
set_option maxRecDepth 100000 in
theorem lp_ok15 : lp_okM 15 = true := by decide +kernel
set_option maxRecDepth 100000 in
theorem lp_ok16 : lp_okM 16 = true := by decide +kernel
set_option maxRecDepth 100000 in
theorem lp_ok17 : lp_okM 17 = true := by decide +kernel
set_option maxRecDepth 100000 in
theorem lp_ok18 : lp_okM 18 = true := by decide +kernel
set_option maxRecDepth 100000 in
theorem lp_ok19 : lp_okM 19 = true := by decide +kernel
set_option maxRecDepth 100000 in
theorem lp_ok20 : lp_okM 20 = true := by decide +kernel
set_option maxRecDepth 100000 in
theorem lp_ok21 : lp_okM 21 = true := by decide +kernel
set_option maxRecDepth 100000 in
theorem lp_ok22 : lp_okM 22 = true := by decide +kernel
set_option maxRecDepth 100000 in
theorem lp_ok23 : lp_okM 23 = true := by decide +kernel
set_option maxRecDepth 100000 in
theorem lp_ok24 : lp_okM 24 = true := by decide +kernel
set_option maxRecDepth 100000 in
theorem lp_ok25 : lp_okM 25 = true := by decide +kernel
set_option maxRecDepth 100000 in
theorem lp_ok26 : lp_okM 26 = true := by decide +kernel
set_option maxRecDepth 100000 in
theorem lp_ok27 : lp_okM 27 = true := by decide +kernel
set_option maxRecDepth 100000 in
theorem lp_ok28 : lp_okM 28 = true := by decide +kernel
set_option maxRecDepth 100000 in
theorem lp_ok29 : lp_okM 29 = true := by decide +kernel
set_option maxRecDepth 100000 in
theorem lp_ok30 : lp_okM 30 = true := by decide +kernel
set_option maxRecDepth 100000 in
theorem lp_ok31 : lp_okM 31 = true := by decide +kernel
set_option maxRecDepth 100000 in
theorem lp_ok32 : lp_okM 32 = true := by decide +kernel
set_option maxRecDepth 100000 in
theorem lp_ok33 : lp_okM 33 = true := by decide +kernel
set_option maxRecDepth 100000 in
theorem lp_ok34 : lp_okM 34 = true := by decide +kernel
set_option maxRecDepth 100000 in
theorem lp_ok35 : lp_okM 35 = true := by decide +kernel
set_option maxRecDepth 100000 in
theorem lp_ok36 : lp_okM 36 = true := by decide +kernel
set_option maxRecDepth 100000 in
theorem lp_ok37 : lp_okM 37 = true := by decide +kernel
set_option maxRecDepth 100000 in
theorem lp_ok38 : lp_okM 38 = true := by decide +kernel
set_option maxRecDepth 100000 in
theorem lp_ok39 : lp_okM 39 = true := by decide +kernel
set_option maxRecDepth 100000 in
theorem lp_ok40 : lp_okM 40 = true := by decide +kernel
set_option maxRecDepth 100000 in
theorem lp_ok41 : lp_okM 41 = true := by decide +kernel
set_option maxRecDepth 100000 in
theorem lp_ok42 : lp_okM 42 = true := by decide +kernel
set_option maxRecDepth 100000 in
theorem lp_ok43 : lp_okM 43 = true := by decide +kernel
