/-! ===== levels: whether they are told; digits ===== -/
theorem s143 {d : Nat} {g : lp_M} {r : Nat → Int32} (hr : lp_Ok r) (c : lp_CN g 1 r) : lp_rn (d + 2) 143 [.ref 0] (lp_s0 g) = some (nI (lp_vM r ^ lp_vN r), lp_s0 g) := by
  have hn : lp_vN r ≤ 10 := hr.2.2.2.1
  have g10 : g 1 0 = nI (lp_vM r) := c.1.trans hr.1
  have g11 : g 1 1 = nI (lp_vN r) := c.2.1.trans hr.2.2.1
  rw [e143_0, g10, g11, s160 (by omega), Option.bind_some, e143_0_17]
theorem s144 {d : Nat} {g : lp_M} {r : Nat → Int32} (hr : lp_Ok r) (c : lp_CN g 1 r) : lp_rn (d + 3) 144 [.ref 0] (lp_s0 g) = some (if 60000 < lp_vM r ^ lp_vN r then nI 0 else nI 1, lp_s0 g) := by
  have hn : lp_vN r ≤ 10 := hr.2.2.2.1
  have hp := lp_pow_lt hr hn
  rw [e144_0, s143 hr c, Option.bind_some, e144_0_4]
  by_cases z : 60000 < lp_vM r ^ lp_vN r
  · rw [if_pos (show nI 60000 < nI (lp_vM r ^ lp_vN r) by rw [nI_ltI (by omega) (by omega)]; exact z), if_pos z]
  · rw [if_neg (show ¬ nI 60000 < nI (lp_vM r ^ lp_vN r) by rw [nI_ltI (by omega) (by omega)]; exact z), if_neg z]
