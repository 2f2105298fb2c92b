/-! ===== the law out of a run of the small machine ===== -/
/-- the start: no cells; the script behind all cells -/
def lp_st0 (L : Nat) (xs : Nat → Int32) : lp_S := (0, fun _ _ => .null, fun k j => if k = 998 then (if j = 0 then Int32.ofNat L else 0) else if k = 999 then xs j else 0)
theorem lp_slots : lp_sl 369 ≤ 7302250 := by decide +kernel
