/-! ===== the law: its blocks (7) ===== -/
def bkL_2058 : List gw_E := [(2058, 3, .iinc 3 5, [3], [5], []), (2061, 3, .goto (-2043), [18], [], [])]
set_option maxRecDepth 40000 in
theorem ckL_2058 : lw_ck 2058 bkL_2058 = true := by decide +kernel
def bkL_2064 : List gw_E := [(2064, 1, .iconst 1, [], [1], []), (2065, 1, .ireturn, [1], [], [])]
set_option maxRecDepth 40000 in
theorem ckL_2064 : lw_ck 2064 bkL_2064 = true := by decide +kernel
