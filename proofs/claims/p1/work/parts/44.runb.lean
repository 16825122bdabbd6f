/-! the constructor of the other one, worked out -/
set_option maxRecDepth 100000 in
theorem fl_go1 : fl_same (fy_go fg_G fg_T fh_code (none, []) [] (fy_ev fg_G fg_T fh_code (none, []) [] 1000) 97 8 fl_k0 []) fl_k1 = true := by decide +kernel
