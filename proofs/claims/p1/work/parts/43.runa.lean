/-! the constructor of the desk, worked out -/
set_option maxRecDepth 100000 in
theorem fl_go0 : fl_same (fy_go fg_G fg_T fh_code (none, []) [] (fy_ev fg_G fg_T fh_code (none, []) [] 1000) 97 3 fl_k []) fl_k0 = true := by decide +kernel
