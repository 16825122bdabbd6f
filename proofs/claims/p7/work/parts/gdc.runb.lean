/-! the constructor of the other one, worked out -/
set_option maxRecDepth 100000 in
theorem fl_go1 : fl_same (fy_go pg_G pg_TT fh_code (none, []) [] (fy_ev pg_G pg_TT fh_code (none, []) [] 1000) 281 8 fl_k0 []) fl_k1 = true := by decide +kernel
