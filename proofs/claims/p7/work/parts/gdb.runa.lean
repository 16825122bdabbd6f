/-! the constructor of the desk, worked out -/
set_option maxRecDepth 100000 in
theorem fl_go0 : fl_same (fy_go pg_G pg_TT fh_code (none, []) [] (fy_ev pg_G pg_TT fh_code (none, []) [] 1000) 281 3 fl_ke []) fl_k0 = true := by decide +kernel
