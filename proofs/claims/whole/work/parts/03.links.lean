set_option maxRecDepth 100000 in
theorem fl_all : (flT.zip flP).all (fun q => decide (lw_tbl[q.2]? = some (flw q.1))) = true := by decide +kernel
