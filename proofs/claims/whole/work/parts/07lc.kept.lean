set_option maxRecDepth 100000 in
theorem gkl_10 : lawr_10.all (am_rowok 15 code) = true := by decide +kernel
set_option maxRecDepth 100000 in
theorem gkl_11 : lawr_11.all (am_rowok 15 code) = true := by decide +kernel
set_option maxRecDepth 100000 in
theorem gkl_12 : lawr_12.all (am_rowok 15 code) = true := by decide +kernel
set_option maxRecDepth 100000 in
theorem gkl_13 : lawr_13.all (am_rowok 15 code) = true := by decide +kernel
set_option maxRecDepth 100000 in
theorem gkl_14 : lawr_14.all (am_rowok 15 code) = true := by decide +kernel
