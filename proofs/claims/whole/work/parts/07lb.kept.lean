set_option maxRecDepth 100000 in
theorem gkl_5 : lawr_5.all (am_rowok 15 code) = true := by decide +kernel
set_option maxRecDepth 100000 in
theorem gkl_6 : lawr_6.all (am_rowok 15 code) = true := by decide +kernel
set_option maxRecDepth 100000 in
theorem gkl_7 : lawr_7.all (am_rowok 15 code) = true := by decide +kernel
set_option maxRecDepth 100000 in
theorem gkl_8 : lawr_8.all (am_rowok 15 code) = true := by decide +kernel
set_option maxRecDepth 100000 in
theorem gkl_9 : lawr_9.all (am_rowok 15 code) = true := by decide +kernel
