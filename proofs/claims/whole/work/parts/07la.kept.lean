set_option maxRecDepth 100000 in
theorem gkl_0 : lawr_0.all (am_rowok 15 code) = true := by decide +kernel
set_option maxRecDepth 100000 in
theorem gkl_1 : lawr_1.all (am_rowok 15 code) = true := by decide +kernel
set_option maxRecDepth 100000 in
theorem gkl_2 : lawr_2.all (am_rowok 15 code) = true := by decide +kernel
set_option maxRecDepth 100000 in
theorem gkl_3 : lawr_3.all (am_rowok 15 code) = true := by decide +kernel
set_option maxRecDepth 100000 in
theorem gkl_4 : lawr_4.all (am_rowok 15 code) = true := by decide +kernel
