set_option maxRecDepth 100000 in
theorem px_cL0_ok : px_all (px_rowOk code) px_cL0 = true := qy_ok (by decide +kernel)
set_option maxRecDepth 100000 in
theorem px_cL1_ok : px_all (px_rowOk code) px_cL1 = true := qy_ok (by decide +kernel)
set_option maxRecDepth 100000 in
theorem px_cL2_ok : px_all (px_rowOk code) px_cL2 = true := qy_ok (by decide +kernel)
set_option maxRecDepth 100000 in
theorem px_cL3_ok : px_all (px_rowOk code) px_cL3 = true := qy_ok (by decide +kernel)
