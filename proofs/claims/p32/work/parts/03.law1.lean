set_option maxRecDepth 100000 in
theorem px_cL4_ok : px_all (px_rowOk code) px_cL4 = true := qy_ok (by decide +kernel)
set_option maxRecDepth 100000 in
theorem px_cL5_ok : px_all (px_rowOk code) px_cL5 = true := qy_ok (by decide +kernel)
set_option maxRecDepth 100000 in
theorem px_cL6_ok : px_all (px_rowOk code) px_cL6 = true := qy_ok (by decide +kernel)
set_option maxRecDepth 100000 in
theorem px_cL7_ok : px_all (px_rowOk code) px_cL7 = true := qy_ok (by decide +kernel)
