set_option maxRecDepth 100000 in
theorem px_cL8_ok : px_all (px_rowOk code) px_cL8 = true := qy_ok (by decide +kernel)
set_option maxRecDepth 100000 in
theorem px_cL9_ok : px_all (px_rowOk code) px_cL9 = true := qy_ok (by decide +kernel)
set_option maxRecDepth 100000 in
theorem px_cL10_ok : px_all (px_rowOk code) px_cL10 = true := qy_ok (by decide +kernel)
set_option maxRecDepth 100000 in
theorem px_cL11_ok : px_all (px_rowOk code) px_cL11 = true := qy_ok (by decide +kernel)
theorem px_c328_ok : px_all (px_rowOk code) px_c328 = true := (px_allB (px_allB (px_allB px_cL0_ok (px_allB px_cL1_ok px_cL2_ok)) (px_allB px_cL3_ok (px_allB px_cL4_ok px_cL5_ok))) (px_allB (px_allB px_cL6_ok (px_allB px_cL7_ok px_cL8_ok)) (px_allB px_cL9_ok (px_allB px_cL10_ok px_cL11_ok))))
