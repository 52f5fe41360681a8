set_option maxRecDepth 100000 in
theorem px_c0_ok : px_all (px_rowOk prog_1_method_1_code) px_c0 = true := qy_ok (by decide +kernel)
set_option maxRecDepth 100000 in
theorem px_c1_ok : px_all (px_rowOk prog_4_method_1_code) px_c1 = true := qy_ok (by decide +kernel)
set_option maxRecDepth 100000 in
theorem px_c2_ok : px_all (px_rowOk prog_4_method_12_code) px_c2 = true := qy_ok (by decide +kernel)
set_option maxRecDepth 100000 in
theorem px_c3_ok : px_all (px_rowOk prog_21_method_103_code) px_c3 = true := qy_ok (by decide +kernel)
set_option maxRecDepth 100000 in
theorem px_c4_ok : px_all (px_rowOk prog_10_method_1_code) px_c4 = true := qy_ok (by decide +kernel)
set_option maxRecDepth 100000 in
theorem px_c5_ok : px_all (px_rowOk prog_11_method_1_code) px_c5 = true := qy_ok (by decide +kernel)
set_option maxRecDepth 100000 in
theorem px_c6_ok : px_all (px_rowOk prog_7_method_1_code) px_c6 = true := qy_ok (by decide +kernel)
set_option maxRecDepth 100000 in
theorem px_c7_ok : px_all (px_rowOk prog_8_method_1_code) px_c7 = true := qy_ok (by decide +kernel)
set_option maxRecDepth 100000 in
theorem px_c8_ok : px_all (px_rowOk prog_9_method_1_code) px_c8 = true := qy_ok (by decide +kernel)
set_option maxRecDepth 100000 in
theorem px_c9_ok : px_all (px_rowOk prog_5_method_1_code) px_c9 = true := qy_ok (by decide +kernel)
set_option maxRecDepth 100000 in
theorem px_c10_ok : px_all (px_rowOk prog_6_method_1_code) px_c10 = true := qy_ok (by decide +kernel)
set_option maxRecDepth 100000 in
theorem px_c11_ok : px_all (px_rowOk prog_12_method_1_code) px_c11 = true := qy_ok (by decide +kernel)
set_option maxRecDepth 100000 in
theorem px_c12_ok : px_all (px_rowOk prog_2_method_1_code) px_c12 = true := qy_ok (by decide +kernel)
set_option maxRecDepth 100000 in
theorem px_c13_ok : px_all (px_rowOk prog_3_method_1_code) px_c13 = true := qy_ok (by decide +kernel)
set_option maxRecDepth 100000 in
theorem px_c14_ok : px_all (px_rowOk prog_1_method_2_code) px_c14 = true := qy_ok (by decide +kernel)
set_option maxRecDepth 100000 in
theorem px_c15_ok : px_all (px_rowOk prog_1_method_43_code) px_c15 = true := qy_ok (by decide +kernel)
set_option maxRecDepth 100000 in
theorem px_c16_ok : px_all (px_rowOk prog_4_method_6_code) px_c16 = true := qy_ok (by decide +kernel)
set_option maxRecDepth 100000 in
theorem px_c17_ok : px_all (px_rowOk prog_1_method_3_code) px_c17 = true := qy_ok (by decide +kernel)
set_option maxRecDepth 100000 in
theorem px_c18_ok : px_all (px_rowOk prog_4_method_2_code) px_c18 = true := qy_ok (by decide +kernel)
set_option maxRecDepth 100000 in
theorem px_c19_ok : px_all (px_rowOk prog_4_method_7_code) px_c19 = true := qy_ok (by decide +kernel)
set_option maxRecDepth 100000 in
theorem px_c20_ok : px_all (px_rowOk prog_4_method_10_code) px_c20 = true := qy_ok (by decide +kernel)
set_option maxRecDepth 100000 in
theorem px_c21_ok : px_all (px_rowOk prog_4_method_11_code) px_c21 = true := qy_ok (by decide +kernel)
set_option maxRecDepth 100000 in
theorem px_c22_ok : px_all (px_rowOk prog_4_method_13_code) px_c22 = true := qy_ok (by decide +kernel)
set_option maxRecDepth 100000 in
theorem px_c23_ok : px_all (px_rowOk prog_1_method_4_code) px_c23 = true := qy_ok (by decide +kernel)
set_option maxRecDepth 100000 in
theorem px_c24_ok : px_all (px_rowOk prog_4_method_8_code) px_c24 = true := qy_ok (by decide +kernel)
set_option maxRecDepth 100000 in
theorem px_c25_ok : px_all (px_rowOk prog_1_method_5_code) px_c25 = true := qy_ok (by decide +kernel)
set_option maxRecDepth 100000 in
theorem px_c26_ok : px_all (px_rowOk prog_8_method_2_code) px_c26 = true := qy_ok (by decide +kernel)
set_option maxRecDepth 100000 in
theorem px_c27_ok : px_all (px_rowOk prog_1_method_6_code) px_c27 = true := qy_ok (by decide +kernel)
set_option maxRecDepth 100000 in
theorem px_c28_ok : px_all (px_rowOk prog_1_method_7_code) px_c28 = true := qy_ok (by decide +kernel)
set_option maxRecDepth 100000 in
theorem px_c29_ok : px_all (px_rowOk prog_8_method_3_code) px_c29 = true := qy_ok (by decide +kernel)
set_option maxRecDepth 100000 in
theorem px_c30_ok : px_all (px_rowOk prog_9_method_2_code) px_c30 = true := qy_ok (by decide +kernel)
set_option maxRecDepth 100000 in
theorem px_c31_ok : px_all (px_rowOk prog_8_method_20_code) px_c31 = true := qy_ok (by decide +kernel)
set_option maxRecDepth 100000 in
theorem px_c32_ok : px_all (px_rowOk prog_8_method_21_code) px_c32 = true := qy_ok (by decide +kernel)
set_option maxRecDepth 100000 in
theorem px_c33_ok : px_all (px_rowOk prog_8_method_23_code) px_c33 = true := qy_ok (by decide +kernel)
set_option maxRecDepth 100000 in
theorem px_c34_ok : px_all (px_rowOk prog_8_method_22_code) px_c34 = true := qy_ok (by decide +kernel)
set_option maxRecDepth 100000 in
theorem px_c35_ok : px_all (px_rowOk prog_8_method_24_code) px_c35 = true := qy_ok (by decide +kernel)
set_option maxRecDepth 100000 in
theorem px_c36_ok : px_all (px_rowOk prog_8_method_25_code) px_c36 = true := qy_ok (by decide +kernel)
set_option maxRecDepth 100000 in
theorem px_c37_ok : px_all (px_rowOk prog_8_method_26_code) px_c37 = true := qy_ok (by decide +kernel)
set_option maxRecDepth 100000 in
theorem px_c38_ok : px_all (px_rowOk prog_8_method_7_code) px_c38 = true := qy_ok (by decide +kernel)
set_option maxRecDepth 100000 in
theorem px_c39_ok : px_all (px_rowOk prog_8_method_4_code) px_c39 = true := qy_ok (by decide +kernel)
set_option maxRecDepth 100000 in
theorem px_c40_ok : px_all (px_rowOk prog_9_method_3_code) px_c40 = true := qy_ok (by decide +kernel)
set_option maxRecDepth 100000 in
theorem px_c41_ok : px_all (px_rowOk prog_8_method_9_code) px_c41 = true := qy_ok (by decide +kernel)
set_option maxRecDepth 100000 in
theorem px_c42_ok : px_all (px_rowOk prog_8_method_10_code) px_c42 = true := qy_ok (by decide +kernel)
set_option maxRecDepth 100000 in
theorem px_c43_ok : px_all (px_rowOk prog_8_method_11_code) px_c43 = true := qy_ok (by decide +kernel)
set_option maxRecDepth 100000 in
theorem px_c44_ok : px_all (px_rowOk prog_8_method_6_code) px_c44 = true := qy_ok (by decide +kernel)
set_option maxRecDepth 100000 in
theorem px_c45_ok : px_all (px_rowOk prog_9_method_4_code) px_c45 = true := qy_ok (by decide +kernel)
set_option maxRecDepth 100000 in
theorem px_c46_ok : px_all (px_rowOk prog_8_method_13_code) px_c46 = true := qy_ok (by decide +kernel)
set_option maxRecDepth 100000 in
theorem px_c47_ok : px_all (px_rowOk prog_8_method_12_code) px_c47 = true := qy_ok (by decide +kernel)
set_option maxRecDepth 100000 in
theorem px_c48_ok : px_all (px_rowOk prog_8_method_5_code) px_c48 = true := qy_ok (by decide +kernel)
set_option maxRecDepth 100000 in
theorem px_c49_ok : px_all (px_rowOk prog_8_method_15_code) px_c49 = true := qy_ok (by decide +kernel)
set_option maxRecDepth 100000 in
theorem px_c50_ok : px_all (px_rowOk prog_8_method_17_code) px_c50 = true := qy_ok (by decide +kernel)
set_option maxRecDepth 100000 in
theorem px_c51_ok : px_all (px_rowOk prog_8_method_18_code) px_c51 = true := qy_ok (by decide +kernel)
set_option maxRecDepth 100000 in
theorem px_c52_ok : px_all (px_rowOk prog_8_method_19_code) px_c52 = true := qy_ok (by decide +kernel)
set_option maxRecDepth 100000 in
theorem px_c53_ok : px_all (px_rowOk prog_9_method_5_code) px_c53 = true := qy_ok (by decide +kernel)
set_option maxRecDepth 100000 in
theorem px_c54_ok : px_all (px_rowOk prog_8_method_16_code) px_c54 = true := qy_ok (by decide +kernel)
set_option maxRecDepth 100000 in
theorem px_c55_ok : px_all (px_rowOk prog_1_method_44_code) px_c55 = true := qy_ok (by decide +kernel)
set_option maxRecDepth 100000 in
theorem px_c56_ok : px_all (px_rowOk prog_8_method_14_code) px_c56 = true := qy_ok (by decide +kernel)
set_option maxRecDepth 100000 in
theorem px_c57_ok : px_all (px_rowOk prog_9_method_6_code) px_c57 = true := qy_ok (by decide +kernel)
set_option maxRecDepth 100000 in
theorem px_c58_ok : px_all (px_rowOk prog_8_method_8_code) px_c58 = true := qy_ok (by decide +kernel)
set_option maxRecDepth 100000 in
theorem px_c59_ok : px_all (px_rowOk prog_1_method_8_code) px_c59 = true := qy_ok (by decide +kernel)
set_option maxRecDepth 100000 in
theorem px_c60_ok : px_all (px_rowOk prog_1_method_9_code) px_c60 = true := qy_ok (by decide +kernel)
set_option maxRecDepth 100000 in
theorem px_c61_ok : px_all (px_rowOk prog_1_method_49_code) px_c61 = true := qy_ok (by decide +kernel)
set_option maxRecDepth 100000 in
theorem px_c62_ok : px_all (px_rowOk prog_1_method_48_code) px_c62 = true := qy_ok (by decide +kernel)
set_option maxRecDepth 100000 in
theorem px_c63_ok : px_all (px_rowOk prog_1_method_10_code) px_c63 = true := qy_ok (by decide +kernel)
set_option maxRecDepth 100000 in
theorem px_c64_ok : px_all (px_rowOk prog_10_method_5_code) px_c64 = true := qy_ok (by decide +kernel)
set_option maxRecDepth 100000 in
theorem px_c65_ok : px_all (px_rowOk prog_10_method_7_code) px_c65 = true := qy_ok (by decide +kernel)
set_option maxRecDepth 100000 in
theorem px_c66_ok : px_all (px_rowOk prog_10_method_3_code) px_c66 = true := qy_ok (by decide +kernel)
set_option maxRecDepth 100000 in
theorem px_c67_ok : px_all (px_rowOk prog_11_method_2_code) px_c67 = true := qy_ok (by decide +kernel)
set_option maxRecDepth 100000 in
theorem px_c68_ok : px_all (px_rowOk prog_10_method_13_code) px_c68 = true := qy_ok (by decide +kernel)
set_option maxRecDepth 100000 in
theorem px_c69_ok : px_all (px_rowOk prog_10_method_4_code) px_c69 = true := qy_ok (by decide +kernel)
set_option maxRecDepth 100000 in
theorem px_c70_ok : px_all (px_rowOk prog_1_method_11_code) px_c70 = true := qy_ok (by decide +kernel)
set_option maxRecDepth 100000 in
theorem px_c71_ok : px_all (px_rowOk prog_1_method_50_code) px_c71 = true := qy_ok (by decide +kernel)
set_option maxRecDepth 100000 in
theorem px_c72_ok : px_all (px_rowOk prog_6_method_2_code) px_c72 = true := qy_ok (by decide +kernel)
set_option maxRecDepth 100000 in
theorem px_c73_ok : px_all (px_rowOk prog_6_method_3_code) px_c73 = true := qy_ok (by decide +kernel)
set_option maxRecDepth 100000 in
theorem px_c74_ok : px_all (px_rowOk prog_4_method_24_code) px_c74 = true := qy_ok (by decide +kernel)
set_option maxRecDepth 100000 in
theorem px_c75_ok : px_all (px_rowOk prog_4_method_16_code) px_c75 = true := qy_ok (by decide +kernel)
set_option maxRecDepth 100000 in
theorem px_c76_ok : px_all (px_rowOk prog_4_method_17_code) px_c76 = true := qy_ok (by decide +kernel)
set_option maxRecDepth 100000 in
theorem px_c77_ok : px_all (px_rowOk prog_4_method_18_code) px_c77 = true := qy_ok (by decide +kernel)
set_option maxRecDepth 100000 in
theorem px_c78_ok : px_all (px_rowOk prog_4_method_21_code) px_c78 = true := qy_ok (by decide +kernel)
set_option maxRecDepth 100000 in
theorem px_c79_ok : px_all (px_rowOk prog_4_method_3_code) px_c79 = true := qy_ok (by decide +kernel)
set_option maxRecDepth 100000 in
theorem px_c80_ok : px_all (px_rowOk prog_10_method_2_code) px_c80 = true := qy_ok (by decide +kernel)
set_option maxRecDepth 100000 in
theorem px_c81_ok : px_all (px_rowOk prog_5_method_2_code) px_c81 = true := qy_ok (by decide +kernel)
set_option maxRecDepth 100000 in
theorem px_c82_ok : px_all (px_rowOk prog_5_method_5_code) px_c82 = true := qy_ok (by decide +kernel)
set_option maxRecDepth 100000 in
theorem px_c83_ok : px_all (px_rowOk prog_5_method_6_code) px_c83 = true := qy_ok (by decide +kernel)
set_option maxRecDepth 100000 in
theorem px_c84_ok : px_all (px_rowOk prog_5_method_7_code) px_c84 = true := qy_ok (by decide +kernel)
set_option maxRecDepth 100000 in
theorem px_c85_ok : px_all (px_rowOk prog_5_method_8_code) px_c85 = true := qy_ok (by decide +kernel)
set_option maxRecDepth 100000 in
theorem px_c86_ok : px_all (px_rowOk prog_5_method_9_code) px_c86 = true := qy_ok (by decide +kernel)
set_option maxRecDepth 100000 in
theorem px_c87_ok : px_all (px_rowOk prog_5_method_10_code) px_c87 = true := qy_ok (by decide +kernel)
set_option maxRecDepth 100000 in
theorem px_c88_ok : px_all (px_rowOk prog_6_method_4_code) px_c88 = true := qy_ok (by decide +kernel)
set_option maxRecDepth 100000 in
theorem px_c89_ok : px_all (px_rowOk prog_4_method_4_code) px_c89 = true := qy_ok (by decide +kernel)
set_option maxRecDepth 100000 in
theorem px_c90_ok : px_all (px_rowOk prog_10_method_8_code) px_c90 = true := qy_ok (by decide +kernel)
set_option maxRecDepth 100000 in
theorem px_c91_ok : px_all (px_rowOk prog_5_method_3_code) px_c91 = true := qy_ok (by decide +kernel)
set_option maxRecDepth 100000 in
theorem px_c92_ok : px_all (px_rowOk prog_6_method_5_code) px_c92 = true := qy_ok (by decide +kernel)
set_option maxRecDepth 100000 in
theorem px_c93_ok : px_all (px_rowOk prog_10_method_11_code) px_c93 = true := qy_ok (by decide +kernel)
set_option maxRecDepth 100000 in
theorem px_c94_ok : px_all (px_rowOk prog_10_method_10_code) px_c94 = true := qy_ok (by decide +kernel)
set_option maxRecDepth 100000 in
theorem px_c95_ok : px_all (px_rowOk prog_6_method_6_code) px_c95 = true := qy_ok (by decide +kernel)
set_option maxRecDepth 100000 in
theorem px_c96_ok : px_all (px_rowOk prog_6_method_7_code) px_c96 = true := qy_ok (by decide +kernel)
set_option maxRecDepth 100000 in
theorem px_c97_ok : px_all (px_rowOk prog_10_method_6_code) px_c97 = true := qy_ok (by decide +kernel)
set_option maxRecDepth 100000 in
theorem px_c98_ok : px_all (px_rowOk prog_1_method_12_code) px_c98 = true := qy_ok (by decide +kernel)
set_option maxRecDepth 100000 in
theorem px_c99_ok : px_all (px_rowOk prog_4_method_5_code) px_c99 = true := qy_ok (by decide +kernel)
set_option maxRecDepth 100000 in
theorem px_c100_ok : px_all (px_rowOk prog_1_method_13_code) px_c100 = true := qy_ok (by decide +kernel)
set_option maxRecDepth 100000 in
theorem px_c101_ok : px_all (px_rowOk prog_10_method_9_code) px_c101 = true := qy_ok (by decide +kernel)
set_option maxRecDepth 100000 in
theorem px_c102_ok : px_all (px_rowOk prog_1_method_14_code) px_c102 = true := qy_ok (by decide +kernel)
set_option maxRecDepth 100000 in
theorem px_c103_ok : px_all (px_rowOk prog_1_method_15_code) px_c103 = true := qy_ok (by decide +kernel)
set_option maxRecDepth 100000 in
theorem px_c104_ok : px_all (px_rowOk prog_1_method_51_code) px_c104 = true := qy_ok (by decide +kernel)
set_option maxRecDepth 100000 in
theorem px_c105_ok : px_all (px_rowOk prog_1_method_16_code) px_c105 = true := qy_ok (by decide +kernel)
set_option maxRecDepth 100000 in
theorem px_c106_ok : px_all (px_rowOk prog_1_method_52_code) px_c106 = true := qy_ok (by decide +kernel)
set_option maxRecDepth 100000 in
theorem px_c107_ok : px_all (px_rowOk prog_1_method_17_code) px_c107 = true := qy_ok (by decide +kernel)
set_option maxRecDepth 100000 in
theorem px_c108_ok : px_all (px_rowOk prog_11_method_3_code) px_c108 = true := qy_ok (by decide +kernel)
set_option maxRecDepth 100000 in
theorem px_c109_ok : px_all (px_rowOk prog_10_method_14_code) px_c109 = true := qy_ok (by decide +kernel)
set_option maxRecDepth 100000 in
theorem px_c110_ok : px_all (px_rowOk prog_1_method_18_code) px_c110 = true := qy_ok (by decide +kernel)
set_option maxRecDepth 100000 in
theorem px_c111_ok : px_all (px_rowOk prog_1_method_19_code) px_c111 = true := qy_ok (by decide +kernel)
set_option maxRecDepth 100000 in
theorem px_c112_ok : px_all (px_rowOk prog_1_method_20_code) px_c112 = true := qy_ok (by decide +kernel)
set_option maxRecDepth 100000 in
theorem px_c113_ok : px_all (px_rowOk prog_4_method_19_code) px_c113 = true := qy_ok (by decide +kernel)
set_option maxRecDepth 100000 in
theorem px_c114_ok : px_all (px_rowOk prog_1_method_21_code) px_c114 = true := qy_ok (by decide +kernel)
set_option maxRecDepth 100000 in
theorem px_c115_ok : px_all (px_rowOk prog_1_method_22_code) px_c115 = true := qy_ok (by decide +kernel)
set_option maxRecDepth 100000 in
theorem px_c116_ok : px_all (px_rowOk prog_1_method_23_code) px_c116 = true := qy_ok (by decide +kernel)
set_option maxRecDepth 100000 in
theorem px_c117_ok : px_all (px_rowOk prog_12_method_11_code) px_c117 = true := qy_ok (by decide +kernel)
set_option maxRecDepth 100000 in
theorem px_c118_ok : px_all (px_rowOk prog_12_method_2_code) px_c118 = true := qy_ok (by decide +kernel)
set_option maxRecDepth 100000 in
theorem px_c119_ok : px_all (px_rowOk prog_21_method_101_code) px_c119 = true := qy_ok (by decide +kernel)
set_option maxRecDepth 100000 in
theorem px_c120_ok : px_all (px_rowOk prog_12_method_3_code) px_c120 = true := qy_ok (by decide +kernel)
set_option maxRecDepth 100000 in
theorem px_c121_ok : px_all (px_rowOk prog_12_method_13_code) px_c121 = true := qy_ok (by decide +kernel)
set_option maxRecDepth 100000 in
theorem px_c122_ok : px_all (px_rowOk prog_12_method_14_code) px_c122 = true := qy_ok (by decide +kernel)
set_option maxRecDepth 100000 in
theorem px_c123_ok : px_all (px_rowOk prog_12_method_4_code) px_c123 = true := qy_ok (by decide +kernel)
set_option maxRecDepth 100000 in
theorem px_c124_ok : px_all (px_rowOk prog_12_method_12_code) px_c124 = true := qy_ok (by decide +kernel)
set_option maxRecDepth 100000 in
theorem px_c125_ok : px_all (px_rowOk prog_1_method_45_code) px_c125 = true := qy_ok (by decide +kernel)
set_option maxRecDepth 100000 in
theorem px_c126_ok : px_all (px_rowOk prog_1_method_24_code) px_c126 = true := qy_ok (by decide +kernel)
set_option maxRecDepth 100000 in
theorem px_c127_ok : px_all (px_rowOk prog_12_method_5_code) px_c127 = true := qy_ok (by decide +kernel)
set_option maxRecDepth 100000 in
theorem px_c128_ok : px_all (px_rowOk prog_12_method_6_code) px_c128 = true := qy_ok (by decide +kernel)
set_option maxRecDepth 100000 in
theorem px_c129_ok : px_all (px_rowOk prog_12_method_7_code) px_c129 = true := qy_ok (by decide +kernel)
set_option maxRecDepth 100000 in
theorem px_c130_ok : px_all (px_rowOk prog_1_method_25_code) px_c130 = true := qy_ok (by decide +kernel)
set_option maxRecDepth 100000 in
theorem px_c131_ok : px_all (px_rowOk prog_12_method_8_code) px_c131 = true := qy_ok (by decide +kernel)
set_option maxRecDepth 100000 in
theorem px_c132_ok : px_all (px_rowOk prog_4_method_20_code) px_c132 = true := qy_ok (by decide +kernel)
set_option maxRecDepth 100000 in
theorem px_c133_ok : px_all (px_rowOk prog_1_method_47_code) px_c133 = true := qy_ok (by decide +kernel)
set_option maxRecDepth 100000 in
theorem px_c134_ok : px_all (px_rowOk prog_1_method_26_code) px_c134 = true := qy_ok (by decide +kernel)
set_option maxRecDepth 100000 in
theorem px_c135_ok : px_all (px_rowOk prog_4_method_23_code) px_c135 = true := qy_ok (by decide +kernel)
set_option maxRecDepth 100000 in
theorem px_c136_ok : px_all (px_rowOk prog_1_method_27_code) px_c136 = true := qy_ok (by decide +kernel)
set_option maxRecDepth 100000 in
theorem px_c137_ok : px_all (px_rowOk prog_2_method_2_code) px_c137 = true := qy_ok (by decide +kernel)
set_option maxRecDepth 100000 in
theorem px_c138_ok : px_all (px_rowOk prog_15_method_49_code) px_c138 = true := qy_ok (by decide +kernel)
set_option maxRecDepth 100000 in
theorem px_c139_ok : px_all (px_rowOk prog_2_method_4_code) px_c139 = true := qy_ok (by decide +kernel)
set_option maxRecDepth 100000 in
theorem px_c140_ok : px_all (px_rowOk prog_2_method_5_code) px_c140 = true := qy_ok (by decide +kernel)
set_option maxRecDepth 100000 in
theorem px_c141_ok : px_all (px_rowOk prog_2_method_3_code) px_c141 = true := qy_ok (by decide +kernel)
set_option maxRecDepth 100000 in
theorem px_c142_ok : px_all (px_rowOk prog_1_method_28_code) px_c142 = true := qy_ok (by decide +kernel)
set_option maxRecDepth 100000 in
theorem px_c143_ok : px_all (px_rowOk prog_12_method_9_code) px_c143 = true := qy_ok (by decide +kernel)
set_option maxRecDepth 100000 in
theorem px_c144_ok : px_all (px_rowOk prog_12_method_10_code) px_c144 = true := qy_ok (by decide +kernel)
set_option maxRecDepth 100000 in
theorem px_c145_ok : px_all (px_rowOk prog_1_method_29_code) px_c145 = true := qy_ok (by decide +kernel)
set_option maxRecDepth 100000 in
theorem px_c146_ok : px_all (px_rowOk prog_7_method_2_code) px_c146 = true := qy_ok (by decide +kernel)
set_option maxRecDepth 100000 in
theorem px_c147_ok : px_all (px_rowOk prog_1_method_30_code) px_c147 = true := qy_ok (by decide +kernel)
set_option maxRecDepth 100000 in
theorem px_c148_ok : px_all (px_rowOk prog_4_method_14_code) px_c148 = true := qy_ok (by decide +kernel)
set_option maxRecDepth 100000 in
theorem px_c149_ok : px_all (px_rowOk prog_4_method_22_code) px_c149 = true := qy_ok (by decide +kernel)
set_option maxRecDepth 100000 in
theorem px_c150_ok : px_all (px_rowOk prog_7_method_3_code) px_c150 = true := qy_ok (by decide +kernel)
set_option maxRecDepth 100000 in
theorem px_c151_ok : px_all (px_rowOk prog_4_method_15_code) px_c151 = true := qy_ok (by decide +kernel)
set_option maxRecDepth 100000 in
theorem px_c152_ok : px_all (px_rowOk prog_1_method_31_code) px_c152 = true := qy_ok (by decide +kernel)
set_option maxRecDepth 100000 in
theorem px_c153_ok : px_all (px_rowOk prog_1_method_46_code) px_c153 = true := qy_ok (by decide +kernel)
set_option maxRecDepth 100000 in
theorem px_c154_ok : px_all (px_rowOk prog_1_method_32_code) px_c154 = true := qy_ok (by decide +kernel)
set_option maxRecDepth 100000 in
theorem px_c155_ok : px_all (px_rowOk prog_2_method_6_code) px_c155 = true := qy_ok (by decide +kernel)
set_option maxRecDepth 100000 in
theorem px_c156_ok : px_all (px_rowOk prog_2_method_8_code) px_c156 = true := qy_ok (by decide +kernel)
set_option maxRecDepth 100000 in
theorem px_c157_ok : px_all (px_rowOk prog_2_method_7_code) px_c157 = true := qy_ok (by decide +kernel)
set_option maxRecDepth 100000 in
theorem px_c158_ok : px_all (px_rowOk prog_1_method_33_code) px_c158 = true := qy_ok (by decide +kernel)
set_option maxRecDepth 100000 in
theorem px_c159_ok : px_all (px_rowOk prog_1_method_53_code) px_c159 = true := qy_ok (by decide +kernel)
set_option maxRecDepth 100000 in
theorem px_c160_ok : px_all (px_rowOk prog_5_method_4_code) px_c160 = true := qy_ok (by decide +kernel)
set_option maxRecDepth 100000 in
theorem px_c161_ok : px_all (px_rowOk prog_1_method_34_code) px_c161 = true := qy_ok (by decide +kernel)
set_option maxRecDepth 100000 in
theorem px_c162_ok : px_all (px_rowOk prog_1_method_54_code) px_c162 = true := qy_ok (by decide +kernel)
set_option maxRecDepth 100000 in
theorem px_c163_ok : px_all (px_rowOk prog_1_method_35_code) px_c163 = true := qy_ok (by decide +kernel)
set_option maxRecDepth 100000 in
theorem px_c164_ok : px_all (px_rowOk prog_1_method_36_code) px_c164 = true := qy_ok (by decide +kernel)
set_option maxRecDepth 100000 in
theorem px_c165_ok : px_all (px_rowOk prog_7_method_4_code) px_c165 = true := qy_ok (by decide +kernel)
set_option maxRecDepth 100000 in
theorem px_c166_ok : px_all (px_rowOk prog_1_method_37_code) px_c166 = true := qy_ok (by decide +kernel)
set_option maxRecDepth 100000 in
theorem px_c167_ok : px_all (px_rowOk prog_7_method_6_code) px_c167 = true := qy_ok (by decide +kernel)
set_option maxRecDepth 100000 in
theorem px_c168_ok : px_all (px_rowOk prog_7_method_5_code) px_c168 = true := qy_ok (by decide +kernel)
set_option maxRecDepth 100000 in
theorem px_c169_ok : px_all (px_rowOk prog_1_method_38_code) px_c169 = true := qy_ok (by decide +kernel)
set_option maxRecDepth 100000 in
theorem px_c170_ok : px_all (px_rowOk prog_1_method_39_code) px_c170 = true := qy_ok (by decide +kernel)
set_option maxRecDepth 100000 in
theorem px_c171_ok : px_all (px_rowOk prog_7_method_7_code) px_c171 = true := qy_ok (by decide +kernel)
set_option maxRecDepth 100000 in
theorem px_c172_ok : px_all (px_rowOk prog_7_method_8_code) px_c172 = true := qy_ok (by decide +kernel)
set_option maxRecDepth 100000 in
theorem px_c173_ok : px_all (px_rowOk prog_1_method_40_code) px_c173 = true := qy_ok (by decide +kernel)
set_option maxRecDepth 100000 in
theorem px_c174_ok : px_all (px_rowOk prog_10_method_12_code) px_c174 = true := qy_ok (by decide +kernel)
set_option maxRecDepth 100000 in
theorem px_c175_ok : px_all (px_rowOk prog_11_method_4_code) px_c175 = true := qy_ok (by decide +kernel)
set_option maxRecDepth 100000 in
theorem px_c176_ok : px_all (px_rowOk prog_7_method_9_code) px_c176 = true := qy_ok (by decide +kernel)
set_option maxRecDepth 100000 in
theorem px_c177_ok : px_all (px_rowOk prog_1_method_41_code) px_c177 = true := qy_ok (by decide +kernel)
set_option maxRecDepth 100000 in
theorem px_c178_ok : px_all (px_rowOk prog_4_method_9_code) px_c178 = true := qy_ok (by decide +kernel)
set_option maxRecDepth 100000 in
theorem px_c179_ok : px_all (px_rowOk prog_1_method_42_code) px_c179 = true := qy_ok (by decide +kernel)
set_option maxRecDepth 100000 in
theorem px_c180_ok : px_all (px_rowOk prog_14_method_1_code) px_c180 = true := qy_ok (by decide +kernel)
set_option maxRecDepth 100000 in
theorem px_c181_ok : px_all (px_rowOk prog_14_method_2_code) px_c181 = true := qy_ok (by decide +kernel)
set_option maxRecDepth 100000 in
theorem px_c182_ok : px_all (px_rowOk prog_14_method_21_code) px_c182 = true := qy_ok (by decide +kernel)
set_option maxRecDepth 100000 in
theorem px_c183_ok : px_all (px_rowOk prog_14_method_3_code) px_c183 = true := qy_ok (by decide +kernel)
set_option maxRecDepth 100000 in
theorem px_c184_ok : px_all (px_rowOk prog_14_method_23_code) px_c184 = true := qy_ok (by decide +kernel)
set_option maxRecDepth 100000 in
theorem px_c185_ok : px_all (px_rowOk prog_14_method_6_code) px_c185 = true := qy_ok (by decide +kernel)
set_option maxRecDepth 100000 in
theorem px_c186_ok : px_all (px_rowOk prog_14_method_22_code) px_c186 = true := qy_ok (by decide +kernel)
set_option maxRecDepth 100000 in
theorem px_c187_ok : px_all (px_rowOk prog_14_method_15_code) px_c187 = true := qy_ok (by decide +kernel)
set_option maxRecDepth 100000 in
theorem px_c188_ok : px_all (px_rowOk prog_14_method_5_code) px_c188 = true := qy_ok (by decide +kernel)
set_option maxRecDepth 100000 in
theorem px_c189_ok : px_all (px_rowOk prog_14_method_25_code) px_c189 = true := qy_ok (by decide +kernel)
set_option maxRecDepth 100000 in
theorem px_c190_ok : px_all (px_rowOk prog_14_method_24_code) px_c190 = true := qy_ok (by decide +kernel)
set_option maxRecDepth 100000 in
theorem px_c191_ok : px_all (px_rowOk prog_14_method_20_code) px_c191 = true := qy_ok (by decide +kernel)
set_option maxRecDepth 100000 in
theorem px_c192_ok : px_all (px_rowOk prog_14_method_27_code) px_c192 = true := qy_ok (by decide +kernel)
set_option maxRecDepth 100000 in
theorem px_c193_ok : px_all (px_rowOk prog_14_method_26_code) px_c193 = true := qy_ok (by decide +kernel)
set_option maxRecDepth 100000 in
theorem px_c194_ok : px_all (px_rowOk prog_14_method_28_code) px_c194 = true := qy_ok (by decide +kernel)
set_option maxRecDepth 100000 in
theorem px_c195_ok : px_all (px_rowOk prog_14_method_68_code) px_c195 = true := qy_ok (by decide +kernel)
set_option maxRecDepth 100000 in
theorem px_c196_ok : px_all (px_rowOk prog_14_method_67_code) px_c196 = true := qy_ok (by decide +kernel)
set_option maxRecDepth 100000 in
theorem px_c197_ok : px_all (px_rowOk prog_14_method_33_code) px_c197 = true := qy_ok (by decide +kernel)
set_option maxRecDepth 100000 in
theorem px_c198_ok : px_all (px_rowOk prog_14_method_29_code) px_c198 = true := qy_ok (by decide +kernel)
set_option maxRecDepth 100000 in
theorem px_c199_ok : px_all (px_rowOk prog_14_method_31_code) px_c199 = true := qy_ok (by decide +kernel)
set_option maxRecDepth 100000 in
theorem px_c200_ok : px_all (px_rowOk prog_14_method_30_code) px_c200 = true := qy_ok (by decide +kernel)
set_option maxRecDepth 100000 in
theorem px_c201_ok : px_all (px_rowOk prog_14_method_32_code) px_c201 = true := qy_ok (by decide +kernel)
set_option maxRecDepth 100000 in
theorem px_c202_ok : px_all (px_rowOk prog_14_method_66_code) px_c202 = true := qy_ok (by decide +kernel)
set_option maxRecDepth 100000 in
theorem px_c203_ok : px_all (px_rowOk prog_14_method_65_code) px_c203 = true := qy_ok (by decide +kernel)
set_option maxRecDepth 100000 in
theorem px_c204_ok : px_all (px_rowOk prog_14_method_36_code) px_c204 = true := qy_ok (by decide +kernel)
set_option maxRecDepth 100000 in
theorem px_c205_ok : px_all (px_rowOk prog_14_method_35_code) px_c205 = true := qy_ok (by decide +kernel)
set_option maxRecDepth 100000 in
theorem px_c206_ok : px_all (px_rowOk prog_14_method_34_code) px_c206 = true := qy_ok (by decide +kernel)
set_option maxRecDepth 100000 in
theorem px_c207_ok : px_all (px_rowOk prog_14_method_39_code) px_c207 = true := qy_ok (by decide +kernel)
set_option maxRecDepth 100000 in
theorem px_c208_ok : px_all (px_rowOk prog_14_method_37_code) px_c208 = true := qy_ok (by decide +kernel)
set_option maxRecDepth 100000 in
theorem px_c209_ok : px_all (px_rowOk prog_14_method_38_code) px_c209 = true := qy_ok (by decide +kernel)
set_option maxRecDepth 100000 in
theorem px_c210_ok : px_all (px_rowOk prog_14_method_4_code) px_c210 = true := qy_ok (by decide +kernel)
set_option maxRecDepth 100000 in
theorem px_c211_ok : px_all (px_rowOk prog_14_method_64_code) px_c211 = true := qy_ok (by decide +kernel)
set_option maxRecDepth 100000 in
theorem px_c212_ok : px_all (px_rowOk prog_14_method_63_code) px_c212 = true := qy_ok (by decide +kernel)
set_option maxRecDepth 100000 in
theorem px_c213_ok : px_all (px_rowOk prog_14_method_60_code) px_c213 = true := qy_ok (by decide +kernel)
set_option maxRecDepth 100000 in
theorem px_c214_ok : px_all (px_rowOk prog_14_method_61_code) px_c214 = true := qy_ok (by decide +kernel)
set_option maxRecDepth 100000 in
theorem px_c215_ok : px_all (px_rowOk prog_14_method_62_code) px_c215 = true := qy_ok (by decide +kernel)
set_option maxRecDepth 100000 in
theorem px_c216_ok : px_all (px_rowOk prog_14_method_59_code) px_c216 = true := qy_ok (by decide +kernel)
set_option maxRecDepth 100000 in
theorem px_c217_ok : px_all (px_rowOk prog_14_method_58_code) px_c217 = true := qy_ok (by decide +kernel)
set_option maxRecDepth 100000 in
theorem px_c218_ok : px_all (px_rowOk prog_14_method_54_code) px_c218 = true := qy_ok (by decide +kernel)
set_option maxRecDepth 100000 in
theorem px_c219_ok : px_all (px_rowOk prog_14_method_47_code) px_c219 = true := qy_ok (by decide +kernel)
set_option maxRecDepth 100000 in
theorem px_c220_ok : px_all (px_rowOk prog_14_method_46_code) px_c220 = true := qy_ok (by decide +kernel)
set_option maxRecDepth 100000 in
theorem px_c221_ok : px_all (px_rowOk prog_14_method_48_code) px_c221 = true := qy_ok (by decide +kernel)
set_option maxRecDepth 100000 in
theorem px_c222_ok : px_all (px_rowOk prog_14_method_44_code) px_c222 = true := qy_ok (by decide +kernel)
set_option maxRecDepth 100000 in
theorem px_c223_ok : px_all (px_rowOk prog_14_method_53_code) px_c223 = true := qy_ok (by decide +kernel)
set_option maxRecDepth 100000 in
theorem px_c224_ok : px_all (px_rowOk prog_14_method_45_code) px_c224 = true := qy_ok (by decide +kernel)
set_option maxRecDepth 100000 in
theorem px_c225_ok : px_all (px_rowOk prog_14_method_40_code) px_c225 = true := qy_ok (by decide +kernel)
set_option maxRecDepth 100000 in
theorem px_c226_ok : px_all (px_rowOk prog_14_method_55_code) px_c226 = true := qy_ok (by decide +kernel)
set_option maxRecDepth 100000 in
theorem px_c227_ok : px_all (px_rowOk prog_14_method_56_code) px_c227 = true := qy_ok (by decide +kernel)
set_option maxRecDepth 100000 in
theorem px_c228_ok : px_all (px_rowOk prog_14_method_57_code) px_c228 = true := qy_ok (by decide +kernel)
set_option maxRecDepth 100000 in
theorem px_c229_ok : px_all (px_rowOk prog_14_method_52_code) px_c229 = true := qy_ok (by decide +kernel)
set_option maxRecDepth 100000 in
theorem px_c230_ok : px_all (px_rowOk prog_14_method_41_code) px_c230 = true := qy_ok (by decide +kernel)
set_option maxRecDepth 100000 in
theorem px_c231_ok : px_all (px_rowOk prog_14_method_42_code) px_c231 = true := qy_ok (by decide +kernel)
set_option maxRecDepth 100000 in
theorem px_c232_ok : px_all (px_rowOk prog_14_method_43_code) px_c232 = true := qy_ok (by decide +kernel)
set_option maxRecDepth 100000 in
theorem px_c233_ok : px_all (px_rowOk prog_14_method_51_code) px_c233 = true := qy_ok (by decide +kernel)
set_option maxRecDepth 100000 in
theorem px_c234_ok : px_all (px_rowOk prog_14_method_50_code) px_c234 = true := qy_ok (by decide +kernel)
set_option maxRecDepth 100000 in
theorem px_c235_ok : px_all (px_rowOk prog_14_method_49_code) px_c235 = true := qy_ok (by decide +kernel)
set_option maxRecDepth 100000 in
theorem px_c236_ok : px_all (px_rowOk prog_14_method_69_code) px_c236 = true := qy_ok (by decide +kernel)
set_option maxRecDepth 100000 in
theorem px_c237_ok : px_all (px_rowOk prog_14_method_70_code) px_c237 = true := qy_ok (by decide +kernel)
set_option maxRecDepth 100000 in
theorem px_c238_ok : px_all (px_rowOk prog_14_method_82_code) px_c238 = true := qy_ok (by decide +kernel)
set_option maxRecDepth 100000 in
theorem px_c239_ok : px_all (px_rowOk prog_14_method_19_code) px_c239 = true := qy_ok (by decide +kernel)
set_option maxRecDepth 100000 in
theorem px_c240_ok : px_all (px_rowOk prog_14_method_86_code) px_c240 = true := qy_ok (by decide +kernel)
set_option maxRecDepth 100000 in
theorem px_c241_ok : px_all (px_rowOk prog_14_method_84_code) px_c241 = true := qy_ok (by decide +kernel)
set_option maxRecDepth 100000 in
theorem px_c242_ok : px_all (px_rowOk prog_14_method_16_code) px_c242 = true := qy_ok (by decide +kernel)
set_option maxRecDepth 100000 in
theorem px_c243_ok : px_all (px_rowOk prog_14_method_83_code) px_c243 = true := qy_ok (by decide +kernel)
set_option maxRecDepth 100000 in
theorem px_c244_ok : px_all (px_rowOk prog_14_method_81_code) px_c244 = true := qy_ok (by decide +kernel)
set_option maxRecDepth 100000 in
theorem px_c245_ok : px_all (px_rowOk prog_14_method_14_code) px_c245 = true := qy_ok (by decide +kernel)
set_option maxRecDepth 100000 in
theorem px_c246_ok : px_all (px_rowOk prog_14_method_12_code) px_c246 = true := qy_ok (by decide +kernel)
set_option maxRecDepth 100000 in
theorem px_c247_ok : px_all (px_rowOk prog_14_method_85_code) px_c247 = true := qy_ok (by decide +kernel)
set_option maxRecDepth 100000 in
theorem px_c248_ok : px_all (px_rowOk prog_14_method_87_code) px_c248 = true := qy_ok (by decide +kernel)
set_option maxRecDepth 100000 in
theorem px_c249_ok : px_all (px_rowOk prog_14_method_8_code) px_c249 = true := qy_ok (by decide +kernel)
set_option maxRecDepth 100000 in
theorem px_c250_ok : px_all (px_rowOk prog_14_method_88_code) px_c250 = true := qy_ok (by decide +kernel)
set_option maxRecDepth 100000 in
theorem px_c251_ok : px_all (px_rowOk prog_14_method_7_code) px_c251 = true := qy_ok (by decide +kernel)
set_option maxRecDepth 100000 in
theorem px_c252_ok : px_all (px_rowOk prog_14_method_13_code) px_c252 = true := qy_ok (by decide +kernel)
set_option maxRecDepth 100000 in
theorem px_c253_ok : px_all (px_rowOk prog_14_method_89_code) px_c253 = true := qy_ok (by decide +kernel)
set_option maxRecDepth 100000 in
theorem px_c254_ok : px_all (px_rowOk prog_14_method_9_code) px_c254 = true := qy_ok (by decide +kernel)
set_option maxRecDepth 100000 in
theorem px_c255_ok : px_all (px_rowOk prog_14_method_17_code) px_c255 = true := qy_ok (by decide +kernel)
set_option maxRecDepth 100000 in
theorem px_c256_ok : px_all (px_rowOk prog_14_method_18_code) px_c256 = true := qy_ok (by decide +kernel)
set_option maxRecDepth 100000 in
theorem px_c257_ok : px_all (px_rowOk prog_14_method_100_code) px_c257 = true := qy_ok (by decide +kernel)
set_option maxRecDepth 100000 in
theorem px_c258_ok : px_all (px_rowOk prog_14_method_99_code) px_c258 = true := qy_ok (by decide +kernel)
set_option maxRecDepth 100000 in
theorem px_c259_ok : px_all (px_rowOk prog_14_method_98_code) px_c259 = true := qy_ok (by decide +kernel)
set_option maxRecDepth 100000 in
theorem px_c260_ok : px_all (px_rowOk prog_14_method_96_code) px_c260 = true := qy_ok (by decide +kernel)
set_option maxRecDepth 100000 in
theorem px_c261_ok : px_all (px_rowOk prog_14_method_90_code) px_c261 = true := qy_ok (by decide +kernel)
set_option maxRecDepth 100000 in
theorem px_c262_ok : px_all (px_rowOk prog_14_method_91_code) px_c262 = true := qy_ok (by decide +kernel)
set_option maxRecDepth 100000 in
theorem px_c263_ok : px_all (px_rowOk prog_14_method_79_code) px_c263 = true := qy_ok (by decide +kernel)
set_option maxRecDepth 100000 in
theorem px_c264_ok : px_all (px_rowOk prog_14_method_78_code) px_c264 = true := qy_ok (by decide +kernel)
set_option maxRecDepth 100000 in
theorem px_c265_ok : px_all (px_rowOk prog_14_method_10_code) px_c265 = true := qy_ok (by decide +kernel)
set_option maxRecDepth 100000 in
theorem px_c266_ok : px_all (px_rowOk prog_14_method_76_code) px_c266 = true := qy_ok (by decide +kernel)
set_option maxRecDepth 100000 in
theorem px_c267_ok : px_all (px_rowOk prog_14_method_75_code) px_c267 = true := qy_ok (by decide +kernel)
set_option maxRecDepth 100000 in
theorem px_c268_ok : px_all (px_rowOk prog_14_method_74_code) px_c268 = true := qy_ok (by decide +kernel)
set_option maxRecDepth 100000 in
theorem px_c269_ok : px_all (px_rowOk prog_14_method_72_code) px_c269 = true := qy_ok (by decide +kernel)
set_option maxRecDepth 100000 in
theorem px_c270_ok : px_all (px_rowOk prog_14_method_71_code) px_c270 = true := qy_ok (by decide +kernel)
set_option maxRecDepth 100000 in
theorem px_c271_ok : px_all (px_rowOk prog_14_method_73_code) px_c271 = true := qy_ok (by decide +kernel)
set_option maxRecDepth 100000 in
theorem px_c272_ok : px_all (px_rowOk prog_14_method_94_code) px_c272 = true := qy_ok (by decide +kernel)
set_option maxRecDepth 100000 in
theorem px_c273_ok : px_all (px_rowOk prog_14_method_80_code) px_c273 = true := qy_ok (by decide +kernel)
set_option maxRecDepth 100000 in
theorem px_c274_ok : px_all (px_rowOk prog_14_method_77_code) px_c274 = true := qy_ok (by decide +kernel)
set_option maxRecDepth 100000 in
theorem px_c275_ok : px_all (px_rowOk prog_14_method_92_code) px_c275 = true := qy_ok (by decide +kernel)
set_option maxRecDepth 100000 in
theorem px_c276_ok : px_all (px_rowOk prog_14_method_93_code) px_c276 = true := qy_ok (by decide +kernel)
set_option maxRecDepth 100000 in
theorem px_c277_ok : px_all (px_rowOk prog_14_method_11_code) px_c277 = true := qy_ok (by decide +kernel)
set_option maxRecDepth 100000 in
theorem px_c278_ok : px_all (px_rowOk prog_14_method_95_code) px_c278 = true := qy_ok (by decide +kernel)
set_option maxRecDepth 100000 in
theorem px_c279_ok : px_all (px_rowOk prog_14_method_97_code) px_c279 = true := qy_ok (by decide +kernel)
set_option maxRecDepth 100000 in
theorem px_c280_ok : px_all (px_rowOk prog_14_method_102_code) px_c280 = true := qy_ok (by decide +kernel)
set_option maxRecDepth 100000 in
theorem px_c281_ok : px_all (px_rowOk prog_14_method_101_code) px_c281 = true := qy_ok (by decide +kernel)
set_option maxRecDepth 100000 in
theorem px_c282_ok : px_all (px_rowOk prog_14_method_104_code) px_c282 = true := qy_ok (by decide +kernel)
set_option maxRecDepth 100000 in
theorem px_c283_ok : px_all (px_rowOk prog_14_method_103_code) px_c283 = true := qy_ok (by decide +kernel)
set_option maxRecDepth 100000 in
theorem px_c284_ok : px_all (px_rowOk prog_14_method_105_code) px_c284 = true := qy_ok (by decide +kernel)
set_option maxRecDepth 100000 in
theorem px_c285_ok : px_all (px_rowOk prog_14_method_106_code) px_c285 = true := qy_ok (by decide +kernel)
set_option maxRecDepth 100000 in
theorem px_c286_ok : px_all (px_rowOk prog_14_method_107_code) px_c286 = true := qy_ok (by decide +kernel)
set_option maxRecDepth 100000 in
theorem px_c287_ok : px_all (px_rowOk prog_14_method_108_code) px_c287 = true := qy_ok (by decide +kernel)
set_option maxRecDepth 100000 in
theorem px_c288_ok : px_all (px_rowOk prog_14_method_109_code) px_c288 = true := qy_ok (by decide +kernel)
set_option maxRecDepth 100000 in
theorem px_c289_ok : px_all (px_rowOk prog_14_method_113_code) px_c289 = true := qy_ok (by decide +kernel)
set_option maxRecDepth 100000 in
theorem px_c290_ok : px_all (px_rowOk prog_14_method_110_code) px_c290 = true := qy_ok (by decide +kernel)
set_option maxRecDepth 100000 in
theorem px_c291_ok : px_all (px_rowOk prog_14_method_112_code) px_c291 = true := qy_ok (by decide +kernel)
set_option maxRecDepth 100000 in
theorem px_c292_ok : px_all (px_rowOk prog_14_method_111_code) px_c292 = true := qy_ok (by decide +kernel)
set_option maxRecDepth 100000 in
theorem px_c293_ok : px_all (px_rowOk prog_14_method_116_code) px_c293 = true := qy_ok (by decide +kernel)
set_option maxRecDepth 100000 in
theorem px_c294_ok : px_all (px_rowOk prog_14_method_114_code) px_c294 = true := qy_ok (by decide +kernel)
set_option maxRecDepth 100000 in
theorem px_c295_ok : px_all (px_rowOk prog_14_method_117_code) px_c295 = true := qy_ok (by decide +kernel)
set_option maxRecDepth 100000 in
theorem px_c296_ok : px_all (px_rowOk prog_14_method_115_code) px_c296 = true := qy_ok (by decide +kernel)
set_option maxRecDepth 100000 in
theorem px_c297_ok : px_all (px_rowOk prog_14_method_118_code) px_c297 = true := qy_ok (by decide +kernel)
set_option maxRecDepth 100000 in
theorem px_c298_ok : px_all (px_rowOk prog_14_method_120_code) px_c298 = true := qy_ok (by decide +kernel)
set_option maxRecDepth 100000 in
theorem px_c299_ok : px_all (px_rowOk prog_14_method_119_code) px_c299 = true := qy_ok (by decide +kernel)
set_option maxRecDepth 100000 in
theorem px_c300_ok : px_all (px_rowOk prog_14_method_125_code) px_c300 = true := qy_ok (by decide +kernel)
set_option maxRecDepth 100000 in
theorem px_c301_ok : px_all (px_rowOk prog_14_method_121_code) px_c301 = true := qy_ok (by decide +kernel)
set_option maxRecDepth 100000 in
theorem px_c302_ok : px_all (px_rowOk prog_14_method_124_code) px_c302 = true := qy_ok (by decide +kernel)
set_option maxRecDepth 100000 in
theorem px_c303_ok : px_all (px_rowOk prog_14_method_123_code) px_c303 = true := qy_ok (by decide +kernel)
set_option maxRecDepth 100000 in
theorem px_c304_ok : px_all (px_rowOk prog_14_method_122_code) px_c304 = true := qy_ok (by decide +kernel)
set_option maxRecDepth 100000 in
theorem px_c305_ok : px_all (px_rowOk prog_14_method_126_code) px_c305 = true := qy_ok (by decide +kernel)
set_option maxRecDepth 100000 in
theorem px_c306_ok : px_all (px_rowOk prog_14_method_128_code) px_c306 = true := qy_ok (by decide +kernel)
set_option maxRecDepth 100000 in
theorem px_c307_ok : px_all (px_rowOk prog_14_method_127_code) px_c307 = true := qy_ok (by decide +kernel)
set_option maxRecDepth 100000 in
theorem px_c308_ok : px_all (px_rowOk prog_14_method_131_code) px_c308 = true := qy_ok (by decide +kernel)
set_option maxRecDepth 100000 in
theorem px_c309_ok : px_all (px_rowOk prog_14_method_130_code) px_c309 = true := qy_ok (by decide +kernel)
set_option maxRecDepth 100000 in
theorem px_c310_ok : px_all (px_rowOk prog_14_method_129_code) px_c310 = true := qy_ok (by decide +kernel)
set_option maxRecDepth 100000 in
theorem px_c311_ok : px_all (px_rowOk prog_14_method_134_code) px_c311 = true := qy_ok (by decide +kernel)
set_option maxRecDepth 100000 in
theorem px_c312_ok : px_all (px_rowOk prog_14_method_132_code) px_c312 = true := qy_ok (by decide +kernel)
set_option maxRecDepth 100000 in
theorem px_c313_ok : px_all (px_rowOk prog_14_method_133_code) px_c313 = true := qy_ok (by decide +kernel)
set_option maxRecDepth 100000 in
theorem px_c314_ok : px_all (px_rowOk prog_14_method_136_code) px_c314 = true := qy_ok (by decide +kernel)
set_option maxRecDepth 100000 in
theorem px_c315_ok : px_all (px_rowOk prog_14_method_135_code) px_c315 = true := qy_ok (by decide +kernel)
set_option maxRecDepth 100000 in
theorem px_c316_ok : px_all (px_rowOk prog_14_method_138_code) px_c316 = true := qy_ok (by decide +kernel)
set_option maxRecDepth 100000 in
theorem px_c317_ok : px_all (px_rowOk prog_14_method_137_code) px_c317 = true := qy_ok (by decide +kernel)
set_option maxRecDepth 100000 in
theorem px_c318_ok : px_all (px_rowOk prog_14_method_139_code) px_c318 = true := qy_ok (by decide +kernel)
set_option maxRecDepth 100000 in
theorem px_c319_ok : px_all (px_rowOk prog_14_method_141_code) px_c319 = true := qy_ok (by decide +kernel)
set_option maxRecDepth 100000 in
theorem px_c320_ok : px_all (px_rowOk prog_14_method_140_code) px_c320 = true := qy_ok (by decide +kernel)
set_option maxRecDepth 100000 in
theorem px_c321_ok : px_all (px_rowOk prog_14_method_142_code) px_c321 = true := qy_ok (by decide +kernel)
set_option maxRecDepth 100000 in
theorem px_c322_ok : px_all (px_rowOk prog_14_method_144_code) px_c322 = true := qy_ok (by decide +kernel)
set_option maxRecDepth 100000 in
theorem px_c323_ok : px_all (px_rowOk prog_14_method_143_code) px_c323 = true := qy_ok (by decide +kernel)
set_option maxRecDepth 100000 in
theorem px_c324_ok : px_all (px_rowOk prog_14_method_145_code) px_c324 = true := qy_ok (by decide +kernel)
set_option maxRecDepth 100000 in
theorem px_c325_ok : px_all (px_rowOk prog_14_method_146_code) px_c325 = true := qy_ok (by decide +kernel)
set_option maxRecDepth 100000 in
theorem px_c326_ok : px_all (px_rowOk prog_14_method_147_code) px_c326 = true := qy_ok (by decide +kernel)
set_option maxRecDepth 100000 in
theorem px_c327_ok : px_all (px_rowOk prog_14_method_148_code) px_c327 = true := qy_ok (by decide +kernel)
