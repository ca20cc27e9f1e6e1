/-! the instructions as they stand in the bytes, decided: by gen.py -/
set_option maxRecDepth 100000 in
theorem tb_okD0_0 : tb_okD 0 0 = true := by decide +kernel
set_option maxRecDepth 100000 in
theorem tb_okD0_1 : tb_okD 0 1 = true := by decide +kernel
set_option maxRecDepth 100000 in
theorem tb_okD0_2 : tb_okD 0 2 = true := by decide +kernel
set_option maxRecDepth 100000 in
theorem tb_okD0_3 : tb_okD 0 3 = true := by decide +kernel
set_option maxRecDepth 100000 in
theorem tb_okD0_4 : tb_okD 0 4 = true := by decide +kernel
set_option maxRecDepth 100000 in
theorem tb_okD0_5 : tb_okD 0 5 = true := by decide +kernel
set_option maxRecDepth 100000 in
theorem tb_okD0_6 : tb_okD 0 6 = true := by decide +kernel
set_option maxRecDepth 100000 in
theorem tb_okD0_7 : tb_okD 0 7 = true := by decide +kernel
set_option maxRecDepth 100000 in
theorem tb_okD0_8 : tb_okD 0 8 = true := by decide +kernel
set_option maxRecDepth 100000 in
theorem tb_okD0_9 : tb_okD 0 9 = true := by decide +kernel
set_option maxRecDepth 100000 in
theorem tb_okD0_10 : tb_okD 0 10 = true := by decide +kernel
set_option maxRecDepth 100000 in
theorem tb_okD0_11 : tb_okD 0 11 = true := by decide +kernel
set_option maxRecDepth 100000 in
theorem tb_okD0_12 : tb_okD 0 12 = true := by decide +kernel
set_option maxRecDepth 100000 in
theorem tb_okD0_13 : tb_okD 0 13 = true := by decide +kernel
set_option maxRecDepth 100000 in
theorem tb_okD1_0 : tb_okD 1 0 = true := by decide +kernel
set_option maxRecDepth 100000 in
theorem tb_okD1_1 : tb_okD 1 1 = true := by decide +kernel
set_option maxRecDepth 100000 in
theorem tb_okD2_0 : tb_okD 2 0 = true := by decide +kernel
set_option maxRecDepth 100000 in
theorem tb_okD3_0 : tb_okD 3 0 = true := by decide +kernel
set_option maxRecDepth 100000 in
theorem tb_okD4_0 : tb_okD 4 0 = true := by decide +kernel
set_option maxRecDepth 100000 in
theorem tb_okD5_0 : tb_okD 5 0 = true := by decide +kernel
set_option maxRecDepth 100000 in
theorem tb_okD6_0 : tb_okD 6 0 = true := by decide +kernel
set_option maxRecDepth 100000 in
theorem tb_okD7_0 : tb_okD 7 0 = true := by decide +kernel
set_option maxRecDepth 100000 in
theorem tb_okD8_0 : tb_okD 8 0 = true := by decide +kernel
set_option maxRecDepth 100000 in
theorem tb_okD8_1 : tb_okD 8 1 = true := by decide +kernel
set_option maxRecDepth 100000 in
theorem tb_okD9_0 : tb_okD 9 0 = true := by decide +kernel
set_option maxRecDepth 100000 in
theorem tb_okD10_0 : tb_okD 10 0 = true := by decide +kernel
set_option maxRecDepth 100000 in
theorem tb_okD11_0 : tb_okD 11 0 = true := by decide +kernel
set_option maxRecDepth 100000 in
theorem tb_okD12_0 : tb_okD 12 0 = true := by decide +kernel
set_option maxRecDepth 100000 in
theorem tb_okD13_0 : tb_okD 13 0 = true := by decide +kernel
set_option maxRecDepth 100000 in
theorem tb_okD14_0 : tb_okD 14 0 = true := by decide +kernel
set_option maxRecDepth 100000 in
theorem tb_okD15_0 : tb_okD 15 0 = true := by decide +kernel
set_option maxRecDepth 100000 in
theorem tb_okD16_0 : tb_okD 16 0 = true := by decide +kernel
set_option maxRecDepth 100000 in
theorem tb_okD17_0 : tb_okD 17 0 = true := by decide +kernel
set_option maxRecDepth 100000 in
theorem tb_okD18_0 : tb_okD 18 0 = true := by decide +kernel
set_option maxRecDepth 100000 in
theorem tb_okD19_0 : tb_okD 19 0 = true := by decide +kernel
set_option maxRecDepth 100000 in
theorem tb_okD20_0 : tb_okD 20 0 = true := by decide +kernel
set_option maxRecDepth 100000 in
theorem tb_okD21_0 : tb_okD 21 0 = true := by decide +kernel
set_option maxRecDepth 100000 in
theorem tb_okD22_0 : tb_okD 22 0 = true := by decide +kernel
set_option maxRecDepth 100000 in
theorem tb_okD23_0 : tb_okD 23 0 = true := by decide +kernel
set_option maxRecDepth 100000 in
theorem tb_okD23_1 : tb_okD 23 1 = true := by decide +kernel
set_option maxRecDepth 100000 in
theorem tb_okD24_0 : tb_okD 24 0 = true := by decide +kernel
set_option maxRecDepth 100000 in
theorem tb_okD25_0 : tb_okD 25 0 = true := by decide +kernel
set_option maxRecDepth 100000 in
theorem tb_okD26_0 : tb_okD 26 0 = true := by decide +kernel
set_option maxRecDepth 100000 in
theorem tb_okD27_0 : tb_okD 27 0 = true := by decide +kernel
set_option maxRecDepth 100000 in
theorem tb_okD28_0 : tb_okD 28 0 = true := by decide +kernel
set_option maxRecDepth 100000 in
theorem tb_okD29_0 : tb_okD 29 0 = true := by decide +kernel
set_option maxRecDepth 100000 in
theorem tb_okD30_0 : tb_okD 30 0 = true := by decide +kernel
set_option maxRecDepth 100000 in
theorem tb_okD31_0 : tb_okD 31 0 = true := by decide +kernel
set_option maxRecDepth 100000 in
theorem tb_okD31_1 : tb_okD 31 1 = true := by decide +kernel
set_option maxRecDepth 100000 in
theorem tb_okD32_0 : tb_okD 32 0 = true := by decide +kernel
set_option maxRecDepth 100000 in
theorem tb_okD33_0 : tb_okD 33 0 = true := by decide +kernel
set_option maxRecDepth 100000 in
theorem tb_okD34_0 : tb_okD 34 0 = true := by decide +kernel
set_option maxRecDepth 100000 in
theorem tb_okD35_0 : tb_okD 35 0 = true := by decide +kernel
set_option maxRecDepth 100000 in
theorem tb_okD36_0 : tb_okD 36 0 = true := by decide +kernel
set_option maxRecDepth 100000 in
theorem tb_okD37_0 : tb_okD 37 0 = true := by decide +kernel
set_option maxRecDepth 100000 in
theorem tb_okD38_0 : tb_okD 38 0 = true := by decide +kernel
set_option maxRecDepth 100000 in
theorem tb_okD39_0 : tb_okD 39 0 = true := by decide +kernel
set_option maxRecDepth 100000 in
theorem tb_okD40_0 : tb_okD 40 0 = true := by decide +kernel
set_option maxRecDepth 100000 in
theorem tb_okD41_0 : tb_okD 41 0 = true := by decide +kernel
set_option maxRecDepth 100000 in
theorem tb_okD42_0 : tb_okD 42 0 = true := by decide +kernel
set_option maxRecDepth 100000 in
theorem tb_okD43_0 : tb_okD 43 0 = true := by decide +kernel
set_option maxRecDepth 100000 in
theorem tb_okD44_0 : tb_okD 44 0 = true := by decide +kernel
set_option maxRecDepth 100000 in
theorem tb_okD45_0 : tb_okD 45 0 = true := by decide +kernel
set_option maxRecDepth 100000 in
theorem tb_okD46_0 : tb_okD 46 0 = true := by decide +kernel
set_option maxRecDepth 100000 in
theorem tb_okD47_0 : tb_okD 47 0 = true := by decide +kernel
set_option maxRecDepth 100000 in
theorem tb_okD48_0 : tb_okD 48 0 = true := by decide +kernel
set_option maxRecDepth 100000 in
theorem tb_okD49_0 : tb_okD 49 0 = true := by decide +kernel
set_option maxRecDepth 100000 in
theorem tb_okD50_0 : tb_okD 50 0 = true := by decide +kernel
set_option maxRecDepth 100000 in
theorem tb_okD51_0 : tb_okD 51 0 = true := by decide +kernel
set_option maxRecDepth 100000 in
theorem tb_okD52_0 : tb_okD 52 0 = true := by decide +kernel
set_option maxRecDepth 100000 in
theorem tb_okD52_1 : tb_okD 52 1 = true := by decide +kernel
set_option maxRecDepth 100000 in
theorem tb_okD52_2 : tb_okD 52 2 = true := by decide +kernel
set_option maxRecDepth 100000 in
theorem tb_okD53_0 : tb_okD 53 0 = true := by decide +kernel
set_option maxRecDepth 100000 in
theorem tb_okD54_0 : tb_okD 54 0 = true := by decide +kernel
set_option maxRecDepth 100000 in
theorem tb_okD55_0 : tb_okD 55 0 = true := by decide +kernel
set_option maxRecDepth 100000 in
theorem tb_okD56_0 : tb_okD 56 0 = true := by decide +kernel
set_option maxRecDepth 100000 in
theorem tb_okD57_0 : tb_okD 57 0 = true := by decide +kernel
set_option maxRecDepth 100000 in
theorem tb_okD58_0 : tb_okD 58 0 = true := by decide +kernel
set_option maxRecDepth 100000 in
theorem tb_okD58_1 : tb_okD 58 1 = true := by decide +kernel
set_option maxRecDepth 100000 in
theorem tb_okD58_2 : tb_okD 58 2 = true := by decide +kernel
set_option maxRecDepth 100000 in
theorem tb_okD59_0 : tb_okD 59 0 = true := by decide +kernel
set_option maxRecDepth 100000 in
theorem tb_okD60_0 : tb_okD 60 0 = true := by decide +kernel
set_option maxRecDepth 100000 in
theorem tb_okD60_1 : tb_okD 60 1 = true := by decide +kernel
set_option maxRecDepth 100000 in
theorem tb_okD61_0 : tb_okD 61 0 = true := by decide +kernel
set_option maxRecDepth 100000 in
theorem tb_okD61_1 : tb_okD 61 1 = true := by decide +kernel
set_option maxRecDepth 100000 in
theorem tb_okD62_0 : tb_okD 62 0 = true := by decide +kernel
set_option maxRecDepth 100000 in
theorem tb_okD63_0 : tb_okD 63 0 = true := by decide +kernel
set_option maxRecDepth 100000 in
theorem tb_okD64_0 : tb_okD 64 0 = true := by decide +kernel
set_option maxRecDepth 100000 in
theorem tb_okD64_1 : tb_okD 64 1 = true := by decide +kernel
set_option maxRecDepth 100000 in
theorem tb_okD64_2 : tb_okD 64 2 = true := by decide +kernel
set_option maxRecDepth 100000 in
theorem tb_okD65_0 : tb_okD 65 0 = true := by decide +kernel
set_option maxRecDepth 100000 in
theorem tb_okD66_0 : tb_okD 66 0 = true := by decide +kernel
set_option maxRecDepth 100000 in
theorem tb_okD67_0 : tb_okD 67 0 = true := by decide +kernel
set_option maxRecDepth 100000 in
theorem tb_okD68_0 : tb_okD 68 0 = true := by decide +kernel
set_option maxRecDepth 100000 in
theorem tb_okD69_0 : tb_okD 69 0 = true := by decide +kernel
set_option maxRecDepth 100000 in
theorem tb_okD70_0 : tb_okD 70 0 = true := by decide +kernel
set_option maxRecDepth 100000 in
theorem tb_okD70_1 : tb_okD 70 1 = true := by decide +kernel
set_option maxRecDepth 100000 in
theorem tb_okD71_0 : tb_okD 71 0 = true := by decide +kernel
set_option maxRecDepth 100000 in
theorem tb_okD72_0 : tb_okD 72 0 = true := by decide +kernel
set_option maxRecDepth 100000 in
theorem tb_okD72_1 : tb_okD 72 1 = true := by decide +kernel
set_option maxRecDepth 100000 in
theorem tb_okD73_0 : tb_okD 73 0 = true := by decide +kernel
set_option maxRecDepth 100000 in
theorem tb_okD74_0 : tb_okD 74 0 = true := by decide +kernel
set_option maxRecDepth 100000 in
theorem tb_okD74_1 : tb_okD 74 1 = true := by decide +kernel
set_option maxRecDepth 100000 in
theorem tb_okD75_0 : tb_okD 75 0 = true := by decide +kernel
set_option maxRecDepth 100000 in
theorem tb_okD76_0 : tb_okD 76 0 = true := by decide +kernel
set_option maxRecDepth 100000 in
theorem tb_okD77_0 : tb_okD 77 0 = true := by decide +kernel
set_option maxRecDepth 100000 in
theorem tb_okD78_0 : tb_okD 78 0 = true := by decide +kernel
set_option maxRecDepth 100000 in
theorem tb_okD78_1 : tb_okD 78 1 = true := by decide +kernel
set_option maxRecDepth 100000 in
theorem tb_okD79_0 : tb_okD 79 0 = true := by decide +kernel
set_option maxRecDepth 100000 in
theorem tb_okD79_1 : tb_okD 79 1 = true := by decide +kernel
set_option maxRecDepth 100000 in
theorem tb_okD80_0 : tb_okD 80 0 = true := by decide +kernel
set_option maxRecDepth 100000 in
theorem tb_okD81_0 : tb_okD 81 0 = true := by decide +kernel
set_option maxRecDepth 100000 in
theorem tb_okD81_1 : tb_okD 81 1 = true := by decide +kernel
set_option maxRecDepth 100000 in
theorem tb_okD82_0 : tb_okD 82 0 = true := by decide +kernel
set_option maxRecDepth 100000 in
theorem tb_okD82_1 : tb_okD 82 1 = true := by decide +kernel
set_option maxRecDepth 100000 in
theorem tb_okD82_2 : tb_okD 82 2 = true := by decide +kernel
set_option maxRecDepth 100000 in
theorem tb_okD83_0 : tb_okD 83 0 = true := by decide +kernel
set_option maxRecDepth 100000 in
theorem tb_okD84_0 : tb_okD 84 0 = true := by decide +kernel
set_option maxRecDepth 100000 in
theorem tb_okD85_0 : tb_okD 85 0 = true := by decide +kernel
set_option maxRecDepth 100000 in
theorem tb_okD85_1 : tb_okD 85 1 = true := by decide +kernel
set_option maxRecDepth 100000 in
theorem tb_okD86_0 : tb_okD 86 0 = true := by decide +kernel
set_option maxRecDepth 100000 in
theorem tb_okD87_0 : tb_okD 87 0 = true := by decide +kernel
set_option maxRecDepth 100000 in
theorem tb_okD88_0 : tb_okD 88 0 = true := by decide +kernel
set_option maxRecDepth 100000 in
theorem tb_okD89_0 : tb_okD 89 0 = true := by decide +kernel
set_option maxRecDepth 100000 in
theorem tb_okD89_1 : tb_okD 89 1 = true := by decide +kernel
set_option maxRecDepth 100000 in
theorem tb_okD90_0 : tb_okD 90 0 = true := by decide +kernel
set_option maxRecDepth 100000 in
theorem tb_okD91_0 : tb_okD 91 0 = true := by decide +kernel
set_option maxRecDepth 100000 in
theorem tb_okD92_0 : tb_okD 92 0 = true := by decide +kernel
set_option maxRecDepth 100000 in
theorem tb_okD93_0 : tb_okD 93 0 = true := by decide +kernel
set_option maxRecDepth 100000 in
theorem tb_okD93_1 : tb_okD 93 1 = true := by decide +kernel
set_option maxRecDepth 100000 in
theorem tb_okD94_0 : tb_okD 94 0 = true := by decide +kernel
set_option maxRecDepth 100000 in
theorem tb_okD95_0 : tb_okD 95 0 = true := by decide +kernel
set_option maxRecDepth 100000 in
theorem tb_okD96_0 : tb_okD 96 0 = true := by decide +kernel
set_option maxRecDepth 100000 in
theorem tb_okD97_0 : tb_okD 97 0 = true := by decide +kernel
set_option maxRecDepth 100000 in
theorem tb_okD98_0 : tb_okD 98 0 = true := by decide +kernel
set_option maxRecDepth 100000 in
theorem tb_okD98_1 : tb_okD 98 1 = true := by decide +kernel
set_option maxRecDepth 100000 in
theorem tb_okD99_0 : tb_okD 99 0 = true := by decide +kernel
set_option maxRecDepth 100000 in
theorem tb_okD100_0 : tb_okD 100 0 = true := by decide +kernel
set_option maxRecDepth 100000 in
theorem tb_okD101_0 : tb_okD 101 0 = true := by decide +kernel
set_option maxRecDepth 100000 in
theorem tb_okD102_0 : tb_okD 102 0 = true := by decide +kernel
set_option maxRecDepth 100000 in
theorem tb_okD102_1 : tb_okD 102 1 = true := by decide +kernel
set_option maxRecDepth 100000 in
theorem tb_okD103_0 : tb_okD 103 0 = true := by decide +kernel
set_option maxRecDepth 100000 in
theorem tb_okD104_0 : tb_okD 104 0 = true := by decide +kernel
set_option maxRecDepth 100000 in
theorem tb_okD104_1 : tb_okD 104 1 = true := by decide +kernel
set_option maxRecDepth 100000 in
theorem tb_okD105_0 : tb_okD 105 0 = true := by decide +kernel
set_option maxRecDepth 100000 in
theorem tb_okD106_0 : tb_okD 106 0 = true := by decide +kernel
set_option maxRecDepth 100000 in
theorem tb_okD107_0 : tb_okD 107 0 = true := by decide +kernel
set_option maxRecDepth 100000 in
theorem tb_okD108_0 : tb_okD 108 0 = true := by decide +kernel
set_option maxRecDepth 100000 in
theorem tb_okD108_1 : tb_okD 108 1 = true := by decide +kernel
set_option maxRecDepth 100000 in
theorem tb_okD108_2 : tb_okD 108 2 = true := by decide +kernel
set_option maxRecDepth 100000 in
theorem tb_okD108_3 : tb_okD 108 3 = true := by decide +kernel
set_option maxRecDepth 100000 in
theorem tb_okD109_0 : tb_okD 109 0 = true := by decide +kernel
set_option maxRecDepth 100000 in
theorem tb_okD110_0 : tb_okD 110 0 = true := by decide +kernel
set_option maxRecDepth 100000 in
theorem tb_okD111_0 : tb_okD 111 0 = true := by decide +kernel
set_option maxRecDepth 100000 in
theorem tb_okD111_1 : tb_okD 111 1 = true := by decide +kernel
set_option maxRecDepth 100000 in
theorem tb_okD111_2 : tb_okD 111 2 = true := by decide +kernel
set_option maxRecDepth 100000 in
theorem tb_okD112_0 : tb_okD 112 0 = true := by decide +kernel
set_option maxRecDepth 100000 in
theorem tb_okD113_0 : tb_okD 113 0 = true := by decide +kernel
set_option maxRecDepth 100000 in
theorem tb_okD114_0 : tb_okD 114 0 = true := by decide +kernel
set_option maxRecDepth 100000 in
theorem tb_okD115_0 : tb_okD 115 0 = true := by decide +kernel
set_option maxRecDepth 100000 in
theorem tb_okD116_0 : tb_okD 116 0 = true := by decide +kernel
set_option maxRecDepth 100000 in
theorem tb_okD117_0 : tb_okD 117 0 = true := by decide +kernel
set_option maxRecDepth 100000 in
theorem tb_okD118_0 : tb_okD 118 0 = true := by decide +kernel
set_option maxRecDepth 100000 in
theorem tb_okD119_0 : tb_okD 119 0 = true := by decide +kernel
set_option maxRecDepth 100000 in
theorem tb_okD120_0 : tb_okD 120 0 = true := by decide +kernel
set_option maxRecDepth 100000 in
theorem tb_okD120_1 : tb_okD 120 1 = true := by decide +kernel
set_option maxRecDepth 100000 in
theorem tb_okD121_0 : tb_okD 121 0 = true := by decide +kernel
set_option maxRecDepth 100000 in
theorem tb_okD122_0 : tb_okD 122 0 = true := by decide +kernel
set_option maxRecDepth 100000 in
theorem tb_okD122_1 : tb_okD 122 1 = true := by decide +kernel
set_option maxRecDepth 100000 in
theorem tb_okD123_0 : tb_okD 123 0 = true := by decide +kernel
set_option maxRecDepth 100000 in
theorem tb_okD123_1 : tb_okD 123 1 = true := by decide +kernel
set_option maxRecDepth 100000 in
theorem tb_okD124_0 : tb_okD 124 0 = true := by decide +kernel
set_option maxRecDepth 100000 in
theorem tb_okD124_1 : tb_okD 124 1 = true := by decide +kernel
set_option maxRecDepth 100000 in
theorem tb_okD125_0 : tb_okD 125 0 = true := by decide +kernel
set_option maxRecDepth 100000 in
theorem tb_okD126_0 : tb_okD 126 0 = true := by decide +kernel
set_option maxRecDepth 100000 in
theorem tb_okD126_1 : tb_okD 126 1 = true := by decide +kernel
set_option maxRecDepth 100000 in
theorem tb_okD126_2 : tb_okD 126 2 = true := by decide +kernel
set_option maxRecDepth 100000 in
theorem tb_okD126_3 : tb_okD 126 3 = true := by decide +kernel
set_option maxRecDepth 100000 in
theorem tb_okD127_0 : tb_okD 127 0 = true := by decide +kernel
set_option maxRecDepth 100000 in
theorem tb_okD127_1 : tb_okD 127 1 = true := by decide +kernel
set_option maxRecDepth 100000 in
theorem tb_okD127_2 : tb_okD 127 2 = true := by decide +kernel
set_option maxRecDepth 100000 in
theorem tb_okD127_3 : tb_okD 127 3 = true := by decide +kernel
set_option maxRecDepth 100000 in
theorem tb_okD128_0 : tb_okD 128 0 = true := by decide +kernel
set_option maxRecDepth 100000 in
theorem tb_okD128_1 : tb_okD 128 1 = true := by decide +kernel
set_option maxRecDepth 100000 in
theorem tb_okD128_2 : tb_okD 128 2 = true := by decide +kernel
set_option maxRecDepth 100000 in
theorem tb_okD128_3 : tb_okD 128 3 = true := by decide +kernel
set_option maxRecDepth 100000 in
theorem tb_okD128_4 : tb_okD 128 4 = true := by decide +kernel
set_option maxRecDepth 100000 in
theorem tb_okD129_0 : tb_okD 129 0 = true := by decide +kernel
set_option maxRecDepth 100000 in
theorem tb_okD130_0 : tb_okD 130 0 = true := by decide +kernel
set_option maxRecDepth 100000 in
theorem tb_okD131_0 : tb_okD 131 0 = true := by decide +kernel
set_option maxRecDepth 100000 in
theorem tb_okD132_0 : tb_okD 132 0 = true := by decide +kernel
set_option maxRecDepth 100000 in
theorem tb_okD132_1 : tb_okD 132 1 = true := by decide +kernel
set_option maxRecDepth 100000 in
theorem tb_okD132_2 : tb_okD 132 2 = true := by decide +kernel
set_option maxRecDepth 100000 in
theorem tb_okD132_3 : tb_okD 132 3 = true := by decide +kernel
set_option maxRecDepth 100000 in
theorem tb_okD132_4 : tb_okD 132 4 = true := by decide +kernel
set_option maxRecDepth 100000 in
theorem tb_okD132_5 : tb_okD 132 5 = true := by decide +kernel
set_option maxRecDepth 100000 in
theorem tb_okD132_6 : tb_okD 132 6 = true := by decide +kernel
set_option maxRecDepth 100000 in
theorem tb_okD133_0 : tb_okD 133 0 = true := by decide +kernel
set_option maxRecDepth 100000 in
theorem tb_okD133_1 : tb_okD 133 1 = true := by decide +kernel
set_option maxRecDepth 100000 in
theorem tb_okD134_0 : tb_okD 134 0 = true := by decide +kernel
set_option maxRecDepth 100000 in
theorem tb_okD134_1 : tb_okD 134 1 = true := by decide +kernel
set_option maxRecDepth 100000 in
theorem tb_okD135_0 : tb_okD 135 0 = true := by decide +kernel
set_option maxRecDepth 100000 in
theorem tb_okD135_1 : tb_okD 135 1 = true := by decide +kernel
set_option maxRecDepth 100000 in
theorem tb_okD135_2 : tb_okD 135 2 = true := by decide +kernel
set_option maxRecDepth 100000 in
theorem tb_okD135_3 : tb_okD 135 3 = true := by decide +kernel
set_option maxRecDepth 100000 in
theorem tb_okD136_0 : tb_okD 136 0 = true := by decide +kernel
set_option maxRecDepth 100000 in
theorem tb_okD136_1 : tb_okD 136 1 = true := by decide +kernel
set_option maxRecDepth 100000 in
theorem tb_okD136_2 : tb_okD 136 2 = true := by decide +kernel
set_option maxRecDepth 100000 in
theorem tb_okD136_3 : tb_okD 136 3 = true := by decide +kernel
set_option maxRecDepth 100000 in
theorem tb_okD137_0 : tb_okD 137 0 = true := by decide +kernel
set_option maxRecDepth 100000 in
theorem tb_okD137_1 : tb_okD 137 1 = true := by decide +kernel
set_option maxRecDepth 100000 in
theorem tb_okD137_2 : tb_okD 137 2 = true := by decide +kernel
set_option maxRecDepth 100000 in
theorem tb_okD138_0 : tb_okD 138 0 = true := by decide +kernel
set_option maxRecDepth 100000 in
theorem tb_okD139_0 : tb_okD 139 0 = true := by decide +kernel
set_option maxRecDepth 100000 in
theorem tb_okD140_0 : tb_okD 140 0 = true := by decide +kernel
set_option maxRecDepth 100000 in
theorem tb_okD140_1 : tb_okD 140 1 = true := by decide +kernel
set_option maxRecDepth 100000 in
theorem tb_okD141_0 : tb_okD 141 0 = true := by decide +kernel
set_option maxRecDepth 100000 in
theorem tb_okD142_0 : tb_okD 142 0 = true := by decide +kernel
set_option maxRecDepth 100000 in
theorem tb_okD143_0 : tb_okD 143 0 = true := by decide +kernel
set_option maxRecDepth 100000 in
theorem tb_okD143_1 : tb_okD 143 1 = true := by decide +kernel
set_option maxRecDepth 100000 in
theorem tb_okD143_2 : tb_okD 143 2 = true := by decide +kernel
set_option maxRecDepth 100000 in
theorem tb_okD144_0 : tb_okD 144 0 = true := by decide +kernel
set_option maxRecDepth 100000 in
theorem tb_okD145_0 : tb_okD 145 0 = true := by decide +kernel
set_option maxRecDepth 100000 in
theorem tb_okD145_1 : tb_okD 145 1 = true := by decide +kernel
set_option maxRecDepth 100000 in
theorem tb_okD146_0 : tb_okD 146 0 = true := by decide +kernel
set_option maxRecDepth 100000 in
theorem tb_okD146_1 : tb_okD 146 1 = true := by decide +kernel
set_option maxRecDepth 100000 in
theorem tb_okD146_2 : tb_okD 146 2 = true := by decide +kernel
set_option maxRecDepth 100000 in
theorem tb_okD146_3 : tb_okD 146 3 = true := by decide +kernel
set_option maxRecDepth 100000 in
theorem tb_okD146_4 : tb_okD 146 4 = true := by decide +kernel
set_option maxRecDepth 100000 in
theorem tb_okD147_0 : tb_okD 147 0 = true := by decide +kernel
set_option maxRecDepth 100000 in
theorem tb_okD148_0 : tb_okD 148 0 = true := by decide +kernel
set_option maxRecDepth 100000 in
theorem tb_okD_all : ∀ q ∈ [(0, 0), (0, 1), (0, 2), (0, 3), (0, 4), (0, 5), (0, 6), (0, 7), (0, 8), (0, 9), (0, 10), (0, 11), (0, 12), (0, 13), (1, 0), (1, 1), (2, 0), (3, 0), (4, 0), (5, 0), (6, 0), (7, 0), (8, 0), (8, 1), (9, 0), (10, 0), (11, 0), (12, 0), (13, 0), (14, 0), (15, 0), (16, 0), (17, 0), (18, 0), (19, 0), (20, 0), (21, 0), (22, 0), (23, 0), (23, 1), (24, 0), (25, 0), (26, 0), (27, 0), (28, 0), (29, 0), (30, 0), (31, 0), (31, 1), (32, 0), (33, 0), (34, 0), (35, 0), (36, 0), (37, 0), (38, 0), (39, 0), (40, 0), (41, 0), (42, 0), (43, 0), (44, 0), (45, 0), (46, 0), (47, 0), (48, 0), (49, 0), (50, 0), (51, 0), (52, 0), (52, 1), (52, 2), (53, 0), (54, 0), (55, 0), (56, 0), (57, 0), (58, 0), (58, 1), (58, 2), (59, 0), (60, 0), (60, 1), (61, 0), (61, 1), (62, 0), (63, 0), (64, 0), (64, 1), (64, 2), (65, 0), (66, 0), (67, 0), (68, 0), (69, 0), (70, 0), (70, 1), (71, 0), (72, 0), (72, 1), (73, 0), (74, 0), (74, 1), (75, 0), (76, 0), (77, 0), (78, 0), (78, 1), (79, 0), (79, 1), (80, 0), (81, 0), (81, 1), (82, 0), (82, 1), (82, 2), (83, 0), (84, 0), (85, 0), (85, 1), (86, 0), (87, 0), (88, 0), (89, 0), (89, 1), (90, 0), (91, 0), (92, 0), (93, 0), (93, 1), (94, 0), (95, 0), (96, 0), (97, 0), (98, 0), (98, 1), (99, 0), (100, 0), (101, 0), (102, 0), (102, 1), (103, 0), (104, 0), (104, 1), (105, 0), (106, 0), (107, 0), (108, 0), (108, 1), (108, 2), (108, 3), (109, 0), (110, 0), (111, 0), (111, 1), (111, 2), (112, 0), (113, 0), (114, 0), (115, 0), (116, 0), (117, 0), (118, 0), (119, 0), (120, 0), (120, 1), (121, 0), (122, 0), (122, 1), (123, 0), (123, 1), (124, 0), (124, 1), (125, 0), (126, 0), (126, 1), (126, 2), (126, 3), (127, 0), (127, 1), (127, 2), (127, 3), (128, 0), (128, 1), (128, 2), (128, 3), (128, 4), (129, 0), (130, 0), (131, 0), (132, 0), (132, 1), (132, 2), (132, 3), (132, 4), (132, 5), (132, 6), (133, 0), (133, 1), (134, 0), (134, 1), (135, 0), (135, 1), (135, 2), (135, 3), (136, 0), (136, 1), (136, 2), (136, 3), (137, 0), (137, 1), (137, 2), (138, 0), (139, 0), (140, 0), (140, 1), (141, 0), (142, 0), (143, 0), (143, 1), (143, 2), (144, 0), (145, 0), (145, 1), (146, 0), (146, 1), (146, 2), (146, 3), (146, 4), (147, 0), (148, 0)], tb_okD q.1 q.2 = true := List.forall_mem_cons.mpr ⟨tb_okD0_0, List.forall_mem_cons.mpr ⟨tb_okD0_1, List.forall_mem_cons.mpr ⟨tb_okD0_2, List.forall_mem_cons.mpr ⟨tb_okD0_3, List.forall_mem_cons.mpr ⟨tb_okD0_4, List.forall_mem_cons.mpr ⟨tb_okD0_5, List.forall_mem_cons.mpr ⟨tb_okD0_6, List.forall_mem_cons.mpr ⟨tb_okD0_7, List.forall_mem_cons.mpr ⟨tb_okD0_8, List.forall_mem_cons.mpr ⟨tb_okD0_9, List.forall_mem_cons.mpr ⟨tb_okD0_10, List.forall_mem_cons.mpr ⟨tb_okD0_11, List.forall_mem_cons.mpr ⟨tb_okD0_12, List.forall_mem_cons.mpr ⟨tb_okD0_13, List.forall_mem_cons.mpr ⟨tb_okD1_0, List.forall_mem_cons.mpr ⟨tb_okD1_1, List.forall_mem_cons.mpr ⟨tb_okD2_0, List.forall_mem_cons.mpr ⟨tb_okD3_0, List.forall_mem_cons.mpr ⟨tb_okD4_0, List.forall_mem_cons.mpr ⟨tb_okD5_0, List.forall_mem_cons.mpr ⟨tb_okD6_0, List.forall_mem_cons.mpr ⟨tb_okD7_0, List.forall_mem_cons.mpr ⟨tb_okD8_0, List.forall_mem_cons.mpr ⟨tb_okD8_1, List.forall_mem_cons.mpr ⟨tb_okD9_0, List.forall_mem_cons.mpr ⟨tb_okD10_0, List.forall_mem_cons.mpr ⟨tb_okD11_0, List.forall_mem_cons.mpr ⟨tb_okD12_0, List.forall_mem_cons.mpr ⟨tb_okD13_0, List.forall_mem_cons.mpr ⟨tb_okD14_0, List.forall_mem_cons.mpr ⟨tb_okD15_0, List.forall_mem_cons.mpr ⟨tb_okD16_0, List.forall_mem_cons.mpr ⟨tb_okD17_0, List.forall_mem_cons.mpr ⟨tb_okD18_0, List.forall_mem_cons.mpr ⟨tb_okD19_0, List.forall_mem_cons.mpr ⟨tb_okD20_0, List.forall_mem_cons.mpr ⟨tb_okD21_0, List.forall_mem_cons.mpr ⟨tb_okD22_0, List.forall_mem_cons.mpr ⟨tb_okD23_0, List.forall_mem_cons.mpr ⟨tb_okD23_1, List.forall_mem_cons.mpr ⟨tb_okD24_0, List.forall_mem_cons.mpr ⟨tb_okD25_0, List.forall_mem_cons.mpr ⟨tb_okD26_0, List.forall_mem_cons.mpr ⟨tb_okD27_0, List.forall_mem_cons.mpr ⟨tb_okD28_0, List.forall_mem_cons.mpr ⟨tb_okD29_0, List.forall_mem_cons.mpr ⟨tb_okD30_0, List.forall_mem_cons.mpr ⟨tb_okD31_0, List.forall_mem_cons.mpr ⟨tb_okD31_1, List.forall_mem_cons.mpr ⟨tb_okD32_0, List.forall_mem_cons.mpr ⟨tb_okD33_0, List.forall_mem_cons.mpr ⟨tb_okD34_0, List.forall_mem_cons.mpr ⟨tb_okD35_0, List.forall_mem_cons.mpr ⟨tb_okD36_0, List.forall_mem_cons.mpr ⟨tb_okD37_0, List.forall_mem_cons.mpr ⟨tb_okD38_0, List.forall_mem_cons.mpr ⟨tb_okD39_0, List.forall_mem_cons.mpr ⟨tb_okD40_0, List.forall_mem_cons.mpr ⟨tb_okD41_0, List.forall_mem_cons.mpr ⟨tb_okD42_0, List.forall_mem_cons.mpr ⟨tb_okD43_0, List.forall_mem_cons.mpr ⟨tb_okD44_0, List.forall_mem_cons.mpr ⟨tb_okD45_0, List.forall_mem_cons.mpr ⟨tb_okD46_0, List.forall_mem_cons.mpr ⟨tb_okD47_0, List.forall_mem_cons.mpr ⟨tb_okD48_0, List.forall_mem_cons.mpr ⟨tb_okD49_0, List.forall_mem_cons.mpr ⟨tb_okD50_0, List.forall_mem_cons.mpr ⟨tb_okD51_0, List.forall_mem_cons.mpr ⟨tb_okD52_0, List.forall_mem_cons.mpr ⟨tb_okD52_1, List.forall_mem_cons.mpr ⟨tb_okD52_2, List.forall_mem_cons.mpr ⟨tb_okD53_0, List.forall_mem_cons.mpr ⟨tb_okD54_0, List.forall_mem_cons.mpr ⟨tb_okD55_0, List.forall_mem_cons.mpr ⟨tb_okD56_0, List.forall_mem_cons.mpr ⟨tb_okD57_0, List.forall_mem_cons.mpr ⟨tb_okD58_0, List.forall_mem_cons.mpr ⟨tb_okD58_1, List.forall_mem_cons.mpr ⟨tb_okD58_2, List.forall_mem_cons.mpr ⟨tb_okD59_0, List.forall_mem_cons.mpr ⟨tb_okD60_0, List.forall_mem_cons.mpr ⟨tb_okD60_1, List.forall_mem_cons.mpr ⟨tb_okD61_0, List.forall_mem_cons.mpr ⟨tb_okD61_1, List.forall_mem_cons.mpr ⟨tb_okD62_0, List.forall_mem_cons.mpr ⟨tb_okD63_0, List.forall_mem_cons.mpr ⟨tb_okD64_0, List.forall_mem_cons.mpr ⟨tb_okD64_1, List.forall_mem_cons.mpr ⟨tb_okD64_2, List.forall_mem_cons.mpr ⟨tb_okD65_0, List.forall_mem_cons.mpr ⟨tb_okD66_0, List.forall_mem_cons.mpr ⟨tb_okD67_0, List.forall_mem_cons.mpr ⟨tb_okD68_0, List.forall_mem_cons.mpr ⟨tb_okD69_0, List.forall_mem_cons.mpr ⟨tb_okD70_0, List.forall_mem_cons.mpr ⟨tb_okD70_1, List.forall_mem_cons.mpr ⟨tb_okD71_0, List.forall_mem_cons.mpr ⟨tb_okD72_0, List.forall_mem_cons.mpr ⟨tb_okD72_1, List.forall_mem_cons.mpr ⟨tb_okD73_0, List.forall_mem_cons.mpr ⟨tb_okD74_0, List.forall_mem_cons.mpr ⟨tb_okD74_1, List.forall_mem_cons.mpr ⟨tb_okD75_0, List.forall_mem_cons.mpr ⟨tb_okD76_0, List.forall_mem_cons.mpr ⟨tb_okD77_0, List.forall_mem_cons.mpr ⟨tb_okD78_0, List.forall_mem_cons.mpr ⟨tb_okD78_1, List.forall_mem_cons.mpr ⟨tb_okD79_0, List.forall_mem_cons.mpr ⟨tb_okD79_1, List.forall_mem_cons.mpr ⟨tb_okD80_0, List.forall_mem_cons.mpr ⟨tb_okD81_0, List.forall_mem_cons.mpr ⟨tb_okD81_1, List.forall_mem_cons.mpr ⟨tb_okD82_0, List.forall_mem_cons.mpr ⟨tb_okD82_1, List.forall_mem_cons.mpr ⟨tb_okD82_2, List.forall_mem_cons.mpr ⟨tb_okD83_0, List.forall_mem_cons.mpr ⟨tb_okD84_0, List.forall_mem_cons.mpr ⟨tb_okD85_0, List.forall_mem_cons.mpr ⟨tb_okD85_1, List.forall_mem_cons.mpr ⟨tb_okD86_0, List.forall_mem_cons.mpr ⟨tb_okD87_0, List.forall_mem_cons.mpr ⟨tb_okD88_0, List.forall_mem_cons.mpr ⟨tb_okD89_0, List.forall_mem_cons.mpr ⟨tb_okD89_1, List.forall_mem_cons.mpr ⟨tb_okD90_0, List.forall_mem_cons.mpr ⟨tb_okD91_0, List.forall_mem_cons.mpr ⟨tb_okD92_0, List.forall_mem_cons.mpr ⟨tb_okD93_0, List.forall_mem_cons.mpr ⟨tb_okD93_1, List.forall_mem_cons.mpr ⟨tb_okD94_0, List.forall_mem_cons.mpr ⟨tb_okD95_0, List.forall_mem_cons.mpr ⟨tb_okD96_0, List.forall_mem_cons.mpr ⟨tb_okD97_0, List.forall_mem_cons.mpr ⟨tb_okD98_0, List.forall_mem_cons.mpr ⟨tb_okD98_1, List.forall_mem_cons.mpr ⟨tb_okD99_0, List.forall_mem_cons.mpr ⟨tb_okD100_0, List.forall_mem_cons.mpr ⟨tb_okD101_0, List.forall_mem_cons.mpr ⟨tb_okD102_0, List.forall_mem_cons.mpr ⟨tb_okD102_1, List.forall_mem_cons.mpr ⟨tb_okD103_0, List.forall_mem_cons.mpr ⟨tb_okD104_0, List.forall_mem_cons.mpr ⟨tb_okD104_1, List.forall_mem_cons.mpr ⟨tb_okD105_0, List.forall_mem_cons.mpr ⟨tb_okD106_0, List.forall_mem_cons.mpr ⟨tb_okD107_0, List.forall_mem_cons.mpr ⟨tb_okD108_0, List.forall_mem_cons.mpr ⟨tb_okD108_1, List.forall_mem_cons.mpr ⟨tb_okD108_2, List.forall_mem_cons.mpr ⟨tb_okD108_3, List.forall_mem_cons.mpr ⟨tb_okD109_0, List.forall_mem_cons.mpr ⟨tb_okD110_0, List.forall_mem_cons.mpr ⟨tb_okD111_0, List.forall_mem_cons.mpr ⟨tb_okD111_1, List.forall_mem_cons.mpr ⟨tb_okD111_2, List.forall_mem_cons.mpr ⟨tb_okD112_0, List.forall_mem_cons.mpr ⟨tb_okD113_0, List.forall_mem_cons.mpr ⟨tb_okD114_0, List.forall_mem_cons.mpr ⟨tb_okD115_0, List.forall_mem_cons.mpr ⟨tb_okD116_0, List.forall_mem_cons.mpr ⟨tb_okD117_0, List.forall_mem_cons.mpr ⟨tb_okD118_0, List.forall_mem_cons.mpr ⟨tb_okD119_0, List.forall_mem_cons.mpr ⟨tb_okD120_0, List.forall_mem_cons.mpr ⟨tb_okD120_1, List.forall_mem_cons.mpr ⟨tb_okD121_0, List.forall_mem_cons.mpr ⟨tb_okD122_0, List.forall_mem_cons.mpr ⟨tb_okD122_1, List.forall_mem_cons.mpr ⟨tb_okD123_0, List.forall_mem_cons.mpr ⟨tb_okD123_1, List.forall_mem_cons.mpr ⟨tb_okD124_0, List.forall_mem_cons.mpr ⟨tb_okD124_1, List.forall_mem_cons.mpr ⟨tb_okD125_0, List.forall_mem_cons.mpr ⟨tb_okD126_0, List.forall_mem_cons.mpr ⟨tb_okD126_1, List.forall_mem_cons.mpr ⟨tb_okD126_2, List.forall_mem_cons.mpr ⟨tb_okD126_3, List.forall_mem_cons.mpr ⟨tb_okD127_0, List.forall_mem_cons.mpr ⟨tb_okD127_1, List.forall_mem_cons.mpr ⟨tb_okD127_2, List.forall_mem_cons.mpr ⟨tb_okD127_3, List.forall_mem_cons.mpr ⟨tb_okD128_0, List.forall_mem_cons.mpr ⟨tb_okD128_1, List.forall_mem_cons.mpr ⟨tb_okD128_2, List.forall_mem_cons.mpr ⟨tb_okD128_3, List.forall_mem_cons.mpr ⟨tb_okD128_4, List.forall_mem_cons.mpr ⟨tb_okD129_0, List.forall_mem_cons.mpr ⟨tb_okD130_0, List.forall_mem_cons.mpr ⟨tb_okD131_0, List.forall_mem_cons.mpr ⟨tb_okD132_0, List.forall_mem_cons.mpr ⟨tb_okD132_1, List.forall_mem_cons.mpr ⟨tb_okD132_2, List.forall_mem_cons.mpr ⟨tb_okD132_3, List.forall_mem_cons.mpr ⟨tb_okD132_4, List.forall_mem_cons.mpr ⟨tb_okD132_5, List.forall_mem_cons.mpr ⟨tb_okD132_6, List.forall_mem_cons.mpr ⟨tb_okD133_0, List.forall_mem_cons.mpr ⟨tb_okD133_1, List.forall_mem_cons.mpr ⟨tb_okD134_0, List.forall_mem_cons.mpr ⟨tb_okD134_1, List.forall_mem_cons.mpr ⟨tb_okD135_0, List.forall_mem_cons.mpr ⟨tb_okD135_1, List.forall_mem_cons.mpr ⟨tb_okD135_2, List.forall_mem_cons.mpr ⟨tb_okD135_3, List.forall_mem_cons.mpr ⟨tb_okD136_0, List.forall_mem_cons.mpr ⟨tb_okD136_1, List.forall_mem_cons.mpr ⟨tb_okD136_2, List.forall_mem_cons.mpr ⟨tb_okD136_3, List.forall_mem_cons.mpr ⟨tb_okD137_0, List.forall_mem_cons.mpr ⟨tb_okD137_1, List.forall_mem_cons.mpr ⟨tb_okD137_2, List.forall_mem_cons.mpr ⟨tb_okD138_0, List.forall_mem_cons.mpr ⟨tb_okD139_0, List.forall_mem_cons.mpr ⟨tb_okD140_0, List.forall_mem_cons.mpr ⟨tb_okD140_1, List.forall_mem_cons.mpr ⟨tb_okD141_0, List.forall_mem_cons.mpr ⟨tb_okD142_0, List.forall_mem_cons.mpr ⟨tb_okD143_0, List.forall_mem_cons.mpr ⟨tb_okD143_1, List.forall_mem_cons.mpr ⟨tb_okD143_2, List.forall_mem_cons.mpr ⟨tb_okD144_0, List.forall_mem_cons.mpr ⟨tb_okD145_0, List.forall_mem_cons.mpr ⟨tb_okD145_1, List.forall_mem_cons.mpr ⟨tb_okD146_0, List.forall_mem_cons.mpr ⟨tb_okD146_1, List.forall_mem_cons.mpr ⟨tb_okD146_2, List.forall_mem_cons.mpr ⟨tb_okD146_3, List.forall_mem_cons.mpr ⟨tb_okD146_4, List.forall_mem_cons.mpr ⟨tb_okD147_0, List.forall_mem_cons.mpr ⟨tb_okD148_0, fun _ h => absurd h List.not_mem_nil⟩⟩⟩⟩⟩⟩⟩⟩⟩⟩⟩⟩⟩⟩⟩⟩⟩⟩⟩⟩⟩⟩⟩⟩⟩⟩⟩⟩⟩⟩⟩⟩⟩⟩⟩⟩⟩⟩⟩⟩⟩⟩⟩⟩⟩⟩⟩⟩⟩⟩⟩⟩⟩⟩⟩⟩⟩⟩⟩⟩⟩⟩⟩⟩⟩⟩⟩⟩⟩⟩⟩⟩⟩⟩⟩⟩⟩⟩⟩⟩⟩⟩⟩⟩⟩⟩⟩⟩⟩⟩⟩⟩⟩⟩⟩⟩⟩⟩⟩⟩⟩⟩⟩⟩⟩⟩⟩⟩⟩⟩⟩⟩⟩⟩⟩⟩⟩⟩⟩⟩⟩⟩⟩⟩⟩⟩⟩⟩⟩⟩⟩⟩⟩⟩⟩⟩⟩⟩⟩⟩⟩⟩⟩⟩⟩⟩⟩⟩⟩⟩⟩⟩⟩⟩⟩⟩⟩⟩⟩⟩⟩⟩⟩⟩⟩⟩⟩⟩⟩⟩⟩⟩⟩⟩⟩⟩⟩⟩⟩⟩⟩⟩⟩⟩⟩⟩⟩⟩⟩⟩⟩⟩⟩⟩⟩⟩⟩⟩⟩⟩⟩⟩⟩⟩⟩⟩⟩⟩⟩⟩⟩⟩⟩⟩⟩⟩⟩⟩⟩⟩⟩⟩⟩⟩⟩⟩⟩⟩⟩⟩⟩
