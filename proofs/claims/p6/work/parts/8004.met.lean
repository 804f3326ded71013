/-! contracts -/
noncomputable def tH_58_165 : List tc_It := [de_it 0x4010000, de_it 0x1010002010501, de_it 0x2010000, de_it 0x1010b010100000300000001, de_it 0x2010000, de_it 0x2, de_it 0x4010000, de_it 0x6010011, de_it 0x10c010100010200000003, de_it 0x6010000, de_it 0x104010101090101010201010101010101060101020901040201010401010109010101020101010101010106010100000000000000000000000001090101000100000001000100011700067a020008]
set_option maxRecDepth 100000 in
theorem tP_58_164 : tf_plk tV_58 tL_58_164 tH_58_165 = true := by decide +kernel
noncomputable def tH_58_166 : List tc_It := [de_it 0x4010000, de_it 0x1010002010501, de_it 0x2010000, de_it 0x1010b010100000300000001, de_it 0x2010000, de_it 0x2, de_it 0x4010000, de_it 0x6010011, de_it 0x10c010100010200000003, de_it 0x6010000, de_it 0x104010101090101010201010101010101060101020901040201010401010109010101020101010101010106010100000000000000000000000001090101000100000001000100011700067c020008]
set_option maxRecDepth 100000 in
theorem tP_58_165 : tf_plk tV_58 tL_58_165 tH_58_166 = true := by decide +kernel
noncomputable def tH_58_167 : List tc_It := [de_it 0x4010000, de_it 0x1010002010501, de_it 0x2010000, de_it 0x1010b010100000300000001, de_it 0x2010000, de_it 0x2, de_it 0x4010000, de_it 0x6010011, de_it 0x10c010100010200000003, de_it 0x6010000, de_it 0x104010101090101010201010101010101060101020901040201010401010109010101020101010101010106010100000000000000000000000001090101000100000001000100011700067e020008]
set_option maxRecDepth 100000 in
theorem tP_58_166 : tf_plk tV_58 tL_58_166 tH_58_167 = true := by decide +kernel
noncomputable def tH_58_168 : List tc_It := [de_it 0x4010000, de_it 0x1010002010501, de_it 0x2010000, de_it 0x10000010a01010300000001, de_it 0x2010000, de_it 0x10c01010300000001, de_it 0x6010000, de_it 0x2, de_it 0x2010000, de_it 0x6010011, de_it 0x10d010100010200000002, de_it 0x2010000, de_it 0x20800040002030006, de_it 0x8010000, de_it 0x10f010201060103010100000e, de_it 0x1100102011101010206000100010013, de_it 0x4010000, de_it 0x109010101020101010101010106010102090104020101040101010901010102010101010101010601010000000000010001000000010000000100000001000100011600060000000000000106ff020008]
set_option maxRecDepth 100000 in
theorem tP_58_167 : tf_plk tV_58 tL_58_167 tH_58_168 = true := by decide +kernel
noncomputable def tH_58_169 : List tc_It := [de_it 0x4010000, de_it 0x1010002010501, de_it 0x2010000, de_it 0x10000010b01010300000001, de_it 0x2010000, de_it 0x10d01010300000001, de_it 0x6010000, de_it 0x2, de_it 0x2010000, de_it 0x6010011, de_it 0x10e010100010200000002, de_it 0x2010000, de_it 0x20800040002030006, de_it 0x8010000, de_it 0x110010201060103010100000e, de_it 0x1110102011201010206000100010013, de_it 0x4010000, de_it 0x10401010109010101020101010101010106010102090104020101040101010901010102010101010101010601010000000000010001000000010000000100000001000100011700060000000000000108ff020008]
set_option maxRecDepth 100000 in
theorem tP_58_168 : tf_plk tV_58 tL_58_168 tH_58_169 = true := by decide +kernel
noncomputable def tH_58_170 : List tc_It := [de_it 0x4010000, de_it 0x1010002010501, de_it 0x2010000, de_it 0x10000010b01010300000001, de_it 0x2010000, de_it 0x10d01010300000001, de_it 0x6010000, de_it 0x2, de_it 0x2010000, de_it 0x6010011, de_it 0x10e010100010200000002, de_it 0x2010000, de_it 0x20800040002030006, de_it 0x8010000, de_it 0x1100102010e0103010100000e, de_it 0x111010201120101020e000100010013, de_it 0x4010000, de_it 0x10401010109010101020101010101010106010102090104020101040101010901010102010101010101010601010000000000010001000000010000000100000001000100011700060000000000000112ff020008]
set_option maxRecDepth 100000 in
theorem tP_58_169 : tf_plk tV_58 tL_58_169 tH_58_170 = true := by decide +kernel
noncomputable def tH_58_171 : List tc_It := [de_it 0x4010000, de_it 0x1010002010501, de_it 0x2010000, de_it 0x10000010b01010300000001, de_it 0x2010000, de_it 0x10d01010300000001, de_it 0x6010000, de_it 0x2, de_it 0x2010000, de_it 0x6010011, de_it 0x10e010100010200000002, de_it 0x2010000, de_it 0x20800040002030006, de_it 0x8010000, de_it 0x110010201160103010100000e, de_it 0x1110102011201010216000100010013, de_it 0x4010000, de_it 0x1040101010901010102010101010101010601010209010402010104010101090101010201010101010101060101000000000001000100000001000000010000000100010001170006000000000000011aff020008]
set_option maxRecDepth 100000 in
theorem tP_58_170 : tf_plk tV_58 tL_58_170 tH_58_171 = true := by decide +kernel
noncomputable def tH_58_172 : List tc_It := [de_it 0x4010000, de_it 0x1010002010501, de_it 0x2010000, de_it 0x10000010b01010300000001, de_it 0x2010000, de_it 0x10d01010300000001, de_it 0x6010000, de_it 0x2, de_it 0x2010000, de_it 0x6010011, de_it 0x10e010100010200000002, de_it 0x2010000, de_it 0x20800040002030006, de_it 0x8010000, de_it 0x1100102011a0103010100000e, de_it 0x111010201120101021a000100010013, de_it 0x4010000, de_it 0x10401010109010101020101010101010106010102090104020101040101010901010102010101010101010601010000000000010001000000010000000100000001000100011700060000000000000120ff020008]
set_option maxRecDepth 100000 in
theorem tP_58_171 : tf_plk tV_58 tL_58_171 tH_58_172 = true := by decide +kernel
noncomputable def tH_58_173 : List tc_It := [de_it 0x4010000, de_it 0x1010002010501, de_it 0x2010000, de_it 0x10000010b01010300000001, de_it 0x2010000, de_it 0x10d01010300000001, de_it 0x6010000, de_it 0x2, de_it 0x2010000, de_it 0x6010011, de_it 0x10e010100010200000002, de_it 0x2010000, de_it 0x20800040002030006, de_it 0x8010000, de_it 0x1100102011c0103010100000e, de_it 0x111010201120101021c000100010013, de_it 0x4010000, de_it 0x10401010109010101020101010101010106010102090104020101040101010901010102010101010101010601010000000000010001000000010000000100000001000100011700060000000000000124ff020008]
set_option maxRecDepth 100000 in
theorem tP_58_172 : tf_plk tV_58 tL_58_172 tH_58_173 = true := by decide +kernel
noncomputable def tH_58_174 : List tc_It := [de_it 0x4010000, de_it 0x1010002010501, de_it 0x2010000, de_it 0x1010b010100000300000001, de_it 0x2010000, de_it 0x2, de_it 0x4010000, de_it 0x6010011, de_it 0x10c010100010200000003, de_it 0x6010000, de_it 0x1040101010901010102010101010101010601010209010402010104010101090101010201010101010101060101000000000000000000000000010901010001000000010001000117000680020008]
set_option maxRecDepth 100000 in
theorem tP_58_173 : tf_plk tV_58 tL_58_173 tH_58_174 = true := by decide +kernel
noncomputable def tH_58_175 : List tc_It := [de_it 0x4010000, de_it 0x1010002010501, de_it 0x2010000, de_it 0x10000010b01010300000001, de_it 0x2010000, de_it 0x10d01010300000001, de_it 0x6010000, de_it 0x2, de_it 0x2010000, de_it 0x6010011, de_it 0x10e010100010200000002, de_it 0x2010000, de_it 0x20800040002030006, de_it 0x8010000, de_it 0x1100102010e0103010100000e, de_it 0x111010201120101020e000100010013, de_it 0x4010000, de_it 0x10401010109010101020101010101010106010102090104020101040101010901010102010101010101010601010000000000010001000000010000000100000001000100011700060000000000000126ff020008]
set_option maxRecDepth 100000 in
theorem tP_58_174 : tf_plk tV_58 tL_58_174 tH_58_175 = true := by decide +kernel
noncomputable def tH_58_176 : List tc_It := [de_it 0x4010000, de_it 0x1010002010501, de_it 0x2010000, de_it 0x10000010b01010300000001, de_it 0x2010000, de_it 0x10d01010300000001, de_it 0x6010000, de_it 0x2, de_it 0x2010000, de_it 0x6010011, de_it 0x10e010100010200000002, de_it 0x2010000, de_it 0x20800040002030006, de_it 0x8010000, de_it 0x110010201260103010100000e, de_it 0x1110102011201010226000100010013, de_it 0x4010000, de_it 0x1040101010901010102010101010101010601010209010402010104010101090101010201010101010101060101000000000001000100000001000000010000000100010001170006000000000000012eff020008]
set_option maxRecDepth 100000 in
theorem tP_58_175 : tf_plk tV_58 tL_58_175 tH_58_176 = true := by decide +kernel
noncomputable def tH_58_177 : List tc_It := [de_it 0x4010000, de_it 0x1010002010501, de_it 0x2010000, de_it 0x10000010b01010300000001, de_it 0x2010000, de_it 0x10d01010300000001, de_it 0x6010000, de_it 0x2, de_it 0x2010000, de_it 0x6010011, de_it 0x10e010100010200000002, de_it 0x2010000, de_it 0x20800040002030006, de_it 0x8010000, de_it 0x1100102012a0103010100000e, de_it 0x111010201120101022a000100010013, de_it 0x4010000, de_it 0x10401010109010101020101010101010106010102090104020101040101010901010102010101010101010601010000000000010001000000010000000100000001000100011700060000000000000134ff020008]
set_option maxRecDepth 100000 in
theorem tP_58_176 : tf_plk tV_58 tL_58_176 tH_58_177 = true := by decide +kernel
noncomputable def tH_58_178 : List tc_It := [de_it 0x4010000, de_it 0x1010002010501, de_it 0x2010000, de_it 0x10000010b01010300000001, de_it 0x2010000, de_it 0x10d01010300000001, de_it 0x6010000, de_it 0x2, de_it 0x2010000, de_it 0x6010011, de_it 0x10e010100010200000002, de_it 0x2010000, de_it 0x20800040002030006, de_it 0x8010000, de_it 0x1100102012c0103010100000e, de_it 0x111010201120101022c000100010013, de_it 0x4010000, de_it 0x10401010109010101020101010101010106010102090104020101040101010901010102010101010101010601010000000000010001000000010000000100000001000100011700060000000000000138ff020008]
set_option maxRecDepth 100000 in
theorem tP_58_177 : tf_plk tV_58 tL_58_177 tH_58_178 = true := by decide +kernel
noncomputable def tH_58_179 : List tc_It := [de_it 0x4010000, de_it 0x1010002010501, de_it 0x2010000, de_it 0x1010b010100000300000001, de_it 0x2010000, de_it 0x2, de_it 0x4010000, de_it 0x6010011, de_it 0x10c010100010200000003, de_it 0x6010000, de_it 0x1040101010901010102010101010101010601010209010402010104010101090101010201010101010101060101000000000000000000000000010901010001000000010001000117000682020008]
set_option maxRecDepth 100000 in
theorem tP_58_178 : tf_plk tV_58 tL_58_178 tH_58_179 = true := by decide +kernel
noncomputable def tH_58_180 : List tc_It := [de_it 0x4010000, de_it 0x1010002010501, de_it 0x2010000, de_it 0x10000010b01010300000001, de_it 0x2010000, de_it 0x10d01010300000001, de_it 0x6010000, de_it 0x2, de_it 0x2010000, de_it 0x6010011, de_it 0x10e010100010200000002, de_it 0x2010000, de_it 0x20800040002030006, de_it 0x8010000, de_it 0x110010201160103010100000e, de_it 0x1110102011201010216000100010013, de_it 0x4010000, de_it 0x1040101010901010102010101010101010601010209010402010104010101090101010201010101010101060101000000000001000100000001000000010000000100010001170006000000000000013aff020008]
set_option maxRecDepth 100000 in
theorem tP_58_179 : tf_plk tV_58 tL_58_179 tH_58_180 = true := by decide +kernel
noncomputable def tH_58_181 : List tc_It := [de_it 0x4010000, de_it 0x1010002010501, de_it 0x2010000, de_it 0x10000010b01010300000001, de_it 0x2010000, de_it 0x10d01010300000001, de_it 0x6010000, de_it 0x2, de_it 0x2010000, de_it 0x6010011, de_it 0x10e010100010200000002, de_it 0x2010000, de_it 0x20800040002030006, de_it 0x8010000, de_it 0x110010201320103010100000e, de_it 0x1110102011201010232000100010013, de_it 0x4010000, de_it 0x10401010109010101020101010101010106010102090104020101040101010901010102010101010101010601010000000000010001000000010000000100000001000100011700060000000000000140ff020008]
set_option maxRecDepth 100000 in
theorem tP_58_180 : tf_plk tV_58 tL_58_180 tH_58_181 = true := by decide +kernel
noncomputable def tH_58_182 : List tc_It := [de_it 0x4010000, de_it 0x1010002010501, de_it 0x2010000, de_it 0x10000010b01010300000001, de_it 0x2010000, de_it 0x10d01010300000001, de_it 0x6010000, de_it 0x2, de_it 0x2010000, de_it 0x6010011, de_it 0x10e010100010200000002, de_it 0x2010000, de_it 0x20800040002030006, de_it 0x8010000, de_it 0x110010201340103010100000e, de_it 0x1110102011201010234000100010013, de_it 0x4010000, de_it 0x10401010109010101020101010101010106010102090104020101040101010901010102010101010101010601010000000000010001000000010000000100000001000100011700060000000000000144ff020008]
set_option maxRecDepth 100000 in
theorem tP_58_181 : tf_plk tV_58 tL_58_181 tH_58_182 = true := by decide +kernel
noncomputable def tH_58_183 : List tc_It := [de_it 0x4010000, de_it 0x1010002010501, de_it 0x2010000, de_it 0x1010b010100000300000001, de_it 0x2010000, de_it 0x2, de_it 0x4010000, de_it 0x6010011, de_it 0x10c010100010200000003, de_it 0x6010000, de_it 0x1040101010901010102010101010101010601010209010402010104010101090101010201010101010101060101000000000000000000000000010901010001000000010001000117000684020008]
set_option maxRecDepth 100000 in
theorem tP_58_182 : tf_plk tV_58 tL_58_182 tH_58_183 = true := by decide +kernel
noncomputable def tH_58_184 : List tc_It := [de_it 0x4010000, de_it 0x1010002010501, de_it 0x2010000, de_it 0x10000010b01010300000001, de_it 0x2010000, de_it 0x10d01010300000001, de_it 0x6010000, de_it 0x2, de_it 0x2010000, de_it 0x6010011, de_it 0x10e010100010200000002, de_it 0x2010000, de_it 0x20800040002030006, de_it 0x8010000, de_it 0x1100102011a0103010100000e, de_it 0x111010201120101021a000100010013, de_it 0x4010000, de_it 0x10401010109010101020101010101010106010102090104020101040101010901010102010101010101010601010000000000010001000000010000000100000001000100011700060000000000000146ff020008]
set_option maxRecDepth 100000 in
theorem tP_58_183 : tf_plk tV_58 tL_58_183 tH_58_184 = true := by decide +kernel
noncomputable def tH_58_185 : List tc_It := [de_it 0x4010000, de_it 0x1010002010501, de_it 0x2010000, de_it 0x10000010b01010300000001, de_it 0x2010000, de_it 0x10d01010300000001, de_it 0x6010000, de_it 0x2, de_it 0x2010000, de_it 0x6010011, de_it 0x10e010100010200000002, de_it 0x2010000, de_it 0x20800040002030006, de_it 0x8010000, de_it 0x110010201380103010100000e, de_it 0x1110102011201010238000100010013, de_it 0x4010000, de_it 0x1040101010901010102010101010101010601010209010402010104010101090101010201010101010101060101000000000001000100000001000000010000000100010001170006000000000000014aff020008]
set_option maxRecDepth 100000 in
theorem tP_58_184 : tf_plk tV_58 tL_58_184 tH_58_185 = true := by decide +kernel
noncomputable def tH_58_186 : List tc_It := [de_it 0x4010000, de_it 0x1010002010501, de_it 0x2010000, de_it 0x1010b010100000300000001, de_it 0x2010000, de_it 0x2, de_it 0x4010000, de_it 0x6010011, de_it 0x10c010100010200000003, de_it 0x6010000, de_it 0x1040101010901010102010101010101010601010209010402010104010101090101010201010101010101060101000000000000000000000000010901010001000000010001000117000686020008]
set_option maxRecDepth 100000 in
theorem tP_58_185 : tf_plk tV_58 tL_58_185 tH_58_186 = true := by decide +kernel
noncomputable def tH_58_187 : List tc_It := [de_it 0x4010000, de_it 0x1010002010501, de_it 0x2010000, de_it 0x10000010b01010300000001, de_it 0x2010000, de_it 0x10d01010300000001, de_it 0x6010000, de_it 0x2, de_it 0x2010000, de_it 0x6010011, de_it 0x10e010100010200000002, de_it 0x2010000, de_it 0x20800040002030006, de_it 0x8010000, de_it 0x1100102011c0103010100000e, de_it 0x111010201120101021c000100010013, de_it 0x4010000, de_it 0x1040101010901010102010101010101010601010209010402010104010101090101010201010101010101060101000000000001000100000001000000010000000100010001170006000000000000014cff020008]
set_option maxRecDepth 100000 in
theorem tP_58_186 : tf_plk tV_58 tL_58_186 tH_58_187 = true := by decide +kernel
noncomputable def tH_58_188 : List tc_It := [de_it 0x4010000, de_it 0x1010002010501, de_it 0x2010000, de_it 0x1010b010100000300000001, de_it 0x2010000, de_it 0x2, de_it 0x4010000, de_it 0x6010011, de_it 0x10c010100010200000003, de_it 0x6010000, de_it 0x1040101010901010102010101010101010601010209010402010104010101090101010201010101010101060101000000000000000000000000010901010001000000010001000117000688020008]
set_option maxRecDepth 100000 in
theorem tP_58_187 : tf_plk tV_58 tL_58_187 tH_58_188 = true := by decide +kernel
noncomputable def tH_58_189 : List tc_It := [de_it 0x4010000, de_it 0x1010002010501, de_it 0x2010000, de_it 0x1010b010100000300000001, de_it 0x2010000, de_it 0x2, de_it 0x4010000, de_it 0x6010011, de_it 0x10c010100010200000003, de_it 0x6010000, de_it 0x104010101090101010201010101010101060101020901040201010401010109010101020101010101010106010100000000000000000000000001090101000100000001000100011700068a020008]
set_option maxRecDepth 100000 in
theorem tP_58_188 : tf_plk tV_58 tL_58_188 tH_58_189 = true := by decide +kernel
noncomputable def tH_58_190 : List tc_It := [de_it 0x4010000, de_it 0x1010002010501, de_it 0x2010000, de_it 0x10000010a01010300000001, de_it 0x2010000, de_it 0x10c01010300000001, de_it 0x6010000, de_it 0x2, de_it 0x2010000, de_it 0x6010011, de_it 0x10d010100010200000002, de_it 0x2010000, de_it 0x20800040002030006, de_it 0x8010000, de_it 0x10f0102010e0103010100000e, de_it 0x110010201110101020e000100010013, de_it 0x4010000, de_it 0x10901010102010101010101010601010209010402010104010101090101010201010101010101060101000000000001000100000001000000010000000100010001160006000000000000014eff020008]
set_option maxRecDepth 100000 in
theorem tP_58_189 : tf_plk tV_58 tL_58_189 tH_58_190 = true := by decide +kernel
noncomputable def tH_58_191 : List tc_It := [de_it 0x4010000, de_it 0x1010002010501, de_it 0x2010000, de_it 0x10000010b01010300000001, de_it 0x2010000, de_it 0x10d01010300000001, de_it 0x6010000, de_it 0x2, de_it 0x2010000, de_it 0x6010011, de_it 0x10e010100010200000002, de_it 0x2010000, de_it 0x20800040002030006, de_it 0x8010000, de_it 0x1100102011e0103010100000e, de_it 0x111010201120101021e000100010013, de_it 0x4010000, de_it 0x1040101010901010102010101010101010601010209010402010104010101090101010201010101010101060101000000000001000100000001000000010000000100010001170006000000000000015cff020008]
set_option maxRecDepth 100000 in
theorem tP_58_190 : tf_plk tV_58 tL_58_190 tH_58_191 = true := by decide +kernel
noncomputable def tH_58_192 : List tc_It := [de_it 0x4010000, de_it 0x1010002010501, de_it 0x2010000, de_it 0x10000010b01010300000001, de_it 0x2010000, de_it 0x10d01010300000001, de_it 0x6010000, de_it 0x2, de_it 0x2010000, de_it 0x6010011, de_it 0x10e010100010200000002, de_it 0x2010000, de_it 0x20800040002030006, de_it 0x8010000, de_it 0x1100102012e0103010100000e, de_it 0x111010201120101022e000100010013, de_it 0x4010000, de_it 0x10401010109010101020101010101010106010102090104020101040101010901010102010101010101010601010000000000010001000000010000000100000001000100011700060000000000000166ff020008]
set_option maxRecDepth 100000 in
theorem tP_58_191 : tf_plk tV_58 tL_58_191 tH_58_192 = true := by decide +kernel
noncomputable def tH_58_193 : List tc_It := [de_it 0x4010000, de_it 0x1010002010501, de_it 0x2010000, de_it 0x10000010b01010300000001, de_it 0x2010000, de_it 0x10d01010300000001, de_it 0x6010000, de_it 0x2, de_it 0x2010000, de_it 0x6010011, de_it 0x10e010100010200000002, de_it 0x2010000, de_it 0x20800040002030006, de_it 0x8010000, de_it 0x110010201360103010100000e, de_it 0x1110102011201010236000100010013, de_it 0x4010000, de_it 0x1040101010901010102010101010101010601010209010402010104010101090101010201010101010101060101000000000001000100000001000000010000000100010001170006000000000000016eff020008]
set_option maxRecDepth 100000 in
theorem tP_58_192 : tf_plk tV_58 tL_58_192 tH_58_193 = true := by decide +kernel
noncomputable def tH_58_194 : List tc_It := [de_it 0x4010000, de_it 0x1010002010501, de_it 0x2010000, de_it 0x10000010b01010300000001, de_it 0x2010000, de_it 0x10d01010300000001, de_it 0x6010000, de_it 0x2, de_it 0x2010000, de_it 0x6010011, de_it 0x10e010100010200000002, de_it 0x2010000, de_it 0x20800040002030006, de_it 0x8010000, de_it 0x1100102013a0103010100000e, de_it 0x111010201120101023a000100010013, de_it 0x4010000, de_it 0x10401010109010101020101010101010106010102090104020101040101010901010102010101010101010601010000000000010001000000010000000100000001000100011700060000000000000174ff020008]
set_option maxRecDepth 100000 in
theorem tP_58_193 : tf_plk tV_58 tL_58_193 tH_58_194 = true := by decide +kernel
noncomputable def tH_58_195 : List tc_It := [de_it 0x4010000, de_it 0x1010002010501, de_it 0x2010000, de_it 0x10000010b01010300000001, de_it 0x2010000, de_it 0x10d01010300000001, de_it 0x6010000, de_it 0x2, de_it 0x2010000, de_it 0x6010011, de_it 0x10e010100010200000002, de_it 0x2010000, de_it 0x20800040002030006, de_it 0x8010000, de_it 0x1100102013c0103010100000e, de_it 0x111010201120101023c000100010013, de_it 0x4010000, de_it 0x10401010109010101020101010101010106010102090104020101040101010901010102010101010101010601010000000000010001000000010000000100000001000100011700060000000000000178ff020008]
set_option maxRecDepth 100000 in
theorem tP_58_194 : tf_plk tV_58 tL_58_194 tH_58_195 = true := by decide +kernel
noncomputable def tH_58_196 : List tc_It := [de_it 0x4010000, de_it 0x1010002010501, de_it 0x2010000, de_it 0x1010b010100000300000001, de_it 0x2010000, de_it 0x2, de_it 0x4010000, de_it 0x6010011, de_it 0x10c010100010200000003, de_it 0x6010000, de_it 0x104010101090101010201010101010101060101020901040201010401010109010101020101010101010106010100000000000000000000000001090101000100000001000100011700068c020008]
set_option maxRecDepth 100000 in
theorem tP_58_195 : tf_plk tV_58 tL_58_195 tH_58_196 = true := by decide +kernel
noncomputable def tH_58_197 : List tc_It := [de_it 0x4010000, de_it 0x1010002010501, de_it 0x2010000, de_it 0x10000010a01010300000001, de_it 0x2010000, de_it 0x10c01010300000001, de_it 0x6010000, de_it 0x2, de_it 0x2010000, de_it 0x6010011, de_it 0x10d010100010200000002, de_it 0x2010000, de_it 0x20800040002030006, de_it 0x8010000, de_it 0x10f0102011e0103010100000e, de_it 0x110010201110101021e000100010013, de_it 0x4010000, de_it 0x10901010102010101010101010601010209010402010104010101090101010201010101010101060101000000000001000100000001000000010000000100010001160006000000000000017aff020008]
set_option maxRecDepth 100000 in
theorem tP_58_196 : tf_plk tV_58 tL_58_196 tH_58_197 = true := by decide +kernel
noncomputable def tH_58_198 : List tc_It := [de_it 0x4010000, de_it 0x1010002010501, de_it 0x2010000, de_it 0x10000010a01010300000001, de_it 0x2010000, de_it 0x10c01010300000001, de_it 0x6010000, de_it 0x2, de_it 0x2010000, de_it 0x6010011, de_it 0x10d010100010200000002, de_it 0x2010000, de_it 0x20800040002030006, de_it 0x8010000, de_it 0x10f0102013e0103010100000e, de_it 0x110010201110101023e000100010013, de_it 0x4010000, de_it 0x109010101020101010101010106010102090104020101040101010901010102010101010101010601010000000000010001000000010000000100000001000100011600060000000000000188ff020008]
set_option maxRecDepth 100000 in
theorem tP_58_197 : tf_plk tV_58 tL_58_197 tH_58_198 = true := by decide +kernel
set_option maxRecDepth 100000 in
theorem tQ_58_0 {sa : Nat → Nat} : ∀ p ∈ tJ_58_0, ∃ hs, tc_plk (aP sa, tV_58.2) p hs = true := by
  intro p hp
  have hp : p ∈ ([tL_58_0, tL_58_1, tL_58_2, tL_58_3, tL_58_4, tL_58_5, tL_58_6, tL_58_7, tL_58_8, tL_58_9, tL_58_10, tL_58_11, tL_58_12, tL_58_13, tL_58_14, tL_58_15, tL_58_16, tL_58_17, tL_58_18, tL_58_19, tL_58_20, tL_58_21, tL_58_22, tL_58_23, tL_58_24, tL_58_25, tL_58_26, tL_58_27, tL_58_28, tL_58_29, tL_58_30, tL_58_31, tL_58_32, tL_58_33, tL_58_34, tL_58_35, tL_58_36, tL_58_37, tL_58_38, tL_58_39] : List tc_Pl) := hp
  rcases List.mem_cons.mp hp with rfl | hp
  · exact ⟨_, (tc_plk_sa (aP_sa sa _)).trans ((tf_plk_s tHC_58).trans tP_58_0)⟩
  rcases List.mem_cons.mp hp with rfl | hp
  · exact ⟨_, (tc_plk_sa (aP_sa sa _)).trans ((tf_plk_s tHC_58).trans tP_58_1)⟩
  rcases List.mem_cons.mp hp with rfl | hp
  · exact ⟨_, (tc_plk_sa (aP_sa sa _)).trans ((tf_plk_s tHC_58).trans tP_58_2)⟩
  rcases List.mem_cons.mp hp with rfl | hp
  · exact ⟨_, (tc_plk_sa (aP_sa sa _)).trans ((tf_plk_s tHC_58).trans tP_58_3)⟩
  rcases List.mem_cons.mp hp with rfl | hp
  · exact ⟨_, (tc_plk_sa (aP_sa sa _)).trans ((tf_plk_s tHC_58).trans tP_58_4)⟩
  rcases List.mem_cons.mp hp with rfl | hp
  · exact ⟨_, (tc_plk_sa (aP_sa sa _)).trans ((tf_plk_s tHC_58).trans tP_58_5)⟩
  rcases List.mem_cons.mp hp with rfl | hp
  · exact ⟨_, (tc_plk_sa (aP_sa sa _)).trans ((tf_plk_s tHC_58).trans tP_58_6)⟩
  rcases List.mem_cons.mp hp with rfl | hp
  · exact ⟨_, (tc_plk_sa (aP_sa sa _)).trans ((tf_plk_s tHC_58).trans tP_58_7)⟩
  rcases List.mem_cons.mp hp with rfl | hp
  · exact ⟨_, (tc_plk_sa (aP_sa sa _)).trans ((tf_plk_s tHC_58).trans tP_58_8)⟩
  rcases List.mem_cons.mp hp with rfl | hp
  · exact ⟨_, (tc_plk_sa (aP_sa sa _)).trans ((tf_plk_s tHC_58).trans tP_58_9)⟩
  rcases List.mem_cons.mp hp with rfl | hp
  · exact ⟨_, (tc_plk_sa (aP_sa sa _)).trans ((tf_plk_s tHC_58).trans tP_58_10)⟩
  rcases List.mem_cons.mp hp with rfl | hp
  · exact ⟨_, (tc_plk_sa (aP_sa sa _)).trans ((tf_plk_s tHC_58).trans tP_58_11)⟩
  rcases List.mem_cons.mp hp with rfl | hp
  · exact ⟨_, (tc_plk_sa (aP_sa sa _)).trans ((tf_plk_s tHC_58).trans tP_58_12)⟩
  rcases List.mem_cons.mp hp with rfl | hp
  · exact ⟨_, (tc_plk_sa (aP_sa sa _)).trans ((tf_plk_s tHC_58).trans tP_58_13)⟩
  rcases List.mem_cons.mp hp with rfl | hp
  · exact ⟨_, (tc_plk_sa (aP_sa sa _)).trans ((tf_plk_s tHC_58).trans tP_58_14)⟩
  rcases List.mem_cons.mp hp with rfl | hp
  · exact ⟨_, (tc_plk_sa (aP_sa sa _)).trans ((tf_plk_s tHC_58).trans tP_58_15)⟩
  rcases List.mem_cons.mp hp with rfl | hp
  · exact ⟨_, (tc_plk_sa (aP_sa sa _)).trans ((tf_plk_s tHC_58).trans tP_58_16)⟩
  rcases List.mem_cons.mp hp with rfl | hp
  · exact ⟨_, (tc_plk_sa (aP_sa sa _)).trans ((tf_plk_s tHC_58).trans tP_58_17)⟩
  rcases List.mem_cons.mp hp with rfl | hp
  · exact ⟨_, (tc_plk_sa (aP_sa sa _)).trans ((tf_plk_s tHC_58).trans tP_58_18)⟩
  rcases List.mem_cons.mp hp with rfl | hp
  · exact ⟨_, (tc_plk_sa (aP_sa sa _)).trans ((tf_plk_s tHC_58).trans tP_58_19)⟩
  rcases List.mem_cons.mp hp with rfl | hp
  · exact ⟨_, (tc_plk_sa (aP_sa sa _)).trans ((tf_plk_s tHC_58).trans tP_58_20)⟩
  rcases List.mem_cons.mp hp with rfl | hp
  · exact ⟨_, (tc_plk_sa (aP_sa sa _)).trans ((tf_plk_s tHC_58).trans tP_58_21)⟩
  rcases List.mem_cons.mp hp with rfl | hp
  · exact ⟨_, (tc_plk_sa (aP_sa sa _)).trans ((tf_plk_s tHC_58).trans tP_58_22)⟩
  rcases List.mem_cons.mp hp with rfl | hp
  · exact ⟨_, (tc_plk_sa (aP_sa sa _)).trans ((tf_plk_s tHC_58).trans tP_58_23)⟩
  rcases List.mem_cons.mp hp with rfl | hp
  · exact ⟨_, (tc_plk_sa (aP_sa sa _)).trans ((tf_plk_s tHC_58).trans tP_58_24)⟩
  rcases List.mem_cons.mp hp with rfl | hp
  · exact ⟨_, (tc_plk_sa (aP_sa sa _)).trans ((tf_plk_s tHC_58).trans tP_58_25)⟩
  rcases List.mem_cons.mp hp with rfl | hp
  · exact ⟨_, (tc_plk_sa (aP_sa sa _)).trans ((tf_plk_s tHC_58).trans tP_58_26)⟩
  rcases List.mem_cons.mp hp with rfl | hp
  · exact ⟨_, (tc_plk_sa (aP_sa sa _)).trans ((tf_plk_s tHC_58).trans tP_58_27)⟩
  rcases List.mem_cons.mp hp with rfl | hp
  · exact ⟨_, (tc_plk_sa (aP_sa sa _)).trans ((tf_plk_s tHC_58).trans tP_58_28)⟩
  rcases List.mem_cons.mp hp with rfl | hp
  · exact ⟨_, (tc_plk_sa (aP_sa sa _)).trans ((tf_plk_s tHC_58).trans tP_58_29)⟩
  rcases List.mem_cons.mp hp with rfl | hp
  · exact ⟨_, (tc_plk_sa (aP_sa sa _)).trans ((tf_plk_s tHC_58).trans tP_58_30)⟩
  rcases List.mem_cons.mp hp with rfl | hp
  · exact ⟨_, (tc_plk_sa (aP_sa sa _)).trans ((tf_plk_s tHC_58).trans tP_58_31)⟩
  rcases List.mem_cons.mp hp with rfl | hp
  · exact ⟨_, (tc_plk_sa (aP_sa sa _)).trans ((tf_plk_s tHC_58).trans tP_58_32)⟩
  rcases List.mem_cons.mp hp with rfl | hp
  · exact ⟨_, (tc_plk_sa (aP_sa sa _)).trans ((tf_plk_s tHC_58).trans tP_58_33)⟩
  rcases List.mem_cons.mp hp with rfl | hp
  · exact ⟨_, (tc_plk_sa (aP_sa sa _)).trans ((tf_plk_s tHC_58).trans tP_58_34)⟩
  rcases List.mem_cons.mp hp with rfl | hp
  · exact ⟨_, (tc_plk_sa (aP_sa sa _)).trans ((tf_plk_s tHC_58).trans tP_58_35)⟩
  rcases List.mem_cons.mp hp with rfl | hp
  · exact ⟨_, (tc_plk_sa (aP_sa sa _)).trans ((tf_plk_s tHC_58).trans tP_58_36)⟩
  rcases List.mem_cons.mp hp with rfl | hp
  · exact ⟨_, (tc_plk_sa (aP_sa sa _)).trans ((tf_plk_s tHC_58).trans tP_58_37)⟩
  rcases List.mem_cons.mp hp with rfl | hp
  · exact ⟨_, (tc_plk_sa (aP_sa sa _)).trans ((tf_plk_s tHC_58).trans tP_58_38)⟩
  rcases List.mem_cons.mp hp with rfl | hp
  · exact ⟨_, (tc_plk_sa (aP_sa sa _)).trans ((tf_plk_s tHC_58).trans tP_58_39)⟩
  cases hp
set_option maxRecDepth 100000 in
theorem tQ_58_1 {sa : Nat → Nat} : ∀ p ∈ tJ_58_1, ∃ hs, tc_plk (aP sa, tV_58.2) p hs = true := by
  intro p hp
  have hp : p ∈ ([tL_58_40, tL_58_41, tL_58_42, tL_58_43, tL_58_44, tL_58_45, tL_58_46, tL_58_47, tL_58_48, tL_58_49, tL_58_50, tL_58_51, tL_58_52, tL_58_53, tL_58_54, tL_58_55, tL_58_56, tL_58_57, tL_58_58, tL_58_59, tL_58_60, tL_58_61, tL_58_62, tL_58_63, tL_58_64, tL_58_65, tL_58_66, tL_58_67, tL_58_68, tL_58_69, tL_58_70, tL_58_71, tL_58_72, tL_58_73, tL_58_74, tL_58_75, tL_58_76, tL_58_77, tL_58_78, tL_58_79] : List tc_Pl) := hp
  rcases List.mem_cons.mp hp with rfl | hp
  · exact ⟨_, (tc_plk_sa (aP_sa sa _)).trans ((tf_plk_s tHC_58).trans tP_58_40)⟩
  rcases List.mem_cons.mp hp with rfl | hp
  · exact ⟨_, (tc_plk_sa (aP_sa sa _)).trans ((tf_plk_s tHC_58).trans tP_58_41)⟩
  rcases List.mem_cons.mp hp with rfl | hp
  · exact ⟨_, (tc_plk_sa (aP_sa sa _)).trans ((tf_plk_s tHC_58).trans tP_58_42)⟩
  rcases List.mem_cons.mp hp with rfl | hp
  · exact ⟨_, (tc_plk_sa (aP_sa sa _)).trans ((tf_plk_s tHC_58).trans tP_58_43)⟩
  rcases List.mem_cons.mp hp with rfl | hp
  · exact ⟨_, (tc_plk_sa (aP_sa sa _)).trans ((tf_plk_s tHC_58).trans tP_58_44)⟩
  rcases List.mem_cons.mp hp with rfl | hp
  · exact ⟨_, (tc_plk_sa (aP_sa sa _)).trans ((tf_plk_s tHC_58).trans tP_58_45)⟩
  rcases List.mem_cons.mp hp with rfl | hp
  · exact ⟨_, (tc_plk_sa (aP_sa sa _)).trans ((tf_plk_s tHC_58).trans tP_58_46)⟩
  rcases List.mem_cons.mp hp with rfl | hp
  · exact ⟨_, (tc_plk_sa (aP_sa sa _)).trans ((tf_plk_s tHC_58).trans tP_58_47)⟩
  rcases List.mem_cons.mp hp with rfl | hp
  · exact ⟨_, (tc_plk_sa (aP_sa sa _)).trans ((tf_plk_s tHC_58).trans tP_58_48)⟩
  rcases List.mem_cons.mp hp with rfl | hp
  · exact ⟨_, (tc_plk_sa (aP_sa sa _)).trans ((tf_plk_s tHC_58).trans tP_58_49)⟩
  rcases List.mem_cons.mp hp with rfl | hp
  · exact ⟨_, (tc_plk_sa (aP_sa sa _)).trans ((tf_plk_s tHC_58).trans tP_58_50)⟩
  rcases List.mem_cons.mp hp with rfl | hp
  · exact ⟨_, (tc_plk_sa (aP_sa sa _)).trans ((tf_plk_s tHC_58).trans tP_58_51)⟩
  rcases List.mem_cons.mp hp with rfl | hp
  · exact ⟨_, (tc_plk_sa (aP_sa sa _)).trans ((tf_plk_s tHC_58).trans tP_58_52)⟩
  rcases List.mem_cons.mp hp with rfl | hp
  · exact ⟨_, (tc_plk_sa (aP_sa sa _)).trans ((tf_plk_s tHC_58).trans tP_58_53)⟩
  rcases List.mem_cons.mp hp with rfl | hp
  · exact ⟨_, (tc_plk_sa (aP_sa sa _)).trans ((tf_plk_s tHC_58).trans tP_58_54)⟩
  rcases List.mem_cons.mp hp with rfl | hp
  · exact ⟨_, (tc_plk_sa (aP_sa sa _)).trans ((tf_plk_s tHC_58).trans tP_58_55)⟩
  rcases List.mem_cons.mp hp with rfl | hp
  · exact ⟨_, (tc_plk_sa (aP_sa sa _)).trans ((tf_plk_s tHC_58).trans tP_58_56)⟩
  rcases List.mem_cons.mp hp with rfl | hp
  · exact ⟨_, (tc_plk_sa (aP_sa sa _)).trans ((tf_plk_s tHC_58).trans tP_58_57)⟩
  rcases List.mem_cons.mp hp with rfl | hp
  · exact ⟨_, (tc_plk_sa (aP_sa sa _)).trans ((tf_plk_s tHC_58).trans tP_58_58)⟩
  rcases List.mem_cons.mp hp with rfl | hp
  · exact ⟨_, (tc_plk_sa (aP_sa sa _)).trans ((tf_plk_s tHC_58).trans tP_58_59)⟩
  rcases List.mem_cons.mp hp with rfl | hp
  · exact ⟨_, (tc_plk_sa (aP_sa sa _)).trans ((tf_plk_s tHC_58).trans tP_58_60)⟩
  rcases List.mem_cons.mp hp with rfl | hp
  · exact ⟨_, (tc_plk_sa (aP_sa sa _)).trans ((tf_plk_s tHC_58).trans tP_58_61)⟩
  rcases List.mem_cons.mp hp with rfl | hp
  · exact ⟨_, (tc_plk_sa (aP_sa sa _)).trans ((tf_plk_s tHC_58).trans tP_58_62)⟩
  rcases List.mem_cons.mp hp with rfl | hp
  · exact ⟨_, (tc_plk_sa (aP_sa sa _)).trans ((tf_plk_s tHC_58).trans tP_58_63)⟩
  rcases List.mem_cons.mp hp with rfl | hp
  · exact ⟨_, (tc_plk_sa (aP_sa sa _)).trans ((tf_plk_s tHC_58).trans tP_58_64)⟩
  rcases List.mem_cons.mp hp with rfl | hp
  · exact ⟨_, (tc_plk_sa (aP_sa sa _)).trans ((tf_plk_s tHC_58).trans tP_58_65)⟩
  rcases List.mem_cons.mp hp with rfl | hp
  · exact ⟨_, (tc_plk_sa (aP_sa sa _)).trans ((tf_plk_s tHC_58).trans tP_58_66)⟩
  rcases List.mem_cons.mp hp with rfl | hp
  · exact ⟨_, (tc_plk_sa (aP_sa sa _)).trans ((tf_plk_s tHC_58).trans tP_58_67)⟩
  rcases List.mem_cons.mp hp with rfl | hp
  · exact ⟨_, (tc_plk_sa (aP_sa sa _)).trans ((tf_plk_s tHC_58).trans tP_58_68)⟩
  rcases List.mem_cons.mp hp with rfl | hp
  · exact ⟨_, (tc_plk_sa (aP_sa sa _)).trans ((tf_plk_s tHC_58).trans tP_58_69)⟩
  rcases List.mem_cons.mp hp with rfl | hp
  · exact ⟨_, (tc_plk_sa (aP_sa sa _)).trans ((tf_plk_s tHC_58).trans tP_58_70)⟩
  rcases List.mem_cons.mp hp with rfl | hp
  · exact ⟨_, (tc_plk_sa (aP_sa sa _)).trans ((tf_plk_s tHC_58).trans tP_58_71)⟩
  rcases List.mem_cons.mp hp with rfl | hp
  · exact ⟨_, (tc_plk_sa (aP_sa sa _)).trans ((tf_plk_s tHC_58).trans tP_58_72)⟩
  rcases List.mem_cons.mp hp with rfl | hp
  · exact ⟨_, (tc_plk_sa (aP_sa sa _)).trans ((tf_plk_s tHC_58).trans tP_58_73)⟩
  rcases List.mem_cons.mp hp with rfl | hp
  · exact ⟨_, (tc_plk_sa (aP_sa sa _)).trans ((tf_plk_s tHC_58).trans tP_58_74)⟩
  rcases List.mem_cons.mp hp with rfl | hp
  · exact ⟨_, (tc_plk_sa (aP_sa sa _)).trans ((tf_plk_s tHC_58).trans tP_58_75)⟩
  rcases List.mem_cons.mp hp with rfl | hp
  · exact ⟨_, (tc_plk_sa (aP_sa sa _)).trans ((tf_plk_s tHC_58).trans tP_58_76)⟩
  rcases List.mem_cons.mp hp with rfl | hp
  · exact ⟨_, (tc_plk_sa (aP_sa sa _)).trans ((tf_plk_s tHC_58).trans tP_58_77)⟩
  rcases List.mem_cons.mp hp with rfl | hp
  · exact ⟨_, (tc_plk_sa (aP_sa sa _)).trans ((tf_plk_s tHC_58).trans tP_58_78)⟩
  rcases List.mem_cons.mp hp with rfl | hp
  · exact ⟨_, (tc_plk_sa (aP_sa sa _)).trans ((tf_plk_s tHC_58).trans tP_58_79)⟩
  cases hp
set_option maxRecDepth 100000 in
theorem tQ_58_2 {sa : Nat → Nat} : ∀ p ∈ tJ_58_2, ∃ hs, tc_plk (aP sa, tV_58.2) p hs = true := by
  intro p hp
  have hp : p ∈ ([tL_58_80, tL_58_81, tL_58_82, tL_58_83, tL_58_84, tL_58_85, tL_58_86, tL_58_87, tL_58_88, tL_58_89, tL_58_90, tL_58_91, tL_58_92, tL_58_93, tL_58_94, tL_58_95, tL_58_96, tL_58_97, tL_58_98, tL_58_99, tL_58_100, tL_58_101, tL_58_102, tL_58_103, tL_58_104, tL_58_105, tL_58_106, tL_58_107, tL_58_108, tL_58_109, tL_58_110, tL_58_111, tL_58_112, tL_58_113, tL_58_114, tL_58_115, tL_58_116, tL_58_117, tL_58_118, tL_58_119] : List tc_Pl) := hp
  rcases List.mem_cons.mp hp with rfl | hp
  · exact ⟨_, (tc_plk_sa (aP_sa sa _)).trans ((tf_plk_s tHC_58).trans tP_58_80)⟩
  rcases List.mem_cons.mp hp with rfl | hp
  · exact ⟨_, (tc_plk_sa (aP_sa sa _)).trans ((tf_plk_s tHC_58).trans tP_58_81)⟩
  rcases List.mem_cons.mp hp with rfl | hp
  · exact ⟨_, (tc_plk_sa (aP_sa sa _)).trans ((tf_plk_s tHC_58).trans tP_58_82)⟩
  rcases List.mem_cons.mp hp with rfl | hp
  · exact ⟨_, (tc_plk_sa (aP_sa sa _)).trans ((tf_plk_s tHC_58).trans tP_58_83)⟩
  rcases List.mem_cons.mp hp with rfl | hp
  · exact ⟨_, (tc_plk_sa (aP_sa sa _)).trans ((tf_plk_s tHC_58).trans tP_58_84)⟩
  rcases List.mem_cons.mp hp with rfl | hp
  · exact ⟨_, (tc_plk_sa (aP_sa sa _)).trans ((tf_plk_s tHC_58).trans tP_58_85)⟩
  rcases List.mem_cons.mp hp with rfl | hp
  · exact ⟨_, (tc_plk_sa (aP_sa sa _)).trans ((tf_plk_s tHC_58).trans tP_58_86)⟩
  rcases List.mem_cons.mp hp with rfl | hp
  · exact ⟨_, (tc_plk_sa (aP_sa sa _)).trans ((tf_plk_s tHC_58).trans tP_58_87)⟩
  rcases List.mem_cons.mp hp with rfl | hp
  · exact ⟨_, (tc_plk_sa (aP_sa sa _)).trans ((tf_plk_s tHC_58).trans tP_58_88)⟩
  rcases List.mem_cons.mp hp with rfl | hp
  · exact ⟨_, (tc_plk_sa (aP_sa sa _)).trans ((tf_plk_s tHC_58).trans tP_58_89)⟩
  rcases List.mem_cons.mp hp with rfl | hp
  · exact ⟨_, (tc_plk_sa (aP_sa sa _)).trans ((tf_plk_s tHC_58).trans tP_58_90)⟩
  rcases List.mem_cons.mp hp with rfl | hp
  · exact ⟨_, (tc_plk_sa (aP_sa sa _)).trans ((tf_plk_s tHC_58).trans tP_58_91)⟩
  rcases List.mem_cons.mp hp with rfl | hp
  · exact ⟨_, (tc_plk_sa (aP_sa sa _)).trans ((tf_plk_s tHC_58).trans tP_58_92)⟩
  rcases List.mem_cons.mp hp with rfl | hp
  · exact ⟨_, (tc_plk_sa (aP_sa sa _)).trans ((tf_plk_s tHC_58).trans tP_58_93)⟩
  rcases List.mem_cons.mp hp with rfl | hp
  · exact ⟨_, (tc_plk_sa (aP_sa sa _)).trans ((tf_plk_s tHC_58).trans tP_58_94)⟩
  rcases List.mem_cons.mp hp with rfl | hp
  · exact ⟨_, (tc_plk_sa (aP_sa sa _)).trans ((tf_plk_s tHC_58).trans tP_58_95)⟩
  rcases List.mem_cons.mp hp with rfl | hp
  · exact ⟨_, (tc_plk_sa (aP_sa sa _)).trans ((tf_plk_s tHC_58).trans tP_58_96)⟩
  rcases List.mem_cons.mp hp with rfl | hp
  · exact ⟨_, (tc_plk_sa (aP_sa sa _)).trans ((tf_plk_s tHC_58).trans tP_58_97)⟩
  rcases List.mem_cons.mp hp with rfl | hp
  · exact ⟨_, (tc_plk_sa (aP_sa sa _)).trans ((tf_plk_s tHC_58).trans tP_58_98)⟩
  rcases List.mem_cons.mp hp with rfl | hp
  · exact ⟨_, (tc_plk_sa (aP_sa sa _)).trans ((tf_plk_s tHC_58).trans tP_58_99)⟩
  rcases List.mem_cons.mp hp with rfl | hp
  · exact ⟨_, (tc_plk_sa (aP_sa sa _)).trans ((tf_plk_s tHC_58).trans tP_58_100)⟩
  rcases List.mem_cons.mp hp with rfl | hp
  · exact ⟨_, (tc_plk_sa (aP_sa sa _)).trans ((tf_plk_s tHC_58).trans tP_58_101)⟩
  rcases List.mem_cons.mp hp with rfl | hp
  · exact ⟨_, (tc_plk_sa (aP_sa sa _)).trans ((tf_plk_s tHC_58).trans tP_58_102)⟩
  rcases List.mem_cons.mp hp with rfl | hp
  · exact ⟨_, (tc_plk_sa (aP_sa sa _)).trans ((tf_plk_s tHC_58).trans tP_58_103)⟩
  rcases List.mem_cons.mp hp with rfl | hp
  · exact ⟨_, (tc_plk_sa (aP_sa sa _)).trans ((tf_plk_s tHC_58).trans tP_58_104)⟩
  rcases List.mem_cons.mp hp with rfl | hp
  · exact ⟨_, (tc_plk_sa (aP_sa sa _)).trans ((tf_plk_s tHC_58).trans tP_58_105)⟩
  rcases List.mem_cons.mp hp with rfl | hp
  · exact ⟨_, (tc_plk_sa (aP_sa sa _)).trans ((tf_plk_s tHC_58).trans tP_58_106)⟩
  rcases List.mem_cons.mp hp with rfl | hp
  · exact ⟨_, (tc_plk_sa (aP_sa sa _)).trans ((tf_plk_s tHC_58).trans tP_58_107)⟩
  rcases List.mem_cons.mp hp with rfl | hp
  · exact ⟨_, (tc_plk_sa (aP_sa sa _)).trans ((tf_plk_s tHC_58).trans tP_58_108)⟩
  rcases List.mem_cons.mp hp with rfl | hp
  · exact ⟨_, (tc_plk_sa (aP_sa sa _)).trans ((tf_plk_s tHC_58).trans tP_58_109)⟩
  rcases List.mem_cons.mp hp with rfl | hp
  · exact ⟨_, (tc_plk_sa (aP_sa sa _)).trans ((tf_plk_s tHC_58).trans tP_58_110)⟩
  rcases List.mem_cons.mp hp with rfl | hp
  · exact ⟨_, (tc_plk_sa (aP_sa sa _)).trans ((tf_plk_s tHC_58).trans tP_58_111)⟩
  rcases List.mem_cons.mp hp with rfl | hp
  · exact ⟨_, (tc_plk_sa (aP_sa sa _)).trans ((tf_plk_s tHC_58).trans tP_58_112)⟩
  rcases List.mem_cons.mp hp with rfl | hp
  · exact ⟨_, (tc_plk_sa (aP_sa sa _)).trans ((tf_plk_s tHC_58).trans tP_58_113)⟩
  rcases List.mem_cons.mp hp with rfl | hp
  · exact ⟨_, (tc_plk_sa (aP_sa sa _)).trans ((tf_plk_s tHC_58).trans tP_58_114)⟩
  rcases List.mem_cons.mp hp with rfl | hp
  · exact ⟨_, (tc_plk_sa (aP_sa sa _)).trans ((tf_plk_s tHC_58).trans tP_58_115)⟩
  rcases List.mem_cons.mp hp with rfl | hp
  · exact ⟨_, (tc_plk_sa (aP_sa sa _)).trans ((tf_plk_s tHC_58).trans tP_58_116)⟩
  rcases List.mem_cons.mp hp with rfl | hp
  · exact ⟨_, (tc_plk_sa (aP_sa sa _)).trans ((tf_plk_s tHC_58).trans tP_58_117)⟩
  rcases List.mem_cons.mp hp with rfl | hp
  · exact ⟨_, (tc_plk_sa (aP_sa sa _)).trans ((tf_plk_s tHC_58).trans tP_58_118)⟩
  rcases List.mem_cons.mp hp with rfl | hp
  · exact ⟨_, (tc_plk_sa (aP_sa sa _)).trans ((tf_plk_s tHC_58).trans tP_58_119)⟩
  cases hp
set_option maxRecDepth 100000 in
theorem tQ_58_3 {sa : Nat → Nat} : ∀ p ∈ tJ_58_3, ∃ hs, tc_plk (aP sa, tV_58.2) p hs = true := by
  intro p hp
  have hp : p ∈ ([tL_58_120, tL_58_121, tL_58_122, tL_58_123, tL_58_124, tL_58_125, tL_58_126, tL_58_127, tL_58_128, tL_58_129, tL_58_130, tL_58_131, tL_58_132, tL_58_133, tL_58_134, tL_58_135, tL_58_136, tL_58_137, tL_58_138, tL_58_139, tL_58_140, tL_58_141, tL_58_142, tL_58_143, tL_58_144, tL_58_145, tL_58_146, tL_58_147, tL_58_148, tL_58_149, tL_58_150, tL_58_151, tL_58_152, tL_58_153, tL_58_154, tL_58_155, tL_58_156, tL_58_157, tL_58_158, tL_58_159] : List tc_Pl) := hp
  rcases List.mem_cons.mp hp with rfl | hp
  · exact ⟨_, (tc_plk_sa (aP_sa sa _)).trans ((tf_plk_s tHC_58).trans tP_58_120)⟩
  rcases List.mem_cons.mp hp with rfl | hp
  · exact ⟨_, (tc_plk_sa (aP_sa sa _)).trans ((tf_plk_s tHC_58).trans tP_58_121)⟩
  rcases List.mem_cons.mp hp with rfl | hp
  · exact ⟨_, (tc_plk_sa (aP_sa sa _)).trans ((tf_plk_s tHC_58).trans tP_58_122)⟩
  rcases List.mem_cons.mp hp with rfl | hp
  · exact ⟨_, (tc_plk_sa (aP_sa sa _)).trans ((tf_plk_s tHC_58).trans tP_58_123)⟩
  rcases List.mem_cons.mp hp with rfl | hp
  · exact ⟨_, (tc_plk_sa (aP_sa sa _)).trans ((tf_plk_s tHC_58).trans tP_58_124)⟩
  rcases List.mem_cons.mp hp with rfl | hp
  · exact ⟨_, (tc_plk_sa (aP_sa sa _)).trans ((tf_plk_s tHC_58).trans tP_58_125)⟩
  rcases List.mem_cons.mp hp with rfl | hp
  · exact ⟨_, (tc_plk_sa (aP_sa sa _)).trans ((tf_plk_s tHC_58).trans tP_58_126)⟩
  rcases List.mem_cons.mp hp with rfl | hp
  · exact ⟨_, (tc_plk_sa (aP_sa sa _)).trans ((tf_plk_s tHC_58).trans tP_58_127)⟩
  rcases List.mem_cons.mp hp with rfl | hp
  · exact ⟨_, (tc_plk_sa (aP_sa sa _)).trans ((tf_plk_s tHC_58).trans tP_58_128)⟩
  rcases List.mem_cons.mp hp with rfl | hp
  · exact ⟨_, (tc_plk_sa (aP_sa sa _)).trans ((tf_plk_s tHC_58).trans tP_58_129)⟩
  rcases List.mem_cons.mp hp with rfl | hp
  · exact ⟨_, (tc_plk_sa (aP_sa sa _)).trans ((tf_plk_s tHC_58).trans tP_58_130)⟩
  rcases List.mem_cons.mp hp with rfl | hp
  · exact ⟨_, (tc_plk_sa (aP_sa sa _)).trans ((tf_plk_s tHC_58).trans tP_58_131)⟩
  rcases List.mem_cons.mp hp with rfl | hp
  · exact ⟨_, (tc_plk_sa (aP_sa sa _)).trans ((tf_plk_s tHC_58).trans tP_58_132)⟩
  rcases List.mem_cons.mp hp with rfl | hp
  · exact ⟨_, (tc_plk_sa (aP_sa sa _)).trans ((tf_plk_s tHC_58).trans tP_58_133)⟩
  rcases List.mem_cons.mp hp with rfl | hp
  · exact ⟨_, (tc_plk_sa (aP_sa sa _)).trans ((tf_plk_s tHC_58).trans tP_58_134)⟩
  rcases List.mem_cons.mp hp with rfl | hp
  · exact ⟨_, (tc_plk_sa (aP_sa sa _)).trans ((tf_plk_s tHC_58).trans tP_58_135)⟩
  rcases List.mem_cons.mp hp with rfl | hp
  · exact ⟨_, (tc_plk_sa (aP_sa sa _)).trans ((tf_plk_s tHC_58).trans tP_58_136)⟩
  rcases List.mem_cons.mp hp with rfl | hp
  · exact ⟨_, (tc_plk_sa (aP_sa sa _)).trans ((tf_plk_s tHC_58).trans tP_58_137)⟩
  rcases List.mem_cons.mp hp with rfl | hp
  · exact ⟨_, (tc_plk_sa (aP_sa sa _)).trans ((tf_plk_s tHC_58).trans tP_58_138)⟩
  rcases List.mem_cons.mp hp with rfl | hp
  · exact ⟨_, (tc_plk_sa (aP_sa sa _)).trans ((tf_plk_s tHC_58).trans tP_58_139)⟩
  rcases List.mem_cons.mp hp with rfl | hp
  · exact ⟨_, (tc_plk_sa (aP_sa sa _)).trans ((tf_plk_s tHC_58).trans tP_58_140)⟩
  rcases List.mem_cons.mp hp with rfl | hp
  · exact ⟨_, (tc_plk_sa (aP_sa sa _)).trans ((tf_plk_s tHC_58).trans tP_58_141)⟩
  rcases List.mem_cons.mp hp with rfl | hp
  · exact ⟨_, (tc_plk_sa (aP_sa sa _)).trans ((tf_plk_s tHC_58).trans tP_58_142)⟩
  rcases List.mem_cons.mp hp with rfl | hp
  · exact ⟨_, (tc_plk_sa (aP_sa sa _)).trans ((tf_plk_s tHC_58).trans tP_58_143)⟩
  rcases List.mem_cons.mp hp with rfl | hp
  · exact ⟨_, (tc_plk_sa (aP_sa sa _)).trans ((tf_plk_s tHC_58).trans tP_58_144)⟩
  rcases List.mem_cons.mp hp with rfl | hp
  · exact ⟨_, (tc_plk_sa (aP_sa sa _)).trans ((tf_plk_s tHC_58).trans tP_58_145)⟩
  rcases List.mem_cons.mp hp with rfl | hp
  · exact ⟨_, (tc_plk_sa (aP_sa sa _)).trans ((tf_plk_s tHC_58).trans tP_58_146)⟩
  rcases List.mem_cons.mp hp with rfl | hp
  · exact ⟨_, (tc_plk_sa (aP_sa sa _)).trans ((tf_plk_s tHC_58).trans tP_58_147)⟩
  rcases List.mem_cons.mp hp with rfl | hp
  · exact ⟨_, (tc_plk_sa (aP_sa sa _)).trans ((tf_plk_s tHC_58).trans tP_58_148)⟩
  rcases List.mem_cons.mp hp with rfl | hp
  · exact ⟨_, (tc_plk_sa (aP_sa sa _)).trans ((tf_plk_s tHC_58).trans tP_58_149)⟩
  rcases List.mem_cons.mp hp with rfl | hp
  · exact ⟨_, (tc_plk_sa (aP_sa sa _)).trans ((tf_plk_s tHC_58).trans tP_58_150)⟩
  rcases List.mem_cons.mp hp with rfl | hp
  · exact ⟨_, (tc_plk_sa (aP_sa sa _)).trans ((tf_plk_s tHC_58).trans tP_58_151)⟩
  rcases List.mem_cons.mp hp with rfl | hp
  · exact ⟨_, (tc_plk_sa (aP_sa sa _)).trans ((tf_plk_s tHC_58).trans tP_58_152)⟩
  rcases List.mem_cons.mp hp with rfl | hp
  · exact ⟨_, (tc_plk_sa (aP_sa sa _)).trans ((tf_plk_s tHC_58).trans tP_58_153)⟩
  rcases List.mem_cons.mp hp with rfl | hp
  · exact ⟨_, (tc_plk_sa (aP_sa sa _)).trans ((tf_plk_s tHC_58).trans tP_58_154)⟩
  rcases List.mem_cons.mp hp with rfl | hp
  · exact ⟨_, (tc_plk_sa (aP_sa sa _)).trans ((tf_plk_s tHC_58).trans tP_58_155)⟩
  rcases List.mem_cons.mp hp with rfl | hp
  · exact ⟨_, (tc_plk_sa (aP_sa sa _)).trans ((tf_plk_s tHC_58).trans tP_58_156)⟩
  rcases List.mem_cons.mp hp with rfl | hp
  · exact ⟨_, (tc_plk_sa (aP_sa sa _)).trans ((tf_plk_s tHC_58).trans tP_58_157)⟩
  rcases List.mem_cons.mp hp with rfl | hp
  · exact ⟨_, (tc_plk_sa (aP_sa sa _)).trans ((tf_plk_s tHC_58).trans tP_58_158)⟩
  rcases List.mem_cons.mp hp with rfl | hp
  · exact ⟨_, (tc_plk_sa (aP_sa sa _)).trans ((tf_plk_s tHC_58).trans tP_58_159)⟩
  cases hp
set_option maxRecDepth 100000 in
theorem tQ_58_4 {sa : Nat → Nat} : ∀ p ∈ tJ_58_4, ∃ hs, tc_plk (aP sa, tV_58.2) p hs = true := by
  intro p hp
  have hp : p ∈ ([tL_58_160, tL_58_161, tL_58_162, tL_58_163, tL_58_164, tL_58_165, tL_58_166, tL_58_167, tL_58_168, tL_58_169, tL_58_170, tL_58_171, tL_58_172, tL_58_173, tL_58_174, tL_58_175, tL_58_176, tL_58_177, tL_58_178, tL_58_179, tL_58_180, tL_58_181, tL_58_182, tL_58_183, tL_58_184, tL_58_185, tL_58_186, tL_58_187, tL_58_188, tL_58_189, tL_58_190, tL_58_191, tL_58_192, tL_58_193, tL_58_194, tL_58_195, tL_58_196, tL_58_197] : List tc_Pl) := hp
  rcases List.mem_cons.mp hp with rfl | hp
  · exact ⟨_, (tc_plk_sa (aP_sa sa _)).trans ((tf_plk_s tHC_58).trans tP_58_160)⟩
  rcases List.mem_cons.mp hp with rfl | hp
  · exact ⟨_, (tc_plk_sa (aP_sa sa _)).trans ((tf_plk_s tHC_58).trans tP_58_161)⟩
  rcases List.mem_cons.mp hp with rfl | hp
  · exact ⟨_, (tc_plk_sa (aP_sa sa _)).trans ((tf_plk_s tHC_58).trans tP_58_162)⟩
  rcases List.mem_cons.mp hp with rfl | hp
  · exact ⟨_, (tc_plk_sa (aP_sa sa _)).trans ((tf_plk_s tHC_58).trans tP_58_163)⟩
  rcases List.mem_cons.mp hp with rfl | hp
  · exact ⟨_, (tc_plk_sa (aP_sa sa _)).trans ((tf_plk_s tHC_58).trans tP_58_164)⟩
  rcases List.mem_cons.mp hp with rfl | hp
  · exact ⟨_, (tc_plk_sa (aP_sa sa _)).trans ((tf_plk_s tHC_58).trans tP_58_165)⟩
  rcases List.mem_cons.mp hp with rfl | hp
  · exact ⟨_, (tc_plk_sa (aP_sa sa _)).trans ((tf_plk_s tHC_58).trans tP_58_166)⟩
  rcases List.mem_cons.mp hp with rfl | hp
  · exact ⟨_, (tc_plk_sa (aP_sa sa _)).trans ((tf_plk_s tHC_58).trans tP_58_167)⟩
  rcases List.mem_cons.mp hp with rfl | hp
  · exact ⟨_, (tc_plk_sa (aP_sa sa _)).trans ((tf_plk_s tHC_58).trans tP_58_168)⟩
  rcases List.mem_cons.mp hp with rfl | hp
  · exact ⟨_, (tc_plk_sa (aP_sa sa _)).trans ((tf_plk_s tHC_58).trans tP_58_169)⟩
  rcases List.mem_cons.mp hp with rfl | hp
  · exact ⟨_, (tc_plk_sa (aP_sa sa _)).trans ((tf_plk_s tHC_58).trans tP_58_170)⟩
  rcases List.mem_cons.mp hp with rfl | hp
  · exact ⟨_, (tc_plk_sa (aP_sa sa _)).trans ((tf_plk_s tHC_58).trans tP_58_171)⟩
  rcases List.mem_cons.mp hp with rfl | hp
  · exact ⟨_, (tc_plk_sa (aP_sa sa _)).trans ((tf_plk_s tHC_58).trans tP_58_172)⟩
  rcases List.mem_cons.mp hp with rfl | hp
  · exact ⟨_, (tc_plk_sa (aP_sa sa _)).trans ((tf_plk_s tHC_58).trans tP_58_173)⟩
  rcases List.mem_cons.mp hp with rfl | hp
  · exact ⟨_, (tc_plk_sa (aP_sa sa _)).trans ((tf_plk_s tHC_58).trans tP_58_174)⟩
  rcases List.mem_cons.mp hp with rfl | hp
  · exact ⟨_, (tc_plk_sa (aP_sa sa _)).trans ((tf_plk_s tHC_58).trans tP_58_175)⟩
  rcases List.mem_cons.mp hp with rfl | hp
  · exact ⟨_, (tc_plk_sa (aP_sa sa _)).trans ((tf_plk_s tHC_58).trans tP_58_176)⟩
  rcases List.mem_cons.mp hp with rfl | hp
  · exact ⟨_, (tc_plk_sa (aP_sa sa _)).trans ((tf_plk_s tHC_58).trans tP_58_177)⟩
  rcases List.mem_cons.mp hp with rfl | hp
  · exact ⟨_, (tc_plk_sa (aP_sa sa _)).trans ((tf_plk_s tHC_58).trans tP_58_178)⟩
  rcases List.mem_cons.mp hp with rfl | hp
  · exact ⟨_, (tc_plk_sa (aP_sa sa _)).trans ((tf_plk_s tHC_58).trans tP_58_179)⟩
  rcases List.mem_cons.mp hp with rfl | hp
  · exact ⟨_, (tc_plk_sa (aP_sa sa _)).trans ((tf_plk_s tHC_58).trans tP_58_180)⟩
  rcases List.mem_cons.mp hp with rfl | hp
  · exact ⟨_, (tc_plk_sa (aP_sa sa _)).trans ((tf_plk_s tHC_58).trans tP_58_181)⟩
  rcases List.mem_cons.mp hp with rfl | hp
  · exact ⟨_, (tc_plk_sa (aP_sa sa _)).trans ((tf_plk_s tHC_58).trans tP_58_182)⟩
  rcases List.mem_cons.mp hp with rfl | hp
  · exact ⟨_, (tc_plk_sa (aP_sa sa _)).trans ((tf_plk_s tHC_58).trans tP_58_183)⟩
  rcases List.mem_cons.mp hp with rfl | hp
  · exact ⟨_, (tc_plk_sa (aP_sa sa _)).trans ((tf_plk_s tHC_58).trans tP_58_184)⟩
  rcases List.mem_cons.mp hp with rfl | hp
  · exact ⟨_, (tc_plk_sa (aP_sa sa _)).trans ((tf_plk_s tHC_58).trans tP_58_185)⟩
  rcases List.mem_cons.mp hp with rfl | hp
  · exact ⟨_, (tc_plk_sa (aP_sa sa _)).trans ((tf_plk_s tHC_58).trans tP_58_186)⟩
  rcases List.mem_cons.mp hp with rfl | hp
  · exact ⟨_, (tc_plk_sa (aP_sa sa _)).trans ((tf_plk_s tHC_58).trans tP_58_187)⟩
  rcases List.mem_cons.mp hp with rfl | hp
  · exact ⟨_, (tc_plk_sa (aP_sa sa _)).trans ((tf_plk_s tHC_58).trans tP_58_188)⟩
  rcases List.mem_cons.mp hp with rfl | hp
  · exact ⟨_, (tc_plk_sa (aP_sa sa _)).trans ((tf_plk_s tHC_58).trans tP_58_189)⟩
  rcases List.mem_cons.mp hp with rfl | hp
  · exact ⟨_, (tc_plk_sa (aP_sa sa _)).trans ((tf_plk_s tHC_58).trans tP_58_190)⟩
  rcases List.mem_cons.mp hp with rfl | hp
  · exact ⟨_, (tc_plk_sa (aP_sa sa _)).trans ((tf_plk_s tHC_58).trans tP_58_191)⟩
  rcases List.mem_cons.mp hp with rfl | hp
  · exact ⟨_, (tc_plk_sa (aP_sa sa _)).trans ((tf_plk_s tHC_58).trans tP_58_192)⟩
  rcases List.mem_cons.mp hp with rfl | hp
  · exact ⟨_, (tc_plk_sa (aP_sa sa _)).trans ((tf_plk_s tHC_58).trans tP_58_193)⟩
  rcases List.mem_cons.mp hp with rfl | hp
  · exact ⟨_, (tc_plk_sa (aP_sa sa _)).trans ((tf_plk_s tHC_58).trans tP_58_194)⟩
  rcases List.mem_cons.mp hp with rfl | hp
  · exact ⟨_, (tc_plk_sa (aP_sa sa _)).trans ((tf_plk_s tHC_58).trans tP_58_195)⟩
  rcases List.mem_cons.mp hp with rfl | hp
  · exact ⟨_, (tc_plk_sa (aP_sa sa _)).trans ((tf_plk_s tHC_58).trans tP_58_196)⟩
  rcases List.mem_cons.mp hp with rfl | hp
  · exact ⟨_, (tc_plk_sa (aP_sa sa _)).trans ((tf_plk_s tHC_58).trans tP_58_197)⟩
  cases hp
set_option maxRecDepth 100000 in
theorem tT_58 {RO : am_O} {sa : Nat → Nat} (h_15 : tc_true (aP sa) tp_G RO tp_T tp_Z tK_15) (h_56 : tc_true (aP sa) tp_G RO tp_T tp_Z tK_56) (h_57 : tc_true (aP sa) tp_G RO tp_T tp_Z tK_57) : tc_true (aP sa) tp_G RO tp_T tp_Z tK_58 := by
  have hC : ∀ c ∈ tC_58, tc_true (aP sa) tp_G RO tp_T tp_Z c := by
    intro c hc
    have hc : c ∈ ([tK_15, tK_57, tK_56] : List tc_Ct) := hc
    rcases List.mem_cons.mp hc with rfl | hc
    · exact h_15
    rcases List.mem_cons.mp hc with rfl | hc
    · exact h_57
    rcases List.mem_cons.mp hc with rfl | hc
    · exact h_56
    cases hc
  have hP : ∀ p ∈ tJ_58, ∃ hs, tc_plk (aP sa, tV_58.2) p hs = true := by
    intro p hp
    rcases List.mem_append.mp hp with hp | hp
    · exact tQ_58_0 p hp
    rcases List.mem_append.mp hp with hp | hp
    · exact tQ_58_1 p hp
    rcases List.mem_append.mp hp with hp | hp
    · exact tQ_58_2 p hp
    rcases List.mem_append.mp hp with hp | hp
    · exact tQ_58_3 p hp
    exact tQ_58_4 p hp
  exact tc_main (mt := aM_310.1) (hs := tH_58_0) (PL := tJ_58) ⟨tp_G_ok, tMs_58 _, hC, tp_L_ok, tp_G_re⟩ (show am_meth (aP sa) 310 = some aM_310.1 from rfl) aX_310 (by decide +kernel) hP ((tc_go_sa (aP_sa sa _)).trans ((tf_go_s tHC_58).trans tR_58))

noncomputable def tK_59 : tc_Ct := (309, (2, 2), [(2, ([], 0), 0), (0, ([(0, 1)], 0), 0), (0, ([(1, 1)], 0), 0)], ([([(0, -1)], 2147483647), ([(0, 1)], 2147483648), ([(1, -1)], 2147483647), ([(1, 1)], 2147483648)], [(0, 165), (1, 166)], [], [(0, 0, (2, ([], 0), 1))], [], [], [(1016, [], []), (1024, [], []), (1088, [], []), (1096, [], []), (568, [1], [])]), [(167, 0), (167, 1), (167, 2), (167, 3), (167, 4), (167, 5), (205, 0)], [((2, 2), ([([(0, -1)], 2147483647), ([(0, 1)], 2147483648), ([(1, -1)], 2147483647), ([(1, 1)], 2147483648)], [], [], [], [], [], []), some (1, ([], 0), 0), ([], 0), ([], 0))])
noncomputable def tJ_59 : List tc_Pl := []
noncomputable def tC_59 : List tc_Ct := [tK_54, tK_58]
def tM_59 (z : Nat) : Option am_Meth := if z = 310 then some aM_310.1 else if z = 308 then some aM_308.1 else none
set_option maxRecDepth 100000 in
theorem tMs_59 (sa : Nat → Nat) : ∀ z mz, tM_59 z = some mz → am_meth (aP sa) z = some mz := by
  intro z mz h
  unfold tM_59 at h
  rcases de_m h with ⟨rfl, rfl⟩ | h
  · exact (show am_meth (aP sa) 310 = some aM_310.1 from rfl)
  rcases de_m h with ⟨rfl, rfl⟩ | h
  · exact (show am_meth (aP sa) 308 = some aM_308.1 from rfl)
  cases h
noncomputable def tV_59 : tc_Ev := (aQ, tp_T, tp_G.2, tp_Z, tM_59, tC_59, tp_L, tK_59.2.2.2.2.1, aM_309.1, aW_309, tK_59.2.1, tK_59.2.2.2.2.2, tJ_59)
theorem tE_59 : tK_59.2.2.2.2.2.all (tc_wex tK_59.2.1.1 tK_59.2.1.2) = true := by decide +kernel
theorem tSS_59 : tC_59.all (fun c => tw_mg tK_59.2.2.2.2.1 c.2.2.2.2.1) = true := by decide +kernel
theorem tHC_59 : ∀ c ∈ tC_59, c.2.2.2.2.1.all tK_59.2.2.2.2.1.contains = true ∧ c.2.2.2.2.2.all (tc_wex c.2.1.1 c.2.1.2) = true := tf_hc tSS_59 (by
  intro c hc
  have hc : c ∈ ([tK_54, tK_58] : List tc_Ct) := hc
  rcases List.mem_cons.mp hc with rfl | hc
  · exact tE_54
  rcases List.mem_cons.mp hc with rfl | hc
  · exact tE_58
  cases hc)
noncomputable def tH_59_0 : List tc_It := [de_it 0x4010000, de_it 0x101010101000101000000000000000000000000000000010a00020001010000020006, de_it 0x10106010100000300000001, de_it 0x2010000, de_it 0x1030101010201010101010101000101000000000000000000000000000100010c0000010007, de_it 0x10000010701010300000001, de_it 0x2010000, de_it 0x300000001, de_it 0x2010000, de_it 0x1030101010701010105010101040101000000000000000000000000000100010c0000010007, de_it 0x4010000, de_it 0x2, de_it 0x2010000, de_it 0x4010011, de_it 0x108010402010105010102000200010100010002, de_it 0x300000001, de_it 0x4010000, de_it 0x2, de_it 0x2010000, de_it 0x6010011, de_it 0x10f01040201010501010200000002, de_it 0x4010000, de_it 0x1070101010e010d020101070101010e010d020100010001000000000000000000000000000000030e0002010100000202080002040006, de_it 0x1070101011301010105010101040101000000000000000000000000000100010c0000010007, de_it 0x2010000, de_it 0x10c010e0201010201010105010101040101000000000000000000000000000100010c0000010007]
set_option maxRecDepth 100000 in
theorem tR_59 : tf_go tV_59 tK_59.2.1.1 tK_59.2.1.2 none tH_59_0 [(tK_59.2.1, tK_59.2.2.2.1, 0, tc_args 0 tK_59.2.2.1, [], ([], 0), ([], 0))] = true := by decide +kernel
set_option maxRecDepth 100000 in
theorem tT_59 {RO : am_O} {sa : Nat → Nat} (h_54 : tc_true (aP sa) tp_G RO tp_T tp_Z tK_54) (h_58 : tc_true (aP sa) tp_G RO tp_T tp_Z tK_58) : tc_true (aP sa) tp_G RO tp_T tp_Z tK_59 := by
  have hC : ∀ c ∈ tC_59, tc_true (aP sa) tp_G RO tp_T tp_Z c := by
    intro c hc
    have hc : c ∈ ([tK_54, tK_58] : List tc_Ct) := hc
    rcases List.mem_cons.mp hc with rfl | hc
    · exact h_54
    rcases List.mem_cons.mp hc with rfl | hc
    · exact h_58
    cases hc
  have hP : ∀ p ∈ tJ_59, ∃ hs, tc_plk (aP sa, tV_59.2) p hs = true := by
    intro p hp
    have hp : p ∈ ([] : List tc_Pl) := hp
    cases hp
  exact tc_main (mt := aM_309.1) (hs := tH_59_0) (PL := tJ_59) ⟨tp_G_ok, tMs_59 _, hC, tp_L_ok, tp_G_re⟩ (show am_meth (aP sa) 309 = some aM_309.1 from rfl) aX_309 (by decide +kernel) hP ((tc_go_sa (aP_sa sa _)).trans ((tf_go_s tHC_59).trans tR_59))
noncomputable def tK_60 : tc_Ct := (314, (1, 0), [(0, ([(0, 1)], 0), 0)], ([([(0, -1)], 64), ([(0, 1)], -2)], [], [], [], [], [], []), [], [((2, 0), ([([(0, -1)], 64), ([(0, 1)], -2), ([(1, -1)], 63), ([(1, 1)], -1), ([(0, -1), (1, 1)], 55), ([(0, 1), (1, -1)], -1)], [], [], [], [], [], []), some (0, ([(1, 1)], 0), 0), ([], 0), ([], 0))])
noncomputable def tL_60_0 : tc_Pl := de_pl 0x30d38ff000001010200020000000000030d38ff0003000000000000000202010002000002010100010000020001000003040000000000000101020201027c02020101020301020200020101010200020002020110010201010201017e010101030200018001000103020001800100010c0003
noncomputable def tJ_60 : List tc_Pl := [tL_60_0]
noncomputable def tC_60 : List tc_Ct := []
def tM_60 (z : Nat) : Option am_Meth := none
set_option maxRecDepth 100000 in
theorem tMs_60 (sa : Nat → Nat) : ∀ z mz, tM_60 z = some mz → am_meth (aP sa) z = some mz := fun z mz h => by cases h
noncomputable def tV_60 : tc_Ev := (aQ, tp_T, tp_G.2, tp_Z, tM_60, tC_60, tp_L, tK_60.2.2.2.2.1, aM_314.1, aW_314, tK_60.2.1, tK_60.2.2.2.2.2, tJ_60)
theorem tE_60 : tK_60.2.2.2.2.2.all (tc_wex tK_60.2.1.1 tK_60.2.1.2) = true := by decide +kernel
theorem tSS_60 : tC_60.all (fun c => tw_mg tK_60.2.2.2.2.1 c.2.2.2.2.1) = true := by decide +kernel
theorem tHC_60 : ∀ c ∈ tC_60, c.2.2.2.2.1.all tK_60.2.2.2.2.1.contains = true ∧ c.2.2.2.2.2.all (tc_wex c.2.1.1 c.2.1.2) = true := tf_hc tSS_60 (by
  intro c hc
  have hc : c ∈ ([] : List tc_Ct) := hc
  cases hc)
noncomputable def tH_60_0 : List tc_It := [de_it 0x8010000, de_it 0x1000101010101010101010001000100010001010101010100010101010101010001010000000000000000000000000001000114000002000200010008]
set_option maxRecDepth 100000 in
theorem tR_60 : tf_go tV_60 tK_60.2.1.1 tK_60.2.1.2 none tH_60_0 [(tK_60.2.1, tK_60.2.2.2.1, 0, tc_args 0 tK_60.2.2.1, [], ([], 0), ([], 0))] = true := by decide +kernel
noncomputable def tH_60_1 : List tc_It := [de_it 0x4010000, de_it 0x300000001, de_it 0x2010000, de_it 0x1080101010c010b01000301010c010b020101040101010c0109020101000101000000000000000000000000000100010e000201010100010007, de_it 0x4010000, de_it 0x2040101020501010200000001, de_it 0x2010000, de_it 0x300000001, de_it 0x2010000, de_it 0x1080101010d0100020201050101010401010101010101000101000000000000000000000000000100010e000201010100010007, de_it 0x4010000, de_it 0x10d01000201020501010200000001, de_it 0x2010000, de_it 0x10c0101010701010200000001, de_it 0x2010000, de_it 0x10b01050201010d0107010003010107020b010d0301010d010101070101010c010102050101010d01000201010d0205020101000101010d020502010100010100000000010d010502010105010100000001000100011402020201000401010200010008]
set_option maxRecDepth 100000 in
theorem tP_60_0 : tf_plk tV_60 tL_60_0 tH_60_1 = true := by decide +kernel
set_option maxRecDepth 100000 in
theorem tT_60 {RO : am_O} {sa : Nat → Nat} : tc_true (aP sa) tp_G RO tp_T tp_Z tK_60 := by
  have hC : ∀ c ∈ tC_60, tc_true (aP sa) tp_G RO tp_T tp_Z c := by
    intro c hc
    have hc : c ∈ ([] : List tc_Ct) := hc
    cases hc
  have hP : ∀ p ∈ tJ_60, ∃ hs, tc_plk (aP sa, tV_60.2) p hs = true := by
    intro p hp
    have hp : p ∈ ([tL_60_0] : List tc_Pl) := hp
    rcases List.mem_cons.mp hp with rfl | hp
    · exact ⟨_, (tc_plk_sa (aP_sa sa _)).trans ((tf_plk_s tHC_60).trans tP_60_0)⟩
    cases hp
  exact tc_main (mt := aM_314.1) (hs := tH_60_0) (PL := tJ_60) ⟨tp_G_ok, tMs_60 _, hC, tp_L_ok, tp_G_re⟩ (show am_meth (aP sa) 314 = some aM_314.1 from rfl) aX_314 (by decide +kernel) hP ((tc_go_sa (aP_sa sa _)).trans ((tf_go_s tHC_60).trans tR_60))
noncomputable def tK_61 : tc_Ct := (66, (3, 2), [(2, ([], 0), 0), (1, ([], 0), 0)], ([([(0, -1)], 56), ([(0, 1)], 0), ([(1, -1)], 2000), ([(1, 1)], -8), ([(2, -1)], 8000000), ([(0, -1), (1, 1)], 0)], [(0, 178), (1, 193)], [(1, ([(1, 1)], 0))], [(0, 0, (2, ([], 0), 1)), (0, 1, (0, ([(0, 1)], 0), 0))], [], [], [(1016, [], []), (1088, [], []), (1136, [], [([(2, 1)], 0)])]), [(178, 0), (178, 1), (193, 0), (193, 1000)], [((6, 2), ([([(0, -1)], 56), ([(0, 1)], 0), ([(1, -1)], 2000), ([(1, 1)], -8), ([(2, -1)], 8000000), ([(3, -1)], 8), ([(3, 1)], 0), ([(4, -1)], 15984), ([(4, 1)], 0), ([(5, -1)], 8000000), ([(0, -1), (1, 1)], 0), ([(3, -16), (4, 1)], 0), ([(2, 1), (4, -1), (5, -1)], 0)], [], [(1, ([(1, 1)], 0))], [(0, 1, (0, ([(0, 1)], 8), 0))], [], [], [(1136, [], [([(5, 1)], 0)])]), none, ([(3, 1)], 0), ([(4, 1)], 0))])
noncomputable def tL_61_0 : tc_Pl := de_pl 0x30d3aff000d000000000000030d3aff0003000204010002030100000f00000300000001010000000200030300000000000000000440ff000000000000000003f8ff0002050101000000000000000470ff030000001002000100010001000201010101c101b2000200010501040202030002041f03020002010100020000000000f42400ff010501000204010000000000007ce0ff01040100020301100103010000000000f42400ff0102010f0201010000000000000fa0ff01010100020001700100010002010100020000000000f42400ff0102010f0201010000000000000fa0ff0101010002000170010001130206
noncomputable def tL_61_1 : tc_Pl := de_pl 0x30d3aff0002000000000000030d3aff0003000204010002030100000000000300000001010000000200030300000000000000000440ff000000000000000003f8ff0002050101000000000000000470ff030000000e02000100010001000201010101c101b2000200010501040202030002041f03020002010100020000000000f42400ff010501000204010000000000006d44ff010401000203010e0103010000000000f42400ff0102010f0201010000000000000fa0ff01010100020001700100010002010100020000000000f42400ff0102010f0201010000000000000fa0ff0101010002000170010001130206
noncomputable def tL_61_2 : tc_Pl := de_pl 0x30d3aff0022000000000000030d3aff0003000204010002030100002000000300000001010000000200030300000000000000000440ff000000000000000003f8ff0002050101000000000000000470ff030000000a02000100010001000201010101c101b2000200010501040202030002041f03020002010100020000000000f42400ff010501000204010000000000004e0cff010401000203010a0103010000000000f42400ff0102010f0201010000000000000fa0ff01010100020001700100010002010100020000000000f42400ff0102010f0201010000000000000fa0ff0101010002000170010001130206
noncomputable def tL_61_3 : tc_Pl := de_pl 0x30d3aff0032000000000000030d3aff0003000204010002030100003000000300000001010000000200030300000000000000000440ff000000000000000003f8ff0002050101000000000000000470ff030000000802000100010001000201010101c101b2000200010501040202030002041f03020002010100020000000000f42400ff010501000204010000000000003e70ff01040100020301080103010000000000f42400ff0102010f0201010000000000000fa0ff01010100020001700100010002010100020000000000f42400ff0102010f0201010000000000000fa0ff0101010002000170010001130206
noncomputable def tL_61_4 : tc_Pl := de_pl 0x30d3aff0042000000000000030d3aff0003000204010002030100004000000300000001010000000200030300000000000000000440ff000000000000000003f8ff0002050101000000000000000470ff030000000602000100010001000201010101c101b2000200010501040202030002041f03020002010100020000000000f42400ff010501000204010000000000002ed4ff01040100020301060103010000000000f42400ff0102010f0201010000000000000fa0ff01010100020001700100010002010100020000000000f42400ff0102010f0201010000000000000fa0ff0101010002000170010001130206
noncomputable def tL_61_5 : tc_Pl := de_pl 0x30d3aff0052000000000000030d3aff0003000204010002030100005000000300000001010000000200030300000000000000000440ff000000000000000003f8ff0002050101000000000000000470ff030000000402000100010001000201010101c101b2000200010501040202030002041f03020002010100020000000000f42400ff010501000204010000000000001f38ff01040100020301040103010000000000f42400ff0102010f0201010000000000000fa0ff01010100020001700100010002010100020000000000f42400ff0102010f0201010000000000000fa0ff0101010002000170010001130206
noncomputable def tL_61_6 : tc_Pl := de_pl 0x30d3aff0062000000000000030d3aff0003000204010002030100006000000300000001010000000200030300000000000000000440ff000000000000000003f8ff0002050101000000000000000470ff030000000202000100010001000201010101c101b2000200010501040202030002041f03020002010100020000000000f42400ff010501000204010000000000000f9cff01040100020301020103010000000000f42400ff0102010f0201010000000000000fa0ff01010100020001700100010002010100020000000000f42400ff0102010f0201010000000000000fa0ff0101010002000170010001130206
noncomputable def tL_61_7 : tc_Pl := de_pl 0x30d3aff0072000000000000030d3aff0003000000000000700000030000000101000000020003030002020101000000000000000470ff00000000000000000440ff000000000000000003f8ff030000000002000100010001000002000002000201010101c101b200020002010100020000000000f42400ff0102010f0201010000000000000fa0ff01010100020001700100010002010100020000000000f42400ff0102010f0201010000000000000fa0ff01010100020001700100010c0203
noncomputable def tL_61_8 : tc_Pl := de_pl 0x30d3aff0012000000000000030d3aff0003000204010002030100001000000300000001010000000200030300000000000000000440ff000000000000000003f8ff0002050101000000000000000470ff030000000c02000100010001000201010101c101b2000200010501040202030002041f03020002010100020000000000f42400ff010501000204010000000000005da8ff010401000203010c0103010000000000f42400ff0102010f0201010000000000000fa0ff01010100020001700100010002010100020000000000f42400ff0102010f0201010000000000000fa0ff0101010002000170010001130206
noncomputable def tJ_61 : List tc_Pl := [tL_61_0, tL_61_1, tL_61_2, tL_61_3, tL_61_4, tL_61_5, tL_61_6, tL_61_7, tL_61_8]
noncomputable def tC_61 : List tc_Ct := [tK_32]
def tM_61 (z : Nat) : Option am_Meth := if z = 7 then some aM_7.1 else none
set_option maxRecDepth 100000 in
theorem tMs_61 (sa : Nat → Nat) : ∀ z mz, tM_61 z = some mz → am_meth (aP sa) z = some mz := by
  intro z mz h
  unfold tM_61 at h
  rcases de_m h with ⟨rfl, rfl⟩ | h
  · exact (show am_meth (aP sa) 7 = some aM_7.1 from rfl)
  cases h
noncomputable def tV_61 : tc_Ev := (aQ, tp_T, tp_G.2, tp_Z, tM_61, tC_61, tp_L, tK_61.2.2.2.2.1, aM_66.1, aW_66, tK_61.2.1, tK_61.2.2.2.2.2, tJ_61)
theorem tE_61 : tK_61.2.2.2.2.2.all (tc_wex tK_61.2.1.1 tK_61.2.1.2) = true := by decide +kernel
theorem tSS_61 : tC_61.all (fun c => tw_mg tK_61.2.2.2.2.1 c.2.2.2.2.1) = true := by decide +kernel
theorem tHC_61 : ∀ c ∈ tC_61, c.2.2.2.2.1.all tK_61.2.2.2.2.1.contains = true ∧ c.2.2.2.2.2.all (tc_wex c.2.1.1 c.2.1.2) = true := tf_hc tSS_61 (by
  intro c hc
  have hc : c ∈ ([tK_32] : List tc_Ct) := hc
  rcases List.mem_cons.mp hc with rfl | hc
  · exact tE_32
  cases hc)
noncomputable def tH_61_0 : List tc_It := [de_it 0x4010000, de_it 0x105010101040101010301010102010101010101010001010105010101040101010301010102010101010101010001010000000000000000000000000001000114000e010008]
set_option maxRecDepth 100000 in
theorem tR_61 : tf_go tV_61 tK_61.2.1.1 tK_61.2.1.2 none tH_61_0 [(tK_61.2.1, tK_61.2.2.2.1, 0, tc_args 0 tK_61.2.2.1, [], ([], 0), ([], 0))] = true := by decide +kernel
noncomputable def tH_61_1 : List tc_It := [de_it 0x2010000, de_it 0x113010100000300000001, de_it 0x11201010111010101050101010f0101010e0101010d0101010c0101010b0101010401010103010101020101010101010100010100000000000000000000000000010001150002050100020401000203010300010007]
set_option maxRecDepth 100000 in
theorem tP_61_0 : tf_plk tV_61 tL_61_0 tH_61_1 = true := by decide +kernel
noncomputable def tH_61_2 : List tc_It := [de_it 0x2010000, de_it 0x11301010300000001, de_it 0x8010000, de_it 0x101, de_it 0x2000f, de_it 0x4010011, de_it 0x10010, de_it 0x10f0101011a01010119010101010101010001010114010101150101000000000000000000000000000000010f00020501000207010e0200010002060104040000030006, de_it 0x52504c4a48464434323024221e1c1a18160a080604020017000d, de_it 0x4010000, de_it 0x116010c02010115010b020101050101011401010113010902010112010802010111010702010110010602010104010101030101010201010101010101000101010501010104010101030101010201010101010101000101000000000001000100000001000100011b00020a010002090204020002080203020300010008]
set_option maxRecDepth 100000 in
theorem tP_61_1 : tf_plk tV_61 tL_61_1 tH_61_2 = true := by decide +kernel
noncomputable def tH_61_3 : List tc_It := [de_it 0x2010000, de_it 0x11301010300000001, de_it 0x8010000, de_it 0x101, de_it 0x2000f, de_it 0x4010011, de_it 0x10010, de_it 0x10f0101011a01010119010101010101010001010114010101150101000000000000000000000000000000010f00020501000207010a0200010002060104040000030006, de_it 0x52504c4a48464434323024221e1c1a18160a080604020017000d, de_it 0x4010000, de_it 0x116010c02010115010b020101050101011401010113010902010112010802010111010702010110010602010104010101030101010201010101010101000101010501010104010101030101010201010101010101000101000000000001000100000001000100011b00020a010002090204020002080203020310010008]
set_option maxRecDepth 100000 in
theorem tP_61_2 : tf_plk tV_61 tL_61_2 tH_61_3 = true := by decide +kernel
noncomputable def tH_61_4 : List tc_It := [de_it 0x2010000, de_it 0x11301010300000001, de_it 0x8010000, de_it 0x101, de_it 0x2000f, de_it 0x4010011, de_it 0x10010, de_it 0x10f0101011a01010119010101010101010001010114010101150101000000000000000000000000000000010f0002050100020701080200010002060104040000030006, de_it 0x52504c4a48464434323024221e1c1a18160a080604020017000d, de_it 0x4010000, de_it 0x116010c02010115010b020101050101011401010113010902010112010802010111010702010110010602010104010101030101010201010101010101000101010501010104010101030101010201010101010101000101000000000001000100000001000100011b00020a010002090204020002080203020304010008]
set_option maxRecDepth 100000 in
theorem tP_61_3 : tf_plk tV_61 tL_61_3 tH_61_4 = true := by decide +kernel
noncomputable def tH_61_5 : List tc_It := [de_it 0x2010000, de_it 0x11301010300000001, de_it 0x8010000, de_it 0x101, de_it 0x2000f, de_it 0x4010011, de_it 0x10010, de_it 0x10f0101011a01010119010101010101010001010114010101150101000000000000000000000000000000010f0002050100020701060200010002060104040000030006, de_it 0x52504c4a48464434323024221e1c1a18160a080604020017000d, de_it 0x4010000, de_it 0x116010c02010115010b020101050101011401010113010902010112010802010111010702010110010602010104010101030101010201010101010101000101010501010104010101030101010201010101010101000101000000000001000100000001000100011b00020a010002090204020002080203020306010008]
set_option maxRecDepth 100000 in
theorem tP_61_4 : tf_plk tV_61 tL_61_4 tH_61_5 = true := by decide +kernel
noncomputable def tH_61_6 : List tc_It := [de_it 0x2010000, de_it 0x11301010300000001, de_it 0x8010000, de_it 0x101, de_it 0x2000f, de_it 0x4010011, de_it 0x10010, de_it 0x10f0101011a01010119010101010101010001010114010101150101000000000000000000000000000000010f0002050100020701040200010002060104040000030006, de_it 0x52504c4a48464434323024221e1c1a18160a080604020017000d, de_it 0x4010000, de_it 0x116010c02010115010b020101050101011401010113010902010112010802010111010702010110010602010104010101030101010201010101010101000101010501010104010101030101010201010101010101000101000000000001000100000001000100011b00020a010002090204020002080203020308010008]
set_option maxRecDepth 100000 in
theorem tP_61_5 : tf_plk tV_61 tL_61_5 tH_61_6 = true := by decide +kernel
noncomputable def tH_61_7 : List tc_It := [de_it 0x2010000, de_it 0x11301010300000001, de_it 0x8010000, de_it 0x101, de_it 0x2000f, de_it 0x4010011, de_it 0x10010, de_it 0x10f0101011a01010119010101010101010001010114010101150101000000000000000000000000000000010f0002050100020701020200010002060104040000030006, de_it 0x52504c4a48464434323024221e1c1a18160a080604020017000d, de_it 0x4010000, de_it 0x116010c02010115010b020101050101011401010113010902010112010802010111010702010110010602010104010101030101010201010101010101000101010501010104010101030101010201010101010101000101000000000001000100000001000100011b00020a01000209020402000208020302030a010008]
set_option maxRecDepth 100000 in
theorem tP_61_6 : tf_plk tV_61 tL_61_6 tH_61_7 = true := by decide +kernel
noncomputable def tH_61_8 : List tc_It := [de_it 0x2010000, de_it 0x10c01010300000001, de_it 0x8010000, de_it 0x101, de_it 0x104010101030101010201010101010101000101010d0101010e0101000000000000000000000000000000010f0002020100020101000200010002030104020000030006, de_it 0x4010000, de_it 0x11d0101011c010101050101011a0101011901010118010101170101011601010104010101030101010201010101010101000101010501010104010101030101010201010101010101000101000000000001000100000001000100011b000206010002050100020401030c010008]
set_option maxRecDepth 100000 in
theorem tP_61_7 : tf_plk tV_61 tL_61_7 tH_61_8 = true := by decide +kernel
noncomputable def tH_61_9 : List tc_It := [de_it 0x2010000, de_it 0x11301010300000001, de_it 0x8010000, de_it 0x101, de_it 0x2000f, de_it 0x4010011, de_it 0x10010, de_it 0x10f0101011a01010119010101010101010001010114010101150101000000000000000000000000000000010f00020501000207010c0200010002060104040000030006, de_it 0x52504c4a48464434323024221e1c1a18160a080604020017000d, de_it 0x4010000, de_it 0x116010c02010115010b020101050101011401010113010902010112010802010111010702010110010602010104010101030101010201010101010101000101010501010104010101030101010201010101010101000101000000000001000100000001000100011b00020a010002090204020002080203020302010008]
set_option maxRecDepth 100000 in
theorem tP_61_8 : tf_plk tV_61 tL_61_8 tH_61_9 = true := by decide +kernel
set_option maxRecDepth 100000 in
theorem tT_61 {RO : am_O} {sa : Nat → Nat} (h_32 : tc_true (aP sa) tp_G RO tp_T tp_Z tK_32) : tc_true (aP sa) tp_G RO tp_T tp_Z tK_61 := by
  have hC : ∀ c ∈ tC_61, tc_true (aP sa) tp_G RO tp_T tp_Z c := by
    intro c hc
    have hc : c ∈ ([tK_32] : List tc_Ct) := hc
    rcases List.mem_cons.mp hc with rfl | hc
    · exact h_32
    cases hc
  have hP : ∀ p ∈ tJ_61, ∃ hs, tc_plk (aP sa, tV_61.2) p hs = true := by
    intro p hp
    have hp : p ∈ ([tL_61_0, tL_61_1, tL_61_2, tL_61_3, tL_61_4, tL_61_5, tL_61_6, tL_61_7, tL_61_8] : List tc_Pl) := hp
    rcases List.mem_cons.mp hp with rfl | hp
    · exact ⟨_, (tc_plk_sa (aP_sa sa _)).trans ((tf_plk_s tHC_61).trans tP_61_0)⟩
    rcases List.mem_cons.mp hp with rfl | hp
    · exact ⟨_, (tc_plk_sa (aP_sa sa _)).trans ((tf_plk_s tHC_61).trans tP_61_1)⟩
    rcases List.mem_cons.mp hp with rfl | hp
    · exact ⟨_, (tc_plk_sa (aP_sa sa _)).trans ((tf_plk_s tHC_61).trans tP_61_2)⟩
    rcases List.mem_cons.mp hp with rfl | hp
    · exact ⟨_, (tc_plk_sa (aP_sa sa _)).trans ((tf_plk_s tHC_61).trans tP_61_3)⟩
    rcases List.mem_cons.mp hp with rfl | hp
    · exact ⟨_, (tc_plk_sa (aP_sa sa _)).trans ((tf_plk_s tHC_61).trans tP_61_4)⟩
    rcases List.mem_cons.mp hp with rfl | hp
    · exact ⟨_, (tc_plk_sa (aP_sa sa _)).trans ((tf_plk_s tHC_61).trans tP_61_5)⟩
    rcases List.mem_cons.mp hp with rfl | hp
    · exact ⟨_, (tc_plk_sa (aP_sa sa _)).trans ((tf_plk_s tHC_61).trans tP_61_6)⟩
    rcases List.mem_cons.mp hp with rfl | hp
    · exact ⟨_, (tc_plk_sa (aP_sa sa _)).trans ((tf_plk_s tHC_61).trans tP_61_7)⟩
    rcases List.mem_cons.mp hp with rfl | hp
    · exact ⟨_, (tc_plk_sa (aP_sa sa _)).trans ((tf_plk_s tHC_61).trans tP_61_8)⟩
    cases hp
  exact tc_main (mt := aM_66.1) (hs := tH_61_0) (PL := tJ_61) ⟨tp_G_ok, tMs_61 _, hC, tp_L_ok, tp_G_re⟩ (show am_meth (aP sa) 66 = some aM_66.1 from rfl) aX_66 (by decide +kernel) hP ((tc_go_sa (aP_sa sa _)).trans ((tf_go_s tHC_61).trans tR_61))
noncomputable def tK_62 : tc_Ct := (315, (4, 3), [(2, ([], 0), 0), (0, ([(0, 1)], 0), 0)], ([([(0, -1)], 8), ([(0, 1)], 0), ([(1, -1)], 1000), ([(1, 1)], 0), ([(2, -1)], 2000), ([(2, 1)], -8), ([(3, -1)], 8000000), ([(3, 1)], 0), ([(1, -1), (2, 1)], 0)], [(0, 165), (1, 178), (2, 193)], [(2, ([(2, 1)], 0))], [(0, 2, (2, ([], 0), 1)), (1, 0, (2, ([], 0), 2)), (1, 1, (0, ([(1, 1)], 0), 0))], [], [], [(1016, [], []), (1024, [], []), (1088, [], []), (1096, [], []), (1136, [], [([(3, 1)], 0)])]), [(178, 0), (178, 1), (193, 0), (193, 1000)], [((8, 3), ([([(0, -1)], 8), ([(0, 1)], 0), ([(1, -1)], 1000), ([(1, 1)], 0), ([(2, -1)], 2000), ([(2, 1)], -8), ([(3, -1)], 8000000), ([(3, 1)], 0), ([(4, -1)], 64), ([(4, 1)], 0), ([(5, 1)], 0), ([(6, 1)], 0), ([(7, -1)], 8000000), ([(0, -1), (4, 1)], 0), ([(0, 1), (4, -1)], 56), ([(1, -1), (2, 1)], 0), ([(5, -16), (6, 1)], 0), ([(3, 1), (6, -1), (7, -1)], 0)], [], [(2, ([(2, 1)], 0))], [(1, 1, (0, ([(4, 1)], 0), 0))], [], [], [(1136, [], [([(7, 1)], 0)])]), none, ([(5, 1)], 0), ([(6, 1)], 0))])
noncomputable def tL_62_0 : tc_Pl := de_pl 0x30d2aff00020204010000000000030d2aff0003000207010002060100000002040100020000000200020b0002080101000000000000000470ff00000000000000000448ff00000000000000000440ff00000000000000000400ff000000000000000003f8ff050000000002050100010101000002020002000202010201c102b201a500030f01050f0410000310020510040f000300010801070203036e010501040200030002071f06027e01050104020002020101027001050200020101040200020000000000f42400ff01080100020701000206010002050180010501020204010e010401000203010000000000f42400ff0103010f0202010000000000000fa0ff0102010002010100000000000007d0ff0101010002000110010001000202010102000203010000000000f42400ff0103010f0202010000000000000fa0ff0102010002010100000000000007d0ff0101010002000110010001210309
noncomputable def tJ_62 : List tc_Pl := [tL_62_0]
noncomputable def tC_62 : List tc_Ct := [tK_27, tK_61]
def tM_62 (z : Nat) : Option am_Meth := if z = 66 then some aM_66.1 else if z = 23 then some aM_23.1 else none
set_option maxRecDepth 100000 in
theorem tMs_62 (sa : Nat → Nat) : ∀ z mz, tM_62 z = some mz → am_meth (aP sa) z = some mz := by
  intro z mz h
  unfold tM_62 at h
  rcases de_m h with ⟨rfl, rfl⟩ | h
  · exact (show am_meth (aP sa) 66 = some aM_66.1 from rfl)
  rcases de_m h with ⟨rfl, rfl⟩ | h
  · exact (show am_meth (aP sa) 23 = some aM_23.1 from rfl)
  cases h
noncomputable def tV_62 : tc_Ev := (aQ, tp_T, tp_G.2, tp_Z, tM_62, tC_62, tp_L, tK_62.2.2.2.2.1, aM_315.1, aW_315, tK_62.2.1, tK_62.2.2.2.2.2, tJ_62)
theorem tE_62 : tK_62.2.2.2.2.2.all (tc_wex tK_62.2.1.1 tK_62.2.1.2) = true := by decide +kernel
theorem tSS_62 : tC_62.all (fun c => tw_mg tK_62.2.2.2.2.1 c.2.2.2.2.1) = true := by decide +kernel
theorem tHC_62 : ∀ c ∈ tC_62, c.2.2.2.2.1.all tK_62.2.2.2.2.1.contains = true ∧ c.2.2.2.2.2.all (tc_wex c.2.1.1 c.2.1.2) = true := tf_hc tSS_62 (by
  intro c hc
  have hc : c ∈ ([tK_27, tK_61] : List tc_Ct) := hc
  rcases List.mem_cons.mp hc with rfl | hc
  · exact tE_27
  rcases List.mem_cons.mp hc with rfl | hc
  · exact tE_61
  cases hc)
noncomputable def tH_62_0 : List tc_It := [de_it 0x2010000, de_it 0x2, de_it 0x108010101050101010401010103010101020101000000000000000000000000000000000d000202010002010102040200030006, de_it 0x4010000, de_it 0x1000101010101010200000001, de_it 0x2010000, de_it 0x10001000100010001010001010108010101010101000101060101000100010001000101010101010001010107010101060101010501010104010101030101010201010101010101000101010801010107010101060101010501010104010101030101010201010101010101000101000000000000000000000000000100012900020301000000000000010200010500010008]
set_option maxRecDepth 100000 in
theorem tR_62 : tf_go tV_62 tK_62.2.1.1 tK_62.2.1.2 none tH_62_0 [(tK_62.2.1, tK_62.2.2.2.1, 0, tc_args 0 tK_62.2.2.1, [], ([], 0), ([], 0))] = true := by decide +kernel
noncomputable def tH_62_1 : List tc_It := [de_it 0x2010000, de_it 0x300000001, de_it 0x11e0101011c01010108010101190101011f07140821030801170101011601010115010101140101011f0819081b030f010701010106010101050101010401010103010101020101010101010721011f011b0308000000000000000000000000000100011a000208010002070100020601000205010400010007, de_it 0x2010000, de_it 0x2, de_it 0x2010000, de_it 0x2, de_it 0x4010000, de_it 0x1110101012101010200000001, de_it 0x6010011, de_it 0x12201110201012101010200000002, de_it 0x202000f, de_it 0x8010011, de_it 0x2010010, de_it 0x1260101011701010128010101270101011401010800082101200301000000000000000000000000000000010e0002080100020a010002050103080202030006, de_it 0x6a686462605e5c52504e4c464442403e3c3a383632302e2c2a2822100e0c0a080604020024000d, de_it 0x1090101011601010200000001, de_it 0x2010000, de_it 0x115010101140101012301130201071c0115020801220111020108000115071c0308010801010816071c01150308010a01150208012101010120010c0201011e010b0201010a0101011c0101011601010109010101070101010601010105010101040101010301010102010101150816010a0308010001010108010101070101010601010105010101040101010301010102010101150816010a0308010001010000000001160101000100000001000100012900020d0100020c02070200020b02060210020501010204010500010008]
set_option maxRecDepth 100000 in
theorem tP_62_0 : tf_plk tV_62 tL_62_0 tH_62_1 = true := by decide +kernel
set_option maxRecDepth 100000 in
theorem tT_62 {RO : am_O} {sa : Nat → Nat} (h_27 : tc_true (aP sa) tp_G RO tp_T tp_Z tK_27) (h_61 : tc_true (aP sa) tp_G RO tp_T tp_Z tK_61) : tc_true (aP sa) tp_G RO tp_T tp_Z tK_62 := by
  have hC : ∀ c ∈ tC_62, tc_true (aP sa) tp_G RO tp_T tp_Z c := by
    intro c hc
    have hc : c ∈ ([tK_27, tK_61] : List tc_Ct) := hc
    rcases List.mem_cons.mp hc with rfl | hc
    · exact h_27
    rcases List.mem_cons.mp hc with rfl | hc
    · exact h_61
    cases hc
  have hP : ∀ p ∈ tJ_62, ∃ hs, tc_plk (aP sa, tV_62.2) p hs = true := by
    intro p hp
    have hp : p ∈ ([tL_62_0] : List tc_Pl) := hp
    rcases List.mem_cons.mp hp with rfl | hp
    · exact ⟨_, (tc_plk_sa (aP_sa sa _)).trans ((tf_plk_s tHC_62).trans tP_62_0)⟩
    cases hp
  exact tc_main (mt := aM_315.1) (hs := tH_62_0) (PL := tJ_62) ⟨tp_G_ok, tMs_62 _, hC, tp_L_ok, tp_G_re⟩ (show am_meth (aP sa) 315 = some aM_315.1 from rfl) aX_315 (by decide +kernel) hP ((tc_go_sa (aP_sa sa _)).trans ((tf_go_s tHC_62).trans tR_62))
noncomputable def tK_63 : tc_Ct := (313, (4, 2), [(2, ([], 0), 0), (0, ([(0, 1)], 0), 0), (0, ([(1, 1)], 0), 0), (0, ([(2, 1)], 0), 0)], ([([(0, -1)], 2147483647), ([(0, 1)], 2147483648), ([(1, -1)], 2147483647), ([(1, 1)], 2147483648), ([(2, -1)], 2147483647), ([(2, 1)], 2147483648), ([(3, -1)], 8000000), ([(3, 1)], 0)], [(0, 165), (1, 166)], [], [(0, 0, (2, ([], 0), 1))], [], [], [(1016, [], []), (1024, [], []), (1088, [], []), (1096, [], []), (1136, [], [([(3, 1)], 0)]), (568, [1], [])]), [(167, 0), (167, 1), (167, 2), (167, 3), (167, 4), (167, 5), (178, 0), (178, 1), (193, 0), (193, 1000), (205, 0)], [((8, 2), ([([(0, -1)], 2147483647), ([(0, 1)], 2147483648), ([(1, -1)], 2147483647), ([(1, 1)], 2147483648), ([(2, -1)], 2147483647), ([(2, 1)], 2147483648), ([(3, -1)], 8000000), ([(3, 1)], 0), ([(4, -1)], 70), ([(4, 1)], 1), ([(5, 1)], 0), ([(6, 1)], 0), ([(7, -1)], 8000000), ([(5, -16), (6, 1)], 0), ([(3, 1), (6, -1), (7, -1)], 0)], [], [], [], [], [], [(1136, [], [([(7, 1)], 0)])]), some (0, ([(4, 1)], 0), 0), ([(5, 1)], 0), ([(6, 1)], 0))])
noncomputable def tL_63_0 : tc_Pl := de_pl 0x30ce4ff000402070100020000000000030ce4ff0003000000000000000207010007000002060100060000020501000500000204010004000002000100010000000200062e0001010000000000000238ff0002030101000000000000000470ff00000000000000000448ff00000000000000000440ff00000000000000000400ff000000000000000003f8ff060000020801000200010201020000020f000100000200000200d202a601a50003000107010502020300010701040202030101060104020203000106010502010380010702060101038a020501040101030102070106028001070105027e01060105027c01050204028001070104027e010601040200010702020201010402020200020801020200010602010200010502010201020801010201020201010201020801800108010102070180010701000206017e010601000205017e010501000204010e010401000203010000000000f42400ff0103010102020180010201000201017e0101010002000106010001000203010000000000f42400ff0103010000000100000000ff02020100000000fffffffeff0102010000000100000000ff02010100000000fffffffeff0101010000000100000000ff02000100000000fffffffeff0100012d0309
noncomputable def tJ_63 : List tc_Pl := [tL_63_0]
noncomputable def tC_63 : List tc_Ct := [tK_54, tK_62, tK_60, tK_58]
def tM_63 (z : Nat) : Option am_Meth := if z = 315 then some aM_315.1 else if z = 314 then some aM_314.1 else if z = 310 then some aM_310.1 else if z = 308 then some aM_308.1 else none
set_option maxRecDepth 100000 in
theorem tMs_63 (sa : Nat → Nat) : ∀ z mz, tM_63 z = some mz → am_meth (aP sa) z = some mz := by
  intro z mz h
  unfold tM_63 at h
  rcases de_m h with ⟨rfl, rfl⟩ | h
  · exact (show am_meth (aP sa) 315 = some aM_315.1 from rfl)
  rcases de_m h with ⟨rfl, rfl⟩ | h
  · exact (show am_meth (aP sa) 314 = some aM_314.1 from rfl)
  rcases de_m h with ⟨rfl, rfl⟩ | h
  · exact (show am_meth (aP sa) 310 = some aM_310.1 from rfl)
  rcases de_m h with ⟨rfl, rfl⟩ | h
  · exact (show am_meth (aP sa) 308 = some aM_308.1 from rfl)
  cases h
noncomputable def tV_63 : tc_Ev := (aQ, tp_T, tp_G.2, tp_Z, tM_63, tC_63, tp_L, tK_63.2.2.2.2.1, aM_313.1, aW_313, tK_63.2.1, tK_63.2.2.2.2.2, tJ_63)
theorem tE_63 : tK_63.2.2.2.2.2.all (tc_wex tK_63.2.1.1 tK_63.2.1.2) = true := by decide +kernel
theorem tSS_63 : tC_63.all (fun c => tw_mg tK_63.2.2.2.2.1 c.2.2.2.2.1) = true := by decide +kernel
theorem tHC_63 : ∀ c ∈ tC_63, c.2.2.2.2.1.all tK_63.2.2.2.2.1.contains = true ∧ c.2.2.2.2.2.all (tc_wex c.2.1.1 c.2.1.2) = true := tf_hc tSS_63 (by
  intro c hc
  have hc : c ∈ ([tK_54, tK_62, tK_60, tK_58] : List tc_Ct) := hc
  rcases List.mem_cons.mp hc with rfl | hc
  · exact tE_54
  rcases List.mem_cons.mp hc with rfl | hc
  · exact tE_62
  rcases List.mem_cons.mp hc with rfl | hc
  · exact tE_60
  rcases List.mem_cons.mp hc with rfl | hc
  · exact tE_58
  cases hc)
noncomputable def tH_63_0 : List tc_It := [de_it 0x4010000, de_it 0x101010101000101000000000000000000000000000000010a00020001010000020006, de_it 0x1010a010100000300000001, de_it 0x2010000, de_it 0x1000101060101000100010001000101070101010601010105010101040101010301010102010101010101010001010000000000000000000000000001000117000203010000000001000400010007, de_it 0x10000010b01010300000001, de_it 0x4010000, de_it 0x300000001, de_it 0x2010000, de_it 0x10001010601010001000100010001010701010106010101050101010b0101010301010102010101090101010801010000000000000000000000000001000117000203010000000001000400010007, de_it 0x4010000, de_it 0x2, de_it 0x2010000, de_it 0x4010011, de_it 0x10c010802010109010102000200010100010002, de_it 0x300000001, de_it 0x2010000, de_it 0x100010106010100010001000100010107010101060101010b010101040101010301010102010101090101010801010000000000000000000000000001000117000203010000000001000400010007, de_it 0x2010000, de_it 0x300000001, de_it 0x2010000, de_it 0x100010106010100010001000100010107010101060101010b0101011201110201010301010113010101090101010801010000000000000000000000000001000117000203010000000001000400010007, de_it 0x4010000, de_it 0x300000001, de_it 0x10010000, de_it 0x100010114010100010112011102010112011401110301011401010112011102010112011401110301000101120111020101120114011103010001010b01010112010100010113010101140112020101140101010b0112020101110101010b010101120111020101130101011201140111030100010001000100010107010101060101010b010101120111020101130101011201140111030101090101010801010107010101060101010b01010112011102010113010101120114011103010109010101080101000000000000000000000000000100013500020501000202010002010100000000050400020008, de_it 0x2010000, de_it 0x100010106010100010001000100010107010101060101010b0101011201110201010b011402010102010101090101010801010000000000000000000000000001000117000203010000000001000400010007]
set_option maxRecDepth 100000 in
theorem tR_63 : tf_go tV_63 tK_63.2.1.1 tK_63.2.1.2 none tH_63_0 [(tK_63.2.1, tK_63.2.2.2.1, 0, tc_args 0 tK_63.2.2.1, [], ([], 0), ([], 0))] = true := by decide +kernel
noncomputable def tH_63_1 : List tc_It := [de_it 0x4010000, de_it 0x300000001, de_it 0x4010000, de_it 0x40002000f, de_it 0x20602000f, de_it 0x602000f, de_it 0x8010011, de_it 0x6010010, de_it 0x132010101070101010601010134010101330101012e0101012f0101011101010110010100000000000000000000000000000001110002030100020a0100020901000204010408060002040006, de_it 0x8c8a868482807e7c7a6866645e5c5a58565452504e4c4a48464442403e3c3a38363432302e2a28262422201a18161412100e0c33000d, de_it 0x2010000, de_it 0x2, de_it 0x2, de_it 0x132010101310101012e0101012d0101012c0101012b01010108013002010101010101000101010701010106010101050101010401010103010101020101000000000000000000000000000100011700020e0100020d0100020c0100020b010400010007, de_it 0x4010000, de_it 0x300000001, de_it 0x4010000, de_it 0x40002000f, de_it 0x20602000f, de_it 0x602000f, de_it 0x8010011, de_it 0x6010010, de_it 0x133010101070101010601010135010101340101012f010101300101012e01010110010100000000000000000000000000000001110002030100020a0100020901000204010408060002040006, de_it 0x8e8c88868482807e7c6a6866605e5c5a58565452504e4c4a48464442403e3c3a38363432302c2a282624201a18161412100e0c33000d, de_it 0x2010000, de_it 0x2, de_it 0x2, de_it 0x132010101310101012e0101012d0101012c0101012f01240201010801300201010101010100010101230124012103010106010101050101010401010103010101020101000000000000000000000000000100011700020e0100020d0100020c0100020b010400010007, de_it 0x2010000, de_it 0x12d010101160101000000000000000000000000000000000a000207010104010006, de_it 0x686664625c5a58565452504e4c4a48464442403e3c3a38363432302c2a282624221a18161412100e0c29000d, de_it 0x6010000, de_it 0x300000001, de_it 0x6010000, de_it 0x2, de_it 0x4010000, de_it 0x1240101010801010200000001, de_it 0x2010000, de_it 0x1012a010100000300000001, de_it 0x4010000, de_it 0x2, de_it 0x2010000, de_it 0x8010011, de_it 0x12c01020201010301010200000002, de_it 0x4010000, de_it 0x1290226011a03010128011b02010126010101250101010a0101011a012601290301000000000000000000000000000000030e000209010002050102020a0006040006, de_it 0x6010011, de_it 0x13401240201010801010200000003, de_it 0x4010000, de_it 0x10136010100000300000001, de_it 0x2010000, de_it 0x129011a02010126010a02010200000001, de_it 0x6010000, de_it 0x10138010100000300000001, de_it 0x2010000, de_it 0x11c01270201012901010200000001, de_it 0x4010000, de_it 0x1013a010100000300000001, de_it 0x4010000, de_it 0x1270101012801010200000001, de_it 0x2010000, de_it 0x1240101010801010200000001, de_it 0x2010000, de_it 0x1220101012601210201012601200201011f0101011e01010126011d0201011c0101011b0101011a010101080129011a03010127012402010124011c01270301011601260201012101230201011401010126011302010129011f0201011101010110010101110129012601130401010e0101012801010127010101290101011c012702010126010a02010129011a020101080101012401010101010101000101011601230201010601010129012601130301010401010103010101020101010101010100010101160123020101060101012901260113030101040101010301010102010100000000012301020201012601010000000100010001350002080100010902070200010902060200020902050202020401050400020008, de_it 0x8010000, de_it 0x2, de_it 0x4010000, de_it 0x1240101010801010200000001, de_it 0x2010000, de_it 0x10000012b01010300000001, de_it 0x4010000, de_it 0x2, de_it 0x2010000, de_it 0x8010011, de_it 0x12b01020201010301010200000002, de_it 0x4010000, de_it 0x128011b02010126010a02010200000001, de_it 0x4010000, de_it 0x1270101012801010200000001, de_it 0x11b02280201011b010101280101012701010126010a02010128011b0201000000000000000000000000000000030e00010902070200020902050202020a0006040006, de_it 0x2010000, de_it 0x6010011, de_it 0x13301240201010801010200000003, de_it 0x4010000, de_it 0x10000013601010300000001, de_it 0x4010000, de_it 0x1230132021e021202290503010a01010200000001, de_it 0x6010000, de_it 0x10000013701010300000001, de_it 0x4010000, de_it 0x2290132011e010a01130502010c01010200000001, de_it 0x4010000, de_it 0x10000013801010300000001, de_it 0x6010000, de_it 0x1240101010801010200000001, de_it 0x2010000, de_it 0x122012802010128012102010128012101290301011f01010128011e0201011e010a0128012401290501012901010132011b020201320229011b0302011901010128011802010128012901180301012801160201012301210201011401010113010101120101011101010110010101290128010c011601140501010e01010126010101250101010c010102290132011e010a01130502010a010101230132021e021202290503010801010124010101010101010001010123011602010106010101050101011e012801290301010301010102010101010101010001010123011602010106010101050101011e012801290301010301010102010100000000012301020201012801010000000100010001350002080100020901000206010002050102020401050400020008]
set_option maxRecDepth 100000 in
theorem tP_63_0 : tf_plk tV_63 tL_63_0 tH_63_1 = true := by decide +kernel
set_option maxRecDepth 100000 in
theorem tT_63 {RO : am_O} {sa : Nat → Nat} (h_54 : tc_true (aP sa) tp_G RO tp_T tp_Z tK_54) (h_58 : tc_true (aP sa) tp_G RO tp_T tp_Z tK_58) (h_60 : tc_true (aP sa) tp_G RO tp_T tp_Z tK_60) (h_62 : tc_true (aP sa) tp_G RO tp_T tp_Z tK_62) : tc_true (aP sa) tp_G RO tp_T tp_Z tK_63 := by
  have hC : ∀ c ∈ tC_63, tc_true (aP sa) tp_G RO tp_T tp_Z c := by
    intro c hc
    have hc : c ∈ ([tK_54, tK_62, tK_60, tK_58] : List tc_Ct) := hc
    rcases List.mem_cons.mp hc with rfl | hc
    · exact h_54
    rcases List.mem_cons.mp hc with rfl | hc
    · exact h_62
    rcases List.mem_cons.mp hc with rfl | hc
    · exact h_60
    rcases List.mem_cons.mp hc with rfl | hc
    · exact h_58
    cases hc
  have hP : ∀ p ∈ tJ_63, ∃ hs, tc_plk (aP sa, tV_63.2) p hs = true := by
    intro p hp
    have hp : p ∈ ([tL_63_0] : List tc_Pl) := hp
    rcases List.mem_cons.mp hp with rfl | hp
    · exact ⟨_, (tc_plk_sa (aP_sa sa _)).trans ((tf_plk_s tHC_63).trans tP_63_0)⟩
    cases hp
  exact tc_main (mt := aM_313.1) (hs := tH_63_0) (PL := tJ_63) ⟨tp_G_ok, tMs_63 _, hC, tp_L_ok, tp_G_re⟩ (show am_meth (aP sa) 313 = some aM_313.1 from rfl) aX_313 (by decide +kernel) hP ((tc_go_sa (aP_sa sa _)).trans ((tf_go_s tHC_63).trans tR_63))
